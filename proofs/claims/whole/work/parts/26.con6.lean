set_option maxHeartbeats 4000000 in
set_option maxRecDepth 100000 in
theorem c_X11_errorPosition (l : Launch) (G : gG) (hM : 402 ≤ gN G) (S : Sg) (r : Int32) (S' : Sg) (hf : f_X11_errorPosition S = some (r, S')) : Ct l yX11_errorPosition [Cond.code yX11_errorPosition cX11_errorPosition 1 (some .int)] (gR 4 97) G [.ref (G.2.1 392)] S (some (.int r)) S' := by
  refine Ct_of (by decide) (Nat.le_of_ble_eq_true rfl) ?_
  intro p e s m below meth c ls cx hr hlk hw hS hl
  have hN := cx.2.2.2.2.hN
  have hl : lv_has ls 1 [(0, .ref (G.2.1 392))] := hl
  unfold f_X11_errorPosition at hf
  refine lv_aload_n cx.1 cx.2.1 dX11_errorPosition_0 rfl (lv_at hl 0 rfl) ?_
  refine lv_iconst (v := (0 : Int32)) cx.1 cx.2.1 dX11_errorPosition_1 (by decide) ?_
  obtain ⟨S_1, eS_1, hf⟩ := gst_ex hf
  refine g_put (C := RX11) (T := TX11) (N := 16) cx hw hS inlX11 tyX11 tyX11_ok nmX11 392 (by omega) he_c392 rfl 0 (by decide) gw_204 rfl rfl (by decide +kernel) (Nat.le_of_ble_eq_true rfl) (by rw [u2_s, he_c392]; rfl) dX11_errorPosition_2 (fun H locs hw hS => ?_)
  rw [eS_1] at hw
  refine lv_aload_n cx.1 cx.2.1 dX11_errorPosition_5 rfl (lv_at hl 0 rfl) ?_
  obtain ⟨v_3, S_2, hv, hf⟩ := gbi_some hf
  refine g_V (As := []) (rest := []) cx hw hS (c_X11_readAll l G hM S_1 v_3 S_2 hv) (by omega) he_c392 rfl rfl gw_276 gy_X11_readAll gi_X11_readAll ⟨Nat.le_of_ble_eq_true rfl, Nat.le_of_ble_eq_true rfl⟩ ⟨Nat.zero_le _, Nat.zero_le _⟩ rfl hl.1 rfl (Nat.le_of_ble_eq_true rfl) dX11_errorPosition_6 (fun H locs hw hS => ?_)
  refine W.eq (g2 := F0 m 9 ls [.int v_3]) rfl ?_
  refine lv_if_eq (tgt := 17) cx.1 cx.2.1 dX11_errorPosition_9 (by decide) (fun hc => ?_) (fun hc => ?_)
  · rw [if_pos hc] at hf
    refine lv_aload_n cx.1 cx.2.1 dX11_errorPosition_17 rfl (lv_at hl 0 rfl) ?_
    refine g_get (C := RX11) (T := TX11) (N := 16) (v := .int (S_2 392 3)) cx hw inlX11 392 (by omega) he_c392 rfl 3 (by decide) gw_275 rfl rfl dX11_errorPosition_18 ?_
    exact g_ireti cx hr hlk hw hS hf dX11_errorPosition_21
  · rw [if_neg hc] at hf
    refine lv_bipush (v := (-9 : Int32)) cx.1 cx.2.1 dX11_errorPosition_12 (by decide) ?_
    refine lv_goto (tgt := 21) cx.1 cx.2.1 dX11_errorPosition_14 (by decide) ?_
    exact g_ireti cx hr hlk hw hS hf dX11_errorPosition_21
set_option maxHeartbeats 4000000 in
set_option maxRecDepth 100000 in
theorem c_X11_isCity (l : Launch) (G : gG) (hM : 402 ≤ gN G) (a1 : Int32) (S : Sg) (r : Int32) (S' : Sg) (hf : f_X11_isCity a1 S = some (r, S')) : Ct l yX11_isCity [Cond.code yX11_isCity cX11_isCity 2 (some .boolean)] (gR 1 25) G [.ref (G.2.1 392), .int a1] S (some (.int r)) S' := by
  refine Ct_of (by decide) (Nat.le_of_ble_eq_true rfl) ?_
  intro p e s m below meth c ls cx hr hlk hw hS hl
  have hN := cx.2.2.2.2.hN
  have hl : lv_has ls 2 [(0, .ref (G.2.1 392)), (1, .int a1)] := hl
  unfold f_X11_isCity at hf
  refine lv_iload_n cx.1 cx.2.1 dX11_isCity_0 rfl (lv_at hl 1 rfl) ?_
  refine lv_i2l cx.1 cx.2.1 dX11_isCity_1 rfl ?_
  refine lv_lconst (v := (0 : Int64)) cx.1 cx.2.1 dX11_isCity_2 (by decide) ?_
  refine lv_aload_n cx.1 cx.2.1 dX11_isCity_3 rfl (lv_at hl 0 rfl) ?_
  refine g_get (C := RX11) (T := TX11) (N := 16) (v := .ref (G.2.1 395)) cx hw inlX11 392 (by omega) he_c392 rfl 5 (by decide) gw_144 rfl rfl dX11_isCity_4 ?_
  refine lv_iconst (v := (0 : Int32)) cx.1 cx.2.1 dX11_isCity_7 (by decide) ?_
  obtain ⟨hin, hf⟩ := gck_some hf
  refine g_iald cx hw (ia_c395 hM) (vp_of_inb hin) dX11_isCity_8 ?_
  refine lv_iconst (v := (1 : Int32)) cx.1 cx.2.1 dX11_isCity_9 (by decide) ?_
  refine lv_isub cx.1 cx.2.1 dX11_isCity_10 ?_
  refine lv_i2l cx.1 cx.2.1 dX11_isCity_11 rfl ?_
  obtain ⟨v_2, S_1, hv, hf⟩ := gbi_some hf
  refine g_S (As := [.long a1.toInt64, .long (0 : Int64), .long (((S 395 (0 : Int32).toNatClampNeg) - (1 : Int32)).toInt64)]) (rest := []) cx hw hS (c_X11_in l G hM a1.toInt64 (0 : Int64) (((S 395 (0 : Int32).toNatClampNeg) - (1 : Int32)).toInt64) S v_2 S_1 hv) gw_197 gy_X11_in gi_X11_in ⟨Nat.le_of_ble_eq_true rfl, Nat.le_of_ble_eq_true rfl⟩ ⟨Nat.zero_le _, Nat.zero_le _⟩ rfl hl.1 rfl (Nat.le_of_ble_eq_true rfl) dX11_isCity_12 (fun H locs hw hS => ?_)
  refine W.eq (g2 := F0 m 15 ls [.int v_2]) rfl ?_
  obtain ⟨hbo, hf⟩ := gck_some hf
  exact g_zreti cx hr hlk hw hS hbo hf dX11_isCity_15
set_option maxHeartbeats 4000000 in
set_option maxRecDepth 100000 in
theorem c_X11_levelFor (l : Launch) (G : gG) (hM : 402 ≤ gN G) (a1 : Int32) (a2 : Int32) (S : Sg) (r : Int32) (S' : Sg) (hf : f_X11_levelFor a1 a2 S = some (r, S')) : Ct l yX11_levelFor [Cond.code yX11_levelFor cX11_levelFor 4 (some .int)] (gR 5 128) G [.ref (G.2.1 392), .int a1, .int a2] S (some (.int r)) S' := by
  refine Ct_of (by decide) (Nat.le_of_ble_eq_true rfl) ?_
  intro p e s m below meth c ls cx hr hlk hw hS hl
  have hN := cx.2.2.2.2.hN
  have hL_34 : ∀ (n : Nat), ∀ (S : Sg) (x1 : Int32) (x2 : Int32) (x3 : Int32) (H : Heap) (locs : List Loc) (ls : Array Slot), gP G S H → va_S (gA G s.heap.size) s.heap H locs → lv_has ls 4 [(0, .ref (G.2.1 392)), (1, .int x1), (2, .int x2), (3, .int x3)] → L_X11_levelFor_34 n S x1 x2 x3 = some (r, S') → W p l e (gR 5 128) s m ([.ref (G.2.1 392), .int a1, .int a2] : List Value).toArray below meth c H locs 0 0 (MQ below (gQ G S' (some (.int r)) (gA G s.heap.size)) ([.ref (G.2.1 392), .int a1, .int a2] : List Value).toArray s 0 0 (gA G s.heap.size)) (F0 m 34 ls []) := by
    intro n
    induction n with
    | zero => intro S x1 x2 x3 H locs ls hw hS hl hf; cases hf
    | succ n hK34 =>
      intro S x1 x2 x3 H locs ls hw hS hl hf
      have hf : Lb_X11_levelFor_34 (L_X11_levelFor_34 n) S x1 x2 x3 = some (r, S') := hf
      unfold Lb_X11_levelFor_34 at hf
      refine lv_iload_n cx.1 cx.2.1 dX11_levelFor_34 rfl (lv_at hl 3 rfl) ?_
      refine lv_bipush (v := (6 : Int32)) cx.1 cx.2.1 dX11_levelFor_35 (by decide) ?_
      refine lv_icmp_gt (tgt := 83) cx.1 cx.2.1 dX11_levelFor_37 (by decide) (fun hc => ?_) (fun hc => ?_)
      · rw [if_pos hc] at hf
        refine lv_bipush (v := (-9 : Int32)) cx.1 cx.2.1 dX11_levelFor_83 (by decide) ?_
        exact g_ireti cx hr hlk hw hS hf dX11_levelFor_85
      · rw [if_neg hc] at hf
        refine lv_aload_n cx.1 cx.2.1 dX11_levelFor_40 rfl (lv_at hl 0 rfl) ?_
        refine lv_aload_n cx.1 cx.2.1 dX11_levelFor_41 rfl (lv_at hl 0 rfl) ?_
        refine g_get (C := RX11) (T := TX11) (N := 16) (v := .ref (G.2.1 395)) cx hw inlX11 392 (by omega) he_c392 rfl 5 (by decide) gw_144 rfl rfl dX11_levelFor_42 ?_
        refine lv_iload_n cx.1 cx.2.1 dX11_levelFor_45 rfl (lv_at hl 1 rfl) ?_
        refine lv_aload_n cx.1 cx.2.1 dX11_levelFor_46 rfl (lv_at hl 0 rfl) ?_
        refine g_get (C := RX11) (T := TX11) (N := 16) (v := .ref (G.2.1 395)) cx hw inlX11 392 (by omega) he_c392 rfl 5 (by decide) gw_144 rfl rfl dX11_levelFor_47 ?_
        refine lv_iload_n cx.1 cx.2.1 dX11_levelFor_50 rfl (lv_at hl 2 rfl) ?_
        obtain ⟨v_2, S_1, hv, hf⟩ := gbi_some hf
        refine g_S (As := [.int x2]) (rest := [.ref (G.2.1 395), .int x1, .ref (G.2.1 395), .ref (G.2.1 392)]) cx hw hS (c_X11_contractAt l G hM x2 S v_2 S_1 hv) gw_299 gy_X11_contractAt gi_X11_contractAt ⟨Nat.le_of_ble_eq_true rfl, Nat.le_of_ble_eq_true rfl⟩ ⟨Nat.zero_le _, Nat.zero_le _⟩ rfl hl.1 rfl (Nat.le_of_ble_eq_true rfl) dX11_levelFor_51 (fun H locs hw hS => ?_)
        refine W.eq (g2 := F0 m 54 ls [.int v_2, .ref (G.2.1 395), .int x1, .ref (G.2.1 395), .ref (G.2.1 392)]) rfl ?_
        obtain ⟨hin, hf⟩ := gck_some hf
        refine g_iald cx hw (ia_c395 hM) (vp_of_inb hin) dX11_levelFor_54 ?_
        refine lv_aload_n cx.1 cx.2.1 dX11_levelFor_55 rfl (lv_at hl 0 rfl) ?_
        refine g_get (C := RX11) (T := TX11) (N := 16) (v := .ref (G.2.1 395)) cx hw inlX11 392 (by omega) he_c392 rfl 5 (by decide) gw_144 rfl rfl dX11_levelFor_56 ?_
        refine lv_iload_n cx.1 cx.2.1 dX11_levelFor_59 rfl (lv_at hl 2 rfl) ?_
        obtain ⟨v_4, S_3, hv, hf⟩ := gbi_some hf
        refine g_S (As := [.int x2]) (rest := [.ref (G.2.1 395), .int (S_1 395 v_2.toNatClampNeg), .int x1, .ref (G.2.1 395), .ref (G.2.1 392)]) cx hw hS (c_X11_contractAt l G hM x2 S_1 v_4 S_3 hv) gw_299 gy_X11_contractAt gi_X11_contractAt ⟨Nat.le_of_ble_eq_true rfl, Nat.le_of_ble_eq_true rfl⟩ ⟨Nat.zero_le _, Nat.zero_le _⟩ rfl hl.1 rfl (Nat.le_of_ble_eq_true rfl) dX11_levelFor_60 (fun H locs hw hS => ?_)
        refine W.eq (g2 := F0 m 63 ls [.int v_4, .ref (G.2.1 395), .int (S_1 395 v_2.toNatClampNeg), .int x1, .ref (G.2.1 395), .ref (G.2.1 392)]) rfl ?_
        refine lv_iconst (v := (1 : Int32)) cx.1 cx.2.1 dX11_levelFor_63 (by decide) ?_
        refine lv_iadd cx.1 cx.2.1 dX11_levelFor_64 ?_
        obtain ⟨hin, hf⟩ := gck_some hf
        refine g_iald cx hw (ia_c395 hM) (vp_of_inb hin) dX11_levelFor_65 ?_
        refine lv_iconst (v := (4 : Int32)) cx.1 cx.2.1 dX11_levelFor_66 (by decide) ?_
        refine lv_iload_n cx.1 cx.2.1 dX11_levelFor_67 rfl (lv_at hl 3 rfl) ?_
        refine lv_imul cx.1 cx.2.1 dX11_levelFor_68 ?_
        obtain ⟨v_6, S_5, hv, hf⟩ := gbi_some hf
        refine g_V (As := [.ref (G.2.1 395), .int x1, .int (S_1 395 v_2.toNatClampNeg), .int (S_3 395 (v_4 + (1 : Int32)).toNatClampNeg), .int ((4 : Int32) * x3)]) (rest := []) cx hw hS (c_X11_findWay l G hM (ia_c395 hM) x1 (S_1 395 v_2.toNatClampNeg) (S_3 395 (v_4 + (1 : Int32)).toNatClampNeg) ((4 : Int32) * x3) S_3 v_6 S_5 hv) (by omega) he_c392 rfl rfl gw_795 gy_X11_findWay gi_X11_findWay ⟨Nat.le_of_ble_eq_true rfl, Nat.le_of_ble_eq_true rfl⟩ ⟨Nat.zero_le _, Nat.zero_le _⟩ rfl hl.1 rfl (Nat.le_of_ble_eq_true rfl) dX11_levelFor_69 (fun H locs hw hS => ?_)
        refine W.eq (g2 := F0 m 72 ls [.int v_6]) rfl ?_
        refine lv_if_eq (tgt := 77) cx.1 cx.2.1 dX11_levelFor_72 (by decide) (fun hc => ?_) (fun hc => ?_)
        · rw [if_pos hc] at hf
          obtain ⟨x3_7, ex3_7, hf⟩ := gvi_ex hf
          refine lv_iinc (v := x3_7) (lv' := [(3, .int x3_7), (0, .ref (G.2.1 392)), (1, .int x1), (2, .int x2)]) cx.1 cx.2.1 dX11_levelFor_77 hl (k := 3) rfl (by rw [← ex3_7]; rfl) (by decide) rfl (fun ls hl => ?_)
          refine lv_goto (tgt := 34) cx.1 cx.2.1 dX11_levelFor_80 (by decide) ?_
          exact hK34 S_5 x1 x2 x3_7 _ _ _ hw hS (lv_sub hl [1, 2, 3, 0] rfl) hf
        · rw [if_neg hc] at hf
          refine lv_iload_n cx.1 cx.2.1 dX11_levelFor_75 rfl (lv_at hl 3 rfl) ?_
          exact g_ireti cx hr hlk hw hS hf dX11_levelFor_76
  have hB_24 : ∀ (S : Sg) (x1 : Int32) (x2 : Int32) (t0 : Int32) (H : Heap) (locs : List Loc) (ls : Array Slot), gP G S H → va_S (gA G s.heap.size) s.heap H locs → lv_has ls 4 [(0, .ref (G.2.1 392)), (1, .int x1), (2, .int x2)] → B_X11_levelFor_24 S x1 x2 t0 = some (r, S') → W p l e (gR 5 128) s m ([.ref (G.2.1 392), .int a1, .int a2] : List Value).toArray below meth c H locs 0 0 (MQ below (gQ G S' (some (.int r)) (gA G s.heap.size)) ([.ref (G.2.1 392), .int a1, .int a2] : List Value).toArray s 0 0 (gA G s.heap.size)) (F0 m 24 ls [.int t0, .ref (G.2.1 392)]) := by
    intro S x1 x2 t0 H locs ls hw hS hl hf
    unfold B_X11_levelFor_24 at hf
    obtain ⟨v_9, S_8, hv, hf⟩ := gbi_some hf
    refine g_V (As := [.int t0]) (rest := []) cx hw hS (c_X11_refused l G hM t0 S v_9 S_8 hv) (by omega) he_c392 rfl rfl gw_200 gy_X11_refused gi_X11_refused ⟨Nat.le_of_ble_eq_true rfl, Nat.le_of_ble_eq_true rfl⟩ ⟨Nat.zero_le _, Nat.zero_le _⟩ rfl hl.1 rfl (Nat.le_of_ble_eq_true rfl) dX11_levelFor_24 (fun H locs hw hS => ?_)
    refine W.eq (g2 := F0 m 27 ls [.int v_9]) rfl ?_
    refine lv_if_eq (tgt := 32) cx.1 cx.2.1 dX11_levelFor_27 (by decide) (fun hc => ?_) (fun hc => ?_)
    · rw [if_pos hc] at hf
      refine lv_iconst (v := (1 : Int32)) cx.1 cx.2.1 dX11_levelFor_32 (by decide) ?_
      refine lv_istore_n (lv' := [(3, .int (1 : Int32)), (0, .ref (G.2.1 392)), (1, .int x1), (2, .int x2)]) cx.1 cx.2.1 dX11_levelFor_33 rfl hl (by decide) rfl (fun ls hl => ?_)
      exact hL_34 gFu S_8 x1 x2 (1 : Int32) _ _ _ hw hS (lv_sub hl [1, 2, 3, 0] rfl) hf
    · rw [if_neg hc] at hf
      refine lv_iconst (v := (0 : Int32)) cx.1 cx.2.1 dX11_levelFor_30 (by decide) ?_
      exact g_ireti cx hr hlk hw hS hf dX11_levelFor_31
  have hl : lv_has ls 4 [(0, .ref (G.2.1 392)), (1, .int a1), (2, .int a2)] := hl
  unfold f_X11_levelFor at hf
  refine lv_aload_n cx.1 cx.2.1 dX11_levelFor_0 rfl (lv_at hl 0 rfl) ?_
  refine lv_iload_n cx.1 cx.2.1 dX11_levelFor_1 rfl (lv_at hl 1 rfl) ?_
  obtain ⟨v_11, S_10, hv, hf⟩ := gbi_some hf
  refine g_S (As := [.int a1]) (rest := [.ref (G.2.1 392)]) cx hw hS (c_X11_isCompany l G hM a1 S v_11 S_10 hv) gw_446 gy_X11_isCompany gi_X11_isCompany ⟨Nat.le_of_ble_eq_true rfl, Nat.le_of_ble_eq_true rfl⟩ ⟨Nat.zero_le _, Nat.zero_le _⟩ rfl hl.1 rfl (Nat.le_of_ble_eq_true rfl) dX11_levelFor_2 (fun H locs hw hS => ?_)
  refine W.eq (g2 := F0 m 5 ls [.int v_11, .ref (G.2.1 392)]) rfl ?_
  refine lv_if_eq (tgt := 23) cx.1 cx.2.1 dX11_levelFor_5 (by decide) (fun hc => ?_) (fun hc => ?_)
  · rw [if_pos hc] at hf
    refine lv_iconst (v := (1 : Int32)) cx.1 cx.2.1 dX11_levelFor_23 (by decide) ?_
    exact hB_24 S_10 a1 a2 (1 : Int32) _ _ _ hw hS (lv_sub hl [0, 1, 2] rfl) hf
  · rw [if_neg hc] at hf
    refine lv_aload_n cx.1 cx.2.1 dX11_levelFor_8 rfl (lv_at hl 0 rfl) ?_
    refine g_get (C := RX11) (T := TX11) (N := 16) (v := .ref (G.2.1 395)) cx hw inlX11 392 (by omega) he_c392 rfl 5 (by decide) gw_144 rfl rfl dX11_levelFor_9 ?_
    refine lv_iload_n cx.1 cx.2.1 dX11_levelFor_12 rfl (lv_at hl 2 rfl) ?_
    obtain ⟨v_13, S_12, hv, hf⟩ := gbi_some hf
    refine g_S (As := [.ref (G.2.1 395), .int a2]) (rest := [.ref (G.2.1 392)]) cx hw hS (c_X11_isContract l G hM (ia_c395 hM) a2 S_10 v_13 S_12 hv) gw_521 gy_X11_isContract gi_X11_isContract ⟨Nat.le_of_ble_eq_true rfl, Nat.le_of_ble_eq_true rfl⟩ ⟨Nat.zero_le _, Nat.zero_le _⟩ rfl hl.1 rfl (Nat.le_of_ble_eq_true rfl) dX11_levelFor_13 (fun H locs hw hS => ?_)
    refine W.eq (g2 := F0 m 16 ls [.int v_13, .ref (G.2.1 392)]) rfl ?_
    refine lv_if_eq (tgt := 23) cx.1 cx.2.1 dX11_levelFor_16 (by decide) (fun hc => ?_) (fun hc => ?_)
    · rw [if_pos hc] at hf
      refine lv_iconst (v := (1 : Int32)) cx.1 cx.2.1 dX11_levelFor_23 (by decide) ?_
      exact hB_24 S_12 a1 a2 (1 : Int32) _ _ _ hw hS (lv_sub hl [0, 1, 2] rfl) hf
    · rw [if_neg hc] at hf
      refine lv_iconst (v := (0 : Int32)) cx.1 cx.2.1 dX11_levelFor_19 (by decide) ?_
      refine lv_goto (tgt := 24) cx.1 cx.2.1 dX11_levelFor_20 (by decide) ?_
      exact hB_24 S_12 a1 a2 (0 : Int32) _ _ _ hw hS (lv_sub hl [0, 1, 2] rfl) hf
set_option maxHeartbeats 4000000 in
set_option maxRecDepth 100000 in
theorem c_X11_load (l : Launch) (G : gG) (hM : 402 ≤ gN G) (S : Sg) (r : Int32) (S' : Sg) (hf : f_X11_load S = some (r, S')) : Ct l yX11_load [Cond.code yX11_load cX11_load 1 (some .int)] (gR 4 97) G [.ref (G.2.1 392)] S (some (.int r)) S' := by
  refine Ct_of (by decide) (Nat.le_of_ble_eq_true rfl) ?_
  intro p e s m below meth c ls cx hr hlk hw hS hl
  have hN := cx.2.2.2.2.hN
  have hB_13 : ∀ (S : Sg) (t0 : Int32) (H : Heap) (locs : List Loc) (ls : Array Slot), gP G S H → va_S (gA G s.heap.size) s.heap H locs → lv_has ls 1 [(0, .ref (G.2.1 392))] → B_X11_load_13 S t0 = some (r, S') → W p l e (gR 4 97) s m ([.ref (G.2.1 392)] : List Value).toArray below meth c H locs 0 0 (MQ below (gQ G S' (some (.int r)) (gA G s.heap.size)) ([.ref (G.2.1 392)] : List Value).toArray s 0 0 (gA G s.heap.size)) (F0 m 13 ls [.int t0, .ref (G.2.1 392)]) := by
    intro S t0 H locs ls hw hS hl hf
    unfold B_X11_load_13 at hf
    obtain ⟨v_2, S_1, hv, hf⟩ := gbi_some hf
    refine g_V (As := [.int t0]) (rest := []) cx hw hS (c_X11_refused l G hM t0 S v_2 S_1 hv) (by omega) he_c392 rfl rfl gw_200 gy_X11_refused gi_X11_refused ⟨Nat.le_of_ble_eq_true rfl, Nat.le_of_ble_eq_true rfl⟩ ⟨Nat.zero_le _, Nat.zero_le _⟩ rfl hl.1 rfl (Nat.le_of_ble_eq_true rfl) dX11_load_13 (fun H locs hw hS => ?_)
    refine W.eq (g2 := F0 m 16 ls [.int v_2]) rfl ?_
    refine lv_if_eq (tgt := 21) cx.1 cx.2.1 dX11_load_16 (by decide) (fun hc => ?_) (fun hc => ?_)
    · rw [if_pos hc] at hf
      refine lv_aload_n cx.1 cx.2.1 dX11_load_21 rfl (lv_at hl 0 rfl) ?_
      refine g_get (C := RX11) (T := TX11) (N := 16) (v := .ref (G.2.1 394)) cx hw inlX11 392 (by omega) he_c392 rfl 4 (by decide) gw_143 rfl rfl dX11_load_22 ?_
      refine lv_iconst (v := (0 : Int32)) cx.1 cx.2.1 dX11_load_25 (by decide) ?_
      refine lv_aload_n cx.1 cx.2.1 dX11_load_26 rfl (lv_at hl 0 rfl) ?_
      refine g_get (C := RX11) (T := TX11) (N := 16) (v := .ref (G.2.1 395)) cx hw inlX11 392 (by omega) he_c392 rfl 5 (by decide) gw_144 rfl rfl dX11_load_27 ?_
      refine lv_iconst (v := (0 : Int32)) cx.1 cx.2.1 dX11_load_30 (by decide) ?_
      obtain ⟨S_3, hv, hf⟩ := gbv_some hf
      refine g_S (As := [.ref (G.2.1 394), .int (0 : Int32), .ref (G.2.1 395), .int (0 : Int32)]) (rest := []) cx hw hS (c_X11_copyPage l G hM (ia_c394 hM) (ia_c395 hM) (0 : Int32) (0 : Int32) S_1 S_3 hv) gw_350 gy_X11_copyPage gi_X11_copyPage ⟨Nat.le_of_ble_eq_true rfl, Nat.le_of_ble_eq_true rfl⟩ ⟨Nat.zero_le _, Nat.zero_le _⟩ rfl hl.1 rfl (Nat.le_of_ble_eq_true rfl) dX11_load_31 (fun H locs hw hS => ?_)
      refine W.eq (g2 := F0 m 34 ls []) rfl ?_
      refine lv_aload_n cx.1 cx.2.1 dX11_load_34 rfl (lv_at hl 0 rfl) ?_
      refine lv_iconst (v := (0 : Int32)) cx.1 cx.2.1 dX11_load_35 (by decide) ?_
      obtain ⟨S_4, eS_4, hf⟩ := gst_ex hf
      refine g_put (C := RX11) (T := TX11) (N := 16) cx hw hS inlX11 tyX11 tyX11_ok nmX11 392 (by omega) he_c392 rfl 8 (by decide) gw_349 rfl rfl (by decide +kernel) (Nat.le_of_ble_eq_true rfl) (by rw [u2_s, he_c392]; rfl) dX11_load_36 (fun H locs hw hS => ?_)
      rw [eS_4] at hw
      refine lv_aload_n cx.1 cx.2.1 dX11_load_39 rfl (lv_at hl 0 rfl) ?_
      refine g_get (C := RX11) (T := TX11) (N := 16) (v := .ref (G.2.1 399)) cx hw inlX11 392 (by omega) he_c392 rfl 10 (by decide) gw_149 rfl rfl dX11_load_40 ?_
      refine lv_iconst (v := (0 : Int32)) cx.1 cx.2.1 dX11_load_43 (by decide) ?_
      refine lv_iconst (v := (0 : Int32)) cx.1 cx.2.1 dX11_load_44 (by decide) ?_
      obtain ⟨hin, hf⟩ := gck_some hf
      obtain ⟨S_5, eS_5, hf⟩ := gst_ex hf
      refine g_zast (n := 2) cx hw hS (by omega) hM (fun _ => rfl) (by decide) (vp_of_inb hin) dX11_load_45 (fun H locs hw hS => ?_)
      rw [eS_5] at hw
      refine lv_aload_n cx.1 cx.2.1 dX11_load_46 rfl (lv_at hl 0 rfl) ?_
      refine g_get (C := RX11) (T := TX11) (N := 16) (v := .ref (G.2.1 399)) cx hw inlX11 392 (by omega) he_c392 rfl 10 (by decide) gw_149 rfl rfl dX11_load_47 ?_
      refine lv_iconst (v := (1 : Int32)) cx.1 cx.2.1 dX11_load_50 (by decide) ?_
      refine lv_iconst (v := (0 : Int32)) cx.1 cx.2.1 dX11_load_51 (by decide) ?_
      obtain ⟨hin, hf⟩ := gck_some hf
      obtain ⟨S_6, eS_6, hf⟩ := gst_ex hf
      refine g_zast (n := 2) cx hw hS (by omega) hM (fun _ => rfl) (by decide) (vp_of_inb hin) dX11_load_52 (fun H locs hw hS => ?_)
      rw [eS_6] at hw
      refine lv_aload_n cx.1 cx.2.1 dX11_load_53 rfl (lv_at hl 0 rfl) ?_
      refine g_get (C := RX11) (T := TX11) (N := 16) (v := .ref (G.2.1 395)) cx hw inlX11 392 (by omega) he_c392 rfl 5 (by decide) gw_144 rfl rfl dX11_load_54 ?_
      refine lv_iconst (v := (1 : Int32)) cx.1 cx.2.1 dX11_load_57 (by decide) ?_
      obtain ⟨hin, hf⟩ := gck_some hf
      refine g_iald cx hw (ia_c395 hM) (vp_of_inb hin) dX11_load_58 ?_
      exact g_ireti cx hr hlk hw hS hf dX11_load_59
    · rw [if_neg hc] at hf
      refine lv_iconst (v := (0 : Int32)) cx.1 cx.2.1 dX11_load_19 (by decide) ?_
      exact g_ireti cx hr hlk hw hS hf dX11_load_20
  have hl : lv_has ls 1 [(0, .ref (G.2.1 392))] := hl
  unfold f_X11_load at hf
  refine lv_aload_n cx.1 cx.2.1 dX11_load_0 rfl (lv_at hl 0 rfl) ?_
  refine lv_aload_n cx.1 cx.2.1 dX11_load_1 rfl (lv_at hl 0 rfl) ?_
  obtain ⟨v_8, S_7, hv, hf⟩ := gbi_some hf
  refine g_V (As := []) (rest := [.ref (G.2.1 392)]) cx hw hS (c_X11_readAll l G hM S v_8 S_7 hv) (by omega) he_c392 rfl rfl gw_276 gy_X11_readAll gi_X11_readAll ⟨Nat.le_of_ble_eq_true rfl, Nat.le_of_ble_eq_true rfl⟩ ⟨Nat.zero_le _, Nat.zero_le _⟩ rfl hl.1 rfl (Nat.le_of_ble_eq_true rfl) dX11_load_2 (fun H locs hw hS => ?_)
  refine W.eq (g2 := F0 m 5 ls [.int v_8, .ref (G.2.1 392)]) rfl ?_
  refine lv_if_eq (tgt := 12) cx.1 cx.2.1 dX11_load_5 (by decide) (fun hc => ?_) (fun hc => ?_)
  · rw [if_pos hc] at hf
    refine lv_iconst (v := (1 : Int32)) cx.1 cx.2.1 dX11_load_12 (by decide) ?_
    exact hB_13 S_7 (1 : Int32) _ _ _ hw hS (lv_sub hl [0] rfl) hf
  · rw [if_neg hc] at hf
    refine lv_iconst (v := (0 : Int32)) cx.1 cx.2.1 dX11_load_8 (by decide) ?_
    refine lv_goto (tgt := 13) cx.1 cx.2.1 dX11_load_9 (by decide) ?_
    exact hB_13 S_7 (0 : Int32) _ _ _ hw hS (lv_sub hl [0] rfl) hf
set_option maxHeartbeats 4000000 in
set_option maxRecDepth 100000 in
theorem c_X11_offer (l : Launch) (G : gG) (hM : 402 ≤ gN G) (a1 : Int32) (a2 : Int32) (a3 : Int32) (a4 : Int32) (S : Sg) (r : Int32) (S' : Sg) (hf : f_X11_offer a1 a2 a3 a4 S = some (r, S')) : Ct l yX11_offer [Cond.code yX11_offer cX11_offer 6 (some .int)] (gR 2 46) G [.ref (G.2.1 392), .int a1, .int a2, .int a3, .int a4] S (some (.int r)) S' := by
  refine Ct_of (by decide) (Nat.le_of_ble_eq_true rfl) ?_
  intro p e s m below meth c ls cx hr hlk hw hS hl
  have hN := cx.2.2.2.2.hN
  have hB_83 : ∀ (S : Sg) (x1 : Int32) (x2 : Int32) (x3 : Int32) (x4 : Int32) (t0 : Int32) (H : Heap) (locs : List Loc) (ls : Array Slot), gP G S H → va_S (gA G s.heap.size) s.heap H locs → lv_has ls 6 [(0, .ref (G.2.1 392)), (1, .int x1), (2, .int x2), (3, .int x3), (4, .int x4)] → B_X11_offer_83 S x1 x2 x3 x4 t0 = some (r, S') → W p l e (gR 2 46) s m ([.ref (G.2.1 392), .int a1, .int a2, .int a3, .int a4] : List Value).toArray below meth c H locs 0 0 (MQ below (gQ G S' (some (.int r)) (gA G s.heap.size)) ([.ref (G.2.1 392), .int a1, .int a2, .int a3, .int a4] : List Value).toArray s 0 0 (gA G s.heap.size)) (F0 m 83 ls [.int t0, .ref (G.2.1 392)]) := by
    intro S x1 x2 x3 x4 t0 H locs ls hw hS hl hf
    unfold B_X11_offer_83 at hf
    obtain ⟨v_2, S_1, hv, hf⟩ := gbi_some hf
    refine g_V (As := [.int t0]) (rest := []) cx hw hS (c_X11_refused l G hM t0 S v_2 S_1 hv) (by omega) he_c392 rfl rfl gw_200 gy_X11_refused gi_X11_refused ⟨Nat.le_of_ble_eq_true rfl, Nat.le_of_ble_eq_true rfl⟩ ⟨Nat.zero_le _, Nat.zero_le _⟩ rfl hl.1 rfl (Nat.le_of_ble_eq_true rfl) dX11_offer_83 (fun H locs hw hS => ?_)
    refine W.eq (g2 := F0 m 86 ls [.int v_2]) rfl ?_
    refine lv_if_eq (tgt := 91) cx.1 cx.2.1 dX11_offer_86 (by decide) (fun hc => ?_) (fun hc => ?_)
    · rw [if_pos hc] at hf
      refine lv_aload_n cx.1 cx.2.1 dX11_offer_91 rfl (lv_at hl 0 rfl) ?_
      obtain ⟨S_3, hv, hf⟩ := gbv_some hf
      refine g_V (As := []) (rest := []) cx hw hS (c_X11_note l G hM S_1 S_3 hv) (by omega) he_c392 rfl rfl gw_572 gy_X11_note gi_X11_note ⟨Nat.le_of_ble_eq_true rfl, Nat.le_of_ble_eq_true rfl⟩ ⟨Nat.zero_le _, Nat.zero_le _⟩ rfl hl.1 rfl (Nat.le_of_ble_eq_true rfl) dX11_offer_92 (fun H locs hw hS => ?_)
      refine W.eq (g2 := F0 m 95 ls []) rfl ?_
      refine lv_aload_n cx.1 cx.2.1 dX11_offer_95 rfl (lv_at hl 0 rfl) ?_
      refine g_get (C := RX11) (T := TX11) (N := 16) (v := .ref (G.2.1 395)) cx hw inlX11 392 (by omega) he_c392 rfl 5 (by decide) gw_144 rfl rfl dX11_offer_96 ?_
      refine lv_iload_n cx.1 cx.2.1 dX11_offer_99 rfl (lv_at hl 1 rfl) ?_
      refine lv_iload_n cx.1 cx.2.1 dX11_offer_100 rfl (lv_at hl 2 rfl) ?_
      refine lv_iload_n cx.1 cx.2.1 dX11_offer_101 rfl (lv_at hl 3 rfl) ?_
      refine lv_iload cx.1 cx.2.1 dX11_offer_102 (lv_at hl 4 rfl) ?_
      obtain ⟨S_4, hv, hf⟩ := gbv_some hf
      refine g_S (As := [.ref (G.2.1 395), .int x1, .int x2, .int x3, .int x4]) (rest := []) cx hw hS (c_X11_addContract l G hM (ia_c395 hM) x1 x2 x3 x4 S_3 S_4 hv) gw_296 gy_X11_addContract gi_X11_addContract ⟨Nat.le_of_ble_eq_true rfl, Nat.le_of_ble_eq_true rfl⟩ ⟨Nat.zero_le _, Nat.zero_le _⟩ rfl hl.1 rfl (Nat.le_of_ble_eq_true rfl) dX11_offer_104 (fun H locs hw hS => ?_)
      refine W.eq (g2 := F0 m 107 ls []) rfl ?_
      refine lv_aload_n cx.1 cx.2.1 dX11_offer_107 rfl (lv_at hl 0 rfl) ?_
      refine g_get (C := RX11) (T := TX11) (N := 16) (v := .ref (G.2.1 395)) cx hw inlX11 392 (by omega) he_c392 rfl 5 (by decide) gw_144 rfl rfl dX11_offer_108 ?_
      refine lv_iconst (v := (2 : Int32)) cx.1 cx.2.1 dX11_offer_111 (by decide) ?_
      obtain ⟨hin, hf⟩ := gck_some hf
      refine g_iald cx hw (ia_c395 hM) (vp_of_inb hin) dX11_offer_112 ?_
      refine lv_iconst (v := (1 : Int32)) cx.1 cx.2.1 dX11_offer_113 (by decide) ?_
      refine lv_isub cx.1 cx.2.1 dX11_offer_114 ?_
      exact g_ireti cx hr hlk hw hS hf dX11_offer_115
    · rw [if_neg hc] at hf
      refine lv_iconst (v := (0 : Int32)) cx.1 cx.2.1 dX11_offer_89 (by decide) ?_
      exact g_ireti cx hr hlk hw hS hf dX11_offer_90
  have hB_35 : ∀ (S : Sg) (x1 : Int32) (x2 : Int32) (x3 : Int32) (x4 : Int32) (t0 : Int32) (H : Heap) (locs : List Loc) (ls : Array Slot), gP G S H → va_S (gA G s.heap.size) s.heap H locs → lv_has ls 6 [(0, .ref (G.2.1 392)), (1, .int x1), (2, .int x2), (3, .int x3), (4, .int x4)] → B_X11_offer_35 S x1 x2 x3 x4 t0 = some (r, S') → W p l e (gR 2 46) s m ([.ref (G.2.1 392), .int a1, .int a2, .int a3, .int a4] : List Value).toArray below meth c H locs 0 0 (MQ below (gQ G S' (some (.int r)) (gA G s.heap.size)) ([.ref (G.2.1 392), .int a1, .int a2, .int a3, .int a4] : List Value).toArray s 0 0 (gA G s.heap.size)) (F0 m 35 ls [.int t0]) := by
    intro S x1 x2 x3 x4 t0 H locs ls hw hS hl hf
    unfold B_X11_offer_35 at hf
    refine lv_istore (lv' := [(5, .int t0), (0, .ref (G.2.1 392)), (1, .int x1), (2, .int x2), (3, .int x3), (4, .int x4)]) cx.1 cx.2.1 dX11_offer_35 hl (by decide) rfl (fun ls hl => ?_)
    refine lv_aload_n cx.1 cx.2.1 dX11_offer_37 rfl (lv_at hl 1 rfl) ?_
    refine lv_aload_n cx.1 cx.2.1 dX11_offer_38 rfl (lv_at hl 1 rfl) ?_
    refine lv_iload_n cx.1 cx.2.1 dX11_offer_39 rfl (lv_at hl 2 rfl) ?_
    obtain ⟨v_6, S_5, hv, hf⟩ := gbi_some hf
    refine g_V (As := [.int x1]) (rest := [.ref (G.2.1 392)]) cx hw hS (c_X11_isCity l G hM x1 S v_6 S_5 hv) (by omega) he_c392 rfl rfl gw_656 gy_X11_isCity gi_X11_isCity ⟨Nat.le_of_ble_eq_true rfl, Nat.le_of_ble_eq_true rfl⟩ ⟨Nat.zero_le _, Nat.zero_le _⟩ rfl hl.1 rfl (Nat.le_of_ble_eq_true rfl) dX11_offer_40 (fun H locs hw hS => ?_)
    refine W.eq (g2 := F0 m 43 ls [.int v_6, .ref (G.2.1 392)]) rfl ?_
    refine lv_if_eq (tgt := 54) cx.1 cx.2.1 dX11_offer_43 (by decide) (fun hc => ?_) (fun hc => ?_)
    · rw [if_pos hc] at hf
      refine lv_iconst (v := (1 : Int32)) cx.1 cx.2.1 dX11_offer_54 (by decide) ?_
      refine lv_goto (tgt := 83) cx.1 cx.2.1 dX11_offer_55 (by decide) ?_
      exact hB_83 S_5 x1 x2 x3 x4 (1 : Int32) _ _ _ hw hS (lv_sub hl [1, 2, 3, 4, 5] rfl) hf
    · rw [if_neg hc] at hf
      refine lv_aload_n cx.1 cx.2.1 dX11_offer_46 rfl (lv_at hl 1 rfl) ?_
      refine lv_iload_n cx.1 cx.2.1 dX11_offer_47 rfl (lv_at hl 3 rfl) ?_
      obtain ⟨v_8, S_7, hv, hf⟩ := gbi_some hf
      refine g_V (As := [.int x2]) (rest := [.ref (G.2.1 392)]) cx hw hS (c_X11_isCity l G hM x2 S_5 v_8 S_7 hv) (by omega) he_c392 rfl rfl gw_656 gy_X11_isCity gi_X11_isCity ⟨Nat.le_of_ble_eq_true rfl, Nat.le_of_ble_eq_true rfl⟩ ⟨Nat.zero_le _, Nat.zero_le _⟩ rfl hl.1 rfl (Nat.le_of_ble_eq_true rfl) dX11_offer_48 (fun H locs hw hS => ?_)
      refine W.eq (g2 := F0 m 51 ls [.int v_8, .ref (G.2.1 392)]) rfl ?_
      refine lv_if_ne (tgt := 58) cx.1 cx.2.1 dX11_offer_51 (by decide) (fun hc => ?_) (fun hc => ?_)
      · rw [if_neg hc] at hf
        refine lv_iload cx.1 cx.2.1 dX11_offer_58 (lv_at hl 0 rfl) ?_
        refine lv_if_ne (tgt := 67) cx.1 cx.2.1 dX11_offer_60 (by decide) (fun hc => ?_) (fun hc => ?_)
        · rw [if_neg hc] at hf
          refine lv_aload_n cx.1 cx.2.1 dX11_offer_67 rfl (lv_at hl 1 rfl) ?_
          refine g_get (C := RX11) (T := TX11) (N := 16) (v := .ref (G.2.1 395)) cx hw inlX11 392 (by omega) he_c392 rfl 5 (by decide) gw_144 rfl rfl dX11_offer_68 ?_
          refine lv_iconst (v := (2 : Int32)) cx.1 cx.2.1 dX11_offer_71 (by decide) ?_
          obtain ⟨hin, hf⟩ := gck_some hf
          refine g_iald cx hw (ia_c395 hM) (vp_of_inb hin) dX11_offer_72 ?_
          refine lv_bipush (v := (8 : Int32)) cx.1 cx.2.1 dX11_offer_73 (by decide) ?_
          refine lv_icmp_ne (tgt := 82) cx.1 cx.2.1 dX11_offer_75 (by decide) (fun hc => ?_) (fun hc => ?_)
          · rw [if_neg hc] at hf
            refine lv_iconst (v := (0 : Int32)) cx.1 cx.2.1 dX11_offer_82 (by decide) ?_
            exact hB_83 S_7 x1 x2 x3 x4 (0 : Int32) _ _ _ hw hS (lv_sub hl [1, 2, 3, 4, 5] rfl) hf
          · rw [if_pos hc] at hf
            refine lv_iconst (v := (3 : Int32)) cx.1 cx.2.1 dX11_offer_78 (by decide) ?_
            refine lv_goto (tgt := 83) cx.1 cx.2.1 dX11_offer_79 (by decide) ?_
            exact hB_83 S_7 x1 x2 x3 x4 (3 : Int32) _ _ _ hw hS (lv_sub hl [1, 2, 3, 4, 5] rfl) hf
        · rw [if_pos hc] at hf
          refine lv_iconst (v := (2 : Int32)) cx.1 cx.2.1 dX11_offer_63 (by decide) ?_
          refine lv_goto (tgt := 83) cx.1 cx.2.1 dX11_offer_64 (by decide) ?_
          exact hB_83 S_7 x1 x2 x3 x4 (2 : Int32) _ _ _ hw hS (lv_sub hl [1, 2, 3, 4, 5] rfl) hf
      · rw [if_pos hc] at hf
        refine lv_iconst (v := (1 : Int32)) cx.1 cx.2.1 dX11_offer_54 (by decide) ?_
        refine lv_goto (tgt := 83) cx.1 cx.2.1 dX11_offer_55 (by decide) ?_
        exact hB_83 S_7 x1 x2 x3 x4 (1 : Int32) _ _ _ hw hS (lv_sub hl [1, 2, 3, 4, 5] rfl) hf
  have hl : lv_has ls 6 [(0, .ref (G.2.1 392)), (1, .int a1), (2, .int a2), (3, .int a3), (4, .int a4)] := hl
  unfold f_X11_offer at hf
  refine lv_iload_n cx.1 cx.2.1 dX11_offer_0 rfl (lv_at hl 1 rfl) ?_
  refine lv_iload_n cx.1 cx.2.1 dX11_offer_1 rfl (lv_at hl 2 rfl) ?_
  refine lv_icmp_eq (tgt := 34) cx.1 cx.2.1 dX11_offer_2 (by decide) (fun hc => ?_) (fun hc => ?_)
  · rw [if_pos hc] at hf
    refine lv_iconst (v := (0 : Int32)) cx.1 cx.2.1 dX11_offer_34 (by decide) ?_
    exact hB_35 S a1 a2 a3 a4 (0 : Int32) _ _ _ hw hS (lv_sub hl [0, 1, 2, 3, 4] rfl) hf
  · rw [if_neg hc] at hf
    refine lv_iload_n cx.1 cx.2.1 dX11_offer_5 rfl (lv_at hl 3 rfl) ?_
    refine lv_i2l cx.1 cx.2.1 dX11_offer_6 rfl ?_
    refine lv_lconst (v := (1 : Int64)) cx.1 cx.2.1 dX11_offer_7 (by decide) ?_
    refine lv_ldc2 cx.1 cx.2.1 cx.2.2.2.1 (cx.2.2.2.2.ts _ gw_655) dX11_offer_8 ?_
    obtain ⟨v_10, S_9, hv, hf⟩ := gbi_some hf
    refine g_S (As := [.long a3.toInt64, .long (1 : Int64), .long (99 : Int64)]) (rest := []) cx hw hS (c_X11_in l G hM a3.toInt64 (1 : Int64) (99 : Int64) S v_10 S_9 hv) gw_197 gy_X11_in gi_X11_in ⟨Nat.le_of_ble_eq_true rfl, Nat.le_of_ble_eq_true rfl⟩ ⟨Nat.zero_le _, Nat.zero_le _⟩ rfl hl.1 rfl (Nat.le_of_ble_eq_true rfl) dX11_offer_11 (fun H locs hw hS => ?_)
    refine W.eq (g2 := F0 m 14 ls [.int v_10]) rfl ?_
    refine lv_if_eq (tgt := 34) cx.1 cx.2.1 dX11_offer_14 (by decide) (fun hc => ?_) (fun hc => ?_)
    · rw [if_pos hc] at hf
      refine lv_iconst (v := (0 : Int32)) cx.1 cx.2.1 dX11_offer_34 (by decide) ?_
      exact hB_35 S_9 a1 a2 a3 a4 (0 : Int32) _ _ _ hw hS (lv_sub hl [0, 1, 2, 3, 4] rfl) hf
    · rw [if_neg hc] at hf
      refine lv_iload cx.1 cx.2.1 dX11_offer_17 (lv_at hl 4 rfl) ?_
      refine lv_i2l cx.1 cx.2.1 dX11_offer_19 rfl ?_
      refine lv_lconst (v := (1 : Int64)) cx.1 cx.2.1 dX11_offer_20 (by decide) ?_
      refine lv_ldc2 cx.1 cx.2.1 cx.2.2.2.1 (cx.2.2.2.2.ts _ gw_634) dX11_offer_21 ?_
      obtain ⟨v_12, S_11, hv, hf⟩ := gbi_some hf
      refine g_S (As := [.long a4.toInt64, .long (1 : Int64), .long (9 : Int64)]) (rest := []) cx hw hS (c_X11_in l G hM a4.toInt64 (1 : Int64) (9 : Int64) S_9 v_12 S_11 hv) gw_197 gy_X11_in gi_X11_in ⟨Nat.le_of_ble_eq_true rfl, Nat.le_of_ble_eq_true rfl⟩ ⟨Nat.zero_le _, Nat.zero_le _⟩ rfl hl.1 rfl (Nat.le_of_ble_eq_true rfl) dX11_offer_24 (fun H locs hw hS => ?_)
      refine W.eq (g2 := F0 m 27 ls [.int v_12]) rfl ?_
      refine lv_if_eq (tgt := 34) cx.1 cx.2.1 dX11_offer_27 (by decide) (fun hc => ?_) (fun hc => ?_)
      · rw [if_pos hc] at hf
        refine lv_iconst (v := (0 : Int32)) cx.1 cx.2.1 dX11_offer_34 (by decide) ?_
        exact hB_35 S_11 a1 a2 a3 a4 (0 : Int32) _ _ _ hw hS (lv_sub hl [0, 1, 2, 3, 4] rfl) hf
      · rw [if_neg hc] at hf
        refine lv_iconst (v := (1 : Int32)) cx.1 cx.2.1 dX11_offer_30 (by decide) ?_
        refine lv_goto (tgt := 35) cx.1 cx.2.1 dX11_offer_31 (by decide) ?_
        exact hB_35 S_11 a1 a2 a3 a4 (1 : Int32) _ _ _ hw hS (lv_sub hl [0, 1, 2, 3, 4] rfl) hf
set_option maxHeartbeats 4000000 in
set_option maxRecDepth 100000 in
theorem c_X11_restore (l : Launch) (G : gG) (hM : 402 ≤ gN G) (a1 : Int32) (S : Sg) (r : Int32) (S' : Sg) (hf : f_X11_restore a1 S = some (r, S')) : Ct l yX11_restore [Cond.code yX11_restore cX11_restore 2 (some .int)] (gR 1 25) G [.ref (G.2.1 392), .int a1] S (some (.int r)) S' := by
  refine Ct_of (by decide) (Nat.le_of_ble_eq_true rfl) ?_
  intro p e s m below meth c ls cx hr hlk hw hS hl
  have hN := cx.2.2.2.2.hN
  have hB_29 : ∀ (S : Sg) (x1 : Int32) (t0 : Int32) (H : Heap) (locs : List Loc) (ls : Array Slot), gP G S H → va_S (gA G s.heap.size) s.heap H locs → lv_has ls 2 [(0, .ref (G.2.1 392)), (1, .int x1)] → B_X11_restore_29 S x1 t0 = some (r, S') → W p l e (gR 1 25) s m ([.ref (G.2.1 392), .int a1] : List Value).toArray below meth c H locs 0 0 (MQ below (gQ G S' (some (.int r)) (gA G s.heap.size)) ([.ref (G.2.1 392), .int a1] : List Value).toArray s 0 0 (gA G s.heap.size)) (F0 m 29 ls [.int t0, .ref (G.2.1 392)]) := by
    intro S x1 t0 H locs ls hw hS hl hf
    unfold B_X11_restore_29 at hf
    obtain ⟨v_2, S_1, hv, hf⟩ := gbi_some hf
    refine g_V (As := [.int t0]) (rest := []) cx hw hS (c_X11_refused l G hM t0 S v_2 S_1 hv) (by omega) he_c392 rfl rfl gw_200 gy_X11_refused gi_X11_refused ⟨Nat.le_of_ble_eq_true rfl, Nat.le_of_ble_eq_true rfl⟩ ⟨Nat.zero_le _, Nat.zero_le _⟩ rfl hl.1 rfl (Nat.le_of_ble_eq_true rfl) dX11_restore_29 (fun H locs hw hS => ?_)
    refine W.eq (g2 := F0 m 32 ls [.int v_2]) rfl ?_
    refine lv_if_eq (tgt := 37) cx.1 cx.2.1 dX11_restore_32 (by decide) (fun hc => ?_) (fun hc => ?_)
    · rw [if_pos hc] at hf
      refine lv_aload_n cx.1 cx.2.1 dX11_restore_37 rfl (lv_at hl 0 rfl) ?_
      refine g_get (C := RX11) (T := TX11) (N := 16) (v := .ref (G.2.1 398)) cx hw inlX11 392 (by omega) he_c392 rfl 9 (by decide) gw_147 rfl rfl dX11_restore_38 ?_
      refine lv_sipush (v := (175 : Int32)) cx.1 cx.2.1 dX11_restore_41 (by decide) ?_
      refine lv_iload_n cx.1 cx.2.1 dX11_restore_44 rfl (lv_at hl 1 rfl) ?_
      refine lv_imul cx.1 cx.2.1 dX11_restore_45 ?_
      refine lv_aload_n cx.1 cx.2.1 dX11_restore_46 rfl (lv_at hl 0 rfl) ?_
      refine g_get (C := RX11) (T := TX11) (N := 16) (v := .ref (G.2.1 395)) cx hw inlX11 392 (by omega) he_c392 rfl 5 (by decide) gw_144 rfl rfl dX11_restore_47 ?_
      refine lv_iconst (v := (0 : Int32)) cx.1 cx.2.1 dX11_restore_50 (by decide) ?_
      obtain ⟨S_3, hv, hf⟩ := gbv_some hf
      refine g_S (As := [.ref (G.2.1 398), .int ((175 : Int32) * x1), .ref (G.2.1 395), .int (0 : Int32)]) (rest := []) cx hw hS (c_X11_copyPage l G hM (ia_c398 hM) (ia_c395 hM) ((175 : Int32) * x1) (0 : Int32) S_1 S_3 hv) gw_350 gy_X11_copyPage gi_X11_copyPage ⟨Nat.le_of_ble_eq_true rfl, Nat.le_of_ble_eq_true rfl⟩ ⟨Nat.zero_le _, Nat.zero_le _⟩ rfl hl.1 rfl (Nat.le_of_ble_eq_true rfl) dX11_restore_51 (fun H locs hw hS => ?_)
      refine W.eq (g2 := F0 m 54 ls []) rfl ?_
      refine lv_aload_n cx.1 cx.2.1 dX11_restore_54 rfl (lv_at hl 0 rfl) ?_
      refine lv_iconst (v := (0 : Int32)) cx.1 cx.2.1 dX11_restore_55 (by decide) ?_
      obtain ⟨S_4, eS_4, hf⟩ := gst_ex hf
      refine g_put (C := RX11) (T := TX11) (N := 16) cx hw hS inlX11 tyX11 tyX11_ok nmX11 392 (by omega) he_c392 rfl 8 (by decide) gw_349 rfl rfl (by decide +kernel) (Nat.le_of_ble_eq_true rfl) (by rw [u2_s, he_c392]; rfl) dX11_restore_56 (fun H locs hw hS => ?_)
      rw [eS_4] at hw
      refine lv_aload_n cx.1 cx.2.1 dX11_restore_59 rfl (lv_at hl 0 rfl) ?_
      refine g_get (C := RX11) (T := TX11) (N := 16) (v := .ref (G.2.1 395)) cx hw inlX11 392 (by omega) he_c392 rfl 5 (by decide) gw_144 rfl rfl dX11_restore_60 ?_
      refine lv_iconst (v := (4 : Int32)) cx.1 cx.2.1 dX11_restore_63 (by decide) ?_
      obtain ⟨hin, hf⟩ := gck_some hf
      refine g_iald cx hw (ia_c395 hM) (vp_of_inb hin) dX11_restore_64 ?_
      exact g_ireti cx hr hlk hw hS hf dX11_restore_65
    · rw [if_neg hc] at hf
      refine lv_iconst (v := (0 : Int32)) cx.1 cx.2.1 dX11_restore_35 (by decide) ?_
      exact g_ireti cx hr hlk hw hS hf dX11_restore_36
  have hl : lv_has ls 2 [(0, .ref (G.2.1 392)), (1, .int a1)] := hl
  unfold f_X11_restore at hf
  refine lv_aload_n cx.1 cx.2.1 dX11_restore_0 rfl (lv_at hl 0 rfl) ?_
  refine lv_iload_n cx.1 cx.2.1 dX11_restore_1 rfl (lv_at hl 1 rfl) ?_
  refine lv_i2l cx.1 cx.2.1 dX11_restore_2 rfl ?_
  refine lv_lconst (v := (0 : Int64)) cx.1 cx.2.1 dX11_restore_3 (by decide) ?_
  refine lv_lconst (v := (1 : Int64)) cx.1 cx.2.1 dX11_restore_4 (by decide) ?_
  obtain ⟨v_6, S_5, hv, hf⟩ := gbi_some hf
  refine g_S (As := [.long a1.toInt64, .long (0 : Int64), .long (1 : Int64)]) (rest := [.ref (G.2.1 392)]) cx hw hS (c_X11_in l G hM a1.toInt64 (0 : Int64) (1 : Int64) S v_6 S_5 hv) gw_197 gy_X11_in gi_X11_in ⟨Nat.le_of_ble_eq_true rfl, Nat.le_of_ble_eq_true rfl⟩ ⟨Nat.zero_le _, Nat.zero_le _⟩ rfl hl.1 rfl (Nat.le_of_ble_eq_true rfl) dX11_restore_5 (fun H locs hw hS => ?_)
  refine W.eq (g2 := F0 m 8 ls [.int v_6, .ref (G.2.1 392)]) rfl ?_
  refine lv_if_ne (tgt := 15) cx.1 cx.2.1 dX11_restore_8 (by decide) (fun hc => ?_) (fun hc => ?_)
  · rw [if_neg hc] at hf
    refine lv_aload_n cx.1 cx.2.1 dX11_restore_15 rfl (lv_at hl 0 rfl) ?_
    refine g_get (C := RX11) (T := TX11) (N := 16) (v := .ref (G.2.1 399)) cx hw inlX11 392 (by omega) he_c392 rfl 10 (by decide) gw_149 rfl rfl dX11_restore_16 ?_
    refine lv_iload_n cx.1 cx.2.1 dX11_restore_19 rfl (lv_at hl 1 rfl) ?_
    obtain ⟨hin, hf⟩ := gck_some hf
    refine g_zald (n := 2) cx hw (by omega) hM (fun _ => rfl) (vp_of_inb hin) dX11_restore_20 ?_
    refine lv_if_ne (tgt := 28) cx.1 cx.2.1 dX11_restore_21 (by decide) (fun hc => ?_) (fun hc => ?_)
    · rw [if_neg hc] at hf
      refine lv_iconst (v := (0 : Int32)) cx.1 cx.2.1 dX11_restore_28 (by decide) ?_
      exact hB_29 S_5 a1 (0 : Int32) _ _ _ hw hS (lv_sub hl [0, 1] rfl) hf
    · rw [if_pos hc] at hf
      refine lv_iconst (v := (2 : Int32)) cx.1 cx.2.1 dX11_restore_24 (by decide) ?_
      refine lv_goto (tgt := 29) cx.1 cx.2.1 dX11_restore_25 (by decide) ?_
      exact hB_29 S_5 a1 (2 : Int32) _ _ _ hw hS (lv_sub hl [0, 1] rfl) hf
  · rw [if_pos hc] at hf
    refine lv_iconst (v := (1 : Int32)) cx.1 cx.2.1 dX11_restore_11 (by decide) ?_
    refine lv_goto (tgt := 29) cx.1 cx.2.1 dX11_restore_12 (by decide) ?_
    exact hB_29 S_5 a1 (1 : Int32) _ _ _ hw hS (lv_sub hl [0, 1] rfl) hf
set_option maxHeartbeats 4000000 in
set_option maxRecDepth 100000 in
theorem c_X11_run (l : Launch) (G : gG) (hM : 402 ≤ gN G) (a1 : Int32) (a2 : Int32) (S : Sg) (r : Int32) (S' : Sg) (hf : f_X11_run a1 a2 S = some (r, S')) : Ct l yX11_run [Cond.code yX11_run cX11_run 3 (some .int)] (gR 6 156) G [.ref (G.2.1 392), .int a1, .int a2] S (some (.int r)) S' := by
  refine Ct_of (by decide) (Nat.le_of_ble_eq_true rfl) ?_
  intro p e s m below meth c ls cx hr hlk hw hS hl
  have hN := cx.2.2.2.2.hN
  have hB_35 : ∀ (S : Sg) (x1 : Int32) (x2 : Int32) (t0 : Int32) (H : Heap) (locs : List Loc) (ls : Array Slot), gP G S H → va_S (gA G s.heap.size) s.heap H locs → lv_has ls 3 [(0, .ref (G.2.1 392)), (1, .int x1), (2, .int x2)] → B_X11_run_35 S x1 x2 t0 = some (r, S') → W p l e (gR 6 156) s m ([.ref (G.2.1 392), .int a1, .int a2] : List Value).toArray below meth c H locs 0 0 (MQ below (gQ G S' (some (.int r)) (gA G s.heap.size)) ([.ref (G.2.1 392), .int a1, .int a2] : List Value).toArray s 0 0 (gA G s.heap.size)) (F0 m 35 ls [.int t0, .ref (G.2.1 392)]) := by
    intro S x1 x2 t0 H locs ls hw hS hl hf
    unfold B_X11_run_35 at hf
    obtain ⟨v_2, S_1, hv, hf⟩ := gbi_some hf
    refine g_V (As := [.int t0]) (rest := []) cx hw hS (c_X11_refused l G hM t0 S v_2 S_1 hv) (by omega) he_c392 rfl rfl gw_200 gy_X11_refused gi_X11_refused ⟨Nat.le_of_ble_eq_true rfl, Nat.le_of_ble_eq_true rfl⟩ ⟨Nat.zero_le _, Nat.zero_le _⟩ rfl hl.1 rfl (Nat.le_of_ble_eq_true rfl) dX11_run_35 (fun H locs hw hS => ?_)
    refine W.eq (g2 := F0 m 38 ls [.int v_2]) rfl ?_
    refine lv_if_eq (tgt := 43) cx.1 cx.2.1 dX11_run_38 (by decide) (fun hc => ?_) (fun hc => ?_)
    · rw [if_pos hc] at hf
      refine lv_aload_n cx.1 cx.2.1 dX11_run_43 rfl (lv_at hl 0 rfl) ?_
      obtain ⟨S_3, hv, hf⟩ := gbv_some hf
      refine g_V (As := []) (rest := []) cx hw hS (c_X11_note l G hM S_1 S_3 hv) (by omega) he_c392 rfl rfl gw_572 gy_X11_note gi_X11_note ⟨Nat.le_of_ble_eq_true rfl, Nat.le_of_ble_eq_true rfl⟩ ⟨Nat.zero_le _, Nat.zero_le _⟩ rfl hl.1 rfl (Nat.le_of_ble_eq_true rfl) dX11_run_44 (fun H locs hw hS => ?_)
      refine W.eq (g2 := F0 m 47 ls []) rfl ?_
      refine lv_aload_n cx.1 cx.2.1 dX11_run_47 rfl (lv_at hl 0 rfl) ?_
      refine lv_aload_n cx.1 cx.2.1 dX11_run_48 rfl (lv_at hl 0 rfl) ?_
      refine g_get (C := RX11) (T := TX11) (N := 16) (v := .ref (G.2.1 395)) cx hw inlX11 392 (by omega) he_c392 rfl 5 (by decide) gw_144 rfl rfl dX11_run_49 ?_
      refine lv_iload_n cx.1 cx.2.1 dX11_run_52 rfl (lv_at hl 1 rfl) ?_
      refine lv_iload_n cx.1 cx.2.1 dX11_run_53 rfl (lv_at hl 2 rfl) ?_
      obtain ⟨v_5, S_4, hv, hf⟩ := gbi_some hf
      refine g_V (As := [.ref (G.2.1 395), .int x1, .int x2]) (rest := []) cx hw hS (c_X11_runOn l G hM (ia_c395 hM) x1 x2 S_3 v_5 S_4 hv) (by omega) he_c392 rfl rfl gw_817 gy_X11_runOn gi_X11_runOn ⟨Nat.le_of_ble_eq_true rfl, Nat.le_of_ble_eq_true rfl⟩ ⟨Nat.zero_le _, Nat.zero_le _⟩ rfl hl.1 rfl (Nat.le_of_ble_eq_true rfl) dX11_run_54 (fun H locs hw hS => ?_)
      refine W.eq (g2 := F0 m 57 ls [.int v_5]) rfl ?_
      exact g_ireti cx hr hlk hw hS hf dX11_run_57
    · rw [if_neg hc] at hf
      refine lv_iconst (v := (0 : Int32)) cx.1 cx.2.1 dX11_run_41 (by decide) ?_
      exact g_ireti cx hr hlk hw hS hf dX11_run_42
  have hl : lv_has ls 3 [(0, .ref (G.2.1 392)), (1, .int a1), (2, .int a2)] := hl
  unfold f_X11_run at hf
  refine lv_aload_n cx.1 cx.2.1 dX11_run_0 rfl (lv_at hl 0 rfl) ?_
  refine lv_aload_n cx.1 cx.2.1 dX11_run_1 rfl (lv_at hl 0 rfl) ?_
  refine g_get (C := RX11) (T := TX11) (N := 16) (v := .ref (G.2.1 395)) cx hw inlX11 392 (by omega) he_c392 rfl 5 (by decide) gw_144 rfl rfl dX11_run_2 ?_
  refine lv_iload_n cx.1 cx.2.1 dX11_run_5 rfl (lv_at hl 1 rfl) ?_
  refine lv_iload_n cx.1 cx.2.1 dX11_run_6 rfl (lv_at hl 2 rfl) ?_
  obtain ⟨v_7, S_6, hv, hf⟩ := gbi_some hf
  refine g_S (As := [.ref (G.2.1 395), .int a1, .int a2]) (rest := [.ref (G.2.1 392)]) cx hw hS (c_X11_isRun l G hM (ia_c395 hM) a1 a2 S v_7 S_6 hv) gw_788 gy_X11_isRun gi_X11_isRun ⟨Nat.le_of_ble_eq_true rfl, Nat.le_of_ble_eq_true rfl⟩ ⟨Nat.zero_le _, Nat.zero_le _⟩ rfl hl.1 rfl (Nat.le_of_ble_eq_true rfl) dX11_run_7 (fun H locs hw hS => ?_)
  refine W.eq (g2 := F0 m 10 ls [.int v_7, .ref (G.2.1 392)]) rfl ?_
  refine lv_if_ne (tgt := 17) cx.1 cx.2.1 dX11_run_10 (by decide) (fun hc => ?_) (fun hc => ?_)
  · rw [if_neg hc] at hf
    refine lv_aload_n cx.1 cx.2.1 dX11_run_17 rfl (lv_at hl 0 rfl) ?_
    refine lv_aload_n cx.1 cx.2.1 dX11_run_18 rfl (lv_at hl 0 rfl) ?_
    refine g_get (C := RX11) (T := TX11) (N := 16) (v := .ref (G.2.1 395)) cx hw inlX11 392 (by omega) he_c392 rfl 5 (by decide) gw_144 rfl rfl dX11_run_19 ?_
    refine lv_iload_n cx.1 cx.2.1 dX11_run_22 rfl (lv_at hl 1 rfl) ?_
    refine lv_iload_n cx.1 cx.2.1 dX11_run_23 rfl (lv_at hl 2 rfl) ?_
    obtain ⟨v_9, S_8, hv, hf⟩ := gbi_some hf
    refine g_V (As := [.ref (G.2.1 395), .int a1, .int a2]) (rest := [.ref (G.2.1 392)]) cx hw hS (c_X11_why l G hM (ia_c395 hM) a1 a2 S_6 v_9 S_8 hv) (by omega) he_c392 rfl rfl gw_791 gy_X11_why gi_X11_why ⟨Nat.le_of_ble_eq_true rfl, Nat.le_of_ble_eq_true rfl⟩ ⟨Nat.zero_le _, Nat.zero_le _⟩ rfl hl.1 rfl (Nat.le_of_ble_eq_true rfl) dX11_run_24 (fun H locs hw hS => ?_)
    refine W.eq (g2 := F0 m 27 ls [.int v_9, .ref (G.2.1 392)]) rfl ?_
    refine lv_if_eq (tgt := 34) cx.1 cx.2.1 dX11_run_27 (by decide) (fun hc => ?_) (fun hc => ?_)
    · rw [if_pos hc] at hf
      refine lv_iconst (v := (0 : Int32)) cx.1 cx.2.1 dX11_run_34 (by decide) ?_
      exact hB_35 S_8 a1 a2 (0 : Int32) _ _ _ hw hS (lv_sub hl [0, 1, 2] rfl) hf
    · rw [if_neg hc] at hf
      refine lv_iconst (v := (2 : Int32)) cx.1 cx.2.1 dX11_run_30 (by decide) ?_
      refine lv_goto (tgt := 35) cx.1 cx.2.1 dX11_run_31 (by decide) ?_
      exact hB_35 S_8 a1 a2 (2 : Int32) _ _ _ hw hS (lv_sub hl [0, 1, 2] rfl) hf
  · rw [if_pos hc] at hf
    refine lv_iconst (v := (1 : Int32)) cx.1 cx.2.1 dX11_run_13 (by decide) ?_
    refine lv_goto (tgt := 35) cx.1 cx.2.1 dX11_run_14 (by decide) ?_
    exact hB_35 S_6 a1 a2 (1 : Int32) _ _ _ hw hS (lv_sub hl [0, 1, 2] rfl) hf
set_option maxHeartbeats 4000000 in
set_option maxRecDepth 100000 in
theorem c_X11_runAll (l : Launch) (G : gG) {k1 : Nat} (hM : 402 ≤ gN G) (hk1 : IA G k1 175) (S : Sg) (S' : Sg) (hf : f_X11_runAll k1 S = some S') : Ct l yX11_runAll [Cond.code yX11_runAll cX11_runAll 7 none] (gR 6 156) G [.ref (G.2.1 392), .ref (G.2.1 k1)] S none S' := by
  refine Ct_of (by decide) (Nat.le_of_ble_eq_true rfl) ?_
  intro p e s m below meth c ls cx hr hlk hw hS hl
  have hN := cx.2.2.2.2.hN
  have hL_41 : ∀ (K2 : Sg → Int32 → Option Sg) (hK2 : ∀ (S : Sg) (x2 : Int32) (H : Heap) (locs : List Loc) (ls : Array Slot), gP G S H → va_S (gA G s.heap.size) s.heap H locs → lv_has ls 7 [(0, .ref (G.2.1 392)), (1, .ref (G.2.1 k1)), (2, .int x2)] → K2 S x2 = some S' → W p l e (gR 6 156) s m ([.ref (G.2.1 392), .ref (G.2.1 k1)] : List Value).toArray below meth c H locs 0 0 (MQ below (gQ G S' none (gA G s.heap.size)) ([.ref (G.2.1 392), .ref (G.2.1 k1)] : List Value).toArray s 0 0 (gA G s.heap.size)) (F0 m 2 ls [])), ∀ (n : Nat), ∀ (S : Sg) (x2 : Int32) (x4 : Int32) (x5 : Int32) (x6 : Int32) (H : Heap) (locs : List Loc) (ls : Array Slot), gP G S H → va_S (gA G s.heap.size) s.heap H locs → lv_has ls 7 [(0, .ref (G.2.1 392)), (1, .ref (G.2.1 k1)), (2, .int x2), (4, .int x4), (5, .int x5), (6, .int x6)] → L_X11_runAll_41 k1 K2 n S x2 x4 x5 x6 = some S' → W p l e (gR 6 156) s m ([.ref (G.2.1 392), .ref (G.2.1 k1)] : List Value).toArray below meth c H locs 0 0 (MQ below (gQ G S' none (gA G s.heap.size)) ([.ref (G.2.1 392), .ref (G.2.1 k1)] : List Value).toArray s 0 0 (gA G s.heap.size)) (F0 m 41 ls []) := by
    intro K2 hK2 n
    induction n with
    | zero => intro S x2 x4 x5 x6 H locs ls hw hS hl hf; cases hf
    | succ n hK41 =>
      intro S x2 x4 x5 x6 H locs ls hw hS hl hf
      have hf : Lb_X11_runAll_41 k1 K2 (L_X11_runAll_41 k1 K2 n) S x2 x4 x5 x6 = some S' := hf
      unfold Lb_X11_runAll_41 at hf
      refine lv_iload cx.1 cx.2.1 dX11_runAll_41 (lv_at hl 5 rfl) ?_
      refine lv_iload cx.1 cx.2.1 dX11_runAll_43 (lv_at hl 3 rfl) ?_
      refine lv_icmp_ge (tgt := 82) cx.1 cx.2.1 dX11_runAll_45 (by decide) (fun hc => ?_) (fun hc => ?_)
      · rw [if_pos hc] at hf
        obtain ⟨x2_1, ex2_1, hf⟩ := gvi_ex hf
        refine lv_iinc (v := x2_1) (lv' := [(2, .int x2_1), (0, .ref (G.2.1 392)), (1, .ref (G.2.1 k1)), (4, .int x4), (5, .int x5), (6, .int x6)]) cx.1 cx.2.1 dX11_runAll_82 hl (k := 2) rfl (by rw [← ex2_1]; rfl) (by decide) rfl (fun ls hl => ?_)
        refine lv_goto (tgt := 2) cx.1 cx.2.1 dX11_runAll_85 (by decide) ?_
        exact hK2 S x2_1 _ _ _ hw hS (lv_sub hl [1, 2, 0] rfl) hf
      · rw [if_neg hc] at hf
        refine lv_iload cx.1 cx.2.1 dX11_runAll_48 (lv_at hl 4 rfl) ?_
        refine lv_if_ne (tgt := 82) cx.1 cx.2.1 dX11_runAll_50 (by decide) (fun hc => ?_) (fun hc => ?_)
        · rw [if_neg hc] at hf
          obtain ⟨x2_2, ex2_2, hf⟩ := gvi_ex hf
          refine lv_iinc (v := x2_2) (lv' := [(2, .int x2_2), (0, .ref (G.2.1 392)), (1, .ref (G.2.1 k1)), (4, .int x4), (5, .int x5), (6, .int x6)]) cx.1 cx.2.1 dX11_runAll_82 hl (k := 2) rfl (by rw [← ex2_2]; rfl) (by decide) rfl (fun ls hl => ?_)
          refine lv_goto (tgt := 2) cx.1 cx.2.1 dX11_runAll_85 (by decide) ?_
          exact hK2 S x2_2 _ _ _ hw hS (lv_sub hl [1, 2, 0] rfl) hf
        · rw [if_pos hc] at hf
          refine lv_aload_n cx.1 cx.2.1 dX11_runAll_53 rfl (lv_at hl 0 rfl) ?_
          refine lv_aload_n cx.1 cx.2.1 dX11_runAll_54 rfl (lv_at hl 1 rfl) ?_
          refine lv_iload_n cx.1 cx.2.1 dX11_runAll_55 rfl (lv_at hl 2 rfl) ?_
          refine lv_iload cx.1 cx.2.1 dX11_runAll_56 (lv_at hl 5 rfl) ?_
          obtain ⟨v_4, S_3, hv, hf⟩ := gbi_some hf
          refine g_V (As := [.ref (G.2.1 k1), .int x2, .int x6]) (rest := []) cx hw hS (c_X11_why l G hM hk1 x2 x6 S v_4 S_3 hv) (by omega) he_c392 rfl rfl gw_791 gy_X11_why gi_X11_why ⟨Nat.le_of_ble_eq_true rfl, Nat.le_of_ble_eq_true rfl⟩ ⟨Nat.zero_le _, Nat.zero_le _⟩ rfl hl.1 rfl (Nat.le_of_ble_eq_true rfl) dX11_runAll_58 (fun H locs hw hS => ?_)
          refine W.eq (g2 := F0 m 61 ls [.int v_4]) rfl ?_
          refine lv_if_ne (tgt := 76) cx.1 cx.2.1 dX11_runAll_61 (by decide) (fun hc => ?_) (fun hc => ?_)
          · rw [if_neg hc] at hf
            obtain ⟨x6_5, ex6_5, hf⟩ := gvi_ex hf
            refine lv_iinc (v := x6_5) (lv' := [(6, .int x6_5), (0, .ref (G.2.1 392)), (1, .ref (G.2.1 k1)), (2, .int x2), (4, .int x4), (5, .int x5)]) cx.1 cx.2.1 dX11_runAll_76 hl (k := 5) rfl (by rw [← ex6_5]; rfl) (by decide) rfl (fun ls hl => ?_)
            refine lv_goto (tgt := 41) cx.1 cx.2.1 dX11_runAll_79 (by decide) ?_
            exact hK41 S_3 x2 x4 x5 x6_5 _ _ _ hw hS (lv_sub hl [1, 2, 3, 4, 5, 0] rfl) hf
          · rw [if_pos hc] at hf
            refine lv_aload_n cx.1 cx.2.1 dX11_runAll_64 rfl (lv_at hl 0 rfl) ?_
            refine lv_aload_n cx.1 cx.2.1 dX11_runAll_65 rfl (lv_at hl 1 rfl) ?_
            refine lv_iload_n cx.1 cx.2.1 dX11_runAll_66 rfl (lv_at hl 2 rfl) ?_
            refine lv_iload cx.1 cx.2.1 dX11_runAll_67 (lv_at hl 5 rfl) ?_
            obtain ⟨v_7, S_6, hv, hf⟩ := gbi_some hf
            refine g_V (As := [.ref (G.2.1 k1), .int x2, .int x6]) (rest := []) cx hw hS (c_X11_runOn l G hM hk1 x2 x6 S_3 v_7 S_6 hv) (by omega) he_c392 rfl rfl gw_817 gy_X11_runOn gi_X11_runOn ⟨Nat.le_of_ble_eq_true rfl, Nat.le_of_ble_eq_true rfl⟩ ⟨Nat.zero_le _, Nat.zero_le _⟩ rfl hl.1 rfl (Nat.le_of_ble_eq_true rfl) dX11_runAll_69 (fun H locs hw hS => ?_)
            refine W.eq (g2 := F0 m 72 ls [.int v_7]) rfl ?_
            refine lv_pop cx.1 cx.2.1 dX11_runAll_72 rfl ?_
            refine lv_iconst (v := (1 : Int32)) cx.1 cx.2.1 dX11_runAll_73 (by decide) ?_
            refine lv_istore (lv' := [(5, .int (1 : Int32)), (0, .ref (G.2.1 392)), (1, .ref (G.2.1 k1)), (2, .int x2), (4, .int x4), (6, .int x6)]) cx.1 cx.2.1 dX11_runAll_74 hl (by decide) rfl (fun ls hl => ?_)
            obtain ⟨x6_8, ex6_8, hf⟩ := gvi_ex hf
            refine lv_iinc (v := x6_8) (lv' := [(6, .int x6_8), (5, .int (1 : Int32)), (0, .ref (G.2.1 392)), (1, .ref (G.2.1 k1)), (2, .int x2), (4, .int x4)]) cx.1 cx.2.1 dX11_runAll_76 hl (k := 5) rfl (by rw [← ex6_8]; rfl) (by decide) rfl (fun ls hl => ?_)
            refine lv_goto (tgt := 41) cx.1 cx.2.1 dX11_runAll_79 (by decide) ?_
            exact hK41 S_6 x2 x4 (1 : Int32) x6_8 _ _ _ hw hS (lv_sub hl [2, 3, 4, 5, 1, 0] rfl) hf
  have hL_2 : ∀ (n : Nat), ∀ (S : Sg) (x2 : Int32) (H : Heap) (locs : List Loc) (ls : Array Slot), gP G S H → va_S (gA G s.heap.size) s.heap H locs → lv_has ls 7 [(0, .ref (G.2.1 392)), (1, .ref (G.2.1 k1)), (2, .int x2)] → L_X11_runAll_2 k1 n S x2 = some S' → W p l e (gR 6 156) s m ([.ref (G.2.1 392), .ref (G.2.1 k1)] : List Value).toArray below meth c H locs 0 0 (MQ below (gQ G S' none (gA G s.heap.size)) ([.ref (G.2.1 392), .ref (G.2.1 k1)] : List Value).toArray s 0 0 (gA G s.heap.size)) (F0 m 2 ls []) := by
    intro n
    induction n with
    | zero => intro S x2 H locs ls hw hS hl hf; cases hf
    | succ n hK2 =>
      intro S x2 H locs ls hw hS hl hf
      have hf : Lb_X11_runAll_2 k1 (L_X11_runAll_2 k1 n) S x2 = some S' := hf
      unfold Lb_X11_runAll_2 at hf
      refine lv_iload_n cx.1 cx.2.1 dX11_runAll_2 rfl (lv_at hl 2 rfl) ?_
      refine lv_aload_n cx.1 cx.2.1 dX11_runAll_3 rfl (lv_at hl 1 rfl) ?_
      refine lv_iconst (v := (2 : Int32)) cx.1 cx.2.1 dX11_runAll_4 (by decide) ?_
      obtain ⟨hin, hf⟩ := gck_some hf
      refine g_iald cx hw hk1 (vp_of_inb hin) dX11_runAll_5 ?_
      refine lv_icmp_ge (tgt := 88) cx.1 cx.2.1 dX11_runAll_6 (by decide) (fun hc => ?_) (fun hc => ?_)
      · rw [if_pos hc] at hf
        exact g_vreti cx hr hlk hw hS hf dX11_runAll_88
      · rw [if_neg hc] at hf
        refine lv_aload_n cx.1 cx.2.1 dX11_runAll_9 rfl (lv_at hl 1 rfl) ?_
        refine lv_iload_n cx.1 cx.2.1 dX11_runAll_10 rfl (lv_at hl 2 rfl) ?_
        obtain ⟨v_10, S_9, hv, hf⟩ := gbi_some hf
        refine g_S (As := [.int x2]) (rest := [.ref (G.2.1 k1)]) cx hw hS (c_X11_contractAt l G hM x2 S v_10 S_9 hv) gw_299 gy_X11_contractAt gi_X11_contractAt ⟨Nat.le_of_ble_eq_true rfl, Nat.le_of_ble_eq_true rfl⟩ ⟨Nat.zero_le _, Nat.zero_le _⟩ rfl hl.1 rfl (Nat.le_of_ble_eq_true rfl) dX11_runAll_11 (fun H locs hw hS => ?_)
        refine W.eq (g2 := F0 m 14 ls [.int v_10, .ref (G.2.1 k1)]) rfl ?_
        refine lv_iconst (v := (4 : Int32)) cx.1 cx.2.1 dX11_runAll_14 (by decide) ?_
        refine lv_iadd cx.1 cx.2.1 dX11_runAll_15 ?_
        obtain ⟨hin, hf⟩ := gck_some hf
        refine g_iald cx hw hk1 (vp_of_inb hin) dX11_runAll_16 ?_
        obtain ⟨x3_11, ex3_11, hf⟩ := gvi_ex hf
        refine W.eq (g2 := F0 m 17 ls [.int x3_11]) (by rw [← ex3_11]) ?_
        refine lv_istore_n (lv' := [(3, .int x3_11), (0, .ref (G.2.1 392)), (1, .ref (G.2.1 k1)), (2, .int x2)]) cx.1 cx.2.1 dX11_runAll_17 rfl hl (by decide) rfl (fun ls hl => ?_)
        refine lv_iload_n cx.1 cx.2.1 dX11_runAll_18 rfl (lv_at hl 0 rfl) ?_
        refine lv_bipush (v := (-9 : Int32)) cx.1 cx.2.1 dX11_runAll_19 (by decide) ?_
        refine lv_icmp_ne (tgt := 28) cx.1 cx.2.1 dX11_runAll_21 (by decide) (fun hc => ?_) (fun hc => ?_)
        · rw [if_neg hc] at hf
          refine lv_aload_n cx.1 cx.2.1 dX11_runAll_28 rfl (lv_at hl 2 rfl) ?_
          refine lv_iload_n cx.1 cx.2.1 dX11_runAll_29 rfl (lv_at hl 0 rfl) ?_
          obtain ⟨v_13, S_12, hv, hf⟩ := gbi_some hf
          refine g_S (As := [.ref (G.2.1 k1), .int x3_11]) (rest := []) cx hw hS (c_X11_trainsOf l G hM hk1 x3_11 S_9 v_13 S_12 hv) gw_489 gy_X11_trainsOf gi_X11_trainsOf ⟨Nat.le_of_ble_eq_true rfl, Nat.le_of_ble_eq_true rfl⟩ ⟨Nat.zero_le _, Nat.zero_le _⟩ rfl hl.1 rfl (Nat.le_of_ble_eq_true rfl) dX11_runAll_30 (fun H locs hw hS => ?_)
          refine W.eq (g2 := F0 m 33 ls [.int v_13]) rfl ?_
          refine lv_istore (lv' := [(4, .int v_13), (3, .int x3_11), (0, .ref (G.2.1 392)), (1, .ref (G.2.1 k1)), (2, .int x2)]) cx.1 cx.2.1 dX11_runAll_33 hl (by decide) rfl (fun ls hl => ?_)
          refine lv_iconst (v := (0 : Int32)) cx.1 cx.2.1 dX11_runAll_35 (by decide) ?_
          refine lv_istore (lv' := [(5, .int (0 : Int32)), (4, .int v_13), (3, .int x3_11), (0, .ref (G.2.1 392)), (1, .ref (G.2.1 k1)), (2, .int x2)]) cx.1 cx.2.1 dX11_runAll_36 hl (by decide) rfl (fun ls hl => ?_)
          refine lv_iconst (v := (0 : Int32)) cx.1 cx.2.1 dX11_runAll_38 (by decide) ?_
          refine lv_istore (lv' := [(6, .int (0 : Int32)), (5, .int (0 : Int32)), (4, .int v_13), (3, .int x3_11), (0, .ref (G.2.1 392)), (1, .ref (G.2.1 k1)), (2, .int x2)]) cx.1 cx.2.1 dX11_runAll_39 hl (by decide) rfl (fun ls hl => ?_)
          exact hL_41 (L_X11_runAll_2 k1 n) hK2 gFu S_12 x2 v_13 (0 : Int32) (0 : Int32) _ _ _ hw hS (lv_sub hl [4, 5, 6, 2, 1, 0] rfl) hf
        · rw [if_pos hc] at hf
          refine lv_iconst (v := (0 : Int32)) cx.1 cx.2.1 dX11_runAll_24 (by decide) ?_
          refine lv_goto (tgt := 33) cx.1 cx.2.1 dX11_runAll_25 (by decide) ?_
          refine lv_istore (lv' := [(4, .int (0 : Int32)), (3, .int x3_11), (0, .ref (G.2.1 392)), (1, .ref (G.2.1 k1)), (2, .int x2)]) cx.1 cx.2.1 dX11_runAll_33 hl (by decide) rfl (fun ls hl => ?_)
          refine lv_iconst (v := (0 : Int32)) cx.1 cx.2.1 dX11_runAll_35 (by decide) ?_
          refine lv_istore (lv' := [(5, .int (0 : Int32)), (4, .int (0 : Int32)), (3, .int x3_11), (0, .ref (G.2.1 392)), (1, .ref (G.2.1 k1)), (2, .int x2)]) cx.1 cx.2.1 dX11_runAll_36 hl (by decide) rfl (fun ls hl => ?_)
          refine lv_iconst (v := (0 : Int32)) cx.1 cx.2.1 dX11_runAll_38 (by decide) ?_
          refine lv_istore (lv' := [(6, .int (0 : Int32)), (5, .int (0 : Int32)), (4, .int (0 : Int32)), (3, .int x3_11), (0, .ref (G.2.1 392)), (1, .ref (G.2.1 k1)), (2, .int x2)]) cx.1 cx.2.1 dX11_runAll_39 hl (by decide) rfl (fun ls hl => ?_)
          exact hL_41 (L_X11_runAll_2 k1 n) hK2 gFu S_9 x2 (0 : Int32) (0 : Int32) (0 : Int32) _ _ _ hw hS (lv_sub hl [4, 5, 6, 2, 1, 0] rfl) hf
  have hl : lv_has ls 7 [(0, .ref (G.2.1 392)), (1, .ref (G.2.1 k1))] := hl
  unfold f_X11_runAll at hf
  refine lv_iconst (v := (0 : Int32)) cx.1 cx.2.1 dX11_runAll_0 (by decide) ?_
  refine lv_istore_n (lv' := [(2, .int (0 : Int32)), (0, .ref (G.2.1 392)), (1, .ref (G.2.1 k1))]) cx.1 cx.2.1 dX11_runAll_1 rfl hl (by decide) rfl (fun ls hl => ?_)
  exact hL_2 gFu S (0 : Int32) _ _ _ hw hS (lv_sub hl [1, 2, 0] rfl) hf
set_option maxHeartbeats 4000000 in
set_option maxRecDepth 100000 in
theorem c_X11_runScript (l : Launch) (G : gG) (hM : 402 ≤ gN G) (a1 : Int32) (a2 : Int64) (S : Sg) (r : Int32) (S' : Sg) (hf : f_X11_runScript a1 a2 S = some (r, S')) : Ct l yX11_runScript [Cond.code yX11_runScript cX11_runScript 10 (some .int)] (gR 7 181) G [.ref (G.2.1 392), .int a1, .long a2] S (some (.int r)) S' := by
  refine Ct_of (by decide) (Nat.le_of_ble_eq_true rfl) ?_
  intro p e s m below meth c ls cx hr hlk hw hS hl
  have hN := cx.2.2.2.2.hN
  have hL_84 : ∀ (n : Nat), ∀ (S : Sg) (x1 : Int32) (x4 : Int64) (x6 : Int64) (x8 : Int32) (H : Heap) (locs : List Loc) (ls : Array Slot), gP G S H → va_S (gA G s.heap.size) s.heap H locs → lv_has ls 10 [(0, .ref (G.2.1 392)), (1, .int x1), (4, .long x4), (6, .long x6), (8, .int x8)] → L_X11_runScript_84 n S x1 x4 x6 x8 = some (r, S') → W p l e (gR 7 181) s m ([.ref (G.2.1 392), .int a1, .long a2] : List Value).toArray below meth c H locs 0 0 (MQ below (gQ G S' (some (.int r)) (gA G s.heap.size)) ([.ref (G.2.1 392), .int a1, .long a2] : List Value).toArray s 0 0 (gA G s.heap.size)) (F0 m 84 ls []) := by
    intro n
    induction n with
    | zero => intro S x1 x4 x6 x8 H locs ls hw hS hl hf; cases hf
    | succ n hK84 =>
      intro S x1 x4 x6 x8 H locs ls hw hS hl hf
      have hf : Lb_X11_runScript_84 (L_X11_runScript_84 n) S x1 x4 x6 x8 = some (r, S') := hf
      unfold Lb_X11_runScript_84 at hf
      refine lv_iload cx.1 cx.2.1 dX11_runScript_84 (lv_at hl 4 rfl) ?_
      refine lv_iload_n cx.1 cx.2.1 dX11_runScript_86 rfl (lv_at hl 1 rfl) ?_
      refine lv_icmp_ge (tgt := 150) cx.1 cx.2.1 dX11_runScript_87 (by decide) (fun hc => ?_) (fun hc => ?_)
      · rw [if_pos hc] at hf
        refine lv_bipush (v := (-9 : Int32)) cx.1 cx.2.1 dX11_runScript_150 (by decide) ?_
        exact g_ireti cx hr hlk hw hS hf dX11_runScript_152
      · rw [if_neg hc] at hf
        refine lv_lload cx.1 cx.2.1 dX11_runScript_90 (lv_at hl 2 rfl) ?_
        refine lv_ldc2 cx.1 cx.2.1 cx.2.2.2.1 (cx.2.2.2.2.ts _ gw_1074) dX11_runScript_92 ?_
        refine lv_ldiv cx.1 cx.2.1 dX11_runScript_95 (by decide) ?_
        obtain ⟨x4_1, ex4_1, hf⟩ := gvl_ex hf
        refine W.eq (g2 := F0 m 96 ls [.long x4_1]) (by rw [← ex4_1]) ?_
        refine lv_lstore (lv' := [(4, .long x4_1), (0, .ref (G.2.1 392)), (1, .int x1), (6, .long x6), (8, .int x8)]) cx.1 cx.2.1 dX11_runScript_96 hl (by decide) rfl (fun ls hl => ?_)
        refine lv_lload cx.1 cx.2.1 dX11_runScript_98 (lv_at hl 3 rfl) ?_
        refine lv_lload cx.1 cx.2.1 dX11_runScript_100 (lv_at hl 0 rfl) ?_
        obtain ⟨hne, hf⟩ := gck_some hf
        refine lv_ldiv cx.1 cx.2.1 dX11_runScript_102 (by simpa using hne) ?_
        refine lv_l2i cx.1 cx.2.1 dX11_runScript_103 rfl ?_
        obtain ⟨x9_2, ex9_2, hf⟩ := gvi_ex hf
        refine W.eq (g2 := F0 m 104 ls [.int x9_2]) (by rw [← ex9_2]) ?_
        refine lv_istore (lv' := [(9, .int x9_2), (4, .long x4_1), (0, .ref (G.2.1 392)), (1, .int x1), (6, .long x6), (8, .int x8)]) cx.1 cx.2.1 dX11_runScript_104 hl (by decide) rfl (fun ls hl => ?_)
        refine lv_lload cx.1 cx.2.1 dX11_runScript_106 (lv_at hl 4 rfl) ?_
        refine lv_lload cx.1 cx.2.1 dX11_runScript_108 (lv_at hl 1 rfl) ?_
        obtain ⟨hne, hf⟩ := gck_some hf
        refine lv_lrem cx.1 cx.2.1 dX11_runScript_110 (by simpa using hne) ?_
        obtain ⟨x6_3, ex6_3, hf⟩ := gvl_ex hf
        refine W.eq (g2 := F0 m 111 ls [.long x6_3]) (by rw [← ex6_3]) ?_
        refine lv_lstore (lv' := [(6, .long x6_3), (9, .int x9_2), (4, .long x4_1), (0, .ref (G.2.1 392)), (1, .int x1), (8, .int x8)]) cx.1 cx.2.1 dX11_runScript_111 hl (by decide) rfl (fun ls hl => ?_)
        refine lv_aload_n cx.1 cx.2.1 dX11_runScript_113 rfl (lv_at hl 3 rfl) ?_
        refine lv_iload cx.1 cx.2.1 dX11_runScript_114 (lv_at hl 1 rfl) ?_
        refine lv_sipush (v := (10000 : Int32)) cx.1 cx.2.1 dX11_runScript_116 (by decide) ?_
        refine lv_idiv cx.1 cx.2.1 dX11_runScript_119 (by decide) ?_
        refine lv_iload cx.1 cx.2.1 dX11_runScript_120 (lv_at hl 1 rfl) ?_
        refine lv_sipush (v := (1000 : Int32)) cx.1 cx.2.1 dX11_runScript_122 (by decide) ?_
        refine lv_idiv cx.1 cx.2.1 dX11_runScript_125 (by decide) ?_
        refine lv_bipush (v := (10 : Int32)) cx.1 cx.2.1 dX11_runScript_126 (by decide) ?_
        refine lv_irem cx.1 cx.2.1 dX11_runScript_128 (by decide) ?_
        refine lv_iload cx.1 cx.2.1 dX11_runScript_129 (lv_at hl 1 rfl) ?_
        refine lv_sipush (v := (1000 : Int32)) cx.1 cx.2.1 dX11_runScript_131 (by decide) ?_
        refine lv_irem cx.1 cx.2.1 dX11_runScript_134 (by decide) ?_
        obtain ⟨v_5, S_4, hv, hf⟩ := gbi_some hf
        refine g_V (As := [.int (x9_2 / (10000 : Int32)), .int ((x9_2 / (1000 : Int32)) - (x9_2 / (1000 : Int32)) / (10 : Int32) * (10 : Int32)), .int (x9_2 - x9_2 / (1000 : Int32) * (1000 : Int32))]) (rest := []) cx hw hS (c_X11_does l G hM (x9_2 / (10000 : Int32)) ((x9_2 / (1000 : Int32)) - (x9_2 / (1000 : Int32)) / (10 : Int32) * (10 : Int32)) (x9_2 - x9_2 / (1000 : Int32) * (1000 : Int32)) S v_5 S_4 hv) (by omega) he_c392 rfl rfl gw_1077 gy_X11_does gi_X11_does ⟨Nat.le_of_ble_eq_true rfl, Nat.le_of_ble_eq_true rfl⟩ ⟨Nat.zero_le _, Nat.zero_le _⟩ rfl hl.1 rfl (Nat.le_of_ble_eq_true rfl) dX11_runScript_135 (fun H locs hw hS => ?_)
        refine W.eq (g2 := F0 m 138 ls [.int v_5]) rfl ?_
        refine lv_if_ne (tgt := 144) cx.1 cx.2.1 dX11_runScript_138 (by decide) (fun hc => ?_) (fun hc => ?_)
        · rw [if_neg hc] at hf
          obtain ⟨x8_6, ex8_6, hf⟩ := gvi_ex hf
          refine lv_iinc (v := x8_6) (lv' := [(8, .int x8_6), (6, .long x6_3), (9, .int x9_2), (4, .long x4_1), (0, .ref (G.2.1 392)), (1, .int x1)]) cx.1 cx.2.1 dX11_runScript_144 hl (k := 5) rfl (by rw [← ex8_6]; rfl) (by decide) rfl (fun ls hl => ?_)
          refine lv_goto (tgt := 84) cx.1 cx.2.1 dX11_runScript_147 (by decide) ?_
          exact hK84 S_4 x1 x4_1 x6_3 x8_6 _ _ _ hw hS (lv_sub hl [4, 5, 3, 1, 0] rfl) hf
        · rw [if_pos hc] at hf
          refine lv_iload cx.1 cx.2.1 dX11_runScript_141 (lv_at hl 5 rfl) ?_
          exact g_ireti cx hr hlk hw hS hf dX11_runScript_143
  have hB_57 : ∀ (S : Sg) (x1 : Int32) (x2 : Int64) (x4 : Int64) (t0 : Int32) (H : Heap) (locs : List Loc) (ls : Array Slot), gP G S H → va_S (gA G s.heap.size) s.heap H locs → lv_has ls 10 [(0, .ref (G.2.1 392)), (1, .int x1), (2, .long x2), (4, .long x4)] → B_X11_runScript_57 S x1 x2 x4 t0 = some (r, S') → W p l e (gR 7 181) s m ([.ref (G.2.1 392), .int a1, .long a2] : List Value).toArray below meth c H locs 0 0 (MQ below (gQ G S' (some (.int r)) (gA G s.heap.size)) ([.ref (G.2.1 392), .int a1, .long a2] : List Value).toArray s 0 0 (gA G s.heap.size)) (F0 m 57 ls [.int t0, .ref (G.2.1 392)]) := by
    intro S x1 x2 x4 t0 H locs ls hw hS hl hf
    unfold B_X11_runScript_57 at hf
    obtain ⟨v_8, S_7, hv, hf⟩ := gbi_some hf
    refine g_V (As := [.int t0]) (rest := []) cx hw hS (c_X11_refused l G hM t0 S v_8 S_7 hv) (by omega) he_c392 rfl rfl gw_200 gy_X11_refused gi_X11_refused ⟨Nat.le_of_ble_eq_true rfl, Nat.le_of_ble_eq_true rfl⟩ ⟨Nat.zero_le _, Nat.zero_le _⟩ rfl hl.1 rfl (Nat.le_of_ble_eq_true rfl) dX11_runScript_57 (fun H locs hw hS => ?_)
    refine W.eq (g2 := F0 m 60 ls [.int v_8]) rfl ?_
    refine lv_if_eq (tgt := 65) cx.1 cx.2.1 dX11_runScript_60 (by decide) (fun hc => ?_) (fun hc => ?_)
    · rw [if_pos hc] at hf
      refine lv_aload_n cx.1 cx.2.1 dX11_runScript_65 rfl (lv_at hl 0 rfl) ?_
      refine g_get (C := RX11) (T := TX11) (N := 16) (v := .ref (G.2.1 395)) cx hw inlX11 392 (by omega) he_c392 rfl 5 (by decide) gw_144 rfl rfl dX11_runScript_66 ?_
      refine lv_iconst (v := (0 : Int32)) cx.1 cx.2.1 dX11_runScript_69 (by decide) ?_
      refine lv_aload_n cx.1 cx.2.1 dX11_runScript_70 rfl (lv_at hl 0 rfl) ?_
      refine g_get (C := RX11) (T := TX11) (N := 16) (v := .ref (G.2.1 396)) cx hw inlX11 392 (by omega) he_c392 rfl 6 (by decide) gw_145 rfl rfl dX11_runScript_71 ?_
      refine lv_iconst (v := (0 : Int32)) cx.1 cx.2.1 dX11_runScript_74 (by decide) ?_
      obtain ⟨S_9, hv, hf⟩ := gbv_some hf
      refine g_S (As := [.ref (G.2.1 395), .int (0 : Int32), .ref (G.2.1 396), .int (0 : Int32)]) (rest := []) cx hw hS (c_X11_copyPage l G hM (ia_c395 hM) (ia_c396 hM) (0 : Int32) (0 : Int32) S_7 S_9 hv) gw_350 gy_X11_copyPage gi_X11_copyPage ⟨Nat.le_of_ble_eq_true rfl, Nat.le_of_ble_eq_true rfl⟩ ⟨Nat.zero_le _, Nat.zero_le _⟩ rfl hl.1 rfl (Nat.le_of_ble_eq_true rfl) dX11_runScript_75 (fun H locs hw hS => ?_)
      refine W.eq (g2 := F0 m 78 ls []) rfl ?_
      refine lv_lload_n cx.1 cx.2.1 dX11_runScript_78 rfl (lv_at hl 2 rfl) ?_
      refine lv_lstore (lv' := [(6, .long x2), (0, .ref (G.2.1 392)), (1, .int x1), (2, .long x2), (4, .long x4)]) cx.1 cx.2.1 dX11_runScript_79 hl (by decide) rfl (fun ls hl => ?_)
      refine lv_iconst (v := (0 : Int32)) cx.1 cx.2.1 dX11_runScript_81 (by decide) ?_
      refine lv_istore (lv' := [(8, .int (0 : Int32)), (6, .long x2), (0, .ref (G.2.1 392)), (1, .int x1), (2, .long x2), (4, .long x4)]) cx.1 cx.2.1 dX11_runScript_82 hl (by decide) rfl (fun ls hl => ?_)
      exact hL_84 gFu S_9 x1 x4 x2 (0 : Int32) _ _ _ hw hS (lv_sub hl [2, 3, 5, 1, 0] rfl) hf
    · rw [if_neg hc] at hf
      refine lv_iconst (v := (0 : Int32)) cx.1 cx.2.1 dX11_runScript_63 (by decide) ?_
      exact g_ireti cx hr hlk hw hS hf dX11_runScript_64
  have hB_25 : ∀ (S : Sg) (x1 : Int32) (x2 : Int64) (t0 : Int64) (H : Heap) (locs : List Loc) (ls : Array Slot), gP G S H → va_S (gA G s.heap.size) s.heap H locs → lv_has ls 10 [(0, .ref (G.2.1 392)), (1, .int x1), (2, .long x2)] → B_X11_runScript_25 S x1 x2 t0 = some (r, S') → W p l e (gR 7 181) s m ([.ref (G.2.1 392), .int a1, .long a2] : List Value).toArray below meth c H locs 0 0 (MQ below (gQ G S' (some (.int r)) (gA G s.heap.size)) ([.ref (G.2.1 392), .int a1, .long a2] : List Value).toArray s 0 0 (gA G s.heap.size)) (F0 m 25 ls [.long t0]) := by
    intro S x1 x2 t0 H locs ls hw hS hl hf
    unfold B_X11_runScript_25 at hf
    refine lv_lstore (lv' := [(4, .long t0), (0, .ref (G.2.1 392)), (1, .int x1), (2, .long x2)]) cx.1 cx.2.1 dX11_runScript_25 hl (by decide) rfl (fun ls hl => ?_)
    refine lv_aload_n cx.1 cx.2.1 dX11_runScript_27 rfl (lv_at hl 1 rfl) ?_
    refine lv_iload_n cx.1 cx.2.1 dX11_runScript_28 rfl (lv_at hl 2 rfl) ?_
    refine lv_i2l cx.1 cx.2.1 dX11_runScript_29 rfl ?_
    refine lv_lconst (v := (1 : Int64)) cx.1 cx.2.1 dX11_runScript_30 (by decide) ?_
    refine lv_ldc2 cx.1 cx.2.1 cx.2.2.2.1 (cx.2.2.2.2.ts _ gw_414) dX11_runScript_31 ?_
    obtain ⟨v_11, S_10, hv, hf⟩ := gbi_some hf
    refine g_S (As := [.long x1.toInt64, .long (1 : Int64), .long (3 : Int64)]) (rest := [.ref (G.2.1 392)]) cx hw hS (c_X11_in l G hM x1.toInt64 (1 : Int64) (3 : Int64) S v_11 S_10 hv) gw_197 gy_X11_in gi_X11_in ⟨Nat.le_of_ble_eq_true rfl, Nat.le_of_ble_eq_true rfl⟩ ⟨Nat.zero_le _, Nat.zero_le _⟩ rfl hl.1 rfl (Nat.le_of_ble_eq_true rfl) dX11_runScript_34 (fun H locs hw hS => ?_)
    refine W.eq (g2 := F0 m 37 ls [.int v_11, .ref (G.2.1 392)]) rfl ?_
    refine lv_if_eq (tgt := 56) cx.1 cx.2.1 dX11_runScript_37 (by decide) (fun hc => ?_) (fun hc => ?_)
    · rw [if_pos hc] at hf
      refine lv_iconst (v := (1 : Int32)) cx.1 cx.2.1 dX11_runScript_56 (by decide) ?_
      exact hB_57 S_10 x1 x2 t0 (1 : Int32) _ _ _ hw hS (lv_sub hl [1, 2, 3, 0] rfl) hf
    · rw [if_neg hc] at hf
      refine lv_lload_n cx.1 cx.2.1 dX11_runScript_40 rfl (lv_at hl 3 rfl) ?_
      refine lv_lconst (v := (0 : Int64)) cx.1 cx.2.1 dX11_runScript_41 (by decide) ?_
      refine lv_lload cx.1 cx.2.1 dX11_runScript_42 (lv_at hl 0 rfl) ?_
      refine lv_lconst (v := (1 : Int64)) cx.1 cx.2.1 dX11_runScript_44 (by decide) ?_
      refine lv_lsub cx.1 cx.2.1 dX11_runScript_45 ?_
      obtain ⟨v_13, S_12, hv, hf⟩ := gbi_some hf
      refine g_S (As := [.long x2, .long (0 : Int64), .long (t0 - (1 : Int64))]) (rest := [.ref (G.2.1 392)]) cx hw hS (c_X11_in l G hM x2 (0 : Int64) (t0 - (1 : Int64)) S_10 v_13 S_12 hv) gw_197 gy_X11_in gi_X11_in ⟨Nat.le_of_ble_eq_true rfl, Nat.le_of_ble_eq_true rfl⟩ ⟨Nat.zero_le _, Nat.zero_le _⟩ rfl hl.1 rfl (Nat.le_of_ble_eq_true rfl) dX11_runScript_46 (fun H locs hw hS => ?_)
      refine W.eq (g2 := F0 m 49 ls [.int v_13, .ref (G.2.1 392)]) rfl ?_
      refine lv_if_eq (tgt := 56) cx.1 cx.2.1 dX11_runScript_49 (by decide) (fun hc => ?_) (fun hc => ?_)
      · rw [if_pos hc] at hf
        refine lv_iconst (v := (1 : Int32)) cx.1 cx.2.1 dX11_runScript_56 (by decide) ?_
        exact hB_57 S_12 x1 x2 t0 (1 : Int32) _ _ _ hw hS (lv_sub hl [1, 2, 3, 0] rfl) hf
      · rw [if_neg hc] at hf
        refine lv_iconst (v := (0 : Int32)) cx.1 cx.2.1 dX11_runScript_52 (by decide) ?_
        refine lv_goto (tgt := 57) cx.1 cx.2.1 dX11_runScript_53 (by decide) ?_
        exact hB_57 S_12 x1 x2 t0 (0 : Int32) _ _ _ hw hS (lv_sub hl [1, 2, 3, 0] rfl) hf
  have hl : lv_has ls 10 [(0, .ref (G.2.1 392)), (1, .int a1), (2, .long a2)] := hl
  unfold f_X11_runScript at hf
  refine lv_iload_n cx.1 cx.2.1 dX11_runScript_0 rfl (lv_at hl 1 rfl) ?_
  refine lv_iconst (v := (1 : Int32)) cx.1 cx.2.1 dX11_runScript_1 (by decide) ?_
  refine lv_icmp_ne (tgt := 11) cx.1 cx.2.1 dX11_runScript_2 (by decide) (fun hc => ?_) (fun hc => ?_)
  · rw [if_neg hc] at hf
    refine lv_iload_n cx.1 cx.2.1 dX11_runScript_11 rfl (lv_at hl 1 rfl) ?_
    refine lv_iconst (v := (2 : Int32)) cx.1 cx.2.1 dX11_runScript_12 (by decide) ?_
    refine lv_icmp_ne (tgt := 22) cx.1 cx.2.1 dX11_runScript_13 (by decide) (fun hc => ?_) (fun hc => ?_)
    · rw [if_neg hc] at hf
      refine lv_ldc2 cx.1 cx.2.1 cx.2.2.2.1 (cx.2.2.2.2.ts _ gw_1076) dX11_runScript_22 ?_
      exact hB_25 S a1 a2 (1000000000000000 : Int64) _ _ _ hw hS (lv_sub hl [0, 1, 2] rfl) hf
    · rw [if_pos hc] at hf
      refine lv_ldc2 cx.1 cx.2.1 cx.2.2.2.1 (cx.2.2.2.2.ts _ gw_1075) dX11_runScript_16 ?_
      refine lv_goto (tgt := 25) cx.1 cx.2.1 dX11_runScript_19 (by decide) ?_
      exact hB_25 S a1 a2 (10000000000 : Int64) _ _ _ hw hS (lv_sub hl [0, 1, 2] rfl) hf
  · rw [if_pos hc] at hf
    refine lv_ldc2 cx.1 cx.2.1 cx.2.2.2.1 (cx.2.2.2.2.ts _ gw_1074) dX11_runScript_5 ?_
    refine lv_goto (tgt := 25) cx.1 cx.2.1 dX11_runScript_8 (by decide) ?_
    exact hB_25 S a1 a2 (100000 : Int64) _ _ _ hw hS (lv_sub hl [0, 1, 2] rfl) hf
set_option maxHeartbeats 4000000 in
set_option maxRecDepth 100000 in
theorem c_X11_save (l : Launch) (G : gG) (hM : 402 ≤ gN G) (a1 : Int32) (S : Sg) (r : Int32) (S' : Sg) (hf : f_X11_save a1 S = some (r, S')) : Ct l yX11_save [Cond.code yX11_save cX11_save 2 (some .int)] (gR 1 25) G [.ref (G.2.1 392), .int a1] S (some (.int r)) S' := by
  refine Ct_of (by decide) (Nat.le_of_ble_eq_true rfl) ?_
  intro p e s m below meth c ls cx hr hlk hw hS hl
  have hN := cx.2.2.2.2.hN
  have hB_16 : ∀ (S : Sg) (x1 : Int32) (t0 : Int32) (H : Heap) (locs : List Loc) (ls : Array Slot), gP G S H → va_S (gA G s.heap.size) s.heap H locs → lv_has ls 2 [(0, .ref (G.2.1 392)), (1, .int x1)] → B_X11_save_16 S x1 t0 = some (r, S') → W p l e (gR 1 25) s m ([.ref (G.2.1 392), .int a1] : List Value).toArray below meth c H locs 0 0 (MQ below (gQ G S' (some (.int r)) (gA G s.heap.size)) ([.ref (G.2.1 392), .int a1] : List Value).toArray s 0 0 (gA G s.heap.size)) (F0 m 16 ls [.int t0, .ref (G.2.1 392)]) := by
    intro S x1 t0 H locs ls hw hS hl hf
    unfold B_X11_save_16 at hf
    obtain ⟨v_2, S_1, hv, hf⟩ := gbi_some hf
    refine g_V (As := [.int t0]) (rest := []) cx hw hS (c_X11_refused l G hM t0 S v_2 S_1 hv) (by omega) he_c392 rfl rfl gw_200 gy_X11_refused gi_X11_refused ⟨Nat.le_of_ble_eq_true rfl, Nat.le_of_ble_eq_true rfl⟩ ⟨Nat.zero_le _, Nat.zero_le _⟩ rfl hl.1 rfl (Nat.le_of_ble_eq_true rfl) dX11_save_16 (fun H locs hw hS => ?_)
    refine W.eq (g2 := F0 m 19 ls [.int v_2]) rfl ?_
    refine lv_if_eq (tgt := 24) cx.1 cx.2.1 dX11_save_19 (by decide) (fun hc => ?_) (fun hc => ?_)
    · rw [if_pos hc] at hf
      refine lv_aload_n cx.1 cx.2.1 dX11_save_24 rfl (lv_at hl 0 rfl) ?_
      refine g_get (C := RX11) (T := TX11) (N := 16) (v := .ref (G.2.1 399)) cx hw inlX11 392 (by omega) he_c392 rfl 10 (by decide) gw_149 rfl rfl dX11_save_25 ?_
      refine lv_iload_n cx.1 cx.2.1 dX11_save_28 rfl (lv_at hl 1 rfl) ?_
      refine lv_iconst (v := (1 : Int32)) cx.1 cx.2.1 dX11_save_29 (by decide) ?_
      obtain ⟨hin, hf⟩ := gck_some hf
      obtain ⟨S_3, eS_3, hf⟩ := gst_ex hf
      refine g_zast (n := 2) cx hw hS (by omega) hM (fun _ => rfl) (by decide) (vp_of_inb hin) dX11_save_30 (fun H locs hw hS => ?_)
      rw [eS_3] at hw
      refine lv_aload_n cx.1 cx.2.1 dX11_save_31 rfl (lv_at hl 0 rfl) ?_
      refine g_get (C := RX11) (T := TX11) (N := 16) (v := .ref (G.2.1 395)) cx hw inlX11 392 (by omega) he_c392 rfl 5 (by decide) gw_144 rfl rfl dX11_save_32 ?_
      refine lv_iconst (v := (0 : Int32)) cx.1 cx.2.1 dX11_save_35 (by decide) ?_
      refine lv_aload_n cx.1 cx.2.1 dX11_save_36 rfl (lv_at hl 0 rfl) ?_
      refine g_get (C := RX11) (T := TX11) (N := 16) (v := .ref (G.2.1 398)) cx hw inlX11 392 (by omega) he_c392 rfl 9 (by decide) gw_147 rfl rfl dX11_save_37 ?_
      refine lv_sipush (v := (175 : Int32)) cx.1 cx.2.1 dX11_save_40 (by decide) ?_
      refine lv_iload_n cx.1 cx.2.1 dX11_save_43 rfl (lv_at hl 1 rfl) ?_
      refine lv_imul cx.1 cx.2.1 dX11_save_44 ?_
      obtain ⟨S_4, hv, hf⟩ := gbv_some hf
      refine g_S (As := [.ref (G.2.1 395), .int (0 : Int32), .ref (G.2.1 398), .int ((175 : Int32) * x1)]) (rest := []) cx hw hS (c_X11_copyPage l G hM (ia_c395 hM) (ia_c398 hM) (0 : Int32) ((175 : Int32) * x1) S_3 S_4 hv) gw_350 gy_X11_copyPage gi_X11_copyPage ⟨Nat.le_of_ble_eq_true rfl, Nat.le_of_ble_eq_true rfl⟩ ⟨Nat.zero_le _, Nat.zero_le _⟩ rfl hl.1 rfl (Nat.le_of_ble_eq_true rfl) dX11_save_45 (fun H locs hw hS => ?_)
      refine W.eq (g2 := F0 m 48 ls []) rfl ?_
      refine lv_aload_n cx.1 cx.2.1 dX11_save_48 rfl (lv_at hl 0 rfl) ?_
      refine g_get (C := RX11) (T := TX11) (N := 16) (v := .ref (G.2.1 395)) cx hw inlX11 392 (by omega) he_c392 rfl 5 (by decide) gw_144 rfl rfl dX11_save_49 ?_
      refine lv_iconst (v := (4 : Int32)) cx.1 cx.2.1 dX11_save_52 (by decide) ?_
      obtain ⟨hin, hf⟩ := gck_some hf
      refine g_iald cx hw (ia_c395 hM) (vp_of_inb hin) dX11_save_53 ?_
      exact g_ireti cx hr hlk hw hS hf dX11_save_54
    · rw [if_neg hc] at hf
      refine lv_iconst (v := (0 : Int32)) cx.1 cx.2.1 dX11_save_22 (by decide) ?_
      exact g_ireti cx hr hlk hw hS hf dX11_save_23
  have hl : lv_has ls 2 [(0, .ref (G.2.1 392)), (1, .int a1)] := hl
  unfold f_X11_save at hf
  refine lv_aload_n cx.1 cx.2.1 dX11_save_0 rfl (lv_at hl 0 rfl) ?_
  refine lv_iload_n cx.1 cx.2.1 dX11_save_1 rfl (lv_at hl 1 rfl) ?_
  refine lv_i2l cx.1 cx.2.1 dX11_save_2 rfl ?_
  refine lv_lconst (v := (0 : Int64)) cx.1 cx.2.1 dX11_save_3 (by decide) ?_
  refine lv_lconst (v := (1 : Int64)) cx.1 cx.2.1 dX11_save_4 (by decide) ?_
  obtain ⟨v_6, S_5, hv, hf⟩ := gbi_some hf
  refine g_S (As := [.long a1.toInt64, .long (0 : Int64), .long (1 : Int64)]) (rest := [.ref (G.2.1 392)]) cx hw hS (c_X11_in l G hM a1.toInt64 (0 : Int64) (1 : Int64) S v_6 S_5 hv) gw_197 gy_X11_in gi_X11_in ⟨Nat.le_of_ble_eq_true rfl, Nat.le_of_ble_eq_true rfl⟩ ⟨Nat.zero_le _, Nat.zero_le _⟩ rfl hl.1 rfl (Nat.le_of_ble_eq_true rfl) dX11_save_5 (fun H locs hw hS => ?_)
  refine W.eq (g2 := F0 m 8 ls [.int v_6, .ref (G.2.1 392)]) rfl ?_
  refine lv_if_eq (tgt := 15) cx.1 cx.2.1 dX11_save_8 (by decide) (fun hc => ?_) (fun hc => ?_)
  · rw [if_pos hc] at hf
    refine lv_iconst (v := (1 : Int32)) cx.1 cx.2.1 dX11_save_15 (by decide) ?_
    exact hB_16 S_5 a1 (1 : Int32) _ _ _ hw hS (lv_sub hl [0, 1] rfl) hf
  · rw [if_neg hc] at hf
    refine lv_iconst (v := (0 : Int32)) cx.1 cx.2.1 dX11_save_11 (by decide) ?_
    refine lv_goto (tgt := 16) cx.1 cx.2.1 dX11_save_12 (by decide) ?_
    exact hB_16 S_5 a1 (0 : Int32) _ _ _ hw hS (lv_sub hl [0, 1] rfl) hf
set_option maxHeartbeats 4000000 in
set_option maxRecDepth 100000 in
theorem c_X11_setRent (l : Launch) (G : gG) (hM : 402 ≤ gN G) (a1 : Int32) (a2 : Int32) (S : Sg) (r : Int32) (S' : Sg) (hf : f_X11_setRent a1 a2 S = some (r, S')) : Ct l yX11_setRent [Cond.code yX11_setRent cX11_setRent 4 (some .int)] (gR 2 45) G [.ref (G.2.1 392), .int a1, .int a2] S (some (.int r)) S' := by
  refine Ct_of (by decide) (Nat.le_of_ble_eq_true rfl) ?_
  intro p e s m below meth c ls cx hr hlk hw hS hl
  have hN := cx.2.2.2.2.hN
  have hB_29 : ∀ (S : Sg) (x1 : Int32) (x2 : Int32) (t0 : Int32) (H : Heap) (locs : List Loc) (ls : Array Slot), gP G S H → va_S (gA G s.heap.size) s.heap H locs → lv_has ls 4 [(0, .ref (G.2.1 392)), (1, .int x1), (2, .int x2)] → B_X11_setRent_29 S x1 x2 t0 = some (r, S') → W p l e (gR 2 45) s m ([.ref (G.2.1 392), .int a1, .int a2] : List Value).toArray below meth c H locs 0 0 (MQ below (gQ G S' (some (.int r)) (gA G s.heap.size)) ([.ref (G.2.1 392), .int a1, .int a2] : List Value).toArray s 0 0 (gA G s.heap.size)) (F0 m 29 ls [.int t0, .ref (G.2.1 392)]) := by
    intro S x1 x2 t0 H locs ls hw hS hl hf
    unfold B_X11_setRent_29 at hf
    obtain ⟨v_2, S_1, hv, hf⟩ := gbi_some hf
    refine g_V (As := [.int t0]) (rest := []) cx hw hS (c_X11_refused l G hM t0 S v_2 S_1 hv) (by omega) he_c392 rfl rfl gw_200 gy_X11_refused gi_X11_refused ⟨Nat.le_of_ble_eq_true rfl, Nat.le_of_ble_eq_true rfl⟩ ⟨Nat.zero_le _, Nat.zero_le _⟩ rfl hl.1 rfl (Nat.le_of_ble_eq_true rfl) dX11_setRent_29 (fun H locs hw hS => ?_)
    refine W.eq (g2 := F0 m 32 ls [.int v_2]) rfl ?_
    refine lv_if_eq (tgt := 37) cx.1 cx.2.1 dX11_setRent_32 (by decide) (fun hc => ?_) (fun hc => ?_)
    · rw [if_pos hc] at hf
      refine lv_aload_n cx.1 cx.2.1 dX11_setRent_37 rfl (lv_at hl 0 rfl) ?_
      obtain ⟨S_3, hv, hf⟩ := gbv_some hf
      refine g_V (As := []) (rest := []) cx hw hS (c_X11_note l G hM S_1 S_3 hv) (by omega) he_c392 rfl rfl gw_572 gy_X11_note gi_X11_note ⟨Nat.le_of_ble_eq_true rfl, Nat.le_of_ble_eq_true rfl⟩ ⟨Nat.zero_le _, Nat.zero_le _⟩ rfl hl.1 rfl (Nat.le_of_ble_eq_true rfl) dX11_setRent_38 (fun H locs hw hS => ?_)
      refine W.eq (g2 := F0 m 41 ls []) rfl ?_
      refine lv_aload_n cx.1 cx.2.1 dX11_setRent_41 rfl (lv_at hl 0 rfl) ?_
      refine g_get (C := RX11) (T := TX11) (N := 16) (v := .ref (G.2.1 395)) cx hw inlX11 392 (by omega) he_c392 rfl 5 (by decide) gw_144 rfl rfl dX11_setRent_42 ?_
      refine lv_iload_n cx.1 cx.2.1 dX11_setRent_45 rfl (lv_at hl 1 rfl) ?_
      obtain ⟨v_5, S_4, hv, hf⟩ := gbi_some hf
      refine g_S (As := [.int x1]) (rest := [.ref (G.2.1 395)]) cx hw hS (c_X11_companyAt l G hM x1 S_3 v_5 S_4 hv) gw_155 gy_X11_companyAt gi_X11_companyAt ⟨Nat.le_of_ble_eq_true rfl, Nat.le_of_ble_eq_true rfl⟩ ⟨Nat.zero_le _, Nat.zero_le _⟩ rfl hl.1 rfl (Nat.le_of_ble_eq_true rfl) dX11_setRent_46 (fun H locs hw hS => ?_)
      refine W.eq (g2 := F0 m 49 ls [.int v_5, .ref (G.2.1 395)]) rfl ?_
      refine lv_iconst (v := (1 : Int32)) cx.1 cx.2.1 dX11_setRent_49 (by decide) ?_
      refine lv_iadd cx.1 cx.2.1 dX11_setRent_50 ?_
      obtain ⟨hin, hf⟩ := gck_some hf
      refine g_iald cx hw (ia_c395 hM) (vp_of_inb hin) dX11_setRent_51 ?_
      obtain ⟨x3_6, ex3_6, hf⟩ := gvi_ex hf
      refine W.eq (g2 := F0 m 52 ls [.int x3_6]) (by rw [← ex3_6]) ?_
      refine lv_istore_n (lv' := [(3, .int x3_6), (0, .ref (G.2.1 392)), (1, .int x1), (2, .int x2)]) cx.1 cx.2.1 dX11_setRent_52 rfl hl (by decide) rfl (fun ls hl => ?_)
      refine lv_aload_n cx.1 cx.2.1 dX11_setRent_53 rfl (lv_at hl 1 rfl) ?_
      refine g_get (C := RX11) (T := TX11) (N := 16) (v := .ref (G.2.1 395)) cx hw inlX11 392 (by omega) he_c392 rfl 5 (by decide) gw_144 rfl rfl dX11_setRent_54 ?_
      refine lv_iload_n cx.1 cx.2.1 dX11_setRent_57 rfl (lv_at hl 2 rfl) ?_
      obtain ⟨v_8, S_7, hv, hf⟩ := gbi_some hf
      refine g_S (As := [.int x1]) (rest := [.ref (G.2.1 395)]) cx hw hS (c_X11_companyAt l G hM x1 S_4 v_8 S_7 hv) gw_155 gy_X11_companyAt gi_X11_companyAt ⟨Nat.le_of_ble_eq_true rfl, Nat.le_of_ble_eq_true rfl⟩ ⟨Nat.zero_le _, Nat.zero_le _⟩ rfl hl.1 rfl (Nat.le_of_ble_eq_true rfl) dX11_setRent_58 (fun H locs hw hS => ?_)
      refine W.eq (g2 := F0 m 61 ls [.int v_8, .ref (G.2.1 395)]) rfl ?_
      refine lv_iconst (v := (1 : Int32)) cx.1 cx.2.1 dX11_setRent_61 (by decide) ?_
      refine lv_iadd cx.1 cx.2.1 dX11_setRent_62 ?_
      refine lv_iload_n cx.1 cx.2.1 dX11_setRent_63 rfl (lv_at hl 3 rfl) ?_
      obtain ⟨hin, hf⟩ := gck_some hf
      obtain ⟨S_9, eS_9, hf⟩ := gst_ex hf
      refine g_iast cx hw hS (ia_c395 hM) (vp_of_inb hin) dX11_setRent_64 (fun H locs hw hS => ?_)
      rw [eS_9] at hw
      refine lv_iload_n cx.1 cx.2.1 dX11_setRent_65 rfl (lv_at hl 0 rfl) ?_
      exact g_ireti cx hr hlk hw hS hf dX11_setRent_66
    · rw [if_neg hc] at hf
      refine lv_iconst (v := (0 : Int32)) cx.1 cx.2.1 dX11_setRent_35 (by decide) ?_
      exact g_ireti cx hr hlk hw hS hf dX11_setRent_36
  have hl : lv_has ls 4 [(0, .ref (G.2.1 392)), (1, .int a1), (2, .int a2)] := hl
  unfold f_X11_setRent at hf
  refine lv_aload_n cx.1 cx.2.1 dX11_setRent_0 rfl (lv_at hl 0 rfl) ?_
  refine lv_iload_n cx.1 cx.2.1 dX11_setRent_1 rfl (lv_at hl 1 rfl) ?_
  obtain ⟨v_11, S_10, hv, hf⟩ := gbi_some hf
  refine g_S (As := [.int a1]) (rest := [.ref (G.2.1 392)]) cx hw hS (c_X11_isCompany l G hM a1 S v_11 S_10 hv) gw_446 gy_X11_isCompany gi_X11_isCompany ⟨Nat.le_of_ble_eq_true rfl, Nat.le_of_ble_eq_true rfl⟩ ⟨Nat.zero_le _, Nat.zero_le _⟩ rfl hl.1 rfl (Nat.le_of_ble_eq_true rfl) dX11_setRent_2 (fun H locs hw hS => ?_)
  refine W.eq (g2 := F0 m 5 ls [.int v_11, .ref (G.2.1 392)]) rfl ?_
  refine lv_if_ne (tgt := 12) cx.1 cx.2.1 dX11_setRent_5 (by decide) (fun hc => ?_) (fun hc => ?_)
  · rw [if_neg hc] at hf
    refine lv_iload_n cx.1 cx.2.1 dX11_setRent_12 rfl (lv_at hl 2 rfl) ?_
    refine lv_i2l cx.1 cx.2.1 dX11_setRent_13 rfl ?_
    refine lv_lconst (v := (0 : Int64)) cx.1 cx.2.1 dX11_setRent_14 (by decide) ?_
    refine lv_ldc2 cx.1 cx.2.1 cx.2.2.2.1 (cx.2.2.2.2.ts _ gw_634) dX11_setRent_15 ?_
    obtain ⟨v_13, S_12, hv, hf⟩ := gbi_some hf
    refine g_S (As := [.long a2.toInt64, .long (0 : Int64), .long (9 : Int64)]) (rest := [.ref (G.2.1 392)]) cx hw hS (c_X11_in l G hM a2.toInt64 (0 : Int64) (9 : Int64) S_10 v_13 S_12 hv) gw_197 gy_X11_in gi_X11_in ⟨Nat.le_of_ble_eq_true rfl, Nat.le_of_ble_eq_true rfl⟩ ⟨Nat.zero_le _, Nat.zero_le _⟩ rfl hl.1 rfl (Nat.le_of_ble_eq_true rfl) dX11_setRent_18 (fun H locs hw hS => ?_)
    refine W.eq (g2 := F0 m 21 ls [.int v_13, .ref (G.2.1 392)]) rfl ?_
    refine lv_if_ne (tgt := 28) cx.1 cx.2.1 dX11_setRent_21 (by decide) (fun hc => ?_) (fun hc => ?_)
    · rw [if_neg hc] at hf
      refine lv_iconst (v := (0 : Int32)) cx.1 cx.2.1 dX11_setRent_28 (by decide) ?_
      exact hB_29 S_12 a1 a2 (0 : Int32) _ _ _ hw hS (lv_sub hl [0, 1, 2] rfl) hf
    · rw [if_pos hc] at hf
      refine lv_iconst (v := (2 : Int32)) cx.1 cx.2.1 dX11_setRent_24 (by decide) ?_
      refine lv_goto (tgt := 29) cx.1 cx.2.1 dX11_setRent_25 (by decide) ?_
      exact hB_29 S_12 a1 a2 (2 : Int32) _ _ _ hw hS (lv_sub hl [0, 1, 2] rfl) hf
  · rw [if_pos hc] at hf
    refine lv_iconst (v := (1 : Int32)) cx.1 cx.2.1 dX11_setRent_8 (by decide) ?_
    refine lv_goto (tgt := 29) cx.1 cx.2.1 dX11_setRent_9 (by decide) ?_
    exact hB_29 S_10 a1 a2 (1 : Int32) _ _ _ hw hS (lv_sub hl [0, 1, 2] rfl) hf
set_option maxHeartbeats 4000000 in
set_option maxRecDepth 100000 in
theorem c_X11_worthOf (l : Launch) (G : gG) {k0 : Nat} (hM : 402 ≤ gN G) (hk0 : IA G k0 175) (a1 : Int32) (S : Sg) (r : Int32) (S' : Sg) (hf : f_X11_worthOf k0 a1 S = some (r, S')) : Ct l yX11_worthOf [Cond.code yX11_worthOf cX11_worthOf 2 (some .int)] (gR 3 64) G [.ref (G.2.1 k0), .int a1] S (some (.int r)) S' := by
  refine Ct_of (by decide) (Nat.le_of_ble_eq_true rfl) ?_
  intro p e s m below meth c ls cx hr hlk hw hS hl
  have hN := cx.2.2.2.2.hN
  have hl : lv_has ls 2 [(0, .ref (G.2.1 k0)), (1, .int a1)] := hl
  unfold f_X11_worthOf at hf
  refine lv_aload_n cx.1 cx.2.1 dX11_worthOf_0 rfl (lv_at hl 0 rfl) ?_
  refine lv_iload_n cx.1 cx.2.1 dX11_worthOf_1 rfl (lv_at hl 1 rfl) ?_
  obtain ⟨v_2, S_1, hv, hf⟩ := gbi_some hf
  refine g_S (As := [.int a1]) (rest := [.ref (G.2.1 k0)]) cx hw hS (c_X11_companyAt l G hM a1 S v_2 S_1 hv) gw_155 gy_X11_companyAt gi_X11_companyAt ⟨Nat.le_of_ble_eq_true rfl, Nat.le_of_ble_eq_true rfl⟩ ⟨Nat.zero_le _, Nat.zero_le _⟩ rfl hl.1 rfl (Nat.le_of_ble_eq_true rfl) dX11_worthOf_2 (fun H locs hw hS => ?_)
  refine W.eq (g2 := F0 m 5 ls [.int v_2, .ref (G.2.1 k0)]) rfl ?_
  obtain ⟨hin, hf⟩ := gck_some hf
  refine g_iald cx hw hk0 (vp_of_inb hin) dX11_worthOf_5 ?_
  refine lv_iconst (v := (3 : Int32)) cx.1 cx.2.1 dX11_worthOf_6 (by decide) ?_
  refine lv_aload_n cx.1 cx.2.1 dX11_worthOf_7 rfl (lv_at hl 0 rfl) ?_
  refine lv_iload_n cx.1 cx.2.1 dX11_worthOf_8 rfl (lv_at hl 1 rfl) ?_
  refine lv_iconst (v := (1 : Int32)) cx.1 cx.2.1 dX11_worthOf_9 (by decide) ?_
  obtain ⟨v_4, S_3, hv, hf⟩ := gbi_some hf
  refine g_S (As := [.ref (G.2.1 k0), .int a1, .int (1 : Int32)]) (rest := [.int (3 : Int32), .int (S_1 k0 v_2.toNatClampNeg)]) cx hw hS (c_X11_tracksOf l G hM hk0 a1 (1 : Int32) S_1 v_4 S_3 hv) gw_449 gy_X11_tracksOf gi_X11_tracksOf ⟨Nat.le_of_ble_eq_true rfl, Nat.le_of_ble_eq_true rfl⟩ ⟨Nat.zero_le _, Nat.zero_le _⟩ rfl hl.1 rfl (Nat.le_of_ble_eq_true rfl) dX11_worthOf_10 (fun H locs hw hS => ?_)
  refine W.eq (g2 := F0 m 13 ls [.int v_4, .int (3 : Int32), .int (S_1 k0 v_2.toNatClampNeg)]) rfl ?_
  refine lv_imul cx.1 cx.2.1 dX11_worthOf_13 ?_
  refine lv_iadd cx.1 cx.2.1 dX11_worthOf_14 ?_
  refine lv_bipush (v := (10 : Int32)) cx.1 cx.2.1 dX11_worthOf_15 (by decide) ?_
  refine lv_aload_n cx.1 cx.2.1 dX11_worthOf_17 rfl (lv_at hl 0 rfl) ?_
  refine lv_iload_n cx.1 cx.2.1 dX11_worthOf_18 rfl (lv_at hl 1 rfl) ?_
  obtain ⟨v_6, S_5, hv, hf⟩ := gbi_some hf
  refine g_S (As := [.ref (G.2.1 k0), .int a1]) (rest := [.int (10 : Int32), .int ((S_1 k0 v_2.toNatClampNeg) + ((3 : Int32) * v_4))]) cx hw hS (c_X11_levelsOf l G hM hk0 a1 S_3 v_6 S_5 hv) gw_884 gy_X11_levelsOf gi_X11_levelsOf ⟨Nat.le_of_ble_eq_true rfl, Nat.le_of_ble_eq_true rfl⟩ ⟨Nat.zero_le _, Nat.zero_le _⟩ rfl hl.1 rfl (Nat.le_of_ble_eq_true rfl) dX11_worthOf_19 (fun H locs hw hS => ?_)
  refine W.eq (g2 := F0 m 22 ls [.int v_6, .int (10 : Int32), .int ((S_1 k0 v_2.toNatClampNeg) + ((3 : Int32) * v_4))]) rfl ?_
  refine lv_imul cx.1 cx.2.1 dX11_worthOf_22 ?_
  refine lv_iadd cx.1 cx.2.1 dX11_worthOf_23 ?_
  exact g_ireti cx hr hlk hw hS hf dX11_worthOf_24
set_option maxHeartbeats 4000000 in
set_option maxRecDepth 100000 in
theorem c_X11_simulate (l : Launch) (G : gG) (hM : 402 ≤ gN G) (a1 : Int64) (a3 : Int32) (S : Sg) (r : Int32) (S' : Sg) (hf : f_X11_simulate a1 a3 S = some (r, S')) : Ct l yX11_simulate [Cond.code yX11_simulate cX11_simulate 10 (some .int)] (gR 7 182) G [.ref (G.2.1 392), .long a1, .int a3] S (some (.int r)) S' := by
  refine Ct_of (by decide) (Nat.le_of_ble_eq_true rfl) ?_
  intro p e s m below meth c ls cx hr hlk hw hS hl
  have hN := cx.2.2.2.2.hN
  have hL_286 : ∀ (n : Nat), ∀ (S : Sg) (x6 : Int32) (x7 : Int32) (H : Heap) (locs : List Loc) (ls : Array Slot), gP G S H → va_S (gA G s.heap.size) s.heap H locs → lv_has ls 10 [(0, .ref (G.2.1 392)), (6, .int x6), (7, .int x7)] → L_X11_simulate_286 n S x6 x7 = some (r, S') → W p l e (gR 7 182) s m ([.ref (G.2.1 392), .long a1, .int a3] : List Value).toArray below meth c H locs 0 0 (MQ below (gQ G S' (some (.int r)) (gA G s.heap.size)) ([.ref (G.2.1 392), .long a1, .int a3] : List Value).toArray s 0 0 (gA G s.heap.size)) (F0 m 286 ls []) := by
    intro n
    induction n with
    | zero => intro S x6 x7 H locs ls hw hS hl hf; cases hf
    | succ n hK286 =>
      intro S x6 x7 H locs ls hw hS hl hf
      have hf : Lb_X11_simulate_286 (L_X11_simulate_286 n) S x6 x7 = some (r, S') := hf
      unfold Lb_X11_simulate_286 at hf
      refine lv_iload cx.1 cx.2.1 dX11_simulate_286 (lv_at hl 2 rfl) ?_
      refine lv_iconst (v := (4 : Int32)) cx.1 cx.2.1 dX11_simulate_288 (by decide) ?_
      refine lv_icmp_ge (tgt := 328) cx.1 cx.2.1 dX11_simulate_289 (by decide) (fun hc => ?_) (fun hc => ?_)
      · rw [if_pos hc] at hf
        refine lv_iload cx.1 cx.2.1 dX11_simulate_328 (lv_at hl 1 rfl) ?_
        refine lv_sipush (v := (10000 : Int32)) cx.1 cx.2.1 dX11_simulate_330 (by decide) ?_
        refine lv_aload_n cx.1 cx.2.1 dX11_simulate_333 rfl (lv_at hl 0 rfl) ?_
        refine g_get (C := RX11) (T := TX11) (N := 16) (v := .ref (G.2.1 396)) cx hw inlX11 392 (by omega) he_c392 rfl 6 (by decide) gw_145 rfl rfl dX11_simulate_334 ?_
        refine lv_iconst (v := (3 : Int32)) cx.1 cx.2.1 dX11_simulate_337 (by decide) ?_
        obtain ⟨hin, hf⟩ := gck_some hf
        refine g_iald cx hw (ia_c396 hM) (vp_of_inb hin) dX11_simulate_338 ?_
        refine lv_imul cx.1 cx.2.1 dX11_simulate_339 ?_
        refine lv_iadd cx.1 cx.2.1 dX11_simulate_340 ?_
        exact g_ireti cx hr hlk hw hS hf dX11_simulate_341
      · rw [if_neg hc] at hf
        refine lv_aload_n cx.1 cx.2.1 dX11_simulate_292 rfl (lv_at hl 0 rfl) ?_
        refine g_get (C := RX11) (T := TX11) (N := 16) (v := .ref (G.2.1 396)) cx hw inlX11 392 (by omega) he_c392 rfl 6 (by decide) gw_145 rfl rfl dX11_simulate_293 ?_
        refine lv_iload cx.1 cx.2.1 dX11_simulate_296 (lv_at hl 2 rfl) ?_
        obtain ⟨v_2, S_1, hv, hf⟩ := gbi_some hf
        refine g_S (As := [.ref (G.2.1 396), .int x7]) (rest := []) cx hw hS (c_X11_worthOf l G hM (ia_c396 hM) x7 S v_2 S_1 hv) gw_1010 gy_X11_worthOf gi_X11_worthOf ⟨Nat.le_of_ble_eq_true rfl, Nat.le_of_ble_eq_true rfl⟩ ⟨Nat.zero_le _, Nat.zero_le _⟩ rfl hl.1 rfl (Nat.le_of_ble_eq_true rfl) dX11_simulate_298 (fun H locs hw hS => ?_)
        refine W.eq (g2 := F0 m 301 ls [.int v_2]) rfl ?_
        refine lv_iload cx.1 cx.2.1 dX11_simulate_301 (lv_at hl 1 rfl) ?_
        refine lv_icmp_le (tgt := 318) cx.1 cx.2.1 dX11_simulate_303 (by decide) (fun hc => ?_) (fun hc => ?_)
        · rw [if_pos hc] at hf
          refine lv_iload cx.1 cx.2.1 dX11_simulate_318 (lv_at hl 1 rfl) ?_
          refine lv_istore (lv' := [(6, .int x6), (0, .ref (G.2.1 392)), (7, .int x7)]) cx.1 cx.2.1 dX11_simulate_320 hl (by decide) rfl (fun ls hl => ?_)
          obtain ⟨x7_3, ex7_3, hf⟩ := gvi_ex hf
          refine lv_iinc (v := x7_3) (lv' := [(7, .int x7_3), (6, .int x6), (0, .ref (G.2.1 392))]) cx.1 cx.2.1 dX11_simulate_322 hl (k := 2) rfl (by rw [← ex7_3]; rfl) (by decide) rfl (fun ls hl => ?_)
          refine lv_goto (tgt := 286) cx.1 cx.2.1 dX11_simulate_325 (by decide) ?_
          exact hK286 S_1 x6 x7_3 _ _ _ hw hS (lv_sub hl [2, 1, 0] rfl) hf
        · rw [if_neg hc] at hf
          refine lv_aload_n cx.1 cx.2.1 dX11_simulate_306 rfl (lv_at hl 0 rfl) ?_
          refine g_get (C := RX11) (T := TX11) (N := 16) (v := .ref (G.2.1 396)) cx hw inlX11 392 (by omega) he_c392 rfl 6 (by decide) gw_145 rfl rfl dX11_simulate_307 ?_
          refine lv_iload cx.1 cx.2.1 dX11_simulate_310 (lv_at hl 2 rfl) ?_
          obtain ⟨v_5, S_4, hv, hf⟩ := gbi_some hf
          refine g_S (As := [.ref (G.2.1 396), .int x7]) (rest := []) cx hw hS (c_X11_worthOf l G hM (ia_c396 hM) x7 S_1 v_5 S_4 hv) gw_1010 gy_X11_worthOf gi_X11_worthOf ⟨Nat.le_of_ble_eq_true rfl, Nat.le_of_ble_eq_true rfl⟩ ⟨Nat.zero_le _, Nat.zero_le _⟩ rfl hl.1 rfl (Nat.le_of_ble_eq_true rfl) dX11_simulate_312 (fun H locs hw hS => ?_)
          refine W.eq (g2 := F0 m 315 ls [.int v_5]) rfl ?_
          refine lv_goto (tgt := 320) cx.1 cx.2.1 dX11_simulate_315 (by decide) ?_
          refine lv_istore (lv' := [(6, .int v_5), (0, .ref (G.2.1 392)), (7, .int x7)]) cx.1 cx.2.1 dX11_simulate_320 hl (by decide) rfl (fun ls hl => ?_)
          obtain ⟨x7_6, ex7_6, hf⟩ := gvi_ex hf
          refine lv_iinc (v := x7_6) (lv' := [(7, .int x7_6), (6, .int v_5), (0, .ref (G.2.1 392))]) cx.1 cx.2.1 dX11_simulate_322 hl (k := 2) rfl (by rw [← ex7_6]; rfl) (by decide) rfl (fun ls hl => ?_)
          refine lv_goto (tgt := 286) cx.1 cx.2.1 dX11_simulate_325 (by decide) ?_
          exact hK286 S_4 v_5 x7_6 _ _ _ hw hS (lv_sub hl [2, 1, 0] rfl) hf
  have hB_251 : ∀ (K45 : Sg → Int32 → Int64 → Int32 → Option (Int32 × Sg)) (hK45 : ∀ (S : Sg) (x3 : Int32) (x4 : Int64) (x6 : Int32) (H : Heap) (locs : List Loc) (ls : Array Slot), gP G S H → va_S (gA G s.heap.size) s.heap H locs → lv_has ls 10 [(0, .ref (G.2.1 392)), (3, .int x3), (4, .long x4), (6, .int x6)] → K45 S x3 x4 x6 = some (r, S') → W p l e (gR 7 182) s m ([.ref (G.2.1 392), .long a1, .int a3] : List Value).toArray below meth c H locs 0 0 (MQ below (gQ G S' (some (.int r)) (gA G s.heap.size)) ([.ref (G.2.1 392), .long a1, .int a3] : List Value).toArray s 0 0 (gA G s.heap.size)) (F0 m 45 ls [])), ∀ (S : Sg) (x3 : Int32) (x4 : Int64) (x6 : Int32) (H : Heap) (locs : List Loc) (ls : Array Slot), gP G S H → va_S (gA G s.heap.size) s.heap H locs → lv_has ls 10 [(0, .ref (G.2.1 392)), (3, .int x3), (4, .long x4), (6, .int x6)] → B_X11_simulate_251 K45 S x3 x4 x6 = some (r, S') → W p l e (gR 7 182) s m ([.ref (G.2.1 392), .long a1, .int a3] : List Value).toArray below meth c H locs 0 0 (MQ below (gQ G S' (some (.int r)) (gA G s.heap.size)) ([.ref (G.2.1 392), .long a1, .int a3] : List Value).toArray s 0 0 (gA G s.heap.size)) (F0 m 251 ls []) := by
    intro K45 hK45 S x3 x4 x6 H locs ls hw hS hl hf
    unfold B_X11_simulate_251 at hf
    refine lv_aload_n cx.1 cx.2.1 dX11_simulate_251 rfl (lv_at hl 0 rfl) ?_
    refine lv_aload_n cx.1 cx.2.1 dX11_simulate_252 rfl (lv_at hl 0 rfl) ?_
    refine g_get (C := RX11) (T := TX11) (N := 16) (v := .ref (G.2.1 396)) cx hw inlX11 392 (by omega) he_c392 rfl 6 (by decide) gw_145 rfl rfl dX11_simulate_253 ?_
    obtain ⟨S_7, hv, hf⟩ := gbv_some hf
    refine g_V (As := [.ref (G.2.1 396)]) (rest := []) cx hw hS (c_X11_runAll l G hM (ia_c396 hM) S S_7 hv) (by omega) he_c392 rfl rfl gw_1114 gy_X11_runAll gi_X11_runAll ⟨Nat.le_of_ble_eq_true rfl, Nat.le_of_ble_eq_true rfl⟩ ⟨Nat.zero_le _, Nat.zero_le _⟩ rfl hl.1 rfl (Nat.le_of_ble_eq_true rfl) dX11_simulate_256 (fun H locs hw hS => ?_)
    refine W.eq (g2 := F0 m 259 ls []) rfl ?_
    refine lv_aload_n cx.1 cx.2.1 dX11_simulate_259 rfl (lv_at hl 0 rfl) ?_
    refine g_get (C := RX11) (T := TX11) (N := 16) (v := .ref (G.2.1 396)) cx hw inlX11 392 (by omega) he_c392 rfl 6 (by decide) gw_145 rfl rfl dX11_simulate_260 ?_
    obtain ⟨v_9, S_8, hv, hf⟩ := gbi_some hf
    refine g_S (As := [.ref (G.2.1 396)]) (rest := []) cx hw hS (c_X11_endOn l G hM (ia_c396 hM) S_7 v_9 S_8 hv) gw_875 gy_X11_endOn gi_X11_endOn ⟨Nat.le_of_ble_eq_true rfl, Nat.le_of_ble_eq_true rfl⟩ ⟨Nat.zero_le _, Nat.zero_le _⟩ rfl hl.1 rfl (Nat.le_of_ble_eq_true rfl) dX11_simulate_263 (fun H locs hw hS => ?_)
    refine W.eq (g2 := F0 m 266 ls [.int v_9]) rfl ?_
    refine lv_pop cx.1 cx.2.1 dX11_simulate_266 rfl ?_
    obtain ⟨x6_10, ex6_10, hf⟩ := gvi_ex hf
    refine lv_iinc (v := x6_10) (lv' := [(6, .int x6_10), (0, .ref (G.2.1 392)), (3, .int x3), (4, .long x4)]) cx.1 cx.2.1 dX11_simulate_267 hl (k := 3) rfl (by rw [← ex6_10]; rfl) (by decide) rfl (fun ls hl => ?_)
    refine lv_goto (tgt := 45) cx.1 cx.2.1 dX11_simulate_270 (by decide) ?_
    exact hK45 S_8 x3 x4 x6_10 _ _ _ hw hS (lv_sub hl [1, 2, 3, 0] rfl) hf
  have hB_195 : ∀ (K45 : Sg → Int32 → Int64 → Int32 → Option (Int32 × Sg)) (hK45 : ∀ (S : Sg) (x3 : Int32) (x4 : Int64) (x6 : Int32) (H : Heap) (locs : List Loc) (ls : Array Slot), gP G S H → va_S (gA G s.heap.size) s.heap H locs → lv_has ls 10 [(0, .ref (G.2.1 392)), (3, .int x3), (4, .long x4), (6, .int x6)] → K45 S x3 x4 x6 = some (r, S') → W p l e (gR 7 182) s m ([.ref (G.2.1 392), .long a1, .int a3] : List Value).toArray below meth c H locs 0 0 (MQ below (gQ G S' (some (.int r)) (gA G s.heap.size)) ([.ref (G.2.1 392), .long a1, .int a3] : List Value).toArray s 0 0 (gA G s.heap.size)) (F0 m 45 ls [])), ∀ (S : Sg) (x3 : Int32) (x4 : Int64) (x6 : Int32) (x7 : Int32) (x8 : Int32) (x9 : Int32) (H : Heap) (locs : List Loc) (ls : Array Slot), gP G S H → va_S (gA G s.heap.size) s.heap H locs → lv_has ls 10 [(0, .ref (G.2.1 392)), (3, .int x3), (4, .long x4), (6, .int x6), (7, .int x7), (8, .int x8), (9, .int x9)] → B_X11_simulate_195 K45 S x3 x4 x6 x7 x8 x9 = some (r, S') → W p l e (gR 7 182) s m ([.ref (G.2.1 392), .long a1, .int a3] : List Value).toArray below meth c H locs 0 0 (MQ below (gQ G S' (some (.int r)) (gA G s.heap.size)) ([.ref (G.2.1 392), .long a1, .int a3] : List Value).toArray s 0 0 (gA G s.heap.size)) (F0 m 195 ls []) := by
    intro K45 hK45 S x3 x4 x6 x7 x8 x9 H locs ls hw hS hl hf
    unfold B_X11_simulate_195 at hf
    refine lv_iload cx.1 cx.2.1 dX11_simulate_195 (lv_at hl 4 rfl) ?_
    refine lv_bipush (v := (8 : Int32)) cx.1 cx.2.1 dX11_simulate_197 (by decide) ?_
    refine lv_irem cx.1 cx.2.1 dX11_simulate_199 (by decide) ?_
    refine lv_iconst (v := (2 : Int32)) cx.1 cx.2.1 dX11_simulate_200 (by decide) ?_
    refine lv_icmp_ne (tgt := 251) cx.1 cx.2.1 dX11_simulate_201 (by decide) (fun hc => ?_) (fun hc => ?_)
    · rw [if_neg hc] at hf
      exact hB_251 K45 hK45 S x3 x4 x6 _ _ _ hw hS (lv_sub hl [0, 1, 2, 3] rfl) hf
    · rw [if_pos hc] at hf
      refine lv_aload_n cx.1 cx.2.1 dX11_simulate_204 rfl (lv_at hl 0 rfl) ?_
      refine g_get (C := RX11) (T := TX11) (N := 16) (v := .ref (G.2.1 396)) cx hw inlX11 392 (by omega) he_c392 rfl 6 (by decide) gw_145 rfl rfl dX11_simulate_205 ?_
      refine lv_iconst (v := (2 : Int32)) cx.1 cx.2.1 dX11_simulate_208 (by decide) ?_
      obtain ⟨hin, hf⟩ := gck_some hf
      refine g_iald cx hw (ia_c396 hM) (vp_of_inb hin) dX11_simulate_209 ?_
      refine lv_if_le (tgt := 251) cx.1 cx.2.1 dX11_simulate_210 (by decide) (fun hc => ?_) (fun hc => ?_)
      · rw [if_pos hc] at hf
        exact hB_251 K45 hK45 S x3 x4 x6 _ _ _ hw hS (lv_sub hl [0, 1, 2, 3] rfl) hf
      · rw [if_neg hc] at hf
        refine lv_aload_n cx.1 cx.2.1 dX11_simulate_213 rfl (lv_at hl 0 rfl) ?_
        refine g_get (C := RX11) (T := TX11) (N := 16) (v := .ref (G.2.1 396)) cx hw inlX11 392 (by omega) he_c392 rfl 6 (by decide) gw_145 rfl rfl dX11_simulate_214 ?_
        refine lv_iload cx.1 cx.2.1 dX11_simulate_217 (lv_at hl 6 rfl) ?_
        refine lv_aload_n cx.1 cx.2.1 dX11_simulate_219 rfl (lv_at hl 0 rfl) ?_
        refine g_get (C := RX11) (T := TX11) (N := 16) (v := .ref (G.2.1 396)) cx hw inlX11 392 (by omega) he_c392 rfl 6 (by decide) gw_145 rfl rfl dX11_simulate_220 ?_
        refine lv_iconst (v := (2 : Int32)) cx.1 cx.2.1 dX11_simulate_223 (by decide) ?_
        obtain ⟨hin, hf⟩ := gck_some hf
        refine g_iald cx hw (ia_c396 hM) (vp_of_inb hin) dX11_simulate_224 ?_
        obtain ⟨hne, hf⟩ := gck_some hf
        refine lv_irem cx.1 cx.2.1 dX11_simulate_225 (by simpa using hne) ?_
        obtain ⟨v_12, S_11, hv, hf⟩ := gbi_some hf
        refine g_S (As := [.ref (G.2.1 396), .int (x9 - x9 / (S 396 (2 : Int32).toNatClampNeg) * (S 396 (2 : Int32).toNatClampNeg))]) (rest := []) cx hw hS (c_X11_canTake l G hM (ia_c396 hM) (x9 - x9 / (S 396 (2 : Int32).toNatClampNeg) * (S 396 (2 : Int32).toNatClampNeg)) S v_12 S_11 hv) gw_684 gy_X11_canTake gi_X11_canTake ⟨Nat.le_of_ble_eq_true rfl, Nat.le_of_ble_eq_true rfl⟩ ⟨Nat.zero_le _, Nat.zero_le _⟩ rfl hl.1 rfl (Nat.le_of_ble_eq_true rfl) dX11_simulate_226 (fun H locs hw hS => ?_)
        refine W.eq (g2 := F0 m 229 ls [.int v_12]) rfl ?_
        refine lv_if_eq (tgt := 251) cx.1 cx.2.1 dX11_simulate_229 (by decide) (fun hc => ?_) (fun hc => ?_)
        · rw [if_pos hc] at hf
          exact hB_251 K45 hK45 S_11 x3 x4 x6 _ _ _ hw hS (lv_sub hl [0, 1, 2, 3] rfl) hf
        · rw [if_neg hc] at hf
          refine lv_aload_n cx.1 cx.2.1 dX11_simulate_232 rfl (lv_at hl 0 rfl) ?_
          refine g_get (C := RX11) (T := TX11) (N := 16) (v := .ref (G.2.1 396)) cx hw inlX11 392 (by omega) he_c392 rfl 6 (by decide) gw_145 rfl rfl dX11_simulate_233 ?_
          refine lv_iload cx.1 cx.2.1 dX11_simulate_236 (lv_at hl 5 rfl) ?_
          refine lv_iload cx.1 cx.2.1 dX11_simulate_238 (lv_at hl 6 rfl) ?_
          refine lv_aload_n cx.1 cx.2.1 dX11_simulate_240 rfl (lv_at hl 0 rfl) ?_
          refine g_get (C := RX11) (T := TX11) (N := 16) (v := .ref (G.2.1 396)) cx hw inlX11 392 (by omega) he_c392 rfl 6 (by decide) gw_145 rfl rfl dX11_simulate_241 ?_
          refine lv_iconst (v := (2 : Int32)) cx.1 cx.2.1 dX11_simulate_244 (by decide) ?_
          obtain ⟨hin, hf⟩ := gck_some hf
          refine g_iald cx hw (ia_c396 hM) (vp_of_inb hin) dX11_simulate_245 ?_
          obtain ⟨hne, hf⟩ := gck_some hf
          refine lv_irem cx.1 cx.2.1 dX11_simulate_246 (by simpa using hne) ?_
          obtain ⟨v_14, S_13, hv, hf⟩ := gbi_some hf
          refine g_S (As := [.ref (G.2.1 396), .int x8, .int (x9 - x9 / (S_11 396 (2 : Int32).toNatClampNeg) * (S_11 396 (2 : Int32).toNatClampNeg))]) (rest := []) cx hw hS (c_X11_takeOn l G hM (ia_c396 hM) x8 (x9 - x9 / (S_11 396 (2 : Int32).toNatClampNeg) * (S_11 396 (2 : Int32).toNatClampNeg)) S_11 v_14 S_13 hv) gw_687 gy_X11_takeOn gi_X11_takeOn ⟨Nat.le_of_ble_eq_true rfl, Nat.le_of_ble_eq_true rfl⟩ ⟨Nat.zero_le _, Nat.zero_le _⟩ rfl hl.1 rfl (Nat.le_of_ble_eq_true rfl) dX11_simulate_247 (fun H locs hw hS => ?_)
          refine W.eq (g2 := F0 m 250 ls [.int v_14]) rfl ?_
          refine lv_pop cx.1 cx.2.1 dX11_simulate_250 rfl ?_
          exact hB_251 K45 hK45 S_13 x3 x4 x6 _ _ _ hw hS (lv_sub hl [0, 1, 2, 3] rfl) hf
  have hB_134 : ∀ (K45 : Sg → Int32 → Int64 → Int32 → Option (Int32 × Sg)) (hK45 : ∀ (S : Sg) (x3 : Int32) (x4 : Int64) (x6 : Int32) (H : Heap) (locs : List Loc) (ls : Array Slot), gP G S H → va_S (gA G s.heap.size) s.heap H locs → lv_has ls 10 [(0, .ref (G.2.1 392)), (3, .int x3), (4, .long x4), (6, .int x6)] → K45 S x3 x4 x6 = some (r, S') → W p l e (gR 7 182) s m ([.ref (G.2.1 392), .long a1, .int a3] : List Value).toArray below meth c H locs 0 0 (MQ below (gQ G S' (some (.int r)) (gA G s.heap.size)) ([.ref (G.2.1 392), .long a1, .int a3] : List Value).toArray s 0 0 (gA G s.heap.size)) (F0 m 45 ls [])), ∀ (S : Sg) (x3 : Int32) (x4 : Int64) (x6 : Int32) (x7 : Int32) (x8 : Int32) (x9 : Int32) (H : Heap) (locs : List Loc) (ls : Array Slot), gP G S H → va_S (gA G s.heap.size) s.heap H locs → lv_has ls 10 [(0, .ref (G.2.1 392)), (3, .int x3), (4, .long x4), (6, .int x6), (7, .int x7), (8, .int x8), (9, .int x9)] → B_X11_simulate_134 K45 S x3 x4 x6 x7 x8 x9 = some (r, S') → W p l e (gR 7 182) s m ([.ref (G.2.1 392), .long a1, .int a3] : List Value).toArray below meth c H locs 0 0 (MQ below (gQ G S' (some (.int r)) (gA G s.heap.size)) ([.ref (G.2.1 392), .long a1, .int a3] : List Value).toArray s 0 0 (gA G s.heap.size)) (F0 m 134 ls []) := by
    intro K45 hK45 S x3 x4 x6 x7 x8 x9 H locs ls hw hS hl hf
    unfold B_X11_simulate_134 at hf
    refine lv_iload cx.1 cx.2.1 dX11_simulate_134 (lv_at hl 4 rfl) ?_
    refine lv_bipush (v := (8 : Int32)) cx.1 cx.2.1 dX11_simulate_136 (by decide) ?_
    refine lv_irem cx.1 cx.2.1 dX11_simulate_138 (by decide) ?_
    refine lv_iconst (v := (1 : Int32)) cx.1 cx.2.1 dX11_simulate_139 (by decide) ?_
    refine lv_icmp_ne (tgt := 195) cx.1 cx.2.1 dX11_simulate_140 (by decide) (fun hc => ?_) (fun hc => ?_)
    · rw [if_neg hc] at hf
      exact hB_195 K45 hK45 S x3 x4 x6 x7 x8 x9 _ _ _ hw hS (lv_sub hl [0, 1, 2, 3, 4, 5, 6] rfl) hf
    · rw [if_pos hc] at hf
      refine lv_aload_n cx.1 cx.2.1 dX11_simulate_143 rfl (lv_at hl 0 rfl) ?_
      refine g_get (C := RX11) (T := TX11) (N := 16) (v := .ref (G.2.1 396)) cx hw inlX11 392 (by omega) he_c392 rfl 6 (by decide) gw_145 rfl rfl dX11_simulate_144 ?_
      refine lv_iconst (v := (1 : Int32)) cx.1 cx.2.1 dX11_simulate_147 (by decide) ?_
      obtain ⟨hin, hf⟩ := gck_some hf
      refine g_iald cx hw (ia_c396 hM) (vp_of_inb hin) dX11_simulate_148 ?_
      refine lv_if_le (tgt := 195) cx.1 cx.2.1 dX11_simulate_149 (by decide) (fun hc => ?_) (fun hc => ?_)
      · rw [if_pos hc] at hf
        exact hB_195 K45 hK45 S x3 x4 x6 x7 x8 x9 _ _ _ hw hS (lv_sub hl [0, 1, 2, 3, 4, 5, 6] rfl) hf
      · rw [if_neg hc] at hf
        refine lv_aload_n cx.1 cx.2.1 dX11_simulate_152 rfl (lv_at hl 0 rfl) ?_
        refine g_get (C := RX11) (T := TX11) (N := 16) (v := .ref (G.2.1 396)) cx hw inlX11 392 (by omega) he_c392 rfl 6 (by decide) gw_145 rfl rfl dX11_simulate_153 ?_
        refine lv_iload cx.1 cx.2.1 dX11_simulate_156 (lv_at hl 5 rfl) ?_
        refine lv_iload cx.1 cx.2.1 dX11_simulate_158 (lv_at hl 6 rfl) ?_
        refine lv_aload_n cx.1 cx.2.1 dX11_simulate_160 rfl (lv_at hl 0 rfl) ?_
        refine g_get (C := RX11) (T := TX11) (N := 16) (v := .ref (G.2.1 396)) cx hw inlX11 392 (by omega) he_c392 rfl 6 (by decide) gw_145 rfl rfl dX11_simulate_161 ?_
        refine lv_iconst (v := (1 : Int32)) cx.1 cx.2.1 dX11_simulate_164 (by decide) ?_
        obtain ⟨hin, hf⟩ := gck_some hf
        refine g_iald cx hw (ia_c396 hM) (vp_of_inb hin) dX11_simulate_165 ?_
        obtain ⟨hne, hf⟩ := gck_some hf
        refine lv_irem cx.1 cx.2.1 dX11_simulate_166 (by simpa using hne) ?_
        obtain ⟨v_16, S_15, hv, hf⟩ := gbi_some hf
        refine g_S (As := [.ref (G.2.1 396), .int x8, .int (x9 - x9 / (S 396 (1 : Int32).toNatClampNeg) * (S 396 (1 : Int32).toNatClampNeg))]) (rest := []) cx hw hS (c_X11_canBuyTrack l G hM (ia_c396 hM) x8 (x9 - x9 / (S 396 (1 : Int32).toNatClampNeg) * (S 396 (1 : Int32).toNatClampNeg)) S v_16 S_15 hv) gw_569 gy_X11_canBuyTrack gi_X11_canBuyTrack ⟨Nat.le_of_ble_eq_true rfl, Nat.le_of_ble_eq_true rfl⟩ ⟨Nat.zero_le _, Nat.zero_le _⟩ rfl hl.1 rfl (Nat.le_of_ble_eq_true rfl) dX11_simulate_167 (fun H locs hw hS => ?_)
        refine W.eq (g2 := F0 m 170 ls [.int v_16]) rfl ?_
        refine lv_if_eq (tgt := 195) cx.1 cx.2.1 dX11_simulate_170 (by decide) (fun hc => ?_) (fun hc => ?_)
        · rw [if_pos hc] at hf
          exact hB_195 K45 hK45 S_15 x3 x4 x6 x7 x8 x9 _ _ _ hw hS (lv_sub hl [0, 1, 2, 3, 4, 5, 6] rfl) hf
        · rw [if_neg hc] at hf
          refine lv_aload_n cx.1 cx.2.1 dX11_simulate_173 rfl (lv_at hl 0 rfl) ?_
          refine g_get (C := RX11) (T := TX11) (N := 16) (v := .ref (G.2.1 396)) cx hw inlX11 392 (by omega) he_c392 rfl 6 (by decide) gw_145 rfl rfl dX11_simulate_174 ?_
          refine lv_iload cx.1 cx.2.1 dX11_simulate_177 (lv_at hl 5 rfl) ?_
          refine lv_iload cx.1 cx.2.1 dX11_simulate_179 (lv_at hl 6 rfl) ?_
          refine lv_aload_n cx.1 cx.2.1 dX11_simulate_181 rfl (lv_at hl 0 rfl) ?_
          refine g_get (C := RX11) (T := TX11) (N := 16) (v := .ref (G.2.1 396)) cx hw inlX11 392 (by omega) he_c392 rfl 6 (by decide) gw_145 rfl rfl dX11_simulate_182 ?_
          refine lv_iconst (v := (1 : Int32)) cx.1 cx.2.1 dX11_simulate_185 (by decide) ?_
          obtain ⟨hin, hf⟩ := gck_some hf
          refine g_iald cx hw (ia_c396 hM) (vp_of_inb hin) dX11_simulate_186 ?_
          obtain ⟨hne, hf⟩ := gck_some hf
          refine lv_irem cx.1 cx.2.1 dX11_simulate_187 (by simpa using hne) ?_
          obtain ⟨v_18, S_17, hv, hf⟩ := gbi_some hf
          refine g_S (As := [.ref (G.2.1 396), .int x8, .int (x9 - x9 / (S_15 396 (1 : Int32).toNatClampNeg) * (S_15 396 (1 : Int32).toNatClampNeg))]) (rest := []) cx hw hS (c_X11_buyTrackOn l G hM (ia_c396 hM) x8 (x9 - x9 / (S_15 396 (1 : Int32).toNatClampNeg) * (S_15 396 (1 : Int32).toNatClampNeg)) S_15 v_18 S_17 hv) gw_576 gy_X11_buyTrackOn gi_X11_buyTrackOn ⟨Nat.le_of_ble_eq_true rfl, Nat.le_of_ble_eq_true rfl⟩ ⟨Nat.zero_le _, Nat.zero_le _⟩ rfl hl.1 rfl (Nat.le_of_ble_eq_true rfl) dX11_simulate_188 (fun H locs hw hS => ?_)
          refine W.eq (g2 := F0 m 191 ls [.int v_18]) rfl ?_
          refine lv_pop cx.1 cx.2.1 dX11_simulate_191 rfl ?_
          refine lv_goto (tgt := 251) cx.1 cx.2.1 dX11_simulate_192 (by decide) ?_
          exact hB_251 K45 hK45 S_17 x3 x4 x6 _ _ _ hw hS (lv_sub hl [0, 1, 2, 3] rfl) hf
  have hL_45 : ∀ (n : Nat), ∀ (S : Sg) (x3 : Int32) (x4 : Int64) (x6 : Int32) (H : Heap) (locs : List Loc) (ls : Array Slot), gP G S H → va_S (gA G s.heap.size) s.heap H locs → lv_has ls 10 [(0, .ref (G.2.1 392)), (3, .int x3), (4, .long x4), (6, .int x6)] → L_X11_simulate_45 n S x3 x4 x6 = some (r, S') → W p l e (gR 7 182) s m ([.ref (G.2.1 392), .long a1, .int a3] : List Value).toArray below meth c H locs 0 0 (MQ below (gQ G S' (some (.int r)) (gA G s.heap.size)) ([.ref (G.2.1 392), .long a1, .int a3] : List Value).toArray s 0 0 (gA G s.heap.size)) (F0 m 45 ls []) := by
    intro n
    induction n with
    | zero => intro S x3 x4 x6 H locs ls hw hS hl hf; cases hf
    | succ n hK45 =>
      intro S x3 x4 x6 H locs ls hw hS hl hf
      have hf : Lb_X11_simulate_45 (L_X11_simulate_45 n) S x3 x4 x6 = some (r, S') := hf
      unfold Lb_X11_simulate_45 at hf
      refine lv_iload cx.1 cx.2.1 dX11_simulate_45 (lv_at hl 3 rfl) ?_
      refine lv_iload_n cx.1 cx.2.1 dX11_simulate_47 rfl (lv_at hl 1 rfl) ?_
      refine lv_icmp_ge (tgt := 273) cx.1 cx.2.1 dX11_simulate_48 (by decide) (fun hc => ?_) (fun hc => ?_)
      · rw [if_pos hc] at hf
        refine lv_aload_n cx.1 cx.2.1 dX11_simulate_273 rfl (lv_at hl 0 rfl) ?_
        refine g_get (C := RX11) (T := TX11) (N := 16) (v := .ref (G.2.1 396)) cx hw inlX11 392 (by omega) he_c392 rfl 6 (by decide) gw_145 rfl rfl dX11_simulate_274 ?_
        refine lv_iconst (v := (0 : Int32)) cx.1 cx.2.1 dX11_simulate_277 (by decide) ?_
        obtain ⟨v_20, S_19, hv, hf⟩ := gbi_some hf
        refine g_S (As := [.ref (G.2.1 396), .int (0 : Int32)]) (rest := []) cx hw hS (c_X11_worthOf l G hM (ia_c396 hM) (0 : Int32) S v_20 S_19 hv) gw_1010 gy_X11_worthOf gi_X11_worthOf ⟨Nat.le_of_ble_eq_true rfl, Nat.le_of_ble_eq_true rfl⟩ ⟨Nat.zero_le _, Nat.zero_le _⟩ rfl hl.1 rfl (Nat.le_of_ble_eq_true rfl) dX11_simulate_278 (fun H locs hw hS => ?_)
        refine W.eq (g2 := F0 m 281 ls [.int v_20]) rfl ?_
        refine lv_istore (lv' := [(6, .int v_20), (0, .ref (G.2.1 392)), (3, .int x3), (4, .long x4)]) cx.1 cx.2.1 dX11_simulate_281 hl (by decide) rfl (fun ls hl => ?_)
        refine lv_iconst (v := (1 : Int32)) cx.1 cx.2.1 dX11_simulate_283 (by decide) ?_
        refine lv_istore (lv' := [(7, .int (1 : Int32)), (6, .int v_20), (0, .ref (G.2.1 392)), (3, .int x3), (4, .long x4)]) cx.1 cx.2.1 dX11_simulate_284 hl (by decide) rfl (fun ls hl => ?_)
        exact hL_286 gFu S_19 v_20 (1 : Int32) _ _ _ hw hS (lv_sub hl [2, 1, 0] rfl) hf
      · rw [if_neg hc] at hf
        refine lv_lload cx.1 cx.2.1 dX11_simulate_51 (lv_at hl 2 rfl) ?_
        refine lv_ldc2 cx.1 cx.2.1 cx.2.2.2.1 (cx.2.2.2.2.ts _ gw_1112) dX11_simulate_53 ?_
        refine lv_lmul cx.1 cx.2.1 dX11_simulate_56 ?_
        refine lv_ldc2 cx.1 cx.2.1 cx.2.2.2.1 (cx.2.2.2.2.ts _ gw_1113) dX11_simulate_57 ?_
        refine lv_ladd cx.1 cx.2.1 dX11_simulate_60 ?_
        obtain ⟨x4_21, ex4_21, hf⟩ := gvl_ex hf
        refine W.eq (g2 := F0 m 61 ls [.long x4_21]) (by rw [← ex4_21]) ?_
        refine lv_lstore (lv' := [(4, .long x4_21), (0, .ref (G.2.1 392)), (3, .int x3), (6, .int x6)]) cx.1 cx.2.1 dX11_simulate_61 hl (by decide) rfl (fun ls hl => ?_)
        refine lv_lload cx.1 cx.2.1 dX11_simulate_63 (lv_at hl 0 rfl) ?_
        refine lv_bipush (v := (33 : Int32)) cx.1 cx.2.1 dX11_simulate_65 (by decide) ?_
        refine lv_lushr cx.1 cx.2.1 dX11_simulate_67 rfl ?_
        refine lv_l2i cx.1 cx.2.1 dX11_simulate_68 rfl ?_
        obtain ⟨x7_22, ex7_22, hf⟩ := gvi_ex hf
        refine W.eq (g2 := F0 m 69 ls [.int x7_22]) (by rw [← ex7_22]) ?_
        refine lv_istore (lv' := [(7, .int x7_22), (4, .long x4_21), (0, .ref (G.2.1 392)), (3, .int x3), (6, .int x6)]) cx.1 cx.2.1 dX11_simulate_69 hl (by decide) rfl (fun ls hl => ?_)
        refine lv_iload cx.1 cx.2.1 dX11_simulate_71 (lv_at hl 0 rfl) ?_
        refine lv_bipush (v := (8 : Int32)) cx.1 cx.2.1 dX11_simulate_73 (by decide) ?_
        refine lv_idiv cx.1 cx.2.1 dX11_simulate_75 (by decide) ?_
        refine lv_iconst (v := (4 : Int32)) cx.1 cx.2.1 dX11_simulate_76 (by decide) ?_
        refine lv_irem cx.1 cx.2.1 dX11_simulate_77 (by decide) ?_
        obtain ⟨x8_23, ex8_23, hf⟩ := gvi_ex hf
        refine W.eq (g2 := F0 m 78 ls [.int x8_23]) (by rw [← ex8_23]) ?_
        refine lv_istore (lv' := [(8, .int x8_23), (7, .int x7_22), (4, .long x4_21), (0, .ref (G.2.1 392)), (3, .int x3), (6, .int x6)]) cx.1 cx.2.1 dX11_simulate_78 hl (by decide) rfl (fun ls hl => ?_)
        refine lv_iload cx.1 cx.2.1 dX11_simulate_80 (lv_at hl 1 rfl) ?_
        refine lv_bipush (v := (32 : Int32)) cx.1 cx.2.1 dX11_simulate_82 (by decide) ?_
        refine lv_idiv cx.1 cx.2.1 dX11_simulate_84 (by decide) ?_
        obtain ⟨x9_24, ex9_24, hf⟩ := gvi_ex hf
        refine W.eq (g2 := F0 m 85 ls [.int x9_24]) (by rw [← ex9_24]) ?_
        refine lv_istore (lv' := [(9, .int x9_24), (8, .int x8_23), (7, .int x7_22), (4, .long x4_21), (0, .ref (G.2.1 392)), (3, .int x3), (6, .int x6)]) cx.1 cx.2.1 dX11_simulate_85 hl (by decide) rfl (fun ls hl => ?_)
        refine lv_iload cx.1 cx.2.1 dX11_simulate_87 (lv_at hl 2 rfl) ?_
        refine lv_bipush (v := (8 : Int32)) cx.1 cx.2.1 dX11_simulate_89 (by decide) ?_
        refine lv_irem cx.1 cx.2.1 dX11_simulate_91 (by decide) ?_
        refine lv_if_ne (tgt := 134) cx.1 cx.2.1 dX11_simulate_92 (by decide) (fun hc => ?_) (fun hc => ?_)
        · rw [if_neg hc] at hf
          exact hB_134 (L_X11_simulate_45 n) hK45 S x3 x4_21 x6 x7_22 x8_23 x9_24 _ _ _ hw hS (lv_sub hl [4, 5, 3, 6, 2, 1, 0] rfl) hf
        · rw [if_pos hc] at hf
          refine lv_aload_n cx.1 cx.2.1 dX11_simulate_95 rfl (lv_at hl 4 rfl) ?_
          refine g_get (C := RX11) (T := TX11) (N := 16) (v := .ref (G.2.1 396)) cx hw inlX11 392 (by omega) he_c392 rfl 6 (by decide) gw_145 rfl rfl dX11_simulate_96 ?_
          refine lv_iload cx.1 cx.2.1 dX11_simulate_99 (lv_at hl 1 rfl) ?_
          refine lv_iconst (v := (1 : Int32)) cx.1 cx.2.1 dX11_simulate_101 (by decide) ?_
          refine lv_iload cx.1 cx.2.1 dX11_simulate_102 (lv_at hl 0 rfl) ?_
          refine lv_bipush (v := (6 : Int32)) cx.1 cx.2.1 dX11_simulate_104 (by decide) ?_
          refine lv_irem cx.1 cx.2.1 dX11_simulate_106 (by decide) ?_
          refine lv_iadd cx.1 cx.2.1 dX11_simulate_107 ?_
          obtain ⟨v_26, S_25, hv, hf⟩ := gbi_some hf
          refine g_S (As := [.ref (G.2.1 396), .int x8_23, .int ((1 : Int32) + (x9_24 - x9_24 / (6 : Int32) * (6 : Int32)))]) (rest := []) cx hw hS (c_X11_canBuyTrain l G hM (ia_c396 hM) x8_23 ((1 : Int32) + (x9_24 - x9_24 / (6 : Int32) * (6 : Int32))) S v_26 S_25 hv) gw_610 gy_X11_canBuyTrain gi_X11_canBuyTrain ⟨Nat.le_of_ble_eq_true rfl, Nat.le_of_ble_eq_true rfl⟩ ⟨Nat.zero_le _, Nat.zero_le _⟩ rfl hl.1 rfl (Nat.le_of_ble_eq_true rfl) dX11_simulate_108 (fun H locs hw hS => ?_)
          refine W.eq (g2 := F0 m 111 ls [.int v_26]) rfl ?_
          refine lv_if_eq (tgt := 134) cx.1 cx.2.1 dX11_simulate_111 (by decide) (fun hc => ?_) (fun hc => ?_)
          · rw [if_pos hc] at hf
            exact hB_134 (L_X11_simulate_45 n) hK45 S_25 x3 x4_21 x6 x7_22 x8_23 x9_24 _ _ _ hw hS (lv_sub hl [4, 5, 3, 6, 2, 1, 0] rfl) hf
          · rw [if_neg hc] at hf
            refine lv_aload_n cx.1 cx.2.1 dX11_simulate_114 rfl (lv_at hl 4 rfl) ?_
            refine g_get (C := RX11) (T := TX11) (N := 16) (v := .ref (G.2.1 396)) cx hw inlX11 392 (by omega) he_c392 rfl 6 (by decide) gw_145 rfl rfl dX11_simulate_115 ?_
            refine lv_iload cx.1 cx.2.1 dX11_simulate_118 (lv_at hl 1 rfl) ?_
            refine lv_iconst (v := (1 : Int32)) cx.1 cx.2.1 dX11_simulate_120 (by decide) ?_
            refine lv_iload cx.1 cx.2.1 dX11_simulate_121 (lv_at hl 0 rfl) ?_
            refine lv_bipush (v := (6 : Int32)) cx.1 cx.2.1 dX11_simulate_123 (by decide) ?_
            refine lv_irem cx.1 cx.2.1 dX11_simulate_125 (by decide) ?_
            refine lv_iadd cx.1 cx.2.1 dX11_simulate_126 ?_
            obtain ⟨v_28, S_27, hv, hf⟩ := gbi_some hf
            refine g_S (As := [.ref (G.2.1 396), .int x8_23, .int ((1 : Int32) + (x9_24 - x9_24 / (6 : Int32) * (6 : Int32)))]) (rest := []) cx hw hS (c_X11_buyTrainOn l G hM (ia_c396 hM) x8_23 ((1 : Int32) + (x9_24 - x9_24 / (6 : Int32) * (6 : Int32))) S_25 v_28 S_27 hv) gw_613 gy_X11_buyTrainOn gi_X11_buyTrainOn ⟨Nat.le_of_ble_eq_true rfl, Nat.le_of_ble_eq_true rfl⟩ ⟨Nat.zero_le _, Nat.zero_le _⟩ rfl hl.1 rfl (Nat.le_of_ble_eq_true rfl) dX11_simulate_127 (fun H locs hw hS => ?_)
            refine W.eq (g2 := F0 m 130 ls [.int v_28]) rfl ?_
            refine lv_pop cx.1 cx.2.1 dX11_simulate_130 rfl ?_
            refine lv_goto (tgt := 251) cx.1 cx.2.1 dX11_simulate_131 (by decide) ?_
            exact hB_251 (L_X11_simulate_45 n) hK45 S_27 x3 x4_21 x6 _ _ _ hw hS (lv_sub hl [4, 5, 3, 6] rfl) hf
  have hB_18 : ∀ (S : Sg) (x1 : Int64) (x3 : Int32) (t0 : Int32) (H : Heap) (locs : List Loc) (ls : Array Slot), gP G S H → va_S (gA G s.heap.size) s.heap H locs → lv_has ls 10 [(0, .ref (G.2.1 392)), (1, .long x1), (3, .int x3)] → B_X11_simulate_18 S x1 x3 t0 = some (r, S') → W p l e (gR 7 182) s m ([.ref (G.2.1 392), .long a1, .int a3] : List Value).toArray below meth c H locs 0 0 (MQ below (gQ G S' (some (.int r)) (gA G s.heap.size)) ([.ref (G.2.1 392), .long a1, .int a3] : List Value).toArray s 0 0 (gA G s.heap.size)) (F0 m 18 ls [.int t0, .ref (G.2.1 392)]) := by
    intro S x1 x3 t0 H locs ls hw hS hl hf
    unfold B_X11_simulate_18 at hf
    obtain ⟨v_30, S_29, hv, hf⟩ := gbi_some hf
    refine g_V (As := [.int t0]) (rest := []) cx hw hS (c_X11_refused l G hM t0 S v_30 S_29 hv) (by omega) he_c392 rfl rfl gw_200 gy_X11_refused gi_X11_refused ⟨Nat.le_of_ble_eq_true rfl, Nat.le_of_ble_eq_true rfl⟩ ⟨Nat.zero_le _, Nat.zero_le _⟩ rfl hl.1 rfl (Nat.le_of_ble_eq_true rfl) dX11_simulate_18 (fun H locs hw hS => ?_)
    refine W.eq (g2 := F0 m 21 ls [.int v_30]) rfl ?_
    refine lv_if_eq (tgt := 26) cx.1 cx.2.1 dX11_simulate_21 (by decide) (fun hc => ?_) (fun hc => ?_)
    · rw [if_pos hc] at hf
      refine lv_aload_n cx.1 cx.2.1 dX11_simulate_26 rfl (lv_at hl 0 rfl) ?_
      refine g_get (C := RX11) (T := TX11) (N := 16) (v := .ref (G.2.1 395)) cx hw inlX11 392 (by omega) he_c392 rfl 5 (by decide) gw_144 rfl rfl dX11_simulate_27 ?_
      refine lv_iconst (v := (0 : Int32)) cx.1 cx.2.1 dX11_simulate_30 (by decide) ?_
      refine lv_aload_n cx.1 cx.2.1 dX11_simulate_31 rfl (lv_at hl 0 rfl) ?_
      refine g_get (C := RX11) (T := TX11) (N := 16) (v := .ref (G.2.1 396)) cx hw inlX11 392 (by omega) he_c392 rfl 6 (by decide) gw_145 rfl rfl dX11_simulate_32 ?_
      refine lv_iconst (v := (0 : Int32)) cx.1 cx.2.1 dX11_simulate_35 (by decide) ?_
      obtain ⟨S_31, hv, hf⟩ := gbv_some hf
      refine g_S (As := [.ref (G.2.1 395), .int (0 : Int32), .ref (G.2.1 396), .int (0 : Int32)]) (rest := []) cx hw hS (c_X11_copyPage l G hM (ia_c395 hM) (ia_c396 hM) (0 : Int32) (0 : Int32) S_29 S_31 hv) gw_350 gy_X11_copyPage gi_X11_copyPage ⟨Nat.le_of_ble_eq_true rfl, Nat.le_of_ble_eq_true rfl⟩ ⟨Nat.zero_le _, Nat.zero_le _⟩ rfl hl.1 rfl (Nat.le_of_ble_eq_true rfl) dX11_simulate_36 (fun H locs hw hS => ?_)
      refine W.eq (g2 := F0 m 39 ls []) rfl ?_
      refine lv_lload_n cx.1 cx.2.1 dX11_simulate_39 rfl (lv_at hl 1 rfl) ?_
      refine lv_lstore (lv' := [(4, .long x1), (0, .ref (G.2.1 392)), (1, .long x1), (3, .int x3)]) cx.1 cx.2.1 dX11_simulate_40 hl (by decide) rfl (fun ls hl => ?_)
      refine lv_iconst (v := (0 : Int32)) cx.1 cx.2.1 dX11_simulate_42 (by decide) ?_
      refine lv_istore (lv' := [(6, .int (0 : Int32)), (4, .long x1), (0, .ref (G.2.1 392)), (1, .long x1), (3, .int x3)]) cx.1 cx.2.1 dX11_simulate_43 hl (by decide) rfl (fun ls hl => ?_)
      exact hL_45 gFu S_31 x3 x1 (0 : Int32) _ _ _ hw hS (lv_sub hl [2, 4, 1, 0] rfl) hf
    · rw [if_neg hc] at hf
      refine lv_iconst (v := (0 : Int32)) cx.1 cx.2.1 dX11_simulate_24 (by decide) ?_
      exact g_ireti cx hr hlk hw hS hf dX11_simulate_25
  have hl : lv_has ls 10 [(0, .ref (G.2.1 392)), (1, .long a1), (3, .int a3)] := hl
  unfold f_X11_simulate at hf
  refine lv_aload_n cx.1 cx.2.1 dX11_simulate_0 rfl (lv_at hl 0 rfl) ?_
  refine lv_iload_n cx.1 cx.2.1 dX11_simulate_1 rfl (lv_at hl 2 rfl) ?_
  refine lv_i2l cx.1 cx.2.1 dX11_simulate_2 rfl ?_
  refine lv_lconst (v := (1 : Int64)) cx.1 cx.2.1 dX11_simulate_3 (by decide) ?_
  refine lv_ldc2 cx.1 cx.2.1 cx.2.2.2.1 (cx.2.2.2.2.ts _ gw_979) dX11_simulate_4 ?_
  obtain ⟨v_33, S_32, hv, hf⟩ := gbi_some hf
  refine g_S (As := [.long a3.toInt64, .long (1 : Int64), .long (50 : Int64)]) (rest := [.ref (G.2.1 392)]) cx hw hS (c_X11_in l G hM a3.toInt64 (1 : Int64) (50 : Int64) S v_33 S_32 hv) gw_197 gy_X11_in gi_X11_in ⟨Nat.le_of_ble_eq_true rfl, Nat.le_of_ble_eq_true rfl⟩ ⟨Nat.zero_le _, Nat.zero_le _⟩ rfl hl.1 rfl (Nat.le_of_ble_eq_true rfl) dX11_simulate_7 (fun H locs hw hS => ?_)
  refine W.eq (g2 := F0 m 10 ls [.int v_33, .ref (G.2.1 392)]) rfl ?_
  refine lv_if_eq (tgt := 17) cx.1 cx.2.1 dX11_simulate_10 (by decide) (fun hc => ?_) (fun hc => ?_)
  · rw [if_pos hc] at hf
    refine lv_iconst (v := (1 : Int32)) cx.1 cx.2.1 dX11_simulate_17 (by decide) ?_
    exact hB_18 S_32 a1 a3 (1 : Int32) _ _ _ hw hS (lv_sub hl [0, 1, 2] rfl) hf
  · rw [if_neg hc] at hf
    refine lv_iconst (v := (0 : Int32)) cx.1 cx.2.1 dX11_simulate_13 (by decide) ?_
    refine lv_goto (tgt := 18) cx.1 cx.2.1 dX11_simulate_14 (by decide) ?_
    exact hB_18 S_32 a1 a3 (0 : Int32) _ _ _ hw hS (lv_sub hl [0, 1, 2] rfl) hf
set_option maxHeartbeats 4000000 in
set_option maxRecDepth 100000 in
theorem c_X11_take (l : Launch) (G : gG) (hM : 402 ≤ gN G) (a1 : Int32) (a2 : Int32) (S : Sg) (r : Int32) (S' : Sg) (hf : f_X11_take a1 a2 S = some (r, S')) : Ct l yX11_take [Cond.code yX11_take cX11_take 3 (some .int)] (gR 3 65) G [.ref (G.2.1 392), .int a1, .int a2] S (some (.int r)) S' := by
  refine Ct_of (by decide) (Nat.le_of_ble_eq_true rfl) ?_
  intro p e s m below meth c ls cx hr hlk hw hS hl
  have hN := cx.2.2.2.2.hN
  have hB_39 : ∀ (S : Sg) (x1 : Int32) (x2 : Int32) (t0 : Int32) (H : Heap) (locs : List Loc) (ls : Array Slot), gP G S H → va_S (gA G s.heap.size) s.heap H locs → lv_has ls 3 [(0, .ref (G.2.1 392)), (1, .int x1), (2, .int x2)] → B_X11_take_39 S x1 x2 t0 = some (r, S') → W p l e (gR 3 65) s m ([.ref (G.2.1 392), .int a1, .int a2] : List Value).toArray below meth c H locs 0 0 (MQ below (gQ G S' (some (.int r)) (gA G s.heap.size)) ([.ref (G.2.1 392), .int a1, .int a2] : List Value).toArray s 0 0 (gA G s.heap.size)) (F0 m 39 ls [.int t0, .ref (G.2.1 392)]) := by
    intro S x1 x2 t0 H locs ls hw hS hl hf
    unfold B_X11_take_39 at hf
    obtain ⟨v_2, S_1, hv, hf⟩ := gbi_some hf
    refine g_V (As := [.int t0]) (rest := []) cx hw hS (c_X11_refused l G hM t0 S v_2 S_1 hv) (by omega) he_c392 rfl rfl gw_200 gy_X11_refused gi_X11_refused ⟨Nat.le_of_ble_eq_true rfl, Nat.le_of_ble_eq_true rfl⟩ ⟨Nat.zero_le _, Nat.zero_le _⟩ rfl hl.1 rfl (Nat.le_of_ble_eq_true rfl) dX11_take_39 (fun H locs hw hS => ?_)
    refine W.eq (g2 := F0 m 42 ls [.int v_2]) rfl ?_
    refine lv_if_eq (tgt := 47) cx.1 cx.2.1 dX11_take_42 (by decide) (fun hc => ?_) (fun hc => ?_)
    · rw [if_pos hc] at hf
      refine lv_aload_n cx.1 cx.2.1 dX11_take_47 rfl (lv_at hl 0 rfl) ?_
      obtain ⟨S_3, hv, hf⟩ := gbv_some hf
      refine g_V (As := []) (rest := []) cx hw hS (c_X11_note l G hM S_1 S_3 hv) (by omega) he_c392 rfl rfl gw_572 gy_X11_note gi_X11_note ⟨Nat.le_of_ble_eq_true rfl, Nat.le_of_ble_eq_true rfl⟩ ⟨Nat.zero_le _, Nat.zero_le _⟩ rfl hl.1 rfl (Nat.le_of_ble_eq_true rfl) dX11_take_48 (fun H locs hw hS => ?_)
      refine W.eq (g2 := F0 m 51 ls []) rfl ?_
      refine lv_aload_n cx.1 cx.2.1 dX11_take_51 rfl (lv_at hl 0 rfl) ?_
      refine g_get (C := RX11) (T := TX11) (N := 16) (v := .ref (G.2.1 395)) cx hw inlX11 392 (by omega) he_c392 rfl 5 (by decide) gw_144 rfl rfl dX11_take_52 ?_
      refine lv_iload_n cx.1 cx.2.1 dX11_take_55 rfl (lv_at hl 1 rfl) ?_
      refine lv_iload_n cx.1 cx.2.1 dX11_take_56 rfl (lv_at hl 2 rfl) ?_
      obtain ⟨v_5, S_4, hv, hf⟩ := gbi_some hf
      refine g_S (As := [.ref (G.2.1 395), .int x1, .int x2]) (rest := []) cx hw hS (c_X11_takeOn l G hM (ia_c395 hM) x1 x2 S_3 v_5 S_4 hv) gw_687 gy_X11_takeOn gi_X11_takeOn ⟨Nat.le_of_ble_eq_true rfl, Nat.le_of_ble_eq_true rfl⟩ ⟨Nat.zero_le _, Nat.zero_le _⟩ rfl hl.1 rfl (Nat.le_of_ble_eq_true rfl) dX11_take_57 (fun H locs hw hS => ?_)
      refine W.eq (g2 := F0 m 60 ls [.int v_5]) rfl ?_
      exact g_ireti cx hr hlk hw hS hf dX11_take_60
    · rw [if_neg hc] at hf
      refine lv_iconst (v := (0 : Int32)) cx.1 cx.2.1 dX11_take_45 (by decide) ?_
      exact g_ireti cx hr hlk hw hS hf dX11_take_46
  have hl : lv_has ls 3 [(0, .ref (G.2.1 392)), (1, .int a1), (2, .int a2)] := hl
  unfold f_X11_take at hf
  refine lv_aload_n cx.1 cx.2.1 dX11_take_0 rfl (lv_at hl 0 rfl) ?_
  refine lv_iload_n cx.1 cx.2.1 dX11_take_1 rfl (lv_at hl 1 rfl) ?_
  obtain ⟨v_7, S_6, hv, hf⟩ := gbi_some hf
  refine g_S (As := [.int a1]) (rest := [.ref (G.2.1 392)]) cx hw hS (c_X11_isCompany l G hM a1 S v_7 S_6 hv) gw_446 gy_X11_isCompany gi_X11_isCompany ⟨Nat.le_of_ble_eq_true rfl, Nat.le_of_ble_eq_true rfl⟩ ⟨Nat.zero_le _, Nat.zero_le _⟩ rfl hl.1 rfl (Nat.le_of_ble_eq_true rfl) dX11_take_2 (fun H locs hw hS => ?_)
  refine W.eq (g2 := F0 m 5 ls [.int v_7, .ref (G.2.1 392)]) rfl ?_
  refine lv_if_eq (tgt := 19) cx.1 cx.2.1 dX11_take_5 (by decide) (fun hc => ?_) (fun hc => ?_)
  · rw [if_pos hc] at hf
    refine lv_iconst (v := (1 : Int32)) cx.1 cx.2.1 dX11_take_19 (by decide) ?_
    refine lv_goto (tgt := 39) cx.1 cx.2.1 dX11_take_20 (by decide) ?_
    exact hB_39 S_6 a1 a2 (1 : Int32) _ _ _ hw hS (lv_sub hl [0, 1, 2] rfl) hf
  · rw [if_neg hc] at hf
    refine lv_aload_n cx.1 cx.2.1 dX11_take_8 rfl (lv_at hl 0 rfl) ?_
    refine g_get (C := RX11) (T := TX11) (N := 16) (v := .ref (G.2.1 395)) cx hw inlX11 392 (by omega) he_c392 rfl 5 (by decide) gw_144 rfl rfl dX11_take_9 ?_
    refine lv_iload_n cx.1 cx.2.1 dX11_take_12 rfl (lv_at hl 2 rfl) ?_
    obtain ⟨v_9, S_8, hv, hf⟩ := gbi_some hf
    refine g_S (As := [.ref (G.2.1 395), .int a2]) (rest := [.ref (G.2.1 392)]) cx hw hS (c_X11_isContract l G hM (ia_c395 hM) a2 S_6 v_9 S_8 hv) gw_521 gy_X11_isContract gi_X11_isContract ⟨Nat.le_of_ble_eq_true rfl, Nat.le_of_ble_eq_true rfl⟩ ⟨Nat.zero_le _, Nat.zero_le _⟩ rfl hl.1 rfl (Nat.le_of_ble_eq_true rfl) dX11_take_13 (fun H locs hw hS => ?_)
    refine W.eq (g2 := F0 m 16 ls [.int v_9, .ref (G.2.1 392)]) rfl ?_
    refine lv_if_ne (tgt := 23) cx.1 cx.2.1 dX11_take_16 (by decide) (fun hc => ?_) (fun hc => ?_)
    · rw [if_neg hc] at hf
      refine lv_aload_n cx.1 cx.2.1 dX11_take_23 rfl (lv_at hl 0 rfl) ?_
      refine g_get (C := RX11) (T := TX11) (N := 16) (v := .ref (G.2.1 395)) cx hw inlX11 392 (by omega) he_c392 rfl 5 (by decide) gw_144 rfl rfl dX11_take_24 ?_
      refine lv_iload_n cx.1 cx.2.1 dX11_take_27 rfl (lv_at hl 2 rfl) ?_
      obtain ⟨v_11, S_10, hv, hf⟩ := gbi_some hf
      refine g_S (As := [.ref (G.2.1 395), .int a2]) (rest := [.ref (G.2.1 392)]) cx hw hS (c_X11_canTake l G hM (ia_c395 hM) a2 S_8 v_11 S_10 hv) gw_684 gy_X11_canTake gi_X11_canTake ⟨Nat.le_of_ble_eq_true rfl, Nat.le_of_ble_eq_true rfl⟩ ⟨Nat.zero_le _, Nat.zero_le _⟩ rfl hl.1 rfl (Nat.le_of_ble_eq_true rfl) dX11_take_28 (fun H locs hw hS => ?_)
      refine W.eq (g2 := F0 m 31 ls [.int v_11, .ref (G.2.1 392)]) rfl ?_
      refine lv_if_ne (tgt := 38) cx.1 cx.2.1 dX11_take_31 (by decide) (fun hc => ?_) (fun hc => ?_)
      · rw [if_neg hc] at hf
        refine lv_iconst (v := (0 : Int32)) cx.1 cx.2.1 dX11_take_38 (by decide) ?_
        exact hB_39 S_10 a1 a2 (0 : Int32) _ _ _ hw hS (lv_sub hl [0, 1, 2] rfl) hf
      · rw [if_pos hc] at hf
        refine lv_iconst (v := (2 : Int32)) cx.1 cx.2.1 dX11_take_34 (by decide) ?_
        refine lv_goto (tgt := 39) cx.1 cx.2.1 dX11_take_35 (by decide) ?_
        exact hB_39 S_10 a1 a2 (2 : Int32) _ _ _ hw hS (lv_sub hl [0, 1, 2] rfl) hf
    · rw [if_pos hc] at hf
      refine lv_iconst (v := (1 : Int32)) cx.1 cx.2.1 dX11_take_19 (by decide) ?_
      refine lv_goto (tgt := 39) cx.1 cx.2.1 dX11_take_20 (by decide) ?_
      exact hB_39 S_8 a1 a2 (1 : Int32) _ _ _ hw hS (lv_sub hl [0, 1, 2] rfl) hf
set_option maxHeartbeats 4000000 in
set_option maxRecDepth 100000 in
theorem c_X11_thrown (l : Launch) (G : gG) (hM : 402 ≤ gN G) (S : Sg) (r : Int32) (S' : Sg) (hf : f_X11_thrown S = some (r, S')) : Ct l yX11_thrown [Cond.code yX11_thrown cX11_thrown 1 (some .int)] (gR 0 0) G [.ref (G.2.1 392)] S (some (.int r)) S' := by
  refine Ct_of (by decide) (Nat.le_of_ble_eq_true rfl) ?_
  intro p e s m below meth c ls cx hr hlk hw hS hl
  have hN := cx.2.2.2.2.hN
  have hl : lv_has ls 1 [(0, .ref (G.2.1 392))] := hl
  unfold f_X11_thrown at hf
  refine lv_aload_n cx.1 cx.2.1 dX11_thrown_0 rfl (lv_at hl 0 rfl) ?_
  refine g_get (C := RX11) (T := TX11) (N := 16) (v := .int (S 392 0)) cx hw inlX11 392 (by omega) he_c392 rfl 0 (by decide) gw_204 rfl rfl dX11_thrown_1 ?_
  exact g_ireti cx hr hlk hw hS hf dX11_thrown_4
set_option maxHeartbeats 4000000 in
set_option maxRecDepth 100000 in
theorem c_X11_track (l : Launch) (G : gG) (hM : 402 ≤ gN G) (a1 : Int32) (a2 : Int32) (S : Sg) (r : Int32) (S' : Sg) (hf : f_X11_track a1 a2 S = some (r, S')) : Ct l yX11_track [Cond.code yX11_track cX11_track 3 (some .int)] (gR 2 46) G [.ref (G.2.1 392), .int a1, .int a2] S (some (.int r)) S' := by
  refine Ct_of (by decide) (Nat.le_of_ble_eq_true rfl) ?_
  intro p e s m below meth c ls cx hr hlk hw hS hl
  have hN := cx.2.2.2.2.hN
  have hB_33 : ∀ (S : Sg) (x1 : Int32) (x2 : Int32) (t0 : Int32) (H : Heap) (locs : List Loc) (ls : Array Slot), gP G S H → va_S (gA G s.heap.size) s.heap H locs → lv_has ls 3 [(0, .ref (G.2.1 392)), (1, .int x1), (2, .int x2)] → B_X11_track_33 S x1 x2 t0 = some (r, S') → W p l e (gR 2 46) s m ([.ref (G.2.1 392), .int a1, .int a2] : List Value).toArray below meth c H locs 0 0 (MQ below (gQ G S' (some (.int r)) (gA G s.heap.size)) ([.ref (G.2.1 392), .int a1, .int a2] : List Value).toArray s 0 0 (gA G s.heap.size)) (F0 m 33 ls [.int t0, .ref (G.2.1 392)]) := by
    intro S x1 x2 t0 H locs ls hw hS hl hf
    unfold B_X11_track_33 at hf
    obtain ⟨v_2, S_1, hv, hf⟩ := gbi_some hf
    refine g_V (As := [.int t0]) (rest := []) cx hw hS (c_X11_refused l G hM t0 S v_2 S_1 hv) (by omega) he_c392 rfl rfl gw_200 gy_X11_refused gi_X11_refused ⟨Nat.le_of_ble_eq_true rfl, Nat.le_of_ble_eq_true rfl⟩ ⟨Nat.zero_le _, Nat.zero_le _⟩ rfl hl.1 rfl (Nat.le_of_ble_eq_true rfl) dX11_track_33 (fun H locs hw hS => ?_)
    refine W.eq (g2 := F0 m 36 ls [.int v_2]) rfl ?_
    refine lv_if_eq (tgt := 43) cx.1 cx.2.1 dX11_track_36 (by decide) (fun hc => ?_) (fun hc => ?_)
    · rw [if_pos hc] at hf
      refine lv_aload_n cx.1 cx.2.1 dX11_track_43 rfl (lv_at hl 0 rfl) ?_
      refine g_get (C := RX11) (T := TX11) (N := 16) (v := .ref (G.2.1 395)) cx hw inlX11 392 (by omega) he_c392 rfl 5 (by decide) gw_144 rfl rfl dX11_track_44 ?_
      refine lv_iload_n cx.1 cx.2.1 dX11_track_47 rfl (lv_at hl 1 rfl) ?_
      obtain ⟨v_4, S_3, hv, hf⟩ := gbi_some hf
      refine g_S (As := [.int x1]) (rest := [.ref (G.2.1 395)]) cx hw hS (c_X11_trackAt l G hM x1 S_1 v_4 S_3 hv) gw_161 gy_X11_trackAt gi_X11_trackAt ⟨Nat.le_of_ble_eq_true rfl, Nat.le_of_ble_eq_true rfl⟩ ⟨Nat.zero_le _, Nat.zero_le _⟩ rfl hl.1 rfl (Nat.le_of_ble_eq_true rfl) dX11_track_48 (fun H locs hw hS => ?_)
      refine W.eq (g2 := F0 m 51 ls [.int v_4, .ref (G.2.1 395)]) rfl ?_
      refine lv_iload_n cx.1 cx.2.1 dX11_track_51 rfl (lv_at hl 2 rfl) ?_
      refine lv_iadd cx.1 cx.2.1 dX11_track_52 ?_
      obtain ⟨hin, hf⟩ := gck_some hf
      refine g_iald cx hw (ia_c395 hM) (vp_of_inb hin) dX11_track_53 ?_
      exact g_ireti cx hr hlk hw hS hf dX11_track_54
    · rw [if_neg hc] at hf
      refine lv_iconst (v := (0 : Int32)) cx.1 cx.2.1 dX11_track_39 (by decide) ?_
      refine lv_goto (tgt := 54) cx.1 cx.2.1 dX11_track_40 (by decide) ?_
      exact g_ireti cx hr hlk hw hS hf dX11_track_54
  have hl : lv_has ls 3 [(0, .ref (G.2.1 392)), (1, .int a1), (2, .int a2)] := hl
  unfold f_X11_track at hf
  refine lv_aload_n cx.1 cx.2.1 dX11_track_0 rfl (lv_at hl 0 rfl) ?_
  refine lv_aload_n cx.1 cx.2.1 dX11_track_1 rfl (lv_at hl 0 rfl) ?_
  refine g_get (C := RX11) (T := TX11) (N := 16) (v := .ref (G.2.1 395)) cx hw inlX11 392 (by omega) he_c392 rfl 5 (by decide) gw_144 rfl rfl dX11_track_2 ?_
  refine lv_iload_n cx.1 cx.2.1 dX11_track_5 rfl (lv_at hl 1 rfl) ?_
  obtain ⟨v_6, S_5, hv, hf⟩ := gbi_some hf
  refine g_S (As := [.ref (G.2.1 395), .int a1]) (rest := [.ref (G.2.1 392)]) cx hw hS (c_X11_isTrack l G hM (ia_c395 hM) a1 S v_6 S_5 hv) gw_415 gy_X11_isTrack gi_X11_isTrack ⟨Nat.le_of_ble_eq_true rfl, Nat.le_of_ble_eq_true rfl⟩ ⟨Nat.zero_le _, Nat.zero_le _⟩ rfl hl.1 rfl (Nat.le_of_ble_eq_true rfl) dX11_track_6 (fun H locs hw hS => ?_)
  refine W.eq (g2 := F0 m 9 ls [.int v_6, .ref (G.2.1 392)]) rfl ?_
  refine lv_if_ne (tgt := 16) cx.1 cx.2.1 dX11_track_9 (by decide) (fun hc => ?_) (fun hc => ?_)
  · rw [if_neg hc] at hf
    refine lv_iload_n cx.1 cx.2.1 dX11_track_16 rfl (lv_at hl 2 rfl) ?_
    refine lv_i2l cx.1 cx.2.1 dX11_track_17 rfl ?_
    refine lv_lconst (v := (0 : Int64)) cx.1 cx.2.1 dX11_track_18 (by decide) ?_
    refine lv_ldc2 cx.1 cx.2.1 cx.2.2.2.1 (cx.2.2.2.2.ts _ gw_414) dX11_track_19 ?_
    obtain ⟨v_8, S_7, hv, hf⟩ := gbi_some hf
    refine g_S (As := [.long a2.toInt64, .long (0 : Int64), .long (3 : Int64)]) (rest := [.ref (G.2.1 392)]) cx hw hS (c_X11_in l G hM a2.toInt64 (0 : Int64) (3 : Int64) S_5 v_8 S_7 hv) gw_197 gy_X11_in gi_X11_in ⟨Nat.le_of_ble_eq_true rfl, Nat.le_of_ble_eq_true rfl⟩ ⟨Nat.zero_le _, Nat.zero_le _⟩ rfl hl.1 rfl (Nat.le_of_ble_eq_true rfl) dX11_track_22 (fun H locs hw hS => ?_)
    refine W.eq (g2 := F0 m 25 ls [.int v_8, .ref (G.2.1 392)]) rfl ?_
    refine lv_if_ne (tgt := 32) cx.1 cx.2.1 dX11_track_25 (by decide) (fun hc => ?_) (fun hc => ?_)
    · rw [if_neg hc] at hf
      refine lv_iconst (v := (0 : Int32)) cx.1 cx.2.1 dX11_track_32 (by decide) ?_
      exact hB_33 S_7 a1 a2 (0 : Int32) _ _ _ hw hS (lv_sub hl [0, 1, 2] rfl) hf
    · rw [if_pos hc] at hf
      refine lv_iconst (v := (2 : Int32)) cx.1 cx.2.1 dX11_track_28 (by decide) ?_
      refine lv_goto (tgt := 33) cx.1 cx.2.1 dX11_track_29 (by decide) ?_
      exact hB_33 S_7 a1 a2 (2 : Int32) _ _ _ hw hS (lv_sub hl [0, 1, 2] rfl) hf
  · rw [if_pos hc] at hf
    refine lv_iconst (v := (1 : Int32)) cx.1 cx.2.1 dX11_track_12 (by decide) ?_
    refine lv_goto (tgt := 33) cx.1 cx.2.1 dX11_track_13 (by decide) ?_
    exact hB_33 S_5 a1 a2 (1 : Int32) _ _ _ hw hS (lv_sub hl [0, 1, 2] rfl) hf
set_option maxHeartbeats 4000000 in
set_option maxRecDepth 100000 in
theorem c_X11_train (l : Launch) (G : gG) (hM : 402 ≤ gN G) (a1 : Int32) (a2 : Int32) (a3 : Int32) (S : Sg) (r : Int32) (S' : Sg) (hf : f_X11_train a1 a2 a3 S = some (r, S')) : Ct l yX11_train [Cond.code yX11_train cX11_train 4 (some .int)] (gR 3 63) G [.ref (G.2.1 392), .int a1, .int a2, .int a3] S (some (.int r)) S' := by
  refine Ct_of (by decide) (Nat.le_of_ble_eq_true rfl) ?_
  intro p e s m below meth c ls cx hr hlk hw hS hl
  have hN := cx.2.2.2.2.hN
  have hB_39 : ∀ (S : Sg) (x1 : Int32) (x2 : Int32) (x3 : Int32) (t0 : Int32) (H : Heap) (locs : List Loc) (ls : Array Slot), gP G S H → va_S (gA G s.heap.size) s.heap H locs → lv_has ls 4 [(0, .ref (G.2.1 392)), (1, .int x1), (2, .int x2), (3, .int x3)] → B_X11_train_39 S x1 x2 x3 t0 = some (r, S') → W p l e (gR 3 63) s m ([.ref (G.2.1 392), .int a1, .int a2, .int a3] : List Value).toArray below meth c H locs 0 0 (MQ below (gQ G S' (some (.int r)) (gA G s.heap.size)) ([.ref (G.2.1 392), .int a1, .int a2, .int a3] : List Value).toArray s 0 0 (gA G s.heap.size)) (F0 m 39 ls [.int t0, .ref (G.2.1 392)]) := by
    intro S x1 x2 x3 t0 H locs ls hw hS hl hf
    unfold B_X11_train_39 at hf
    obtain ⟨v_2, S_1, hv, hf⟩ := gbi_some hf
    refine g_V (As := [.int t0]) (rest := []) cx hw hS (c_X11_refused l G hM t0 S v_2 S_1 hv) (by omega) he_c392 rfl rfl gw_200 gy_X11_refused gi_X11_refused ⟨Nat.le_of_ble_eq_true rfl, Nat.le_of_ble_eq_true rfl⟩ ⟨Nat.zero_le _, Nat.zero_le _⟩ rfl hl.1 rfl (Nat.le_of_ble_eq_true rfl) dX11_train_39 (fun H locs hw hS => ?_)
    refine W.eq (g2 := F0 m 42 ls [.int v_2]) rfl ?_
    refine lv_if_eq (tgt := 49) cx.1 cx.2.1 dX11_train_42 (by decide) (fun hc => ?_) (fun hc => ?_)
    · rw [if_pos hc] at hf
      refine lv_aload_n cx.1 cx.2.1 dX11_train_49 rfl (lv_at hl 0 rfl) ?_
      refine g_get (C := RX11) (T := TX11) (N := 16) (v := .ref (G.2.1 395)) cx hw inlX11 392 (by omega) he_c392 rfl 5 (by decide) gw_144 rfl rfl dX11_train_50 ?_
      refine lv_iload_n cx.1 cx.2.1 dX11_train_53 rfl (lv_at hl 1 rfl) ?_
      refine lv_iload_n cx.1 cx.2.1 dX11_train_54 rfl (lv_at hl 2 rfl) ?_
      obtain ⟨v_4, S_3, hv, hf⟩ := gbi_some hf
      refine g_S (As := [.int x1, .int x2]) (rest := [.ref (G.2.1 395)]) cx hw hS (c_X11_trainAt l G hM x1 x2 S_1 v_4 S_3 hv) gw_492 gy_X11_trainAt gi_X11_trainAt ⟨Nat.le_of_ble_eq_true rfl, Nat.le_of_ble_eq_true rfl⟩ ⟨Nat.zero_le _, Nat.zero_le _⟩ rfl hl.1 rfl (Nat.le_of_ble_eq_true rfl) dX11_train_55 (fun H locs hw hS => ?_)
      refine W.eq (g2 := F0 m 58 ls [.int v_4, .ref (G.2.1 395)]) rfl ?_
      refine lv_iload_n cx.1 cx.2.1 dX11_train_58 rfl (lv_at hl 3 rfl) ?_
      refine lv_iadd cx.1 cx.2.1 dX11_train_59 ?_
      obtain ⟨hin, hf⟩ := gck_some hf
      refine g_iald cx hw (ia_c395 hM) (vp_of_inb hin) dX11_train_60 ?_
      exact g_ireti cx hr hlk hw hS hf dX11_train_61
    · rw [if_neg hc] at hf
      refine lv_iconst (v := (0 : Int32)) cx.1 cx.2.1 dX11_train_45 (by decide) ?_
      refine lv_goto (tgt := 61) cx.1 cx.2.1 dX11_train_46 (by decide) ?_
      exact g_ireti cx hr hlk hw hS hf dX11_train_61
  have hl : lv_has ls 4 [(0, .ref (G.2.1 392)), (1, .int a1), (2, .int a2), (3, .int a3)] := hl
  unfold f_X11_train at hf
  refine lv_aload_n cx.1 cx.2.1 dX11_train_0 rfl (lv_at hl 0 rfl) ?_
  refine lv_iload_n cx.1 cx.2.1 dX11_train_1 rfl (lv_at hl 1 rfl) ?_
  obtain ⟨v_6, S_5, hv, hf⟩ := gbi_some hf
  refine g_S (As := [.int a1]) (rest := [.ref (G.2.1 392)]) cx hw hS (c_X11_isCompany l G hM a1 S v_6 S_5 hv) gw_446 gy_X11_isCompany gi_X11_isCompany ⟨Nat.le_of_ble_eq_true rfl, Nat.le_of_ble_eq_true rfl⟩ ⟨Nat.zero_le _, Nat.zero_le _⟩ rfl hl.1 rfl (Nat.le_of_ble_eq_true rfl) dX11_train_2 (fun H locs hw hS => ?_)
  refine W.eq (g2 := F0 m 5 ls [.int v_6, .ref (G.2.1 392)]) rfl ?_
  refine lv_if_eq (tgt := 20) cx.1 cx.2.1 dX11_train_5 (by decide) (fun hc => ?_) (fun hc => ?_)
  · rw [if_pos hc] at hf
    refine lv_iconst (v := (1 : Int32)) cx.1 cx.2.1 dX11_train_20 (by decide) ?_
    refine lv_goto (tgt := 39) cx.1 cx.2.1 dX11_train_21 (by decide) ?_
    exact hB_39 S_5 a1 a2 a3 (1 : Int32) _ _ _ hw hS (lv_sub hl [0, 1, 2, 3] rfl) hf
  · rw [if_neg hc] at hf
    refine lv_aload_n cx.1 cx.2.1 dX11_train_8 rfl (lv_at hl 0 rfl) ?_
    refine g_get (C := RX11) (T := TX11) (N := 16) (v := .ref (G.2.1 395)) cx hw inlX11 392 (by omega) he_c392 rfl 5 (by decide) gw_144 rfl rfl dX11_train_9 ?_
    refine lv_iload_n cx.1 cx.2.1 dX11_train_12 rfl (lv_at hl 1 rfl) ?_
    refine lv_iload_n cx.1 cx.2.1 dX11_train_13 rfl (lv_at hl 2 rfl) ?_
    obtain ⟨v_8, S_7, hv, hf⟩ := gbi_some hf
    refine g_S (As := [.ref (G.2.1 395), .int a1, .int a2]) (rest := [.ref (G.2.1 392)]) cx hw hS (c_X11_isTrain l G hM (ia_c395 hM) a1 a2 S_5 v_8 S_7 hv) gw_486 gy_X11_isTrain gi_X11_isTrain ⟨Nat.le_of_ble_eq_true rfl, Nat.le_of_ble_eq_true rfl⟩ ⟨Nat.zero_le _, Nat.zero_le _⟩ rfl hl.1 rfl (Nat.le_of_ble_eq_true rfl) dX11_train_14 (fun H locs hw hS => ?_)
    refine W.eq (g2 := F0 m 17 ls [.int v_8, .ref (G.2.1 392)]) rfl ?_
    refine lv_if_ne (tgt := 24) cx.1 cx.2.1 dX11_train_17 (by decide) (fun hc => ?_) (fun hc => ?_)
    · rw [if_neg hc] at hf
      refine lv_iload_n cx.1 cx.2.1 dX11_train_24 rfl (lv_at hl 3 rfl) ?_
      refine lv_i2l cx.1 cx.2.1 dX11_train_25 rfl ?_
      refine lv_lconst (v := (0 : Int64)) cx.1 cx.2.1 dX11_train_26 (by decide) ?_
      refine lv_lconst (v := (1 : Int64)) cx.1 cx.2.1 dX11_train_27 (by decide) ?_
      obtain ⟨v_10, S_9, hv, hf⟩ := gbi_some hf
      refine g_S (As := [.long a3.toInt64, .long (0 : Int64), .long (1 : Int64)]) (rest := [.ref (G.2.1 392)]) cx hw hS (c_X11_in l G hM a3.toInt64 (0 : Int64) (1 : Int64) S_7 v_10 S_9 hv) gw_197 gy_X11_in gi_X11_in ⟨Nat.le_of_ble_eq_true rfl, Nat.le_of_ble_eq_true rfl⟩ ⟨Nat.zero_le _, Nat.zero_le _⟩ rfl hl.1 rfl (Nat.le_of_ble_eq_true rfl) dX11_train_28 (fun H locs hw hS => ?_)
      refine W.eq (g2 := F0 m 31 ls [.int v_10, .ref (G.2.1 392)]) rfl ?_
      refine lv_if_ne (tgt := 38) cx.1 cx.2.1 dX11_train_31 (by decide) (fun hc => ?_) (fun hc => ?_)
      · rw [if_neg hc] at hf
        refine lv_iconst (v := (0 : Int32)) cx.1 cx.2.1 dX11_train_38 (by decide) ?_
        exact hB_39 S_9 a1 a2 a3 (0 : Int32) _ _ _ hw hS (lv_sub hl [0, 1, 2, 3] rfl) hf
      · rw [if_pos hc] at hf
        refine lv_iconst (v := (2 : Int32)) cx.1 cx.2.1 dX11_train_34 (by decide) ?_
        refine lv_goto (tgt := 39) cx.1 cx.2.1 dX11_train_35 (by decide) ?_
        exact hB_39 S_9 a1 a2 a3 (2 : Int32) _ _ _ hw hS (lv_sub hl [0, 1, 2, 3] rfl) hf
    · rw [if_pos hc] at hf
      refine lv_iconst (v := (1 : Int32)) cx.1 cx.2.1 dX11_train_20 (by decide) ?_
      refine lv_goto (tgt := 39) cx.1 cx.2.1 dX11_train_21 (by decide) ?_
      exact hB_39 S_7 a1 a2 a3 (1 : Int32) _ _ _ hw hS (lv_sub hl [0, 1, 2, 3] rfl) hf
set_option maxHeartbeats 4000000 in
set_option maxRecDepth 100000 in
theorem c_X11_undo (l : Launch) (G : gG) (hM : 402 ≤ gN G) (S : Sg) (r : Int32) (S' : Sg) (hf : f_X11_undo S = some (r, S')) : Ct l yX11_undo [Cond.code yX11_undo cX11_undo 1 (some .int)] (gR 1 24) G [.ref (G.2.1 392)] S (some (.int r)) S' := by
  refine Ct_of (by decide) (Nat.le_of_ble_eq_true rfl) ?_
  intro p e s m below meth c ls cx hr hlk hw hS hl
  have hN := cx.2.2.2.2.hN
  have hB_13 : ∀ (S : Sg) (t0 : Int32) (H : Heap) (locs : List Loc) (ls : Array Slot), gP G S H → va_S (gA G s.heap.size) s.heap H locs → lv_has ls 1 [(0, .ref (G.2.1 392))] → B_X11_undo_13 S t0 = some (r, S') → W p l e (gR 1 24) s m ([.ref (G.2.1 392)] : List Value).toArray below meth c H locs 0 0 (MQ below (gQ G S' (some (.int r)) (gA G s.heap.size)) ([.ref (G.2.1 392)] : List Value).toArray s 0 0 (gA G s.heap.size)) (F0 m 13 ls [.int t0, .ref (G.2.1 392)]) := by
    intro S t0 H locs ls hw hS hl hf
    unfold B_X11_undo_13 at hf
    obtain ⟨v_2, S_1, hv, hf⟩ := gbi_some hf
    refine g_V (As := [.int t0]) (rest := []) cx hw hS (c_X11_refused l G hM t0 S v_2 S_1 hv) (by omega) he_c392 rfl rfl gw_200 gy_X11_refused gi_X11_refused ⟨Nat.le_of_ble_eq_true rfl, Nat.le_of_ble_eq_true rfl⟩ ⟨Nat.zero_le _, Nat.zero_le _⟩ rfl hl.1 rfl (Nat.le_of_ble_eq_true rfl) dX11_undo_13 (fun H locs hw hS => ?_)
    refine W.eq (g2 := F0 m 16 ls [.int v_2]) rfl ?_
    refine lv_if_eq (tgt := 21) cx.1 cx.2.1 dX11_undo_16 (by decide) (fun hc => ?_) (fun hc => ?_)
    · rw [if_pos hc] at hf
      refine lv_aload_n cx.1 cx.2.1 dX11_undo_21 rfl (lv_at hl 0 rfl) ?_
      refine lv_dup cx.1 cx.2.1 dX11_undo_22 rfl ?_
      refine g_get (C := RX11) (T := TX11) (N := 16) (v := .int (S_1 392 8)) cx hw inlX11 392 (by omega) he_c392 rfl 8 (by decide) gw_349 rfl rfl dX11_undo_23 ?_
      refine lv_iconst (v := (1 : Int32)) cx.1 cx.2.1 dX11_undo_26 (by decide) ?_
      refine lv_isub cx.1 cx.2.1 dX11_undo_27 ?_
      obtain ⟨S_3, eS_3, hf⟩ := gst_ex hf
      refine g_put (C := RX11) (T := TX11) (N := 16) cx hw hS inlX11 tyX11 tyX11_ok nmX11 392 (by omega) he_c392 rfl 8 (by decide) gw_349 rfl rfl (by decide +kernel) (Nat.le_of_ble_eq_true rfl) (by rw [u2_s, he_c392]; rfl) dX11_undo_28 (fun H locs hw hS => ?_)
      rw [eS_3] at hw
      refine lv_aload_n cx.1 cx.2.1 dX11_undo_31 rfl (lv_at hl 0 rfl) ?_
      refine g_get (C := RX11) (T := TX11) (N := 16) (v := .ref (G.2.1 397)) cx hw inlX11 392 (by omega) he_c392 rfl 7 (by decide) gw_146 rfl rfl dX11_undo_32 ?_
      refine lv_sipush (v := (175 : Int32)) cx.1 cx.2.1 dX11_undo_35 (by decide) ?_
      refine lv_aload_n cx.1 cx.2.1 dX11_undo_38 rfl (lv_at hl 0 rfl) ?_
      refine g_get (C := RX11) (T := TX11) (N := 16) (v := .int (S_3 392 8)) cx hw inlX11 392 (by omega) he_c392 rfl 8 (by decide) gw_349 rfl rfl dX11_undo_39 ?_
      refine lv_imul cx.1 cx.2.1 dX11_undo_42 ?_
      refine lv_aload_n cx.1 cx.2.1 dX11_undo_43 rfl (lv_at hl 0 rfl) ?_
      refine g_get (C := RX11) (T := TX11) (N := 16) (v := .ref (G.2.1 395)) cx hw inlX11 392 (by omega) he_c392 rfl 5 (by decide) gw_144 rfl rfl dX11_undo_44 ?_
      refine lv_iconst (v := (0 : Int32)) cx.1 cx.2.1 dX11_undo_47 (by decide) ?_
      obtain ⟨S_4, hv, hf⟩ := gbv_some hf
      refine g_S (As := [.ref (G.2.1 397), .int ((175 : Int32) * (S_3 392 8)), .ref (G.2.1 395), .int (0 : Int32)]) (rest := []) cx hw hS (c_X11_copyPage l G hM (ia_c397 hM) (ia_c395 hM) ((175 : Int32) * (S_3 392 8)) (0 : Int32) S_3 S_4 hv) gw_350 gy_X11_copyPage gi_X11_copyPage ⟨Nat.le_of_ble_eq_true rfl, Nat.le_of_ble_eq_true rfl⟩ ⟨Nat.zero_le _, Nat.zero_le _⟩ rfl hl.1 rfl (Nat.le_of_ble_eq_true rfl) dX11_undo_48 (fun H locs hw hS => ?_)
      refine W.eq (g2 := F0 m 51 ls []) rfl ?_
      refine lv_aload_n cx.1 cx.2.1 dX11_undo_51 rfl (lv_at hl 0 rfl) ?_
      refine g_get (C := RX11) (T := TX11) (N := 16) (v := .int (S_4 392 8)) cx hw inlX11 392 (by omega) he_c392 rfl 8 (by decide) gw_349 rfl rfl dX11_undo_52 ?_
      exact g_ireti cx hr hlk hw hS hf dX11_undo_55
    · rw [if_neg hc] at hf
      refine lv_iconst (v := (0 : Int32)) cx.1 cx.2.1 dX11_undo_19 (by decide) ?_
      exact g_ireti cx hr hlk hw hS hf dX11_undo_20
  have hl : lv_has ls 1 [(0, .ref (G.2.1 392))] := hl
  unfold f_X11_undo at hf
  refine lv_aload_n cx.1 cx.2.1 dX11_undo_0 rfl (lv_at hl 0 rfl) ?_
  refine lv_aload_n cx.1 cx.2.1 dX11_undo_1 rfl (lv_at hl 0 rfl) ?_
  refine g_get (C := RX11) (T := TX11) (N := 16) (v := .int (S 392 8)) cx hw inlX11 392 (by omega) he_c392 rfl 8 (by decide) gw_349 rfl rfl dX11_undo_2 ?_
  refine lv_if_ne (tgt := 12) cx.1 cx.2.1 dX11_undo_5 (by decide) (fun hc => ?_) (fun hc => ?_)
  · rw [if_neg hc] at hf
    refine lv_iconst (v := (0 : Int32)) cx.1 cx.2.1 dX11_undo_12 (by decide) ?_
    exact hB_13 S (0 : Int32) _ _ _ hw hS (lv_sub hl [0] rfl) hf
  · rw [if_pos hc] at hf
    refine lv_iconst (v := (1 : Int32)) cx.1 cx.2.1 dX11_undo_8 (by decide) ?_
    refine lv_goto (tgt := 13) cx.1 cx.2.1 dX11_undo_9 (by decide) ?_
    exact hB_13 S (1 : Int32) _ _ _ hw hS (lv_sub hl [0] rfl) hf
set_option maxHeartbeats 4000000 in
set_option maxRecDepth 100000 in
theorem c_X11_way (l : Launch) (G : gG) (hM : 402 ≤ gN G) (a1 : Int32) (a2 : Int32) (a3 : Int32) (a4 : Int32) (a5 : Int32) (S : Sg) (r : Int32) (S' : Sg) (hf : f_X11_way a1 a2 a3 a4 a5 S = some (r, S')) : Ct l yX11_way [Cond.code yX11_way cX11_way 7 (some .int)] (gR 5 128) G [.ref (G.2.1 392), .int a1, .int a2, .int a3, .int a4, .int a5] S (some (.int r)) S' := by
  refine Ct_of (by decide) (Nat.le_of_ble_eq_true rfl) ?_
  intro p e s m below meth c ls cx hr hlk hw hS hl
  have hN := cx.2.2.2.2.hN
  have hB_76 : ∀ (S : Sg) (x1 : Int32) (x2 : Int32) (x3 : Int32) (x4 : Int32) (x5 : Int32) (t0 : Int32) (H : Heap) (locs : List Loc) (ls : Array Slot), gP G S H → va_S (gA G s.heap.size) s.heap H locs → lv_has ls 7 [(0, .ref (G.2.1 392)), (1, .int x1), (2, .int x2), (3, .int x3), (4, .int x4), (5, .int x5)] → B_X11_way_76 S x1 x2 x3 x4 x5 t0 = some (r, S') → W p l e (gR 5 128) s m ([.ref (G.2.1 392), .int a1, .int a2, .int a3, .int a4, .int a5] : List Value).toArray below meth c H locs 0 0 (MQ below (gQ G S' (some (.int r)) (gA G s.heap.size)) ([.ref (G.2.1 392), .int a1, .int a2, .int a3, .int a4, .int a5] : List Value).toArray s 0 0 (gA G s.heap.size)) (F0 m 76 ls [.int t0, .ref (G.2.1 392)]) := by
    intro S x1 x2 x3 x4 x5 t0 H locs ls hw hS hl hf
    unfold B_X11_way_76 at hf
    obtain ⟨v_2, S_1, hv, hf⟩ := gbi_some hf
    refine g_V (As := [.int t0]) (rest := []) cx hw hS (c_X11_refused l G hM t0 S v_2 S_1 hv) (by omega) he_c392 rfl rfl gw_200 gy_X11_refused gi_X11_refused ⟨Nat.le_of_ble_eq_true rfl, Nat.le_of_ble_eq_true rfl⟩ ⟨Nat.zero_le _, Nat.zero_le _⟩ rfl hl.1 rfl (Nat.le_of_ble_eq_true rfl) dX11_way_76 (fun H locs hw hS => ?_)
    refine W.eq (g2 := F0 m 79 ls [.int v_2]) rfl ?_
    refine lv_if_eq (tgt := 84) cx.1 cx.2.1 dX11_way_79 (by decide) (fun hc => ?_) (fun hc => ?_)
    · rw [if_pos hc] at hf
      refine lv_aload_n cx.1 cx.2.1 dX11_way_84 rfl (lv_at hl 0 rfl) ?_
      refine lv_aload_n cx.1 cx.2.1 dX11_way_85 rfl (lv_at hl 0 rfl) ?_
      refine g_get (C := RX11) (T := TX11) (N := 16) (v := .ref (G.2.1 395)) cx hw inlX11 392 (by omega) he_c392 rfl 5 (by decide) gw_144 rfl rfl dX11_way_86 ?_
      refine lv_iload_n cx.1 cx.2.1 dX11_way_89 rfl (lv_at hl 1 rfl) ?_
      refine lv_iload_n cx.1 cx.2.1 dX11_way_90 rfl (lv_at hl 2 rfl) ?_
      refine lv_iload_n cx.1 cx.2.1 dX11_way_91 rfl (lv_at hl 3 rfl) ?_
      refine lv_iload cx.1 cx.2.1 dX11_way_92 (lv_at hl 4 rfl) ?_
      obtain ⟨v_4, S_3, hv, hf⟩ := gbi_some hf
      refine g_V (As := [.ref (G.2.1 395), .int x1, .int x2, .int x3, .int x4]) (rest := []) cx hw hS (c_X11_findWay l G hM (ia_c395 hM) x1 x2 x3 x4 S_1 v_4 S_3 hv) (by omega) he_c392 rfl rfl gw_795 gy_X11_findWay gi_X11_findWay ⟨Nat.le_of_ble_eq_true rfl, Nat.le_of_ble_eq_true rfl⟩ ⟨Nat.zero_le _, Nat.zero_le _⟩ rfl hl.1 rfl (Nat.le_of_ble_eq_true rfl) dX11_way_94 (fun H locs hw hS => ?_)
      refine W.eq (g2 := F0 m 97 ls [.int v_4]) rfl ?_
      refine lv_if_ne (tgt := 103) cx.1 cx.2.1 dX11_way_97 (by decide) (fun hc => ?_) (fun hc => ?_)
      · rw [if_neg hc] at hf
        refine lv_iload cx.1 cx.2.1 dX11_way_103 (lv_at hl 5 rfl) ?_
        refine lv_if_ne (tgt := 115) cx.1 cx.2.1 dX11_way_105 (by decide) (fun hc => ?_) (fun hc => ?_)
        · rw [if_neg hc] at hf
          refine lv_iload cx.1 cx.2.1 dX11_way_115 (lv_at hl 5 rfl) ?_
          refine lv_iconst (v := (1 : Int32)) cx.1 cx.2.1 dX11_way_117 (by decide) ?_
          refine lv_icmp_ne (tgt := 128) cx.1 cx.2.1 dX11_way_118 (by decide) (fun hc => ?_) (fun hc => ?_)
          · rw [if_neg hc] at hf
            refine lv_iload cx.1 cx.2.1 dX11_way_128 (lv_at hl 5 rfl) ?_
            refine lv_iconst (v := (2 : Int32)) cx.1 cx.2.1 dX11_way_130 (by decide) ?_
            refine lv_icmp_ne (tgt := 141) cx.1 cx.2.1 dX11_way_131 (by decide) (fun hc => ?_) (fun hc => ?_)
            · rw [if_neg hc] at hf
              refine lv_aload_n cx.1 cx.2.1 dX11_way_141 rfl (lv_at hl 0 rfl) ?_
              refine g_get (C := RX11) (T := TX11) (N := 16) (v := .ref (G.2.1 401)) cx hw inlX11 392 (by omega) he_c392 rfl 14 (by decide) gw_151 rfl rfl dX11_way_142 ?_
              refine lv_iconst (v := (0 : Int32)) cx.1 cx.2.1 dX11_way_145 (by decide) ?_
              obtain ⟨hin, hf⟩ := gck_some hf
              refine g_iald cx hw (ia_c401 hM) (vp_of_inb hin) dX11_way_146 ?_
              exact g_ireti cx hr hlk hw hS hf dX11_way_147
            · rw [if_pos hc] at hf
              refine lv_aload_n cx.1 cx.2.1 dX11_way_134 rfl (lv_at hl 0 rfl) ?_
              refine g_get (C := RX11) (T := TX11) (N := 16) (v := .int (S_3 392 15)) cx hw inlX11 392 (by omega) he_c392 rfl 15 (by decide) gw_802 rfl rfl dX11_way_135 ?_
              refine lv_goto (tgt := 147) cx.1 cx.2.1 dX11_way_138 (by decide) ?_
              exact g_ireti cx hr hlk hw hS hf dX11_way_147
          · rw [if_pos hc] at hf
            refine lv_aload_n cx.1 cx.2.1 dX11_way_121 rfl (lv_at hl 0 rfl) ?_
            refine g_get (C := RX11) (T := TX11) (N := 16) (v := .int (S_3 392 13)) cx hw inlX11 392 (by omega) he_c392 rfl 13 (by decide) gw_801 rfl rfl dX11_way_122 ?_
            refine lv_goto (tgt := 147) cx.1 cx.2.1 dX11_way_125 (by decide) ?_
            exact g_ireti cx hr hlk hw hS hf dX11_way_147
        · rw [if_pos hc] at hf
          refine lv_aload_n cx.1 cx.2.1 dX11_way_108 rfl (lv_at hl 0 rfl) ?_
          refine g_get (C := RX11) (T := TX11) (N := 16) (v := .int (S_3 392 12)) cx hw inlX11 392 (by omega) he_c392 rfl 12 (by decide) gw_800 rfl rfl dX11_way_109 ?_
          refine lv_goto (tgt := 147) cx.1 cx.2.1 dX11_way_112 (by decide) ?_
          exact g_ireti cx hr hlk hw hS hf dX11_way_147
      · rw [if_pos hc] at hf
        refine lv_bipush (v := (-9 : Int32)) cx.1 cx.2.1 dX11_way_100 (by decide) ?_
        exact g_ireti cx hr hlk hw hS hf dX11_way_102
    · rw [if_neg hc] at hf
      refine lv_iconst (v := (0 : Int32)) cx.1 cx.2.1 dX11_way_82 (by decide) ?_
      exact g_ireti cx hr hlk hw hS hf dX11_way_83
  have hB_36 : ∀ (S : Sg) (x1 : Int32) (x2 : Int32) (x3 : Int32) (x4 : Int32) (x5 : Int32) (t0 : Int32) (H : Heap) (locs : List Loc) (ls : Array Slot), gP G S H → va_S (gA G s.heap.size) s.heap H locs → lv_has ls 7 [(0, .ref (G.2.1 392)), (1, .int x1), (2, .int x2), (3, .int x3), (4, .int x4), (5, .int x5)] → B_X11_way_36 S x1 x2 x3 x4 x5 t0 = some (r, S') → W p l e (gR 5 128) s m ([.ref (G.2.1 392), .int a1, .int a2, .int a3, .int a4, .int a5] : List Value).toArray below meth c H locs 0 0 (MQ below (gQ G S' (some (.int r)) (gA G s.heap.size)) ([.ref (G.2.1 392), .int a1, .int a2, .int a3, .int a4, .int a5] : List Value).toArray s 0 0 (gA G s.heap.size)) (F0 m 36 ls [.int t0]) := by
    intro S x1 x2 x3 x4 x5 t0 H locs ls hw hS hl hf
    unfold B_X11_way_36 at hf
    refine lv_istore (lv' := [(6, .int t0), (0, .ref (G.2.1 392)), (1, .int x1), (2, .int x2), (3, .int x3), (4, .int x4), (5, .int x5)]) cx.1 cx.2.1 dX11_way_36 hl (by decide) rfl (fun ls hl => ?_)
    refine lv_aload_n cx.1 cx.2.1 dX11_way_38 rfl (lv_at hl 1 rfl) ?_
    refine lv_iload_n cx.1 cx.2.1 dX11_way_39 rfl (lv_at hl 2 rfl) ?_
    obtain ⟨v_6, S_5, hv, hf⟩ := gbi_some hf
    refine g_S (As := [.int x1]) (rest := [.ref (G.2.1 392)]) cx hw hS (c_X11_isCompany l G hM x1 S v_6 S_5 hv) gw_446 gy_X11_isCompany gi_X11_isCompany ⟨Nat.le_of_ble_eq_true rfl, Nat.le_of_ble_eq_true rfl⟩ ⟨Nat.zero_le _, Nat.zero_le _⟩ rfl hl.1 rfl (Nat.le_of_ble_eq_true rfl) dX11_way_40 (fun H locs hw hS => ?_)
    refine W.eq (g2 := F0 m 43 ls [.int v_6, .ref (G.2.1 392)]) rfl ?_
    refine lv_if_eq (tgt := 62) cx.1 cx.2.1 dX11_way_43 (by decide) (fun hc => ?_) (fun hc => ?_)
    · rw [if_pos hc] at hf
      refine lv_iconst (v := (1 : Int32)) cx.1 cx.2.1 dX11_way_62 (by decide) ?_
      refine lv_goto (tgt := 76) cx.1 cx.2.1 dX11_way_63 (by decide) ?_
      exact hB_76 S_5 x1 x2 x3 x4 x5 (1 : Int32) _ _ _ hw hS (lv_sub hl [1, 2, 3, 4, 5, 6] rfl) hf
    · rw [if_neg hc] at hf
      refine lv_aload_n cx.1 cx.2.1 dX11_way_46 rfl (lv_at hl 1 rfl) ?_
      refine lv_iload_n cx.1 cx.2.1 dX11_way_47 rfl (lv_at hl 3 rfl) ?_
      obtain ⟨v_8, S_7, hv, hf⟩ := gbi_some hf
      refine g_V (As := [.int x2]) (rest := [.ref (G.2.1 392)]) cx hw hS (c_X11_isCity l G hM x2 S_5 v_8 S_7 hv) (by omega) he_c392 rfl rfl gw_656 gy_X11_isCity gi_X11_isCity ⟨Nat.le_of_ble_eq_true rfl, Nat.le_of_ble_eq_true rfl⟩ ⟨Nat.zero_le _, Nat.zero_le _⟩ rfl hl.1 rfl (Nat.le_of_ble_eq_true rfl) dX11_way_48 (fun H locs hw hS => ?_)
      refine W.eq (g2 := F0 m 51 ls [.int v_8, .ref (G.2.1 392)]) rfl ?_
      refine lv_if_eq (tgt := 62) cx.1 cx.2.1 dX11_way_51 (by decide) (fun hc => ?_) (fun hc => ?_)
      · rw [if_pos hc] at hf
        refine lv_iconst (v := (1 : Int32)) cx.1 cx.2.1 dX11_way_62 (by decide) ?_
        refine lv_goto (tgt := 76) cx.1 cx.2.1 dX11_way_63 (by decide) ?_
        exact hB_76 S_7 x1 x2 x3 x4 x5 (1 : Int32) _ _ _ hw hS (lv_sub hl [1, 2, 3, 4, 5, 6] rfl) hf
      · rw [if_neg hc] at hf
        refine lv_aload_n cx.1 cx.2.1 dX11_way_54 rfl (lv_at hl 1 rfl) ?_
        refine lv_iload_n cx.1 cx.2.1 dX11_way_55 rfl (lv_at hl 4 rfl) ?_
        obtain ⟨v_10, S_9, hv, hf⟩ := gbi_some hf
        refine g_V (As := [.int x3]) (rest := [.ref (G.2.1 392)]) cx hw hS (c_X11_isCity l G hM x3 S_7 v_10 S_9 hv) (by omega) he_c392 rfl rfl gw_656 gy_X11_isCity gi_X11_isCity ⟨Nat.le_of_ble_eq_true rfl, Nat.le_of_ble_eq_true rfl⟩ ⟨Nat.zero_le _, Nat.zero_le _⟩ rfl hl.1 rfl (Nat.le_of_ble_eq_true rfl) dX11_way_56 (fun H locs hw hS => ?_)
        refine W.eq (g2 := F0 m 59 ls [.int v_10, .ref (G.2.1 392)]) rfl ?_
        refine lv_if_ne (tgt := 66) cx.1 cx.2.1 dX11_way_59 (by decide) (fun hc => ?_) (fun hc => ?_)
        · rw [if_neg hc] at hf
          refine lv_iload cx.1 cx.2.1 dX11_way_66 (lv_at hl 0 rfl) ?_
          refine lv_if_ne (tgt := 75) cx.1 cx.2.1 dX11_way_68 (by decide) (fun hc => ?_) (fun hc => ?_)
          · rw [if_neg hc] at hf
            refine lv_iconst (v := (0 : Int32)) cx.1 cx.2.1 dX11_way_75 (by decide) ?_
            exact hB_76 S_9 x1 x2 x3 x4 x5 (0 : Int32) _ _ _ hw hS (lv_sub hl [1, 2, 3, 4, 5, 6] rfl) hf
          · rw [if_pos hc] at hf
            refine lv_iconst (v := (2 : Int32)) cx.1 cx.2.1 dX11_way_71 (by decide) ?_
            refine lv_goto (tgt := 76) cx.1 cx.2.1 dX11_way_72 (by decide) ?_
            exact hB_76 S_9 x1 x2 x3 x4 x5 (2 : Int32) _ _ _ hw hS (lv_sub hl [1, 2, 3, 4, 5, 6] rfl) hf
        · rw [if_pos hc] at hf
          refine lv_iconst (v := (1 : Int32)) cx.1 cx.2.1 dX11_way_62 (by decide) ?_
          refine lv_goto (tgt := 76) cx.1 cx.2.1 dX11_way_63 (by decide) ?_
          exact hB_76 S_9 x1 x2 x3 x4 x5 (1 : Int32) _ _ _ hw hS (lv_sub hl [1, 2, 3, 4, 5, 6] rfl) hf
  have hl : lv_has ls 7 [(0, .ref (G.2.1 392)), (1, .int a1), (2, .int a2), (3, .int a3), (4, .int a4), (5, .int a5)] := hl
  unfold f_X11_way at hf
  refine lv_iload_n cx.1 cx.2.1 dX11_way_0 rfl (lv_at hl 2 rfl) ?_
  refine lv_iload_n cx.1 cx.2.1 dX11_way_1 rfl (lv_at hl 3 rfl) ?_
  refine lv_icmp_eq (tgt := 35) cx.1 cx.2.1 dX11_way_2 (by decide) (fun hc => ?_) (fun hc => ?_)
  · rw [if_pos hc] at hf
    refine lv_iconst (v := (0 : Int32)) cx.1 cx.2.1 dX11_way_35 (by decide) ?_
    exact hB_36 S a1 a2 a3 a4 a5 (0 : Int32) _ _ _ hw hS (lv_sub hl [0, 1, 2, 3, 4, 5] rfl) hf
  · rw [if_neg hc] at hf
    refine lv_iload cx.1 cx.2.1 dX11_way_5 (lv_at hl 4 rfl) ?_
    refine lv_i2l cx.1 cx.2.1 dX11_way_7 rfl ?_
    refine lv_lconst (v := (1 : Int64)) cx.1 cx.2.1 dX11_way_8 (by decide) ?_
    refine lv_ldc2 cx.1 cx.2.1 cx.2.2.2.1 (cx.2.2.2.2.ts _ gw_917) dX11_way_9 ?_
    obtain ⟨v_12, S_11, hv, hf⟩ := gbi_some hf
    refine g_S (As := [.long a4.toInt64, .long (1 : Int64), .long (24 : Int64)]) (rest := []) cx hw hS (c_X11_in l G hM a4.toInt64 (1 : Int64) (24 : Int64) S v_12 S_11 hv) gw_197 gy_X11_in gi_X11_in ⟨Nat.le_of_ble_eq_true rfl, Nat.le_of_ble_eq_true rfl⟩ ⟨Nat.zero_le _, Nat.zero_le _⟩ rfl hl.1 rfl (Nat.le_of_ble_eq_true rfl) dX11_way_12 (fun H locs hw hS => ?_)
    refine W.eq (g2 := F0 m 15 ls [.int v_12]) rfl ?_
    refine lv_if_eq (tgt := 35) cx.1 cx.2.1 dX11_way_15 (by decide) (fun hc => ?_) (fun hc => ?_)
    · rw [if_pos hc] at hf
      refine lv_iconst (v := (0 : Int32)) cx.1 cx.2.1 dX11_way_35 (by decide) ?_
      exact hB_36 S_11 a1 a2 a3 a4 a5 (0 : Int32) _ _ _ hw hS (lv_sub hl [0, 1, 2, 3, 4, 5] rfl) hf
    · rw [if_neg hc] at hf
      refine lv_iload cx.1 cx.2.1 dX11_way_18 (lv_at hl 5 rfl) ?_
      refine lv_i2l cx.1 cx.2.1 dX11_way_20 rfl ?_
      refine lv_lconst (v := (0 : Int64)) cx.1 cx.2.1 dX11_way_21 (by decide) ?_
      refine lv_ldc2 cx.1 cx.2.1 cx.2.2.2.1 (cx.2.2.2.2.ts _ gw_414) dX11_way_22 ?_
      obtain ⟨v_14, S_13, hv, hf⟩ := gbi_some hf
      refine g_S (As := [.long a5.toInt64, .long (0 : Int64), .long (3 : Int64)]) (rest := []) cx hw hS (c_X11_in l G hM a5.toInt64 (0 : Int64) (3 : Int64) S_11 v_14 S_13 hv) gw_197 gy_X11_in gi_X11_in ⟨Nat.le_of_ble_eq_true rfl, Nat.le_of_ble_eq_true rfl⟩ ⟨Nat.zero_le _, Nat.zero_le _⟩ rfl hl.1 rfl (Nat.le_of_ble_eq_true rfl) dX11_way_25 (fun H locs hw hS => ?_)
      refine W.eq (g2 := F0 m 28 ls [.int v_14]) rfl ?_
      refine lv_if_eq (tgt := 35) cx.1 cx.2.1 dX11_way_28 (by decide) (fun hc => ?_) (fun hc => ?_)
      · rw [if_pos hc] at hf
        refine lv_iconst (v := (0 : Int32)) cx.1 cx.2.1 dX11_way_35 (by decide) ?_
        exact hB_36 S_13 a1 a2 a3 a4 a5 (0 : Int32) _ _ _ hw hS (lv_sub hl [0, 1, 2, 3, 4, 5] rfl) hf
      · rw [if_neg hc] at hf
        refine lv_iconst (v := (1 : Int32)) cx.1 cx.2.1 dX11_way_31 (by decide) ?_
        refine lv_goto (tgt := 36) cx.1 cx.2.1 dX11_way_32 (by decide) ?_
        exact hB_36 S_13 a1 a2 a3 a4 a5 (1 : Int32) _ _ _ hw hS (lv_sub hl [0, 1, 2, 3, 4, 5] rfl) hf
