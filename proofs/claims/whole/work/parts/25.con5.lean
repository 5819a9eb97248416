set_option maxHeartbeats 4000000 in
set_option maxRecDepth 100000 in
theorem c_X11_contractsOf (l : Launch) (G : gG) {k0 : Nat} (hM : 402 ≤ gN G) (hk0 : IA G k0 175) (a1 : Int32) (S : Sg) (r : Int32) (S' : Sg) (hf : f_X11_contractsOf k0 a1 S = some (r, S')) : Ct l yX11_contractsOf [Cond.code yX11_contractsOf cX11_contractsOf 4 (some .int)] (gR 1 20) G [.ref (G.2.1 k0), .int a1] S (some (.int r)) S' := by
  refine Ct_of (by decide) (Nat.le_of_ble_eq_true rfl) ?_
  intro p e s m below meth c ls cx hr hlk hw hS hl
  have hN := cx.2.2.2.2.hN
  have hL_4 : ∀ (n : Nat), ∀ (S : Sg) (x1 : Int32) (x2 : Int32) (x3 : Int32) (H : Heap) (locs : List Loc) (ls : Array Slot), gP G S H → va_S (gA G s.heap.size) s.heap H locs → lv_has ls 4 [(0, .ref (G.2.1 k0)), (1, .int x1), (2, .int x2), (3, .int x3)] → L_X11_contractsOf_4 k0 n S x1 x2 x3 = some (r, S') → W p l e (gR 1 20) s m ([.ref (G.2.1 k0), .int a1] : List Value).toArray below meth c H locs 0 0 (MQ below (gQ G S' (some (.int r)) (gA G s.heap.size)) ([.ref (G.2.1 k0), .int a1] : List Value).toArray s 0 0 (gA G s.heap.size)) (F0 m 4 ls []) := by
    intro n
    induction n with
    | zero => intro S x1 x2 x3 H locs ls hw hS hl hf; cases hf
    | succ n hK4 =>
      intro S x1 x2 x3 H locs ls hw hS hl hf
      have hf : Lb_X11_contractsOf_4 k0 (L_X11_contractsOf_4 k0 n) S x1 x2 x3 = some (r, S') := hf
      unfold Lb_X11_contractsOf_4 at hf
      refine lv_iload_n cx.1 cx.2.1 dX11_contractsOf_4 rfl (lv_at hl 3 rfl) ?_
      refine lv_aload_n cx.1 cx.2.1 dX11_contractsOf_5 rfl (lv_at hl 0 rfl) ?_
      refine lv_iconst (v := (2 : Int32)) cx.1 cx.2.1 dX11_contractsOf_6 (by decide) ?_
      obtain ⟨hin, hf⟩ := gck_some hf
      refine g_iald cx hw hk0 (vp_of_inb hin) dX11_contractsOf_7 ?_
      refine lv_icmp_ge (tgt := 37) cx.1 cx.2.1 dX11_contractsOf_8 (by decide) (fun hc => ?_) (fun hc => ?_)
      · rw [if_pos hc] at hf
        refine lv_iload_n cx.1 cx.2.1 dX11_contractsOf_37 rfl (lv_at hl 2 rfl) ?_
        exact g_ireti cx hr hlk hw hS hf dX11_contractsOf_38
      · rw [if_neg hc] at hf
        refine lv_iload_n cx.1 cx.2.1 dX11_contractsOf_11 rfl (lv_at hl 2 rfl) ?_
        refine lv_aload_n cx.1 cx.2.1 dX11_contractsOf_12 rfl (lv_at hl 0 rfl) ?_
        refine lv_iload_n cx.1 cx.2.1 dX11_contractsOf_13 rfl (lv_at hl 3 rfl) ?_
        obtain ⟨v_2, S_1, hv, hf⟩ := gbi_some hf
        refine g_S (As := [.int x3]) (rest := [.ref (G.2.1 k0), .int x2]) cx hw hS (c_X11_contractAt l G hM x3 S v_2 S_1 hv) gw_299 gy_X11_contractAt gi_X11_contractAt ⟨Nat.le_of_ble_eq_true rfl, Nat.le_of_ble_eq_true rfl⟩ ⟨Nat.zero_le _, Nat.zero_le _⟩ rfl hl.1 rfl (Nat.le_of_ble_eq_true rfl) dX11_contractsOf_14 (fun H locs hw hS => ?_)
        refine W.eq (g2 := F0 m 17 ls [.int v_2, .ref (G.2.1 k0), .int x2]) rfl ?_
        refine lv_iconst (v := (4 : Int32)) cx.1 cx.2.1 dX11_contractsOf_17 (by decide) ?_
        refine lv_iadd cx.1 cx.2.1 dX11_contractsOf_18 ?_
        obtain ⟨hin, hf⟩ := gck_some hf
        refine g_iald cx hw hk0 (vp_of_inb hin) dX11_contractsOf_19 ?_
        refine lv_iload_n cx.1 cx.2.1 dX11_contractsOf_20 rfl (lv_at hl 1 rfl) ?_
        refine lv_icmp_ne (tgt := 28) cx.1 cx.2.1 dX11_contractsOf_21 (by decide) (fun hc => ?_) (fun hc => ?_)
        · rw [if_neg hc] at hf
          refine lv_iconst (v := (0 : Int32)) cx.1 cx.2.1 dX11_contractsOf_28 (by decide) ?_
          refine lv_iadd cx.1 cx.2.1 dX11_contractsOf_29 ?_
          obtain ⟨x2_3, ex2_3, hf⟩ := gvi_ex hf
          refine W.eq (g2 := F0 m 30 ls [.int x2_3]) (by rw [← ex2_3]) ?_
          refine lv_istore_n (lv' := [(2, .int x2_3), (0, .ref (G.2.1 k0)), (1, .int x1), (3, .int x3)]) cx.1 cx.2.1 dX11_contractsOf_30 rfl hl (by decide) rfl (fun ls hl => ?_)
          obtain ⟨x3_4, ex3_4, hf⟩ := gvi_ex hf
          refine lv_iinc (v := x3_4) (lv' := [(3, .int x3_4), (2, .int x2_3), (0, .ref (G.2.1 k0)), (1, .int x1)]) cx.1 cx.2.1 dX11_contractsOf_31 hl (k := 3) rfl (by rw [← ex3_4]; rfl) (by decide) rfl (fun ls hl => ?_)
          refine lv_goto (tgt := 4) cx.1 cx.2.1 dX11_contractsOf_34 (by decide) ?_
          exact hK4 S_1 x1 x2_3 x3_4 _ _ _ hw hS (lv_sub hl [2, 3, 1, 0] rfl) hf
        · rw [if_pos hc] at hf
          refine lv_iconst (v := (1 : Int32)) cx.1 cx.2.1 dX11_contractsOf_24 (by decide) ?_
          refine lv_goto (tgt := 29) cx.1 cx.2.1 dX11_contractsOf_25 (by decide) ?_
          refine lv_iadd cx.1 cx.2.1 dX11_contractsOf_29 ?_
          obtain ⟨x2_5, ex2_5, hf⟩ := gvi_ex hf
          refine W.eq (g2 := F0 m 30 ls [.int x2_5]) (by rw [← ex2_5]) ?_
          refine lv_istore_n (lv' := [(2, .int x2_5), (0, .ref (G.2.1 k0)), (1, .int x1), (3, .int x3)]) cx.1 cx.2.1 dX11_contractsOf_30 rfl hl (by decide) rfl (fun ls hl => ?_)
          obtain ⟨x3_6, ex3_6, hf⟩ := gvi_ex hf
          refine lv_iinc (v := x3_6) (lv' := [(3, .int x3_6), (2, .int x2_5), (0, .ref (G.2.1 k0)), (1, .int x1)]) cx.1 cx.2.1 dX11_contractsOf_31 hl (k := 3) rfl (by rw [← ex3_6]; rfl) (by decide) rfl (fun ls hl => ?_)
          refine lv_goto (tgt := 4) cx.1 cx.2.1 dX11_contractsOf_34 (by decide) ?_
          exact hK4 S_1 x1 x2_5 x3_6 _ _ _ hw hS (lv_sub hl [2, 3, 1, 0] rfl) hf
  have hl : lv_has ls 4 [(0, .ref (G.2.1 k0)), (1, .int a1)] := hl
  unfold f_X11_contractsOf at hf
  refine lv_iconst (v := (0 : Int32)) cx.1 cx.2.1 dX11_contractsOf_0 (by decide) ?_
  refine lv_istore_n (lv' := [(2, .int (0 : Int32)), (0, .ref (G.2.1 k0)), (1, .int a1)]) cx.1 cx.2.1 dX11_contractsOf_1 rfl hl (by decide) rfl (fun ls hl => ?_)
  refine lv_iconst (v := (0 : Int32)) cx.1 cx.2.1 dX11_contractsOf_2 (by decide) ?_
  refine lv_istore_n (lv' := [(3, .int (0 : Int32)), (2, .int (0 : Int32)), (0, .ref (G.2.1 k0)), (1, .int a1)]) cx.1 cx.2.1 dX11_contractsOf_3 rfl hl (by decide) rfl (fun ls hl => ?_)
  exact hL_4 gFu S a1 (0 : Int32) (0 : Int32) _ _ _ hw hS (lv_sub hl [2, 3, 1, 0] rfl) hf
set_option maxHeartbeats 4000000 in
set_option maxRecDepth 100000 in
theorem c_X11_company (l : Launch) (G : gG) (hM : 402 ≤ gN G) (a1 : Int32) (a2 : Int32) (S : Sg) (r : Int32) (S' : Sg) (hf : f_X11_company a1 a2 S = some (r, S')) : Ct l yX11_company [Cond.code yX11_company cX11_company 4 (some .int)] (gR 2 45) G [.ref (G.2.1 392), .int a1, .int a2] S (some (.int r)) S' := by
  refine Ct_of (by decide) (Nat.le_of_ble_eq_true rfl) ?_
  intro p e s m below meth c ls cx hr hlk hw hS hl
  have hN := cx.2.2.2.2.hN
  have hB_29 : ∀ (S : Sg) (x1 : Int32) (x2 : Int32) (t0 : Int32) (H : Heap) (locs : List Loc) (ls : Array Slot), gP G S H → va_S (gA G s.heap.size) s.heap H locs → lv_has ls 4 [(0, .ref (G.2.1 392)), (1, .int x1), (2, .int x2)] → B_X11_company_29 S x1 x2 t0 = some (r, S') → W p l e (gR 2 45) s m ([.ref (G.2.1 392), .int a1, .int a2] : List Value).toArray below meth c H locs 0 0 (MQ below (gQ G S' (some (.int r)) (gA G s.heap.size)) ([.ref (G.2.1 392), .int a1, .int a2] : List Value).toArray s 0 0 (gA G s.heap.size)) (F0 m 29 ls [.int t0, .ref (G.2.1 392)]) := by
    intro S x1 x2 t0 H locs ls hw hS hl hf
    unfold B_X11_company_29 at hf
    obtain ⟨v_2, S_1, hv, hf⟩ := gbi_some hf
    refine g_V (As := [.int t0]) (rest := []) cx hw hS (c_X11_refused l G hM t0 S v_2 S_1 hv) (by omega) he_c392 rfl rfl gw_200 gy_X11_refused gi_X11_refused ⟨Nat.le_of_ble_eq_true rfl, Nat.le_of_ble_eq_true rfl⟩ ⟨Nat.zero_le _, Nat.zero_le _⟩ rfl hl.1 rfl (Nat.le_of_ble_eq_true rfl) dX11_company_29 (fun H locs hw hS => ?_)
    refine W.eq (g2 := F0 m 32 ls [.int v_2]) rfl ?_
    refine lv_if_eq (tgt := 37) cx.1 cx.2.1 dX11_company_32 (by decide) (fun hc => ?_) (fun hc => ?_)
    · rw [if_pos hc] at hf
      refine lv_iload_n cx.1 cx.2.1 dX11_company_37 rfl (lv_at hl 1 rfl) ?_
      obtain ⟨v_4, S_3, hv, hf⟩ := gbi_some hf
      refine g_S (As := [.int x1]) (rest := []) cx hw hS (c_X11_companyAt l G hM x1 S_1 v_4 S_3 hv) gw_155 gy_X11_companyAt gi_X11_companyAt ⟨Nat.le_of_ble_eq_true rfl, Nat.le_of_ble_eq_true rfl⟩ ⟨Nat.zero_le _, Nat.zero_le _⟩ rfl hl.1 rfl (Nat.le_of_ble_eq_true rfl) dX11_company_38 (fun H locs hw hS => ?_)
      refine W.eq (g2 := F0 m 41 ls [.int v_4]) rfl ?_
      refine lv_istore_n (lv' := [(3, .int v_4), (0, .ref (G.2.1 392)), (1, .int x1), (2, .int x2)]) cx.1 cx.2.1 dX11_company_41 rfl hl (by decide) rfl (fun ls hl => ?_)
      refine lv_iload_n cx.1 cx.2.1 dX11_company_42 rfl (lv_at hl 3 rfl) ?_
      refine lv_iconst (v := (3 : Int32)) cx.1 cx.2.1 dX11_company_43 (by decide) ?_
      refine lv_icmp_ge (tgt := 58) cx.1 cx.2.1 dX11_company_44 (by decide) (fun hc => ?_) (fun hc => ?_)
      · rw [if_pos hc] at hf
        refine lv_iload_n cx.1 cx.2.1 dX11_company_58 rfl (lv_at hl 3 rfl) ?_
        refine lv_iconst (v := (3 : Int32)) cx.1 cx.2.1 dX11_company_59 (by decide) ?_
        refine lv_icmp_ne (tgt := 75) cx.1 cx.2.1 dX11_company_60 (by decide) (fun hc => ?_) (fun hc => ?_)
        · rw [if_neg hc] at hf
          refine lv_iload_n cx.1 cx.2.1 dX11_company_75 rfl (lv_at hl 3 rfl) ?_
          refine lv_iconst (v := (4 : Int32)) cx.1 cx.2.1 dX11_company_76 (by decide) ?_
          refine lv_icmp_ne (tgt := 91) cx.1 cx.2.1 dX11_company_77 (by decide) (fun hc => ?_) (fun hc => ?_)
          · rw [if_neg hc] at hf
            refine lv_aload_n cx.1 cx.2.1 dX11_company_91 rfl (lv_at hl 1 rfl) ?_
            refine g_get (C := RX11) (T := TX11) (N := 16) (v := .ref (G.2.1 395)) cx hw inlX11 392 (by omega) he_c392 rfl 5 (by decide) gw_144 rfl rfl dX11_company_92 ?_
            refine lv_iload_n cx.1 cx.2.1 dX11_company_95 rfl (lv_at hl 0 rfl) ?_
            refine lv_iload_n cx.1 cx.2.1 dX11_company_96 rfl (lv_at hl 3 rfl) ?_
            refine lv_iadd cx.1 cx.2.1 dX11_company_97 ?_
            refine lv_iconst (v := (2 : Int32)) cx.1 cx.2.1 dX11_company_98 (by decide) ?_
            refine lv_isub cx.1 cx.2.1 dX11_company_99 ?_
            obtain ⟨hin, hf⟩ := gck_some hf
            refine g_iald cx hw (ia_c395 hM) (vp_of_inb hin) dX11_company_100 ?_
            exact g_ireti cx hr hlk hw hS hf dX11_company_101
          · rw [if_pos hc] at hf
            refine lv_aload_n cx.1 cx.2.1 dX11_company_80 rfl (lv_at hl 1 rfl) ?_
            refine g_get (C := RX11) (T := TX11) (N := 16) (v := .ref (G.2.1 395)) cx hw inlX11 392 (by omega) he_c392 rfl 5 (by decide) gw_144 rfl rfl dX11_company_81 ?_
            refine lv_iload_n cx.1 cx.2.1 dX11_company_84 rfl (lv_at hl 2 rfl) ?_
            obtain ⟨v_6, S_5, hv, hf⟩ := gbi_some hf
            refine g_S (As := [.ref (G.2.1 395), .int x1]) (rest := []) cx hw hS (c_X11_contractsOf l G hM (ia_c395 hM) x1 S_3 v_6 S_5 hv) gw_452 gy_X11_contractsOf gi_X11_contractsOf ⟨Nat.le_of_ble_eq_true rfl, Nat.le_of_ble_eq_true rfl⟩ ⟨Nat.zero_le _, Nat.zero_le _⟩ rfl hl.1 rfl (Nat.le_of_ble_eq_true rfl) dX11_company_85 (fun H locs hw hS => ?_)
            refine W.eq (g2 := F0 m 88 ls [.int v_6]) rfl ?_
            refine lv_goto (tgt := 101) cx.1 cx.2.1 dX11_company_88 (by decide) ?_
            exact g_ireti cx hr hlk hw hS hf dX11_company_101
        · rw [if_pos hc] at hf
          refine lv_aload_n cx.1 cx.2.1 dX11_company_63 rfl (lv_at hl 1 rfl) ?_
          refine g_get (C := RX11) (T := TX11) (N := 16) (v := .ref (G.2.1 395)) cx hw inlX11 392 (by omega) he_c392 rfl 5 (by decide) gw_144 rfl rfl dX11_company_64 ?_
          refine lv_iload_n cx.1 cx.2.1 dX11_company_67 rfl (lv_at hl 2 rfl) ?_
          refine lv_iconst (v := (0 : Int32)) cx.1 cx.2.1 dX11_company_68 (by decide) ?_
          obtain ⟨v_8, S_7, hv, hf⟩ := gbi_some hf
          refine g_S (As := [.ref (G.2.1 395), .int x1, .int (0 : Int32)]) (rest := []) cx hw hS (c_X11_tracksOf l G hM (ia_c395 hM) x1 (0 : Int32) S_3 v_8 S_7 hv) gw_449 gy_X11_tracksOf gi_X11_tracksOf ⟨Nat.le_of_ble_eq_true rfl, Nat.le_of_ble_eq_true rfl⟩ ⟨Nat.zero_le _, Nat.zero_le _⟩ rfl hl.1 rfl (Nat.le_of_ble_eq_true rfl) dX11_company_69 (fun H locs hw hS => ?_)
          refine W.eq (g2 := F0 m 72 ls [.int v_8]) rfl ?_
          refine lv_goto (tgt := 101) cx.1 cx.2.1 dX11_company_72 (by decide) ?_
          exact g_ireti cx hr hlk hw hS hf dX11_company_101
      · rw [if_neg hc] at hf
        refine lv_aload_n cx.1 cx.2.1 dX11_company_47 rfl (lv_at hl 1 rfl) ?_
        refine g_get (C := RX11) (T := TX11) (N := 16) (v := .ref (G.2.1 395)) cx hw inlX11 392 (by omega) he_c392 rfl 5 (by decide) gw_144 rfl rfl dX11_company_48 ?_
        refine lv_iload_n cx.1 cx.2.1 dX11_company_51 rfl (lv_at hl 0 rfl) ?_
        refine lv_iload_n cx.1 cx.2.1 dX11_company_52 rfl (lv_at hl 3 rfl) ?_
        refine lv_iadd cx.1 cx.2.1 dX11_company_53 ?_
        obtain ⟨hin, hf⟩ := gck_some hf
        refine g_iald cx hw (ia_c395 hM) (vp_of_inb hin) dX11_company_54 ?_
        refine lv_goto (tgt := 101) cx.1 cx.2.1 dX11_company_55 (by decide) ?_
        exact g_ireti cx hr hlk hw hS hf dX11_company_101
    · rw [if_neg hc] at hf
      refine lv_iconst (v := (0 : Int32)) cx.1 cx.2.1 dX11_company_35 (by decide) ?_
      exact g_ireti cx hr hlk hw hS hf dX11_company_36
  have hl : lv_has ls 4 [(0, .ref (G.2.1 392)), (1, .int a1), (2, .int a2)] := hl
  unfold f_X11_company at hf
  refine lv_aload_n cx.1 cx.2.1 dX11_company_0 rfl (lv_at hl 0 rfl) ?_
  refine lv_iload_n cx.1 cx.2.1 dX11_company_1 rfl (lv_at hl 1 rfl) ?_
  obtain ⟨v_10, S_9, hv, hf⟩ := gbi_some hf
  refine g_S (As := [.int a1]) (rest := [.ref (G.2.1 392)]) cx hw hS (c_X11_isCompany l G hM a1 S v_10 S_9 hv) gw_446 gy_X11_isCompany gi_X11_isCompany ⟨Nat.le_of_ble_eq_true rfl, Nat.le_of_ble_eq_true rfl⟩ ⟨Nat.zero_le _, Nat.zero_le _⟩ rfl hl.1 rfl (Nat.le_of_ble_eq_true rfl) dX11_company_2 (fun H locs hw hS => ?_)
  refine W.eq (g2 := F0 m 5 ls [.int v_10, .ref (G.2.1 392)]) rfl ?_
  refine lv_if_ne (tgt := 12) cx.1 cx.2.1 dX11_company_5 (by decide) (fun hc => ?_) (fun hc => ?_)
  · rw [if_neg hc] at hf
    refine lv_iload_n cx.1 cx.2.1 dX11_company_12 rfl (lv_at hl 2 rfl) ?_
    refine lv_i2l cx.1 cx.2.1 dX11_company_13 rfl ?_
    refine lv_lconst (v := (0 : Int64)) cx.1 cx.2.1 dX11_company_14 (by decide) ?_
    refine lv_ldc2 cx.1 cx.2.1 cx.2.2.2.1 (cx.2.2.2.2.ts _ gw_445) dX11_company_15 ?_
    obtain ⟨v_12, S_11, hv, hf⟩ := gbi_some hf
    refine g_S (As := [.long a2.toInt64, .long (0 : Int64), .long (6 : Int64)]) (rest := [.ref (G.2.1 392)]) cx hw hS (c_X11_in l G hM a2.toInt64 (0 : Int64) (6 : Int64) S_9 v_12 S_11 hv) gw_197 gy_X11_in gi_X11_in ⟨Nat.le_of_ble_eq_true rfl, Nat.le_of_ble_eq_true rfl⟩ ⟨Nat.zero_le _, Nat.zero_le _⟩ rfl hl.1 rfl (Nat.le_of_ble_eq_true rfl) dX11_company_18 (fun H locs hw hS => ?_)
    refine W.eq (g2 := F0 m 21 ls [.int v_12, .ref (G.2.1 392)]) rfl ?_
    refine lv_if_ne (tgt := 28) cx.1 cx.2.1 dX11_company_21 (by decide) (fun hc => ?_) (fun hc => ?_)
    · rw [if_neg hc] at hf
      refine lv_iconst (v := (0 : Int32)) cx.1 cx.2.1 dX11_company_28 (by decide) ?_
      exact hB_29 S_11 a1 a2 (0 : Int32) _ _ _ hw hS (lv_sub hl [0, 1, 2] rfl) hf
    · rw [if_pos hc] at hf
      refine lv_iconst (v := (2 : Int32)) cx.1 cx.2.1 dX11_company_24 (by decide) ?_
      refine lv_goto (tgt := 29) cx.1 cx.2.1 dX11_company_25 (by decide) ?_
      exact hB_29 S_11 a1 a2 (2 : Int32) _ _ _ hw hS (lv_sub hl [0, 1, 2] rfl) hf
  · rw [if_pos hc] at hf
    refine lv_iconst (v := (1 : Int32)) cx.1 cx.2.1 dX11_company_8 (by decide) ?_
    refine lv_goto (tgt := 29) cx.1 cx.2.1 dX11_company_9 (by decide) ?_
    exact hB_29 S_9 a1 a2 (1 : Int32) _ _ _ hw hS (lv_sub hl [0, 1, 2] rfl) hf
set_option maxHeartbeats 4000000 in
set_option maxRecDepth 100000 in
theorem c_X11_isContract (l : Launch) (G : gG) {k0 : Nat} (hM : 402 ≤ gN G) (hk0 : IA G k0 175) (a1 : Int32) (S : Sg) (r : Int32) (S' : Sg) (hf : f_X11_isContract k0 a1 S = some (r, S')) : Ct l yX11_isContract [Cond.code yX11_isContract cX11_isContract 2 (some .boolean)] (gR 1 25) G [.ref (G.2.1 k0), .int a1] S (some (.int r)) S' := by
  refine Ct_of (by decide) (Nat.le_of_ble_eq_true rfl) ?_
  intro p e s m below meth c ls cx hr hlk hw hS hl
  have hN := cx.2.2.2.2.hN
  have hl : lv_has ls 2 [(0, .ref (G.2.1 k0)), (1, .int a1)] := hl
  unfold f_X11_isContract at hf
  refine lv_iload_n cx.1 cx.2.1 dX11_isContract_0 rfl (lv_at hl 1 rfl) ?_
  refine lv_i2l cx.1 cx.2.1 dX11_isContract_1 rfl ?_
  refine lv_lconst (v := (0 : Int64)) cx.1 cx.2.1 dX11_isContract_2 (by decide) ?_
  refine lv_aload_n cx.1 cx.2.1 dX11_isContract_3 rfl (lv_at hl 0 rfl) ?_
  refine lv_iconst (v := (2 : Int32)) cx.1 cx.2.1 dX11_isContract_4 (by decide) ?_
  obtain ⟨hin, hf⟩ := gck_some hf
  refine g_iald cx hw hk0 (vp_of_inb hin) dX11_isContract_5 ?_
  refine lv_iconst (v := (1 : Int32)) cx.1 cx.2.1 dX11_isContract_6 (by decide) ?_
  refine lv_isub cx.1 cx.2.1 dX11_isContract_7 ?_
  refine lv_i2l cx.1 cx.2.1 dX11_isContract_8 rfl ?_
  obtain ⟨v_2, S_1, hv, hf⟩ := gbi_some hf
  refine g_S (As := [.long a1.toInt64, .long (0 : Int64), .long (((S k0 (2 : Int32).toNatClampNeg) - (1 : Int32)).toInt64)]) (rest := []) cx hw hS (c_X11_in l G hM a1.toInt64 (0 : Int64) (((S k0 (2 : Int32).toNatClampNeg) - (1 : Int32)).toInt64) S v_2 S_1 hv) gw_197 gy_X11_in gi_X11_in ⟨Nat.le_of_ble_eq_true rfl, Nat.le_of_ble_eq_true rfl⟩ ⟨Nat.zero_le _, Nat.zero_le _⟩ rfl hl.1 rfl (Nat.le_of_ble_eq_true rfl) dX11_isContract_9 (fun H locs hw hS => ?_)
  refine W.eq (g2 := F0 m 12 ls [.int v_2]) rfl ?_
  obtain ⟨hbo, hf⟩ := gck_some hf
  exact g_zreti cx hr hlk hw hS hbo hf dX11_isContract_12
set_option maxHeartbeats 4000000 in
set_option maxRecDepth 100000 in
theorem c_X11_contract (l : Launch) (G : gG) (hM : 402 ≤ gN G) (a1 : Int32) (a2 : Int32) (S : Sg) (r : Int32) (S' : Sg) (hf : f_X11_contract a1 a2 S = some (r, S')) : Ct l yX11_contract [Cond.code yX11_contract cX11_contract 3 (some .int)] (gR 2 46) G [.ref (G.2.1 392), .int a1, .int a2] S (some (.int r)) S' := by
  refine Ct_of (by decide) (Nat.le_of_ble_eq_true rfl) ?_
  intro p e s m below meth c ls cx hr hlk hw hS hl
  have hN := cx.2.2.2.2.hN
  have hB_33 : ∀ (S : Sg) (x1 : Int32) (x2 : Int32) (t0 : Int32) (H : Heap) (locs : List Loc) (ls : Array Slot), gP G S H → va_S (gA G s.heap.size) s.heap H locs → lv_has ls 3 [(0, .ref (G.2.1 392)), (1, .int x1), (2, .int x2)] → B_X11_contract_33 S x1 x2 t0 = some (r, S') → W p l e (gR 2 46) s m ([.ref (G.2.1 392), .int a1, .int a2] : List Value).toArray below meth c H locs 0 0 (MQ below (gQ G S' (some (.int r)) (gA G s.heap.size)) ([.ref (G.2.1 392), .int a1, .int a2] : List Value).toArray s 0 0 (gA G s.heap.size)) (F0 m 33 ls [.int t0, .ref (G.2.1 392)]) := by
    intro S x1 x2 t0 H locs ls hw hS hl hf
    unfold B_X11_contract_33 at hf
    obtain ⟨v_2, S_1, hv, hf⟩ := gbi_some hf
    refine g_V (As := [.int t0]) (rest := []) cx hw hS (c_X11_refused l G hM t0 S v_2 S_1 hv) (by omega) he_c392 rfl rfl gw_200 gy_X11_refused gi_X11_refused ⟨Nat.le_of_ble_eq_true rfl, Nat.le_of_ble_eq_true rfl⟩ ⟨Nat.zero_le _, Nat.zero_le _⟩ rfl hl.1 rfl (Nat.le_of_ble_eq_true rfl) dX11_contract_33 (fun H locs hw hS => ?_)
    refine W.eq (g2 := F0 m 36 ls [.int v_2]) rfl ?_
    refine lv_if_eq (tgt := 43) cx.1 cx.2.1 dX11_contract_36 (by decide) (fun hc => ?_) (fun hc => ?_)
    · rw [if_pos hc] at hf
      refine lv_aload_n cx.1 cx.2.1 dX11_contract_43 rfl (lv_at hl 0 rfl) ?_
      refine g_get (C := RX11) (T := TX11) (N := 16) (v := .ref (G.2.1 395)) cx hw inlX11 392 (by omega) he_c392 rfl 5 (by decide) gw_144 rfl rfl dX11_contract_44 ?_
      refine lv_iload_n cx.1 cx.2.1 dX11_contract_47 rfl (lv_at hl 1 rfl) ?_
      obtain ⟨v_4, S_3, hv, hf⟩ := gbi_some hf
      refine g_S (As := [.int x1]) (rest := [.ref (G.2.1 395)]) cx hw hS (c_X11_contractAt l G hM x1 S_1 v_4 S_3 hv) gw_299 gy_X11_contractAt gi_X11_contractAt ⟨Nat.le_of_ble_eq_true rfl, Nat.le_of_ble_eq_true rfl⟩ ⟨Nat.zero_le _, Nat.zero_le _⟩ rfl hl.1 rfl (Nat.le_of_ble_eq_true rfl) dX11_contract_48 (fun H locs hw hS => ?_)
      refine W.eq (g2 := F0 m 51 ls [.int v_4, .ref (G.2.1 395)]) rfl ?_
      refine lv_iload_n cx.1 cx.2.1 dX11_contract_51 rfl (lv_at hl 2 rfl) ?_
      refine lv_iadd cx.1 cx.2.1 dX11_contract_52 ?_
      obtain ⟨hin, hf⟩ := gck_some hf
      refine g_iald cx hw (ia_c395 hM) (vp_of_inb hin) dX11_contract_53 ?_
      exact g_ireti cx hr hlk hw hS hf dX11_contract_54
    · rw [if_neg hc] at hf
      refine lv_iconst (v := (0 : Int32)) cx.1 cx.2.1 dX11_contract_39 (by decide) ?_
      refine lv_goto (tgt := 54) cx.1 cx.2.1 dX11_contract_40 (by decide) ?_
      exact g_ireti cx hr hlk hw hS hf dX11_contract_54
  have hl : lv_has ls 3 [(0, .ref (G.2.1 392)), (1, .int a1), (2, .int a2)] := hl
  unfold f_X11_contract at hf
  refine lv_aload_n cx.1 cx.2.1 dX11_contract_0 rfl (lv_at hl 0 rfl) ?_
  refine lv_aload_n cx.1 cx.2.1 dX11_contract_1 rfl (lv_at hl 0 rfl) ?_
  refine g_get (C := RX11) (T := TX11) (N := 16) (v := .ref (G.2.1 395)) cx hw inlX11 392 (by omega) he_c392 rfl 5 (by decide) gw_144 rfl rfl dX11_contract_2 ?_
  refine lv_iload_n cx.1 cx.2.1 dX11_contract_5 rfl (lv_at hl 1 rfl) ?_
  obtain ⟨v_6, S_5, hv, hf⟩ := gbi_some hf
  refine g_S (As := [.ref (G.2.1 395), .int a1]) (rest := [.ref (G.2.1 392)]) cx hw hS (c_X11_isContract l G hM (ia_c395 hM) a1 S v_6 S_5 hv) gw_521 gy_X11_isContract gi_X11_isContract ⟨Nat.le_of_ble_eq_true rfl, Nat.le_of_ble_eq_true rfl⟩ ⟨Nat.zero_le _, Nat.zero_le _⟩ rfl hl.1 rfl (Nat.le_of_ble_eq_true rfl) dX11_contract_6 (fun H locs hw hS => ?_)
  refine W.eq (g2 := F0 m 9 ls [.int v_6, .ref (G.2.1 392)]) rfl ?_
  refine lv_if_ne (tgt := 16) cx.1 cx.2.1 dX11_contract_9 (by decide) (fun hc => ?_) (fun hc => ?_)
  · rw [if_neg hc] at hf
    refine lv_iload_n cx.1 cx.2.1 dX11_contract_16 rfl (lv_at hl 2 rfl) ?_
    refine lv_i2l cx.1 cx.2.1 dX11_contract_17 rfl ?_
    refine lv_lconst (v := (0 : Int64)) cx.1 cx.2.1 dX11_contract_18 (by decide) ?_
    refine lv_ldc2 cx.1 cx.2.1 cx.2.2.2.1 (cx.2.2.2.2.ts _ gw_520) dX11_contract_19 ?_
    obtain ⟨v_8, S_7, hv, hf⟩ := gbi_some hf
    refine g_S (As := [.long a2.toInt64, .long (0 : Int64), .long (5 : Int64)]) (rest := [.ref (G.2.1 392)]) cx hw hS (c_X11_in l G hM a2.toInt64 (0 : Int64) (5 : Int64) S_5 v_8 S_7 hv) gw_197 gy_X11_in gi_X11_in ⟨Nat.le_of_ble_eq_true rfl, Nat.le_of_ble_eq_true rfl⟩ ⟨Nat.zero_le _, Nat.zero_le _⟩ rfl hl.1 rfl (Nat.le_of_ble_eq_true rfl) dX11_contract_22 (fun H locs hw hS => ?_)
    refine W.eq (g2 := F0 m 25 ls [.int v_8, .ref (G.2.1 392)]) rfl ?_
    refine lv_if_ne (tgt := 32) cx.1 cx.2.1 dX11_contract_25 (by decide) (fun hc => ?_) (fun hc => ?_)
    · rw [if_neg hc] at hf
      refine lv_iconst (v := (0 : Int32)) cx.1 cx.2.1 dX11_contract_32 (by decide) ?_
      exact hB_33 S_7 a1 a2 (0 : Int32) _ _ _ hw hS (lv_sub hl [0, 1, 2] rfl) hf
    · rw [if_pos hc] at hf
      refine lv_iconst (v := (2 : Int32)) cx.1 cx.2.1 dX11_contract_28 (by decide) ?_
      refine lv_goto (tgt := 33) cx.1 cx.2.1 dX11_contract_29 (by decide) ?_
      exact hB_33 S_7 a1 a2 (2 : Int32) _ _ _ hw hS (lv_sub hl [0, 1, 2] rfl) hf
  · rw [if_pos hc] at hf
    refine lv_iconst (v := (1 : Int32)) cx.1 cx.2.1 dX11_contract_12 (by decide) ?_
    refine lv_goto (tgt := 33) cx.1 cx.2.1 dX11_contract_13 (by decide) ?_
    exact hB_33 S_5 a1 a2 (1 : Int32) _ _ _ hw hS (lv_sub hl [0, 1, 2] rfl) hf
set_option maxHeartbeats 4000000 in
set_option maxRecDepth 100000 in
theorem c_X11_digit (l : Launch) (G : gG) (hM : 402 ≤ gN G) (a1 : Int32) (a2 : Int32) (a3 : Int32) (S : Sg) (r : Int32) (S' : Sg) (hf : f_X11_digit a1 a2 a3 S = some (r, S')) : Ct l yX11_digit [Cond.code yX11_digit cX11_digit 6 (some .int)] (gR 1 25) G [.ref (G.2.1 392), .int a1, .int a2, .int a3] S (some (.int r)) S' := by
  refine Ct_of (by decide) (Nat.le_of_ble_eq_true rfl) ?_
  intro p e s m below meth c ls cx hr hlk hw hS hl
  have hN := cx.2.2.2.2.hN
  have hB_70 : ∀ (S : Sg) (x4 : Int32) (x5 : Int32) (t0 : Int32) (t1 : Int32) (H : Heap) (locs : List Loc) (ls : Array Slot), gP G S H → va_S (gA G s.heap.size) s.heap H locs → lv_has ls 6 [(4, .int x4), (5, .int x5)] → B_X11_digit_70 S x4 x5 t0 t1 = some (r, S') → W p l e (gR 1 25) s m ([.ref (G.2.1 392), .int a1, .int a2, .int a3] : List Value).toArray below meth c H locs 0 0 (MQ below (gQ G S' (some (.int r)) (gA G s.heap.size)) ([.ref (G.2.1 392), .int a1, .int a2, .int a3] : List Value).toArray s 0 0 (gA G s.heap.size)) (F0 m 70 ls [.int t0, .int t1, .ref (G.2.1 392)]) := by
    intro S x4 x5 t0 t1 H locs ls hw hS hl hf
    unfold B_X11_digit_70 at hf
    refine lv_iadd cx.1 cx.2.1 dX11_digit_70 ?_
    obtain ⟨S_1, eS_1, hf⟩ := gst_ex hf
    refine g_put (C := RX11) (T := TX11) (N := 16) cx hw hS inlX11 tyX11 tyX11_ok nmX11 392 (by omega) he_c392 rfl 3 (by decide) gw_275 rfl rfl (by decide +kernel) (Nat.le_of_ble_eq_true rfl) (by rw [u2_s, he_c392]; rfl) dX11_digit_71 (fun H locs hw hS => ?_)
    rw [eS_1] at hw
    refine lv_iload cx.1 cx.2.1 dX11_digit_74 (lv_at hl 1 rfl) ?_
    refine lv_if_eq (tgt := 84) cx.1 cx.2.1 dX11_digit_76 (by decide) (fun hc => ?_) (fun hc => ?_)
    · rw [if_pos hc] at hf
      refine lv_bipush (v := (-9 : Int32)) cx.1 cx.2.1 dX11_digit_84 (by decide) ?_
      exact g_ireti cx hr hlk hw hS hf dX11_digit_86
    · rw [if_neg hc] at hf
      refine lv_iload cx.1 cx.2.1 dX11_digit_79 (lv_at hl 0 rfl) ?_
      refine lv_goto (tgt := 86) cx.1 cx.2.1 dX11_digit_81 (by decide) ?_
      exact g_ireti cx hr hlk hw hS hf dX11_digit_86
  have hB_53 : ∀ (S : Sg) (x4 : Int32) (t0 : Int32) (H : Heap) (locs : List Loc) (ls : Array Slot), gP G S H → va_S (gA G s.heap.size) s.heap H locs → lv_has ls 6 [(0, .ref (G.2.1 392)), (4, .int x4)] → B_X11_digit_53 S x4 t0 = some (r, S') → W p l e (gR 1 25) s m ([.ref (G.2.1 392), .int a1, .int a2, .int a3] : List Value).toArray below meth c H locs 0 0 (MQ below (gQ G S' (some (.int r)) (gA G s.heap.size)) ([.ref (G.2.1 392), .int a1, .int a2, .int a3] : List Value).toArray s 0 0 (gA G s.heap.size)) (F0 m 53 ls [.int t0]) := by
    intro S x4 t0 H locs ls hw hS hl hf
    unfold B_X11_digit_53 at hf
    refine lv_istore (lv' := [(5, .int t0), (0, .ref (G.2.1 392)), (4, .int x4)]) cx.1 cx.2.1 dX11_digit_53 hl (by decide) rfl (fun ls hl => ?_)
    refine lv_aload_n cx.1 cx.2.1 dX11_digit_55 rfl (lv_at hl 1 rfl) ?_
    refine lv_dup cx.1 cx.2.1 dX11_digit_56 rfl ?_
    refine g_get (C := RX11) (T := TX11) (N := 16) (v := .int (S 392 3)) cx hw inlX11 392 (by omega) he_c392 rfl 3 (by decide) gw_275 rfl rfl dX11_digit_57 ?_
    refine lv_iload cx.1 cx.2.1 dX11_digit_60 (lv_at hl 0 rfl) ?_
    refine lv_if_eq (tgt := 69) cx.1 cx.2.1 dX11_digit_62 (by decide) (fun hc => ?_) (fun hc => ?_)
    · rw [if_pos hc] at hf
      refine lv_iconst (v := (0 : Int32)) cx.1 cx.2.1 dX11_digit_69 (by decide) ?_
      exact hB_70 S x4 t0 (0 : Int32) (S 392 3) _ _ _ hw hS (lv_sub hl [2, 0] rfl) hf
    · rw [if_neg hc] at hf
      refine lv_iconst (v := (1 : Int32)) cx.1 cx.2.1 dX11_digit_65 (by decide) ?_
      refine lv_goto (tgt := 70) cx.1 cx.2.1 dX11_digit_66 (by decide) ?_
      exact hB_70 S x4 t0 (1 : Int32) (S 392 3) _ _ _ hw hS (lv_sub hl [2, 0] rfl) hf
  have hB_27 : ∀ (S : Sg) (x1 : Int32) (x2 : Int32) (x3 : Int32) (t0 : Int32) (H : Heap) (locs : List Loc) (ls : Array Slot), gP G S H → va_S (gA G s.heap.size) s.heap H locs → lv_has ls 6 [(0, .ref (G.2.1 392)), (1, .int x1), (2, .int x2), (3, .int x3)] → B_X11_digit_27 S x1 x2 x3 t0 = some (r, S') → W p l e (gR 1 25) s m ([.ref (G.2.1 392), .int a1, .int a2, .int a3] : List Value).toArray below meth c H locs 0 0 (MQ below (gQ G S' (some (.int r)) (gA G s.heap.size)) ([.ref (G.2.1 392), .int a1, .int a2, .int a3] : List Value).toArray s 0 0 (gA G s.heap.size)) (F0 m 27 ls [.int t0]) := by
    intro S x1 x2 x3 t0 H locs ls hw hS hl hf
    unfold B_X11_digit_27 at hf
    refine lv_istore (lv' := [(4, .int t0), (0, .ref (G.2.1 392)), (1, .int x1), (2, .int x2), (3, .int x3)]) cx.1 cx.2.1 dX11_digit_27 hl (by decide) rfl (fun ls hl => ?_)
    refine lv_iload cx.1 cx.2.1 dX11_digit_29 (lv_at hl 0 rfl) ?_
    refine lv_i2l cx.1 cx.2.1 dX11_digit_31 rfl ?_
    refine lv_iload_n cx.1 cx.2.1 dX11_digit_32 rfl (lv_at hl 2 rfl) ?_
    refine lv_i2l cx.1 cx.2.1 dX11_digit_33 rfl ?_
    refine lv_iload_n cx.1 cx.2.1 dX11_digit_34 rfl (lv_at hl 3 rfl) ?_
    refine lv_i2l cx.1 cx.2.1 dX11_digit_35 rfl ?_
    obtain ⟨v_3, S_2, hv, hf⟩ := gbi_some hf
    refine g_S (As := [.long t0.toInt64, .long x1.toInt64, .long x2.toInt64]) (rest := []) cx hw hS (c_X11_in l G hM t0.toInt64 x1.toInt64 x2.toInt64 S v_3 S_2 hv) gw_197 gy_X11_in gi_X11_in ⟨Nat.le_of_ble_eq_true rfl, Nat.le_of_ble_eq_true rfl⟩ ⟨Nat.zero_le _, Nat.zero_le _⟩ rfl hl.1 rfl (Nat.le_of_ble_eq_true rfl) dX11_digit_36 (fun H locs hw hS => ?_)
    refine W.eq (g2 := F0 m 39 ls [.int v_3]) rfl ?_
    refine lv_if_eq (tgt := 52) cx.1 cx.2.1 dX11_digit_39 (by decide) (fun hc => ?_) (fun hc => ?_)
    · rw [if_pos hc] at hf
      refine lv_iconst (v := (0 : Int32)) cx.1 cx.2.1 dX11_digit_52 (by decide) ?_
      exact hB_53 S_2 t0 (0 : Int32) _ _ _ hw hS (lv_sub hl [1, 0] rfl) hf
    · rw [if_neg hc] at hf
      refine lv_iload cx.1 cx.2.1 dX11_digit_42 (lv_at hl 0 rfl) ?_
      refine lv_iload_n cx.1 cx.2.1 dX11_digit_44 rfl (lv_at hl 4 rfl) ?_
      refine lv_icmp_eq (tgt := 52) cx.1 cx.2.1 dX11_digit_45 (by decide) (fun hc => ?_) (fun hc => ?_)
      · rw [if_pos hc] at hf
        refine lv_iconst (v := (0 : Int32)) cx.1 cx.2.1 dX11_digit_52 (by decide) ?_
        exact hB_53 S_2 t0 (0 : Int32) _ _ _ hw hS (lv_sub hl [1, 0] rfl) hf
      · rw [if_neg hc] at hf
        refine lv_iconst (v := (1 : Int32)) cx.1 cx.2.1 dX11_digit_48 (by decide) ?_
        refine lv_goto (tgt := 53) cx.1 cx.2.1 dX11_digit_49 (by decide) ?_
        exact hB_53 S_2 t0 (1 : Int32) _ _ _ hw hS (lv_sub hl [1, 0] rfl) hf
  have hl : lv_has ls 6 [(0, .ref (G.2.1 392)), (1, .int a1), (2, .int a2), (3, .int a3)] := hl
  unfold f_X11_digit at hf
  refine lv_aload_n cx.1 cx.2.1 dX11_digit_0 rfl (lv_at hl 0 rfl) ?_
  refine g_get (C := RX11) (T := TX11) (N := 16) (v := .int (S 392 3)) cx hw inlX11 392 (by omega) he_c392 rfl 3 (by decide) gw_275 rfl rfl dX11_digit_1 ?_
  refine lv_aload_n cx.1 cx.2.1 dX11_digit_4 rfl (lv_at hl 0 rfl) ?_
  refine g_get (C := RX11) (T := TX11) (N := 16) (v := .int (S 392 2)) cx hw inlX11 392 (by omega) he_c392 rfl 2 (by decide) gw_196 rfl rfl dX11_digit_5 ?_
  refine lv_icmp_ge (tgt := 26) cx.1 cx.2.1 dX11_digit_8 (by decide) (fun hc => ?_) (fun hc => ?_)
  · rw [if_pos hc] at hf
    refine lv_iconst (v := (-1 : Int32)) cx.1 cx.2.1 dX11_digit_26 (by decide) ?_
    exact hB_27 S a1 a2 a3 (-1 : Int32) _ _ _ hw hS (lv_sub hl [0, 1, 2, 3] rfl) hf
  · rw [if_neg hc] at hf
    refine lv_aload_n cx.1 cx.2.1 dX11_digit_11 rfl (lv_at hl 0 rfl) ?_
    refine g_get (C := RX11) (T := TX11) (N := 16) (v := .ref (G.2.1 393)) cx hw inlX11 392 (by omega) he_c392 rfl 1 (by decide) gw_142 rfl rfl dX11_digit_12 ?_
    refine lv_aload_n cx.1 cx.2.1 dX11_digit_15 rfl (lv_at hl 0 rfl) ?_
    refine g_get (C := RX11) (T := TX11) (N := 16) (v := .int (S 392 3)) cx hw inlX11 392 (by omega) he_c392 rfl 3 (by decide) gw_275 rfl rfl dX11_digit_16 ?_
    obtain ⟨hin, hf⟩ := gck_some hf
    refine g_iald cx hw (ia_c393 hM) (vp_of_inb hin) dX11_digit_19 ?_
    refine lv_bipush (v := (48 : Int32)) cx.1 cx.2.1 dX11_digit_20 (by decide) ?_
    refine lv_isub cx.1 cx.2.1 dX11_digit_22 ?_
    refine lv_goto (tgt := 27) cx.1 cx.2.1 dX11_digit_23 (by decide) ?_
    exact hB_27 S a1 a2 a3 ((S 393 (S 392 3).toNatClampNeg) - (48 : Int32)) _ _ _ hw hS (lv_sub hl [0, 1, 2, 3] rfl) hf
set_option maxHeartbeats 4000000 in
set_option maxRecDepth 100000 in
theorem c_X11_takeOn (l : Launch) (G : gG) {k0 : Nat} (hM : 402 ≤ gN G) (hk0 : IA G k0 175) (a1 : Int32) (a2 : Int32) (S : Sg) (r : Int32) (S' : Sg) (hf : f_X11_takeOn k0 a1 a2 S = some (r, S')) : Ct l yX11_takeOn [Cond.code yX11_takeOn cX11_takeOn 3 (some .int)] (gR 2 43) G [.ref (G.2.1 k0), .int a1, .int a2] S (some (.int r)) S' := by
  refine Ct_of (by decide) (Nat.le_of_ble_eq_true rfl) ?_
  intro p e s m below meth c ls cx hr hlk hw hS hl
  have hN := cx.2.2.2.2.hN
  have hl : lv_has ls 3 [(0, .ref (G.2.1 k0)), (1, .int a1), (2, .int a2)] := hl
  unfold f_X11_takeOn at hf
  refine lv_aload_n cx.1 cx.2.1 dX11_takeOn_0 rfl (lv_at hl 0 rfl) ?_
  refine lv_iload_n cx.1 cx.2.1 dX11_takeOn_1 rfl (lv_at hl 2 rfl) ?_
  obtain ⟨v_2, S_1, hv, hf⟩ := gbi_some hf
  refine g_S (As := [.int a2]) (rest := [.ref (G.2.1 k0)]) cx hw hS (c_X11_contractAt l G hM a2 S v_2 S_1 hv) gw_299 gy_X11_contractAt gi_X11_contractAt ⟨Nat.le_of_ble_eq_true rfl, Nat.le_of_ble_eq_true rfl⟩ ⟨Nat.zero_le _, Nat.zero_le _⟩ rfl hl.1 rfl (Nat.le_of_ble_eq_true rfl) dX11_takeOn_2 (fun H locs hw hS => ?_)
  refine W.eq (g2 := F0 m 5 ls [.int v_2, .ref (G.2.1 k0)]) rfl ?_
  refine lv_iconst (v := (4 : Int32)) cx.1 cx.2.1 dX11_takeOn_5 (by decide) ?_
  refine lv_iadd cx.1 cx.2.1 dX11_takeOn_6 ?_
  refine lv_iload_n cx.1 cx.2.1 dX11_takeOn_7 rfl (lv_at hl 1 rfl) ?_
  obtain ⟨hin, hf⟩ := gck_some hf
  obtain ⟨S_3, eS_3, hf⟩ := gst_ex hf
  refine g_iast cx hw hS hk0 (vp_of_inb hin) dX11_takeOn_8 (fun H locs hw hS => ?_)
  rw [eS_3] at hw
  refine lv_aload_n cx.1 cx.2.1 dX11_takeOn_9 rfl (lv_at hl 0 rfl) ?_
  refine lv_iload_n cx.1 cx.2.1 dX11_takeOn_10 rfl (lv_at hl 1 rfl) ?_
  obtain ⟨v_5, S_4, hv, hf⟩ := gbi_some hf
  refine g_S (As := [.ref (G.2.1 k0), .int a1]) (rest := []) cx hw hS (c_X11_contractsOf l G hM hk0 a1 S_3 v_5 S_4 hv) gw_452 gy_X11_contractsOf gi_X11_contractsOf ⟨Nat.le_of_ble_eq_true rfl, Nat.le_of_ble_eq_true rfl⟩ ⟨Nat.zero_le _, Nat.zero_le _⟩ rfl hl.1 rfl (Nat.le_of_ble_eq_true rfl) dX11_takeOn_11 (fun H locs hw hS => ?_)
  refine W.eq (g2 := F0 m 14 ls [.int v_5]) rfl ?_
  exact g_ireti cx hr hlk hw hS hf dX11_takeOn_14
set_option maxHeartbeats 4000000 in
set_option maxRecDepth 100000 in
theorem c_X11_isTrain (l : Launch) (G : gG) {k0 : Nat} (hM : 402 ≤ gN G) (hk0 : IA G k0 175) (a1 : Int32) (a2 : Int32) (S : Sg) (r : Int32) (S' : Sg) (hf : f_X11_isTrain k0 a1 a2 S = some (r, S')) : Ct l yX11_isTrain [Cond.code yX11_isTrain cX11_isTrain 3 (some .boolean)] (gR 2 41) G [.ref (G.2.1 k0), .int a1, .int a2] S (some (.int r)) S' := by
  refine Ct_of (by decide) (Nat.le_of_ble_eq_true rfl) ?_
  intro p e s m below meth c ls cx hr hlk hw hS hl
  have hN := cx.2.2.2.2.hN
  have hl : lv_has ls 3 [(0, .ref (G.2.1 k0)), (1, .int a1), (2, .int a2)] := hl
  unfold f_X11_isTrain at hf
  refine lv_iload_n cx.1 cx.2.1 dX11_isTrain_0 rfl (lv_at hl 2 rfl) ?_
  refine lv_i2l cx.1 cx.2.1 dX11_isTrain_1 rfl ?_
  refine lv_lconst (v := (0 : Int64)) cx.1 cx.2.1 dX11_isTrain_2 (by decide) ?_
  refine lv_aload_n cx.1 cx.2.1 dX11_isTrain_3 rfl (lv_at hl 0 rfl) ?_
  refine lv_iload_n cx.1 cx.2.1 dX11_isTrain_4 rfl (lv_at hl 1 rfl) ?_
  obtain ⟨v_2, S_1, hv, hf⟩ := gbi_some hf
  refine g_S (As := [.ref (G.2.1 k0), .int a1]) (rest := [.long (0 : Int64), .long a2.toInt64]) cx hw hS (c_X11_trainsOf l G hM hk0 a1 S v_2 S_1 hv) gw_489 gy_X11_trainsOf gi_X11_trainsOf ⟨Nat.le_of_ble_eq_true rfl, Nat.le_of_ble_eq_true rfl⟩ ⟨Nat.zero_le _, Nat.zero_le _⟩ rfl hl.1 rfl (Nat.le_of_ble_eq_true rfl) dX11_isTrain_5 (fun H locs hw hS => ?_)
  refine W.eq (g2 := F0 m 8 ls [.int v_2, .long (0 : Int64), .long a2.toInt64]) rfl ?_
  refine lv_iconst (v := (1 : Int32)) cx.1 cx.2.1 dX11_isTrain_8 (by decide) ?_
  refine lv_isub cx.1 cx.2.1 dX11_isTrain_9 ?_
  refine lv_i2l cx.1 cx.2.1 dX11_isTrain_10 rfl ?_
  obtain ⟨v_4, S_3, hv, hf⟩ := gbi_some hf
  refine g_S (As := [.long a2.toInt64, .long (0 : Int64), .long ((v_2 - (1 : Int32)).toInt64)]) (rest := []) cx hw hS (c_X11_in l G hM a2.toInt64 (0 : Int64) ((v_2 - (1 : Int32)).toInt64) S_1 v_4 S_3 hv) gw_197 gy_X11_in gi_X11_in ⟨Nat.le_of_ble_eq_true rfl, Nat.le_of_ble_eq_true rfl⟩ ⟨Nat.zero_le _, Nat.zero_le _⟩ rfl hl.1 rfl (Nat.le_of_ble_eq_true rfl) dX11_isTrain_11 (fun H locs hw hS => ?_)
  refine W.eq (g2 := F0 m 14 ls [.int v_4]) rfl ?_
  obtain ⟨hbo, hf⟩ := gck_some hf
  exact g_zreti cx hr hlk hw hS hbo hf dX11_isTrain_14
set_option maxHeartbeats 4000000 in
set_option maxRecDepth 100000 in
theorem c_X11_isRun (l : Launch) (G : gG) {k0 : Nat} (hM : 402 ≤ gN G) (hk0 : IA G k0 175) (a1 : Int32) (a2 : Int32) (S : Sg) (r : Int32) (S' : Sg) (hf : f_X11_isRun k0 a1 a2 S = some (r, S')) : Ct l yX11_isRun [Cond.code yX11_isRun cX11_isRun 3 (some .boolean)] (gR 3 63) G [.ref (G.2.1 k0), .int a1, .int a2] S (some (.int r)) S' := by
  refine Ct_of (by decide) (Nat.le_of_ble_eq_true rfl) ?_
  intro p e s m below meth c ls cx hr hlk hw hS hl
  have hN := cx.2.2.2.2.hN
  have hl : lv_has ls 3 [(0, .ref (G.2.1 k0)), (1, .int a1), (2, .int a2)] := hl
  unfold f_X11_isRun at hf
  refine lv_aload_n cx.1 cx.2.1 dX11_isRun_0 rfl (lv_at hl 0 rfl) ?_
  refine lv_iload_n cx.1 cx.2.1 dX11_isRun_1 rfl (lv_at hl 1 rfl) ?_
  obtain ⟨v_2, S_1, hv, hf⟩ := gbi_some hf
  refine g_S (As := [.ref (G.2.1 k0), .int a1]) (rest := []) cx hw hS (c_X11_isContract l G hM hk0 a1 S v_2 S_1 hv) gw_521 gy_X11_isContract gi_X11_isContract ⟨Nat.le_of_ble_eq_true rfl, Nat.le_of_ble_eq_true rfl⟩ ⟨Nat.zero_le _, Nat.zero_le _⟩ rfl hl.1 rfl (Nat.le_of_ble_eq_true rfl) dX11_isRun_2 (fun H locs hw hS => ?_)
  refine W.eq (g2 := F0 m 5 ls [.int v_2]) rfl ?_
  refine lv_if_eq (tgt := 41) cx.1 cx.2.1 dX11_isRun_5 (by decide) (fun hc => ?_) (fun hc => ?_)
  · rw [if_pos hc] at hf
    refine lv_iconst (v := (0 : Int32)) cx.1 cx.2.1 dX11_isRun_41 (by decide) ?_
    exact g_zreti cx hr hlk hw hS (by decide) hf dX11_isRun_42
  · rw [if_neg hc] at hf
    refine lv_aload_n cx.1 cx.2.1 dX11_isRun_8 rfl (lv_at hl 0 rfl) ?_
    refine lv_iload_n cx.1 cx.2.1 dX11_isRun_9 rfl (lv_at hl 1 rfl) ?_
    obtain ⟨v_4, S_3, hv, hf⟩ := gbi_some hf
    refine g_S (As := [.int a1]) (rest := [.ref (G.2.1 k0)]) cx hw hS (c_X11_contractAt l G hM a1 S_1 v_4 S_3 hv) gw_299 gy_X11_contractAt gi_X11_contractAt ⟨Nat.le_of_ble_eq_true rfl, Nat.le_of_ble_eq_true rfl⟩ ⟨Nat.zero_le _, Nat.zero_le _⟩ rfl hl.1 rfl (Nat.le_of_ble_eq_true rfl) dX11_isRun_10 (fun H locs hw hS => ?_)
    refine W.eq (g2 := F0 m 13 ls [.int v_4, .ref (G.2.1 k0)]) rfl ?_
    refine lv_iconst (v := (4 : Int32)) cx.1 cx.2.1 dX11_isRun_13 (by decide) ?_
    refine lv_iadd cx.1 cx.2.1 dX11_isRun_14 ?_
    obtain ⟨hin, hf⟩ := gck_some hf
    refine g_iald cx hw hk0 (vp_of_inb hin) dX11_isRun_15 ?_
    refine lv_bipush (v := (-9 : Int32)) cx.1 cx.2.1 dX11_isRun_16 (by decide) ?_
    refine lv_icmp_eq (tgt := 37) cx.1 cx.2.1 dX11_isRun_18 (by decide) (fun hc => ?_) (fun hc => ?_)
    · rw [if_pos hc] at hf
      refine lv_iconst (v := (1 : Int32)) cx.1 cx.2.1 dX11_isRun_37 (by decide) ?_
      refine lv_goto (tgt := 42) cx.1 cx.2.1 dX11_isRun_38 (by decide) ?_
      exact g_zreti cx hr hlk hw hS (by decide) hf dX11_isRun_42
    · rw [if_neg hc] at hf
      refine lv_aload_n cx.1 cx.2.1 dX11_isRun_21 rfl (lv_at hl 0 rfl) ?_
      refine lv_aload_n cx.1 cx.2.1 dX11_isRun_22 rfl (lv_at hl 0 rfl) ?_
      refine lv_iload_n cx.1 cx.2.1 dX11_isRun_23 rfl (lv_at hl 1 rfl) ?_
      obtain ⟨v_6, S_5, hv, hf⟩ := gbi_some hf
      refine g_S (As := [.int a1]) (rest := [.ref (G.2.1 k0), .ref (G.2.1 k0)]) cx hw hS (c_X11_contractAt l G hM a1 S_3 v_6 S_5 hv) gw_299 gy_X11_contractAt gi_X11_contractAt ⟨Nat.le_of_ble_eq_true rfl, Nat.le_of_ble_eq_true rfl⟩ ⟨Nat.zero_le _, Nat.zero_le _⟩ rfl hl.1 rfl (Nat.le_of_ble_eq_true rfl) dX11_isRun_24 (fun H locs hw hS => ?_)
      refine W.eq (g2 := F0 m 27 ls [.int v_6, .ref (G.2.1 k0), .ref (G.2.1 k0)]) rfl ?_
      refine lv_iconst (v := (4 : Int32)) cx.1 cx.2.1 dX11_isRun_27 (by decide) ?_
      refine lv_iadd cx.1 cx.2.1 dX11_isRun_28 ?_
      obtain ⟨hin, hf⟩ := gck_some hf
      refine g_iald cx hw hk0 (vp_of_inb hin) dX11_isRun_29 ?_
      refine lv_iload_n cx.1 cx.2.1 dX11_isRun_30 rfl (lv_at hl 2 rfl) ?_
      obtain ⟨v_8, S_7, hv, hf⟩ := gbi_some hf
      refine g_S (As := [.ref (G.2.1 k0), .int (S_5 k0 (v_6 + (4 : Int32)).toNatClampNeg), .int a2]) (rest := []) cx hw hS (c_X11_isTrain l G hM hk0 (S_5 k0 (v_6 + (4 : Int32)).toNatClampNeg) a2 S_5 v_8 S_7 hv) gw_486 gy_X11_isTrain gi_X11_isTrain ⟨Nat.le_of_ble_eq_true rfl, Nat.le_of_ble_eq_true rfl⟩ ⟨Nat.zero_le _, Nat.zero_le _⟩ rfl hl.1 rfl (Nat.le_of_ble_eq_true rfl) dX11_isRun_31 (fun H locs hw hS => ?_)
      refine W.eq (g2 := F0 m 34 ls [.int v_8]) rfl ?_
      refine lv_if_eq (tgt := 41) cx.1 cx.2.1 dX11_isRun_34 (by decide) (fun hc => ?_) (fun hc => ?_)
      · rw [if_pos hc] at hf
        refine lv_iconst (v := (0 : Int32)) cx.1 cx.2.1 dX11_isRun_41 (by decide) ?_
        exact g_zreti cx hr hlk hw hS (by decide) hf dX11_isRun_42
      · rw [if_neg hc] at hf
        refine lv_iconst (v := (1 : Int32)) cx.1 cx.2.1 dX11_isRun_37 (by decide) ?_
        refine lv_goto (tgt := 42) cx.1 cx.2.1 dX11_isRun_38 (by decide) ?_
        exact g_zreti cx hr hlk hw hS (by decide) hf dX11_isRun_42
set_option maxHeartbeats 4000000 in
set_option maxRecDepth 100000 in
theorem c_X11_why (l : Launch) (G : gG) {k1 : Nat} (hM : 402 ≤ gN G) (hk1 : IA G k1 175) (a2 : Int32) (a3 : Int32) (S : Sg) (r : Int32) (S' : Sg) (hf : f_X11_why k1 a2 a3 S = some (r, S')) : Ct l yX11_why [Cond.code yX11_why cX11_why 6 (some .int)] (gR 5 128) G [.ref (G.2.1 392), .ref (G.2.1 k1), .int a2, .int a3] S (some (.int r)) S' := by
  refine Ct_of (by decide) (Nat.le_of_ble_eq_true rfl) ?_
  intro p e s m below meth c ls cx hr hlk hw hS hl
  have hN := cx.2.2.2.2.hN
  have hl : lv_has ls 6 [(0, .ref (G.2.1 392)), (1, .ref (G.2.1 k1)), (2, .int a2), (3, .int a3)] := hl
  unfold f_X11_why at hf
  refine lv_iload_n cx.1 cx.2.1 dX11_why_0 rfl (lv_at hl 2 rfl) ?_
  obtain ⟨v_2, S_1, hv, hf⟩ := gbi_some hf
  refine g_S (As := [.int a2]) (rest := []) cx hw hS (c_X11_contractAt l G hM a2 S v_2 S_1 hv) gw_299 gy_X11_contractAt gi_X11_contractAt ⟨Nat.le_of_ble_eq_true rfl, Nat.le_of_ble_eq_true rfl⟩ ⟨Nat.zero_le _, Nat.zero_le _⟩ rfl hl.1 rfl (Nat.le_of_ble_eq_true rfl) dX11_why_1 (fun H locs hw hS => ?_)
  refine W.eq (g2 := F0 m 4 ls [.int v_2]) rfl ?_
  refine lv_istore (lv' := [(4, .int v_2), (0, .ref (G.2.1 392)), (1, .ref (G.2.1 k1)), (2, .int a2), (3, .int a3)]) cx.1 cx.2.1 dX11_why_4 hl (by decide) rfl (fun ls hl => ?_)
  refine lv_aload_n cx.1 cx.2.1 dX11_why_6 rfl (lv_at hl 2 rfl) ?_
  refine lv_iload cx.1 cx.2.1 dX11_why_7 (lv_at hl 0 rfl) ?_
  refine lv_iconst (v := (4 : Int32)) cx.1 cx.2.1 dX11_why_9 (by decide) ?_
  refine lv_iadd cx.1 cx.2.1 dX11_why_10 ?_
  obtain ⟨hin, hf⟩ := gck_some hf
  refine g_iald cx hw hk1 (vp_of_inb hin) dX11_why_11 ?_
  obtain ⟨x5_3, ex5_3, hf⟩ := gvi_ex hf
  refine W.eq (g2 := F0 m 12 ls [.int x5_3]) (by rw [← ex5_3]) ?_
  refine lv_istore (lv' := [(5, .int x5_3), (4, .int v_2), (0, .ref (G.2.1 392)), (1, .ref (G.2.1 k1)), (2, .int a2), (3, .int a3)]) cx.1 cx.2.1 dX11_why_12 hl (by decide) rfl (fun ls hl => ?_)
  refine lv_iload cx.1 cx.2.1 dX11_why_14 (lv_at hl 0 rfl) ?_
  refine lv_bipush (v := (-9 : Int32)) cx.1 cx.2.1 dX11_why_16 (by decide) ?_
  refine lv_icmp_ne (tgt := 23) cx.1 cx.2.1 dX11_why_18 (by decide) (fun hc => ?_) (fun hc => ?_)
  · rw [if_neg hc] at hf
    refine lv_aload_n cx.1 cx.2.1 dX11_why_23 rfl (lv_at hl 3 rfl) ?_
    refine lv_iload cx.1 cx.2.1 dX11_why_24 (lv_at hl 1 rfl) ?_
    refine lv_iconst (v := (5 : Int32)) cx.1 cx.2.1 dX11_why_26 (by decide) ?_
    refine lv_iadd cx.1 cx.2.1 dX11_why_27 ?_
    obtain ⟨hin, hf⟩ := gck_some hf
    refine g_iald cx hw hk1 (vp_of_inb hin) dX11_why_28 ?_
    refine lv_iconst (v := (1 : Int32)) cx.1 cx.2.1 dX11_why_29 (by decide) ?_
    refine lv_icmp_ne (tgt := 35) cx.1 cx.2.1 dX11_why_30 (by decide) (fun hc => ?_) (fun hc => ?_)
    · rw [if_neg hc] at hf
      refine lv_aload_n cx.1 cx.2.1 dX11_why_35 rfl (lv_at hl 3 rfl) ?_
      refine lv_iload cx.1 cx.2.1 dX11_why_36 (lv_at hl 0 rfl) ?_
      refine lv_iload_n cx.1 cx.2.1 dX11_why_38 rfl (lv_at hl 5 rfl) ?_
      obtain ⟨v_5, S_4, hv, hf⟩ := gbi_some hf
      refine g_S (As := [.int x5_3, .int a3]) (rest := [.ref (G.2.1 k1)]) cx hw hS (c_X11_trainAt l G hM x5_3 a3 S_1 v_5 S_4 hv) gw_492 gy_X11_trainAt gi_X11_trainAt ⟨Nat.le_of_ble_eq_true rfl, Nat.le_of_ble_eq_true rfl⟩ ⟨Nat.zero_le _, Nat.zero_le _⟩ rfl hl.1 rfl (Nat.le_of_ble_eq_true rfl) dX11_why_39 (fun H locs hw hS => ?_)
      refine W.eq (g2 := F0 m 42 ls [.int v_5, .ref (G.2.1 k1)]) rfl ?_
      refine lv_iconst (v := (1 : Int32)) cx.1 cx.2.1 dX11_why_42 (by decide) ?_
      refine lv_iadd cx.1 cx.2.1 dX11_why_43 ?_
      obtain ⟨hin, hf⟩ := gck_some hf
      refine g_iald cx hw hk1 (vp_of_inb hin) dX11_why_44 ?_
      refine lv_iconst (v := (1 : Int32)) cx.1 cx.2.1 dX11_why_45 (by decide) ?_
      refine lv_icmp_ne (tgt := 51) cx.1 cx.2.1 dX11_why_46 (by decide) (fun hc => ?_) (fun hc => ?_)
      · rw [if_neg hc] at hf
        refine lv_aload_n cx.1 cx.2.1 dX11_why_51 rfl (lv_at hl 2 rfl) ?_
        refine lv_aload_n cx.1 cx.2.1 dX11_why_52 rfl (lv_at hl 3 rfl) ?_
        refine lv_iload cx.1 cx.2.1 dX11_why_53 (lv_at hl 0 rfl) ?_
        refine lv_aload_n cx.1 cx.2.1 dX11_why_55 rfl (lv_at hl 3 rfl) ?_
        refine lv_iload cx.1 cx.2.1 dX11_why_56 (lv_at hl 1 rfl) ?_
        obtain ⟨hin, hf⟩ := gck_some hf
        refine g_iald cx hw hk1 (vp_of_inb hin) dX11_why_58 ?_
        refine lv_aload_n cx.1 cx.2.1 dX11_why_59 rfl (lv_at hl 3 rfl) ?_
        refine lv_iload cx.1 cx.2.1 dX11_why_60 (lv_at hl 1 rfl) ?_
        refine lv_iconst (v := (1 : Int32)) cx.1 cx.2.1 dX11_why_62 (by decide) ?_
        refine lv_iadd cx.1 cx.2.1 dX11_why_63 ?_
        obtain ⟨hin, hf⟩ := gck_some hf
        refine g_iald cx hw hk1 (vp_of_inb hin) dX11_why_64 ?_
        refine lv_iconst (v := (4 : Int32)) cx.1 cx.2.1 dX11_why_65 (by decide) ?_
        refine lv_aload_n cx.1 cx.2.1 dX11_why_66 rfl (lv_at hl 3 rfl) ?_
        refine lv_iload cx.1 cx.2.1 dX11_why_67 (lv_at hl 0 rfl) ?_
        refine lv_iload_n cx.1 cx.2.1 dX11_why_69 rfl (lv_at hl 5 rfl) ?_
        obtain ⟨v_7, S_6, hv, hf⟩ := gbi_some hf
        refine g_S (As := [.int x5_3, .int a3]) (rest := [.ref (G.2.1 k1), .int (4 : Int32), .int (S_4 k1 (v_2 + (1 : Int32)).toNatClampNeg), .int (S_4 k1 v_2.toNatClampNeg), .int x5_3, .ref (G.2.1 k1), .ref (G.2.1 392)]) cx hw hS (c_X11_trainAt l G hM x5_3 a3 S_4 v_7 S_6 hv) gw_492 gy_X11_trainAt gi_X11_trainAt ⟨Nat.le_of_ble_eq_true rfl, Nat.le_of_ble_eq_true rfl⟩ ⟨Nat.zero_le _, Nat.zero_le _⟩ rfl hl.1 rfl (Nat.le_of_ble_eq_true rfl) dX11_why_70 (fun H locs hw hS => ?_)
        refine W.eq (g2 := F0 m 73 ls [.int v_7, .ref (G.2.1 k1), .int (4 : Int32), .int (S_4 k1 (v_2 + (1 : Int32)).toNatClampNeg), .int (S_4 k1 v_2.toNatClampNeg), .int x5_3, .ref (G.2.1 k1), .ref (G.2.1 392)]) rfl ?_
        obtain ⟨hin, hf⟩ := gck_some hf
        refine g_iald cx hw hk1 (vp_of_inb hin) dX11_why_73 ?_
        refine lv_imul cx.1 cx.2.1 dX11_why_74 ?_
        obtain ⟨v_9, S_8, hv, hf⟩ := gbi_some hf
        refine g_V (As := [.ref (G.2.1 k1), .int x5_3, .int (S_4 k1 v_2.toNatClampNeg), .int (S_4 k1 (v_2 + (1 : Int32)).toNatClampNeg), .int ((4 : Int32) * (S_6 k1 v_7.toNatClampNeg))]) (rest := []) cx hw hS (c_X11_findWay l G hM hk1 x5_3 (S_4 k1 v_2.toNatClampNeg) (S_4 k1 (v_2 + (1 : Int32)).toNatClampNeg) ((4 : Int32) * (S_6 k1 v_7.toNatClampNeg)) S_6 v_9 S_8 hv) (by omega) he_c392 rfl rfl gw_795 gy_X11_findWay gi_X11_findWay ⟨Nat.le_of_ble_eq_true rfl, Nat.le_of_ble_eq_true rfl⟩ ⟨Nat.zero_le _, Nat.zero_le _⟩ rfl hl.1 rfl (Nat.le_of_ble_eq_true rfl) dX11_why_75 (fun H locs hw hS => ?_)
        refine W.eq (g2 := F0 m 78 ls [.int v_9]) rfl ?_
        refine lv_if_eq (tgt := 85) cx.1 cx.2.1 dX11_why_78 (by decide) (fun hc => ?_) (fun hc => ?_)
        · rw [if_pos hc] at hf
          refine lv_iconst (v := (4 : Int32)) cx.1 cx.2.1 dX11_why_85 (by decide) ?_
          exact g_ireti cx hr hlk hw hS hf dX11_why_86
        · rw [if_neg hc] at hf
          refine lv_iconst (v := (0 : Int32)) cx.1 cx.2.1 dX11_why_81 (by decide) ?_
          refine lv_goto (tgt := 86) cx.1 cx.2.1 dX11_why_82 (by decide) ?_
          exact g_ireti cx hr hlk hw hS hf dX11_why_86
      · rw [if_pos hc] at hf
        refine lv_iconst (v := (3 : Int32)) cx.1 cx.2.1 dX11_why_49 (by decide) ?_
        exact g_ireti cx hr hlk hw hS hf dX11_why_50
    · rw [if_pos hc] at hf
      refine lv_iconst (v := (2 : Int32)) cx.1 cx.2.1 dX11_why_33 (by decide) ?_
      exact g_ireti cx hr hlk hw hS hf dX11_why_34
  · rw [if_pos hc] at hf
    refine lv_iconst (v := (1 : Int32)) cx.1 cx.2.1 dX11_why_21 (by decide) ?_
    exact g_ireti cx hr hlk hw hS hf dX11_why_22
set_option maxHeartbeats 4000000 in
set_option maxRecDepth 100000 in
theorem c_X11_runOn (l : Launch) (G : gG) {k1 : Nat} (hM : 402 ≤ gN G) (hk1 : IA G k1 175) (a2 : Int32) (a3 : Int32) (S : Sg) (r : Int32) (S' : Sg) (hf : f_X11_runOn k1 a2 a3 S = some (r, S')) : Ct l yX11_runOn [Cond.code yX11_runOn cX11_runOn 9 (some .int)] (gR 5 128) G [.ref (G.2.1 392), .ref (G.2.1 k1), .int a2, .int a3] S (some (.int r)) S' := by
  refine Ct_of (by decide) (Nat.le_of_ble_eq_true rfl) ?_
  intro p e s m below meth c ls cx hr hlk hw hS hl
  have hN := cx.2.2.2.2.hN
  have hB_129 : ∀ (K45 : Sg → Int32 → Int32 → Int32 → Int32 → Option (Int32 × Sg)) (hK45 : ∀ (S : Sg) (x3 : Int32) (x4 : Int32) (x5 : Int32) (x6 : Int32) (H : Heap) (locs : List Loc) (ls : Array Slot), gP G S H → va_S (gA G s.heap.size) s.heap H locs → lv_has ls 9 [(0, .ref (G.2.1 392)), (1, .ref (G.2.1 k1)), (3, .int x3), (4, .int x4), (5, .int x5), (6, .int x6)] → K45 S x3 x4 x5 x6 = some (r, S') → W p l e (gR 5 128) s m ([.ref (G.2.1 392), .ref (G.2.1 k1), .int a2, .int a3] : List Value).toArray below meth c H locs 0 0 (MQ below (gQ G S' (some (.int r)) (gA G s.heap.size)) ([.ref (G.2.1 392), .ref (G.2.1 k1), .int a2, .int a3] : List Value).toArray s 0 0 (gA G s.heap.size)) (F0 m 45 ls [])), ∀ (S : Sg) (x3 : Int32) (x4 : Int32) (x5 : Int32) (x6 : Int32) (x7 : Int32) (H : Heap) (locs : List Loc) (ls : Array Slot), gP G S H → va_S (gA G s.heap.size) s.heap H locs → lv_has ls 9 [(0, .ref (G.2.1 392)), (1, .ref (G.2.1 k1)), (3, .int x3), (4, .int x4), (5, .int x5), (6, .int x6), (7, .int x7)] → B_X11_runOn_129 k1 K45 S x3 x4 x5 x6 x7 = some (r, S') → W p l e (gR 5 128) s m ([.ref (G.2.1 392), .ref (G.2.1 k1), .int a2, .int a3] : List Value).toArray below meth c H locs 0 0 (MQ below (gQ G S' (some (.int r)) (gA G s.heap.size)) ([.ref (G.2.1 392), .ref (G.2.1 k1), .int a2, .int a3] : List Value).toArray s 0 0 (gA G s.heap.size)) (F0 m 129 ls []) := by
    intro K45 hK45 S x3 x4 x5 x6 x7 H locs ls hw hS hl hf
    unfold B_X11_runOn_129 at hf
    refine lv_aload_n cx.1 cx.2.1 dX11_runOn_129 rfl (lv_at hl 1 rfl) ?_
    refine lv_iload cx.1 cx.2.1 dX11_runOn_130 (lv_at hl 4 rfl) ?_
    obtain ⟨v_2, S_1, hv, hf⟩ := gbi_some hf
    refine g_S (As := [.int x5]) (rest := [.ref (G.2.1 k1)]) cx hw hS (c_X11_companyAt l G hM x5 S v_2 S_1 hv) gw_155 gy_X11_companyAt gi_X11_companyAt ⟨Nat.le_of_ble_eq_true rfl, Nat.le_of_ble_eq_true rfl⟩ ⟨Nat.zero_le _, Nat.zero_le _⟩ rfl hl.1 rfl (Nat.le_of_ble_eq_true rfl) dX11_runOn_132 (fun H locs hw hS => ?_)
    refine W.eq (g2 := F0 m 135 ls [.int v_2, .ref (G.2.1 k1)]) rfl ?_
    refine lv_dup2_11 cx.1 cx.2.1 dX11_runOn_135 rfl rfl ?_
    obtain ⟨hin, hf⟩ := gck_some hf
    refine g_iald cx hw hk1 (vp_of_inb hin) dX11_runOn_136 ?_
    refine lv_iload cx.1 cx.2.1 dX11_runOn_137 (lv_at hl 6 rfl) ?_
    refine lv_isub cx.1 cx.2.1 dX11_runOn_139 ?_
    obtain ⟨hin, hf⟩ := gck_some hf
    obtain ⟨S_3, eS_3, hf⟩ := gst_ex hf
    refine g_iast cx hw hS hk1 (vp_of_inb hin) dX11_runOn_140 (fun H locs hw hS => ?_)
    rw [eS_3] at hw
    refine lv_aload_n cx.1 cx.2.1 dX11_runOn_141 rfl (lv_at hl 1 rfl) ?_
    refine lv_bipush (v := (6 : Int32)) cx.1 cx.2.1 dX11_runOn_142 (by decide) ?_
    refine lv_dup2_11 cx.1 cx.2.1 dX11_runOn_144 rfl rfl ?_
    obtain ⟨hin, hf⟩ := gck_some hf
    refine g_iald cx hw hk1 (vp_of_inb hin) dX11_runOn_145 ?_
    refine lv_iload cx.1 cx.2.1 dX11_runOn_146 (lv_at hl 6 rfl) ?_
    refine lv_iadd cx.1 cx.2.1 dX11_runOn_148 ?_
    obtain ⟨hin, hf⟩ := gck_some hf
    obtain ⟨S_4, eS_4, hf⟩ := gst_ex hf
    refine g_iast cx hw hS hk1 (vp_of_inb hin) dX11_runOn_149 (fun H locs hw hS => ?_)
    rw [eS_4] at hw
    obtain ⟨x6_5, ex6_5, hf⟩ := gvi_ex hf
    refine lv_iinc (v := x6_5) (lv' := [(6, .int x6_5), (0, .ref (G.2.1 392)), (1, .ref (G.2.1 k1)), (3, .int x3), (4, .int x4), (5, .int x5), (7, .int x7)]) cx.1 cx.2.1 dX11_runOn_150 hl (k := 5) rfl (by rw [← ex6_5]; rfl) (by decide) rfl (fun ls hl => ?_)
    refine lv_goto (tgt := 45) cx.1 cx.2.1 dX11_runOn_153 (by decide) ?_
    exact hK45 S_4 x3 x4 x5 x6_5 _ _ _ hw hS (lv_sub hl [1, 2, 3, 4, 5, 0] rfl) hf
  have hL_45 : ∀ (n : Nat), ∀ (S : Sg) (x3 : Int32) (x4 : Int32) (x5 : Int32) (x6 : Int32) (H : Heap) (locs : List Loc) (ls : Array Slot), gP G S H → va_S (gA G s.heap.size) s.heap H locs → lv_has ls 9 [(0, .ref (G.2.1 392)), (1, .ref (G.2.1 k1)), (3, .int x3), (4, .int x4), (5, .int x5), (6, .int x6)] → L_X11_runOn_45 k1 n S x3 x4 x5 x6 = some (r, S') → W p l e (gR 5 128) s m ([.ref (G.2.1 392), .ref (G.2.1 k1), .int a2, .int a3] : List Value).toArray below meth c H locs 0 0 (MQ below (gQ G S' (some (.int r)) (gA G s.heap.size)) ([.ref (G.2.1 392), .ref (G.2.1 k1), .int a2, .int a3] : List Value).toArray s 0 0 (gA G s.heap.size)) (F0 m 45 ls []) := by
    intro n
    induction n with
    | zero => intro S x3 x4 x5 x6 H locs ls hw hS hl hf; cases hf
    | succ n hK45 =>
      intro S x3 x4 x5 x6 H locs ls hw hS hl hf
      have hf : Lb_X11_runOn_45 k1 (L_X11_runOn_45 k1 n) S x3 x4 x5 x6 = some (r, S') := hf
      unfold Lb_X11_runOn_45 at hf
      refine lv_iload cx.1 cx.2.1 dX11_runOn_45 (lv_at hl 5 rfl) ?_
      refine lv_aload_n cx.1 cx.2.1 dX11_runOn_47 rfl (lv_at hl 0 rfl) ?_
      refine g_get (C := RX11) (T := TX11) (N := 16) (v := .int (S 392 15)) cx hw inlX11 392 (by omega) he_c392 rfl 15 (by decide) gw_802 rfl rfl dX11_runOn_48 ?_
      refine lv_icmp_ge (tgt := 156) cx.1 cx.2.1 dX11_runOn_51 (by decide) (fun hc => ?_) (fun hc => ?_)
      · rw [if_pos hc] at hf
        refine lv_aload_n cx.1 cx.2.1 dX11_runOn_156 rfl (lv_at hl 1 rfl) ?_
        refine lv_iconst (v := (5 : Int32)) cx.1 cx.2.1 dX11_runOn_157 (by decide) ?_
        refine lv_dup2_11 cx.1 cx.2.1 dX11_runOn_158 rfl rfl ?_
        obtain ⟨hin, hf⟩ := gck_some hf
        refine g_iald cx hw hk1 (vp_of_inb hin) dX11_runOn_159 ?_
        refine lv_aload_n cx.1 cx.2.1 dX11_runOn_160 rfl (lv_at hl 1 rfl) ?_
        refine lv_iload cx.1 cx.2.1 dX11_runOn_161 (lv_at hl 3 rfl) ?_
        refine lv_iconst (v := (2 : Int32)) cx.1 cx.2.1 dX11_runOn_163 (by decide) ?_
        refine lv_iadd cx.1 cx.2.1 dX11_runOn_164 ?_
        obtain ⟨hin, hf⟩ := gck_some hf
        refine g_iald cx hw hk1 (vp_of_inb hin) dX11_runOn_165 ?_
        refine lv_isub cx.1 cx.2.1 dX11_runOn_166 ?_
        obtain ⟨hin, hf⟩ := gck_some hf
        obtain ⟨S_6, eS_6, hf⟩ := gst_ex hf
        refine g_iast cx hw hS hk1 (vp_of_inb hin) dX11_runOn_167 (fun H locs hw hS => ?_)
        rw [eS_6] at hw
        refine lv_aload_n cx.1 cx.2.1 dX11_runOn_168 rfl (lv_at hl 1 rfl) ?_
        refine lv_iload cx.1 cx.2.1 dX11_runOn_169 (lv_at hl 4 rfl) ?_
        obtain ⟨v_8, S_7, hv, hf⟩ := gbi_some hf
        refine g_S (As := [.int x5]) (rest := [.ref (G.2.1 k1)]) cx hw hS (c_X11_companyAt l G hM x5 S_6 v_8 S_7 hv) gw_155 gy_X11_companyAt gi_X11_companyAt ⟨Nat.le_of_ble_eq_true rfl, Nat.le_of_ble_eq_true rfl⟩ ⟨Nat.zero_le _, Nat.zero_le _⟩ rfl hl.1 rfl (Nat.le_of_ble_eq_true rfl) dX11_runOn_171 (fun H locs hw hS => ?_)
        refine W.eq (g2 := F0 m 174 ls [.int v_8, .ref (G.2.1 k1)]) rfl ?_
        refine lv_dup2_11 cx.1 cx.2.1 dX11_runOn_174 rfl rfl ?_
        obtain ⟨hin, hf⟩ := gck_some hf
        refine g_iald cx hw hk1 (vp_of_inb hin) dX11_runOn_175 ?_
        refine lv_aload_n cx.1 cx.2.1 dX11_runOn_176 rfl (lv_at hl 1 rfl) ?_
        refine lv_iload cx.1 cx.2.1 dX11_runOn_177 (lv_at hl 3 rfl) ?_
        refine lv_iconst (v := (2 : Int32)) cx.1 cx.2.1 dX11_runOn_179 (by decide) ?_
        refine lv_iadd cx.1 cx.2.1 dX11_runOn_180 ?_
        obtain ⟨hin, hf⟩ := gck_some hf
        refine g_iald cx hw hk1 (vp_of_inb hin) dX11_runOn_181 ?_
        refine lv_iadd cx.1 cx.2.1 dX11_runOn_182 ?_
        obtain ⟨hin, hf⟩ := gck_some hf
        obtain ⟨S_9, eS_9, hf⟩ := gst_ex hf
        refine g_iast cx hw hS hk1 (vp_of_inb hin) dX11_runOn_183 (fun H locs hw hS => ?_)
        rw [eS_9] at hw
        refine lv_aload_n cx.1 cx.2.1 dX11_runOn_184 rfl (lv_at hl 1 rfl) ?_
        refine lv_bipush (v := (7 : Int32)) cx.1 cx.2.1 dX11_runOn_185 (by decide) ?_
        refine lv_dup2_11 cx.1 cx.2.1 dX11_runOn_187 rfl rfl ?_
        obtain ⟨hin, hf⟩ := gck_some hf
        refine g_iald cx hw hk1 (vp_of_inb hin) dX11_runOn_188 ?_
        refine lv_aload_n cx.1 cx.2.1 dX11_runOn_189 rfl (lv_at hl 1 rfl) ?_
        refine lv_iload cx.1 cx.2.1 dX11_runOn_190 (lv_at hl 3 rfl) ?_
        refine lv_iconst (v := (2 : Int32)) cx.1 cx.2.1 dX11_runOn_192 (by decide) ?_
        refine lv_iadd cx.1 cx.2.1 dX11_runOn_193 ?_
        obtain ⟨hin, hf⟩ := gck_some hf
        refine g_iald cx hw hk1 (vp_of_inb hin) dX11_runOn_194 ?_
        refine lv_iadd cx.1 cx.2.1 dX11_runOn_195 ?_
        obtain ⟨hin, hf⟩ := gck_some hf
        obtain ⟨S_10, eS_10, hf⟩ := gst_ex hf
        refine g_iast cx hw hS hk1 (vp_of_inb hin) dX11_runOn_196 (fun H locs hw hS => ?_)
        rw [eS_10] at hw
        refine lv_aload_n cx.1 cx.2.1 dX11_runOn_197 rfl (lv_at hl 1 rfl) ?_
        refine lv_iload cx.1 cx.2.1 dX11_runOn_198 (lv_at hl 3 rfl) ?_
        refine lv_iconst (v := (5 : Int32)) cx.1 cx.2.1 dX11_runOn_200 (by decide) ?_
        refine lv_iadd cx.1 cx.2.1 dX11_runOn_201 ?_
        refine lv_iconst (v := (1 : Int32)) cx.1 cx.2.1 dX11_runOn_202 (by decide) ?_
        obtain ⟨hin, hf⟩ := gck_some hf
        obtain ⟨S_11, eS_11, hf⟩ := gst_ex hf
        refine g_iast cx hw hS hk1 (vp_of_inb hin) dX11_runOn_203 (fun H locs hw hS => ?_)
        rw [eS_11] at hw
        refine lv_aload_n cx.1 cx.2.1 dX11_runOn_204 rfl (lv_at hl 1 rfl) ?_
        refine lv_iload cx.1 cx.2.1 dX11_runOn_205 (lv_at hl 4 rfl) ?_
        refine lv_iload_n cx.1 cx.2.1 dX11_runOn_207 rfl (lv_at hl 2 rfl) ?_
        obtain ⟨v_13, S_12, hv, hf⟩ := gbi_some hf
        refine g_S (As := [.int x5, .int x3]) (rest := [.ref (G.2.1 k1)]) cx hw hS (c_X11_trainAt l G hM x5 x3 S_11 v_13 S_12 hv) gw_492 gy_X11_trainAt gi_X11_trainAt ⟨Nat.le_of_ble_eq_true rfl, Nat.le_of_ble_eq_true rfl⟩ ⟨Nat.zero_le _, Nat.zero_le _⟩ rfl hl.1 rfl (Nat.le_of_ble_eq_true rfl) dX11_runOn_208 (fun H locs hw hS => ?_)
        refine W.eq (g2 := F0 m 211 ls [.int v_13, .ref (G.2.1 k1)]) rfl ?_
        refine lv_iconst (v := (1 : Int32)) cx.1 cx.2.1 dX11_runOn_211 (by decide) ?_
        refine lv_iadd cx.1 cx.2.1 dX11_runOn_212 ?_
        refine lv_iconst (v := (1 : Int32)) cx.1 cx.2.1 dX11_runOn_213 (by decide) ?_
        obtain ⟨hin, hf⟩ := gck_some hf
        obtain ⟨S_14, eS_14, hf⟩ := gst_ex hf
        refine g_iast cx hw hS hk1 (vp_of_inb hin) dX11_runOn_214 (fun H locs hw hS => ?_)
        rw [eS_14] at hw
        refine lv_aload_n cx.1 cx.2.1 dX11_runOn_215 rfl (lv_at hl 0 rfl) ?_
        refine g_get (C := RX11) (T := TX11) (N := 16) (v := .int (S_14 392 12)) cx hw inlX11 392 (by omega) he_c392 rfl 12 (by decide) gw_800 rfl rfl dX11_runOn_216 ?_
        exact g_ireti cx hr hlk hw hS hf dX11_runOn_219
      · rw [if_neg hc] at hf
        refine lv_aload_n cx.1 cx.2.1 dX11_runOn_54 rfl (lv_at hl 1 rfl) ?_
        refine lv_iload cx.1 cx.2.1 dX11_runOn_55 (lv_at hl 4 rfl) ?_
        refine lv_aload_n cx.1 cx.2.1 dX11_runOn_57 rfl (lv_at hl 0 rfl) ?_
        refine g_get (C := RX11) (T := TX11) (N := 16) (v := .ref (G.2.1 401)) cx hw inlX11 392 (by omega) he_c392 rfl 14 (by decide) gw_151 rfl rfl dX11_runOn_58 ?_
        refine lv_iload cx.1 cx.2.1 dX11_runOn_61 (lv_at hl 5 rfl) ?_
        obtain ⟨hin, hf⟩ := gck_some hf
        refine g_iald cx hw (ia_c401 hM) (vp_of_inb hin) dX11_runOn_63 ?_
        obtain ⟨v_16, S_15, hv, hf⟩ := gbi_some hf
        refine g_S (As := [.ref (G.2.1 k1), .int x5, .int (S 401 x6.toNatClampNeg)]) (rest := []) cx hw hS (c_X11_costOf l G hM hk1 x5 (S 401 x6.toNatClampNeg) S v_16 S_15 hv) gw_814 gy_X11_costOf gi_X11_costOf ⟨Nat.le_of_ble_eq_true rfl, Nat.le_of_ble_eq_true rfl⟩ ⟨Nat.zero_le _, Nat.zero_le _⟩ rfl hl.1 rfl (Nat.le_of_ble_eq_true rfl) dX11_runOn_64 (fun H locs hw hS => ?_)
        refine W.eq (g2 := F0 m 67 ls [.int v_16]) rfl ?_
        refine lv_istore (lv' := [(7, .int v_16), (0, .ref (G.2.1 392)), (1, .ref (G.2.1 k1)), (3, .int x3), (4, .int x4), (5, .int x5), (6, .int x6)]) cx.1 cx.2.1 dX11_runOn_67 hl (by decide) rfl (fun ls hl => ?_)
        refine lv_aload_n cx.1 cx.2.1 dX11_runOn_69 rfl (lv_at hl 2 rfl) ?_
        refine lv_aload_n cx.1 cx.2.1 dX11_runOn_70 rfl (lv_at hl 1 rfl) ?_
        refine g_get (C := RX11) (T := TX11) (N := 16) (v := .ref (G.2.1 401)) cx hw inlX11 392 (by omega) he_c392 rfl 14 (by decide) gw_151 rfl rfl dX11_runOn_71 ?_
        refine lv_iload cx.1 cx.2.1 dX11_runOn_74 (lv_at hl 6 rfl) ?_
        obtain ⟨hin, hf⟩ := gck_some hf
        refine g_iald cx hw (ia_c401 hM) (vp_of_inb hin) dX11_runOn_76 ?_
        obtain ⟨v_18, S_17, hv, hf⟩ := gbi_some hf
        refine g_S (As := [.int (S_15 401 x6.toNatClampNeg)]) (rest := [.ref (G.2.1 k1)]) cx hw hS (c_X11_trackAt l G hM (S_15 401 x6.toNatClampNeg) S_15 v_18 S_17 hv) gw_161 gy_X11_trackAt gi_X11_trackAt ⟨Nat.le_of_ble_eq_true rfl, Nat.le_of_ble_eq_true rfl⟩ ⟨Nat.zero_le _, Nat.zero_le _⟩ rfl hl.1 rfl (Nat.le_of_ble_eq_true rfl) dX11_runOn_77 (fun H locs hw hS => ?_)
        refine W.eq (g2 := F0 m 80 ls [.int v_18, .ref (G.2.1 k1)]) rfl ?_
        refine lv_iconst (v := (3 : Int32)) cx.1 cx.2.1 dX11_runOn_80 (by decide) ?_
        refine lv_iadd cx.1 cx.2.1 dX11_runOn_81 ?_
        obtain ⟨hin, hf⟩ := gck_some hf
        refine g_iald cx hw hk1 (vp_of_inb hin) dX11_runOn_82 ?_
        obtain ⟨x8_19, ex8_19, hf⟩ := gvi_ex hf
        refine W.eq (g2 := F0 m 83 ls [.int x8_19]) (by rw [← ex8_19]) ?_
        refine lv_istore (lv' := [(8, .int x8_19), (7, .int v_16), (0, .ref (G.2.1 392)), (1, .ref (G.2.1 k1)), (3, .int x3), (4, .int x4), (5, .int x5), (6, .int x6)]) cx.1 cx.2.1 dX11_runOn_83 hl (by decide) rfl (fun ls hl => ?_)
        refine lv_iload cx.1 cx.2.1 dX11_runOn_85 (lv_at hl 0 rfl) ?_
        refine lv_bipush (v := (-9 : Int32)) cx.1 cx.2.1 dX11_runOn_87 (by decide) ?_
        refine lv_icmp_ne (tgt := 103) cx.1 cx.2.1 dX11_runOn_89 (by decide) (fun hc => ?_) (fun hc => ?_)
        · rw [if_neg hc] at hf
          refine lv_aload_n cx.1 cx.2.1 dX11_runOn_103 rfl (lv_at hl 3 rfl) ?_
          refine lv_iload cx.1 cx.2.1 dX11_runOn_104 (lv_at hl 0 rfl) ?_
          obtain ⟨v_21, S_20, hv, hf⟩ := gbi_some hf
          refine g_S (As := [.int x8_19]) (rest := [.ref (G.2.1 k1)]) cx hw hS (c_X11_companyAt l G hM x8_19 S_17 v_21 S_20 hv) gw_155 gy_X11_companyAt gi_X11_companyAt ⟨Nat.le_of_ble_eq_true rfl, Nat.le_of_ble_eq_true rfl⟩ ⟨Nat.zero_le _, Nat.zero_le _⟩ rfl hl.1 rfl (Nat.le_of_ble_eq_true rfl) dX11_runOn_106 (fun H locs hw hS => ?_)
          refine W.eq (g2 := F0 m 109 ls [.int v_21, .ref (G.2.1 k1)]) rfl ?_
          refine lv_dup2_11 cx.1 cx.2.1 dX11_runOn_109 rfl rfl ?_
          obtain ⟨hin, hf⟩ := gck_some hf
          refine g_iald cx hw hk1 (vp_of_inb hin) dX11_runOn_110 ?_
          refine lv_iload cx.1 cx.2.1 dX11_runOn_111 (lv_at hl 1 rfl) ?_
          refine lv_iadd cx.1 cx.2.1 dX11_runOn_113 ?_
          obtain ⟨hin, hf⟩ := gck_some hf
          obtain ⟨S_22, eS_22, hf⟩ := gst_ex hf
          refine g_iast cx hw hS hk1 (vp_of_inb hin) dX11_runOn_114 (fun H locs hw hS => ?_)
          rw [eS_22] at hw
          refine lv_aload_n cx.1 cx.2.1 dX11_runOn_115 rfl (lv_at hl 3 rfl) ?_
          refine lv_iload cx.1 cx.2.1 dX11_runOn_116 (lv_at hl 0 rfl) ?_
          obtain ⟨v_24, S_23, hv, hf⟩ := gbi_some hf
          refine g_S (As := [.int x8_19]) (rest := [.ref (G.2.1 k1)]) cx hw hS (c_X11_companyAt l G hM x8_19 S_22 v_24 S_23 hv) gw_155 gy_X11_companyAt gi_X11_companyAt ⟨Nat.le_of_ble_eq_true rfl, Nat.le_of_ble_eq_true rfl⟩ ⟨Nat.zero_le _, Nat.zero_le _⟩ rfl hl.1 rfl (Nat.le_of_ble_eq_true rfl) dX11_runOn_118 (fun H locs hw hS => ?_)
          refine W.eq (g2 := F0 m 121 ls [.int v_24, .ref (G.2.1 k1)]) rfl ?_
          refine lv_iconst (v := (3 : Int32)) cx.1 cx.2.1 dX11_runOn_121 (by decide) ?_
          refine lv_iadd cx.1 cx.2.1 dX11_runOn_122 ?_
          refine lv_dup2_11 cx.1 cx.2.1 dX11_runOn_123 rfl rfl ?_
          obtain ⟨hin, hf⟩ := gck_some hf
          refine g_iald cx hw hk1 (vp_of_inb hin) dX11_runOn_124 ?_
          refine lv_iload cx.1 cx.2.1 dX11_runOn_125 (lv_at hl 1 rfl) ?_
          refine lv_iadd cx.1 cx.2.1 dX11_runOn_127 ?_
          obtain ⟨hin, hf⟩ := gck_some hf
          obtain ⟨S_25, eS_25, hf⟩ := gst_ex hf
          refine g_iast cx hw hS hk1 (vp_of_inb hin) dX11_runOn_128 (fun H locs hw hS => ?_)
          rw [eS_25] at hw
          exact hB_129 (L_X11_runOn_45 k1 n) hK45 S_25 x3 x4 x5 x6 v_16 _ _ _ hw hS (lv_sub hl [2, 3, 4, 5, 6, 7, 1] rfl) hf
        · rw [if_pos hc] at hf
          refine lv_aload_n cx.1 cx.2.1 dX11_runOn_92 rfl (lv_at hl 3 rfl) ?_
          refine lv_iconst (v := (5 : Int32)) cx.1 cx.2.1 dX11_runOn_93 (by decide) ?_
          refine lv_dup2_11 cx.1 cx.2.1 dX11_runOn_94 rfl rfl ?_
          obtain ⟨hin, hf⟩ := gck_some hf
          refine g_iald cx hw hk1 (vp_of_inb hin) dX11_runOn_95 ?_
          refine lv_iload cx.1 cx.2.1 dX11_runOn_96 (lv_at hl 1 rfl) ?_
          refine lv_iadd cx.1 cx.2.1 dX11_runOn_98 ?_
          obtain ⟨hin, hf⟩ := gck_some hf
          obtain ⟨S_26, eS_26, hf⟩ := gst_ex hf
          refine g_iast cx hw hS hk1 (vp_of_inb hin) dX11_runOn_99 (fun H locs hw hS => ?_)
          rw [eS_26] at hw
          refine lv_goto (tgt := 129) cx.1 cx.2.1 dX11_runOn_100 (by decide) ?_
          exact hB_129 (L_X11_runOn_45 k1 n) hK45 S_26 x3 x4 x5 x6 v_16 _ _ _ hw hS (lv_sub hl [2, 3, 4, 5, 6, 7, 1] rfl) hf
  have hl : lv_has ls 9 [(0, .ref (G.2.1 392)), (1, .ref (G.2.1 k1)), (2, .int a2), (3, .int a3)] := hl
  unfold f_X11_runOn at hf
  refine lv_iload_n cx.1 cx.2.1 dX11_runOn_0 rfl (lv_at hl 2 rfl) ?_
  obtain ⟨v_28, S_27, hv, hf⟩ := gbi_some hf
  refine g_S (As := [.int a2]) (rest := []) cx hw hS (c_X11_contractAt l G hM a2 S v_28 S_27 hv) gw_299 gy_X11_contractAt gi_X11_contractAt ⟨Nat.le_of_ble_eq_true rfl, Nat.le_of_ble_eq_true rfl⟩ ⟨Nat.zero_le _, Nat.zero_le _⟩ rfl hl.1 rfl (Nat.le_of_ble_eq_true rfl) dX11_runOn_1 (fun H locs hw hS => ?_)
  refine W.eq (g2 := F0 m 4 ls [.int v_28]) rfl ?_
  refine lv_istore (lv' := [(4, .int v_28), (0, .ref (G.2.1 392)), (1, .ref (G.2.1 k1)), (2, .int a2), (3, .int a3)]) cx.1 cx.2.1 dX11_runOn_4 hl (by decide) rfl (fun ls hl => ?_)
  refine lv_aload_n cx.1 cx.2.1 dX11_runOn_6 rfl (lv_at hl 2 rfl) ?_
  refine lv_iload cx.1 cx.2.1 dX11_runOn_7 (lv_at hl 0 rfl) ?_
  refine lv_iconst (v := (4 : Int32)) cx.1 cx.2.1 dX11_runOn_9 (by decide) ?_
  refine lv_iadd cx.1 cx.2.1 dX11_runOn_10 ?_
  obtain ⟨hin, hf⟩ := gck_some hf
  refine g_iald cx hw hk1 (vp_of_inb hin) dX11_runOn_11 ?_
  obtain ⟨x5_29, ex5_29, hf⟩ := gvi_ex hf
  refine W.eq (g2 := F0 m 12 ls [.int x5_29]) (by rw [← ex5_29]) ?_
  refine lv_istore (lv' := [(5, .int x5_29), (4, .int v_28), (0, .ref (G.2.1 392)), (1, .ref (G.2.1 k1)), (2, .int a2), (3, .int a3)]) cx.1 cx.2.1 dX11_runOn_12 hl (by decide) rfl (fun ls hl => ?_)
  refine lv_aload_n cx.1 cx.2.1 dX11_runOn_14 rfl (lv_at hl 2 rfl) ?_
  refine lv_aload_n cx.1 cx.2.1 dX11_runOn_15 rfl (lv_at hl 3 rfl) ?_
  refine lv_iload cx.1 cx.2.1 dX11_runOn_16 (lv_at hl 0 rfl) ?_
  refine lv_aload_n cx.1 cx.2.1 dX11_runOn_18 rfl (lv_at hl 3 rfl) ?_
  refine lv_iload cx.1 cx.2.1 dX11_runOn_19 (lv_at hl 1 rfl) ?_
  obtain ⟨hin, hf⟩ := gck_some hf
  refine g_iald cx hw hk1 (vp_of_inb hin) dX11_runOn_21 ?_
  refine lv_aload_n cx.1 cx.2.1 dX11_runOn_22 rfl (lv_at hl 3 rfl) ?_
  refine lv_iload cx.1 cx.2.1 dX11_runOn_23 (lv_at hl 1 rfl) ?_
  refine lv_iconst (v := (1 : Int32)) cx.1 cx.2.1 dX11_runOn_25 (by decide) ?_
  refine lv_iadd cx.1 cx.2.1 dX11_runOn_26 ?_
  obtain ⟨hin, hf⟩ := gck_some hf
  refine g_iald cx hw hk1 (vp_of_inb hin) dX11_runOn_27 ?_
  refine lv_iconst (v := (4 : Int32)) cx.1 cx.2.1 dX11_runOn_28 (by decide) ?_
  refine lv_aload_n cx.1 cx.2.1 dX11_runOn_29 rfl (lv_at hl 3 rfl) ?_
  refine lv_iload cx.1 cx.2.1 dX11_runOn_30 (lv_at hl 0 rfl) ?_
  refine lv_iload_n cx.1 cx.2.1 dX11_runOn_32 rfl (lv_at hl 5 rfl) ?_
  obtain ⟨v_31, S_30, hv, hf⟩ := gbi_some hf
  refine g_S (As := [.int x5_29, .int a3]) (rest := [.ref (G.2.1 k1), .int (4 : Int32), .int (S_27 k1 (v_28 + (1 : Int32)).toNatClampNeg), .int (S_27 k1 v_28.toNatClampNeg), .int x5_29, .ref (G.2.1 k1), .ref (G.2.1 392)]) cx hw hS (c_X11_trainAt l G hM x5_29 a3 S_27 v_31 S_30 hv) gw_492 gy_X11_trainAt gi_X11_trainAt ⟨Nat.le_of_ble_eq_true rfl, Nat.le_of_ble_eq_true rfl⟩ ⟨Nat.zero_le _, Nat.zero_le _⟩ rfl hl.1 rfl (Nat.le_of_ble_eq_true rfl) dX11_runOn_33 (fun H locs hw hS => ?_)
  refine W.eq (g2 := F0 m 36 ls [.int v_31, .ref (G.2.1 k1), .int (4 : Int32), .int (S_27 k1 (v_28 + (1 : Int32)).toNatClampNeg), .int (S_27 k1 v_28.toNatClampNeg), .int x5_29, .ref (G.2.1 k1), .ref (G.2.1 392)]) rfl ?_
  obtain ⟨hin, hf⟩ := gck_some hf
  refine g_iald cx hw hk1 (vp_of_inb hin) dX11_runOn_36 ?_
  refine lv_imul cx.1 cx.2.1 dX11_runOn_37 ?_
  obtain ⟨v_33, S_32, hv, hf⟩ := gbi_some hf
  refine g_V (As := [.ref (G.2.1 k1), .int x5_29, .int (S_27 k1 v_28.toNatClampNeg), .int (S_27 k1 (v_28 + (1 : Int32)).toNatClampNeg), .int ((4 : Int32) * (S_30 k1 v_31.toNatClampNeg))]) (rest := []) cx hw hS (c_X11_findWay l G hM hk1 x5_29 (S_27 k1 v_28.toNatClampNeg) (S_27 k1 (v_28 + (1 : Int32)).toNatClampNeg) ((4 : Int32) * (S_30 k1 v_31.toNatClampNeg)) S_30 v_33 S_32 hv) (by omega) he_c392 rfl rfl gw_795 gy_X11_findWay gi_X11_findWay ⟨Nat.le_of_ble_eq_true rfl, Nat.le_of_ble_eq_true rfl⟩ ⟨Nat.zero_le _, Nat.zero_le _⟩ rfl hl.1 rfl (Nat.le_of_ble_eq_true rfl) dX11_runOn_38 (fun H locs hw hS => ?_)
  refine W.eq (g2 := F0 m 41 ls [.int v_33]) rfl ?_
  refine lv_pop cx.1 cx.2.1 dX11_runOn_41 rfl ?_
  refine lv_iconst (v := (0 : Int32)) cx.1 cx.2.1 dX11_runOn_42 (by decide) ?_
  refine lv_istore (lv' := [(6, .int (0 : Int32)), (5, .int x5_29), (4, .int v_28), (0, .ref (G.2.1 392)), (1, .ref (G.2.1 k1)), (2, .int a2), (3, .int a3)]) cx.1 cx.2.1 dX11_runOn_43 hl (by decide) rfl (fun ls hl => ?_)
  exact hL_45 gFu S_32 a3 v_28 x5_29 (0 : Int32) _ _ _ hw hS (lv_sub hl [3, 4, 6, 2, 1, 0] rfl) hf
set_option maxHeartbeats 4000000 in
set_option maxRecDepth 100000 in
theorem c_X11_does (l : Launch) (G : gG) (hM : 402 ≤ gN G) (a1 : Int32) (a2 : Int32) (a3 : Int32) (S : Sg) (r : Int32) (S' : Sg) (hf : f_X11_does a1 a2 a3 S = some (r, S')) : Ct l yX11_does [Cond.code yX11_does cX11_does 6 (some .boolean)] (gR 6 156) G [.ref (G.2.1 392), .int a1, .int a2, .int a3] S (some (.int r)) S' := by
  refine Ct_of (by decide) (Nat.le_of_ble_eq_true rfl) ?_
  intro p e s m below meth c ls cx hr hlk hw hS hl
  have hN := cx.2.2.2.2.hN
  have hB_11 : ∀ (S : Sg) (x1 : Int32) (x2 : Int32) (x3 : Int32) (t0 : Int32) (H : Heap) (locs : List Loc) (ls : Array Slot), gP G S H → va_S (gA G s.heap.size) s.heap H locs → lv_has ls 6 [(0, .ref (G.2.1 392)), (1, .int x1), (2, .int x2), (3, .int x3)] → B_X11_does_11 S x1 x2 x3 t0 = some (r, S') → W p l e (gR 6 156) s m ([.ref (G.2.1 392), .int a1, .int a2, .int a3] : List Value).toArray below meth c H locs 0 0 (MQ below (gQ G S' (some (.int r)) (gA G s.heap.size)) ([.ref (G.2.1 392), .int a1, .int a2, .int a3] : List Value).toArray s 0 0 (gA G s.heap.size)) (F0 m 11 ls [.int t0]) := by
    intro S x1 x2 x3 t0 H locs ls hw hS hl hf
    unfold B_X11_does_11 at hf
    refine lv_istore (lv' := [(4, .int t0), (0, .ref (G.2.1 392)), (1, .int x1), (2, .int x2), (3, .int x3)]) cx.1 cx.2.1 dX11_does_11 hl (by decide) rfl (fun ls hl => ?_)
    refine lv_iload_n cx.1 cx.2.1 dX11_does_13 rfl (lv_at hl 3 rfl) ?_
    obtain ⟨v_2, S_1, hv, hf⟩ := gbi_some hf
    refine g_S (As := [.int x2]) (rest := []) cx hw hS (c_X11_isCompany l G hM x2 S v_2 S_1 hv) gw_446 gy_X11_isCompany gi_X11_isCompany ⟨Nat.le_of_ble_eq_true rfl, Nat.le_of_ble_eq_true rfl⟩ ⟨Nat.zero_le _, Nat.zero_le _⟩ rfl hl.1 rfl (Nat.le_of_ble_eq_true rfl) dX11_does_14 (fun H locs hw hS => ?_)
    refine W.eq (g2 := F0 m 17 ls [.int v_2]) rfl ?_
    refine lv_istore (lv' := [(5, .int v_2), (4, .int t0), (0, .ref (G.2.1 392)), (1, .int x1), (2, .int x2), (3, .int x3)]) cx.1 cx.2.1 dX11_does_17 hl (by decide) rfl (fun ls hl => ?_)
    refine lv_iload_n cx.1 cx.2.1 dX11_does_19 rfl (lv_at hl 3 rfl) ?_
    by_cases hs_9 : x1 = (1 : Int32)
    · rw [if_pos hs_9] at hf
      refine lv_tableIn (off := 52) (tgt := 72) cx.1 cx.2.1 dX11_does_20 (by rw [hs_9]; decide) (by rw [hs_9]; decide) (by rw [hs_9]; decide) (by decide) ?_
      refine lv_iload cx.1 cx.2.1 dX11_does_72 (lv_at hl 0 rfl) ?_
      refine lv_if_eq (tgt := 105) cx.1 cx.2.1 dX11_does_74 (by decide) (fun hc => ?_) (fun hc => ?_)
      · rw [if_pos hc] at hf
        refine lv_iconst (v := (0 : Int32)) cx.1 cx.2.1 dX11_does_105 (by decide) ?_
        exact g_zreti cx hr hlk hw hS (by decide) hf dX11_does_106
      · rw [if_neg hc] at hf
        refine lv_iload cx.1 cx.2.1 dX11_does_77 (lv_at hl 1 rfl) ?_
        refine lv_if_eq (tgt := 105) cx.1 cx.2.1 dX11_does_79 (by decide) (fun hc => ?_) (fun hc => ?_)
        · rw [if_pos hc] at hf
          refine lv_iconst (v := (0 : Int32)) cx.1 cx.2.1 dX11_does_105 (by decide) ?_
          exact g_zreti cx hr hlk hw hS (by decide) hf dX11_does_106
        · rw [if_neg hc] at hf
          refine lv_aload_n cx.1 cx.2.1 dX11_does_82 rfl (lv_at hl 2 rfl) ?_
          refine g_get (C := RX11) (T := TX11) (N := 16) (v := .ref (G.2.1 396)) cx hw inlX11 392 (by omega) he_c392 rfl 6 (by decide) gw_145 rfl rfl dX11_does_83 ?_
          refine lv_iload_n cx.1 cx.2.1 dX11_does_86 rfl (lv_at hl 5 rfl) ?_
          obtain ⟨v_4, S_3, hv, hf⟩ := gbi_some hf
          refine g_S (As := [.ref (G.2.1 396), .int x3]) (rest := []) cx hw hS (c_X11_isTrack l G hM (ia_c396 hM) x3 S_1 v_4 S_3 hv) gw_415 gy_X11_isTrack gi_X11_isTrack ⟨Nat.le_of_ble_eq_true rfl, Nat.le_of_ble_eq_true rfl⟩ ⟨Nat.zero_le _, Nat.zero_le _⟩ rfl hl.1 rfl (Nat.le_of_ble_eq_true rfl) dX11_does_87 (fun H locs hw hS => ?_)
          refine W.eq (g2 := F0 m 90 ls [.int v_4]) rfl ?_
          refine lv_if_eq (tgt := 105) cx.1 cx.2.1 dX11_does_90 (by decide) (fun hc => ?_) (fun hc => ?_)
          · rw [if_pos hc] at hf
            refine lv_iconst (v := (0 : Int32)) cx.1 cx.2.1 dX11_does_105 (by decide) ?_
            exact g_zreti cx hr hlk hw hS (by decide) hf dX11_does_106
          · rw [if_neg hc] at hf
            refine lv_aload_n cx.1 cx.2.1 dX11_does_93 rfl (lv_at hl 2 rfl) ?_
            refine g_get (C := RX11) (T := TX11) (N := 16) (v := .ref (G.2.1 396)) cx hw inlX11 392 (by omega) he_c392 rfl 6 (by decide) gw_145 rfl rfl dX11_does_94 ?_
            refine lv_iload_n cx.1 cx.2.1 dX11_does_97 rfl (lv_at hl 4 rfl) ?_
            refine lv_iload_n cx.1 cx.2.1 dX11_does_98 rfl (lv_at hl 5 rfl) ?_
            obtain ⟨v_6, S_5, hv, hf⟩ := gbi_some hf
            refine g_S (As := [.ref (G.2.1 396), .int x2, .int x3]) (rest := []) cx hw hS (c_X11_canBuyTrack l G hM (ia_c396 hM) x2 x3 S_3 v_6 S_5 hv) gw_569 gy_X11_canBuyTrack gi_X11_canBuyTrack ⟨Nat.le_of_ble_eq_true rfl, Nat.le_of_ble_eq_true rfl⟩ ⟨Nat.zero_le _, Nat.zero_le _⟩ rfl hl.1 rfl (Nat.le_of_ble_eq_true rfl) dX11_does_99 (fun H locs hw hS => ?_)
            refine W.eq (g2 := F0 m 102 ls [.int v_6]) rfl ?_
            refine lv_if_ne (tgt := 107) cx.1 cx.2.1 dX11_does_102 (by decide) (fun hc => ?_) (fun hc => ?_)
            · rw [if_neg hc] at hf
              refine lv_aload_n cx.1 cx.2.1 dX11_does_107 rfl (lv_at hl 2 rfl) ?_
              refine g_get (C := RX11) (T := TX11) (N := 16) (v := .ref (G.2.1 396)) cx hw inlX11 392 (by omega) he_c392 rfl 6 (by decide) gw_145 rfl rfl dX11_does_108 ?_
              refine lv_iload_n cx.1 cx.2.1 dX11_does_111 rfl (lv_at hl 4 rfl) ?_
              refine lv_iload_n cx.1 cx.2.1 dX11_does_112 rfl (lv_at hl 5 rfl) ?_
              obtain ⟨v_8, S_7, hv, hf⟩ := gbi_some hf
              refine g_S (As := [.ref (G.2.1 396), .int x2, .int x3]) (rest := []) cx hw hS (c_X11_buyTrackOn l G hM (ia_c396 hM) x2 x3 S_5 v_8 S_7 hv) gw_576 gy_X11_buyTrackOn gi_X11_buyTrackOn ⟨Nat.le_of_ble_eq_true rfl, Nat.le_of_ble_eq_true rfl⟩ ⟨Nat.zero_le _, Nat.zero_le _⟩ rfl hl.1 rfl (Nat.le_of_ble_eq_true rfl) dX11_does_113 (fun H locs hw hS => ?_)
              refine W.eq (g2 := F0 m 116 ls [.int v_8]) rfl ?_
              refine lv_pop cx.1 cx.2.1 dX11_does_116 rfl ?_
              refine lv_iconst (v := (1 : Int32)) cx.1 cx.2.1 dX11_does_117 (by decide) ?_
              exact g_zreti cx hr hlk hw hS (by decide) hf dX11_does_118
            · rw [if_pos hc] at hf
              refine lv_iconst (v := (0 : Int32)) cx.1 cx.2.1 dX11_does_105 (by decide) ?_
              exact g_zreti cx hr hlk hw hS (by decide) hf dX11_does_106
    rw [if_neg hs_9] at hf
    by_cases hs_16 : x1 = (2 : Int32)
    · rw [if_pos hs_16] at hf
      refine lv_tableIn (off := 99) (tgt := 119) cx.1 cx.2.1 dX11_does_20 (by rw [hs_16]; decide) (by rw [hs_16]; decide) (by rw [hs_16]; decide) (by decide) ?_
      refine lv_iload cx.1 cx.2.1 dX11_does_119 (lv_at hl 0 rfl) ?_
      refine lv_if_eq (tgt := 164) cx.1 cx.2.1 dX11_does_121 (by decide) (fun hc => ?_) (fun hc => ?_)
      · rw [if_pos hc] at hf
        refine lv_iconst (v := (0 : Int32)) cx.1 cx.2.1 dX11_does_164 (by decide) ?_
        exact g_zreti cx hr hlk hw hS (by decide) hf dX11_does_165
      · rw [if_neg hc] at hf
        refine lv_iload_n cx.1 cx.2.1 dX11_does_124 rfl (lv_at hl 5 rfl) ?_
        refine lv_i2l cx.1 cx.2.1 dX11_does_125 rfl ?_
        refine lv_lconst (v := (1 : Int64)) cx.1 cx.2.1 dX11_does_126 (by decide) ?_
        refine lv_ldc2 cx.1 cx.2.1 cx.2.2.2.1 (cx.2.2.2.2.ts _ gw_445) dX11_does_127 ?_
        obtain ⟨v_11, S_10, hv, hf⟩ := gbi_some hf
        refine g_S (As := [.long x3.toInt64, .long (1 : Int64), .long (6 : Int64)]) (rest := []) cx hw hS (c_X11_in l G hM x3.toInt64 (1 : Int64) (6 : Int64) S_1 v_11 S_10 hv) gw_197 gy_X11_in gi_X11_in ⟨Nat.le_of_ble_eq_true rfl, Nat.le_of_ble_eq_true rfl⟩ ⟨Nat.zero_le _, Nat.zero_le _⟩ rfl hl.1 rfl (Nat.le_of_ble_eq_true rfl) dX11_does_130 (fun H locs hw hS => ?_)
        refine W.eq (g2 := F0 m 133 ls [.int v_11]) rfl ?_
        refine lv_if_eq (tgt := 164) cx.1 cx.2.1 dX11_does_133 (by decide) (fun hc => ?_) (fun hc => ?_)
        · rw [if_pos hc] at hf
          refine lv_iconst (v := (0 : Int32)) cx.1 cx.2.1 dX11_does_164 (by decide) ?_
          exact g_zreti cx hr hlk hw hS (by decide) hf dX11_does_165
        · rw [if_neg hc] at hf
          refine lv_aload_n cx.1 cx.2.1 dX11_does_136 rfl (lv_at hl 2 rfl) ?_
          refine g_get (C := RX11) (T := TX11) (N := 16) (v := .ref (G.2.1 396)) cx hw inlX11 392 (by omega) he_c392 rfl 6 (by decide) gw_145 rfl rfl dX11_does_137 ?_
          refine lv_iload_n cx.1 cx.2.1 dX11_does_140 rfl (lv_at hl 4 rfl) ?_
          refine lv_iload_n cx.1 cx.2.1 dX11_does_141 rfl (lv_at hl 5 rfl) ?_
          obtain ⟨v_13, S_12, hv, hf⟩ := gbi_some hf
          refine g_S (As := [.ref (G.2.1 396), .int x2, .int x3]) (rest := []) cx hw hS (c_X11_canBuyTrain l G hM (ia_c396 hM) x2 x3 S_10 v_13 S_12 hv) gw_610 gy_X11_canBuyTrain gi_X11_canBuyTrain ⟨Nat.le_of_ble_eq_true rfl, Nat.le_of_ble_eq_true rfl⟩ ⟨Nat.zero_le _, Nat.zero_le _⟩ rfl hl.1 rfl (Nat.le_of_ble_eq_true rfl) dX11_does_142 (fun H locs hw hS => ?_)
          refine W.eq (g2 := F0 m 145 ls [.int v_13]) rfl ?_
          refine lv_if_eq (tgt := 164) cx.1 cx.2.1 dX11_does_145 (by decide) (fun hc => ?_) (fun hc => ?_)
          · rw [if_pos hc] at hf
            refine lv_iconst (v := (0 : Int32)) cx.1 cx.2.1 dX11_does_164 (by decide) ?_
            exact g_zreti cx hr hlk hw hS (by decide) hf dX11_does_165
          · rw [if_neg hc] at hf
            refine lv_aload_n cx.1 cx.2.1 dX11_does_148 rfl (lv_at hl 2 rfl) ?_
            refine g_get (C := RX11) (T := TX11) (N := 16) (v := .ref (G.2.1 396)) cx hw inlX11 392 (by omega) he_c392 rfl 6 (by decide) gw_145 rfl rfl dX11_does_149 ?_
            refine lv_iload_n cx.1 cx.2.1 dX11_does_152 rfl (lv_at hl 4 rfl) ?_
            refine lv_iload_n cx.1 cx.2.1 dX11_does_153 rfl (lv_at hl 5 rfl) ?_
            obtain ⟨v_15, S_14, hv, hf⟩ := gbi_some hf
            refine g_S (As := [.ref (G.2.1 396), .int x2, .int x3]) (rest := []) cx hw hS (c_X11_buyTrainOn l G hM (ia_c396 hM) x2 x3 S_12 v_15 S_14 hv) gw_613 gy_X11_buyTrainOn gi_X11_buyTrainOn ⟨Nat.le_of_ble_eq_true rfl, Nat.le_of_ble_eq_true rfl⟩ ⟨Nat.zero_le _, Nat.zero_le _⟩ rfl hl.1 rfl (Nat.le_of_ble_eq_true rfl) dX11_does_154 (fun H locs hw hS => ?_)
            refine W.eq (g2 := F0 m 157 ls [.int v_15]) rfl ?_
            refine lv_if_lt (tgt := 164) cx.1 cx.2.1 dX11_does_157 (by decide) (fun hc => ?_) (fun hc => ?_)
            · rw [if_pos hc] at hf
              refine lv_iconst (v := (0 : Int32)) cx.1 cx.2.1 dX11_does_164 (by decide) ?_
              exact g_zreti cx hr hlk hw hS (by decide) hf dX11_does_165
            · rw [if_neg hc] at hf
              refine lv_iconst (v := (1 : Int32)) cx.1 cx.2.1 dX11_does_160 (by decide) ?_
              refine lv_goto (tgt := 165) cx.1 cx.2.1 dX11_does_161 (by decide) ?_
              exact g_zreti cx hr hlk hw hS (by decide) hf dX11_does_165
    rw [if_neg hs_16] at hf
    by_cases hs_20 : x1 = (3 : Int32)
    · rw [if_pos hs_20] at hf
      refine lv_tableIn (off := 146) (tgt := 166) cx.1 cx.2.1 dX11_does_20 (by rw [hs_20]; decide) (by rw [hs_20]; decide) (by rw [hs_20]; decide) (by decide) ?_
      refine lv_iload cx.1 cx.2.1 dX11_does_166 (lv_at hl 0 rfl) ?_
      refine lv_if_eq (tgt := 177) cx.1 cx.2.1 dX11_does_168 (by decide) (fun hc => ?_) (fun hc => ?_)
      · rw [if_pos hc] at hf
        refine lv_iconst (v := (0 : Int32)) cx.1 cx.2.1 dX11_does_177 (by decide) ?_
        exact g_zreti cx hr hlk hw hS (by decide) hf dX11_does_178
      · rw [if_neg hc] at hf
        refine lv_iload_n cx.1 cx.2.1 dX11_does_171 rfl (lv_at hl 5 rfl) ?_
        refine lv_bipush (v := (9 : Int32)) cx.1 cx.2.1 dX11_does_172 (by decide) ?_
        refine lv_icmp_le (tgt := 179) cx.1 cx.2.1 dX11_does_174 (by decide) (fun hc => ?_) (fun hc => ?_)
        · rw [if_pos hc] at hf
          refine lv_aload_n cx.1 cx.2.1 dX11_does_179 rfl (lv_at hl 2 rfl) ?_
          refine g_get (C := RX11) (T := TX11) (N := 16) (v := .ref (G.2.1 396)) cx hw inlX11 392 (by omega) he_c392 rfl 6 (by decide) gw_145 rfl rfl dX11_does_180 ?_
          refine lv_iload_n cx.1 cx.2.1 dX11_does_183 rfl (lv_at hl 4 rfl) ?_
          obtain ⟨v_18, S_17, hv, hf⟩ := gbi_some hf
          refine g_S (As := [.int x2]) (rest := [.ref (G.2.1 396)]) cx hw hS (c_X11_companyAt l G hM x2 S_1 v_18 S_17 hv) gw_155 gy_X11_companyAt gi_X11_companyAt ⟨Nat.le_of_ble_eq_true rfl, Nat.le_of_ble_eq_true rfl⟩ ⟨Nat.zero_le _, Nat.zero_le _⟩ rfl hl.1 rfl (Nat.le_of_ble_eq_true rfl) dX11_does_184 (fun H locs hw hS => ?_)
          refine W.eq (g2 := F0 m 187 ls [.int v_18, .ref (G.2.1 396)]) rfl ?_
          refine lv_iconst (v := (1 : Int32)) cx.1 cx.2.1 dX11_does_187 (by decide) ?_
          refine lv_iadd cx.1 cx.2.1 dX11_does_188 ?_
          refine lv_iload_n cx.1 cx.2.1 dX11_does_189 rfl (lv_at hl 5 rfl) ?_
          obtain ⟨hin, hf⟩ := gck_some hf
          obtain ⟨S_19, eS_19, hf⟩ := gst_ex hf
          refine g_iast cx hw hS (ia_c396 hM) (vp_of_inb hin) dX11_does_190 (fun H locs hw hS => ?_)
          rw [eS_19] at hw
          refine lv_iconst (v := (1 : Int32)) cx.1 cx.2.1 dX11_does_191 (by decide) ?_
          exact g_zreti cx hr hlk hw hS (by decide) hf dX11_does_192
        · rw [if_neg hc] at hf
          refine lv_iconst (v := (0 : Int32)) cx.1 cx.2.1 dX11_does_177 (by decide) ?_
          exact g_zreti cx hr hlk hw hS (by decide) hf dX11_does_178
    rw [if_neg hs_20] at hf
    by_cases hs_27 : x1 = (4 : Int32)
    · rw [if_pos hs_27] at hf
      refine lv_tableIn (off := 173) (tgt := 193) cx.1 cx.2.1 dX11_does_20 (by rw [hs_27]; decide) (by rw [hs_27]; decide) (by rw [hs_27]; decide) (by decide) ?_
      refine lv_iload cx.1 cx.2.1 dX11_does_193 (lv_at hl 0 rfl) ?_
      refine lv_if_eq (tgt := 236) cx.1 cx.2.1 dX11_does_195 (by decide) (fun hc => ?_) (fun hc => ?_)
      · rw [if_pos hc] at hf
        refine lv_iconst (v := (0 : Int32)) cx.1 cx.2.1 dX11_does_236 (by decide) ?_
        exact g_zreti cx hr hlk hw hS (by decide) hf dX11_does_237
      · rw [if_neg hc] at hf
        refine lv_aload_n cx.1 cx.2.1 dX11_does_198 rfl (lv_at hl 2 rfl) ?_
        refine g_get (C := RX11) (T := TX11) (N := 16) (v := .ref (G.2.1 396)) cx hw inlX11 392 (by omega) he_c392 rfl 6 (by decide) gw_145 rfl rfl dX11_does_199 ?_
        refine lv_iload_n cx.1 cx.2.1 dX11_does_202 rfl (lv_at hl 5 rfl) ?_
        obtain ⟨v_22, S_21, hv, hf⟩ := gbi_some hf
        refine g_S (As := [.ref (G.2.1 396), .int x3]) (rest := []) cx hw hS (c_X11_isContract l G hM (ia_c396 hM) x3 S_1 v_22 S_21 hv) gw_521 gy_X11_isContract gi_X11_isContract ⟨Nat.le_of_ble_eq_true rfl, Nat.le_of_ble_eq_true rfl⟩ ⟨Nat.zero_le _, Nat.zero_le _⟩ rfl hl.1 rfl (Nat.le_of_ble_eq_true rfl) dX11_does_203 (fun H locs hw hS => ?_)
        refine W.eq (g2 := F0 m 206 ls [.int v_22]) rfl ?_
        refine lv_if_eq (tgt := 236) cx.1 cx.2.1 dX11_does_206 (by decide) (fun hc => ?_) (fun hc => ?_)
        · rw [if_pos hc] at hf
          refine lv_iconst (v := (0 : Int32)) cx.1 cx.2.1 dX11_does_236 (by decide) ?_
          exact g_zreti cx hr hlk hw hS (by decide) hf dX11_does_237
        · rw [if_neg hc] at hf
          refine lv_aload_n cx.1 cx.2.1 dX11_does_209 rfl (lv_at hl 2 rfl) ?_
          refine g_get (C := RX11) (T := TX11) (N := 16) (v := .ref (G.2.1 396)) cx hw inlX11 392 (by omega) he_c392 rfl 6 (by decide) gw_145 rfl rfl dX11_does_210 ?_
          refine lv_iload_n cx.1 cx.2.1 dX11_does_213 rfl (lv_at hl 5 rfl) ?_
          obtain ⟨v_24, S_23, hv, hf⟩ := gbi_some hf
          refine g_S (As := [.ref (G.2.1 396), .int x3]) (rest := []) cx hw hS (c_X11_canTake l G hM (ia_c396 hM) x3 S_21 v_24 S_23 hv) gw_684 gy_X11_canTake gi_X11_canTake ⟨Nat.le_of_ble_eq_true rfl, Nat.le_of_ble_eq_true rfl⟩ ⟨Nat.zero_le _, Nat.zero_le _⟩ rfl hl.1 rfl (Nat.le_of_ble_eq_true rfl) dX11_does_214 (fun H locs hw hS => ?_)
          refine W.eq (g2 := F0 m 217 ls [.int v_24]) rfl ?_
          refine lv_if_eq (tgt := 236) cx.1 cx.2.1 dX11_does_217 (by decide) (fun hc => ?_) (fun hc => ?_)
          · rw [if_pos hc] at hf
            refine lv_iconst (v := (0 : Int32)) cx.1 cx.2.1 dX11_does_236 (by decide) ?_
            exact g_zreti cx hr hlk hw hS (by decide) hf dX11_does_237
          · rw [if_neg hc] at hf
            refine lv_aload_n cx.1 cx.2.1 dX11_does_220 rfl (lv_at hl 2 rfl) ?_
            refine g_get (C := RX11) (T := TX11) (N := 16) (v := .ref (G.2.1 396)) cx hw inlX11 392 (by omega) he_c392 rfl 6 (by decide) gw_145 rfl rfl dX11_does_221 ?_
            refine lv_iload_n cx.1 cx.2.1 dX11_does_224 rfl (lv_at hl 4 rfl) ?_
            refine lv_iload_n cx.1 cx.2.1 dX11_does_225 rfl (lv_at hl 5 rfl) ?_
            obtain ⟨v_26, S_25, hv, hf⟩ := gbi_some hf
            refine g_S (As := [.ref (G.2.1 396), .int x2, .int x3]) (rest := []) cx hw hS (c_X11_takeOn l G hM (ia_c396 hM) x2 x3 S_23 v_26 S_25 hv) gw_687 gy_X11_takeOn gi_X11_takeOn ⟨Nat.le_of_ble_eq_true rfl, Nat.le_of_ble_eq_true rfl⟩ ⟨Nat.zero_le _, Nat.zero_le _⟩ rfl hl.1 rfl (Nat.le_of_ble_eq_true rfl) dX11_does_226 (fun H locs hw hS => ?_)
            refine W.eq (g2 := F0 m 229 ls [.int v_26]) rfl ?_
            refine lv_if_le (tgt := 236) cx.1 cx.2.1 dX11_does_229 (by decide) (fun hc => ?_) (fun hc => ?_)
            · rw [if_pos hc] at hf
              refine lv_iconst (v := (0 : Int32)) cx.1 cx.2.1 dX11_does_236 (by decide) ?_
              exact g_zreti cx hr hlk hw hS (by decide) hf dX11_does_237
            · rw [if_neg hc] at hf
              refine lv_iconst (v := (1 : Int32)) cx.1 cx.2.1 dX11_does_232 (by decide) ?_
              refine lv_goto (tgt := 237) cx.1 cx.2.1 dX11_does_233 (by decide) ?_
              exact g_zreti cx hr hlk hw hS (by decide) hf dX11_does_237
    rw [if_neg hs_27] at hf
    by_cases hs_34 : x1 = (5 : Int32)
    · rw [if_pos hs_34] at hf
      refine lv_tableIn (off := 218) (tgt := 238) cx.1 cx.2.1 dX11_does_20 (by rw [hs_34]; decide) (by rw [hs_34]; decide) (by rw [hs_34]; decide) (by decide) ?_
      refine lv_iload_n cx.1 cx.2.1 dX11_does_238 rfl (lv_at hl 5 rfl) ?_
      refine lv_bipush (v := (10 : Int32)) cx.1 cx.2.1 dX11_does_239 (by decide) ?_
      refine lv_icmp_ge (tgt := 286) cx.1 cx.2.1 dX11_does_241 (by decide) (fun hc => ?_) (fun hc => ?_)
      · rw [if_pos hc] at hf
        refine lv_iconst (v := (0 : Int32)) cx.1 cx.2.1 dX11_does_286 (by decide) ?_
        exact g_zreti cx hr hlk hw hS (by decide) hf dX11_does_287
      · rw [if_neg hc] at hf
        refine lv_aload_n cx.1 cx.2.1 dX11_does_244 rfl (lv_at hl 2 rfl) ?_
        refine g_get (C := RX11) (T := TX11) (N := 16) (v := .ref (G.2.1 396)) cx hw inlX11 392 (by omega) he_c392 rfl 6 (by decide) gw_145 rfl rfl dX11_does_245 ?_
        refine lv_iload_n cx.1 cx.2.1 dX11_does_248 rfl (lv_at hl 4 rfl) ?_
        refine lv_iload_n cx.1 cx.2.1 dX11_does_249 rfl (lv_at hl 5 rfl) ?_
        obtain ⟨v_29, S_28, hv, hf⟩ := gbi_some hf
        refine g_S (As := [.ref (G.2.1 396), .int x2, .int x3]) (rest := []) cx hw hS (c_X11_isRun l G hM (ia_c396 hM) x2 x3 S_1 v_29 S_28 hv) gw_788 gy_X11_isRun gi_X11_isRun ⟨Nat.le_of_ble_eq_true rfl, Nat.le_of_ble_eq_true rfl⟩ ⟨Nat.zero_le _, Nat.zero_le _⟩ rfl hl.1 rfl (Nat.le_of_ble_eq_true rfl) dX11_does_250 (fun H locs hw hS => ?_)
        refine W.eq (g2 := F0 m 253 ls [.int v_29]) rfl ?_
        refine lv_if_eq (tgt := 286) cx.1 cx.2.1 dX11_does_253 (by decide) (fun hc => ?_) (fun hc => ?_)
        · rw [if_pos hc] at hf
          refine lv_iconst (v := (0 : Int32)) cx.1 cx.2.1 dX11_does_286 (by decide) ?_
          exact g_zreti cx hr hlk hw hS (by decide) hf dX11_does_287
        · rw [if_neg hc] at hf
          refine lv_aload_n cx.1 cx.2.1 dX11_does_256 rfl (lv_at hl 2 rfl) ?_
          refine lv_aload_n cx.1 cx.2.1 dX11_does_257 rfl (lv_at hl 2 rfl) ?_
          refine g_get (C := RX11) (T := TX11) (N := 16) (v := .ref (G.2.1 396)) cx hw inlX11 392 (by omega) he_c392 rfl 6 (by decide) gw_145 rfl rfl dX11_does_258 ?_
          refine lv_iload_n cx.1 cx.2.1 dX11_does_261 rfl (lv_at hl 4 rfl) ?_
          refine lv_iload_n cx.1 cx.2.1 dX11_does_262 rfl (lv_at hl 5 rfl) ?_
          obtain ⟨v_31, S_30, hv, hf⟩ := gbi_some hf
          refine g_V (As := [.ref (G.2.1 396), .int x2, .int x3]) (rest := []) cx hw hS (c_X11_why l G hM (ia_c396 hM) x2 x3 S_28 v_31 S_30 hv) (by omega) he_c392 rfl rfl gw_791 gy_X11_why gi_X11_why ⟨Nat.le_of_ble_eq_true rfl, Nat.le_of_ble_eq_true rfl⟩ ⟨Nat.zero_le _, Nat.zero_le _⟩ rfl hl.1 rfl (Nat.le_of_ble_eq_true rfl) dX11_does_263 (fun H locs hw hS => ?_)
          refine W.eq (g2 := F0 m 266 ls [.int v_31]) rfl ?_
          refine lv_if_ne (tgt := 286) cx.1 cx.2.1 dX11_does_266 (by decide) (fun hc => ?_) (fun hc => ?_)
          · rw [if_neg hc] at hf
            refine lv_iconst (v := (0 : Int32)) cx.1 cx.2.1 dX11_does_286 (by decide) ?_
            exact g_zreti cx hr hlk hw hS (by decide) hf dX11_does_287
          · rw [if_pos hc] at hf
            refine lv_aload_n cx.1 cx.2.1 dX11_does_269 rfl (lv_at hl 2 rfl) ?_
            refine lv_aload_n cx.1 cx.2.1 dX11_does_270 rfl (lv_at hl 2 rfl) ?_
            refine g_get (C := RX11) (T := TX11) (N := 16) (v := .ref (G.2.1 396)) cx hw inlX11 392 (by omega) he_c392 rfl 6 (by decide) gw_145 rfl rfl dX11_does_271 ?_
            refine lv_iload_n cx.1 cx.2.1 dX11_does_274 rfl (lv_at hl 4 rfl) ?_
            refine lv_iload_n cx.1 cx.2.1 dX11_does_275 rfl (lv_at hl 5 rfl) ?_
            obtain ⟨v_33, S_32, hv, hf⟩ := gbi_some hf
            refine g_V (As := [.ref (G.2.1 396), .int x2, .int x3]) (rest := []) cx hw hS (c_X11_runOn l G hM (ia_c396 hM) x2 x3 S_30 v_33 S_32 hv) (by omega) he_c392 rfl rfl gw_817 gy_X11_runOn gi_X11_runOn ⟨Nat.le_of_ble_eq_true rfl, Nat.le_of_ble_eq_true rfl⟩ ⟨Nat.zero_le _, Nat.zero_le _⟩ rfl hl.1 rfl (Nat.le_of_ble_eq_true rfl) dX11_does_276 (fun H locs hw hS => ?_)
            refine W.eq (g2 := F0 m 279 ls [.int v_33]) rfl ?_
            refine lv_if_lt (tgt := 286) cx.1 cx.2.1 dX11_does_279 (by decide) (fun hc => ?_) (fun hc => ?_)
            · rw [if_pos hc] at hf
              refine lv_iconst (v := (0 : Int32)) cx.1 cx.2.1 dX11_does_286 (by decide) ?_
              exact g_zreti cx hr hlk hw hS (by decide) hf dX11_does_287
            · rw [if_neg hc] at hf
              refine lv_iconst (v := (1 : Int32)) cx.1 cx.2.1 dX11_does_282 (by decide) ?_
              refine lv_goto (tgt := 287) cx.1 cx.2.1 dX11_does_283 (by decide) ?_
              exact g_zreti cx hr hlk hw hS (by decide) hf dX11_does_287
    rw [if_neg hs_34] at hf
    by_cases hs_37 : x1 = (6 : Int32)
    · rw [if_pos hs_37] at hf
      refine lv_tableIn (off := 268) (tgt := 288) cx.1 cx.2.1 dX11_does_20 (by rw [hs_37]; decide) (by rw [hs_37]; decide) (by rw [hs_37]; decide) (by decide) ?_
      refine lv_iload_n cx.1 cx.2.1 dX11_does_288 rfl (lv_at hl 4 rfl) ?_
      refine lv_if_ne (tgt := 310) cx.1 cx.2.1 dX11_does_289 (by decide) (fun hc => ?_) (fun hc => ?_)
      · rw [if_neg hc] at hf
        refine lv_iconst (v := (0 : Int32)) cx.1 cx.2.1 dX11_does_310 (by decide) ?_
        exact g_zreti cx hr hlk hw hS (by decide) hf dX11_does_311
      · rw [if_pos hc] at hf
        refine lv_iload_n cx.1 cx.2.1 dX11_does_292 rfl (lv_at hl 5 rfl) ?_
        refine lv_if_ne (tgt := 310) cx.1 cx.2.1 dX11_does_293 (by decide) (fun hc => ?_) (fun hc => ?_)
        · rw [if_neg hc] at hf
          refine lv_iconst (v := (0 : Int32)) cx.1 cx.2.1 dX11_does_310 (by decide) ?_
          exact g_zreti cx hr hlk hw hS (by decide) hf dX11_does_311
        · rw [if_pos hc] at hf
          refine lv_aload_n cx.1 cx.2.1 dX11_does_296 rfl (lv_at hl 2 rfl) ?_
          refine g_get (C := RX11) (T := TX11) (N := 16) (v := .ref (G.2.1 396)) cx hw inlX11 392 (by omega) he_c392 rfl 6 (by decide) gw_145 rfl rfl dX11_does_297 ?_
          obtain ⟨v_36, S_35, hv, hf⟩ := gbi_some hf
          refine g_S (As := [.ref (G.2.1 396)]) (rest := []) cx hw hS (c_X11_endOn l G hM (ia_c396 hM) S_1 v_36 S_35 hv) gw_875 gy_X11_endOn gi_X11_endOn ⟨Nat.le_of_ble_eq_true rfl, Nat.le_of_ble_eq_true rfl⟩ ⟨Nat.zero_le _, Nat.zero_le _⟩ rfl hl.1 rfl (Nat.le_of_ble_eq_true rfl) dX11_does_300 (fun H locs hw hS => ?_)
          refine W.eq (g2 := F0 m 303 ls [.int v_36]) rfl ?_
          refine lv_if_lt (tgt := 310) cx.1 cx.2.1 dX11_does_303 (by decide) (fun hc => ?_) (fun hc => ?_)
          · rw [if_pos hc] at hf
            refine lv_iconst (v := (0 : Int32)) cx.1 cx.2.1 dX11_does_310 (by decide) ?_
            exact g_zreti cx hr hlk hw hS (by decide) hf dX11_does_311
          · rw [if_neg hc] at hf
            refine lv_iconst (v := (1 : Int32)) cx.1 cx.2.1 dX11_does_306 (by decide) ?_
            refine lv_goto (tgt := 311) cx.1 cx.2.1 dX11_does_307 (by decide) ?_
            exact g_zreti cx hr hlk hw hS (by decide) hf dX11_does_311
    rw [if_neg hs_37] at hf
    by_cases hs_40 : x1 = (7 : Int32)
    · rw [if_pos hs_40] at hf
      refine lv_tableIn (off := 292) (tgt := 312) cx.1 cx.2.1 dX11_does_20 (by rw [hs_40]; decide) (by rw [hs_40]; decide) (by rw [hs_40]; decide) (by decide) ?_
      refine lv_iload cx.1 cx.2.1 dX11_does_312 (lv_at hl 0 rfl) ?_
      refine lv_if_eq (tgt := 334) cx.1 cx.2.1 dX11_does_314 (by decide) (fun hc => ?_) (fun hc => ?_)
      · rw [if_pos hc] at hf
        refine lv_iconst (v := (0 : Int32)) cx.1 cx.2.1 dX11_does_334 (by decide) ?_
        exact g_zreti cx hr hlk hw hS (by decide) hf dX11_does_335
      · rw [if_neg hc] at hf
        refine lv_aload_n cx.1 cx.2.1 dX11_does_317 rfl (lv_at hl 2 rfl) ?_
        refine g_get (C := RX11) (T := TX11) (N := 16) (v := .ref (G.2.1 396)) cx hw inlX11 392 (by omega) he_c392 rfl 6 (by decide) gw_145 rfl rfl dX11_does_318 ?_
        refine lv_iload_n cx.1 cx.2.1 dX11_does_321 rfl (lv_at hl 4 rfl) ?_
        obtain ⟨v_39, S_38, hv, hf⟩ := gbi_some hf
        refine g_S (As := [.int x2]) (rest := [.ref (G.2.1 396)]) cx hw hS (c_X11_companyAt l G hM x2 S_1 v_39 S_38 hv) gw_155 gy_X11_companyAt gi_X11_companyAt ⟨Nat.le_of_ble_eq_true rfl, Nat.le_of_ble_eq_true rfl⟩ ⟨Nat.zero_le _, Nat.zero_le _⟩ rfl hl.1 rfl (Nat.le_of_ble_eq_true rfl) dX11_does_322 (fun H locs hw hS => ?_)
        refine W.eq (g2 := F0 m 325 ls [.int v_39, .ref (G.2.1 396)]) rfl ?_
        obtain ⟨hin, hf⟩ := gck_some hf
        refine g_iald cx hw (ia_c396 hM) (vp_of_inb hin) dX11_does_325 ?_
        refine lv_iload_n cx.1 cx.2.1 dX11_does_326 rfl (lv_at hl 5 rfl) ?_
        refine lv_icmp_lt (tgt := 334) cx.1 cx.2.1 dX11_does_327 (by decide) (fun hc => ?_) (fun hc => ?_)
        · rw [if_pos hc] at hf
          refine lv_iconst (v := (0 : Int32)) cx.1 cx.2.1 dX11_does_334 (by decide) ?_
          exact g_zreti cx hr hlk hw hS (by decide) hf dX11_does_335
        · rw [if_neg hc] at hf
          refine lv_iconst (v := (1 : Int32)) cx.1 cx.2.1 dX11_does_330 (by decide) ?_
          refine lv_goto (tgt := 335) cx.1 cx.2.1 dX11_does_331 (by decide) ?_
          exact g_zreti cx hr hlk hw hS (by decide) hf dX11_does_335
    rw [if_neg hs_40] at hf
    by_cases hs_41 : x1 = (8 : Int32)
    · rw [if_pos hs_41] at hf
      refine lv_tableIn (off := 316) (tgt := 336) cx.1 cx.2.1 dX11_does_20 (by rw [hs_41]; decide) (by rw [hs_41]; decide) (by rw [hs_41]; decide) (by decide) ?_
      refine lv_iload_n cx.1 cx.2.1 dX11_does_336 rfl (lv_at hl 4 rfl) ?_
      refine lv_if_ne (tgt := 360) cx.1 cx.2.1 dX11_does_337 (by decide) (fun hc => ?_) (fun hc => ?_)
      · rw [if_neg hc] at hf
        refine lv_iconst (v := (0 : Int32)) cx.1 cx.2.1 dX11_does_360 (by decide) ?_
        exact g_zreti cx hr hlk hw hS (by decide) hf dX11_does_361
      · rw [if_pos hc] at hf
        refine lv_iload_n cx.1 cx.2.1 dX11_does_340 rfl (lv_at hl 5 rfl) ?_
        refine lv_bipush (v := (10 : Int32)) cx.1 cx.2.1 dX11_does_341 (by decide) ?_
        refine lv_icmp_ge (tgt := 360) cx.1 cx.2.1 dX11_does_343 (by decide) (fun hc => ?_) (fun hc => ?_)
        · rw [if_pos hc] at hf
          refine lv_iconst (v := (0 : Int32)) cx.1 cx.2.1 dX11_does_360 (by decide) ?_
          exact g_zreti cx hr hlk hw hS (by decide) hf dX11_does_361
        · rw [if_neg hc] at hf
          refine lv_aload_n cx.1 cx.2.1 dX11_does_346 rfl (lv_at hl 2 rfl) ?_
          refine g_get (C := RX11) (T := TX11) (N := 16) (v := .ref (G.2.1 396)) cx hw inlX11 392 (by omega) he_c392 rfl 6 (by decide) gw_145 rfl rfl dX11_does_347 ?_
          refine lv_iconst (v := (3 : Int32)) cx.1 cx.2.1 dX11_does_350 (by decide) ?_
          obtain ⟨hin, hf⟩ := gck_some hf
          refine g_iald cx hw (ia_c396 hM) (vp_of_inb hin) dX11_does_351 ?_
          refine lv_iload_n cx.1 cx.2.1 dX11_does_352 rfl (lv_at hl 5 rfl) ?_
          refine lv_icmp_ne (tgt := 360) cx.1 cx.2.1 dX11_does_353 (by decide) (fun hc => ?_) (fun hc => ?_)
          · rw [if_neg hc] at hf
            refine lv_iconst (v := (0 : Int32)) cx.1 cx.2.1 dX11_does_360 (by decide) ?_
            exact g_zreti cx hr hlk hw hS (by decide) hf dX11_does_361
          · rw [if_pos hc] at hf
            refine lv_iconst (v := (1 : Int32)) cx.1 cx.2.1 dX11_does_356 (by decide) ?_
            refine lv_goto (tgt := 361) cx.1 cx.2.1 dX11_does_357 (by decide) ?_
            exact g_zreti cx hr hlk hw hS (by decide) hf dX11_does_361
    rw [if_neg hs_41] at hf
    by_cases hs_44 : x1 = (9 : Int32)
    · rw [if_pos hs_44] at hf
      refine lv_tableIn (off := 342) (tgt := 362) cx.1 cx.2.1 dX11_does_20 (by rw [hs_44]; decide) (by rw [hs_44]; decide) (by rw [hs_44]; decide) (by decide) ?_
      refine lv_iload cx.1 cx.2.1 dX11_does_362 (lv_at hl 0 rfl) ?_
      refine lv_if_eq (tgt := 389) cx.1 cx.2.1 dX11_does_364 (by decide) (fun hc => ?_) (fun hc => ?_)
      · rw [if_pos hc] at hf
        refine lv_iconst (v := (0 : Int32)) cx.1 cx.2.1 dX11_does_389 (by decide) ?_
        exact g_zreti cx hr hlk hw hS (by decide) hf dX11_does_390
      · rw [if_neg hc] at hf
        refine lv_iload_n cx.1 cx.2.1 dX11_does_367 rfl (lv_at hl 5 rfl) ?_
        refine lv_bipush (v := (10 : Int32)) cx.1 cx.2.1 dX11_does_368 (by decide) ?_
        refine lv_icmp_ge (tgt := 389) cx.1 cx.2.1 dX11_does_370 (by decide) (fun hc => ?_) (fun hc => ?_)
        · rw [if_pos hc] at hf
          refine lv_iconst (v := (0 : Int32)) cx.1 cx.2.1 dX11_does_389 (by decide) ?_
          exact g_zreti cx hr hlk hw hS (by decide) hf dX11_does_390
        · rw [if_neg hc] at hf
          refine lv_aload_n cx.1 cx.2.1 dX11_does_373 rfl (lv_at hl 2 rfl) ?_
          refine g_get (C := RX11) (T := TX11) (N := 16) (v := .ref (G.2.1 396)) cx hw inlX11 392 (by omega) he_c392 rfl 6 (by decide) gw_145 rfl rfl dX11_does_374 ?_
          refine lv_iload_n cx.1 cx.2.1 dX11_does_377 rfl (lv_at hl 4 rfl) ?_
          obtain ⟨v_43, S_42, hv, hf⟩ := gbi_some hf
          refine g_S (As := [.ref (G.2.1 396), .int x2]) (rest := []) cx hw hS (c_X11_trainsOf l G hM (ia_c396 hM) x2 S_1 v_43 S_42 hv) gw_489 gy_X11_trainsOf gi_X11_trainsOf ⟨Nat.le_of_ble_eq_true rfl, Nat.le_of_ble_eq_true rfl⟩ ⟨Nat.zero_le _, Nat.zero_le _⟩ rfl hl.1 rfl (Nat.le_of_ble_eq_true rfl) dX11_does_378 (fun H locs hw hS => ?_)
          refine W.eq (g2 := F0 m 381 ls [.int v_43]) rfl ?_
          refine lv_iload_n cx.1 cx.2.1 dX11_does_381 rfl (lv_at hl 5 rfl) ?_
          refine lv_icmp_ne (tgt := 389) cx.1 cx.2.1 dX11_does_382 (by decide) (fun hc => ?_) (fun hc => ?_)
          · rw [if_neg hc] at hf
            refine lv_iconst (v := (0 : Int32)) cx.1 cx.2.1 dX11_does_389 (by decide) ?_
            exact g_zreti cx hr hlk hw hS (by decide) hf dX11_does_390
          · rw [if_pos hc] at hf
            refine lv_iconst (v := (1 : Int32)) cx.1 cx.2.1 dX11_does_385 (by decide) ?_
            refine lv_goto (tgt := 390) cx.1 cx.2.1 dX11_does_386 (by decide) ?_
            exact g_zreti cx hr hlk hw hS (by decide) hf dX11_does_390
    rw [if_neg hs_44] at hf
    refine lv_tableOut (tgt := 391) cx.1 cx.2.1 dX11_does_20 (by have := sw_nek (k := 1) hs_9 (by decide); have := sw_nek (k := 2) hs_16 (by decide); have := sw_nek (k := 3) hs_20 (by decide); have := sw_nek (k := 4) hs_27 (by decide); have := sw_nek (k := 5) hs_34 (by decide); have := sw_nek (k := 6) hs_37 (by decide); have := sw_nek (k := 7) hs_40 (by decide); have := sw_nek (k := 8) hs_41 (by decide); have := sw_nek (k := 9) hs_44 (by decide); omega) (by decide) ?_
    refine lv_iconst (v := (0 : Int32)) cx.1 cx.2.1 dX11_does_391 (by decide) ?_
    exact g_zreti cx hr hlk hw hS (by decide) hf dX11_does_392
  have hl : lv_has ls 6 [(0, .ref (G.2.1 392)), (1, .int a1), (2, .int a2), (3, .int a3)] := hl
  unfold f_X11_does at hf
  refine lv_iload_n cx.1 cx.2.1 dX11_does_0 rfl (lv_at hl 3 rfl) ?_
  refine lv_bipush (v := (100 : Int32)) cx.1 cx.2.1 dX11_does_1 (by decide) ?_
  refine lv_icmp_ge (tgt := 10) cx.1 cx.2.1 dX11_does_3 (by decide) (fun hc => ?_) (fun hc => ?_)
  · rw [if_pos hc] at hf
    refine lv_iconst (v := (0 : Int32)) cx.1 cx.2.1 dX11_does_10 (by decide) ?_
    exact hB_11 S a1 a2 a3 (0 : Int32) _ _ _ hw hS (lv_sub hl [0, 1, 2, 3] rfl) hf
  · rw [if_neg hc] at hf
    refine lv_iconst (v := (1 : Int32)) cx.1 cx.2.1 dX11_does_6 (by decide) ?_
    refine lv_goto (tgt := 11) cx.1 cx.2.1 dX11_does_7 (by decide) ?_
    exact hB_11 S a1 a2 a3 (1 : Int32) _ _ _ hw hS (lv_sub hl [0, 1, 2, 3] rfl) hf
set_option maxHeartbeats 4000000 in
set_option maxRecDepth 100000 in
theorem c_X11_eat (l : Launch) (G : gG) (hM : 402 ≤ gN G) (a1 : Int32) (S : Sg) (r : Int32) (S' : Sg) (hf : f_X11_eat a1 S = some (r, S')) : Ct l yX11_eat [Cond.code yX11_eat cX11_eat 3 (some .boolean)] (gR 0 0) G [.ref (G.2.1 392), .int a1] S (some (.int r)) S' := by
  refine Ct_of (by decide) (Nat.le_of_ble_eq_true rfl) ?_
  intro p e s m below meth c ls cx hr hlk hw hS hl
  have hN := cx.2.2.2.2.hN
  have hB_44 : ∀ (S : Sg) (x2 : Int32) (t0 : Int32) (t1 : Int32) (H : Heap) (locs : List Loc) (ls : Array Slot), gP G S H → va_S (gA G s.heap.size) s.heap H locs → lv_has ls 3 [(2, .int x2)] → B_X11_eat_44 S x2 t0 t1 = some (r, S') → W p l e (gR 0 0) s m ([.ref (G.2.1 392), .int a1] : List Value).toArray below meth c H locs 0 0 (MQ below (gQ G S' (some (.int r)) (gA G s.heap.size)) ([.ref (G.2.1 392), .int a1] : List Value).toArray s 0 0 (gA G s.heap.size)) (F0 m 44 ls [.int t0, .int t1, .ref (G.2.1 392)]) := by
    intro S x2 t0 t1 H locs ls hw hS hl hf
    unfold B_X11_eat_44 at hf
    refine lv_iadd cx.1 cx.2.1 dX11_eat_44 ?_
    obtain ⟨S_1, eS_1, hf⟩ := gst_ex hf
    refine g_put (C := RX11) (T := TX11) (N := 16) cx hw hS inlX11 tyX11 tyX11_ok nmX11 392 (by omega) he_c392 rfl 3 (by decide) gw_275 rfl rfl (by decide +kernel) (Nat.le_of_ble_eq_true rfl) (by rw [u2_s, he_c392]; rfl) dX11_eat_45 (fun H locs hw hS => ?_)
    rw [eS_1] at hw
    refine lv_iload_n cx.1 cx.2.1 dX11_eat_48 rfl (lv_at hl 0 rfl) ?_
    obtain ⟨hbo, hf⟩ := gck_some hf
    exact g_zreti cx hr hlk hw hS hbo hf dX11_eat_49
  have hB_29 : ∀ (S : Sg) (t0 : Int32) (H : Heap) (locs : List Loc) (ls : Array Slot), gP G S H → va_S (gA G s.heap.size) s.heap H locs → lv_has ls 3 [(0, .ref (G.2.1 392))] → B_X11_eat_29 S t0 = some (r, S') → W p l e (gR 0 0) s m ([.ref (G.2.1 392), .int a1] : List Value).toArray below meth c H locs 0 0 (MQ below (gQ G S' (some (.int r)) (gA G s.heap.size)) ([.ref (G.2.1 392), .int a1] : List Value).toArray s 0 0 (gA G s.heap.size)) (F0 m 29 ls [.int t0]) := by
    intro S t0 H locs ls hw hS hl hf
    unfold B_X11_eat_29 at hf
    refine lv_istore_n (lv' := [(2, .int t0), (0, .ref (G.2.1 392))]) cx.1 cx.2.1 dX11_eat_29 rfl hl (by decide) rfl (fun ls hl => ?_)
    refine lv_aload_n cx.1 cx.2.1 dX11_eat_30 rfl (lv_at hl 1 rfl) ?_
    refine lv_dup cx.1 cx.2.1 dX11_eat_31 rfl ?_
    refine g_get (C := RX11) (T := TX11) (N := 16) (v := .int (S 392 3)) cx hw inlX11 392 (by omega) he_c392 rfl 3 (by decide) gw_275 rfl rfl dX11_eat_32 ?_
    refine lv_iload_n cx.1 cx.2.1 dX11_eat_35 rfl (lv_at hl 0 rfl) ?_
    refine lv_if_eq (tgt := 43) cx.1 cx.2.1 dX11_eat_36 (by decide) (fun hc => ?_) (fun hc => ?_)
    · rw [if_pos hc] at hf
      refine lv_iconst (v := (0 : Int32)) cx.1 cx.2.1 dX11_eat_43 (by decide) ?_
      exact hB_44 S t0 (0 : Int32) (S 392 3) _ _ _ hw hS (lv_sub hl [0] rfl) hf
    · rw [if_neg hc] at hf
      refine lv_iconst (v := (1 : Int32)) cx.1 cx.2.1 dX11_eat_39 (by decide) ?_
      refine lv_goto (tgt := 44) cx.1 cx.2.1 dX11_eat_40 (by decide) ?_
      exact hB_44 S t0 (1 : Int32) (S 392 3) _ _ _ hw hS (lv_sub hl [0] rfl) hf
  have hl : lv_has ls 3 [(0, .ref (G.2.1 392)), (1, .int a1)] := hl
  unfold f_X11_eat at hf
  refine lv_aload_n cx.1 cx.2.1 dX11_eat_0 rfl (lv_at hl 0 rfl) ?_
  refine g_get (C := RX11) (T := TX11) (N := 16) (v := .int (S 392 3)) cx hw inlX11 392 (by omega) he_c392 rfl 3 (by decide) gw_275 rfl rfl dX11_eat_1 ?_
  refine lv_aload_n cx.1 cx.2.1 dX11_eat_4 rfl (lv_at hl 0 rfl) ?_
  refine g_get (C := RX11) (T := TX11) (N := 16) (v := .int (S 392 2)) cx hw inlX11 392 (by omega) he_c392 rfl 2 (by decide) gw_196 rfl rfl dX11_eat_5 ?_
  refine lv_icmp_ge (tgt := 28) cx.1 cx.2.1 dX11_eat_8 (by decide) (fun hc => ?_) (fun hc => ?_)
  · rw [if_pos hc] at hf
    refine lv_iconst (v := (0 : Int32)) cx.1 cx.2.1 dX11_eat_28 (by decide) ?_
    exact hB_29 S (0 : Int32) _ _ _ hw hS (lv_sub hl [0] rfl) hf
  · rw [if_neg hc] at hf
    refine lv_aload_n cx.1 cx.2.1 dX11_eat_11 rfl (lv_at hl 0 rfl) ?_
    refine g_get (C := RX11) (T := TX11) (N := 16) (v := .ref (G.2.1 393)) cx hw inlX11 392 (by omega) he_c392 rfl 1 (by decide) gw_142 rfl rfl dX11_eat_12 ?_
    refine lv_aload_n cx.1 cx.2.1 dX11_eat_15 rfl (lv_at hl 0 rfl) ?_
    refine g_get (C := RX11) (T := TX11) (N := 16) (v := .int (S 392 3)) cx hw inlX11 392 (by omega) he_c392 rfl 3 (by decide) gw_275 rfl rfl dX11_eat_16 ?_
    obtain ⟨hin, hf⟩ := gck_some hf
    refine g_iald cx hw (ia_c393 hM) (vp_of_inb hin) dX11_eat_19 ?_
    refine lv_iload_n cx.1 cx.2.1 dX11_eat_20 rfl (lv_at hl 1 rfl) ?_
    refine lv_icmp_ne (tgt := 28) cx.1 cx.2.1 dX11_eat_21 (by decide) (fun hc => ?_) (fun hc => ?_)
    · rw [if_neg hc] at hf
      refine lv_iconst (v := (0 : Int32)) cx.1 cx.2.1 dX11_eat_28 (by decide) ?_
      exact hB_29 S (0 : Int32) _ _ _ hw hS (lv_sub hl [0] rfl) hf
    · rw [if_pos hc] at hf
      refine lv_iconst (v := (1 : Int32)) cx.1 cx.2.1 dX11_eat_24 (by decide) ?_
      refine lv_goto (tgt := 29) cx.1 cx.2.1 dX11_eat_25 (by decide) ?_
      exact hB_29 S (1 : Int32) _ _ _ hw hS (lv_sub hl [0] rfl) hf
set_option maxHeartbeats 4000000 in
set_option maxRecDepth 100000 in
theorem c_X11_endRound (l : Launch) (G : gG) (hM : 402 ≤ gN G) (S : Sg) (r : Int32) (S' : Sg) (hf : f_X11_endRound S = some (r, S')) : Ct l yX11_endRound [Cond.code yX11_endRound cX11_endRound 2 (some .int)] (gR 4 88) G [.ref (G.2.1 392)] S (some (.int r)) S' := by
  refine Ct_of (by decide) (Nat.le_of_ble_eq_true rfl) ?_
  intro p e s m below meth c ls cx hr hlk hw hS hl
  have hN := cx.2.2.2.2.hN
  have hl : lv_has ls 2 [(0, .ref (G.2.1 392))] := hl
  unfold f_X11_endRound at hf
  refine lv_aload_n cx.1 cx.2.1 dX11_endRound_0 rfl (lv_at hl 0 rfl) ?_
  refine lv_iconst (v := (0 : Int32)) cx.1 cx.2.1 dX11_endRound_1 (by decide) ?_
  obtain ⟨S_1, eS_1, hf⟩ := gst_ex hf
  refine g_put (C := RX11) (T := TX11) (N := 16) cx hw hS inlX11 tyX11 tyX11_ok nmX11 392 (by omega) he_c392 rfl 0 (by decide) gw_204 rfl rfl (by decide +kernel) (Nat.le_of_ble_eq_true rfl) (by rw [u2_s, he_c392]; rfl) dX11_endRound_2 (fun H locs hw hS => ?_)
  rw [eS_1] at hw
  refine lv_aload_n cx.1 cx.2.1 dX11_endRound_5 rfl (lv_at hl 0 rfl) ?_
  obtain ⟨S_2, hv, hf⟩ := gbv_some hf
  refine g_V (As := []) (rest := []) cx hw hS (c_X11_note l G hM S_1 S_2 hv) (by omega) he_c392 rfl rfl gw_572 gy_X11_note gi_X11_note ⟨Nat.le_of_ble_eq_true rfl, Nat.le_of_ble_eq_true rfl⟩ ⟨Nat.zero_le _, Nat.zero_le _⟩ rfl hl.1 rfl (Nat.le_of_ble_eq_true rfl) dX11_endRound_6 (fun H locs hw hS => ?_)
  refine W.eq (g2 := F0 m 9 ls []) rfl ?_
  refine lv_aload_n cx.1 cx.2.1 dX11_endRound_9 rfl (lv_at hl 0 rfl) ?_
  refine g_get (C := RX11) (T := TX11) (N := 16) (v := .ref (G.2.1 395)) cx hw inlX11 392 (by omega) he_c392 rfl 5 (by decide) gw_144 rfl rfl dX11_endRound_10 ?_
  obtain ⟨v_4, S_3, hv, hf⟩ := gbi_some hf
  refine g_S (As := [.ref (G.2.1 395)]) (rest := []) cx hw hS (c_X11_endOn l G hM (ia_c395 hM) S_2 v_4 S_3 hv) gw_875 gy_X11_endOn gi_X11_endOn ⟨Nat.le_of_ble_eq_true rfl, Nat.le_of_ble_eq_true rfl⟩ ⟨Nat.zero_le _, Nat.zero_le _⟩ rfl hl.1 rfl (Nat.le_of_ble_eq_true rfl) dX11_endRound_13 (fun H locs hw hS => ?_)
  refine W.eq (g2 := F0 m 16 ls [.int v_4]) rfl ?_
  refine lv_istore_n (lv' := [(1, .int v_4), (0, .ref (G.2.1 392))]) cx.1 cx.2.1 dX11_endRound_16 rfl hl (by decide) rfl (fun ls hl => ?_)
  refine lv_iload_n cx.1 cx.2.1 dX11_endRound_17 rfl (lv_at hl 0 rfl) ?_
  refine lv_iconst (v := (1 : Int32)) cx.1 cx.2.1 dX11_endRound_18 (by decide) ?_
  refine lv_iand cx.1 cx.2.1 dX11_endRound_19 ?_
  refine lv_iload_n cx.1 cx.2.1 dX11_endRound_20 rfl (lv_at hl 0 rfl) ?_
  refine lv_iconst (v := (1 : Int32)) cx.1 cx.2.1 dX11_endRound_21 (by decide) ?_
  refine lv_ishr cx.1 cx.2.1 dX11_endRound_22 ?_
  refine lv_iconst (v := (1 : Int32)) cx.1 cx.2.1 dX11_endRound_23 (by decide) ?_
  refine lv_iand cx.1 cx.2.1 dX11_endRound_24 ?_
  refine lv_iadd cx.1 cx.2.1 dX11_endRound_25 ?_
  refine lv_iload_n cx.1 cx.2.1 dX11_endRound_26 rfl (lv_at hl 0 rfl) ?_
  refine lv_iconst (v := (2 : Int32)) cx.1 cx.2.1 dX11_endRound_27 (by decide) ?_
  refine lv_ishr cx.1 cx.2.1 dX11_endRound_28 ?_
  refine lv_iconst (v := (1 : Int32)) cx.1 cx.2.1 dX11_endRound_29 (by decide) ?_
  refine lv_iand cx.1 cx.2.1 dX11_endRound_30 ?_
  refine lv_iadd cx.1 cx.2.1 dX11_endRound_31 ?_
  refine lv_iload_n cx.1 cx.2.1 dX11_endRound_32 rfl (lv_at hl 0 rfl) ?_
  refine lv_iconst (v := (3 : Int32)) cx.1 cx.2.1 dX11_endRound_33 (by decide) ?_
  refine lv_ishr cx.1 cx.2.1 dX11_endRound_34 ?_
  refine lv_iconst (v := (1 : Int32)) cx.1 cx.2.1 dX11_endRound_35 (by decide) ?_
  refine lv_iand cx.1 cx.2.1 dX11_endRound_36 ?_
  refine lv_iadd cx.1 cx.2.1 dX11_endRound_37 ?_
  exact g_ireti cx hr hlk hw hS hf dX11_endRound_38
set_option maxHeartbeats 4000000 in
set_option maxRecDepth 100000 in
theorem c_X11_readTrack (l : Launch) (G : gG) (hM : 402 ≤ gN G) (S : Sg) (r : Int32) (S' : Sg) (hf : f_X11_readTrack S = some (r, S')) : Ct l yX11_readTrack [Cond.code yX11_readTrack cX11_readTrack 4 (some .boolean)] (gR 2 50) G [.ref (G.2.1 392)] S (some (.int r)) S' := by
  refine Ct_of (by decide) (Nat.le_of_ble_eq_true rfl) ?_
  intro p e s m below meth c ls cx hr hlk hw hS hl
  have hN := cx.2.2.2.2.hN
  have hB_62 : ∀ (S : Sg) (x1 : Int32) (x2 : Int32) (t0 : Int32) (H : Heap) (locs : List Loc) (ls : Array Slot), gP G S H → va_S (gA G s.heap.size) s.heap H locs → lv_has ls 4 [(0, .ref (G.2.1 392)), (1, .int x1), (2, .int x2)] → B_X11_readTrack_62 S x1 x2 t0 = some (r, S') → W p l e (gR 2 50) s m ([.ref (G.2.1 392)] : List Value).toArray below meth c H locs 0 0 (MQ below (gQ G S' (some (.int r)) (gA G s.heap.size)) ([.ref (G.2.1 392)] : List Value).toArray s 0 0 (gA G s.heap.size)) (F0 m 62 ls [.int t0]) := by
    intro S x1 x2 t0 H locs ls hw hS hl hf
    unfold B_X11_readTrack_62 at hf
    refine lv_istore_n (lv' := [(3, .int t0), (0, .ref (G.2.1 392)), (1, .int x1), (2, .int x2)]) cx.1 cx.2.1 dX11_readTrack_62 rfl hl (by decide) rfl (fun ls hl => ?_)
    refine lv_iload_n cx.1 cx.2.1 dX11_readTrack_63 rfl (lv_at hl 0 rfl) ?_
    refine lv_bipush (v := (-9 : Int32)) cx.1 cx.2.1 dX11_readTrack_64 (by decide) ?_
    refine lv_icmp_ne (tgt := 71) cx.1 cx.2.1 dX11_readTrack_66 (by decide) (fun hc => ?_) (fun hc => ?_)
    · rw [if_neg hc] at hf
      refine lv_aload_n cx.1 cx.2.1 dX11_readTrack_71 rfl (lv_at hl 1 rfl) ?_
      refine g_get (C := RX11) (T := TX11) (N := 16) (v := .ref (G.2.1 394)) cx hw inlX11 392 (by omega) he_c392 rfl 4 (by decide) gw_143 rfl rfl dX11_readTrack_72 ?_
      refine lv_iload_n cx.1 cx.2.1 dX11_readTrack_75 rfl (lv_at hl 2 rfl) ?_
      refine lv_iload_n cx.1 cx.2.1 dX11_readTrack_76 rfl (lv_at hl 3 rfl) ?_
      refine lv_iload_n cx.1 cx.2.1 dX11_readTrack_77 rfl (lv_at hl 0 rfl) ?_
      obtain ⟨S_1, hv, hf⟩ := gbv_some hf
      refine g_S (As := [.ref (G.2.1 394), .int x1, .int x2, .int t0]) (rest := []) cx hw hS (c_X11_addTrack l G hM (ia_c394 hM) x1 x2 t0 S S_1 hv) gw_158 gy_X11_addTrack gi_X11_addTrack ⟨Nat.le_of_ble_eq_true rfl, Nat.le_of_ble_eq_true rfl⟩ ⟨Nat.zero_le _, Nat.zero_le _⟩ rfl hl.1 rfl (Nat.le_of_ble_eq_true rfl) dX11_readTrack_78 (fun H locs hw hS => ?_)
      refine W.eq (g2 := F0 m 81 ls []) rfl ?_
      refine lv_iconst (v := (1 : Int32)) cx.1 cx.2.1 dX11_readTrack_81 (by decide) ?_
      exact g_zreti cx hr hlk hw hS (by decide) hf dX11_readTrack_82
    · rw [if_pos hc] at hf
      refine lv_iconst (v := (0 : Int32)) cx.1 cx.2.1 dX11_readTrack_69 (by decide) ?_
      exact g_zreti cx hr hlk hw hS (by decide) hf dX11_readTrack_70
  have hB_41 : ∀ (S : Sg) (x1 : Int32) (t0 : Int32) (H : Heap) (locs : List Loc) (ls : Array Slot), gP G S H → va_S (gA G s.heap.size) s.heap H locs → lv_has ls 4 [(0, .ref (G.2.1 392)), (1, .int x1)] → B_X11_readTrack_41 S x1 t0 = some (r, S') → W p l e (gR 2 50) s m ([.ref (G.2.1 392)] : List Value).toArray below meth c H locs 0 0 (MQ below (gQ G S' (some (.int r)) (gA G s.heap.size)) ([.ref (G.2.1 392)] : List Value).toArray s 0 0 (gA G s.heap.size)) (F0 m 41 ls [.int t0]) := by
    intro S x1 t0 H locs ls hw hS hl hf
    unfold B_X11_readTrack_41 at hf
    refine lv_istore_n (lv' := [(2, .int t0), (0, .ref (G.2.1 392)), (1, .int x1)]) cx.1 cx.2.1 dX11_readTrack_41 rfl hl (by decide) rfl (fun ls hl => ?_)
    refine lv_iload_n cx.1 cx.2.1 dX11_readTrack_42 rfl (lv_at hl 0 rfl) ?_
    refine lv_bipush (v := (-9 : Int32)) cx.1 cx.2.1 dX11_readTrack_43 (by decide) ?_
    refine lv_icmp_ne (tgt := 53) cx.1 cx.2.1 dX11_readTrack_45 (by decide) (fun hc => ?_) (fun hc => ?_)
    · rw [if_neg hc] at hf
      refine lv_aload_n cx.1 cx.2.1 dX11_readTrack_53 rfl (lv_at hl 1 rfl) ?_
      refine lv_iconst (v := (1 : Int32)) cx.1 cx.2.1 dX11_readTrack_54 (by decide) ?_
      refine lv_bipush (v := (9 : Int32)) cx.1 cx.2.1 dX11_readTrack_55 (by decide) ?_
      refine lv_bipush (v := (-9 : Int32)) cx.1 cx.2.1 dX11_readTrack_57 (by decide) ?_
      obtain ⟨v_3, S_2, hv, hf⟩ := gbi_some hf
      refine g_V (As := [.int (1 : Int32), .int (9 : Int32), .int (-9 : Int32)]) (rest := []) cx hw hS (c_X11_digit l G hM (1 : Int32) (9 : Int32) (-9 : Int32) S v_3 S_2 hv) (by omega) he_c392 rfl rfl gw_284 gy_X11_digit gi_X11_digit ⟨Nat.le_of_ble_eq_true rfl, Nat.le_of_ble_eq_true rfl⟩ ⟨Nat.zero_le _, Nat.zero_le _⟩ rfl hl.1 rfl (Nat.le_of_ble_eq_true rfl) dX11_readTrack_59 (fun H locs hw hS => ?_)
      refine W.eq (g2 := F0 m 62 ls [.int v_3]) rfl ?_
      exact hB_62 S_2 x1 t0 v_3 _ _ _ hw hS (lv_sub hl [1, 2, 0] rfl) hf
    · rw [if_pos hc] at hf
      refine lv_bipush (v := (-9 : Int32)) cx.1 cx.2.1 dX11_readTrack_48 (by decide) ?_
      refine lv_goto (tgt := 62) cx.1 cx.2.1 dX11_readTrack_50 (by decide) ?_
      exact hB_62 S x1 t0 (-9 : Int32) _ _ _ hw hS (lv_sub hl [1, 2, 0] rfl) hf
  have hl : lv_has ls 4 [(0, .ref (G.2.1 392))] := hl
  unfold f_X11_readTrack at hf
  refine lv_aload_n cx.1 cx.2.1 dX11_readTrack_0 rfl (lv_at hl 0 rfl) ?_
  refine lv_iconst (v := (0 : Int32)) cx.1 cx.2.1 dX11_readTrack_1 (by decide) ?_
  refine lv_aload_n cx.1 cx.2.1 dX11_readTrack_2 rfl (lv_at hl 0 rfl) ?_
  refine g_get (C := RX11) (T := TX11) (N := 16) (v := .ref (G.2.1 394)) cx hw inlX11 392 (by omega) he_c392 rfl 4 (by decide) gw_143 rfl rfl dX11_readTrack_3 ?_
  refine lv_iconst (v := (0 : Int32)) cx.1 cx.2.1 dX11_readTrack_6 (by decide) ?_
  obtain ⟨hin, hf⟩ := gck_some hf
  refine g_iald cx hw (ia_c394 hM) (vp_of_inb hin) dX11_readTrack_7 ?_
  refine lv_iconst (v := (1 : Int32)) cx.1 cx.2.1 dX11_readTrack_8 (by decide) ?_
  refine lv_isub cx.1 cx.2.1 dX11_readTrack_9 ?_
  refine lv_bipush (v := (-9 : Int32)) cx.1 cx.2.1 dX11_readTrack_10 (by decide) ?_
  obtain ⟨v_5, S_4, hv, hf⟩ := gbi_some hf
  refine g_V (As := [.int (0 : Int32), .int ((S 394 (0 : Int32).toNatClampNeg) - (1 : Int32)), .int (-9 : Int32)]) (rest := []) cx hw hS (c_X11_digit l G hM (0 : Int32) ((S 394 (0 : Int32).toNatClampNeg) - (1 : Int32)) (-9 : Int32) S v_5 S_4 hv) (by omega) he_c392 rfl rfl gw_284 gy_X11_digit gi_X11_digit ⟨Nat.le_of_ble_eq_true rfl, Nat.le_of_ble_eq_true rfl⟩ ⟨Nat.zero_le _, Nat.zero_le _⟩ rfl hl.1 rfl (Nat.le_of_ble_eq_true rfl) dX11_readTrack_12 (fun H locs hw hS => ?_)
  refine W.eq (g2 := F0 m 15 ls [.int v_5]) rfl ?_
  refine lv_istore_n (lv' := [(1, .int v_5), (0, .ref (G.2.1 392))]) cx.1 cx.2.1 dX11_readTrack_15 rfl hl (by decide) rfl (fun ls hl => ?_)
  refine lv_iload_n cx.1 cx.2.1 dX11_readTrack_16 rfl (lv_at hl 0 rfl) ?_
  refine lv_bipush (v := (-9 : Int32)) cx.1 cx.2.1 dX11_readTrack_17 (by decide) ?_
  refine lv_icmp_ne (tgt := 27) cx.1 cx.2.1 dX11_readTrack_19 (by decide) (fun hc => ?_) (fun hc => ?_)
  · rw [if_neg hc] at hf
    refine lv_aload_n cx.1 cx.2.1 dX11_readTrack_27 rfl (lv_at hl 1 rfl) ?_
    refine lv_iconst (v := (0 : Int32)) cx.1 cx.2.1 dX11_readTrack_28 (by decide) ?_
    refine lv_aload_n cx.1 cx.2.1 dX11_readTrack_29 rfl (lv_at hl 1 rfl) ?_
    refine g_get (C := RX11) (T := TX11) (N := 16) (v := .ref (G.2.1 394)) cx hw inlX11 392 (by omega) he_c392 rfl 4 (by decide) gw_143 rfl rfl dX11_readTrack_30 ?_
    refine lv_iconst (v := (0 : Int32)) cx.1 cx.2.1 dX11_readTrack_33 (by decide) ?_
    obtain ⟨hin, hf⟩ := gck_some hf
    refine g_iald cx hw (ia_c394 hM) (vp_of_inb hin) dX11_readTrack_34 ?_
    refine lv_iconst (v := (1 : Int32)) cx.1 cx.2.1 dX11_readTrack_35 (by decide) ?_
    refine lv_isub cx.1 cx.2.1 dX11_readTrack_36 ?_
    refine lv_iload_n cx.1 cx.2.1 dX11_readTrack_37 rfl (lv_at hl 0 rfl) ?_
    obtain ⟨v_7, S_6, hv, hf⟩ := gbi_some hf
    refine g_V (As := [.int (0 : Int32), .int ((S_4 394 (0 : Int32).toNatClampNeg) - (1 : Int32)), .int v_5]) (rest := []) cx hw hS (c_X11_digit l G hM (0 : Int32) ((S_4 394 (0 : Int32).toNatClampNeg) - (1 : Int32)) v_5 S_4 v_7 S_6 hv) (by omega) he_c392 rfl rfl gw_284 gy_X11_digit gi_X11_digit ⟨Nat.le_of_ble_eq_true rfl, Nat.le_of_ble_eq_true rfl⟩ ⟨Nat.zero_le _, Nat.zero_le _⟩ rfl hl.1 rfl (Nat.le_of_ble_eq_true rfl) dX11_readTrack_38 (fun H locs hw hS => ?_)
    refine W.eq (g2 := F0 m 41 ls [.int v_7]) rfl ?_
    exact hB_41 S_6 v_5 v_7 _ _ _ hw hS (lv_sub hl [1, 0] rfl) hf
  · rw [if_pos hc] at hf
    refine lv_bipush (v := (-9 : Int32)) cx.1 cx.2.1 dX11_readTrack_22 (by decide) ?_
    refine lv_goto (tgt := 41) cx.1 cx.2.1 dX11_readTrack_24 (by decide) ?_
    exact hB_41 S_4 v_5 (-9 : Int32) _ _ _ hw hS (lv_sub hl [1, 0] rfl) hf
set_option maxHeartbeats 4000000 in
set_option maxRecDepth 100000 in
theorem c_X11_readContract (l : Launch) (G : gG) (hM : 402 ≤ gN G) (S : Sg) (r : Int32) (S' : Sg) (hf : f_X11_readContract S = some (r, S')) : Ct l yX11_readContract [Cond.code yX11_readContract cX11_readContract 6 (some .boolean)] (gR 2 50) G [.ref (G.2.1 392)] S (some (.int r)) S' := by
  refine Ct_of (by decide) (Nat.le_of_ble_eq_true rfl) ?_
  intro p e s m below meth c ls cx hr hlk hw hS hl
  have hN := cx.2.2.2.2.hN
  have hB_114 : ∀ (S : Sg) (x1 : Int32) (x2 : Int32) (x3 : Int32) (x4 : Int32) (t0 : Int32) (H : Heap) (locs : List Loc) (ls : Array Slot), gP G S H → va_S (gA G s.heap.size) s.heap H locs → lv_has ls 6 [(0, .ref (G.2.1 392)), (1, .int x1), (2, .int x2), (3, .int x3), (4, .int x4)] → B_X11_readContract_114 S x1 x2 x3 x4 t0 = some (r, S') → W p l e (gR 2 50) s m ([.ref (G.2.1 392)] : List Value).toArray below meth c H locs 0 0 (MQ below (gQ G S' (some (.int r)) (gA G s.heap.size)) ([.ref (G.2.1 392)] : List Value).toArray s 0 0 (gA G s.heap.size)) (F0 m 114 ls [.int t0]) := by
    intro S x1 x2 x3 x4 t0 H locs ls hw hS hl hf
    unfold B_X11_readContract_114 at hf
    refine lv_istore (lv' := [(5, .int t0), (0, .ref (G.2.1 392)), (1, .int x1), (2, .int x2), (3, .int x3), (4, .int x4)]) cx.1 cx.2.1 dX11_readContract_114 hl (by decide) rfl (fun ls hl => ?_)
    refine lv_iload cx.1 cx.2.1 dX11_readContract_116 (lv_at hl 0 rfl) ?_
    refine lv_bipush (v := (-9 : Int32)) cx.1 cx.2.1 dX11_readContract_118 (by decide) ?_
    refine lv_icmp_ne (tgt := 125) cx.1 cx.2.1 dX11_readContract_120 (by decide) (fun hc => ?_) (fun hc => ?_)
    · rw [if_neg hc] at hf
      refine lv_aload_n cx.1 cx.2.1 dX11_readContract_125 rfl (lv_at hl 1 rfl) ?_
      refine g_get (C := RX11) (T := TX11) (N := 16) (v := .ref (G.2.1 394)) cx hw inlX11 392 (by omega) he_c392 rfl 4 (by decide) gw_143 rfl rfl dX11_readContract_126 ?_
      refine lv_iload_n cx.1 cx.2.1 dX11_readContract_129 rfl (lv_at hl 2 rfl) ?_
      refine lv_iload_n cx.1 cx.2.1 dX11_readContract_130 rfl (lv_at hl 3 rfl) ?_
      refine lv_bipush (v := (10 : Int32)) cx.1 cx.2.1 dX11_readContract_131 (by decide) ?_
      refine lv_iload_n cx.1 cx.2.1 dX11_readContract_133 rfl (lv_at hl 4 rfl) ?_
      refine lv_imul cx.1 cx.2.1 dX11_readContract_134 ?_
      refine lv_iload cx.1 cx.2.1 dX11_readContract_135 (lv_at hl 5 rfl) ?_
      refine lv_iadd cx.1 cx.2.1 dX11_readContract_137 ?_
      refine lv_iload cx.1 cx.2.1 dX11_readContract_138 (lv_at hl 0 rfl) ?_
      obtain ⟨S_1, hv, hf⟩ := gbv_some hf
      refine g_S (As := [.ref (G.2.1 394), .int x1, .int x2, .int (((10 : Int32) * x3) + x4), .int t0]) (rest := []) cx hw hS (c_X11_addContract l G hM (ia_c394 hM) x1 x2 (((10 : Int32) * x3) + x4) t0 S S_1 hv) gw_296 gy_X11_addContract gi_X11_addContract ⟨Nat.le_of_ble_eq_true rfl, Nat.le_of_ble_eq_true rfl⟩ ⟨Nat.zero_le _, Nat.zero_le _⟩ rfl hl.1 rfl (Nat.le_of_ble_eq_true rfl) dX11_readContract_140 (fun H locs hw hS => ?_)
      refine W.eq (g2 := F0 m 143 ls []) rfl ?_
      refine lv_iconst (v := (1 : Int32)) cx.1 cx.2.1 dX11_readContract_143 (by decide) ?_
      exact g_zreti cx hr hlk hw hS (by decide) hf dX11_readContract_144
    · rw [if_pos hc] at hf
      refine lv_iconst (v := (0 : Int32)) cx.1 cx.2.1 dX11_readContract_123 (by decide) ?_
      exact g_zreti cx hr hlk hw hS (by decide) hf dX11_readContract_124
  have hB_91 : ∀ (S : Sg) (x1 : Int32) (x2 : Int32) (x3 : Int32) (t0 : Int32) (H : Heap) (locs : List Loc) (ls : Array Slot), gP G S H → va_S (gA G s.heap.size) s.heap H locs → lv_has ls 6 [(0, .ref (G.2.1 392)), (1, .int x1), (2, .int x2), (3, .int x3)] → B_X11_readContract_91 S x1 x2 x3 t0 = some (r, S') → W p l e (gR 2 50) s m ([.ref (G.2.1 392)] : List Value).toArray below meth c H locs 0 0 (MQ below (gQ G S' (some (.int r)) (gA G s.heap.size)) ([.ref (G.2.1 392)] : List Value).toArray s 0 0 (gA G s.heap.size)) (F0 m 91 ls [.int t0]) := by
    intro S x1 x2 x3 t0 H locs ls hw hS hl hf
    unfold B_X11_readContract_91 at hf
    refine lv_istore (lv' := [(4, .int t0), (0, .ref (G.2.1 392)), (1, .int x1), (2, .int x2), (3, .int x3)]) cx.1 cx.2.1 dX11_readContract_91 hl (by decide) rfl (fun ls hl => ?_)
    refine lv_iload cx.1 cx.2.1 dX11_readContract_93 (lv_at hl 0 rfl) ?_
    refine lv_bipush (v := (-9 : Int32)) cx.1 cx.2.1 dX11_readContract_95 (by decide) ?_
    refine lv_icmp_ne (tgt := 105) cx.1 cx.2.1 dX11_readContract_97 (by decide) (fun hc => ?_) (fun hc => ?_)
    · rw [if_neg hc] at hf
      refine lv_aload_n cx.1 cx.2.1 dX11_readContract_105 rfl (lv_at hl 1 rfl) ?_
      refine lv_iconst (v := (1 : Int32)) cx.1 cx.2.1 dX11_readContract_106 (by decide) ?_
      refine lv_bipush (v := (9 : Int32)) cx.1 cx.2.1 dX11_readContract_107 (by decide) ?_
      refine lv_bipush (v := (-9 : Int32)) cx.1 cx.2.1 dX11_readContract_109 (by decide) ?_
      obtain ⟨v_3, S_2, hv, hf⟩ := gbi_some hf
      refine g_V (As := [.int (1 : Int32), .int (9 : Int32), .int (-9 : Int32)]) (rest := []) cx hw hS (c_X11_digit l G hM (1 : Int32) (9 : Int32) (-9 : Int32) S v_3 S_2 hv) (by omega) he_c392 rfl rfl gw_284 gy_X11_digit gi_X11_digit ⟨Nat.le_of_ble_eq_true rfl, Nat.le_of_ble_eq_true rfl⟩ ⟨Nat.zero_le _, Nat.zero_le _⟩ rfl hl.1 rfl (Nat.le_of_ble_eq_true rfl) dX11_readContract_111 (fun H locs hw hS => ?_)
      refine W.eq (g2 := F0 m 114 ls [.int v_3]) rfl ?_
      exact hB_114 S_2 x1 x2 x3 t0 v_3 _ _ _ hw hS (lv_sub hl [1, 2, 3, 4, 0] rfl) hf
    · rw [if_pos hc] at hf
      refine lv_bipush (v := (-9 : Int32)) cx.1 cx.2.1 dX11_readContract_100 (by decide) ?_
      refine lv_goto (tgt := 114) cx.1 cx.2.1 dX11_readContract_102 (by decide) ?_
      exact hB_114 S x1 x2 x3 t0 (-9 : Int32) _ _ _ hw hS (lv_sub hl [1, 2, 3, 4, 0] rfl) hf
  have hB_84 : ∀ (S : Sg) (x1 : Int32) (x2 : Int32) (x3 : Int32) (t0 : Int32) (H : Heap) (locs : List Loc) (ls : Array Slot), gP G S H → va_S (gA G s.heap.size) s.heap H locs → lv_has ls 6 [(0, .ref (G.2.1 392)), (1, .int x1), (2, .int x2), (3, .int x3)] → B_X11_readContract_84 S x1 x2 x3 t0 = some (r, S') → W p l e (gR 2 50) s m ([.ref (G.2.1 392)] : List Value).toArray below meth c H locs 0 0 (MQ below (gQ G S' (some (.int r)) (gA G s.heap.size)) ([.ref (G.2.1 392)] : List Value).toArray s 0 0 (gA G s.heap.size)) (F0 m 84 ls [.int t0, .ref (G.2.1 392)]) := by
    intro S x1 x2 x3 t0 H locs ls hw hS hl hf
    unfold B_X11_readContract_84 at hf
    refine lv_bipush (v := (9 : Int32)) cx.1 cx.2.1 dX11_readContract_84 (by decide) ?_
    refine lv_bipush (v := (-9 : Int32)) cx.1 cx.2.1 dX11_readContract_86 (by decide) ?_
    obtain ⟨v_5, S_4, hv, hf⟩ := gbi_some hf
    refine g_V (As := [.int t0, .int (9 : Int32), .int (-9 : Int32)]) (rest := []) cx hw hS (c_X11_digit l G hM t0 (9 : Int32) (-9 : Int32) S v_5 S_4 hv) (by omega) he_c392 rfl rfl gw_284 gy_X11_digit gi_X11_digit ⟨Nat.le_of_ble_eq_true rfl, Nat.le_of_ble_eq_true rfl⟩ ⟨Nat.zero_le _, Nat.zero_le _⟩ rfl hl.1 rfl (Nat.le_of_ble_eq_true rfl) dX11_readContract_88 (fun H locs hw hS => ?_)
    refine W.eq (g2 := F0 m 91 ls [.int v_5]) rfl ?_
    exact hB_91 S_4 x1 x2 x3 v_5 _ _ _ hw hS (lv_sub hl [0, 1, 2, 3] rfl) hf
  have hB_62 : ∀ (S : Sg) (x1 : Int32) (x2 : Int32) (t0 : Int32) (H : Heap) (locs : List Loc) (ls : Array Slot), gP G S H → va_S (gA G s.heap.size) s.heap H locs → lv_has ls 6 [(0, .ref (G.2.1 392)), (1, .int x1), (2, .int x2)] → B_X11_readContract_62 S x1 x2 t0 = some (r, S') → W p l e (gR 2 50) s m ([.ref (G.2.1 392)] : List Value).toArray below meth c H locs 0 0 (MQ below (gQ G S' (some (.int r)) (gA G s.heap.size)) ([.ref (G.2.1 392)] : List Value).toArray s 0 0 (gA G s.heap.size)) (F0 m 62 ls [.int t0]) := by
    intro S x1 x2 t0 H locs ls hw hS hl hf
    unfold B_X11_readContract_62 at hf
    refine lv_istore_n (lv' := [(3, .int t0), (0, .ref (G.2.1 392)), (1, .int x1), (2, .int x2)]) cx.1 cx.2.1 dX11_readContract_62 rfl hl (by decide) rfl (fun ls hl => ?_)
    refine lv_iload_n cx.1 cx.2.1 dX11_readContract_63 rfl (lv_at hl 0 rfl) ?_
    refine lv_bipush (v := (-9 : Int32)) cx.1 cx.2.1 dX11_readContract_64 (by decide) ?_
    refine lv_icmp_ne (tgt := 74) cx.1 cx.2.1 dX11_readContract_66 (by decide) (fun hc => ?_) (fun hc => ?_)
    · rw [if_neg hc] at hf
      refine lv_aload_n cx.1 cx.2.1 dX11_readContract_74 rfl (lv_at hl 1 rfl) ?_
      refine lv_iload_n cx.1 cx.2.1 dX11_readContract_75 rfl (lv_at hl 0 rfl) ?_
      refine lv_if_ne (tgt := 83) cx.1 cx.2.1 dX11_readContract_76 (by decide) (fun hc => ?_) (fun hc => ?_)
      · rw [if_neg hc] at hf
        refine lv_iconst (v := (0 : Int32)) cx.1 cx.2.1 dX11_readContract_83 (by decide) ?_
        exact hB_84 S x1 x2 t0 (0 : Int32) _ _ _ hw hS (lv_sub hl [1, 2, 3, 0] rfl) hf
      · rw [if_pos hc] at hf
        refine lv_iconst (v := (1 : Int32)) cx.1 cx.2.1 dX11_readContract_79 (by decide) ?_
        refine lv_goto (tgt := 84) cx.1 cx.2.1 dX11_readContract_80 (by decide) ?_
        exact hB_84 S x1 x2 t0 (1 : Int32) _ _ _ hw hS (lv_sub hl [1, 2, 3, 0] rfl) hf
    · rw [if_pos hc] at hf
      refine lv_bipush (v := (-9 : Int32)) cx.1 cx.2.1 dX11_readContract_69 (by decide) ?_
      refine lv_goto (tgt := 91) cx.1 cx.2.1 dX11_readContract_71 (by decide) ?_
      exact hB_91 S x1 x2 t0 (-9 : Int32) _ _ _ hw hS (lv_sub hl [1, 2, 3, 0] rfl) hf
  have hB_41 : ∀ (S : Sg) (x1 : Int32) (t0 : Int32) (H : Heap) (locs : List Loc) (ls : Array Slot), gP G S H → va_S (gA G s.heap.size) s.heap H locs → lv_has ls 6 [(0, .ref (G.2.1 392)), (1, .int x1)] → B_X11_readContract_41 S x1 t0 = some (r, S') → W p l e (gR 2 50) s m ([.ref (G.2.1 392)] : List Value).toArray below meth c H locs 0 0 (MQ below (gQ G S' (some (.int r)) (gA G s.heap.size)) ([.ref (G.2.1 392)] : List Value).toArray s 0 0 (gA G s.heap.size)) (F0 m 41 ls [.int t0]) := by
    intro S x1 t0 H locs ls hw hS hl hf
    unfold B_X11_readContract_41 at hf
    refine lv_istore_n (lv' := [(2, .int t0), (0, .ref (G.2.1 392)), (1, .int x1)]) cx.1 cx.2.1 dX11_readContract_41 rfl hl (by decide) rfl (fun ls hl => ?_)
    refine lv_iload_n cx.1 cx.2.1 dX11_readContract_42 rfl (lv_at hl 0 rfl) ?_
    refine lv_bipush (v := (-9 : Int32)) cx.1 cx.2.1 dX11_readContract_43 (by decide) ?_
    refine lv_icmp_ne (tgt := 53) cx.1 cx.2.1 dX11_readContract_45 (by decide) (fun hc => ?_) (fun hc => ?_)
    · rw [if_neg hc] at hf
      refine lv_aload_n cx.1 cx.2.1 dX11_readContract_53 rfl (lv_at hl 1 rfl) ?_
      refine lv_iconst (v := (0 : Int32)) cx.1 cx.2.1 dX11_readContract_54 (by decide) ?_
      refine lv_bipush (v := (9 : Int32)) cx.1 cx.2.1 dX11_readContract_55 (by decide) ?_
      refine lv_bipush (v := (-9 : Int32)) cx.1 cx.2.1 dX11_readContract_57 (by decide) ?_
      obtain ⟨v_7, S_6, hv, hf⟩ := gbi_some hf
      refine g_V (As := [.int (0 : Int32), .int (9 : Int32), .int (-9 : Int32)]) (rest := []) cx hw hS (c_X11_digit l G hM (0 : Int32) (9 : Int32) (-9 : Int32) S v_7 S_6 hv) (by omega) he_c392 rfl rfl gw_284 gy_X11_digit gi_X11_digit ⟨Nat.le_of_ble_eq_true rfl, Nat.le_of_ble_eq_true rfl⟩ ⟨Nat.zero_le _, Nat.zero_le _⟩ rfl hl.1 rfl (Nat.le_of_ble_eq_true rfl) dX11_readContract_59 (fun H locs hw hS => ?_)
      refine W.eq (g2 := F0 m 62 ls [.int v_7]) rfl ?_
      exact hB_62 S_6 x1 t0 v_7 _ _ _ hw hS (lv_sub hl [1, 2, 0] rfl) hf
    · rw [if_pos hc] at hf
      refine lv_bipush (v := (-9 : Int32)) cx.1 cx.2.1 dX11_readContract_48 (by decide) ?_
      refine lv_goto (tgt := 62) cx.1 cx.2.1 dX11_readContract_50 (by decide) ?_
      exact hB_62 S x1 t0 (-9 : Int32) _ _ _ hw hS (lv_sub hl [1, 2, 0] rfl) hf
  have hl : lv_has ls 6 [(0, .ref (G.2.1 392))] := hl
  unfold f_X11_readContract at hf
  refine lv_aload_n cx.1 cx.2.1 dX11_readContract_0 rfl (lv_at hl 0 rfl) ?_
  refine lv_iconst (v := (0 : Int32)) cx.1 cx.2.1 dX11_readContract_1 (by decide) ?_
  refine lv_aload_n cx.1 cx.2.1 dX11_readContract_2 rfl (lv_at hl 0 rfl) ?_
  refine g_get (C := RX11) (T := TX11) (N := 16) (v := .ref (G.2.1 394)) cx hw inlX11 392 (by omega) he_c392 rfl 4 (by decide) gw_143 rfl rfl dX11_readContract_3 ?_
  refine lv_iconst (v := (0 : Int32)) cx.1 cx.2.1 dX11_readContract_6 (by decide) ?_
  obtain ⟨hin, hf⟩ := gck_some hf
  refine g_iald cx hw (ia_c394 hM) (vp_of_inb hin) dX11_readContract_7 ?_
  refine lv_iconst (v := (1 : Int32)) cx.1 cx.2.1 dX11_readContract_8 (by decide) ?_
  refine lv_isub cx.1 cx.2.1 dX11_readContract_9 ?_
  refine lv_bipush (v := (-9 : Int32)) cx.1 cx.2.1 dX11_readContract_10 (by decide) ?_
  obtain ⟨v_9, S_8, hv, hf⟩ := gbi_some hf
  refine g_V (As := [.int (0 : Int32), .int ((S 394 (0 : Int32).toNatClampNeg) - (1 : Int32)), .int (-9 : Int32)]) (rest := []) cx hw hS (c_X11_digit l G hM (0 : Int32) ((S 394 (0 : Int32).toNatClampNeg) - (1 : Int32)) (-9 : Int32) S v_9 S_8 hv) (by omega) he_c392 rfl rfl gw_284 gy_X11_digit gi_X11_digit ⟨Nat.le_of_ble_eq_true rfl, Nat.le_of_ble_eq_true rfl⟩ ⟨Nat.zero_le _, Nat.zero_le _⟩ rfl hl.1 rfl (Nat.le_of_ble_eq_true rfl) dX11_readContract_12 (fun H locs hw hS => ?_)
  refine W.eq (g2 := F0 m 15 ls [.int v_9]) rfl ?_
  refine lv_istore_n (lv' := [(1, .int v_9), (0, .ref (G.2.1 392))]) cx.1 cx.2.1 dX11_readContract_15 rfl hl (by decide) rfl (fun ls hl => ?_)
  refine lv_iload_n cx.1 cx.2.1 dX11_readContract_16 rfl (lv_at hl 0 rfl) ?_
  refine lv_bipush (v := (-9 : Int32)) cx.1 cx.2.1 dX11_readContract_17 (by decide) ?_
  refine lv_icmp_ne (tgt := 27) cx.1 cx.2.1 dX11_readContract_19 (by decide) (fun hc => ?_) (fun hc => ?_)
  · rw [if_neg hc] at hf
    refine lv_aload_n cx.1 cx.2.1 dX11_readContract_27 rfl (lv_at hl 1 rfl) ?_
    refine lv_iconst (v := (0 : Int32)) cx.1 cx.2.1 dX11_readContract_28 (by decide) ?_
    refine lv_aload_n cx.1 cx.2.1 dX11_readContract_29 rfl (lv_at hl 1 rfl) ?_
    refine g_get (C := RX11) (T := TX11) (N := 16) (v := .ref (G.2.1 394)) cx hw inlX11 392 (by omega) he_c392 rfl 4 (by decide) gw_143 rfl rfl dX11_readContract_30 ?_
    refine lv_iconst (v := (0 : Int32)) cx.1 cx.2.1 dX11_readContract_33 (by decide) ?_
    obtain ⟨hin, hf⟩ := gck_some hf
    refine g_iald cx hw (ia_c394 hM) (vp_of_inb hin) dX11_readContract_34 ?_
    refine lv_iconst (v := (1 : Int32)) cx.1 cx.2.1 dX11_readContract_35 (by decide) ?_
    refine lv_isub cx.1 cx.2.1 dX11_readContract_36 ?_
    refine lv_iload_n cx.1 cx.2.1 dX11_readContract_37 rfl (lv_at hl 0 rfl) ?_
    obtain ⟨v_11, S_10, hv, hf⟩ := gbi_some hf
    refine g_V (As := [.int (0 : Int32), .int ((S_8 394 (0 : Int32).toNatClampNeg) - (1 : Int32)), .int v_9]) (rest := []) cx hw hS (c_X11_digit l G hM (0 : Int32) ((S_8 394 (0 : Int32).toNatClampNeg) - (1 : Int32)) v_9 S_8 v_11 S_10 hv) (by omega) he_c392 rfl rfl gw_284 gy_X11_digit gi_X11_digit ⟨Nat.le_of_ble_eq_true rfl, Nat.le_of_ble_eq_true rfl⟩ ⟨Nat.zero_le _, Nat.zero_le _⟩ rfl hl.1 rfl (Nat.le_of_ble_eq_true rfl) dX11_readContract_38 (fun H locs hw hS => ?_)
    refine W.eq (g2 := F0 m 41 ls [.int v_11]) rfl ?_
    exact hB_41 S_10 v_9 v_11 _ _ _ hw hS (lv_sub hl [1, 0] rfl) hf
  · rw [if_pos hc] at hf
    refine lv_bipush (v := (-9 : Int32)) cx.1 cx.2.1 dX11_readContract_22 (by decide) ?_
    refine lv_goto (tgt := 41) cx.1 cx.2.1 dX11_readContract_24 (by decide) ?_
    exact hB_41 S_8 v_9 (-9 : Int32) _ _ _ hw hS (lv_sub hl [1, 0] rfl) hf
set_option maxHeartbeats 4000000 in
set_option maxRecDepth 100000 in
theorem c_X11_readAll (l : Launch) (G : gG) (hM : 402 ≤ gN G) (S : Sg) (r : Int32) (S' : Sg) (hf : f_X11_readAll S = some (r, S')) : Ct l yX11_readAll [Cond.code yX11_readAll cX11_readAll 3 (some .boolean)] (gR 3 75) G [.ref (G.2.1 392)] S (some (.int r)) S' := by
  refine Ct_of (by decide) (Nat.le_of_ble_eq_true rfl) ?_
  intro p e s m below meth c ls cx hr hlk hw hS hl
  have hN := cx.2.2.2.2.hN
  have hB_118 : ∀ (K48 : Sg → Option (Int32 × Sg)) (hK48 : ∀ (S : Sg) (H : Heap) (locs : List Loc) (ls : Array Slot), gP G S H → va_S (gA G s.heap.size) s.heap H locs → lv_has ls 3 [(0, .ref (G.2.1 392))] → K48 S = some (r, S') → W p l e (gR 3 75) s m ([.ref (G.2.1 392)] : List Value).toArray below meth c H locs 0 0 (MQ below (gQ G S' (some (.int r)) (gA G s.heap.size)) ([.ref (G.2.1 392)] : List Value).toArray s 0 0 (gA G s.heap.size)) (F0 m 48 ls [])), ∀ (S : Sg) (t0 : Int32) (H : Heap) (locs : List Loc) (ls : Array Slot), gP G S H → va_S (gA G s.heap.size) s.heap H locs → lv_has ls 3 [(0, .ref (G.2.1 392))] → B_X11_readAll_118 K48 S t0 = some (r, S') → W p l e (gR 3 75) s m ([.ref (G.2.1 392)] : List Value).toArray below meth c H locs 0 0 (MQ below (gQ G S' (some (.int r)) (gA G s.heap.size)) ([.ref (G.2.1 392)] : List Value).toArray s 0 0 (gA G s.heap.size)) (F0 m 118 ls [.int t0]) := by
    intro K48 hK48 S t0 H locs ls hw hS hl hf
    unfold B_X11_readAll_118 at hf
    refine lv_istore_n (lv' := [(2, .int t0), (0, .ref (G.2.1 392))]) cx.1 cx.2.1 dX11_readAll_118 rfl hl (by decide) rfl (fun ls hl => ?_)
    refine lv_iload_n cx.1 cx.2.1 dX11_readAll_119 rfl (lv_at hl 0 rfl) ?_
    refine lv_if_ne (tgt := 125) cx.1 cx.2.1 dX11_readAll_120 (by decide) (fun hc => ?_) (fun hc => ?_)
    · rw [if_neg hc] at hf
      refine lv_goto (tgt := 48) cx.1 cx.2.1 dX11_readAll_125 (by decide) ?_
      exact hK48 S _ _ _ hw hS (lv_sub hl [1] rfl) hf
    · rw [if_pos hc] at hf
      refine lv_iconst (v := (0 : Int32)) cx.1 cx.2.1 dX11_readAll_123 (by decide) ?_
      exact g_zreti cx hr hlk hw hS (by decide) hf dX11_readAll_124
  have hB_86 : ∀ (K48 : Sg → Option (Int32 × Sg)) (hK48 : ∀ (S : Sg) (H : Heap) (locs : List Loc) (ls : Array Slot), gP G S H → va_S (gA G s.heap.size) s.heap H locs → lv_has ls 3 [(0, .ref (G.2.1 392))] → K48 S = some (r, S') → W p l e (gR 3 75) s m ([.ref (G.2.1 392)] : List Value).toArray below meth c H locs 0 0 (MQ below (gQ G S' (some (.int r)) (gA G s.heap.size)) ([.ref (G.2.1 392)] : List Value).toArray s 0 0 (gA G s.heap.size)) (F0 m 48 ls [])), ∀ (S : Sg) (H : Heap) (locs : List Loc) (ls : Array Slot), gP G S H → va_S (gA G s.heap.size) s.heap H locs → lv_has ls 3 [(0, .ref (G.2.1 392))] → B_X11_readAll_86 K48 S = some (r, S') → W p l e (gR 3 75) s m ([.ref (G.2.1 392)] : List Value).toArray below meth c H locs 0 0 (MQ below (gQ G S' (some (.int r)) (gA G s.heap.size)) ([.ref (G.2.1 392)] : List Value).toArray s 0 0 (gA G s.heap.size)) (F0 m 86 ls []) := by
    intro K48 hK48 S H locs ls hw hS hl hf
    unfold B_X11_readAll_86 at hf
    refine lv_aload_n cx.1 cx.2.1 dX11_readAll_86 rfl (lv_at hl 0 rfl) ?_
    refine g_get (C := RX11) (T := TX11) (N := 16) (v := .ref (G.2.1 394)) cx hw inlX11 392 (by omega) he_c392 rfl 4 (by decide) gw_143 rfl rfl dX11_readAll_87 ?_
    refine lv_iconst (v := (2 : Int32)) cx.1 cx.2.1 dX11_readAll_90 (by decide) ?_
    obtain ⟨hin, hf⟩ := gck_some hf
    refine g_iald cx hw (ia_c394 hM) (vp_of_inb hin) dX11_readAll_91 ?_
    refine lv_bipush (v := (8 : Int32)) cx.1 cx.2.1 dX11_readAll_92 (by decide) ?_
    refine lv_icmp_ge (tgt := 117) cx.1 cx.2.1 dX11_readAll_94 (by decide) (fun hc => ?_) (fun hc => ?_)
    · rw [if_pos hc] at hf
      refine lv_iconst (v := (0 : Int32)) cx.1 cx.2.1 dX11_readAll_117 (by decide) ?_
      exact hB_118 K48 hK48 S (0 : Int32) _ _ _ hw hS (lv_sub hl [0] rfl) hf
    · rw [if_neg hc] at hf
      refine lv_aload_n cx.1 cx.2.1 dX11_readAll_97 rfl (lv_at hl 0 rfl) ?_
      refine lv_bipush (v := (99 : Int32)) cx.1 cx.2.1 dX11_readAll_98 (by decide) ?_
      obtain ⟨v_2, S_1, hv, hf⟩ := gbi_some hf
      refine g_V (As := [.int (99 : Int32)]) (rest := []) cx hw hS (c_X11_eat l G hM (99 : Int32) S v_2 S_1 hv) (by omega) he_c392 rfl rfl gw_280 gy_X11_eat gi_X11_eat ⟨Nat.le_of_ble_eq_true rfl, Nat.le_of_ble_eq_true rfl⟩ ⟨Nat.zero_le _, Nat.zero_le _⟩ rfl hl.1 rfl (Nat.le_of_ble_eq_true rfl) dX11_readAll_100 (fun H locs hw hS => ?_)
      refine W.eq (g2 := F0 m 103 ls [.int v_2]) rfl ?_
      refine lv_if_eq (tgt := 117) cx.1 cx.2.1 dX11_readAll_103 (by decide) (fun hc => ?_) (fun hc => ?_)
      · rw [if_pos hc] at hf
        refine lv_iconst (v := (0 : Int32)) cx.1 cx.2.1 dX11_readAll_117 (by decide) ?_
        exact hB_118 K48 hK48 S_1 (0 : Int32) _ _ _ hw hS (lv_sub hl [0] rfl) hf
      · rw [if_neg hc] at hf
        refine lv_aload_n cx.1 cx.2.1 dX11_readAll_106 rfl (lv_at hl 0 rfl) ?_
        obtain ⟨v_4, S_3, hv, hf⟩ := gbi_some hf
        refine g_V (As := []) (rest := []) cx hw hS (c_X11_readContract l G hM S_1 v_4 S_3 hv) (by omega) he_c392 rfl rfl gw_292 gy_X11_readContract gi_X11_readContract ⟨Nat.le_of_ble_eq_true rfl, Nat.le_of_ble_eq_true rfl⟩ ⟨Nat.zero_le _, Nat.zero_le _⟩ rfl hl.1 rfl (Nat.le_of_ble_eq_true rfl) dX11_readAll_107 (fun H locs hw hS => ?_)
        refine W.eq (g2 := F0 m 110 ls [.int v_4]) rfl ?_
        refine lv_if_eq (tgt := 117) cx.1 cx.2.1 dX11_readAll_110 (by decide) (fun hc => ?_) (fun hc => ?_)
        · rw [if_pos hc] at hf
          refine lv_iconst (v := (0 : Int32)) cx.1 cx.2.1 dX11_readAll_117 (by decide) ?_
          exact hB_118 K48 hK48 S_3 (0 : Int32) _ _ _ hw hS (lv_sub hl [0] rfl) hf
        · rw [if_neg hc] at hf
          refine lv_iconst (v := (1 : Int32)) cx.1 cx.2.1 dX11_readAll_113 (by decide) ?_
          refine lv_goto (tgt := 118) cx.1 cx.2.1 dX11_readAll_114 (by decide) ?_
          exact hB_118 K48 hK48 S_3 (1 : Int32) _ _ _ hw hS (lv_sub hl [0] rfl) hf
  have hL_48 : ∀ (n : Nat), ∀ (S : Sg) (H : Heap) (locs : List Loc) (ls : Array Slot), gP G S H → va_S (gA G s.heap.size) s.heap H locs → lv_has ls 3 [(0, .ref (G.2.1 392))] → L_X11_readAll_48 n S = some (r, S') → W p l e (gR 3 75) s m ([.ref (G.2.1 392)] : List Value).toArray below meth c H locs 0 0 (MQ below (gQ G S' (some (.int r)) (gA G s.heap.size)) ([.ref (G.2.1 392)] : List Value).toArray s 0 0 (gA G s.heap.size)) (F0 m 48 ls []) := by
    intro n
    induction n with
    | zero => intro S H locs ls hw hS hl hf; cases hf
    | succ n hK48 =>
      intro S H locs ls hw hS hl hf
      have hf : Lb_X11_readAll_48 (L_X11_readAll_48 n) S = some (r, S') := hf
      unfold Lb_X11_readAll_48 at hf
      refine lv_aload_n cx.1 cx.2.1 dX11_readAll_48 rfl (lv_at hl 0 rfl) ?_
      refine g_get (C := RX11) (T := TX11) (N := 16) (v := .int (S 392 3)) cx hw inlX11 392 (by omega) he_c392 rfl 3 (by decide) gw_275 rfl rfl dX11_readAll_49 ?_
      refine lv_aload_n cx.1 cx.2.1 dX11_readAll_52 rfl (lv_at hl 0 rfl) ?_
      refine g_get (C := RX11) (T := TX11) (N := 16) (v := .int (S 392 2)) cx hw inlX11 392 (by omega) he_c392 rfl 2 (by decide) gw_196 rfl rfl dX11_readAll_53 ?_
      refine lv_icmp_ge (tgt := 128) cx.1 cx.2.1 dX11_readAll_56 (by decide) (fun hc => ?_) (fun hc => ?_)
      · rw [if_pos hc] at hf
        refine lv_iconst (v := (1 : Int32)) cx.1 cx.2.1 dX11_readAll_128 (by decide) ?_
        exact g_zreti cx hr hlk hw hS (by decide) hf dX11_readAll_129
      · rw [if_neg hc] at hf
        refine lv_aload_n cx.1 cx.2.1 dX11_readAll_59 rfl (lv_at hl 0 rfl) ?_
        refine g_get (C := RX11) (T := TX11) (N := 16) (v := .ref (G.2.1 394)) cx hw inlX11 392 (by omega) he_c392 rfl 4 (by decide) gw_143 rfl rfl dX11_readAll_60 ?_
        refine lv_iconst (v := (1 : Int32)) cx.1 cx.2.1 dX11_readAll_63 (by decide) ?_
        obtain ⟨hin, hf⟩ := gck_some hf
        refine g_iald cx hw (ia_c394 hM) (vp_of_inb hin) dX11_readAll_64 ?_
        refine lv_bipush (v := (16 : Int32)) cx.1 cx.2.1 dX11_readAll_65 (by decide) ?_
        refine lv_icmp_ge (tgt := 86) cx.1 cx.2.1 dX11_readAll_67 (by decide) (fun hc => ?_) (fun hc => ?_)
        · rw [if_pos hc] at hf
          exact hB_86 (L_X11_readAll_48 n) hK48 S _ _ _ hw hS (lv_sub hl [0] rfl) hf
        · rw [if_neg hc] at hf
          refine lv_aload_n cx.1 cx.2.1 dX11_readAll_70 rfl (lv_at hl 0 rfl) ?_
          refine lv_bipush (v := (116 : Int32)) cx.1 cx.2.1 dX11_readAll_71 (by decide) ?_
          obtain ⟨v_6, S_5, hv, hf⟩ := gbi_some hf
          refine g_V (As := [.int (116 : Int32)]) (rest := []) cx hw hS (c_X11_eat l G hM (116 : Int32) S v_6 S_5 hv) (by omega) he_c392 rfl rfl gw_280 gy_X11_eat gi_X11_eat ⟨Nat.le_of_ble_eq_true rfl, Nat.le_of_ble_eq_true rfl⟩ ⟨Nat.zero_le _, Nat.zero_le _⟩ rfl hl.1 rfl (Nat.le_of_ble_eq_true rfl) dX11_readAll_73 (fun H locs hw hS => ?_)
          refine W.eq (g2 := F0 m 76 ls [.int v_6]) rfl ?_
          refine lv_if_eq (tgt := 86) cx.1 cx.2.1 dX11_readAll_76 (by decide) (fun hc => ?_) (fun hc => ?_)
          · rw [if_pos hc] at hf
            exact hB_86 (L_X11_readAll_48 n) hK48 S_5 _ _ _ hw hS (lv_sub hl [0] rfl) hf
          · rw [if_neg hc] at hf
            refine lv_aload_n cx.1 cx.2.1 dX11_readAll_79 rfl (lv_at hl 0 rfl) ?_
            obtain ⟨v_8, S_7, hv, hf⟩ := gbi_some hf
            refine g_V (As := []) (rest := []) cx hw hS (c_X11_readTrack l G hM S_5 v_8 S_7 hv) (by omega) he_c392 rfl rfl gw_288 gy_X11_readTrack gi_X11_readTrack ⟨Nat.le_of_ble_eq_true rfl, Nat.le_of_ble_eq_true rfl⟩ ⟨Nat.zero_le _, Nat.zero_le _⟩ rfl hl.1 rfl (Nat.le_of_ble_eq_true rfl) dX11_readAll_80 (fun H locs hw hS => ?_)
            refine W.eq (g2 := F0 m 83 ls [.int v_8]) rfl ?_
            refine lv_goto (tgt := 118) cx.1 cx.2.1 dX11_readAll_83 (by decide) ?_
            exact hB_118 (L_X11_readAll_48 n) hK48 S_7 v_8 _ _ _ hw hS (lv_sub hl [0] rfl) hf
  have hl : lv_has ls 3 [(0, .ref (G.2.1 392))] := hl
  unfold f_X11_readAll at hf
  refine lv_aload_n cx.1 cx.2.1 dX11_readAll_0 rfl (lv_at hl 0 rfl) ?_
  refine lv_iconst (v := (0 : Int32)) cx.1 cx.2.1 dX11_readAll_1 (by decide) ?_
  obtain ⟨S_9, eS_9, hf⟩ := gst_ex hf
  refine g_put (C := RX11) (T := TX11) (N := 16) cx hw hS inlX11 tyX11 tyX11_ok nmX11 392 (by omega) he_c392 rfl 3 (by decide) gw_275 rfl rfl (by decide +kernel) (Nat.le_of_ble_eq_true rfl) (by rw [u2_s, he_c392]; rfl) dX11_readAll_2 (fun H locs hw hS => ?_)
  rw [eS_9] at hw
  refine lv_aload_n cx.1 cx.2.1 dX11_readAll_5 rfl (lv_at hl 0 rfl) ?_
  refine g_get (C := RX11) (T := TX11) (N := 16) (v := .ref (G.2.1 394)) cx hw inlX11 392 (by omega) he_c392 rfl 4 (by decide) gw_143 rfl rfl dX11_readAll_6 ?_
  obtain ⟨S_10, hv, hf⟩ := gbv_some hf
  refine g_S (As := [.ref (G.2.1 394)]) (rest := []) cx hw hS (c_X11_begin l G hM (ia_c394 hM) S_9 S_10 hv) gw_152 gy_X11_begin gi_X11_begin ⟨Nat.le_of_ble_eq_true rfl, Nat.le_of_ble_eq_true rfl⟩ ⟨Nat.zero_le _, Nat.zero_le _⟩ rfl hl.1 rfl (Nat.le_of_ble_eq_true rfl) dX11_readAll_9 (fun H locs hw hS => ?_)
  refine W.eq (g2 := F0 m 12 ls []) rfl ?_
  refine lv_aload_n cx.1 cx.2.1 dX11_readAll_12 rfl (lv_at hl 0 rfl) ?_
  refine lv_bipush (v := (82 : Int32)) cx.1 cx.2.1 dX11_readAll_13 (by decide) ?_
  obtain ⟨v_12, S_11, hv, hf⟩ := gbi_some hf
  refine g_V (As := [.int (82 : Int32)]) (rest := []) cx hw hS (c_X11_eat l G hM (82 : Int32) S_10 v_12 S_11 hv) (by omega) he_c392 rfl rfl gw_280 gy_X11_eat gi_X11_eat ⟨Nat.le_of_ble_eq_true rfl, Nat.le_of_ble_eq_true rfl⟩ ⟨Nat.zero_le _, Nat.zero_le _⟩ rfl hl.1 rfl (Nat.le_of_ble_eq_true rfl) dX11_readAll_15 (fun H locs hw hS => ?_)
  refine W.eq (g2 := F0 m 18 ls [.int v_12]) rfl ?_
  refine lv_if_ne (tgt := 23) cx.1 cx.2.1 dX11_readAll_18 (by decide) (fun hc => ?_) (fun hc => ?_)
  · rw [if_neg hc] at hf
    refine lv_aload_n cx.1 cx.2.1 dX11_readAll_23 rfl (lv_at hl 0 rfl) ?_
    refine lv_iconst (v := (2 : Int32)) cx.1 cx.2.1 dX11_readAll_24 (by decide) ?_
    refine lv_bipush (v := (9 : Int32)) cx.1 cx.2.1 dX11_readAll_25 (by decide) ?_
    refine lv_bipush (v := (-9 : Int32)) cx.1 cx.2.1 dX11_readAll_27 (by decide) ?_
    obtain ⟨v_14, S_13, hv, hf⟩ := gbi_some hf
    refine g_V (As := [.int (2 : Int32), .int (9 : Int32), .int (-9 : Int32)]) (rest := []) cx hw hS (c_X11_digit l G hM (2 : Int32) (9 : Int32) (-9 : Int32) S_11 v_14 S_13 hv) (by omega) he_c392 rfl rfl gw_284 gy_X11_digit gi_X11_digit ⟨Nat.le_of_ble_eq_true rfl, Nat.le_of_ble_eq_true rfl⟩ ⟨Nat.zero_le _, Nat.zero_le _⟩ rfl hl.1 rfl (Nat.le_of_ble_eq_true rfl) dX11_readAll_29 (fun H locs hw hS => ?_)
    refine W.eq (g2 := F0 m 32 ls [.int v_14]) rfl ?_
    refine lv_istore_n (lv' := [(1, .int v_14), (0, .ref (G.2.1 392))]) cx.1 cx.2.1 dX11_readAll_32 rfl hl (by decide) rfl (fun ls hl => ?_)
    refine lv_iload_n cx.1 cx.2.1 dX11_readAll_33 rfl (lv_at hl 0 rfl) ?_
    refine lv_bipush (v := (-9 : Int32)) cx.1 cx.2.1 dX11_readAll_34 (by decide) ?_
    refine lv_icmp_ne (tgt := 41) cx.1 cx.2.1 dX11_readAll_36 (by decide) (fun hc => ?_) (fun hc => ?_)
    · rw [if_neg hc] at hf
      refine lv_aload_n cx.1 cx.2.1 dX11_readAll_41 rfl (lv_at hl 1 rfl) ?_
      refine g_get (C := RX11) (T := TX11) (N := 16) (v := .ref (G.2.1 394)) cx hw inlX11 392 (by omega) he_c392 rfl 4 (by decide) gw_143 rfl rfl dX11_readAll_42 ?_
      refine lv_iconst (v := (0 : Int32)) cx.1 cx.2.1 dX11_readAll_45 (by decide) ?_
      refine lv_iload_n cx.1 cx.2.1 dX11_readAll_46 rfl (lv_at hl 0 rfl) ?_
      obtain ⟨hin, hf⟩ := gck_some hf
      obtain ⟨S_15, eS_15, hf⟩ := gst_ex hf
      refine g_iast cx hw hS (ia_c394 hM) (vp_of_inb hin) dX11_readAll_47 (fun H locs hw hS => ?_)
      rw [eS_15] at hw
      exact hL_48 gFu S_15 _ _ _ hw hS (lv_sub hl [1] rfl) hf
    · rw [if_pos hc] at hf
      refine lv_iconst (v := (0 : Int32)) cx.1 cx.2.1 dX11_readAll_39 (by decide) ?_
      exact g_zreti cx hr hlk hw hS (by decide) hf dX11_readAll_40
  · rw [if_pos hc] at hf
    refine lv_iconst (v := (0 : Int32)) cx.1 cx.2.1 dX11_readAll_21 (by decide) ?_
    exact g_zreti cx hr hlk hw hS (by decide) hf dX11_readAll_22
