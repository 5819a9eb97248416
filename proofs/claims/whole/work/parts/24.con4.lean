set_option maxHeartbeats 4000000 in
set_option maxRecDepth 100000 in
theorem c_X11_begin (l : Launch) (G : gG) {k0 : Nat} (hM : 402 ≤ gN G) (hk0 : IA G k0 175) (S : Sg) (S' : Sg) (hf : f_X11_begin k0 S = some S') : Ct l yX11_begin [Cond.code yX11_begin cX11_begin 2 none] (gR 1 20) G [.ref (G.2.1 k0)] S none S' := by
  refine Ct_of (by decide) (Nat.le_of_ble_eq_true rfl) ?_
  intro p e s m below meth c ls cx hr hlk hw hS hl
  have hN := cx.2.2.2.2.hN
  have hL_31 : ∀ (n : Nat), ∀ (S : Sg) (x1 : Int32) (H : Heap) (locs : List Loc) (ls : Array Slot), gP G S H → va_S (gA G s.heap.size) s.heap H locs → lv_has ls 2 [(0, .ref (G.2.1 k0)), (1, .int x1)] → L_X11_begin_31 k0 n S x1 = some S' → W p l e (gR 1 20) s m ([.ref (G.2.1 k0)] : List Value).toArray below meth c H locs 0 0 (MQ below (gQ G S' none (gA G s.heap.size)) ([.ref (G.2.1 k0)] : List Value).toArray s 0 0 (gA G s.heap.size)) (F0 m 31 ls []) := by
    intro n
    induction n with
    | zero => intro S x1 H locs ls hw hS hl hf; cases hf
    | succ n hK31 =>
      intro S x1 H locs ls hw hS hl hf
      have hf : Lb_X11_begin_31 k0 (L_X11_begin_31 k0 n) S x1 = some S' := hf
      unfold Lb_X11_begin_31 at hf
      refine lv_iload_n cx.1 cx.2.1 dX11_begin_31 rfl (lv_at hl 1 rfl) ?_
      refine lv_iconst (v := (4 : Int32)) cx.1 cx.2.1 dX11_begin_32 (by decide) ?_
      refine lv_icmp_ge (tgt := 59) cx.1 cx.2.1 dX11_begin_33 (by decide) (fun hc => ?_) (fun hc => ?_)
      · rw [if_pos hc] at hf
        exact g_vreti cx hr hlk hw hS hf dX11_begin_59
      · rw [if_neg hc] at hf
        refine lv_aload_n cx.1 cx.2.1 dX11_begin_36 rfl (lv_at hl 0 rfl) ?_
        refine lv_iload_n cx.1 cx.2.1 dX11_begin_37 rfl (lv_at hl 1 rfl) ?_
        obtain ⟨v_2, S_1, hv, hf⟩ := gbi_some hf
        refine g_S (As := [.int x1]) (rest := [.ref (G.2.1 k0)]) cx hw hS (c_X11_companyAt l G hM x1 S v_2 S_1 hv) gw_155 gy_X11_companyAt gi_X11_companyAt ⟨Nat.le_of_ble_eq_true rfl, Nat.le_of_ble_eq_true rfl⟩ ⟨Nat.zero_le _, Nat.zero_le _⟩ rfl hl.1 rfl (Nat.le_of_ble_eq_true rfl) dX11_begin_38 (fun H locs hw hS => ?_)
        refine W.eq (g2 := F0 m 41 ls [.int v_2, .ref (G.2.1 k0)]) rfl ?_
        refine lv_bipush (v := (100 : Int32)) cx.1 cx.2.1 dX11_begin_41 (by decide) ?_
        obtain ⟨hin, hf⟩ := gck_some hf
        obtain ⟨S_3, eS_3, hf⟩ := gst_ex hf
        refine g_iast cx hw hS hk0 (vp_of_inb hin) dX11_begin_43 (fun H locs hw hS => ?_)
        rw [eS_3] at hw
        refine lv_aload_n cx.1 cx.2.1 dX11_begin_44 rfl (lv_at hl 0 rfl) ?_
        refine lv_iload_n cx.1 cx.2.1 dX11_begin_45 rfl (lv_at hl 1 rfl) ?_
        obtain ⟨v_5, S_4, hv, hf⟩ := gbi_some hf
        refine g_S (As := [.int x1]) (rest := [.ref (G.2.1 k0)]) cx hw hS (c_X11_companyAt l G hM x1 S_3 v_5 S_4 hv) gw_155 gy_X11_companyAt gi_X11_companyAt ⟨Nat.le_of_ble_eq_true rfl, Nat.le_of_ble_eq_true rfl⟩ ⟨Nat.zero_le _, Nat.zero_le _⟩ rfl hl.1 rfl (Nat.le_of_ble_eq_true rfl) dX11_begin_46 (fun H locs hw hS => ?_)
        refine W.eq (g2 := F0 m 49 ls [.int v_5, .ref (G.2.1 k0)]) rfl ?_
        refine lv_iconst (v := (1 : Int32)) cx.1 cx.2.1 dX11_begin_49 (by decide) ?_
        refine lv_iadd cx.1 cx.2.1 dX11_begin_50 ?_
        refine lv_iconst (v := (1 : Int32)) cx.1 cx.2.1 dX11_begin_51 (by decide) ?_
        obtain ⟨hin, hf⟩ := gck_some hf
        obtain ⟨S_6, eS_6, hf⟩ := gst_ex hf
        refine g_iast cx hw hS hk0 (vp_of_inb hin) dX11_begin_52 (fun H locs hw hS => ?_)
        rw [eS_6] at hw
        obtain ⟨x1_7, ex1_7, hf⟩ := gvi_ex hf
        refine lv_iinc (v := x1_7) (lv' := [(1, .int x1_7), (0, .ref (G.2.1 k0))]) cx.1 cx.2.1 dX11_begin_53 hl (k := 1) rfl (by rw [← ex1_7]; rfl) (by decide) rfl (fun ls hl => ?_)
        refine lv_goto (tgt := 31) cx.1 cx.2.1 dX11_begin_56 (by decide) ?_
        exact hK31 S_6 x1_7 _ _ _ hw hS (lv_sub hl [1, 0] rfl) hf
  have hL_2 : ∀ (n : Nat), ∀ (S : Sg) (x1 : Int32) (H : Heap) (locs : List Loc) (ls : Array Slot), gP G S H → va_S (gA G s.heap.size) s.heap H locs → lv_has ls 2 [(0, .ref (G.2.1 k0)), (1, .int x1)] → L_X11_begin_2 k0 n S x1 = some S' → W p l e (gR 1 20) s m ([.ref (G.2.1 k0)] : List Value).toArray below meth c H locs 0 0 (MQ below (gQ G S' none (gA G s.heap.size)) ([.ref (G.2.1 k0)] : List Value).toArray s 0 0 (gA G s.heap.size)) (F0 m 2 ls []) := by
    intro n
    induction n with
    | zero => intro S x1 H locs ls hw hS hl hf; cases hf
    | succ n hK2 =>
      intro S x1 H locs ls hw hS hl hf
      have hf : Lb_X11_begin_2 k0 (L_X11_begin_2 k0 n) S x1 = some S' := hf
      unfold Lb_X11_begin_2 at hf
      refine lv_iload_n cx.1 cx.2.1 dX11_begin_2 rfl (lv_at hl 1 rfl) ?_
      refine lv_sipush (v := (175 : Int32)) cx.1 cx.2.1 dX11_begin_3 (by decide) ?_
      refine lv_icmp_ge (tgt := 19) cx.1 cx.2.1 dX11_begin_6 (by decide) (fun hc => ?_) (fun hc => ?_)
      · rw [if_pos hc] at hf
        refine lv_aload_n cx.1 cx.2.1 dX11_begin_19 rfl (lv_at hl 0 rfl) ?_
        refine lv_iconst (v := (3 : Int32)) cx.1 cx.2.1 dX11_begin_20 (by decide) ?_
        refine lv_iconst (v := (1 : Int32)) cx.1 cx.2.1 dX11_begin_21 (by decide) ?_
        obtain ⟨hin, hf⟩ := gck_some hf
        obtain ⟨S_8, eS_8, hf⟩ := gst_ex hf
        refine g_iast cx hw hS hk0 (vp_of_inb hin) dX11_begin_22 (fun H locs hw hS => ?_)
        rw [eS_8] at hw
        refine lv_aload_n cx.1 cx.2.1 dX11_begin_23 rfl (lv_at hl 0 rfl) ?_
        refine lv_iconst (v := (5 : Int32)) cx.1 cx.2.1 dX11_begin_24 (by decide) ?_
        refine lv_sipush (v := (-400 : Int32)) cx.1 cx.2.1 dX11_begin_25 (by decide) ?_
        obtain ⟨hin, hf⟩ := gck_some hf
        obtain ⟨S_9, eS_9, hf⟩ := gst_ex hf
        refine g_iast cx hw hS hk0 (vp_of_inb hin) dX11_begin_28 (fun H locs hw hS => ?_)
        rw [eS_9] at hw
        refine lv_iconst (v := (0 : Int32)) cx.1 cx.2.1 dX11_begin_29 (by decide) ?_
        refine lv_istore_n (lv' := [(1, .int (0 : Int32)), (0, .ref (G.2.1 k0))]) cx.1 cx.2.1 dX11_begin_30 rfl hl (by decide) rfl (fun ls hl => ?_)
        exact hL_31 gFu S_9 (0 : Int32) _ _ _ hw hS (lv_sub hl [1, 0] rfl) hf
      · rw [if_neg hc] at hf
        refine lv_aload_n cx.1 cx.2.1 dX11_begin_9 rfl (lv_at hl 0 rfl) ?_
        refine lv_iload_n cx.1 cx.2.1 dX11_begin_10 rfl (lv_at hl 1 rfl) ?_
        refine lv_iconst (v := (0 : Int32)) cx.1 cx.2.1 dX11_begin_11 (by decide) ?_
        obtain ⟨hin, hf⟩ := gck_some hf
        obtain ⟨S_10, eS_10, hf⟩ := gst_ex hf
        refine g_iast cx hw hS hk0 (vp_of_inb hin) dX11_begin_12 (fun H locs hw hS => ?_)
        rw [eS_10] at hw
        obtain ⟨x1_11, ex1_11, hf⟩ := gvi_ex hf
        refine lv_iinc (v := x1_11) (lv' := [(1, .int x1_11), (0, .ref (G.2.1 k0))]) cx.1 cx.2.1 dX11_begin_13 hl (k := 1) rfl (by rw [← ex1_11]; rfl) (by decide) rfl (fun ls hl => ?_)
        refine lv_goto (tgt := 2) cx.1 cx.2.1 dX11_begin_16 (by decide) ?_
        exact hK2 S_10 x1_11 _ _ _ hw hS (lv_sub hl [1, 0] rfl) hf
  have hl : lv_has ls 2 [(0, .ref (G.2.1 k0))] := hl
  unfold f_X11_begin at hf
  refine lv_iconst (v := (0 : Int32)) cx.1 cx.2.1 dX11_begin_0 (by decide) ?_
  refine lv_istore_n (lv' := [(1, .int (0 : Int32)), (0, .ref (G.2.1 k0))]) cx.1 cx.2.1 dX11_begin_1 rfl hl (by decide) rfl (fun ls hl => ?_)
  exact hL_2 gFu S (0 : Int32) _ _ _ hw hS (lv_sub hl [1, 0] rfl) hf
set_option maxHeartbeats 4000000 in
set_option maxRecDepth 100000 in
theorem c_X11_costOf (l : Launch) (G : gG) {k0 : Nat} (hM : 402 ≤ gN G) (hk0 : IA G k0 175) (a1 : Int32) (a2 : Int32) (S : Sg) (r : Int32) (S' : Sg) (hf : f_X11_costOf k0 a1 a2 S = some (r, S')) : Ct l yX11_costOf [Cond.code yX11_costOf cX11_costOf 5 (some .int)] (gR 1 20) G [.ref (G.2.1 k0), .int a1, .int a2] S (some (.int r)) S' := by
  refine Ct_of (by decide) (Nat.le_of_ble_eq_true rfl) ?_
  intro p e s m below meth c ls cx hr hlk hw hS hl
  have hN := cx.2.2.2.2.hN
  have hB_36 : ∀ (S : Sg) (x2 : Int32) (t0 : Int32) (H : Heap) (locs : List Loc) (ls : Array Slot), gP G S H → va_S (gA G s.heap.size) s.heap H locs → lv_has ls 5 [(0, .ref (G.2.1 k0)), (2, .int x2)] → B_X11_costOf_36 k0 S x2 t0 = some (r, S') → W p l e (gR 1 20) s m ([.ref (G.2.1 k0), .int a1, .int a2] : List Value).toArray below meth c H locs 0 0 (MQ below (gQ G S' (some (.int r)) (gA G s.heap.size)) ([.ref (G.2.1 k0), .int a1, .int a2] : List Value).toArray s 0 0 (gA G s.heap.size)) (F0 m 36 ls [.int t0]) := by
    intro S x2 t0 H locs ls hw hS hl hf
    unfold B_X11_costOf_36 at hf
    refine lv_istore (lv' := [(4, .int t0), (0, .ref (G.2.1 k0)), (2, .int x2)]) cx.1 cx.2.1 dX11_costOf_36 hl (by decide) rfl (fun ls hl => ?_)
    refine lv_iload cx.1 cx.2.1 dX11_costOf_38 (lv_at hl 0 rfl) ?_
    refine lv_aload_n cx.1 cx.2.1 dX11_costOf_40 rfl (lv_at hl 1 rfl) ?_
    refine lv_iload_n cx.1 cx.2.1 dX11_costOf_41 rfl (lv_at hl 2 rfl) ?_
    obtain ⟨v_2, S_1, hv, hf⟩ := gbi_some hf
    refine g_S (As := [.int x2]) (rest := [.ref (G.2.1 k0), .int t0]) cx hw hS (c_X11_trackAt l G hM x2 S v_2 S_1 hv) gw_161 gy_X11_trackAt gi_X11_trackAt ⟨Nat.le_of_ble_eq_true rfl, Nat.le_of_ble_eq_true rfl⟩ ⟨Nat.zero_le _, Nat.zero_le _⟩ rfl hl.1 rfl (Nat.le_of_ble_eq_true rfl) dX11_costOf_42 (fun H locs hw hS => ?_)
    refine W.eq (g2 := F0 m 45 ls [.int v_2, .ref (G.2.1 k0), .int t0]) rfl ?_
    refine lv_iconst (v := (2 : Int32)) cx.1 cx.2.1 dX11_costOf_45 (by decide) ?_
    refine lv_iadd cx.1 cx.2.1 dX11_costOf_46 ?_
    obtain ⟨hin, hf⟩ := gck_some hf
    refine g_iald cx hw hk0 (vp_of_inb hin) dX11_costOf_47 ?_
    refine lv_imul cx.1 cx.2.1 dX11_costOf_48 ?_
    exact g_ireti cx hr hlk hw hS hf dX11_costOf_49
  have hl : lv_has ls 5 [(0, .ref (G.2.1 k0)), (1, .int a1), (2, .int a2)] := hl
  unfold f_X11_costOf at hf
  refine lv_aload_n cx.1 cx.2.1 dX11_costOf_0 rfl (lv_at hl 0 rfl) ?_
  refine lv_iload_n cx.1 cx.2.1 dX11_costOf_1 rfl (lv_at hl 2 rfl) ?_
  obtain ⟨v_4, S_3, hv, hf⟩ := gbi_some hf
  refine g_S (As := [.int a2]) (rest := [.ref (G.2.1 k0)]) cx hw hS (c_X11_trackAt l G hM a2 S v_4 S_3 hv) gw_161 gy_X11_trackAt gi_X11_trackAt ⟨Nat.le_of_ble_eq_true rfl, Nat.le_of_ble_eq_true rfl⟩ ⟨Nat.zero_le _, Nat.zero_le _⟩ rfl hl.1 rfl (Nat.le_of_ble_eq_true rfl) dX11_costOf_2 (fun H locs hw hS => ?_)
  refine W.eq (g2 := F0 m 5 ls [.int v_4, .ref (G.2.1 k0)]) rfl ?_
  refine lv_iconst (v := (3 : Int32)) cx.1 cx.2.1 dX11_costOf_5 (by decide) ?_
  refine lv_iadd cx.1 cx.2.1 dX11_costOf_6 ?_
  obtain ⟨hin, hf⟩ := gck_some hf
  refine g_iald cx hw hk0 (vp_of_inb hin) dX11_costOf_7 ?_
  obtain ⟨x3_5, ex3_5, hf⟩ := gvi_ex hf
  refine W.eq (g2 := F0 m 8 ls [.int x3_5]) (by rw [← ex3_5]) ?_
  refine lv_istore_n (lv' := [(3, .int x3_5), (0, .ref (G.2.1 k0)), (1, .int a1), (2, .int a2)]) cx.1 cx.2.1 dX11_costOf_8 rfl hl (by decide) rfl (fun ls hl => ?_)
  refine lv_iload_n cx.1 cx.2.1 dX11_costOf_9 rfl (lv_at hl 0 rfl) ?_
  refine lv_iload_n cx.1 cx.2.1 dX11_costOf_10 rfl (lv_at hl 2 rfl) ?_
  refine lv_icmp_ne (tgt := 18) cx.1 cx.2.1 dX11_costOf_11 (by decide) (fun hc => ?_) (fun hc => ?_)
  · rw [if_neg hc] at hf
    refine lv_iload_n cx.1 cx.2.1 dX11_costOf_18 rfl (lv_at hl 0 rfl) ?_
    refine lv_bipush (v := (-9 : Int32)) cx.1 cx.2.1 dX11_costOf_19 (by decide) ?_
    refine lv_icmp_ne (tgt := 28) cx.1 cx.2.1 dX11_costOf_21 (by decide) (fun hc => ?_) (fun hc => ?_)
    · rw [if_neg hc] at hf
      refine lv_aload_n cx.1 cx.2.1 dX11_costOf_28 rfl (lv_at hl 1 rfl) ?_
      refine lv_iload_n cx.1 cx.2.1 dX11_costOf_29 rfl (lv_at hl 0 rfl) ?_
      obtain ⟨v_7, S_6, hv, hf⟩ := gbi_some hf
      refine g_S (As := [.int x3_5]) (rest := [.ref (G.2.1 k0)]) cx hw hS (c_X11_companyAt l G hM x3_5 S_3 v_7 S_6 hv) gw_155 gy_X11_companyAt gi_X11_companyAt ⟨Nat.le_of_ble_eq_true rfl, Nat.le_of_ble_eq_true rfl⟩ ⟨Nat.zero_le _, Nat.zero_le _⟩ rfl hl.1 rfl (Nat.le_of_ble_eq_true rfl) dX11_costOf_30 (fun H locs hw hS => ?_)
      refine W.eq (g2 := F0 m 33 ls [.int v_7, .ref (G.2.1 k0)]) rfl ?_
      refine lv_iconst (v := (1 : Int32)) cx.1 cx.2.1 dX11_costOf_33 (by decide) ?_
      refine lv_iadd cx.1 cx.2.1 dX11_costOf_34 ?_
      obtain ⟨hin, hf⟩ := gck_some hf
      refine g_iald cx hw hk0 (vp_of_inb hin) dX11_costOf_35 ?_
      exact hB_36 S_6 a2 (S_6 k0 (v_7 + (1 : Int32)).toNatClampNeg) _ _ _ hw hS (lv_sub hl [1, 3] rfl) hf
    · rw [if_pos hc] at hf
      refine lv_iconst (v := (1 : Int32)) cx.1 cx.2.1 dX11_costOf_24 (by decide) ?_
      refine lv_goto (tgt := 36) cx.1 cx.2.1 dX11_costOf_25 (by decide) ?_
      exact hB_36 S_3 a2 (1 : Int32) _ _ _ hw hS (lv_sub hl [1, 3] rfl) hf
  · rw [if_pos hc] at hf
    refine lv_iconst (v := (0 : Int32)) cx.1 cx.2.1 dX11_costOf_14 (by decide) ?_
    refine lv_goto (tgt := 36) cx.1 cx.2.1 dX11_costOf_15 (by decide) ?_
    exact hB_36 S_3 a2 (0 : Int32) _ _ _ hw hS (lv_sub hl [1, 3] rfl) hf
set_option maxHeartbeats 4000000 in
set_option maxRecDepth 100000 in
theorem c_X11_goneBy (l : Launch) (G : gG) {k1 : Nat} (hM : 402 ≤ gN G) (hk1 : IA G k1 175) (a2 : Int32) (a3 : Int32) (a4 : Int32) (a5 : Int32) (S : Sg) (r : Int32) (S' : Sg) (hf : f_X11_goneBy k1 a2 a3 a4 a5 S = some (r, S')) : Ct l yX11_goneBy [Cond.code yX11_goneBy cX11_goneBy 8 (some .int)] (gR 2 44) G [.ref (G.2.1 392), .ref (G.2.1 k1), .int a2, .int a3, .int a4, .int a5] S (some (.int r)) S' := by
  refine Ct_of (by decide) (Nat.le_of_ble_eq_true rfl) ?_
  intro p e s m below meth c ls cx hr hlk hw hS hl
  have hN := cx.2.2.2.2.hN
  have hl : lv_has ls 8 [(0, .ref (G.2.1 392)), (1, .ref (G.2.1 k1)), (2, .int a2), (3, .int a3), (4, .int a4), (5, .int a5)] := hl
  unfold f_X11_goneBy at hf
  refine lv_aload_n cx.1 cx.2.1 dX11_goneBy_0 rfl (lv_at hl 1 rfl) ?_
  refine lv_iload_n cx.1 cx.2.1 dX11_goneBy_1 rfl (lv_at hl 3 rfl) ?_
  refine lv_iload cx.1 cx.2.1 dX11_goneBy_2 (lv_at hl 4 rfl) ?_
  obtain ⟨v_2, S_1, hv, hf⟩ := gbi_some hf
  refine g_S (As := [.ref (G.2.1 k1), .int a3, .int a4]) (rest := []) cx hw hS (c_X11_across l G hM hk1 a3 a4 S v_2 S_1 hv) gw_811 gy_X11_across gi_X11_across ⟨Nat.le_of_ble_eq_true rfl, Nat.le_of_ble_eq_true rfl⟩ ⟨Nat.zero_le _, Nat.zero_le _⟩ rfl hl.1 rfl (Nat.le_of_ble_eq_true rfl) dX11_goneBy_4 (fun H locs hw hS => ?_)
  refine W.eq (g2 := F0 m 7 ls [.int v_2]) rfl ?_
  refine lv_istore (lv' := [(6, .int v_2), (0, .ref (G.2.1 392)), (1, .ref (G.2.1 k1)), (2, .int a2), (3, .int a3), (4, .int a4), (5, .int a5)]) cx.1 cx.2.1 dX11_goneBy_7 hl (by decide) rfl (fun ls hl => ?_)
  refine lv_iload cx.1 cx.2.1 dX11_goneBy_9 (lv_at hl 6 rfl) ?_
  refine lv_aload_n cx.1 cx.2.1 dX11_goneBy_11 rfl (lv_at hl 2 rfl) ?_
  refine lv_iload_n cx.1 cx.2.1 dX11_goneBy_12 rfl (lv_at hl 4 rfl) ?_
  obtain ⟨v_4, S_3, hv, hf⟩ := gbi_some hf
  refine g_S (As := [.int a3]) (rest := [.ref (G.2.1 k1), .int a5]) cx hw hS (c_X11_trackAt l G hM a3 S_1 v_4 S_3 hv) gw_161 gy_X11_trackAt gi_X11_trackAt ⟨Nat.le_of_ble_eq_true rfl, Nat.le_of_ble_eq_true rfl⟩ ⟨Nat.zero_le _, Nat.zero_le _⟩ rfl hl.1 rfl (Nat.le_of_ble_eq_true rfl) dX11_goneBy_13 (fun H locs hw hS => ?_)
  refine W.eq (g2 := F0 m 16 ls [.int v_4, .ref (G.2.1 k1), .int a5]) rfl ?_
  refine lv_iconst (v := (2 : Int32)) cx.1 cx.2.1 dX11_goneBy_16 (by decide) ?_
  refine lv_iadd cx.1 cx.2.1 dX11_goneBy_17 ?_
  obtain ⟨hin, hf⟩ := gck_some hf
  refine g_iald cx hw hk1 (vp_of_inb hin) dX11_goneBy_18 ?_
  refine lv_isub cx.1 cx.2.1 dX11_goneBy_19 ?_
  obtain ⟨x7_5, ex7_5, hf⟩ := gvi_ex hf
  refine W.eq (g2 := F0 m 20 ls [.int x7_5]) (by rw [← ex7_5]) ?_
  refine lv_istore (lv' := [(7, .int x7_5), (6, .int v_2), (0, .ref (G.2.1 392)), (1, .ref (G.2.1 k1)), (2, .int a2), (3, .int a3), (4, .int a4), (5, .int a5)]) cx.1 cx.2.1 dX11_goneBy_20 hl (by decide) rfl (fun ls hl => ?_)
  refine lv_iload cx.1 cx.2.1 dX11_goneBy_22 (lv_at hl 1 rfl) ?_
  refine lv_bipush (v := (-9 : Int32)) cx.1 cx.2.1 dX11_goneBy_24 (by decide) ?_
  refine lv_icmp_eq (tgt := 34) cx.1 cx.2.1 dX11_goneBy_26 (by decide) (fun hc => ?_) (fun hc => ?_)
  · rw [if_pos hc] at hf
    refine lv_ldc cx.1 cx.2.1 cx.2.2.2.1 (cx.2.2.2.2.ts _ gw_799) dX11_goneBy_34 ?_
    refine lv_goto (tgt := 59) cx.1 cx.2.1 dX11_goneBy_36 (by decide) ?_
    exact g_ireti cx hr hlk hw hS hf dX11_goneBy_59
  · rw [if_neg hc] at hf
    refine lv_iload cx.1 cx.2.1 dX11_goneBy_29 (lv_at hl 0 rfl) ?_
    refine lv_if_ge (tgt := 39) cx.1 cx.2.1 dX11_goneBy_31 (by decide) (fun hc => ?_) (fun hc => ?_)
    · rw [if_pos hc] at hf
      refine lv_aload_n cx.1 cx.2.1 dX11_goneBy_39 rfl (lv_at hl 2 rfl) ?_
      refine g_get (C := RX11) (T := TX11) (N := 16) (v := .ref (G.2.1 400)) cx hw inlX11 392 (by omega) he_c392 rfl 11 (by decide) gw_150 rfl rfl dX11_goneBy_40 ?_
      refine lv_bipush (v := (9 : Int32)) cx.1 cx.2.1 dX11_goneBy_43 (by decide) ?_
      refine lv_iload cx.1 cx.2.1 dX11_goneBy_45 (lv_at hl 0 rfl) ?_
      refine lv_imul cx.1 cx.2.1 dX11_goneBy_47 ?_
      refine lv_iload cx.1 cx.2.1 dX11_goneBy_48 (lv_at hl 1 rfl) ?_
      refine lv_iadd cx.1 cx.2.1 dX11_goneBy_50 ?_
      obtain ⟨hin, hf⟩ := gck_some hf
      refine g_iald cx hw (ia_c400 hM) (vp_of_inb hin) dX11_goneBy_51 ?_
      refine lv_aload_n cx.1 cx.2.1 dX11_goneBy_52 rfl (lv_at hl 3 rfl) ?_
      refine lv_iload_n cx.1 cx.2.1 dX11_goneBy_53 rfl (lv_at hl 4 rfl) ?_
      refine lv_iload_n cx.1 cx.2.1 dX11_goneBy_54 rfl (lv_at hl 5 rfl) ?_
      obtain ⟨v_7, S_6, hv, hf⟩ := gbi_some hf
      refine g_S (As := [.ref (G.2.1 k1), .int a2, .int a3]) (rest := [.int (S_3 400 (((9 : Int32) * x7_5) + v_2).toNatClampNeg)]) cx hw hS (c_X11_costOf l G hM hk1 a2 a3 S_3 v_7 S_6 hv) gw_814 gy_X11_costOf gi_X11_costOf ⟨Nat.le_of_ble_eq_true rfl, Nat.le_of_ble_eq_true rfl⟩ ⟨Nat.zero_le _, Nat.zero_le _⟩ rfl hl.1 rfl (Nat.le_of_ble_eq_true rfl) dX11_goneBy_55 (fun H locs hw hS => ?_)
      refine W.eq (g2 := F0 m 58 ls [.int v_7, .int (S_3 400 (((9 : Int32) * x7_5) + v_2).toNatClampNeg)]) rfl ?_
      refine lv_iadd cx.1 cx.2.1 dX11_goneBy_58 ?_
      exact g_ireti cx hr hlk hw hS hf dX11_goneBy_59
    · rw [if_neg hc] at hf
      refine lv_ldc cx.1 cx.2.1 cx.2.2.2.1 (cx.2.2.2.2.ts _ gw_799) dX11_goneBy_34 ?_
      refine lv_goto (tgt := 59) cx.1 cx.2.1 dX11_goneBy_36 (by decide) ?_
      exact g_ireti cx hr hlk hw hS hf dX11_goneBy_59
set_option maxHeartbeats 4000000 in
set_option maxRecDepth 100000 in
theorem c_X11_layLeast (l : Launch) (G : gG) {k1 : Nat} (hM : 402 ≤ gN G) (hk1 : IA G k1 175) (a2 : Int32) (a3 : Int32) (a4 : Int32) (S : Sg) (S' : Sg) (hf : f_X11_layLeast k1 a2 a3 a4 S = some S') : Ct l yX11_layLeast [Cond.code yX11_layLeast cX11_layLeast 10 none] (gR 3 71) G [.ref (G.2.1 392), .ref (G.2.1 k1), .int a2, .int a3, .int a4] S none S' := by
  refine Ct_of (by decide) (Nat.le_of_ble_eq_true rfl) ?_
  intro p e s m below meth c ls cx hr hlk hw hS hl
  have hN := cx.2.2.2.2.hN
  have hB_113 : ∀ (K3 : Sg → Int32 → Int32 → Int32 → Int32 → Option Sg) (hK3 : ∀ (S : Sg) (x2 : Int32) (x3 : Int32) (x4 : Int32) (x5 : Int32) (H : Heap) (locs : List Loc) (ls : Array Slot), gP G S H → va_S (gA G s.heap.size) s.heap H locs → lv_has ls 10 [(0, .ref (G.2.1 392)), (1, .ref (G.2.1 k1)), (2, .int x2), (3, .int x3), (4, .int x4), (5, .int x5)] → K3 S x2 x3 x4 x5 = some S' → W p l e (gR 3 71) s m ([.ref (G.2.1 392), .ref (G.2.1 k1), .int a2, .int a3, .int a4] : List Value).toArray below meth c H locs 0 0 (MQ below (gQ G S' none (gA G s.heap.size)) ([.ref (G.2.1 392), .ref (G.2.1 k1), .int a2, .int a3, .int a4] : List Value).toArray s 0 0 (gA G s.heap.size)) (F0 m 3 ls [])) (K13 : Sg → Int32 → Int32 → Int32 → Int32 → Int32 → Option Sg) (hK13 : ∀ (S : Sg) (x2 : Int32) (x3 : Int32) (x4 : Int32) (x5 : Int32) (x6 : Int32) (H : Heap) (locs : List Loc) (ls : Array Slot), gP G S H → va_S (gA G s.heap.size) s.heap H locs → lv_has ls 10 [(0, .ref (G.2.1 392)), (1, .ref (G.2.1 k1)), (2, .int x2), (3, .int x3), (4, .int x4), (5, .int x5), (6, .int x6)] → K13 S x2 x3 x4 x5 x6 = some S' → W p l e (gR 3 71) s m ([.ref (G.2.1 392), .ref (G.2.1 k1), .int a2, .int a3, .int a4] : List Value).toArray below meth c H locs 0 0 (MQ below (gQ G S' none (gA G s.heap.size)) ([.ref (G.2.1 392), .ref (G.2.1 k1), .int a2, .int a3, .int a4] : List Value).toArray s 0 0 (gA G s.heap.size)) (F0 m 13 ls [])), ∀ (S : Sg) (x2 : Int32) (x3 : Int32) (x4 : Int32) (x5 : Int32) (x6 : Int32) (t0 : Int32) (t1 : Int32) (H : Heap) (locs : List Loc) (ls : Array Slot), gP G S H → va_S (gA G s.heap.size) s.heap H locs → lv_has ls 10 [(0, .ref (G.2.1 392)), (1, .ref (G.2.1 k1)), (2, .int x2), (3, .int x3), (4, .int x4), (5, .int x5), (6, .int x6)] → B_X11_layLeast_113 k1 K3 K13 S x2 x3 x4 x5 x6 t0 t1 = some S' → W p l e (gR 3 71) s m ([.ref (G.2.1 392), .ref (G.2.1 k1), .int a2, .int a3, .int a4] : List Value).toArray below meth c H locs 0 0 (MQ below (gQ G S' none (gA G s.heap.size)) ([.ref (G.2.1 392), .ref (G.2.1 k1), .int a2, .int a3, .int a4] : List Value).toArray s 0 0 (gA G s.heap.size)) (F0 m 113 ls [.int t0, .int t1, .ref (G.2.1 400)]) := by
    intro K3 hK3 K13 hK13 S x2 x3 x4 x5 x6 t0 t1 H locs ls hw hS hl hf
    unfold B_X11_layLeast_113 at hf
    obtain ⟨hin, hf⟩ := gck_some hf
    obtain ⟨S_1, eS_1, hf⟩ := gst_ex hf
    refine g_iast cx hw hS (ia_c400 hM) (vp_of_inb hin) dX11_layLeast_113 (fun H locs hw hS => ?_)
    rw [eS_1] at hw
    obtain ⟨x6_2, ex6_2, hf⟩ := gvi_ex hf
    refine lv_iinc (v := x6_2) (lv' := [(6, .int x6_2), (0, .ref (G.2.1 392)), (1, .ref (G.2.1 k1)), (2, .int x2), (3, .int x3), (4, .int x4), (5, .int x5)]) cx.1 cx.2.1 dX11_layLeast_114 hl (k := 6) rfl (by rw [← ex6_2]; rfl) (by decide) rfl (fun ls hl => ?_)
    refine lv_goto (tgt := 13) cx.1 cx.2.1 dX11_layLeast_117 (by decide) ?_
    exact hK13 S_1 x2 x3 x4 x5 x6_2 _ _ _ hw hS (lv_sub hl [1, 2, 3, 4, 5, 6, 0] rfl) hf
  have hL_43 : ∀ (K3 : Sg → Int32 → Int32 → Int32 → Int32 → Option Sg) (hK3 : ∀ (S : Sg) (x2 : Int32) (x3 : Int32) (x4 : Int32) (x5 : Int32) (H : Heap) (locs : List Loc) (ls : Array Slot), gP G S H → va_S (gA G s.heap.size) s.heap H locs → lv_has ls 10 [(0, .ref (G.2.1 392)), (1, .ref (G.2.1 k1)), (2, .int x2), (3, .int x3), (4, .int x4), (5, .int x5)] → K3 S x2 x3 x4 x5 = some S' → W p l e (gR 3 71) s m ([.ref (G.2.1 392), .ref (G.2.1 k1), .int a2, .int a3, .int a4] : List Value).toArray below meth c H locs 0 0 (MQ below (gQ G S' none (gA G s.heap.size)) ([.ref (G.2.1 392), .ref (G.2.1 k1), .int a2, .int a3, .int a4] : List Value).toArray s 0 0 (gA G s.heap.size)) (F0 m 3 ls [])) (K13 : Sg → Int32 → Int32 → Int32 → Int32 → Int32 → Option Sg) (hK13 : ∀ (S : Sg) (x2 : Int32) (x3 : Int32) (x4 : Int32) (x5 : Int32) (x6 : Int32) (H : Heap) (locs : List Loc) (ls : Array Slot), gP G S H → va_S (gA G s.heap.size) s.heap H locs → lv_has ls 10 [(0, .ref (G.2.1 392)), (1, .ref (G.2.1 k1)), (2, .int x2), (3, .int x3), (4, .int x4), (5, .int x5), (6, .int x6)] → K13 S x2 x3 x4 x5 x6 = some S' → W p l e (gR 3 71) s m ([.ref (G.2.1 392), .ref (G.2.1 k1), .int a2, .int a3, .int a4] : List Value).toArray below meth c H locs 0 0 (MQ below (gQ G S' none (gA G s.heap.size)) ([.ref (G.2.1 392), .ref (G.2.1 k1), .int a2, .int a3, .int a4] : List Value).toArray s 0 0 (gA G s.heap.size)) (F0 m 13 ls [])), ∀ (n : Nat), ∀ (S : Sg) (x2 : Int32) (x3 : Int32) (x4 : Int32) (x5 : Int32) (x6 : Int32) (x7 : Int32) (x8 : Int32) (H : Heap) (locs : List Loc) (ls : Array Slot), gP G S H → va_S (gA G s.heap.size) s.heap H locs → lv_has ls 10 [(0, .ref (G.2.1 392)), (1, .ref (G.2.1 k1)), (2, .int x2), (3, .int x3), (4, .int x4), (5, .int x5), (6, .int x6), (7, .int x7), (8, .int x8)] → L_X11_layLeast_43 k1 K3 K13 n S x2 x3 x4 x5 x6 x7 x8 = some S' → W p l e (gR 3 71) s m ([.ref (G.2.1 392), .ref (G.2.1 k1), .int a2, .int a3, .int a4] : List Value).toArray below meth c H locs 0 0 (MQ below (gQ G S' none (gA G s.heap.size)) ([.ref (G.2.1 392), .ref (G.2.1 k1), .int a2, .int a3, .int a4] : List Value).toArray s 0 0 (gA G s.heap.size)) (F0 m 43 ls []) := by
    intro K3 hK3 K13 hK13 n
    induction n with
    | zero => intro S x2 x3 x4 x5 x6 x7 x8 H locs ls hw hS hl hf; cases hf
    | succ n hK43 =>
      intro S x2 x3 x4 x5 x6 x7 x8 H locs ls hw hS hl hf
      have hf : Lb_X11_layLeast_43 k1 K3 K13 (L_X11_layLeast_43 k1 K3 K13 n) S x2 x3 x4 x5 x6 x7 x8 = some S' := hf
      unfold Lb_X11_layLeast_43 at hf
      refine lv_iload cx.1 cx.2.1 dX11_layLeast_43 (lv_at hl 8 rfl) ?_
      refine lv_aload_n cx.1 cx.2.1 dX11_layLeast_45 rfl (lv_at hl 1 rfl) ?_
      refine lv_iconst (v := (1 : Int32)) cx.1 cx.2.1 dX11_layLeast_46 (by decide) ?_
      obtain ⟨hin, hf⟩ := gck_some hf
      refine g_iald cx hw hk1 (vp_of_inb hin) dX11_layLeast_47 ?_
      refine lv_icmp_ge (tgt := 87) cx.1 cx.2.1 dX11_layLeast_48 (by decide) (fun hc => ?_) (fun hc => ?_)
      · rw [if_pos hc] at hf
        refine lv_aload_n cx.1 cx.2.1 dX11_layLeast_87 rfl (lv_at hl 0 rfl) ?_
        refine g_get (C := RX11) (T := TX11) (N := 16) (v := .ref (G.2.1 400)) cx hw inlX11 392 (by omega) he_c392 rfl 11 (by decide) gw_150 rfl rfl dX11_layLeast_88 ?_
        refine lv_bipush (v := (9 : Int32)) cx.1 cx.2.1 dX11_layLeast_91 (by decide) ?_
        refine lv_iload cx.1 cx.2.1 dX11_layLeast_93 (lv_at hl 5 rfl) ?_
        refine lv_imul cx.1 cx.2.1 dX11_layLeast_95 ?_
        refine lv_iload cx.1 cx.2.1 dX11_layLeast_96 (lv_at hl 6 rfl) ?_
        refine lv_iadd cx.1 cx.2.1 dX11_layLeast_98 ?_
        refine lv_iload cx.1 cx.2.1 dX11_layLeast_99 (lv_at hl 7 rfl) ?_
        refine lv_ldc cx.1 cx.2.1 cx.2.2.2.1 (cx.2.2.2.2.ts _ gw_799) dX11_layLeast_101 ?_
        refine lv_icmp_ge (tgt := 111) cx.1 cx.2.1 dX11_layLeast_103 (by decide) (fun hc => ?_) (fun hc => ?_)
        · rw [if_pos hc] at hf
          refine lv_ldc cx.1 cx.2.1 cx.2.2.2.1 (cx.2.2.2.2.ts _ gw_799) dX11_layLeast_111 ?_
          exact hB_113 K3 hK3 K13 hK13 S x2 x3 x4 x5 x6 (1000000 : Int32) (((9 : Int32) * x5) + x6) _ _ _ hw hS (lv_sub hl [0, 1, 2, 3, 4, 5, 6] rfl) hf
        · rw [if_neg hc] at hf
          refine lv_iload cx.1 cx.2.1 dX11_layLeast_106 (lv_at hl 7 rfl) ?_
          refine lv_goto (tgt := 113) cx.1 cx.2.1 dX11_layLeast_108 (by decide) ?_
          exact hB_113 K3 hK3 K13 hK13 S x2 x3 x4 x5 x6 x7 (((9 : Int32) * x5) + x6) _ _ _ hw hS (lv_sub hl [0, 1, 2, 3, 4, 5, 6] rfl) hf
      · rw [if_neg hc] at hf
        refine lv_aload_n cx.1 cx.2.1 dX11_layLeast_51 rfl (lv_at hl 0 rfl) ?_
        refine lv_aload_n cx.1 cx.2.1 dX11_layLeast_52 rfl (lv_at hl 1 rfl) ?_
        refine lv_iload_n cx.1 cx.2.1 dX11_layLeast_53 rfl (lv_at hl 2 rfl) ?_
        refine lv_iload cx.1 cx.2.1 dX11_layLeast_54 (lv_at hl 8 rfl) ?_
        refine lv_iload cx.1 cx.2.1 dX11_layLeast_56 (lv_at hl 6 rfl) ?_
        refine lv_iload cx.1 cx.2.1 dX11_layLeast_58 (lv_at hl 5 rfl) ?_
        obtain ⟨v_4, S_3, hv, hf⟩ := gbi_some hf
        refine g_V (As := [.ref (G.2.1 k1), .int x2, .int x8, .int x6, .int x5]) (rest := []) cx hw hS (c_X11_goneBy l G hM hk1 x2 x8 x6 x5 S v_4 S_3 hv) (by omega) he_c392 rfl rfl gw_807 gy_X11_goneBy gi_X11_goneBy ⟨Nat.le_of_ble_eq_true rfl, Nat.le_of_ble_eq_true rfl⟩ ⟨Nat.zero_le _, Nat.zero_le _⟩ rfl hl.1 rfl (Nat.le_of_ble_eq_true rfl) dX11_layLeast_60 (fun H locs hw hS => ?_)
        refine W.eq (g2 := F0 m 63 ls [.int v_4]) rfl ?_
        refine lv_istore (lv' := [(9, .int v_4), (0, .ref (G.2.1 392)), (1, .ref (G.2.1 k1)), (2, .int x2), (3, .int x3), (4, .int x4), (5, .int x5), (6, .int x6), (7, .int x7), (8, .int x8)]) cx.1 cx.2.1 dX11_layLeast_63 hl (by decide) rfl (fun ls hl => ?_)
        refine lv_iload cx.1 cx.2.1 dX11_layLeast_65 (lv_at hl 0 rfl) ?_
        refine lv_iload cx.1 cx.2.1 dX11_layLeast_67 (lv_at hl 8 rfl) ?_
        refine lv_icmp_ge (tgt := 77) cx.1 cx.2.1 dX11_layLeast_69 (by decide) (fun hc => ?_) (fun hc => ?_)
        · rw [if_pos hc] at hf
          refine lv_iload cx.1 cx.2.1 dX11_layLeast_77 (lv_at hl 8 rfl) ?_
          refine lv_istore (lv' := [(7, .int x7), (9, .int v_4), (0, .ref (G.2.1 392)), (1, .ref (G.2.1 k1)), (2, .int x2), (3, .int x3), (4, .int x4), (5, .int x5), (6, .int x6), (8, .int x8)]) cx.1 cx.2.1 dX11_layLeast_79 hl (by decide) rfl (fun ls hl => ?_)
          obtain ⟨x8_5, ex8_5, hf⟩ := gvi_ex hf
          refine lv_iinc (v := x8_5) (lv' := [(8, .int x8_5), (7, .int x7), (9, .int v_4), (0, .ref (G.2.1 392)), (1, .ref (G.2.1 k1)), (2, .int x2), (3, .int x3), (4, .int x4), (5, .int x5), (6, .int x6)]) cx.1 cx.2.1 dX11_layLeast_81 hl (k := 9) rfl (by rw [← ex8_5]; rfl) (by decide) rfl (fun ls hl => ?_)
          refine lv_goto (tgt := 43) cx.1 cx.2.1 dX11_layLeast_84 (by decide) ?_
          exact hK43 S_3 x2 x3 x4 x5 x6 x7 x8_5 _ _ _ hw hS (lv_sub hl [3, 4, 5, 6, 7, 8, 9, 1, 0] rfl) hf
        · rw [if_neg hc] at hf
          refine lv_iload cx.1 cx.2.1 dX11_layLeast_72 (lv_at hl 0 rfl) ?_
          refine lv_goto (tgt := 79) cx.1 cx.2.1 dX11_layLeast_74 (by decide) ?_
          refine lv_istore (lv' := [(7, .int v_4), (9, .int v_4), (0, .ref (G.2.1 392)), (1, .ref (G.2.1 k1)), (2, .int x2), (3, .int x3), (4, .int x4), (5, .int x5), (6, .int x6), (8, .int x8)]) cx.1 cx.2.1 dX11_layLeast_79 hl (by decide) rfl (fun ls hl => ?_)
          obtain ⟨x8_6, ex8_6, hf⟩ := gvi_ex hf
          refine lv_iinc (v := x8_6) (lv' := [(8, .int x8_6), (7, .int v_4), (9, .int v_4), (0, .ref (G.2.1 392)), (1, .ref (G.2.1 k1)), (2, .int x2), (3, .int x3), (4, .int x4), (5, .int x5), (6, .int x6)]) cx.1 cx.2.1 dX11_layLeast_81 hl (k := 9) rfl (by rw [← ex8_6]; rfl) (by decide) rfl (fun ls hl => ?_)
          refine lv_goto (tgt := 43) cx.1 cx.2.1 dX11_layLeast_84 (by decide) ?_
          exact hK43 S_3 x2 x3 x4 x5 x6 v_4 x8_6 _ _ _ hw hS (lv_sub hl [3, 4, 5, 6, 7, 8, 9, 1, 0] rfl) hf
  have hL_13 : ∀ (K3 : Sg → Int32 → Int32 → Int32 → Int32 → Option Sg) (hK3 : ∀ (S : Sg) (x2 : Int32) (x3 : Int32) (x4 : Int32) (x5 : Int32) (H : Heap) (locs : List Loc) (ls : Array Slot), gP G S H → va_S (gA G s.heap.size) s.heap H locs → lv_has ls 10 [(0, .ref (G.2.1 392)), (1, .ref (G.2.1 k1)), (2, .int x2), (3, .int x3), (4, .int x4), (5, .int x5)] → K3 S x2 x3 x4 x5 = some S' → W p l e (gR 3 71) s m ([.ref (G.2.1 392), .ref (G.2.1 k1), .int a2, .int a3, .int a4] : List Value).toArray below meth c H locs 0 0 (MQ below (gQ G S' none (gA G s.heap.size)) ([.ref (G.2.1 392), .ref (G.2.1 k1), .int a2, .int a3, .int a4] : List Value).toArray s 0 0 (gA G s.heap.size)) (F0 m 3 ls [])), ∀ (n : Nat), ∀ (S : Sg) (x2 : Int32) (x3 : Int32) (x4 : Int32) (x5 : Int32) (x6 : Int32) (H : Heap) (locs : List Loc) (ls : Array Slot), gP G S H → va_S (gA G s.heap.size) s.heap H locs → lv_has ls 10 [(0, .ref (G.2.1 392)), (1, .ref (G.2.1 k1)), (2, .int x2), (3, .int x3), (4, .int x4), (5, .int x5), (6, .int x6)] → L_X11_layLeast_13 k1 K3 n S x2 x3 x4 x5 x6 = some S' → W p l e (gR 3 71) s m ([.ref (G.2.1 392), .ref (G.2.1 k1), .int a2, .int a3, .int a4] : List Value).toArray below meth c H locs 0 0 (MQ below (gQ G S' none (gA G s.heap.size)) ([.ref (G.2.1 392), .ref (G.2.1 k1), .int a2, .int a3, .int a4] : List Value).toArray s 0 0 (gA G s.heap.size)) (F0 m 13 ls []) := by
    intro K3 hK3 n
    induction n with
    | zero => intro S x2 x3 x4 x5 x6 H locs ls hw hS hl hf; cases hf
    | succ n hK13 =>
      intro S x2 x3 x4 x5 x6 H locs ls hw hS hl hf
      have hf : Lb_X11_layLeast_13 k1 K3 (L_X11_layLeast_13 k1 K3 n) S x2 x3 x4 x5 x6 = some S' := hf
      unfold Lb_X11_layLeast_13 at hf
      refine lv_iload cx.1 cx.2.1 dX11_layLeast_13 (lv_at hl 6 rfl) ?_
      refine lv_aload_n cx.1 cx.2.1 dX11_layLeast_15 rfl (lv_at hl 1 rfl) ?_
      refine lv_iconst (v := (0 : Int32)) cx.1 cx.2.1 dX11_layLeast_16 (by decide) ?_
      obtain ⟨hin, hf⟩ := gck_some hf
      refine g_iald cx hw hk1 (vp_of_inb hin) dX11_layLeast_17 ?_
      refine lv_icmp_ge (tgt := 120) cx.1 cx.2.1 dX11_layLeast_18 (by decide) (fun hc => ?_) (fun hc => ?_)
      · rw [if_pos hc] at hf
        obtain ⟨x5_7, ex5_7, hf⟩ := gvi_ex hf
        refine lv_iinc (v := x5_7) (lv' := [(5, .int x5_7), (0, .ref (G.2.1 392)), (1, .ref (G.2.1 k1)), (2, .int x2), (3, .int x3), (4, .int x4), (6, .int x6)]) cx.1 cx.2.1 dX11_layLeast_120 hl (k := 5) rfl (by rw [← ex5_7]; rfl) (by decide) rfl (fun ls hl => ?_)
        refine lv_goto (tgt := 3) cx.1 cx.2.1 dX11_layLeast_123 (by decide) ?_
        exact hK3 S x2 x3 x4 x5_7 _ _ _ hw hS (lv_sub hl [1, 2, 3, 4, 5, 0] rfl) hf
      · rw [if_neg hc] at hf
        refine lv_iload cx.1 cx.2.1 dX11_layLeast_21 (lv_at hl 5 rfl) ?_
        refine lv_if_ne (tgt := 36) cx.1 cx.2.1 dX11_layLeast_23 (by decide) (fun hc => ?_) (fun hc => ?_)
        · rw [if_neg hc] at hf
          refine lv_ldc cx.1 cx.2.1 cx.2.2.2.1 (cx.2.2.2.2.ts _ gw_799) dX11_layLeast_36 ?_
          refine lv_istore (lv' := [(7, .int (1000000 : Int32)), (0, .ref (G.2.1 392)), (1, .ref (G.2.1 k1)), (2, .int x2), (3, .int x3), (4, .int x4), (5, .int x5), (6, .int x6)]) cx.1 cx.2.1 dX11_layLeast_38 hl (by decide) rfl (fun ls hl => ?_)
          refine lv_iconst (v := (0 : Int32)) cx.1 cx.2.1 dX11_layLeast_40 (by decide) ?_
          refine lv_istore (lv' := [(8, .int (0 : Int32)), (7, .int (1000000 : Int32)), (0, .ref (G.2.1 392)), (1, .ref (G.2.1 k1)), (2, .int x2), (3, .int x3), (4, .int x4), (5, .int x5), (6, .int x6)]) cx.1 cx.2.1 dX11_layLeast_41 hl (by decide) rfl (fun ls hl => ?_)
          exact hL_43 K3 hK3 (L_X11_layLeast_13 k1 K3 n) hK13 gFu S x2 x3 x4 x5 x6 (1000000 : Int32) (0 : Int32) _ _ _ hw hS (lv_sub hl [2, 3, 4, 5, 6, 7, 8, 1, 0] rfl) hf
        · rw [if_pos hc] at hf
          refine lv_iload cx.1 cx.2.1 dX11_layLeast_26 (lv_at hl 6 rfl) ?_
          refine lv_iload_n cx.1 cx.2.1 dX11_layLeast_28 rfl (lv_at hl 3 rfl) ?_
          refine lv_icmp_ne (tgt := 36) cx.1 cx.2.1 dX11_layLeast_29 (by decide) (fun hc => ?_) (fun hc => ?_)
          · rw [if_neg hc] at hf
            refine lv_ldc cx.1 cx.2.1 cx.2.2.2.1 (cx.2.2.2.2.ts _ gw_799) dX11_layLeast_36 ?_
            refine lv_istore (lv' := [(7, .int (1000000 : Int32)), (0, .ref (G.2.1 392)), (1, .ref (G.2.1 k1)), (2, .int x2), (3, .int x3), (4, .int x4), (5, .int x5), (6, .int x6)]) cx.1 cx.2.1 dX11_layLeast_38 hl (by decide) rfl (fun ls hl => ?_)
            refine lv_iconst (v := (0 : Int32)) cx.1 cx.2.1 dX11_layLeast_40 (by decide) ?_
            refine lv_istore (lv' := [(8, .int (0 : Int32)), (7, .int (1000000 : Int32)), (0, .ref (G.2.1 392)), (1, .ref (G.2.1 k1)), (2, .int x2), (3, .int x3), (4, .int x4), (5, .int x5), (6, .int x6)]) cx.1 cx.2.1 dX11_layLeast_41 hl (by decide) rfl (fun ls hl => ?_)
            exact hL_43 K3 hK3 (L_X11_layLeast_13 k1 K3 n) hK13 gFu S x2 x3 x4 x5 x6 (1000000 : Int32) (0 : Int32) _ _ _ hw hS (lv_sub hl [2, 3, 4, 5, 6, 7, 8, 1, 0] rfl) hf
          · rw [if_pos hc] at hf
            refine lv_iconst (v := (0 : Int32)) cx.1 cx.2.1 dX11_layLeast_32 (by decide) ?_
            refine lv_goto (tgt := 38) cx.1 cx.2.1 dX11_layLeast_33 (by decide) ?_
            refine lv_istore (lv' := [(7, .int (0 : Int32)), (0, .ref (G.2.1 392)), (1, .ref (G.2.1 k1)), (2, .int x2), (3, .int x3), (4, .int x4), (5, .int x5), (6, .int x6)]) cx.1 cx.2.1 dX11_layLeast_38 hl (by decide) rfl (fun ls hl => ?_)
            refine lv_iconst (v := (0 : Int32)) cx.1 cx.2.1 dX11_layLeast_40 (by decide) ?_
            refine lv_istore (lv' := [(8, .int (0 : Int32)), (7, .int (0 : Int32)), (0, .ref (G.2.1 392)), (1, .ref (G.2.1 k1)), (2, .int x2), (3, .int x3), (4, .int x4), (5, .int x5), (6, .int x6)]) cx.1 cx.2.1 dX11_layLeast_41 hl (by decide) rfl (fun ls hl => ?_)
            exact hL_43 K3 hK3 (L_X11_layLeast_13 k1 K3 n) hK13 gFu S x2 x3 x4 x5 x6 (0 : Int32) (0 : Int32) _ _ _ hw hS (lv_sub hl [2, 3, 4, 5, 6, 7, 8, 1, 0] rfl) hf
  have hL_3 : ∀ (n : Nat), ∀ (S : Sg) (x2 : Int32) (x3 : Int32) (x4 : Int32) (x5 : Int32) (H : Heap) (locs : List Loc) (ls : Array Slot), gP G S H → va_S (gA G s.heap.size) s.heap H locs → lv_has ls 10 [(0, .ref (G.2.1 392)), (1, .ref (G.2.1 k1)), (2, .int x2), (3, .int x3), (4, .int x4), (5, .int x5)] → L_X11_layLeast_3 k1 n S x2 x3 x4 x5 = some S' → W p l e (gR 3 71) s m ([.ref (G.2.1 392), .ref (G.2.1 k1), .int a2, .int a3, .int a4] : List Value).toArray below meth c H locs 0 0 (MQ below (gQ G S' none (gA G s.heap.size)) ([.ref (G.2.1 392), .ref (G.2.1 k1), .int a2, .int a3, .int a4] : List Value).toArray s 0 0 (gA G s.heap.size)) (F0 m 3 ls []) := by
    intro n
    induction n with
    | zero => intro S x2 x3 x4 x5 H locs ls hw hS hl hf; cases hf
    | succ n hK3 =>
      intro S x2 x3 x4 x5 H locs ls hw hS hl hf
      have hf : Lb_X11_layLeast_3 k1 (L_X11_layLeast_3 k1 n) S x2 x3 x4 x5 = some S' := hf
      unfold Lb_X11_layLeast_3 at hf
      refine lv_iload cx.1 cx.2.1 dX11_layLeast_3 (lv_at hl 5 rfl) ?_
      refine lv_iload cx.1 cx.2.1 dX11_layLeast_5 (lv_at hl 4 rfl) ?_
      refine lv_icmp_gt (tgt := 126) cx.1 cx.2.1 dX11_layLeast_7 (by decide) (fun hc => ?_) (fun hc => ?_)
      · rw [if_pos hc] at hf
        exact g_vreti cx hr hlk hw hS hf dX11_layLeast_126
      · rw [if_neg hc] at hf
        refine lv_iconst (v := (0 : Int32)) cx.1 cx.2.1 dX11_layLeast_10 (by decide) ?_
        refine lv_istore (lv' := [(6, .int (0 : Int32)), (0, .ref (G.2.1 392)), (1, .ref (G.2.1 k1)), (2, .int x2), (3, .int x3), (4, .int x4), (5, .int x5)]) cx.1 cx.2.1 dX11_layLeast_11 hl (by decide) rfl (fun ls hl => ?_)
        exact hL_13 (L_X11_layLeast_3 k1 n) hK3 gFu S x2 x3 x4 x5 (0 : Int32) _ _ _ hw hS (lv_sub hl [1, 2, 3, 4, 5, 6, 0] rfl) hf
  have hl : lv_has ls 10 [(0, .ref (G.2.1 392)), (1, .ref (G.2.1 k1)), (2, .int a2), (3, .int a3), (4, .int a4)] := hl
  unfold f_X11_layLeast at hf
  refine lv_iconst (v := (0 : Int32)) cx.1 cx.2.1 dX11_layLeast_0 (by decide) ?_
  refine lv_istore (lv' := [(5, .int (0 : Int32)), (0, .ref (G.2.1 392)), (1, .ref (G.2.1 k1)), (2, .int a2), (3, .int a3), (4, .int a4)]) cx.1 cx.2.1 dX11_layLeast_1 hl (by decide) rfl (fun ls hl => ?_)
  exact hL_3 gFu S a2 a3 a4 (0 : Int32) _ _ _ hw hS (lv_sub hl [1, 2, 3, 4, 5, 0] rfl) hf
set_option maxHeartbeats 4000000 in
set_option maxRecDepth 100000 in
theorem c_X11_findWay (l : Launch) (G : gG) {k1 : Nat} (hM : 402 ≤ gN G) (hk1 : IA G k1 175) (a2 : Int32) (a3 : Int32) (a4 : Int32) (a5 : Int32) (S : Sg) (r : Int32) (S' : Sg) (hf : f_X11_findWay k1 a2 a3 a4 a5 S = some (r, S')) : Ct l yX11_findWay [Cond.code yX11_findWay cX11_findWay 9 (some .boolean)] (gR 4 100) G [.ref (G.2.1 392), .ref (G.2.1 k1), .int a2, .int a3, .int a4, .int a5] S (some (.int r)) S' := by
  refine Ct_of (by decide) (Nat.le_of_ble_eq_true rfl) ?_
  intro p e s m below meth c ls cx hr hlk hw hS hl
  have hN := cx.2.2.2.2.hN
  have hL_106 : ∀ (K98 : Sg → Int32 → Int32 → Int32 → Option (Int32 × Sg)) (hK98 : ∀ (S : Sg) (x2 : Int32) (x6 : Int32) (x7 : Int32) (H : Heap) (locs : List Loc) (ls : Array Slot), gP G S H → va_S (gA G s.heap.size) s.heap H locs → lv_has ls 9 [(0, .ref (G.2.1 392)), (1, .ref (G.2.1 k1)), (2, .int x2), (6, .int x6), (7, .int x7)] → K98 S x2 x6 x7 = some (r, S') → W p l e (gR 4 100) s m ([.ref (G.2.1 392), .ref (G.2.1 k1), .int a2, .int a3, .int a4, .int a5] : List Value).toArray below meth c H locs 0 0 (MQ below (gQ G S' (some (.int r)) (gA G s.heap.size)) ([.ref (G.2.1 392), .ref (G.2.1 k1), .int a2, .int a3, .int a4, .int a5] : List Value).toArray s 0 0 (gA G s.heap.size)) (F0 m 98 ls [])), ∀ (n : Nat), ∀ (S : Sg) (x2 : Int32) (x6 : Int32) (x7 : Int32) (x8 : Int32) (H : Heap) (locs : List Loc) (ls : Array Slot), gP G S H → va_S (gA G s.heap.size) s.heap H locs → lv_has ls 9 [(0, .ref (G.2.1 392)), (1, .ref (G.2.1 k1)), (2, .int x2), (6, .int x6), (7, .int x7), (8, .int x8)] → L_X11_findWay_106 k1 K98 n S x2 x6 x7 x8 = some (r, S') → W p l e (gR 4 100) s m ([.ref (G.2.1 392), .ref (G.2.1 k1), .int a2, .int a3, .int a4, .int a5] : List Value).toArray below meth c H locs 0 0 (MQ below (gQ G S' (some (.int r)) (gA G s.heap.size)) ([.ref (G.2.1 392), .ref (G.2.1 k1), .int a2, .int a3, .int a4, .int a5] : List Value).toArray s 0 0 (gA G s.heap.size)) (F0 m 106 ls []) := by
    intro K98 hK98 n
    induction n with
    | zero => intro S x2 x6 x7 x8 H locs ls hw hS hl hf; cases hf
    | succ n hK106 =>
      intro S x2 x6 x7 x8 H locs ls hw hS hl hf
      have hf : Lb_X11_findWay_106 k1 K98 (L_X11_findWay_106 k1 K98 n) S x2 x6 x7 x8 = some (r, S') := hf
      unfold Lb_X11_findWay_106 at hf
      refine lv_aload_n cx.1 cx.2.1 dX11_findWay_106 rfl (lv_at hl 0 rfl) ?_
      refine lv_aload_n cx.1 cx.2.1 dX11_findWay_107 rfl (lv_at hl 1 rfl) ?_
      refine lv_iload_n cx.1 cx.2.1 dX11_findWay_108 rfl (lv_at hl 2 rfl) ?_
      refine lv_iload cx.1 cx.2.1 dX11_findWay_109 (lv_at hl 5 rfl) ?_
      refine lv_iload cx.1 cx.2.1 dX11_findWay_111 (lv_at hl 3 rfl) ?_
      refine lv_iload cx.1 cx.2.1 dX11_findWay_113 (lv_at hl 4 rfl) ?_
      obtain ⟨v_2, S_1, hv, hf⟩ := gbi_some hf
      refine g_V (As := [.ref (G.2.1 k1), .int x2, .int x8, .int x6, .int x7]) (rest := []) cx hw hS (c_X11_goneBy l G hM hk1 x2 x8 x6 x7 S v_2 S_1 hv) (by omega) he_c392 rfl rfl gw_807 gy_X11_goneBy gi_X11_goneBy ⟨Nat.le_of_ble_eq_true rfl, Nat.le_of_ble_eq_true rfl⟩ ⟨Nat.zero_le _, Nat.zero_le _⟩ rfl hl.1 rfl (Nat.le_of_ble_eq_true rfl) dX11_findWay_115 (fun H locs hw hS => ?_)
      refine W.eq (g2 := F0 m 118 ls [.int v_2]) rfl ?_
      refine lv_aload_n cx.1 cx.2.1 dX11_findWay_118 rfl (lv_at hl 0 rfl) ?_
      refine g_get (C := RX11) (T := TX11) (N := 16) (v := .ref (G.2.1 400)) cx hw inlX11 392 (by omega) he_c392 rfl 11 (by decide) gw_150 rfl rfl dX11_findWay_119 ?_
      refine lv_bipush (v := (9 : Int32)) cx.1 cx.2.1 dX11_findWay_122 (by decide) ?_
      refine lv_iload cx.1 cx.2.1 dX11_findWay_124 (lv_at hl 4 rfl) ?_
      refine lv_imul cx.1 cx.2.1 dX11_findWay_126 ?_
      refine lv_iload cx.1 cx.2.1 dX11_findWay_127 (lv_at hl 3 rfl) ?_
      refine lv_iadd cx.1 cx.2.1 dX11_findWay_129 ?_
      obtain ⟨hin, hf⟩ := gck_some hf
      refine g_iald cx hw (ia_c400 hM) (vp_of_inb hin) dX11_findWay_130 ?_
      refine lv_icmp_eq (tgt := 140) cx.1 cx.2.1 dX11_findWay_131 (by decide) (fun hc => ?_) (fun hc => ?_)
      · rw [if_pos hc] at hf
        refine lv_aload_n cx.1 cx.2.1 dX11_findWay_140 rfl (lv_at hl 0 rfl) ?_
        refine g_get (C := RX11) (T := TX11) (N := 16) (v := .ref (G.2.1 401)) cx hw inlX11 392 (by omega) he_c392 rfl 14 (by decide) gw_151 rfl rfl dX11_findWay_141 ?_
        refine lv_aload_n cx.1 cx.2.1 dX11_findWay_144 rfl (lv_at hl 0 rfl) ?_
        refine g_get (C := RX11) (T := TX11) (N := 16) (v := .int (S_1 392 15)) cx hw inlX11 392 (by omega) he_c392 rfl 15 (by decide) gw_802 rfl rfl dX11_findWay_145 ?_
        refine lv_iload cx.1 cx.2.1 dX11_findWay_148 (lv_at hl 5 rfl) ?_
        obtain ⟨hin, hf⟩ := gck_some hf
        obtain ⟨S_3, eS_3, hf⟩ := gst_ex hf
        refine g_iast cx hw hS (ia_c401 hM) (vp_of_inb hin) dX11_findWay_150 (fun H locs hw hS => ?_)
        rw [eS_3] at hw
        refine lv_aload_n cx.1 cx.2.1 dX11_findWay_151 rfl (lv_at hl 0 rfl) ?_
        refine lv_dup cx.1 cx.2.1 dX11_findWay_152 rfl ?_
        refine g_get (C := RX11) (T := TX11) (N := 16) (v := .int (S_3 392 15)) cx hw inlX11 392 (by omega) he_c392 rfl 15 (by decide) gw_802 rfl rfl dX11_findWay_153 ?_
        refine lv_iconst (v := (1 : Int32)) cx.1 cx.2.1 dX11_findWay_156 (by decide) ?_
        refine lv_iadd cx.1 cx.2.1 dX11_findWay_157 ?_
        obtain ⟨S_4, eS_4, hf⟩ := gst_ex hf
        refine g_put (C := RX11) (T := TX11) (N := 16) cx hw hS inlX11 tyX11 tyX11_ok nmX11 392 (by omega) he_c392 rfl 15 (by decide) gw_802 rfl rfl (by decide +kernel) (Nat.le_of_ble_eq_true rfl) (by rw [u2_s, he_c392]; rfl) dX11_findWay_158 (fun H locs hw hS => ?_)
        rw [eS_4] at hw
        refine lv_iload cx.1 cx.2.1 dX11_findWay_161 (lv_at hl 4 rfl) ?_
        refine lv_aload_n cx.1 cx.2.1 dX11_findWay_163 rfl (lv_at hl 1 rfl) ?_
        refine lv_iload cx.1 cx.2.1 dX11_findWay_164 (lv_at hl 5 rfl) ?_
        obtain ⟨v_6, S_5, hv, hf⟩ := gbi_some hf
        refine g_S (As := [.int x8]) (rest := [.ref (G.2.1 k1), .int x7]) cx hw hS (c_X11_trackAt l G hM x8 S_4 v_6 S_5 hv) gw_161 gy_X11_trackAt gi_X11_trackAt ⟨Nat.le_of_ble_eq_true rfl, Nat.le_of_ble_eq_true rfl⟩ ⟨Nat.zero_le _, Nat.zero_le _⟩ rfl hl.1 rfl (Nat.le_of_ble_eq_true rfl) dX11_findWay_166 (fun H locs hw hS => ?_)
        refine W.eq (g2 := F0 m 169 ls [.int v_6, .ref (G.2.1 k1), .int x7]) rfl ?_
        refine lv_iconst (v := (2 : Int32)) cx.1 cx.2.1 dX11_findWay_169 (by decide) ?_
        refine lv_iadd cx.1 cx.2.1 dX11_findWay_170 ?_
        obtain ⟨hin, hf⟩ := gck_some hf
        refine g_iald cx hw hk1 (vp_of_inb hin) dX11_findWay_171 ?_
        refine lv_isub cx.1 cx.2.1 dX11_findWay_172 ?_
        obtain ⟨x7_7, ex7_7, hf⟩ := gvi_ex hf
        refine W.eq (g2 := F0 m 173 ls [.int x7_7]) (by rw [← ex7_7]) ?_
        refine lv_istore (lv' := [(7, .int x7_7), (0, .ref (G.2.1 392)), (1, .ref (G.2.1 k1)), (2, .int x2), (6, .int x6), (8, .int x8)]) cx.1 cx.2.1 dX11_findWay_173 hl (by decide) rfl (fun ls hl => ?_)
        refine lv_aload_n cx.1 cx.2.1 dX11_findWay_175 rfl (lv_at hl 2 rfl) ?_
        refine lv_iload cx.1 cx.2.1 dX11_findWay_176 (lv_at hl 5 rfl) ?_
        refine lv_iload cx.1 cx.2.1 dX11_findWay_178 (lv_at hl 4 rfl) ?_
        obtain ⟨v_9, S_8, hv, hf⟩ := gbi_some hf
        refine g_S (As := [.ref (G.2.1 k1), .int x8, .int x6]) (rest := []) cx hw hS (c_X11_across l G hM hk1 x8 x6 S_5 v_9 S_8 hv) gw_811 gy_X11_across gi_X11_across ⟨Nat.le_of_ble_eq_true rfl, Nat.le_of_ble_eq_true rfl⟩ ⟨Nat.zero_le _, Nat.zero_le _⟩ rfl hl.1 rfl (Nat.le_of_ble_eq_true rfl) dX11_findWay_180 (fun H locs hw hS => ?_)
        refine W.eq (g2 := F0 m 183 ls [.int v_9]) rfl ?_
        refine lv_istore (lv' := [(6, .int v_9), (7, .int x7_7), (0, .ref (G.2.1 392)), (1, .ref (G.2.1 k1)), (2, .int x2), (8, .int x8)]) cx.1 cx.2.1 dX11_findWay_183 hl (by decide) rfl (fun ls hl => ?_)
        refine lv_goto (tgt := 98) cx.1 cx.2.1 dX11_findWay_185 (by decide) ?_
        exact hK98 S_8 x2 v_9 x7_7 _ _ _ hw hS (lv_sub hl [2, 3, 4, 0, 1] rfl) hf
      · rw [if_neg hc] at hf
        obtain ⟨x8_10, ex8_10, hf⟩ := gvi_ex hf
        refine lv_iinc (v := x8_10) (lv' := [(8, .int x8_10), (0, .ref (G.2.1 392)), (1, .ref (G.2.1 k1)), (2, .int x2), (6, .int x6), (7, .int x7)]) cx.1 cx.2.1 dX11_findWay_134 hl (k := 5) rfl (by rw [← ex8_10]; rfl) (by decide) rfl (fun ls hl => ?_)
        refine lv_goto (tgt := 106) cx.1 cx.2.1 dX11_findWay_137 (by decide) ?_
        exact hK106 S_1 x2 x6 x7 x8_10 _ _ _ hw hS (lv_sub hl [1, 2, 3, 4, 5, 0] rfl) hf
  have hL_98 : ∀ (n : Nat), ∀ (S : Sg) (x2 : Int32) (x6 : Int32) (x7 : Int32) (H : Heap) (locs : List Loc) (ls : Array Slot), gP G S H → va_S (gA G s.heap.size) s.heap H locs → lv_has ls 9 [(0, .ref (G.2.1 392)), (1, .ref (G.2.1 k1)), (2, .int x2), (6, .int x6), (7, .int x7)] → L_X11_findWay_98 k1 n S x2 x6 x7 = some (r, S') → W p l e (gR 4 100) s m ([.ref (G.2.1 392), .ref (G.2.1 k1), .int a2, .int a3, .int a4, .int a5] : List Value).toArray below meth c H locs 0 0 (MQ below (gQ G S' (some (.int r)) (gA G s.heap.size)) ([.ref (G.2.1 392), .ref (G.2.1 k1), .int a2, .int a3, .int a4, .int a5] : List Value).toArray s 0 0 (gA G s.heap.size)) (F0 m 98 ls []) := by
    intro n
    induction n with
    | zero => intro S x2 x6 x7 H locs ls hw hS hl hf; cases hf
    | succ n hK98 =>
      intro S x2 x6 x7 H locs ls hw hS hl hf
      have hf : Lb_X11_findWay_98 k1 (L_X11_findWay_98 k1 n) S x2 x6 x7 = some (r, S') := hf
      unfold Lb_X11_findWay_98 at hf
      refine lv_iload cx.1 cx.2.1 dX11_findWay_98 (lv_at hl 4 rfl) ?_
      refine lv_if_le (tgt := 188) cx.1 cx.2.1 dX11_findWay_100 (by decide) (fun hc => ?_) (fun hc => ?_)
      · rw [if_pos hc] at hf
        refine lv_iconst (v := (1 : Int32)) cx.1 cx.2.1 dX11_findWay_188 (by decide) ?_
        exact g_zreti cx hr hlk hw hS (by decide) hf dX11_findWay_189
      · rw [if_neg hc] at hf
        refine lv_iconst (v := (0 : Int32)) cx.1 cx.2.1 dX11_findWay_103 (by decide) ?_
        refine lv_istore (lv' := [(8, .int (0 : Int32)), (0, .ref (G.2.1 392)), (1, .ref (G.2.1 k1)), (2, .int x2), (6, .int x6), (7, .int x7)]) cx.1 cx.2.1 dX11_findWay_104 hl (by decide) rfl (fun ls hl => ?_)
        exact hL_106 (L_X11_findWay_98 k1 n) hK98 gFu S x2 x6 x7 (0 : Int32) _ _ _ hw hS (lv_sub hl [1, 2, 3, 4, 5, 0] rfl) hf
  have hL_19 : ∀ (n : Nat), ∀ (S : Sg) (x2 : Int32) (x3 : Int32) (x5 : Int32) (x6 : Int32) (H : Heap) (locs : List Loc) (ls : Array Slot), gP G S H → va_S (gA G s.heap.size) s.heap H locs → lv_has ls 9 [(0, .ref (G.2.1 392)), (1, .ref (G.2.1 k1)), (2, .int x2), (3, .int x3), (5, .int x5), (6, .int x6)] → L_X11_findWay_19 k1 n S x2 x3 x5 x6 = some (r, S') → W p l e (gR 4 100) s m ([.ref (G.2.1 392), .ref (G.2.1 k1), .int a2, .int a3, .int a4, .int a5] : List Value).toArray below meth c H locs 0 0 (MQ below (gQ G S' (some (.int r)) (gA G s.heap.size)) ([.ref (G.2.1 392), .ref (G.2.1 k1), .int a2, .int a3, .int a4, .int a5] : List Value).toArray s 0 0 (gA G s.heap.size)) (F0 m 19 ls []) := by
    intro n
    induction n with
    | zero => intro S x2 x3 x5 x6 H locs ls hw hS hl hf; cases hf
    | succ n hK19 =>
      intro S x2 x3 x5 x6 H locs ls hw hS hl hf
      have hf : Lb_X11_findWay_19 k1 (L_X11_findWay_19 k1 n) S x2 x3 x5 x6 = some (r, S') := hf
      unfold Lb_X11_findWay_19 at hf
      refine lv_iload cx.1 cx.2.1 dX11_findWay_19 (lv_at hl 5 rfl) ?_
      refine lv_iload cx.1 cx.2.1 dX11_findWay_21 (lv_at hl 4 rfl) ?_
      refine lv_icmp_gt (tgt := 73) cx.1 cx.2.1 dX11_findWay_23 (by decide) (fun hc => ?_) (fun hc => ?_)
      · rw [if_pos hc] at hf
        refine lv_aload_n cx.1 cx.2.1 dX11_findWay_73 rfl (lv_at hl 0 rfl) ?_
        refine g_get (C := RX11) (T := TX11) (N := 16) (v := .int (S 392 12)) cx hw inlX11 392 (by omega) he_c392 rfl 12 (by decide) gw_800 rfl rfl dX11_findWay_74 ?_
        refine lv_ldc cx.1 cx.2.1 cx.2.2.2.1 (cx.2.2.2.2.ts _ gw_799) dX11_findWay_77 ?_
        refine lv_icmp_ne (tgt := 84) cx.1 cx.2.1 dX11_findWay_79 (by decide) (fun hc => ?_) (fun hc => ?_)
        · rw [if_neg hc] at hf
          refine lv_aload_n cx.1 cx.2.1 dX11_findWay_84 rfl (lv_at hl 0 rfl) ?_
          refine lv_iconst (v := (0 : Int32)) cx.1 cx.2.1 dX11_findWay_85 (by decide) ?_
          obtain ⟨S_11, eS_11, hf⟩ := gst_ex hf
          refine g_put (C := RX11) (T := TX11) (N := 16) cx hw hS inlX11 tyX11 tyX11_ok nmX11 392 (by omega) he_c392 rfl 15 (by decide) gw_802 rfl rfl (by decide +kernel) (Nat.le_of_ble_eq_true rfl) (by rw [u2_s, he_c392]; rfl) dX11_findWay_86 (fun H locs hw hS => ?_)
          rw [eS_11] at hw
          refine lv_iload_n cx.1 cx.2.1 dX11_findWay_89 rfl (lv_at hl 3 rfl) ?_
          refine lv_istore (lv' := [(6, .int x3), (0, .ref (G.2.1 392)), (1, .ref (G.2.1 k1)), (2, .int x2), (3, .int x3), (5, .int x5)]) cx.1 cx.2.1 dX11_findWay_90 hl (by decide) rfl (fun ls hl => ?_)
          refine lv_aload_n cx.1 cx.2.1 dX11_findWay_92 rfl (lv_at hl 1 rfl) ?_
          refine g_get (C := RX11) (T := TX11) (N := 16) (v := .int (S_11 392 13)) cx hw inlX11 392 (by omega) he_c392 rfl 13 (by decide) gw_801 rfl rfl dX11_findWay_93 ?_
          obtain ⟨x7_12, ex7_12, hf⟩ := gvi_ex hf
          refine W.eq (g2 := F0 m 96 ls [.int x7_12]) (by rw [← ex7_12]) ?_
          refine lv_istore (lv' := [(7, .int x7_12), (6, .int x3), (0, .ref (G.2.1 392)), (1, .ref (G.2.1 k1)), (2, .int x2), (3, .int x3), (5, .int x5)]) cx.1 cx.2.1 dX11_findWay_96 hl (by decide) rfl (fun ls hl => ?_)
          exact hL_98 gFu S_11 x2 x3 x7_12 _ _ _ hw hS (lv_sub hl [2, 3, 4, 1, 0] rfl) hf
        · rw [if_pos hc] at hf
          refine lv_iconst (v := (0 : Int32)) cx.1 cx.2.1 dX11_findWay_82 (by decide) ?_
          exact g_zreti cx hr hlk hw hS (by decide) hf dX11_findWay_83
      · rw [if_neg hc] at hf
        refine lv_aload_n cx.1 cx.2.1 dX11_findWay_26 rfl (lv_at hl 0 rfl) ?_
        refine g_get (C := RX11) (T := TX11) (N := 16) (v := .ref (G.2.1 400)) cx hw inlX11 392 (by omega) he_c392 rfl 11 (by decide) gw_150 rfl rfl dX11_findWay_27 ?_
        refine lv_bipush (v := (9 : Int32)) cx.1 cx.2.1 dX11_findWay_30 (by decide) ?_
        refine lv_iload cx.1 cx.2.1 dX11_findWay_32 (lv_at hl 5 rfl) ?_
        refine lv_imul cx.1 cx.2.1 dX11_findWay_34 ?_
        refine lv_iload_n cx.1 cx.2.1 dX11_findWay_35 rfl (lv_at hl 3 rfl) ?_
        refine lv_iadd cx.1 cx.2.1 dX11_findWay_36 ?_
        obtain ⟨hin, hf⟩ := gck_some hf
        refine g_iald cx hw (ia_c400 hM) (vp_of_inb hin) dX11_findWay_37 ?_
        refine lv_aload_n cx.1 cx.2.1 dX11_findWay_38 rfl (lv_at hl 0 rfl) ?_
        refine g_get (C := RX11) (T := TX11) (N := 16) (v := .int (S 392 12)) cx hw inlX11 392 (by omega) he_c392 rfl 12 (by decide) gw_800 rfl rfl dX11_findWay_39 ?_
        refine lv_icmp_ge (tgt := 67) cx.1 cx.2.1 dX11_findWay_42 (by decide) (fun hc => ?_) (fun hc => ?_)
        · rw [if_pos hc] at hf
          obtain ⟨x6_13, ex6_13, hf⟩ := gvi_ex hf
          refine lv_iinc (v := x6_13) (lv' := [(6, .int x6_13), (0, .ref (G.2.1 392)), (1, .ref (G.2.1 k1)), (2, .int x2), (3, .int x3), (5, .int x5)]) cx.1 cx.2.1 dX11_findWay_67 hl (k := 5) rfl (by rw [← ex6_13]; rfl) (by decide) rfl (fun ls hl => ?_)
          refine lv_goto (tgt := 19) cx.1 cx.2.1 dX11_findWay_70 (by decide) ?_
          exact hK19 S x2 x3 x5 x6_13 _ _ _ hw hS (lv_sub hl [1, 2, 3, 4, 5, 0] rfl) hf
        · rw [if_neg hc] at hf
          refine lv_aload_n cx.1 cx.2.1 dX11_findWay_45 rfl (lv_at hl 0 rfl) ?_
          refine lv_aload_n cx.1 cx.2.1 dX11_findWay_46 rfl (lv_at hl 0 rfl) ?_
          refine g_get (C := RX11) (T := TX11) (N := 16) (v := .ref (G.2.1 400)) cx hw inlX11 392 (by omega) he_c392 rfl 11 (by decide) gw_150 rfl rfl dX11_findWay_47 ?_
          refine lv_bipush (v := (9 : Int32)) cx.1 cx.2.1 dX11_findWay_50 (by decide) ?_
          refine lv_iload cx.1 cx.2.1 dX11_findWay_52 (lv_at hl 5 rfl) ?_
          refine lv_imul cx.1 cx.2.1 dX11_findWay_54 ?_
          refine lv_iload_n cx.1 cx.2.1 dX11_findWay_55 rfl (lv_at hl 3 rfl) ?_
          refine lv_iadd cx.1 cx.2.1 dX11_findWay_56 ?_
          obtain ⟨hin, hf⟩ := gck_some hf
          refine g_iald cx hw (ia_c400 hM) (vp_of_inb hin) dX11_findWay_57 ?_
          obtain ⟨S_14, eS_14, hf⟩ := gst_ex hf
          refine g_put (C := RX11) (T := TX11) (N := 16) cx hw hS inlX11 tyX11 tyX11_ok nmX11 392 (by omega) he_c392 rfl 12 (by decide) gw_800 rfl rfl (by decide +kernel) (Nat.le_of_ble_eq_true rfl) (by rw [u2_s, he_c392]; rfl) dX11_findWay_58 (fun H locs hw hS => ?_)
          rw [eS_14] at hw
          refine lv_aload_n cx.1 cx.2.1 dX11_findWay_61 rfl (lv_at hl 0 rfl) ?_
          refine lv_iload cx.1 cx.2.1 dX11_findWay_62 (lv_at hl 5 rfl) ?_
          obtain ⟨S_15, eS_15, hf⟩ := gst_ex hf
          refine g_put (C := RX11) (T := TX11) (N := 16) cx hw hS inlX11 tyX11 tyX11_ok nmX11 392 (by omega) he_c392 rfl 13 (by decide) gw_801 rfl rfl (by decide +kernel) (Nat.le_of_ble_eq_true rfl) (by rw [u2_s, he_c392]; rfl) dX11_findWay_64 (fun H locs hw hS => ?_)
          rw [eS_15] at hw
          obtain ⟨x6_16, ex6_16, hf⟩ := gvi_ex hf
          refine lv_iinc (v := x6_16) (lv' := [(6, .int x6_16), (0, .ref (G.2.1 392)), (1, .ref (G.2.1 k1)), (2, .int x2), (3, .int x3), (5, .int x5)]) cx.1 cx.2.1 dX11_findWay_67 hl (k := 5) rfl (by rw [← ex6_16]; rfl) (by decide) rfl (fun ls hl => ?_)
          refine lv_goto (tgt := 19) cx.1 cx.2.1 dX11_findWay_70 (by decide) ?_
          exact hK19 S_15 x2 x3 x5 x6_16 _ _ _ hw hS (lv_sub hl [1, 2, 3, 4, 5, 0] rfl) hf
  have hl : lv_has ls 9 [(0, .ref (G.2.1 392)), (1, .ref (G.2.1 k1)), (2, .int a2), (3, .int a3), (4, .int a4), (5, .int a5)] := hl
  unfold f_X11_findWay at hf
  refine lv_aload_n cx.1 cx.2.1 dX11_findWay_0 rfl (lv_at hl 0 rfl) ?_
  refine lv_aload_n cx.1 cx.2.1 dX11_findWay_1 rfl (lv_at hl 1 rfl) ?_
  refine lv_iload_n cx.1 cx.2.1 dX11_findWay_2 rfl (lv_at hl 2 rfl) ?_
  refine lv_iload cx.1 cx.2.1 dX11_findWay_3 (lv_at hl 4 rfl) ?_
  refine lv_iload cx.1 cx.2.1 dX11_findWay_5 (lv_at hl 5 rfl) ?_
  obtain ⟨S_17, hv, hf⟩ := gbv_some hf
  refine g_V (As := [.ref (G.2.1 k1), .int a2, .int a4, .int a5]) (rest := []) cx hw hS (c_X11_layLeast l G hM hk1 a2 a4 a5 S S_17 hv) (by omega) he_c392 rfl rfl gw_803 gy_X11_layLeast gi_X11_layLeast ⟨Nat.le_of_ble_eq_true rfl, Nat.le_of_ble_eq_true rfl⟩ ⟨Nat.zero_le _, Nat.zero_le _⟩ rfl hl.1 rfl (Nat.le_of_ble_eq_true rfl) dX11_findWay_7 (fun H locs hw hS => ?_)
  refine W.eq (g2 := F0 m 10 ls []) rfl ?_
  refine lv_aload_n cx.1 cx.2.1 dX11_findWay_10 rfl (lv_at hl 0 rfl) ?_
  refine lv_ldc cx.1 cx.2.1 cx.2.2.2.1 (cx.2.2.2.2.ts _ gw_799) dX11_findWay_11 ?_
  obtain ⟨S_18, eS_18, hf⟩ := gst_ex hf
  refine g_put (C := RX11) (T := TX11) (N := 16) cx hw hS inlX11 tyX11 tyX11_ok nmX11 392 (by omega) he_c392 rfl 12 (by decide) gw_800 rfl rfl (by decide +kernel) (Nat.le_of_ble_eq_true rfl) (by rw [u2_s, he_c392]; rfl) dX11_findWay_13 (fun H locs hw hS => ?_)
  rw [eS_18] at hw
  refine lv_iconst (v := (1 : Int32)) cx.1 cx.2.1 dX11_findWay_16 (by decide) ?_
  refine lv_istore (lv' := [(6, .int (1 : Int32)), (0, .ref (G.2.1 392)), (1, .ref (G.2.1 k1)), (2, .int a2), (3, .int a3), (4, .int a4), (5, .int a5)]) cx.1 cx.2.1 dX11_findWay_17 hl (by decide) rfl (fun ls hl => ?_)
  exact hL_19 gFu S_18 a2 a3 a5 (1 : Int32) _ _ _ hw hS (lv_sub hl [1, 2, 3, 4, 6, 0] rfl) hf
set_option maxHeartbeats 4000000 in
set_option maxRecDepth 100000 in
theorem c_X11_bestContract (l : Launch) (G : gG) (hM : 402 ≤ gN G) (a1 : Int32) (S : Sg) (r : Int32) (S' : Sg) (hf : f_X11_bestContract a1 S = some (r, S')) : Ct l yX11_bestContract [Cond.code yX11_bestContract cX11_bestContract 9 (some .int)] (gR 5 128) G [.ref (G.2.1 392), .int a1] S (some (.int r)) S' := by
  refine Ct_of (by decide) (Nat.le_of_ble_eq_true rfl) ?_
  intro p e s m below meth c ls cx hr hlk hw hS hl
  have hN := cx.2.2.2.2.hN
  have hB_195 : ∀ (K81 : Sg → Int32 → Int32 → Int32 → Int32 → Int32 → Option (Int32 × Sg)) (hK81 : ∀ (S : Sg) (x1 : Int32) (x2 : Int32) (x3 : Int32) (x4 : Int32) (x5 : Int32) (H : Heap) (locs : List Loc) (ls : Array Slot), gP G S H → va_S (gA G s.heap.size) s.heap H locs → lv_has ls 9 [(0, .ref (G.2.1 392)), (1, .int x1), (2, .int x2), (3, .int x3), (4, .int x4), (5, .int x5)] → K81 S x1 x2 x3 x4 x5 = some (r, S') → W p l e (gR 5 128) s m ([.ref (G.2.1 392), .int a1] : List Value).toArray below meth c H locs 0 0 (MQ below (gQ G S' (some (.int r)) (gA G s.heap.size)) ([.ref (G.2.1 392), .int a1] : List Value).toArray s 0 0 (gA G s.heap.size)) (F0 m 81 ls [])), ∀ (S : Sg) (x1 : Int32) (x2 : Int32) (x4 : Int32) (x5 : Int32) (x7 : Int32) (x8 : Int32) (t0 : Int32) (H : Heap) (locs : List Loc) (ls : Array Slot), gP G S H → va_S (gA G s.heap.size) s.heap H locs → lv_has ls 9 [(0, .ref (G.2.1 392)), (1, .int x1), (2, .int x2), (4, .int x4), (5, .int x5), (7, .int x7), (8, .int x8)] → B_X11_bestContract_195 K81 S x1 x2 x4 x5 x7 x8 t0 = some (r, S') → W p l e (gR 5 128) s m ([.ref (G.2.1 392), .int a1] : List Value).toArray below meth c H locs 0 0 (MQ below (gQ G S' (some (.int r)) (gA G s.heap.size)) ([.ref (G.2.1 392), .int a1] : List Value).toArray s 0 0 (gA G s.heap.size)) (F0 m 195 ls [.int t0]) := by
    intro K81 hK81 S x1 x2 x4 x5 x7 x8 t0 H locs ls hw hS hl hf
    unfold B_X11_bestContract_195 at hf
    refine lv_istore_n (lv' := [(3, .int t0), (0, .ref (G.2.1 392)), (1, .int x1), (2, .int x2), (4, .int x4), (5, .int x5), (7, .int x7), (8, .int x8)]) cx.1 cx.2.1 dX11_bestContract_195 rfl hl (by decide) rfl (fun ls hl => ?_)
    refine lv_iload cx.1 cx.2.1 dX11_bestContract_196 (lv_at hl 7 rfl) ?_
    refine lv_if_eq (tgt := 206) cx.1 cx.2.1 dX11_bestContract_198 (by decide) (fun hc => ?_) (fun hc => ?_)
    · rw [if_pos hc] at hf
      refine lv_iload cx.1 cx.2.1 dX11_bestContract_206 (lv_at hl 4 rfl) ?_
      refine lv_istore (lv' := [(4, .int x4), (3, .int t0), (0, .ref (G.2.1 392)), (1, .int x1), (2, .int x2), (5, .int x5), (7, .int x7), (8, .int x8)]) cx.1 cx.2.1 dX11_bestContract_208 hl (by decide) rfl (fun ls hl => ?_)
      obtain ⟨x5_1, ex5_1, hf⟩ := gvi_ex hf
      refine lv_iinc (v := x5_1) (lv' := [(5, .int x5_1), (4, .int x4), (3, .int t0), (0, .ref (G.2.1 392)), (1, .int x1), (2, .int x2), (7, .int x7), (8, .int x8)]) cx.1 cx.2.1 dX11_bestContract_210 hl (k := 5) rfl (by rw [← ex5_1]; rfl) (by decide) rfl (fun ls hl => ?_)
      refine lv_goto (tgt := 81) cx.1 cx.2.1 dX11_bestContract_213 (by decide) ?_
      exact hK81 S x1 x2 t0 x4 x5_1 _ _ _ hw hS (lv_sub hl [3, 4, 5, 2, 1, 0] rfl) hf
    · rw [if_neg hc] at hf
      refine lv_iload cx.1 cx.2.1 dX11_bestContract_201 (lv_at hl 6 rfl) ?_
      refine lv_goto (tgt := 208) cx.1 cx.2.1 dX11_bestContract_203 (by decide) ?_
      refine lv_istore (lv' := [(4, .int x7), (3, .int t0), (0, .ref (G.2.1 392)), (1, .int x1), (2, .int x2), (5, .int x5), (7, .int x7), (8, .int x8)]) cx.1 cx.2.1 dX11_bestContract_208 hl (by decide) rfl (fun ls hl => ?_)
      obtain ⟨x5_2, ex5_2, hf⟩ := gvi_ex hf
      refine lv_iinc (v := x5_2) (lv' := [(5, .int x5_2), (4, .int x7), (3, .int t0), (0, .ref (G.2.1 392)), (1, .int x1), (2, .int x2), (7, .int x7), (8, .int x8)]) cx.1 cx.2.1 dX11_bestContract_210 hl (k := 5) rfl (by rw [← ex5_2]; rfl) (by decide) rfl (fun ls hl => ?_)
      refine lv_goto (tgt := 81) cx.1 cx.2.1 dX11_bestContract_213 (by decide) ?_
      exact hK81 S x1 x2 t0 x7 x5_2 _ _ _ hw hS (lv_sub hl [3, 4, 5, 2, 1, 0] rfl) hf
  have hB_182 : ∀ (K81 : Sg → Int32 → Int32 → Int32 → Int32 → Int32 → Option (Int32 × Sg)) (hK81 : ∀ (S : Sg) (x1 : Int32) (x2 : Int32) (x3 : Int32) (x4 : Int32) (x5 : Int32) (H : Heap) (locs : List Loc) (ls : Array Slot), gP G S H → va_S (gA G s.heap.size) s.heap H locs → lv_has ls 9 [(0, .ref (G.2.1 392)), (1, .int x1), (2, .int x2), (3, .int x3), (4, .int x4), (5, .int x5)] → K81 S x1 x2 x3 x4 x5 = some (r, S') → W p l e (gR 5 128) s m ([.ref (G.2.1 392), .int a1] : List Value).toArray below meth c H locs 0 0 (MQ below (gQ G S' (some (.int r)) (gA G s.heap.size)) ([.ref (G.2.1 392), .int a1] : List Value).toArray s 0 0 (gA G s.heap.size)) (F0 m 81 ls [])), ∀ (S : Sg) (x1 : Int32) (x2 : Int32) (x3 : Int32) (x4 : Int32) (x5 : Int32) (x7 : Int32) (t0 : Int32) (H : Heap) (locs : List Loc) (ls : Array Slot), gP G S H → va_S (gA G s.heap.size) s.heap H locs → lv_has ls 9 [(0, .ref (G.2.1 392)), (1, .int x1), (2, .int x2), (3, .int x3), (4, .int x4), (5, .int x5), (7, .int x7)] → B_X11_bestContract_182 K81 S x1 x2 x3 x4 x5 x7 t0 = some (r, S') → W p l e (gR 5 128) s m ([.ref (G.2.1 392), .int a1] : List Value).toArray below meth c H locs 0 0 (MQ below (gQ G S' (some (.int r)) (gA G s.heap.size)) ([.ref (G.2.1 392), .int a1] : List Value).toArray s 0 0 (gA G s.heap.size)) (F0 m 182 ls [.int t0]) := by
    intro K81 hK81 S x1 x2 x3 x4 x5 x7 t0 H locs ls hw hS hl hf
    unfold B_X11_bestContract_182 at hf
    refine lv_istore (lv' := [(8, .int t0), (0, .ref (G.2.1 392)), (1, .int x1), (2, .int x2), (3, .int x3), (4, .int x4), (5, .int x5), (7, .int x7)]) cx.1 cx.2.1 dX11_bestContract_182 hl (by decide) rfl (fun ls hl => ?_)
    refine lv_iload cx.1 cx.2.1 dX11_bestContract_184 (lv_at hl 0 rfl) ?_
    refine lv_if_eq (tgt := 194) cx.1 cx.2.1 dX11_bestContract_186 (by decide) (fun hc => ?_) (fun hc => ?_)
    · rw [if_pos hc] at hf
      refine lv_iload_n cx.1 cx.2.1 dX11_bestContract_194 rfl (lv_at hl 4 rfl) ?_
      exact hB_195 K81 hK81 S x1 x2 x4 x5 x7 t0 x3 _ _ _ hw hS (lv_sub hl [1, 2, 3, 5, 6, 7, 0] rfl) hf
    · rw [if_neg hc] at hf
      refine lv_iload cx.1 cx.2.1 dX11_bestContract_189 (lv_at hl 6 rfl) ?_
      refine lv_goto (tgt := 195) cx.1 cx.2.1 dX11_bestContract_191 (by decide) ?_
      exact hB_195 K81 hK81 S x1 x2 x4 x5 x7 t0 x5 _ _ _ hw hS (lv_sub hl [1, 2, 3, 5, 6, 7, 0] rfl) hf
  have hL_81 : ∀ (n : Nat), ∀ (S : Sg) (x1 : Int32) (x2 : Int32) (x3 : Int32) (x4 : Int32) (x5 : Int32) (H : Heap) (locs : List Loc) (ls : Array Slot), gP G S H → va_S (gA G s.heap.size) s.heap H locs → lv_has ls 9 [(0, .ref (G.2.1 392)), (1, .int x1), (2, .int x2), (3, .int x3), (4, .int x4), (5, .int x5)] → L_X11_bestContract_81 n S x1 x2 x3 x4 x5 = some (r, S') → W p l e (gR 5 128) s m ([.ref (G.2.1 392), .int a1] : List Value).toArray below meth c H locs 0 0 (MQ below (gQ G S' (some (.int r)) (gA G s.heap.size)) ([.ref (G.2.1 392), .int a1] : List Value).toArray s 0 0 (gA G s.heap.size)) (F0 m 81 ls []) := by
    intro n
    induction n with
    | zero => intro S x1 x2 x3 x4 x5 H locs ls hw hS hl hf; cases hf
    | succ n hK81 =>
      intro S x1 x2 x3 x4 x5 H locs ls hw hS hl hf
      have hf : Lb_X11_bestContract_81 (L_X11_bestContract_81 n) S x1 x2 x3 x4 x5 = some (r, S') := hf
      unfold Lb_X11_bestContract_81 at hf
      refine lv_iload cx.1 cx.2.1 dX11_bestContract_81 (lv_at hl 5 rfl) ?_
      refine lv_aload_n cx.1 cx.2.1 dX11_bestContract_83 rfl (lv_at hl 0 rfl) ?_
      refine g_get (C := RX11) (T := TX11) (N := 16) (v := .ref (G.2.1 395)) cx hw inlX11 392 (by omega) he_c392 rfl 5 (by decide) gw_144 rfl rfl dX11_bestContract_84 ?_
      refine lv_iconst (v := (2 : Int32)) cx.1 cx.2.1 dX11_bestContract_87 (by decide) ?_
      obtain ⟨hin, hf⟩ := gck_some hf
      refine g_iald cx hw (ia_c395 hM) (vp_of_inb hin) dX11_bestContract_88 ?_
      refine lv_icmp_ge (tgt := 216) cx.1 cx.2.1 dX11_bestContract_89 (by decide) (fun hc => ?_) (fun hc => ?_)
      · rw [if_pos hc] at hf
        refine lv_iload_n cx.1 cx.2.1 dX11_bestContract_216 rfl (lv_at hl 3 rfl) ?_
        exact g_ireti cx hr hlk hw hS hf dX11_bestContract_217
      · rw [if_neg hc] at hf
        refine lv_iload_n cx.1 cx.2.1 dX11_bestContract_92 rfl (lv_at hl 2 rfl) ?_
        refine lv_if_le (tgt := 216) cx.1 cx.2.1 dX11_bestContract_93 (by decide) (fun hc => ?_) (fun hc => ?_)
        · rw [if_pos hc] at hf
          refine lv_iload_n cx.1 cx.2.1 dX11_bestContract_216 rfl (lv_at hl 3 rfl) ?_
          exact g_ireti cx hr hlk hw hS hf dX11_bestContract_217
        · rw [if_neg hc] at hf
          refine lv_iload cx.1 cx.2.1 dX11_bestContract_96 (lv_at hl 5 rfl) ?_
          obtain ⟨v_4, S_3, hv, hf⟩ := gbi_some hf
          refine g_S (As := [.int x5]) (rest := []) cx hw hS (c_X11_contractAt l G hM x5 S v_4 S_3 hv) gw_299 gy_X11_contractAt gi_X11_contractAt ⟨Nat.le_of_ble_eq_true rfl, Nat.le_of_ble_eq_true rfl⟩ ⟨Nat.zero_le _, Nat.zero_le _⟩ rfl hl.1 rfl (Nat.le_of_ble_eq_true rfl) dX11_bestContract_98 (fun H locs hw hS => ?_)
          refine W.eq (g2 := F0 m 101 ls [.int v_4]) rfl ?_
          refine lv_istore (lv' := [(6, .int v_4), (0, .ref (G.2.1 392)), (1, .int x1), (2, .int x2), (3, .int x3), (4, .int x4), (5, .int x5)]) cx.1 cx.2.1 dX11_bestContract_101 hl (by decide) rfl (fun ls hl => ?_)
          refine lv_aload_n cx.1 cx.2.1 dX11_bestContract_103 rfl (lv_at hl 1 rfl) ?_
          refine g_get (C := RX11) (T := TX11) (N := 16) (v := .ref (G.2.1 395)) cx hw inlX11 392 (by omega) he_c392 rfl 5 (by decide) gw_144 rfl rfl dX11_bestContract_104 ?_
          refine lv_iload cx.1 cx.2.1 dX11_bestContract_107 (lv_at hl 0 rfl) ?_
          refine lv_iconst (v := (4 : Int32)) cx.1 cx.2.1 dX11_bestContract_109 (by decide) ?_
          refine lv_iadd cx.1 cx.2.1 dX11_bestContract_110 ?_
          obtain ⟨hin, hf⟩ := gck_some hf
          refine g_iald cx hw (ia_c395 hM) (vp_of_inb hin) dX11_bestContract_111 ?_
          refine lv_bipush (v := (-9 : Int32)) cx.1 cx.2.1 dX11_bestContract_112 (by decide) ?_
          refine lv_icmp_ne (tgt := 210) cx.1 cx.2.1 dX11_bestContract_114 (by decide) (fun hc => ?_) (fun hc => ?_)
          · rw [if_neg hc] at hf
            obtain ⟨x5_5, ex5_5, hf⟩ := gvi_ex hf
            refine lv_iinc (v := x5_5) (lv' := [(5, .int x5_5), (6, .int v_4), (0, .ref (G.2.1 392)), (1, .int x1), (2, .int x2), (3, .int x3), (4, .int x4)]) cx.1 cx.2.1 dX11_bestContract_210 hl (k := 6) rfl (by rw [← ex5_5]; rfl) (by decide) rfl (fun ls hl => ?_)
            refine lv_goto (tgt := 81) cx.1 cx.2.1 dX11_bestContract_213 (by decide) ?_
            exact hK81 S_3 x1 x2 x3 x4 x5_5 _ _ _ hw hS (lv_sub hl [2, 3, 4, 5, 6, 0] rfl) hf
          · rw [if_pos hc] at hf
            refine lv_aload_n cx.1 cx.2.1 dX11_bestContract_117 rfl (lv_at hl 1 rfl) ?_
            refine lv_aload_n cx.1 cx.2.1 dX11_bestContract_118 rfl (lv_at hl 1 rfl) ?_
            refine g_get (C := RX11) (T := TX11) (N := 16) (v := .ref (G.2.1 395)) cx hw inlX11 392 (by omega) he_c392 rfl 5 (by decide) gw_144 rfl rfl dX11_bestContract_119 ?_
            refine lv_iload_n cx.1 cx.2.1 dX11_bestContract_122 rfl (lv_at hl 2 rfl) ?_
            refine lv_aload_n cx.1 cx.2.1 dX11_bestContract_123 rfl (lv_at hl 1 rfl) ?_
            refine g_get (C := RX11) (T := TX11) (N := 16) (v := .ref (G.2.1 395)) cx hw inlX11 392 (by omega) he_c392 rfl 5 (by decide) gw_144 rfl rfl dX11_bestContract_124 ?_
            refine lv_iload cx.1 cx.2.1 dX11_bestContract_127 (lv_at hl 0 rfl) ?_
            obtain ⟨hin, hf⟩ := gck_some hf
            refine g_iald cx hw (ia_c395 hM) (vp_of_inb hin) dX11_bestContract_129 ?_
            refine lv_aload_n cx.1 cx.2.1 dX11_bestContract_130 rfl (lv_at hl 1 rfl) ?_
            refine g_get (C := RX11) (T := TX11) (N := 16) (v := .ref (G.2.1 395)) cx hw inlX11 392 (by omega) he_c392 rfl 5 (by decide) gw_144 rfl rfl dX11_bestContract_131 ?_
            refine lv_iload cx.1 cx.2.1 dX11_bestContract_134 (lv_at hl 0 rfl) ?_
            refine lv_iconst (v := (1 : Int32)) cx.1 cx.2.1 dX11_bestContract_136 (by decide) ?_
            refine lv_iadd cx.1 cx.2.1 dX11_bestContract_137 ?_
            obtain ⟨hin, hf⟩ := gck_some hf
            refine g_iald cx hw (ia_c395 hM) (vp_of_inb hin) dX11_bestContract_138 ?_
            refine lv_iconst (v := (4 : Int32)) cx.1 cx.2.1 dX11_bestContract_139 (by decide) ?_
            refine lv_iload_n cx.1 cx.2.1 dX11_bestContract_140 rfl (lv_at hl 3 rfl) ?_
            refine lv_imul cx.1 cx.2.1 dX11_bestContract_141 ?_
            obtain ⟨v_7, S_6, hv, hf⟩ := gbi_some hf
            refine g_V (As := [.ref (G.2.1 395), .int x1, .int (S_3 395 v_4.toNatClampNeg), .int (S_3 395 (v_4 + (1 : Int32)).toNatClampNeg), .int ((4 : Int32) * x2)]) (rest := []) cx hw hS (c_X11_findWay l G hM (ia_c395 hM) x1 (S_3 395 v_4.toNatClampNeg) (S_3 395 (v_4 + (1 : Int32)).toNatClampNeg) ((4 : Int32) * x2) S_3 v_7 S_6 hv) (by omega) he_c392 rfl rfl gw_795 gy_X11_findWay gi_X11_findWay ⟨Nat.le_of_ble_eq_true rfl, Nat.le_of_ble_eq_true rfl⟩ ⟨Nat.zero_le _, Nat.zero_le _⟩ rfl hl.1 rfl (Nat.le_of_ble_eq_true rfl) dX11_bestContract_142 (fun H locs hw hS => ?_)
            refine W.eq (g2 := F0 m 145 ls [.int v_7]) rfl ?_
            refine lv_if_eq (tgt := 210) cx.1 cx.2.1 dX11_bestContract_145 (by decide) (fun hc => ?_) (fun hc => ?_)
            · rw [if_pos hc] at hf
              obtain ⟨x5_8, ex5_8, hf⟩ := gvi_ex hf
              refine lv_iinc (v := x5_8) (lv' := [(5, .int x5_8), (6, .int v_4), (0, .ref (G.2.1 392)), (1, .int x1), (2, .int x2), (3, .int x3), (4, .int x4)]) cx.1 cx.2.1 dX11_bestContract_210 hl (k := 6) rfl (by rw [← ex5_8]; rfl) (by decide) rfl (fun ls hl => ?_)
              refine lv_goto (tgt := 81) cx.1 cx.2.1 dX11_bestContract_213 (by decide) ?_
              exact hK81 S_6 x1 x2 x3 x4 x5_8 _ _ _ hw hS (lv_sub hl [2, 3, 4, 5, 6, 0] rfl) hf
            · rw [if_neg hc] at hf
              refine lv_aload_n cx.1 cx.2.1 dX11_bestContract_148 rfl (lv_at hl 1 rfl) ?_
              refine g_get (C := RX11) (T := TX11) (N := 16) (v := .ref (G.2.1 395)) cx hw inlX11 392 (by omega) he_c392 rfl 5 (by decide) gw_144 rfl rfl dX11_bestContract_149 ?_
              refine lv_iload cx.1 cx.2.1 dX11_bestContract_152 (lv_at hl 0 rfl) ?_
              refine lv_iconst (v := (2 : Int32)) cx.1 cx.2.1 dX11_bestContract_154 (by decide) ?_
              refine lv_iadd cx.1 cx.2.1 dX11_bestContract_155 ?_
              obtain ⟨hin, hf⟩ := gck_some hf
              refine g_iald cx hw (ia_c395 hM) (vp_of_inb hin) dX11_bestContract_156 ?_
              refine lv_aload_n cx.1 cx.2.1 dX11_bestContract_157 rfl (lv_at hl 1 rfl) ?_
              refine g_get (C := RX11) (T := TX11) (N := 16) (v := .int (S_6 392 12)) cx hw inlX11 392 (by omega) he_c392 rfl 12 (by decide) gw_800 rfl rfl dX11_bestContract_158 ?_
              refine lv_isub cx.1 cx.2.1 dX11_bestContract_161 ?_
              obtain ⟨x7_9, ex7_9, hf⟩ := gvi_ex hf
              refine W.eq (g2 := F0 m 162 ls [.int x7_9]) (by rw [← ex7_9]) ?_
              refine lv_istore (lv' := [(7, .int x7_9), (6, .int v_4), (0, .ref (G.2.1 392)), (1, .int x1), (2, .int x2), (3, .int x3), (4, .int x4), (5, .int x5)]) cx.1 cx.2.1 dX11_bestContract_162 hl (by decide) rfl (fun ls hl => ?_)
              refine lv_iload_n cx.1 cx.2.1 dX11_bestContract_164 rfl (lv_at hl 5 rfl) ?_
              refine lv_bipush (v := (-9 : Int32)) cx.1 cx.2.1 dX11_bestContract_165 (by decide) ?_
              refine lv_icmp_eq (tgt := 177) cx.1 cx.2.1 dX11_bestContract_167 (by decide) (fun hc => ?_) (fun hc => ?_)
              · rw [if_pos hc] at hf
                refine lv_iconst (v := (1 : Int32)) cx.1 cx.2.1 dX11_bestContract_177 (by decide) ?_
                refine lv_goto (tgt := 182) cx.1 cx.2.1 dX11_bestContract_178 (by decide) ?_
                exact hB_182 (L_X11_bestContract_81 n) hK81 S_6 x1 x2 x3 x4 x5 x7_9 (1 : Int32) _ _ _ hw hS (lv_sub hl [2, 3, 4, 5, 6, 7, 0] rfl) hf
              · rw [if_neg hc] at hf
                refine lv_iload cx.1 cx.2.1 dX11_bestContract_170 (lv_at hl 0 rfl) ?_
                refine lv_iload cx.1 cx.2.1 dX11_bestContract_172 (lv_at hl 6 rfl) ?_
                refine lv_icmp_le (tgt := 181) cx.1 cx.2.1 dX11_bestContract_174 (by decide) (fun hc => ?_) (fun hc => ?_)
                · rw [if_pos hc] at hf
                  refine lv_iconst (v := (0 : Int32)) cx.1 cx.2.1 dX11_bestContract_181 (by decide) ?_
                  exact hB_182 (L_X11_bestContract_81 n) hK81 S_6 x1 x2 x3 x4 x5 x7_9 (0 : Int32) _ _ _ hw hS (lv_sub hl [2, 3, 4, 5, 6, 7, 0] rfl) hf
                · rw [if_neg hc] at hf
                  refine lv_iconst (v := (1 : Int32)) cx.1 cx.2.1 dX11_bestContract_177 (by decide) ?_
                  refine lv_goto (tgt := 182) cx.1 cx.2.1 dX11_bestContract_178 (by decide) ?_
                  exact hB_182 (L_X11_bestContract_81 n) hK81 S_6 x1 x2 x3 x4 x5 x7_9 (1 : Int32) _ _ _ hw hS (lv_sub hl [2, 3, 4, 5, 6, 7, 0] rfl) hf
  have hL_25 : ∀ (n : Nat), ∀ (S : Sg) (x1 : Int32) (x2 : Int32) (x3 : Int32) (H : Heap) (locs : List Loc) (ls : Array Slot), gP G S H → va_S (gA G s.heap.size) s.heap H locs → lv_has ls 9 [(0, .ref (G.2.1 392)), (1, .int x1), (2, .int x2), (3, .int x3)] → L_X11_bestContract_25 n S x1 x2 x3 = some (r, S') → W p l e (gR 5 128) s m ([.ref (G.2.1 392), .int a1] : List Value).toArray below meth c H locs 0 0 (MQ below (gQ G S' (some (.int r)) (gA G s.heap.size)) ([.ref (G.2.1 392), .int a1] : List Value).toArray s 0 0 (gA G s.heap.size)) (F0 m 25 ls []) := by
    intro n
    induction n with
    | zero => intro S x1 x2 x3 H locs ls hw hS hl hf; cases hf
    | succ n hK25 =>
      intro S x1 x2 x3 H locs ls hw hS hl hf
      have hf : Lb_X11_bestContract_25 (L_X11_bestContract_25 n) S x1 x2 x3 = some (r, S') := hf
      unfold Lb_X11_bestContract_25 at hf
      refine lv_iload_n cx.1 cx.2.1 dX11_bestContract_25 rfl (lv_at hl 3 rfl) ?_
      refine lv_aload_n cx.1 cx.2.1 dX11_bestContract_26 rfl (lv_at hl 0 rfl) ?_
      refine g_get (C := RX11) (T := TX11) (N := 16) (v := .ref (G.2.1 395)) cx hw inlX11 392 (by omega) he_c392 rfl 5 (by decide) gw_144 rfl rfl dX11_bestContract_27 ?_
      refine lv_iload_n cx.1 cx.2.1 dX11_bestContract_30 rfl (lv_at hl 1 rfl) ?_
      obtain ⟨v_11, S_10, hv, hf⟩ := gbi_some hf
      refine g_S (As := [.ref (G.2.1 395), .int x1]) (rest := [.int x3]) cx hw hS (c_X11_trainsOf l G hM (ia_c395 hM) x1 S v_11 S_10 hv) gw_489 gy_X11_trainsOf gi_X11_trainsOf ⟨Nat.le_of_ble_eq_true rfl, Nat.le_of_ble_eq_true rfl⟩ ⟨Nat.zero_le _, Nat.zero_le _⟩ rfl hl.1 rfl (Nat.le_of_ble_eq_true rfl) dX11_bestContract_31 (fun H locs hw hS => ?_)
      refine W.eq (g2 := F0 m 34 ls [.int v_11, .int x3]) rfl ?_
      refine lv_icmp_ge (tgt := 72) cx.1 cx.2.1 dX11_bestContract_34 (by decide) (fun hc => ?_) (fun hc => ?_)
      · rw [if_pos hc] at hf
        refine lv_bipush (v := (-9 : Int32)) cx.1 cx.2.1 dX11_bestContract_72 (by decide) ?_
        refine lv_istore_n (lv' := [(3, .int (-9 : Int32)), (0, .ref (G.2.1 392)), (1, .int x1), (2, .int x2)]) cx.1 cx.2.1 dX11_bestContract_74 rfl hl (by decide) rfl (fun ls hl => ?_)
        refine lv_iconst (v := (0 : Int32)) cx.1 cx.2.1 dX11_bestContract_75 (by decide) ?_
        refine lv_istore (lv' := [(4, .int (0 : Int32)), (3, .int (-9 : Int32)), (0, .ref (G.2.1 392)), (1, .int x1), (2, .int x2)]) cx.1 cx.2.1 dX11_bestContract_76 hl (by decide) rfl (fun ls hl => ?_)
        refine lv_iconst (v := (0 : Int32)) cx.1 cx.2.1 dX11_bestContract_78 (by decide) ?_
        refine lv_istore (lv' := [(5, .int (0 : Int32)), (4, .int (0 : Int32)), (3, .int (-9 : Int32)), (0, .ref (G.2.1 392)), (1, .int x1), (2, .int x2)]) cx.1 cx.2.1 dX11_bestContract_79 hl (by decide) rfl (fun ls hl => ?_)
        exact hL_81 gFu S_10 x1 x2 (-9 : Int32) (0 : Int32) (0 : Int32) _ _ _ hw hS (lv_sub hl [3, 4, 5, 2, 1, 0] rfl) hf
      · rw [if_neg hc] at hf
        refine lv_aload_n cx.1 cx.2.1 dX11_bestContract_37 rfl (lv_at hl 0 rfl) ?_
        refine g_get (C := RX11) (T := TX11) (N := 16) (v := .ref (G.2.1 395)) cx hw inlX11 392 (by omega) he_c392 rfl 5 (by decide) gw_144 rfl rfl dX11_bestContract_38 ?_
        refine lv_iload_n cx.1 cx.2.1 dX11_bestContract_41 rfl (lv_at hl 1 rfl) ?_
        refine lv_iload_n cx.1 cx.2.1 dX11_bestContract_42 rfl (lv_at hl 3 rfl) ?_
        obtain ⟨v_13, S_12, hv, hf⟩ := gbi_some hf
        refine g_S (As := [.int x1, .int x3]) (rest := [.ref (G.2.1 395)]) cx hw hS (c_X11_trainAt l G hM x1 x3 S_10 v_13 S_12 hv) gw_492 gy_X11_trainAt gi_X11_trainAt ⟨Nat.le_of_ble_eq_true rfl, Nat.le_of_ble_eq_true rfl⟩ ⟨Nat.zero_le _, Nat.zero_le _⟩ rfl hl.1 rfl (Nat.le_of_ble_eq_true rfl) dX11_bestContract_43 (fun H locs hw hS => ?_)
        refine W.eq (g2 := F0 m 46 ls [.int v_13, .ref (G.2.1 395)]) rfl ?_
        obtain ⟨hin, hf⟩ := gck_some hf
        refine g_iald cx hw (ia_c395 hM) (vp_of_inb hin) dX11_bestContract_46 ?_
        refine lv_iload_n cx.1 cx.2.1 dX11_bestContract_47 rfl (lv_at hl 2 rfl) ?_
        refine lv_icmp_le (tgt := 64) cx.1 cx.2.1 dX11_bestContract_48 (by decide) (fun hc => ?_) (fun hc => ?_)
        · rw [if_pos hc] at hf
          refine lv_iload_n cx.1 cx.2.1 dX11_bestContract_64 rfl (lv_at hl 2 rfl) ?_
          refine lv_istore_n (lv' := [(2, .int x2), (0, .ref (G.2.1 392)), (1, .int x1), (3, .int x3)]) cx.1 cx.2.1 dX11_bestContract_65 rfl hl (by decide) rfl (fun ls hl => ?_)
          obtain ⟨x3_14, ex3_14, hf⟩ := gvi_ex hf
          refine lv_iinc (v := x3_14) (lv' := [(3, .int x3_14), (2, .int x2), (0, .ref (G.2.1 392)), (1, .int x1)]) cx.1 cx.2.1 dX11_bestContract_66 hl (k := 3) rfl (by rw [← ex3_14]; rfl) (by decide) rfl (fun ls hl => ?_)
          refine lv_goto (tgt := 25) cx.1 cx.2.1 dX11_bestContract_69 (by decide) ?_
          exact hK25 S_12 x1 x2 x3_14 _ _ _ hw hS (lv_sub hl [2, 3, 1, 0] rfl) hf
        · rw [if_neg hc] at hf
          refine lv_aload_n cx.1 cx.2.1 dX11_bestContract_51 rfl (lv_at hl 0 rfl) ?_
          refine g_get (C := RX11) (T := TX11) (N := 16) (v := .ref (G.2.1 395)) cx hw inlX11 392 (by omega) he_c392 rfl 5 (by decide) gw_144 rfl rfl dX11_bestContract_52 ?_
          refine lv_iload_n cx.1 cx.2.1 dX11_bestContract_55 rfl (lv_at hl 1 rfl) ?_
          refine lv_iload_n cx.1 cx.2.1 dX11_bestContract_56 rfl (lv_at hl 3 rfl) ?_
          obtain ⟨v_16, S_15, hv, hf⟩ := gbi_some hf
          refine g_S (As := [.int x1, .int x3]) (rest := [.ref (G.2.1 395)]) cx hw hS (c_X11_trainAt l G hM x1 x3 S_12 v_16 S_15 hv) gw_492 gy_X11_trainAt gi_X11_trainAt ⟨Nat.le_of_ble_eq_true rfl, Nat.le_of_ble_eq_true rfl⟩ ⟨Nat.zero_le _, Nat.zero_le _⟩ rfl hl.1 rfl (Nat.le_of_ble_eq_true rfl) dX11_bestContract_57 (fun H locs hw hS => ?_)
          refine W.eq (g2 := F0 m 60 ls [.int v_16, .ref (G.2.1 395)]) rfl ?_
          obtain ⟨hin, hf⟩ := gck_some hf
          refine g_iald cx hw (ia_c395 hM) (vp_of_inb hin) dX11_bestContract_60 ?_
          refine lv_goto (tgt := 65) cx.1 cx.2.1 dX11_bestContract_61 (by decide) ?_
          obtain ⟨x2_17, ex2_17, hf⟩ := gvi_ex hf
          refine W.eq (g2 := F0 m 65 ls [.int x2_17]) (by rw [← ex2_17]) ?_
          refine lv_istore_n (lv' := [(2, .int x2_17), (0, .ref (G.2.1 392)), (1, .int x1), (3, .int x3)]) cx.1 cx.2.1 dX11_bestContract_65 rfl hl (by decide) rfl (fun ls hl => ?_)
          obtain ⟨x3_18, ex3_18, hf⟩ := gvi_ex hf
          refine lv_iinc (v := x3_18) (lv' := [(3, .int x3_18), (2, .int x2_17), (0, .ref (G.2.1 392)), (1, .int x1)]) cx.1 cx.2.1 dX11_bestContract_66 hl (k := 3) rfl (by rw [← ex3_18]; rfl) (by decide) rfl (fun ls hl => ?_)
          refine lv_goto (tgt := 25) cx.1 cx.2.1 dX11_bestContract_69 (by decide) ?_
          exact hK25 S_15 x1 x2_17 x3_18 _ _ _ hw hS (lv_sub hl [2, 3, 1, 0] rfl) hf
  have hB_13 : ∀ (S : Sg) (x1 : Int32) (t0 : Int32) (H : Heap) (locs : List Loc) (ls : Array Slot), gP G S H → va_S (gA G s.heap.size) s.heap H locs → lv_has ls 9 [(0, .ref (G.2.1 392)), (1, .int x1)] → B_X11_bestContract_13 S x1 t0 = some (r, S') → W p l e (gR 5 128) s m ([.ref (G.2.1 392), .int a1] : List Value).toArray below meth c H locs 0 0 (MQ below (gQ G S' (some (.int r)) (gA G s.heap.size)) ([.ref (G.2.1 392), .int a1] : List Value).toArray s 0 0 (gA G s.heap.size)) (F0 m 13 ls [.int t0, .ref (G.2.1 392)]) := by
    intro S x1 t0 H locs ls hw hS hl hf
    unfold B_X11_bestContract_13 at hf
    obtain ⟨v_20, S_19, hv, hf⟩ := gbi_some hf
    refine g_V (As := [.int t0]) (rest := []) cx hw hS (c_X11_refused l G hM t0 S v_20 S_19 hv) (by omega) he_c392 rfl rfl gw_200 gy_X11_refused gi_X11_refused ⟨Nat.le_of_ble_eq_true rfl, Nat.le_of_ble_eq_true rfl⟩ ⟨Nat.zero_le _, Nat.zero_le _⟩ rfl hl.1 rfl (Nat.le_of_ble_eq_true rfl) dX11_bestContract_13 (fun H locs hw hS => ?_)
    refine W.eq (g2 := F0 m 16 ls [.int v_20]) rfl ?_
    refine lv_if_eq (tgt := 21) cx.1 cx.2.1 dX11_bestContract_16 (by decide) (fun hc => ?_) (fun hc => ?_)
    · rw [if_pos hc] at hf
      refine lv_iconst (v := (0 : Int32)) cx.1 cx.2.1 dX11_bestContract_21 (by decide) ?_
      refine lv_istore_n (lv' := [(2, .int (0 : Int32)), (0, .ref (G.2.1 392)), (1, .int x1)]) cx.1 cx.2.1 dX11_bestContract_22 rfl hl (by decide) rfl (fun ls hl => ?_)
      refine lv_iconst (v := (0 : Int32)) cx.1 cx.2.1 dX11_bestContract_23 (by decide) ?_
      refine lv_istore_n (lv' := [(3, .int (0 : Int32)), (2, .int (0 : Int32)), (0, .ref (G.2.1 392)), (1, .int x1)]) cx.1 cx.2.1 dX11_bestContract_24 rfl hl (by decide) rfl (fun ls hl => ?_)
      exact hL_25 gFu S_19 x1 (0 : Int32) (0 : Int32) _ _ _ hw hS (lv_sub hl [2, 3, 1, 0] rfl) hf
    · rw [if_neg hc] at hf
      refine lv_iconst (v := (0 : Int32)) cx.1 cx.2.1 dX11_bestContract_19 (by decide) ?_
      exact g_ireti cx hr hlk hw hS hf dX11_bestContract_20
  have hl : lv_has ls 9 [(0, .ref (G.2.1 392)), (1, .int a1)] := hl
  unfold f_X11_bestContract at hf
  refine lv_aload_n cx.1 cx.2.1 dX11_bestContract_0 rfl (lv_at hl 0 rfl) ?_
  refine lv_iload_n cx.1 cx.2.1 dX11_bestContract_1 rfl (lv_at hl 1 rfl) ?_
  obtain ⟨v_22, S_21, hv, hf⟩ := gbi_some hf
  refine g_S (As := [.int a1]) (rest := [.ref (G.2.1 392)]) cx hw hS (c_X11_isCompany l G hM a1 S v_22 S_21 hv) gw_446 gy_X11_isCompany gi_X11_isCompany ⟨Nat.le_of_ble_eq_true rfl, Nat.le_of_ble_eq_true rfl⟩ ⟨Nat.zero_le _, Nat.zero_le _⟩ rfl hl.1 rfl (Nat.le_of_ble_eq_true rfl) dX11_bestContract_2 (fun H locs hw hS => ?_)
  refine W.eq (g2 := F0 m 5 ls [.int v_22, .ref (G.2.1 392)]) rfl ?_
  refine lv_if_eq (tgt := 12) cx.1 cx.2.1 dX11_bestContract_5 (by decide) (fun hc => ?_) (fun hc => ?_)
  · rw [if_pos hc] at hf
    refine lv_iconst (v := (1 : Int32)) cx.1 cx.2.1 dX11_bestContract_12 (by decide) ?_
    exact hB_13 S_21 a1 (1 : Int32) _ _ _ hw hS (lv_sub hl [0, 1] rfl) hf
  · rw [if_neg hc] at hf
    refine lv_iconst (v := (0 : Int32)) cx.1 cx.2.1 dX11_bestContract_8 (by decide) ?_
    refine lv_goto (tgt := 13) cx.1 cx.2.1 dX11_bestContract_9 (by decide) ?_
    exact hB_13 S_21 a1 (0 : Int32) _ _ _ hw hS (lv_sub hl [0, 1] rfl) hf
set_option maxHeartbeats 4000000 in
set_option maxRecDepth 100000 in
theorem c_X11_isTrack (l : Launch) (G : gG) {k0 : Nat} (hM : 402 ≤ gN G) (hk0 : IA G k0 175) (a1 : Int32) (S : Sg) (r : Int32) (S' : Sg) (hf : f_X11_isTrack k0 a1 S = some (r, S')) : Ct l yX11_isTrack [Cond.code yX11_isTrack cX11_isTrack 2 (some .boolean)] (gR 1 25) G [.ref (G.2.1 k0), .int a1] S (some (.int r)) S' := by
  refine Ct_of (by decide) (Nat.le_of_ble_eq_true rfl) ?_
  intro p e s m below meth c ls cx hr hlk hw hS hl
  have hN := cx.2.2.2.2.hN
  have hl : lv_has ls 2 [(0, .ref (G.2.1 k0)), (1, .int a1)] := hl
  unfold f_X11_isTrack at hf
  refine lv_iload_n cx.1 cx.2.1 dX11_isTrack_0 rfl (lv_at hl 1 rfl) ?_
  refine lv_i2l cx.1 cx.2.1 dX11_isTrack_1 rfl ?_
  refine lv_lconst (v := (0 : Int64)) cx.1 cx.2.1 dX11_isTrack_2 (by decide) ?_
  refine lv_aload_n cx.1 cx.2.1 dX11_isTrack_3 rfl (lv_at hl 0 rfl) ?_
  refine lv_iconst (v := (1 : Int32)) cx.1 cx.2.1 dX11_isTrack_4 (by decide) ?_
  obtain ⟨hin, hf⟩ := gck_some hf
  refine g_iald cx hw hk0 (vp_of_inb hin) dX11_isTrack_5 ?_
  refine lv_iconst (v := (1 : Int32)) cx.1 cx.2.1 dX11_isTrack_6 (by decide) ?_
  refine lv_isub cx.1 cx.2.1 dX11_isTrack_7 ?_
  refine lv_i2l cx.1 cx.2.1 dX11_isTrack_8 rfl ?_
  obtain ⟨v_2, S_1, hv, hf⟩ := gbi_some hf
  refine g_S (As := [.long a1.toInt64, .long (0 : Int64), .long (((S k0 (1 : Int32).toNatClampNeg) - (1 : Int32)).toInt64)]) (rest := []) cx hw hS (c_X11_in l G hM a1.toInt64 (0 : Int64) (((S k0 (1 : Int32).toNatClampNeg) - (1 : Int32)).toInt64) S v_2 S_1 hv) gw_197 gy_X11_in gi_X11_in ⟨Nat.le_of_ble_eq_true rfl, Nat.le_of_ble_eq_true rfl⟩ ⟨Nat.zero_le _, Nat.zero_le _⟩ rfl hl.1 rfl (Nat.le_of_ble_eq_true rfl) dX11_isTrack_9 (fun H locs hw hS => ?_)
  refine W.eq (g2 := F0 m 12 ls [.int v_2]) rfl ?_
  obtain ⟨hbo, hf⟩ := gck_some hf
  exact g_zreti cx hr hlk hw hS hbo hf dX11_isTrack_12
set_option maxHeartbeats 4000000 in
set_option maxRecDepth 100000 in
theorem c_X11_canBuyTrack (l : Launch) (G : gG) {k0 : Nat} (hM : 402 ≤ gN G) (hk0 : IA G k0 175) (a1 : Int32) (a2 : Int32) (S : Sg) (r : Int32) (S' : Sg) (hf : f_X11_canBuyTrack k0 a1 a2 S = some (r, S')) : Ct l yX11_canBuyTrack [Cond.code yX11_canBuyTrack cX11_canBuyTrack 3 (some .boolean)] (gR 1 20) G [.ref (G.2.1 k0), .int a1, .int a2] S (some (.int r)) S' := by
  refine Ct_of (by decide) (Nat.le_of_ble_eq_true rfl) ?_
  intro p e s m below meth c ls cx hr hlk hw hS hl
  have hN := cx.2.2.2.2.hN
  have hl : lv_has ls 3 [(0, .ref (G.2.1 k0)), (1, .int a1), (2, .int a2)] := hl
  unfold f_X11_canBuyTrack at hf
  refine lv_aload_n cx.1 cx.2.1 dX11_canBuyTrack_0 rfl (lv_at hl 0 rfl) ?_
  refine lv_iload_n cx.1 cx.2.1 dX11_canBuyTrack_1 rfl (lv_at hl 2 rfl) ?_
  obtain ⟨v_2, S_1, hv, hf⟩ := gbi_some hf
  refine g_S (As := [.int a2]) (rest := [.ref (G.2.1 k0)]) cx hw hS (c_X11_trackAt l G hM a2 S v_2 S_1 hv) gw_161 gy_X11_trackAt gi_X11_trackAt ⟨Nat.le_of_ble_eq_true rfl, Nat.le_of_ble_eq_true rfl⟩ ⟨Nat.zero_le _, Nat.zero_le _⟩ rfl hl.1 rfl (Nat.le_of_ble_eq_true rfl) dX11_canBuyTrack_2 (fun H locs hw hS => ?_)
  refine W.eq (g2 := F0 m 5 ls [.int v_2, .ref (G.2.1 k0)]) rfl ?_
  refine lv_iconst (v := (3 : Int32)) cx.1 cx.2.1 dX11_canBuyTrack_5 (by decide) ?_
  refine lv_iadd cx.1 cx.2.1 dX11_canBuyTrack_6 ?_
  obtain ⟨hin, hf⟩ := gck_some hf
  refine g_iald cx hw hk0 (vp_of_inb hin) dX11_canBuyTrack_7 ?_
  refine lv_bipush (v := (-9 : Int32)) cx.1 cx.2.1 dX11_canBuyTrack_8 (by decide) ?_
  refine lv_icmp_ne (tgt := 36) cx.1 cx.2.1 dX11_canBuyTrack_10 (by decide) (fun hc => ?_) (fun hc => ?_)
  · rw [if_neg hc] at hf
    refine lv_iconst (v := (0 : Int32)) cx.1 cx.2.1 dX11_canBuyTrack_36 (by decide) ?_
    exact g_zreti cx hr hlk hw hS (by decide) hf dX11_canBuyTrack_37
  · rw [if_pos hc] at hf
    refine lv_aload_n cx.1 cx.2.1 dX11_canBuyTrack_13 rfl (lv_at hl 0 rfl) ?_
    refine lv_iload_n cx.1 cx.2.1 dX11_canBuyTrack_14 rfl (lv_at hl 1 rfl) ?_
    obtain ⟨v_4, S_3, hv, hf⟩ := gbi_some hf
    refine g_S (As := [.int a1]) (rest := [.ref (G.2.1 k0)]) cx hw hS (c_X11_companyAt l G hM a1 S_1 v_4 S_3 hv) gw_155 gy_X11_companyAt gi_X11_companyAt ⟨Nat.le_of_ble_eq_true rfl, Nat.le_of_ble_eq_true rfl⟩ ⟨Nat.zero_le _, Nat.zero_le _⟩ rfl hl.1 rfl (Nat.le_of_ble_eq_true rfl) dX11_canBuyTrack_15 (fun H locs hw hS => ?_)
    refine W.eq (g2 := F0 m 18 ls [.int v_4, .ref (G.2.1 k0)]) rfl ?_
    obtain ⟨hin, hf⟩ := gck_some hf
    refine g_iald cx hw hk0 (vp_of_inb hin) dX11_canBuyTrack_18 ?_
    refine lv_iconst (v := (3 : Int32)) cx.1 cx.2.1 dX11_canBuyTrack_19 (by decide) ?_
    refine lv_aload_n cx.1 cx.2.1 dX11_canBuyTrack_20 rfl (lv_at hl 0 rfl) ?_
    refine lv_iload_n cx.1 cx.2.1 dX11_canBuyTrack_21 rfl (lv_at hl 2 rfl) ?_
    obtain ⟨v_6, S_5, hv, hf⟩ := gbi_some hf
    refine g_S (As := [.int a2]) (rest := [.ref (G.2.1 k0), .int (3 : Int32), .int (S_3 k0 v_4.toNatClampNeg)]) cx hw hS (c_X11_trackAt l G hM a2 S_3 v_6 S_5 hv) gw_161 gy_X11_trackAt gi_X11_trackAt ⟨Nat.le_of_ble_eq_true rfl, Nat.le_of_ble_eq_true rfl⟩ ⟨Nat.zero_le _, Nat.zero_le _⟩ rfl hl.1 rfl (Nat.le_of_ble_eq_true rfl) dX11_canBuyTrack_22 (fun H locs hw hS => ?_)
    refine W.eq (g2 := F0 m 25 ls [.int v_6, .ref (G.2.1 k0), .int (3 : Int32), .int (S_3 k0 v_4.toNatClampNeg)]) rfl ?_
    refine lv_iconst (v := (2 : Int32)) cx.1 cx.2.1 dX11_canBuyTrack_25 (by decide) ?_
    refine lv_iadd cx.1 cx.2.1 dX11_canBuyTrack_26 ?_
    obtain ⟨hin, hf⟩ := gck_some hf
    refine g_iald cx hw hk0 (vp_of_inb hin) dX11_canBuyTrack_27 ?_
    refine lv_imul cx.1 cx.2.1 dX11_canBuyTrack_28 ?_
    refine lv_icmp_lt (tgt := 36) cx.1 cx.2.1 dX11_canBuyTrack_29 (by decide) (fun hc => ?_) (fun hc => ?_)
    · rw [if_pos hc] at hf
      refine lv_iconst (v := (0 : Int32)) cx.1 cx.2.1 dX11_canBuyTrack_36 (by decide) ?_
      exact g_zreti cx hr hlk hw hS (by decide) hf dX11_canBuyTrack_37
    · rw [if_neg hc] at hf
      refine lv_iconst (v := (1 : Int32)) cx.1 cx.2.1 dX11_canBuyTrack_32 (by decide) ?_
      refine lv_goto (tgt := 37) cx.1 cx.2.1 dX11_canBuyTrack_33 (by decide) ?_
      exact g_zreti cx hr hlk hw hS (by decide) hf dX11_canBuyTrack_37
set_option maxHeartbeats 4000000 in
set_option maxRecDepth 100000 in
theorem c_X11_note (l : Launch) (G : gG) (hM : 402 ≤ gN G) (S : Sg) (S' : Sg) (hf : f_X11_note S = some S') : Ct l yX11_note [Cond.code yX11_note cX11_note 2 none] (gR 1 24) G [.ref (G.2.1 392)] S none S' := by
  refine Ct_of (by decide) (Nat.le_of_ble_eq_true rfl) ?_
  intro p e s m below meth c ls cx hr hlk hw hS hl
  have hN := cx.2.2.2.2.hN
  have hB_50 : ∀ (S : Sg) (H : Heap) (locs : List Loc) (ls : Array Slot), gP G S H → va_S (gA G s.heap.size) s.heap H locs → lv_has ls 2 [(0, .ref (G.2.1 392))] → B_X11_note_50 S = some S' → W p l e (gR 1 24) s m ([.ref (G.2.1 392)] : List Value).toArray below meth c H locs 0 0 (MQ below (gQ G S' none (gA G s.heap.size)) ([.ref (G.2.1 392)] : List Value).toArray s 0 0 (gA G s.heap.size)) (F0 m 50 ls []) := by
    intro S H locs ls hw hS hl hf
    unfold B_X11_note_50 at hf
    refine lv_aload_n cx.1 cx.2.1 dX11_note_50 rfl (lv_at hl 0 rfl) ?_
    refine g_get (C := RX11) (T := TX11) (N := 16) (v := .ref (G.2.1 395)) cx hw inlX11 392 (by omega) he_c392 rfl 5 (by decide) gw_144 rfl rfl dX11_note_51 ?_
    refine lv_iconst (v := (0 : Int32)) cx.1 cx.2.1 dX11_note_54 (by decide) ?_
    refine lv_aload_n cx.1 cx.2.1 dX11_note_55 rfl (lv_at hl 0 rfl) ?_
    refine g_get (C := RX11) (T := TX11) (N := 16) (v := .ref (G.2.1 397)) cx hw inlX11 392 (by omega) he_c392 rfl 7 (by decide) gw_146 rfl rfl dX11_note_56 ?_
    refine lv_sipush (v := (175 : Int32)) cx.1 cx.2.1 dX11_note_59 (by decide) ?_
    refine lv_aload_n cx.1 cx.2.1 dX11_note_62 rfl (lv_at hl 0 rfl) ?_
    refine g_get (C := RX11) (T := TX11) (N := 16) (v := .int (S 392 8)) cx hw inlX11 392 (by omega) he_c392 rfl 8 (by decide) gw_349 rfl rfl dX11_note_63 ?_
    refine lv_imul cx.1 cx.2.1 dX11_note_66 ?_
    obtain ⟨S_1, hv, hf⟩ := gbv_some hf
    refine g_S (As := [.ref (G.2.1 395), .int (0 : Int32), .ref (G.2.1 397), .int ((175 : Int32) * (S 392 8))]) (rest := []) cx hw hS (c_X11_copyPage l G hM (ia_c395 hM) (ia_c397 hM) (0 : Int32) ((175 : Int32) * (S 392 8)) S S_1 hv) gw_350 gy_X11_copyPage gi_X11_copyPage ⟨Nat.le_of_ble_eq_true rfl, Nat.le_of_ble_eq_true rfl⟩ ⟨Nat.zero_le _, Nat.zero_le _⟩ rfl hl.1 rfl (Nat.le_of_ble_eq_true rfl) dX11_note_67 (fun H locs hw hS => ?_)
    refine W.eq (g2 := F0 m 70 ls []) rfl ?_
    refine lv_aload_n cx.1 cx.2.1 dX11_note_70 rfl (lv_at hl 0 rfl) ?_
    refine lv_dup cx.1 cx.2.1 dX11_note_71 rfl ?_
    refine g_get (C := RX11) (T := TX11) (N := 16) (v := .int (S_1 392 8)) cx hw inlX11 392 (by omega) he_c392 rfl 8 (by decide) gw_349 rfl rfl dX11_note_72 ?_
    refine lv_iconst (v := (1 : Int32)) cx.1 cx.2.1 dX11_note_75 (by decide) ?_
    refine lv_iadd cx.1 cx.2.1 dX11_note_76 ?_
    obtain ⟨S_2, eS_2, hf⟩ := gst_ex hf
    refine g_put (C := RX11) (T := TX11) (N := 16) cx hw hS inlX11 tyX11 tyX11_ok nmX11 392 (by omega) he_c392 rfl 8 (by decide) gw_349 rfl rfl (by decide +kernel) (Nat.le_of_ble_eq_true rfl) (by rw [u2_s, he_c392]; rfl) dX11_note_77 (fun H locs hw hS => ?_)
    rw [eS_2] at hw
    exact g_vreti cx hr hlk hw hS hf dX11_note_80
  have hL_11 : ∀ (n : Nat), ∀ (S : Sg) (x1 : Int32) (H : Heap) (locs : List Loc) (ls : Array Slot), gP G S H → va_S (gA G s.heap.size) s.heap H locs → lv_has ls 2 [(0, .ref (G.2.1 392)), (1, .int x1)] → L_X11_note_11 n S x1 = some S' → W p l e (gR 1 24) s m ([.ref (G.2.1 392)] : List Value).toArray below meth c H locs 0 0 (MQ below (gQ G S' none (gA G s.heap.size)) ([.ref (G.2.1 392)] : List Value).toArray s 0 0 (gA G s.heap.size)) (F0 m 11 ls []) := by
    intro n
    induction n with
    | zero => intro S x1 H locs ls hw hS hl hf; cases hf
    | succ n hK11 =>
      intro S x1 H locs ls hw hS hl hf
      have hf : Lb_X11_note_11 (L_X11_note_11 n) S x1 = some S' := hf
      unfold Lb_X11_note_11 at hf
      refine lv_iload_n cx.1 cx.2.1 dX11_note_11 rfl (lv_at hl 1 rfl) ?_
      refine lv_sipush (v := (2275 : Int32)) cx.1 cx.2.1 dX11_note_12 (by decide) ?_
      refine lv_icmp_ge (tgt := 40) cx.1 cx.2.1 dX11_note_15 (by decide) (fun hc => ?_) (fun hc => ?_)
      · rw [if_pos hc] at hf
        refine lv_aload_n cx.1 cx.2.1 dX11_note_40 rfl (lv_at hl 0 rfl) ?_
        refine lv_dup cx.1 cx.2.1 dX11_note_41 rfl ?_
        refine g_get (C := RX11) (T := TX11) (N := 16) (v := .int (S 392 8)) cx hw inlX11 392 (by omega) he_c392 rfl 8 (by decide) gw_349 rfl rfl dX11_note_42 ?_
        refine lv_iconst (v := (1 : Int32)) cx.1 cx.2.1 dX11_note_45 (by decide) ?_
        refine lv_isub cx.1 cx.2.1 dX11_note_46 ?_
        obtain ⟨S_3, eS_3, hf⟩ := gst_ex hf
        refine g_put (C := RX11) (T := TX11) (N := 16) cx hw hS inlX11 tyX11 tyX11_ok nmX11 392 (by omega) he_c392 rfl 8 (by decide) gw_349 rfl rfl (by decide +kernel) (Nat.le_of_ble_eq_true rfl) (by rw [u2_s, he_c392]; rfl) dX11_note_47 (fun H locs hw hS => ?_)
        rw [eS_3] at hw
        exact hB_50 S_3 _ _ _ hw hS (lv_sub hl [0] rfl) hf
      · rw [if_neg hc] at hf
        refine lv_aload_n cx.1 cx.2.1 dX11_note_18 rfl (lv_at hl 0 rfl) ?_
        refine g_get (C := RX11) (T := TX11) (N := 16) (v := .ref (G.2.1 397)) cx hw inlX11 392 (by omega) he_c392 rfl 7 (by decide) gw_146 rfl rfl dX11_note_19 ?_
        refine lv_iload_n cx.1 cx.2.1 dX11_note_22 rfl (lv_at hl 1 rfl) ?_
        refine lv_aload_n cx.1 cx.2.1 dX11_note_23 rfl (lv_at hl 0 rfl) ?_
        refine g_get (C := RX11) (T := TX11) (N := 16) (v := .ref (G.2.1 397)) cx hw inlX11 392 (by omega) he_c392 rfl 7 (by decide) gw_146 rfl rfl dX11_note_24 ?_
        refine lv_iload_n cx.1 cx.2.1 dX11_note_27 rfl (lv_at hl 1 rfl) ?_
        refine lv_sipush (v := (175 : Int32)) cx.1 cx.2.1 dX11_note_28 (by decide) ?_
        refine lv_iadd cx.1 cx.2.1 dX11_note_31 ?_
        obtain ⟨hin, hf⟩ := gck_some hf
        refine g_iald cx hw (ia_c397 hM) (vp_of_inb hin) dX11_note_32 ?_
        obtain ⟨hin, hf⟩ := gck_some hf
        obtain ⟨S_4, eS_4, hf⟩ := gst_ex hf
        refine g_iast cx hw hS (ia_c397 hM) (vp_of_inb hin) dX11_note_33 (fun H locs hw hS => ?_)
        rw [eS_4] at hw
        obtain ⟨x1_5, ex1_5, hf⟩ := gvi_ex hf
        refine lv_iinc (v := x1_5) (lv' := [(1, .int x1_5), (0, .ref (G.2.1 392))]) cx.1 cx.2.1 dX11_note_34 hl (k := 1) rfl (by rw [← ex1_5]; rfl) (by decide) rfl (fun ls hl => ?_)
        refine lv_goto (tgt := 11) cx.1 cx.2.1 dX11_note_37 (by decide) ?_
        exact hK11 S_4 x1_5 _ _ _ hw hS (lv_sub hl [1, 0] rfl) hf
  have hl : lv_has ls 2 [(0, .ref (G.2.1 392))] := hl
  unfold f_X11_note at hf
  refine lv_aload_n cx.1 cx.2.1 dX11_note_0 rfl (lv_at hl 0 rfl) ?_
  refine g_get (C := RX11) (T := TX11) (N := 16) (v := .int (S 392 8)) cx hw inlX11 392 (by omega) he_c392 rfl 8 (by decide) gw_349 rfl rfl dX11_note_1 ?_
  refine lv_bipush (v := (14 : Int32)) cx.1 cx.2.1 dX11_note_4 (by decide) ?_
  refine lv_icmp_ne (tgt := 50) cx.1 cx.2.1 dX11_note_6 (by decide) (fun hc => ?_) (fun hc => ?_)
  · rw [if_neg hc] at hf
    exact hB_50 S _ _ _ hw hS (lv_sub hl [0] rfl) hf
  · rw [if_pos hc] at hf
    refine lv_iconst (v := (0 : Int32)) cx.1 cx.2.1 dX11_note_9 (by decide) ?_
    refine lv_istore_n (lv' := [(1, .int (0 : Int32)), (0, .ref (G.2.1 392))]) cx.1 cx.2.1 dX11_note_10 rfl hl (by decide) rfl (fun ls hl => ?_)
    exact hL_11 gFu S (0 : Int32) _ _ _ hw hS (lv_sub hl [1, 0] rfl) hf
set_option maxHeartbeats 4000000 in
set_option maxRecDepth 100000 in
theorem c_X11_buyTrackOn (l : Launch) (G : gG) {k0 : Nat} (hM : 402 ≤ gN G) (hk0 : IA G k0 175) (a1 : Int32) (a2 : Int32) (S : Sg) (r : Int32) (S' : Sg) (hf : f_X11_buyTrackOn k0 a1 a2 S = some (r, S')) : Ct l yX11_buyTrackOn [Cond.code yX11_buyTrackOn cX11_buyTrackOn 3 (some .int)] (gR 2 42) G [.ref (G.2.1 k0), .int a1, .int a2] S (some (.int r)) S' := by
  refine Ct_of (by decide) (Nat.le_of_ble_eq_true rfl) ?_
  intro p e s m below meth c ls cx hr hlk hw hS hl
  have hN := cx.2.2.2.2.hN
  have hl : lv_has ls 3 [(0, .ref (G.2.1 k0)), (1, .int a1), (2, .int a2)] := hl
  unfold f_X11_buyTrackOn at hf
  refine lv_aload_n cx.1 cx.2.1 dX11_buyTrackOn_0 rfl (lv_at hl 0 rfl) ?_
  refine lv_iload_n cx.1 cx.2.1 dX11_buyTrackOn_1 rfl (lv_at hl 1 rfl) ?_
  refine lv_iconst (v := (3 : Int32)) cx.1 cx.2.1 dX11_buyTrackOn_2 (by decide) ?_
  refine lv_aload_n cx.1 cx.2.1 dX11_buyTrackOn_3 rfl (lv_at hl 0 rfl) ?_
  refine lv_iload_n cx.1 cx.2.1 dX11_buyTrackOn_4 rfl (lv_at hl 2 rfl) ?_
  obtain ⟨v_2, S_1, hv, hf⟩ := gbi_some hf
  refine g_S (As := [.int a2]) (rest := [.ref (G.2.1 k0), .int (3 : Int32), .int a1, .ref (G.2.1 k0)]) cx hw hS (c_X11_trackAt l G hM a2 S v_2 S_1 hv) gw_161 gy_X11_trackAt gi_X11_trackAt ⟨Nat.le_of_ble_eq_true rfl, Nat.le_of_ble_eq_true rfl⟩ ⟨Nat.zero_le _, Nat.zero_le _⟩ rfl hl.1 rfl (Nat.le_of_ble_eq_true rfl) dX11_buyTrackOn_5 (fun H locs hw hS => ?_)
  refine W.eq (g2 := F0 m 8 ls [.int v_2, .ref (G.2.1 k0), .int (3 : Int32), .int a1, .ref (G.2.1 k0)]) rfl ?_
  refine lv_iconst (v := (2 : Int32)) cx.1 cx.2.1 dX11_buyTrackOn_8 (by decide) ?_
  refine lv_iadd cx.1 cx.2.1 dX11_buyTrackOn_9 ?_
  obtain ⟨hin, hf⟩ := gck_some hf
  refine g_iald cx hw hk0 (vp_of_inb hin) dX11_buyTrackOn_10 ?_
  refine lv_imul cx.1 cx.2.1 dX11_buyTrackOn_11 ?_
  obtain ⟨S_3, hv, hf⟩ := gbv_some hf
  refine g_S (As := [.ref (G.2.1 k0), .int a1, .int ((3 : Int32) * (S_1 k0 (v_2 + (2 : Int32)).toNatClampNeg))]) (rest := []) cx hw hS (c_X11_toBank l G hM hk0 a1 ((3 : Int32) * (S_1 k0 (v_2 + (2 : Int32)).toNatClampNeg)) S_1 S_3 hv) gw_579 gy_X11_toBank gi_X11_toBank ⟨Nat.le_of_ble_eq_true rfl, Nat.le_of_ble_eq_true rfl⟩ ⟨Nat.zero_le _, Nat.zero_le _⟩ rfl hl.1 rfl (Nat.le_of_ble_eq_true rfl) dX11_buyTrackOn_12 (fun H locs hw hS => ?_)
  refine W.eq (g2 := F0 m 15 ls []) rfl ?_
  refine lv_aload_n cx.1 cx.2.1 dX11_buyTrackOn_15 rfl (lv_at hl 0 rfl) ?_
  refine lv_iload_n cx.1 cx.2.1 dX11_buyTrackOn_16 rfl (lv_at hl 2 rfl) ?_
  obtain ⟨v_5, S_4, hv, hf⟩ := gbi_some hf
  refine g_S (As := [.int a2]) (rest := [.ref (G.2.1 k0)]) cx hw hS (c_X11_trackAt l G hM a2 S_3 v_5 S_4 hv) gw_161 gy_X11_trackAt gi_X11_trackAt ⟨Nat.le_of_ble_eq_true rfl, Nat.le_of_ble_eq_true rfl⟩ ⟨Nat.zero_le _, Nat.zero_le _⟩ rfl hl.1 rfl (Nat.le_of_ble_eq_true rfl) dX11_buyTrackOn_17 (fun H locs hw hS => ?_)
  refine W.eq (g2 := F0 m 20 ls [.int v_5, .ref (G.2.1 k0)]) rfl ?_
  refine lv_iconst (v := (3 : Int32)) cx.1 cx.2.1 dX11_buyTrackOn_20 (by decide) ?_
  refine lv_iadd cx.1 cx.2.1 dX11_buyTrackOn_21 ?_
  refine lv_iload_n cx.1 cx.2.1 dX11_buyTrackOn_22 rfl (lv_at hl 1 rfl) ?_
  obtain ⟨hin, hf⟩ := gck_some hf
  obtain ⟨S_6, eS_6, hf⟩ := gst_ex hf
  refine g_iast cx hw hS hk0 (vp_of_inb hin) dX11_buyTrackOn_23 (fun H locs hw hS => ?_)
  rw [eS_6] at hw
  refine lv_aload_n cx.1 cx.2.1 dX11_buyTrackOn_24 rfl (lv_at hl 0 rfl) ?_
  refine lv_iload_n cx.1 cx.2.1 dX11_buyTrackOn_25 rfl (lv_at hl 1 rfl) ?_
  obtain ⟨v_8, S_7, hv, hf⟩ := gbi_some hf
  refine g_S (As := [.int a1]) (rest := [.ref (G.2.1 k0)]) cx hw hS (c_X11_companyAt l G hM a1 S_6 v_8 S_7 hv) gw_155 gy_X11_companyAt gi_X11_companyAt ⟨Nat.le_of_ble_eq_true rfl, Nat.le_of_ble_eq_true rfl⟩ ⟨Nat.zero_le _, Nat.zero_le _⟩ rfl hl.1 rfl (Nat.le_of_ble_eq_true rfl) dX11_buyTrackOn_26 (fun H locs hw hS => ?_)
  refine W.eq (g2 := F0 m 29 ls [.int v_8, .ref (G.2.1 k0)]) rfl ?_
  obtain ⟨hin, hf⟩ := gck_some hf
  refine g_iald cx hw hk0 (vp_of_inb hin) dX11_buyTrackOn_29 ?_
  exact g_ireti cx hr hlk hw hS hf dX11_buyTrackOn_30
set_option maxHeartbeats 4000000 in
set_option maxRecDepth 100000 in
theorem c_X11_buyTrack (l : Launch) (G : gG) (hM : 402 ≤ gN G) (a1 : Int32) (a2 : Int32) (S : Sg) (r : Int32) (S' : Sg) (hf : f_X11_buyTrack a1 a2 S = some (r, S')) : Ct l yX11_buyTrack [Cond.code yX11_buyTrack cX11_buyTrack 3 (some .int)] (gR 3 64) G [.ref (G.2.1 392), .int a1, .int a2] S (some (.int r)) S' := by
  refine Ct_of (by decide) (Nat.le_of_ble_eq_true rfl) ?_
  intro p e s m below meth c ls cx hr hlk hw hS hl
  have hN := cx.2.2.2.2.hN
  have hB_40 : ∀ (S : Sg) (x1 : Int32) (x2 : Int32) (t0 : Int32) (H : Heap) (locs : List Loc) (ls : Array Slot), gP G S H → va_S (gA G s.heap.size) s.heap H locs → lv_has ls 3 [(0, .ref (G.2.1 392)), (1, .int x1), (2, .int x2)] → B_X11_buyTrack_40 S x1 x2 t0 = some (r, S') → W p l e (gR 3 64) s m ([.ref (G.2.1 392), .int a1, .int a2] : List Value).toArray below meth c H locs 0 0 (MQ below (gQ G S' (some (.int r)) (gA G s.heap.size)) ([.ref (G.2.1 392), .int a1, .int a2] : List Value).toArray s 0 0 (gA G s.heap.size)) (F0 m 40 ls [.int t0, .ref (G.2.1 392)]) := by
    intro S x1 x2 t0 H locs ls hw hS hl hf
    unfold B_X11_buyTrack_40 at hf
    obtain ⟨v_2, S_1, hv, hf⟩ := gbi_some hf
    refine g_V (As := [.int t0]) (rest := []) cx hw hS (c_X11_refused l G hM t0 S v_2 S_1 hv) (by omega) he_c392 rfl rfl gw_200 gy_X11_refused gi_X11_refused ⟨Nat.le_of_ble_eq_true rfl, Nat.le_of_ble_eq_true rfl⟩ ⟨Nat.zero_le _, Nat.zero_le _⟩ rfl hl.1 rfl (Nat.le_of_ble_eq_true rfl) dX11_buyTrack_40 (fun H locs hw hS => ?_)
    refine W.eq (g2 := F0 m 43 ls [.int v_2]) rfl ?_
    refine lv_if_eq (tgt := 48) cx.1 cx.2.1 dX11_buyTrack_43 (by decide) (fun hc => ?_) (fun hc => ?_)
    · rw [if_pos hc] at hf
      refine lv_aload_n cx.1 cx.2.1 dX11_buyTrack_48 rfl (lv_at hl 0 rfl) ?_
      obtain ⟨S_3, hv, hf⟩ := gbv_some hf
      refine g_V (As := []) (rest := []) cx hw hS (c_X11_note l G hM S_1 S_3 hv) (by omega) he_c392 rfl rfl gw_572 gy_X11_note gi_X11_note ⟨Nat.le_of_ble_eq_true rfl, Nat.le_of_ble_eq_true rfl⟩ ⟨Nat.zero_le _, Nat.zero_le _⟩ rfl hl.1 rfl (Nat.le_of_ble_eq_true rfl) dX11_buyTrack_49 (fun H locs hw hS => ?_)
      refine W.eq (g2 := F0 m 52 ls []) rfl ?_
      refine lv_aload_n cx.1 cx.2.1 dX11_buyTrack_52 rfl (lv_at hl 0 rfl) ?_
      refine g_get (C := RX11) (T := TX11) (N := 16) (v := .ref (G.2.1 395)) cx hw inlX11 392 (by omega) he_c392 rfl 5 (by decide) gw_144 rfl rfl dX11_buyTrack_53 ?_
      refine lv_iload_n cx.1 cx.2.1 dX11_buyTrack_56 rfl (lv_at hl 1 rfl) ?_
      refine lv_iload_n cx.1 cx.2.1 dX11_buyTrack_57 rfl (lv_at hl 2 rfl) ?_
      obtain ⟨v_5, S_4, hv, hf⟩ := gbi_some hf
      refine g_S (As := [.ref (G.2.1 395), .int x1, .int x2]) (rest := []) cx hw hS (c_X11_buyTrackOn l G hM (ia_c395 hM) x1 x2 S_3 v_5 S_4 hv) gw_576 gy_X11_buyTrackOn gi_X11_buyTrackOn ⟨Nat.le_of_ble_eq_true rfl, Nat.le_of_ble_eq_true rfl⟩ ⟨Nat.zero_le _, Nat.zero_le _⟩ rfl hl.1 rfl (Nat.le_of_ble_eq_true rfl) dX11_buyTrack_58 (fun H locs hw hS => ?_)
      refine W.eq (g2 := F0 m 61 ls [.int v_5]) rfl ?_
      exact g_ireti cx hr hlk hw hS hf dX11_buyTrack_61
    · rw [if_neg hc] at hf
      refine lv_iconst (v := (0 : Int32)) cx.1 cx.2.1 dX11_buyTrack_46 (by decide) ?_
      exact g_ireti cx hr hlk hw hS hf dX11_buyTrack_47
  have hl : lv_has ls 3 [(0, .ref (G.2.1 392)), (1, .int a1), (2, .int a2)] := hl
  unfold f_X11_buyTrack at hf
  refine lv_aload_n cx.1 cx.2.1 dX11_buyTrack_0 rfl (lv_at hl 0 rfl) ?_
  refine lv_iload_n cx.1 cx.2.1 dX11_buyTrack_1 rfl (lv_at hl 1 rfl) ?_
  obtain ⟨v_7, S_6, hv, hf⟩ := gbi_some hf
  refine g_S (As := [.int a1]) (rest := [.ref (G.2.1 392)]) cx hw hS (c_X11_isCompany l G hM a1 S v_7 S_6 hv) gw_446 gy_X11_isCompany gi_X11_isCompany ⟨Nat.le_of_ble_eq_true rfl, Nat.le_of_ble_eq_true rfl⟩ ⟨Nat.zero_le _, Nat.zero_le _⟩ rfl hl.1 rfl (Nat.le_of_ble_eq_true rfl) dX11_buyTrack_2 (fun H locs hw hS => ?_)
  refine W.eq (g2 := F0 m 5 ls [.int v_7, .ref (G.2.1 392)]) rfl ?_
  refine lv_if_eq (tgt := 19) cx.1 cx.2.1 dX11_buyTrack_5 (by decide) (fun hc => ?_) (fun hc => ?_)
  · rw [if_pos hc] at hf
    refine lv_iconst (v := (1 : Int32)) cx.1 cx.2.1 dX11_buyTrack_19 (by decide) ?_
    refine lv_goto (tgt := 40) cx.1 cx.2.1 dX11_buyTrack_20 (by decide) ?_
    exact hB_40 S_6 a1 a2 (1 : Int32) _ _ _ hw hS (lv_sub hl [0, 1, 2] rfl) hf
  · rw [if_neg hc] at hf
    refine lv_aload_n cx.1 cx.2.1 dX11_buyTrack_8 rfl (lv_at hl 0 rfl) ?_
    refine g_get (C := RX11) (T := TX11) (N := 16) (v := .ref (G.2.1 395)) cx hw inlX11 392 (by omega) he_c392 rfl 5 (by decide) gw_144 rfl rfl dX11_buyTrack_9 ?_
    refine lv_iload_n cx.1 cx.2.1 dX11_buyTrack_12 rfl (lv_at hl 2 rfl) ?_
    obtain ⟨v_9, S_8, hv, hf⟩ := gbi_some hf
    refine g_S (As := [.ref (G.2.1 395), .int a2]) (rest := [.ref (G.2.1 392)]) cx hw hS (c_X11_isTrack l G hM (ia_c395 hM) a2 S_6 v_9 S_8 hv) gw_415 gy_X11_isTrack gi_X11_isTrack ⟨Nat.le_of_ble_eq_true rfl, Nat.le_of_ble_eq_true rfl⟩ ⟨Nat.zero_le _, Nat.zero_le _⟩ rfl hl.1 rfl (Nat.le_of_ble_eq_true rfl) dX11_buyTrack_13 (fun H locs hw hS => ?_)
    refine W.eq (g2 := F0 m 16 ls [.int v_9, .ref (G.2.1 392)]) rfl ?_
    refine lv_if_ne (tgt := 23) cx.1 cx.2.1 dX11_buyTrack_16 (by decide) (fun hc => ?_) (fun hc => ?_)
    · rw [if_neg hc] at hf
      refine lv_aload_n cx.1 cx.2.1 dX11_buyTrack_23 rfl (lv_at hl 0 rfl) ?_
      refine g_get (C := RX11) (T := TX11) (N := 16) (v := .ref (G.2.1 395)) cx hw inlX11 392 (by omega) he_c392 rfl 5 (by decide) gw_144 rfl rfl dX11_buyTrack_24 ?_
      refine lv_iload_n cx.1 cx.2.1 dX11_buyTrack_27 rfl (lv_at hl 1 rfl) ?_
      refine lv_iload_n cx.1 cx.2.1 dX11_buyTrack_28 rfl (lv_at hl 2 rfl) ?_
      obtain ⟨v_11, S_10, hv, hf⟩ := gbi_some hf
      refine g_S (As := [.ref (G.2.1 395), .int a1, .int a2]) (rest := [.ref (G.2.1 392)]) cx hw hS (c_X11_canBuyTrack l G hM (ia_c395 hM) a1 a2 S_8 v_11 S_10 hv) gw_569 gy_X11_canBuyTrack gi_X11_canBuyTrack ⟨Nat.le_of_ble_eq_true rfl, Nat.le_of_ble_eq_true rfl⟩ ⟨Nat.zero_le _, Nat.zero_le _⟩ rfl hl.1 rfl (Nat.le_of_ble_eq_true rfl) dX11_buyTrack_29 (fun H locs hw hS => ?_)
      refine W.eq (g2 := F0 m 32 ls [.int v_11, .ref (G.2.1 392)]) rfl ?_
      refine lv_if_ne (tgt := 39) cx.1 cx.2.1 dX11_buyTrack_32 (by decide) (fun hc => ?_) (fun hc => ?_)
      · rw [if_neg hc] at hf
        refine lv_iconst (v := (0 : Int32)) cx.1 cx.2.1 dX11_buyTrack_39 (by decide) ?_
        exact hB_40 S_10 a1 a2 (0 : Int32) _ _ _ hw hS (lv_sub hl [0, 1, 2] rfl) hf
      · rw [if_pos hc] at hf
        refine lv_iconst (v := (2 : Int32)) cx.1 cx.2.1 dX11_buyTrack_35 (by decide) ?_
        refine lv_goto (tgt := 40) cx.1 cx.2.1 dX11_buyTrack_36 (by decide) ?_
        exact hB_40 S_10 a1 a2 (2 : Int32) _ _ _ hw hS (lv_sub hl [0, 1, 2] rfl) hf
    · rw [if_pos hc] at hf
      refine lv_iconst (v := (1 : Int32)) cx.1 cx.2.1 dX11_buyTrack_19 (by decide) ?_
      refine lv_goto (tgt := 40) cx.1 cx.2.1 dX11_buyTrack_20 (by decide) ?_
      exact hB_40 S_8 a1 a2 (1 : Int32) _ _ _ hw hS (lv_sub hl [0, 1, 2] rfl) hf
set_option maxHeartbeats 4000000 in
set_option maxRecDepth 100000 in
theorem c_X11_canBuyTrain (l : Launch) (G : gG) {k0 : Nat} (hM : 402 ≤ gN G) (hk0 : IA G k0 175) (a1 : Int32) (a2 : Int32) (S : Sg) (r : Int32) (S' : Sg) (hf : f_X11_canBuyTrain k0 a1 a2 S = some (r, S')) : Ct l yX11_canBuyTrain [Cond.code yX11_canBuyTrain cX11_canBuyTrain 3 (some .boolean)] (gR 2 41) G [.ref (G.2.1 k0), .int a1, .int a2] S (some (.int r)) S' := by
  refine Ct_of (by decide) (Nat.le_of_ble_eq_true rfl) ?_
  intro p e s m below meth c ls cx hr hlk hw hS hl
  have hN := cx.2.2.2.2.hN
  have hl : lv_has ls 3 [(0, .ref (G.2.1 k0)), (1, .int a1), (2, .int a2)] := hl
  unfold f_X11_canBuyTrain at hf
  refine lv_iload_n cx.1 cx.2.1 dX11_canBuyTrain_0 rfl (lv_at hl 2 rfl) ?_
  refine lv_i2l cx.1 cx.2.1 dX11_canBuyTrain_1 rfl ?_
  refine lv_aload_n cx.1 cx.2.1 dX11_canBuyTrain_2 rfl (lv_at hl 0 rfl) ?_
  refine lv_iconst (v := (3 : Int32)) cx.1 cx.2.1 dX11_canBuyTrain_3 (by decide) ?_
  obtain ⟨hin, hf⟩ := gck_some hf
  refine g_iald cx hw hk0 (vp_of_inb hin) dX11_canBuyTrain_4 ?_
  refine lv_iconst (v := (1 : Int32)) cx.1 cx.2.1 dX11_canBuyTrain_5 (by decide) ?_
  refine lv_isub cx.1 cx.2.1 dX11_canBuyTrain_6 ?_
  refine lv_i2l cx.1 cx.2.1 dX11_canBuyTrain_7 rfl ?_
  refine lv_aload_n cx.1 cx.2.1 dX11_canBuyTrain_8 rfl (lv_at hl 0 rfl) ?_
  refine lv_iconst (v := (3 : Int32)) cx.1 cx.2.1 dX11_canBuyTrain_9 (by decide) ?_
  obtain ⟨hin, hf⟩ := gck_some hf
  refine g_iald cx hw hk0 (vp_of_inb hin) dX11_canBuyTrain_10 ?_
  refine lv_iconst (v := (1 : Int32)) cx.1 cx.2.1 dX11_canBuyTrain_11 (by decide) ?_
  refine lv_iadd cx.1 cx.2.1 dX11_canBuyTrain_12 ?_
  refine lv_i2l cx.1 cx.2.1 dX11_canBuyTrain_13 rfl ?_
  obtain ⟨v_2, S_1, hv, hf⟩ := gbi_some hf
  refine g_S (As := [.long a2.toInt64, .long (((S k0 (3 : Int32).toNatClampNeg) - (1 : Int32)).toInt64), .long (((S k0 (3 : Int32).toNatClampNeg) + (1 : Int32)).toInt64)]) (rest := []) cx hw hS (c_X11_in l G hM a2.toInt64 (((S k0 (3 : Int32).toNatClampNeg) - (1 : Int32)).toInt64) (((S k0 (3 : Int32).toNatClampNeg) + (1 : Int32)).toInt64) S v_2 S_1 hv) gw_197 gy_X11_in gi_X11_in ⟨Nat.le_of_ble_eq_true rfl, Nat.le_of_ble_eq_true rfl⟩ ⟨Nat.zero_le _, Nat.zero_le _⟩ rfl hl.1 rfl (Nat.le_of_ble_eq_true rfl) dX11_canBuyTrain_14 (fun H locs hw hS => ?_)
  refine W.eq (g2 := F0 m 17 ls [.int v_2]) rfl ?_
  refine lv_if_eq (tgt := 46) cx.1 cx.2.1 dX11_canBuyTrain_17 (by decide) (fun hc => ?_) (fun hc => ?_)
  · rw [if_pos hc] at hf
    refine lv_iconst (v := (0 : Int32)) cx.1 cx.2.1 dX11_canBuyTrain_46 (by decide) ?_
    exact g_zreti cx hr hlk hw hS (by decide) hf dX11_canBuyTrain_47
  · rw [if_neg hc] at hf
    refine lv_aload_n cx.1 cx.2.1 dX11_canBuyTrain_20 rfl (lv_at hl 0 rfl) ?_
    refine lv_iload_n cx.1 cx.2.1 dX11_canBuyTrain_21 rfl (lv_at hl 1 rfl) ?_
    obtain ⟨v_4, S_3, hv, hf⟩ := gbi_some hf
    refine g_S (As := [.ref (G.2.1 k0), .int a1]) (rest := []) cx hw hS (c_X11_trainsOf l G hM hk0 a1 S_1 v_4 S_3 hv) gw_489 gy_X11_trainsOf gi_X11_trainsOf ⟨Nat.le_of_ble_eq_true rfl, Nat.le_of_ble_eq_true rfl⟩ ⟨Nat.zero_le _, Nat.zero_le _⟩ rfl hl.1 rfl (Nat.le_of_ble_eq_true rfl) dX11_canBuyTrain_22 (fun H locs hw hS => ?_)
    refine W.eq (g2 := F0 m 25 ls [.int v_4]) rfl ?_
    refine lv_iconst (v := (4 : Int32)) cx.1 cx.2.1 dX11_canBuyTrain_25 (by decide) ?_
    refine lv_icmp_ge (tgt := 46) cx.1 cx.2.1 dX11_canBuyTrain_26 (by decide) (fun hc => ?_) (fun hc => ?_)
    · rw [if_pos hc] at hf
      refine lv_iconst (v := (0 : Int32)) cx.1 cx.2.1 dX11_canBuyTrain_46 (by decide) ?_
      exact g_zreti cx hr hlk hw hS (by decide) hf dX11_canBuyTrain_47
    · rw [if_neg hc] at hf
      refine lv_aload_n cx.1 cx.2.1 dX11_canBuyTrain_29 rfl (lv_at hl 0 rfl) ?_
      refine lv_iload_n cx.1 cx.2.1 dX11_canBuyTrain_30 rfl (lv_at hl 1 rfl) ?_
      obtain ⟨v_6, S_5, hv, hf⟩ := gbi_some hf
      refine g_S (As := [.int a1]) (rest := [.ref (G.2.1 k0)]) cx hw hS (c_X11_companyAt l G hM a1 S_3 v_6 S_5 hv) gw_155 gy_X11_companyAt gi_X11_companyAt ⟨Nat.le_of_ble_eq_true rfl, Nat.le_of_ble_eq_true rfl⟩ ⟨Nat.zero_le _, Nat.zero_le _⟩ rfl hl.1 rfl (Nat.le_of_ble_eq_true rfl) dX11_canBuyTrain_31 (fun H locs hw hS => ?_)
      refine W.eq (g2 := F0 m 34 ls [.int v_6, .ref (G.2.1 k0)]) rfl ?_
      obtain ⟨hin, hf⟩ := gck_some hf
      refine g_iald cx hw hk0 (vp_of_inb hin) dX11_canBuyTrain_34 ?_
      refine lv_bipush (v := (20 : Int32)) cx.1 cx.2.1 dX11_canBuyTrain_35 (by decide) ?_
      refine lv_iload_n cx.1 cx.2.1 dX11_canBuyTrain_37 rfl (lv_at hl 2 rfl) ?_
      refine lv_imul cx.1 cx.2.1 dX11_canBuyTrain_38 ?_
      refine lv_icmp_lt (tgt := 46) cx.1 cx.2.1 dX11_canBuyTrain_39 (by decide) (fun hc => ?_) (fun hc => ?_)
      · rw [if_pos hc] at hf
        refine lv_iconst (v := (0 : Int32)) cx.1 cx.2.1 dX11_canBuyTrain_46 (by decide) ?_
        exact g_zreti cx hr hlk hw hS (by decide) hf dX11_canBuyTrain_47
      · rw [if_neg hc] at hf
        refine lv_iconst (v := (1 : Int32)) cx.1 cx.2.1 dX11_canBuyTrain_42 (by decide) ?_
        refine lv_goto (tgt := 47) cx.1 cx.2.1 dX11_canBuyTrain_43 (by decide) ?_
        exact g_zreti cx hr hlk hw hS (by decide) hf dX11_canBuyTrain_47
set_option maxHeartbeats 4000000 in
set_option maxRecDepth 100000 in
theorem c_X11_rust (l : Launch) (G : gG) {k0 : Nat} (hM : 402 ≤ gN G) (hk0 : IA G k0 175) (a1 : Int32) (a2 : Int32) (S : Sg) (r : Int32) (S' : Sg) (hf : f_X11_rust k0 a1 a2 S = some (r, S')) : Ct l yX11_rust [Cond.code yX11_rust cX11_rust 6 (some .int)] (gR 2 41) G [.ref (G.2.1 k0), .int a1, .int a2] S (some (.int r)) S' := by
  refine Ct_of (by decide) (Nat.le_of_ble_eq_true rfl) ?_
  intro p e s m below meth c ls cx hr hlk hw hS hl
  have hN := cx.2.2.2.2.hN
  have hL_12 : ∀ (n : Nat), ∀ (S : Sg) (x1 : Int32) (x2 : Int32) (x3 : Int32) (x4 : Int32) (x5 : Int32) (H : Heap) (locs : List Loc) (ls : Array Slot), gP G S H → va_S (gA G s.heap.size) s.heap H locs → lv_has ls 6 [(0, .ref (G.2.1 k0)), (1, .int x1), (2, .int x2), (3, .int x3), (4, .int x4), (5, .int x5)] → L_X11_rust_12 k0 n S x1 x2 x3 x4 x5 = some (r, S') → W p l e (gR 2 41) s m ([.ref (G.2.1 k0), .int a1, .int a2] : List Value).toArray below meth c H locs 0 0 (MQ below (gQ G S' (some (.int r)) (gA G s.heap.size)) ([.ref (G.2.1 k0), .int a1, .int a2] : List Value).toArray s 0 0 (gA G s.heap.size)) (F0 m 12 ls []) := by
    intro n
    induction n with
    | zero => intro S x1 x2 x3 x4 x5 H locs ls hw hS hl hf; cases hf
    | succ n hK12 =>
      intro S x1 x2 x3 x4 x5 H locs ls hw hS hl hf
      have hf : Lb_X11_rust_12 k0 (L_X11_rust_12 k0 n) S x1 x2 x3 x4 x5 = some (r, S') := hf
      unfold Lb_X11_rust_12 at hf
      refine lv_iload cx.1 cx.2.1 dX11_rust_12 (lv_at hl 5 rfl) ?_
      refine lv_iload cx.1 cx.2.1 dX11_rust_14 (lv_at hl 4 rfl) ?_
      refine lv_icmp_ge (tgt := 74) cx.1 cx.2.1 dX11_rust_16 (by decide) (fun hc => ?_) (fun hc => ?_)
      · rw [if_pos hc] at hf
        refine lv_aload_n cx.1 cx.2.1 dX11_rust_74 rfl (lv_at hl 0 rfl) ?_
        refine lv_iload_n cx.1 cx.2.1 dX11_rust_75 rfl (lv_at hl 1 rfl) ?_
        obtain ⟨v_2, S_1, hv, hf⟩ := gbi_some hf
        refine g_S (As := [.int x1]) (rest := [.ref (G.2.1 k0)]) cx hw hS (c_X11_companyAt l G hM x1 S v_2 S_1 hv) gw_155 gy_X11_companyAt gi_X11_companyAt ⟨Nat.le_of_ble_eq_true rfl, Nat.le_of_ble_eq_true rfl⟩ ⟨Nat.zero_le _, Nat.zero_le _⟩ rfl hl.1 rfl (Nat.le_of_ble_eq_true rfl) dX11_rust_76 (fun H locs hw hS => ?_)
        refine W.eq (g2 := F0 m 79 ls [.int v_2, .ref (G.2.1 k0)]) rfl ?_
        refine lv_iconst (v := (2 : Int32)) cx.1 cx.2.1 dX11_rust_79 (by decide) ?_
        refine lv_iadd cx.1 cx.2.1 dX11_rust_80 ?_
        refine lv_iload_n cx.1 cx.2.1 dX11_rust_81 rfl (lv_at hl 3 rfl) ?_
        obtain ⟨hin, hf⟩ := gck_some hf
        obtain ⟨S_3, eS_3, hf⟩ := gst_ex hf
        refine g_iast cx hw hS hk0 (vp_of_inb hin) dX11_rust_82 (fun H locs hw hS => ?_)
        rw [eS_3] at hw
        refine lv_iload cx.1 cx.2.1 dX11_rust_83 (lv_at hl 4 rfl) ?_
        refine lv_iload_n cx.1 cx.2.1 dX11_rust_85 rfl (lv_at hl 3 rfl) ?_
        refine lv_isub cx.1 cx.2.1 dX11_rust_86 ?_
        exact g_ireti cx hr hlk hw hS hf dX11_rust_87
      · rw [if_neg hc] at hf
        refine lv_aload_n cx.1 cx.2.1 dX11_rust_19 rfl (lv_at hl 0 rfl) ?_
        refine lv_iload_n cx.1 cx.2.1 dX11_rust_20 rfl (lv_at hl 1 rfl) ?_
        refine lv_iload cx.1 cx.2.1 dX11_rust_21 (lv_at hl 5 rfl) ?_
        obtain ⟨v_5, S_4, hv, hf⟩ := gbi_some hf
        refine g_S (As := [.int x1, .int x5]) (rest := [.ref (G.2.1 k0)]) cx hw hS (c_X11_trainAt l G hM x1 x5 S v_5 S_4 hv) gw_492 gy_X11_trainAt gi_X11_trainAt ⟨Nat.le_of_ble_eq_true rfl, Nat.le_of_ble_eq_true rfl⟩ ⟨Nat.zero_le _, Nat.zero_le _⟩ rfl hl.1 rfl (Nat.le_of_ble_eq_true rfl) dX11_rust_23 (fun H locs hw hS => ?_)
        refine W.eq (g2 := F0 m 26 ls [.int v_5, .ref (G.2.1 k0)]) rfl ?_
        obtain ⟨hin, hf⟩ := gck_some hf
        refine g_iald cx hw hk0 (vp_of_inb hin) dX11_rust_26 ?_
        refine lv_iload_n cx.1 cx.2.1 dX11_rust_27 rfl (lv_at hl 2 rfl) ?_
        refine lv_icmp_lt (tgt := 68) cx.1 cx.2.1 dX11_rust_28 (by decide) (fun hc => ?_) (fun hc => ?_)
        · rw [if_pos hc] at hf
          obtain ⟨x5_6, ex5_6, hf⟩ := gvi_ex hf
          refine lv_iinc (v := x5_6) (lv' := [(5, .int x5_6), (0, .ref (G.2.1 k0)), (1, .int x1), (2, .int x2), (3, .int x3), (4, .int x4)]) cx.1 cx.2.1 dX11_rust_68 hl (k := 5) rfl (by rw [← ex5_6]; rfl) (by decide) rfl (fun ls hl => ?_)
          refine lv_goto (tgt := 12) cx.1 cx.2.1 dX11_rust_71 (by decide) ?_
          exact hK12 S_4 x1 x2 x3 x4 x5_6 _ _ _ hw hS (lv_sub hl [1, 2, 3, 4, 5, 0] rfl) hf
        · rw [if_neg hc] at hf
          refine lv_aload_n cx.1 cx.2.1 dX11_rust_31 rfl (lv_at hl 0 rfl) ?_
          refine lv_iload_n cx.1 cx.2.1 dX11_rust_32 rfl (lv_at hl 1 rfl) ?_
          refine lv_iload_n cx.1 cx.2.1 dX11_rust_33 rfl (lv_at hl 3 rfl) ?_
          obtain ⟨v_8, S_7, hv, hf⟩ := gbi_some hf
          refine g_S (As := [.int x1, .int x3]) (rest := [.ref (G.2.1 k0)]) cx hw hS (c_X11_trainAt l G hM x1 x3 S_4 v_8 S_7 hv) gw_492 gy_X11_trainAt gi_X11_trainAt ⟨Nat.le_of_ble_eq_true rfl, Nat.le_of_ble_eq_true rfl⟩ ⟨Nat.zero_le _, Nat.zero_le _⟩ rfl hl.1 rfl (Nat.le_of_ble_eq_true rfl) dX11_rust_34 (fun H locs hw hS => ?_)
          refine W.eq (g2 := F0 m 37 ls [.int v_8, .ref (G.2.1 k0)]) rfl ?_
          refine lv_aload_n cx.1 cx.2.1 dX11_rust_37 rfl (lv_at hl 0 rfl) ?_
          refine lv_iload_n cx.1 cx.2.1 dX11_rust_38 rfl (lv_at hl 1 rfl) ?_
          refine lv_iload cx.1 cx.2.1 dX11_rust_39 (lv_at hl 5 rfl) ?_
          obtain ⟨v_10, S_9, hv, hf⟩ := gbi_some hf
          refine g_S (As := [.int x1, .int x5]) (rest := [.ref (G.2.1 k0), .int v_8, .ref (G.2.1 k0)]) cx hw hS (c_X11_trainAt l G hM x1 x5 S_7 v_10 S_9 hv) gw_492 gy_X11_trainAt gi_X11_trainAt ⟨Nat.le_of_ble_eq_true rfl, Nat.le_of_ble_eq_true rfl⟩ ⟨Nat.zero_le _, Nat.zero_le _⟩ rfl hl.1 rfl (Nat.le_of_ble_eq_true rfl) dX11_rust_41 (fun H locs hw hS => ?_)
          refine W.eq (g2 := F0 m 44 ls [.int v_10, .ref (G.2.1 k0), .int v_8, .ref (G.2.1 k0)]) rfl ?_
          obtain ⟨hin, hf⟩ := gck_some hf
          refine g_iald cx hw hk0 (vp_of_inb hin) dX11_rust_44 ?_
          obtain ⟨hin, hf⟩ := gck_some hf
          obtain ⟨S_11, eS_11, hf⟩ := gst_ex hf
          refine g_iast cx hw hS hk0 (vp_of_inb hin) dX11_rust_45 (fun H locs hw hS => ?_)
          rw [eS_11] at hw
          refine lv_aload_n cx.1 cx.2.1 dX11_rust_46 rfl (lv_at hl 0 rfl) ?_
          refine lv_iload_n cx.1 cx.2.1 dX11_rust_47 rfl (lv_at hl 1 rfl) ?_
          refine lv_iload_n cx.1 cx.2.1 dX11_rust_48 rfl (lv_at hl 3 rfl) ?_
          obtain ⟨v_13, S_12, hv, hf⟩ := gbi_some hf
          refine g_S (As := [.int x1, .int x3]) (rest := [.ref (G.2.1 k0)]) cx hw hS (c_X11_trainAt l G hM x1 x3 S_11 v_13 S_12 hv) gw_492 gy_X11_trainAt gi_X11_trainAt ⟨Nat.le_of_ble_eq_true rfl, Nat.le_of_ble_eq_true rfl⟩ ⟨Nat.zero_le _, Nat.zero_le _⟩ rfl hl.1 rfl (Nat.le_of_ble_eq_true rfl) dX11_rust_49 (fun H locs hw hS => ?_)
          refine W.eq (g2 := F0 m 52 ls [.int v_13, .ref (G.2.1 k0)]) rfl ?_
          refine lv_iconst (v := (1 : Int32)) cx.1 cx.2.1 dX11_rust_52 (by decide) ?_
          refine lv_iadd cx.1 cx.2.1 dX11_rust_53 ?_
          refine lv_aload_n cx.1 cx.2.1 dX11_rust_54 rfl (lv_at hl 0 rfl) ?_
          refine lv_iload_n cx.1 cx.2.1 dX11_rust_55 rfl (lv_at hl 1 rfl) ?_
          refine lv_iload cx.1 cx.2.1 dX11_rust_56 (lv_at hl 5 rfl) ?_
          obtain ⟨v_15, S_14, hv, hf⟩ := gbi_some hf
          refine g_S (As := [.int x1, .int x5]) (rest := [.ref (G.2.1 k0), .int (v_13 + (1 : Int32)), .ref (G.2.1 k0)]) cx hw hS (c_X11_trainAt l G hM x1 x5 S_12 v_15 S_14 hv) gw_492 gy_X11_trainAt gi_X11_trainAt ⟨Nat.le_of_ble_eq_true rfl, Nat.le_of_ble_eq_true rfl⟩ ⟨Nat.zero_le _, Nat.zero_le _⟩ rfl hl.1 rfl (Nat.le_of_ble_eq_true rfl) dX11_rust_58 (fun H locs hw hS => ?_)
          refine W.eq (g2 := F0 m 61 ls [.int v_15, .ref (G.2.1 k0), .int (v_13 + (1 : Int32)), .ref (G.2.1 k0)]) rfl ?_
          refine lv_iconst (v := (1 : Int32)) cx.1 cx.2.1 dX11_rust_61 (by decide) ?_
          refine lv_iadd cx.1 cx.2.1 dX11_rust_62 ?_
          obtain ⟨hin, hf⟩ := gck_some hf
          refine g_iald cx hw hk0 (vp_of_inb hin) dX11_rust_63 ?_
          obtain ⟨hin, hf⟩ := gck_some hf
          obtain ⟨S_16, eS_16, hf⟩ := gst_ex hf
          refine g_iast cx hw hS hk0 (vp_of_inb hin) dX11_rust_64 (fun H locs hw hS => ?_)
          rw [eS_16] at hw
          obtain ⟨x3_17, ex3_17, hf⟩ := gvi_ex hf
          refine lv_iinc (v := x3_17) (lv' := [(3, .int x3_17), (0, .ref (G.2.1 k0)), (1, .int x1), (2, .int x2), (4, .int x4), (5, .int x5)]) cx.1 cx.2.1 dX11_rust_65 hl (k := 3) rfl (by rw [← ex3_17]; rfl) (by decide) rfl (fun ls hl => ?_)
          obtain ⟨x5_18, ex5_18, hf⟩ := gvi_ex hf
          refine lv_iinc (v := x5_18) (lv' := [(5, .int x5_18), (3, .int x3_17), (0, .ref (G.2.1 k0)), (1, .int x1), (2, .int x2), (4, .int x4)]) cx.1 cx.2.1 dX11_rust_68 hl (k := 5) rfl (by rw [← ex5_18]; rfl) (by decide) rfl (fun ls hl => ?_)
          refine lv_goto (tgt := 12) cx.1 cx.2.1 dX11_rust_71 (by decide) ?_
          exact hK12 S_16 x1 x2 x3_17 x4 x5_18 _ _ _ hw hS (lv_sub hl [2, 3, 4, 1, 5, 0] rfl) hf
  have hl : lv_has ls 6 [(0, .ref (G.2.1 k0)), (1, .int a1), (2, .int a2)] := hl
  unfold f_X11_rust at hf
  refine lv_iconst (v := (0 : Int32)) cx.1 cx.2.1 dX11_rust_0 (by decide) ?_
  refine lv_istore_n (lv' := [(3, .int (0 : Int32)), (0, .ref (G.2.1 k0)), (1, .int a1), (2, .int a2)]) cx.1 cx.2.1 dX11_rust_1 rfl hl (by decide) rfl (fun ls hl => ?_)
  refine lv_aload_n cx.1 cx.2.1 dX11_rust_2 rfl (lv_at hl 1 rfl) ?_
  refine lv_iload_n cx.1 cx.2.1 dX11_rust_3 rfl (lv_at hl 2 rfl) ?_
  obtain ⟨v_20, S_19, hv, hf⟩ := gbi_some hf
  refine g_S (As := [.ref (G.2.1 k0), .int a1]) (rest := []) cx hw hS (c_X11_trainsOf l G hM hk0 a1 S v_20 S_19 hv) gw_489 gy_X11_trainsOf gi_X11_trainsOf ⟨Nat.le_of_ble_eq_true rfl, Nat.le_of_ble_eq_true rfl⟩ ⟨Nat.zero_le _, Nat.zero_le _⟩ rfl hl.1 rfl (Nat.le_of_ble_eq_true rfl) dX11_rust_4 (fun H locs hw hS => ?_)
  refine W.eq (g2 := F0 m 7 ls [.int v_20]) rfl ?_
  refine lv_istore (lv' := [(4, .int v_20), (3, .int (0 : Int32)), (0, .ref (G.2.1 k0)), (1, .int a1), (2, .int a2)]) cx.1 cx.2.1 dX11_rust_7 hl (by decide) rfl (fun ls hl => ?_)
  refine lv_iconst (v := (0 : Int32)) cx.1 cx.2.1 dX11_rust_9 (by decide) ?_
  refine lv_istore (lv' := [(5, .int (0 : Int32)), (4, .int v_20), (3, .int (0 : Int32)), (0, .ref (G.2.1 k0)), (1, .int a1), (2, .int a2)]) cx.1 cx.2.1 dX11_rust_10 hl (by decide) rfl (fun ls hl => ?_)
  exact hL_12 gFu S_19 a1 a2 (0 : Int32) v_20 (0 : Int32) _ _ _ hw hS (lv_sub hl [3, 4, 5, 2, 1, 0] rfl) hf
set_option maxHeartbeats 4000000 in
set_option maxRecDepth 100000 in
theorem c_X11_buyTrainOn (l : Launch) (G : gG) {k0 : Nat} (hM : 402 ≤ gN G) (hk0 : IA G k0 175) (a1 : Int32) (a2 : Int32) (S : Sg) (r : Int32) (S' : Sg) (hf : f_X11_buyTrainOn k0 a1 a2 S = some (r, S')) : Ct l yX11_buyTrainOn [Cond.code yX11_buyTrainOn cX11_buyTrainOn 6 (some .int)] (gR 3 66) G [.ref (G.2.1 k0), .int a1, .int a2] S (some (.int r)) S' := by
  refine Ct_of (by decide) (Nat.le_of_ble_eq_true rfl) ?_
  intro p e s m below meth c ls cx hr hlk hw hS hl
  have hN := cx.2.2.2.2.hN
  have hL_63 : ∀ (n : Nat), ∀ (S : Sg) (x4 : Int32) (x5 : Int32) (H : Heap) (locs : List Loc) (ls : Array Slot), gP G S H → va_S (gA G s.heap.size) s.heap H locs → lv_has ls 6 [(0, .ref (G.2.1 k0)), (4, .int x4), (5, .int x5)] → L_X11_buyTrainOn_63 k0 n S x4 x5 = some (r, S') → W p l e (gR 3 66) s m ([.ref (G.2.1 k0), .int a1, .int a2] : List Value).toArray below meth c H locs 0 0 (MQ below (gQ G S' (some (.int r)) (gA G s.heap.size)) ([.ref (G.2.1 k0), .int a1, .int a2] : List Value).toArray s 0 0 (gA G s.heap.size)) (F0 m 63 ls []) := by
    intro n
    induction n with
    | zero => intro S x4 x5 H locs ls hw hS hl hf; cases hf
    | succ n hK63 =>
      intro S x4 x5 H locs ls hw hS hl hf
      have hf : Lb_X11_buyTrainOn_63 k0 (L_X11_buyTrainOn_63 k0 n) S x4 x5 = some (r, S') := hf
      unfold Lb_X11_buyTrainOn_63 at hf
      refine lv_iload cx.1 cx.2.1 dX11_buyTrainOn_63 (lv_at hl 2 rfl) ?_
      refine lv_iconst (v := (4 : Int32)) cx.1 cx.2.1 dX11_buyTrainOn_65 (by decide) ?_
      refine lv_icmp_ge (tgt := 91) cx.1 cx.2.1 dX11_buyTrainOn_66 (by decide) (fun hc => ?_) (fun hc => ?_)
      · rw [if_pos hc] at hf
        refine lv_aload_n cx.1 cx.2.1 dX11_buyTrainOn_91 rfl (lv_at hl 0 rfl) ?_
        refine lv_bipush (v := (10 : Int32)) cx.1 cx.2.1 dX11_buyTrainOn_92 (by decide) ?_
        refine lv_dup2_11 cx.1 cx.2.1 dX11_buyTrainOn_94 rfl rfl ?_
        obtain ⟨hin, hf⟩ := gck_some hf
        refine g_iald cx hw hk0 (vp_of_inb hin) dX11_buyTrainOn_95 ?_
        refine lv_iload cx.1 cx.2.1 dX11_buyTrainOn_96 (lv_at hl 1 rfl) ?_
        refine lv_iadd cx.1 cx.2.1 dX11_buyTrainOn_98 ?_
        obtain ⟨hin, hf⟩ := gck_some hf
        obtain ⟨S_1, eS_1, hf⟩ := gst_ex hf
        refine g_iast cx hw hS hk0 (vp_of_inb hin) dX11_buyTrainOn_99 (fun H locs hw hS => ?_)
        rw [eS_1] at hw
        refine lv_iload cx.1 cx.2.1 dX11_buyTrainOn_100 (lv_at hl 1 rfl) ?_
        exact g_ireti cx hr hlk hw hS hf dX11_buyTrainOn_102
      · rw [if_neg hc] at hf
        refine lv_iload cx.1 cx.2.1 dX11_buyTrainOn_69 (lv_at hl 1 rfl) ?_
        refine lv_aload_n cx.1 cx.2.1 dX11_buyTrainOn_71 rfl (lv_at hl 0 rfl) ?_
        refine lv_iload cx.1 cx.2.1 dX11_buyTrainOn_72 (lv_at hl 2 rfl) ?_
        refine lv_aload_n cx.1 cx.2.1 dX11_buyTrainOn_74 rfl (lv_at hl 0 rfl) ?_
        refine lv_iconst (v := (3 : Int32)) cx.1 cx.2.1 dX11_buyTrainOn_75 (by decide) ?_
        obtain ⟨hin, hf⟩ := gck_some hf
        refine g_iald cx hw hk0 (vp_of_inb hin) dX11_buyTrainOn_76 ?_
        refine lv_iconst (v := (1 : Int32)) cx.1 cx.2.1 dX11_buyTrainOn_77 (by decide) ?_
        refine lv_isub cx.1 cx.2.1 dX11_buyTrainOn_78 ?_
        obtain ⟨v_3, S_2, hv, hf⟩ := gbi_some hf
        refine g_S (As := [.ref (G.2.1 k0), .int x5, .int ((S k0 (3 : Int32).toNatClampNeg) - (1 : Int32))]) (rest := [.int x4]) cx hw hS (c_X11_rust l G hM hk0 x5 ((S k0 (3 : Int32).toNatClampNeg) - (1 : Int32)) S v_3 S_2 hv) gw_616 gy_X11_rust gi_X11_rust ⟨Nat.le_of_ble_eq_true rfl, Nat.le_of_ble_eq_true rfl⟩ ⟨Nat.zero_le _, Nat.zero_le _⟩ rfl hl.1 rfl (Nat.le_of_ble_eq_true rfl) dX11_buyTrainOn_79 (fun H locs hw hS => ?_)
        refine W.eq (g2 := F0 m 82 ls [.int v_3, .int x4]) rfl ?_
        refine lv_iadd cx.1 cx.2.1 dX11_buyTrainOn_82 ?_
        obtain ⟨x4_4, ex4_4, hf⟩ := gvi_ex hf
        refine W.eq (g2 := F0 m 83 ls [.int x4_4]) (by rw [← ex4_4]) ?_
        refine lv_istore (lv' := [(4, .int x4_4), (0, .ref (G.2.1 k0)), (5, .int x5)]) cx.1 cx.2.1 dX11_buyTrainOn_83 hl (by decide) rfl (fun ls hl => ?_)
        obtain ⟨x5_5, ex5_5, hf⟩ := gvi_ex hf
        refine lv_iinc (v := x5_5) (lv' := [(5, .int x5_5), (4, .int x4_4), (0, .ref (G.2.1 k0))]) cx.1 cx.2.1 dX11_buyTrainOn_85 hl (k := 2) rfl (by rw [← ex5_5]; rfl) (by decide) rfl (fun ls hl => ?_)
        refine lv_goto (tgt := 63) cx.1 cx.2.1 dX11_buyTrainOn_88 (by decide) ?_
        exact hK63 S_2 x4_4 x5_5 _ _ _ hw hS (lv_sub hl [2, 1, 0] rfl) hf
  have hl : lv_has ls 6 [(0, .ref (G.2.1 k0)), (1, .int a1), (2, .int a2)] := hl
  unfold f_X11_buyTrainOn at hf
  refine lv_aload_n cx.1 cx.2.1 dX11_buyTrainOn_0 rfl (lv_at hl 0 rfl) ?_
  refine lv_iload_n cx.1 cx.2.1 dX11_buyTrainOn_1 rfl (lv_at hl 1 rfl) ?_
  refine lv_bipush (v := (20 : Int32)) cx.1 cx.2.1 dX11_buyTrainOn_2 (by decide) ?_
  refine lv_iload_n cx.1 cx.2.1 dX11_buyTrainOn_4 rfl (lv_at hl 2 rfl) ?_
  refine lv_imul cx.1 cx.2.1 dX11_buyTrainOn_5 ?_
  obtain ⟨S_6, hv, hf⟩ := gbv_some hf
  refine g_S (As := [.ref (G.2.1 k0), .int a1, .int ((20 : Int32) * a2)]) (rest := []) cx hw hS (c_X11_toBank l G hM hk0 a1 ((20 : Int32) * a2) S S_6 hv) gw_579 gy_X11_toBank gi_X11_toBank ⟨Nat.le_of_ble_eq_true rfl, Nat.le_of_ble_eq_true rfl⟩ ⟨Nat.zero_le _, Nat.zero_le _⟩ rfl hl.1 rfl (Nat.le_of_ble_eq_true rfl) dX11_buyTrainOn_6 (fun H locs hw hS => ?_)
  refine W.eq (g2 := F0 m 9 ls []) rfl ?_
  refine lv_iload_n cx.1 cx.2.1 dX11_buyTrainOn_9 rfl (lv_at hl 1 rfl) ?_
  refine lv_aload_n cx.1 cx.2.1 dX11_buyTrainOn_10 rfl (lv_at hl 0 rfl) ?_
  refine lv_iload_n cx.1 cx.2.1 dX11_buyTrainOn_11 rfl (lv_at hl 1 rfl) ?_
  obtain ⟨v_8, S_7, hv, hf⟩ := gbi_some hf
  refine g_S (As := [.ref (G.2.1 k0), .int a1]) (rest := [.int a1]) cx hw hS (c_X11_trainsOf l G hM hk0 a1 S_6 v_8 S_7 hv) gw_489 gy_X11_trainsOf gi_X11_trainsOf ⟨Nat.le_of_ble_eq_true rfl, Nat.le_of_ble_eq_true rfl⟩ ⟨Nat.zero_le _, Nat.zero_le _⟩ rfl hl.1 rfl (Nat.le_of_ble_eq_true rfl) dX11_buyTrainOn_12 (fun H locs hw hS => ?_)
  refine W.eq (g2 := F0 m 15 ls [.int v_8, .int a1]) rfl ?_
  obtain ⟨v_10, S_9, hv, hf⟩ := gbi_some hf
  refine g_S (As := [.int a1, .int v_8]) (rest := []) cx hw hS (c_X11_trainAt l G hM a1 v_8 S_7 v_10 S_9 hv) gw_492 gy_X11_trainAt gi_X11_trainAt ⟨Nat.le_of_ble_eq_true rfl, Nat.le_of_ble_eq_true rfl⟩ ⟨Nat.zero_le _, Nat.zero_le _⟩ rfl hl.1 rfl (Nat.le_of_ble_eq_true rfl) dX11_buyTrainOn_15 (fun H locs hw hS => ?_)
  refine W.eq (g2 := F0 m 18 ls [.int v_10]) rfl ?_
  refine lv_istore_n (lv' := [(3, .int v_10), (0, .ref (G.2.1 k0)), (1, .int a1), (2, .int a2)]) cx.1 cx.2.1 dX11_buyTrainOn_18 rfl hl (by decide) rfl (fun ls hl => ?_)
  refine lv_aload_n cx.1 cx.2.1 dX11_buyTrainOn_19 rfl (lv_at hl 1 rfl) ?_
  refine lv_iload_n cx.1 cx.2.1 dX11_buyTrainOn_20 rfl (lv_at hl 0 rfl) ?_
  refine lv_iload_n cx.1 cx.2.1 dX11_buyTrainOn_21 rfl (lv_at hl 3 rfl) ?_
  obtain ⟨hin, hf⟩ := gck_some hf
  obtain ⟨S_11, eS_11, hf⟩ := gst_ex hf
  refine g_iast cx hw hS hk0 (vp_of_inb hin) dX11_buyTrainOn_22 (fun H locs hw hS => ?_)
  rw [eS_11] at hw
  refine lv_aload_n cx.1 cx.2.1 dX11_buyTrainOn_23 rfl (lv_at hl 1 rfl) ?_
  refine lv_iload_n cx.1 cx.2.1 dX11_buyTrainOn_24 rfl (lv_at hl 0 rfl) ?_
  refine lv_iconst (v := (1 : Int32)) cx.1 cx.2.1 dX11_buyTrainOn_25 (by decide) ?_
  refine lv_iadd cx.1 cx.2.1 dX11_buyTrainOn_26 ?_
  refine lv_iconst (v := (0 : Int32)) cx.1 cx.2.1 dX11_buyTrainOn_27 (by decide) ?_
  obtain ⟨hin, hf⟩ := gck_some hf
  obtain ⟨S_12, eS_12, hf⟩ := gst_ex hf
  refine g_iast cx hw hS hk0 (vp_of_inb hin) dX11_buyTrainOn_28 (fun H locs hw hS => ?_)
  rw [eS_12] at hw
  refine lv_aload_n cx.1 cx.2.1 dX11_buyTrainOn_29 rfl (lv_at hl 1 rfl) ?_
  refine lv_iload_n cx.1 cx.2.1 dX11_buyTrainOn_30 rfl (lv_at hl 2 rfl) ?_
  obtain ⟨v_14, S_13, hv, hf⟩ := gbi_some hf
  refine g_S (As := [.int a1]) (rest := [.ref (G.2.1 k0)]) cx hw hS (c_X11_companyAt l G hM a1 S_12 v_14 S_13 hv) gw_155 gy_X11_companyAt gi_X11_companyAt ⟨Nat.le_of_ble_eq_true rfl, Nat.le_of_ble_eq_true rfl⟩ ⟨Nat.zero_le _, Nat.zero_le _⟩ rfl hl.1 rfl (Nat.le_of_ble_eq_true rfl) dX11_buyTrainOn_31 (fun H locs hw hS => ?_)
  refine W.eq (g2 := F0 m 34 ls [.int v_14, .ref (G.2.1 k0)]) rfl ?_
  refine lv_iconst (v := (2 : Int32)) cx.1 cx.2.1 dX11_buyTrainOn_34 (by decide) ?_
  refine lv_iadd cx.1 cx.2.1 dX11_buyTrainOn_35 ?_
  refine lv_dup2_11 cx.1 cx.2.1 dX11_buyTrainOn_36 rfl rfl ?_
  obtain ⟨hin, hf⟩ := gck_some hf
  refine g_iald cx hw hk0 (vp_of_inb hin) dX11_buyTrainOn_37 ?_
  refine lv_iconst (v := (1 : Int32)) cx.1 cx.2.1 dX11_buyTrainOn_38 (by decide) ?_
  refine lv_iadd cx.1 cx.2.1 dX11_buyTrainOn_39 ?_
  obtain ⟨hin, hf⟩ := gck_some hf
  obtain ⟨S_15, eS_15, hf⟩ := gst_ex hf
  refine g_iast cx hw hS hk0 (vp_of_inb hin) dX11_buyTrainOn_40 (fun H locs hw hS => ?_)
  rw [eS_15] at hw
  refine lv_iload_n cx.1 cx.2.1 dX11_buyTrainOn_41 rfl (lv_at hl 3 rfl) ?_
  refine lv_aload_n cx.1 cx.2.1 dX11_buyTrainOn_42 rfl (lv_at hl 1 rfl) ?_
  refine lv_iconst (v := (3 : Int32)) cx.1 cx.2.1 dX11_buyTrainOn_43 (by decide) ?_
  obtain ⟨hin, hf⟩ := gck_some hf
  refine g_iald cx hw hk0 (vp_of_inb hin) dX11_buyTrainOn_44 ?_
  refine lv_icmp_gt (tgt := 50) cx.1 cx.2.1 dX11_buyTrainOn_45 (by decide) (fun hc => ?_) (fun hc => ?_)
  · rw [if_pos hc] at hf
    refine lv_aload_n cx.1 cx.2.1 dX11_buyTrainOn_50 rfl (lv_at hl 1 rfl) ?_
    refine lv_iconst (v := (3 : Int32)) cx.1 cx.2.1 dX11_buyTrainOn_51 (by decide) ?_
    refine lv_dup2_11 cx.1 cx.2.1 dX11_buyTrainOn_52 rfl rfl ?_
    obtain ⟨hin, hf⟩ := gck_some hf
    refine g_iald cx hw hk0 (vp_of_inb hin) dX11_buyTrainOn_53 ?_
    refine lv_iconst (v := (1 : Int32)) cx.1 cx.2.1 dX11_buyTrainOn_54 (by decide) ?_
    refine lv_iadd cx.1 cx.2.1 dX11_buyTrainOn_55 ?_
    obtain ⟨hin, hf⟩ := gck_some hf
    obtain ⟨S_16, eS_16, hf⟩ := gst_ex hf
    refine g_iast cx hw hS hk0 (vp_of_inb hin) dX11_buyTrainOn_56 (fun H locs hw hS => ?_)
    rw [eS_16] at hw
    refine lv_iconst (v := (0 : Int32)) cx.1 cx.2.1 dX11_buyTrainOn_57 (by decide) ?_
    refine lv_istore (lv' := [(4, .int (0 : Int32)), (3, .int v_10), (0, .ref (G.2.1 k0)), (1, .int a1), (2, .int a2)]) cx.1 cx.2.1 dX11_buyTrainOn_58 hl (by decide) rfl (fun ls hl => ?_)
    refine lv_iconst (v := (0 : Int32)) cx.1 cx.2.1 dX11_buyTrainOn_60 (by decide) ?_
    refine lv_istore (lv' := [(5, .int (0 : Int32)), (4, .int (0 : Int32)), (3, .int v_10), (0, .ref (G.2.1 k0)), (1, .int a1), (2, .int a2)]) cx.1 cx.2.1 dX11_buyTrainOn_61 hl (by decide) rfl (fun ls hl => ?_)
    exact hL_63 gFu S_16 (0 : Int32) (0 : Int32) _ _ _ hw hS (lv_sub hl [3, 1, 0] rfl) hf
  · rw [if_neg hc] at hf
    refine lv_iconst (v := (0 : Int32)) cx.1 cx.2.1 dX11_buyTrainOn_48 (by decide) ?_
    exact g_ireti cx hr hlk hw hS hf dX11_buyTrainOn_49
set_option maxHeartbeats 4000000 in
set_option maxRecDepth 100000 in
theorem c_X11_buyTrain (l : Launch) (G : gG) (hM : 402 ≤ gN G) (a1 : Int32) (a2 : Int32) (S : Sg) (r : Int32) (S' : Sg) (hf : f_X11_buyTrain a1 a2 S = some (r, S')) : Ct l yX11_buyTrain [Cond.code yX11_buyTrain cX11_buyTrain 3 (some .int)] (gR 4 91) G [.ref (G.2.1 392), .int a1, .int a2] S (some (.int r)) S' := by
  refine Ct_of (by decide) (Nat.le_of_ble_eq_true rfl) ?_
  intro p e s m below meth c ls cx hr hlk hw hS hl
  have hN := cx.2.2.2.2.hN
  have hB_45 : ∀ (S : Sg) (x1 : Int32) (x2 : Int32) (t0 : Int32) (H : Heap) (locs : List Loc) (ls : Array Slot), gP G S H → va_S (gA G s.heap.size) s.heap H locs → lv_has ls 3 [(0, .ref (G.2.1 392)), (1, .int x1), (2, .int x2)] → B_X11_buyTrain_45 S x1 x2 t0 = some (r, S') → W p l e (gR 4 91) s m ([.ref (G.2.1 392), .int a1, .int a2] : List Value).toArray below meth c H locs 0 0 (MQ below (gQ G S' (some (.int r)) (gA G s.heap.size)) ([.ref (G.2.1 392), .int a1, .int a2] : List Value).toArray s 0 0 (gA G s.heap.size)) (F0 m 45 ls [.int t0, .ref (G.2.1 392)]) := by
    intro S x1 x2 t0 H locs ls hw hS hl hf
    unfold B_X11_buyTrain_45 at hf
    obtain ⟨v_2, S_1, hv, hf⟩ := gbi_some hf
    refine g_V (As := [.int t0]) (rest := []) cx hw hS (c_X11_refused l G hM t0 S v_2 S_1 hv) (by omega) he_c392 rfl rfl gw_200 gy_X11_refused gi_X11_refused ⟨Nat.le_of_ble_eq_true rfl, Nat.le_of_ble_eq_true rfl⟩ ⟨Nat.zero_le _, Nat.zero_le _⟩ rfl hl.1 rfl (Nat.le_of_ble_eq_true rfl) dX11_buyTrain_45 (fun H locs hw hS => ?_)
    refine W.eq (g2 := F0 m 48 ls [.int v_2]) rfl ?_
    refine lv_if_eq (tgt := 53) cx.1 cx.2.1 dX11_buyTrain_48 (by decide) (fun hc => ?_) (fun hc => ?_)
    · rw [if_pos hc] at hf
      refine lv_aload_n cx.1 cx.2.1 dX11_buyTrain_53 rfl (lv_at hl 0 rfl) ?_
      obtain ⟨S_3, hv, hf⟩ := gbv_some hf
      refine g_V (As := []) (rest := []) cx hw hS (c_X11_note l G hM S_1 S_3 hv) (by omega) he_c392 rfl rfl gw_572 gy_X11_note gi_X11_note ⟨Nat.le_of_ble_eq_true rfl, Nat.le_of_ble_eq_true rfl⟩ ⟨Nat.zero_le _, Nat.zero_le _⟩ rfl hl.1 rfl (Nat.le_of_ble_eq_true rfl) dX11_buyTrain_54 (fun H locs hw hS => ?_)
      refine W.eq (g2 := F0 m 57 ls []) rfl ?_
      refine lv_aload_n cx.1 cx.2.1 dX11_buyTrain_57 rfl (lv_at hl 0 rfl) ?_
      refine g_get (C := RX11) (T := TX11) (N := 16) (v := .ref (G.2.1 395)) cx hw inlX11 392 (by omega) he_c392 rfl 5 (by decide) gw_144 rfl rfl dX11_buyTrain_58 ?_
      refine lv_iload_n cx.1 cx.2.1 dX11_buyTrain_61 rfl (lv_at hl 1 rfl) ?_
      refine lv_iload_n cx.1 cx.2.1 dX11_buyTrain_62 rfl (lv_at hl 2 rfl) ?_
      obtain ⟨v_5, S_4, hv, hf⟩ := gbi_some hf
      refine g_S (As := [.ref (G.2.1 395), .int x1, .int x2]) (rest := []) cx hw hS (c_X11_buyTrainOn l G hM (ia_c395 hM) x1 x2 S_3 v_5 S_4 hv) gw_613 gy_X11_buyTrainOn gi_X11_buyTrainOn ⟨Nat.le_of_ble_eq_true rfl, Nat.le_of_ble_eq_true rfl⟩ ⟨Nat.zero_le _, Nat.zero_le _⟩ rfl hl.1 rfl (Nat.le_of_ble_eq_true rfl) dX11_buyTrain_63 (fun H locs hw hS => ?_)
      refine W.eq (g2 := F0 m 66 ls [.int v_5]) rfl ?_
      exact g_ireti cx hr hlk hw hS hf dX11_buyTrain_66
    · rw [if_neg hc] at hf
      refine lv_iconst (v := (0 : Int32)) cx.1 cx.2.1 dX11_buyTrain_51 (by decide) ?_
      exact g_ireti cx hr hlk hw hS hf dX11_buyTrain_52
  have hl : lv_has ls 3 [(0, .ref (G.2.1 392)), (1, .int a1), (2, .int a2)] := hl
  unfold f_X11_buyTrain at hf
  refine lv_aload_n cx.1 cx.2.1 dX11_buyTrain_0 rfl (lv_at hl 0 rfl) ?_
  refine lv_iload_n cx.1 cx.2.1 dX11_buyTrain_1 rfl (lv_at hl 1 rfl) ?_
  obtain ⟨v_7, S_6, hv, hf⟩ := gbi_some hf
  refine g_S (As := [.int a1]) (rest := [.ref (G.2.1 392)]) cx hw hS (c_X11_isCompany l G hM a1 S v_7 S_6 hv) gw_446 gy_X11_isCompany gi_X11_isCompany ⟨Nat.le_of_ble_eq_true rfl, Nat.le_of_ble_eq_true rfl⟩ ⟨Nat.zero_le _, Nat.zero_le _⟩ rfl hl.1 rfl (Nat.le_of_ble_eq_true rfl) dX11_buyTrain_2 (fun H locs hw hS => ?_)
  refine W.eq (g2 := F0 m 5 ls [.int v_7, .ref (G.2.1 392)]) rfl ?_
  refine lv_if_ne (tgt := 12) cx.1 cx.2.1 dX11_buyTrain_5 (by decide) (fun hc => ?_) (fun hc => ?_)
  · rw [if_neg hc] at hf
    refine lv_iload_n cx.1 cx.2.1 dX11_buyTrain_12 rfl (lv_at hl 2 rfl) ?_
    refine lv_i2l cx.1 cx.2.1 dX11_buyTrain_13 rfl ?_
    refine lv_lconst (v := (1 : Int64)) cx.1 cx.2.1 dX11_buyTrain_14 (by decide) ?_
    refine lv_ldc2 cx.1 cx.2.1 cx.2.2.2.1 (cx.2.2.2.2.ts _ gw_445) dX11_buyTrain_15 ?_
    obtain ⟨v_9, S_8, hv, hf⟩ := gbi_some hf
    refine g_S (As := [.long a2.toInt64, .long (1 : Int64), .long (6 : Int64)]) (rest := [.ref (G.2.1 392)]) cx hw hS (c_X11_in l G hM a2.toInt64 (1 : Int64) (6 : Int64) S_6 v_9 S_8 hv) gw_197 gy_X11_in gi_X11_in ⟨Nat.le_of_ble_eq_true rfl, Nat.le_of_ble_eq_true rfl⟩ ⟨Nat.zero_le _, Nat.zero_le _⟩ rfl hl.1 rfl (Nat.le_of_ble_eq_true rfl) dX11_buyTrain_18 (fun H locs hw hS => ?_)
    refine W.eq (g2 := F0 m 21 ls [.int v_9, .ref (G.2.1 392)]) rfl ?_
    refine lv_if_ne (tgt := 28) cx.1 cx.2.1 dX11_buyTrain_21 (by decide) (fun hc => ?_) (fun hc => ?_)
    · rw [if_neg hc] at hf
      refine lv_aload_n cx.1 cx.2.1 dX11_buyTrain_28 rfl (lv_at hl 0 rfl) ?_
      refine g_get (C := RX11) (T := TX11) (N := 16) (v := .ref (G.2.1 395)) cx hw inlX11 392 (by omega) he_c392 rfl 5 (by decide) gw_144 rfl rfl dX11_buyTrain_29 ?_
      refine lv_iload_n cx.1 cx.2.1 dX11_buyTrain_32 rfl (lv_at hl 1 rfl) ?_
      refine lv_iload_n cx.1 cx.2.1 dX11_buyTrain_33 rfl (lv_at hl 2 rfl) ?_
      obtain ⟨v_11, S_10, hv, hf⟩ := gbi_some hf
      refine g_S (As := [.ref (G.2.1 395), .int a1, .int a2]) (rest := [.ref (G.2.1 392)]) cx hw hS (c_X11_canBuyTrain l G hM (ia_c395 hM) a1 a2 S_8 v_11 S_10 hv) gw_610 gy_X11_canBuyTrain gi_X11_canBuyTrain ⟨Nat.le_of_ble_eq_true rfl, Nat.le_of_ble_eq_true rfl⟩ ⟨Nat.zero_le _, Nat.zero_le _⟩ rfl hl.1 rfl (Nat.le_of_ble_eq_true rfl) dX11_buyTrain_34 (fun H locs hw hS => ?_)
      refine W.eq (g2 := F0 m 37 ls [.int v_11, .ref (G.2.1 392)]) rfl ?_
      refine lv_if_ne (tgt := 44) cx.1 cx.2.1 dX11_buyTrain_37 (by decide) (fun hc => ?_) (fun hc => ?_)
      · rw [if_neg hc] at hf
        refine lv_iconst (v := (0 : Int32)) cx.1 cx.2.1 dX11_buyTrain_44 (by decide) ?_
        exact hB_45 S_10 a1 a2 (0 : Int32) _ _ _ hw hS (lv_sub hl [0, 1, 2] rfl) hf
      · rw [if_pos hc] at hf
        refine lv_iconst (v := (3 : Int32)) cx.1 cx.2.1 dX11_buyTrain_40 (by decide) ?_
        refine lv_goto (tgt := 45) cx.1 cx.2.1 dX11_buyTrain_41 (by decide) ?_
        exact hB_45 S_10 a1 a2 (3 : Int32) _ _ _ hw hS (lv_sub hl [0, 1, 2] rfl) hf
    · rw [if_pos hc] at hf
      refine lv_iconst (v := (2 : Int32)) cx.1 cx.2.1 dX11_buyTrain_24 (by decide) ?_
      refine lv_goto (tgt := 45) cx.1 cx.2.1 dX11_buyTrain_25 (by decide) ?_
      exact hB_45 S_8 a1 a2 (2 : Int32) _ _ _ hw hS (lv_sub hl [0, 1, 2] rfl) hf
  · rw [if_pos hc] at hf
    refine lv_iconst (v := (1 : Int32)) cx.1 cx.2.1 dX11_buyTrain_8 (by decide) ?_
    refine lv_goto (tgt := 45) cx.1 cx.2.1 dX11_buyTrain_9 (by decide) ?_
    exact hB_45 S_6 a1 a2 (1 : Int32) _ _ _ hw hS (lv_sub hl [0, 1, 2] rfl) hf
set_option maxHeartbeats 4000000 in
set_option maxRecDepth 100000 in
theorem c_X11_canTake (l : Launch) (G : gG) {k0 : Nat} (hM : 402 ≤ gN G) (hk0 : IA G k0 175) (a1 : Int32) (S : Sg) (r : Int32) (S' : Sg) (hf : f_X11_canTake k0 a1 S = some (r, S')) : Ct l yX11_canTake [Cond.code yX11_canTake cX11_canTake 2 (some .boolean)] (gR 1 20) G [.ref (G.2.1 k0), .int a1] S (some (.int r)) S' := by
  refine Ct_of (by decide) (Nat.le_of_ble_eq_true rfl) ?_
  intro p e s m below meth c ls cx hr hlk hw hS hl
  have hN := cx.2.2.2.2.hN
  have hl : lv_has ls 2 [(0, .ref (G.2.1 k0)), (1, .int a1)] := hl
  unfold f_X11_canTake at hf
  refine lv_aload_n cx.1 cx.2.1 dX11_canTake_0 rfl (lv_at hl 0 rfl) ?_
  refine lv_iload_n cx.1 cx.2.1 dX11_canTake_1 rfl (lv_at hl 1 rfl) ?_
  obtain ⟨v_2, S_1, hv, hf⟩ := gbi_some hf
  refine g_S (As := [.int a1]) (rest := [.ref (G.2.1 k0)]) cx hw hS (c_X11_contractAt l G hM a1 S v_2 S_1 hv) gw_299 gy_X11_contractAt gi_X11_contractAt ⟨Nat.le_of_ble_eq_true rfl, Nat.le_of_ble_eq_true rfl⟩ ⟨Nat.zero_le _, Nat.zero_le _⟩ rfl hl.1 rfl (Nat.le_of_ble_eq_true rfl) dX11_canTake_2 (fun H locs hw hS => ?_)
  refine W.eq (g2 := F0 m 5 ls [.int v_2, .ref (G.2.1 k0)]) rfl ?_
  refine lv_iconst (v := (4 : Int32)) cx.1 cx.2.1 dX11_canTake_5 (by decide) ?_
  refine lv_iadd cx.1 cx.2.1 dX11_canTake_6 ?_
  obtain ⟨hin, hf⟩ := gck_some hf
  refine g_iald cx hw hk0 (vp_of_inb hin) dX11_canTake_7 ?_
  refine lv_bipush (v := (-9 : Int32)) cx.1 cx.2.1 dX11_canTake_8 (by decide) ?_
  refine lv_icmp_ne (tgt := 17) cx.1 cx.2.1 dX11_canTake_10 (by decide) (fun hc => ?_) (fun hc => ?_)
  · rw [if_neg hc] at hf
    refine lv_iconst (v := (0 : Int32)) cx.1 cx.2.1 dX11_canTake_17 (by decide) ?_
    exact g_zreti cx hr hlk hw hS (by decide) hf dX11_canTake_18
  · rw [if_pos hc] at hf
    refine lv_iconst (v := (1 : Int32)) cx.1 cx.2.1 dX11_canTake_13 (by decide) ?_
    refine lv_goto (tgt := 18) cx.1 cx.2.1 dX11_canTake_14 (by decide) ?_
    exact g_zreti cx hr hlk hw hS (by decide) hf dX11_canTake_18
set_option maxHeartbeats 4000000 in
set_option maxRecDepth 100000 in
theorem c_X11_clearText (l : Launch) (G : gG) (hM : 402 ≤ gN G) (S : Sg) (r : Int32) (S' : Sg) (hf : f_X11_clearText S = some (r, S')) : Ct l yX11_clearText [Cond.code yX11_clearText cX11_clearText 2 (some .int)] (gR 0 0) G [.ref (G.2.1 392)] S (some (.int r)) S' := by
  refine Ct_of (by decide) (Nat.le_of_ble_eq_true rfl) ?_
  intro p e s m below meth c ls cx hr hlk hw hS hl
  have hN := cx.2.2.2.2.hN
  have hl : lv_has ls 2 [(0, .ref (G.2.1 392))] := hl
  unfold f_X11_clearText at hf
  refine lv_aload_n cx.1 cx.2.1 dX11_clearText_0 rfl (lv_at hl 0 rfl) ?_
  refine lv_iconst (v := (0 : Int32)) cx.1 cx.2.1 dX11_clearText_1 (by decide) ?_
  obtain ⟨S_1, eS_1, hf⟩ := gst_ex hf
  refine g_put (C := RX11) (T := TX11) (N := 16) cx hw hS inlX11 tyX11 tyX11_ok nmX11 392 (by omega) he_c392 rfl 0 (by decide) gw_204 rfl rfl (by decide +kernel) (Nat.le_of_ble_eq_true rfl) (by rw [u2_s, he_c392]; rfl) dX11_clearText_2 (fun H locs hw hS => ?_)
  rw [eS_1] at hw
  refine lv_aload_n cx.1 cx.2.1 dX11_clearText_5 rfl (lv_at hl 0 rfl) ?_
  refine g_get (C := RX11) (T := TX11) (N := 16) (v := .int (S_1 392 2)) cx hw inlX11 392 (by omega) he_c392 rfl 2 (by decide) gw_196 rfl rfl dX11_clearText_6 ?_
  obtain ⟨x1_2, ex1_2, hf⟩ := gvi_ex hf
  refine W.eq (g2 := F0 m 9 ls [.int x1_2]) (by rw [← ex1_2]) ?_
  refine lv_istore_n (lv' := [(1, .int x1_2), (0, .ref (G.2.1 392))]) cx.1 cx.2.1 dX11_clearText_9 rfl hl (by decide) rfl (fun ls hl => ?_)
  refine lv_aload_n cx.1 cx.2.1 dX11_clearText_10 rfl (lv_at hl 1 rfl) ?_
  refine lv_iconst (v := (0 : Int32)) cx.1 cx.2.1 dX11_clearText_11 (by decide) ?_
  obtain ⟨S_3, eS_3, hf⟩ := gst_ex hf
  refine g_put (C := RX11) (T := TX11) (N := 16) cx hw hS inlX11 tyX11 tyX11_ok nmX11 392 (by omega) he_c392 rfl 2 (by decide) gw_196 rfl rfl (by decide +kernel) (Nat.le_of_ble_eq_true rfl) (by rw [u2_s, he_c392]; rfl) dX11_clearText_12 (fun H locs hw hS => ?_)
  rw [eS_3] at hw
  refine lv_iload_n cx.1 cx.2.1 dX11_clearText_15 rfl (lv_at hl 0 rfl) ?_
  exact g_ireti cx hr hlk hw hS hf dX11_clearText_16
set_option maxHeartbeats 4000000 in
set_option maxRecDepth 100000 in
theorem c_X11_coinsAfter (l : Launch) (G : gG) (hM : 402 ≤ gN G) (a1 : Int32) (a2 : Int32) (S : Sg) (r : Int32) (S' : Sg) (hf : f_X11_coinsAfter a1 a2 S = some (r, S')) : Ct l yX11_coinsAfter [Cond.code yX11_coinsAfter cX11_coinsAfter 4 (some .int)] (gR 4 88) G [.ref (G.2.1 392), .int a1, .int a2] S (some (.int r)) S' := by
  refine Ct_of (by decide) (Nat.le_of_ble_eq_true rfl) ?_
  intro p e s m below meth c ls cx hr hlk hw hS hl
  have hN := cx.2.2.2.2.hN
  have hL_52 : ∀ (n : Nat), ∀ (S : Sg) (x1 : Int32) (x2 : Int32) (x3 : Int32) (H : Heap) (locs : List Loc) (ls : Array Slot), gP G S H → va_S (gA G s.heap.size) s.heap H locs → lv_has ls 4 [(0, .ref (G.2.1 392)), (1, .int x1), (2, .int x2), (3, .int x3)] → L_X11_coinsAfter_52 n S x1 x2 x3 = some (r, S') → W p l e (gR 4 88) s m ([.ref (G.2.1 392), .int a1, .int a2] : List Value).toArray below meth c H locs 0 0 (MQ below (gQ G S' (some (.int r)) (gA G s.heap.size)) ([.ref (G.2.1 392), .int a1, .int a2] : List Value).toArray s 0 0 (gA G s.heap.size)) (F0 m 52 ls []) := by
    intro n
    induction n with
    | zero => intro S x1 x2 x3 H locs ls hw hS hl hf; cases hf
    | succ n hK52 =>
      intro S x1 x2 x3 H locs ls hw hS hl hf
      have hf : Lb_X11_coinsAfter_52 (L_X11_coinsAfter_52 n) S x1 x2 x3 = some (r, S') := hf
      unfold Lb_X11_coinsAfter_52 at hf
      refine lv_iload_n cx.1 cx.2.1 dX11_coinsAfter_52 rfl (lv_at hl 3 rfl) ?_
      refine lv_iload_n cx.1 cx.2.1 dX11_coinsAfter_53 rfl (lv_at hl 2 rfl) ?_
      refine lv_icmp_ge (tgt := 71) cx.1 cx.2.1 dX11_coinsAfter_54 (by decide) (fun hc => ?_) (fun hc => ?_)
      · rw [if_pos hc] at hf
        refine lv_aload_n cx.1 cx.2.1 dX11_coinsAfter_71 rfl (lv_at hl 0 rfl) ?_
        refine g_get (C := RX11) (T := TX11) (N := 16) (v := .ref (G.2.1 396)) cx hw inlX11 392 (by omega) he_c392 rfl 6 (by decide) gw_145 rfl rfl dX11_coinsAfter_72 ?_
        refine lv_iload_n cx.1 cx.2.1 dX11_coinsAfter_75 rfl (lv_at hl 1 rfl) ?_
        obtain ⟨v_2, S_1, hv, hf⟩ := gbi_some hf
        refine g_S (As := [.int x1]) (rest := [.ref (G.2.1 396)]) cx hw hS (c_X11_companyAt l G hM x1 S v_2 S_1 hv) gw_155 gy_X11_companyAt gi_X11_companyAt ⟨Nat.le_of_ble_eq_true rfl, Nat.le_of_ble_eq_true rfl⟩ ⟨Nat.zero_le _, Nat.zero_le _⟩ rfl hl.1 rfl (Nat.le_of_ble_eq_true rfl) dX11_coinsAfter_76 (fun H locs hw hS => ?_)
        refine W.eq (g2 := F0 m 79 ls [.int v_2, .ref (G.2.1 396)]) rfl ?_
        obtain ⟨hin, hf⟩ := gck_some hf
        refine g_iald cx hw (ia_c396 hM) (vp_of_inb hin) dX11_coinsAfter_79 ?_
        exact g_ireti cx hr hlk hw hS hf dX11_coinsAfter_80
      · rw [if_neg hc] at hf
        refine lv_aload_n cx.1 cx.2.1 dX11_coinsAfter_57 rfl (lv_at hl 0 rfl) ?_
        refine g_get (C := RX11) (T := TX11) (N := 16) (v := .ref (G.2.1 396)) cx hw inlX11 392 (by omega) he_c392 rfl 6 (by decide) gw_145 rfl rfl dX11_coinsAfter_58 ?_
        obtain ⟨v_4, S_3, hv, hf⟩ := gbi_some hf
        refine g_S (As := [.ref (G.2.1 396)]) (rest := []) cx hw hS (c_X11_endOn l G hM (ia_c396 hM) S v_4 S_3 hv) gw_875 gy_X11_endOn gi_X11_endOn ⟨Nat.le_of_ble_eq_true rfl, Nat.le_of_ble_eq_true rfl⟩ ⟨Nat.zero_le _, Nat.zero_le _⟩ rfl hl.1 rfl (Nat.le_of_ble_eq_true rfl) dX11_coinsAfter_61 (fun H locs hw hS => ?_)
        refine W.eq (g2 := F0 m 64 ls [.int v_4]) rfl ?_
        refine lv_pop cx.1 cx.2.1 dX11_coinsAfter_64 rfl ?_
        obtain ⟨x3_5, ex3_5, hf⟩ := gvi_ex hf
        refine lv_iinc (v := x3_5) (lv' := [(3, .int x3_5), (0, .ref (G.2.1 392)), (1, .int x1), (2, .int x2)]) cx.1 cx.2.1 dX11_coinsAfter_65 hl (k := 3) rfl (by rw [← ex3_5]; rfl) (by decide) rfl (fun ls hl => ?_)
        refine lv_goto (tgt := 52) cx.1 cx.2.1 dX11_coinsAfter_68 (by decide) ?_
        exact hK52 S_3 x1 x2 x3_5 _ _ _ hw hS (lv_sub hl [1, 2, 3, 0] rfl) hf
  have hB_29 : ∀ (S : Sg) (x1 : Int32) (x2 : Int32) (t0 : Int32) (H : Heap) (locs : List Loc) (ls : Array Slot), gP G S H → va_S (gA G s.heap.size) s.heap H locs → lv_has ls 4 [(0, .ref (G.2.1 392)), (1, .int x1), (2, .int x2)] → B_X11_coinsAfter_29 S x1 x2 t0 = some (r, S') → W p l e (gR 4 88) s m ([.ref (G.2.1 392), .int a1, .int a2] : List Value).toArray below meth c H locs 0 0 (MQ below (gQ G S' (some (.int r)) (gA G s.heap.size)) ([.ref (G.2.1 392), .int a1, .int a2] : List Value).toArray s 0 0 (gA G s.heap.size)) (F0 m 29 ls [.int t0, .ref (G.2.1 392)]) := by
    intro S x1 x2 t0 H locs ls hw hS hl hf
    unfold B_X11_coinsAfter_29 at hf
    obtain ⟨v_7, S_6, hv, hf⟩ := gbi_some hf
    refine g_V (As := [.int t0]) (rest := []) cx hw hS (c_X11_refused l G hM t0 S v_7 S_6 hv) (by omega) he_c392 rfl rfl gw_200 gy_X11_refused gi_X11_refused ⟨Nat.le_of_ble_eq_true rfl, Nat.le_of_ble_eq_true rfl⟩ ⟨Nat.zero_le _, Nat.zero_le _⟩ rfl hl.1 rfl (Nat.le_of_ble_eq_true rfl) dX11_coinsAfter_29 (fun H locs hw hS => ?_)
    refine W.eq (g2 := F0 m 32 ls [.int v_7]) rfl ?_
    refine lv_if_eq (tgt := 37) cx.1 cx.2.1 dX11_coinsAfter_32 (by decide) (fun hc => ?_) (fun hc => ?_)
    · rw [if_pos hc] at hf
      refine lv_aload_n cx.1 cx.2.1 dX11_coinsAfter_37 rfl (lv_at hl 0 rfl) ?_
      refine g_get (C := RX11) (T := TX11) (N := 16) (v := .ref (G.2.1 395)) cx hw inlX11 392 (by omega) he_c392 rfl 5 (by decide) gw_144 rfl rfl dX11_coinsAfter_38 ?_
      refine lv_iconst (v := (0 : Int32)) cx.1 cx.2.1 dX11_coinsAfter_41 (by decide) ?_
      refine lv_aload_n cx.1 cx.2.1 dX11_coinsAfter_42 rfl (lv_at hl 0 rfl) ?_
      refine g_get (C := RX11) (T := TX11) (N := 16) (v := .ref (G.2.1 396)) cx hw inlX11 392 (by omega) he_c392 rfl 6 (by decide) gw_145 rfl rfl dX11_coinsAfter_43 ?_
      refine lv_iconst (v := (0 : Int32)) cx.1 cx.2.1 dX11_coinsAfter_46 (by decide) ?_
      obtain ⟨S_8, hv, hf⟩ := gbv_some hf
      refine g_S (As := [.ref (G.2.1 395), .int (0 : Int32), .ref (G.2.1 396), .int (0 : Int32)]) (rest := []) cx hw hS (c_X11_copyPage l G hM (ia_c395 hM) (ia_c396 hM) (0 : Int32) (0 : Int32) S_6 S_8 hv) gw_350 gy_X11_copyPage gi_X11_copyPage ⟨Nat.le_of_ble_eq_true rfl, Nat.le_of_ble_eq_true rfl⟩ ⟨Nat.zero_le _, Nat.zero_le _⟩ rfl hl.1 rfl (Nat.le_of_ble_eq_true rfl) dX11_coinsAfter_47 (fun H locs hw hS => ?_)
      refine W.eq (g2 := F0 m 50 ls []) rfl ?_
      refine lv_iconst (v := (0 : Int32)) cx.1 cx.2.1 dX11_coinsAfter_50 (by decide) ?_
      refine lv_istore_n (lv' := [(3, .int (0 : Int32)), (0, .ref (G.2.1 392)), (1, .int x1), (2, .int x2)]) cx.1 cx.2.1 dX11_coinsAfter_51 rfl hl (by decide) rfl (fun ls hl => ?_)
      exact hL_52 gFu S_8 x1 x2 (0 : Int32) _ _ _ hw hS (lv_sub hl [1, 2, 3, 0] rfl) hf
    · rw [if_neg hc] at hf
      refine lv_iconst (v := (0 : Int32)) cx.1 cx.2.1 dX11_coinsAfter_35 (by decide) ?_
      exact g_ireti cx hr hlk hw hS hf dX11_coinsAfter_36
  have hl : lv_has ls 4 [(0, .ref (G.2.1 392)), (1, .int a1), (2, .int a2)] := hl
  unfold f_X11_coinsAfter at hf
  refine lv_aload_n cx.1 cx.2.1 dX11_coinsAfter_0 rfl (lv_at hl 0 rfl) ?_
  refine lv_iload_n cx.1 cx.2.1 dX11_coinsAfter_1 rfl (lv_at hl 1 rfl) ?_
  obtain ⟨v_10, S_9, hv, hf⟩ := gbi_some hf
  refine g_S (As := [.int a1]) (rest := [.ref (G.2.1 392)]) cx hw hS (c_X11_isCompany l G hM a1 S v_10 S_9 hv) gw_446 gy_X11_isCompany gi_X11_isCompany ⟨Nat.le_of_ble_eq_true rfl, Nat.le_of_ble_eq_true rfl⟩ ⟨Nat.zero_le _, Nat.zero_le _⟩ rfl hl.1 rfl (Nat.le_of_ble_eq_true rfl) dX11_coinsAfter_2 (fun H locs hw hS => ?_)
  refine W.eq (g2 := F0 m 5 ls [.int v_10, .ref (G.2.1 392)]) rfl ?_
  refine lv_if_ne (tgt := 12) cx.1 cx.2.1 dX11_coinsAfter_5 (by decide) (fun hc => ?_) (fun hc => ?_)
  · rw [if_neg hc] at hf
    refine lv_iload_n cx.1 cx.2.1 dX11_coinsAfter_12 rfl (lv_at hl 2 rfl) ?_
    refine lv_i2l cx.1 cx.2.1 dX11_coinsAfter_13 rfl ?_
    refine lv_lconst (v := (0 : Int64)) cx.1 cx.2.1 dX11_coinsAfter_14 (by decide) ?_
    refine lv_ldc2 cx.1 cx.2.1 cx.2.2.2.1 (cx.2.2.2.2.ts _ gw_979) dX11_coinsAfter_15 ?_
    obtain ⟨v_12, S_11, hv, hf⟩ := gbi_some hf
    refine g_S (As := [.long a2.toInt64, .long (0 : Int64), .long (50 : Int64)]) (rest := [.ref (G.2.1 392)]) cx hw hS (c_X11_in l G hM a2.toInt64 (0 : Int64) (50 : Int64) S_9 v_12 S_11 hv) gw_197 gy_X11_in gi_X11_in ⟨Nat.le_of_ble_eq_true rfl, Nat.le_of_ble_eq_true rfl⟩ ⟨Nat.zero_le _, Nat.zero_le _⟩ rfl hl.1 rfl (Nat.le_of_ble_eq_true rfl) dX11_coinsAfter_18 (fun H locs hw hS => ?_)
    refine W.eq (g2 := F0 m 21 ls [.int v_12, .ref (G.2.1 392)]) rfl ?_
    refine lv_if_ne (tgt := 28) cx.1 cx.2.1 dX11_coinsAfter_21 (by decide) (fun hc => ?_) (fun hc => ?_)
    · rw [if_neg hc] at hf
      refine lv_iconst (v := (0 : Int32)) cx.1 cx.2.1 dX11_coinsAfter_28 (by decide) ?_
      exact hB_29 S_11 a1 a2 (0 : Int32) _ _ _ hw hS (lv_sub hl [0, 1, 2] rfl) hf
    · rw [if_pos hc] at hf
      refine lv_iconst (v := (2 : Int32)) cx.1 cx.2.1 dX11_coinsAfter_24 (by decide) ?_
      refine lv_goto (tgt := 29) cx.1 cx.2.1 dX11_coinsAfter_25 (by decide) ?_
      exact hB_29 S_11 a1 a2 (2 : Int32) _ _ _ hw hS (lv_sub hl [0, 1, 2] rfl) hf
  · rw [if_pos hc] at hf
    refine lv_iconst (v := (1 : Int32)) cx.1 cx.2.1 dX11_coinsAfter_8 (by decide) ?_
    refine lv_goto (tgt := 29) cx.1 cx.2.1 dX11_coinsAfter_9 (by decide) ?_
    exact hB_29 S_9 a1 a2 (1 : Int32) _ _ _ hw hS (lv_sub hl [0, 1, 2] rfl) hf
