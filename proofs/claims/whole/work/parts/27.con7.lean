set_option maxHeartbeats 4000000 in
set_option maxRecDepth 100000 in
theorem c_X11_whyNot (l : Launch) (G : gG) (hM : 402 ≤ gN G) (a1 : Int32) (a2 : Int32) (S : Sg) (r : Int32) (S' : Sg) (hf : f_X11_whyNot a1 a2 S = some (r, S')) : Ct l yX11_whyNot [Cond.code yX11_whyNot cX11_whyNot 3 (some .int)] (gR 6 153) G [.ref (G.2.1 392), .int a1, .int a2] S (some (.int r)) S' := by
  refine Ct_of (by decide) (Nat.le_of_ble_eq_true rfl) ?_
  intro p e s m below meth c ls cx hr hlk hw hS hl
  have hN := cx.2.2.2.2.hN
  have hB_18 : ∀ (S : Sg) (x1 : Int32) (x2 : Int32) (t0 : Int32) (H : Heap) (locs : List Loc) (ls : Array Slot), gP G S H → va_S (gA G s.heap.size) s.heap H locs → lv_has ls 3 [(0, .ref (G.2.1 392)), (1, .int x1), (2, .int x2)] → B_X11_whyNot_18 S x1 x2 t0 = some (r, S') → W p l e (gR 6 153) s m ([.ref (G.2.1 392), .int a1, .int a2] : List Value).toArray below meth c H locs 0 0 (MQ below (gQ G S' (some (.int r)) (gA G s.heap.size)) ([.ref (G.2.1 392), .int a1, .int a2] : List Value).toArray s 0 0 (gA G s.heap.size)) (F0 m 18 ls [.int t0, .ref (G.2.1 392)]) := by
    intro S x1 x2 t0 H locs ls hw hS hl hf
    unfold B_X11_whyNot_18 at hf
    obtain ⟨v_2, S_1, hv, hf⟩ := gbi_some hf
    refine g_V (As := [.int t0]) (rest := []) cx hw hS (c_X11_refused l G hM t0 S v_2 S_1 hv) (by omega) he_c392 rfl rfl gw_200 gy_X11_refused gi_X11_refused ⟨Nat.le_of_ble_eq_true rfl, Nat.le_of_ble_eq_true rfl⟩ ⟨Nat.zero_le _, Nat.zero_le _⟩ rfl hl.1 rfl (Nat.le_of_ble_eq_true rfl) dX11_whyNot_18 (fun H locs hw hS => ?_)
    refine W.eq (g2 := F0 m 21 ls [.int v_2]) rfl ?_
    refine lv_if_eq (tgt := 28) cx.1 cx.2.1 dX11_whyNot_21 (by decide) (fun hc => ?_) (fun hc => ?_)
    · rw [if_pos hc] at hf
      refine lv_aload_n cx.1 cx.2.1 dX11_whyNot_28 rfl (lv_at hl 0 rfl) ?_
      refine lv_aload_n cx.1 cx.2.1 dX11_whyNot_29 rfl (lv_at hl 0 rfl) ?_
      refine g_get (C := RX11) (T := TX11) (N := 16) (v := .ref (G.2.1 395)) cx hw inlX11 392 (by omega) he_c392 rfl 5 (by decide) gw_144 rfl rfl dX11_whyNot_30 ?_
      refine lv_iload_n cx.1 cx.2.1 dX11_whyNot_33 rfl (lv_at hl 1 rfl) ?_
      refine lv_iload_n cx.1 cx.2.1 dX11_whyNot_34 rfl (lv_at hl 2 rfl) ?_
      obtain ⟨v_4, S_3, hv, hf⟩ := gbi_some hf
      refine g_V (As := [.ref (G.2.1 395), .int x1, .int x2]) (rest := []) cx hw hS (c_X11_why l G hM (ia_c395 hM) x1 x2 S_1 v_4 S_3 hv) (by omega) he_c392 rfl rfl gw_791 gy_X11_why gi_X11_why ⟨Nat.le_of_ble_eq_true rfl, Nat.le_of_ble_eq_true rfl⟩ ⟨Nat.zero_le _, Nat.zero_le _⟩ rfl hl.1 rfl (Nat.le_of_ble_eq_true rfl) dX11_whyNot_35 (fun H locs hw hS => ?_)
      refine W.eq (g2 := F0 m 38 ls [.int v_4]) rfl ?_
      exact g_ireti cx hr hlk hw hS hf dX11_whyNot_38
    · rw [if_neg hc] at hf
      refine lv_iconst (v := (0 : Int32)) cx.1 cx.2.1 dX11_whyNot_24 (by decide) ?_
      refine lv_goto (tgt := 38) cx.1 cx.2.1 dX11_whyNot_25 (by decide) ?_
      exact g_ireti cx hr hlk hw hS hf dX11_whyNot_38
  have hl : lv_has ls 3 [(0, .ref (G.2.1 392)), (1, .int a1), (2, .int a2)] := hl
  unfold f_X11_whyNot at hf
  refine lv_aload_n cx.1 cx.2.1 dX11_whyNot_0 rfl (lv_at hl 0 rfl) ?_
  refine lv_aload_n cx.1 cx.2.1 dX11_whyNot_1 rfl (lv_at hl 0 rfl) ?_
  refine g_get (C := RX11) (T := TX11) (N := 16) (v := .ref (G.2.1 395)) cx hw inlX11 392 (by omega) he_c392 rfl 5 (by decide) gw_144 rfl rfl dX11_whyNot_2 ?_
  refine lv_iload_n cx.1 cx.2.1 dX11_whyNot_5 rfl (lv_at hl 1 rfl) ?_
  refine lv_iload_n cx.1 cx.2.1 dX11_whyNot_6 rfl (lv_at hl 2 rfl) ?_
  obtain ⟨v_6, S_5, hv, hf⟩ := gbi_some hf
  refine g_S (As := [.ref (G.2.1 395), .int a1, .int a2]) (rest := [.ref (G.2.1 392)]) cx hw hS (c_X11_isRun l G hM (ia_c395 hM) a1 a2 S v_6 S_5 hv) gw_788 gy_X11_isRun gi_X11_isRun ⟨Nat.le_of_ble_eq_true rfl, Nat.le_of_ble_eq_true rfl⟩ ⟨Nat.zero_le _, Nat.zero_le _⟩ rfl hl.1 rfl (Nat.le_of_ble_eq_true rfl) dX11_whyNot_7 (fun H locs hw hS => ?_)
  refine W.eq (g2 := F0 m 10 ls [.int v_6, .ref (G.2.1 392)]) rfl ?_
  refine lv_if_eq (tgt := 17) cx.1 cx.2.1 dX11_whyNot_10 (by decide) (fun hc => ?_) (fun hc => ?_)
  · rw [if_pos hc] at hf
    refine lv_iconst (v := (1 : Int32)) cx.1 cx.2.1 dX11_whyNot_17 (by decide) ?_
    exact hB_18 S_5 a1 a2 (1 : Int32) _ _ _ hw hS (lv_sub hl [0, 1, 2] rfl) hf
  · rw [if_neg hc] at hf
    refine lv_iconst (v := (0 : Int32)) cx.1 cx.2.1 dX11_whyNot_13 (by decide) ?_
    refine lv_goto (tgt := 18) cx.1 cx.2.1 dX11_whyNot_14 (by decide) ?_
    exact hB_18 S_5 a1 a2 (0 : Int32) _ _ _ hw hS (lv_sub hl [0, 1, 2] rfl) hf
set_option maxHeartbeats 4000000 in
set_option maxRecDepth 100000 in
theorem c_X11_worth (l : Launch) (G : gG) (hM : 402 ≤ gN G) (a1 : Int32) (S : Sg) (r : Int32) (S' : Sg) (hf : f_X11_worth a1 S = some (r, S')) : Ct l yX11_worth [Cond.code yX11_worth cX11_worth 2 (some .int)] (gR 4 85) G [.ref (G.2.1 392), .int a1] S (some (.int r)) S' := by
  refine Ct_of (by decide) (Nat.le_of_ble_eq_true rfl) ?_
  intro p e s m below meth c ls cx hr hlk hw hS hl
  have hN := cx.2.2.2.2.hN
  have hB_13 : ∀ (S : Sg) (x1 : Int32) (t0 : Int32) (H : Heap) (locs : List Loc) (ls : Array Slot), gP G S H → va_S (gA G s.heap.size) s.heap H locs → lv_has ls 2 [(0, .ref (G.2.1 392)), (1, .int x1)] → B_X11_worth_13 S x1 t0 = some (r, S') → W p l e (gR 4 85) s m ([.ref (G.2.1 392), .int a1] : List Value).toArray below meth c H locs 0 0 (MQ below (gQ G S' (some (.int r)) (gA G s.heap.size)) ([.ref (G.2.1 392), .int a1] : List Value).toArray s 0 0 (gA G s.heap.size)) (F0 m 13 ls [.int t0, .ref (G.2.1 392)]) := by
    intro S x1 t0 H locs ls hw hS hl hf
    unfold B_X11_worth_13 at hf
    obtain ⟨v_2, S_1, hv, hf⟩ := gbi_some hf
    refine g_V (As := [.int t0]) (rest := []) cx hw hS (c_X11_refused l G hM t0 S v_2 S_1 hv) (by omega) he_c392 rfl rfl gw_200 gy_X11_refused gi_X11_refused ⟨Nat.le_of_ble_eq_true rfl, Nat.le_of_ble_eq_true rfl⟩ ⟨Nat.zero_le _, Nat.zero_le _⟩ rfl hl.1 rfl (Nat.le_of_ble_eq_true rfl) dX11_worth_13 (fun H locs hw hS => ?_)
    refine W.eq (g2 := F0 m 16 ls [.int v_2]) rfl ?_
    refine lv_if_eq (tgt := 23) cx.1 cx.2.1 dX11_worth_16 (by decide) (fun hc => ?_) (fun hc => ?_)
    · rw [if_pos hc] at hf
      refine lv_aload_n cx.1 cx.2.1 dX11_worth_23 rfl (lv_at hl 0 rfl) ?_
      refine g_get (C := RX11) (T := TX11) (N := 16) (v := .ref (G.2.1 395)) cx hw inlX11 392 (by omega) he_c392 rfl 5 (by decide) gw_144 rfl rfl dX11_worth_24 ?_
      refine lv_iload_n cx.1 cx.2.1 dX11_worth_27 rfl (lv_at hl 1 rfl) ?_
      obtain ⟨v_4, S_3, hv, hf⟩ := gbi_some hf
      refine g_S (As := [.ref (G.2.1 395), .int x1]) (rest := []) cx hw hS (c_X11_worthOf l G hM (ia_c395 hM) x1 S_1 v_4 S_3 hv) gw_1010 gy_X11_worthOf gi_X11_worthOf ⟨Nat.le_of_ble_eq_true rfl, Nat.le_of_ble_eq_true rfl⟩ ⟨Nat.zero_le _, Nat.zero_le _⟩ rfl hl.1 rfl (Nat.le_of_ble_eq_true rfl) dX11_worth_28 (fun H locs hw hS => ?_)
      refine W.eq (g2 := F0 m 31 ls [.int v_4]) rfl ?_
      exact g_ireti cx hr hlk hw hS hf dX11_worth_31
    · rw [if_neg hc] at hf
      refine lv_iconst (v := (0 : Int32)) cx.1 cx.2.1 dX11_worth_19 (by decide) ?_
      refine lv_goto (tgt := 31) cx.1 cx.2.1 dX11_worth_20 (by decide) ?_
      exact g_ireti cx hr hlk hw hS hf dX11_worth_31
  have hl : lv_has ls 2 [(0, .ref (G.2.1 392)), (1, .int a1)] := hl
  unfold f_X11_worth at hf
  refine lv_aload_n cx.1 cx.2.1 dX11_worth_0 rfl (lv_at hl 0 rfl) ?_
  refine lv_iload_n cx.1 cx.2.1 dX11_worth_1 rfl (lv_at hl 1 rfl) ?_
  obtain ⟨v_6, S_5, hv, hf⟩ := gbi_some hf
  refine g_S (As := [.int a1]) (rest := [.ref (G.2.1 392)]) cx hw hS (c_X11_isCompany l G hM a1 S v_6 S_5 hv) gw_446 gy_X11_isCompany gi_X11_isCompany ⟨Nat.le_of_ble_eq_true rfl, Nat.le_of_ble_eq_true rfl⟩ ⟨Nat.zero_le _, Nat.zero_le _⟩ rfl hl.1 rfl (Nat.le_of_ble_eq_true rfl) dX11_worth_2 (fun H locs hw hS => ?_)
  refine W.eq (g2 := F0 m 5 ls [.int v_6, .ref (G.2.1 392)]) rfl ?_
  refine lv_if_eq (tgt := 12) cx.1 cx.2.1 dX11_worth_5 (by decide) (fun hc => ?_) (fun hc => ?_)
  · rw [if_pos hc] at hf
    refine lv_iconst (v := (1 : Int32)) cx.1 cx.2.1 dX11_worth_12 (by decide) ?_
    exact hB_13 S_5 a1 (1 : Int32) _ _ _ hw hS (lv_sub hl [0, 1] rfl) hf
  · rw [if_neg hc] at hf
    refine lv_iconst (v := (0 : Int32)) cx.1 cx.2.1 dX11_worth_8 (by decide) ?_
    refine lv_goto (tgt := 13) cx.1 cx.2.1 dX11_worth_9 (by decide) ?_
    exact hB_13 S_5 a1 (0 : Int32) _ _ _ hw hS (lv_sub hl [0, 1] rfl) hf
