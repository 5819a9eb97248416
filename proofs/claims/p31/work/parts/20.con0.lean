set_option maxHeartbeats 4000000 in
set_option maxRecDepth 100000 in
theorem c_X10_at (l : Launch) (G : gG) {k0 : Nat} {n0 : Nat} (hk0 : IA G k0 n0) (a1 : Int32) (S : Sg) (r : Int32) (S' : Sg) (hf : f_X10_at k0 n0 a1 S = some (r, S')) : Ct l yX10_at [Cond.code yX10_at cX10_at 2 (some .int)] (gR 0 0) G [.ref (G.2.1 k0), .int a1] S (some (.int r)) S' := by
  refine Ct_of (by decide) (Nat.le_of_ble_eq_true rfl) ?_
  intro p e s m below meth c ls cx hr hlk hw hS hl
  have hN := cx.2.2.2.2.hN
  have hl : lv_has ls 2 [(0, .ref (G.2.1 k0)), (1, .int a1)] := hl
  unfold f_X10_at at hf
  refine lv_iload_n cx.1 cx.2.1 dX10_at_0 rfl (lv_at hl 1 rfl) ?_
  refine lv_if_lt (tgt := 16) cx.1 cx.2.1 dX10_at_1 (by decide) (fun hc => ?_) (fun hc => ?_)
  · rw [if_pos hc] at hf
    refine lv_iconst (v := (0 : Int32)) cx.1 cx.2.1 dX10_at_16 (by decide) ?_
    exact g_ireti cx hr hlk hw hS hf dX10_at_17
  · rw [if_neg hc] at hf
    refine lv_iload_n cx.1 cx.2.1 dX10_at_4 rfl (lv_at hl 1 rfl) ?_
    refine lv_aload_n cx.1 cx.2.1 dX10_at_5 rfl (lv_at hl 0 rfl) ?_
    refine g_alen cx hw hk0 dX10_at_6 ?_
    refine lv_icmp_ge (tgt := 16) cx.1 cx.2.1 dX10_at_7 (by decide) (fun hc => ?_) (fun hc => ?_)
    · rw [if_pos hc] at hf
      refine lv_iconst (v := (0 : Int32)) cx.1 cx.2.1 dX10_at_16 (by decide) ?_
      exact g_ireti cx hr hlk hw hS hf dX10_at_17
    · rw [if_neg hc] at hf
      refine lv_aload_n cx.1 cx.2.1 dX10_at_10 rfl (lv_at hl 0 rfl) ?_
      refine lv_iload_n cx.1 cx.2.1 dX10_at_11 rfl (lv_at hl 1 rfl) ?_
      obtain ⟨hin, hf⟩ := gck_some hf
      refine g_iald cx hw hk0 (vp_of_inb hin) dX10_at_12 ?_
      refine lv_goto (tgt := 17) cx.1 cx.2.1 dX10_at_13 (by decide) ?_
      exact g_ireti cx hr hlk hw hS hf dX10_at_17
set_option maxHeartbeats 4000000 in
set_option maxRecDepth 100000 in
theorem c_X0_place (l : Launch) (G : gG) (a0 : Int32) (a1 : Int32) (S : Sg) (r : Int32) (S' : Sg) (hf : f_X0_place a0 a1 S = some (r, S')) : Ct l yX0_place [Cond.code yX0_place cX0_place 2 (some .int)] (gR 0 0) G [.int a0, .int a1] S (some (.int r)) S' := by
  refine Ct_of (by decide) (Nat.le_of_ble_eq_true rfl) ?_
  intro p e s m below meth c ls cx hr hlk hw hS hl
  have hN := cx.2.2.2.2.hN
  have hl : lv_has ls 2 [(0, .int a0), (1, .int a1)] := hl
  unfold f_X0_place at hf
  refine lv_iload_n cx.1 cx.2.1 dX0_place_0 rfl (lv_at hl 0 rfl) ?_
  refine lv_iconst (v := (4 : Int32)) cx.1 cx.2.1 dX0_place_1 (by decide) ?_
  refine lv_imul cx.1 cx.2.1 dX0_place_2 ?_
  refine lv_iload_n cx.1 cx.2.1 dX0_place_3 rfl (lv_at hl 1 rfl) ?_
  refine lv_iadd cx.1 cx.2.1 dX0_place_4 ?_
  exact g_ireti cx hr hlk hw hS hf dX0_place_5
set_option maxHeartbeats 4000000 in
set_option maxRecDepth 100000 in
theorem c_X10_put (l : Launch) (G : gG) {k0 : Nat} {n0 : Nat} (hk0 : IA G k0 n0) (a1 : Int32) (a2 : Int32) (S : Sg) (S' : Sg) (hf : f_X10_put k0 n0 a1 a2 S = some S') : Ct l yX10_put [Cond.code yX10_put cX10_put 3 none] (gR 0 0) G [.ref (G.2.1 k0), .int a1, .int a2] S none S' := by
  refine Ct_of (by decide) (Nat.le_of_ble_eq_true rfl) ?_
  intro p e s m below meth c ls cx hr hlk hw hS hl
  have hN := cx.2.2.2.2.hN
  have hl : lv_has ls 3 [(0, .ref (G.2.1 k0)), (1, .int a1), (2, .int a2)] := hl
  unfold f_X10_put at hf
  refine lv_iload_n cx.1 cx.2.1 dX10_put_0 rfl (lv_at hl 1 rfl) ?_
  refine lv_if_lt (tgt := 14) cx.1 cx.2.1 dX10_put_1 (by decide) (fun hc => ?_) (fun hc => ?_)
  · rw [if_pos hc] at hf
    exact g_vreti cx hr hlk hw hS hf dX10_put_14
  · rw [if_neg hc] at hf
    refine lv_iload_n cx.1 cx.2.1 dX10_put_4 rfl (lv_at hl 1 rfl) ?_
    refine lv_aload_n cx.1 cx.2.1 dX10_put_5 rfl (lv_at hl 0 rfl) ?_
    refine g_alen cx hw hk0 dX10_put_6 ?_
    refine lv_icmp_ge (tgt := 14) cx.1 cx.2.1 dX10_put_7 (by decide) (fun hc => ?_) (fun hc => ?_)
    · rw [if_pos hc] at hf
      exact g_vreti cx hr hlk hw hS hf dX10_put_14
    · rw [if_neg hc] at hf
      refine lv_aload_n cx.1 cx.2.1 dX10_put_10 rfl (lv_at hl 0 rfl) ?_
      refine lv_iload_n cx.1 cx.2.1 dX10_put_11 rfl (lv_at hl 1 rfl) ?_
      refine lv_iload_n cx.1 cx.2.1 dX10_put_12 rfl (lv_at hl 2 rfl) ?_
      obtain ⟨hin, hf⟩ := gck_some hf
      obtain ⟨S_1, eS_1, hf⟩ := gst_ex hf
      refine g_iast cx hw hS hk0 (vp_of_inb hin) dX10_put_13 (fun H locs hw hS => ?_)
      rw [eS_1] at hw
      exact g_vreti cx hr hlk hw hS hf dX10_put_14
set_option maxHeartbeats 4000000 in
set_option maxRecDepth 100000 in
theorem c_X0_addTrain (l : Launch) (G : gG) {b : Nat} (hb : IsSt b) (a1 : Int32) (a2 : Int32) (S : Sg) (S' : Sg) (hf : f_X0_addTrain b a1 a2 S = some S') : Ct l yX0_addTrain [Cond.code yX0_addTrain cX0_addTrain 4 none] (gR 1 22) G [.ref (G.2.1 (b + 3)), .int a1, .int a2] S none S' := by
  refine Ct_of (by decide) (Nat.le_of_ble_eq_true rfl) ?_
  intro p e s m below meth c ls cx hr hlk hw hS hl
  have hN := cx.2.2.2.2.hN
  have hl : lv_has ls 4 [(0, .ref (G.2.1 (b + 3))), (1, .int a1), (2, .int a2)] := hl
  unfold f_X0_addTrain at hf
  refine lv_aload_n cx.1 cx.2.1 dX0_addTrain_0 rfl (lv_at hl 0 rfl) ?_
  refine g_get (C := RX0) (T := TX0) (N := 7) (v := .ref (G.2.1 (b + 18))) cx hw inlX0 (b + 3) (Nat.lt_of_lt_of_le (hb.lt (j := 3) (by omega)) hN) (he_s3 hb) rfl 4 (by decide) gw_75 rfl rfl dX0_addTrain_1 ?_
  refine lv_iload_n cx.1 cx.2.1 dX0_addTrain_4 rfl (lv_at hl 1 rfl) ?_
  obtain ⟨v_2, S_1, hv, hf⟩ := gbi_some hf
  refine g_N (As := [.ref (G.2.1 (b + 18)), .int a1]) (rest := []) cx hw hS (c_X10_at l G (ia_s18 hN hb) a1 S v_2 S_1 hv) gnm_22 gy_X10_at gi_X10_at ⟨Nat.le_of_ble_eq_true rfl, Nat.le_of_ble_eq_true rfl⟩ ⟨Nat.zero_le _, Nat.zero_le _⟩ rfl hl.1 rfl (Nat.le_of_ble_eq_true rfl) dX0_addTrain_5 (fun H locs hw hS => ?_)
  refine W.eq (g2 := F0 m 8 ls [.int v_2]) rfl ?_
  refine lv_istore_n (lv' := [(3, .int v_2), (0, .ref (G.2.1 (b + 3))), (1, .int a1), (2, .int a2)]) cx.1 cx.2.1 dX0_addTrain_8 rfl hl (by decide) rfl (fun ls hl => ?_)
  refine lv_iload_n cx.1 cx.2.1 dX0_addTrain_9 rfl (lv_at hl 0 rfl) ?_
  refine lv_iconst (v := (4 : Int32)) cx.1 cx.2.1 dX0_addTrain_10 (by decide) ?_
  refine lv_icmp_ge (tgt := 51) cx.1 cx.2.1 dX0_addTrain_11 (by decide) (fun hc => ?_) (fun hc => ?_)
  · rw [if_pos hc] at hf
    exact g_vreti cx hr hlk hw hS hf dX0_addTrain_51
  · rw [if_neg hc] at hf
    refine lv_aload_n cx.1 cx.2.1 dX0_addTrain_14 rfl (lv_at hl 1 rfl) ?_
    refine g_get (C := RX0) (T := TX0) (N := 7) (v := .ref (G.2.1 (b + 19))) cx hw inlX0 (b + 3) (Nat.lt_of_lt_of_le (hb.lt (j := 3) (by omega)) hN) (he_s3 hb) rfl 5 (by decide) gw_76 rfl rfl dX0_addTrain_15 ?_
    refine lv_iload_n cx.1 cx.2.1 dX0_addTrain_18 rfl (lv_at hl 2 rfl) ?_
    refine lv_iload_n cx.1 cx.2.1 dX0_addTrain_19 rfl (lv_at hl 0 rfl) ?_
    obtain ⟨v_4, S_3, hv, hf⟩ := gbi_some hf
    refine g_S (As := [.int a1, .int v_2]) (rest := [.ref (G.2.1 (b + 19))]) cx hw hS (c_X0_place l G a1 v_2 S_1 v_4 S_3 hv) gw_409 gy_X0_place gi_X0_place ⟨Nat.le_of_ble_eq_true rfl, Nat.le_of_ble_eq_true rfl⟩ ⟨Nat.zero_le _, Nat.zero_le _⟩ rfl hl.1 rfl (Nat.le_of_ble_eq_true rfl) dX0_addTrain_20 (fun H locs hw hS => ?_)
    refine W.eq (g2 := F0 m 23 ls [.int v_4, .ref (G.2.1 (b + 19))]) rfl ?_
    refine lv_iload_n cx.1 cx.2.1 dX0_addTrain_23 rfl (lv_at hl 3 rfl) ?_
    obtain ⟨S_5, hv, hf⟩ := gbv_some hf
    refine g_N (As := [.ref (G.2.1 (b + 19)), .int v_4, .int a2]) (rest := []) cx hw hS (c_X10_put l G (ia_s19 hN hb) v_4 a2 S_3 S_5 hv) gnm_10 gy_X10_put gi_X10_put ⟨Nat.le_of_ble_eq_true rfl, Nat.le_of_ble_eq_true rfl⟩ ⟨Nat.zero_le _, Nat.zero_le _⟩ rfl hl.1 rfl (Nat.le_of_ble_eq_true rfl) dX0_addTrain_24 (fun H locs hw hS => ?_)
    refine W.eq (g2 := F0 m 27 ls []) rfl ?_
    refine lv_aload_n cx.1 cx.2.1 dX0_addTrain_27 rfl (lv_at hl 1 rfl) ?_
    refine g_get (C := RX0) (T := TX0) (N := 7) (v := .ref (G.2.1 (b + 20))) cx hw inlX0 (b + 3) (Nat.lt_of_lt_of_le (hb.lt (j := 3) (by omega)) hN) (he_s3 hb) rfl 6 (by decide) gw_77 rfl rfl dX0_addTrain_28 ?_
    refine lv_iload_n cx.1 cx.2.1 dX0_addTrain_31 rfl (lv_at hl 2 rfl) ?_
    refine lv_iload_n cx.1 cx.2.1 dX0_addTrain_32 rfl (lv_at hl 0 rfl) ?_
    obtain ⟨v_7, S_6, hv, hf⟩ := gbi_some hf
    refine g_S (As := [.int a1, .int v_2]) (rest := [.ref (G.2.1 (b + 20))]) cx hw hS (c_X0_place l G a1 v_2 S_5 v_7 S_6 hv) gw_409 gy_X0_place gi_X0_place ⟨Nat.le_of_ble_eq_true rfl, Nat.le_of_ble_eq_true rfl⟩ ⟨Nat.zero_le _, Nat.zero_le _⟩ rfl hl.1 rfl (Nat.le_of_ble_eq_true rfl) dX0_addTrain_33 (fun H locs hw hS => ?_)
    refine W.eq (g2 := F0 m 36 ls [.int v_7, .ref (G.2.1 (b + 20))]) rfl ?_
    refine lv_iconst (v := (0 : Int32)) cx.1 cx.2.1 dX0_addTrain_36 (by decide) ?_
    obtain ⟨S_8, hv, hf⟩ := gbv_some hf
    refine g_N (As := [.ref (G.2.1 (b + 20)), .int v_7, .int (0 : Int32)]) (rest := []) cx hw hS (c_X10_put l G (ia_s20 hN hb) v_7 (0 : Int32) S_6 S_8 hv) gnm_10 gy_X10_put gi_X10_put ⟨Nat.le_of_ble_eq_true rfl, Nat.le_of_ble_eq_true rfl⟩ ⟨Nat.zero_le _, Nat.zero_le _⟩ rfl hl.1 rfl (Nat.le_of_ble_eq_true rfl) dX0_addTrain_37 (fun H locs hw hS => ?_)
    refine W.eq (g2 := F0 m 40 ls []) rfl ?_
    refine lv_aload_n cx.1 cx.2.1 dX0_addTrain_40 rfl (lv_at hl 1 rfl) ?_
    refine g_get (C := RX0) (T := TX0) (N := 7) (v := .ref (G.2.1 (b + 18))) cx hw inlX0 (b + 3) (Nat.lt_of_lt_of_le (hb.lt (j := 3) (by omega)) hN) (he_s3 hb) rfl 4 (by decide) gw_75 rfl rfl dX0_addTrain_41 ?_
    refine lv_iload_n cx.1 cx.2.1 dX0_addTrain_44 rfl (lv_at hl 2 rfl) ?_
    refine lv_iload_n cx.1 cx.2.1 dX0_addTrain_45 rfl (lv_at hl 0 rfl) ?_
    refine lv_iconst (v := (1 : Int32)) cx.1 cx.2.1 dX0_addTrain_46 (by decide) ?_
    refine lv_iadd cx.1 cx.2.1 dX0_addTrain_47 ?_
    obtain ⟨S_9, hv, hf⟩ := gbv_some hf
    refine g_N (As := [.ref (G.2.1 (b + 18)), .int a1, .int (v_2 + (1 : Int32))]) (rest := []) cx hw hS (c_X10_put l G (ia_s18 hN hb) a1 (v_2 + (1 : Int32)) S_8 S_9 hv) gnm_10 gy_X10_put gi_X10_put ⟨Nat.le_of_ble_eq_true rfl, Nat.le_of_ble_eq_true rfl⟩ ⟨Nat.zero_le _, Nat.zero_le _⟩ rfl hl.1 rfl (Nat.le_of_ble_eq_true rfl) dX0_addTrain_48 (fun H locs hw hS => ?_)
    refine W.eq (g2 := F0 m 51 ls []) rfl ?_
    exact g_vreti cx hr hlk hw hS hf dX0_addTrain_51
set_option maxHeartbeats 4000000 in
set_option maxRecDepth 100000 in
theorem c_X10_fill (l : Launch) (G : gG) {k0 : Nat} {n0 : Nat} (hk0 : IA G k0 n0) (a1 : Int32) (S : Sg) (S' : Sg) (hf : f_X10_fill k0 n0 a1 S = some S') : Ct l yX10_fill [Cond.code yX10_fill cX10_fill 3 none] (gR 0 0) G [.ref (G.2.1 k0), .int a1] S none S' := by
  refine Ct_of (by decide) (Nat.le_of_ble_eq_true rfl) ?_
  intro p e s m below meth c ls cx hr hlk hw hS hl
  have hN := cx.2.2.2.2.hN
  have hL_2 : ∀ (n : Nat), ∀ (S : Sg) (x1 : Int32) (x2 : Int32) (H : Heap) (locs : List Loc) (ls : Array Slot), gP G S H → va_S (gA G s.heap.size) s.heap H locs → lv_has ls 3 [(0, .ref (G.2.1 k0)), (1, .int x1), (2, .int x2)] → L_X10_fill_2 k0 n0 n S x1 x2 = some S' → W p l e (gR 0 0) s m ([.ref (G.2.1 k0), .int a1] : List Value).toArray below meth c H locs 0 0 (MQ below (gQ G S' none (gA G s.heap.size)) ([.ref (G.2.1 k0), .int a1] : List Value).toArray s 0 0 (gA G s.heap.size)) (F0 m 2 ls []) := by
    intro n
    induction n with
    | zero => intro S x1 x2 H locs ls hw hS hl hf; cases hf
    | succ n hK2 =>
      intro S x1 x2 H locs ls hw hS hl hf
      have hf : Lb_X10_fill_2 k0 n0 (L_X10_fill_2 k0 n0 n) S x1 x2 = some S' := hf
      unfold Lb_X10_fill_2 at hf
      refine lv_iload_n cx.1 cx.2.1 dX10_fill_2 rfl (lv_at hl 2 rfl) ?_
      refine lv_aload_n cx.1 cx.2.1 dX10_fill_3 rfl (lv_at hl 0 rfl) ?_
      refine g_alen cx hw hk0 dX10_fill_4 ?_
      refine lv_icmp_ge (tgt := 18) cx.1 cx.2.1 dX10_fill_5 (by decide) (fun hc => ?_) (fun hc => ?_)
      · rw [if_pos hc] at hf
        exact g_vreti cx hr hlk hw hS hf dX10_fill_18
      · rw [if_neg hc] at hf
        refine lv_aload_n cx.1 cx.2.1 dX10_fill_8 rfl (lv_at hl 0 rfl) ?_
        refine lv_iload_n cx.1 cx.2.1 dX10_fill_9 rfl (lv_at hl 2 rfl) ?_
        refine lv_iload_n cx.1 cx.2.1 dX10_fill_10 rfl (lv_at hl 1 rfl) ?_
        obtain ⟨hin, hf⟩ := gck_some hf
        obtain ⟨S_1, eS_1, hf⟩ := gst_ex hf
        refine g_iast cx hw hS hk0 (vp_of_inb hin) dX10_fill_11 (fun H locs hw hS => ?_)
        rw [eS_1] at hw
        obtain ⟨x2_2, ex2_2, hf⟩ := gvi_ex hf
        refine lv_iinc (v := x2_2) (lv' := [(2, .int x2_2), (0, .ref (G.2.1 k0)), (1, .int x1)]) cx.1 cx.2.1 dX10_fill_12 hl (k := 2) rfl (by rw [← ex2_2]; rfl) (by decide) rfl (fun ls hl => ?_)
        refine lv_goto (tgt := 2) cx.1 cx.2.1 dX10_fill_15 (by decide) ?_
        exact hK2 S_1 x1 x2_2 _ _ _ hw hS (lv_sub hl [1, 2, 0] rfl) hf
  have hl : lv_has ls 3 [(0, .ref (G.2.1 k0)), (1, .int a1)] := hl
  unfold f_X10_fill at hf
  refine lv_iconst (v := (0 : Int32)) cx.1 cx.2.1 dX10_fill_0 (by decide) ?_
  refine lv_istore_n (lv' := [(2, .int (0 : Int32)), (0, .ref (G.2.1 k0)), (1, .int a1)]) cx.1 cx.2.1 dX10_fill_1 rfl hl (by decide) rfl (fun ls hl => ?_)
  exact hL_2 gFu S a1 (0 : Int32) _ _ _ hw hS (lv_sub hl [1, 2, 0] rfl) hf
set_option maxHeartbeats 4000000 in
set_option maxRecDepth 100000 in
theorem c_X0_begin (l : Launch) (G : gG) {b : Nat} (hb : IsSt b) (S : Sg) (S' : Sg) (hf : f_X0_begin b S = some S') : Ct l yX0_begin [Cond.code yX0_begin cX0_begin 1 none] (gR 1 22) G [.ref (G.2.1 (b + 3))] S none S' := by
  refine Ct_of (by decide) (Nat.le_of_ble_eq_true rfl) ?_
  intro p e s m below meth c ls cx hr hlk hw hS hl
  have hN := cx.2.2.2.2.hN
  have hl : lv_has ls 1 [(0, .ref (G.2.1 (b + 3)))] := hl
  unfold f_X0_begin at hf
  refine lv_aload_n cx.1 cx.2.1 dX0_begin_0 rfl (lv_at hl 0 rfl) ?_
  refine g_get (C := RX0) (T := TX0) (N := 7) (v := .ref (G.2.1 (b + 14))) cx hw inlX0 (b + 3) (Nat.lt_of_lt_of_le (hb.lt (j := 3) (by omega)) hN) (he_s3 hb) rfl 0 (by decide) gw_71 rfl rfl dX0_begin_1 ?_
  refine lv_bipush (v := (100 : Int32)) cx.1 cx.2.1 dX0_begin_4 (by decide) ?_
  obtain ⟨S_1, hv, hf⟩ := gbv_some hf
  refine g_N (As := [.ref (G.2.1 (b + 14)), .int (100 : Int32)]) (rest := []) cx hw hS (c_X10_fill l G (ia_s14 hN hb) (100 : Int32) S S_1 hv) gnm_9 gy_X10_fill gi_X10_fill ⟨Nat.le_of_ble_eq_true rfl, Nat.le_of_ble_eq_true rfl⟩ ⟨Nat.zero_le _, Nat.zero_le _⟩ rfl hl.1 rfl (Nat.le_of_ble_eq_true rfl) dX0_begin_6 (fun H locs hw hS => ?_)
  refine W.eq (g2 := F0 m 9 ls []) rfl ?_
  refine lv_aload_n cx.1 cx.2.1 dX0_begin_9 rfl (lv_at hl 0 rfl) ?_
  refine g_get (C := RX0) (T := TX0) (N := 7) (v := .ref (G.2.1 (b + 14))) cx hw inlX0 (b + 3) (Nat.lt_of_lt_of_le (hb.lt (j := 3) (by omega)) hN) (he_s3 hb) rfl 0 (by decide) gw_71 rfl rfl dX0_begin_10 ?_
  refine lv_iconst (v := (4 : Int32)) cx.1 cx.2.1 dX0_begin_13 (by decide) ?_
  refine lv_sipush (v := (-400 : Int32)) cx.1 cx.2.1 dX0_begin_14 (by decide) ?_
  obtain ⟨S_2, hv, hf⟩ := gbv_some hf
  refine g_N (As := [.ref (G.2.1 (b + 14)), .int (4 : Int32), .int (-400 : Int32)]) (rest := []) cx hw hS (c_X10_put l G (ia_s14 hN hb) (4 : Int32) (-400 : Int32) S_1 S_2 hv) gnm_10 gy_X10_put gi_X10_put ⟨Nat.le_of_ble_eq_true rfl, Nat.le_of_ble_eq_true rfl⟩ ⟨Nat.zero_le _, Nat.zero_le _⟩ rfl hl.1 rfl (Nat.le_of_ble_eq_true rfl) dX0_begin_17 (fun H locs hw hS => ?_)
  refine W.eq (g2 := F0 m 20 ls []) rfl ?_
  refine lv_aload_n cx.1 cx.2.1 dX0_begin_20 rfl (lv_at hl 0 rfl) ?_
  refine g_get (C := RX0) (T := TX0) (N := 7) (v := .ref (G.2.1 (b + 15))) cx hw inlX0 (b + 3) (Nat.lt_of_lt_of_le (hb.lt (j := 3) (by omega)) hN) (he_s3 hb) rfl 1 (by decide) gw_72 rfl rfl dX0_begin_21 ?_
  refine lv_iconst (v := (1 : Int32)) cx.1 cx.2.1 dX0_begin_24 (by decide) ?_
  obtain ⟨S_3, hv, hf⟩ := gbv_some hf
  refine g_N (As := [.ref (G.2.1 (b + 15)), .int (1 : Int32)]) (rest := []) cx hw hS (c_X10_fill l G (ia_s15 hN hb) (1 : Int32) S_2 S_3 hv) gnm_9 gy_X10_fill gi_X10_fill ⟨Nat.le_of_ble_eq_true rfl, Nat.le_of_ble_eq_true rfl⟩ ⟨Nat.zero_le _, Nat.zero_le _⟩ rfl hl.1 rfl (Nat.le_of_ble_eq_true rfl) dX0_begin_25 (fun H locs hw hS => ?_)
  refine W.eq (g2 := F0 m 28 ls []) rfl ?_
  refine lv_aload_n cx.1 cx.2.1 dX0_begin_28 rfl (lv_at hl 0 rfl) ?_
  refine g_get (C := RX0) (T := TX0) (N := 7) (v := .ref (G.2.1 (b + 16))) cx hw inlX0 (b + 3) (Nat.lt_of_lt_of_le (hb.lt (j := 3) (by omega)) hN) (he_s3 hb) rfl 2 (by decide) gw_73 rfl rfl dX0_begin_29 ?_
  refine lv_iconst (v := (0 : Int32)) cx.1 cx.2.1 dX0_begin_32 (by decide) ?_
  obtain ⟨S_4, hv, hf⟩ := gbv_some hf
  refine g_N (As := [.ref (G.2.1 (b + 16)), .int (0 : Int32)]) (rest := []) cx hw hS (c_X10_fill l G (ia_s16 hN hb) (0 : Int32) S_3 S_4 hv) gnm_9 gy_X10_fill gi_X10_fill ⟨Nat.le_of_ble_eq_true rfl, Nat.le_of_ble_eq_true rfl⟩ ⟨Nat.zero_le _, Nat.zero_le _⟩ rfl hl.1 rfl (Nat.le_of_ble_eq_true rfl) dX0_begin_33 (fun H locs hw hS => ?_)
  refine W.eq (g2 := F0 m 36 ls []) rfl ?_
  refine lv_aload_n cx.1 cx.2.1 dX0_begin_36 rfl (lv_at hl 0 rfl) ?_
  refine g_get (C := RX0) (T := TX0) (N := 7) (v := .ref (G.2.1 (b + 17))) cx hw inlX0 (b + 3) (Nat.lt_of_lt_of_le (hb.lt (j := 3) (by omega)) hN) (he_s3 hb) rfl 3 (by decide) gw_74 rfl rfl dX0_begin_37 ?_
  refine lv_iconst (v := (0 : Int32)) cx.1 cx.2.1 dX0_begin_40 (by decide) ?_
  obtain ⟨S_5, hv, hf⟩ := gbv_some hf
  refine g_N (As := [.ref (G.2.1 (b + 17)), .int (0 : Int32)]) (rest := []) cx hw hS (c_X10_fill l G (ia_s17 hN hb) (0 : Int32) S_4 S_5 hv) gnm_9 gy_X10_fill gi_X10_fill ⟨Nat.le_of_ble_eq_true rfl, Nat.le_of_ble_eq_true rfl⟩ ⟨Nat.zero_le _, Nat.zero_le _⟩ rfl hl.1 rfl (Nat.le_of_ble_eq_true rfl) dX0_begin_41 (fun H locs hw hS => ?_)
  refine W.eq (g2 := F0 m 44 ls []) rfl ?_
  refine lv_aload_n cx.1 cx.2.1 dX0_begin_44 rfl (lv_at hl 0 rfl) ?_
  refine g_get (C := RX0) (T := TX0) (N := 7) (v := .ref (G.2.1 (b + 18))) cx hw inlX0 (b + 3) (Nat.lt_of_lt_of_le (hb.lt (j := 3) (by omega)) hN) (he_s3 hb) rfl 4 (by decide) gw_75 rfl rfl dX0_begin_45 ?_
  refine lv_iconst (v := (0 : Int32)) cx.1 cx.2.1 dX0_begin_48 (by decide) ?_
  obtain ⟨S_6, hv, hf⟩ := gbv_some hf
  refine g_N (As := [.ref (G.2.1 (b + 18)), .int (0 : Int32)]) (rest := []) cx hw hS (c_X10_fill l G (ia_s18 hN hb) (0 : Int32) S_5 S_6 hv) gnm_9 gy_X10_fill gi_X10_fill ⟨Nat.le_of_ble_eq_true rfl, Nat.le_of_ble_eq_true rfl⟩ ⟨Nat.zero_le _, Nat.zero_le _⟩ rfl hl.1 rfl (Nat.le_of_ble_eq_true rfl) dX0_begin_49 (fun H locs hw hS => ?_)
  refine W.eq (g2 := F0 m 52 ls []) rfl ?_
  exact g_vreti cx hr hlk hw hS hf dX0_begin_52
set_option maxHeartbeats 4000000 in
set_option maxRecDepth 100000 in
theorem c_X0_changeRent (l : Launch) (G : gG) {b : Nat} (hb : IsSt b) (a1 : Int32) (a2 : Int32) (S : Sg) (S' : Sg) (hf : f_X0_changeRent b a1 a2 S = some S') : Ct l yX0_changeRent [Cond.code yX0_changeRent cX0_changeRent 3 none] (gR 1 22) G [.ref (G.2.1 (b + 3)), .int a1, .int a2] S none S' := by
  refine Ct_of (by decide) (Nat.le_of_ble_eq_true rfl) ?_
  intro p e s m below meth c ls cx hr hlk hw hS hl
  have hN := cx.2.2.2.2.hN
  have hl : lv_has ls 3 [(0, .ref (G.2.1 (b + 3))), (1, .int a1), (2, .int a2)] := hl
  unfold f_X0_changeRent at hf
  refine lv_aload_n cx.1 cx.2.1 dX0_changeRent_0 rfl (lv_at hl 0 rfl) ?_
  refine g_get (C := RX0) (T := TX0) (N := 7) (v := .ref (G.2.1 (b + 15))) cx hw inlX0 (b + 3) (Nat.lt_of_lt_of_le (hb.lt (j := 3) (by omega)) hN) (he_s3 hb) rfl 1 (by decide) gw_72 rfl rfl dX0_changeRent_1 ?_
  refine lv_iload_n cx.1 cx.2.1 dX0_changeRent_4 rfl (lv_at hl 1 rfl) ?_
  refine lv_iload_n cx.1 cx.2.1 dX0_changeRent_5 rfl (lv_at hl 2 rfl) ?_
  obtain ⟨S_1, hv, hf⟩ := gbv_some hf
  refine g_N (As := [.ref (G.2.1 (b + 15)), .int a1, .int a2]) (rest := []) cx hw hS (c_X10_put l G (ia_s15 hN hb) a1 a2 S S_1 hv) gnm_10 gy_X10_put gi_X10_put ⟨Nat.le_of_ble_eq_true rfl, Nat.le_of_ble_eq_true rfl⟩ ⟨Nat.zero_le _, Nat.zero_le _⟩ rfl hl.1 rfl (Nat.le_of_ble_eq_true rfl) dX0_changeRent_6 (fun H locs hw hS => ?_)
  refine W.eq (g2 := F0 m 9 ls []) rfl ?_
  exact g_vreti cx hr hlk hw hS hf dX0_changeRent_9
set_option maxHeartbeats 4000000 in
set_option maxRecDepth 100000 in
theorem c_X10_copyRow (l : Launch) (G : gG) {k0 n0 k1 n1 : Nat} (hk0 : IA G k0 n0) (hk1 : IA G k1 n1) (S : Sg) (S' : Sg) (hf : f_X10_copyRow k0 n0 k1 n1 S = some S') : Ct l yX10_copyRow [Cond.code yX10_copyRow cX10_copyRow 2 none] (gR 1 60) G [.ref (G.2.1 k0), .ref (G.2.1 k1)] S none S' := by
  refine Ct_of (by decide) (Nat.le_of_ble_eq_true rfl) ?_
  intro p e s m below meth c ls cx hr hlk hw hS hl
  have hl : lv_has ls 2 [(0, .ref (G.2.1 k0)), (1, .ref (G.2.1 k1))] := hl
  unfold f_X10_copyRow at hf
  refine lv_aload_n cx.1 cx.2.1 dX10_copyRow_0 rfl (lv_at hl 0 rfl) ?_
  refine lv_iconst (v := 0) cx.1 cx.2.1 dX10_copyRow_1 (by decide) ?_
  refine lv_aload_n cx.1 cx.2.1 dX10_copyRow_2 rfl (lv_at hl 1 rfl) ?_
  refine lv_iconst (v := 0) cx.1 cx.2.1 dX10_copyRow_3 (by decide) ?_
  refine lv_aload_n cx.1 cx.2.1 dX10_copyRow_4 rfl (lv_at hl 0 rfl) ?_
  refine g_alen cx hw hk0 dX10_copyRow_5 ?_
  refine lv_aload_n cx.1 cx.2.1 dX10_copyRow_6 rfl (lv_at hl 1 rfl) ?_
  refine g_alen cx hw hk1 dX10_copyRow_7 ?_
  refine va_mmin cx.1 cx.2.1 (cx.2.2.1.trans hl.1.symm) cx.2.2.2.1 (cx.2.2.2.2.ts _ gw_329) (cx.2.2.2.2.ts _ gw_330) (cx.2.2.2.2.ts _ gw_331) (cx.2.2.2.2.ts _ gw_332) (Nat.le_of_ble_eq_true rfl) (Nat.le_of_ble_eq_true rfl) (Nat.zero_le _) (Nat.zero_le _) dX10_copyRow_8 ?_
  have hm : (if nI n1 < nI n0 then nI n1 else nI n0) = nI (min n0 n1) := by
    by_cases h : n1 < n0
    · rw [if_pos (nI_lt h hk0.2.1), Nat.min_eq_right (Nat.le_of_lt h)]
    · rw [if_neg (nI_nlt (Nat.le_of_not_lt h) hk1.2.1), Nat.min_eq_left (Nat.le_of_not_lt h)]
  rw [hm]
  have hmb : min n0 n1 < 2 ^ 31 := Nat.lt_of_le_of_lt (Nat.min_le_left _ _) hk0.2.1
  have e0 : (0 : Int32).toNatClampNeg = 0 := by decide
  have e1 : (nI (min n0 n1)).toNatClampNeg = min n0 n1 := nI_clamp hmb
  refine va_copyi (D := G.1) (A := gA G s.heap.size) (ty := .int) cx.1 cx.2.1 (cx.2.2.1.trans hl.1.symm) cx.2.2.2.1 (cx.2.2.2.2.ts _ gw_333) (cx.2.2.2.2.ts _ gw_334) (cx.2.2.2.2.ts _ gw_335) (cx.2.2.2.2.ts _ gw_336) cx.2.2.2.2.1 hw (gD cx.2.2.2.2.inj) hS k0 k1 0 0 (n0 := n0) (n1 := n1) (f := S k0) (g := S k1) (by rw [gw_at hk0.1, hk0.2.2]) (by rw [gw_at hk1.1, hk1.2.2]) rfl rfl rfl (by decide) (by decide) (nI_pos hmb) (by rw [e0, e1]; omega) (by rw [e0, e1]; omega) (fun _ _ => rfl) (Nat.le_of_ble_eq_true rfl) (Nat.le_of_ble_eq_true rfl) dX10_copyRow_11 (fun H locs hw _ hS => ?_)
  rw [gw_set (S' := S') hk1.1 (by rw [hk1.2.2, ← Option.some.inj hf, uR_s, e0, e1]) (fun i hi => by rw [← Option.some.inj hf]; exact uR_n hi)] at hw
  exact g_vret cx hr hlk hw hS rfl dX10_copyRow_14
set_option maxHeartbeats 4000000 in
set_option maxRecDepth 100000 in
theorem c_X0_copyFrom (l : Launch) (G : gG) {b : Nat} {b1 : Nat} (hb : IsSt b) (hb1 : IsSt b1) (S : Sg) (S' : Sg) (hf : f_X0_copyFrom b b1 S = some S') : Ct l yX0_copyFrom [Cond.code yX0_copyFrom cX0_copyFrom 2 none] (gR 2 81) G [.ref (G.2.1 (b + 3)), .ref (G.2.1 (b1 + 3))] S none S' := by
  refine Ct_of (by decide) (Nat.le_of_ble_eq_true rfl) ?_
  intro p e s m below meth c ls cx hr hlk hw hS hl
  have hN := cx.2.2.2.2.hN
  have hl : lv_has ls 2 [(0, .ref (G.2.1 (b + 3))), (1, .ref (G.2.1 (b1 + 3)))] := hl
  unfold f_X0_copyFrom at hf
  refine lv_aload_n cx.1 cx.2.1 dX0_copyFrom_0 rfl (lv_at hl 1 rfl) ?_
  refine g_get (C := RX0) (T := TX0) (N := 7) (v := .ref (G.2.1 (b1 + 14))) cx hw inlX0 (b1 + 3) (Nat.lt_of_lt_of_le (hb1.lt (j := 3) (by omega)) hN) (he_s3 hb1) rfl 0 (by decide) gw_71 rfl rfl dX0_copyFrom_1 ?_
  refine lv_aload_n cx.1 cx.2.1 dX0_copyFrom_4 rfl (lv_at hl 0 rfl) ?_
  refine g_get (C := RX0) (T := TX0) (N := 7) (v := .ref (G.2.1 (b + 14))) cx hw inlX0 (b + 3) (Nat.lt_of_lt_of_le (hb.lt (j := 3) (by omega)) hN) (he_s3 hb) rfl 0 (by decide) gw_71 rfl rfl dX0_copyFrom_5 ?_
  obtain ⟨S_1, hv, hf⟩ := gbv_some hf
  refine g_N (As := [.ref (G.2.1 (b1 + 14)), .ref (G.2.1 (b + 14))]) (rest := []) cx hw hS (c_X10_copyRow l G (ia_s14 hN hb1) (ia_s14 hN hb) S S_1 hv) gnm_17 gy_X10_copyRow gi_X10_copyRow ⟨Nat.le_of_ble_eq_true rfl, Nat.le_of_ble_eq_true rfl⟩ ⟨Nat.zero_le _, Nat.zero_le _⟩ rfl hl.1 rfl (Nat.le_of_ble_eq_true rfl) dX0_copyFrom_8 (fun H locs hw hS => ?_)
  refine W.eq (g2 := F0 m 11 ls []) rfl ?_
  refine lv_aload_n cx.1 cx.2.1 dX0_copyFrom_11 rfl (lv_at hl 1 rfl) ?_
  refine g_get (C := RX0) (T := TX0) (N := 7) (v := .ref (G.2.1 (b1 + 15))) cx hw inlX0 (b1 + 3) (Nat.lt_of_lt_of_le (hb1.lt (j := 3) (by omega)) hN) (he_s3 hb1) rfl 1 (by decide) gw_72 rfl rfl dX0_copyFrom_12 ?_
  refine lv_aload_n cx.1 cx.2.1 dX0_copyFrom_15 rfl (lv_at hl 0 rfl) ?_
  refine g_get (C := RX0) (T := TX0) (N := 7) (v := .ref (G.2.1 (b + 15))) cx hw inlX0 (b + 3) (Nat.lt_of_lt_of_le (hb.lt (j := 3) (by omega)) hN) (he_s3 hb) rfl 1 (by decide) gw_72 rfl rfl dX0_copyFrom_16 ?_
  obtain ⟨S_2, hv, hf⟩ := gbv_some hf
  refine g_N (As := [.ref (G.2.1 (b1 + 15)), .ref (G.2.1 (b + 15))]) (rest := []) cx hw hS (c_X10_copyRow l G (ia_s15 hN hb1) (ia_s15 hN hb) S_1 S_2 hv) gnm_17 gy_X10_copyRow gi_X10_copyRow ⟨Nat.le_of_ble_eq_true rfl, Nat.le_of_ble_eq_true rfl⟩ ⟨Nat.zero_le _, Nat.zero_le _⟩ rfl hl.1 rfl (Nat.le_of_ble_eq_true rfl) dX0_copyFrom_19 (fun H locs hw hS => ?_)
  refine W.eq (g2 := F0 m 22 ls []) rfl ?_
  refine lv_aload_n cx.1 cx.2.1 dX0_copyFrom_22 rfl (lv_at hl 1 rfl) ?_
  refine g_get (C := RX0) (T := TX0) (N := 7) (v := .ref (G.2.1 (b1 + 16))) cx hw inlX0 (b1 + 3) (Nat.lt_of_lt_of_le (hb1.lt (j := 3) (by omega)) hN) (he_s3 hb1) rfl 2 (by decide) gw_73 rfl rfl dX0_copyFrom_23 ?_
  refine lv_aload_n cx.1 cx.2.1 dX0_copyFrom_26 rfl (lv_at hl 0 rfl) ?_
  refine g_get (C := RX0) (T := TX0) (N := 7) (v := .ref (G.2.1 (b + 16))) cx hw inlX0 (b + 3) (Nat.lt_of_lt_of_le (hb.lt (j := 3) (by omega)) hN) (he_s3 hb) rfl 2 (by decide) gw_73 rfl rfl dX0_copyFrom_27 ?_
  obtain ⟨S_3, hv, hf⟩ := gbv_some hf
  refine g_N (As := [.ref (G.2.1 (b1 + 16)), .ref (G.2.1 (b + 16))]) (rest := []) cx hw hS (c_X10_copyRow l G (ia_s16 hN hb1) (ia_s16 hN hb) S_2 S_3 hv) gnm_17 gy_X10_copyRow gi_X10_copyRow ⟨Nat.le_of_ble_eq_true rfl, Nat.le_of_ble_eq_true rfl⟩ ⟨Nat.zero_le _, Nat.zero_le _⟩ rfl hl.1 rfl (Nat.le_of_ble_eq_true rfl) dX0_copyFrom_30 (fun H locs hw hS => ?_)
  refine W.eq (g2 := F0 m 33 ls []) rfl ?_
  refine lv_aload_n cx.1 cx.2.1 dX0_copyFrom_33 rfl (lv_at hl 1 rfl) ?_
  refine g_get (C := RX0) (T := TX0) (N := 7) (v := .ref (G.2.1 (b1 + 17))) cx hw inlX0 (b1 + 3) (Nat.lt_of_lt_of_le (hb1.lt (j := 3) (by omega)) hN) (he_s3 hb1) rfl 3 (by decide) gw_74 rfl rfl dX0_copyFrom_34 ?_
  refine lv_aload_n cx.1 cx.2.1 dX0_copyFrom_37 rfl (lv_at hl 0 rfl) ?_
  refine g_get (C := RX0) (T := TX0) (N := 7) (v := .ref (G.2.1 (b + 17))) cx hw inlX0 (b + 3) (Nat.lt_of_lt_of_le (hb.lt (j := 3) (by omega)) hN) (he_s3 hb) rfl 3 (by decide) gw_74 rfl rfl dX0_copyFrom_38 ?_
  obtain ⟨S_4, hv, hf⟩ := gbv_some hf
  refine g_N (As := [.ref (G.2.1 (b1 + 17)), .ref (G.2.1 (b + 17))]) (rest := []) cx hw hS (c_X10_copyRow l G (ia_s17 hN hb1) (ia_s17 hN hb) S_3 S_4 hv) gnm_17 gy_X10_copyRow gi_X10_copyRow ⟨Nat.le_of_ble_eq_true rfl, Nat.le_of_ble_eq_true rfl⟩ ⟨Nat.zero_le _, Nat.zero_le _⟩ rfl hl.1 rfl (Nat.le_of_ble_eq_true rfl) dX0_copyFrom_41 (fun H locs hw hS => ?_)
  refine W.eq (g2 := F0 m 44 ls []) rfl ?_
  refine lv_aload_n cx.1 cx.2.1 dX0_copyFrom_44 rfl (lv_at hl 1 rfl) ?_
  refine g_get (C := RX0) (T := TX0) (N := 7) (v := .ref (G.2.1 (b1 + 18))) cx hw inlX0 (b1 + 3) (Nat.lt_of_lt_of_le (hb1.lt (j := 3) (by omega)) hN) (he_s3 hb1) rfl 4 (by decide) gw_75 rfl rfl dX0_copyFrom_45 ?_
  refine lv_aload_n cx.1 cx.2.1 dX0_copyFrom_48 rfl (lv_at hl 0 rfl) ?_
  refine g_get (C := RX0) (T := TX0) (N := 7) (v := .ref (G.2.1 (b + 18))) cx hw inlX0 (b + 3) (Nat.lt_of_lt_of_le (hb.lt (j := 3) (by omega)) hN) (he_s3 hb) rfl 4 (by decide) gw_75 rfl rfl dX0_copyFrom_49 ?_
  obtain ⟨S_5, hv, hf⟩ := gbv_some hf
  refine g_N (As := [.ref (G.2.1 (b1 + 18)), .ref (G.2.1 (b + 18))]) (rest := []) cx hw hS (c_X10_copyRow l G (ia_s18 hN hb1) (ia_s18 hN hb) S_4 S_5 hv) gnm_17 gy_X10_copyRow gi_X10_copyRow ⟨Nat.le_of_ble_eq_true rfl, Nat.le_of_ble_eq_true rfl⟩ ⟨Nat.zero_le _, Nat.zero_le _⟩ rfl hl.1 rfl (Nat.le_of_ble_eq_true rfl) dX0_copyFrom_52 (fun H locs hw hS => ?_)
  refine W.eq (g2 := F0 m 55 ls []) rfl ?_
  refine lv_aload_n cx.1 cx.2.1 dX0_copyFrom_55 rfl (lv_at hl 1 rfl) ?_
  refine g_get (C := RX0) (T := TX0) (N := 7) (v := .ref (G.2.1 (b1 + 19))) cx hw inlX0 (b1 + 3) (Nat.lt_of_lt_of_le (hb1.lt (j := 3) (by omega)) hN) (he_s3 hb1) rfl 5 (by decide) gw_76 rfl rfl dX0_copyFrom_56 ?_
  refine lv_aload_n cx.1 cx.2.1 dX0_copyFrom_59 rfl (lv_at hl 0 rfl) ?_
  refine g_get (C := RX0) (T := TX0) (N := 7) (v := .ref (G.2.1 (b + 19))) cx hw inlX0 (b + 3) (Nat.lt_of_lt_of_le (hb.lt (j := 3) (by omega)) hN) (he_s3 hb) rfl 5 (by decide) gw_76 rfl rfl dX0_copyFrom_60 ?_
  obtain ⟨S_6, hv, hf⟩ := gbv_some hf
  refine g_N (As := [.ref (G.2.1 (b1 + 19)), .ref (G.2.1 (b + 19))]) (rest := []) cx hw hS (c_X10_copyRow l G (ia_s19 hN hb1) (ia_s19 hN hb) S_5 S_6 hv) gnm_17 gy_X10_copyRow gi_X10_copyRow ⟨Nat.le_of_ble_eq_true rfl, Nat.le_of_ble_eq_true rfl⟩ ⟨Nat.zero_le _, Nat.zero_le _⟩ rfl hl.1 rfl (Nat.le_of_ble_eq_true rfl) dX0_copyFrom_63 (fun H locs hw hS => ?_)
  refine W.eq (g2 := F0 m 66 ls []) rfl ?_
  refine lv_aload_n cx.1 cx.2.1 dX0_copyFrom_66 rfl (lv_at hl 1 rfl) ?_
  refine g_get (C := RX0) (T := TX0) (N := 7) (v := .ref (G.2.1 (b1 + 20))) cx hw inlX0 (b1 + 3) (Nat.lt_of_lt_of_le (hb1.lt (j := 3) (by omega)) hN) (he_s3 hb1) rfl 6 (by decide) gw_77 rfl rfl dX0_copyFrom_67 ?_
  refine lv_aload_n cx.1 cx.2.1 dX0_copyFrom_70 rfl (lv_at hl 0 rfl) ?_
  refine g_get (C := RX0) (T := TX0) (N := 7) (v := .ref (G.2.1 (b + 20))) cx hw inlX0 (b + 3) (Nat.lt_of_lt_of_le (hb.lt (j := 3) (by omega)) hN) (he_s3 hb) rfl 6 (by decide) gw_77 rfl rfl dX0_copyFrom_71 ?_
  obtain ⟨S_7, hv, hf⟩ := gbv_some hf
  refine g_N (As := [.ref (G.2.1 (b1 + 20)), .ref (G.2.1 (b + 20))]) (rest := []) cx hw hS (c_X10_copyRow l G (ia_s20 hN hb1) (ia_s20 hN hb) S_6 S_7 hv) gnm_17 gy_X10_copyRow gi_X10_copyRow ⟨Nat.le_of_ble_eq_true rfl, Nat.le_of_ble_eq_true rfl⟩ ⟨Nat.zero_le _, Nat.zero_le _⟩ rfl hl.1 rfl (Nat.le_of_ble_eq_true rfl) dX0_copyFrom_74 (fun H locs hw hS => ?_)
  refine W.eq (g2 := F0 m 77 ls []) rfl ?_
  exact g_vreti cx hr hlk hw hS hf dX0_copyFrom_77
set_option maxHeartbeats 4000000 in
set_option maxRecDepth 100000 in
theorem c_X0_dropBelow (l : Launch) (G : gG) {b : Nat} (hb : IsSt b) (a1 : Int32) (S : Sg) (r : Int32) (S' : Sg) (hf : f_X0_dropBelow b a1 S = some (r, S')) : Ct l yX0_dropBelow [Cond.code yX0_dropBelow cX0_dropBelow 6 (some .int)] (gR 1 22) G [.ref (G.2.1 (b + 3)), .int a1] S (some (.int r)) S' := by
  refine Ct_of (by decide) (Nat.le_of_ble_eq_true rfl) ?_
  intro p e s m below meth c ls cx hr hlk hw hS hl
  have hN := cx.2.2.2.2.hN
  have hL_15 : ∀ (K4 : Sg → Int32 → Int32 → Int32 → Option (Int32 × Sg)) (hK4 : ∀ (S : Sg) (x1 : Int32) (x2 : Int32) (x3 : Int32) (H : Heap) (locs : List Loc) (ls : Array Slot), gP G S H → va_S (gA G s.heap.size) s.heap H locs → lv_has ls 6 [(0, .ref (G.2.1 (b + 3))), (1, .int x1), (2, .int x2), (3, .int x3)] → K4 S x1 x2 x3 = some (r, S') → W p l e (gR 1 22) s m ([.ref (G.2.1 (b + 3)), .int a1] : List Value).toArray below meth c H locs 0 0 (MQ below (gQ G S' (some (.int r)) (gA G s.heap.size)) ([.ref (G.2.1 (b + 3)), .int a1] : List Value).toArray s 0 0 (gA G s.heap.size)) (F0 m 4 ls [])), ∀ (n : Nat), ∀ (S : Sg) (x1 : Int32) (x2 : Int32) (x3 : Int32) (x4 : Int32) (x5 : Int32) (H : Heap) (locs : List Loc) (ls : Array Slot), gP G S H → va_S (gA G s.heap.size) s.heap H locs → lv_has ls 6 [(0, .ref (G.2.1 (b + 3))), (1, .int x1), (2, .int x2), (3, .int x3), (4, .int x4), (5, .int x5)] → L_X0_dropBelow_15 b K4 n S x1 x2 x3 x4 x5 = some (r, S') → W p l e (gR 1 22) s m ([.ref (G.2.1 (b + 3)), .int a1] : List Value).toArray below meth c H locs 0 0 (MQ below (gQ G S' (some (.int r)) (gA G s.heap.size)) ([.ref (G.2.1 (b + 3)), .int a1] : List Value).toArray s 0 0 (gA G s.heap.size)) (F0 m 15 ls []) := by
    intro K4 hK4 n
    induction n with
    | zero => intro S x1 x2 x3 x4 x5 H locs ls hw hS hl hf; cases hf
    | succ n hK15 =>
      intro S x1 x2 x3 x4 x5 H locs ls hw hS hl hf
      have hf : Lb_X0_dropBelow_15 b K4 (L_X0_dropBelow_15 b K4 n) S x1 x2 x3 x4 x5 = some (r, S') := hf
      unfold Lb_X0_dropBelow_15 at hf
      refine lv_iload cx.1 cx.2.1 dX0_dropBelow_15 (lv_at hl 5 rfl) ?_
      refine lv_aload_n cx.1 cx.2.1 dX0_dropBelow_17 rfl (lv_at hl 0 rfl) ?_
      refine g_get (C := RX0) (T := TX0) (N := 7) (v := .ref (G.2.1 (b + 18))) cx hw inlX0 (b + 3) (Nat.lt_of_lt_of_le (hb.lt (j := 3) (by omega)) hN) (he_s3 hb) rfl 4 (by decide) gw_75 rfl rfl dX0_dropBelow_18 ?_
      refine lv_iload_n cx.1 cx.2.1 dX0_dropBelow_21 rfl (lv_at hl 3 rfl) ?_
      obtain ⟨v_2, S_1, hv, hf⟩ := gbi_some hf
      refine g_N (As := [.ref (G.2.1 (b + 18)), .int x3]) (rest := [.int x5]) cx hw hS (c_X10_at l G (ia_s18 hN hb) x3 S v_2 S_1 hv) gnm_22 gy_X10_at gi_X10_at ⟨Nat.le_of_ble_eq_true rfl, Nat.le_of_ble_eq_true rfl⟩ ⟨Nat.zero_le _, Nat.zero_le _⟩ rfl hl.1 rfl (Nat.le_of_ble_eq_true rfl) dX0_dropBelow_22 (fun H locs hw hS => ?_)
      refine W.eq (g2 := F0 m 25 ls [.int v_2, .int x5]) rfl ?_
      refine lv_icmp_ge (tgt := 106) cx.1 cx.2.1 dX0_dropBelow_25 (by decide) (fun hc => ?_) (fun hc => ?_)
      · rw [if_pos hc] at hf
        refine lv_iload_n cx.1 cx.2.1 dX0_dropBelow_106 rfl (lv_at hl 2 rfl) ?_
        refine lv_aload_n cx.1 cx.2.1 dX0_dropBelow_107 rfl (lv_at hl 0 rfl) ?_
        refine g_get (C := RX0) (T := TX0) (N := 7) (v := .ref (G.2.1 (b + 18))) cx hw inlX0 (b + 3) (Nat.lt_of_lt_of_le (hb.lt (j := 3) (by omega)) hN) (he_s3 hb) rfl 4 (by decide) gw_75 rfl rfl dX0_dropBelow_108 ?_
        refine lv_iload_n cx.1 cx.2.1 dX0_dropBelow_111 rfl (lv_at hl 3 rfl) ?_
        obtain ⟨v_4, S_3, hv, hf⟩ := gbi_some hf
        refine g_N (As := [.ref (G.2.1 (b + 18)), .int x3]) (rest := [.int x2]) cx hw hS (c_X10_at l G (ia_s18 hN hb) x3 S_1 v_4 S_3 hv) gnm_22 gy_X10_at gi_X10_at ⟨Nat.le_of_ble_eq_true rfl, Nat.le_of_ble_eq_true rfl⟩ ⟨Nat.zero_le _, Nat.zero_le _⟩ rfl hl.1 rfl (Nat.le_of_ble_eq_true rfl) dX0_dropBelow_112 (fun H locs hw hS => ?_)
        refine W.eq (g2 := F0 m 115 ls [.int v_4, .int x2]) rfl ?_
        refine lv_iload cx.1 cx.2.1 dX0_dropBelow_115 (lv_at hl 4 rfl) ?_
        refine lv_isub cx.1 cx.2.1 dX0_dropBelow_117 ?_
        refine lv_iadd cx.1 cx.2.1 dX0_dropBelow_118 ?_
        obtain ⟨x2_5, ex2_5, hf⟩ := gvi_ex hf
        refine W.eq (g2 := F0 m 119 ls [.int x2_5]) (by rw [← ex2_5]) ?_
        refine lv_istore_n (lv' := [(2, .int x2_5), (0, .ref (G.2.1 (b + 3))), (1, .int x1), (3, .int x3), (4, .int x4), (5, .int x5)]) cx.1 cx.2.1 dX0_dropBelow_119 rfl hl (by decide) rfl (fun ls hl => ?_)
        refine lv_aload_n cx.1 cx.2.1 dX0_dropBelow_120 rfl (lv_at hl 1 rfl) ?_
        refine g_get (C := RX0) (T := TX0) (N := 7) (v := .ref (G.2.1 (b + 18))) cx hw inlX0 (b + 3) (Nat.lt_of_lt_of_le (hb.lt (j := 3) (by omega)) hN) (he_s3 hb) rfl 4 (by decide) gw_75 rfl rfl dX0_dropBelow_121 ?_
        refine lv_iload_n cx.1 cx.2.1 dX0_dropBelow_124 rfl (lv_at hl 3 rfl) ?_
        refine lv_iload cx.1 cx.2.1 dX0_dropBelow_125 (lv_at hl 4 rfl) ?_
        obtain ⟨S_6, hv, hf⟩ := gbv_some hf
        refine g_N (As := [.ref (G.2.1 (b + 18)), .int x3, .int x4]) (rest := []) cx hw hS (c_X10_put l G (ia_s18 hN hb) x3 x4 S_3 S_6 hv) gnm_10 gy_X10_put gi_X10_put ⟨Nat.le_of_ble_eq_true rfl, Nat.le_of_ble_eq_true rfl⟩ ⟨Nat.zero_le _, Nat.zero_le _⟩ rfl hl.1 rfl (Nat.le_of_ble_eq_true rfl) dX0_dropBelow_127 (fun H locs hw hS => ?_)
        refine W.eq (g2 := F0 m 130 ls []) rfl ?_
        obtain ⟨x3_7, ex3_7, hf⟩ := gvi_ex hf
        refine lv_iinc (v := x3_7) (lv' := [(3, .int x3_7), (2, .int x2_5), (0, .ref (G.2.1 (b + 3))), (1, .int x1), (4, .int x4), (5, .int x5)]) cx.1 cx.2.1 dX0_dropBelow_130 hl (k := 3) rfl (by rw [← ex3_7]; rfl) (by decide) rfl (fun ls hl => ?_)
        refine lv_goto (tgt := 4) cx.1 cx.2.1 dX0_dropBelow_133 (by decide) ?_
        exact hK4 S_6 x1 x2_5 x3_7 _ _ _ hw hS (lv_sub hl [2, 3, 1, 0] rfl) hf
      · rw [if_neg hc] at hf
        refine lv_aload_n cx.1 cx.2.1 dX0_dropBelow_28 rfl (lv_at hl 0 rfl) ?_
        refine g_get (C := RX0) (T := TX0) (N := 7) (v := .ref (G.2.1 (b + 19))) cx hw inlX0 (b + 3) (Nat.lt_of_lt_of_le (hb.lt (j := 3) (by omega)) hN) (he_s3 hb) rfl 5 (by decide) gw_76 rfl rfl dX0_dropBelow_29 ?_
        refine lv_iload_n cx.1 cx.2.1 dX0_dropBelow_32 rfl (lv_at hl 3 rfl) ?_
        refine lv_iload cx.1 cx.2.1 dX0_dropBelow_33 (lv_at hl 5 rfl) ?_
        obtain ⟨v_9, S_8, hv, hf⟩ := gbi_some hf
        refine g_S (As := [.int x3, .int x5]) (rest := [.ref (G.2.1 (b + 19))]) cx hw hS (c_X0_place l G x3 x5 S_1 v_9 S_8 hv) gw_409 gy_X0_place gi_X0_place ⟨Nat.le_of_ble_eq_true rfl, Nat.le_of_ble_eq_true rfl⟩ ⟨Nat.zero_le _, Nat.zero_le _⟩ rfl hl.1 rfl (Nat.le_of_ble_eq_true rfl) dX0_dropBelow_35 (fun H locs hw hS => ?_)
        refine W.eq (g2 := F0 m 38 ls [.int v_9, .ref (G.2.1 (b + 19))]) rfl ?_
        obtain ⟨v_11, S_10, hv, hf⟩ := gbi_some hf
        refine g_N (As := [.ref (G.2.1 (b + 19)), .int v_9]) (rest := []) cx hw hS (c_X10_at l G (ia_s19 hN hb) v_9 S_8 v_11 S_10 hv) gnm_22 gy_X10_at gi_X10_at ⟨Nat.le_of_ble_eq_true rfl, Nat.le_of_ble_eq_true rfl⟩ ⟨Nat.zero_le _, Nat.zero_le _⟩ rfl hl.1 rfl (Nat.le_of_ble_eq_true rfl) dX0_dropBelow_38 (fun H locs hw hS => ?_)
        refine W.eq (g2 := F0 m 41 ls [.int v_11]) rfl ?_
        refine lv_iload_n cx.1 cx.2.1 dX0_dropBelow_41 rfl (lv_at hl 1 rfl) ?_
        refine lv_icmp_lt (tgt := 100) cx.1 cx.2.1 dX0_dropBelow_42 (by decide) (fun hc => ?_) (fun hc => ?_)
        · rw [if_pos hc] at hf
          obtain ⟨x5_12, ex5_12, hf⟩ := gvi_ex hf
          refine lv_iinc (v := x5_12) (lv' := [(5, .int x5_12), (0, .ref (G.2.1 (b + 3))), (1, .int x1), (2, .int x2), (3, .int x3), (4, .int x4)]) cx.1 cx.2.1 dX0_dropBelow_100 hl (k := 5) rfl (by rw [← ex5_12]; rfl) (by decide) rfl (fun ls hl => ?_)
          refine lv_goto (tgt := 15) cx.1 cx.2.1 dX0_dropBelow_103 (by decide) ?_
          exact hK15 S_10 x1 x2 x3 x4 x5_12 _ _ _ hw hS (lv_sub hl [1, 2, 3, 4, 5, 0] rfl) hf
        · rw [if_neg hc] at hf
          refine lv_aload_n cx.1 cx.2.1 dX0_dropBelow_45 rfl (lv_at hl 0 rfl) ?_
          refine g_get (C := RX0) (T := TX0) (N := 7) (v := .ref (G.2.1 (b + 19))) cx hw inlX0 (b + 3) (Nat.lt_of_lt_of_le (hb.lt (j := 3) (by omega)) hN) (he_s3 hb) rfl 5 (by decide) gw_76 rfl rfl dX0_dropBelow_46 ?_
          refine lv_iload_n cx.1 cx.2.1 dX0_dropBelow_49 rfl (lv_at hl 3 rfl) ?_
          refine lv_iload cx.1 cx.2.1 dX0_dropBelow_50 (lv_at hl 4 rfl) ?_
          obtain ⟨v_14, S_13, hv, hf⟩ := gbi_some hf
          refine g_S (As := [.int x3, .int x4]) (rest := [.ref (G.2.1 (b + 19))]) cx hw hS (c_X0_place l G x3 x4 S_10 v_14 S_13 hv) gw_409 gy_X0_place gi_X0_place ⟨Nat.le_of_ble_eq_true rfl, Nat.le_of_ble_eq_true rfl⟩ ⟨Nat.zero_le _, Nat.zero_le _⟩ rfl hl.1 rfl (Nat.le_of_ble_eq_true rfl) dX0_dropBelow_52 (fun H locs hw hS => ?_)
          refine W.eq (g2 := F0 m 55 ls [.int v_14, .ref (G.2.1 (b + 19))]) rfl ?_
          refine lv_aload_n cx.1 cx.2.1 dX0_dropBelow_55 rfl (lv_at hl 0 rfl) ?_
          refine g_get (C := RX0) (T := TX0) (N := 7) (v := .ref (G.2.1 (b + 19))) cx hw inlX0 (b + 3) (Nat.lt_of_lt_of_le (hb.lt (j := 3) (by omega)) hN) (he_s3 hb) rfl 5 (by decide) gw_76 rfl rfl dX0_dropBelow_56 ?_
          refine lv_iload_n cx.1 cx.2.1 dX0_dropBelow_59 rfl (lv_at hl 3 rfl) ?_
          refine lv_iload cx.1 cx.2.1 dX0_dropBelow_60 (lv_at hl 5 rfl) ?_
          obtain ⟨v_16, S_15, hv, hf⟩ := gbi_some hf
          refine g_S (As := [.int x3, .int x5]) (rest := [.ref (G.2.1 (b + 19)), .int v_14, .ref (G.2.1 (b + 19))]) cx hw hS (c_X0_place l G x3 x5 S_13 v_16 S_15 hv) gw_409 gy_X0_place gi_X0_place ⟨Nat.le_of_ble_eq_true rfl, Nat.le_of_ble_eq_true rfl⟩ ⟨Nat.zero_le _, Nat.zero_le _⟩ rfl hl.1 rfl (Nat.le_of_ble_eq_true rfl) dX0_dropBelow_62 (fun H locs hw hS => ?_)
          refine W.eq (g2 := F0 m 65 ls [.int v_16, .ref (G.2.1 (b + 19)), .int v_14, .ref (G.2.1 (b + 19))]) rfl ?_
          obtain ⟨v_18, S_17, hv, hf⟩ := gbi_some hf
          refine g_N (As := [.ref (G.2.1 (b + 19)), .int v_16]) (rest := [.int v_14, .ref (G.2.1 (b + 19))]) cx hw hS (c_X10_at l G (ia_s19 hN hb) v_16 S_15 v_18 S_17 hv) gnm_22 gy_X10_at gi_X10_at ⟨Nat.le_of_ble_eq_true rfl, Nat.le_of_ble_eq_true rfl⟩ ⟨Nat.zero_le _, Nat.zero_le _⟩ rfl hl.1 rfl (Nat.le_of_ble_eq_true rfl) dX0_dropBelow_65 (fun H locs hw hS => ?_)
          refine W.eq (g2 := F0 m 68 ls [.int v_18, .int v_14, .ref (G.2.1 (b + 19))]) rfl ?_
          obtain ⟨S_19, hv, hf⟩ := gbv_some hf
          refine g_N (As := [.ref (G.2.1 (b + 19)), .int v_14, .int v_18]) (rest := []) cx hw hS (c_X10_put l G (ia_s19 hN hb) v_14 v_18 S_17 S_19 hv) gnm_10 gy_X10_put gi_X10_put ⟨Nat.le_of_ble_eq_true rfl, Nat.le_of_ble_eq_true rfl⟩ ⟨Nat.zero_le _, Nat.zero_le _⟩ rfl hl.1 rfl (Nat.le_of_ble_eq_true rfl) dX0_dropBelow_68 (fun H locs hw hS => ?_)
          refine W.eq (g2 := F0 m 71 ls []) rfl ?_
          refine lv_aload_n cx.1 cx.2.1 dX0_dropBelow_71 rfl (lv_at hl 0 rfl) ?_
          refine g_get (C := RX0) (T := TX0) (N := 7) (v := .ref (G.2.1 (b + 20))) cx hw inlX0 (b + 3) (Nat.lt_of_lt_of_le (hb.lt (j := 3) (by omega)) hN) (he_s3 hb) rfl 6 (by decide) gw_77 rfl rfl dX0_dropBelow_72 ?_
          refine lv_iload_n cx.1 cx.2.1 dX0_dropBelow_75 rfl (lv_at hl 3 rfl) ?_
          refine lv_iload cx.1 cx.2.1 dX0_dropBelow_76 (lv_at hl 4 rfl) ?_
          obtain ⟨v_21, S_20, hv, hf⟩ := gbi_some hf
          refine g_S (As := [.int x3, .int x4]) (rest := [.ref (G.2.1 (b + 20))]) cx hw hS (c_X0_place l G x3 x4 S_19 v_21 S_20 hv) gw_409 gy_X0_place gi_X0_place ⟨Nat.le_of_ble_eq_true rfl, Nat.le_of_ble_eq_true rfl⟩ ⟨Nat.zero_le _, Nat.zero_le _⟩ rfl hl.1 rfl (Nat.le_of_ble_eq_true rfl) dX0_dropBelow_78 (fun H locs hw hS => ?_)
          refine W.eq (g2 := F0 m 81 ls [.int v_21, .ref (G.2.1 (b + 20))]) rfl ?_
          refine lv_aload_n cx.1 cx.2.1 dX0_dropBelow_81 rfl (lv_at hl 0 rfl) ?_
          refine g_get (C := RX0) (T := TX0) (N := 7) (v := .ref (G.2.1 (b + 20))) cx hw inlX0 (b + 3) (Nat.lt_of_lt_of_le (hb.lt (j := 3) (by omega)) hN) (he_s3 hb) rfl 6 (by decide) gw_77 rfl rfl dX0_dropBelow_82 ?_
          refine lv_iload_n cx.1 cx.2.1 dX0_dropBelow_85 rfl (lv_at hl 3 rfl) ?_
          refine lv_iload cx.1 cx.2.1 dX0_dropBelow_86 (lv_at hl 5 rfl) ?_
          obtain ⟨v_23, S_22, hv, hf⟩ := gbi_some hf
          refine g_S (As := [.int x3, .int x5]) (rest := [.ref (G.2.1 (b + 20)), .int v_21, .ref (G.2.1 (b + 20))]) cx hw hS (c_X0_place l G x3 x5 S_20 v_23 S_22 hv) gw_409 gy_X0_place gi_X0_place ⟨Nat.le_of_ble_eq_true rfl, Nat.le_of_ble_eq_true rfl⟩ ⟨Nat.zero_le _, Nat.zero_le _⟩ rfl hl.1 rfl (Nat.le_of_ble_eq_true rfl) dX0_dropBelow_88 (fun H locs hw hS => ?_)
          refine W.eq (g2 := F0 m 91 ls [.int v_23, .ref (G.2.1 (b + 20)), .int v_21, .ref (G.2.1 (b + 20))]) rfl ?_
          obtain ⟨v_25, S_24, hv, hf⟩ := gbi_some hf
          refine g_N (As := [.ref (G.2.1 (b + 20)), .int v_23]) (rest := [.int v_21, .ref (G.2.1 (b + 20))]) cx hw hS (c_X10_at l G (ia_s20 hN hb) v_23 S_22 v_25 S_24 hv) gnm_22 gy_X10_at gi_X10_at ⟨Nat.le_of_ble_eq_true rfl, Nat.le_of_ble_eq_true rfl⟩ ⟨Nat.zero_le _, Nat.zero_le _⟩ rfl hl.1 rfl (Nat.le_of_ble_eq_true rfl) dX0_dropBelow_91 (fun H locs hw hS => ?_)
          refine W.eq (g2 := F0 m 94 ls [.int v_25, .int v_21, .ref (G.2.1 (b + 20))]) rfl ?_
          obtain ⟨S_26, hv, hf⟩ := gbv_some hf
          refine g_N (As := [.ref (G.2.1 (b + 20)), .int v_21, .int v_25]) (rest := []) cx hw hS (c_X10_put l G (ia_s20 hN hb) v_21 v_25 S_24 S_26 hv) gnm_10 gy_X10_put gi_X10_put ⟨Nat.le_of_ble_eq_true rfl, Nat.le_of_ble_eq_true rfl⟩ ⟨Nat.zero_le _, Nat.zero_le _⟩ rfl hl.1 rfl (Nat.le_of_ble_eq_true rfl) dX0_dropBelow_94 (fun H locs hw hS => ?_)
          refine W.eq (g2 := F0 m 97 ls []) rfl ?_
          obtain ⟨x4_27, ex4_27, hf⟩ := gvi_ex hf
          refine lv_iinc (v := x4_27) (lv' := [(4, .int x4_27), (0, .ref (G.2.1 (b + 3))), (1, .int x1), (2, .int x2), (3, .int x3), (5, .int x5)]) cx.1 cx.2.1 dX0_dropBelow_97 hl (k := 4) rfl (by rw [← ex4_27]; rfl) (by decide) rfl (fun ls hl => ?_)
          obtain ⟨x5_28, ex5_28, hf⟩ := gvi_ex hf
          refine lv_iinc (v := x5_28) (lv' := [(5, .int x5_28), (4, .int x4_27), (0, .ref (G.2.1 (b + 3))), (1, .int x1), (2, .int x2), (3, .int x3)]) cx.1 cx.2.1 dX0_dropBelow_100 hl (k := 5) rfl (by rw [← ex5_28]; rfl) (by decide) rfl (fun ls hl => ?_)
          refine lv_goto (tgt := 15) cx.1 cx.2.1 dX0_dropBelow_103 (by decide) ?_
          exact hK15 S_26 x1 x2 x3 x4_27 x5_28 _ _ _ hw hS (lv_sub hl [2, 3, 4, 5, 1, 0] rfl) hf
  have hL_4 : ∀ (n : Nat), ∀ (S : Sg) (x1 : Int32) (x2 : Int32) (x3 : Int32) (H : Heap) (locs : List Loc) (ls : Array Slot), gP G S H → va_S (gA G s.heap.size) s.heap H locs → lv_has ls 6 [(0, .ref (G.2.1 (b + 3))), (1, .int x1), (2, .int x2), (3, .int x3)] → L_X0_dropBelow_4 b n S x1 x2 x3 = some (r, S') → W p l e (gR 1 22) s m ([.ref (G.2.1 (b + 3)), .int a1] : List Value).toArray below meth c H locs 0 0 (MQ below (gQ G S' (some (.int r)) (gA G s.heap.size)) ([.ref (G.2.1 (b + 3)), .int a1] : List Value).toArray s 0 0 (gA G s.heap.size)) (F0 m 4 ls []) := by
    intro n
    induction n with
    | zero => intro S x1 x2 x3 H locs ls hw hS hl hf; cases hf
    | succ n hK4 =>
      intro S x1 x2 x3 H locs ls hw hS hl hf
      have hf : Lb_X0_dropBelow_4 b (L_X0_dropBelow_4 b n) S x1 x2 x3 = some (r, S') := hf
      unfold Lb_X0_dropBelow_4 at hf
      refine lv_iload_n cx.1 cx.2.1 dX0_dropBelow_4 rfl (lv_at hl 3 rfl) ?_
      refine lv_iconst (v := (4 : Int32)) cx.1 cx.2.1 dX0_dropBelow_5 (by decide) ?_
      refine lv_icmp_ge (tgt := 136) cx.1 cx.2.1 dX0_dropBelow_6 (by decide) (fun hc => ?_) (fun hc => ?_)
      · rw [if_pos hc] at hf
        refine lv_iload_n cx.1 cx.2.1 dX0_dropBelow_136 rfl (lv_at hl 2 rfl) ?_
        exact g_ireti cx hr hlk hw hS hf dX0_dropBelow_137
      · rw [if_neg hc] at hf
        refine lv_iconst (v := (0 : Int32)) cx.1 cx.2.1 dX0_dropBelow_9 (by decide) ?_
        refine lv_istore (lv' := [(4, .int (0 : Int32)), (0, .ref (G.2.1 (b + 3))), (1, .int x1), (2, .int x2), (3, .int x3)]) cx.1 cx.2.1 dX0_dropBelow_10 hl (by decide) rfl (fun ls hl => ?_)
        refine lv_iconst (v := (0 : Int32)) cx.1 cx.2.1 dX0_dropBelow_12 (by decide) ?_
        refine lv_istore (lv' := [(5, .int (0 : Int32)), (4, .int (0 : Int32)), (0, .ref (G.2.1 (b + 3))), (1, .int x1), (2, .int x2), (3, .int x3)]) cx.1 cx.2.1 dX0_dropBelow_13 hl (by decide) rfl (fun ls hl => ?_)
        exact hL_15 (L_X0_dropBelow_4 b n) hK4 gFu S x1 x2 x3 (0 : Int32) (0 : Int32) _ _ _ hw hS (lv_sub hl [2, 3, 4, 5, 1, 0] rfl) hf
  have hl : lv_has ls 6 [(0, .ref (G.2.1 (b + 3))), (1, .int a1)] := hl
  unfold f_X0_dropBelow at hf
  refine lv_iconst (v := (0 : Int32)) cx.1 cx.2.1 dX0_dropBelow_0 (by decide) ?_
  refine lv_istore_n (lv' := [(2, .int (0 : Int32)), (0, .ref (G.2.1 (b + 3))), (1, .int a1)]) cx.1 cx.2.1 dX0_dropBelow_1 rfl hl (by decide) rfl (fun ls hl => ?_)
  refine lv_iconst (v := (0 : Int32)) cx.1 cx.2.1 dX0_dropBelow_2 (by decide) ?_
  refine lv_istore_n (lv' := [(3, .int (0 : Int32)), (2, .int (0 : Int32)), (0, .ref (G.2.1 (b + 3))), (1, .int a1)]) cx.1 cx.2.1 dX0_dropBelow_3 rfl hl (by decide) rfl (fun ls hl => ?_)
  exact hL_4 gFu S a1 (0 : Int32) (0 : Int32) _ _ _ hw hS (lv_sub hl [2, 3, 1, 0] rfl) hf
set_option maxHeartbeats 4000000 in
set_option maxRecDepth 100000 in
theorem c_X0_transfer (l : Launch) (G : gG) {b : Nat} (hb : IsSt b) (a1 : Int32) (a2 : Int32) (a3 : Int32) (S : Sg) (S' : Sg) (hf : f_X0_transfer b a1 a2 a3 S = some S') : Ct l yX0_transfer [Cond.code yX0_transfer cX0_transfer 4 none] (gR 1 22) G [.ref (G.2.1 (b + 3)), .int a1, .int a2, .int a3] S none S' := by
  refine Ct_of (by decide) (Nat.le_of_ble_eq_true rfl) ?_
  intro p e s m below meth c ls cx hr hlk hw hS hl
  have hN := cx.2.2.2.2.hN
  have hl : lv_has ls 4 [(0, .ref (G.2.1 (b + 3))), (1, .int a1), (2, .int a2), (3, .int a3)] := hl
  unfold f_X0_transfer at hf
  refine lv_aload_n cx.1 cx.2.1 dX0_transfer_0 rfl (lv_at hl 0 rfl) ?_
  refine g_get (C := RX0) (T := TX0) (N := 7) (v := .ref (G.2.1 (b + 14))) cx hw inlX0 (b + 3) (Nat.lt_of_lt_of_le (hb.lt (j := 3) (by omega)) hN) (he_s3 hb) rfl 0 (by decide) gw_71 rfl rfl dX0_transfer_1 ?_
  refine lv_iload_n cx.1 cx.2.1 dX0_transfer_4 rfl (lv_at hl 1 rfl) ?_
  refine lv_aload_n cx.1 cx.2.1 dX0_transfer_5 rfl (lv_at hl 0 rfl) ?_
  refine g_get (C := RX0) (T := TX0) (N := 7) (v := .ref (G.2.1 (b + 14))) cx hw inlX0 (b + 3) (Nat.lt_of_lt_of_le (hb.lt (j := 3) (by omega)) hN) (he_s3 hb) rfl 0 (by decide) gw_71 rfl rfl dX0_transfer_6 ?_
  refine lv_iload_n cx.1 cx.2.1 dX0_transfer_9 rfl (lv_at hl 1 rfl) ?_
  obtain ⟨v_2, S_1, hv, hf⟩ := gbi_some hf
  refine g_N (As := [.ref (G.2.1 (b + 14)), .int a1]) (rest := [.int a1, .ref (G.2.1 (b + 14))]) cx hw hS (c_X10_at l G (ia_s14 hN hb) a1 S v_2 S_1 hv) gnm_22 gy_X10_at gi_X10_at ⟨Nat.le_of_ble_eq_true rfl, Nat.le_of_ble_eq_true rfl⟩ ⟨Nat.zero_le _, Nat.zero_le _⟩ rfl hl.1 rfl (Nat.le_of_ble_eq_true rfl) dX0_transfer_10 (fun H locs hw hS => ?_)
  refine W.eq (g2 := F0 m 13 ls [.int v_2, .int a1, .ref (G.2.1 (b + 14))]) rfl ?_
  refine lv_iload_n cx.1 cx.2.1 dX0_transfer_13 rfl (lv_at hl 3 rfl) ?_
  refine lv_isub cx.1 cx.2.1 dX0_transfer_14 ?_
  obtain ⟨S_3, hv, hf⟩ := gbv_some hf
  refine g_N (As := [.ref (G.2.1 (b + 14)), .int a1, .int (v_2 - a3)]) (rest := []) cx hw hS (c_X10_put l G (ia_s14 hN hb) a1 (v_2 - a3) S_1 S_3 hv) gnm_10 gy_X10_put gi_X10_put ⟨Nat.le_of_ble_eq_true rfl, Nat.le_of_ble_eq_true rfl⟩ ⟨Nat.zero_le _, Nat.zero_le _⟩ rfl hl.1 rfl (Nat.le_of_ble_eq_true rfl) dX0_transfer_15 (fun H locs hw hS => ?_)
  refine W.eq (g2 := F0 m 18 ls []) rfl ?_
  refine lv_aload_n cx.1 cx.2.1 dX0_transfer_18 rfl (lv_at hl 0 rfl) ?_
  refine g_get (C := RX0) (T := TX0) (N := 7) (v := .ref (G.2.1 (b + 14))) cx hw inlX0 (b + 3) (Nat.lt_of_lt_of_le (hb.lt (j := 3) (by omega)) hN) (he_s3 hb) rfl 0 (by decide) gw_71 rfl rfl dX0_transfer_19 ?_
  refine lv_iload_n cx.1 cx.2.1 dX0_transfer_22 rfl (lv_at hl 2 rfl) ?_
  refine lv_aload_n cx.1 cx.2.1 dX0_transfer_23 rfl (lv_at hl 0 rfl) ?_
  refine g_get (C := RX0) (T := TX0) (N := 7) (v := .ref (G.2.1 (b + 14))) cx hw inlX0 (b + 3) (Nat.lt_of_lt_of_le (hb.lt (j := 3) (by omega)) hN) (he_s3 hb) rfl 0 (by decide) gw_71 rfl rfl dX0_transfer_24 ?_
  refine lv_iload_n cx.1 cx.2.1 dX0_transfer_27 rfl (lv_at hl 2 rfl) ?_
  obtain ⟨v_5, S_4, hv, hf⟩ := gbi_some hf
  refine g_N (As := [.ref (G.2.1 (b + 14)), .int a2]) (rest := [.int a2, .ref (G.2.1 (b + 14))]) cx hw hS (c_X10_at l G (ia_s14 hN hb) a2 S_3 v_5 S_4 hv) gnm_22 gy_X10_at gi_X10_at ⟨Nat.le_of_ble_eq_true rfl, Nat.le_of_ble_eq_true rfl⟩ ⟨Nat.zero_le _, Nat.zero_le _⟩ rfl hl.1 rfl (Nat.le_of_ble_eq_true rfl) dX0_transfer_28 (fun H locs hw hS => ?_)
  refine W.eq (g2 := F0 m 31 ls [.int v_5, .int a2, .ref (G.2.1 (b + 14))]) rfl ?_
  refine lv_iload_n cx.1 cx.2.1 dX0_transfer_31 rfl (lv_at hl 3 rfl) ?_
  refine lv_iadd cx.1 cx.2.1 dX0_transfer_32 ?_
  obtain ⟨S_6, hv, hf⟩ := gbv_some hf
  refine g_N (As := [.ref (G.2.1 (b + 14)), .int a2, .int (v_5 + a3)]) (rest := []) cx hw hS (c_X10_put l G (ia_s14 hN hb) a2 (v_5 + a3) S_4 S_6 hv) gnm_10 gy_X10_put gi_X10_put ⟨Nat.le_of_ble_eq_true rfl, Nat.le_of_ble_eq_true rfl⟩ ⟨Nat.zero_le _, Nat.zero_le _⟩ rfl hl.1 rfl (Nat.le_of_ble_eq_true rfl) dX0_transfer_33 (fun H locs hw hS => ?_)
  refine W.eq (g2 := F0 m 36 ls []) rfl ?_
  exact g_vreti cx hr hlk hw hS hf dX0_transfer_36
set_option maxHeartbeats 4000000 in
set_option maxRecDepth 100000 in
theorem c_X0_goBankrupt (l : Launch) (G : gG) {b : Nat} (hb : IsSt b) (a1 : Int32) (S : Sg) (S' : Sg) (hf : f_X0_goBankrupt b a1 S = some S') : Ct l yX0_goBankrupt [Cond.code yX0_goBankrupt cX0_goBankrupt 2 none] (gR 2 45) G [.ref (G.2.1 (b + 3)), .int a1] S none S' := by
  refine Ct_of (by decide) (Nat.le_of_ble_eq_true rfl) ?_
  intro p e s m below meth c ls cx hr hlk hw hS hl
  have hN := cx.2.2.2.2.hN
  have hl : lv_has ls 2 [(0, .ref (G.2.1 (b + 3))), (1, .int a1)] := hl
  unfold f_X0_goBankrupt at hf
  refine lv_aload_n cx.1 cx.2.1 dX0_goBankrupt_0 rfl (lv_at hl 0 rfl) ?_
  refine lv_iconst (v := (4 : Int32)) cx.1 cx.2.1 dX0_goBankrupt_1 (by decide) ?_
  refine lv_iload_n cx.1 cx.2.1 dX0_goBankrupt_2 rfl (lv_at hl 1 rfl) ?_
  refine lv_aload_n cx.1 cx.2.1 dX0_goBankrupt_3 rfl (lv_at hl 0 rfl) ?_
  refine g_get (C := RX0) (T := TX0) (N := 7) (v := .ref (G.2.1 (b + 14))) cx hw inlX0 (b + 3) (Nat.lt_of_lt_of_le (hb.lt (j := 3) (by omega)) hN) (he_s3 hb) rfl 0 (by decide) gw_71 rfl rfl dX0_goBankrupt_4 ?_
  refine lv_iload_n cx.1 cx.2.1 dX0_goBankrupt_7 rfl (lv_at hl 1 rfl) ?_
  obtain ⟨v_2, S_1, hv, hf⟩ := gbi_some hf
  refine g_N (As := [.ref (G.2.1 (b + 14)), .int a1]) (rest := [.int a1, .int (4 : Int32), .ref (G.2.1 (b + 3))]) cx hw hS (c_X10_at l G (ia_s14 hN hb) a1 S v_2 S_1 hv) gnm_22 gy_X10_at gi_X10_at ⟨Nat.le_of_ble_eq_true rfl, Nat.le_of_ble_eq_true rfl⟩ ⟨Nat.zero_le _, Nat.zero_le _⟩ rfl hl.1 rfl (Nat.le_of_ble_eq_true rfl) dX0_goBankrupt_8 (fun H locs hw hS => ?_)
  refine W.eq (g2 := F0 m 11 ls [.int v_2, .int a1, .int (4 : Int32), .ref (G.2.1 (b + 3))]) rfl ?_
  refine lv_ineg cx.1 cx.2.1 dX0_goBankrupt_11 ?_
  obtain ⟨S_3, hv, hf⟩ := gbv_some hf
  refine g_V (As := [.int (4 : Int32), .int a1, .int (-v_2)]) (rest := []) cx hw hS (c_X0_transfer l G hb (4 : Int32) a1 (-v_2) S_1 S_3 hv) (Nat.lt_of_lt_of_le (hb.lt (j := 3) (by omega)) hN) (he_s3 hb) rfl rfl gw_568 gy_X0_transfer gi_X0_transfer ⟨Nat.le_of_ble_eq_true rfl, Nat.le_of_ble_eq_true rfl⟩ ⟨Nat.zero_le _, Nat.zero_le _⟩ rfl hl.1 rfl (Nat.le_of_ble_eq_true rfl) dX0_goBankrupt_12 (fun H locs hw hS => ?_)
  refine W.eq (g2 := F0 m 15 ls []) rfl ?_
  refine lv_aload_n cx.1 cx.2.1 dX0_goBankrupt_15 rfl (lv_at hl 0 rfl) ?_
  refine g_get (C := RX0) (T := TX0) (N := 7) (v := .ref (G.2.1 (b + 18))) cx hw inlX0 (b + 3) (Nat.lt_of_lt_of_le (hb.lt (j := 3) (by omega)) hN) (he_s3 hb) rfl 4 (by decide) gw_75 rfl rfl dX0_goBankrupt_16 ?_
  refine lv_iload_n cx.1 cx.2.1 dX0_goBankrupt_19 rfl (lv_at hl 1 rfl) ?_
  refine lv_iconst (v := (0 : Int32)) cx.1 cx.2.1 dX0_goBankrupt_20 (by decide) ?_
  obtain ⟨S_4, hv, hf⟩ := gbv_some hf
  refine g_N (As := [.ref (G.2.1 (b + 18)), .int a1, .int (0 : Int32)]) (rest := []) cx hw hS (c_X10_put l G (ia_s18 hN hb) a1 (0 : Int32) S_3 S_4 hv) gnm_10 gy_X10_put gi_X10_put ⟨Nat.le_of_ble_eq_true rfl, Nat.le_of_ble_eq_true rfl⟩ ⟨Nat.zero_le _, Nat.zero_le _⟩ rfl hl.1 rfl (Nat.le_of_ble_eq_true rfl) dX0_goBankrupt_21 (fun H locs hw hS => ?_)
  refine W.eq (g2 := F0 m 24 ls []) rfl ?_
  refine lv_aload_n cx.1 cx.2.1 dX0_goBankrupt_24 rfl (lv_at hl 0 rfl) ?_
  refine g_get (C := RX0) (T := TX0) (N := 7) (v := .ref (G.2.1 (b + 17))) cx hw inlX0 (b + 3) (Nat.lt_of_lt_of_le (hb.lt (j := 3) (by omega)) hN) (he_s3 hb) rfl 3 (by decide) gw_74 rfl rfl dX0_goBankrupt_25 ?_
  refine lv_iload_n cx.1 cx.2.1 dX0_goBankrupt_28 rfl (lv_at hl 1 rfl) ?_
  refine lv_aload_n cx.1 cx.2.1 dX0_goBankrupt_29 rfl (lv_at hl 0 rfl) ?_
  refine g_get (C := RX0) (T := TX0) (N := 7) (v := .ref (G.2.1 (b + 17))) cx hw inlX0 (b + 3) (Nat.lt_of_lt_of_le (hb.lt (j := 3) (by omega)) hN) (he_s3 hb) rfl 3 (by decide) gw_74 rfl rfl dX0_goBankrupt_30 ?_
  refine lv_iload_n cx.1 cx.2.1 dX0_goBankrupt_33 rfl (lv_at hl 1 rfl) ?_
  obtain ⟨v_6, S_5, hv, hf⟩ := gbi_some hf
  refine g_N (As := [.ref (G.2.1 (b + 17)), .int a1]) (rest := [.int a1, .ref (G.2.1 (b + 17))]) cx hw hS (c_X10_at l G (ia_s17 hN hb) a1 S_4 v_6 S_5 hv) gnm_22 gy_X10_at gi_X10_at ⟨Nat.le_of_ble_eq_true rfl, Nat.le_of_ble_eq_true rfl⟩ ⟨Nat.zero_le _, Nat.zero_le _⟩ rfl hl.1 rfl (Nat.le_of_ble_eq_true rfl) dX0_goBankrupt_34 (fun H locs hw hS => ?_)
  refine W.eq (g2 := F0 m 37 ls [.int v_6, .int a1, .ref (G.2.1 (b + 17))]) rfl ?_
  refine lv_iconst (v := (1 : Int32)) cx.1 cx.2.1 dX0_goBankrupt_37 (by decide) ?_
  refine lv_iadd cx.1 cx.2.1 dX0_goBankrupt_38 ?_
  obtain ⟨S_7, hv, hf⟩ := gbv_some hf
  refine g_N (As := [.ref (G.2.1 (b + 17)), .int a1, .int (v_6 + (1 : Int32))]) (rest := []) cx hw hS (c_X10_put l G (ia_s17 hN hb) a1 (v_6 + (1 : Int32)) S_5 S_7 hv) gnm_10 gy_X10_put gi_X10_put ⟨Nat.le_of_ble_eq_true rfl, Nat.le_of_ble_eq_true rfl⟩ ⟨Nat.zero_le _, Nat.zero_le _⟩ rfl hl.1 rfl (Nat.le_of_ble_eq_true rfl) dX0_goBankrupt_39 (fun H locs hw hS => ?_)
  refine W.eq (g2 := F0 m 42 ls []) rfl ?_
  exact g_vreti cx hr hlk hw hS hf dX0_goBankrupt_42
set_option maxHeartbeats 4000000 in
set_option maxRecDepth 100000 in
theorem c_X0_greatestLevel (l : Launch) (G : gG) {b : Nat} (hb : IsSt b) (a1 : Int32) (S : Sg) (r : Int32) (S' : Sg) (hf : f_X0_greatestLevel b a1 S = some (r, S')) : Ct l yX0_greatestLevel [Cond.code yX0_greatestLevel cX0_greatestLevel 4 (some .int)] (gR 1 21) G [.ref (G.2.1 (b + 3)), .int a1] S (some (.int r)) S' := by
  refine Ct_of (by decide) (Nat.le_of_ble_eq_true rfl) ?_
  intro p e s m below meth c ls cx hr hlk hw hS hl
  have hN := cx.2.2.2.2.hN
  have hL_4 : ∀ (n : Nat), ∀ (S : Sg) (x1 : Int32) (x2 : Int32) (x3 : Int32) (H : Heap) (locs : List Loc) (ls : Array Slot), gP G S H → va_S (gA G s.heap.size) s.heap H locs → lv_has ls 4 [(0, .ref (G.2.1 (b + 3))), (1, .int x1), (2, .int x2), (3, .int x3)] → L_X0_greatestLevel_4 b n S x1 x2 x3 = some (r, S') → W p l e (gR 1 21) s m ([.ref (G.2.1 (b + 3)), .int a1] : List Value).toArray below meth c H locs 0 0 (MQ below (gQ G S' (some (.int r)) (gA G s.heap.size)) ([.ref (G.2.1 (b + 3)), .int a1] : List Value).toArray s 0 0 (gA G s.heap.size)) (F0 m 4 ls []) := by
    intro n
    induction n with
    | zero => intro S x1 x2 x3 H locs ls hw hS hl hf; cases hf
    | succ n hK4 =>
      intro S x1 x2 x3 H locs ls hw hS hl hf
      have hf : Lb_X0_greatestLevel_4 b (L_X0_greatestLevel_4 b n) S x1 x2 x3 = some (r, S') := hf
      unfold Lb_X0_greatestLevel_4 at hf
      refine lv_iload_n cx.1 cx.2.1 dX0_greatestLevel_4 rfl (lv_at hl 3 rfl) ?_
      refine lv_aload_n cx.1 cx.2.1 dX0_greatestLevel_5 rfl (lv_at hl 0 rfl) ?_
      refine g_get (C := RX0) (T := TX0) (N := 7) (v := .ref (G.2.1 (b + 18))) cx hw inlX0 (b + 3) (Nat.lt_of_lt_of_le (hb.lt (j := 3) (by omega)) hN) (he_s3 hb) rfl 4 (by decide) gw_75 rfl rfl dX0_greatestLevel_6 ?_
      refine lv_iload_n cx.1 cx.2.1 dX0_greatestLevel_9 rfl (lv_at hl 1 rfl) ?_
      obtain ⟨v_2, S_1, hv, hf⟩ := gbi_some hf
      refine g_N (As := [.ref (G.2.1 (b + 18)), .int x1]) (rest := [.int x3]) cx hw hS (c_X10_at l G (ia_s18 hN hb) x1 S v_2 S_1 hv) gnm_22 gy_X10_at gi_X10_at ⟨Nat.le_of_ble_eq_true rfl, Nat.le_of_ble_eq_true rfl⟩ ⟨Nat.zero_le _, Nat.zero_le _⟩ rfl hl.1 rfl (Nat.le_of_ble_eq_true rfl) dX0_greatestLevel_10 (fun H locs hw hS => ?_)
      refine W.eq (g2 := F0 m 13 ls [.int v_2, .int x3]) rfl ?_
      refine lv_icmp_ge (tgt := 39) cx.1 cx.2.1 dX0_greatestLevel_13 (by decide) (fun hc => ?_) (fun hc => ?_)
      · rw [if_pos hc] at hf
        refine lv_iload_n cx.1 cx.2.1 dX0_greatestLevel_39 rfl (lv_at hl 2 rfl) ?_
        exact g_ireti cx hr hlk hw hS hf dX0_greatestLevel_40
      · rw [if_neg hc] at hf
        refine lv_iload_n cx.1 cx.2.1 dX0_greatestLevel_16 rfl (lv_at hl 2 rfl) ?_
        refine lv_aload_n cx.1 cx.2.1 dX0_greatestLevel_17 rfl (lv_at hl 0 rfl) ?_
        refine g_get (C := RX0) (T := TX0) (N := 7) (v := .ref (G.2.1 (b + 19))) cx hw inlX0 (b + 3) (Nat.lt_of_lt_of_le (hb.lt (j := 3) (by omega)) hN) (he_s3 hb) rfl 5 (by decide) gw_76 rfl rfl dX0_greatestLevel_18 ?_
        refine lv_iload_n cx.1 cx.2.1 dX0_greatestLevel_21 rfl (lv_at hl 1 rfl) ?_
        refine lv_iload_n cx.1 cx.2.1 dX0_greatestLevel_22 rfl (lv_at hl 3 rfl) ?_
        obtain ⟨v_4, S_3, hv, hf⟩ := gbi_some hf
        refine g_S (As := [.int x1, .int x3]) (rest := [.ref (G.2.1 (b + 19)), .int x2]) cx hw hS (c_X0_place l G x1 x3 S_1 v_4 S_3 hv) gw_409 gy_X0_place gi_X0_place ⟨Nat.le_of_ble_eq_true rfl, Nat.le_of_ble_eq_true rfl⟩ ⟨Nat.zero_le _, Nat.zero_le _⟩ rfl hl.1 rfl (Nat.le_of_ble_eq_true rfl) dX0_greatestLevel_23 (fun H locs hw hS => ?_)
        refine W.eq (g2 := F0 m 26 ls [.int v_4, .ref (G.2.1 (b + 19)), .int x2]) rfl ?_
        obtain ⟨v_6, S_5, hv, hf⟩ := gbi_some hf
        refine g_N (As := [.ref (G.2.1 (b + 19)), .int v_4]) (rest := [.int x2]) cx hw hS (c_X10_at l G (ia_s19 hN hb) v_4 S_3 v_6 S_5 hv) gnm_22 gy_X10_at gi_X10_at ⟨Nat.le_of_ble_eq_true rfl, Nat.le_of_ble_eq_true rfl⟩ ⟨Nat.zero_le _, Nat.zero_le _⟩ rfl hl.1 rfl (Nat.le_of_ble_eq_true rfl) dX0_greatestLevel_26 (fun H locs hw hS => ?_)
        refine W.eq (g2 := F0 m 29 ls [.int v_6, .int x2]) rfl ?_
        refine va_mmax cx.1 cx.2.1 (cx.2.2.1.trans hl.1.symm) cx.2.2.2.1 (cx.2.2.2.2.ts _ gw_611) (cx.2.2.2.2.ts _ gw_612) (cx.2.2.2.2.ts _ gw_331) (cx.2.2.2.2.ts _ gw_613) (Nat.le_of_ble_eq_true rfl) (Nat.le_of_ble_eq_true rfl) (Nat.zero_le _) (Nat.zero_le _) dX0_greatestLevel_29 ?_
        obtain ⟨x2_7, ex2_7, hf⟩ := gvi_ex hf
        refine W.eq (g2 := F0 m 32 ls [.int x2_7]) (by rw [← ex2_7]) ?_
        refine lv_istore_n (lv' := [(2, .int x2_7), (0, .ref (G.2.1 (b + 3))), (1, .int x1), (3, .int x3)]) cx.1 cx.2.1 dX0_greatestLevel_32 rfl hl (by decide) rfl (fun ls hl => ?_)
        obtain ⟨x3_8, ex3_8, hf⟩ := gvi_ex hf
        refine lv_iinc (v := x3_8) (lv' := [(3, .int x3_8), (2, .int x2_7), (0, .ref (G.2.1 (b + 3))), (1, .int x1)]) cx.1 cx.2.1 dX0_greatestLevel_33 hl (k := 3) rfl (by rw [← ex3_8]; rfl) (by decide) rfl (fun ls hl => ?_)
        refine lv_goto (tgt := 4) cx.1 cx.2.1 dX0_greatestLevel_36 (by decide) ?_
        exact hK4 S_5 x1 x2_7 x3_8 _ _ _ hw hS (lv_sub hl [2, 3, 1, 0] rfl) hf
  have hl : lv_has ls 4 [(0, .ref (G.2.1 (b + 3))), (1, .int a1)] := hl
  unfold f_X0_greatestLevel at hf
  refine lv_iconst (v := (0 : Int32)) cx.1 cx.2.1 dX0_greatestLevel_0 (by decide) ?_
  refine lv_istore_n (lv' := [(2, .int (0 : Int32)), (0, .ref (G.2.1 (b + 3))), (1, .int a1)]) cx.1 cx.2.1 dX0_greatestLevel_1 rfl hl (by decide) rfl (fun ls hl => ?_)
  refine lv_iconst (v := (0 : Int32)) cx.1 cx.2.1 dX0_greatestLevel_2 (by decide) ?_
  refine lv_istore_n (lv' := [(3, .int (0 : Int32)), (2, .int (0 : Int32)), (0, .ref (G.2.1 (b + 3))), (1, .int a1)]) cx.1 cx.2.1 dX0_greatestLevel_3 rfl hl (by decide) rfl (fun ls hl => ?_)
  exact hL_4 gFu S a1 (0 : Int32) (0 : Int32) _ _ _ hw hS (lv_sub hl [2, 3, 1, 0] rfl) hf
set_option maxHeartbeats 4000000 in
set_option maxRecDepth 100000 in
theorem c_X0_hasTrain (l : Launch) (G : gG) {b : Nat} (hb : IsSt b) (a1 : Int32) (a2 : Int32) (S : Sg) (r : Int32) (S' : Sg) (hf : f_X0_hasTrain b a1 a2 S = some (r, S')) : Ct l yX0_hasTrain [Cond.code yX0_hasTrain cX0_hasTrain 3 (some .boolean)] (gR 1 21) G [.ref (G.2.1 (b + 3)), .int a1, .int a2] S (some (.int r)) S' := by
  refine Ct_of (by decide) (Nat.le_of_ble_eq_true rfl) ?_
  intro p e s m below meth c ls cx hr hlk hw hS hl
  have hN := cx.2.2.2.2.hN
  have hl : lv_has ls 3 [(0, .ref (G.2.1 (b + 3))), (1, .int a1), (2, .int a2)] := hl
  unfold f_X0_hasTrain at hf
  refine lv_iload_n cx.1 cx.2.1 dX0_hasTrain_0 rfl (lv_at hl 2 rfl) ?_
  refine lv_if_lt (tgt := 20) cx.1 cx.2.1 dX0_hasTrain_1 (by decide) (fun hc => ?_) (fun hc => ?_)
  · rw [if_pos hc] at hf
    refine lv_iconst (v := (0 : Int32)) cx.1 cx.2.1 dX0_hasTrain_20 (by decide) ?_
    exact g_zreti cx hr hlk hw hS (by decide) hf dX0_hasTrain_21
  · rw [if_neg hc] at hf
    refine lv_iload_n cx.1 cx.2.1 dX0_hasTrain_4 rfl (lv_at hl 2 rfl) ?_
    refine lv_aload_n cx.1 cx.2.1 dX0_hasTrain_5 rfl (lv_at hl 0 rfl) ?_
    refine g_get (C := RX0) (T := TX0) (N := 7) (v := .ref (G.2.1 (b + 18))) cx hw inlX0 (b + 3) (Nat.lt_of_lt_of_le (hb.lt (j := 3) (by omega)) hN) (he_s3 hb) rfl 4 (by decide) gw_75 rfl rfl dX0_hasTrain_6 ?_
    refine lv_iload_n cx.1 cx.2.1 dX0_hasTrain_9 rfl (lv_at hl 1 rfl) ?_
    obtain ⟨v_2, S_1, hv, hf⟩ := gbi_some hf
    refine g_N (As := [.ref (G.2.1 (b + 18)), .int a1]) (rest := [.int a2]) cx hw hS (c_X10_at l G (ia_s18 hN hb) a1 S v_2 S_1 hv) gnm_22 gy_X10_at gi_X10_at ⟨Nat.le_of_ble_eq_true rfl, Nat.le_of_ble_eq_true rfl⟩ ⟨Nat.zero_le _, Nat.zero_le _⟩ rfl hl.1 rfl (Nat.le_of_ble_eq_true rfl) dX0_hasTrain_10 (fun H locs hw hS => ?_)
    refine W.eq (g2 := F0 m 13 ls [.int v_2, .int a2]) rfl ?_
    refine lv_icmp_ge (tgt := 20) cx.1 cx.2.1 dX0_hasTrain_13 (by decide) (fun hc => ?_) (fun hc => ?_)
    · rw [if_pos hc] at hf
      refine lv_iconst (v := (0 : Int32)) cx.1 cx.2.1 dX0_hasTrain_20 (by decide) ?_
      exact g_zreti cx hr hlk hw hS (by decide) hf dX0_hasTrain_21
    · rw [if_neg hc] at hf
      refine lv_iconst (v := (1 : Int32)) cx.1 cx.2.1 dX0_hasTrain_16 (by decide) ?_
      refine lv_goto (tgt := 21) cx.1 cx.2.1 dX0_hasTrain_17 (by decide) ?_
      exact g_zreti cx hr hlk hw hS (by decide) hf dX0_hasTrain_21
set_option maxHeartbeats 4000000 in
set_option maxRecDepth 100000 in
theorem c_X0_hasRun (l : Launch) (G : gG) {b : Nat} (hb : IsSt b) (a1 : Int32) (a2 : Int32) (S : Sg) (r : Int32) (S' : Sg) (hf : f_X0_hasRun b a1 a2 S = some (r, S')) : Ct l yX0_hasRun [Cond.code yX0_hasRun cX0_hasRun 3 (some .boolean)] (gR 2 43) G [.ref (G.2.1 (b + 3)), .int a1, .int a2] S (some (.int r)) S' := by
  refine Ct_of (by decide) (Nat.le_of_ble_eq_true rfl) ?_
  intro p e s m below meth c ls cx hr hlk hw hS hl
  have hN := cx.2.2.2.2.hN
  have hl : lv_has ls 3 [(0, .ref (G.2.1 (b + 3))), (1, .int a1), (2, .int a2)] := hl
  unfold f_X0_hasRun at hf
  refine lv_aload_n cx.1 cx.2.1 dX0_hasRun_0 rfl (lv_at hl 0 rfl) ?_
  refine lv_iload_n cx.1 cx.2.1 dX0_hasRun_1 rfl (lv_at hl 1 rfl) ?_
  refine lv_iload_n cx.1 cx.2.1 dX0_hasRun_2 rfl (lv_at hl 2 rfl) ?_
  obtain ⟨v_2, S_1, hv, hf⟩ := gbi_some hf
  refine g_V (As := [.int a1, .int a2]) (rest := []) cx hw hS (c_X0_hasTrain l G hb a1 a2 S v_2 S_1 hv) (Nat.lt_of_lt_of_le (hb.lt (j := 3) (by omega)) hN) (he_s3 hb) rfl rfl gw_408 gy_X0_hasTrain gi_X0_hasTrain ⟨Nat.le_of_ble_eq_true rfl, Nat.le_of_ble_eq_true rfl⟩ ⟨Nat.zero_le _, Nat.zero_le _⟩ rfl hl.1 rfl (Nat.le_of_ble_eq_true rfl) dX0_hasRun_3 (fun H locs hw hS => ?_)
  refine W.eq (g2 := F0 m 6 ls [.int v_2]) rfl ?_
  refine lv_if_eq (tgt := 29) cx.1 cx.2.1 dX0_hasRun_6 (by decide) (fun hc => ?_) (fun hc => ?_)
  · rw [if_pos hc] at hf
    refine lv_iconst (v := (0 : Int32)) cx.1 cx.2.1 dX0_hasRun_29 (by decide) ?_
    exact g_zreti cx hr hlk hw hS (by decide) hf dX0_hasRun_30
  · rw [if_neg hc] at hf
    refine lv_aload_n cx.1 cx.2.1 dX0_hasRun_9 rfl (lv_at hl 0 rfl) ?_
    refine g_get (C := RX0) (T := TX0) (N := 7) (v := .ref (G.2.1 (b + 20))) cx hw inlX0 (b + 3) (Nat.lt_of_lt_of_le (hb.lt (j := 3) (by omega)) hN) (he_s3 hb) rfl 6 (by decide) gw_77 rfl rfl dX0_hasRun_10 ?_
    refine lv_iload_n cx.1 cx.2.1 dX0_hasRun_13 rfl (lv_at hl 1 rfl) ?_
    refine lv_iload_n cx.1 cx.2.1 dX0_hasRun_14 rfl (lv_at hl 2 rfl) ?_
    obtain ⟨v_4, S_3, hv, hf⟩ := gbi_some hf
    refine g_S (As := [.int a1, .int a2]) (rest := [.ref (G.2.1 (b + 20))]) cx hw hS (c_X0_place l G a1 a2 S_1 v_4 S_3 hv) gw_409 gy_X0_place gi_X0_place ⟨Nat.le_of_ble_eq_true rfl, Nat.le_of_ble_eq_true rfl⟩ ⟨Nat.zero_le _, Nat.zero_le _⟩ rfl hl.1 rfl (Nat.le_of_ble_eq_true rfl) dX0_hasRun_15 (fun H locs hw hS => ?_)
    refine W.eq (g2 := F0 m 18 ls [.int v_4, .ref (G.2.1 (b + 20))]) rfl ?_
    obtain ⟨v_6, S_5, hv, hf⟩ := gbi_some hf
    refine g_N (As := [.ref (G.2.1 (b + 20)), .int v_4]) (rest := []) cx hw hS (c_X10_at l G (ia_s20 hN hb) v_4 S_3 v_6 S_5 hv) gnm_22 gy_X10_at gi_X10_at ⟨Nat.le_of_ble_eq_true rfl, Nat.le_of_ble_eq_true rfl⟩ ⟨Nat.zero_le _, Nat.zero_le _⟩ rfl hl.1 rfl (Nat.le_of_ble_eq_true rfl) dX0_hasRun_18 (fun H locs hw hS => ?_)
    refine W.eq (g2 := F0 m 21 ls [.int v_6]) rfl ?_
    refine lv_iconst (v := (1 : Int32)) cx.1 cx.2.1 dX0_hasRun_21 (by decide) ?_
    refine lv_icmp_ne (tgt := 29) cx.1 cx.2.1 dX0_hasRun_22 (by decide) (fun hc => ?_) (fun hc => ?_)
    · rw [if_neg hc] at hf
      refine lv_iconst (v := (0 : Int32)) cx.1 cx.2.1 dX0_hasRun_29 (by decide) ?_
      exact g_zreti cx hr hlk hw hS (by decide) hf dX0_hasRun_30
    · rw [if_pos hc] at hf
      refine lv_iconst (v := (1 : Int32)) cx.1 cx.2.1 dX0_hasRun_25 (by decide) ?_
      refine lv_goto (tgt := 30) cx.1 cx.2.1 dX0_hasRun_26 (by decide) ?_
      exact g_zreti cx hr hlk hw hS (by decide) hf dX0_hasRun_30
set_option maxHeartbeats 4000000 in
set_option maxRecDepth 100000 in
theorem c_X0_levelOf (l : Launch) (G : gG) {b : Nat} (hb : IsSt b) (a1 : Int32) (a2 : Int32) (S : Sg) (r : Int32) (S' : Sg) (hf : f_X0_levelOf b a1 a2 S = some (r, S')) : Ct l yX0_levelOf [Cond.code yX0_levelOf cX0_levelOf 3 (some .int)] (gR 2 43) G [.ref (G.2.1 (b + 3)), .int a1, .int a2] S (some (.int r)) S' := by
  refine Ct_of (by decide) (Nat.le_of_ble_eq_true rfl) ?_
  intro p e s m below meth c ls cx hr hlk hw hS hl
  have hN := cx.2.2.2.2.hN
  have hl : lv_has ls 3 [(0, .ref (G.2.1 (b + 3))), (1, .int a1), (2, .int a2)] := hl
  unfold f_X0_levelOf at hf
  refine lv_aload_n cx.1 cx.2.1 dX0_levelOf_0 rfl (lv_at hl 0 rfl) ?_
  refine lv_iload_n cx.1 cx.2.1 dX0_levelOf_1 rfl (lv_at hl 1 rfl) ?_
  refine lv_iload_n cx.1 cx.2.1 dX0_levelOf_2 rfl (lv_at hl 2 rfl) ?_
  obtain ⟨v_2, S_1, hv, hf⟩ := gbi_some hf
  refine g_V (As := [.int a1, .int a2]) (rest := []) cx hw hS (c_X0_hasTrain l G hb a1 a2 S v_2 S_1 hv) (Nat.lt_of_lt_of_le (hb.lt (j := 3) (by omega)) hN) (he_s3 hb) rfl rfl gw_408 gy_X0_hasTrain gi_X0_hasTrain ⟨Nat.le_of_ble_eq_true rfl, Nat.le_of_ble_eq_true rfl⟩ ⟨Nat.zero_le _, Nat.zero_le _⟩ rfl hl.1 rfl (Nat.le_of_ble_eq_true rfl) dX0_levelOf_3 (fun H locs hw hS => ?_)
  refine W.eq (g2 := F0 m 6 ls [.int v_2]) rfl ?_
  refine lv_if_eq (tgt := 24) cx.1 cx.2.1 dX0_levelOf_6 (by decide) (fun hc => ?_) (fun hc => ?_)
  · rw [if_pos hc] at hf
    refine lv_iconst (v := (0 : Int32)) cx.1 cx.2.1 dX0_levelOf_24 (by decide) ?_
    exact g_ireti cx hr hlk hw hS hf dX0_levelOf_25
  · rw [if_neg hc] at hf
    refine lv_aload_n cx.1 cx.2.1 dX0_levelOf_9 rfl (lv_at hl 0 rfl) ?_
    refine g_get (C := RX0) (T := TX0) (N := 7) (v := .ref (G.2.1 (b + 19))) cx hw inlX0 (b + 3) (Nat.lt_of_lt_of_le (hb.lt (j := 3) (by omega)) hN) (he_s3 hb) rfl 5 (by decide) gw_76 rfl rfl dX0_levelOf_10 ?_
    refine lv_iload_n cx.1 cx.2.1 dX0_levelOf_13 rfl (lv_at hl 1 rfl) ?_
    refine lv_iload_n cx.1 cx.2.1 dX0_levelOf_14 rfl (lv_at hl 2 rfl) ?_
    obtain ⟨v_4, S_3, hv, hf⟩ := gbi_some hf
    refine g_S (As := [.int a1, .int a2]) (rest := [.ref (G.2.1 (b + 19))]) cx hw hS (c_X0_place l G a1 a2 S_1 v_4 S_3 hv) gw_409 gy_X0_place gi_X0_place ⟨Nat.le_of_ble_eq_true rfl, Nat.le_of_ble_eq_true rfl⟩ ⟨Nat.zero_le _, Nat.zero_le _⟩ rfl hl.1 rfl (Nat.le_of_ble_eq_true rfl) dX0_levelOf_15 (fun H locs hw hS => ?_)
    refine W.eq (g2 := F0 m 18 ls [.int v_4, .ref (G.2.1 (b + 19))]) rfl ?_
    obtain ⟨v_6, S_5, hv, hf⟩ := gbi_some hf
    refine g_N (As := [.ref (G.2.1 (b + 19)), .int v_4]) (rest := []) cx hw hS (c_X10_at l G (ia_s19 hN hb) v_4 S_3 v_6 S_5 hv) gnm_22 gy_X10_at gi_X10_at ⟨Nat.le_of_ble_eq_true rfl, Nat.le_of_ble_eq_true rfl⟩ ⟨Nat.zero_le _, Nat.zero_le _⟩ rfl hl.1 rfl (Nat.le_of_ble_eq_true rfl) dX0_levelOf_18 (fun H locs hw hS => ?_)
    refine W.eq (g2 := F0 m 21 ls [.int v_6]) rfl ?_
    refine lv_goto (tgt := 25) cx.1 cx.2.1 dX0_levelOf_21 (by decide) ?_
    exact g_ireti cx hr hlk hw hS hf dX0_levelOf_25
set_option maxHeartbeats 4000000 in
set_option maxRecDepth 100000 in
theorem c_X0_levelsOf (l : Launch) (G : gG) {b : Nat} (hb : IsSt b) (a1 : Int32) (S : Sg) (r : Int32) (S' : Sg) (hf : f_X0_levelsOf b a1 S = some (r, S')) : Ct l yX0_levelsOf [Cond.code yX0_levelsOf cX0_levelsOf 4 (some .int)] (gR 1 21) G [.ref (G.2.1 (b + 3)), .int a1] S (some (.int r)) S' := by
  refine Ct_of (by decide) (Nat.le_of_ble_eq_true rfl) ?_
  intro p e s m below meth c ls cx hr hlk hw hS hl
  have hN := cx.2.2.2.2.hN
  have hL_4 : ∀ (n : Nat), ∀ (S : Sg) (x1 : Int32) (x2 : Int32) (x3 : Int32) (H : Heap) (locs : List Loc) (ls : Array Slot), gP G S H → va_S (gA G s.heap.size) s.heap H locs → lv_has ls 4 [(0, .ref (G.2.1 (b + 3))), (1, .int x1), (2, .int x2), (3, .int x3)] → L_X0_levelsOf_4 b n S x1 x2 x3 = some (r, S') → W p l e (gR 1 21) s m ([.ref (G.2.1 (b + 3)), .int a1] : List Value).toArray below meth c H locs 0 0 (MQ below (gQ G S' (some (.int r)) (gA G s.heap.size)) ([.ref (G.2.1 (b + 3)), .int a1] : List Value).toArray s 0 0 (gA G s.heap.size)) (F0 m 4 ls []) := by
    intro n
    induction n with
    | zero => intro S x1 x2 x3 H locs ls hw hS hl hf; cases hf
    | succ n hK4 =>
      intro S x1 x2 x3 H locs ls hw hS hl hf
      have hf : Lb_X0_levelsOf_4 b (L_X0_levelsOf_4 b n) S x1 x2 x3 = some (r, S') := hf
      unfold Lb_X0_levelsOf_4 at hf
      refine lv_iload_n cx.1 cx.2.1 dX0_levelsOf_4 rfl (lv_at hl 3 rfl) ?_
      refine lv_aload_n cx.1 cx.2.1 dX0_levelsOf_5 rfl (lv_at hl 0 rfl) ?_
      refine g_get (C := RX0) (T := TX0) (N := 7) (v := .ref (G.2.1 (b + 18))) cx hw inlX0 (b + 3) (Nat.lt_of_lt_of_le (hb.lt (j := 3) (by omega)) hN) (he_s3 hb) rfl 4 (by decide) gw_75 rfl rfl dX0_levelsOf_6 ?_
      refine lv_iload_n cx.1 cx.2.1 dX0_levelsOf_9 rfl (lv_at hl 1 rfl) ?_
      obtain ⟨v_2, S_1, hv, hf⟩ := gbi_some hf
      refine g_N (As := [.ref (G.2.1 (b + 18)), .int x1]) (rest := [.int x3]) cx hw hS (c_X10_at l G (ia_s18 hN hb) x1 S v_2 S_1 hv) gnm_22 gy_X10_at gi_X10_at ⟨Nat.le_of_ble_eq_true rfl, Nat.le_of_ble_eq_true rfl⟩ ⟨Nat.zero_le _, Nat.zero_le _⟩ rfl hl.1 rfl (Nat.le_of_ble_eq_true rfl) dX0_levelsOf_10 (fun H locs hw hS => ?_)
      refine W.eq (g2 := F0 m 13 ls [.int v_2, .int x3]) rfl ?_
      refine lv_icmp_ge (tgt := 37) cx.1 cx.2.1 dX0_levelsOf_13 (by decide) (fun hc => ?_) (fun hc => ?_)
      · rw [if_pos hc] at hf
        refine lv_iload_n cx.1 cx.2.1 dX0_levelsOf_37 rfl (lv_at hl 2 rfl) ?_
        exact g_ireti cx hr hlk hw hS hf dX0_levelsOf_38
      · rw [if_neg hc] at hf
        refine lv_iload_n cx.1 cx.2.1 dX0_levelsOf_16 rfl (lv_at hl 2 rfl) ?_
        refine lv_aload_n cx.1 cx.2.1 dX0_levelsOf_17 rfl (lv_at hl 0 rfl) ?_
        refine g_get (C := RX0) (T := TX0) (N := 7) (v := .ref (G.2.1 (b + 19))) cx hw inlX0 (b + 3) (Nat.lt_of_lt_of_le (hb.lt (j := 3) (by omega)) hN) (he_s3 hb) rfl 5 (by decide) gw_76 rfl rfl dX0_levelsOf_18 ?_
        refine lv_iload_n cx.1 cx.2.1 dX0_levelsOf_21 rfl (lv_at hl 1 rfl) ?_
        refine lv_iload_n cx.1 cx.2.1 dX0_levelsOf_22 rfl (lv_at hl 3 rfl) ?_
        obtain ⟨v_4, S_3, hv, hf⟩ := gbi_some hf
        refine g_S (As := [.int x1, .int x3]) (rest := [.ref (G.2.1 (b + 19)), .int x2]) cx hw hS (c_X0_place l G x1 x3 S_1 v_4 S_3 hv) gw_409 gy_X0_place gi_X0_place ⟨Nat.le_of_ble_eq_true rfl, Nat.le_of_ble_eq_true rfl⟩ ⟨Nat.zero_le _, Nat.zero_le _⟩ rfl hl.1 rfl (Nat.le_of_ble_eq_true rfl) dX0_levelsOf_23 (fun H locs hw hS => ?_)
        refine W.eq (g2 := F0 m 26 ls [.int v_4, .ref (G.2.1 (b + 19)), .int x2]) rfl ?_
        obtain ⟨v_6, S_5, hv, hf⟩ := gbi_some hf
        refine g_N (As := [.ref (G.2.1 (b + 19)), .int v_4]) (rest := [.int x2]) cx hw hS (c_X10_at l G (ia_s19 hN hb) v_4 S_3 v_6 S_5 hv) gnm_22 gy_X10_at gi_X10_at ⟨Nat.le_of_ble_eq_true rfl, Nat.le_of_ble_eq_true rfl⟩ ⟨Nat.zero_le _, Nat.zero_le _⟩ rfl hl.1 rfl (Nat.le_of_ble_eq_true rfl) dX0_levelsOf_26 (fun H locs hw hS => ?_)
        refine W.eq (g2 := F0 m 29 ls [.int v_6, .int x2]) rfl ?_
        refine lv_iadd cx.1 cx.2.1 dX0_levelsOf_29 ?_
        obtain ⟨x2_7, ex2_7, hf⟩ := gvi_ex hf
        refine W.eq (g2 := F0 m 30 ls [.int x2_7]) (by rw [← ex2_7]) ?_
        refine lv_istore_n (lv' := [(2, .int x2_7), (0, .ref (G.2.1 (b + 3))), (1, .int x1), (3, .int x3)]) cx.1 cx.2.1 dX0_levelsOf_30 rfl hl (by decide) rfl (fun ls hl => ?_)
        obtain ⟨x3_8, ex3_8, hf⟩ := gvi_ex hf
        refine lv_iinc (v := x3_8) (lv' := [(3, .int x3_8), (2, .int x2_7), (0, .ref (G.2.1 (b + 3))), (1, .int x1)]) cx.1 cx.2.1 dX0_levelsOf_31 hl (k := 3) rfl (by rw [← ex3_8]; rfl) (by decide) rfl (fun ls hl => ?_)
        refine lv_goto (tgt := 4) cx.1 cx.2.1 dX0_levelsOf_34 (by decide) ?_
        exact hK4 S_5 x1 x2_7 x3_8 _ _ _ hw hS (lv_sub hl [2, 3, 1, 0] rfl) hf
  have hl : lv_has ls 4 [(0, .ref (G.2.1 (b + 3))), (1, .int a1)] := hl
  unfold f_X0_levelsOf at hf
  refine lv_iconst (v := (0 : Int32)) cx.1 cx.2.1 dX0_levelsOf_0 (by decide) ?_
  refine lv_istore_n (lv' := [(2, .int (0 : Int32)), (0, .ref (G.2.1 (b + 3))), (1, .int a1)]) cx.1 cx.2.1 dX0_levelsOf_1 rfl hl (by decide) rfl (fun ls hl => ?_)
  refine lv_iconst (v := (0 : Int32)) cx.1 cx.2.1 dX0_levelsOf_2 (by decide) ?_
  refine lv_istore_n (lv' := [(3, .int (0 : Int32)), (2, .int (0 : Int32)), (0, .ref (G.2.1 (b + 3))), (1, .int a1)]) cx.1 cx.2.1 dX0_levelsOf_3 rfl hl (by decide) rfl (fun ls hl => ?_)
  exact hL_4 gFu S a1 (0 : Int32) (0 : Int32) _ _ _ hw hS (lv_sub hl [2, 3, 1, 0] rfl) hf
set_option maxHeartbeats 4000000 in
set_option maxRecDepth 100000 in
theorem c_X0_markRun (l : Launch) (G : gG) {b : Nat} (hb : IsSt b) (a1 : Int32) (a2 : Int32) (S : Sg) (S' : Sg) (hf : f_X0_markRun b a1 a2 S = some S') : Ct l yX0_markRun [Cond.code yX0_markRun cX0_markRun 3 none] (gR 2 43) G [.ref (G.2.1 (b + 3)), .int a1, .int a2] S none S' := by
  refine Ct_of (by decide) (Nat.le_of_ble_eq_true rfl) ?_
  intro p e s m below meth c ls cx hr hlk hw hS hl
  have hN := cx.2.2.2.2.hN
  have hl : lv_has ls 3 [(0, .ref (G.2.1 (b + 3))), (1, .int a1), (2, .int a2)] := hl
  unfold f_X0_markRun at hf
  refine lv_aload_n cx.1 cx.2.1 dX0_markRun_0 rfl (lv_at hl 0 rfl) ?_
  refine lv_iload_n cx.1 cx.2.1 dX0_markRun_1 rfl (lv_at hl 1 rfl) ?_
  refine lv_iload_n cx.1 cx.2.1 dX0_markRun_2 rfl (lv_at hl 2 rfl) ?_
  obtain ⟨v_2, S_1, hv, hf⟩ := gbi_some hf
  refine g_V (As := [.int a1, .int a2]) (rest := []) cx hw hS (c_X0_hasTrain l G hb a1 a2 S v_2 S_1 hv) (Nat.lt_of_lt_of_le (hb.lt (j := 3) (by omega)) hN) (he_s3 hb) rfl rfl gw_408 gy_X0_hasTrain gi_X0_hasTrain ⟨Nat.le_of_ble_eq_true rfl, Nat.le_of_ble_eq_true rfl⟩ ⟨Nat.zero_le _, Nat.zero_le _⟩ rfl hl.1 rfl (Nat.le_of_ble_eq_true rfl) dX0_markRun_3 (fun H locs hw hS => ?_)
  refine W.eq (g2 := F0 m 6 ls [.int v_2]) rfl ?_
  refine lv_if_eq (tgt := 22) cx.1 cx.2.1 dX0_markRun_6 (by decide) (fun hc => ?_) (fun hc => ?_)
  · rw [if_pos hc] at hf
    exact g_vreti cx hr hlk hw hS hf dX0_markRun_22
  · rw [if_neg hc] at hf
    refine lv_aload_n cx.1 cx.2.1 dX0_markRun_9 rfl (lv_at hl 0 rfl) ?_
    refine g_get (C := RX0) (T := TX0) (N := 7) (v := .ref (G.2.1 (b + 20))) cx hw inlX0 (b + 3) (Nat.lt_of_lt_of_le (hb.lt (j := 3) (by omega)) hN) (he_s3 hb) rfl 6 (by decide) gw_77 rfl rfl dX0_markRun_10 ?_
    refine lv_iload_n cx.1 cx.2.1 dX0_markRun_13 rfl (lv_at hl 1 rfl) ?_
    refine lv_iload_n cx.1 cx.2.1 dX0_markRun_14 rfl (lv_at hl 2 rfl) ?_
    obtain ⟨v_4, S_3, hv, hf⟩ := gbi_some hf
    refine g_S (As := [.int a1, .int a2]) (rest := [.ref (G.2.1 (b + 20))]) cx hw hS (c_X0_place l G a1 a2 S_1 v_4 S_3 hv) gw_409 gy_X0_place gi_X0_place ⟨Nat.le_of_ble_eq_true rfl, Nat.le_of_ble_eq_true rfl⟩ ⟨Nat.zero_le _, Nat.zero_le _⟩ rfl hl.1 rfl (Nat.le_of_ble_eq_true rfl) dX0_markRun_15 (fun H locs hw hS => ?_)
    refine W.eq (g2 := F0 m 18 ls [.int v_4, .ref (G.2.1 (b + 20))]) rfl ?_
    refine lv_iconst (v := (1 : Int32)) cx.1 cx.2.1 dX0_markRun_18 (by decide) ?_
    obtain ⟨S_5, hv, hf⟩ := gbv_some hf
    refine g_N (As := [.ref (G.2.1 (b + 20)), .int v_4, .int (1 : Int32)]) (rest := []) cx hw hS (c_X10_put l G (ia_s20 hN hb) v_4 (1 : Int32) S_3 S_5 hv) gnm_10 gy_X10_put gi_X10_put ⟨Nat.le_of_ble_eq_true rfl, Nat.le_of_ble_eq_true rfl⟩ ⟨Nat.zero_le _, Nat.zero_le _⟩ rfl hl.1 rfl (Nat.le_of_ble_eq_true rfl) dX0_markRun_19 (fun H locs hw hS => ?_)
    refine W.eq (g2 := F0 m 22 ls []) rfl ?_
    exact g_vreti cx hr hlk hw hS hf dX0_markRun_22
set_option maxHeartbeats 4000000 in
set_option maxRecDepth 100000 in
theorem c_X0_payRent (l : Launch) (G : gG) {b : Nat} (hb : IsSt b) (a1 : Int32) (a2 : Int32) (a3 : Int32) (S : Sg) (S' : Sg) (hf : f_X0_payRent b a1 a2 a3 S = some S') : Ct l yX0_payRent [Cond.code yX0_payRent cX0_payRent 4 none] (gR 2 45) G [.ref (G.2.1 (b + 3)), .int a1, .int a2, .int a3] S none S' := by
  refine Ct_of (by decide) (Nat.le_of_ble_eq_true rfl) ?_
  intro p e s m below meth c ls cx hr hlk hw hS hl
  have hN := cx.2.2.2.2.hN
  have hl : lv_has ls 4 [(0, .ref (G.2.1 (b + 3))), (1, .int a1), (2, .int a2), (3, .int a3)] := hl
  unfold f_X0_payRent at hf
  refine lv_aload_n cx.1 cx.2.1 dX0_payRent_0 rfl (lv_at hl 0 rfl) ?_
  refine lv_iload_n cx.1 cx.2.1 dX0_payRent_1 rfl (lv_at hl 1 rfl) ?_
  refine lv_iload_n cx.1 cx.2.1 dX0_payRent_2 rfl (lv_at hl 2 rfl) ?_
  refine lv_iload_n cx.1 cx.2.1 dX0_payRent_3 rfl (lv_at hl 3 rfl) ?_
  obtain ⟨S_1, hv, hf⟩ := gbv_some hf
  refine g_V (As := [.int a1, .int a2, .int a3]) (rest := []) cx hw hS (c_X0_transfer l G hb a1 a2 a3 S S_1 hv) (Nat.lt_of_lt_of_le (hb.lt (j := 3) (by omega)) hN) (he_s3 hb) rfl rfl gw_568 gy_X0_transfer gi_X0_transfer ⟨Nat.le_of_ble_eq_true rfl, Nat.le_of_ble_eq_true rfl⟩ ⟨Nat.zero_le _, Nat.zero_le _⟩ rfl hl.1 rfl (Nat.le_of_ble_eq_true rfl) dX0_payRent_4 (fun H locs hw hS => ?_)
  refine W.eq (g2 := F0 m 7 ls []) rfl ?_
  refine lv_aload_n cx.1 cx.2.1 dX0_payRent_7 rfl (lv_at hl 0 rfl) ?_
  refine g_get (C := RX0) (T := TX0) (N := 7) (v := .ref (G.2.1 (b + 16))) cx hw inlX0 (b + 3) (Nat.lt_of_lt_of_le (hb.lt (j := 3) (by omega)) hN) (he_s3 hb) rfl 2 (by decide) gw_73 rfl rfl dX0_payRent_8 ?_
  refine lv_iload_n cx.1 cx.2.1 dX0_payRent_11 rfl (lv_at hl 2 rfl) ?_
  refine lv_aload_n cx.1 cx.2.1 dX0_payRent_12 rfl (lv_at hl 0 rfl) ?_
  refine g_get (C := RX0) (T := TX0) (N := 7) (v := .ref (G.2.1 (b + 16))) cx hw inlX0 (b + 3) (Nat.lt_of_lt_of_le (hb.lt (j := 3) (by omega)) hN) (he_s3 hb) rfl 2 (by decide) gw_73 rfl rfl dX0_payRent_13 ?_
  refine lv_iload_n cx.1 cx.2.1 dX0_payRent_16 rfl (lv_at hl 2 rfl) ?_
  obtain ⟨v_3, S_2, hv, hf⟩ := gbi_some hf
  refine g_N (As := [.ref (G.2.1 (b + 16)), .int a2]) (rest := [.int a2, .ref (G.2.1 (b + 16))]) cx hw hS (c_X10_at l G (ia_s16 hN hb) a2 S_1 v_3 S_2 hv) gnm_22 gy_X10_at gi_X10_at ⟨Nat.le_of_ble_eq_true rfl, Nat.le_of_ble_eq_true rfl⟩ ⟨Nat.zero_le _, Nat.zero_le _⟩ rfl hl.1 rfl (Nat.le_of_ble_eq_true rfl) dX0_payRent_17 (fun H locs hw hS => ?_)
  refine W.eq (g2 := F0 m 20 ls [.int v_3, .int a2, .ref (G.2.1 (b + 16))]) rfl ?_
  refine lv_iload_n cx.1 cx.2.1 dX0_payRent_20 rfl (lv_at hl 3 rfl) ?_
  refine lv_iadd cx.1 cx.2.1 dX0_payRent_21 ?_
  obtain ⟨S_4, hv, hf⟩ := gbv_some hf
  refine g_N (As := [.ref (G.2.1 (b + 16)), .int a2, .int (v_3 + a3)]) (rest := []) cx hw hS (c_X10_put l G (ia_s16 hN hb) a2 (v_3 + a3) S_2 S_4 hv) gnm_10 gy_X10_put gi_X10_put ⟨Nat.le_of_ble_eq_true rfl, Nat.le_of_ble_eq_true rfl⟩ ⟨Nat.zero_le _, Nat.zero_le _⟩ rfl hl.1 rfl (Nat.le_of_ble_eq_true rfl) dX0_payRent_22 (fun H locs hw hS => ?_)
  refine W.eq (g2 := F0 m 25 ls []) rfl ?_
  exact g_vreti cx hr hlk hw hS hf dX0_payRent_25
set_option maxHeartbeats 4000000 in
set_option maxRecDepth 100000 in
theorem c_X0_rentFor (l : Launch) (G : gG) {b : Nat} (hb : IsSt b) (a1 : Int32) (a2 : Int32) (S : Sg) (r : Int32) (S' : Sg) (hf : f_X0_rentFor b a1 a2 S = some (r, S')) : Ct l yX0_rentFor [Cond.code yX0_rentFor cX0_rentFor 3 (some .int)] (gR 1 21) G [.ref (G.2.1 (b + 3)), .int a1, .int a2] S (some (.int r)) S' := by
  refine Ct_of (by decide) (Nat.le_of_ble_eq_true rfl) ?_
  intro p e s m below meth c ls cx hr hlk hw hS hl
  have hN := cx.2.2.2.2.hN
  have hl : lv_has ls 3 [(0, .ref (G.2.1 (b + 3))), (1, .int a1), (2, .int a2)] := hl
  unfold f_X0_rentFor at hf
  refine lv_iload_n cx.1 cx.2.1 dX0_rentFor_0 rfl (lv_at hl 1 rfl) ?_
  refine lv_iload_n cx.1 cx.2.1 dX0_rentFor_1 rfl (lv_at hl 2 rfl) ?_
  refine lv_icmp_ne (tgt := 9) cx.1 cx.2.1 dX0_rentFor_2 (by decide) (fun hc => ?_) (fun hc => ?_)
  · rw [if_neg hc] at hf
    refine lv_aload_n cx.1 cx.2.1 dX0_rentFor_9 rfl (lv_at hl 0 rfl) ?_
    refine g_get (C := RX0) (T := TX0) (N := 7) (v := .ref (G.2.1 (b + 15))) cx hw inlX0 (b + 3) (Nat.lt_of_lt_of_le (hb.lt (j := 3) (by omega)) hN) (he_s3 hb) rfl 1 (by decide) gw_72 rfl rfl dX0_rentFor_10 ?_
    refine lv_iload_n cx.1 cx.2.1 dX0_rentFor_13 rfl (lv_at hl 2 rfl) ?_
    obtain ⟨v_2, S_1, hv, hf⟩ := gbi_some hf
    refine g_N (As := [.ref (G.2.1 (b + 15)), .int a2]) (rest := []) cx hw hS (c_X10_at l G (ia_s15 hN hb) a2 S v_2 S_1 hv) gnm_22 gy_X10_at gi_X10_at ⟨Nat.le_of_ble_eq_true rfl, Nat.le_of_ble_eq_true rfl⟩ ⟨Nat.zero_le _, Nat.zero_le _⟩ rfl hl.1 rfl (Nat.le_of_ble_eq_true rfl) dX0_rentFor_14 (fun H locs hw hS => ?_)
    refine W.eq (g2 := F0 m 17 ls [.int v_2]) rfl ?_
    exact g_ireti cx hr hlk hw hS hf dX0_rentFor_17
  · rw [if_pos hc] at hf
    refine lv_iconst (v := (0 : Int32)) cx.1 cx.2.1 dX0_rentFor_5 (by decide) ?_
    refine lv_goto (tgt := 17) cx.1 cx.2.1 dX0_rentFor_6 (by decide) ?_
    exact g_ireti cx hr hlk hw hS hf dX0_rentFor_17
set_option maxHeartbeats 4000000 in
set_option maxRecDepth 100000 in
theorem c_X2_empty (l : Launch) (G : gG) (S : Sg) (r : Int32) (S' : Sg) (hf : f_X2_empty S = some (r, S')) : Ct l yX2_empty [Cond.code yX2_empty cX2_empty 2 (some .int)] (gR 0 0) G [.ref (G.2.1 1)] S (some (.int r)) S' := by
  refine Ct_of (by decide) (Nat.le_of_ble_eq_true rfl) ?_
  intro p e s m below meth c ls cx hr hlk hw hS hl
  have hN := cx.2.2.2.2.hN
  have hl : lv_has ls 2 [(0, .ref (G.2.1 1))] := hl
  unfold f_X2_empty at hf
  refine lv_aload_n cx.1 cx.2.1 dX2_empty_0 rfl (lv_at hl 0 rfl) ?_
  refine g_get (C := RX2) (T := TX2) (N := 2) (v := .int (S 1 1)) cx hw inlX2 1 (by omega) he_c1 rfl 1 (by decide) gw_142 rfl rfl dX2_empty_1 ?_
  obtain ⟨x1_1, ex1_1, hf⟩ := gvi_ex hf
  refine W.eq (g2 := F0 m 4 ls [.int x1_1]) (by rw [← ex1_1]) ?_
  refine lv_istore_n (lv' := [(1, .int x1_1), (0, .ref (G.2.1 1))]) cx.1 cx.2.1 dX2_empty_4 rfl hl (by decide) rfl (fun ls hl => ?_)
  refine lv_aload_n cx.1 cx.2.1 dX2_empty_5 rfl (lv_at hl 1 rfl) ?_
  refine lv_iconst (v := (0 : Int32)) cx.1 cx.2.1 dX2_empty_6 (by decide) ?_
  obtain ⟨S_2, eS_2, hf⟩ := gst_ex hf
  refine g_put (C := RX2) (T := TX2) (N := 2) cx hw hS inlX2 tyX2 tyX2_ok nmX2 1 (by omega) he_c1 rfl 1 (by decide) gw_142 rfl rfl (by decide +kernel) (Nat.le_of_ble_eq_true rfl) (by rw [u2_s, he_c1]; rfl) dX2_empty_7 (fun H locs hw hS => ?_)
  rw [eS_2] at hw
  refine lv_iload_n cx.1 cx.2.1 dX2_empty_10 rfl (lv_at hl 0 rfl) ?_
  exact g_ireti cx hr hlk hw hS hf dX2_empty_11
set_option maxHeartbeats 4000000 in
set_option maxRecDepth 100000 in
theorem c_X10_clearText (l : Launch) (G : gG) (S : Sg) (r : Int32) (S' : Sg) (hf : f_X10_clearText S = some (r, S')) : Ct l yX10_clearText [Cond.code yX10_clearText cX10_clearText 1 (some .int)] (gR 1 21) G [.ref (G.2.1 0)] S (some (.int r)) S' := by
  refine Ct_of (by decide) (Nat.le_of_ble_eq_true rfl) ?_
  intro p e s m below meth c ls cx hr hlk hw hS hl
  have hN := cx.2.2.2.2.hN
  have hl : lv_has ls 1 [(0, .ref (G.2.1 0))] := hl
  unfold f_X10_clearText at hf
  refine lv_aload_n cx.1 cx.2.1 dX10_clearText_0 rfl (lv_at hl 0 rfl) ?_
  refine g_get (C := RX10) (T := TX10) (N := 6) (v := .ref (G.2.1 1)) cx hw inlX10 0 (by omega) he_c0 rfl 0 (by decide) gw_13 rfl rfl dX10_clearText_1 ?_
  obtain ⟨v_2, S_1, hv, hf⟩ := gbi_some hf
  refine g_V (As := []) (rest := []) cx hw hS (c_X2_empty l G S v_2 S_1 hv) (by omega) he_c1 rfl rfl gw_845 gy_X2_empty gi_X2_empty ⟨Nat.le_of_ble_eq_true rfl, Nat.le_of_ble_eq_true rfl⟩ ⟨Nat.zero_le _, Nat.zero_le _⟩ rfl hl.1 rfl (Nat.le_of_ble_eq_true rfl) dX10_clearText_4 (fun H locs hw hS => ?_)
  refine W.eq (g2 := F0 m 7 ls [.int v_2]) rfl ?_
  exact g_ireti cx hr hlk hw hS hf dX10_clearText_7
set_option maxHeartbeats 4000000 in
set_option maxRecDepth 100000 in
theorem c_X8_copyFrom (l : Launch) (G : gG) {b : Nat} {b1 : Nat} (hb : IsSt b) (hb1 : IsSt b1) (S : Sg) (S' : Sg) (hf : f_X8_copyFrom b b1 S = some S') : Ct l yX8_copyFrom [Cond.code yX8_copyFrom cX8_copyFrom 2 none] (gR 2 81) G [.ref (G.2.1 (b + 1)), .ref (G.2.1 (b1 + 1))] S none S' := by
  refine Ct_of (by decide) (Nat.le_of_ble_eq_true rfl) ?_
  intro p e s m below meth c ls cx hr hlk hw hS hl
  have hN := cx.2.2.2.2.hN
  have hl : lv_has ls 2 [(0, .ref (G.2.1 (b + 1))), (1, .ref (G.2.1 (b1 + 1)))] := hl
  unfold f_X8_copyFrom at hf
  refine lv_aload_n cx.1 cx.2.1 dX8_copyFrom_0 rfl (lv_at hl 1 rfl) ?_
  refine g_get (C := RX8) (T := TX8) (N := 5) (v := .ref (G.2.1 (b1 + 4))) cx hw inlX8 (b1 + 1) (Nat.lt_of_lt_of_le (hb1.lt (j := 1) (by omega)) hN) (he_s1 hb1) rfl 0 (by decide) gw_55 rfl rfl dX8_copyFrom_1 ?_
  refine lv_aload_n cx.1 cx.2.1 dX8_copyFrom_4 rfl (lv_at hl 0 rfl) ?_
  refine g_get (C := RX8) (T := TX8) (N := 5) (v := .ref (G.2.1 (b + 4))) cx hw inlX8 (b + 1) (Nat.lt_of_lt_of_le (hb.lt (j := 1) (by omega)) hN) (he_s1 hb) rfl 0 (by decide) gw_55 rfl rfl dX8_copyFrom_5 ?_
  obtain ⟨S_1, hv, hf⟩ := gbv_some hf
  refine g_N (As := [.ref (G.2.1 (b1 + 4)), .ref (G.2.1 (b + 4))]) (rest := []) cx hw hS (c_X10_copyRow l G (ia_s4 hN hb1) (ia_s4 hN hb) S S_1 hv) gnm_15 gy_X10_copyRow gi_X10_copyRow ⟨Nat.le_of_ble_eq_true rfl, Nat.le_of_ble_eq_true rfl⟩ ⟨Nat.zero_le _, Nat.zero_le _⟩ rfl hl.1 rfl (Nat.le_of_ble_eq_true rfl) dX8_copyFrom_8 (fun H locs hw hS => ?_)
  refine W.eq (g2 := F0 m 11 ls []) rfl ?_
  refine lv_aload_n cx.1 cx.2.1 dX8_copyFrom_11 rfl (lv_at hl 1 rfl) ?_
  refine g_get (C := RX8) (T := TX8) (N := 5) (v := .ref (G.2.1 (b1 + 5))) cx hw inlX8 (b1 + 1) (Nat.lt_of_lt_of_le (hb1.lt (j := 1) (by omega)) hN) (he_s1 hb1) rfl 1 (by decide) gw_56 rfl rfl dX8_copyFrom_12 ?_
  refine lv_aload_n cx.1 cx.2.1 dX8_copyFrom_15 rfl (lv_at hl 0 rfl) ?_
  refine g_get (C := RX8) (T := TX8) (N := 5) (v := .ref (G.2.1 (b + 5))) cx hw inlX8 (b + 1) (Nat.lt_of_lt_of_le (hb.lt (j := 1) (by omega)) hN) (he_s1 hb) rfl 1 (by decide) gw_56 rfl rfl dX8_copyFrom_16 ?_
  obtain ⟨S_2, hv, hf⟩ := gbv_some hf
  refine g_N (As := [.ref (G.2.1 (b1 + 5)), .ref (G.2.1 (b + 5))]) (rest := []) cx hw hS (c_X10_copyRow l G (ia_s5 hN hb1) (ia_s5 hN hb) S_1 S_2 hv) gnm_15 gy_X10_copyRow gi_X10_copyRow ⟨Nat.le_of_ble_eq_true rfl, Nat.le_of_ble_eq_true rfl⟩ ⟨Nat.zero_le _, Nat.zero_le _⟩ rfl hl.1 rfl (Nat.le_of_ble_eq_true rfl) dX8_copyFrom_19 (fun H locs hw hS => ?_)
  refine W.eq (g2 := F0 m 22 ls []) rfl ?_
  refine lv_aload_n cx.1 cx.2.1 dX8_copyFrom_22 rfl (lv_at hl 1 rfl) ?_
  refine g_get (C := RX8) (T := TX8) (N := 5) (v := .ref (G.2.1 (b1 + 6))) cx hw inlX8 (b1 + 1) (Nat.lt_of_lt_of_le (hb1.lt (j := 1) (by omega)) hN) (he_s1 hb1) rfl 2 (by decide) gw_57 rfl rfl dX8_copyFrom_23 ?_
  refine lv_aload_n cx.1 cx.2.1 dX8_copyFrom_26 rfl (lv_at hl 0 rfl) ?_
  refine g_get (C := RX8) (T := TX8) (N := 5) (v := .ref (G.2.1 (b + 6))) cx hw inlX8 (b + 1) (Nat.lt_of_lt_of_le (hb.lt (j := 1) (by omega)) hN) (he_s1 hb) rfl 2 (by decide) gw_57 rfl rfl dX8_copyFrom_27 ?_
  obtain ⟨S_3, hv, hf⟩ := gbv_some hf
  refine g_N (As := [.ref (G.2.1 (b1 + 6)), .ref (G.2.1 (b + 6))]) (rest := []) cx hw hS (c_X10_copyRow l G (ia_s6 hN hb1) (ia_s6 hN hb) S_2 S_3 hv) gnm_15 gy_X10_copyRow gi_X10_copyRow ⟨Nat.le_of_ble_eq_true rfl, Nat.le_of_ble_eq_true rfl⟩ ⟨Nat.zero_le _, Nat.zero_le _⟩ rfl hl.1 rfl (Nat.le_of_ble_eq_true rfl) dX8_copyFrom_30 (fun H locs hw hS => ?_)
  refine W.eq (g2 := F0 m 33 ls []) rfl ?_
  refine lv_aload_n cx.1 cx.2.1 dX8_copyFrom_33 rfl (lv_at hl 1 rfl) ?_
  refine g_get (C := RX8) (T := TX8) (N := 5) (v := .ref (G.2.1 (b1 + 7))) cx hw inlX8 (b1 + 1) (Nat.lt_of_lt_of_le (hb1.lt (j := 1) (by omega)) hN) (he_s1 hb1) rfl 3 (by decide) gw_58 rfl rfl dX8_copyFrom_34 ?_
  refine lv_aload_n cx.1 cx.2.1 dX8_copyFrom_37 rfl (lv_at hl 0 rfl) ?_
  refine g_get (C := RX8) (T := TX8) (N := 5) (v := .ref (G.2.1 (b + 7))) cx hw inlX8 (b + 1) (Nat.lt_of_lt_of_le (hb.lt (j := 1) (by omega)) hN) (he_s1 hb) rfl 3 (by decide) gw_58 rfl rfl dX8_copyFrom_38 ?_
  obtain ⟨S_4, hv, hf⟩ := gbv_some hf
  refine g_N (As := [.ref (G.2.1 (b1 + 7)), .ref (G.2.1 (b + 7))]) (rest := []) cx hw hS (c_X10_copyRow l G (ia_s7 hN hb1) (ia_s7 hN hb) S_3 S_4 hv) gnm_15 gy_X10_copyRow gi_X10_copyRow ⟨Nat.le_of_ble_eq_true rfl, Nat.le_of_ble_eq_true rfl⟩ ⟨Nat.zero_le _, Nat.zero_le _⟩ rfl hl.1 rfl (Nat.le_of_ble_eq_true rfl) dX8_copyFrom_41 (fun H locs hw hS => ?_)
  refine W.eq (g2 := F0 m 44 ls []) rfl ?_
  refine lv_aload_n cx.1 cx.2.1 dX8_copyFrom_44 rfl (lv_at hl 0 rfl) ?_
  refine lv_aload_n cx.1 cx.2.1 dX8_copyFrom_45 rfl (lv_at hl 1 rfl) ?_
  refine g_get (C := RX8) (T := TX8) (N := 5) (v := .int (S_4 (b1 + 1) 4)) cx hw inlX8 (b1 + 1) (Nat.lt_of_lt_of_le (hb1.lt (j := 1) (by omega)) hN) (he_s1 hb1) rfl 4 (by decide) gw_129 rfl rfl dX8_copyFrom_46 ?_
  obtain ⟨S_5, eS_5, hf⟩ := gst_ex hf
  refine g_put (C := RX8) (T := TX8) (N := 5) cx hw hS inlX8 tyX8 tyX8_ok nmX8 (b + 1) (Nat.lt_of_lt_of_le (hb.lt (j := 1) (by omega)) hN) (he_s1 hb) rfl 4 (by decide) gw_129 rfl rfl (by decide +kernel) (Nat.le_of_ble_eq_true rfl) (by rw [u2_s, (he_s1 hb)]; rfl) dX8_copyFrom_49 (fun H locs hw hS => ?_)
  rw [eS_5] at hw
  exact g_vreti cx hr hlk hw hS hf dX8_copyFrom_52
set_option maxHeartbeats 4000000 in
set_option maxRecDepth 100000 in
theorem c_X1_copyFrom (l : Launch) (G : gG) {b : Nat} {b1 : Nat} (hb : IsSt b) (hb1 : IsSt b1) (S : Sg) (S' : Sg) (hf : f_X1_copyFrom b b1 S = some S') : Ct l yX1_copyFrom [Cond.code yX1_copyFrom cX1_copyFrom 2 none] (gR 2 81) G [.ref (G.2.1 (b + 2)), .ref (G.2.1 (b1 + 2))] S none S' := by
  refine Ct_of (by decide) (Nat.le_of_ble_eq_true rfl) ?_
  intro p e s m below meth c ls cx hr hlk hw hS hl
  have hN := cx.2.2.2.2.hN
  have hl : lv_has ls 2 [(0, .ref (G.2.1 (b + 2))), (1, .ref (G.2.1 (b1 + 2)))] := hl
  unfold f_X1_copyFrom at hf
  refine lv_aload_n cx.1 cx.2.1 dX1_copyFrom_0 rfl (lv_at hl 1 rfl) ?_
  refine g_get (C := RX1) (T := TX1) (N := 7) (v := .ref (G.2.1 (b1 + 8))) cx hw inlX1 (b1 + 2) (Nat.lt_of_lt_of_le (hb1.lt (j := 2) (by omega)) hN) (he_s2 hb1) rfl 0 (by decide) gw_62 rfl rfl dX1_copyFrom_1 ?_
  refine lv_aload_n cx.1 cx.2.1 dX1_copyFrom_4 rfl (lv_at hl 0 rfl) ?_
  refine g_get (C := RX1) (T := TX1) (N := 7) (v := .ref (G.2.1 (b + 8))) cx hw inlX1 (b + 2) (Nat.lt_of_lt_of_le (hb.lt (j := 2) (by omega)) hN) (he_s2 hb) rfl 0 (by decide) gw_62 rfl rfl dX1_copyFrom_5 ?_
  obtain ⟨S_1, hv, hf⟩ := gbv_some hf
  refine g_N (As := [.ref (G.2.1 (b1 + 8)), .ref (G.2.1 (b + 8))]) (rest := []) cx hw hS (c_X10_copyRow l G (ia_s8 hN hb1) (ia_s8 hN hb) S S_1 hv) gnm_16 gy_X10_copyRow gi_X10_copyRow ⟨Nat.le_of_ble_eq_true rfl, Nat.le_of_ble_eq_true rfl⟩ ⟨Nat.zero_le _, Nat.zero_le _⟩ rfl hl.1 rfl (Nat.le_of_ble_eq_true rfl) dX1_copyFrom_8 (fun H locs hw hS => ?_)
  refine W.eq (g2 := F0 m 11 ls []) rfl ?_
  refine lv_aload_n cx.1 cx.2.1 dX1_copyFrom_11 rfl (lv_at hl 1 rfl) ?_
  refine g_get (C := RX1) (T := TX1) (N := 7) (v := .ref (G.2.1 (b1 + 9))) cx hw inlX1 (b1 + 2) (Nat.lt_of_lt_of_le (hb1.lt (j := 2) (by omega)) hN) (he_s2 hb1) rfl 1 (by decide) gw_63 rfl rfl dX1_copyFrom_12 ?_
  refine lv_aload_n cx.1 cx.2.1 dX1_copyFrom_15 rfl (lv_at hl 0 rfl) ?_
  refine g_get (C := RX1) (T := TX1) (N := 7) (v := .ref (G.2.1 (b + 9))) cx hw inlX1 (b + 2) (Nat.lt_of_lt_of_le (hb.lt (j := 2) (by omega)) hN) (he_s2 hb) rfl 1 (by decide) gw_63 rfl rfl dX1_copyFrom_16 ?_
  obtain ⟨S_2, hv, hf⟩ := gbv_some hf
  refine g_N (As := [.ref (G.2.1 (b1 + 9)), .ref (G.2.1 (b + 9))]) (rest := []) cx hw hS (c_X10_copyRow l G (ia_s9 hN hb1) (ia_s9 hN hb) S_1 S_2 hv) gnm_16 gy_X10_copyRow gi_X10_copyRow ⟨Nat.le_of_ble_eq_true rfl, Nat.le_of_ble_eq_true rfl⟩ ⟨Nat.zero_le _, Nat.zero_le _⟩ rfl hl.1 rfl (Nat.le_of_ble_eq_true rfl) dX1_copyFrom_19 (fun H locs hw hS => ?_)
  refine W.eq (g2 := F0 m 22 ls []) rfl ?_
  refine lv_aload_n cx.1 cx.2.1 dX1_copyFrom_22 rfl (lv_at hl 1 rfl) ?_
  refine g_get (C := RX1) (T := TX1) (N := 7) (v := .ref (G.2.1 (b1 + 10))) cx hw inlX1 (b1 + 2) (Nat.lt_of_lt_of_le (hb1.lt (j := 2) (by omega)) hN) (he_s2 hb1) rfl 2 (by decide) gw_64 rfl rfl dX1_copyFrom_23 ?_
  refine lv_aload_n cx.1 cx.2.1 dX1_copyFrom_26 rfl (lv_at hl 0 rfl) ?_
  refine g_get (C := RX1) (T := TX1) (N := 7) (v := .ref (G.2.1 (b + 10))) cx hw inlX1 (b + 2) (Nat.lt_of_lt_of_le (hb.lt (j := 2) (by omega)) hN) (he_s2 hb) rfl 2 (by decide) gw_64 rfl rfl dX1_copyFrom_27 ?_
  obtain ⟨S_3, hv, hf⟩ := gbv_some hf
  refine g_N (As := [.ref (G.2.1 (b1 + 10)), .ref (G.2.1 (b + 10))]) (rest := []) cx hw hS (c_X10_copyRow l G (ia_s10 hN hb1) (ia_s10 hN hb) S_2 S_3 hv) gnm_16 gy_X10_copyRow gi_X10_copyRow ⟨Nat.le_of_ble_eq_true rfl, Nat.le_of_ble_eq_true rfl⟩ ⟨Nat.zero_le _, Nat.zero_le _⟩ rfl hl.1 rfl (Nat.le_of_ble_eq_true rfl) dX1_copyFrom_30 (fun H locs hw hS => ?_)
  refine W.eq (g2 := F0 m 33 ls []) rfl ?_
  refine lv_aload_n cx.1 cx.2.1 dX1_copyFrom_33 rfl (lv_at hl 1 rfl) ?_
  refine g_get (C := RX1) (T := TX1) (N := 7) (v := .ref (G.2.1 (b1 + 11))) cx hw inlX1 (b1 + 2) (Nat.lt_of_lt_of_le (hb1.lt (j := 2) (by omega)) hN) (he_s2 hb1) rfl 3 (by decide) gw_65 rfl rfl dX1_copyFrom_34 ?_
  refine lv_aload_n cx.1 cx.2.1 dX1_copyFrom_37 rfl (lv_at hl 0 rfl) ?_
  refine g_get (C := RX1) (T := TX1) (N := 7) (v := .ref (G.2.1 (b + 11))) cx hw inlX1 (b + 2) (Nat.lt_of_lt_of_le (hb.lt (j := 2) (by omega)) hN) (he_s2 hb) rfl 3 (by decide) gw_65 rfl rfl dX1_copyFrom_38 ?_
  obtain ⟨S_4, hv, hf⟩ := gbv_some hf
  refine g_N (As := [.ref (G.2.1 (b1 + 11)), .ref (G.2.1 (b + 11))]) (rest := []) cx hw hS (c_X10_copyRow l G (ia_s11 hN hb1) (ia_s11 hN hb) S_3 S_4 hv) gnm_16 gy_X10_copyRow gi_X10_copyRow ⟨Nat.le_of_ble_eq_true rfl, Nat.le_of_ble_eq_true rfl⟩ ⟨Nat.zero_le _, Nat.zero_le _⟩ rfl hl.1 rfl (Nat.le_of_ble_eq_true rfl) dX1_copyFrom_41 (fun H locs hw hS => ?_)
  refine W.eq (g2 := F0 m 44 ls []) rfl ?_
  refine lv_aload_n cx.1 cx.2.1 dX1_copyFrom_44 rfl (lv_at hl 1 rfl) ?_
  refine g_get (C := RX1) (T := TX1) (N := 7) (v := .ref (G.2.1 (b1 + 12))) cx hw inlX1 (b1 + 2) (Nat.lt_of_lt_of_le (hb1.lt (j := 2) (by omega)) hN) (he_s2 hb1) rfl 4 (by decide) gw_66 rfl rfl dX1_copyFrom_45 ?_
  refine lv_aload_n cx.1 cx.2.1 dX1_copyFrom_48 rfl (lv_at hl 0 rfl) ?_
  refine g_get (C := RX1) (T := TX1) (N := 7) (v := .ref (G.2.1 (b + 12))) cx hw inlX1 (b + 2) (Nat.lt_of_lt_of_le (hb.lt (j := 2) (by omega)) hN) (he_s2 hb) rfl 4 (by decide) gw_66 rfl rfl dX1_copyFrom_49 ?_
  obtain ⟨S_5, hv, hf⟩ := gbv_some hf
  refine g_N (As := [.ref (G.2.1 (b1 + 12)), .ref (G.2.1 (b + 12))]) (rest := []) cx hw hS (c_X10_copyRow l G (ia_s12 hN hb1) (ia_s12 hN hb) S_4 S_5 hv) gnm_16 gy_X10_copyRow gi_X10_copyRow ⟨Nat.le_of_ble_eq_true rfl, Nat.le_of_ble_eq_true rfl⟩ ⟨Nat.zero_le _, Nat.zero_le _⟩ rfl hl.1 rfl (Nat.le_of_ble_eq_true rfl) dX1_copyFrom_52 (fun H locs hw hS => ?_)
  refine W.eq (g2 := F0 m 55 ls []) rfl ?_
  refine lv_aload_n cx.1 cx.2.1 dX1_copyFrom_55 rfl (lv_at hl 1 rfl) ?_
  refine g_get (C := RX1) (T := TX1) (N := 7) (v := .ref (G.2.1 (b1 + 13))) cx hw inlX1 (b1 + 2) (Nat.lt_of_lt_of_le (hb1.lt (j := 2) (by omega)) hN) (he_s2 hb1) rfl 5 (by decide) gw_67 rfl rfl dX1_copyFrom_56 ?_
  refine lv_aload_n cx.1 cx.2.1 dX1_copyFrom_59 rfl (lv_at hl 0 rfl) ?_
  refine g_get (C := RX1) (T := TX1) (N := 7) (v := .ref (G.2.1 (b + 13))) cx hw inlX1 (b + 2) (Nat.lt_of_lt_of_le (hb.lt (j := 2) (by omega)) hN) (he_s2 hb) rfl 5 (by decide) gw_67 rfl rfl dX1_copyFrom_60 ?_
  obtain ⟨S_6, hv, hf⟩ := gbv_some hf
  refine g_N (As := [.ref (G.2.1 (b1 + 13)), .ref (G.2.1 (b + 13))]) (rest := []) cx hw hS (c_X10_copyRow l G (ia_s13 hN hb1) (ia_s13 hN hb) S_5 S_6 hv) gnm_16 gy_X10_copyRow gi_X10_copyRow ⟨Nat.le_of_ble_eq_true rfl, Nat.le_of_ble_eq_true rfl⟩ ⟨Nat.zero_le _, Nat.zero_le _⟩ rfl hl.1 rfl (Nat.le_of_ble_eq_true rfl) dX1_copyFrom_63 (fun H locs hw hS => ?_)
  refine W.eq (g2 := F0 m 66 ls []) rfl ?_
  refine lv_aload_n cx.1 cx.2.1 dX1_copyFrom_66 rfl (lv_at hl 0 rfl) ?_
  refine lv_aload_n cx.1 cx.2.1 dX1_copyFrom_67 rfl (lv_at hl 1 rfl) ?_
  refine g_get (C := RX1) (T := TX1) (N := 7) (v := .int (S_6 (b1 + 2) 6)) cx hw inlX1 (b1 + 2) (Nat.lt_of_lt_of_le (hb1.lt (j := 2) (by omega)) hN) (he_s2 hb1) rfl 6 (by decide) gw_175 rfl rfl dX1_copyFrom_68 ?_
  obtain ⟨S_7, eS_7, hf⟩ := gst_ex hf
  refine g_put (C := RX1) (T := TX1) (N := 7) cx hw hS inlX1 tyX1 tyX1_ok nmX1 (b + 2) (Nat.lt_of_lt_of_le (hb.lt (j := 2) (by omega)) hN) (he_s2 hb) rfl 6 (by decide) gw_175 rfl rfl (by decide +kernel) (Nat.le_of_ble_eq_true rfl) (by rw [u2_s, (he_s2 hb)]; rfl) dX1_copyFrom_71 (fun H locs hw hS => ?_)
  rw [eS_7] at hw
  exact g_vreti cx hr hlk hw hS hf dX1_copyFrom_74
set_option maxHeartbeats 4000000 in
set_option maxRecDepth 100000 in
theorem c_X7_copyFrom (l : Launch) (G : gG) {b : Nat} {b1 : Nat} (hb : IsSt b) (hb1 : IsSt b1) (S : Sg) (S' : Sg) (hf : f_X7_copyFrom b b1 S = some S') : Ct l yX7_copyFrom [Cond.code yX7_copyFrom cX7_copyFrom 2 none] (gR 3 102) G [.ref (G.2.1 b), .ref (G.2.1 b1)] S none S' := by
  refine Ct_of (by decide) (Nat.le_of_ble_eq_true rfl) ?_
  intro p e s m below meth c ls cx hr hlk hw hS hl
  have hN := cx.2.2.2.2.hN
  have hl : lv_has ls 2 [(0, .ref (G.2.1 b)), (1, .ref (G.2.1 b1))] := hl
  unfold f_X7_copyFrom at hf
  refine lv_aload_n cx.1 cx.2.1 dX7_copyFrom_0 rfl (lv_at hl 0 rfl) ?_
  refine g_get (C := RX7) (T := TX7) (N := 9) (v := .ref (G.2.1 (b + 1))) cx hw inlX7 b (Nat.lt_of_lt_of_le hb.lt0 hN) (he_s0 hb) rfl 0 (by decide) gw_43 rfl rfl dX7_copyFrom_1 ?_
  refine lv_aload_n cx.1 cx.2.1 dX7_copyFrom_4 rfl (lv_at hl 1 rfl) ?_
  refine g_get (C := RX7) (T := TX7) (N := 9) (v := .ref (G.2.1 (b1 + 1))) cx hw inlX7 b1 (Nat.lt_of_lt_of_le hb1.lt0 hN) (he_s0 hb1) rfl 0 (by decide) gw_43 rfl rfl dX7_copyFrom_5 ?_
  obtain ⟨S_1, hv, hf⟩ := gbv_some hf
  refine g_V (As := [.ref (G.2.1 (b1 + 1))]) (rest := []) cx hw hS (c_X8_copyFrom l G hb hb1 S S_1 hv) (Nat.lt_of_lt_of_le (hb.lt (j := 1) (by omega)) hN) (he_s1 hb) rfl rfl gw_323 gy_X8_copyFrom gi_X8_copyFrom ⟨Nat.le_of_ble_eq_true rfl, Nat.le_of_ble_eq_true rfl⟩ ⟨Nat.zero_le _, Nat.zero_le _⟩ rfl hl.1 rfl (Nat.le_of_ble_eq_true rfl) dX7_copyFrom_8 (fun H locs hw hS => ?_)
  refine W.eq (g2 := F0 m 11 ls []) rfl ?_
  refine lv_aload_n cx.1 cx.2.1 dX7_copyFrom_11 rfl (lv_at hl 0 rfl) ?_
  refine g_get (C := RX7) (T := TX7) (N := 9) (v := .ref (G.2.1 (b + 2))) cx hw inlX7 b (Nat.lt_of_lt_of_le hb.lt0 hN) (he_s0 hb) rfl 1 (by decide) gw_47 rfl rfl dX7_copyFrom_12 ?_
  refine lv_aload_n cx.1 cx.2.1 dX7_copyFrom_15 rfl (lv_at hl 1 rfl) ?_
  refine g_get (C := RX7) (T := TX7) (N := 9) (v := .ref (G.2.1 (b1 + 2))) cx hw inlX7 b1 (Nat.lt_of_lt_of_le hb1.lt0 hN) (he_s0 hb1) rfl 1 (by decide) gw_47 rfl rfl dX7_copyFrom_16 ?_
  obtain ⟨S_2, hv, hf⟩ := gbv_some hf
  refine g_V (As := [.ref (G.2.1 (b1 + 2))]) (rest := []) cx hw hS (c_X1_copyFrom l G hb hb1 S_1 S_2 hv) (Nat.lt_of_lt_of_le (hb.lt (j := 2) (by omega)) hN) (he_s2 hb) rfl rfl gw_337 gy_X1_copyFrom gi_X1_copyFrom ⟨Nat.le_of_ble_eq_true rfl, Nat.le_of_ble_eq_true rfl⟩ ⟨Nat.zero_le _, Nat.zero_le _⟩ rfl hl.1 rfl (Nat.le_of_ble_eq_true rfl) dX7_copyFrom_19 (fun H locs hw hS => ?_)
  refine W.eq (g2 := F0 m 22 ls []) rfl ?_
  refine lv_aload_n cx.1 cx.2.1 dX7_copyFrom_22 rfl (lv_at hl 0 rfl) ?_
  refine g_get (C := RX7) (T := TX7) (N := 9) (v := .ref (G.2.1 (b + 3))) cx hw inlX7 b (Nat.lt_of_lt_of_le hb.lt0 hN) (he_s0 hb) rfl 2 (by decide) gw_51 rfl rfl dX7_copyFrom_23 ?_
  refine lv_aload_n cx.1 cx.2.1 dX7_copyFrom_26 rfl (lv_at hl 1 rfl) ?_
  refine g_get (C := RX7) (T := TX7) (N := 9) (v := .ref (G.2.1 (b1 + 3))) cx hw inlX7 b1 (Nat.lt_of_lt_of_le hb1.lt0 hN) (he_s0 hb1) rfl 2 (by decide) gw_51 rfl rfl dX7_copyFrom_27 ?_
  obtain ⟨S_3, hv, hf⟩ := gbv_some hf
  refine g_V (As := [.ref (G.2.1 (b1 + 3))]) (rest := []) cx hw hS (c_X0_copyFrom l G hb hb1 S_2 S_3 hv) (Nat.lt_of_lt_of_le (hb.lt (j := 3) (by omega)) hN) (he_s3 hb) rfl rfl gw_341 gy_X0_copyFrom gi_X0_copyFrom ⟨Nat.le_of_ble_eq_true rfl, Nat.le_of_ble_eq_true rfl⟩ ⟨Nat.zero_le _, Nat.zero_le _⟩ rfl hl.1 rfl (Nat.le_of_ble_eq_true rfl) dX7_copyFrom_30 (fun H locs hw hS => ?_)
  refine W.eq (g2 := F0 m 33 ls []) rfl ?_
  refine lv_aload_n cx.1 cx.2.1 dX7_copyFrom_33 rfl (lv_at hl 0 rfl) ?_
  refine lv_aload_n cx.1 cx.2.1 dX7_copyFrom_34 rfl (lv_at hl 1 rfl) ?_
  refine g_get (C := RX7) (T := TX7) (N := 9) (v := .int (S_3 b1 3)) cx hw inlX7 b1 (Nat.lt_of_lt_of_le hb1.lt0 hN) (he_s0 hb1) rfl 3 (by decide) gw_111 rfl rfl dX7_copyFrom_35 ?_
  obtain ⟨S_4, eS_4, hf⟩ := gst_ex hf
  refine g_put (C := RX7) (T := TX7) (N := 9) cx hw hS inlX7 tyX7 tyX7_ok nmX7 b (Nat.lt_of_lt_of_le hb.lt0 hN) (he_s0 hb) rfl 3 (by decide) gw_111 rfl rfl (by decide +kernel) (Nat.le_of_ble_eq_true rfl) (by rw [u2_s, (he_s0 hb)]; rfl) dX7_copyFrom_38 (fun H locs hw hS => ?_)
  rw [eS_4] at hw
  refine lv_aload_n cx.1 cx.2.1 dX7_copyFrom_41 rfl (lv_at hl 0 rfl) ?_
  refine lv_aload_n cx.1 cx.2.1 dX7_copyFrom_42 rfl (lv_at hl 1 rfl) ?_
  refine g_get (C := RX7) (T := TX7) (N := 9) (v := .int (S_4 b1 4)) cx hw inlX7 b1 (Nat.lt_of_lt_of_le hb1.lt0 hN) (he_s0 hb1) rfl 4 (by decide) gw_112 rfl rfl dX7_copyFrom_43 ?_
  obtain ⟨S_5, eS_5, hf⟩ := gst_ex hf
  refine g_put (C := RX7) (T := TX7) (N := 9) cx hw hS inlX7 tyX7 tyX7_ok nmX7 b (Nat.lt_of_lt_of_le hb.lt0 hN) (he_s0 hb) rfl 4 (by decide) gw_112 rfl rfl (by decide +kernel) (Nat.le_of_ble_eq_true rfl) (by rw [u2_s, (he_s0 hb)]; rfl) dX7_copyFrom_46 (fun H locs hw hS => ?_)
  rw [eS_5] at hw
  refine lv_aload_n cx.1 cx.2.1 dX7_copyFrom_49 rfl (lv_at hl 0 rfl) ?_
  refine lv_aload_n cx.1 cx.2.1 dX7_copyFrom_50 rfl (lv_at hl 1 rfl) ?_
  refine g_get (C := RX7) (T := TX7) (N := 9) (v := .int (S_5 b1 5)) cx hw inlX7 b1 (Nat.lt_of_lt_of_le hb1.lt0 hN) (he_s0 hb1) rfl 5 (by decide) gw_113 rfl rfl dX7_copyFrom_51 ?_
  obtain ⟨S_6, eS_6, hf⟩ := gst_ex hf
  refine g_put (C := RX7) (T := TX7) (N := 9) cx hw hS inlX7 tyX7 tyX7_ok nmX7 b (Nat.lt_of_lt_of_le hb.lt0 hN) (he_s0 hb) rfl 5 (by decide) gw_113 rfl rfl (by decide +kernel) (Nat.le_of_ble_eq_true rfl) (by rw [u2_s, (he_s0 hb)]; rfl) dX7_copyFrom_54 (fun H locs hw hS => ?_)
  rw [eS_6] at hw
  refine lv_aload_n cx.1 cx.2.1 dX7_copyFrom_57 rfl (lv_at hl 0 rfl) ?_
  refine lv_aload_n cx.1 cx.2.1 dX7_copyFrom_58 rfl (lv_at hl 1 rfl) ?_
  refine g_get (C := RX7) (T := TX7) (N := 9) (v := .int (S_6 b1 6)) cx hw inlX7 b1 (Nat.lt_of_lt_of_le hb1.lt0 hN) (he_s0 hb1) rfl 6 (by decide) gw_114 rfl rfl dX7_copyFrom_59 ?_
  obtain ⟨S_7, eS_7, hf⟩ := gst_ex hf
  refine g_put (C := RX7) (T := TX7) (N := 9) cx hw hS inlX7 tyX7 tyX7_ok nmX7 b (Nat.lt_of_lt_of_le hb.lt0 hN) (he_s0 hb) rfl 6 (by decide) gw_114 rfl rfl (by decide +kernel) (Nat.le_of_ble_eq_true rfl) (by rw [u2_s, (he_s0 hb)]; rfl) dX7_copyFrom_62 (fun H locs hw hS => ?_)
  rw [eS_7] at hw
  refine lv_aload_n cx.1 cx.2.1 dX7_copyFrom_65 rfl (lv_at hl 0 rfl) ?_
  refine lv_aload_n cx.1 cx.2.1 dX7_copyFrom_66 rfl (lv_at hl 1 rfl) ?_
  refine g_get (C := RX7) (T := TX7) (N := 9) (v := .int (S_7 b1 7)) cx hw inlX7 b1 (Nat.lt_of_lt_of_le hb1.lt0 hN) (he_s0 hb1) rfl 7 (by decide) gw_115 rfl rfl dX7_copyFrom_67 ?_
  obtain ⟨S_8, eS_8, hf⟩ := gst_ex hf
  refine g_put (C := RX7) (T := TX7) (N := 9) cx hw hS inlX7 tyX7 tyX7_ok nmX7 b (Nat.lt_of_lt_of_le hb.lt0 hN) (he_s0 hb) rfl 7 (by decide) gw_115 rfl rfl (by decide +kernel) (Nat.le_of_ble_eq_true rfl) (by rw [u2_s, (he_s0 hb)]; rfl) dX7_copyFrom_70 (fun H locs hw hS => ?_)
  rw [eS_8] at hw
  refine lv_aload_n cx.1 cx.2.1 dX7_copyFrom_73 rfl (lv_at hl 0 rfl) ?_
  refine lv_aload_n cx.1 cx.2.1 dX7_copyFrom_74 rfl (lv_at hl 1 rfl) ?_
  refine g_get (C := RX7) (T := TX7) (N := 9) (v := .int (S_8 b1 8)) cx hw inlX7 b1 (Nat.lt_of_lt_of_le hb1.lt0 hN) (he_s0 hb1) rfl 8 (by decide) gw_116 rfl rfl dX7_copyFrom_75 ?_
  obtain ⟨S_9, eS_9, hf⟩ := gst_ex hf
  refine g_put (C := RX7) (T := TX7) (N := 9) cx hw hS inlX7 tyX7 tyX7_ok nmX7 b (Nat.lt_of_lt_of_le hb.lt0 hN) (he_s0 hb) rfl 8 (by decide) gw_116 rfl rfl (by decide +kernel) (Nat.le_of_ble_eq_true rfl) (by rw [u2_s, (he_s0 hb)]; rfl) dX7_copyFrom_78 (fun H locs hw hS => ?_)
  rw [eS_9] at hw
  exact g_vreti cx hr hlk hw hS hf dX7_copyFrom_81
set_option maxHeartbeats 4000000 in
set_option maxRecDepth 100000 in
theorem c_X10_copyState (l : Launch) (G : gG) {b0 : Nat} {b1 : Nat} (hb0 : IsSt b0) (hb1 : IsSt b1) (S : Sg) (S' : Sg) (hf : f_X10_copyState b0 b1 S = some S') : Ct l yX10_copyState [Cond.code yX10_copyState cX10_copyState 2 none] (gR 4 123) G [.ref (G.2.1 b0), .ref (G.2.1 b1)] S none S' := by
  refine Ct_of (by decide) (Nat.le_of_ble_eq_true rfl) ?_
  intro p e s m below meth c ls cx hr hlk hw hS hl
  have hN := cx.2.2.2.2.hN
  have hl : lv_has ls 2 [(0, .ref (G.2.1 b0)), (1, .ref (G.2.1 b1))] := hl
  unfold f_X10_copyState at hf
  refine lv_aload_n cx.1 cx.2.1 dX10_copyState_0 rfl (lv_at hl 0 rfl) ?_
  refine lv_ifnull cx.1 cx.2.1 dX10_copyState_1 ?_
  refine lv_aload_n cx.1 cx.2.1 dX10_copyState_4 rfl (lv_at hl 1 rfl) ?_
  refine lv_ifnull cx.1 cx.2.1 dX10_copyState_5 ?_
  refine lv_aload_n cx.1 cx.2.1 dX10_copyState_8 rfl (lv_at hl 1 rfl) ?_
  refine lv_aload_n cx.1 cx.2.1 dX10_copyState_9 rfl (lv_at hl 0 rfl) ?_
  obtain ⟨S_1, hv, hf⟩ := gbv_some hf
  refine g_V (As := [.ref (G.2.1 b0)]) (rest := []) cx hw hS (c_X7_copyFrom l G hb1 hb0 S S_1 hv) (Nat.lt_of_lt_of_le hb1.lt0 hN) (he_s0 hb1) rfl rfl gw_319 gy_X7_copyFrom gi_X7_copyFrom ⟨Nat.le_of_ble_eq_true rfl, Nat.le_of_ble_eq_true rfl⟩ ⟨Nat.zero_le _, Nat.zero_le _⟩ rfl hl.1 rfl (Nat.le_of_ble_eq_true rfl) dX10_copyState_10 (fun H locs hw hS => ?_)
  refine W.eq (g2 := F0 m 13 ls []) rfl ?_
  exact g_vreti cx hr hlk hw hS hf dX10_copyState_13
set_option maxHeartbeats 4000000 in
set_option maxRecDepth 100000 in
theorem c_X3_stateAt (l : Launch) (G : gG) (a1 : Int32) (S : Sg) (r : Nat) (S' : Sg) (hf : f_X3_stateAt a1 S = some (r, S')) : Ct l yX3_stateAt [Cond.code yX3_stateAt cX3_stateAt 3 (some (.object "RustRails$State"))] (gR 0 0) G [.ref (G.2.1 3), .int a1] S (some (.ref (G.2.1 r))) S' := by
  refine Ct_of (by decide) (Nat.le_of_ble_eq_true rfl) ?_
  intro p e s m below meth c ls cx hr hlk hw hS hl
  have hN := cx.2.2.2.2.hN
  have hl : lv_has ls 3 [(0, .ref (G.2.1 3)), (1, .int a1)] := hl
  unfold f_X3_stateAt at hf
  refine lv_aload_n cx.1 cx.2.1 dX3_stateAt_0 rfl (lv_at hl 0 rfl) ?_
  refine g_get (C := RX3) (T := TX3) (N := 3) (v := .int (S 3 1)) cx hw inlX3 3 (by omega) he_c3 rfl 1 (by decide) gw_316 rfl rfl dX3_stateAt_1 ?_
  refine lv_iload_n cx.1 cx.2.1 dX3_stateAt_4 rfl (lv_at hl 1 rfl) ?_
  refine lv_iadd cx.1 cx.2.1 dX3_stateAt_5 ?_
  refine lv_bipush (v := (14 : Int32)) cx.1 cx.2.1 dX3_stateAt_6 (by decide) ?_
  refine lv_irem cx.1 cx.2.1 dX3_stateAt_8 (by decide) ?_
  obtain ⟨x2_1, ex2_1, hf⟩ := gvi_ex hf
  refine W.eq (g2 := F0 m 9 ls [.int x2_1]) (by rw [← ex2_1]) ?_
  refine lv_istore_n (lv' := [(2, .int x2_1), (0, .ref (G.2.1 3)), (1, .int a1)]) cx.1 cx.2.1 dX3_stateAt_9 rfl hl (by decide) rfl (fun ls hl => ?_)
  refine lv_iload_n cx.1 cx.2.1 dX3_stateAt_10 rfl (lv_at hl 0 rfl) ?_
  refine lv_if_lt (tgt := 32) cx.1 cx.2.1 dX3_stateAt_11 (by decide) (fun hc => ?_) (fun hc => ?_)
  · rw [if_pos hc] at hf
    cases hf
  · rw [if_neg hc] at hf
    refine lv_iload_n cx.1 cx.2.1 dX3_stateAt_14 rfl (lv_at hl 0 rfl) ?_
    refine lv_aload_n cx.1 cx.2.1 dX3_stateAt_15 rfl (lv_at hl 1 rfl) ?_
    refine g_get (C := RX3) (T := TX3) (N := 3) (v := .ref (G.2.1 4)) cx hw inlX3 3 (by omega) he_c3 rfl 0 (by decide) gw_83 rfl rfl dX3_stateAt_16 ?_
    refine g_alenH (n := 14) cx hw (by omega) rfl dX3_stateAt_19 ?_
    refine lv_icmp_ge (tgt := 32) cx.1 cx.2.1 dX3_stateAt_20 (by decide) (fun hc => ?_) (fun hc => ?_)
    · rw [if_pos hc] at hf
      cases hf
    · rw [if_neg hc] at hf
      refine lv_aload_n cx.1 cx.2.1 dX3_stateAt_23 rfl (lv_at hl 1 rfl) ?_
      refine g_get (C := RX3) (T := TX3) (N := 3) (v := .ref (G.2.1 4)) cx hw inlX3 3 (by omega) he_c3 rfl 0 (by decide) gw_83 rfl rfl dX3_stateAt_24 ?_
      refine lv_iload_n cx.1 cx.2.1 dX3_stateAt_27 rfl (lv_at hl 0 rfl) ?_
      obtain ⟨hin, hf⟩ := gck_some hf
      refine g_ald4 cx hw (vp_of_inb hin) dX3_stateAt_28 ?_
      refine lv_goto (tgt := 33) cx.1 cx.2.1 dX3_stateAt_29 (by decide) ?_
      exact g_areti cx hr hlk hw hS hf dX3_stateAt_33
set_option maxHeartbeats 4000000 in
set_option maxRecDepth 100000 in
theorem c_X3_remember (l : Launch) (G : gG) {b1 : Nat} (hb1 : IsSt b1) (S : Sg) (S' : Sg) (hf : f_X3_remember b1 S = some S') : Ct l yX3_remember [Cond.code yX3_remember cX3_remember 2 none] (gR 5 144) G [.ref (G.2.1 3), .ref (G.2.1 b1)] S none S' := by
  refine Ct_of (by decide) (Nat.le_of_ble_eq_true rfl) ?_
  intro p e s m below meth c ls cx hr hlk hw hS hl
  have hN := cx.2.2.2.2.hN
  have hl : lv_has ls 2 [(0, .ref (G.2.1 3)), (1, .ref (G.2.1 b1))] := hl
  unfold f_X3_remember at hf
  refine lv_aload_n cx.1 cx.2.1 dX3_remember_0 rfl (lv_at hl 1 rfl) ?_
  refine lv_aload_n cx.1 cx.2.1 dX3_remember_1 rfl (lv_at hl 0 rfl) ?_
  refine lv_aload_n cx.1 cx.2.1 dX3_remember_2 rfl (lv_at hl 0 rfl) ?_
  refine g_get (C := RX3) (T := TX3) (N := 3) (v := .int (S 3 2)) cx hw inlX3 3 (by omega) he_c3 rfl 2 (by decide) gw_311 rfl rfl dX3_remember_3 ?_
  obtain ⟨v_2, S_1, hv, hf⟩ := gbn_some hf
  have hbv_2 := st_of_X3_stateAt hv
  refine g_V (As := [.int (S 3 2)]) (rest := [.ref (G.2.1 b1)]) cx hw hS (c_X3_stateAt l G (S 3 2) S v_2 S_1 hv) (by omega) he_c3 rfl rfl gw_312 gy_X3_stateAt gi_X3_stateAt ⟨Nat.le_of_ble_eq_true rfl, Nat.le_of_ble_eq_true rfl⟩ ⟨Nat.zero_le _, Nat.zero_le _⟩ rfl hl.1 rfl (Nat.le_of_ble_eq_true rfl) dX3_remember_6 (fun H locs hw hS => ?_)
  refine W.eq (g2 := F0 m 9 ls [.ref (G.2.1 v_2), .ref (G.2.1 b1)]) rfl ?_
  obtain ⟨S_3, hv, hf⟩ := gbv_some hf
  refine g_N (As := [.ref (G.2.1 b1), .ref (G.2.1 v_2)]) (rest := []) cx hw hS (c_X10_copyState l G hb1 hbv_2 S_1 S_3 hv) gnm_14 gy_X10_copyState gi_X10_copyState ⟨Nat.le_of_ble_eq_true rfl, Nat.le_of_ble_eq_true rfl⟩ ⟨Nat.zero_le _, Nat.zero_le _⟩ rfl hl.1 rfl (Nat.le_of_ble_eq_true rfl) dX3_remember_9 (fun H locs hw hS => ?_)
  refine W.eq (g2 := F0 m 12 ls []) rfl ?_
  refine lv_aload_n cx.1 cx.2.1 dX3_remember_12 rfl (lv_at hl 0 rfl) ?_
  refine g_get (C := RX3) (T := TX3) (N := 3) (v := .int (S_3 3 2)) cx hw inlX3 3 (by omega) he_c3 rfl 2 (by decide) gw_311 rfl rfl dX3_remember_13 ?_
  refine lv_bipush (v := (14 : Int32)) cx.1 cx.2.1 dX3_remember_16 (by decide) ?_
  refine lv_icmp_ge (tgt := 34) cx.1 cx.2.1 dX3_remember_18 (by decide) (fun hc => ?_) (fun hc => ?_)
  · rw [if_pos hc] at hf
    refine lv_aload_n cx.1 cx.2.1 dX3_remember_34 rfl (lv_at hl 0 rfl) ?_
    refine lv_aload_n cx.1 cx.2.1 dX3_remember_35 rfl (lv_at hl 0 rfl) ?_
    refine g_get (C := RX3) (T := TX3) (N := 3) (v := .int (S_3 3 1)) cx hw inlX3 3 (by omega) he_c3 rfl 1 (by decide) gw_316 rfl rfl dX3_remember_36 ?_
    refine lv_iconst (v := (1 : Int32)) cx.1 cx.2.1 dX3_remember_39 (by decide) ?_
    refine lv_iadd cx.1 cx.2.1 dX3_remember_40 ?_
    refine lv_bipush (v := (14 : Int32)) cx.1 cx.2.1 dX3_remember_41 (by decide) ?_
    refine lv_irem cx.1 cx.2.1 dX3_remember_43 (by decide) ?_
    obtain ⟨S_4, eS_4, hf⟩ := gst_ex hf
    refine g_put (C := RX3) (T := TX3) (N := 3) cx hw hS inlX3 tyX3 tyX3_ok nmX3 3 (by omega) he_c3 rfl 1 (by decide) gw_316 rfl rfl (by decide +kernel) (Nat.le_of_ble_eq_true rfl) (by rw [u2_s, he_c3]; rfl) dX3_remember_44 (fun H locs hw hS => ?_)
    rw [eS_4] at hw
    exact g_vreti cx hr hlk hw hS hf dX3_remember_47
  · rw [if_neg hc] at hf
    refine lv_aload_n cx.1 cx.2.1 dX3_remember_21 rfl (lv_at hl 0 rfl) ?_
    refine lv_dup cx.1 cx.2.1 dX3_remember_22 rfl ?_
    refine g_get (C := RX3) (T := TX3) (N := 3) (v := .int (S_3 3 2)) cx hw inlX3 3 (by omega) he_c3 rfl 2 (by decide) gw_311 rfl rfl dX3_remember_23 ?_
    refine lv_iconst (v := (1 : Int32)) cx.1 cx.2.1 dX3_remember_26 (by decide) ?_
    refine lv_iadd cx.1 cx.2.1 dX3_remember_27 ?_
    obtain ⟨S_5, eS_5, hf⟩ := gst_ex hf
    refine g_put (C := RX3) (T := TX3) (N := 3) cx hw hS inlX3 tyX3 tyX3_ok nmX3 3 (by omega) he_c3 rfl 2 (by decide) gw_311 rfl rfl (by decide +kernel) (Nat.le_of_ble_eq_true rfl) (by rw [u2_s, he_c3]; rfl) dX3_remember_28 (fun H locs hw hS => ?_)
    rw [eS_5] at hw
    refine lv_goto (tgt := 47) cx.1 cx.2.1 dX3_remember_31 (by decide) ?_
    exact g_vreti cx hr hlk hw hS hf dX3_remember_47
set_option maxHeartbeats 4000000 in
set_option maxRecDepth 100000 in
theorem c_X1_has (l : Launch) (G : gG) {b : Nat} (hb : IsSt b) (a1 : Int32) (S : Sg) (r : Int32) (S' : Sg) (hf : f_X1_has b a1 S = some (r, S')) : Ct l yX1_has [Cond.code yX1_has cX1_has 2 (some .boolean)] (gR 0 0) G [.ref (G.2.1 (b + 2)), .int a1] S (some (.int r)) S' := by
  refine Ct_of (by decide) (Nat.le_of_ble_eq_true rfl) ?_
  intro p e s m below meth c ls cx hr hlk hw hS hl
  have hN := cx.2.2.2.2.hN
  have hl : lv_has ls 2 [(0, .ref (G.2.1 (b + 2))), (1, .int a1)] := hl
  unfold f_X1_has at hf
  refine lv_iload_n cx.1 cx.2.1 dX1_has_0 rfl (lv_at hl 1 rfl) ?_
  refine lv_if_lt (tgt := 16) cx.1 cx.2.1 dX1_has_1 (by decide) (fun hc => ?_) (fun hc => ?_)
  · rw [if_pos hc] at hf
    refine lv_iconst (v := (0 : Int32)) cx.1 cx.2.1 dX1_has_16 (by decide) ?_
    exact g_zreti cx hr hlk hw hS (by decide) hf dX1_has_17
  · rw [if_neg hc] at hf
    refine lv_iload_n cx.1 cx.2.1 dX1_has_4 rfl (lv_at hl 1 rfl) ?_
    refine lv_aload_n cx.1 cx.2.1 dX1_has_5 rfl (lv_at hl 0 rfl) ?_
    refine g_get (C := RX1) (T := TX1) (N := 7) (v := .int (S (b + 2) 6)) cx hw inlX1 (b + 2) (Nat.lt_of_lt_of_le (hb.lt (j := 2) (by omega)) hN) (he_s2 hb) rfl 6 (by decide) gw_175 rfl rfl dX1_has_6 ?_
    refine lv_icmp_ge (tgt := 16) cx.1 cx.2.1 dX1_has_9 (by decide) (fun hc => ?_) (fun hc => ?_)
    · rw [if_pos hc] at hf
      refine lv_iconst (v := (0 : Int32)) cx.1 cx.2.1 dX1_has_16 (by decide) ?_
      exact g_zreti cx hr hlk hw hS (by decide) hf dX1_has_17
    · rw [if_neg hc] at hf
      refine lv_iconst (v := (1 : Int32)) cx.1 cx.2.1 dX1_has_12 (by decide) ?_
      refine lv_goto (tgt := 17) cx.1 cx.2.1 dX1_has_13 (by decide) ?_
      exact g_zreti cx hr hlk hw hS (by decide) hf dX1_has_17
set_option maxHeartbeats 4000000 in
set_option maxRecDepth 100000 in
theorem c_X1_holderOf (l : Launch) (G : gG) {b : Nat} (hb : IsSt b) (a1 : Int32) (S : Sg) (r : Int32) (S' : Sg) (hf : f_X1_holderOf b a1 S = some (r, S')) : Ct l yX1_holderOf [Cond.code yX1_holderOf cX1_holderOf 2 (some .int)] (gR 1 21) G [.ref (G.2.1 (b + 2)), .int a1] S (some (.int r)) S' := by
  refine Ct_of (by decide) (Nat.le_of_ble_eq_true rfl) ?_
  intro p e s m below meth c ls cx hr hlk hw hS hl
  have hN := cx.2.2.2.2.hN
  have hl : lv_has ls 2 [(0, .ref (G.2.1 (b + 2))), (1, .int a1)] := hl
  unfold f_X1_holderOf at hf
  refine lv_aload_n cx.1 cx.2.1 dX1_holderOf_0 rfl (lv_at hl 0 rfl) ?_
  refine lv_iload_n cx.1 cx.2.1 dX1_holderOf_1 rfl (lv_at hl 1 rfl) ?_
  obtain ⟨v_2, S_1, hv, hf⟩ := gbi_some hf
  refine g_V (As := [.int a1]) (rest := []) cx hw hS (c_X1_has l G hb a1 S v_2 S_1 hv) (Nat.lt_of_lt_of_le (hb.lt (j := 2) (by omega)) hN) (he_s2 hb) rfl rfl gw_527 gy_X1_has gi_X1_has ⟨Nat.le_of_ble_eq_true rfl, Nat.le_of_ble_eq_true rfl⟩ ⟨Nat.zero_le _, Nat.zero_le _⟩ rfl hl.1 rfl (Nat.le_of_ble_eq_true rfl) dX1_holderOf_2 (fun H locs hw hS => ?_)
  refine W.eq (g2 := F0 m 5 ls [.int v_2]) rfl ?_
  refine lv_if_eq (tgt := 19) cx.1 cx.2.1 dX1_holderOf_5 (by decide) (fun hc => ?_) (fun hc => ?_)
  · rw [if_pos hc] at hf
    refine lv_bipush (v := (-9 : Int32)) cx.1 cx.2.1 dX1_holderOf_19 (by decide) ?_
    exact g_ireti cx hr hlk hw hS hf dX1_holderOf_21
  · rw [if_neg hc] at hf
    refine lv_aload_n cx.1 cx.2.1 dX1_holderOf_8 rfl (lv_at hl 0 rfl) ?_
    refine g_get (C := RX1) (T := TX1) (N := 7) (v := .ref (G.2.1 (b + 12))) cx hw inlX1 (b + 2) (Nat.lt_of_lt_of_le (hb.lt (j := 2) (by omega)) hN) (he_s2 hb) rfl 4 (by decide) gw_66 rfl rfl dX1_holderOf_9 ?_
    refine lv_iload_n cx.1 cx.2.1 dX1_holderOf_12 rfl (lv_at hl 1 rfl) ?_
    obtain ⟨v_4, S_3, hv, hf⟩ := gbi_some hf
    refine g_N (As := [.ref (G.2.1 (b + 12)), .int a1]) (rest := []) cx hw hS (c_X10_at l G (ia_s12 hN hb) a1 S_1 v_4 S_3 hv) gnm_28 gy_X10_at gi_X10_at ⟨Nat.le_of_ble_eq_true rfl, Nat.le_of_ble_eq_true rfl⟩ ⟨Nat.zero_le _, Nat.zero_le _⟩ rfl hl.1 rfl (Nat.le_of_ble_eq_true rfl) dX1_holderOf_13 (fun H locs hw hS => ?_)
    refine W.eq (g2 := F0 m 16 ls [.int v_4]) rfl ?_
    refine lv_goto (tgt := 21) cx.1 cx.2.1 dX1_holderOf_16 (by decide) ?_
    exact g_ireti cx hr hlk hw hS hf dX1_holderOf_21
set_option maxHeartbeats 4000000 in
set_option maxRecDepth 100000 in
theorem c_X1_isFree (l : Launch) (G : gG) {b : Nat} (hb : IsSt b) (a1 : Int32) (S : Sg) (r : Int32) (S' : Sg) (hf : f_X1_isFree b a1 S = some (r, S')) : Ct l yX1_isFree [Cond.code yX1_isFree cX1_isFree 2 (some .boolean)] (gR 2 42) G [.ref (G.2.1 (b + 2)), .int a1] S (some (.int r)) S' := by
  refine Ct_of (by decide) (Nat.le_of_ble_eq_true rfl) ?_
  intro p e s m below meth c ls cx hr hlk hw hS hl
  have hN := cx.2.2.2.2.hN
  have hl : lv_has ls 2 [(0, .ref (G.2.1 (b + 2))), (1, .int a1)] := hl
  unfold f_X1_isFree at hf
  refine lv_aload_n cx.1 cx.2.1 dX1_isFree_0 rfl (lv_at hl 0 rfl) ?_
  refine lv_iload_n cx.1 cx.2.1 dX1_isFree_1 rfl (lv_at hl 1 rfl) ?_
  obtain ⟨v_2, S_1, hv, hf⟩ := gbi_some hf
  refine g_V (As := [.int a1]) (rest := []) cx hw hS (c_X1_holderOf l G hb a1 S v_2 S_1 hv) (Nat.lt_of_lt_of_le (hb.lt (j := 2) (by omega)) hN) (he_s2 hb) rfl rfl gw_523 gy_X1_holderOf gi_X1_holderOf ⟨Nat.le_of_ble_eq_true rfl, Nat.le_of_ble_eq_true rfl⟩ ⟨Nat.zero_le _, Nat.zero_le _⟩ rfl hl.1 rfl (Nat.le_of_ble_eq_true rfl) dX1_isFree_2 (fun H locs hw hS => ?_)
  refine W.eq (g2 := F0 m 5 ls [.int v_2]) rfl ?_
  refine lv_bipush (v := (-9 : Int32)) cx.1 cx.2.1 dX1_isFree_5 (by decide) ?_
  refine lv_icmp_ne (tgt := 14) cx.1 cx.2.1 dX1_isFree_7 (by decide) (fun hc => ?_) (fun hc => ?_)
  · rw [if_neg hc] at hf
    refine lv_iconst (v := (0 : Int32)) cx.1 cx.2.1 dX1_isFree_14 (by decide) ?_
    exact g_zreti cx hr hlk hw hS (by decide) hf dX1_isFree_15
  · rw [if_pos hc] at hf
    refine lv_iconst (v := (1 : Int32)) cx.1 cx.2.1 dX1_isFree_10 (by decide) ?_
    refine lv_goto (tgt := 15) cx.1 cx.2.1 dX1_isFree_11 (by decide) ?_
    exact g_zreti cx hr hlk hw hS (by decide) hf dX1_isFree_15
set_option maxHeartbeats 4000000 in
set_option maxRecDepth 100000 in
theorem c_X1_move (l : Launch) (G : gG) {b : Nat} (hb : IsSt b) (a1 : Int32) (a2 : Int32) (S : Sg) (S' : Sg) (hf : f_X1_move b a1 a2 S = some S') : Ct l yX1_move [Cond.code yX1_move cX1_move 3 none] (gR 1 22) G [.ref (G.2.1 (b + 2)), .int a1, .int a2] S none S' := by
  refine Ct_of (by decide) (Nat.le_of_ble_eq_true rfl) ?_
  intro p e s m below meth c ls cx hr hlk hw hS hl
  have hN := cx.2.2.2.2.hN
  have hl : lv_has ls 3 [(0, .ref (G.2.1 (b + 2))), (1, .int a1), (2, .int a2)] := hl
  unfold f_X1_move at hf
  refine lv_aload_n cx.1 cx.2.1 dX1_move_0 rfl (lv_at hl 0 rfl) ?_
  refine g_get (C := RX1) (T := TX1) (N := 7) (v := .ref (G.2.1 (b + 8))) cx hw inlX1 (b + 2) (Nat.lt_of_lt_of_le (hb.lt (j := 2) (by omega)) hN) (he_s2 hb) rfl 0 (by decide) gw_62 rfl rfl dX1_move_1 ?_
  refine lv_iload_n cx.1 cx.2.1 dX1_move_4 rfl (lv_at hl 2 rfl) ?_
  refine lv_aload_n cx.1 cx.2.1 dX1_move_5 rfl (lv_at hl 0 rfl) ?_
  refine g_get (C := RX1) (T := TX1) (N := 7) (v := .ref (G.2.1 (b + 8))) cx hw inlX1 (b + 2) (Nat.lt_of_lt_of_le (hb.lt (j := 2) (by omega)) hN) (he_s2 hb) rfl 0 (by decide) gw_62 rfl rfl dX1_move_6 ?_
  refine lv_iload_n cx.1 cx.2.1 dX1_move_9 rfl (lv_at hl 1 rfl) ?_
  obtain ⟨v_2, S_1, hv, hf⟩ := gbi_some hf
  refine g_N (As := [.ref (G.2.1 (b + 8)), .int a1]) (rest := [.int a2, .ref (G.2.1 (b + 8))]) cx hw hS (c_X10_at l G (ia_s8 hN hb) a1 S v_2 S_1 hv) gnm_28 gy_X10_at gi_X10_at ⟨Nat.le_of_ble_eq_true rfl, Nat.le_of_ble_eq_true rfl⟩ ⟨Nat.zero_le _, Nat.zero_le _⟩ rfl hl.1 rfl (Nat.le_of_ble_eq_true rfl) dX1_move_10 (fun H locs hw hS => ?_)
  refine W.eq (g2 := F0 m 13 ls [.int v_2, .int a2, .ref (G.2.1 (b + 8))]) rfl ?_
  obtain ⟨S_3, hv, hf⟩ := gbv_some hf
  refine g_N (As := [.ref (G.2.1 (b + 8)), .int a2, .int v_2]) (rest := []) cx hw hS (c_X10_put l G (ia_s8 hN hb) a2 v_2 S_1 S_3 hv) gnm_13 gy_X10_put gi_X10_put ⟨Nat.le_of_ble_eq_true rfl, Nat.le_of_ble_eq_true rfl⟩ ⟨Nat.zero_le _, Nat.zero_le _⟩ rfl hl.1 rfl (Nat.le_of_ble_eq_true rfl) dX1_move_13 (fun H locs hw hS => ?_)
  refine W.eq (g2 := F0 m 16 ls []) rfl ?_
  refine lv_aload_n cx.1 cx.2.1 dX1_move_16 rfl (lv_at hl 0 rfl) ?_
  refine g_get (C := RX1) (T := TX1) (N := 7) (v := .ref (G.2.1 (b + 9))) cx hw inlX1 (b + 2) (Nat.lt_of_lt_of_le (hb.lt (j := 2) (by omega)) hN) (he_s2 hb) rfl 1 (by decide) gw_63 rfl rfl dX1_move_17 ?_
  refine lv_iload_n cx.1 cx.2.1 dX1_move_20 rfl (lv_at hl 2 rfl) ?_
  refine lv_aload_n cx.1 cx.2.1 dX1_move_21 rfl (lv_at hl 0 rfl) ?_
  refine g_get (C := RX1) (T := TX1) (N := 7) (v := .ref (G.2.1 (b + 9))) cx hw inlX1 (b + 2) (Nat.lt_of_lt_of_le (hb.lt (j := 2) (by omega)) hN) (he_s2 hb) rfl 1 (by decide) gw_63 rfl rfl dX1_move_22 ?_
  refine lv_iload_n cx.1 cx.2.1 dX1_move_25 rfl (lv_at hl 1 rfl) ?_
  obtain ⟨v_5, S_4, hv, hf⟩ := gbi_some hf
  refine g_N (As := [.ref (G.2.1 (b + 9)), .int a1]) (rest := [.int a2, .ref (G.2.1 (b + 9))]) cx hw hS (c_X10_at l G (ia_s9 hN hb) a1 S_3 v_5 S_4 hv) gnm_28 gy_X10_at gi_X10_at ⟨Nat.le_of_ble_eq_true rfl, Nat.le_of_ble_eq_true rfl⟩ ⟨Nat.zero_le _, Nat.zero_le _⟩ rfl hl.1 rfl (Nat.le_of_ble_eq_true rfl) dX1_move_26 (fun H locs hw hS => ?_)
  refine W.eq (g2 := F0 m 29 ls [.int v_5, .int a2, .ref (G.2.1 (b + 9))]) rfl ?_
  obtain ⟨S_6, hv, hf⟩ := gbv_some hf
  refine g_N (As := [.ref (G.2.1 (b + 9)), .int a2, .int v_5]) (rest := []) cx hw hS (c_X10_put l G (ia_s9 hN hb) a2 v_5 S_4 S_6 hv) gnm_13 gy_X10_put gi_X10_put ⟨Nat.le_of_ble_eq_true rfl, Nat.le_of_ble_eq_true rfl⟩ ⟨Nat.zero_le _, Nat.zero_le _⟩ rfl hl.1 rfl (Nat.le_of_ble_eq_true rfl) dX1_move_29 (fun H locs hw hS => ?_)
  refine W.eq (g2 := F0 m 32 ls []) rfl ?_
  refine lv_aload_n cx.1 cx.2.1 dX1_move_32 rfl (lv_at hl 0 rfl) ?_
  refine g_get (C := RX1) (T := TX1) (N := 7) (v := .ref (G.2.1 (b + 10))) cx hw inlX1 (b + 2) (Nat.lt_of_lt_of_le (hb.lt (j := 2) (by omega)) hN) (he_s2 hb) rfl 2 (by decide) gw_64 rfl rfl dX1_move_33 ?_
  refine lv_iload_n cx.1 cx.2.1 dX1_move_36 rfl (lv_at hl 2 rfl) ?_
  refine lv_aload_n cx.1 cx.2.1 dX1_move_37 rfl (lv_at hl 0 rfl) ?_
  refine g_get (C := RX1) (T := TX1) (N := 7) (v := .ref (G.2.1 (b + 10))) cx hw inlX1 (b + 2) (Nat.lt_of_lt_of_le (hb.lt (j := 2) (by omega)) hN) (he_s2 hb) rfl 2 (by decide) gw_64 rfl rfl dX1_move_38 ?_
  refine lv_iload_n cx.1 cx.2.1 dX1_move_41 rfl (lv_at hl 1 rfl) ?_
  obtain ⟨v_8, S_7, hv, hf⟩ := gbi_some hf
  refine g_N (As := [.ref (G.2.1 (b + 10)), .int a1]) (rest := [.int a2, .ref (G.2.1 (b + 10))]) cx hw hS (c_X10_at l G (ia_s10 hN hb) a1 S_6 v_8 S_7 hv) gnm_28 gy_X10_at gi_X10_at ⟨Nat.le_of_ble_eq_true rfl, Nat.le_of_ble_eq_true rfl⟩ ⟨Nat.zero_le _, Nat.zero_le _⟩ rfl hl.1 rfl (Nat.le_of_ble_eq_true rfl) dX1_move_42 (fun H locs hw hS => ?_)
  refine W.eq (g2 := F0 m 45 ls [.int v_8, .int a2, .ref (G.2.1 (b + 10))]) rfl ?_
  obtain ⟨S_9, hv, hf⟩ := gbv_some hf
  refine g_N (As := [.ref (G.2.1 (b + 10)), .int a2, .int v_8]) (rest := []) cx hw hS (c_X10_put l G (ia_s10 hN hb) a2 v_8 S_7 S_9 hv) gnm_13 gy_X10_put gi_X10_put ⟨Nat.le_of_ble_eq_true rfl, Nat.le_of_ble_eq_true rfl⟩ ⟨Nat.zero_le _, Nat.zero_le _⟩ rfl hl.1 rfl (Nat.le_of_ble_eq_true rfl) dX1_move_45 (fun H locs hw hS => ?_)
  refine W.eq (g2 := F0 m 48 ls []) rfl ?_
  refine lv_aload_n cx.1 cx.2.1 dX1_move_48 rfl (lv_at hl 0 rfl) ?_
  refine g_get (C := RX1) (T := TX1) (N := 7) (v := .ref (G.2.1 (b + 11))) cx hw inlX1 (b + 2) (Nat.lt_of_lt_of_le (hb.lt (j := 2) (by omega)) hN) (he_s2 hb) rfl 3 (by decide) gw_65 rfl rfl dX1_move_49 ?_
  refine lv_iload_n cx.1 cx.2.1 dX1_move_52 rfl (lv_at hl 2 rfl) ?_
  refine lv_aload_n cx.1 cx.2.1 dX1_move_53 rfl (lv_at hl 0 rfl) ?_
  refine g_get (C := RX1) (T := TX1) (N := 7) (v := .ref (G.2.1 (b + 11))) cx hw inlX1 (b + 2) (Nat.lt_of_lt_of_le (hb.lt (j := 2) (by omega)) hN) (he_s2 hb) rfl 3 (by decide) gw_65 rfl rfl dX1_move_54 ?_
  refine lv_iload_n cx.1 cx.2.1 dX1_move_57 rfl (lv_at hl 1 rfl) ?_
  obtain ⟨v_11, S_10, hv, hf⟩ := gbi_some hf
  refine g_N (As := [.ref (G.2.1 (b + 11)), .int a1]) (rest := [.int a2, .ref (G.2.1 (b + 11))]) cx hw hS (c_X10_at l G (ia_s11 hN hb) a1 S_9 v_11 S_10 hv) gnm_28 gy_X10_at gi_X10_at ⟨Nat.le_of_ble_eq_true rfl, Nat.le_of_ble_eq_true rfl⟩ ⟨Nat.zero_le _, Nat.zero_le _⟩ rfl hl.1 rfl (Nat.le_of_ble_eq_true rfl) dX1_move_58 (fun H locs hw hS => ?_)
  refine W.eq (g2 := F0 m 61 ls [.int v_11, .int a2, .ref (G.2.1 (b + 11))]) rfl ?_
  obtain ⟨S_12, hv, hf⟩ := gbv_some hf
  refine g_N (As := [.ref (G.2.1 (b + 11)), .int a2, .int v_11]) (rest := []) cx hw hS (c_X10_put l G (ia_s11 hN hb) a2 v_11 S_10 S_12 hv) gnm_13 gy_X10_put gi_X10_put ⟨Nat.le_of_ble_eq_true rfl, Nat.le_of_ble_eq_true rfl⟩ ⟨Nat.zero_le _, Nat.zero_le _⟩ rfl hl.1 rfl (Nat.le_of_ble_eq_true rfl) dX1_move_61 (fun H locs hw hS => ?_)
  refine W.eq (g2 := F0 m 64 ls []) rfl ?_
  refine lv_aload_n cx.1 cx.2.1 dX1_move_64 rfl (lv_at hl 0 rfl) ?_
  refine g_get (C := RX1) (T := TX1) (N := 7) (v := .ref (G.2.1 (b + 12))) cx hw inlX1 (b + 2) (Nat.lt_of_lt_of_le (hb.lt (j := 2) (by omega)) hN) (he_s2 hb) rfl 4 (by decide) gw_66 rfl rfl dX1_move_65 ?_
  refine lv_iload_n cx.1 cx.2.1 dX1_move_68 rfl (lv_at hl 2 rfl) ?_
  refine lv_aload_n cx.1 cx.2.1 dX1_move_69 rfl (lv_at hl 0 rfl) ?_
  refine g_get (C := RX1) (T := TX1) (N := 7) (v := .ref (G.2.1 (b + 12))) cx hw inlX1 (b + 2) (Nat.lt_of_lt_of_le (hb.lt (j := 2) (by omega)) hN) (he_s2 hb) rfl 4 (by decide) gw_66 rfl rfl dX1_move_70 ?_
  refine lv_iload_n cx.1 cx.2.1 dX1_move_73 rfl (lv_at hl 1 rfl) ?_
  obtain ⟨v_14, S_13, hv, hf⟩ := gbi_some hf
  refine g_N (As := [.ref (G.2.1 (b + 12)), .int a1]) (rest := [.int a2, .ref (G.2.1 (b + 12))]) cx hw hS (c_X10_at l G (ia_s12 hN hb) a1 S_12 v_14 S_13 hv) gnm_28 gy_X10_at gi_X10_at ⟨Nat.le_of_ble_eq_true rfl, Nat.le_of_ble_eq_true rfl⟩ ⟨Nat.zero_le _, Nat.zero_le _⟩ rfl hl.1 rfl (Nat.le_of_ble_eq_true rfl) dX1_move_74 (fun H locs hw hS => ?_)
  refine W.eq (g2 := F0 m 77 ls [.int v_14, .int a2, .ref (G.2.1 (b + 12))]) rfl ?_
  obtain ⟨S_15, hv, hf⟩ := gbv_some hf
  refine g_N (As := [.ref (G.2.1 (b + 12)), .int a2, .int v_14]) (rest := []) cx hw hS (c_X10_put l G (ia_s12 hN hb) a2 v_14 S_13 S_15 hv) gnm_13 gy_X10_put gi_X10_put ⟨Nat.le_of_ble_eq_true rfl, Nat.le_of_ble_eq_true rfl⟩ ⟨Nat.zero_le _, Nat.zero_le _⟩ rfl hl.1 rfl (Nat.le_of_ble_eq_true rfl) dX1_move_77 (fun H locs hw hS => ?_)
  refine W.eq (g2 := F0 m 80 ls []) rfl ?_
  refine lv_aload_n cx.1 cx.2.1 dX1_move_80 rfl (lv_at hl 0 rfl) ?_
  refine g_get (C := RX1) (T := TX1) (N := 7) (v := .ref (G.2.1 (b + 13))) cx hw inlX1 (b + 2) (Nat.lt_of_lt_of_le (hb.lt (j := 2) (by omega)) hN) (he_s2 hb) rfl 5 (by decide) gw_67 rfl rfl dX1_move_81 ?_
  refine lv_iload_n cx.1 cx.2.1 dX1_move_84 rfl (lv_at hl 2 rfl) ?_
  refine lv_aload_n cx.1 cx.2.1 dX1_move_85 rfl (lv_at hl 0 rfl) ?_
  refine g_get (C := RX1) (T := TX1) (N := 7) (v := .ref (G.2.1 (b + 13))) cx hw inlX1 (b + 2) (Nat.lt_of_lt_of_le (hb.lt (j := 2) (by omega)) hN) (he_s2 hb) rfl 5 (by decide) gw_67 rfl rfl dX1_move_86 ?_
  refine lv_iload_n cx.1 cx.2.1 dX1_move_89 rfl (lv_at hl 1 rfl) ?_
  obtain ⟨v_17, S_16, hv, hf⟩ := gbi_some hf
  refine g_N (As := [.ref (G.2.1 (b + 13)), .int a1]) (rest := [.int a2, .ref (G.2.1 (b + 13))]) cx hw hS (c_X10_at l G (ia_s13 hN hb) a1 S_15 v_17 S_16 hv) gnm_28 gy_X10_at gi_X10_at ⟨Nat.le_of_ble_eq_true rfl, Nat.le_of_ble_eq_true rfl⟩ ⟨Nat.zero_le _, Nat.zero_le _⟩ rfl hl.1 rfl (Nat.le_of_ble_eq_true rfl) dX1_move_90 (fun H locs hw hS => ?_)
  refine W.eq (g2 := F0 m 93 ls [.int v_17, .int a2, .ref (G.2.1 (b + 13))]) rfl ?_
  obtain ⟨S_18, hv, hf⟩ := gbv_some hf
  refine g_N (As := [.ref (G.2.1 (b + 13)), .int a2, .int v_17]) (rest := []) cx hw hS (c_X10_put l G (ia_s13 hN hb) a2 v_17 S_16 S_18 hv) gnm_13 gy_X10_put gi_X10_put ⟨Nat.le_of_ble_eq_true rfl, Nat.le_of_ble_eq_true rfl⟩ ⟨Nat.zero_le _, Nat.zero_le _⟩ rfl hl.1 rfl (Nat.le_of_ble_eq_true rfl) dX1_move_93 (fun H locs hw hS => ?_)
  refine W.eq (g2 := F0 m 96 ls []) rfl ?_
  exact g_vreti cx hr hlk hw hS hf dX1_move_96
set_option maxHeartbeats 4000000 in
set_option maxRecDepth 100000 in
theorem c_X1_dropEnded (l : Launch) (G : gG) {b : Nat} (hb : IsSt b) (S : Sg) (S' : Sg) (hf : f_X1_dropEnded b S = some S') : Ct l yX1_dropEnded [Cond.code yX1_dropEnded cX1_dropEnded 3 none] (gR 2 44) G [.ref (G.2.1 (b + 2))] S none S' := by
  refine Ct_of (by decide) (Nat.le_of_ble_eq_true rfl) ?_
  intro p e s m below meth c ls cx hr hlk hw hS hl
  have hN := cx.2.2.2.2.hN
  have hL_4 : ∀ (n : Nat), ∀ (S : Sg) (x1 : Int32) (x2 : Int32) (H : Heap) (locs : List Loc) (ls : Array Slot), gP G S H → va_S (gA G s.heap.size) s.heap H locs → lv_has ls 3 [(0, .ref (G.2.1 (b + 2))), (1, .int x1), (2, .int x2)] → L_X1_dropEnded_4 b n S x1 x2 = some S' → W p l e (gR 2 44) s m ([.ref (G.2.1 (b + 2))] : List Value).toArray below meth c H locs 0 0 (MQ below (gQ G S' none (gA G s.heap.size)) ([.ref (G.2.1 (b + 2))] : List Value).toArray s 0 0 (gA G s.heap.size)) (F0 m 4 ls []) := by
    intro n
    induction n with
    | zero => intro S x1 x2 H locs ls hw hS hl hf; cases hf
    | succ n hK4 =>
      intro S x1 x2 H locs ls hw hS hl hf
      have hf : Lb_X1_dropEnded_4 b (L_X1_dropEnded_4 b n) S x1 x2 = some S' := hf
      unfold Lb_X1_dropEnded_4 at hf
      refine lv_iload_n cx.1 cx.2.1 dX1_dropEnded_4 rfl (lv_at hl 2 rfl) ?_
      refine lv_aload_n cx.1 cx.2.1 dX1_dropEnded_5 rfl (lv_at hl 0 rfl) ?_
      refine g_get (C := RX1) (T := TX1) (N := 7) (v := .int (S (b + 2) 6)) cx hw inlX1 (b + 2) (Nat.lt_of_lt_of_le (hb.lt (j := 2) (by omega)) hN) (he_s2 hb) rfl 6 (by decide) gw_175 rfl rfl dX1_dropEnded_6 ?_
      refine lv_icmp_ge (tgt := 38) cx.1 cx.2.1 dX1_dropEnded_9 (by decide) (fun hc => ?_) (fun hc => ?_)
      · rw [if_pos hc] at hf
        refine lv_aload_n cx.1 cx.2.1 dX1_dropEnded_38 rfl (lv_at hl 0 rfl) ?_
        refine lv_iload_n cx.1 cx.2.1 dX1_dropEnded_39 rfl (lv_at hl 1 rfl) ?_
        obtain ⟨S_1, eS_1, hf⟩ := gst_ex hf
        refine g_put (C := RX1) (T := TX1) (N := 7) cx hw hS inlX1 tyX1 tyX1_ok nmX1 (b + 2) (Nat.lt_of_lt_of_le (hb.lt (j := 2) (by omega)) hN) (he_s2 hb) rfl 6 (by decide) gw_175 rfl rfl (by decide +kernel) (Nat.le_of_ble_eq_true rfl) (by rw [u2_s, (he_s2 hb)]; rfl) dX1_dropEnded_40 (fun H locs hw hS => ?_)
        rw [eS_1] at hw
        exact g_vreti cx hr hlk hw hS hf dX1_dropEnded_43
      · rw [if_neg hc] at hf
        refine lv_aload_n cx.1 cx.2.1 dX1_dropEnded_12 rfl (lv_at hl 0 rfl) ?_
        refine g_get (C := RX1) (T := TX1) (N := 7) (v := .ref (G.2.1 (b + 11))) cx hw inlX1 (b + 2) (Nat.lt_of_lt_of_le (hb.lt (j := 2) (by omega)) hN) (he_s2 hb) rfl 3 (by decide) gw_65 rfl rfl dX1_dropEnded_13 ?_
        refine lv_iload_n cx.1 cx.2.1 dX1_dropEnded_16 rfl (lv_at hl 2 rfl) ?_
        obtain ⟨v_3, S_2, hv, hf⟩ := gbi_some hf
        refine g_N (As := [.ref (G.2.1 (b + 11)), .int x2]) (rest := []) cx hw hS (c_X10_at l G (ia_s11 hN hb) x2 S v_3 S_2 hv) gnm_28 gy_X10_at gi_X10_at ⟨Nat.le_of_ble_eq_true rfl, Nat.le_of_ble_eq_true rfl⟩ ⟨Nat.zero_le _, Nat.zero_le _⟩ rfl hl.1 rfl (Nat.le_of_ble_eq_true rfl) dX1_dropEnded_17 (fun H locs hw hS => ?_)
        refine W.eq (g2 := F0 m 20 ls [.int v_3]) rfl ?_
        refine lv_if_le (tgt := 32) cx.1 cx.2.1 dX1_dropEnded_20 (by decide) (fun hc => ?_) (fun hc => ?_)
        · rw [if_pos hc] at hf
          obtain ⟨x2_4, ex2_4, hf⟩ := gvi_ex hf
          refine lv_iinc (v := x2_4) (lv' := [(2, .int x2_4), (0, .ref (G.2.1 (b + 2))), (1, .int x1)]) cx.1 cx.2.1 dX1_dropEnded_32 hl (k := 2) rfl (by rw [← ex2_4]; rfl) (by decide) rfl (fun ls hl => ?_)
          refine lv_goto (tgt := 4) cx.1 cx.2.1 dX1_dropEnded_35 (by decide) ?_
          exact hK4 S_2 x1 x2_4 _ _ _ hw hS (lv_sub hl [1, 2, 0] rfl) hf
        · rw [if_neg hc] at hf
          refine lv_aload_n cx.1 cx.2.1 dX1_dropEnded_23 rfl (lv_at hl 0 rfl) ?_
          refine lv_iload_n cx.1 cx.2.1 dX1_dropEnded_24 rfl (lv_at hl 2 rfl) ?_
          refine lv_iload_n cx.1 cx.2.1 dX1_dropEnded_25 rfl (lv_at hl 1 rfl) ?_
          obtain ⟨S_5, hv, hf⟩ := gbv_some hf
          refine g_V (As := [.int x2, .int x1]) (rest := []) cx hw hS (c_X1_move l G hb x2 x1 S_2 S_5 hv) (Nat.lt_of_lt_of_le (hb.lt (j := 2) (by omega)) hN) (he_s2 hb) rfl rfl gw_639 gy_X1_move gi_X1_move ⟨Nat.le_of_ble_eq_true rfl, Nat.le_of_ble_eq_true rfl⟩ ⟨Nat.zero_le _, Nat.zero_le _⟩ rfl hl.1 rfl (Nat.le_of_ble_eq_true rfl) dX1_dropEnded_26 (fun H locs hw hS => ?_)
          refine W.eq (g2 := F0 m 29 ls []) rfl ?_
          obtain ⟨x1_6, ex1_6, hf⟩ := gvi_ex hf
          refine lv_iinc (v := x1_6) (lv' := [(1, .int x1_6), (0, .ref (G.2.1 (b + 2))), (2, .int x2)]) cx.1 cx.2.1 dX1_dropEnded_29 hl (k := 1) rfl (by rw [← ex1_6]; rfl) (by decide) rfl (fun ls hl => ?_)
          obtain ⟨x2_7, ex2_7, hf⟩ := gvi_ex hf
          refine lv_iinc (v := x2_7) (lv' := [(2, .int x2_7), (1, .int x1_6), (0, .ref (G.2.1 (b + 2)))]) cx.1 cx.2.1 dX1_dropEnded_32 hl (k := 2) rfl (by rw [← ex2_7]; rfl) (by decide) rfl (fun ls hl => ?_)
          refine lv_goto (tgt := 4) cx.1 cx.2.1 dX1_dropEnded_35 (by decide) ?_
          exact hK4 S_5 x1_6 x2_7 _ _ _ hw hS (lv_sub hl [2, 1, 0] rfl) hf
  have hl : lv_has ls 3 [(0, .ref (G.2.1 (b + 2)))] := hl
  unfold f_X1_dropEnded at hf
  refine lv_iconst (v := (0 : Int32)) cx.1 cx.2.1 dX1_dropEnded_0 (by decide) ?_
  refine lv_istore_n (lv' := [(1, .int (0 : Int32)), (0, .ref (G.2.1 (b + 2)))]) cx.1 cx.2.1 dX1_dropEnded_1 rfl hl (by decide) rfl (fun ls hl => ?_)
  refine lv_iconst (v := (0 : Int32)) cx.1 cx.2.1 dX1_dropEnded_2 (by decide) ?_
  refine lv_istore_n (lv' := [(2, .int (0 : Int32)), (1, .int (0 : Int32)), (0, .ref (G.2.1 (b + 2)))]) cx.1 cx.2.1 dX1_dropEnded_3 rfl hl (by decide) rfl (fun ls hl => ?_)
  exact hL_4 gFu S (0 : Int32) (0 : Int32) _ _ _ hw hS (lv_sub hl [2, 1, 0] rfl) hf
set_option maxHeartbeats 4000000 in
set_option maxRecDepth 100000 in
theorem c_X7_serveContracts (l : Launch) (G : gG) {b : Nat} (hb : IsSt b) (S : Sg) (S' : Sg) (hf : f_X7_serveContracts b S = some S') : Ct l yX7_serveContracts [Cond.code yX7_serveContracts cX7_serveContracts 2 none] (gR 3 66) G [.ref (G.2.1 b)] S none S' := by
  refine Ct_of (by decide) (Nat.le_of_ble_eq_true rfl) ?_
  intro p e s m below meth c ls cx hr hlk hw hS hl
  have hN := cx.2.2.2.2.hN
  have hB_65 : ∀ (K2 : Sg → Int32 → Option Sg) (hK2 : ∀ (S : Sg) (x1 : Int32) (H : Heap) (locs : List Loc) (ls : Array Slot), gP G S H → va_S (gA G s.heap.size) s.heap H locs → lv_has ls 2 [(0, .ref (G.2.1 b)), (1, .int x1)] → K2 S x1 = some S' → W p l e (gR 3 66) s m ([.ref (G.2.1 b)] : List Value).toArray below meth c H locs 0 0 (MQ below (gQ G S' none (gA G s.heap.size)) ([.ref (G.2.1 b)] : List Value).toArray s 0 0 (gA G s.heap.size)) (F0 m 2 ls [])), ∀ (S : Sg) (x1 : Int32) (H : Heap) (locs : List Loc) (ls : Array Slot), gP G S H → va_S (gA G s.heap.size) s.heap H locs → lv_has ls 2 [(0, .ref (G.2.1 b)), (1, .int x1)] → B_X7_serveContracts_65 b K2 S x1 = some S' → W p l e (gR 3 66) s m ([.ref (G.2.1 b)] : List Value).toArray below meth c H locs 0 0 (MQ below (gQ G S' none (gA G s.heap.size)) ([.ref (G.2.1 b)] : List Value).toArray s 0 0 (gA G s.heap.size)) (F0 m 65 ls []) := by
    intro K2 hK2 S x1 H locs ls hw hS hl hf
    unfold B_X7_serveContracts_65 at hf
    refine lv_aload_n cx.1 cx.2.1 dX7_serveContracts_65 rfl (lv_at hl 0 rfl) ?_
    refine g_get (C := RX7) (T := TX7) (N := 9) (v := .ref (G.2.1 (b + 2))) cx hw inlX7 b (Nat.lt_of_lt_of_le hb.lt0 hN) (he_s0 hb) rfl 1 (by decide) gw_47 rfl rfl dX7_serveContracts_66 ?_
    refine g_get (C := RX1) (T := TX1) (N := 7) (v := .ref (G.2.1 (b + 11))) cx hw inlX1 (b + 2) (Nat.lt_of_lt_of_le (hb.lt (j := 2) (by omega)) hN) (he_s2 hb) rfl 3 (by decide) gw_632 rfl rfl dX7_serveContracts_69 ?_
    refine lv_iload_n cx.1 cx.2.1 dX7_serveContracts_72 rfl (lv_at hl 1 rfl) ?_
    refine lv_aload_n cx.1 cx.2.1 dX7_serveContracts_73 rfl (lv_at hl 0 rfl) ?_
    refine g_get (C := RX7) (T := TX7) (N := 9) (v := .ref (G.2.1 (b + 2))) cx hw inlX7 b (Nat.lt_of_lt_of_le hb.lt0 hN) (he_s0 hb) rfl 1 (by decide) gw_47 rfl rfl dX7_serveContracts_74 ?_
    refine g_get (C := RX1) (T := TX1) (N := 7) (v := .ref (G.2.1 (b + 11))) cx hw inlX1 (b + 2) (Nat.lt_of_lt_of_le (hb.lt (j := 2) (by omega)) hN) (he_s2 hb) rfl 3 (by decide) gw_632 rfl rfl dX7_serveContracts_77 ?_
    refine lv_iload_n cx.1 cx.2.1 dX7_serveContracts_80 rfl (lv_at hl 1 rfl) ?_
    obtain ⟨v_2, S_1, hv, hf⟩ := gbi_some hf
    refine g_N (As := [.ref (G.2.1 (b + 11)), .int x1]) (rest := [.int x1, .ref (G.2.1 (b + 11))]) cx hw hS (c_X10_at l G (ia_s11 hN hb) x1 S v_2 S_1 hv) gnm_30 gy_X10_at gi_X10_at ⟨Nat.le_of_ble_eq_true rfl, Nat.le_of_ble_eq_true rfl⟩ ⟨Nat.zero_le _, Nat.zero_le _⟩ rfl hl.1 rfl (Nat.le_of_ble_eq_true rfl) dX7_serveContracts_81 (fun H locs hw hS => ?_)
    refine W.eq (g2 := F0 m 84 ls [.int v_2, .int x1, .ref (G.2.1 (b + 11))]) rfl ?_
    refine lv_iconst (v := (1 : Int32)) cx.1 cx.2.1 dX7_serveContracts_84 (by decide) ?_
    refine lv_isub cx.1 cx.2.1 dX7_serveContracts_85 ?_
    obtain ⟨S_3, hv, hf⟩ := gbv_some hf
    refine g_N (As := [.ref (G.2.1 (b + 11)), .int x1, .int (v_2 - (1 : Int32))]) (rest := []) cx hw hS (c_X10_put l G (ia_s11 hN hb) x1 (v_2 - (1 : Int32)) S_1 S_3 hv) gnm_31 gy_X10_put gi_X10_put ⟨Nat.le_of_ble_eq_true rfl, Nat.le_of_ble_eq_true rfl⟩ ⟨Nat.zero_le _, Nat.zero_le _⟩ rfl hl.1 rfl (Nat.le_of_ble_eq_true rfl) dX7_serveContracts_86 (fun H locs hw hS => ?_)
    refine W.eq (g2 := F0 m 89 ls []) rfl ?_
    obtain ⟨x1_4, ex1_4, hf⟩ := gvi_ex hf
    refine lv_iinc (v := x1_4) (lv' := [(1, .int x1_4), (0, .ref (G.2.1 b))]) cx.1 cx.2.1 dX7_serveContracts_89 hl (k := 1) rfl (by rw [← ex1_4]; rfl) (by decide) rfl (fun ls hl => ?_)
    refine lv_goto (tgt := 2) cx.1 cx.2.1 dX7_serveContracts_92 (by decide) ?_
    exact hK2 S_3 x1_4 _ _ _ hw hS (lv_sub hl [1, 0] rfl) hf
  have hL_2 : ∀ (n : Nat), ∀ (S : Sg) (x1 : Int32) (H : Heap) (locs : List Loc) (ls : Array Slot), gP G S H → va_S (gA G s.heap.size) s.heap H locs → lv_has ls 2 [(0, .ref (G.2.1 b)), (1, .int x1)] → L_X7_serveContracts_2 b n S x1 = some S' → W p l e (gR 3 66) s m ([.ref (G.2.1 b)] : List Value).toArray below meth c H locs 0 0 (MQ below (gQ G S' none (gA G s.heap.size)) ([.ref (G.2.1 b)] : List Value).toArray s 0 0 (gA G s.heap.size)) (F0 m 2 ls []) := by
    intro n
    induction n with
    | zero => intro S x1 H locs ls hw hS hl hf; cases hf
    | succ n hK2 =>
      intro S x1 H locs ls hw hS hl hf
      have hf : Lb_X7_serveContracts_2 b (L_X7_serveContracts_2 b n) S x1 = some S' := hf
      unfold Lb_X7_serveContracts_2 at hf
      refine lv_iload_n cx.1 cx.2.1 dX7_serveContracts_2 rfl (lv_at hl 1 rfl) ?_
      refine lv_aload_n cx.1 cx.2.1 dX7_serveContracts_3 rfl (lv_at hl 0 rfl) ?_
      refine g_get (C := RX7) (T := TX7) (N := 9) (v := .ref (G.2.1 (b + 2))) cx hw inlX7 b (Nat.lt_of_lt_of_le hb.lt0 hN) (he_s0 hb) rfl 1 (by decide) gw_47 rfl rfl dX7_serveContracts_4 ?_
      refine g_get (C := RX1) (T := TX1) (N := 7) (v := .int (S (b + 2) 6)) cx hw inlX1 (b + 2) (Nat.lt_of_lt_of_le (hb.lt (j := 2) (by omega)) hN) (he_s2 hb) rfl 6 (by decide) gw_110 rfl rfl dX7_serveContracts_7 ?_
      refine lv_icmp_ge (tgt := 95) cx.1 cx.2.1 dX7_serveContracts_10 (by decide) (fun hc => ?_) (fun hc => ?_)
      · rw [if_pos hc] at hf
        refine lv_aload_n cx.1 cx.2.1 dX7_serveContracts_95 rfl (lv_at hl 0 rfl) ?_
        refine g_get (C := RX7) (T := TX7) (N := 9) (v := .ref (G.2.1 (b + 2))) cx hw inlX7 b (Nat.lt_of_lt_of_le hb.lt0 hN) (he_s0 hb) rfl 1 (by decide) gw_47 rfl rfl dX7_serveContracts_96 ?_
        obtain ⟨S_5, hv, hf⟩ := gbv_some hf
        refine g_V (As := []) (rest := []) cx hw hS (c_X1_dropEnded l G hb S S_5 hv) (Nat.lt_of_lt_of_le (hb.lt (j := 2) (by omega)) hN) (he_s2 hb) rfl rfl gw_635 gy_X1_dropEnded gi_X1_dropEnded ⟨Nat.le_of_ble_eq_true rfl, Nat.le_of_ble_eq_true rfl⟩ ⟨Nat.zero_le _, Nat.zero_le _⟩ rfl hl.1 rfl (Nat.le_of_ble_eq_true rfl) dX7_serveContracts_99 (fun H locs hw hS => ?_)
        refine W.eq (g2 := F0 m 102 ls []) rfl ?_
        exact g_vreti cx hr hlk hw hS hf dX7_serveContracts_102
      · rw [if_neg hc] at hf
        refine lv_aload_n cx.1 cx.2.1 dX7_serveContracts_13 rfl (lv_at hl 0 rfl) ?_
        refine g_get (C := RX7) (T := TX7) (N := 9) (v := .ref (G.2.1 (b + 2))) cx hw inlX7 b (Nat.lt_of_lt_of_le hb.lt0 hN) (he_s0 hb) rfl 1 (by decide) gw_47 rfl rfl dX7_serveContracts_14 ?_
        refine lv_iload_n cx.1 cx.2.1 dX7_serveContracts_17 rfl (lv_at hl 1 rfl) ?_
        obtain ⟨v_7, S_6, hv, hf⟩ := gbi_some hf
        refine g_V (As := [.int x1]) (rest := []) cx hw hS (c_X1_isFree l G hb x1 S v_7 S_6 hv) (Nat.lt_of_lt_of_le (hb.lt (j := 2) (by omega)) hN) (he_s2 hb) rfl rfl gw_633 gy_X1_isFree gi_X1_isFree ⟨Nat.le_of_ble_eq_true rfl, Nat.le_of_ble_eq_true rfl⟩ ⟨Nat.zero_le _, Nat.zero_le _⟩ rfl hl.1 rfl (Nat.le_of_ble_eq_true rfl) dX7_serveContracts_18 (fun H locs hw hS => ?_)
        refine W.eq (g2 := F0 m 21 ls [.int v_7]) rfl ?_
        refine lv_if_ne (tgt := 89) cx.1 cx.2.1 dX7_serveContracts_21 (by decide) (fun hc => ?_) (fun hc => ?_)
        · rw [if_neg hc] at hf
          obtain ⟨x1_8, ex1_8, hf⟩ := gvi_ex hf
          refine lv_iinc (v := x1_8) (lv' := [(1, .int x1_8), (0, .ref (G.2.1 b))]) cx.1 cx.2.1 dX7_serveContracts_89 hl (k := 1) rfl (by rw [← ex1_8]; rfl) (by decide) rfl (fun ls hl => ?_)
          refine lv_goto (tgt := 2) cx.1 cx.2.1 dX7_serveContracts_92 (by decide) ?_
          exact hK2 S_6 x1_8 _ _ _ hw hS (lv_sub hl [1, 0] rfl) hf
        · rw [if_pos hc] at hf
          refine lv_aload_n cx.1 cx.2.1 dX7_serveContracts_24 rfl (lv_at hl 0 rfl) ?_
          refine g_get (C := RX7) (T := TX7) (N := 9) (v := .ref (G.2.1 (b + 2))) cx hw inlX7 b (Nat.lt_of_lt_of_le hb.lt0 hN) (he_s0 hb) rfl 1 (by decide) gw_47 rfl rfl dX7_serveContracts_25 ?_
          refine g_get (C := RX1) (T := TX1) (N := 7) (v := .ref (G.2.1 (b + 13))) cx hw inlX1 (b + 2) (Nat.lt_of_lt_of_le (hb.lt (j := 2) (by omega)) hN) (he_s2 hb) rfl 5 (by decide) gw_626 rfl rfl dX7_serveContracts_28 ?_
          refine lv_iload_n cx.1 cx.2.1 dX7_serveContracts_31 rfl (lv_at hl 1 rfl) ?_
          obtain ⟨v_10, S_9, hv, hf⟩ := gbi_some hf
          refine g_N (As := [.ref (G.2.1 (b + 13)), .int x1]) (rest := []) cx hw hS (c_X10_at l G (ia_s13 hN hb) x1 S_6 v_10 S_9 hv) gnm_30 gy_X10_at gi_X10_at ⟨Nat.le_of_ble_eq_true rfl, Nat.le_of_ble_eq_true rfl⟩ ⟨Nat.zero_le _, Nat.zero_le _⟩ rfl hl.1 rfl (Nat.le_of_ble_eq_true rfl) dX7_serveContracts_32 (fun H locs hw hS => ?_)
          refine W.eq (g2 := F0 m 35 ls [.int v_10]) rfl ?_
          refine lv_if_ne (tgt := 65) cx.1 cx.2.1 dX7_serveContracts_35 (by decide) (fun hc => ?_) (fun hc => ?_)
          · rw [if_neg hc] at hf
            exact hB_65 (L_X7_serveContracts_2 b n) hK2 S_9 x1 _ _ _ hw hS (lv_sub hl [0, 1] rfl) hf
          · rw [if_pos hc] at hf
            refine lv_aload_n cx.1 cx.2.1 dX7_serveContracts_38 rfl (lv_at hl 0 rfl) ?_
            refine g_get (C := RX7) (T := TX7) (N := 9) (v := .ref (G.2.1 (b + 3))) cx hw inlX7 b (Nat.lt_of_lt_of_le hb.lt0 hN) (he_s0 hb) rfl 2 (by decide) gw_51 rfl rfl dX7_serveContracts_39 ?_
            refine lv_aload_n cx.1 cx.2.1 dX7_serveContracts_42 rfl (lv_at hl 0 rfl) ?_
            refine g_get (C := RX7) (T := TX7) (N := 9) (v := .ref (G.2.1 (b + 2))) cx hw inlX7 b (Nat.lt_of_lt_of_le hb.lt0 hN) (he_s0 hb) rfl 1 (by decide) gw_47 rfl rfl dX7_serveContracts_43 ?_
            refine lv_iload_n cx.1 cx.2.1 dX7_serveContracts_46 rfl (lv_at hl 1 rfl) ?_
            obtain ⟨v_12, S_11, hv, hf⟩ := gbi_some hf
            refine g_V (As := [.int x1]) (rest := [.ref (G.2.1 (b + 3))]) cx hw hS (c_X1_holderOf l G hb x1 S_9 v_12 S_11 hv) (Nat.lt_of_lt_of_le (hb.lt (j := 2) (by omega)) hN) (he_s2 hb) rfl rfl gw_634 gy_X1_holderOf gi_X1_holderOf ⟨Nat.le_of_ble_eq_true rfl, Nat.le_of_ble_eq_true rfl⟩ ⟨Nat.zero_le _, Nat.zero_le _⟩ rfl hl.1 rfl (Nat.le_of_ble_eq_true rfl) dX7_serveContracts_47 (fun H locs hw hS => ?_)
            refine W.eq (g2 := F0 m 50 ls [.int v_12, .ref (G.2.1 (b + 3))]) rfl ?_
            refine lv_iconst (v := (4 : Int32)) cx.1 cx.2.1 dX7_serveContracts_50 (by decide) ?_
            refine lv_iconst (v := (5 : Int32)) cx.1 cx.2.1 dX7_serveContracts_51 (by decide) ?_
            obtain ⟨S_13, hv, hf⟩ := gbv_some hf
            refine g_V (As := [.int v_12, .int (4 : Int32), .int (5 : Int32)]) (rest := []) cx hw hS (c_X0_transfer l G hb v_12 (4 : Int32) (5 : Int32) S_11 S_13 hv) (Nat.lt_of_lt_of_le (hb.lt (j := 3) (by omega)) hN) (he_s3 hb) rfl rfl gw_464 gy_X0_transfer gi_X0_transfer ⟨Nat.le_of_ble_eq_true rfl, Nat.le_of_ble_eq_true rfl⟩ ⟨Nat.zero_le _, Nat.zero_le _⟩ rfl hl.1 rfl (Nat.le_of_ble_eq_true rfl) dX7_serveContracts_52 (fun H locs hw hS => ?_)
            refine W.eq (g2 := F0 m 55 ls []) rfl ?_
            refine lv_aload_n cx.1 cx.2.1 dX7_serveContracts_55 rfl (lv_at hl 0 rfl) ?_
            refine lv_dup cx.1 cx.2.1 dX7_serveContracts_56 rfl ?_
            refine g_get (C := RX7) (T := TX7) (N := 9) (v := .int (S_13 b 7)) cx hw inlX7 b (Nat.lt_of_lt_of_le hb.lt0 hN) (he_s0 hb) rfl 7 (by decide) gw_115 rfl rfl dX7_serveContracts_57 ?_
            refine lv_iconst (v := (5 : Int32)) cx.1 cx.2.1 dX7_serveContracts_60 (by decide) ?_
            refine lv_iadd cx.1 cx.2.1 dX7_serveContracts_61 ?_
            obtain ⟨S_14, eS_14, hf⟩ := gst_ex hf
            refine g_put (C := RX7) (T := TX7) (N := 9) cx hw hS inlX7 tyX7 tyX7_ok nmX7 b (Nat.lt_of_lt_of_le hb.lt0 hN) (he_s0 hb) rfl 7 (by decide) gw_115 rfl rfl (by decide +kernel) (Nat.le_of_ble_eq_true rfl) (by rw [u2_s, (he_s0 hb)]; rfl) dX7_serveContracts_62 (fun H locs hw hS => ?_)
            rw [eS_14] at hw
            exact hB_65 (L_X7_serveContracts_2 b n) hK2 S_14 x1 _ _ _ hw hS (lv_sub hl [0, 1] rfl) hf
  have hl : lv_has ls 2 [(0, .ref (G.2.1 b))] := hl
  unfold f_X7_serveContracts at hf
  refine lv_iconst (v := (0 : Int32)) cx.1 cx.2.1 dX7_serveContracts_0 (by decide) ?_
  refine lv_istore_n (lv' := [(1, .int (0 : Int32)), (0, .ref (G.2.1 b))]) cx.1 cx.2.1 dX7_serveContracts_1 rfl hl (by decide) rfl (fun ls hl => ?_)
  exact hL_2 gFu S (0 : Int32) _ _ _ hw hS (lv_sub hl [1, 0] rfl) hf
set_option maxHeartbeats 4000000 in
set_option maxRecDepth 100000 in
theorem c_X8_countOf (l : Launch) (G : gG) {b : Nat} (hb : IsSt b) (a1 : Int32) (S : Sg) (r : Int32) (S' : Sg) (hf : f_X8_countOf b a1 S = some (r, S')) : Ct l yX8_countOf [Cond.code yX8_countOf cX8_countOf 4 (some .int)] (gR 1 21) G [.ref (G.2.1 (b + 1)), .int a1] S (some (.int r)) S' := by
  refine Ct_of (by decide) (Nat.le_of_ble_eq_true rfl) ?_
  intro p e s m below meth c ls cx hr hlk hw hS hl
  have hN := cx.2.2.2.2.hN
  have hL_4 : ∀ (n : Nat), ∀ (S : Sg) (x1 : Int32) (x2 : Int32) (x3 : Int32) (H : Heap) (locs : List Loc) (ls : Array Slot), gP G S H → va_S (gA G s.heap.size) s.heap H locs → lv_has ls 4 [(0, .ref (G.2.1 (b + 1))), (1, .int x1), (2, .int x2), (3, .int x3)] → L_X8_countOf_4 b n S x1 x2 x3 = some (r, S') → W p l e (gR 1 21) s m ([.ref (G.2.1 (b + 1)), .int a1] : List Value).toArray below meth c H locs 0 0 (MQ below (gQ G S' (some (.int r)) (gA G s.heap.size)) ([.ref (G.2.1 (b + 1)), .int a1] : List Value).toArray s 0 0 (gA G s.heap.size)) (F0 m 4 ls []) := by
    intro n
    induction n with
    | zero => intro S x1 x2 x3 H locs ls hw hS hl hf; cases hf
    | succ n hK4 =>
      intro S x1 x2 x3 H locs ls hw hS hl hf
      have hf : Lb_X8_countOf_4 b (L_X8_countOf_4 b n) S x1 x2 x3 = some (r, S') := hf
      unfold Lb_X8_countOf_4 at hf
      refine lv_iload_n cx.1 cx.2.1 dX8_countOf_4 rfl (lv_at hl 3 rfl) ?_
      refine lv_aload_n cx.1 cx.2.1 dX8_countOf_5 rfl (lv_at hl 0 rfl) ?_
      refine g_get (C := RX8) (T := TX8) (N := 5) (v := .int (S (b + 1) 4)) cx hw inlX8 (b + 1) (Nat.lt_of_lt_of_le (hb.lt (j := 1) (by omega)) hN) (he_s1 hb) rfl 4 (by decide) gw_129 rfl rfl dX8_countOf_6 ?_
      refine lv_icmp_ge (tgt := 38) cx.1 cx.2.1 dX8_countOf_9 (by decide) (fun hc => ?_) (fun hc => ?_)
      · rw [if_pos hc] at hf
        refine lv_iload_n cx.1 cx.2.1 dX8_countOf_38 rfl (lv_at hl 2 rfl) ?_
        exact g_ireti cx hr hlk hw hS hf dX8_countOf_39
      · rw [if_neg hc] at hf
        refine lv_iload_n cx.1 cx.2.1 dX8_countOf_12 rfl (lv_at hl 2 rfl) ?_
        refine lv_aload_n cx.1 cx.2.1 dX8_countOf_13 rfl (lv_at hl 0 rfl) ?_
        refine g_get (C := RX8) (T := TX8) (N := 5) (v := .ref (G.2.1 (b + 7))) cx hw inlX8 (b + 1) (Nat.lt_of_lt_of_le (hb.lt (j := 1) (by omega)) hN) (he_s1 hb) rfl 3 (by decide) gw_58 rfl rfl dX8_countOf_14 ?_
        refine lv_iload_n cx.1 cx.2.1 dX8_countOf_17 rfl (lv_at hl 3 rfl) ?_
        obtain ⟨v_2, S_1, hv, hf⟩ := gbi_some hf
        refine g_N (As := [.ref (G.2.1 (b + 7)), .int x3]) (rest := [.int x2]) cx hw hS (c_X10_at l G (ia_s7 hN hb) x3 S v_2 S_1 hv) gnm_25 gy_X10_at gi_X10_at ⟨Nat.le_of_ble_eq_true rfl, Nat.le_of_ble_eq_true rfl⟩ ⟨Nat.zero_le _, Nat.zero_le _⟩ rfl hl.1 rfl (Nat.le_of_ble_eq_true rfl) dX8_countOf_18 (fun H locs hw hS => ?_)
        refine W.eq (g2 := F0 m 21 ls [.int v_2, .int x2]) rfl ?_
        refine lv_iload_n cx.1 cx.2.1 dX8_countOf_21 rfl (lv_at hl 1 rfl) ?_
        refine lv_icmp_ne (tgt := 29) cx.1 cx.2.1 dX8_countOf_22 (by decide) (fun hc => ?_) (fun hc => ?_)
        · rw [if_neg hc] at hf
          refine lv_iconst (v := (0 : Int32)) cx.1 cx.2.1 dX8_countOf_29 (by decide) ?_
          refine lv_iadd cx.1 cx.2.1 dX8_countOf_30 ?_
          obtain ⟨x2_3, ex2_3, hf⟩ := gvi_ex hf
          refine W.eq (g2 := F0 m 31 ls [.int x2_3]) (by rw [← ex2_3]) ?_
          refine lv_istore_n (lv' := [(2, .int x2_3), (0, .ref (G.2.1 (b + 1))), (1, .int x1), (3, .int x3)]) cx.1 cx.2.1 dX8_countOf_31 rfl hl (by decide) rfl (fun ls hl => ?_)
          obtain ⟨x3_4, ex3_4, hf⟩ := gvi_ex hf
          refine lv_iinc (v := x3_4) (lv' := [(3, .int x3_4), (2, .int x2_3), (0, .ref (G.2.1 (b + 1))), (1, .int x1)]) cx.1 cx.2.1 dX8_countOf_32 hl (k := 3) rfl (by rw [← ex3_4]; rfl) (by decide) rfl (fun ls hl => ?_)
          refine lv_goto (tgt := 4) cx.1 cx.2.1 dX8_countOf_35 (by decide) ?_
          exact hK4 S_1 x1 x2_3 x3_4 _ _ _ hw hS (lv_sub hl [2, 3, 1, 0] rfl) hf
        · rw [if_pos hc] at hf
          refine lv_iconst (v := (1 : Int32)) cx.1 cx.2.1 dX8_countOf_25 (by decide) ?_
          refine lv_goto (tgt := 30) cx.1 cx.2.1 dX8_countOf_26 (by decide) ?_
          refine lv_iadd cx.1 cx.2.1 dX8_countOf_30 ?_
          obtain ⟨x2_5, ex2_5, hf⟩ := gvi_ex hf
          refine W.eq (g2 := F0 m 31 ls [.int x2_5]) (by rw [← ex2_5]) ?_
          refine lv_istore_n (lv' := [(2, .int x2_5), (0, .ref (G.2.1 (b + 1))), (1, .int x1), (3, .int x3)]) cx.1 cx.2.1 dX8_countOf_31 rfl hl (by decide) rfl (fun ls hl => ?_)
          obtain ⟨x3_6, ex3_6, hf⟩ := gvi_ex hf
          refine lv_iinc (v := x3_6) (lv' := [(3, .int x3_6), (2, .int x2_5), (0, .ref (G.2.1 (b + 1))), (1, .int x1)]) cx.1 cx.2.1 dX8_countOf_32 hl (k := 3) rfl (by rw [← ex3_6]; rfl) (by decide) rfl (fun ls hl => ?_)
          refine lv_goto (tgt := 4) cx.1 cx.2.1 dX8_countOf_35 (by decide) ?_
          exact hK4 S_1 x1 x2_5 x3_6 _ _ _ hw hS (lv_sub hl [2, 3, 1, 0] rfl) hf
  have hl : lv_has ls 4 [(0, .ref (G.2.1 (b + 1))), (1, .int a1)] := hl
  unfold f_X8_countOf at hf
  refine lv_iconst (v := (0 : Int32)) cx.1 cx.2.1 dX8_countOf_0 (by decide) ?_
  refine lv_istore_n (lv' := [(2, .int (0 : Int32)), (0, .ref (G.2.1 (b + 1))), (1, .int a1)]) cx.1 cx.2.1 dX8_countOf_1 rfl hl (by decide) rfl (fun ls hl => ?_)
  refine lv_iconst (v := (0 : Int32)) cx.1 cx.2.1 dX8_countOf_2 (by decide) ?_
  refine lv_istore_n (lv' := [(3, .int (0 : Int32)), (2, .int (0 : Int32)), (0, .ref (G.2.1 (b + 1))), (1, .int a1)]) cx.1 cx.2.1 dX8_countOf_3 rfl hl (by decide) rfl (fun ls hl => ?_)
  exact hL_4 gFu S a1 (0 : Int32) (0 : Int32) _ _ _ hw hS (lv_sub hl [2, 3, 1, 0] rfl) hf
set_option maxHeartbeats 4000000 in
set_option maxRecDepth 100000 in
theorem c_X7_payUpkeep (l : Launch) (G : gG) {b : Nat} (hb : IsSt b) (S : Sg) (S' : Sg) (hf : f_X7_payUpkeep b S = some S') : Ct l yX7_payUpkeep [Cond.code yX7_payUpkeep cX7_payUpkeep 2 none] (gR 2 45) G [.ref (G.2.1 b)] S none S' := by
  refine Ct_of (by decide) (Nat.le_of_ble_eq_true rfl) ?_
  intro p e s m below meth c ls cx hr hlk hw hS hl
  have hN := cx.2.2.2.2.hN
  have hL_2 : ∀ (n : Nat), ∀ (S : Sg) (x1 : Int32) (H : Heap) (locs : List Loc) (ls : Array Slot), gP G S H → va_S (gA G s.heap.size) s.heap H locs → lv_has ls 2 [(0, .ref (G.2.1 b)), (1, .int x1)] → L_X7_payUpkeep_2 b n S x1 = some S' → W p l e (gR 2 45) s m ([.ref (G.2.1 b)] : List Value).toArray below meth c H locs 0 0 (MQ below (gQ G S' none (gA G s.heap.size)) ([.ref (G.2.1 b)] : List Value).toArray s 0 0 (gA G s.heap.size)) (F0 m 2 ls []) := by
    intro n
    induction n with
    | zero => intro S x1 H locs ls hw hS hl hf; cases hf
    | succ n hK2 =>
      intro S x1 H locs ls hw hS hl hf
      have hf : Lb_X7_payUpkeep_2 b (L_X7_payUpkeep_2 b n) S x1 = some S' := hf
      unfold Lb_X7_payUpkeep_2 at hf
      refine lv_iload_n cx.1 cx.2.1 dX7_payUpkeep_2 rfl (lv_at hl 1 rfl) ?_
      refine lv_iconst (v := (4 : Int32)) cx.1 cx.2.1 dX7_payUpkeep_3 (by decide) ?_
      refine lv_icmp_ge (tgt := 39) cx.1 cx.2.1 dX7_payUpkeep_4 (by decide) (fun hc => ?_) (fun hc => ?_)
      · rw [if_pos hc] at hf
        exact g_vreti cx hr hlk hw hS hf dX7_payUpkeep_39
      · rw [if_neg hc] at hf
        refine lv_aload_n cx.1 cx.2.1 dX7_payUpkeep_7 rfl (lv_at hl 0 rfl) ?_
        refine g_get (C := RX7) (T := TX7) (N := 9) (v := .ref (G.2.1 (b + 3))) cx hw inlX7 b (Nat.lt_of_lt_of_le hb.lt0 hN) (he_s0 hb) rfl 2 (by decide) gw_51 rfl rfl dX7_payUpkeep_8 ?_
        refine lv_iload_n cx.1 cx.2.1 dX7_payUpkeep_11 rfl (lv_at hl 1 rfl) ?_
        refine lv_iconst (v := (4 : Int32)) cx.1 cx.2.1 dX7_payUpkeep_12 (by decide) ?_
        refine lv_aload_n cx.1 cx.2.1 dX7_payUpkeep_13 rfl (lv_at hl 0 rfl) ?_
        refine g_get (C := RX7) (T := TX7) (N := 9) (v := .ref (G.2.1 (b + 1))) cx hw inlX7 b (Nat.lt_of_lt_of_le hb.lt0 hN) (he_s0 hb) rfl 0 (by decide) gw_43 rfl rfl dX7_payUpkeep_14 ?_
        refine lv_iload_n cx.1 cx.2.1 dX7_payUpkeep_17 rfl (lv_at hl 1 rfl) ?_
        obtain ⟨v_2, S_1, hv, hf⟩ := gbi_some hf
        refine g_V (As := [.int x1]) (rest := [.int (4 : Int32), .int x1, .ref (G.2.1 (b + 3))]) cx hw hS (c_X8_countOf l G hb x1 S v_2 S_1 hv) (Nat.lt_of_lt_of_le (hb.lt (j := 1) (by omega)) hN) (he_s1 hb) rfl rfl gw_647 gy_X8_countOf gi_X8_countOf ⟨Nat.le_of_ble_eq_true rfl, Nat.le_of_ble_eq_true rfl⟩ ⟨Nat.zero_le _, Nat.zero_le _⟩ rfl hl.1 rfl (Nat.le_of_ble_eq_true rfl) dX7_payUpkeep_18 (fun H locs hw hS => ?_)
        refine W.eq (g2 := F0 m 21 ls [.int v_2, .int (4 : Int32), .int x1, .ref (G.2.1 (b + 3))]) rfl ?_
        refine lv_aload_n cx.1 cx.2.1 dX7_payUpkeep_21 rfl (lv_at hl 0 rfl) ?_
        refine g_get (C := RX7) (T := TX7) (N := 9) (v := .ref (G.2.1 (b + 3))) cx hw inlX7 b (Nat.lt_of_lt_of_le hb.lt0 hN) (he_s0 hb) rfl 2 (by decide) gw_51 rfl rfl dX7_payUpkeep_22 ?_
        refine lv_iload_n cx.1 cx.2.1 dX7_payUpkeep_25 rfl (lv_at hl 1 rfl) ?_
        obtain ⟨v_4, S_3, hv, hf⟩ := gbi_some hf
        refine g_V (As := [.int x1]) (rest := [.int v_2, .int (4 : Int32), .int x1, .ref (G.2.1 (b + 3))]) cx hw hS (c_X0_levelsOf l G hb x1 S_1 v_4 S_3 hv) (Nat.lt_of_lt_of_le (hb.lt (j := 3) (by omega)) hN) (he_s3 hb) rfl rfl gw_648 gy_X0_levelsOf gi_X0_levelsOf ⟨Nat.le_of_ble_eq_true rfl, Nat.le_of_ble_eq_true rfl⟩ ⟨Nat.zero_le _, Nat.zero_le _⟩ rfl hl.1 rfl (Nat.le_of_ble_eq_true rfl) dX7_payUpkeep_26 (fun H locs hw hS => ?_)
        refine W.eq (g2 := F0 m 29 ls [.int v_4, .int v_2, .int (4 : Int32), .int x1, .ref (G.2.1 (b + 3))]) rfl ?_
        refine lv_iadd cx.1 cx.2.1 dX7_payUpkeep_29 ?_
        obtain ⟨S_5, hv, hf⟩ := gbv_some hf
        refine g_V (As := [.int x1, .int (4 : Int32), .int (v_2 + v_4)]) (rest := []) cx hw hS (c_X0_transfer l G hb x1 (4 : Int32) (v_2 + v_4) S_3 S_5 hv) (Nat.lt_of_lt_of_le (hb.lt (j := 3) (by omega)) hN) (he_s3 hb) rfl rfl gw_464 gy_X0_transfer gi_X0_transfer ⟨Nat.le_of_ble_eq_true rfl, Nat.le_of_ble_eq_true rfl⟩ ⟨Nat.zero_le _, Nat.zero_le _⟩ rfl hl.1 rfl (Nat.le_of_ble_eq_true rfl) dX7_payUpkeep_30 (fun H locs hw hS => ?_)
        refine W.eq (g2 := F0 m 33 ls []) rfl ?_
        obtain ⟨x1_6, ex1_6, hf⟩ := gvi_ex hf
        refine lv_iinc (v := x1_6) (lv' := [(1, .int x1_6), (0, .ref (G.2.1 b))]) cx.1 cx.2.1 dX7_payUpkeep_33 hl (k := 1) rfl (by rw [← ex1_6]; rfl) (by decide) rfl (fun ls hl => ?_)
        refine lv_goto (tgt := 2) cx.1 cx.2.1 dX7_payUpkeep_36 (by decide) ?_
        exact hK2 S_5 x1_6 _ _ _ hw hS (lv_sub hl [1, 0] rfl) hf
  have hl : lv_has ls 2 [(0, .ref (G.2.1 b))] := hl
  unfold f_X7_payUpkeep at hf
  refine lv_iconst (v := (0 : Int32)) cx.1 cx.2.1 dX7_payUpkeep_0 (by decide) ?_
  refine lv_istore_n (lv' := [(1, .int (0 : Int32)), (0, .ref (G.2.1 b))]) cx.1 cx.2.1 dX7_payUpkeep_1 rfl hl (by decide) rfl (fun ls hl => ?_)
  exact hL_2 gFu S (0 : Int32) _ _ _ hw hS (lv_sub hl [1, 0] rfl) hf
set_option maxHeartbeats 4000000 in
set_option maxRecDepth 100000 in
theorem c_X8_returnToBank (l : Launch) (G : gG) {b : Nat} (hb : IsSt b) (a1 : Int32) (S : Sg) (S' : Sg) (hf : f_X8_returnToBank b a1 S = some S') : Ct l yX8_returnToBank [Cond.code yX8_returnToBank cX8_returnToBank 3 none] (gR 1 22) G [.ref (G.2.1 (b + 1)), .int a1] S none S' := by
  refine Ct_of (by decide) (Nat.le_of_ble_eq_true rfl) ?_
  intro p e s m below meth c ls cx hr hlk hw hS hl
  have hN := cx.2.2.2.2.hN
  have hL_2 : ∀ (n : Nat), ∀ (S : Sg) (x1 : Int32) (x2 : Int32) (H : Heap) (locs : List Loc) (ls : Array Slot), gP G S H → va_S (gA G s.heap.size) s.heap H locs → lv_has ls 3 [(0, .ref (G.2.1 (b + 1))), (1, .int x1), (2, .int x2)] → L_X8_returnToBank_2 b n S x1 x2 = some S' → W p l e (gR 1 22) s m ([.ref (G.2.1 (b + 1)), .int a1] : List Value).toArray below meth c H locs 0 0 (MQ below (gQ G S' none (gA G s.heap.size)) ([.ref (G.2.1 (b + 1)), .int a1] : List Value).toArray s 0 0 (gA G s.heap.size)) (F0 m 2 ls []) := by
    intro n
    induction n with
    | zero => intro S x1 x2 H locs ls hw hS hl hf; cases hf
    | succ n hK2 =>
      intro S x1 x2 H locs ls hw hS hl hf
      have hf : Lb_X8_returnToBank_2 b (L_X8_returnToBank_2 b n) S x1 x2 = some S' := hf
      unfold Lb_X8_returnToBank_2 at hf
      refine lv_iload_n cx.1 cx.2.1 dX8_returnToBank_2 rfl (lv_at hl 2 rfl) ?_
      refine lv_aload_n cx.1 cx.2.1 dX8_returnToBank_3 rfl (lv_at hl 0 rfl) ?_
      refine g_get (C := RX8) (T := TX8) (N := 5) (v := .int (S (b + 1) 4)) cx hw inlX8 (b + 1) (Nat.lt_of_lt_of_le (hb.lt (j := 1) (by omega)) hN) (he_s1 hb) rfl 4 (by decide) gw_129 rfl rfl dX8_returnToBank_4 ?_
      refine lv_icmp_ge (tgt := 37) cx.1 cx.2.1 dX8_returnToBank_7 (by decide) (fun hc => ?_) (fun hc => ?_)
      · rw [if_pos hc] at hf
        exact g_vreti cx hr hlk hw hS hf dX8_returnToBank_37
      · rw [if_neg hc] at hf
        refine lv_aload_n cx.1 cx.2.1 dX8_returnToBank_10 rfl (lv_at hl 0 rfl) ?_
        refine g_get (C := RX8) (T := TX8) (N := 5) (v := .ref (G.2.1 (b + 7))) cx hw inlX8 (b + 1) (Nat.lt_of_lt_of_le (hb.lt (j := 1) (by omega)) hN) (he_s1 hb) rfl 3 (by decide) gw_58 rfl rfl dX8_returnToBank_11 ?_
        refine lv_iload_n cx.1 cx.2.1 dX8_returnToBank_14 rfl (lv_at hl 2 rfl) ?_
        obtain ⟨v_2, S_1, hv, hf⟩ := gbi_some hf
        refine g_N (As := [.ref (G.2.1 (b + 7)), .int x2]) (rest := []) cx hw hS (c_X10_at l G (ia_s7 hN hb) x2 S v_2 S_1 hv) gnm_25 gy_X10_at gi_X10_at ⟨Nat.le_of_ble_eq_true rfl, Nat.le_of_ble_eq_true rfl⟩ ⟨Nat.zero_le _, Nat.zero_le _⟩ rfl hl.1 rfl (Nat.le_of_ble_eq_true rfl) dX8_returnToBank_15 (fun H locs hw hS => ?_)
        refine W.eq (g2 := F0 m 18 ls [.int v_2]) rfl ?_
        refine lv_iload_n cx.1 cx.2.1 dX8_returnToBank_18 rfl (lv_at hl 1 rfl) ?_
        refine lv_icmp_ne (tgt := 31) cx.1 cx.2.1 dX8_returnToBank_19 (by decide) (fun hc => ?_) (fun hc => ?_)
        · rw [if_neg hc] at hf
          obtain ⟨x2_3, ex2_3, hf⟩ := gvi_ex hf
          refine lv_iinc (v := x2_3) (lv' := [(2, .int x2_3), (0, .ref (G.2.1 (b + 1))), (1, .int x1)]) cx.1 cx.2.1 dX8_returnToBank_31 hl (k := 2) rfl (by rw [← ex2_3]; rfl) (by decide) rfl (fun ls hl => ?_)
          refine lv_goto (tgt := 2) cx.1 cx.2.1 dX8_returnToBank_34 (by decide) ?_
          exact hK2 S_1 x1 x2_3 _ _ _ hw hS (lv_sub hl [1, 2, 0] rfl) hf
        · rw [if_pos hc] at hf
          refine lv_aload_n cx.1 cx.2.1 dX8_returnToBank_22 rfl (lv_at hl 0 rfl) ?_
          refine g_get (C := RX8) (T := TX8) (N := 5) (v := .ref (G.2.1 (b + 7))) cx hw inlX8 (b + 1) (Nat.lt_of_lt_of_le (hb.lt (j := 1) (by omega)) hN) (he_s1 hb) rfl 3 (by decide) gw_58 rfl rfl dX8_returnToBank_23 ?_
          refine lv_iload_n cx.1 cx.2.1 dX8_returnToBank_26 rfl (lv_at hl 2 rfl) ?_
          refine lv_iconst (v := (4 : Int32)) cx.1 cx.2.1 dX8_returnToBank_27 (by decide) ?_
          obtain ⟨S_4, hv, hf⟩ := gbv_some hf
          refine g_N (As := [.ref (G.2.1 (b + 7)), .int x2, .int (4 : Int32)]) (rest := []) cx hw hS (c_X10_put l G (ia_s7 hN hb) x2 (4 : Int32) S_1 S_4 hv) gnm_11 gy_X10_put gi_X10_put ⟨Nat.le_of_ble_eq_true rfl, Nat.le_of_ble_eq_true rfl⟩ ⟨Nat.zero_le _, Nat.zero_le _⟩ rfl hl.1 rfl (Nat.le_of_ble_eq_true rfl) dX8_returnToBank_28 (fun H locs hw hS => ?_)
          refine W.eq (g2 := F0 m 31 ls []) rfl ?_
          obtain ⟨x2_5, ex2_5, hf⟩ := gvi_ex hf
          refine lv_iinc (v := x2_5) (lv' := [(2, .int x2_5), (0, .ref (G.2.1 (b + 1))), (1, .int x1)]) cx.1 cx.2.1 dX8_returnToBank_31 hl (k := 2) rfl (by rw [← ex2_5]; rfl) (by decide) rfl (fun ls hl => ?_)
          refine lv_goto (tgt := 2) cx.1 cx.2.1 dX8_returnToBank_34 (by decide) ?_
          exact hK2 S_4 x1 x2_5 _ _ _ hw hS (lv_sub hl [1, 2, 0] rfl) hf
  have hl : lv_has ls 3 [(0, .ref (G.2.1 (b + 1))), (1, .int a1)] := hl
  unfold f_X8_returnToBank at hf
  refine lv_iconst (v := (0 : Int32)) cx.1 cx.2.1 dX8_returnToBank_0 (by decide) ?_
  refine lv_istore_n (lv' := [(2, .int (0 : Int32)), (0, .ref (G.2.1 (b + 1))), (1, .int a1)]) cx.1 cx.2.1 dX8_returnToBank_1 rfl hl (by decide) rfl (fun ls hl => ?_)
  exact hL_2 gFu S a1 (0 : Int32) _ _ _ hw hS (lv_sub hl [1, 2, 0] rfl) hf
