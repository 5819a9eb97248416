set_option maxHeartbeats 4000000 in
set_option maxRecDepth 100000 in
theorem c_X9_follow (l : Launch) (G : gG) {b1 : Nat} (hb1 : IsSt b1) (a2 : Int32) (S : Sg) (S' : Sg) (hf : f_X9_follow b1 a2 S = some S') : Ct l yX9_follow [Cond.code yX9_follow cX9_follow 6 none] (gR 2 43) G [.ref (G.2.1 9), .ref (G.2.1 (b1 + 1)), .int a2] S none S' := by
  refine Ct_of (by decide) (Nat.le_of_ble_eq_true rfl) ?_
  intro p e s m below meth c ls cx hr hlk hw hS hl
  have hN := cx.2.2.2.2.hN
  have hL_13 : ∀ (n : Nat), ∀ (S : Sg) (x3 : Int32) (x4 : Int32) (H : Heap) (locs : List Loc) (ls : Array Slot), gP G S H → va_S (gA G s.heap.size) s.heap H locs → lv_has ls 6 [(0, .ref (G.2.1 9)), (1, .ref (G.2.1 (b1 + 1))), (3, .int x3), (4, .int x4)] → L_X9_follow_13 b1 n S x3 x4 = some S' → W p l e (gR 2 43) s m ([.ref (G.2.1 9), .ref (G.2.1 (b1 + 1)), .int a2] : List Value).toArray below meth c H locs 0 0 (MQ below (gQ G S' none (gA G s.heap.size)) ([.ref (G.2.1 9), .ref (G.2.1 (b1 + 1)), .int a2] : List Value).toArray s 0 0 (gA G s.heap.size)) (F0 m 13 ls []) := by
    intro n
    induction n with
    | zero => intro S x3 x4 H locs ls hw hS hl hf; cases hf
    | succ n hK13 =>
      intro S x3 x4 H locs ls hw hS hl hf
      have hf : Lb_X9_follow_13 b1 (L_X9_follow_13 b1 n) S x3 x4 = some S' := hf
      unfold Lb_X9_follow_13 at hf
      refine lv_iload cx.1 cx.2.1 dX9_follow_13 (lv_at hl 3 rfl) ?_
      refine lv_if_le (tgt := 90) cx.1 cx.2.1 dX9_follow_15 (by decide) (fun hc => ?_) (fun hc => ?_)
      · rw [if_pos hc] at hf
        exact g_vreti cx hr hlk hw hS hf dX9_follow_90
      · rw [if_neg hc] at hf
        refine lv_aload_n cx.1 cx.2.1 dX9_follow_18 rfl (lv_at hl 0 rfl) ?_
        refine g_get (C := RX9) (T := TX9) (N := 7) (v := .int (S 9 4)) cx hw inlX9 9 (by omega) he_c9 rfl 4 (by decide) gw_289 rfl rfl dX9_follow_19 ?_
        refine lv_bipush (v := (24 : Int32)) cx.1 cx.2.1 dX9_follow_22 (by decide) ?_
        refine lv_icmp_ge (tgt := 90) cx.1 cx.2.1 dX9_follow_24 (by decide) (fun hc => ?_) (fun hc => ?_)
        · rw [if_pos hc] at hf
          exact g_vreti cx hr hlk hw hS hf dX9_follow_90
        · rw [if_neg hc] at hf
          refine lv_aload_n cx.1 cx.2.1 dX9_follow_27 rfl (lv_at hl 0 rfl) ?_
          refine g_get (C := RX9) (T := TX9) (N := 7) (v := .ref (G.2.1 11)) cx hw inlX9 9 (by omega) he_c9 rfl 1 (by decide) gw_102 rfl rfl dX9_follow_28 ?_
          refine lv_iload cx.1 cx.2.1 dX9_follow_31 (lv_at hl 3 rfl) ?_
          refine lv_iload_n cx.1 cx.2.1 dX9_follow_33 rfl (lv_at hl 2 rfl) ?_
          obtain ⟨v_2, S_1, hv, hf⟩ := gbi_some hf
          refine g_S (As := [.int x4, .int x3]) (rest := [.ref (G.2.1 11)]) cx hw hS (c_X9_place l G x4 x3 S v_2 S_1 hv) gw_269 gy_X9_place gi_X9_place ⟨Nat.le_of_ble_eq_true rfl, Nat.le_of_ble_eq_true rfl⟩ ⟨Nat.zero_le _, Nat.zero_le _⟩ rfl hl.1 rfl (Nat.le_of_ble_eq_true rfl) dX9_follow_34 (fun H locs hw hS => ?_)
          refine W.eq (g2 := F0 m 37 ls [.int v_2, .ref (G.2.1 11)]) rfl ?_
          obtain ⟨v_4, S_3, hv, hf⟩ := gbi_some hf
          refine g_N (As := [.ref (G.2.1 11), .int v_2]) (rest := []) cx hw hS (c_X10_at l G (ia_c11 hN) v_2 S_1 v_4 S_3 hv) gnm_21 gy_X10_at gi_X10_at ⟨Nat.le_of_ble_eq_true rfl, Nat.le_of_ble_eq_true rfl⟩ ⟨Nat.zero_le _, Nat.zero_le _⟩ rfl hl.1 rfl (Nat.le_of_ble_eq_true rfl) dX9_follow_37 (fun H locs hw hS => ?_)
          refine W.eq (g2 := F0 m 40 ls [.int v_4]) rfl ?_
          refine lv_istore (lv' := [(5, .int v_4), (0, .ref (G.2.1 9)), (1, .ref (G.2.1 (b1 + 1))), (3, .int x3), (4, .int x4)]) cx.1 cx.2.1 dX9_follow_40 hl (by decide) rfl (fun ls hl => ?_)
          refine lv_aload_n cx.1 cx.2.1 dX9_follow_42 rfl (lv_at hl 1 rfl) ?_
          refine g_get (C := RX9) (T := TX9) (N := 7) (v := .ref (G.2.1 13)) cx hw inlX9 9 (by omega) he_c9 rfl 3 (by decide) gw_104 rfl rfl dX9_follow_43 ?_
          refine lv_aload_n cx.1 cx.2.1 dX9_follow_46 rfl (lv_at hl 1 rfl) ?_
          refine g_get (C := RX9) (T := TX9) (N := 7) (v := .int (S_3 9 4)) cx hw inlX9 9 (by omega) he_c9 rfl 4 (by decide) gw_289 rfl rfl dX9_follow_47 ?_
          refine lv_iload cx.1 cx.2.1 dX9_follow_50 (lv_at hl 0 rfl) ?_
          obtain ⟨S_5, hv, hf⟩ := gbv_some hf
          refine g_N (As := [.ref (G.2.1 13), .int (S_3 9 4), .int v_4]) (rest := []) cx hw hS (c_X10_put l G (ia_c13 hN) (S_3 9 4) v_4 S_3 S_5 hv) gnm_23 gy_X10_put gi_X10_put ⟨Nat.le_of_ble_eq_true rfl, Nat.le_of_ble_eq_true rfl⟩ ⟨Nat.zero_le _, Nat.zero_le _⟩ rfl hl.1 rfl (Nat.le_of_ble_eq_true rfl) dX9_follow_52 (fun H locs hw hS => ?_)
          refine W.eq (g2 := F0 m 55 ls []) rfl ?_
          refine lv_aload_n cx.1 cx.2.1 dX9_follow_55 rfl (lv_at hl 1 rfl) ?_
          refine lv_dup cx.1 cx.2.1 dX9_follow_56 rfl ?_
          refine g_get (C := RX9) (T := TX9) (N := 7) (v := .int (S_5 9 4)) cx hw inlX9 9 (by omega) he_c9 rfl 4 (by decide) gw_289 rfl rfl dX9_follow_57 ?_
          refine lv_iconst (v := (1 : Int32)) cx.1 cx.2.1 dX9_follow_60 (by decide) ?_
          refine lv_iadd cx.1 cx.2.1 dX9_follow_61 ?_
          obtain ⟨S_6, eS_6, hf⟩ := gst_ex hf
          refine g_put (C := RX9) (T := TX9) (N := 7) cx hw hS inlX9 tyX9 tyX9_ok nmX9 9 (by omega) he_c9 rfl 4 (by decide) gw_289 rfl rfl (by decide +kernel) (Nat.le_of_ble_eq_true rfl) (by rw [u2_s, he_c9]; rfl) dX9_follow_62 (fun H locs hw hS => ?_)
          rw [eS_6] at hw
          refine lv_aload_n cx.1 cx.2.1 dX9_follow_65 rfl (lv_at hl 2 rfl) ?_
          refine lv_iload cx.1 cx.2.1 dX9_follow_66 (lv_at hl 0 rfl) ?_
          refine lv_iload_n cx.1 cx.2.1 dX9_follow_68 rfl (lv_at hl 3 rfl) ?_
          obtain ⟨v_8, S_7, hv, hf⟩ := gbi_some hf
          refine g_V (As := [.int v_4, .int x3]) (rest := []) cx hw hS (c_X8_farEnd l G hb1 v_4 x3 S_6 v_8 S_7 hv) (Nat.lt_of_lt_of_le (hb1.lt (j := 1) (by omega)) hN) (he_s1 hb1) rfl rfl gw_290 gy_X8_farEnd gi_X8_farEnd ⟨Nat.le_of_ble_eq_true rfl, Nat.le_of_ble_eq_true rfl⟩ ⟨Nat.zero_le _, Nat.zero_le _⟩ rfl hl.1 rfl (Nat.le_of_ble_eq_true rfl) dX9_follow_69 (fun H locs hw hS => ?_)
          refine W.eq (g2 := F0 m 72 ls [.int v_8]) rfl ?_
          refine lv_istore_n (lv' := [(3, .int v_8), (5, .int v_4), (0, .ref (G.2.1 9)), (1, .ref (G.2.1 (b1 + 1))), (4, .int x4)]) cx.1 cx.2.1 dX9_follow_72 rfl hl (by decide) rfl (fun ls hl => ?_)
          refine lv_iload cx.1 cx.2.1 dX9_follow_73 (lv_at hl 4 rfl) ?_
          refine lv_aload_n cx.1 cx.2.1 dX9_follow_75 rfl (lv_at hl 3 rfl) ?_
          refine g_get (C := RX8) (T := TX8) (N := 5) (v := .ref (G.2.1 (b1 + 6))) cx hw inlX8 (b1 + 1) (Nat.lt_of_lt_of_le (hb1.lt (j := 1) (by omega)) hN) (he_s1 hb1) rfl 2 (by decide) gw_256 rfl rfl dX9_follow_76 ?_
          refine lv_iload cx.1 cx.2.1 dX9_follow_79 (lv_at hl 1 rfl) ?_
          obtain ⟨v_10, S_9, hv, hf⟩ := gbi_some hf
          refine g_N (As := [.ref (G.2.1 (b1 + 6)), .int v_4]) (rest := [.int x4]) cx hw hS (c_X10_at l G (ia_s6 hN hb1) v_4 S_7 v_10 S_9 hv) gnm_21 gy_X10_at gi_X10_at ⟨Nat.le_of_ble_eq_true rfl, Nat.le_of_ble_eq_true rfl⟩ ⟨Nat.zero_le _, Nat.zero_le _⟩ rfl hl.1 rfl (Nat.le_of_ble_eq_true rfl) dX9_follow_81 (fun H locs hw hS => ?_)
          refine W.eq (g2 := F0 m 84 ls [.int v_10, .int x4]) rfl ?_
          refine lv_isub cx.1 cx.2.1 dX9_follow_84 ?_
          obtain ⟨x4_11, ex4_11, hf⟩ := gvi_ex hf
          refine W.eq (g2 := F0 m 85 ls [.int x4_11]) (by rw [← ex4_11]) ?_
          refine lv_istore (lv' := [(4, .int x4_11), (3, .int v_8), (5, .int v_4), (0, .ref (G.2.1 9)), (1, .ref (G.2.1 (b1 + 1)))]) cx.1 cx.2.1 dX9_follow_85 hl (by decide) rfl (fun ls hl => ?_)
          refine lv_goto (tgt := 13) cx.1 cx.2.1 dX9_follow_87 (by decide) ?_
          exact hK13 S_9 v_8 x4_11 _ _ _ hw hS (lv_sub hl [3, 4, 1, 0] rfl) hf
  have hl : lv_has ls 6 [(0, .ref (G.2.1 9)), (1, .ref (G.2.1 (b1 + 1))), (2, .int a2)] := hl
  unfold f_X9_follow at hf
  refine lv_iload_n cx.1 cx.2.1 dX9_follow_0 rfl (lv_at hl 2 rfl) ?_
  refine lv_istore_n (lv' := [(3, .int a2), (0, .ref (G.2.1 9)), (1, .ref (G.2.1 (b1 + 1))), (2, .int a2)]) cx.1 cx.2.1 dX9_follow_1 rfl hl (by decide) rfl (fun ls hl => ?_)
  refine lv_aload_n cx.1 cx.2.1 dX9_follow_2 rfl (lv_at hl 1 rfl) ?_
  refine g_get (C := RX9) (T := TX9) (N := 7) (v := .int (S 9 6)) cx hw inlX9 9 (by omega) he_c9 rfl 6 (by decide) gw_284 rfl rfl dX9_follow_3 ?_
  obtain ⟨x4_12, ex4_12, hf⟩ := gvi_ex hf
  refine W.eq (g2 := F0 m 6 ls [.int x4_12]) (by rw [← ex4_12]) ?_
  refine lv_istore (lv' := [(4, .int x4_12), (3, .int a2), (0, .ref (G.2.1 9)), (1, .ref (G.2.1 (b1 + 1))), (2, .int a2)]) cx.1 cx.2.1 dX9_follow_6 hl (by decide) rfl (fun ls hl => ?_)
  refine lv_aload_n cx.1 cx.2.1 dX9_follow_8 rfl (lv_at hl 2 rfl) ?_
  refine lv_iconst (v := (0 : Int32)) cx.1 cx.2.1 dX9_follow_9 (by decide) ?_
  obtain ⟨S_13, eS_13, hf⟩ := gst_ex hf
  refine g_put (C := RX9) (T := TX9) (N := 7) cx hw hS inlX9 tyX9 tyX9_ok nmX9 9 (by omega) he_c9 rfl 4 (by decide) gw_289 rfl rfl (by decide +kernel) (Nat.le_of_ble_eq_true rfl) (by rw [u2_s, he_c9]; rfl) dX9_follow_10 (fun H locs hw hS => ?_)
  rw [eS_13] at hw
  exact hL_13 gFu S_13 a2 x4_12 _ _ _ hw hS (lv_sub hl [2, 3, 1, 0] rfl) hf
set_option maxHeartbeats 4000000 in
set_option maxRecDepth 100000 in
theorem c_X9_find (l : Launch) (G : gG) {b1 : Nat} (hb1 : IsSt b1) (a2 : Int32) (a3 : Int32) (a4 : Int32) (a5 : Int32) (S : Sg) (r : Int32) (S' : Sg) (hf : f_X9_find b1 a2 a3 a4 a5 S = some (r, S')) : Ct l yX9_find [Cond.code yX9_find cX9_find 6 (some .boolean)] (gR 3 72) G [.ref (G.2.1 9), .ref (G.2.1 b1), .int a2, .int a3, .int a4, .int a5] S (some (.int r)) S' := by
  refine Ct_of (by decide) (Nat.le_of_ble_eq_true rfl) ?_
  intro p e s m below meth c ls cx hr hlk hw hS hl
  have hN := cx.2.2.2.2.hN
  have hl : lv_has ls 6 [(0, .ref (G.2.1 9)), (1, .ref (G.2.1 b1)), (2, .int a2), (3, .int a3), (4, .int a4), (5, .int a5)] := hl
  unfold f_X9_find at hf
  refine lv_aload_n cx.1 cx.2.1 dX9_find_0 rfl (lv_at hl 0 rfl) ?_
  refine lv_aload_n cx.1 cx.2.1 dX9_find_1 rfl (lv_at hl 1 rfl) ?_
  refine lv_iload_n cx.1 cx.2.1 dX9_find_2 rfl (lv_at hl 2 rfl) ?_
  obtain ⟨S_1, hv, hf⟩ := gbv_some hf
  refine g_V (As := [.ref (G.2.1 b1), .int a2]) (rest := []) cx hw hS (c_X9_setPrices l G hb1 a2 S S_1 hv) (by omega) he_c9 rfl rfl gw_251 gy_X9_setPrices gi_X9_setPrices ⟨Nat.le_of_ble_eq_true rfl, Nat.le_of_ble_eq_true rfl⟩ ⟨Nat.zero_le _, Nat.zero_le _⟩ rfl hl.1 rfl (Nat.le_of_ble_eq_true rfl) dX9_find_3 (fun H locs hw hS => ?_)
  refine W.eq (g2 := F0 m 6 ls []) rfl ?_
  refine lv_aload_n cx.1 cx.2.1 dX9_find_6 rfl (lv_at hl 0 rfl) ?_
  refine lv_aload_n cx.1 cx.2.1 dX9_find_7 rfl (lv_at hl 1 rfl) ?_
  refine g_get (C := RX7) (T := TX7) (N := 9) (v := .ref (G.2.1 (b1 + 1))) cx hw inlX7 b1 (Nat.lt_of_lt_of_le hb1.lt0 hN) (he_s0 hb1) rfl 0 (by decide) gw_248 rfl rfl dX9_find_8 ?_
  refine lv_iload cx.1 cx.2.1 dX9_find_11 (lv_at hl 4 rfl) ?_
  refine lv_iload cx.1 cx.2.1 dX9_find_13 (lv_at hl 5 rfl) ?_
  obtain ⟨S_2, hv, hf⟩ := gbv_some hf
  refine g_V (As := [.ref (G.2.1 (b1 + 1)), .int a4, .int a5]) (rest := []) cx hw hS (c_X9_measure l G hb1 a4 a5 S_1 S_2 hv) (by omega) he_c9 rfl rfl gw_263 gy_X9_measure gi_X9_measure ⟨Nat.le_of_ble_eq_true rfl, Nat.le_of_ble_eq_true rfl⟩ ⟨Nat.zero_le _, Nat.zero_le _⟩ rfl hl.1 rfl (Nat.le_of_ble_eq_true rfl) dX9_find_15 (fun H locs hw hS => ?_)
  refine W.eq (g2 := F0 m 18 ls []) rfl ?_
  refine lv_aload_n cx.1 cx.2.1 dX9_find_18 rfl (lv_at hl 0 rfl) ?_
  refine lv_iload_n cx.1 cx.2.1 dX9_find_19 rfl (lv_at hl 3 rfl) ?_
  refine lv_iload cx.1 cx.2.1 dX9_find_20 (lv_at hl 5 rfl) ?_
  obtain ⟨S_3, hv, hf⟩ := gbv_some hf
  refine g_V (As := [.int a3, .int a5]) (rest := []) cx hw hS (c_X9_chooseLength l G a3 a5 S_2 S_3 hv) (by omega) he_c9 rfl rfl gw_280 gy_X9_chooseLength gi_X9_chooseLength ⟨Nat.le_of_ble_eq_true rfl, Nat.le_of_ble_eq_true rfl⟩ ⟨Nat.zero_le _, Nat.zero_le _⟩ rfl hl.1 rfl (Nat.le_of_ble_eq_true rfl) dX9_find_22 (fun H locs hw hS => ?_)
  refine W.eq (g2 := F0 m 25 ls []) rfl ?_
  refine lv_aload_n cx.1 cx.2.1 dX9_find_25 rfl (lv_at hl 0 rfl) ?_
  refine lv_aload_n cx.1 cx.2.1 dX9_find_26 rfl (lv_at hl 1 rfl) ?_
  refine g_get (C := RX7) (T := TX7) (N := 9) (v := .ref (G.2.1 (b1 + 1))) cx hw inlX7 b1 (Nat.lt_of_lt_of_le hb1.lt0 hN) (he_s0 hb1) rfl 0 (by decide) gw_248 rfl rfl dX9_find_27 ?_
  refine lv_iload_n cx.1 cx.2.1 dX9_find_30 rfl (lv_at hl 3 rfl) ?_
  obtain ⟨S_4, hv, hf⟩ := gbv_some hf
  refine g_V (As := [.ref (G.2.1 (b1 + 1)), .int a3]) (rest := []) cx hw hS (c_X9_follow l G hb1 a3 S_3 S_4 hv) (by omega) he_c9 rfl rfl gw_285 gy_X9_follow gi_X9_follow ⟨Nat.le_of_ble_eq_true rfl, Nat.le_of_ble_eq_true rfl⟩ ⟨Nat.zero_le _, Nat.zero_le _⟩ rfl hl.1 rfl (Nat.le_of_ble_eq_true rfl) dX9_find_31 (fun H locs hw hS => ?_)
  refine W.eq (g2 := F0 m 34 ls []) rfl ?_
  refine lv_aload_n cx.1 cx.2.1 dX9_find_34 rfl (lv_at hl 0 rfl) ?_
  refine g_get (C := RX9) (T := TX9) (N := 7) (v := .int (S_4 9 5)) cx hw inlX9 9 (by omega) he_c9 rfl 5 (by decide) gw_249 rfl rfl dX9_find_35 ?_
  refine lv_ldc cx.1 cx.2.1 cx.2.2.2.1 (cx.2.2.2.2.ts _ gw_250) dX9_find_38 ?_
  refine lv_icmp_ge (tgt := 47) cx.1 cx.2.1 dX9_find_40 (by decide) (fun hc => ?_) (fun hc => ?_)
  · rw [if_pos hc] at hf
    refine lv_iconst (v := (0 : Int32)) cx.1 cx.2.1 dX9_find_47 (by decide) ?_
    exact g_zreti cx hr hlk hw hS (by decide) hf dX9_find_48
  · rw [if_neg hc] at hf
    refine lv_iconst (v := (1 : Int32)) cx.1 cx.2.1 dX9_find_43 (by decide) ?_
    refine lv_goto (tgt := 48) cx.1 cx.2.1 dX9_find_44 (by decide) ?_
    exact g_zreti cx hr hlk hw hS (by decide) hf dX9_find_48
set_option maxHeartbeats 4000000 in
set_option maxRecDepth 100000 in
theorem c_X4_bestFree (l : Launch) (G : gG) {b1 : Nat} (hb1 : IsSt b1) (a2 : Int32) (S : Sg) (r : Int32) (S' : Sg) (hf : f_X4_bestFree b1 a2 S = some (r, S')) : Ct l yX4_bestFree [Cond.code yX4_bestFree cX4_bestFree 9 (some .int)] (gR 4 97) G [.ref (G.2.1 8), .ref (G.2.1 b1), .int a2] S (some (.int r)) S' := by
  refine Ct_of (by decide) (Nat.le_of_ble_eq_true rfl) ?_
  intro p e s m below meth c ls cx hr hlk hw hS hl
  have hN := cx.2.2.2.2.hN
  have hL_27 : ∀ (n : Nat), ∀ (S : Sg) (x2 : Int32) (x4 : Int32) (x5 : Int32) (x6 : Int32) (x7 : Int32) (H : Heap) (locs : List Loc) (ls : Array Slot), gP G S H → va_S (gA G s.heap.size) s.heap H locs → lv_has ls 9 [(0, .ref (G.2.1 8)), (1, .ref (G.2.1 b1)), (2, .int x2), (3, .ref (G.2.1 (b1 + 2))), (4, .int x4), (5, .int x5), (6, .int x6), (7, .int x7)] → L_X4_bestFree_27 b1 n S x2 x4 x5 x6 x7 = some (r, S') → W p l e (gR 4 97) s m ([.ref (G.2.1 8), .ref (G.2.1 b1), .int a2] : List Value).toArray below meth c H locs 0 0 (MQ below (gQ G S' (some (.int r)) (gA G s.heap.size)) ([.ref (G.2.1 8), .ref (G.2.1 b1), .int a2] : List Value).toArray s 0 0 (gA G s.heap.size)) (F0 m 27 ls []) := by
    intro n
    induction n with
    | zero => intro S x2 x4 x5 x6 x7 H locs ls hw hS hl hf; cases hf
    | succ n hK27 =>
      intro S x2 x4 x5 x6 x7 H locs ls hw hS hl hf
      have hf : Lb_X4_bestFree_27 b1 (L_X4_bestFree_27 b1 n) S x2 x4 x5 x6 x7 = some (r, S') := hf
      unfold Lb_X4_bestFree_27 at hf
      refine lv_iload cx.1 cx.2.1 dX4_bestFree_27 (lv_at hl 7 rfl) ?_
      refine lv_aload_n cx.1 cx.2.1 dX4_bestFree_29 rfl (lv_at hl 3 rfl) ?_
      refine g_get (C := RX1) (T := TX1) (N := 7) (v := .int (S (b1 + 2) 6)) cx hw inlX1 (b1 + 2) (Nat.lt_of_lt_of_le (hb1.lt (j := 2) (by omega)) hN) (he_s2 hb1) rfl 6 (by decide) gw_606 rfl rfl dX4_bestFree_30 ?_
      refine lv_icmp_ge (tgt := 124) cx.1 cx.2.1 dX4_bestFree_33 (by decide) (fun hc => ?_) (fun hc => ?_)
      · rw [if_pos hc] at hf
        refine lv_iload cx.1 cx.2.1 dX4_bestFree_124 (lv_at hl 5 rfl) ?_
        exact g_ireti cx hr hlk hw hS hf dX4_bestFree_126
      · rw [if_neg hc] at hf
        refine lv_aload_n cx.1 cx.2.1 dX4_bestFree_36 rfl (lv_at hl 3 rfl) ?_
        refine lv_iload cx.1 cx.2.1 dX4_bestFree_37 (lv_at hl 7 rfl) ?_
        obtain ⟨v_2, S_1, hv, hf⟩ := gbi_some hf
        refine g_V (As := [.int x7]) (rest := []) cx hw hS (c_X1_isFree l G hb1 x7 S v_2 S_1 hv) (Nat.lt_of_lt_of_le (hb1.lt (j := 2) (by omega)) hN) (he_s2 hb1) rfl rfl gw_614 gy_X1_isFree gi_X1_isFree ⟨Nat.le_of_ble_eq_true rfl, Nat.le_of_ble_eq_true rfl⟩ ⟨Nat.zero_le _, Nat.zero_le _⟩ rfl hl.1 rfl (Nat.le_of_ble_eq_true rfl) dX4_bestFree_39 (fun H locs hw hS => ?_)
        refine W.eq (g2 := F0 m 42 ls [.int v_2]) rfl ?_
        refine lv_if_eq (tgt := 118) cx.1 cx.2.1 dX4_bestFree_42 (by decide) (fun hc => ?_) (fun hc => ?_)
        · rw [if_pos hc] at hf
          obtain ⟨x7_3, ex7_3, hf⟩ := gvi_ex hf
          refine lv_iinc (v := x7_3) (lv' := [(7, .int x7_3), (0, .ref (G.2.1 8)), (1, .ref (G.2.1 b1)), (2, .int x2), (3, .ref (G.2.1 (b1 + 2))), (4, .int x4), (5, .int x5), (6, .int x6)]) cx.1 cx.2.1 dX4_bestFree_118 hl (k := 7) rfl (by rw [← ex7_3]; rfl) (by decide) rfl (fun ls hl => ?_)
          refine lv_goto (tgt := 27) cx.1 cx.2.1 dX4_bestFree_121 (by decide) ?_
          exact hK27 S_1 x2 x4 x5 x6 x7_3 _ _ _ hw hS (lv_sub hl [1, 2, 3, 4, 5, 6, 7, 0] rfl) hf
        · rw [if_neg hc] at hf
          refine lv_aload_n cx.1 cx.2.1 dX4_bestFree_45 rfl (lv_at hl 0 rfl) ?_
          refine g_get (C := RX4) (T := TX4) (N := 1) (v := .ref (G.2.1 9)) cx hw inlX4 8 (by omega) he_c8 rfl 0 (by decide) gw_97 rfl rfl dX4_bestFree_46 ?_
          refine lv_aload_n cx.1 cx.2.1 dX4_bestFree_49 rfl (lv_at hl 1 rfl) ?_
          refine lv_iload_n cx.1 cx.2.1 dX4_bestFree_50 rfl (lv_at hl 2 rfl) ?_
          refine lv_aload_n cx.1 cx.2.1 dX4_bestFree_51 rfl (lv_at hl 3 rfl) ?_
          refine g_get (C := RX1) (T := TX1) (N := 7) (v := .ref (G.2.1 (b1 + 8))) cx hw inlX1 (b1 + 2) (Nat.lt_of_lt_of_le (hb1.lt (j := 2) (by omega)) hN) (he_s2 hb1) rfl 0 (by decide) gw_551 rfl rfl dX4_bestFree_52 ?_
          refine lv_iload cx.1 cx.2.1 dX4_bestFree_55 (lv_at hl 7 rfl) ?_
          obtain ⟨v_5, S_4, hv, hf⟩ := gbi_some hf
          refine g_N (As := [.ref (G.2.1 (b1 + 8)), .int x7]) (rest := [.int x2, .ref (G.2.1 b1), .ref (G.2.1 9)]) cx hw hS (c_X10_at l G (ia_s8 hN hb1) x7 S_1 v_5 S_4 hv) gnm_32 gy_X10_at gi_X10_at ⟨Nat.le_of_ble_eq_true rfl, Nat.le_of_ble_eq_true rfl⟩ ⟨Nat.zero_le _, Nat.zero_le _⟩ rfl hl.1 rfl (Nat.le_of_ble_eq_true rfl) dX4_bestFree_57 (fun H locs hw hS => ?_)
          refine W.eq (g2 := F0 m 60 ls [.int v_5, .int x2, .ref (G.2.1 b1), .ref (G.2.1 9)]) rfl ?_
          refine lv_aload_n cx.1 cx.2.1 dX4_bestFree_60 rfl (lv_at hl 3 rfl) ?_
          refine g_get (C := RX1) (T := TX1) (N := 7) (v := .ref (G.2.1 (b1 + 9))) cx hw inlX1 (b1 + 2) (Nat.lt_of_lt_of_le (hb1.lt (j := 2) (by omega)) hN) (he_s2 hb1) rfl 1 (by decide) gw_552 rfl rfl dX4_bestFree_61 ?_
          refine lv_iload cx.1 cx.2.1 dX4_bestFree_64 (lv_at hl 7 rfl) ?_
          obtain ⟨v_7, S_6, hv, hf⟩ := gbi_some hf
          refine g_N (As := [.ref (G.2.1 (b1 + 9)), .int x7]) (rest := [.int v_5, .int x2, .ref (G.2.1 b1), .ref (G.2.1 9)]) cx hw hS (c_X10_at l G (ia_s9 hN hb1) x7 S_4 v_7 S_6 hv) gnm_32 gy_X10_at gi_X10_at ⟨Nat.le_of_ble_eq_true rfl, Nat.le_of_ble_eq_true rfl⟩ ⟨Nat.zero_le _, Nat.zero_le _⟩ rfl hl.1 rfl (Nat.le_of_ble_eq_true rfl) dX4_bestFree_66 (fun H locs hw hS => ?_)
          refine W.eq (g2 := F0 m 69 ls [.int v_7, .int v_5, .int x2, .ref (G.2.1 b1), .ref (G.2.1 9)]) rfl ?_
          refine lv_iload cx.1 cx.2.1 dX4_bestFree_69 (lv_at hl 4 rfl) ?_
          obtain ⟨v_9, S_8, hv, hf⟩ := gbi_some hf
          refine g_V (As := [.ref (G.2.1 b1), .int x2, .int v_5, .int v_7, .int x4]) (rest := []) cx hw hS (c_X9_find l G hb1 x2 v_5 v_7 x4 S_6 v_9 S_8 hv) (by omega) he_c9 rfl rfl gw_556 gy_X9_find gi_X9_find ⟨Nat.le_of_ble_eq_true rfl, Nat.le_of_ble_eq_true rfl⟩ ⟨Nat.zero_le _, Nat.zero_le _⟩ rfl hl.1 rfl (Nat.le_of_ble_eq_true rfl) dX4_bestFree_71 (fun H locs hw hS => ?_)
          refine W.eq (g2 := F0 m 74 ls [.int v_9]) rfl ?_
          refine lv_if_eq (tgt := 118) cx.1 cx.2.1 dX4_bestFree_74 (by decide) (fun hc => ?_) (fun hc => ?_)
          · rw [if_pos hc] at hf
            obtain ⟨x7_10, ex7_10, hf⟩ := gvi_ex hf
            refine lv_iinc (v := x7_10) (lv' := [(7, .int x7_10), (0, .ref (G.2.1 8)), (1, .ref (G.2.1 b1)), (2, .int x2), (3, .ref (G.2.1 (b1 + 2))), (4, .int x4), (5, .int x5), (6, .int x6)]) cx.1 cx.2.1 dX4_bestFree_118 hl (k := 7) rfl (by rw [← ex7_10]; rfl) (by decide) rfl (fun ls hl => ?_)
            refine lv_goto (tgt := 27) cx.1 cx.2.1 dX4_bestFree_121 (by decide) ?_
            exact hK27 S_8 x2 x4 x5 x6 x7_10 _ _ _ hw hS (lv_sub hl [1, 2, 3, 4, 5, 6, 7, 0] rfl) hf
          · rw [if_neg hc] at hf
            refine lv_aload_n cx.1 cx.2.1 dX4_bestFree_77 rfl (lv_at hl 3 rfl) ?_
            refine g_get (C := RX1) (T := TX1) (N := 7) (v := .ref (G.2.1 (b1 + 10))) cx hw inlX1 (b1 + 2) (Nat.lt_of_lt_of_le (hb1.lt (j := 2) (by omega)) hN) (he_s2 hb1) rfl 2 (by decide) gw_563 rfl rfl dX4_bestFree_78 ?_
            refine lv_iload cx.1 cx.2.1 dX4_bestFree_81 (lv_at hl 7 rfl) ?_
            obtain ⟨v_12, S_11, hv, hf⟩ := gbi_some hf
            refine g_N (As := [.ref (G.2.1 (b1 + 10)), .int x7]) (rest := []) cx hw hS (c_X10_at l G (ia_s10 hN hb1) x7 S_8 v_12 S_11 hv) gnm_32 gy_X10_at gi_X10_at ⟨Nat.le_of_ble_eq_true rfl, Nat.le_of_ble_eq_true rfl⟩ ⟨Nat.zero_le _, Nat.zero_le _⟩ rfl hl.1 rfl (Nat.le_of_ble_eq_true rfl) dX4_bestFree_83 (fun H locs hw hS => ?_)
            refine W.eq (g2 := F0 m 86 ls [.int v_12]) rfl ?_
            refine lv_aload_n cx.1 cx.2.1 dX4_bestFree_86 rfl (lv_at hl 0 rfl) ?_
            refine g_get (C := RX4) (T := TX4) (N := 1) (v := .ref (G.2.1 9)) cx hw inlX4 8 (by omega) he_c8 rfl 0 (by decide) gw_97 rfl rfl dX4_bestFree_87 ?_
            refine g_getN (host := "RustRails") (C := RX9) (T := TX9) (N := 7) (v := .int (S_11 9 5)) cx hw inlX9 9 (by omega) he_c9 rfl 5 (by decide) gnf_6 rfl rfl dX4_bestFree_90 ?_
            refine lv_isub cx.1 cx.2.1 dX4_bestFree_93 ?_
            obtain ⟨x8_13, ex8_13, hf⟩ := gvi_ex hf
            refine W.eq (g2 := F0 m 94 ls [.int x8_13]) (by rw [← ex8_13]) ?_
            refine lv_istore (lv' := [(8, .int x8_13), (0, .ref (G.2.1 8)), (1, .ref (G.2.1 b1)), (2, .int x2), (3, .ref (G.2.1 (b1 + 2))), (4, .int x4), (5, .int x5), (6, .int x6), (7, .int x7)]) cx.1 cx.2.1 dX4_bestFree_94 hl (by decide) rfl (fun ls hl => ?_)
            refine lv_iload cx.1 cx.2.1 dX4_bestFree_96 (lv_at hl 6 rfl) ?_
            refine lv_bipush (v := (-9 : Int32)) cx.1 cx.2.1 dX4_bestFree_98 (by decide) ?_
            refine lv_icmp_eq (tgt := 110) cx.1 cx.2.1 dX4_bestFree_100 (by decide) (fun hc => ?_) (fun hc => ?_)
            · rw [if_pos hc] at hf
              refine lv_iload cx.1 cx.2.1 dX4_bestFree_110 (lv_at hl 8 rfl) ?_
              refine lv_istore (lv' := [(5, .int x7), (8, .int x8_13), (0, .ref (G.2.1 8)), (1, .ref (G.2.1 b1)), (2, .int x2), (3, .ref (G.2.1 (b1 + 2))), (4, .int x4), (6, .int x6), (7, .int x7)]) cx.1 cx.2.1 dX4_bestFree_112 hl (by decide) rfl (fun ls hl => ?_)
              refine lv_iload cx.1 cx.2.1 dX4_bestFree_114 (lv_at hl 1 rfl) ?_
              refine lv_istore (lv' := [(6, .int x8_13), (5, .int x7), (8, .int x8_13), (0, .ref (G.2.1 8)), (1, .ref (G.2.1 b1)), (2, .int x2), (3, .ref (G.2.1 (b1 + 2))), (4, .int x4), (7, .int x7)]) cx.1 cx.2.1 dX4_bestFree_116 hl (by decide) rfl (fun ls hl => ?_)
              obtain ⟨x7_14, ex7_14, hf⟩ := gvi_ex hf
              refine lv_iinc (v := x7_14) (lv' := [(7, .int x7_14), (6, .int x8_13), (5, .int x7), (8, .int x8_13), (0, .ref (G.2.1 8)), (1, .ref (G.2.1 b1)), (2, .int x2), (3, .ref (G.2.1 (b1 + 2))), (4, .int x4)]) cx.1 cx.2.1 dX4_bestFree_118 hl (k := 8) rfl (by rw [← ex7_14]; rfl) (by decide) rfl (fun ls hl => ?_)
              refine lv_goto (tgt := 27) cx.1 cx.2.1 dX4_bestFree_121 (by decide) ?_
              exact hK27 S_11 x2 x4 x7 x8_13 x7_14 _ _ _ hw hS (lv_sub hl [4, 5, 6, 7, 8, 2, 1, 0] rfl) hf
            · rw [if_neg hc] at hf
              refine lv_iload cx.1 cx.2.1 dX4_bestFree_103 (lv_at hl 0 rfl) ?_
              refine lv_iload cx.1 cx.2.1 dX4_bestFree_105 (lv_at hl 7 rfl) ?_
              refine lv_icmp_le (tgt := 118) cx.1 cx.2.1 dX4_bestFree_107 (by decide) (fun hc => ?_) (fun hc => ?_)
              · rw [if_pos hc] at hf
                obtain ⟨x7_15, ex7_15, hf⟩ := gvi_ex hf
                refine lv_iinc (v := x7_15) (lv' := [(7, .int x7_15), (8, .int x8_13), (0, .ref (G.2.1 8)), (1, .ref (G.2.1 b1)), (2, .int x2), (3, .ref (G.2.1 (b1 + 2))), (4, .int x4), (5, .int x5), (6, .int x6)]) cx.1 cx.2.1 dX4_bestFree_118 hl (k := 8) rfl (by rw [← ex7_15]; rfl) (by decide) rfl (fun ls hl => ?_)
                refine lv_goto (tgt := 27) cx.1 cx.2.1 dX4_bestFree_121 (by decide) ?_
                exact hK27 S_11 x2 x4 x5 x6 x7_15 _ _ _ hw hS (lv_sub hl [2, 3, 4, 5, 6, 7, 8, 0] rfl) hf
              · rw [if_neg hc] at hf
                refine lv_iload cx.1 cx.2.1 dX4_bestFree_110 (lv_at hl 8 rfl) ?_
                refine lv_istore (lv' := [(5, .int x7), (8, .int x8_13), (0, .ref (G.2.1 8)), (1, .ref (G.2.1 b1)), (2, .int x2), (3, .ref (G.2.1 (b1 + 2))), (4, .int x4), (6, .int x6), (7, .int x7)]) cx.1 cx.2.1 dX4_bestFree_112 hl (by decide) rfl (fun ls hl => ?_)
                refine lv_iload cx.1 cx.2.1 dX4_bestFree_114 (lv_at hl 1 rfl) ?_
                refine lv_istore (lv' := [(6, .int x8_13), (5, .int x7), (8, .int x8_13), (0, .ref (G.2.1 8)), (1, .ref (G.2.1 b1)), (2, .int x2), (3, .ref (G.2.1 (b1 + 2))), (4, .int x4), (7, .int x7)]) cx.1 cx.2.1 dX4_bestFree_116 hl (by decide) rfl (fun ls hl => ?_)
                obtain ⟨x7_16, ex7_16, hf⟩ := gvi_ex hf
                refine lv_iinc (v := x7_16) (lv' := [(7, .int x7_16), (6, .int x8_13), (5, .int x7), (8, .int x8_13), (0, .ref (G.2.1 8)), (1, .ref (G.2.1 b1)), (2, .int x2), (3, .ref (G.2.1 (b1 + 2))), (4, .int x4)]) cx.1 cx.2.1 dX4_bestFree_118 hl (k := 8) rfl (by rw [← ex7_16]; rfl) (by decide) rfl (fun ls hl => ?_)
                refine lv_goto (tgt := 27) cx.1 cx.2.1 dX4_bestFree_121 (by decide) ?_
                exact hK27 S_11 x2 x4 x7 x8_13 x7_16 _ _ _ hw hS (lv_sub hl [4, 5, 6, 7, 8, 2, 1, 0] rfl) hf
  have hl : lv_has ls 9 [(0, .ref (G.2.1 8)), (1, .ref (G.2.1 b1)), (2, .int a2)] := hl
  unfold f_X4_bestFree at hf
  refine lv_aload_n cx.1 cx.2.1 dX4_bestFree_0 rfl (lv_at hl 1 rfl) ?_
  refine g_get (C := RX7) (T := TX7) (N := 9) (v := .ref (G.2.1 (b1 + 2))) cx hw inlX7 b1 (Nat.lt_of_lt_of_le hb1.lt0 hN) (he_s0 hb1) rfl 1 (by decide) gw_548 rfl rfl dX4_bestFree_1 ?_
  refine lv_astore_n (lv' := [(3, .ref (G.2.1 (b1 + 2))), (0, .ref (G.2.1 8)), (1, .ref (G.2.1 b1)), (2, .int a2)]) cx.1 cx.2.1 dX4_bestFree_4 rfl hl (by decide) rfl (fun ls hl => ?_)
  refine lv_iconst (v := (4 : Int32)) cx.1 cx.2.1 dX4_bestFree_5 (by decide) ?_
  refine lv_aload_n cx.1 cx.2.1 dX4_bestFree_6 rfl (lv_at hl 2 rfl) ?_
  refine g_get (C := RX7) (T := TX7) (N := 9) (v := .ref (G.2.1 (b1 + 3))) cx hw inlX7 b1 (Nat.lt_of_lt_of_le hb1.lt0 hN) (he_s0 hb1) rfl 2 (by decide) gw_550 rfl rfl dX4_bestFree_7 ?_
  refine lv_iload_n cx.1 cx.2.1 dX4_bestFree_10 rfl (lv_at hl 3 rfl) ?_
  obtain ⟨v_18, S_17, hv, hf⟩ := gbi_some hf
  refine g_V (As := [.int a2]) (rest := [.int (4 : Int32)]) cx hw hS (c_X0_greatestLevel l G hb1 a2 S v_18 S_17 hv) (Nat.lt_of_lt_of_le (hb1.lt (j := 3) (by omega)) hN) (he_s3 hb1) rfl rfl gw_607 gy_X0_greatestLevel gi_X0_greatestLevel ⟨Nat.le_of_ble_eq_true rfl, Nat.le_of_ble_eq_true rfl⟩ ⟨Nat.zero_le _, Nat.zero_le _⟩ rfl hl.1 rfl (Nat.le_of_ble_eq_true rfl) dX4_bestFree_11 (fun H locs hw hS => ?_)
  refine W.eq (g2 := F0 m 14 ls [.int v_18, .int (4 : Int32)]) rfl ?_
  refine lv_imul cx.1 cx.2.1 dX4_bestFree_14 ?_
  obtain ⟨x4_19, ex4_19, hf⟩ := gvi_ex hf
  refine W.eq (g2 := F0 m 15 ls [.int x4_19]) (by rw [← ex4_19]) ?_
  refine lv_istore (lv' := [(4, .int x4_19), (3, .ref (G.2.1 (b1 + 2))), (0, .ref (G.2.1 8)), (1, .ref (G.2.1 b1)), (2, .int a2)]) cx.1 cx.2.1 dX4_bestFree_15 hl (by decide) rfl (fun ls hl => ?_)
  refine lv_bipush (v := (-9 : Int32)) cx.1 cx.2.1 dX4_bestFree_17 (by decide) ?_
  refine lv_istore (lv' := [(5, .int (-9 : Int32)), (4, .int x4_19), (3, .ref (G.2.1 (b1 + 2))), (0, .ref (G.2.1 8)), (1, .ref (G.2.1 b1)), (2, .int a2)]) cx.1 cx.2.1 dX4_bestFree_19 hl (by decide) rfl (fun ls hl => ?_)
  refine lv_iconst (v := (0 : Int32)) cx.1 cx.2.1 dX4_bestFree_21 (by decide) ?_
  refine lv_istore (lv' := [(6, .int (0 : Int32)), (5, .int (-9 : Int32)), (4, .int x4_19), (3, .ref (G.2.1 (b1 + 2))), (0, .ref (G.2.1 8)), (1, .ref (G.2.1 b1)), (2, .int a2)]) cx.1 cx.2.1 dX4_bestFree_22 hl (by decide) rfl (fun ls hl => ?_)
  refine lv_iconst (v := (0 : Int32)) cx.1 cx.2.1 dX4_bestFree_24 (by decide) ?_
  refine lv_istore (lv' := [(7, .int (0 : Int32)), (6, .int (0 : Int32)), (5, .int (-9 : Int32)), (4, .int x4_19), (3, .ref (G.2.1 (b1 + 2))), (0, .ref (G.2.1 8)), (1, .ref (G.2.1 b1)), (2, .int a2)]) cx.1 cx.2.1 dX4_bestFree_25 hl (by decide) rfl (fun ls hl => ?_)
  exact hL_27 gFu S_17 a2 x4_19 (-9 : Int32) (0 : Int32) (0 : Int32) _ _ _ hw hS (lv_sub hl [5, 6, 7, 4, 3, 2, 1, 0] rfl) hf
set_option maxHeartbeats 4000000 in
set_option maxRecDepth 100000 in
theorem c_X7_payMail (l : Launch) (G : gG) {b : Nat} (hb : IsSt b) (a1 : Int32) (a2 : Int32) (S : Sg) (S' : Sg) (hf : f_X7_payMail b a1 a2 S = some S') : Ct l yX7_payMail [Cond.code yX7_payMail cX7_payMail 3 none] (gR 2 45) G [.ref (G.2.1 b), .int a1, .int a2] S none S' := by
  refine Ct_of (by decide) (Nat.le_of_ble_eq_true rfl) ?_
  intro p e s m below meth c ls cx hr hlk hw hS hl
  have hN := cx.2.2.2.2.hN
  have hl : lv_has ls 3 [(0, .ref (G.2.1 b)), (1, .int a1), (2, .int a2)] := hl
  unfold f_X7_payMail at hf
  refine lv_aload_n cx.1 cx.2.1 dX7_payMail_0 rfl (lv_at hl 0 rfl) ?_
  refine g_get (C := RX7) (T := TX7) (N := 9) (v := .ref (G.2.1 (b + 3))) cx hw inlX7 b (Nat.lt_of_lt_of_le hb.lt0 hN) (he_s0 hb) rfl 2 (by decide) gw_51 rfl rfl dX7_payMail_1 ?_
  refine lv_iconst (v := (4 : Int32)) cx.1 cx.2.1 dX7_payMail_4 (by decide) ?_
  refine lv_iload_n cx.1 cx.2.1 dX7_payMail_5 rfl (lv_at hl 1 rfl) ?_
  refine lv_iload_n cx.1 cx.2.1 dX7_payMail_6 rfl (lv_at hl 2 rfl) ?_
  obtain ⟨S_1, hv, hf⟩ := gbv_some hf
  refine g_V (As := [.int (4 : Int32), .int a1, .int a2]) (rest := []) cx hw hS (c_X0_transfer l G hb (4 : Int32) a1 a2 S S_1 hv) (Nat.lt_of_lt_of_le (hb.lt (j := 3) (by omega)) hN) (he_s3 hb) rfl rfl gw_464 gy_X0_transfer gi_X0_transfer ⟨Nat.le_of_ble_eq_true rfl, Nat.le_of_ble_eq_true rfl⟩ ⟨Nat.zero_le _, Nat.zero_le _⟩ rfl hl.1 rfl (Nat.le_of_ble_eq_true rfl) dX7_payMail_7 (fun H locs hw hS => ?_)
  refine W.eq (g2 := F0 m 10 ls []) rfl ?_
  refine lv_aload_n cx.1 cx.2.1 dX7_payMail_10 rfl (lv_at hl 0 rfl) ?_
  refine lv_dup cx.1 cx.2.1 dX7_payMail_11 rfl ?_
  refine g_get (C := RX7) (T := TX7) (N := 9) (v := .int (S_1 b 6)) cx hw inlX7 b (Nat.lt_of_lt_of_le hb.lt0 hN) (he_s0 hb) rfl 6 (by decide) gw_114 rfl rfl dX7_payMail_12 ?_
  refine lv_iload_n cx.1 cx.2.1 dX7_payMail_15 rfl (lv_at hl 2 rfl) ?_
  refine lv_iadd cx.1 cx.2.1 dX7_payMail_16 ?_
  obtain ⟨S_2, eS_2, hf⟩ := gst_ex hf
  refine g_put (C := RX7) (T := TX7) (N := 9) cx hw hS inlX7 tyX7 tyX7_ok nmX7 b (Nat.lt_of_lt_of_le hb.lt0 hN) (he_s0 hb) rfl 6 (by decide) gw_114 rfl rfl (by decide +kernel) (Nat.le_of_ble_eq_true rfl) (by rw [u2_s, (he_s0 hb)]; rfl) dX7_payMail_17 (fun H locs hw hS => ?_)
  rw [eS_2] at hw
  exact g_vreti cx hr hlk hw hS hf dX7_payMail_20
set_option maxHeartbeats 4000000 in
set_option maxRecDepth 100000 in
theorem c_X4_carry (l : Launch) (G : gG) {b1 : Nat} (hb1 : IsSt b1) (a2 : Int32) (a3 : Int32) (S : Sg) (r : Int32) (S' : Sg) (hf : f_X4_carry b1 a2 a3 S = some (r, S')) : Ct l yX4_carry [Cond.code yX4_carry cX4_carry 9 (some .int)] (gR 4 97) G [.ref (G.2.1 8), .ref (G.2.1 b1), .int a2, .int a3] S (some (.int r)) S' := by
  refine Ct_of (by decide) (Nat.le_of_ble_eq_true rfl) ?_
  intro p e s m below meth c ls cx hr hlk hw hS hl
  have hN := cx.2.2.2.2.hN
  have hL_62 : ∀ (n : Nat), ∀ (S : Sg) (x2 : Int32) (x3 : Int32) (x5 : Int32) (x7 : Int32) (H : Heap) (locs : List Loc) (ls : Array Slot), gP G S H → va_S (gA G s.heap.size) s.heap H locs → lv_has ls 9 [(0, .ref (G.2.1 8)), (1, .ref (G.2.1 b1)), (2, .int x2), (3, .int x3), (4, .ref (G.2.1 (b1 + 2))), (5, .int x5), (7, .int x7)] → L_X4_carry_62 b1 n S x2 x3 x5 x7 = some (r, S') → W p l e (gR 4 97) s m ([.ref (G.2.1 8), .ref (G.2.1 b1), .int a2, .int a3] : List Value).toArray below meth c H locs 0 0 (MQ below (gQ G S' (some (.int r)) (gA G s.heap.size)) ([.ref (G.2.1 8), .ref (G.2.1 b1), .int a2, .int a3] : List Value).toArray s 0 0 (gA G s.heap.size)) (F0 m 62 ls []) := by
    intro n
    induction n with
    | zero => intro S x2 x3 x5 x7 H locs ls hw hS hl hf; cases hf
    | succ n hK62 =>
      intro S x2 x3 x5 x7 H locs ls hw hS hl hf
      have hf : Lb_X4_carry_62 b1 (L_X4_carry_62 b1 n) S x2 x3 x5 x7 = some (r, S') := hf
      unfold Lb_X4_carry_62 at hf
      refine lv_iload cx.1 cx.2.1 dX4_carry_62 (lv_at hl 6 rfl) ?_
      refine lv_aload_n cx.1 cx.2.1 dX4_carry_64 rfl (lv_at hl 0 rfl) ?_
      refine g_get (C := RX4) (T := TX4) (N := 1) (v := .ref (G.2.1 9)) cx hw inlX4 8 (by omega) he_c8 rfl 0 (by decide) gw_97 rfl rfl dX4_carry_65 ?_
      refine g_getN (host := "RustRails") (C := RX9) (T := TX9) (N := 7) (v := .int (S 9 4)) cx hw inlX9 9 (by omega) he_c9 rfl 4 (by decide) gnf_4 rfl rfl dX4_carry_68 ?_
      refine lv_icmp_ge (tgt := 127) cx.1 cx.2.1 dX4_carry_71 (by decide) (fun hc => ?_) (fun hc => ?_)
      · rw [if_pos hc] at hf
        refine lv_aload_n cx.1 cx.2.1 dX4_carry_127 rfl (lv_at hl 1 rfl) ?_
        refine lv_iload cx.1 cx.2.1 dX4_carry_128 (lv_at hl 5 rfl) ?_
        refine lv_aload cx.1 cx.2.1 dX4_carry_130 (lv_at hl 4 rfl) ?_
        refine g_get (C := RX1) (T := TX1) (N := 7) (v := .ref (G.2.1 (b1 + 10))) cx hw inlX1 (b1 + 2) (Nat.lt_of_lt_of_le (hb1.lt (j := 2) (by omega)) hN) (he_s2 hb1) rfl 2 (by decide) gw_563 rfl rfl dX4_carry_132 ?_
        refine lv_iload_n cx.1 cx.2.1 dX4_carry_135 rfl (lv_at hl 2 rfl) ?_
        obtain ⟨v_2, S_1, hv, hf⟩ := gbi_some hf
        refine g_N (As := [.ref (G.2.1 (b1 + 10)), .int x2]) (rest := [.int x5, .ref (G.2.1 b1)]) cx hw hS (c_X10_at l G (ia_s10 hN hb1) x2 S v_2 S_1 hv) gnm_32 gy_X10_at gi_X10_at ⟨Nat.le_of_ble_eq_true rfl, Nat.le_of_ble_eq_true rfl⟩ ⟨Nat.zero_le _, Nat.zero_le _⟩ rfl hl.1 rfl (Nat.le_of_ble_eq_true rfl) dX4_carry_136 (fun H locs hw hS => ?_)
        refine W.eq (g2 := F0 m 139 ls [.int v_2, .int x5, .ref (G.2.1 b1)]) rfl ?_
        obtain ⟨S_3, hv, hf⟩ := gbv_some hf
        refine g_V (As := [.int x5, .int v_2]) (rest := []) cx hw hS (c_X7_payMail l G hb1 x5 v_2 S_1 S_3 hv) (Nat.lt_of_lt_of_le hb1.lt0 hN) (he_s0 hb1) rfl rfl gw_569 gy_X7_payMail gi_X7_payMail ⟨Nat.le_of_ble_eq_true rfl, Nat.le_of_ble_eq_true rfl⟩ ⟨Nat.zero_le _, Nat.zero_le _⟩ rfl hl.1 rfl (Nat.le_of_ble_eq_true rfl) dX4_carry_139 (fun H locs hw hS => ?_)
        refine W.eq (g2 := F0 m 142 ls []) rfl ?_
        refine lv_aload cx.1 cx.2.1 dX4_carry_142 (lv_at hl 4 rfl) ?_
        refine g_get (C := RX1) (T := TX1) (N := 7) (v := .ref (G.2.1 (b1 + 13))) cx hw inlX1 (b1 + 2) (Nat.lt_of_lt_of_le (hb1.lt (j := 2) (by omega)) hN) (he_s2 hb1) rfl 5 (by decide) gw_549 rfl rfl dX4_carry_144 ?_
        refine lv_iload_n cx.1 cx.2.1 dX4_carry_147 rfl (lv_at hl 2 rfl) ?_
        refine lv_iconst (v := (1 : Int32)) cx.1 cx.2.1 dX4_carry_148 (by decide) ?_
        obtain ⟨S_4, hv, hf⟩ := gbv_some hf
        refine g_N (As := [.ref (G.2.1 (b1 + 13)), .int x2, .int (1 : Int32)]) (rest := []) cx hw hS (c_X10_put l G (ia_s13 hN hb1) x2 (1 : Int32) S_3 S_4 hv) gnm_33 gy_X10_put gi_X10_put ⟨Nat.le_of_ble_eq_true rfl, Nat.le_of_ble_eq_true rfl⟩ ⟨Nat.zero_le _, Nat.zero_le _⟩ rfl hl.1 rfl (Nat.le_of_ble_eq_true rfl) dX4_carry_149 (fun H locs hw hS => ?_)
        refine W.eq (g2 := F0 m 152 ls []) rfl ?_
        refine lv_aload_n cx.1 cx.2.1 dX4_carry_152 rfl (lv_at hl 1 rfl) ?_
        refine g_get (C := RX7) (T := TX7) (N := 9) (v := .ref (G.2.1 (b1 + 3))) cx hw inlX7 b1 (Nat.lt_of_lt_of_le hb1.lt0 hN) (he_s0 hb1) rfl 2 (by decide) gw_550 rfl rfl dX4_carry_153 ?_
        refine lv_iload cx.1 cx.2.1 dX4_carry_156 (lv_at hl 5 rfl) ?_
        refine lv_iload_n cx.1 cx.2.1 dX4_carry_158 rfl (lv_at hl 3 rfl) ?_
        obtain ⟨S_5, hv, hf⟩ := gbv_some hf
        refine g_V (As := [.int x5, .int x3]) (rest := []) cx hw hS (c_X0_markRun l G hb1 x5 x3 S_4 S_5 hv) (Nat.lt_of_lt_of_le (hb1.lt (j := 3) (by omega)) hN) (he_s3 hb1) rfl rfl gw_573 gy_X0_markRun gi_X0_markRun ⟨Nat.le_of_ble_eq_true rfl, Nat.le_of_ble_eq_true rfl⟩ ⟨Nat.zero_le _, Nat.zero_le _⟩ rfl hl.1 rfl (Nat.le_of_ble_eq_true rfl) dX4_carry_159 (fun H locs hw hS => ?_)
        refine W.eq (g2 := F0 m 162 ls []) rfl ?_
        refine lv_aload_n cx.1 cx.2.1 dX4_carry_162 rfl (lv_at hl 0 rfl) ?_
        refine g_get (C := RX4) (T := TX4) (N := 1) (v := .ref (G.2.1 9)) cx hw inlX4 8 (by omega) he_c8 rfl 0 (by decide) gw_97 rfl rfl dX4_carry_163 ?_
        refine g_getN (host := "RustRails") (C := RX9) (T := TX9) (N := 7) (v := .int (S_5 9 5)) cx hw inlX9 9 (by omega) he_c9 rfl 5 (by decide) gnf_6 rfl rfl dX4_carry_166 ?_
        exact g_ireti cx hr hlk hw hS hf dX4_carry_169
      · rw [if_neg hc] at hf
        refine lv_aload_n cx.1 cx.2.1 dX4_carry_74 rfl (lv_at hl 0 rfl) ?_
        refine g_get (C := RX4) (T := TX4) (N := 1) (v := .ref (G.2.1 9)) cx hw inlX4 8 (by omega) he_c8 rfl 0 (by decide) gw_97 rfl rfl dX4_carry_75 ?_
        refine g_getN (host := "RustRails") (C := RX9) (T := TX9) (N := 7) (v := .ref (G.2.1 13)) cx hw inlX9 9 (by omega) he_c9 rfl 3 (by decide) gnf_2 rfl rfl dX4_carry_78 ?_
        refine lv_iload cx.1 cx.2.1 dX4_carry_81 (lv_at hl 6 rfl) ?_
        obtain ⟨v_7, S_6, hv, hf⟩ := gbi_some hf
        refine g_N (As := [.ref (G.2.1 13), .int x7]) (rest := []) cx hw hS (c_X10_at l G (ia_c13 hN) x7 S v_7 S_6 hv) gnm_32 gy_X10_at gi_X10_at ⟨Nat.le_of_ble_eq_true rfl, Nat.le_of_ble_eq_true rfl⟩ ⟨Nat.zero_le _, Nat.zero_le _⟩ rfl hl.1 rfl (Nat.le_of_ble_eq_true rfl) dX4_carry_83 (fun H locs hw hS => ?_)
        refine W.eq (g2 := F0 m 86 ls [.int v_7]) rfl ?_
        refine lv_istore (lv' := [(8, .int v_7), (0, .ref (G.2.1 8)), (1, .ref (G.2.1 b1)), (2, .int x2), (3, .int x3), (4, .ref (G.2.1 (b1 + 2))), (5, .int x5), (7, .int x7)]) cx.1 cx.2.1 dX4_carry_86 hl (by decide) rfl (fun ls hl => ?_)
        refine lv_aload_n cx.1 cx.2.1 dX4_carry_88 rfl (lv_at hl 2 rfl) ?_
        refine g_get (C := RX7) (T := TX7) (N := 9) (v := .ref (G.2.1 (b1 + 3))) cx hw inlX7 b1 (Nat.lt_of_lt_of_le hb1.lt0 hN) (he_s0 hb1) rfl 2 (by decide) gw_550 rfl rfl dX4_carry_89 ?_
        refine lv_iload cx.1 cx.2.1 dX4_carry_92 (lv_at hl 6 rfl) ?_
        refine lv_aload_n cx.1 cx.2.1 dX4_carry_94 rfl (lv_at hl 2 rfl) ?_
        refine g_get (C := RX7) (T := TX7) (N := 9) (v := .ref (G.2.1 (b1 + 1))) cx hw inlX7 b1 (Nat.lt_of_lt_of_le hb1.lt0 hN) (he_s0 hb1) rfl 0 (by decide) gw_561 rfl rfl dX4_carry_95 ?_
        refine g_get (C := RX8) (T := TX8) (N := 5) (v := .ref (G.2.1 (b1 + 7))) cx hw inlX8 (b1 + 1) (Nat.lt_of_lt_of_le (hb1.lt (j := 1) (by omega)) hN) (he_s1 hb1) rfl 3 (by decide) gw_562 rfl rfl dX4_carry_98 ?_
        refine lv_iload cx.1 cx.2.1 dX4_carry_101 (lv_at hl 0 rfl) ?_
        obtain ⟨v_9, S_8, hv, hf⟩ := gbi_some hf
        refine g_N (As := [.ref (G.2.1 (b1 + 7)), .int v_7]) (rest := [.int x5, .ref (G.2.1 (b1 + 3))]) cx hw hS (c_X10_at l G (ia_s7 hN hb1) v_7 S_6 v_9 S_8 hv) gnm_32 gy_X10_at gi_X10_at ⟨Nat.le_of_ble_eq_true rfl, Nat.le_of_ble_eq_true rfl⟩ ⟨Nat.zero_le _, Nat.zero_le _⟩ rfl hl.1 rfl (Nat.le_of_ble_eq_true rfl) dX4_carry_103 (fun H locs hw hS => ?_)
        refine W.eq (g2 := F0 m 106 ls [.int v_9, .int x5, .ref (G.2.1 (b1 + 3))]) rfl ?_
        refine lv_aload_n cx.1 cx.2.1 dX4_carry_106 rfl (lv_at hl 1 rfl) ?_
        refine g_get (C := RX4) (T := TX4) (N := 1) (v := .ref (G.2.1 9)) cx hw inlX4 8 (by omega) he_c8 rfl 0 (by decide) gw_97 rfl rfl dX4_carry_107 ?_
        refine g_getN (host := "RustRails") (C := RX9) (T := TX9) (N := 7) (v := .ref (G.2.1 12)) cx hw inlX9 9 (by omega) he_c9 rfl 2 (by decide) gnf_1 rfl rfl dX4_carry_110 ?_
        refine lv_iload cx.1 cx.2.1 dX4_carry_113 (lv_at hl 0 rfl) ?_
        obtain ⟨v_11, S_10, hv, hf⟩ := gbi_some hf
        refine g_N (As := [.ref (G.2.1 12), .int v_7]) (rest := [.int v_9, .int x5, .ref (G.2.1 (b1 + 3))]) cx hw hS (c_X10_at l G (ia_c12 hN) v_7 S_8 v_11 S_10 hv) gnm_32 gy_X10_at gi_X10_at ⟨Nat.le_of_ble_eq_true rfl, Nat.le_of_ble_eq_true rfl⟩ ⟨Nat.zero_le _, Nat.zero_le _⟩ rfl hl.1 rfl (Nat.le_of_ble_eq_true rfl) dX4_carry_115 (fun H locs hw hS => ?_)
        refine W.eq (g2 := F0 m 118 ls [.int v_11, .int v_9, .int x5, .ref (G.2.1 (b1 + 3))]) rfl ?_
        obtain ⟨S_12, hv, hf⟩ := gbv_some hf
        refine g_V (As := [.int x5, .int v_9, .int v_11]) (rest := []) cx hw hS (c_X0_payRent l G hb1 x5 v_9 v_11 S_10 S_12 hv) (Nat.lt_of_lt_of_le (hb1.lt (j := 3) (by omega)) hN) (he_s3 hb1) rfl rfl gw_564 gy_X0_payRent gi_X0_payRent ⟨Nat.le_of_ble_eq_true rfl, Nat.le_of_ble_eq_true rfl⟩ ⟨Nat.zero_le _, Nat.zero_le _⟩ rfl hl.1 rfl (Nat.le_of_ble_eq_true rfl) dX4_carry_118 (fun H locs hw hS => ?_)
        refine W.eq (g2 := F0 m 121 ls []) rfl ?_
        obtain ⟨x7_13, ex7_13, hf⟩ := gvi_ex hf
        refine lv_iinc (v := x7_13) (lv' := [(7, .int x7_13), (8, .int v_7), (0, .ref (G.2.1 8)), (1, .ref (G.2.1 b1)), (2, .int x2), (3, .int x3), (4, .ref (G.2.1 (b1 + 2))), (5, .int x5)]) cx.1 cx.2.1 dX4_carry_121 hl (k := 7) rfl (by rw [← ex7_13]; rfl) (by decide) rfl (fun ls hl => ?_)
        refine lv_goto (tgt := 62) cx.1 cx.2.1 dX4_carry_124 (by decide) ?_
        exact hK62 S_12 x2 x3 x5 x7_13 _ _ _ hw hS (lv_sub hl [2, 3, 4, 5, 6, 7, 0] rfl) hf
  have hl : lv_has ls 9 [(0, .ref (G.2.1 8)), (1, .ref (G.2.1 b1)), (2, .int a2), (3, .int a3)] := hl
  unfold f_X4_carry at hf
  refine lv_aload_n cx.1 cx.2.1 dX4_carry_0 rfl (lv_at hl 1 rfl) ?_
  refine g_get (C := RX7) (T := TX7) (N := 9) (v := .ref (G.2.1 (b1 + 2))) cx hw inlX7 b1 (Nat.lt_of_lt_of_le hb1.lt0 hN) (he_s0 hb1) rfl 1 (by decide) gw_548 rfl rfl dX4_carry_1 ?_
  refine lv_astore (lv' := [(4, .ref (G.2.1 (b1 + 2))), (0, .ref (G.2.1 8)), (1, .ref (G.2.1 b1)), (2, .int a2), (3, .int a3)]) cx.1 cx.2.1 dX4_carry_4 hl (by decide) rfl (fun ls hl => ?_)
  refine lv_aload cx.1 cx.2.1 dX4_carry_6 (lv_at hl 0 rfl) ?_
  refine lv_iload_n cx.1 cx.2.1 dX4_carry_8 rfl (lv_at hl 3 rfl) ?_
  obtain ⟨v_15, S_14, hv, hf⟩ := gbi_some hf
  refine g_V (As := [.int a2]) (rest := []) cx hw hS (c_X1_holderOf l G hb1 a2 S v_15 S_14 hv) (Nat.lt_of_lt_of_le (hb1.lt (j := 2) (by omega)) hN) (he_s2 hb1) rfl rfl gw_553 gy_X1_holderOf gi_X1_holderOf ⟨Nat.le_of_ble_eq_true rfl, Nat.le_of_ble_eq_true rfl⟩ ⟨Nat.zero_le _, Nat.zero_le _⟩ rfl hl.1 rfl (Nat.le_of_ble_eq_true rfl) dX4_carry_9 (fun H locs hw hS => ?_)
  refine W.eq (g2 := F0 m 12 ls [.int v_15]) rfl ?_
  refine lv_istore (lv' := [(5, .int v_15), (4, .ref (G.2.1 (b1 + 2))), (0, .ref (G.2.1 8)), (1, .ref (G.2.1 b1)), (2, .int a2), (3, .int a3)]) cx.1 cx.2.1 dX4_carry_12 hl (by decide) rfl (fun ls hl => ?_)
  refine lv_iconst (v := (4 : Int32)) cx.1 cx.2.1 dX4_carry_14 (by decide) ?_
  refine lv_aload_n cx.1 cx.2.1 dX4_carry_15 rfl (lv_at hl 3 rfl) ?_
  refine g_get (C := RX7) (T := TX7) (N := 9) (v := .ref (G.2.1 (b1 + 3))) cx hw inlX7 b1 (Nat.lt_of_lt_of_le hb1.lt0 hN) (he_s0 hb1) rfl 2 (by decide) gw_550 rfl rfl dX4_carry_16 ?_
  refine lv_iload cx.1 cx.2.1 dX4_carry_19 (lv_at hl 0 rfl) ?_
  refine lv_iload_n cx.1 cx.2.1 dX4_carry_21 rfl (lv_at hl 5 rfl) ?_
  obtain ⟨v_17, S_16, hv, hf⟩ := gbi_some hf
  refine g_V (As := [.int v_15, .int a3]) (rest := [.int (4 : Int32)]) cx hw hS (c_X0_levelOf l G hb1 v_15 a3 S_14 v_17 S_16 hv) (Nat.lt_of_lt_of_le (hb1.lt (j := 3) (by omega)) hN) (he_s3 hb1) rfl rfl gw_555 gy_X0_levelOf gi_X0_levelOf ⟨Nat.le_of_ble_eq_true rfl, Nat.le_of_ble_eq_true rfl⟩ ⟨Nat.zero_le _, Nat.zero_le _⟩ rfl hl.1 rfl (Nat.le_of_ble_eq_true rfl) dX4_carry_22 (fun H locs hw hS => ?_)
  refine W.eq (g2 := F0 m 25 ls [.int v_17, .int (4 : Int32)]) rfl ?_
  refine lv_imul cx.1 cx.2.1 dX4_carry_25 ?_
  obtain ⟨x6_18, ex6_18, hf⟩ := gvi_ex hf
  refine W.eq (g2 := F0 m 26 ls [.int x6_18]) (by rw [← ex6_18]) ?_
  refine lv_istore (lv' := [(6, .int x6_18), (5, .int v_15), (4, .ref (G.2.1 (b1 + 2))), (0, .ref (G.2.1 8)), (1, .ref (G.2.1 b1)), (2, .int a2), (3, .int a3)]) cx.1 cx.2.1 dX4_carry_26 hl (by decide) rfl (fun ls hl => ?_)
  refine lv_aload_n cx.1 cx.2.1 dX4_carry_28 rfl (lv_at hl 3 rfl) ?_
  refine g_get (C := RX4) (T := TX4) (N := 1) (v := .ref (G.2.1 9)) cx hw inlX4 8 (by omega) he_c8 rfl 0 (by decide) gw_97 rfl rfl dX4_carry_29 ?_
  refine lv_aload_n cx.1 cx.2.1 dX4_carry_32 rfl (lv_at hl 4 rfl) ?_
  refine lv_iload cx.1 cx.2.1 dX4_carry_33 (lv_at hl 1 rfl) ?_
  refine lv_aload cx.1 cx.2.1 dX4_carry_35 (lv_at hl 2 rfl) ?_
  refine g_get (C := RX1) (T := TX1) (N := 7) (v := .ref (G.2.1 (b1 + 8))) cx hw inlX1 (b1 + 2) (Nat.lt_of_lt_of_le (hb1.lt (j := 2) (by omega)) hN) (he_s2 hb1) rfl 0 (by decide) gw_551 rfl rfl dX4_carry_37 ?_
  refine lv_iload_n cx.1 cx.2.1 dX4_carry_40 rfl (lv_at hl 5 rfl) ?_
  obtain ⟨v_20, S_19, hv, hf⟩ := gbi_some hf
  refine g_N (As := [.ref (G.2.1 (b1 + 8)), .int a2]) (rest := [.int v_15, .ref (G.2.1 b1), .ref (G.2.1 9)]) cx hw hS (c_X10_at l G (ia_s8 hN hb1) a2 S_16 v_20 S_19 hv) gnm_32 gy_X10_at gi_X10_at ⟨Nat.le_of_ble_eq_true rfl, Nat.le_of_ble_eq_true rfl⟩ ⟨Nat.zero_le _, Nat.zero_le _⟩ rfl hl.1 rfl (Nat.le_of_ble_eq_true rfl) dX4_carry_41 (fun H locs hw hS => ?_)
  refine W.eq (g2 := F0 m 44 ls [.int v_20, .int v_15, .ref (G.2.1 b1), .ref (G.2.1 9)]) rfl ?_
  refine lv_aload cx.1 cx.2.1 dX4_carry_44 (lv_at hl 2 rfl) ?_
  refine g_get (C := RX1) (T := TX1) (N := 7) (v := .ref (G.2.1 (b1 + 9))) cx hw inlX1 (b1 + 2) (Nat.lt_of_lt_of_le (hb1.lt (j := 2) (by omega)) hN) (he_s2 hb1) rfl 1 (by decide) gw_552 rfl rfl dX4_carry_46 ?_
  refine lv_iload_n cx.1 cx.2.1 dX4_carry_49 rfl (lv_at hl 5 rfl) ?_
  obtain ⟨v_22, S_21, hv, hf⟩ := gbi_some hf
  refine g_N (As := [.ref (G.2.1 (b1 + 9)), .int a2]) (rest := [.int v_20, .int v_15, .ref (G.2.1 b1), .ref (G.2.1 9)]) cx hw hS (c_X10_at l G (ia_s9 hN hb1) a2 S_19 v_22 S_21 hv) gnm_32 gy_X10_at gi_X10_at ⟨Nat.le_of_ble_eq_true rfl, Nat.le_of_ble_eq_true rfl⟩ ⟨Nat.zero_le _, Nat.zero_le _⟩ rfl hl.1 rfl (Nat.le_of_ble_eq_true rfl) dX4_carry_50 (fun H locs hw hS => ?_)
  refine W.eq (g2 := F0 m 53 ls [.int v_22, .int v_20, .int v_15, .ref (G.2.1 b1), .ref (G.2.1 9)]) rfl ?_
  refine lv_iload cx.1 cx.2.1 dX4_carry_53 (lv_at hl 0 rfl) ?_
  obtain ⟨v_24, S_23, hv, hf⟩ := gbi_some hf
  refine g_V (As := [.ref (G.2.1 b1), .int v_15, .int v_20, .int v_22, .int x6_18]) (rest := []) cx hw hS (c_X9_find l G hb1 v_15 v_20 v_22 x6_18 S_21 v_24 S_23 hv) (by omega) he_c9 rfl rfl gw_556 gy_X9_find gi_X9_find ⟨Nat.le_of_ble_eq_true rfl, Nat.le_of_ble_eq_true rfl⟩ ⟨Nat.zero_le _, Nat.zero_le _⟩ rfl hl.1 rfl (Nat.le_of_ble_eq_true rfl) dX4_carry_55 (fun H locs hw hS => ?_)
  refine W.eq (g2 := F0 m 58 ls [.int v_24]) rfl ?_
  refine lv_pop cx.1 cx.2.1 dX4_carry_58 rfl ?_
  refine lv_iconst (v := (0 : Int32)) cx.1 cx.2.1 dX4_carry_59 (by decide) ?_
  refine lv_istore (lv' := [(7, .int (0 : Int32)), (6, .int x6_18), (5, .int v_15), (4, .ref (G.2.1 (b1 + 2))), (0, .ref (G.2.1 8)), (1, .ref (G.2.1 b1)), (2, .int a2), (3, .int a3)]) cx.1 cx.2.1 dX4_carry_60 hl (by decide) rfl (fun ls hl => ?_)
  exact hL_62 gFu S_23 a2 a3 v_15 (0 : Int32) _ _ _ hw hS (lv_sub hl [4, 5, 6, 7, 3, 2, 0] rfl) hf
set_option maxHeartbeats 4000000 in
set_option maxRecDepth 100000 in
theorem c_X4_reasonAgainst (l : Launch) (G : gG) {b1 : Nat} (hb1 : IsSt b1) (a2 : Int32) (a3 : Int32) (S : Sg) (r : Int32) (S' : Sg) (hf : f_X4_reasonAgainst b1 a2 a3 S = some (r, S')) : Ct l yX4_reasonAgainst [Cond.code yX4_reasonAgainst cX4_reasonAgainst 7 (some .int)] (gR 4 97) G [.ref (G.2.1 8), .ref (G.2.1 b1), .int a2, .int a3] S (some (.int r)) S' := by
  refine Ct_of (by decide) (Nat.le_of_ble_eq_true rfl) ?_
  intro p e s m below meth c ls cx hr hlk hw hS hl
  have hN := cx.2.2.2.2.hN
  have hl : lv_has ls 7 [(0, .ref (G.2.1 8)), (1, .ref (G.2.1 b1)), (2, .int a2), (3, .int a3)] := hl
  unfold f_X4_reasonAgainst at hf
  refine lv_aload_n cx.1 cx.2.1 dX4_reasonAgainst_0 rfl (lv_at hl 1 rfl) ?_
  refine g_get (C := RX7) (T := TX7) (N := 9) (v := .ref (G.2.1 (b1 + 2))) cx hw inlX7 b1 (Nat.lt_of_lt_of_le hb1.lt0 hN) (he_s0 hb1) rfl 1 (by decide) gw_548 rfl rfl dX4_reasonAgainst_1 ?_
  refine lv_astore (lv' := [(4, .ref (G.2.1 (b1 + 2))), (0, .ref (G.2.1 8)), (1, .ref (G.2.1 b1)), (2, .int a2), (3, .int a3)]) cx.1 cx.2.1 dX4_reasonAgainst_4 hl (by decide) rfl (fun ls hl => ?_)
  refine lv_aload cx.1 cx.2.1 dX4_reasonAgainst_6 (lv_at hl 0 rfl) ?_
  refine lv_iload_n cx.1 cx.2.1 dX4_reasonAgainst_8 rfl (lv_at hl 3 rfl) ?_
  obtain ⟨v_2, S_1, hv, hf⟩ := gbi_some hf
  refine g_V (As := [.int a2]) (rest := []) cx hw hS (c_X1_holderOf l G hb1 a2 S v_2 S_1 hv) (Nat.lt_of_lt_of_le (hb1.lt (j := 2) (by omega)) hN) (he_s2 hb1) rfl rfl gw_553 gy_X1_holderOf gi_X1_holderOf ⟨Nat.le_of_ble_eq_true rfl, Nat.le_of_ble_eq_true rfl⟩ ⟨Nat.zero_le _, Nat.zero_le _⟩ rfl hl.1 rfl (Nat.le_of_ble_eq_true rfl) dX4_reasonAgainst_9 (fun H locs hw hS => ?_)
  refine W.eq (g2 := F0 m 12 ls [.int v_2]) rfl ?_
  refine lv_istore (lv' := [(5, .int v_2), (4, .ref (G.2.1 (b1 + 2))), (0, .ref (G.2.1 8)), (1, .ref (G.2.1 b1)), (2, .int a2), (3, .int a3)]) cx.1 cx.2.1 dX4_reasonAgainst_12 hl (by decide) rfl (fun ls hl => ?_)
  refine lv_iload cx.1 cx.2.1 dX4_reasonAgainst_14 (lv_at hl 0 rfl) ?_
  refine lv_bipush (v := (-9 : Int32)) cx.1 cx.2.1 dX4_reasonAgainst_16 (by decide) ?_
  refine lv_icmp_ne (tgt := 23) cx.1 cx.2.1 dX4_reasonAgainst_18 (by decide) (fun hc => ?_) (fun hc => ?_)
  · rw [if_neg hc] at hf
    refine lv_aload cx.1 cx.2.1 dX4_reasonAgainst_23 (lv_at hl 1 rfl) ?_
    refine g_get (C := RX1) (T := TX1) (N := 7) (v := .ref (G.2.1 (b1 + 13))) cx hw inlX1 (b1 + 2) (Nat.lt_of_lt_of_le (hb1.lt (j := 2) (by omega)) hN) (he_s2 hb1) rfl 5 (by decide) gw_549 rfl rfl dX4_reasonAgainst_25 ?_
    refine lv_iload_n cx.1 cx.2.1 dX4_reasonAgainst_28 rfl (lv_at hl 4 rfl) ?_
    obtain ⟨v_4, S_3, hv, hf⟩ := gbi_some hf
    refine g_N (As := [.ref (G.2.1 (b1 + 13)), .int a2]) (rest := []) cx hw hS (c_X10_at l G (ia_s13 hN hb1) a2 S_1 v_4 S_3 hv) gnm_32 gy_X10_at gi_X10_at ⟨Nat.le_of_ble_eq_true rfl, Nat.le_of_ble_eq_true rfl⟩ ⟨Nat.zero_le _, Nat.zero_le _⟩ rfl hl.1 rfl (Nat.le_of_ble_eq_true rfl) dX4_reasonAgainst_29 (fun H locs hw hS => ?_)
    refine W.eq (g2 := F0 m 32 ls [.int v_4]) rfl ?_
    refine lv_iconst (v := (1 : Int32)) cx.1 cx.2.1 dX4_reasonAgainst_32 (by decide) ?_
    refine lv_icmp_ne (tgt := 38) cx.1 cx.2.1 dX4_reasonAgainst_33 (by decide) (fun hc => ?_) (fun hc => ?_)
    · rw [if_neg hc] at hf
      refine lv_aload_n cx.1 cx.2.1 dX4_reasonAgainst_38 rfl (lv_at hl 3 rfl) ?_
      refine g_get (C := RX7) (T := TX7) (N := 9) (v := .ref (G.2.1 (b1 + 3))) cx hw inlX7 b1 (Nat.lt_of_lt_of_le hb1.lt0 hN) (he_s0 hb1) rfl 2 (by decide) gw_550 rfl rfl dX4_reasonAgainst_39 ?_
      refine lv_iload cx.1 cx.2.1 dX4_reasonAgainst_42 (lv_at hl 0 rfl) ?_
      refine lv_iload_n cx.1 cx.2.1 dX4_reasonAgainst_44 rfl (lv_at hl 5 rfl) ?_
      obtain ⟨v_6, S_5, hv, hf⟩ := gbi_some hf
      refine g_V (As := [.int v_2, .int a3]) (rest := []) cx hw hS (c_X0_hasRun l G hb1 v_2 a3 S_3 v_6 S_5 hv) (Nat.lt_of_lt_of_le (hb1.lt (j := 3) (by omega)) hN) (he_s3 hb1) rfl rfl gw_554 gy_X0_hasRun gi_X0_hasRun ⟨Nat.le_of_ble_eq_true rfl, Nat.le_of_ble_eq_true rfl⟩ ⟨Nat.zero_le _, Nat.zero_le _⟩ rfl hl.1 rfl (Nat.le_of_ble_eq_true rfl) dX4_reasonAgainst_45 (fun H locs hw hS => ?_)
      refine W.eq (g2 := F0 m 48 ls [.int v_6]) rfl ?_
      refine lv_if_eq (tgt := 53) cx.1 cx.2.1 dX4_reasonAgainst_48 (by decide) (fun hc => ?_) (fun hc => ?_)
      · rw [if_pos hc] at hf
        refine lv_iconst (v := (4 : Int32)) cx.1 cx.2.1 dX4_reasonAgainst_53 (by decide) ?_
        refine lv_aload_n cx.1 cx.2.1 dX4_reasonAgainst_54 rfl (lv_at hl 3 rfl) ?_
        refine g_get (C := RX7) (T := TX7) (N := 9) (v := .ref (G.2.1 (b1 + 3))) cx hw inlX7 b1 (Nat.lt_of_lt_of_le hb1.lt0 hN) (he_s0 hb1) rfl 2 (by decide) gw_550 rfl rfl dX4_reasonAgainst_55 ?_
        refine lv_iload cx.1 cx.2.1 dX4_reasonAgainst_58 (lv_at hl 0 rfl) ?_
        refine lv_iload_n cx.1 cx.2.1 dX4_reasonAgainst_60 rfl (lv_at hl 5 rfl) ?_
        obtain ⟨v_8, S_7, hv, hf⟩ := gbi_some hf
        refine g_V (As := [.int v_2, .int a3]) (rest := [.int (4 : Int32)]) cx hw hS (c_X0_levelOf l G hb1 v_2 a3 S_5 v_8 S_7 hv) (Nat.lt_of_lt_of_le (hb1.lt (j := 3) (by omega)) hN) (he_s3 hb1) rfl rfl gw_555 gy_X0_levelOf gi_X0_levelOf ⟨Nat.le_of_ble_eq_true rfl, Nat.le_of_ble_eq_true rfl⟩ ⟨Nat.zero_le _, Nat.zero_le _⟩ rfl hl.1 rfl (Nat.le_of_ble_eq_true rfl) dX4_reasonAgainst_61 (fun H locs hw hS => ?_)
        refine W.eq (g2 := F0 m 64 ls [.int v_8, .int (4 : Int32)]) rfl ?_
        refine lv_imul cx.1 cx.2.1 dX4_reasonAgainst_64 ?_
        obtain ⟨x6_9, ex6_9, hf⟩ := gvi_ex hf
        refine W.eq (g2 := F0 m 65 ls [.int x6_9]) (by rw [← ex6_9]) ?_
        refine lv_istore (lv' := [(6, .int x6_9), (5, .int v_2), (4, .ref (G.2.1 (b1 + 2))), (0, .ref (G.2.1 8)), (1, .ref (G.2.1 b1)), (2, .int a2), (3, .int a3)]) cx.1 cx.2.1 dX4_reasonAgainst_65 hl (by decide) rfl (fun ls hl => ?_)
        refine lv_aload_n cx.1 cx.2.1 dX4_reasonAgainst_67 rfl (lv_at hl 3 rfl) ?_
        refine g_get (C := RX4) (T := TX4) (N := 1) (v := .ref (G.2.1 9)) cx hw inlX4 8 (by omega) he_c8 rfl 0 (by decide) gw_97 rfl rfl dX4_reasonAgainst_68 ?_
        refine lv_aload_n cx.1 cx.2.1 dX4_reasonAgainst_71 rfl (lv_at hl 4 rfl) ?_
        refine lv_iload cx.1 cx.2.1 dX4_reasonAgainst_72 (lv_at hl 1 rfl) ?_
        refine lv_aload cx.1 cx.2.1 dX4_reasonAgainst_74 (lv_at hl 2 rfl) ?_
        refine g_get (C := RX1) (T := TX1) (N := 7) (v := .ref (G.2.1 (b1 + 8))) cx hw inlX1 (b1 + 2) (Nat.lt_of_lt_of_le (hb1.lt (j := 2) (by omega)) hN) (he_s2 hb1) rfl 0 (by decide) gw_551 rfl rfl dX4_reasonAgainst_76 ?_
        refine lv_iload_n cx.1 cx.2.1 dX4_reasonAgainst_79 rfl (lv_at hl 5 rfl) ?_
        obtain ⟨v_11, S_10, hv, hf⟩ := gbi_some hf
        refine g_N (As := [.ref (G.2.1 (b1 + 8)), .int a2]) (rest := [.int v_2, .ref (G.2.1 b1), .ref (G.2.1 9)]) cx hw hS (c_X10_at l G (ia_s8 hN hb1) a2 S_7 v_11 S_10 hv) gnm_32 gy_X10_at gi_X10_at ⟨Nat.le_of_ble_eq_true rfl, Nat.le_of_ble_eq_true rfl⟩ ⟨Nat.zero_le _, Nat.zero_le _⟩ rfl hl.1 rfl (Nat.le_of_ble_eq_true rfl) dX4_reasonAgainst_80 (fun H locs hw hS => ?_)
        refine W.eq (g2 := F0 m 83 ls [.int v_11, .int v_2, .ref (G.2.1 b1), .ref (G.2.1 9)]) rfl ?_
        refine lv_aload cx.1 cx.2.1 dX4_reasonAgainst_83 (lv_at hl 2 rfl) ?_
        refine g_get (C := RX1) (T := TX1) (N := 7) (v := .ref (G.2.1 (b1 + 9))) cx hw inlX1 (b1 + 2) (Nat.lt_of_lt_of_le (hb1.lt (j := 2) (by omega)) hN) (he_s2 hb1) rfl 1 (by decide) gw_552 rfl rfl dX4_reasonAgainst_85 ?_
        refine lv_iload_n cx.1 cx.2.1 dX4_reasonAgainst_88 rfl (lv_at hl 5 rfl) ?_
        obtain ⟨v_13, S_12, hv, hf⟩ := gbi_some hf
        refine g_N (As := [.ref (G.2.1 (b1 + 9)), .int a2]) (rest := [.int v_11, .int v_2, .ref (G.2.1 b1), .ref (G.2.1 9)]) cx hw hS (c_X10_at l G (ia_s9 hN hb1) a2 S_10 v_13 S_12 hv) gnm_32 gy_X10_at gi_X10_at ⟨Nat.le_of_ble_eq_true rfl, Nat.le_of_ble_eq_true rfl⟩ ⟨Nat.zero_le _, Nat.zero_le _⟩ rfl hl.1 rfl (Nat.le_of_ble_eq_true rfl) dX4_reasonAgainst_89 (fun H locs hw hS => ?_)
        refine W.eq (g2 := F0 m 92 ls [.int v_13, .int v_11, .int v_2, .ref (G.2.1 b1), .ref (G.2.1 9)]) rfl ?_
        refine lv_iload cx.1 cx.2.1 dX4_reasonAgainst_92 (lv_at hl 0 rfl) ?_
        obtain ⟨v_15, S_14, hv, hf⟩ := gbi_some hf
        refine g_V (As := [.ref (G.2.1 b1), .int v_2, .int v_11, .int v_13, .int x6_9]) (rest := []) cx hw hS (c_X9_find l G hb1 v_2 v_11 v_13 x6_9 S_12 v_15 S_14 hv) (by omega) he_c9 rfl rfl gw_556 gy_X9_find gi_X9_find ⟨Nat.le_of_ble_eq_true rfl, Nat.le_of_ble_eq_true rfl⟩ ⟨Nat.zero_le _, Nat.zero_le _⟩ rfl hl.1 rfl (Nat.le_of_ble_eq_true rfl) dX4_reasonAgainst_94 (fun H locs hw hS => ?_)
        refine W.eq (g2 := F0 m 97 ls [.int v_15]) rfl ?_
        refine lv_if_eq (tgt := 104) cx.1 cx.2.1 dX4_reasonAgainst_97 (by decide) (fun hc => ?_) (fun hc => ?_)
        · rw [if_pos hc] at hf
          refine lv_iconst (v := (4 : Int32)) cx.1 cx.2.1 dX4_reasonAgainst_104 (by decide) ?_
          exact g_ireti cx hr hlk hw hS hf dX4_reasonAgainst_105
        · rw [if_neg hc] at hf
          refine lv_iconst (v := (0 : Int32)) cx.1 cx.2.1 dX4_reasonAgainst_100 (by decide) ?_
          refine lv_goto (tgt := 105) cx.1 cx.2.1 dX4_reasonAgainst_101 (by decide) ?_
          exact g_ireti cx hr hlk hw hS hf dX4_reasonAgainst_105
      · rw [if_neg hc] at hf
        refine lv_iconst (v := (3 : Int32)) cx.1 cx.2.1 dX4_reasonAgainst_51 (by decide) ?_
        exact g_ireti cx hr hlk hw hS hf dX4_reasonAgainst_52
    · rw [if_pos hc] at hf
      refine lv_iconst (v := (2 : Int32)) cx.1 cx.2.1 dX4_reasonAgainst_36 (by decide) ?_
      exact g_ireti cx hr hlk hw hS hf dX4_reasonAgainst_37
  · rw [if_pos hc] at hf
    refine lv_iconst (v := (1 : Int32)) cx.1 cx.2.1 dX4_reasonAgainst_21 (by decide) ?_
    exact g_ireti cx hr hlk hw hS hf dX4_reasonAgainst_22
set_option maxHeartbeats 4000000 in
set_option maxRecDepth 100000 in
theorem c_X4_tryCarry (l : Launch) (G : gG) {b1 : Nat} (hb1 : IsSt b1) (a2 : Int32) (a3 : Int32) (S : Sg) (r : Int32) (S' : Sg) (hf : f_X4_tryCarry b1 a2 a3 S = some (r, S')) : Ct l yX4_tryCarry [Cond.code yX4_tryCarry cX4_tryCarry 5 (some .boolean)] (gR 5 125) G [.ref (G.2.1 8), .ref (G.2.1 b1), .int a2, .int a3] S (some (.int r)) S' := by
  refine Ct_of (by decide) (Nat.le_of_ble_eq_true rfl) ?_
  intro p e s m below meth c ls cx hr hlk hw hS hl
  have hN := cx.2.2.2.2.hN
  have hB_34 : ∀ (S : Sg) (x2 : Int32) (x3 : Int32) (t0 : Int32) (H : Heap) (locs : List Loc) (ls : Array Slot), gP G S H → va_S (gA G s.heap.size) s.heap H locs → lv_has ls 5 [(0, .ref (G.2.1 8)), (1, .ref (G.2.1 b1)), (2, .int x2), (3, .int x3)] → B_X4_tryCarry_34 b1 S x2 x3 t0 = some (r, S') → W p l e (gR 5 125) s m ([.ref (G.2.1 8), .ref (G.2.1 b1), .int a2, .int a3] : List Value).toArray below meth c H locs 0 0 (MQ below (gQ G S' (some (.int r)) (gA G s.heap.size)) ([.ref (G.2.1 8), .ref (G.2.1 b1), .int a2, .int a3] : List Value).toArray s 0 0 (gA G s.heap.size)) (F0 m 34 ls [.int t0]) := by
    intro S x2 x3 t0 H locs ls hw hS hl hf
    unfold B_X4_tryCarry_34 at hf
    refine lv_istore (lv' := [(4, .int t0), (0, .ref (G.2.1 8)), (1, .ref (G.2.1 b1)), (2, .int x2), (3, .int x3)]) cx.1 cx.2.1 dX4_tryCarry_34 hl (by decide) rfl (fun ls hl => ?_)
    refine lv_iload cx.1 cx.2.1 dX4_tryCarry_36 (lv_at hl 0 rfl) ?_
    refine lv_if_eq (tgt := 49) cx.1 cx.2.1 dX4_tryCarry_38 (by decide) (fun hc => ?_) (fun hc => ?_)
    · rw [if_pos hc] at hf
      refine lv_iload cx.1 cx.2.1 dX4_tryCarry_49 (lv_at hl 0 rfl) ?_
      obtain ⟨hbo, hf⟩ := gck_some hf
      exact g_zreti cx hr hlk hw hS hbo hf dX4_tryCarry_51
    · rw [if_neg hc] at hf
      refine lv_aload_n cx.1 cx.2.1 dX4_tryCarry_41 rfl (lv_at hl 1 rfl) ?_
      refine lv_aload_n cx.1 cx.2.1 dX4_tryCarry_42 rfl (lv_at hl 2 rfl) ?_
      refine lv_iload_n cx.1 cx.2.1 dX4_tryCarry_43 rfl (lv_at hl 3 rfl) ?_
      refine lv_iload_n cx.1 cx.2.1 dX4_tryCarry_44 rfl (lv_at hl 4 rfl) ?_
      obtain ⟨v_2, S_1, hv, hf⟩ := gbi_some hf
      refine g_V (As := [.ref (G.2.1 b1), .int x2, .int x3]) (rest := []) cx hw hS (c_X4_carry l G hb1 x2 x3 S v_2 S_1 hv) (by omega) he_c8 rfl rfl gw_742 gy_X4_carry gi_X4_carry ⟨Nat.le_of_ble_eq_true rfl, Nat.le_of_ble_eq_true rfl⟩ ⟨Nat.zero_le _, Nat.zero_le _⟩ rfl hl.1 rfl (Nat.le_of_ble_eq_true rfl) dX4_tryCarry_45 (fun H locs hw hS => ?_)
      refine W.eq (g2 := F0 m 48 ls [.int v_2]) rfl ?_
      refine lv_pop cx.1 cx.2.1 dX4_tryCarry_48 rfl ?_
      refine lv_iload cx.1 cx.2.1 dX4_tryCarry_49 (lv_at hl 0 rfl) ?_
      obtain ⟨hbo, hf⟩ := gck_some hf
      exact g_zreti cx hr hlk hw hS hbo hf dX4_tryCarry_51
  have hl : lv_has ls 5 [(0, .ref (G.2.1 8)), (1, .ref (G.2.1 b1)), (2, .int a2), (3, .int a3)] := hl
  unfold f_X4_tryCarry at hf
  refine lv_aload_n cx.1 cx.2.1 dX4_tryCarry_0 rfl (lv_at hl 1 rfl) ?_
  refine g_get (C := RX7) (T := TX7) (N := 9) (v := .ref (G.2.1 (b1 + 3))) cx hw inlX7 b1 (Nat.lt_of_lt_of_le hb1.lt0 hN) (he_s0 hb1) rfl 2 (by decide) gw_550 rfl rfl dX4_tryCarry_1 ?_
  refine lv_aload_n cx.1 cx.2.1 dX4_tryCarry_4 rfl (lv_at hl 1 rfl) ?_
  refine g_get (C := RX7) (T := TX7) (N := 9) (v := .ref (G.2.1 (b1 + 2))) cx hw inlX7 b1 (Nat.lt_of_lt_of_le hb1.lt0 hN) (he_s0 hb1) rfl 1 (by decide) gw_548 rfl rfl dX4_tryCarry_5 ?_
  refine lv_iload_n cx.1 cx.2.1 dX4_tryCarry_8 rfl (lv_at hl 2 rfl) ?_
  obtain ⟨v_4, S_3, hv, hf⟩ := gbi_some hf
  refine g_V (As := [.int a2]) (rest := [.ref (G.2.1 (b1 + 3))]) cx hw hS (c_X1_holderOf l G hb1 a2 S v_4 S_3 hv) (Nat.lt_of_lt_of_le (hb1.lt (j := 2) (by omega)) hN) (he_s2 hb1) rfl rfl gw_553 gy_X1_holderOf gi_X1_holderOf ⟨Nat.le_of_ble_eq_true rfl, Nat.le_of_ble_eq_true rfl⟩ ⟨Nat.zero_le _, Nat.zero_le _⟩ rfl hl.1 rfl (Nat.le_of_ble_eq_true rfl) dX4_tryCarry_9 (fun H locs hw hS => ?_)
  refine W.eq (g2 := F0 m 12 ls [.int v_4, .ref (G.2.1 (b1 + 3))]) rfl ?_
  refine lv_iload_n cx.1 cx.2.1 dX4_tryCarry_12 rfl (lv_at hl 3 rfl) ?_
  obtain ⟨v_6, S_5, hv, hf⟩ := gbi_some hf
  refine g_V (As := [.int v_4, .int a3]) (rest := []) cx hw hS (c_X0_hasTrain l G hb1 v_4 a3 S_3 v_6 S_5 hv) (Nat.lt_of_lt_of_le (hb1.lt (j := 3) (by omega)) hN) (he_s3 hb1) rfl rfl gw_740 gy_X0_hasTrain gi_X0_hasTrain ⟨Nat.le_of_ble_eq_true rfl, Nat.le_of_ble_eq_true rfl⟩ ⟨Nat.zero_le _, Nat.zero_le _⟩ rfl hl.1 rfl (Nat.le_of_ble_eq_true rfl) dX4_tryCarry_13 (fun H locs hw hS => ?_)
  refine W.eq (g2 := F0 m 16 ls [.int v_6]) rfl ?_
  refine lv_if_eq (tgt := 33) cx.1 cx.2.1 dX4_tryCarry_16 (by decide) (fun hc => ?_) (fun hc => ?_)
  · rw [if_pos hc] at hf
    refine lv_iconst (v := (0 : Int32)) cx.1 cx.2.1 dX4_tryCarry_33 (by decide) ?_
    exact hB_34 S_5 a2 a3 (0 : Int32) _ _ _ hw hS (lv_sub hl [0, 1, 2, 3] rfl) hf
  · rw [if_neg hc] at hf
    refine lv_aload_n cx.1 cx.2.1 dX4_tryCarry_19 rfl (lv_at hl 0 rfl) ?_
    refine lv_aload_n cx.1 cx.2.1 dX4_tryCarry_20 rfl (lv_at hl 1 rfl) ?_
    refine lv_iload_n cx.1 cx.2.1 dX4_tryCarry_21 rfl (lv_at hl 2 rfl) ?_
    refine lv_iload_n cx.1 cx.2.1 dX4_tryCarry_22 rfl (lv_at hl 3 rfl) ?_
    obtain ⟨v_8, S_7, hv, hf⟩ := gbi_some hf
    refine g_V (As := [.ref (G.2.1 b1), .int a2, .int a3]) (rest := []) cx hw hS (c_X4_reasonAgainst l G hb1 a2 a3 S_5 v_8 S_7 hv) (by omega) he_c8 rfl rfl gw_741 gy_X4_reasonAgainst gi_X4_reasonAgainst ⟨Nat.le_of_ble_eq_true rfl, Nat.le_of_ble_eq_true rfl⟩ ⟨Nat.zero_le _, Nat.zero_le _⟩ rfl hl.1 rfl (Nat.le_of_ble_eq_true rfl) dX4_tryCarry_23 (fun H locs hw hS => ?_)
    refine W.eq (g2 := F0 m 26 ls [.int v_8]) rfl ?_
    refine lv_if_ne (tgt := 33) cx.1 cx.2.1 dX4_tryCarry_26 (by decide) (fun hc => ?_) (fun hc => ?_)
    · rw [if_neg hc] at hf
      refine lv_iconst (v := (0 : Int32)) cx.1 cx.2.1 dX4_tryCarry_33 (by decide) ?_
      exact hB_34 S_7 a2 a3 (0 : Int32) _ _ _ hw hS (lv_sub hl [0, 1, 2, 3] rfl) hf
    · rw [if_pos hc] at hf
      refine lv_iconst (v := (1 : Int32)) cx.1 cx.2.1 dX4_tryCarry_29 (by decide) ?_
      refine lv_goto (tgt := 34) cx.1 cx.2.1 dX4_tryCarry_30 (by decide) ?_
      exact hB_34 S_7 a2 a3 (1 : Int32) _ _ _ hw hS (lv_sub hl [0, 1, 2, 3] rfl) hf
set_option maxHeartbeats 4000000 in
set_option maxRecDepth 100000 in
theorem c_X4_carryAll (l : Launch) (G : gG) {b1 : Nat} (hb1 : IsSt b1) (S : Sg) (S' : Sg) (hf : f_X4_carryAll b1 S = some S') : Ct l yX4_carryAll [Cond.code yX4_carryAll cX4_carryAll 4 none] (gR 6 149) G [.ref (G.2.1 8), .ref (G.2.1 b1)] S none S' := by
  refine Ct_of (by decide) (Nat.le_of_ble_eq_true rfl) ?_
  intro p e s m below meth c ls cx hr hlk hw hS hl
  have hN := cx.2.2.2.2.hN
  have hL_15 : ∀ (K2 : Sg → Int32 → Option Sg) (hK2 : ∀ (S : Sg) (x2 : Int32) (H : Heap) (locs : List Loc) (ls : Array Slot), gP G S H → va_S (gA G s.heap.size) s.heap H locs → lv_has ls 4 [(0, .ref (G.2.1 8)), (1, .ref (G.2.1 b1)), (2, .int x2)] → K2 S x2 = some S' → W p l e (gR 6 149) s m ([.ref (G.2.1 8), .ref (G.2.1 b1)] : List Value).toArray below meth c H locs 0 0 (MQ below (gQ G S' none (gA G s.heap.size)) ([.ref (G.2.1 8), .ref (G.2.1 b1)] : List Value).toArray s 0 0 (gA G s.heap.size)) (F0 m 2 ls [])), ∀ (n : Nat), ∀ (S : Sg) (x2 : Int32) (x3 : Int32) (H : Heap) (locs : List Loc) (ls : Array Slot), gP G S H → va_S (gA G s.heap.size) s.heap H locs → lv_has ls 4 [(0, .ref (G.2.1 8)), (1, .ref (G.2.1 b1)), (2, .int x2), (3, .int x3)] → L_X4_carryAll_15 b1 K2 n S x2 x3 = some S' → W p l e (gR 6 149) s m ([.ref (G.2.1 8), .ref (G.2.1 b1)] : List Value).toArray below meth c H locs 0 0 (MQ below (gQ G S' none (gA G s.heap.size)) ([.ref (G.2.1 8), .ref (G.2.1 b1)] : List Value).toArray s 0 0 (gA G s.heap.size)) (F0 m 15 ls []) := by
    intro K2 hK2 n
    induction n with
    | zero => intro S x2 x3 H locs ls hw hS hl hf; cases hf
    | succ n hK15 =>
      intro S x2 x3 H locs ls hw hS hl hf
      have hf : Lb_X4_carryAll_15 b1 K2 (L_X4_carryAll_15 b1 K2 n) S x2 x3 = some S' := hf
      unfold Lb_X4_carryAll_15 at hf
      refine lv_iload_n cx.1 cx.2.1 dX4_carryAll_15 rfl (lv_at hl 3 rfl) ?_
      refine lv_iconst (v := (4 : Int32)) cx.1 cx.2.1 dX4_carryAll_16 (by decide) ?_
      refine lv_icmp_ge (tgt := 39) cx.1 cx.2.1 dX4_carryAll_17 (by decide) (fun hc => ?_) (fun hc => ?_)
      · rw [if_pos hc] at hf
        obtain ⟨x2_1, ex2_1, hf⟩ := gvi_ex hf
        refine lv_iinc (v := x2_1) (lv' := [(2, .int x2_1), (0, .ref (G.2.1 8)), (1, .ref (G.2.1 b1)), (3, .int x3)]) cx.1 cx.2.1 dX4_carryAll_39 hl (k := 2) rfl (by rw [← ex2_1]; rfl) (by decide) rfl (fun ls hl => ?_)
        refine lv_goto (tgt := 2) cx.1 cx.2.1 dX4_carryAll_42 (by decide) ?_
        exact hK2 S x2_1 _ _ _ hw hS (lv_sub hl [1, 2, 0] rfl) hf
      · rw [if_neg hc] at hf
        refine lv_aload_n cx.1 cx.2.1 dX4_carryAll_20 rfl (lv_at hl 0 rfl) ?_
        refine lv_aload_n cx.1 cx.2.1 dX4_carryAll_21 rfl (lv_at hl 1 rfl) ?_
        refine lv_iload_n cx.1 cx.2.1 dX4_carryAll_22 rfl (lv_at hl 2 rfl) ?_
        refine lv_iload_n cx.1 cx.2.1 dX4_carryAll_23 rfl (lv_at hl 3 rfl) ?_
        obtain ⟨v_3, S_2, hv, hf⟩ := gbi_some hf
        refine g_V (As := [.ref (G.2.1 b1), .int x2, .int x3]) (rest := []) cx hw hS (c_X4_tryCarry l G hb1 x2 x3 S v_3 S_2 hv) (by omega) he_c8 rfl rfl gw_767 gy_X4_tryCarry gi_X4_tryCarry ⟨Nat.le_of_ble_eq_true rfl, Nat.le_of_ble_eq_true rfl⟩ ⟨Nat.zero_le _, Nat.zero_le _⟩ rfl hl.1 rfl (Nat.le_of_ble_eq_true rfl) dX4_carryAll_24 (fun H locs hw hS => ?_)
        refine W.eq (g2 := F0 m 27 ls [.int v_3]) rfl ?_
        refine lv_if_eq (tgt := 33) cx.1 cx.2.1 dX4_carryAll_27 (by decide) (fun hc => ?_) (fun hc => ?_)
        · rw [if_pos hc] at hf
          obtain ⟨x3_4, ex3_4, hf⟩ := gvi_ex hf
          refine lv_iinc (v := x3_4) (lv' := [(3, .int x3_4), (0, .ref (G.2.1 8)), (1, .ref (G.2.1 b1)), (2, .int x2)]) cx.1 cx.2.1 dX4_carryAll_33 hl (k := 3) rfl (by rw [← ex3_4]; rfl) (by decide) rfl (fun ls hl => ?_)
          refine lv_goto (tgt := 15) cx.1 cx.2.1 dX4_carryAll_36 (by decide) ?_
          exact hK15 S_2 x2 x3_4 _ _ _ hw hS (lv_sub hl [1, 2, 3, 0] rfl) hf
        · rw [if_neg hc] at hf
          refine lv_goto (tgt := 39) cx.1 cx.2.1 dX4_carryAll_30 (by decide) ?_
          obtain ⟨x2_5, ex2_5, hf⟩ := gvi_ex hf
          refine lv_iinc (v := x2_5) (lv' := [(2, .int x2_5), (0, .ref (G.2.1 8)), (1, .ref (G.2.1 b1)), (3, .int x3)]) cx.1 cx.2.1 dX4_carryAll_39 hl (k := 2) rfl (by rw [← ex2_5]; rfl) (by decide) rfl (fun ls hl => ?_)
          refine lv_goto (tgt := 2) cx.1 cx.2.1 dX4_carryAll_42 (by decide) ?_
          exact hK2 S_2 x2_5 _ _ _ hw hS (lv_sub hl [1, 2, 0] rfl) hf
  have hL_2 : ∀ (n : Nat), ∀ (S : Sg) (x2 : Int32) (H : Heap) (locs : List Loc) (ls : Array Slot), gP G S H → va_S (gA G s.heap.size) s.heap H locs → lv_has ls 4 [(0, .ref (G.2.1 8)), (1, .ref (G.2.1 b1)), (2, .int x2)] → L_X4_carryAll_2 b1 n S x2 = some S' → W p l e (gR 6 149) s m ([.ref (G.2.1 8), .ref (G.2.1 b1)] : List Value).toArray below meth c H locs 0 0 (MQ below (gQ G S' none (gA G s.heap.size)) ([.ref (G.2.1 8), .ref (G.2.1 b1)] : List Value).toArray s 0 0 (gA G s.heap.size)) (F0 m 2 ls []) := by
    intro n
    induction n with
    | zero => intro S x2 H locs ls hw hS hl hf; cases hf
    | succ n hK2 =>
      intro S x2 H locs ls hw hS hl hf
      have hf : Lb_X4_carryAll_2 b1 (L_X4_carryAll_2 b1 n) S x2 = some S' := hf
      unfold Lb_X4_carryAll_2 at hf
      refine lv_iload_n cx.1 cx.2.1 dX4_carryAll_2 rfl (lv_at hl 2 rfl) ?_
      refine lv_aload_n cx.1 cx.2.1 dX4_carryAll_3 rfl (lv_at hl 1 rfl) ?_
      refine g_get (C := RX7) (T := TX7) (N := 9) (v := .ref (G.2.1 (b1 + 2))) cx hw inlX7 b1 (Nat.lt_of_lt_of_le hb1.lt0 hN) (he_s0 hb1) rfl 1 (by decide) gw_548 rfl rfl dX4_carryAll_4 ?_
      refine g_get (C := RX1) (T := TX1) (N := 7) (v := .int (S (b1 + 2) 6)) cx hw inlX1 (b1 + 2) (Nat.lt_of_lt_of_le (hb1.lt (j := 2) (by omega)) hN) (he_s2 hb1) rfl 6 (by decide) gw_606 rfl rfl dX4_carryAll_7 ?_
      refine lv_icmp_ge (tgt := 45) cx.1 cx.2.1 dX4_carryAll_10 (by decide) (fun hc => ?_) (fun hc => ?_)
      · rw [if_pos hc] at hf
        exact g_vreti cx hr hlk hw hS hf dX4_carryAll_45
      · rw [if_neg hc] at hf
        refine lv_iconst (v := (0 : Int32)) cx.1 cx.2.1 dX4_carryAll_13 (by decide) ?_
        refine lv_istore_n (lv' := [(3, .int (0 : Int32)), (0, .ref (G.2.1 8)), (1, .ref (G.2.1 b1)), (2, .int x2)]) cx.1 cx.2.1 dX4_carryAll_14 rfl hl (by decide) rfl (fun ls hl => ?_)
        exact hL_15 (L_X4_carryAll_2 b1 n) hK2 gFu S x2 (0 : Int32) _ _ _ hw hS (lv_sub hl [1, 2, 3, 0] rfl) hf
  have hl : lv_has ls 4 [(0, .ref (G.2.1 8)), (1, .ref (G.2.1 b1))] := hl
  unfold f_X4_carryAll at hf
  refine lv_iconst (v := (0 : Int32)) cx.1 cx.2.1 dX4_carryAll_0 (by decide) ?_
  refine lv_istore_n (lv' := [(2, .int (0 : Int32)), (0, .ref (G.2.1 8)), (1, .ref (G.2.1 b1))]) cx.1 cx.2.1 dX4_carryAll_1 rfl hl (by decide) rfl (fun ls hl => ?_)
  exact hL_2 gFu S (0 : Int32) _ _ _ hw hS (lv_sub hl [1, 2, 0] rfl) hf
set_option maxHeartbeats 4000000 in
set_option maxRecDepth 100000 in
theorem c_X4_smallestLevel (l : Launch) (G : gG) {b1 : Nat} (hb1 : IsSt b1) (a2 : Int32) (a3 : Int32) (S : Sg) (r : Int32) (S' : Sg) (hf : f_X4_smallestLevel b1 a2 a3 S = some (r, S')) : Ct l yX4_smallestLevel [Cond.code yX4_smallestLevel cX4_smallestLevel 6 (some .int)] (gR 4 97) G [.ref (G.2.1 8), .ref (G.2.1 b1), .int a2, .int a3] S (some (.int r)) S' := by
  refine Ct_of (by decide) (Nat.le_of_ble_eq_true rfl) ?_
  intro p e s m below meth c ls cx hr hlk hw hS hl
  have hN := cx.2.2.2.2.hN
  have hL_9 : ∀ (n : Nat), ∀ (S : Sg) (x2 : Int32) (x3 : Int32) (x5 : Int32) (H : Heap) (locs : List Loc) (ls : Array Slot), gP G S H → va_S (gA G s.heap.size) s.heap H locs → lv_has ls 6 [(0, .ref (G.2.1 8)), (1, .ref (G.2.1 b1)), (2, .int x2), (3, .int x3), (4, .ref (G.2.1 (b1 + 2))), (5, .int x5)] → L_X4_smallestLevel_9 b1 n S x2 x3 x5 = some (r, S') → W p l e (gR 4 97) s m ([.ref (G.2.1 8), .ref (G.2.1 b1), .int a2, .int a3] : List Value).toArray below meth c H locs 0 0 (MQ below (gQ G S' (some (.int r)) (gA G s.heap.size)) ([.ref (G.2.1 8), .ref (G.2.1 b1), .int a2, .int a3] : List Value).toArray s 0 0 (gA G s.heap.size)) (F0 m 9 ls []) := by
    intro n
    induction n with
    | zero => intro S x2 x3 x5 H locs ls hw hS hl hf; cases hf
    | succ n hK9 =>
      intro S x2 x3 x5 H locs ls hw hS hl hf
      have hf : Lb_X4_smallestLevel_9 b1 (L_X4_smallestLevel_9 b1 n) S x2 x3 x5 = some (r, S') := hf
      unfold Lb_X4_smallestLevel_9 at hf
      refine lv_iload cx.1 cx.2.1 dX4_smallestLevel_9 (lv_at hl 5 rfl) ?_
      refine lv_bipush (v := (6 : Int32)) cx.1 cx.2.1 dX4_smallestLevel_11 (by decide) ?_
      refine lv_icmp_gt (tgt := 59) cx.1 cx.2.1 dX4_smallestLevel_13 (by decide) (fun hc => ?_) (fun hc => ?_)
      · rw [if_pos hc] at hf
        refine lv_bipush (v := (-9 : Int32)) cx.1 cx.2.1 dX4_smallestLevel_59 (by decide) ?_
        exact g_ireti cx hr hlk hw hS hf dX4_smallestLevel_61
      · rw [if_neg hc] at hf
        refine lv_aload_n cx.1 cx.2.1 dX4_smallestLevel_16 rfl (lv_at hl 0 rfl) ?_
        refine g_get (C := RX4) (T := TX4) (N := 1) (v := .ref (G.2.1 9)) cx hw inlX4 8 (by omega) he_c8 rfl 0 (by decide) gw_97 rfl rfl dX4_smallestLevel_17 ?_
        refine lv_aload_n cx.1 cx.2.1 dX4_smallestLevel_20 rfl (lv_at hl 1 rfl) ?_
        refine lv_iload_n cx.1 cx.2.1 dX4_smallestLevel_21 rfl (lv_at hl 2 rfl) ?_
        refine lv_aload cx.1 cx.2.1 dX4_smallestLevel_22 (lv_at hl 4 rfl) ?_
        refine g_get (C := RX1) (T := TX1) (N := 7) (v := .ref (G.2.1 (b1 + 8))) cx hw inlX1 (b1 + 2) (Nat.lt_of_lt_of_le (hb1.lt (j := 2) (by omega)) hN) (he_s2 hb1) rfl 0 (by decide) gw_551 rfl rfl dX4_smallestLevel_24 ?_
        refine lv_iload_n cx.1 cx.2.1 dX4_smallestLevel_27 rfl (lv_at hl 3 rfl) ?_
        obtain ⟨v_2, S_1, hv, hf⟩ := gbi_some hf
        refine g_N (As := [.ref (G.2.1 (b1 + 8)), .int x3]) (rest := [.int x2, .ref (G.2.1 b1), .ref (G.2.1 9)]) cx hw hS (c_X10_at l G (ia_s8 hN hb1) x3 S v_2 S_1 hv) gnm_32 gy_X10_at gi_X10_at ⟨Nat.le_of_ble_eq_true rfl, Nat.le_of_ble_eq_true rfl⟩ ⟨Nat.zero_le _, Nat.zero_le _⟩ rfl hl.1 rfl (Nat.le_of_ble_eq_true rfl) dX4_smallestLevel_28 (fun H locs hw hS => ?_)
        refine W.eq (g2 := F0 m 31 ls [.int v_2, .int x2, .ref (G.2.1 b1), .ref (G.2.1 9)]) rfl ?_
        refine lv_aload cx.1 cx.2.1 dX4_smallestLevel_31 (lv_at hl 4 rfl) ?_
        refine g_get (C := RX1) (T := TX1) (N := 7) (v := .ref (G.2.1 (b1 + 9))) cx hw inlX1 (b1 + 2) (Nat.lt_of_lt_of_le (hb1.lt (j := 2) (by omega)) hN) (he_s2 hb1) rfl 1 (by decide) gw_552 rfl rfl dX4_smallestLevel_33 ?_
        refine lv_iload_n cx.1 cx.2.1 dX4_smallestLevel_36 rfl (lv_at hl 3 rfl) ?_
        obtain ⟨v_4, S_3, hv, hf⟩ := gbi_some hf
        refine g_N (As := [.ref (G.2.1 (b1 + 9)), .int x3]) (rest := [.int v_2, .int x2, .ref (G.2.1 b1), .ref (G.2.1 9)]) cx hw hS (c_X10_at l G (ia_s9 hN hb1) x3 S_1 v_4 S_3 hv) gnm_32 gy_X10_at gi_X10_at ⟨Nat.le_of_ble_eq_true rfl, Nat.le_of_ble_eq_true rfl⟩ ⟨Nat.zero_le _, Nat.zero_le _⟩ rfl hl.1 rfl (Nat.le_of_ble_eq_true rfl) dX4_smallestLevel_37 (fun H locs hw hS => ?_)
        refine W.eq (g2 := F0 m 40 ls [.int v_4, .int v_2, .int x2, .ref (G.2.1 b1), .ref (G.2.1 9)]) rfl ?_
        refine lv_iconst (v := (4 : Int32)) cx.1 cx.2.1 dX4_smallestLevel_40 (by decide) ?_
        refine lv_iload cx.1 cx.2.1 dX4_smallestLevel_41 (lv_at hl 5 rfl) ?_
        refine lv_imul cx.1 cx.2.1 dX4_smallestLevel_43 ?_
        obtain ⟨v_6, S_5, hv, hf⟩ := gbi_some hf
        refine g_V (As := [.ref (G.2.1 b1), .int x2, .int v_2, .int v_4, .int ((4 : Int32) * x5)]) (rest := []) cx hw hS (c_X9_find l G hb1 x2 v_2 v_4 ((4 : Int32) * x5) S_3 v_6 S_5 hv) (by omega) he_c9 rfl rfl gw_556 gy_X9_find gi_X9_find ⟨Nat.le_of_ble_eq_true rfl, Nat.le_of_ble_eq_true rfl⟩ ⟨Nat.zero_le _, Nat.zero_le _⟩ rfl hl.1 rfl (Nat.le_of_ble_eq_true rfl) dX4_smallestLevel_44 (fun H locs hw hS => ?_)
        refine W.eq (g2 := F0 m 47 ls [.int v_6]) rfl ?_
        refine lv_if_eq (tgt := 53) cx.1 cx.2.1 dX4_smallestLevel_47 (by decide) (fun hc => ?_) (fun hc => ?_)
        · rw [if_pos hc] at hf
          obtain ⟨x5_7, ex5_7, hf⟩ := gvi_ex hf
          refine lv_iinc (v := x5_7) (lv' := [(5, .int x5_7), (0, .ref (G.2.1 8)), (1, .ref (G.2.1 b1)), (2, .int x2), (3, .int x3), (4, .ref (G.2.1 (b1 + 2)))]) cx.1 cx.2.1 dX4_smallestLevel_53 hl (k := 5) rfl (by rw [← ex5_7]; rfl) (by decide) rfl (fun ls hl => ?_)
          refine lv_goto (tgt := 9) cx.1 cx.2.1 dX4_smallestLevel_56 (by decide) ?_
          exact hK9 S_5 x2 x3 x5_7 _ _ _ hw hS (lv_sub hl [1, 2, 3, 4, 5, 0] rfl) hf
        · rw [if_neg hc] at hf
          refine lv_iload cx.1 cx.2.1 dX4_smallestLevel_50 (lv_at hl 5 rfl) ?_
          exact g_ireti cx hr hlk hw hS hf dX4_smallestLevel_52
  have hl : lv_has ls 6 [(0, .ref (G.2.1 8)), (1, .ref (G.2.1 b1)), (2, .int a2), (3, .int a3)] := hl
  unfold f_X4_smallestLevel at hf
  refine lv_aload_n cx.1 cx.2.1 dX4_smallestLevel_0 rfl (lv_at hl 1 rfl) ?_
  refine g_get (C := RX7) (T := TX7) (N := 9) (v := .ref (G.2.1 (b1 + 2))) cx hw inlX7 b1 (Nat.lt_of_lt_of_le hb1.lt0 hN) (he_s0 hb1) rfl 1 (by decide) gw_548 rfl rfl dX4_smallestLevel_1 ?_
  refine lv_astore (lv' := [(4, .ref (G.2.1 (b1 + 2))), (0, .ref (G.2.1 8)), (1, .ref (G.2.1 b1)), (2, .int a2), (3, .int a3)]) cx.1 cx.2.1 dX4_smallestLevel_4 hl (by decide) rfl (fun ls hl => ?_)
  refine lv_iconst (v := (1 : Int32)) cx.1 cx.2.1 dX4_smallestLevel_6 (by decide) ?_
  refine lv_istore (lv' := [(5, .int (1 : Int32)), (4, .ref (G.2.1 (b1 + 2))), (0, .ref (G.2.1 8)), (1, .ref (G.2.1 b1)), (2, .int a2), (3, .int a3)]) cx.1 cx.2.1 dX4_smallestLevel_7 hl (by decide) rfl (fun ls hl => ?_)
  exact hL_9 gFu S a2 a3 (1 : Int32) _ _ _ hw hS (lv_sub hl [2, 3, 4, 5, 1, 0] rfl) hf
set_option maxHeartbeats 4000000 in
set_option maxRecDepth 100000 in
theorem c_X5_changeRent (l : Launch) (G : gG) {b0 : Nat} (hb0 : IsSt b0) (a1 : Int32) (a2 : Int32) (S : Sg) (r : Int32) (S' : Sg) (hf : f_X5_changeRent b0 a1 a2 S = some (r, S')) : Ct l yX5_changeRent [Cond.code yX5_changeRent cX5_changeRent 4 (some .boolean)] (gR 2 44) G [.ref (G.2.1 b0), .int a1, .int a2] S (some (.int r)) S' := by
  refine Ct_of (by decide) (Nat.le_of_ble_eq_true rfl) ?_
  intro p e s m below meth c ls cx hr hlk hw hS hl
  have hN := cx.2.2.2.2.hN
  have hl : lv_has ls 4 [(0, .ref (G.2.1 b0)), (1, .int a1), (2, .int a2)] := hl
  unfold f_X5_changeRent at hf
  refine lv_iload_n cx.1 cx.2.1 dX5_changeRent_0 rfl (lv_at hl 1 rfl) ?_
  obtain ⟨v_2, S_1, hv, hf⟩ := gbi_some hf
  refine g_N (As := [.int a1]) (rest := []) cx hw hS (c_X10_isCompany l G a1 S v_2 S_1 hv) gnm_35 gy_X10_isCompany gi_X10_isCompany ⟨Nat.le_of_ble_eq_true rfl, Nat.le_of_ble_eq_true rfl⟩ ⟨Nat.zero_le _, Nat.zero_le _⟩ rfl hl.1 rfl (Nat.le_of_ble_eq_true rfl) dX5_changeRent_1 (fun H locs hw hS => ?_)
  refine W.eq (g2 := F0 m 4 ls [.int v_2]) rfl ?_
  refine lv_istore_n (lv' := [(3, .int v_2), (0, .ref (G.2.1 b0)), (1, .int a1), (2, .int a2)]) cx.1 cx.2.1 dX5_changeRent_4 rfl hl (by decide) rfl (fun ls hl => ?_)
  refine lv_iload_n cx.1 cx.2.1 dX5_changeRent_5 rfl (lv_at hl 0 rfl) ?_
  refine lv_if_eq (tgt := 18) cx.1 cx.2.1 dX5_changeRent_6 (by decide) (fun hc => ?_) (fun hc => ?_)
  · rw [if_pos hc] at hf
    refine lv_iload_n cx.1 cx.2.1 dX5_changeRent_18 rfl (lv_at hl 0 rfl) ?_
    obtain ⟨hbo, hf⟩ := gck_some hf
    exact g_zreti cx hr hlk hw hS hbo hf dX5_changeRent_19
  · rw [if_neg hc] at hf
    refine lv_aload_n cx.1 cx.2.1 dX5_changeRent_9 rfl (lv_at hl 1 rfl) ?_
    refine g_get (C := RX7) (T := TX7) (N := 9) (v := .ref (G.2.1 (b0 + 3))) cx hw inlX7 b0 (Nat.lt_of_lt_of_le hb0.lt0 hN) (he_s0 hb0) rfl 2 (by decide) gw_706 rfl rfl dX5_changeRent_10 ?_
    refine lv_iload_n cx.1 cx.2.1 dX5_changeRent_13 rfl (lv_at hl 2 rfl) ?_
    refine lv_iload_n cx.1 cx.2.1 dX5_changeRent_14 rfl (lv_at hl 3 rfl) ?_
    obtain ⟨S_3, hv, hf⟩ := gbv_some hf
    refine g_V (As := [.int a1, .int a2]) (rest := []) cx hw hS (c_X0_changeRent l G hb0 a1 a2 S_1 S_3 hv) (Nat.lt_of_lt_of_le (hb0.lt (j := 3) (by omega)) hN) (he_s3 hb0) rfl rfl gw_725 gy_X0_changeRent gi_X0_changeRent ⟨Nat.le_of_ble_eq_true rfl, Nat.le_of_ble_eq_true rfl⟩ ⟨Nat.zero_le _, Nat.zero_le _⟩ rfl hl.1 rfl (Nat.le_of_ble_eq_true rfl) dX5_changeRent_15 (fun H locs hw hS => ?_)
    refine W.eq (g2 := F0 m 18 ls []) rfl ?_
    refine lv_iload_n cx.1 cx.2.1 dX5_changeRent_18 rfl (lv_at hl 0 rfl) ?_
    obtain ⟨hbo, hf⟩ := gck_some hf
    exact g_zreti cx hr hlk hw hS hbo hf dX5_changeRent_19
set_option maxHeartbeats 4000000 in
set_option maxRecDepth 100000 in
theorem c_X5_endOfRound (l : Launch) (G : gG) {b0 : Nat} (hb0 : IsSt b0) (S : Sg) (r : Int32) (S' : Sg) (hf : f_X5_endOfRound b0 S = some (r, S')) : Ct l yX5_endOfRound [Cond.code yX5_endOfRound cX5_endOfRound 1 (some .boolean)] (gR 5 109) G [.ref (G.2.1 b0)] S (some (.int r)) S' := by
  refine Ct_of (by decide) (Nat.le_of_ble_eq_true rfl) ?_
  intro p e s m below meth c ls cx hr hlk hw hS hl
  have hN := cx.2.2.2.2.hN
  have hl : lv_has ls 1 [(0, .ref (G.2.1 b0))] := hl
  unfold f_X5_endOfRound at hf
  refine lv_aload_n cx.1 cx.2.1 dX5_endOfRound_0 rfl (lv_at hl 0 rfl) ?_
  obtain ⟨v_2, S_1, hv, hf⟩ := gbi_some hf
  refine g_V (As := []) (rest := []) cx hw hS (c_X7_closeRound l G hb0 S v_2 S_1 hv) (Nat.lt_of_lt_of_le hb0.lt0 hN) (he_s0 hb0) rfl rfl gw_746 gy_X7_closeRound gi_X7_closeRound ⟨Nat.le_of_ble_eq_true rfl, Nat.le_of_ble_eq_true rfl⟩ ⟨Nat.zero_le _, Nat.zero_le _⟩ rfl hl.1 rfl (Nat.le_of_ble_eq_true rfl) dX5_endOfRound_1 (fun H locs hw hS => ?_)
  refine W.eq (g2 := F0 m 4 ls [.int v_2]) rfl ?_
  refine lv_pop cx.1 cx.2.1 dX5_endOfRound_4 rfl ?_
  refine lv_iconst (v := (1 : Int32)) cx.1 cx.2.1 dX5_endOfRound_5 (by decide) ?_
  exact g_zreti cx hr hlk hw hS (by decide) hf dX5_endOfRound_6
set_option maxHeartbeats 4000000 in
set_option maxRecDepth 100000 in
theorem c_X8_has (l : Launch) (G : gG) {b : Nat} (hb : IsSt b) (a1 : Int32) (S : Sg) (r : Int32) (S' : Sg) (hf : f_X8_has b a1 S = some (r, S')) : Ct l yX8_has [Cond.code yX8_has cX8_has 2 (some .boolean)] (gR 0 0) G [.ref (G.2.1 (b + 1)), .int a1] S (some (.int r)) S' := by
  refine Ct_of (by decide) (Nat.le_of_ble_eq_true rfl) ?_
  intro p e s m below meth c ls cx hr hlk hw hS hl
  have hN := cx.2.2.2.2.hN
  have hl : lv_has ls 2 [(0, .ref (G.2.1 (b + 1))), (1, .int a1)] := hl
  unfold f_X8_has at hf
  refine lv_iload_n cx.1 cx.2.1 dX8_has_0 rfl (lv_at hl 1 rfl) ?_
  refine lv_if_lt (tgt := 16) cx.1 cx.2.1 dX8_has_1 (by decide) (fun hc => ?_) (fun hc => ?_)
  · rw [if_pos hc] at hf
    refine lv_iconst (v := (0 : Int32)) cx.1 cx.2.1 dX8_has_16 (by decide) ?_
    exact g_zreti cx hr hlk hw hS (by decide) hf dX8_has_17
  · rw [if_neg hc] at hf
    refine lv_iload_n cx.1 cx.2.1 dX8_has_4 rfl (lv_at hl 1 rfl) ?_
    refine lv_aload_n cx.1 cx.2.1 dX8_has_5 rfl (lv_at hl 0 rfl) ?_
    refine g_get (C := RX8) (T := TX8) (N := 5) (v := .int (S (b + 1) 4)) cx hw inlX8 (b + 1) (Nat.lt_of_lt_of_le (hb.lt (j := 1) (by omega)) hN) (he_s1 hb) rfl 4 (by decide) gw_129 rfl rfl dX8_has_6 ?_
    refine lv_icmp_ge (tgt := 16) cx.1 cx.2.1 dX8_has_9 (by decide) (fun hc => ?_) (fun hc => ?_)
    · rw [if_pos hc] at hf
      refine lv_iconst (v := (0 : Int32)) cx.1 cx.2.1 dX8_has_16 (by decide) ?_
      exact g_zreti cx hr hlk hw hS (by decide) hf dX8_has_17
    · rw [if_neg hc] at hf
      refine lv_iconst (v := (1 : Int32)) cx.1 cx.2.1 dX8_has_12 (by decide) ?_
      refine lv_goto (tgt := 17) cx.1 cx.2.1 dX8_has_13 (by decide) ?_
      exact g_zreti cx hr hlk hw hS (by decide) hf dX8_has_17
set_option maxHeartbeats 4000000 in
set_option maxRecDepth 100000 in
theorem c_X8_isOfBank (l : Launch) (G : gG) {b : Nat} (hb : IsSt b) (a1 : Int32) (S : Sg) (r : Int32) (S' : Sg) (hf : f_X8_isOfBank b a1 S = some (r, S')) : Ct l yX8_isOfBank [Cond.code yX8_isOfBank cX8_isOfBank 2 (some .boolean)] (gR 1 21) G [.ref (G.2.1 (b + 1)), .int a1] S (some (.int r)) S' := by
  refine Ct_of (by decide) (Nat.le_of_ble_eq_true rfl) ?_
  intro p e s m below meth c ls cx hr hlk hw hS hl
  have hN := cx.2.2.2.2.hN
  have hl : lv_has ls 2 [(0, .ref (G.2.1 (b + 1))), (1, .int a1)] := hl
  unfold f_X8_isOfBank at hf
  refine lv_aload_n cx.1 cx.2.1 dX8_isOfBank_0 rfl (lv_at hl 0 rfl) ?_
  refine g_get (C := RX8) (T := TX8) (N := 5) (v := .ref (G.2.1 (b + 7))) cx hw inlX8 (b + 1) (Nat.lt_of_lt_of_le (hb.lt (j := 1) (by omega)) hN) (he_s1 hb) rfl 3 (by decide) gw_58 rfl rfl dX8_isOfBank_1 ?_
  refine lv_iload_n cx.1 cx.2.1 dX8_isOfBank_4 rfl (lv_at hl 1 rfl) ?_
  obtain ⟨v_2, S_1, hv, hf⟩ := gbi_some hf
  refine g_N (As := [.ref (G.2.1 (b + 7)), .int a1]) (rest := []) cx hw hS (c_X10_at l G (ia_s7 hN hb) a1 S v_2 S_1 hv) gnm_25 gy_X10_at gi_X10_at ⟨Nat.le_of_ble_eq_true rfl, Nat.le_of_ble_eq_true rfl⟩ ⟨Nat.zero_le _, Nat.zero_le _⟩ rfl hl.1 rfl (Nat.le_of_ble_eq_true rfl) dX8_isOfBank_5 (fun H locs hw hS => ?_)
  refine W.eq (g2 := F0 m 8 ls [.int v_2]) rfl ?_
  refine lv_iconst (v := (4 : Int32)) cx.1 cx.2.1 dX8_isOfBank_8 (by decide) ?_
  refine lv_icmp_ne (tgt := 16) cx.1 cx.2.1 dX8_isOfBank_9 (by decide) (fun hc => ?_) (fun hc => ?_)
  · rw [if_neg hc] at hf
    refine lv_iconst (v := (0 : Int32)) cx.1 cx.2.1 dX8_isOfBank_16 (by decide) ?_
    exact g_zreti cx hr hlk hw hS (by decide) hf dX8_isOfBank_17
  · rw [if_pos hc] at hf
    refine lv_iconst (v := (1 : Int32)) cx.1 cx.2.1 dX8_isOfBank_12 (by decide) ?_
    refine lv_goto (tgt := 17) cx.1 cx.2.1 dX8_isOfBank_13 (by decide) ?_
    exact g_zreti cx hr hlk hw hS (by decide) hf dX8_isOfBank_17
set_option maxHeartbeats 4000000 in
set_option maxRecDepth 100000 in
theorem c_X8_priceOf (l : Launch) (G : gG) {b : Nat} (hb : IsSt b) (a1 : Int32) (S : Sg) (r : Int32) (S' : Sg) (hf : f_X8_priceOf b a1 S = some (r, S')) : Ct l yX8_priceOf [Cond.code yX8_priceOf cX8_priceOf 2 (some .int)] (gR 1 21) G [.ref (G.2.1 (b + 1)), .int a1] S (some (.int r)) S' := by
  refine Ct_of (by decide) (Nat.le_of_ble_eq_true rfl) ?_
  intro p e s m below meth c ls cx hr hlk hw hS hl
  have hN := cx.2.2.2.2.hN
  have hl : lv_has ls 2 [(0, .ref (G.2.1 (b + 1))), (1, .int a1)] := hl
  unfold f_X8_priceOf at hf
  refine lv_iconst (v := (3 : Int32)) cx.1 cx.2.1 dX8_priceOf_0 (by decide) ?_
  refine lv_aload_n cx.1 cx.2.1 dX8_priceOf_1 rfl (lv_at hl 0 rfl) ?_
  refine g_get (C := RX8) (T := TX8) (N := 5) (v := .ref (G.2.1 (b + 6))) cx hw inlX8 (b + 1) (Nat.lt_of_lt_of_le (hb.lt (j := 1) (by omega)) hN) (he_s1 hb) rfl 2 (by decide) gw_57 rfl rfl dX8_priceOf_2 ?_
  refine lv_iload_n cx.1 cx.2.1 dX8_priceOf_5 rfl (lv_at hl 1 rfl) ?_
  obtain ⟨v_2, S_1, hv, hf⟩ := gbi_some hf
  refine g_N (As := [.ref (G.2.1 (b + 6)), .int a1]) (rest := [.int (3 : Int32)]) cx hw hS (c_X10_at l G (ia_s6 hN hb) a1 S v_2 S_1 hv) gnm_25 gy_X10_at gi_X10_at ⟨Nat.le_of_ble_eq_true rfl, Nat.le_of_ble_eq_true rfl⟩ ⟨Nat.zero_le _, Nat.zero_le _⟩ rfl hl.1 rfl (Nat.le_of_ble_eq_true rfl) dX8_priceOf_6 (fun H locs hw hS => ?_)
  refine W.eq (g2 := F0 m 9 ls [.int v_2, .int (3 : Int32)]) rfl ?_
  refine lv_imul cx.1 cx.2.1 dX8_priceOf_9 ?_
  exact g_ireti cx hr hlk hw hS hf dX8_priceOf_10
set_option maxHeartbeats 4000000 in
set_option maxRecDepth 100000 in
theorem c_X7_maySellTrack (l : Launch) (G : gG) {b : Nat} (hb : IsSt b) (a1 : Int32) (a2 : Int32) (S : Sg) (r : Int32) (S' : Sg) (hf : f_X7_maySellTrack b a1 a2 S = some (r, S')) : Ct l yX7_maySellTrack [Cond.code yX7_maySellTrack cX7_maySellTrack 3 (some .boolean)] (gR 2 42) G [.ref (G.2.1 b), .int a1, .int a2] S (some (.int r)) S' := by
  refine Ct_of (by decide) (Nat.le_of_ble_eq_true rfl) ?_
  intro p e s m below meth c ls cx hr hlk hw hS hl
  have hN := cx.2.2.2.2.hN
  have hl : lv_has ls 3 [(0, .ref (G.2.1 b)), (1, .int a1), (2, .int a2)] := hl
  unfold f_X7_maySellTrack at hf
  refine lv_iload_n cx.1 cx.2.1 dX7_maySellTrack_0 rfl (lv_at hl 1 rfl) ?_
  obtain ⟨v_2, S_1, hv, hf⟩ := gbi_some hf
  refine g_N (As := [.int a1]) (rest := []) cx hw hS (c_X10_isCompany l G a1 S v_2 S_1 hv) gnm_29 gy_X10_isCompany gi_X10_isCompany ⟨Nat.le_of_ble_eq_true rfl, Nat.le_of_ble_eq_true rfl⟩ ⟨Nat.zero_le _, Nat.zero_le _⟩ rfl hl.1 rfl (Nat.le_of_ble_eq_true rfl) dX7_maySellTrack_1 (fun H locs hw hS => ?_)
  refine W.eq (g2 := F0 m 4 ls [.int v_2]) rfl ?_
  refine lv_if_eq (tgt := 55) cx.1 cx.2.1 dX7_maySellTrack_4 (by decide) (fun hc => ?_) (fun hc => ?_)
  · rw [if_pos hc] at hf
    refine lv_iconst (v := (0 : Int32)) cx.1 cx.2.1 dX7_maySellTrack_55 (by decide) ?_
    exact g_zreti cx hr hlk hw hS (by decide) hf dX7_maySellTrack_56
  · rw [if_neg hc] at hf
    refine lv_aload_n cx.1 cx.2.1 dX7_maySellTrack_7 rfl (lv_at hl 0 rfl) ?_
    refine g_get (C := RX7) (T := TX7) (N := 9) (v := .ref (G.2.1 (b + 1))) cx hw inlX7 b (Nat.lt_of_lt_of_le hb.lt0 hN) (he_s0 hb) rfl 0 (by decide) gw_43 rfl rfl dX7_maySellTrack_8 ?_
    refine lv_iload_n cx.1 cx.2.1 dX7_maySellTrack_11 rfl (lv_at hl 2 rfl) ?_
    obtain ⟨v_4, S_3, hv, hf⟩ := gbi_some hf
    refine g_V (As := [.int a2]) (rest := []) cx hw hS (c_X8_has l G hb a2 S_1 v_4 S_3 hv) (Nat.lt_of_lt_of_le (hb.lt (j := 1) (by omega)) hN) (he_s1 hb) rfl rfl gw_449 gy_X8_has gi_X8_has ⟨Nat.le_of_ble_eq_true rfl, Nat.le_of_ble_eq_true rfl⟩ ⟨Nat.zero_le _, Nat.zero_le _⟩ rfl hl.1 rfl (Nat.le_of_ble_eq_true rfl) dX7_maySellTrack_12 (fun H locs hw hS => ?_)
    refine W.eq (g2 := F0 m 15 ls [.int v_4]) rfl ?_
    refine lv_if_eq (tgt := 55) cx.1 cx.2.1 dX7_maySellTrack_15 (by decide) (fun hc => ?_) (fun hc => ?_)
    · rw [if_pos hc] at hf
      refine lv_iconst (v := (0 : Int32)) cx.1 cx.2.1 dX7_maySellTrack_55 (by decide) ?_
      exact g_zreti cx hr hlk hw hS (by decide) hf dX7_maySellTrack_56
    · rw [if_neg hc] at hf
      refine lv_aload_n cx.1 cx.2.1 dX7_maySellTrack_18 rfl (lv_at hl 0 rfl) ?_
      refine g_get (C := RX7) (T := TX7) (N := 9) (v := .ref (G.2.1 (b + 1))) cx hw inlX7 b (Nat.lt_of_lt_of_le hb.lt0 hN) (he_s0 hb) rfl 0 (by decide) gw_43 rfl rfl dX7_maySellTrack_19 ?_
      refine lv_iload_n cx.1 cx.2.1 dX7_maySellTrack_22 rfl (lv_at hl 2 rfl) ?_
      obtain ⟨v_6, S_5, hv, hf⟩ := gbi_some hf
      refine g_V (As := [.int a2]) (rest := []) cx hw hS (c_X8_isOfBank l G hb a2 S_3 v_6 S_5 hv) (Nat.lt_of_lt_of_le (hb.lt (j := 1) (by omega)) hN) (he_s1 hb) rfl rfl gw_450 gy_X8_isOfBank gi_X8_isOfBank ⟨Nat.le_of_ble_eq_true rfl, Nat.le_of_ble_eq_true rfl⟩ ⟨Nat.zero_le _, Nat.zero_le _⟩ rfl hl.1 rfl (Nat.le_of_ble_eq_true rfl) dX7_maySellTrack_23 (fun H locs hw hS => ?_)
      refine W.eq (g2 := F0 m 26 ls [.int v_6]) rfl ?_
      refine lv_if_eq (tgt := 55) cx.1 cx.2.1 dX7_maySellTrack_26 (by decide) (fun hc => ?_) (fun hc => ?_)
      · rw [if_pos hc] at hf
        refine lv_iconst (v := (0 : Int32)) cx.1 cx.2.1 dX7_maySellTrack_55 (by decide) ?_
        exact g_zreti cx hr hlk hw hS (by decide) hf dX7_maySellTrack_56
      · rw [if_neg hc] at hf
        refine lv_aload_n cx.1 cx.2.1 dX7_maySellTrack_29 rfl (lv_at hl 0 rfl) ?_
        refine g_get (C := RX7) (T := TX7) (N := 9) (v := .ref (G.2.1 (b + 3))) cx hw inlX7 b (Nat.lt_of_lt_of_le hb.lt0 hN) (he_s0 hb) rfl 2 (by decide) gw_51 rfl rfl dX7_maySellTrack_30 ?_
        refine g_get (C := RX0) (T := TX0) (N := 7) (v := .ref (G.2.1 (b + 14))) cx hw inlX0 (b + 3) (Nat.lt_of_lt_of_le (hb.lt (j := 3) (by omega)) hN) (he_s3 hb) rfl 0 (by decide) gw_448 rfl rfl dX7_maySellTrack_33 ?_
        refine lv_iload_n cx.1 cx.2.1 dX7_maySellTrack_36 rfl (lv_at hl 1 rfl) ?_
        obtain ⟨v_8, S_7, hv, hf⟩ := gbi_some hf
        refine g_N (As := [.ref (G.2.1 (b + 14)), .int a1]) (rest := []) cx hw hS (c_X10_at l G (ia_s14 hN hb) a1 S_5 v_8 S_7 hv) gnm_30 gy_X10_at gi_X10_at ⟨Nat.le_of_ble_eq_true rfl, Nat.le_of_ble_eq_true rfl⟩ ⟨Nat.zero_le _, Nat.zero_le _⟩ rfl hl.1 rfl (Nat.le_of_ble_eq_true rfl) dX7_maySellTrack_37 (fun H locs hw hS => ?_)
        refine W.eq (g2 := F0 m 40 ls [.int v_8]) rfl ?_
        refine lv_aload_n cx.1 cx.2.1 dX7_maySellTrack_40 rfl (lv_at hl 0 rfl) ?_
        refine g_get (C := RX7) (T := TX7) (N := 9) (v := .ref (G.2.1 (b + 1))) cx hw inlX7 b (Nat.lt_of_lt_of_le hb.lt0 hN) (he_s0 hb) rfl 0 (by decide) gw_43 rfl rfl dX7_maySellTrack_41 ?_
        refine lv_iload_n cx.1 cx.2.1 dX7_maySellTrack_44 rfl (lv_at hl 2 rfl) ?_
        obtain ⟨v_10, S_9, hv, hf⟩ := gbi_some hf
        refine g_V (As := [.int a2]) (rest := [.int v_8]) cx hw hS (c_X8_priceOf l G hb a2 S_7 v_10 S_9 hv) (Nat.lt_of_lt_of_le (hb.lt (j := 1) (by omega)) hN) (he_s1 hb) rfl rfl gw_451 gy_X8_priceOf gi_X8_priceOf ⟨Nat.le_of_ble_eq_true rfl, Nat.le_of_ble_eq_true rfl⟩ ⟨Nat.zero_le _, Nat.zero_le _⟩ rfl hl.1 rfl (Nat.le_of_ble_eq_true rfl) dX7_maySellTrack_45 (fun H locs hw hS => ?_)
        refine W.eq (g2 := F0 m 48 ls [.int v_10, .int v_8]) rfl ?_
        refine lv_icmp_lt (tgt := 55) cx.1 cx.2.1 dX7_maySellTrack_48 (by decide) (fun hc => ?_) (fun hc => ?_)
        · rw [if_pos hc] at hf
          refine lv_iconst (v := (0 : Int32)) cx.1 cx.2.1 dX7_maySellTrack_55 (by decide) ?_
          exact g_zreti cx hr hlk hw hS (by decide) hf dX7_maySellTrack_56
        · rw [if_neg hc] at hf
          refine lv_iconst (v := (1 : Int32)) cx.1 cx.2.1 dX7_maySellTrack_51 (by decide) ?_
          refine lv_goto (tgt := 56) cx.1 cx.2.1 dX7_maySellTrack_52 (by decide) ?_
          exact g_zreti cx hr hlk hw hS (by decide) hf dX7_maySellTrack_56
set_option maxHeartbeats 4000000 in
set_option maxRecDepth 100000 in
theorem c_X7_sellTrack (l : Launch) (G : gG) {b : Nat} (hb : IsSt b) (a1 : Int32) (a2 : Int32) (S : Sg) (S' : Sg) (hf : f_X7_sellTrack b a1 a2 S = some S') : Ct l yX7_sellTrack [Cond.code yX7_sellTrack cX7_sellTrack 3 none] (gR 2 45) G [.ref (G.2.1 b), .int a1, .int a2] S none S' := by
  refine Ct_of (by decide) (Nat.le_of_ble_eq_true rfl) ?_
  intro p e s m below meth c ls cx hr hlk hw hS hl
  have hN := cx.2.2.2.2.hN
  have hl : lv_has ls 3 [(0, .ref (G.2.1 b)), (1, .int a1), (2, .int a2)] := hl
  unfold f_X7_sellTrack at hf
  refine lv_aload_n cx.1 cx.2.1 dX7_sellTrack_0 rfl (lv_at hl 0 rfl) ?_
  refine g_get (C := RX7) (T := TX7) (N := 9) (v := .ref (G.2.1 (b + 3))) cx hw inlX7 b (Nat.lt_of_lt_of_le hb.lt0 hN) (he_s0 hb) rfl 2 (by decide) gw_51 rfl rfl dX7_sellTrack_1 ?_
  refine lv_iload_n cx.1 cx.2.1 dX7_sellTrack_4 rfl (lv_at hl 1 rfl) ?_
  refine lv_iconst (v := (4 : Int32)) cx.1 cx.2.1 dX7_sellTrack_5 (by decide) ?_
  refine lv_aload_n cx.1 cx.2.1 dX7_sellTrack_6 rfl (lv_at hl 0 rfl) ?_
  refine g_get (C := RX7) (T := TX7) (N := 9) (v := .ref (G.2.1 (b + 1))) cx hw inlX7 b (Nat.lt_of_lt_of_le hb.lt0 hN) (he_s0 hb) rfl 0 (by decide) gw_43 rfl rfl dX7_sellTrack_7 ?_
  refine lv_iload_n cx.1 cx.2.1 dX7_sellTrack_10 rfl (lv_at hl 2 rfl) ?_
  obtain ⟨v_2, S_1, hv, hf⟩ := gbi_some hf
  refine g_V (As := [.int a2]) (rest := [.int (4 : Int32), .int a1, .ref (G.2.1 (b + 3))]) cx hw hS (c_X8_priceOf l G hb a2 S v_2 S_1 hv) (Nat.lt_of_lt_of_le (hb.lt (j := 1) (by omega)) hN) (he_s1 hb) rfl rfl gw_451 gy_X8_priceOf gi_X8_priceOf ⟨Nat.le_of_ble_eq_true rfl, Nat.le_of_ble_eq_true rfl⟩ ⟨Nat.zero_le _, Nat.zero_le _⟩ rfl hl.1 rfl (Nat.le_of_ble_eq_true rfl) dX7_sellTrack_11 (fun H locs hw hS => ?_)
  refine W.eq (g2 := F0 m 14 ls [.int v_2, .int (4 : Int32), .int a1, .ref (G.2.1 (b + 3))]) rfl ?_
  obtain ⟨S_3, hv, hf⟩ := gbv_some hf
  refine g_V (As := [.int a1, .int (4 : Int32), .int v_2]) (rest := []) cx hw hS (c_X0_transfer l G hb a1 (4 : Int32) v_2 S_1 S_3 hv) (Nat.lt_of_lt_of_le (hb.lt (j := 3) (by omega)) hN) (he_s3 hb) rfl rfl gw_464 gy_X0_transfer gi_X0_transfer ⟨Nat.le_of_ble_eq_true rfl, Nat.le_of_ble_eq_true rfl⟩ ⟨Nat.zero_le _, Nat.zero_le _⟩ rfl hl.1 rfl (Nat.le_of_ble_eq_true rfl) dX7_sellTrack_14 (fun H locs hw hS => ?_)
  refine W.eq (g2 := F0 m 17 ls []) rfl ?_
  refine lv_aload_n cx.1 cx.2.1 dX7_sellTrack_17 rfl (lv_at hl 0 rfl) ?_
  refine g_get (C := RX7) (T := TX7) (N := 9) (v := .ref (G.2.1 (b + 1))) cx hw inlX7 b (Nat.lt_of_lt_of_le hb.lt0 hN) (he_s0 hb) rfl 0 (by decide) gw_43 rfl rfl dX7_sellTrack_18 ?_
  refine g_get (C := RX8) (T := TX8) (N := 5) (v := .ref (G.2.1 (b + 7))) cx hw inlX8 (b + 1) (Nat.lt_of_lt_of_le (hb.lt (j := 1) (by omega)) hN) (he_s1 hb) rfl 3 (by decide) gw_463 rfl rfl dX7_sellTrack_21 ?_
  refine lv_iload_n cx.1 cx.2.1 dX7_sellTrack_24 rfl (lv_at hl 2 rfl) ?_
  refine lv_iload_n cx.1 cx.2.1 dX7_sellTrack_25 rfl (lv_at hl 1 rfl) ?_
  obtain ⟨S_4, hv, hf⟩ := gbv_some hf
  refine g_N (As := [.ref (G.2.1 (b + 7)), .int a2, .int a1]) (rest := []) cx hw hS (c_X10_put l G (ia_s7 hN hb) a2 a1 S_3 S_4 hv) gnm_31 gy_X10_put gi_X10_put ⟨Nat.le_of_ble_eq_true rfl, Nat.le_of_ble_eq_true rfl⟩ ⟨Nat.zero_le _, Nat.zero_le _⟩ rfl hl.1 rfl (Nat.le_of_ble_eq_true rfl) dX7_sellTrack_26 (fun H locs hw hS => ?_)
  refine W.eq (g2 := F0 m 29 ls []) rfl ?_
  exact g_vreti cx hr hlk hw hS hf dX7_sellTrack_29
set_option maxHeartbeats 4000000 in
set_option maxRecDepth 100000 in
theorem c_X7_tryTrack (l : Launch) (G : gG) {b : Nat} (hb : IsSt b) (a1 : Int32) (a2 : Int32) (S : Sg) (r : Int32) (S' : Sg) (hf : f_X7_tryTrack b a1 a2 S = some (r, S')) : Ct l yX7_tryTrack [Cond.code yX7_tryTrack cX7_tryTrack 4 (some .boolean)] (gR 3 67) G [.ref (G.2.1 b), .int a1, .int a2] S (some (.int r)) S' := by
  refine Ct_of (by decide) (Nat.le_of_ble_eq_true rfl) ?_
  intro p e s m below meth c ls cx hr hlk hw hS hl
  have hN := cx.2.2.2.2.hN
  have hl : lv_has ls 4 [(0, .ref (G.2.1 b)), (1, .int a1), (2, .int a2)] := hl
  unfold f_X7_tryTrack at hf
  refine lv_aload_n cx.1 cx.2.1 dX7_tryTrack_0 rfl (lv_at hl 0 rfl) ?_
  refine lv_iload_n cx.1 cx.2.1 dX7_tryTrack_1 rfl (lv_at hl 1 rfl) ?_
  refine lv_iload_n cx.1 cx.2.1 dX7_tryTrack_2 rfl (lv_at hl 2 rfl) ?_
  obtain ⟨v_2, S_1, hv, hf⟩ := gbi_some hf
  refine g_V (As := [.int a1, .int a2]) (rest := []) cx hw hS (c_X7_maySellTrack l G hb a1 a2 S v_2 S_1 hv) (Nat.lt_of_lt_of_le hb.lt0 hN) (he_s0 hb) rfl rfl gw_714 gy_X7_maySellTrack gi_X7_maySellTrack ⟨Nat.le_of_ble_eq_true rfl, Nat.le_of_ble_eq_true rfl⟩ ⟨Nat.zero_le _, Nat.zero_le _⟩ rfl hl.1 rfl (Nat.le_of_ble_eq_true rfl) dX7_tryTrack_3 (fun H locs hw hS => ?_)
  refine W.eq (g2 := F0 m 6 ls [.int v_2]) rfl ?_
  refine lv_istore_n (lv' := [(3, .int v_2), (0, .ref (G.2.1 b)), (1, .int a1), (2, .int a2)]) cx.1 cx.2.1 dX7_tryTrack_6 rfl hl (by decide) rfl (fun ls hl => ?_)
  refine lv_iload_n cx.1 cx.2.1 dX7_tryTrack_7 rfl (lv_at hl 0 rfl) ?_
  refine lv_if_eq (tgt := 17) cx.1 cx.2.1 dX7_tryTrack_8 (by decide) (fun hc => ?_) (fun hc => ?_)
  · rw [if_pos hc] at hf
    refine lv_iload_n cx.1 cx.2.1 dX7_tryTrack_17 rfl (lv_at hl 0 rfl) ?_
    obtain ⟨hbo, hf⟩ := gck_some hf
    exact g_zreti cx hr hlk hw hS hbo hf dX7_tryTrack_18
  · rw [if_neg hc] at hf
    refine lv_aload_n cx.1 cx.2.1 dX7_tryTrack_11 rfl (lv_at hl 1 rfl) ?_
    refine lv_iload_n cx.1 cx.2.1 dX7_tryTrack_12 rfl (lv_at hl 2 rfl) ?_
    refine lv_iload_n cx.1 cx.2.1 dX7_tryTrack_13 rfl (lv_at hl 3 rfl) ?_
    obtain ⟨S_3, hv, hf⟩ := gbv_some hf
    refine g_V (As := [.int a1, .int a2]) (rest := []) cx hw hS (c_X7_sellTrack l G hb a1 a2 S_1 S_3 hv) (Nat.lt_of_lt_of_le hb.lt0 hN) (he_s0 hb) rfl rfl gw_715 gy_X7_sellTrack gi_X7_sellTrack ⟨Nat.le_of_ble_eq_true rfl, Nat.le_of_ble_eq_true rfl⟩ ⟨Nat.zero_le _, Nat.zero_le _⟩ rfl hl.1 rfl (Nat.le_of_ble_eq_true rfl) dX7_tryTrack_14 (fun H locs hw hS => ?_)
    refine W.eq (g2 := F0 m 17 ls []) rfl ?_
    refine lv_iload_n cx.1 cx.2.1 dX7_tryTrack_17 rfl (lv_at hl 0 rfl) ?_
    obtain ⟨hbo, hf⟩ := gck_some hf
    exact g_zreti cx hr hlk hw hS hbo hf dX7_tryTrack_18
set_option maxHeartbeats 4000000 in
set_option maxRecDepth 100000 in
theorem c_X7_maySellTrain (l : Launch) (G : gG) {b : Nat} (hb : IsSt b) (a1 : Int32) (a2 : Int32) (S : Sg) (r : Int32) (S' : Sg) (hf : f_X7_maySellTrain b a1 a2 S = some (r, S')) : Ct l yX7_maySellTrain [Cond.code yX7_maySellTrain cX7_maySellTrain 3 (some .boolean)] (gR 1 21) G [.ref (G.2.1 b), .int a1, .int a2] S (some (.int r)) S' := by
  refine Ct_of (by decide) (Nat.le_of_ble_eq_true rfl) ?_
  intro p e s m below meth c ls cx hr hlk hw hS hl
  have hN := cx.2.2.2.2.hN
  have hl : lv_has ls 3 [(0, .ref (G.2.1 b)), (1, .int a1), (2, .int a2)] := hl
  unfold f_X7_maySellTrain at hf
  refine lv_iload_n cx.1 cx.2.1 dX7_maySellTrain_0 rfl (lv_at hl 1 rfl) ?_
  obtain ⟨v_2, S_1, hv, hf⟩ := gbi_some hf
  refine g_N (As := [.int a1]) (rest := []) cx hw hS (c_X10_isCompany l G a1 S v_2 S_1 hv) gnm_29 gy_X10_isCompany gi_X10_isCompany ⟨Nat.le_of_ble_eq_true rfl, Nat.le_of_ble_eq_true rfl⟩ ⟨Nat.zero_le _, Nat.zero_le _⟩ rfl hl.1 rfl (Nat.le_of_ble_eq_true rfl) dX7_maySellTrain_1 (fun H locs hw hS => ?_)
  refine W.eq (g2 := F0 m 4 ls [.int v_2]) rfl ?_
  refine lv_if_eq (tgt := 75) cx.1 cx.2.1 dX7_maySellTrain_4 (by decide) (fun hc => ?_) (fun hc => ?_)
  · rw [if_pos hc] at hf
    refine lv_iconst (v := (0 : Int32)) cx.1 cx.2.1 dX7_maySellTrain_75 (by decide) ?_
    exact g_zreti cx hr hlk hw hS (by decide) hf dX7_maySellTrain_76
  · rw [if_neg hc] at hf
    refine lv_iload_n cx.1 cx.2.1 dX7_maySellTrain_7 rfl (lv_at hl 2 rfl) ?_
    refine lv_iconst (v := (1 : Int32)) cx.1 cx.2.1 dX7_maySellTrain_8 (by decide) ?_
    refine lv_icmp_lt (tgt := 75) cx.1 cx.2.1 dX7_maySellTrain_9 (by decide) (fun hc => ?_) (fun hc => ?_)
    · rw [if_pos hc] at hf
      refine lv_iconst (v := (0 : Int32)) cx.1 cx.2.1 dX7_maySellTrain_75 (by decide) ?_
      exact g_zreti cx hr hlk hw hS (by decide) hf dX7_maySellTrain_76
    · rw [if_neg hc] at hf
      refine lv_iload_n cx.1 cx.2.1 dX7_maySellTrain_12 rfl (lv_at hl 2 rfl) ?_
      refine lv_bipush (v := (6 : Int32)) cx.1 cx.2.1 dX7_maySellTrain_13 (by decide) ?_
      refine lv_icmp_gt (tgt := 75) cx.1 cx.2.1 dX7_maySellTrain_15 (by decide) (fun hc => ?_) (fun hc => ?_)
      · rw [if_pos hc] at hf
        refine lv_iconst (v := (0 : Int32)) cx.1 cx.2.1 dX7_maySellTrain_75 (by decide) ?_
        exact g_zreti cx hr hlk hw hS (by decide) hf dX7_maySellTrain_76
      · rw [if_neg hc] at hf
        refine lv_iload_n cx.1 cx.2.1 dX7_maySellTrain_18 rfl (lv_at hl 2 rfl) ?_
        refine lv_aload_n cx.1 cx.2.1 dX7_maySellTrain_19 rfl (lv_at hl 0 rfl) ?_
        refine g_get (C := RX7) (T := TX7) (N := 9) (v := .int (S_1 b 4)) cx hw inlX7 b (Nat.lt_of_lt_of_le hb.lt0 hN) (he_s0 hb) rfl 4 (by decide) gw_112 rfl rfl dX7_maySellTrain_20 ?_
        refine lv_iconst (v := (1 : Int32)) cx.1 cx.2.1 dX7_maySellTrain_23 (by decide) ?_
        refine lv_isub cx.1 cx.2.1 dX7_maySellTrain_24 ?_
        refine lv_icmp_lt (tgt := 75) cx.1 cx.2.1 dX7_maySellTrain_25 (by decide) (fun hc => ?_) (fun hc => ?_)
        · rw [if_pos hc] at hf
          refine lv_iconst (v := (0 : Int32)) cx.1 cx.2.1 dX7_maySellTrain_75 (by decide) ?_
          exact g_zreti cx hr hlk hw hS (by decide) hf dX7_maySellTrain_76
        · rw [if_neg hc] at hf
          refine lv_iload_n cx.1 cx.2.1 dX7_maySellTrain_28 rfl (lv_at hl 2 rfl) ?_
          refine lv_aload_n cx.1 cx.2.1 dX7_maySellTrain_29 rfl (lv_at hl 0 rfl) ?_
          refine g_get (C := RX7) (T := TX7) (N := 9) (v := .int (S_1 b 4)) cx hw inlX7 b (Nat.lt_of_lt_of_le hb.lt0 hN) (he_s0 hb) rfl 4 (by decide) gw_112 rfl rfl dX7_maySellTrain_30 ?_
          refine lv_iconst (v := (1 : Int32)) cx.1 cx.2.1 dX7_maySellTrain_33 (by decide) ?_
          refine lv_iadd cx.1 cx.2.1 dX7_maySellTrain_34 ?_
          refine lv_icmp_gt (tgt := 75) cx.1 cx.2.1 dX7_maySellTrain_35 (by decide) (fun hc => ?_) (fun hc => ?_)
          · rw [if_pos hc] at hf
            refine lv_iconst (v := (0 : Int32)) cx.1 cx.2.1 dX7_maySellTrain_75 (by decide) ?_
            exact g_zreti cx hr hlk hw hS (by decide) hf dX7_maySellTrain_76
          · rw [if_neg hc] at hf
            refine lv_aload_n cx.1 cx.2.1 dX7_maySellTrain_38 rfl (lv_at hl 0 rfl) ?_
            refine g_get (C := RX7) (T := TX7) (N := 9) (v := .ref (G.2.1 (b + 3))) cx hw inlX7 b (Nat.lt_of_lt_of_le hb.lt0 hN) (he_s0 hb) rfl 2 (by decide) gw_51 rfl rfl dX7_maySellTrain_39 ?_
            refine g_get (C := RX0) (T := TX0) (N := 7) (v := .ref (G.2.1 (b + 18))) cx hw inlX0 (b + 3) (Nat.lt_of_lt_of_le (hb.lt (j := 3) (by omega)) hN) (he_s3 hb) rfl 4 (by decide) gw_479 rfl rfl dX7_maySellTrain_42 ?_
            refine lv_iload_n cx.1 cx.2.1 dX7_maySellTrain_45 rfl (lv_at hl 1 rfl) ?_
            obtain ⟨v_4, S_3, hv, hf⟩ := gbi_some hf
            refine g_N (As := [.ref (G.2.1 (b + 18)), .int a1]) (rest := []) cx hw hS (c_X10_at l G (ia_s18 hN hb) a1 S_1 v_4 S_3 hv) gnm_30 gy_X10_at gi_X10_at ⟨Nat.le_of_ble_eq_true rfl, Nat.le_of_ble_eq_true rfl⟩ ⟨Nat.zero_le _, Nat.zero_le _⟩ rfl hl.1 rfl (Nat.le_of_ble_eq_true rfl) dX7_maySellTrain_46 (fun H locs hw hS => ?_)
            refine W.eq (g2 := F0 m 49 ls [.int v_4]) rfl ?_
            refine lv_iconst (v := (4 : Int32)) cx.1 cx.2.1 dX7_maySellTrain_49 (by decide) ?_
            refine lv_icmp_ge (tgt := 75) cx.1 cx.2.1 dX7_maySellTrain_50 (by decide) (fun hc => ?_) (fun hc => ?_)
            · rw [if_pos hc] at hf
              refine lv_iconst (v := (0 : Int32)) cx.1 cx.2.1 dX7_maySellTrain_75 (by decide) ?_
              exact g_zreti cx hr hlk hw hS (by decide) hf dX7_maySellTrain_76
            · rw [if_neg hc] at hf
              refine lv_aload_n cx.1 cx.2.1 dX7_maySellTrain_53 rfl (lv_at hl 0 rfl) ?_
              refine g_get (C := RX7) (T := TX7) (N := 9) (v := .ref (G.2.1 (b + 3))) cx hw inlX7 b (Nat.lt_of_lt_of_le hb.lt0 hN) (he_s0 hb) rfl 2 (by decide) gw_51 rfl rfl dX7_maySellTrain_54 ?_
              refine g_get (C := RX0) (T := TX0) (N := 7) (v := .ref (G.2.1 (b + 14))) cx hw inlX0 (b + 3) (Nat.lt_of_lt_of_le (hb.lt (j := 3) (by omega)) hN) (he_s3 hb) rfl 0 (by decide) gw_448 rfl rfl dX7_maySellTrain_57 ?_
              refine lv_iload_n cx.1 cx.2.1 dX7_maySellTrain_60 rfl (lv_at hl 1 rfl) ?_
              obtain ⟨v_6, S_5, hv, hf⟩ := gbi_some hf
              refine g_N (As := [.ref (G.2.1 (b + 14)), .int a1]) (rest := []) cx hw hS (c_X10_at l G (ia_s14 hN hb) a1 S_3 v_6 S_5 hv) gnm_30 gy_X10_at gi_X10_at ⟨Nat.le_of_ble_eq_true rfl, Nat.le_of_ble_eq_true rfl⟩ ⟨Nat.zero_le _, Nat.zero_le _⟩ rfl hl.1 rfl (Nat.le_of_ble_eq_true rfl) dX7_maySellTrain_61 (fun H locs hw hS => ?_)
              refine W.eq (g2 := F0 m 64 ls [.int v_6]) rfl ?_
              refine lv_bipush (v := (20 : Int32)) cx.1 cx.2.1 dX7_maySellTrain_64 (by decide) ?_
              refine lv_iload_n cx.1 cx.2.1 dX7_maySellTrain_66 rfl (lv_at hl 2 rfl) ?_
              refine lv_imul cx.1 cx.2.1 dX7_maySellTrain_67 ?_
              refine lv_icmp_lt (tgt := 75) cx.1 cx.2.1 dX7_maySellTrain_68 (by decide) (fun hc => ?_) (fun hc => ?_)
              · rw [if_pos hc] at hf
                refine lv_iconst (v := (0 : Int32)) cx.1 cx.2.1 dX7_maySellTrain_75 (by decide) ?_
                exact g_zreti cx hr hlk hw hS (by decide) hf dX7_maySellTrain_76
              · rw [if_neg hc] at hf
                refine lv_iconst (v := (1 : Int32)) cx.1 cx.2.1 dX7_maySellTrain_71 (by decide) ?_
                refine lv_goto (tgt := 76) cx.1 cx.2.1 dX7_maySellTrain_72 (by decide) ?_
                exact g_zreti cx hr hlk hw hS (by decide) hf dX7_maySellTrain_76
set_option maxHeartbeats 4000000 in
set_option maxRecDepth 100000 in
theorem c_X7_sellTrain (l : Launch) (G : gG) {b : Nat} (hb : IsSt b) (a1 : Int32) (a2 : Int32) (S : Sg) (r : Int32) (S' : Sg) (hf : f_X7_sellTrain b a1 a2 S = some (r, S')) : Ct l yX7_sellTrain [Cond.code yX7_sellTrain cX7_sellTrain 4 (some .int)] (gR 2 47) G [.ref (G.2.1 b), .int a1, .int a2] S (some (.int r)) S' := by
  refine Ct_of (by decide) (Nat.le_of_ble_eq_true rfl) ?_
  intro p e s m below meth c ls cx hr hlk hw hS hl
  have hN := cx.2.2.2.2.hN
  have hl : lv_has ls 4 [(0, .ref (G.2.1 b)), (1, .int a1), (2, .int a2)] := hl
  unfold f_X7_sellTrain at hf
  refine lv_aload_n cx.1 cx.2.1 dX7_sellTrain_0 rfl (lv_at hl 0 rfl) ?_
  refine g_get (C := RX7) (T := TX7) (N := 9) (v := .ref (G.2.1 (b + 3))) cx hw inlX7 b (Nat.lt_of_lt_of_le hb.lt0 hN) (he_s0 hb) rfl 2 (by decide) gw_51 rfl rfl dX7_sellTrain_1 ?_
  refine lv_iload_n cx.1 cx.2.1 dX7_sellTrain_4 rfl (lv_at hl 1 rfl) ?_
  refine lv_iconst (v := (4 : Int32)) cx.1 cx.2.1 dX7_sellTrain_5 (by decide) ?_
  refine lv_bipush (v := (20 : Int32)) cx.1 cx.2.1 dX7_sellTrain_6 (by decide) ?_
  refine lv_iload_n cx.1 cx.2.1 dX7_sellTrain_8 rfl (lv_at hl 2 rfl) ?_
  refine lv_imul cx.1 cx.2.1 dX7_sellTrain_9 ?_
  obtain ⟨S_1, hv, hf⟩ := gbv_some hf
  refine g_V (As := [.int a1, .int (4 : Int32), .int ((20 : Int32) * a2)]) (rest := []) cx hw hS (c_X0_transfer l G hb a1 (4 : Int32) ((20 : Int32) * a2) S S_1 hv) (Nat.lt_of_lt_of_le (hb.lt (j := 3) (by omega)) hN) (he_s3 hb) rfl rfl gw_464 gy_X0_transfer gi_X0_transfer ⟨Nat.le_of_ble_eq_true rfl, Nat.le_of_ble_eq_true rfl⟩ ⟨Nat.zero_le _, Nat.zero_le _⟩ rfl hl.1 rfl (Nat.le_of_ble_eq_true rfl) dX7_sellTrain_10 (fun H locs hw hS => ?_)
  refine W.eq (g2 := F0 m 13 ls []) rfl ?_
  refine lv_aload_n cx.1 cx.2.1 dX7_sellTrain_13 rfl (lv_at hl 0 rfl) ?_
  refine g_get (C := RX7) (T := TX7) (N := 9) (v := .ref (G.2.1 (b + 3))) cx hw inlX7 b (Nat.lt_of_lt_of_le hb.lt0 hN) (he_s0 hb) rfl 2 (by decide) gw_51 rfl rfl dX7_sellTrain_14 ?_
  refine lv_iload_n cx.1 cx.2.1 dX7_sellTrain_17 rfl (lv_at hl 1 rfl) ?_
  refine lv_iload_n cx.1 cx.2.1 dX7_sellTrain_18 rfl (lv_at hl 2 rfl) ?_
  obtain ⟨S_2, hv, hf⟩ := gbv_some hf
  refine g_V (As := [.int a1, .int a2]) (rest := []) cx hw hS (c_X0_addTrain l G hb a1 a2 S_1 S_2 hv) (Nat.lt_of_lt_of_le (hb.lt (j := 3) (by omega)) hN) (he_s3 hb) rfl rfl gw_484 gy_X0_addTrain gi_X0_addTrain ⟨Nat.le_of_ble_eq_true rfl, Nat.le_of_ble_eq_true rfl⟩ ⟨Nat.zero_le _, Nat.zero_le _⟩ rfl hl.1 rfl (Nat.le_of_ble_eq_true rfl) dX7_sellTrain_19 (fun H locs hw hS => ?_)
  refine W.eq (g2 := F0 m 22 ls []) rfl ?_
  refine lv_iload_n cx.1 cx.2.1 dX7_sellTrain_22 rfl (lv_at hl 2 rfl) ?_
  refine lv_aload_n cx.1 cx.2.1 dX7_sellTrain_23 rfl (lv_at hl 0 rfl) ?_
  refine g_get (C := RX7) (T := TX7) (N := 9) (v := .int (S_2 b 4)) cx hw inlX7 b (Nat.lt_of_lt_of_le hb.lt0 hN) (he_s0 hb) rfl 4 (by decide) gw_112 rfl rfl dX7_sellTrain_24 ?_
  refine lv_icmp_gt (tgt := 32) cx.1 cx.2.1 dX7_sellTrain_27 (by decide) (fun hc => ?_) (fun hc => ?_)
  · rw [if_pos hc] at hf
    refine lv_aload_n cx.1 cx.2.1 dX7_sellTrain_32 rfl (lv_at hl 0 rfl) ?_
    refine lv_iload_n cx.1 cx.2.1 dX7_sellTrain_33 rfl (lv_at hl 2 rfl) ?_
    obtain ⟨S_3, eS_3, hf⟩ := gst_ex hf
    refine g_put (C := RX7) (T := TX7) (N := 9) cx hw hS inlX7 tyX7 tyX7_ok nmX7 b (Nat.lt_of_lt_of_le hb.lt0 hN) (he_s0 hb) rfl 4 (by decide) gw_112 rfl rfl (by decide +kernel) (Nat.le_of_ble_eq_true rfl) (by rw [u2_s, (he_s0 hb)]; rfl) dX7_sellTrain_34 (fun H locs hw hS => ?_)
    rw [eS_3] at hw
    refine lv_aload_n cx.1 cx.2.1 dX7_sellTrain_37 rfl (lv_at hl 0 rfl) ?_
    refine g_get (C := RX7) (T := TX7) (N := 9) (v := .ref (G.2.1 (b + 3))) cx hw inlX7 b (Nat.lt_of_lt_of_le hb.lt0 hN) (he_s0 hb) rfl 2 (by decide) gw_51 rfl rfl dX7_sellTrain_38 ?_
    refine lv_aload_n cx.1 cx.2.1 dX7_sellTrain_41 rfl (lv_at hl 0 rfl) ?_
    refine g_get (C := RX7) (T := TX7) (N := 9) (v := .int (S_3 b 4)) cx hw inlX7 b (Nat.lt_of_lt_of_le hb.lt0 hN) (he_s0 hb) rfl 4 (by decide) gw_112 rfl rfl dX7_sellTrain_42 ?_
    refine lv_iconst (v := (1 : Int32)) cx.1 cx.2.1 dX7_sellTrain_45 (by decide) ?_
    refine lv_isub cx.1 cx.2.1 dX7_sellTrain_46 ?_
    obtain ⟨v_5, S_4, hv, hf⟩ := gbi_some hf
    refine g_V (As := [.int ((S_3 b 4) - (1 : Int32))]) (rest := []) cx hw hS (c_X0_dropBelow l G hb ((S_3 b 4) - (1 : Int32)) S_3 v_5 S_4 hv) (Nat.lt_of_lt_of_le (hb.lt (j := 3) (by omega)) hN) (he_s3 hb) rfl rfl gw_488 gy_X0_dropBelow gi_X0_dropBelow ⟨Nat.le_of_ble_eq_true rfl, Nat.le_of_ble_eq_true rfl⟩ ⟨Nat.zero_le _, Nat.zero_le _⟩ rfl hl.1 rfl (Nat.le_of_ble_eq_true rfl) dX7_sellTrain_47 (fun H locs hw hS => ?_)
    refine W.eq (g2 := F0 m 50 ls [.int v_5]) rfl ?_
    refine lv_istore_n (lv' := [(3, .int v_5), (0, .ref (G.2.1 b)), (1, .int a1), (2, .int a2)]) cx.1 cx.2.1 dX7_sellTrain_50 rfl hl (by decide) rfl (fun ls hl => ?_)
    refine lv_aload_n cx.1 cx.2.1 dX7_sellTrain_51 rfl (lv_at hl 1 rfl) ?_
    refine lv_dup cx.1 cx.2.1 dX7_sellTrain_52 rfl ?_
    refine g_get (C := RX7) (T := TX7) (N := 9) (v := .int (S_4 b 8)) cx hw inlX7 b (Nat.lt_of_lt_of_le hb.lt0 hN) (he_s0 hb) rfl 8 (by decide) gw_116 rfl rfl dX7_sellTrain_53 ?_
    refine lv_iload_n cx.1 cx.2.1 dX7_sellTrain_56 rfl (lv_at hl 0 rfl) ?_
    refine lv_iadd cx.1 cx.2.1 dX7_sellTrain_57 ?_
    obtain ⟨S_6, eS_6, hf⟩ := gst_ex hf
    refine g_put (C := RX7) (T := TX7) (N := 9) cx hw hS inlX7 tyX7 tyX7_ok nmX7 b (Nat.lt_of_lt_of_le hb.lt0 hN) (he_s0 hb) rfl 8 (by decide) gw_116 rfl rfl (by decide +kernel) (Nat.le_of_ble_eq_true rfl) (by rw [u2_s, (he_s0 hb)]; rfl) dX7_sellTrain_58 (fun H locs hw hS => ?_)
    rw [eS_6] at hw
    refine lv_iload_n cx.1 cx.2.1 dX7_sellTrain_61 rfl (lv_at hl 0 rfl) ?_
    exact g_ireti cx hr hlk hw hS hf dX7_sellTrain_62
  · rw [if_neg hc] at hf
    refine lv_iconst (v := (0 : Int32)) cx.1 cx.2.1 dX7_sellTrain_30 (by decide) ?_
    exact g_ireti cx hr hlk hw hS hf dX7_sellTrain_31
set_option maxHeartbeats 4000000 in
set_option maxRecDepth 100000 in
theorem c_X7_tryTrain (l : Launch) (G : gG) {b : Nat} (hb : IsSt b) (a1 : Int32) (a2 : Int32) (S : Sg) (r : Int32) (S' : Sg) (hf : f_X7_tryTrain b a1 a2 S = some (r, S')) : Ct l yX7_tryTrain [Cond.code yX7_tryTrain cX7_tryTrain 4 (some .boolean)] (gR 3 70) G [.ref (G.2.1 b), .int a1, .int a2] S (some (.int r)) S' := by
  refine Ct_of (by decide) (Nat.le_of_ble_eq_true rfl) ?_
  intro p e s m below meth c ls cx hr hlk hw hS hl
  have hN := cx.2.2.2.2.hN
  have hl : lv_has ls 4 [(0, .ref (G.2.1 b)), (1, .int a1), (2, .int a2)] := hl
  unfold f_X7_tryTrain at hf
  refine lv_aload_n cx.1 cx.2.1 dX7_tryTrain_0 rfl (lv_at hl 0 rfl) ?_
  refine lv_iload_n cx.1 cx.2.1 dX7_tryTrain_1 rfl (lv_at hl 1 rfl) ?_
  refine lv_iload_n cx.1 cx.2.1 dX7_tryTrain_2 rfl (lv_at hl 2 rfl) ?_
  obtain ⟨v_2, S_1, hv, hf⟩ := gbi_some hf
  refine g_V (As := [.int a1, .int a2]) (rest := []) cx hw hS (c_X7_maySellTrain l G hb a1 a2 S v_2 S_1 hv) (Nat.lt_of_lt_of_le hb.lt0 hN) (he_s0 hb) rfl rfl gw_720 gy_X7_maySellTrain gi_X7_maySellTrain ⟨Nat.le_of_ble_eq_true rfl, Nat.le_of_ble_eq_true rfl⟩ ⟨Nat.zero_le _, Nat.zero_le _⟩ rfl hl.1 rfl (Nat.le_of_ble_eq_true rfl) dX7_tryTrain_3 (fun H locs hw hS => ?_)
  refine W.eq (g2 := F0 m 6 ls [.int v_2]) rfl ?_
  refine lv_istore_n (lv' := [(3, .int v_2), (0, .ref (G.2.1 b)), (1, .int a1), (2, .int a2)]) cx.1 cx.2.1 dX7_tryTrain_6 rfl hl (by decide) rfl (fun ls hl => ?_)
  refine lv_iload_n cx.1 cx.2.1 dX7_tryTrain_7 rfl (lv_at hl 0 rfl) ?_
  refine lv_if_eq (tgt := 18) cx.1 cx.2.1 dX7_tryTrain_8 (by decide) (fun hc => ?_) (fun hc => ?_)
  · rw [if_pos hc] at hf
    refine lv_iload_n cx.1 cx.2.1 dX7_tryTrain_18 rfl (lv_at hl 0 rfl) ?_
    obtain ⟨hbo, hf⟩ := gck_some hf
    exact g_zreti cx hr hlk hw hS hbo hf dX7_tryTrain_19
  · rw [if_neg hc] at hf
    refine lv_aload_n cx.1 cx.2.1 dX7_tryTrain_11 rfl (lv_at hl 1 rfl) ?_
    refine lv_iload_n cx.1 cx.2.1 dX7_tryTrain_12 rfl (lv_at hl 2 rfl) ?_
    refine lv_iload_n cx.1 cx.2.1 dX7_tryTrain_13 rfl (lv_at hl 3 rfl) ?_
    obtain ⟨v_4, S_3, hv, hf⟩ := gbi_some hf
    refine g_V (As := [.int a1, .int a2]) (rest := []) cx hw hS (c_X7_sellTrain l G hb a1 a2 S_1 v_4 S_3 hv) (Nat.lt_of_lt_of_le hb.lt0 hN) (he_s0 hb) rfl rfl gw_721 gy_X7_sellTrain gi_X7_sellTrain ⟨Nat.le_of_ble_eq_true rfl, Nat.le_of_ble_eq_true rfl⟩ ⟨Nat.zero_le _, Nat.zero_le _⟩ rfl hl.1 rfl (Nat.le_of_ble_eq_true rfl) dX7_tryTrain_14 (fun H locs hw hS => ?_)
    refine W.eq (g2 := F0 m 17 ls [.int v_4]) rfl ?_
    refine lv_pop cx.1 cx.2.1 dX7_tryTrain_17 rfl ?_
    refine lv_iload_n cx.1 cx.2.1 dX7_tryTrain_18 rfl (lv_at hl 0 rfl) ?_
    obtain ⟨hbo, hf⟩ := gck_some hf
    exact g_zreti cx hr hlk hw hS hbo hf dX7_tryTrain_19
set_option maxHeartbeats 4000000 in
set_option maxRecDepth 100000 in
theorem c_X7_mayGive (l : Launch) (G : gG) {b : Nat} (hb : IsSt b) (a1 : Int32) (a2 : Int32) (S : Sg) (r : Int32) (S' : Sg) (hf : f_X7_mayGive b a1 a2 S = some (r, S')) : Ct l yX7_mayGive [Cond.code yX7_mayGive cX7_mayGive 3 (some .boolean)] (gR 3 63) G [.ref (G.2.1 b), .int a1, .int a2] S (some (.int r)) S' := by
  refine Ct_of (by decide) (Nat.le_of_ble_eq_true rfl) ?_
  intro p e s m below meth c ls cx hr hlk hw hS hl
  have hN := cx.2.2.2.2.hN
  have hl : lv_has ls 3 [(0, .ref (G.2.1 b)), (1, .int a1), (2, .int a2)] := hl
  unfold f_X7_mayGive at hf
  refine lv_iload_n cx.1 cx.2.1 dX7_mayGive_0 rfl (lv_at hl 1 rfl) ?_
  obtain ⟨v_2, S_1, hv, hf⟩ := gbi_some hf
  refine g_N (As := [.int a1]) (rest := []) cx hw hS (c_X10_isCompany l G a1 S v_2 S_1 hv) gnm_29 gy_X10_isCompany gi_X10_isCompany ⟨Nat.le_of_ble_eq_true rfl, Nat.le_of_ble_eq_true rfl⟩ ⟨Nat.zero_le _, Nat.zero_le _⟩ rfl hl.1 rfl (Nat.le_of_ble_eq_true rfl) dX7_mayGive_1 (fun H locs hw hS => ?_)
  refine W.eq (g2 := F0 m 4 ls [.int v_2]) rfl ?_
  refine lv_if_eq (tgt := 33) cx.1 cx.2.1 dX7_mayGive_4 (by decide) (fun hc => ?_) (fun hc => ?_)
  · rw [if_pos hc] at hf
    refine lv_iconst (v := (0 : Int32)) cx.1 cx.2.1 dX7_mayGive_33 (by decide) ?_
    exact g_zreti cx hr hlk hw hS (by decide) hf dX7_mayGive_34
  · rw [if_neg hc] at hf
    refine lv_aload_n cx.1 cx.2.1 dX7_mayGive_7 rfl (lv_at hl 0 rfl) ?_
    refine g_get (C := RX7) (T := TX7) (N := 9) (v := .ref (G.2.1 (b + 2))) cx hw inlX7 b (Nat.lt_of_lt_of_le hb.lt0 hN) (he_s0 hb) rfl 1 (by decide) gw_47 rfl rfl dX7_mayGive_8 ?_
    refine lv_iload_n cx.1 cx.2.1 dX7_mayGive_11 rfl (lv_at hl 2 rfl) ?_
    obtain ⟨v_4, S_3, hv, hf⟩ := gbi_some hf
    refine g_V (As := [.int a2]) (rest := []) cx hw hS (c_X1_has l G hb a2 S_1 v_4 S_3 hv) (Nat.lt_of_lt_of_le (hb.lt (j := 2) (by omega)) hN) (he_s2 hb) rfl rfl gw_734 gy_X1_has gi_X1_has ⟨Nat.le_of_ble_eq_true rfl, Nat.le_of_ble_eq_true rfl⟩ ⟨Nat.zero_le _, Nat.zero_le _⟩ rfl hl.1 rfl (Nat.le_of_ble_eq_true rfl) dX7_mayGive_12 (fun H locs hw hS => ?_)
    refine W.eq (g2 := F0 m 15 ls [.int v_4]) rfl ?_
    refine lv_if_eq (tgt := 33) cx.1 cx.2.1 dX7_mayGive_15 (by decide) (fun hc => ?_) (fun hc => ?_)
    · rw [if_pos hc] at hf
      refine lv_iconst (v := (0 : Int32)) cx.1 cx.2.1 dX7_mayGive_33 (by decide) ?_
      exact g_zreti cx hr hlk hw hS (by decide) hf dX7_mayGive_34
    · rw [if_neg hc] at hf
      refine lv_aload_n cx.1 cx.2.1 dX7_mayGive_18 rfl (lv_at hl 0 rfl) ?_
      refine g_get (C := RX7) (T := TX7) (N := 9) (v := .ref (G.2.1 (b + 2))) cx hw inlX7 b (Nat.lt_of_lt_of_le hb.lt0 hN) (he_s0 hb) rfl 1 (by decide) gw_47 rfl rfl dX7_mayGive_19 ?_
      refine lv_iload_n cx.1 cx.2.1 dX7_mayGive_22 rfl (lv_at hl 2 rfl) ?_
      obtain ⟨v_6, S_5, hv, hf⟩ := gbi_some hf
      refine g_V (As := [.int a2]) (rest := []) cx hw hS (c_X1_isFree l G hb a2 S_3 v_6 S_5 hv) (Nat.lt_of_lt_of_le (hb.lt (j := 2) (by omega)) hN) (he_s2 hb) rfl rfl gw_633 gy_X1_isFree gi_X1_isFree ⟨Nat.le_of_ble_eq_true rfl, Nat.le_of_ble_eq_true rfl⟩ ⟨Nat.zero_le _, Nat.zero_le _⟩ rfl hl.1 rfl (Nat.le_of_ble_eq_true rfl) dX7_mayGive_23 (fun H locs hw hS => ?_)
      refine W.eq (g2 := F0 m 26 ls [.int v_6]) rfl ?_
      refine lv_if_eq (tgt := 33) cx.1 cx.2.1 dX7_mayGive_26 (by decide) (fun hc => ?_) (fun hc => ?_)
      · rw [if_pos hc] at hf
        refine lv_iconst (v := (0 : Int32)) cx.1 cx.2.1 dX7_mayGive_33 (by decide) ?_
        exact g_zreti cx hr hlk hw hS (by decide) hf dX7_mayGive_34
      · rw [if_neg hc] at hf
        refine lv_iconst (v := (1 : Int32)) cx.1 cx.2.1 dX7_mayGive_29 (by decide) ?_
        refine lv_goto (tgt := 34) cx.1 cx.2.1 dX7_mayGive_30 (by decide) ?_
        exact g_zreti cx hr hlk hw hS (by decide) hf dX7_mayGive_34
set_option maxHeartbeats 4000000 in
set_option maxRecDepth 100000 in
theorem c_X7_tryContract (l : Launch) (G : gG) {b : Nat} (hb : IsSt b) (a1 : Int32) (a2 : Int32) (S : Sg) (r : Int32) (S' : Sg) (hf : f_X7_tryContract b a1 a2 S = some (r, S')) : Ct l yX7_tryContract [Cond.code yX7_tryContract cX7_tryContract 4 (some .boolean)] (gR 4 85) G [.ref (G.2.1 b), .int a1, .int a2] S (some (.int r)) S' := by
  refine Ct_of (by decide) (Nat.le_of_ble_eq_true rfl) ?_
  intro p e s m below meth c ls cx hr hlk hw hS hl
  have hN := cx.2.2.2.2.hN
  have hl : lv_has ls 4 [(0, .ref (G.2.1 b)), (1, .int a1), (2, .int a2)] := hl
  unfold f_X7_tryContract at hf
  refine lv_aload_n cx.1 cx.2.1 dX7_tryContract_0 rfl (lv_at hl 0 rfl) ?_
  refine lv_iload_n cx.1 cx.2.1 dX7_tryContract_1 rfl (lv_at hl 1 rfl) ?_
  refine lv_iload_n cx.1 cx.2.1 dX7_tryContract_2 rfl (lv_at hl 2 rfl) ?_
  obtain ⟨v_2, S_1, hv, hf⟩ := gbi_some hf
  refine g_V (As := [.int a1, .int a2]) (rest := []) cx hw hS (c_X7_mayGive l G hb a1 a2 S v_2 S_1 hv) (Nat.lt_of_lt_of_le hb.lt0 hN) (he_s0 hb) rfl rfl gw_730 gy_X7_mayGive gi_X7_mayGive ⟨Nat.le_of_ble_eq_true rfl, Nat.le_of_ble_eq_true rfl⟩ ⟨Nat.zero_le _, Nat.zero_le _⟩ rfl hl.1 rfl (Nat.le_of_ble_eq_true rfl) dX7_tryContract_3 (fun H locs hw hS => ?_)
  refine W.eq (g2 := F0 m 6 ls [.int v_2]) rfl ?_
  refine lv_istore_n (lv' := [(3, .int v_2), (0, .ref (G.2.1 b)), (1, .int a1), (2, .int a2)]) cx.1 cx.2.1 dX7_tryContract_6 rfl hl (by decide) rfl (fun ls hl => ?_)
  refine lv_iload_n cx.1 cx.2.1 dX7_tryContract_7 rfl (lv_at hl 0 rfl) ?_
  refine lv_if_eq (tgt := 20) cx.1 cx.2.1 dX7_tryContract_8 (by decide) (fun hc => ?_) (fun hc => ?_)
  · rw [if_pos hc] at hf
    refine lv_iload_n cx.1 cx.2.1 dX7_tryContract_20 rfl (lv_at hl 0 rfl) ?_
    obtain ⟨hbo, hf⟩ := gck_some hf
    exact g_zreti cx hr hlk hw hS hbo hf dX7_tryContract_21
  · rw [if_neg hc] at hf
    refine lv_aload_n cx.1 cx.2.1 dX7_tryContract_11 rfl (lv_at hl 1 rfl) ?_
    refine g_get (C := RX7) (T := TX7) (N := 9) (v := .ref (G.2.1 (b + 2))) cx hw inlX7 b (Nat.lt_of_lt_of_le hb.lt0 hN) (he_s0 hb) rfl 1 (by decide) gw_47 rfl rfl dX7_tryContract_12 ?_
    refine lv_iload_n cx.1 cx.2.1 dX7_tryContract_15 rfl (lv_at hl 3 rfl) ?_
    refine lv_iload_n cx.1 cx.2.1 dX7_tryContract_16 rfl (lv_at hl 2 rfl) ?_
    obtain ⟨S_3, hv, hf⟩ := gbv_some hf
    refine g_V (As := [.int a2, .int a1]) (rest := []) cx hw hS (c_X1_give l G hb a2 a1 S_1 S_3 hv) (Nat.lt_of_lt_of_le (hb.lt (j := 2) (by omega)) hN) (he_s2 hb) rfl rfl gw_735 gy_X1_give gi_X1_give ⟨Nat.le_of_ble_eq_true rfl, Nat.le_of_ble_eq_true rfl⟩ ⟨Nat.zero_le _, Nat.zero_le _⟩ rfl hl.1 rfl (Nat.le_of_ble_eq_true rfl) dX7_tryContract_17 (fun H locs hw hS => ?_)
    refine W.eq (g2 := F0 m 20 ls []) rfl ?_
    refine lv_iload_n cx.1 cx.2.1 dX7_tryContract_20 rfl (lv_at hl 0 rfl) ?_
    obtain ⟨hbo, hf⟩ := gck_some hf
    exact g_zreti cx hr hlk hw hS hbo hf dX7_tryContract_21
set_option maxHeartbeats 4000000 in
set_option maxRecDepth 100000 in
theorem c_X5_obey (l : Launch) (G : gG) {b0 : Nat} (hb0 : IsSt b0) (a2 : Int32) (S : Sg) (r : Int32) (S' : Sg) (hf : f_X5_obey b0 a2 S = some (r, S')) : Ct l yX5_obey [Cond.code yX5_obey cX5_obey 6 (some .boolean)] (gR 6 149) G [.ref (G.2.1 b0), .ref (G.2.1 8), .int a2] S (some (.int r)) S' := by
  refine Ct_of (by decide) (Nat.le_of_ble_eq_true rfl) ?_
  intro p e s m below meth c ls cx hr hlk hw hS hl
  have hN := cx.2.2.2.2.hN
  have hB_28 : ∀ (S : Sg) (x2 : Int32) (x3 : Int32) (x4 : Int32) (t0 : Int32) (H : Heap) (locs : List Loc) (ls : Array Slot), gP G S H → va_S (gA G s.heap.size) s.heap H locs → lv_has ls 6 [(0, .ref (G.2.1 b0)), (1, .ref (G.2.1 8)), (2, .int x2), (3, .int x3), (4, .int x4)] → B_X5_obey_28 b0 S x2 x3 x4 t0 = some (r, S') → W p l e (gR 6 149) s m ([.ref (G.2.1 b0), .ref (G.2.1 8), .int a2] : List Value).toArray below meth c H locs 0 0 (MQ below (gQ G S' (some (.int r)) (gA G s.heap.size)) ([.ref (G.2.1 b0), .ref (G.2.1 8), .int a2] : List Value).toArray s 0 0 (gA G s.heap.size)) (F0 m 28 ls [.int t0]) := by
    intro S x2 x3 x4 t0 H locs ls hw hS hl hf
    unfold B_X5_obey_28 at hf
    refine lv_istore (lv' := [(5, .int t0), (0, .ref (G.2.1 b0)), (1, .ref (G.2.1 8)), (2, .int x2), (3, .int x3), (4, .int x4)]) cx.1 cx.2.1 dX5_obey_28 hl (by decide) rfl (fun ls hl => ?_)
    refine lv_iload_n cx.1 cx.2.1 dX5_obey_30 rfl (lv_at hl 3 rfl) ?_
    refine lv_sipush (v := (10000 : Int32)) cx.1 cx.2.1 dX5_obey_31 (by decide) ?_
    refine lv_idiv cx.1 cx.2.1 dX5_obey_34 (by decide) ?_
    by_cases hs_3 : (x2 / (10000 : Int32)) = (1 : Int32)
    · rw [if_pos hs_3] at hf
      refine lv_tableIn (off := 49) (tgt := 84) cx.1 cx.2.1 dX5_obey_35 (by rw [hs_3]; decide) (by rw [hs_3]; decide) (by rw [hs_3]; decide) (by decide) ?_
      refine lv_iload cx.1 cx.2.1 dX5_obey_84 (lv_at hl 5 rfl) ?_
      refine lv_bipush (v := (100 : Int32)) cx.1 cx.2.1 dX5_obey_86 (by decide) ?_
      refine lv_icmp_ge (tgt := 105) cx.1 cx.2.1 dX5_obey_88 (by decide) (fun hc => ?_) (fun hc => ?_)
      · rw [if_pos hc] at hf
        refine lv_iconst (v := (0 : Int32)) cx.1 cx.2.1 dX5_obey_105 (by decide) ?_
        exact g_zreti cx hr hlk hw hS (by decide) hf dX5_obey_106
      · rw [if_neg hc] at hf
        refine lv_aload_n cx.1 cx.2.1 dX5_obey_91 rfl (lv_at hl 1 rfl) ?_
        refine lv_iload_n cx.1 cx.2.1 dX5_obey_92 rfl (lv_at hl 4 rfl) ?_
        refine lv_iload cx.1 cx.2.1 dX5_obey_93 (lv_at hl 5 rfl) ?_
        obtain ⟨v_2, S_1, hv, hf⟩ := gbi_some hf
        refine g_V (As := [.int x3, .int x4]) (rest := []) cx hw hS (c_X7_tryTrack l G hb0 x3 x4 S v_2 S_1 hv) (Nat.lt_of_lt_of_le hb0.lt0 hN) (he_s0 hb0) rfl rfl gw_710 gy_X7_tryTrack gi_X7_tryTrack ⟨Nat.le_of_ble_eq_true rfl, Nat.le_of_ble_eq_true rfl⟩ ⟨Nat.zero_le _, Nat.zero_le _⟩ rfl hl.1 rfl (Nat.le_of_ble_eq_true rfl) dX5_obey_95 (fun H locs hw hS => ?_)
        refine W.eq (g2 := F0 m 98 ls [.int v_2]) rfl ?_
        refine lv_if_eq (tgt := 105) cx.1 cx.2.1 dX5_obey_98 (by decide) (fun hc => ?_) (fun hc => ?_)
        · rw [if_pos hc] at hf
          refine lv_iconst (v := (0 : Int32)) cx.1 cx.2.1 dX5_obey_105 (by decide) ?_
          exact g_zreti cx hr hlk hw hS (by decide) hf dX5_obey_106
        · rw [if_neg hc] at hf
          refine lv_iconst (v := (1 : Int32)) cx.1 cx.2.1 dX5_obey_101 (by decide) ?_
          refine lv_goto (tgt := 106) cx.1 cx.2.1 dX5_obey_102 (by decide) ?_
          exact g_zreti cx hr hlk hw hS (by decide) hf dX5_obey_106
    rw [if_neg hs_3] at hf
    by_cases hs_6 : (x2 / (10000 : Int32)) = (2 : Int32)
    · rw [if_pos hs_6] at hf
      refine lv_tableIn (off := 72) (tgt := 107) cx.1 cx.2.1 dX5_obey_35 (by rw [hs_6]; decide) (by rw [hs_6]; decide) (by rw [hs_6]; decide) (by decide) ?_
      refine lv_iload cx.1 cx.2.1 dX5_obey_107 (lv_at hl 0 rfl) ?_
      refine lv_if_eq (tgt := 126) cx.1 cx.2.1 dX5_obey_109 (by decide) (fun hc => ?_) (fun hc => ?_)
      · rw [if_pos hc] at hf
        refine lv_iconst (v := (0 : Int32)) cx.1 cx.2.1 dX5_obey_126 (by decide) ?_
        exact g_zreti cx hr hlk hw hS (by decide) hf dX5_obey_127
      · rw [if_neg hc] at hf
        refine lv_aload_n cx.1 cx.2.1 dX5_obey_112 rfl (lv_at hl 1 rfl) ?_
        refine lv_iload_n cx.1 cx.2.1 dX5_obey_113 rfl (lv_at hl 4 rfl) ?_
        refine lv_iload cx.1 cx.2.1 dX5_obey_114 (lv_at hl 5 rfl) ?_
        obtain ⟨v_5, S_4, hv, hf⟩ := gbi_some hf
        refine g_V (As := [.int x3, .int x4]) (rest := []) cx hw hS (c_X7_tryTrain l G hb0 x3 x4 S v_5 S_4 hv) (Nat.lt_of_lt_of_le hb0.lt0 hN) (he_s0 hb0) rfl rfl gw_716 gy_X7_tryTrain gi_X7_tryTrain ⟨Nat.le_of_ble_eq_true rfl, Nat.le_of_ble_eq_true rfl⟩ ⟨Nat.zero_le _, Nat.zero_le _⟩ rfl hl.1 rfl (Nat.le_of_ble_eq_true rfl) dX5_obey_116 (fun H locs hw hS => ?_)
        refine W.eq (g2 := F0 m 119 ls [.int v_5]) rfl ?_
        refine lv_if_eq (tgt := 126) cx.1 cx.2.1 dX5_obey_119 (by decide) (fun hc => ?_) (fun hc => ?_)
        · rw [if_pos hc] at hf
          refine lv_iconst (v := (0 : Int32)) cx.1 cx.2.1 dX5_obey_126 (by decide) ?_
          exact g_zreti cx hr hlk hw hS (by decide) hf dX5_obey_127
        · rw [if_neg hc] at hf
          refine lv_iconst (v := (1 : Int32)) cx.1 cx.2.1 dX5_obey_122 (by decide) ?_
          refine lv_goto (tgt := 127) cx.1 cx.2.1 dX5_obey_123 (by decide) ?_
          exact g_zreti cx hr hlk hw hS (by decide) hf dX5_obey_127
    rw [if_neg hs_6] at hf
    by_cases hs_9 : (x2 / (10000 : Int32)) = (3 : Int32)
    · rw [if_pos hs_9] at hf
      refine lv_tableIn (off := 93) (tgt := 128) cx.1 cx.2.1 dX5_obey_35 (by rw [hs_9]; decide) (by rw [hs_9]; decide) (by rw [hs_9]; decide) (by decide) ?_
      refine lv_iload cx.1 cx.2.1 dX5_obey_128 (lv_at hl 0 rfl) ?_
      refine lv_if_eq (tgt := 147) cx.1 cx.2.1 dX5_obey_130 (by decide) (fun hc => ?_) (fun hc => ?_)
      · rw [if_pos hc] at hf
        refine lv_iconst (v := (0 : Int32)) cx.1 cx.2.1 dX5_obey_147 (by decide) ?_
        exact g_zreti cx hr hlk hw hS (by decide) hf dX5_obey_148
      · rw [if_neg hc] at hf
        refine lv_aload_n cx.1 cx.2.1 dX5_obey_133 rfl (lv_at hl 1 rfl) ?_
        refine lv_iload_n cx.1 cx.2.1 dX5_obey_134 rfl (lv_at hl 4 rfl) ?_
        refine lv_iload cx.1 cx.2.1 dX5_obey_135 (lv_at hl 5 rfl) ?_
        obtain ⟨v_8, S_7, hv, hf⟩ := gbi_some hf
        refine g_S (As := [.ref (G.2.1 b0), .int x3, .int x4]) (rest := []) cx hw hS (c_X5_changeRent l G hb0 x3 x4 S v_8 S_7 hv) gw_722 gy_X5_changeRent gi_X5_changeRent ⟨Nat.le_of_ble_eq_true rfl, Nat.le_of_ble_eq_true rfl⟩ ⟨Nat.zero_le _, Nat.zero_le _⟩ rfl hl.1 rfl (Nat.le_of_ble_eq_true rfl) dX5_obey_137 (fun H locs hw hS => ?_)
        refine W.eq (g2 := F0 m 140 ls [.int v_8]) rfl ?_
        refine lv_if_eq (tgt := 147) cx.1 cx.2.1 dX5_obey_140 (by decide) (fun hc => ?_) (fun hc => ?_)
        · rw [if_pos hc] at hf
          refine lv_iconst (v := (0 : Int32)) cx.1 cx.2.1 dX5_obey_147 (by decide) ?_
          exact g_zreti cx hr hlk hw hS (by decide) hf dX5_obey_148
        · rw [if_neg hc] at hf
          refine lv_iconst (v := (1 : Int32)) cx.1 cx.2.1 dX5_obey_143 (by decide) ?_
          refine lv_goto (tgt := 148) cx.1 cx.2.1 dX5_obey_144 (by decide) ?_
          exact g_zreti cx hr hlk hw hS (by decide) hf dX5_obey_148
    rw [if_neg hs_9] at hf
    by_cases hs_12 : (x2 / (10000 : Int32)) = (4 : Int32)
    · rw [if_pos hs_12] at hf
      refine lv_tableIn (off := 114) (tgt := 149) cx.1 cx.2.1 dX5_obey_35 (by rw [hs_12]; decide) (by rw [hs_12]; decide) (by rw [hs_12]; decide) (by decide) ?_
      refine lv_iload cx.1 cx.2.1 dX5_obey_149 (lv_at hl 0 rfl) ?_
      refine lv_if_eq (tgt := 168) cx.1 cx.2.1 dX5_obey_151 (by decide) (fun hc => ?_) (fun hc => ?_)
      · rw [if_pos hc] at hf
        refine lv_iconst (v := (0 : Int32)) cx.1 cx.2.1 dX5_obey_168 (by decide) ?_
        exact g_zreti cx hr hlk hw hS (by decide) hf dX5_obey_169
      · rw [if_neg hc] at hf
        refine lv_aload_n cx.1 cx.2.1 dX5_obey_154 rfl (lv_at hl 1 rfl) ?_
        refine lv_iload_n cx.1 cx.2.1 dX5_obey_155 rfl (lv_at hl 4 rfl) ?_
        refine lv_iload cx.1 cx.2.1 dX5_obey_156 (lv_at hl 5 rfl) ?_
        obtain ⟨v_11, S_10, hv, hf⟩ := gbi_some hf
        refine g_V (As := [.int x3, .int x4]) (rest := []) cx hw hS (c_X7_tryContract l G hb0 x3 x4 S v_11 S_10 hv) (Nat.lt_of_lt_of_le hb0.lt0 hN) (he_s0 hb0) rfl rfl gw_726 gy_X7_tryContract gi_X7_tryContract ⟨Nat.le_of_ble_eq_true rfl, Nat.le_of_ble_eq_true rfl⟩ ⟨Nat.zero_le _, Nat.zero_le _⟩ rfl hl.1 rfl (Nat.le_of_ble_eq_true rfl) dX5_obey_158 (fun H locs hw hS => ?_)
        refine W.eq (g2 := F0 m 161 ls [.int v_11]) rfl ?_
        refine lv_if_eq (tgt := 168) cx.1 cx.2.1 dX5_obey_161 (by decide) (fun hc => ?_) (fun hc => ?_)
        · rw [if_pos hc] at hf
          refine lv_iconst (v := (0 : Int32)) cx.1 cx.2.1 dX5_obey_168 (by decide) ?_
          exact g_zreti cx hr hlk hw hS (by decide) hf dX5_obey_169
        · rw [if_neg hc] at hf
          refine lv_iconst (v := (1 : Int32)) cx.1 cx.2.1 dX5_obey_164 (by decide) ?_
          refine lv_goto (tgt := 169) cx.1 cx.2.1 dX5_obey_165 (by decide) ?_
          exact g_zreti cx hr hlk hw hS (by decide) hf dX5_obey_169
    rw [if_neg hs_12] at hf
    by_cases hs_15 : (x2 / (10000 : Int32)) = (5 : Int32)
    · rw [if_pos hs_15] at hf
      refine lv_tableIn (off := 135) (tgt := 170) cx.1 cx.2.1 dX5_obey_35 (by rw [hs_15]; decide) (by rw [hs_15]; decide) (by rw [hs_15]; decide) (by decide) ?_
      refine lv_iload cx.1 cx.2.1 dX5_obey_170 (lv_at hl 0 rfl) ?_
      refine lv_if_eq (tgt := 190) cx.1 cx.2.1 dX5_obey_172 (by decide) (fun hc => ?_) (fun hc => ?_)
      · rw [if_pos hc] at hf
        refine lv_iconst (v := (0 : Int32)) cx.1 cx.2.1 dX5_obey_190 (by decide) ?_
        exact g_zreti cx hr hlk hw hS (by decide) hf dX5_obey_191
      · rw [if_neg hc] at hf
        refine lv_aload_n cx.1 cx.2.1 dX5_obey_175 rfl (lv_at hl 2 rfl) ?_
        refine lv_aload_n cx.1 cx.2.1 dX5_obey_176 rfl (lv_at hl 1 rfl) ?_
        refine lv_iload_n cx.1 cx.2.1 dX5_obey_177 rfl (lv_at hl 4 rfl) ?_
        refine lv_iload cx.1 cx.2.1 dX5_obey_178 (lv_at hl 5 rfl) ?_
        obtain ⟨v_14, S_13, hv, hf⟩ := gbi_some hf
        refine g_V (As := [.ref (G.2.1 b0), .int x3, .int x4]) (rest := []) cx hw hS (c_X4_tryCarry l G hb0 x3 x4 S v_14 S_13 hv) (by omega) he_c8 rfl rfl gw_736 gy_X4_tryCarry gi_X4_tryCarry ⟨Nat.le_of_ble_eq_true rfl, Nat.le_of_ble_eq_true rfl⟩ ⟨Nat.zero_le _, Nat.zero_le _⟩ rfl hl.1 rfl (Nat.le_of_ble_eq_true rfl) dX5_obey_180 (fun H locs hw hS => ?_)
        refine W.eq (g2 := F0 m 183 ls [.int v_14]) rfl ?_
        refine lv_if_eq (tgt := 190) cx.1 cx.2.1 dX5_obey_183 (by decide) (fun hc => ?_) (fun hc => ?_)
        · rw [if_pos hc] at hf
          refine lv_iconst (v := (0 : Int32)) cx.1 cx.2.1 dX5_obey_190 (by decide) ?_
          exact g_zreti cx hr hlk hw hS (by decide) hf dX5_obey_191
        · rw [if_neg hc] at hf
          refine lv_iconst (v := (1 : Int32)) cx.1 cx.2.1 dX5_obey_186 (by decide) ?_
          refine lv_goto (tgt := 191) cx.1 cx.2.1 dX5_obey_187 (by decide) ?_
          exact g_zreti cx hr hlk hw hS (by decide) hf dX5_obey_191
    rw [if_neg hs_15] at hf
    by_cases hs_18 : (x2 / (10000 : Int32)) = (6 : Int32)
    · rw [if_pos hs_18] at hf
      refine lv_tableIn (off := 157) (tgt := 192) cx.1 cx.2.1 dX5_obey_35 (by rw [hs_18]; decide) (by rw [hs_18]; decide) (by rw [hs_18]; decide) (by decide) ?_
      refine lv_iload_n cx.1 cx.2.1 dX5_obey_192 rfl (lv_at hl 4 rfl) ?_
      refine lv_if_ne (tgt := 212) cx.1 cx.2.1 dX5_obey_193 (by decide) (fun hc => ?_) (fun hc => ?_)
      · rw [if_neg hc] at hf
        refine lv_iconst (v := (0 : Int32)) cx.1 cx.2.1 dX5_obey_212 (by decide) ?_
        exact g_zreti cx hr hlk hw hS (by decide) hf dX5_obey_213
      · rw [if_pos hc] at hf
        refine lv_iload cx.1 cx.2.1 dX5_obey_196 (lv_at hl 5 rfl) ?_
        refine lv_if_ne (tgt := 212) cx.1 cx.2.1 dX5_obey_198 (by decide) (fun hc => ?_) (fun hc => ?_)
        · rw [if_neg hc] at hf
          refine lv_iconst (v := (0 : Int32)) cx.1 cx.2.1 dX5_obey_212 (by decide) ?_
          exact g_zreti cx hr hlk hw hS (by decide) hf dX5_obey_213
        · rw [if_pos hc] at hf
          refine lv_aload_n cx.1 cx.2.1 dX5_obey_201 rfl (lv_at hl 1 rfl) ?_
          obtain ⟨v_17, S_16, hv, hf⟩ := gbi_some hf
          refine g_S (As := [.ref (G.2.1 b0)]) (rest := []) cx hw hS (c_X5_endOfRound l G hb0 S v_17 S_16 hv) gw_743 gy_X5_endOfRound gi_X5_endOfRound ⟨Nat.le_of_ble_eq_true rfl, Nat.le_of_ble_eq_true rfl⟩ ⟨Nat.zero_le _, Nat.zero_le _⟩ rfl hl.1 rfl (Nat.le_of_ble_eq_true rfl) dX5_obey_202 (fun H locs hw hS => ?_)
          refine W.eq (g2 := F0 m 205 ls [.int v_17]) rfl ?_
          refine lv_if_eq (tgt := 212) cx.1 cx.2.1 dX5_obey_205 (by decide) (fun hc => ?_) (fun hc => ?_)
          · rw [if_pos hc] at hf
            refine lv_iconst (v := (0 : Int32)) cx.1 cx.2.1 dX5_obey_212 (by decide) ?_
            exact g_zreti cx hr hlk hw hS (by decide) hf dX5_obey_213
          · rw [if_neg hc] at hf
            refine lv_iconst (v := (1 : Int32)) cx.1 cx.2.1 dX5_obey_208 (by decide) ?_
            refine lv_goto (tgt := 213) cx.1 cx.2.1 dX5_obey_209 (by decide) ?_
            exact g_zreti cx hr hlk hw hS (by decide) hf dX5_obey_213
    rw [if_neg hs_18] at hf
    by_cases hs_23 : (x2 / (10000 : Int32)) = (7 : Int32)
    · rw [if_pos hs_23] at hf
      refine lv_tableIn (off := 179) (tgt := 214) cx.1 cx.2.1 dX5_obey_35 (by rw [hs_23]; decide) (by rw [hs_23]; decide) (by rw [hs_23]; decide) (by decide) ?_
      refine lv_iload_n cx.1 cx.2.1 dX5_obey_214 rfl (lv_at hl 4 rfl) ?_
      obtain ⟨v_20, S_19, hv, hf⟩ := gbi_some hf
      refine g_N (As := [.int x3]) (rest := []) cx hw hS (c_X10_isCompany l G x3 S v_20 S_19 hv) gnm_35 gy_X10_isCompany gi_X10_isCompany ⟨Nat.le_of_ble_eq_true rfl, Nat.le_of_ble_eq_true rfl⟩ ⟨Nat.zero_le _, Nat.zero_le _⟩ rfl hl.1 rfl (Nat.le_of_ble_eq_true rfl) dX5_obey_215 (fun H locs hw hS => ?_)
      refine W.eq (g2 := F0 m 218 ls [.int v_20]) rfl ?_
      refine lv_if_eq (tgt := 241) cx.1 cx.2.1 dX5_obey_218 (by decide) (fun hc => ?_) (fun hc => ?_)
      · rw [if_pos hc] at hf
        refine lv_iconst (v := (0 : Int32)) cx.1 cx.2.1 dX5_obey_241 (by decide) ?_
        exact g_zreti cx hr hlk hw hS (by decide) hf dX5_obey_242
      · rw [if_neg hc] at hf
        refine lv_aload_n cx.1 cx.2.1 dX5_obey_221 rfl (lv_at hl 1 rfl) ?_
        refine g_get (C := RX7) (T := TX7) (N := 9) (v := .ref (G.2.1 (b0 + 3))) cx hw inlX7 b0 (Nat.lt_of_lt_of_le hb0.lt0 hN) (he_s0 hb0) rfl 2 (by decide) gw_706 rfl rfl dX5_obey_222 ?_
        refine g_get (C := RX0) (T := TX0) (N := 7) (v := .ref (G.2.1 (b0 + 14))) cx hw inlX0 (b0 + 3) (Nat.lt_of_lt_of_le (hb0.lt (j := 3) (by omega)) hN) (he_s3 hb0) rfl 0 (by decide) gw_707 rfl rfl dX5_obey_225 ?_
        refine lv_iload_n cx.1 cx.2.1 dX5_obey_228 rfl (lv_at hl 4 rfl) ?_
        obtain ⟨v_22, S_21, hv, hf⟩ := gbi_some hf
        refine g_N (As := [.ref (G.2.1 (b0 + 14)), .int x3]) (rest := []) cx hw hS (c_X10_at l G (ia_s14 hN hb0) x3 S_19 v_22 S_21 hv) gnm_36 gy_X10_at gi_X10_at ⟨Nat.le_of_ble_eq_true rfl, Nat.le_of_ble_eq_true rfl⟩ ⟨Nat.zero_le _, Nat.zero_le _⟩ rfl hl.1 rfl (Nat.le_of_ble_eq_true rfl) dX5_obey_229 (fun H locs hw hS => ?_)
        refine W.eq (g2 := F0 m 232 ls [.int v_22]) rfl ?_
        refine lv_iload cx.1 cx.2.1 dX5_obey_232 (lv_at hl 5 rfl) ?_
        refine lv_icmp_lt (tgt := 241) cx.1 cx.2.1 dX5_obey_234 (by decide) (fun hc => ?_) (fun hc => ?_)
        · rw [if_pos hc] at hf
          refine lv_iconst (v := (0 : Int32)) cx.1 cx.2.1 dX5_obey_241 (by decide) ?_
          exact g_zreti cx hr hlk hw hS (by decide) hf dX5_obey_242
        · rw [if_neg hc] at hf
          refine lv_iconst (v := (1 : Int32)) cx.1 cx.2.1 dX5_obey_237 (by decide) ?_
          refine lv_goto (tgt := 242) cx.1 cx.2.1 dX5_obey_238 (by decide) ?_
          exact g_zreti cx hr hlk hw hS (by decide) hf dX5_obey_242
    rw [if_neg hs_23] at hf
    by_cases hs_24 : (x2 / (10000 : Int32)) = (8 : Int32)
    · rw [if_pos hs_24] at hf
      refine lv_tableIn (off := 208) (tgt := 243) cx.1 cx.2.1 dX5_obey_35 (by rw [hs_24]; decide) (by rw [hs_24]; decide) (by rw [hs_24]; decide) (by decide) ?_
      refine lv_iload_n cx.1 cx.2.1 dX5_obey_243 rfl (lv_at hl 4 rfl) ?_
      refine lv_if_ne (tgt := 265) cx.1 cx.2.1 dX5_obey_244 (by decide) (fun hc => ?_) (fun hc => ?_)
      · rw [if_neg hc] at hf
        refine lv_iconst (v := (0 : Int32)) cx.1 cx.2.1 dX5_obey_265 (by decide) ?_
        exact g_zreti cx hr hlk hw hS (by decide) hf dX5_obey_266
      · rw [if_pos hc] at hf
        refine lv_iload cx.1 cx.2.1 dX5_obey_247 (lv_at hl 0 rfl) ?_
        refine lv_if_eq (tgt := 265) cx.1 cx.2.1 dX5_obey_249 (by decide) (fun hc => ?_) (fun hc => ?_)
        · rw [if_pos hc] at hf
          refine lv_iconst (v := (0 : Int32)) cx.1 cx.2.1 dX5_obey_265 (by decide) ?_
          exact g_zreti cx hr hlk hw hS (by decide) hf dX5_obey_266
        · rw [if_neg hc] at hf
          refine lv_aload_n cx.1 cx.2.1 dX5_obey_252 rfl (lv_at hl 1 rfl) ?_
          refine g_get (C := RX7) (T := TX7) (N := 9) (v := .int (S b0 4)) cx hw inlX7 b0 (Nat.lt_of_lt_of_le hb0.lt0 hN) (he_s0 hb0) rfl 4 (by decide) gw_708 rfl rfl dX5_obey_253 ?_
          refine lv_iload cx.1 cx.2.1 dX5_obey_256 (lv_at hl 5 rfl) ?_
          refine lv_icmp_ne (tgt := 265) cx.1 cx.2.1 dX5_obey_258 (by decide) (fun hc => ?_) (fun hc => ?_)
          · rw [if_neg hc] at hf
            refine lv_iconst (v := (0 : Int32)) cx.1 cx.2.1 dX5_obey_265 (by decide) ?_
            exact g_zreti cx hr hlk hw hS (by decide) hf dX5_obey_266
          · rw [if_pos hc] at hf
            refine lv_iconst (v := (1 : Int32)) cx.1 cx.2.1 dX5_obey_261 (by decide) ?_
            refine lv_goto (tgt := 266) cx.1 cx.2.1 dX5_obey_262 (by decide) ?_
            exact g_zreti cx hr hlk hw hS (by decide) hf dX5_obey_266
    rw [if_neg hs_24] at hf
    by_cases hs_29 : (x2 / (10000 : Int32)) = (9 : Int32)
    · rw [if_pos hs_29] at hf
      refine lv_tableIn (off := 232) (tgt := 267) cx.1 cx.2.1 dX5_obey_35 (by rw [hs_29]; decide) (by rw [hs_29]; decide) (by rw [hs_29]; decide) (by decide) ?_
      refine lv_iload_n cx.1 cx.2.1 dX5_obey_267 rfl (lv_at hl 4 rfl) ?_
      obtain ⟨v_26, S_25, hv, hf⟩ := gbi_some hf
      refine g_N (As := [.int x3]) (rest := []) cx hw hS (c_X10_isCompany l G x3 S v_26 S_25 hv) gnm_35 gy_X10_isCompany gi_X10_isCompany ⟨Nat.le_of_ble_eq_true rfl, Nat.le_of_ble_eq_true rfl⟩ ⟨Nat.zero_le _, Nat.zero_le _⟩ rfl hl.1 rfl (Nat.le_of_ble_eq_true rfl) dX5_obey_268 (fun H locs hw hS => ?_)
      refine W.eq (g2 := F0 m 271 ls [.int v_26]) rfl ?_
      refine lv_if_eq (tgt := 299) cx.1 cx.2.1 dX5_obey_271 (by decide) (fun hc => ?_) (fun hc => ?_)
      · rw [if_pos hc] at hf
        refine lv_iconst (v := (0 : Int32)) cx.1 cx.2.1 dX5_obey_299 (by decide) ?_
        exact g_zreti cx hr hlk hw hS (by decide) hf dX5_obey_300
      · rw [if_neg hc] at hf
        refine lv_iload cx.1 cx.2.1 dX5_obey_274 (lv_at hl 0 rfl) ?_
        refine lv_if_eq (tgt := 299) cx.1 cx.2.1 dX5_obey_276 (by decide) (fun hc => ?_) (fun hc => ?_)
        · rw [if_pos hc] at hf
          refine lv_iconst (v := (0 : Int32)) cx.1 cx.2.1 dX5_obey_299 (by decide) ?_
          exact g_zreti cx hr hlk hw hS (by decide) hf dX5_obey_300
        · rw [if_neg hc] at hf
          refine lv_aload_n cx.1 cx.2.1 dX5_obey_279 rfl (lv_at hl 1 rfl) ?_
          refine g_get (C := RX7) (T := TX7) (N := 9) (v := .ref (G.2.1 (b0 + 3))) cx hw inlX7 b0 (Nat.lt_of_lt_of_le hb0.lt0 hN) (he_s0 hb0) rfl 2 (by decide) gw_706 rfl rfl dX5_obey_280 ?_
          refine g_get (C := RX0) (T := TX0) (N := 7) (v := .ref (G.2.1 (b0 + 18))) cx hw inlX0 (b0 + 3) (Nat.lt_of_lt_of_le (hb0.lt (j := 3) (by omega)) hN) (he_s3 hb0) rfl 4 (by decide) gw_709 rfl rfl dX5_obey_283 ?_
          refine lv_iload_n cx.1 cx.2.1 dX5_obey_286 rfl (lv_at hl 4 rfl) ?_
          obtain ⟨v_28, S_27, hv, hf⟩ := gbi_some hf
          refine g_N (As := [.ref (G.2.1 (b0 + 18)), .int x3]) (rest := []) cx hw hS (c_X10_at l G (ia_s18 hN hb0) x3 S_25 v_28 S_27 hv) gnm_36 gy_X10_at gi_X10_at ⟨Nat.le_of_ble_eq_true rfl, Nat.le_of_ble_eq_true rfl⟩ ⟨Nat.zero_le _, Nat.zero_le _⟩ rfl hl.1 rfl (Nat.le_of_ble_eq_true rfl) dX5_obey_287 (fun H locs hw hS => ?_)
          refine W.eq (g2 := F0 m 290 ls [.int v_28]) rfl ?_
          refine lv_iload cx.1 cx.2.1 dX5_obey_290 (lv_at hl 5 rfl) ?_
          refine lv_icmp_ne (tgt := 299) cx.1 cx.2.1 dX5_obey_292 (by decide) (fun hc => ?_) (fun hc => ?_)
          · rw [if_neg hc] at hf
            refine lv_iconst (v := (0 : Int32)) cx.1 cx.2.1 dX5_obey_299 (by decide) ?_
            exact g_zreti cx hr hlk hw hS (by decide) hf dX5_obey_300
          · rw [if_pos hc] at hf
            refine lv_iconst (v := (1 : Int32)) cx.1 cx.2.1 dX5_obey_295 (by decide) ?_
            refine lv_goto (tgt := 300) cx.1 cx.2.1 dX5_obey_296 (by decide) ?_
            exact g_zreti cx hr hlk hw hS (by decide) hf dX5_obey_300
    rw [if_neg hs_29] at hf
    refine lv_tableOut (tgt := 301) cx.1 cx.2.1 dX5_obey_35 (by have := sw_nek (k := 1) hs_3 (by decide); have := sw_nek (k := 2) hs_6 (by decide); have := sw_nek (k := 3) hs_9 (by decide); have := sw_nek (k := 4) hs_12 (by decide); have := sw_nek (k := 5) hs_15 (by decide); have := sw_nek (k := 6) hs_18 (by decide); have := sw_nek (k := 7) hs_23 (by decide); have := sw_nek (k := 8) hs_24 (by decide); have := sw_nek (k := 9) hs_29 (by decide); omega) (by decide) ?_
    refine lv_iconst (v := (0 : Int32)) cx.1 cx.2.1 dX5_obey_301 (by decide) ?_
    exact g_zreti cx hr hlk hw hS (by decide) hf dX5_obey_302
  have hl : lv_has ls 6 [(0, .ref (G.2.1 b0)), (1, .ref (G.2.1 8)), (2, .int a2)] := hl
  unfold f_X5_obey at hf
  refine lv_iload_n cx.1 cx.2.1 dX5_obey_0 rfl (lv_at hl 2 rfl) ?_
  refine lv_sipush (v := (1000 : Int32)) cx.1 cx.2.1 dX5_obey_1 (by decide) ?_
  refine lv_idiv cx.1 cx.2.1 dX5_obey_4 (by decide) ?_
  refine lv_bipush (v := (10 : Int32)) cx.1 cx.2.1 dX5_obey_5 (by decide) ?_
  refine lv_irem cx.1 cx.2.1 dX5_obey_7 (by decide) ?_
  obtain ⟨x3_30, ex3_30, hf⟩ := gvi_ex hf
  refine W.eq (g2 := F0 m 8 ls [.int x3_30]) (by rw [← ex3_30]) ?_
  refine lv_istore_n (lv' := [(3, .int x3_30), (0, .ref (G.2.1 b0)), (1, .ref (G.2.1 8)), (2, .int a2)]) cx.1 cx.2.1 dX5_obey_8 rfl hl (by decide) rfl (fun ls hl => ?_)
  refine lv_iload_n cx.1 cx.2.1 dX5_obey_9 rfl (lv_at hl 3 rfl) ?_
  refine lv_sipush (v := (1000 : Int32)) cx.1 cx.2.1 dX5_obey_10 (by decide) ?_
  refine lv_irem cx.1 cx.2.1 dX5_obey_13 (by decide) ?_
  obtain ⟨x4_31, ex4_31, hf⟩ := gvi_ex hf
  refine W.eq (g2 := F0 m 14 ls [.int x4_31]) (by rw [← ex4_31]) ?_
  refine lv_istore (lv' := [(4, .int x4_31), (3, .int x3_30), (0, .ref (G.2.1 b0)), (1, .ref (G.2.1 8)), (2, .int a2)]) cx.1 cx.2.1 dX5_obey_14 hl (by decide) rfl (fun ls hl => ?_)
  refine lv_iload cx.1 cx.2.1 dX5_obey_16 (lv_at hl 0 rfl) ?_
  refine lv_bipush (v := (10 : Int32)) cx.1 cx.2.1 dX5_obey_18 (by decide) ?_
  refine lv_icmp_ge (tgt := 27) cx.1 cx.2.1 dX5_obey_20 (by decide) (fun hc => ?_) (fun hc => ?_)
  · rw [if_pos hc] at hf
    refine lv_iconst (v := (0 : Int32)) cx.1 cx.2.1 dX5_obey_27 (by decide) ?_
    exact hB_28 S a2 x3_30 x4_31 (0 : Int32) _ _ _ hw hS (lv_sub hl [2, 3, 4, 1, 0] rfl) hf
  · rw [if_neg hc] at hf
    refine lv_iconst (v := (1 : Int32)) cx.1 cx.2.1 dX5_obey_23 (by decide) ?_
    refine lv_goto (tgt := 28) cx.1 cx.2.1 dX5_obey_24 (by decide) ?_
    exact hB_28 S a2 x3_30 x4_31 (1 : Int32) _ _ _ hw hS (lv_sub hl [2, 3, 4, 1, 0] rfl) hf
set_option maxHeartbeats 4000000 in
set_option maxRecDepth 100000 in
theorem c_X5_withoutLowest (l : Launch) (G : gG) (a0 : Int64) (a2 : Int32) (S : Sg) (r : Int64) (S' : Sg) (hf : f_X5_withoutLowest a0 a2 S = some (r, S')) : Ct l yX5_withoutLowest [Cond.code yX5_withoutLowest cX5_withoutLowest 6 (some .long)] (gR 0 0) G [.long a0, .int a2] S (some (.long r)) S' := by
  refine Ct_of (by decide) (Nat.le_of_ble_eq_true rfl) ?_
  intro p e s m below meth c ls cx hr hlk hw hS hl
  have hN := cx.2.2.2.2.hN
  have hL_5 : ∀ (n : Nat), ∀ (S : Sg) (x2 : Int32) (x3 : Int64) (x5 : Int32) (H : Heap) (locs : List Loc) (ls : Array Slot), gP G S H → va_S (gA G s.heap.size) s.heap H locs → lv_has ls 6 [(2, .int x2), (3, .long x3), (5, .int x5)] → L_X5_withoutLowest_5 n S x2 x3 x5 = some (r, S') → W p l e (gR 0 0) s m ([.long a0, .int a2] : List Value).toArray below meth c H locs 0 0 (MQ below (gQ G S' (some (.long r)) (gA G s.heap.size)) ([.long a0, .int a2] : List Value).toArray s 0 0 (gA G s.heap.size)) (F0 m 5 ls []) := by
    intro n
    induction n with
    | zero => intro S x2 x3 x5 H locs ls hw hS hl hf; cases hf
    | succ n hK5 =>
      intro S x2 x3 x5 H locs ls hw hS hl hf
      have hf : Lb_X5_withoutLowest_5 (L_X5_withoutLowest_5 n) S x2 x3 x5 = some (r, S') := hf
      unfold Lb_X5_withoutLowest_5 at hf
      refine lv_iload cx.1 cx.2.1 dX5_withoutLowest_5 (lv_at hl 2 rfl) ?_
      refine lv_iload_n cx.1 cx.2.1 dX5_withoutLowest_7 rfl (lv_at hl 0 rfl) ?_
      refine lv_icmp_ge (tgt := 23) cx.1 cx.2.1 dX5_withoutLowest_8 (by decide) (fun hc => ?_) (fun hc => ?_)
      · rw [if_pos hc] at hf
        refine lv_lload_n cx.1 cx.2.1 dX5_withoutLowest_23 rfl (lv_at hl 1 rfl) ?_
        exact g_lreti cx hr hlk hw hS hf dX5_withoutLowest_24
      · rw [if_neg hc] at hf
        refine lv_lload_n cx.1 cx.2.1 dX5_withoutLowest_11 rfl (lv_at hl 1 rfl) ?_
        refine lv_ldc2 cx.1 cx.2.1 cx.2.2.2.1 (cx.2.2.2.2.ts _ gw_702) dX5_withoutLowest_12 ?_
        refine lv_ldiv cx.1 cx.2.1 dX5_withoutLowest_15 (by decide) ?_
        obtain ⟨x3_1, ex3_1, hf⟩ := gvl_ex hf
        refine W.eq (g2 := F0 m 16 ls [.long x3_1]) (by rw [← ex3_1]) ?_
        refine lv_lstore_n (lv' := [(3, .long x3_1), (2, .int x2), (5, .int x5)]) cx.1 cx.2.1 dX5_withoutLowest_16 rfl hl (by decide) rfl (fun ls hl => ?_)
        obtain ⟨x5_2, ex5_2, hf⟩ := gvi_ex hf
        refine lv_iinc (v := x5_2) (lv' := [(5, .int x5_2), (3, .long x3_1), (2, .int x2)]) cx.1 cx.2.1 dX5_withoutLowest_17 hl (k := 2) rfl (by rw [← ex5_2]; rfl) (by decide) rfl (fun ls hl => ?_)
        refine lv_goto (tgt := 5) cx.1 cx.2.1 dX5_withoutLowest_20 (by decide) ?_
        exact hK5 S x2 x3_1 x5_2 _ _ _ hw hS (lv_sub hl [2, 1, 0] rfl) hf
  have hl : lv_has ls 6 [(0, .long a0), (2, .int a2)] := hl
  unfold f_X5_withoutLowest at hf
  refine lv_lload_n cx.1 cx.2.1 dX5_withoutLowest_0 rfl (lv_at hl 0 rfl) ?_
  refine lv_lstore_n (lv' := [(3, .long a0), (0, .long a0), (2, .int a2)]) cx.1 cx.2.1 dX5_withoutLowest_1 rfl hl (by decide) rfl (fun ls hl => ?_)
  refine lv_iconst (v := (0 : Int32)) cx.1 cx.2.1 dX5_withoutLowest_2 (by decide) ?_
  refine lv_istore (lv' := [(5, .int (0 : Int32)), (3, .long a0), (0, .long a0), (2, .int a2)]) cx.1 cx.2.1 dX5_withoutLowest_3 hl (by decide) rfl (fun ls hl => ?_)
  exact hL_5 gFu S a2 a0 (0 : Int32) _ _ _ hw hS (lv_sub hl [3, 1, 0] rfl) hf
set_option maxHeartbeats 4000000 in
set_option maxRecDepth 100000 in
theorem c_X6_empty (l : Launch) (G : gG) (S : Sg) (S' : Sg) (hf : f_X6_empty S = some S') : Ct l yX6_empty [Cond.code yX6_empty cX6_empty 1 none] (gR 1 22) G [.ref (G.2.1 5)] S none S' := by
  refine Ct_of (by decide) (Nat.le_of_ble_eq_true rfl) ?_
  intro p e s m below meth c ls cx hr hlk hw hS hl
  have hN := cx.2.2.2.2.hN
  have hl : lv_has ls 1 [(0, .ref (G.2.1 5))] := hl
  unfold f_X6_empty at hf
  refine lv_aload_n cx.1 cx.2.1 dX6_empty_0 rfl (lv_at hl 0 rfl) ?_
  refine g_get (C := RX6) (T := TX6) (N := 2) (v := .ref (G.2.1 7)) cx hw inlX6 5 (by omega) he_c5 rfl 1 (by decide) gw_90 rfl rfl dX6_empty_1 ?_
  refine lv_iconst (v := (0 : Int32)) cx.1 cx.2.1 dX6_empty_4 (by decide) ?_
  obtain ⟨S_1, hv, hf⟩ := gbv_some hf
  refine g_N (As := [.ref (G.2.1 7), .int (0 : Int32)]) (rest := []) cx hw hS (c_X10_fill l G (ia_c7 hN) (0 : Int32) S S_1 hv) gnm_27 gy_X10_fill gi_X10_fill ⟨Nat.le_of_ble_eq_true rfl, Nat.le_of_ble_eq_true rfl⟩ ⟨Nat.zero_le _, Nat.zero_le _⟩ rfl hl.1 rfl (Nat.le_of_ble_eq_true rfl) dX6_empty_5 (fun H locs hw hS => ?_)
  refine W.eq (g2 := F0 m 8 ls []) rfl ?_
  exact g_vreti cx hr hlk hw hS hf dX6_empty_8
set_option maxHeartbeats 4000000 in
set_option maxRecDepth 100000 in
theorem c_X6_stateAt (l : Launch) (G : gG) (a1 : Int32) (S : Sg) (r : Nat) (S' : Sg) (hf : f_X6_stateAt a1 S = some (r, S')) : Ct l yX6_stateAt [Cond.code yX6_stateAt cX6_stateAt 2 (some (.object "RustRails$State"))] (gR 0 0) G [.ref (G.2.1 5), .int a1] S (some (.ref (G.2.1 r))) S' := by
  refine Ct_of (by decide) (Nat.le_of_ble_eq_true rfl) ?_
  intro p e s m below meth c ls cx hr hlk hw hS hl
  have hN := cx.2.2.2.2.hN
  have hl : lv_has ls 2 [(0, .ref (G.2.1 5)), (1, .int a1)] := hl
  unfold f_X6_stateAt at hf
  refine lv_iload_n cx.1 cx.2.1 dX6_stateAt_0 rfl (lv_at hl 1 rfl) ?_
  refine lv_if_lt (tgt := 22) cx.1 cx.2.1 dX6_stateAt_1 (by decide) (fun hc => ?_) (fun hc => ?_)
  · rw [if_pos hc] at hf
    cases hf
  · rw [if_neg hc] at hf
    refine lv_iload_n cx.1 cx.2.1 dX6_stateAt_4 rfl (lv_at hl 1 rfl) ?_
    refine lv_aload_n cx.1 cx.2.1 dX6_stateAt_5 rfl (lv_at hl 0 rfl) ?_
    refine g_get (C := RX6) (T := TX6) (N := 2) (v := .ref (G.2.1 6)) cx hw inlX6 5 (by omega) he_c5 rfl 0 (by decide) gw_89 rfl rfl dX6_stateAt_6 ?_
    refine g_alenH (n := 2) cx hw (by omega) rfl dX6_stateAt_9 ?_
    refine lv_icmp_ge (tgt := 22) cx.1 cx.2.1 dX6_stateAt_10 (by decide) (fun hc => ?_) (fun hc => ?_)
    · rw [if_pos hc] at hf
      cases hf
    · rw [if_neg hc] at hf
      refine lv_aload_n cx.1 cx.2.1 dX6_stateAt_13 rfl (lv_at hl 0 rfl) ?_
      refine g_get (C := RX6) (T := TX6) (N := 2) (v := .ref (G.2.1 6)) cx hw inlX6 5 (by omega) he_c5 rfl 0 (by decide) gw_89 rfl rfl dX6_stateAt_14 ?_
      refine lv_iload_n cx.1 cx.2.1 dX6_stateAt_17 rfl (lv_at hl 1 rfl) ?_
      obtain ⟨hin, hf⟩ := gck_some hf
      refine g_ald6 cx hw (vp_of_inb hin) dX6_stateAt_18 ?_
      refine lv_goto (tgt := 23) cx.1 cx.2.1 dX6_stateAt_19 (by decide) ?_
      exact g_areti cx hr hlk hw hS hf dX6_stateAt_23
