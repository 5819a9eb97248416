set_option maxHeartbeats 4000000 in
set_option maxRecDepth 100000 in
theorem c_X6_fetchInto (l : Launch) (G : gG) {b2 : Nat} (hb2 : IsSt b2) (a1 : Int32) (S : Sg) (S' : Sg) (hf : f_X6_fetchInto b2 a1 S = some S') : Ct l yX6_fetchInto [Cond.code yX6_fetchInto cX6_fetchInto 3 none] (gR 5 144) G [.ref (G.2.1 5), .int a1, .ref (G.2.1 b2)] S none S' := by
  refine Ct_of (by decide) (Nat.le_of_ble_eq_true rfl) ?_
  intro p e s m below meth c ls cx hr hlk hw hS hl
  have hN := cx.2.2.2.2.hN
  have hl : lv_has ls 3 [(0, .ref (G.2.1 5)), (1, .int a1), (2, .ref (G.2.1 b2))] := hl
  unfold f_X6_fetchInto at hf
  refine lv_aload_n cx.1 cx.2.1 dX6_fetchInto_0 rfl (lv_at hl 0 rfl) ?_
  refine lv_iload_n cx.1 cx.2.1 dX6_fetchInto_1 rfl (lv_at hl 1 rfl) ?_
  obtain ⟨v_2, S_1, hv, hf⟩ := gbn_some hf
  have hbv_2 := st_of_X6_stateAt hv
  refine g_V (As := [.int a1]) (rest := []) cx hw hS (c_X6_stateAt l G a1 S v_2 S_1 hv) (by omega) he_c5 rfl rfl gw_1132 gy_X6_stateAt gi_X6_stateAt ⟨Nat.le_of_ble_eq_true rfl, Nat.le_of_ble_eq_true rfl⟩ ⟨Nat.zero_le _, Nat.zero_le _⟩ rfl hl.1 rfl (Nat.le_of_ble_eq_true rfl) dX6_fetchInto_2 (fun H locs hw hS => ?_)
  refine W.eq (g2 := F0 m 5 ls [.ref (G.2.1 v_2)]) rfl ?_
  refine lv_aload_n cx.1 cx.2.1 dX6_fetchInto_5 rfl (lv_at hl 2 rfl) ?_
  obtain ⟨S_3, hv, hf⟩ := gbv_some hf
  refine g_N (As := [.ref (G.2.1 v_2), .ref (G.2.1 b2)]) (rest := []) cx hw hS (c_X10_copyState l G hbv_2 hb2 S_1 S_3 hv) gnm_34 gy_X10_copyState gi_X10_copyState ⟨Nat.le_of_ble_eq_true rfl, Nat.le_of_ble_eq_true rfl⟩ ⟨Nat.zero_le _, Nat.zero_le _⟩ rfl hl.1 rfl (Nat.le_of_ble_eq_true rfl) dX6_fetchInto_6 (fun H locs hw hS => ?_)
  refine W.eq (g2 := F0 m 9 ls []) rfl ?_
  exact g_vreti cx hr hlk hw hS hf dX6_fetchInto_9
set_option maxHeartbeats 4000000 in
set_option maxRecDepth 100000 in
theorem c_X6_isFilled (l : Launch) (G : gG) (a1 : Int32) (S : Sg) (r : Int32) (S' : Sg) (hf : f_X6_isFilled a1 S = some (r, S')) : Ct l yX6_isFilled [Cond.code yX6_isFilled cX6_isFilled 2 (some .boolean)] (gR 1 21) G [.ref (G.2.1 5), .int a1] S (some (.int r)) S' := by
  refine Ct_of (by decide) (Nat.le_of_ble_eq_true rfl) ?_
  intro p e s m below meth c ls cx hr hlk hw hS hl
  have hN := cx.2.2.2.2.hN
  have hl : lv_has ls 2 [(0, .ref (G.2.1 5)), (1, .int a1)] := hl
  unfold f_X6_isFilled at hf
  refine lv_aload_n cx.1 cx.2.1 dX6_isFilled_0 rfl (lv_at hl 0 rfl) ?_
  refine g_get (C := RX6) (T := TX6) (N := 2) (v := .ref (G.2.1 7)) cx hw inlX6 5 (by omega) he_c5 rfl 1 (by decide) gw_94 rfl rfl dX6_isFilled_1 ?_
  refine lv_iload_n cx.1 cx.2.1 dX6_isFilled_4 rfl (lv_at hl 1 rfl) ?_
  obtain ⟨v_2, S_1, hv, hf⟩ := gbi_some hf
  refine g_N (As := [.ref (G.2.1 7), .int a1]) (rest := []) cx hw hS (c_X10_at l G (ia_c7 hN) a1 S v_2 S_1 hv) gnm_36 gy_X10_at gi_X10_at ⟨Nat.le_of_ble_eq_true rfl, Nat.le_of_ble_eq_true rfl⟩ ⟨Nat.zero_le _, Nat.zero_le _⟩ rfl hl.1 rfl (Nat.le_of_ble_eq_true rfl) dX6_isFilled_5 (fun H locs hw hS => ?_)
  refine W.eq (g2 := F0 m 8 ls [.int v_2]) rfl ?_
  refine lv_iconst (v := (1 : Int32)) cx.1 cx.2.1 dX6_isFilled_8 (by decide) ?_
  refine lv_icmp_ne (tgt := 16) cx.1 cx.2.1 dX6_isFilled_9 (by decide) (fun hc => ?_) (fun hc => ?_)
  · rw [if_neg hc] at hf
    refine lv_iconst (v := (0 : Int32)) cx.1 cx.2.1 dX6_isFilled_16 (by decide) ?_
    exact g_zreti cx hr hlk hw hS (by decide) hf dX6_isFilled_17
  · rw [if_pos hc] at hf
    refine lv_iconst (v := (1 : Int32)) cx.1 cx.2.1 dX6_isFilled_12 (by decide) ?_
    refine lv_goto (tgt := 17) cx.1 cx.2.1 dX6_isFilled_13 (by decide) ?_
    exact g_zreti cx hr hlk hw hS (by decide) hf dX6_isFilled_17
set_option maxHeartbeats 4000000 in
set_option maxRecDepth 100000 in
theorem c_X6_keep (l : Launch) (G : gG) {b2 : Nat} (hb2 : IsSt b2) (a1 : Int32) (S : Sg) (S' : Sg) (hf : f_X6_keep b2 a1 S = some S') : Ct l yX6_keep [Cond.code yX6_keep cX6_keep 3 none] (gR 5 144) G [.ref (G.2.1 5), .int a1, .ref (G.2.1 b2)] S none S' := by
  refine Ct_of (by decide) (Nat.le_of_ble_eq_true rfl) ?_
  intro p e s m below meth c ls cx hr hlk hw hS hl
  have hN := cx.2.2.2.2.hN
  have hl : lv_has ls 3 [(0, .ref (G.2.1 5)), (1, .int a1), (2, .ref (G.2.1 b2))] := hl
  unfold f_X6_keep at hf
  refine lv_aload_n cx.1 cx.2.1 dX6_keep_0 rfl (lv_at hl 2 rfl) ?_
  refine lv_aload_n cx.1 cx.2.1 dX6_keep_1 rfl (lv_at hl 0 rfl) ?_
  refine lv_iload_n cx.1 cx.2.1 dX6_keep_2 rfl (lv_at hl 1 rfl) ?_
  obtain ⟨v_2, S_1, hv, hf⟩ := gbn_some hf
  have hbv_2 := st_of_X6_stateAt hv
  refine g_V (As := [.int a1]) (rest := [.ref (G.2.1 b2)]) cx hw hS (c_X6_stateAt l G a1 S v_2 S_1 hv) (by omega) he_c5 rfl rfl gw_1132 gy_X6_stateAt gi_X6_stateAt ⟨Nat.le_of_ble_eq_true rfl, Nat.le_of_ble_eq_true rfl⟩ ⟨Nat.zero_le _, Nat.zero_le _⟩ rfl hl.1 rfl (Nat.le_of_ble_eq_true rfl) dX6_keep_3 (fun H locs hw hS => ?_)
  refine W.eq (g2 := F0 m 6 ls [.ref (G.2.1 v_2), .ref (G.2.1 b2)]) rfl ?_
  obtain ⟨S_3, hv, hf⟩ := gbv_some hf
  refine g_N (As := [.ref (G.2.1 b2), .ref (G.2.1 v_2)]) (rest := []) cx hw hS (c_X10_copyState l G hb2 hbv_2 S_1 S_3 hv) gnm_34 gy_X10_copyState gi_X10_copyState ⟨Nat.le_of_ble_eq_true rfl, Nat.le_of_ble_eq_true rfl⟩ ⟨Nat.zero_le _, Nat.zero_le _⟩ rfl hl.1 rfl (Nat.le_of_ble_eq_true rfl) dX6_keep_6 (fun H locs hw hS => ?_)
  refine W.eq (g2 := F0 m 9 ls []) rfl ?_
  refine lv_aload_n cx.1 cx.2.1 dX6_keep_9 rfl (lv_at hl 0 rfl) ?_
  refine g_get (C := RX6) (T := TX6) (N := 2) (v := .ref (G.2.1 7)) cx hw inlX6 5 (by omega) he_c5 rfl 1 (by decide) gw_94 rfl rfl dX6_keep_10 ?_
  refine lv_iload_n cx.1 cx.2.1 dX6_keep_13 rfl (lv_at hl 1 rfl) ?_
  refine lv_iconst (v := (1 : Int32)) cx.1 cx.2.1 dX6_keep_14 (by decide) ?_
  obtain ⟨S_4, hv, hf⟩ := gbv_some hf
  refine g_N (As := [.ref (G.2.1 7), .int a1, .int (1 : Int32)]) (rest := []) cx hw hS (c_X10_put l G (ia_c7 hN) a1 (1 : Int32) S_3 S_4 hv) gnm_35 gy_X10_put gi_X10_put ⟨Nat.le_of_ble_eq_true rfl, Nat.le_of_ble_eq_true rfl⟩ ⟨Nat.zero_le _, Nat.zero_le _⟩ rfl hl.1 rfl (Nat.le_of_ble_eq_true rfl) dX6_keep_15 (fun H locs hw hS => ?_)
  refine W.eq (g2 := F0 m 18 ls []) rfl ?_
  exact g_vreti cx hr hlk hw hS hf dX6_keep_18
set_option maxHeartbeats 4000000 in
set_option maxRecDepth 100000 in
theorem c_X7_dealByChance (l : Launch) (G : gG) {b : Nat} (hb : IsSt b) (a1 : Int32) (S : Sg) (S' : Sg) (hf : f_X7_dealByChance b a1 S = some S') : Ct l yX7_dealByChance [Cond.code yX7_dealByChance cX7_dealByChance 4 none] (gR 5 108) G [.ref (G.2.1 b), .int a1] S none S' := by
  refine Ct_of (by decide) (Nat.le_of_ble_eq_true rfl) ?_
  intro p e s m below meth c ls cx hr hlk hw hS hl
  have hN := cx.2.2.2.2.hN
  have hB_118 : ∀ (S : Sg) (t0 : Int32) (t1 : Int32) (H : Heap) (locs : List Loc) (ls : Array Slot), gP G S H → va_S (gA G s.heap.size) s.heap H locs → lv_has ls 4 [] → B_X7_dealByChance_118 b S t0 t1 = some S' → W p l e (gR 5 108) s m ([.ref (G.2.1 b), .int a1] : List Value).toArray below meth c H locs 0 0 (MQ below (gQ G S' none (gA G s.heap.size)) ([.ref (G.2.1 b), .int a1] : List Value).toArray s 0 0 (gA G s.heap.size)) (F0 m 118 ls [.int t0, .int t1, .ref (G.2.1 b)]) := by
    intro S t0 t1 H locs ls hw hS hl hf
    unfold B_X7_dealByChance_118 at hf
    obtain ⟨v_2, S_1, hv, hf⟩ := gbi_some hf
    refine g_V (As := [.int t1, .int t0]) (rest := []) cx hw hS (c_X7_tryContract l G hb t1 t0 S v_2 S_1 hv) (Nat.lt_of_lt_of_le hb.lt0 hN) (he_s0 hb) rfl rfl gw_1096 gy_X7_tryContract gi_X7_tryContract ⟨Nat.le_of_ble_eq_true rfl, Nat.le_of_ble_eq_true rfl⟩ ⟨Nat.zero_le _, Nat.zero_le _⟩ rfl hl.1 rfl (Nat.le_of_ble_eq_true rfl) dX7_dealByChance_118 (fun H locs hw hS => ?_)
    refine W.eq (g2 := F0 m 121 ls [.int v_2]) rfl ?_
    refine lv_pop cx.1 cx.2.1 dX7_dealByChance_121 rfl ?_
    refine lv_goto (tgt := 125) cx.1 cx.2.1 dX7_dealByChance_122 (by decide) ?_
    exact g_vreti cx hr hlk hw hS hf dX7_dealByChance_125
  have hB_85 : ∀ (S : Sg) (t0 : Int32) (t1 : Int32) (H : Heap) (locs : List Loc) (ls : Array Slot), gP G S H → va_S (gA G s.heap.size) s.heap H locs → lv_has ls 4 [] → B_X7_dealByChance_85 b S t0 t1 = some S' → W p l e (gR 5 108) s m ([.ref (G.2.1 b), .int a1] : List Value).toArray below meth c H locs 0 0 (MQ below (gQ G S' none (gA G s.heap.size)) ([.ref (G.2.1 b), .int a1] : List Value).toArray s 0 0 (gA G s.heap.size)) (F0 m 85 ls [.int t0, .int t1, .ref (G.2.1 b)]) := by
    intro S t0 t1 H locs ls hw hS hl hf
    unfold B_X7_dealByChance_85 at hf
    obtain ⟨v_4, S_3, hv, hf⟩ := gbi_some hf
    refine g_V (As := [.int t1, .int t0]) (rest := []) cx hw hS (c_X7_tryTrack l G hb t1 t0 S v_4 S_3 hv) (Nat.lt_of_lt_of_le hb.lt0 hN) (he_s0 hb) rfl rfl gw_1095 gy_X7_tryTrack gi_X7_tryTrack ⟨Nat.le_of_ble_eq_true rfl, Nat.le_of_ble_eq_true rfl⟩ ⟨Nat.zero_le _, Nat.zero_le _⟩ rfl hl.1 rfl (Nat.le_of_ble_eq_true rfl) dX7_dealByChance_85 (fun H locs hw hS => ?_)
    refine W.eq (g2 := F0 m 88 ls [.int v_4]) rfl ?_
    refine lv_pop cx.1 cx.2.1 dX7_dealByChance_88 rfl ?_
    refine lv_goto (tgt := 125) cx.1 cx.2.1 dX7_dealByChance_89 (by decide) ?_
    exact g_vreti cx hr hlk hw hS hf dX7_dealByChance_125
  have hl : lv_has ls 4 [(0, .ref (G.2.1 b)), (1, .int a1)] := hl
  unfold f_X7_dealByChance at hf
  refine lv_iload_n cx.1 cx.2.1 dX7_dealByChance_0 rfl (lv_at hl 1 rfl) ?_
  refine lv_bipush (v := (8 : Int32)) cx.1 cx.2.1 dX7_dealByChance_1 (by decide) ?_
  refine lv_idiv cx.1 cx.2.1 dX7_dealByChance_3 (by decide) ?_
  refine lv_iconst (v := (4 : Int32)) cx.1 cx.2.1 dX7_dealByChance_4 (by decide) ?_
  refine lv_irem cx.1 cx.2.1 dX7_dealByChance_5 (by decide) ?_
  obtain ⟨x2_5, ex2_5, hf⟩ := gvi_ex hf
  refine W.eq (g2 := F0 m 6 ls [.int x2_5]) (by rw [← ex2_5]) ?_
  refine lv_istore_n (lv' := [(2, .int x2_5), (0, .ref (G.2.1 b)), (1, .int a1)]) cx.1 cx.2.1 dX7_dealByChance_6 rfl hl (by decide) rfl (fun ls hl => ?_)
  refine lv_iload_n cx.1 cx.2.1 dX7_dealByChance_7 rfl (lv_at hl 2 rfl) ?_
  refine lv_bipush (v := (32 : Int32)) cx.1 cx.2.1 dX7_dealByChance_8 (by decide) ?_
  refine lv_idiv cx.1 cx.2.1 dX7_dealByChance_10 (by decide) ?_
  obtain ⟨x3_6, ex3_6, hf⟩ := gvi_ex hf
  refine W.eq (g2 := F0 m 11 ls [.int x3_6]) (by rw [← ex3_6]) ?_
  refine lv_istore_n (lv' := [(3, .int x3_6), (2, .int x2_5), (0, .ref (G.2.1 b)), (1, .int a1)]) cx.1 cx.2.1 dX7_dealByChance_11 rfl hl (by decide) rfl (fun ls hl => ?_)
  refine lv_iload_n cx.1 cx.2.1 dX7_dealByChance_12 rfl (lv_at hl 3 rfl) ?_
  refine lv_bipush (v := (8 : Int32)) cx.1 cx.2.1 dX7_dealByChance_13 (by decide) ?_
  refine lv_irem cx.1 cx.2.1 dX7_dealByChance_15 (by decide) ?_
  by_cases hs_9 : (a1 - a1 / (8 : Int32) * (8 : Int32)) = (0 : Int32)
  · rw [if_pos hs_9] at hf
    refine lv_tableIn (off := 28) (tgt := 44) cx.1 cx.2.1 dX7_dealByChance_16 (by rw [hs_9]; decide) (by rw [hs_9]; decide) (by rw [hs_9]; decide) (by decide) ?_
    refine lv_aload_n cx.1 cx.2.1 dX7_dealByChance_44 rfl (lv_at hl 2 rfl) ?_
    refine lv_iload_n cx.1 cx.2.1 dX7_dealByChance_45 rfl (lv_at hl 1 rfl) ?_
    refine lv_iconst (v := (1 : Int32)) cx.1 cx.2.1 dX7_dealByChance_46 (by decide) ?_
    refine lv_iload_n cx.1 cx.2.1 dX7_dealByChance_47 rfl (lv_at hl 0 rfl) ?_
    refine lv_bipush (v := (6 : Int32)) cx.1 cx.2.1 dX7_dealByChance_48 (by decide) ?_
    refine lv_irem cx.1 cx.2.1 dX7_dealByChance_50 (by decide) ?_
    refine lv_iadd cx.1 cx.2.1 dX7_dealByChance_51 ?_
    obtain ⟨v_8, S_7, hv, hf⟩ := gbi_some hf
    refine g_V (As := [.int x2_5, .int ((1 : Int32) + (x3_6 - x3_6 / (6 : Int32) * (6 : Int32)))]) (rest := []) cx hw hS (c_X7_tryTrain l G hb x2_5 ((1 : Int32) + (x3_6 - x3_6 / (6 : Int32) * (6 : Int32))) S v_8 S_7 hv) (Nat.lt_of_lt_of_le hb.lt0 hN) (he_s0 hb) rfl rfl gw_1094 gy_X7_tryTrain gi_X7_tryTrain ⟨Nat.le_of_ble_eq_true rfl, Nat.le_of_ble_eq_true rfl⟩ ⟨Nat.zero_le _, Nat.zero_le _⟩ rfl hl.1 rfl (Nat.le_of_ble_eq_true rfl) dX7_dealByChance_52 (fun H locs hw hS => ?_)
    refine W.eq (g2 := F0 m 55 ls [.int v_8]) rfl ?_
    refine lv_pop cx.1 cx.2.1 dX7_dealByChance_55 rfl ?_
    refine lv_goto (tgt := 125) cx.1 cx.2.1 dX7_dealByChance_56 (by decide) ?_
    exact g_vreti cx hr hlk hw hS hf dX7_dealByChance_125
  rw [if_neg hs_9] at hf
  by_cases hs_10 : (a1 - a1 / (8 : Int32) * (8 : Int32)) = (1 : Int32)
  · rw [if_pos hs_10] at hf
    refine lv_tableIn (off := 43) (tgt := 59) cx.1 cx.2.1 dX7_dealByChance_16 (by rw [hs_10]; decide) (by rw [hs_10]; decide) (by rw [hs_10]; decide) (by decide) ?_
    refine lv_aload_n cx.1 cx.2.1 dX7_dealByChance_59 rfl (lv_at hl 2 rfl) ?_
    refine lv_iload_n cx.1 cx.2.1 dX7_dealByChance_60 rfl (lv_at hl 1 rfl) ?_
    refine lv_aload_n cx.1 cx.2.1 dX7_dealByChance_61 rfl (lv_at hl 2 rfl) ?_
    refine g_get (C := RX7) (T := TX7) (N := 9) (v := .ref (G.2.1 (b + 1))) cx hw inlX7 b (Nat.lt_of_lt_of_le hb.lt0 hN) (he_s0 hb) rfl 0 (by decide) gw_47 rfl rfl dX7_dealByChance_62 ?_
    refine g_get (C := RX8) (T := TX8) (N := 5) (v := .int (S (b + 1) 4)) cx hw inlX8 (b + 1) (Nat.lt_of_lt_of_le (hb.lt (j := 1) (by omega)) hN) (he_s1 hb) rfl 4 (by decide) gw_113 rfl rfl dX7_dealByChance_65 ?_
    refine lv_if_le (tgt := 83) cx.1 cx.2.1 dX7_dealByChance_68 (by decide) (fun hc => ?_) (fun hc => ?_)
    · rw [if_pos hc] at hf
      refine lv_bipush (v := (-9 : Int32)) cx.1 cx.2.1 dX7_dealByChance_83 (by decide) ?_
      exact hB_85 S (-9 : Int32) x2_5 _ _ _ hw hS (lv_sub hl [] rfl) hf
    · rw [if_neg hc] at hf
      refine lv_iload_n cx.1 cx.2.1 dX7_dealByChance_71 rfl (lv_at hl 0 rfl) ?_
      refine lv_aload_n cx.1 cx.2.1 dX7_dealByChance_72 rfl (lv_at hl 2 rfl) ?_
      refine g_get (C := RX7) (T := TX7) (N := 9) (v := .ref (G.2.1 (b + 1))) cx hw inlX7 b (Nat.lt_of_lt_of_le hb.lt0 hN) (he_s0 hb) rfl 0 (by decide) gw_47 rfl rfl dX7_dealByChance_73 ?_
      refine g_get (C := RX8) (T := TX8) (N := 5) (v := .int (S (b + 1) 4)) cx hw inlX8 (b + 1) (Nat.lt_of_lt_of_le (hb.lt (j := 1) (by omega)) hN) (he_s1 hb) rfl 4 (by decide) gw_113 rfl rfl dX7_dealByChance_76 ?_
      obtain ⟨hne, hf⟩ := gck_some hf
      refine lv_irem cx.1 cx.2.1 dX7_dealByChance_79 (by simpa using hne) ?_
      refine lv_goto (tgt := 85) cx.1 cx.2.1 dX7_dealByChance_80 (by decide) ?_
      exact hB_85 S (x3_6 - x3_6 / (S (b + 1) 4) * (S (b + 1) 4)) x2_5 _ _ _ hw hS (lv_sub hl [] rfl) hf
  rw [if_neg hs_10] at hf
  by_cases hs_11 : (a1 - a1 / (8 : Int32) * (8 : Int32)) = (2 : Int32)
  · rw [if_pos hs_11] at hf
    refine lv_tableIn (off := 76) (tgt := 92) cx.1 cx.2.1 dX7_dealByChance_16 (by rw [hs_11]; decide) (by rw [hs_11]; decide) (by rw [hs_11]; decide) (by decide) ?_
    refine lv_aload_n cx.1 cx.2.1 dX7_dealByChance_92 rfl (lv_at hl 2 rfl) ?_
    refine lv_iload_n cx.1 cx.2.1 dX7_dealByChance_93 rfl (lv_at hl 1 rfl) ?_
    refine lv_aload_n cx.1 cx.2.1 dX7_dealByChance_94 rfl (lv_at hl 2 rfl) ?_
    refine g_get (C := RX7) (T := TX7) (N := 9) (v := .ref (G.2.1 (b + 2))) cx hw inlX7 b (Nat.lt_of_lt_of_le hb.lt0 hN) (he_s0 hb) rfl 1 (by decide) gw_51 rfl rfl dX7_dealByChance_95 ?_
    refine g_get (C := RX1) (T := TX1) (N := 7) (v := .int (S (b + 2) 6)) cx hw inlX1 (b + 2) (Nat.lt_of_lt_of_le (hb.lt (j := 2) (by omega)) hN) (he_s2 hb) rfl 6 (by decide) gw_114 rfl rfl dX7_dealByChance_98 ?_
    refine lv_if_le (tgt := 116) cx.1 cx.2.1 dX7_dealByChance_101 (by decide) (fun hc => ?_) (fun hc => ?_)
    · rw [if_pos hc] at hf
      refine lv_bipush (v := (-9 : Int32)) cx.1 cx.2.1 dX7_dealByChance_116 (by decide) ?_
      exact hB_118 S (-9 : Int32) x2_5 _ _ _ hw hS (lv_sub hl [] rfl) hf
    · rw [if_neg hc] at hf
      refine lv_iload_n cx.1 cx.2.1 dX7_dealByChance_104 rfl (lv_at hl 0 rfl) ?_
      refine lv_aload_n cx.1 cx.2.1 dX7_dealByChance_105 rfl (lv_at hl 2 rfl) ?_
      refine g_get (C := RX7) (T := TX7) (N := 9) (v := .ref (G.2.1 (b + 2))) cx hw inlX7 b (Nat.lt_of_lt_of_le hb.lt0 hN) (he_s0 hb) rfl 1 (by decide) gw_51 rfl rfl dX7_dealByChance_106 ?_
      refine g_get (C := RX1) (T := TX1) (N := 7) (v := .int (S (b + 2) 6)) cx hw inlX1 (b + 2) (Nat.lt_of_lt_of_le (hb.lt (j := 2) (by omega)) hN) (he_s2 hb) rfl 6 (by decide) gw_114 rfl rfl dX7_dealByChance_109 ?_
      obtain ⟨hne, hf⟩ := gck_some hf
      refine lv_irem cx.1 cx.2.1 dX7_dealByChance_112 (by simpa using hne) ?_
      refine lv_goto (tgt := 118) cx.1 cx.2.1 dX7_dealByChance_113 (by decide) ?_
      exact hB_118 S (x3_6 - x3_6 / (S (b + 2) 6) * (S (b + 2) 6)) x2_5 _ _ _ hw hS (lv_sub hl [] rfl) hf
  rw [if_neg hs_11] at hf
  refine lv_tableOut (tgt := 125) cx.1 cx.2.1 dX7_dealByChance_16 (by have := sw_nek (k := 0) hs_9 (by decide); have := sw_nek (k := 1) hs_10 (by decide); have := sw_nek (k := 2) hs_11 (by decide); omega) (by decide) ?_
  exact g_vreti cx hr hlk hw hS hf dX7_dealByChance_125
set_option maxHeartbeats 4000000 in
set_option maxRecDepth 100000 in
theorem c_X8_lengthsOf (l : Launch) (G : gG) {b : Nat} (hb : IsSt b) (a1 : Int32) (S : Sg) (r : Int32) (S' : Sg) (hf : f_X8_lengthsOf b a1 S = some (r, S')) : Ct l yX8_lengthsOf [Cond.code yX8_lengthsOf cX8_lengthsOf 4 (some .int)] (gR 1 21) G [.ref (G.2.1 (b + 1)), .int a1] S (some (.int r)) S' := by
  refine Ct_of (by decide) (Nat.le_of_ble_eq_true rfl) ?_
  intro p e s m below meth c ls cx hr hlk hw hS hl
  have hN := cx.2.2.2.2.hN
  have hL_4 : ∀ (n : Nat), ∀ (S : Sg) (x1 : Int32) (x2 : Int32) (x3 : Int32) (H : Heap) (locs : List Loc) (ls : Array Slot), gP G S H → va_S (gA G s.heap.size) s.heap H locs → lv_has ls 4 [(0, .ref (G.2.1 (b + 1))), (1, .int x1), (2, .int x2), (3, .int x3)] → L_X8_lengthsOf_4 b n S x1 x2 x3 = some (r, S') → W p l e (gR 1 21) s m ([.ref (G.2.1 (b + 1)), .int a1] : List Value).toArray below meth c H locs 0 0 (MQ below (gQ G S' (some (.int r)) (gA G s.heap.size)) ([.ref (G.2.1 (b + 1)), .int a1] : List Value).toArray s 0 0 (gA G s.heap.size)) (F0 m 4 ls []) := by
    intro n
    induction n with
    | zero => intro S x1 x2 x3 H locs ls hw hS hl hf; cases hf
    | succ n hK4 =>
      intro S x1 x2 x3 H locs ls hw hS hl hf
      have hf : Lb_X8_lengthsOf_4 b (L_X8_lengthsOf_4 b n) S x1 x2 x3 = some (r, S') := hf
      unfold Lb_X8_lengthsOf_4 at hf
      refine lv_iload_n cx.1 cx.2.1 dX8_lengthsOf_4 rfl (lv_at hl 3 rfl) ?_
      refine lv_aload_n cx.1 cx.2.1 dX8_lengthsOf_5 rfl (lv_at hl 0 rfl) ?_
      refine g_get (C := RX8) (T := TX8) (N := 5) (v := .int (S (b + 1) 4)) cx hw inlX8 (b + 1) (Nat.lt_of_lt_of_le (hb.lt (j := 1) (by omega)) hN) (he_s1 hb) rfl 4 (by decide) gw_133 rfl rfl dX8_lengthsOf_6 ?_
      refine lv_icmp_ge (tgt := 45) cx.1 cx.2.1 dX8_lengthsOf_9 (by decide) (fun hc => ?_) (fun hc => ?_)
      · rw [if_pos hc] at hf
        refine lv_iload_n cx.1 cx.2.1 dX8_lengthsOf_45 rfl (lv_at hl 2 rfl) ?_
        exact g_ireti cx hr hlk hw hS hf dX8_lengthsOf_46
      · rw [if_neg hc] at hf
        refine lv_iload_n cx.1 cx.2.1 dX8_lengthsOf_12 rfl (lv_at hl 2 rfl) ?_
        refine lv_aload_n cx.1 cx.2.1 dX8_lengthsOf_13 rfl (lv_at hl 0 rfl) ?_
        refine g_get (C := RX8) (T := TX8) (N := 5) (v := .ref (G.2.1 (b + 7))) cx hw inlX8 (b + 1) (Nat.lt_of_lt_of_le (hb.lt (j := 1) (by omega)) hN) (he_s1 hb) rfl 3 (by decide) gw_62 rfl rfl dX8_lengthsOf_14 ?_
        refine lv_iload_n cx.1 cx.2.1 dX8_lengthsOf_17 rfl (lv_at hl 3 rfl) ?_
        obtain ⟨v_2, S_1, hv, hf⟩ := gbi_some hf
        refine g_N (As := [.ref (G.2.1 (b + 7)), .int x3]) (rest := [.int x2]) cx hw hS (c_X10_at l G (ia_s7 hN hb) x3 S v_2 S_1 hv) gnm_22 gy_X10_at gi_X10_at ⟨Nat.le_of_ble_eq_true rfl, Nat.le_of_ble_eq_true rfl⟩ ⟨Nat.zero_le _, Nat.zero_le _⟩ rfl hl.1 rfl (Nat.le_of_ble_eq_true rfl) dX8_lengthsOf_18 (fun H locs hw hS => ?_)
        refine W.eq (g2 := F0 m 21 ls [.int v_2, .int x2]) rfl ?_
        refine lv_iload_n cx.1 cx.2.1 dX8_lengthsOf_21 rfl (lv_at hl 1 rfl) ?_
        refine lv_icmp_ne (tgt := 36) cx.1 cx.2.1 dX8_lengthsOf_22 (by decide) (fun hc => ?_) (fun hc => ?_)
        · rw [if_neg hc] at hf
          refine lv_iconst (v := (0 : Int32)) cx.1 cx.2.1 dX8_lengthsOf_36 (by decide) ?_
          refine lv_iadd cx.1 cx.2.1 dX8_lengthsOf_37 ?_
          obtain ⟨x2_3, ex2_3, hf⟩ := gvi_ex hf
          refine W.eq (g2 := F0 m 38 ls [.int x2_3]) (by rw [← ex2_3]) ?_
          refine lv_istore_n (lv' := [(2, .int x2_3), (0, .ref (G.2.1 (b + 1))), (1, .int x1), (3, .int x3)]) cx.1 cx.2.1 dX8_lengthsOf_38 rfl hl (by decide) rfl (fun ls hl => ?_)
          obtain ⟨x3_4, ex3_4, hf⟩ := gvi_ex hf
          refine lv_iinc (v := x3_4) (lv' := [(3, .int x3_4), (2, .int x2_3), (0, .ref (G.2.1 (b + 1))), (1, .int x1)]) cx.1 cx.2.1 dX8_lengthsOf_39 hl (k := 3) rfl (by rw [← ex3_4]; rfl) (by decide) rfl (fun ls hl => ?_)
          refine lv_goto (tgt := 4) cx.1 cx.2.1 dX8_lengthsOf_42 (by decide) ?_
          exact hK4 S_1 x1 x2_3 x3_4 _ _ _ hw hS (lv_sub hl [2, 3, 1, 0] rfl) hf
        · rw [if_pos hc] at hf
          refine lv_aload_n cx.1 cx.2.1 dX8_lengthsOf_25 rfl (lv_at hl 0 rfl) ?_
          refine g_get (C := RX8) (T := TX8) (N := 5) (v := .ref (G.2.1 (b + 6))) cx hw inlX8 (b + 1) (Nat.lt_of_lt_of_le (hb.lt (j := 1) (by omega)) hN) (he_s1 hb) rfl 2 (by decide) gw_61 rfl rfl dX8_lengthsOf_26 ?_
          refine lv_iload_n cx.1 cx.2.1 dX8_lengthsOf_29 rfl (lv_at hl 3 rfl) ?_
          obtain ⟨v_6, S_5, hv, hf⟩ := gbi_some hf
          refine g_N (As := [.ref (G.2.1 (b + 6)), .int x3]) (rest := [.int x2]) cx hw hS (c_X10_at l G (ia_s6 hN hb) x3 S_1 v_6 S_5 hv) gnm_22 gy_X10_at gi_X10_at ⟨Nat.le_of_ble_eq_true rfl, Nat.le_of_ble_eq_true rfl⟩ ⟨Nat.zero_le _, Nat.zero_le _⟩ rfl hl.1 rfl (Nat.le_of_ble_eq_true rfl) dX8_lengthsOf_30 (fun H locs hw hS => ?_)
          refine W.eq (g2 := F0 m 33 ls [.int v_6, .int x2]) rfl ?_
          refine lv_goto (tgt := 37) cx.1 cx.2.1 dX8_lengthsOf_33 (by decide) ?_
          refine lv_iadd cx.1 cx.2.1 dX8_lengthsOf_37 ?_
          obtain ⟨x2_7, ex2_7, hf⟩ := gvi_ex hf
          refine W.eq (g2 := F0 m 38 ls [.int x2_7]) (by rw [← ex2_7]) ?_
          refine lv_istore_n (lv' := [(2, .int x2_7), (0, .ref (G.2.1 (b + 1))), (1, .int x1), (3, .int x3)]) cx.1 cx.2.1 dX8_lengthsOf_38 rfl hl (by decide) rfl (fun ls hl => ?_)
          obtain ⟨x3_8, ex3_8, hf⟩ := gvi_ex hf
          refine lv_iinc (v := x3_8) (lv' := [(3, .int x3_8), (2, .int x2_7), (0, .ref (G.2.1 (b + 1))), (1, .int x1)]) cx.1 cx.2.1 dX8_lengthsOf_39 hl (k := 3) rfl (by rw [← ex3_8]; rfl) (by decide) rfl (fun ls hl => ?_)
          refine lv_goto (tgt := 4) cx.1 cx.2.1 dX8_lengthsOf_42 (by decide) ?_
          exact hK4 S_5 x1 x2_7 x3_8 _ _ _ hw hS (lv_sub hl [2, 3, 1, 0] rfl) hf
  have hl : lv_has ls 4 [(0, .ref (G.2.1 (b + 1))), (1, .int a1)] := hl
  unfold f_X8_lengthsOf at hf
  refine lv_iconst (v := (0 : Int32)) cx.1 cx.2.1 dX8_lengthsOf_0 (by decide) ?_
  refine lv_istore_n (lv' := [(2, .int (0 : Int32)), (0, .ref (G.2.1 (b + 1))), (1, .int a1)]) cx.1 cx.2.1 dX8_lengthsOf_1 rfl hl (by decide) rfl (fun ls hl => ?_)
  refine lv_iconst (v := (0 : Int32)) cx.1 cx.2.1 dX8_lengthsOf_2 (by decide) ?_
  refine lv_istore_n (lv' := [(3, .int (0 : Int32)), (2, .int (0 : Int32)), (0, .ref (G.2.1 (b + 1))), (1, .int a1)]) cx.1 cx.2.1 dX8_lengthsOf_3 rfl hl (by decide) rfl (fun ls hl => ?_)
  exact hL_4 gFu S a1 (0 : Int32) (0 : Int32) _ _ _ hw hS (lv_sub hl [2, 3, 1, 0] rfl) hf
set_option maxHeartbeats 4000000 in
set_option maxRecDepth 100000 in
theorem c_X7_worthOf (l : Launch) (G : gG) {b : Nat} (hb : IsSt b) (a1 : Int32) (S : Sg) (r : Int32) (S' : Sg) (hf : f_X7_worthOf b a1 S = some (r, S')) : Ct l yX7_worthOf [Cond.code yX7_worthOf cX7_worthOf 2 (some .int)] (gR 2 44) G [.ref (G.2.1 b), .int a1] S (some (.int r)) S' := by
  refine Ct_of (by decide) (Nat.le_of_ble_eq_true rfl) ?_
  intro p e s m below meth c ls cx hr hlk hw hS hl
  have hN := cx.2.2.2.2.hN
  have hl : lv_has ls 2 [(0, .ref (G.2.1 b)), (1, .int a1)] := hl
  unfold f_X7_worthOf at hf
  refine lv_aload_n cx.1 cx.2.1 dX7_worthOf_0 rfl (lv_at hl 0 rfl) ?_
  refine g_get (C := RX7) (T := TX7) (N := 9) (v := .ref (G.2.1 (b + 3))) cx hw inlX7 b (Nat.lt_of_lt_of_le hb.lt0 hN) (he_s0 hb) rfl 2 (by decide) gw_55 rfl rfl dX7_worthOf_1 ?_
  refine g_get (C := RX0) (T := TX0) (N := 7) (v := .ref (G.2.1 (b + 14))) cx hw inlX0 (b + 3) (Nat.lt_of_lt_of_le (hb.lt (j := 3) (by omega)) hN) (he_s3 hb) rfl 0 (by decide) gw_535 rfl rfl dX7_worthOf_4 ?_
  refine lv_iload_n cx.1 cx.2.1 dX7_worthOf_7 rfl (lv_at hl 1 rfl) ?_
  obtain ⟨v_2, S_1, hv, hf⟩ := gbi_some hf
  refine g_N (As := [.ref (G.2.1 (b + 14)), .int a1]) (rest := []) cx hw hS (c_X10_at l G (ia_s14 hN hb) a1 S v_2 S_1 hv) gnm_19 gy_X10_at gi_X10_at ⟨Nat.le_of_ble_eq_true rfl, Nat.le_of_ble_eq_true rfl⟩ ⟨Nat.zero_le _, Nat.zero_le _⟩ rfl hl.1 rfl (Nat.le_of_ble_eq_true rfl) dX7_worthOf_8 (fun H locs hw hS => ?_)
  refine W.eq (g2 := F0 m 11 ls [.int v_2]) rfl ?_
  refine lv_iconst (v := (3 : Int32)) cx.1 cx.2.1 dX7_worthOf_11 (by decide) ?_
  refine lv_aload_n cx.1 cx.2.1 dX7_worthOf_12 rfl (lv_at hl 0 rfl) ?_
  refine g_get (C := RX7) (T := TX7) (N := 9) (v := .ref (G.2.1 (b + 1))) cx hw inlX7 b (Nat.lt_of_lt_of_le hb.lt0 hN) (he_s0 hb) rfl 0 (by decide) gw_47 rfl rfl dX7_worthOf_13 ?_
  refine lv_iload_n cx.1 cx.2.1 dX7_worthOf_16 rfl (lv_at hl 1 rfl) ?_
  obtain ⟨v_4, S_3, hv, hf⟩ := gbi_some hf
  refine g_V (As := [.int a1]) (rest := [.int (3 : Int32), .int v_2]) cx hw hS (c_X8_lengthsOf l G hb a1 S_1 v_4 S_3 hv) (Nat.lt_of_lt_of_le (hb.lt (j := 1) (by omega)) hN) (he_s1 hb) rfl rfl gw_1002 gy_X8_lengthsOf gi_X8_lengthsOf ⟨Nat.le_of_ble_eq_true rfl, Nat.le_of_ble_eq_true rfl⟩ ⟨Nat.zero_le _, Nat.zero_le _⟩ rfl hl.1 rfl (Nat.le_of_ble_eq_true rfl) dX7_worthOf_17 (fun H locs hw hS => ?_)
  refine W.eq (g2 := F0 m 20 ls [.int v_4, .int (3 : Int32), .int v_2]) rfl ?_
  refine lv_imul cx.1 cx.2.1 dX7_worthOf_20 ?_
  refine lv_iadd cx.1 cx.2.1 dX7_worthOf_21 ?_
  refine lv_bipush (v := (10 : Int32)) cx.1 cx.2.1 dX7_worthOf_22 (by decide) ?_
  refine lv_aload_n cx.1 cx.2.1 dX7_worthOf_24 rfl (lv_at hl 0 rfl) ?_
  refine g_get (C := RX7) (T := TX7) (N := 9) (v := .ref (G.2.1 (b + 3))) cx hw inlX7 b (Nat.lt_of_lt_of_le hb.lt0 hN) (he_s0 hb) rfl 2 (by decide) gw_55 rfl rfl dX7_worthOf_25 ?_
  refine lv_iload_n cx.1 cx.2.1 dX7_worthOf_28 rfl (lv_at hl 1 rfl) ?_
  obtain ⟨v_6, S_5, hv, hf⟩ := gbi_some hf
  refine g_V (As := [.int a1]) (rest := [.int (10 : Int32), .int (v_2 + ((3 : Int32) * v_4))]) cx hw hS (c_X0_levelsOf l G hb a1 S_3 v_6 S_5 hv) (Nat.lt_of_lt_of_le (hb.lt (j := 3) (by omega)) hN) (he_s3 hb) rfl rfl gw_851 gy_X0_levelsOf gi_X0_levelsOf ⟨Nat.le_of_ble_eq_true rfl, Nat.le_of_ble_eq_true rfl⟩ ⟨Nat.zero_le _, Nat.zero_le _⟩ rfl hl.1 rfl (Nat.le_of_ble_eq_true rfl) dX7_worthOf_29 (fun H locs hw hS => ?_)
  refine W.eq (g2 := F0 m 32 ls [.int v_6, .int (10 : Int32), .int (v_2 + ((3 : Int32) * v_4))]) rfl ?_
  refine lv_imul cx.1 cx.2.1 dX7_worthOf_32 ?_
  refine lv_iadd cx.1 cx.2.1 dX7_worthOf_33 ?_
  exact g_ireti cx hr hlk hw hS hf dX7_worthOf_34
set_option maxHeartbeats 4000000 in
set_option maxRecDepth 100000 in
theorem c_X7_greatestWorth (l : Launch) (G : gG) {b : Nat} (hb : IsSt b) (S : Sg) (r : Int32) (S' : Sg) (hf : f_X7_greatestWorth b S = some (r, S')) : Ct l yX7_greatestWorth [Cond.code yX7_greatestWorth cX7_greatestWorth 3 (some .int)] (gR 3 65) G [.ref (G.2.1 b)] S (some (.int r)) S' := by
  refine Ct_of (by decide) (Nat.le_of_ble_eq_true rfl) ?_
  intro p e s m below meth c ls cx hr hlk hw hS hl
  have hN := cx.2.2.2.2.hN
  have hL_8 : ∀ (n : Nat), ∀ (S : Sg) (x1 : Int32) (x2 : Int32) (H : Heap) (locs : List Loc) (ls : Array Slot), gP G S H → va_S (gA G s.heap.size) s.heap H locs → lv_has ls 3 [(0, .ref (G.2.1 b)), (1, .int x1), (2, .int x2)] → L_X7_greatestWorth_8 b n S x1 x2 = some (r, S') → W p l e (gR 3 65) s m ([.ref (G.2.1 b)] : List Value).toArray below meth c H locs 0 0 (MQ below (gQ G S' (some (.int r)) (gA G s.heap.size)) ([.ref (G.2.1 b)] : List Value).toArray s 0 0 (gA G s.heap.size)) (F0 m 8 ls []) := by
    intro n
    induction n with
    | zero => intro S x1 x2 H locs ls hw hS hl hf; cases hf
    | succ n hK8 =>
      intro S x1 x2 H locs ls hw hS hl hf
      have hf : Lb_X7_greatestWorth_8 b (L_X7_greatestWorth_8 b n) S x1 x2 = some (r, S') := hf
      unfold Lb_X7_greatestWorth_8 at hf
      refine lv_iload_n cx.1 cx.2.1 dX7_greatestWorth_8 rfl (lv_at hl 2 rfl) ?_
      refine lv_iconst (v := (4 : Int32)) cx.1 cx.2.1 dX7_greatestWorth_9 (by decide) ?_
      refine lv_icmp_ge (tgt := 29) cx.1 cx.2.1 dX7_greatestWorth_10 (by decide) (fun hc => ?_) (fun hc => ?_)
      · rw [if_pos hc] at hf
        refine lv_iload_n cx.1 cx.2.1 dX7_greatestWorth_29 rfl (lv_at hl 1 rfl) ?_
        exact g_ireti cx hr hlk hw hS hf dX7_greatestWorth_30
      · rw [if_neg hc] at hf
        refine lv_iload_n cx.1 cx.2.1 dX7_greatestWorth_13 rfl (lv_at hl 1 rfl) ?_
        refine lv_aload_n cx.1 cx.2.1 dX7_greatestWorth_14 rfl (lv_at hl 0 rfl) ?_
        refine lv_iload_n cx.1 cx.2.1 dX7_greatestWorth_15 rfl (lv_at hl 2 rfl) ?_
        obtain ⟨v_2, S_1, hv, hf⟩ := gbi_some hf
        refine g_V (As := [.int x2]) (rest := [.int x1]) cx hw hS (c_X7_worthOf l G hb x2 S v_2 S_1 hv) (Nat.lt_of_lt_of_le hb.lt0 hN) (he_s0 hb) rfl rfl gw_1107 gy_X7_worthOf gi_X7_worthOf ⟨Nat.le_of_ble_eq_true rfl, Nat.le_of_ble_eq_true rfl⟩ ⟨Nat.zero_le _, Nat.zero_le _⟩ rfl hl.1 rfl (Nat.le_of_ble_eq_true rfl) dX7_greatestWorth_16 (fun H locs hw hS => ?_)
        refine W.eq (g2 := F0 m 19 ls [.int v_2, .int x1]) rfl ?_
        refine va_mmax cx.1 cx.2.1 (cx.2.2.1.trans hl.1.symm) cx.2.2.2.1 (cx.2.2.2.2.ts _ gw_1106) (cx.2.2.2.2.ts _ gw_961) (cx.2.2.2.2.ts _ gw_322) (cx.2.2.2.2.ts _ gw_962) (Nat.le_of_ble_eq_true rfl) (Nat.le_of_ble_eq_true rfl) (Nat.zero_le _) (Nat.zero_le _) dX7_greatestWorth_19 ?_
        obtain ⟨x1_3, ex1_3, hf⟩ := gvi_ex hf
        refine W.eq (g2 := F0 m 22 ls [.int x1_3]) (by rw [← ex1_3]) ?_
        refine lv_istore_n (lv' := [(1, .int x1_3), (0, .ref (G.2.1 b)), (2, .int x2)]) cx.1 cx.2.1 dX7_greatestWorth_22 rfl hl (by decide) rfl (fun ls hl => ?_)
        obtain ⟨x2_4, ex2_4, hf⟩ := gvi_ex hf
        refine lv_iinc (v := x2_4) (lv' := [(2, .int x2_4), (1, .int x1_3), (0, .ref (G.2.1 b))]) cx.1 cx.2.1 dX7_greatestWorth_23 hl (k := 2) rfl (by rw [← ex2_4]; rfl) (by decide) rfl (fun ls hl => ?_)
        refine lv_goto (tgt := 8) cx.1 cx.2.1 dX7_greatestWorth_26 (by decide) ?_
        exact hK8 S_1 x1_3 x2_4 _ _ _ hw hS (lv_sub hl [2, 1, 0] rfl) hf
  have hl : lv_has ls 3 [(0, .ref (G.2.1 b))] := hl
  unfold f_X7_greatestWorth at hf
  refine lv_aload_n cx.1 cx.2.1 dX7_greatestWorth_0 rfl (lv_at hl 0 rfl) ?_
  refine lv_iconst (v := (0 : Int32)) cx.1 cx.2.1 dX7_greatestWorth_1 (by decide) ?_
  obtain ⟨v_6, S_5, hv, hf⟩ := gbi_some hf
  refine g_V (As := [.int (0 : Int32)]) (rest := []) cx hw hS (c_X7_worthOf l G hb (0 : Int32) S v_6 S_5 hv) (Nat.lt_of_lt_of_le hb.lt0 hN) (he_s0 hb) rfl rfl gw_1107 gy_X7_worthOf gi_X7_worthOf ⟨Nat.le_of_ble_eq_true rfl, Nat.le_of_ble_eq_true rfl⟩ ⟨Nat.zero_le _, Nat.zero_le _⟩ rfl hl.1 rfl (Nat.le_of_ble_eq_true rfl) dX7_greatestWorth_2 (fun H locs hw hS => ?_)
  refine W.eq (g2 := F0 m 5 ls [.int v_6]) rfl ?_
  refine lv_istore_n (lv' := [(1, .int v_6), (0, .ref (G.2.1 b))]) cx.1 cx.2.1 dX7_greatestWorth_5 rfl hl (by decide) rfl (fun ls hl => ?_)
  refine lv_iconst (v := (1 : Int32)) cx.1 cx.2.1 dX7_greatestWorth_6 (by decide) ?_
  refine lv_istore_n (lv' := [(2, .int (1 : Int32)), (1, .int v_6), (0, .ref (G.2.1 b))]) cx.1 cx.2.1 dX7_greatestWorth_7 rfl hl (by decide) rfl (fun ls hl => ?_)
  exact hL_8 gFu S_5 v_6 (1 : Int32) _ _ _ hw hS (lv_sub hl [2, 1, 0] rfl) hf
set_option maxHeartbeats 4000000 in
set_option maxRecDepth 100000 in
theorem c_X11_in (l : Launch) (G : gG) (hM : 402 ≤ gN G) (a0 : Int64) (a2 : Int64) (a4 : Int64) (S : Sg) (r : Int32) (S' : Sg) (hf : f_X11_in a0 a2 a4 S = some (r, S')) : Ct l yX11_in [Cond.code yX11_in cX11_in 6 (some .boolean)] (gR 0 0) G [.long a0, .long a2, .long a4] S (some (.int r)) S' := by
  refine Ct_of (by decide) (Nat.le_of_ble_eq_true rfl) ?_
  intro p e s m below meth c ls cx hr hlk hw hS hl
  have hN := cx.2.2.2.2.hN
  have hl : lv_has ls 6 [(0, .long a0), (2, .long a2), (4, .long a4)] := hl
  unfold f_X11_in at hf
  refine lv_lload_n cx.1 cx.2.1 dX11_in_0 rfl (lv_at hl 0 rfl) ?_
  refine lv_lload_n cx.1 cx.2.1 dX11_in_1 rfl (lv_at hl 1 rfl) ?_
  refine W.lcmp cx.1 cx.2.1 dX11_in_2 ?_
  refine lv_if_lt (tgt := 17) cx.1 cx.2.1 dX11_in_3 (by decide) (fun hc => ?_) (fun hc => ?_)
  · rw [if_pos hc] at hf
    refine lv_iconst (v := (0 : Int32)) cx.1 cx.2.1 dX11_in_17 (by decide) ?_
    exact g_zreti cx hr hlk hw hS (by decide) hf dX11_in_18
  · rw [if_neg hc] at hf
    refine lv_lload_n cx.1 cx.2.1 dX11_in_6 rfl (lv_at hl 0 rfl) ?_
    refine lv_lload cx.1 cx.2.1 dX11_in_7 (lv_at hl 2 rfl) ?_
    refine W.lcmp cx.1 cx.2.1 dX11_in_9 ?_
    refine lv_if_gt (tgt := 17) cx.1 cx.2.1 dX11_in_10 (by decide) (fun hc => ?_) (fun hc => ?_)
    · rw [if_pos hc] at hf
      refine lv_iconst (v := (0 : Int32)) cx.1 cx.2.1 dX11_in_17 (by decide) ?_
      exact g_zreti cx hr hlk hw hS (by decide) hf dX11_in_18
    · rw [if_neg hc] at hf
      refine lv_iconst (v := (1 : Int32)) cx.1 cx.2.1 dX11_in_13 (by decide) ?_
      refine lv_goto (tgt := 18) cx.1 cx.2.1 dX11_in_14 (by decide) ?_
      exact g_zreti cx hr hlk hw hS (by decide) hf dX11_in_18
set_option maxHeartbeats 4000000 in
set_option maxRecDepth 100000 in
theorem c_X11_refused (l : Launch) (G : gG) (hM : 402 ≤ gN G) (a1 : Int32) (S : Sg) (r : Int32) (S' : Sg) (hf : f_X11_refused a1 S = some (r, S')) : Ct l yX11_refused [Cond.code yX11_refused cX11_refused 2 (some .boolean)] (gR 0 0) G [.ref (G.2.1 392), .int a1] S (some (.int r)) S' := by
  refine Ct_of (by decide) (Nat.le_of_ble_eq_true rfl) ?_
  intro p e s m below meth c ls cx hr hlk hw hS hl
  have hN := cx.2.2.2.2.hN
  have hl : lv_has ls 2 [(0, .ref (G.2.1 392)), (1, .int a1)] := hl
  unfold f_X11_refused at hf
  refine lv_aload_n cx.1 cx.2.1 dX11_refused_0 rfl (lv_at hl 0 rfl) ?_
  refine lv_iload_n cx.1 cx.2.1 dX11_refused_1 rfl (lv_at hl 1 rfl) ?_
  obtain ⟨S_1, eS_1, hf⟩ := gst_ex hf
  refine g_put (C := RX11) (T := TX11) (N := 16) cx hw hS inlX11 tyX11 tyX11_ok nmX11 392 (by omega) he_c392 rfl 0 (by decide) gw_204 rfl rfl (by decide +kernel) (Nat.le_of_ble_eq_true rfl) (by rw [u2_s, he_c392]; rfl) dX11_refused_2 (fun H locs hw hS => ?_)
  rw [eS_1] at hw
  refine lv_iload_n cx.1 cx.2.1 dX11_refused_5 rfl (lv_at hl 1 rfl) ?_
  refine lv_if_le (tgt := 13) cx.1 cx.2.1 dX11_refused_6 (by decide) (fun hc => ?_) (fun hc => ?_)
  · rw [if_pos hc] at hf
    refine lv_iconst (v := (0 : Int32)) cx.1 cx.2.1 dX11_refused_13 (by decide) ?_
    exact g_zreti cx hr hlk hw hS (by decide) hf dX11_refused_14
  · rw [if_neg hc] at hf
    refine lv_iconst (v := (1 : Int32)) cx.1 cx.2.1 dX11_refused_9 (by decide) ?_
    refine lv_goto (tgt := 14) cx.1 cx.2.1 dX11_refused_10 (by decide) ?_
    exact g_zreti cx hr hlk hw hS (by decide) hf dX11_refused_14
set_option maxHeartbeats 4000000 in
set_option maxRecDepth 100000 in
theorem c_X11_about (l : Launch) (G : gG) (hM : 402 ≤ gN G) (a1 : Int32) (S : Sg) (r : Int32) (S' : Sg) (hf : f_X11_about a1 S = some (r, S')) : Ct l yX11_about [Cond.code yX11_about cX11_about 2 (some .int)] (gR 1 25) G [.ref (G.2.1 392), .int a1] S (some (.int r)) S' := by
  refine Ct_of (by decide) (Nat.le_of_ble_eq_true rfl) ?_
  intro p e s m below meth c ls cx hr hlk hw hS hl
  have hN := cx.2.2.2.2.hN
  have hB_18 : ∀ (S : Sg) (x1 : Int32) (t0 : Int32) (H : Heap) (locs : List Loc) (ls : Array Slot), gP G S H → va_S (gA G s.heap.size) s.heap H locs → lv_has ls 2 [(0, .ref (G.2.1 392)), (1, .int x1)] → B_X11_about_18 S x1 t0 = some (r, S') → W p l e (gR 1 25) s m ([.ref (G.2.1 392), .int a1] : List Value).toArray below meth c H locs 0 0 (MQ below (gQ G S' (some (.int r)) (gA G s.heap.size)) ([.ref (G.2.1 392), .int a1] : List Value).toArray s 0 0 (gA G s.heap.size)) (F0 m 18 ls [.int t0, .ref (G.2.1 392)]) := by
    intro S x1 t0 H locs ls hw hS hl hf
    unfold B_X11_about_18 at hf
    obtain ⟨v_2, S_1, hv, hf⟩ := gbi_some hf
    refine g_V (As := [.int t0]) (rest := []) cx hw hS (c_X11_refused l G hM t0 S v_2 S_1 hv) (by omega) he_c392 rfl rfl gw_200 gy_X11_refused gi_X11_refused ⟨Nat.le_of_ble_eq_true rfl, Nat.le_of_ble_eq_true rfl⟩ ⟨Nat.zero_le _, Nat.zero_le _⟩ rfl hl.1 rfl (Nat.le_of_ble_eq_true rfl) dX11_about_18 (fun H locs hw hS => ?_)
    refine W.eq (g2 := F0 m 21 ls [.int v_2]) rfl ?_
    refine lv_if_eq (tgt := 28) cx.1 cx.2.1 dX11_about_21 (by decide) (fun hc => ?_) (fun hc => ?_)
    · rw [if_pos hc] at hf
      refine lv_aload_n cx.1 cx.2.1 dX11_about_28 rfl (lv_at hl 0 rfl) ?_
      refine g_get (C := RX11) (T := TX11) (N := 16) (v := .ref (G.2.1 395)) cx hw inlX11 392 (by omega) he_c392 rfl 5 (by decide) gw_144 rfl rfl dX11_about_29 ?_
      refine lv_iload_n cx.1 cx.2.1 dX11_about_32 rfl (lv_at hl 1 rfl) ?_
      obtain ⟨hin, hf⟩ := gck_some hf
      refine g_iald cx hw (ia_c395 hM) (vp_of_inb hin) dX11_about_33 ?_
      exact g_ireti cx hr hlk hw hS hf dX11_about_34
    · rw [if_neg hc] at hf
      refine lv_iconst (v := (0 : Int32)) cx.1 cx.2.1 dX11_about_24 (by decide) ?_
      refine lv_goto (tgt := 34) cx.1 cx.2.1 dX11_about_25 (by decide) ?_
      exact g_ireti cx hr hlk hw hS hf dX11_about_34
  have hl : lv_has ls 2 [(0, .ref (G.2.1 392)), (1, .int a1)] := hl
  unfold f_X11_about at hf
  refine lv_aload_n cx.1 cx.2.1 dX11_about_0 rfl (lv_at hl 0 rfl) ?_
  refine lv_iload_n cx.1 cx.2.1 dX11_about_1 rfl (lv_at hl 1 rfl) ?_
  refine lv_i2l cx.1 cx.2.1 dX11_about_2 rfl ?_
  refine lv_lconst (v := (0 : Int64)) cx.1 cx.2.1 dX11_about_3 (by decide) ?_
  refine lv_ldc2 cx.1 cx.2.1 cx.2.2.2.1 (cx.2.2.2.2.ts _ gw_380) dX11_about_4 ?_
  obtain ⟨v_4, S_3, hv, hf⟩ := gbi_some hf
  refine g_S (As := [.long a1.toInt64, .long (0 : Int64), .long (10 : Int64)]) (rest := [.ref (G.2.1 392)]) cx hw hS (c_X11_in l G hM a1.toInt64 (0 : Int64) (10 : Int64) S v_4 S_3 hv) gw_197 gy_X11_in gi_X11_in ⟨Nat.le_of_ble_eq_true rfl, Nat.le_of_ble_eq_true rfl⟩ ⟨Nat.zero_le _, Nat.zero_le _⟩ rfl hl.1 rfl (Nat.le_of_ble_eq_true rfl) dX11_about_7 (fun H locs hw hS => ?_)
  refine W.eq (g2 := F0 m 10 ls [.int v_4, .ref (G.2.1 392)]) rfl ?_
  refine lv_if_eq (tgt := 17) cx.1 cx.2.1 dX11_about_10 (by decide) (fun hc => ?_) (fun hc => ?_)
  · rw [if_pos hc] at hf
    refine lv_iconst (v := (1 : Int32)) cx.1 cx.2.1 dX11_about_17 (by decide) ?_
    exact hB_18 S_3 a1 (1 : Int32) _ _ _ hw hS (lv_sub hl [0, 1] rfl) hf
  · rw [if_neg hc] at hf
    refine lv_iconst (v := (0 : Int32)) cx.1 cx.2.1 dX11_about_13 (by decide) ?_
    refine lv_goto (tgt := 18) cx.1 cx.2.1 dX11_about_14 (by decide) ?_
    exact hB_18 S_3 a1 (0 : Int32) _ _ _ hw hS (lv_sub hl [0, 1] rfl) hf
set_option maxHeartbeats 4000000 in
set_option maxRecDepth 100000 in
theorem c_X11_trackAt (l : Launch) (G : gG) (hM : 402 ≤ gN G) (a0 : Int32) (S : Sg) (r : Int32) (S' : Sg) (hf : f_X11_trackAt a0 S = some (r, S')) : Ct l yX11_trackAt [Cond.code yX11_trackAt cX11_trackAt 1 (some .int)] (gR 0 0) G [.int a0] S (some (.int r)) S' := by
  refine Ct_of (by decide) (Nat.le_of_ble_eq_true rfl) ?_
  intro p e s m below meth c ls cx hr hlk hw hS hl
  have hN := cx.2.2.2.2.hN
  have hl : lv_has ls 1 [(0, .int a0)] := hl
  unfold f_X11_trackAt at hf
  refine lv_bipush (v := (11 : Int32)) cx.1 cx.2.1 dX11_trackAt_0 (by decide) ?_
  refine lv_iconst (v := (4 : Int32)) cx.1 cx.2.1 dX11_trackAt_2 (by decide) ?_
  refine lv_iload_n cx.1 cx.2.1 dX11_trackAt_3 rfl (lv_at hl 0 rfl) ?_
  refine lv_imul cx.1 cx.2.1 dX11_trackAt_4 ?_
  refine lv_iadd cx.1 cx.2.1 dX11_trackAt_5 ?_
  exact g_ireti cx hr hlk hw hS hf dX11_trackAt_6
set_option maxHeartbeats 4000000 in
set_option maxRecDepth 100000 in
theorem c_X11_across (l : Launch) (G : gG) {k0 : Nat} (hM : 402 ≤ gN G) (hk0 : IA G k0 175) (a1 : Int32) (a2 : Int32) (S : Sg) (r : Int32) (S' : Sg) (hf : f_X11_across k0 a1 a2 S = some (r, S')) : Ct l yX11_across [Cond.code yX11_across cX11_across 4 (some .int)] (gR 1 20) G [.ref (G.2.1 k0), .int a1, .int a2] S (some (.int r)) S' := by
  refine Ct_of (by decide) (Nat.le_of_ble_eq_true rfl) ?_
  intro p e s m below meth c ls cx hr hlk hw hS hl
  have hN := cx.2.2.2.2.hN
  have hl : lv_has ls 4 [(0, .ref (G.2.1 k0)), (1, .int a1), (2, .int a2)] := hl
  unfold f_X11_across at hf
  refine lv_iload_n cx.1 cx.2.1 dX11_across_0 rfl (lv_at hl 1 rfl) ?_
  obtain ⟨v_2, S_1, hv, hf⟩ := gbi_some hf
  refine g_S (As := [.int a1]) (rest := []) cx hw hS (c_X11_trackAt l G hM a1 S v_2 S_1 hv) gw_161 gy_X11_trackAt gi_X11_trackAt ⟨Nat.le_of_ble_eq_true rfl, Nat.le_of_ble_eq_true rfl⟩ ⟨Nat.zero_le _, Nat.zero_le _⟩ rfl hl.1 rfl (Nat.le_of_ble_eq_true rfl) dX11_across_1 (fun H locs hw hS => ?_)
  refine W.eq (g2 := F0 m 4 ls [.int v_2]) rfl ?_
  refine lv_istore_n (lv' := [(3, .int v_2), (0, .ref (G.2.1 k0)), (1, .int a1), (2, .int a2)]) cx.1 cx.2.1 dX11_across_4 rfl hl (by decide) rfl (fun ls hl => ?_)
  refine lv_aload_n cx.1 cx.2.1 dX11_across_5 rfl (lv_at hl 1 rfl) ?_
  refine lv_iload_n cx.1 cx.2.1 dX11_across_6 rfl (lv_at hl 0 rfl) ?_
  obtain ⟨hin, hf⟩ := gck_some hf
  refine g_iald cx hw hk0 (vp_of_inb hin) dX11_across_7 ?_
  refine lv_iload_n cx.1 cx.2.1 dX11_across_8 rfl (lv_at hl 3 rfl) ?_
  refine lv_icmp_ne (tgt := 20) cx.1 cx.2.1 dX11_across_9 (by decide) (fun hc => ?_) (fun hc => ?_)
  · rw [if_neg hc] at hf
    refine lv_aload_n cx.1 cx.2.1 dX11_across_20 rfl (lv_at hl 1 rfl) ?_
    refine lv_iload_n cx.1 cx.2.1 dX11_across_21 rfl (lv_at hl 0 rfl) ?_
    refine lv_iconst (v := (1 : Int32)) cx.1 cx.2.1 dX11_across_22 (by decide) ?_
    refine lv_iadd cx.1 cx.2.1 dX11_across_23 ?_
    obtain ⟨hin, hf⟩ := gck_some hf
    refine g_iald cx hw hk0 (vp_of_inb hin) dX11_across_24 ?_
    refine lv_iload_n cx.1 cx.2.1 dX11_across_25 rfl (lv_at hl 3 rfl) ?_
    refine lv_icmp_ne (tgt := 35) cx.1 cx.2.1 dX11_across_26 (by decide) (fun hc => ?_) (fun hc => ?_)
    · rw [if_neg hc] at hf
      refine lv_bipush (v := (-9 : Int32)) cx.1 cx.2.1 dX11_across_35 (by decide) ?_
      exact g_ireti cx hr hlk hw hS hf dX11_across_37
    · rw [if_pos hc] at hf
      refine lv_aload_n cx.1 cx.2.1 dX11_across_29 rfl (lv_at hl 1 rfl) ?_
      refine lv_iload_n cx.1 cx.2.1 dX11_across_30 rfl (lv_at hl 0 rfl) ?_
      obtain ⟨hin, hf⟩ := gck_some hf
      refine g_iald cx hw hk0 (vp_of_inb hin) dX11_across_31 ?_
      refine lv_goto (tgt := 37) cx.1 cx.2.1 dX11_across_32 (by decide) ?_
      exact g_ireti cx hr hlk hw hS hf dX11_across_37
  · rw [if_pos hc] at hf
    refine lv_aload_n cx.1 cx.2.1 dX11_across_12 rfl (lv_at hl 1 rfl) ?_
    refine lv_iload_n cx.1 cx.2.1 dX11_across_13 rfl (lv_at hl 0 rfl) ?_
    refine lv_iconst (v := (1 : Int32)) cx.1 cx.2.1 dX11_across_14 (by decide) ?_
    refine lv_iadd cx.1 cx.2.1 dX11_across_15 ?_
    obtain ⟨hin, hf⟩ := gck_some hf
    refine g_iald cx hw hk0 (vp_of_inb hin) dX11_across_16 ?_
    refine lv_goto (tgt := 37) cx.1 cx.2.1 dX11_across_17 (by decide) ?_
    exact g_ireti cx hr hlk hw hS hf dX11_across_37
set_option maxHeartbeats 4000000 in
set_option maxRecDepth 100000 in
theorem c_X11_contractAt (l : Launch) (G : gG) (hM : 402 ≤ gN G) (a0 : Int32) (S : Sg) (r : Int32) (S' : Sg) (hf : f_X11_contractAt a0 S = some (r, S')) : Ct l yX11_contractAt [Cond.code yX11_contractAt cX11_contractAt 1 (some .int)] (gR 0 0) G [.int a0] S (some (.int r)) S' := by
  refine Ct_of (by decide) (Nat.le_of_ble_eq_true rfl) ?_
  intro p e s m below meth c ls cx hr hlk hw hS hl
  have hN := cx.2.2.2.2.hN
  have hl : lv_has ls 1 [(0, .int a0)] := hl
  unfold f_X11_contractAt at hf
  refine lv_bipush (v := (127 : Int32)) cx.1 cx.2.1 dX11_contractAt_0 (by decide) ?_
  refine lv_bipush (v := (6 : Int32)) cx.1 cx.2.1 dX11_contractAt_2 (by decide) ?_
  refine lv_iload_n cx.1 cx.2.1 dX11_contractAt_4 rfl (lv_at hl 0 rfl) ?_
  refine lv_imul cx.1 cx.2.1 dX11_contractAt_5 ?_
  refine lv_iadd cx.1 cx.2.1 dX11_contractAt_6 ?_
  exact g_ireti cx hr hlk hw hS hf dX11_contractAt_7
set_option maxHeartbeats 4000000 in
set_option maxRecDepth 100000 in
theorem c_X11_addContract (l : Launch) (G : gG) {k0 : Nat} (hM : 402 ≤ gN G) (hk0 : IA G k0 175) (a1 : Int32) (a2 : Int32) (a3 : Int32) (a4 : Int32) (S : Sg) (S' : Sg) (hf : f_X11_addContract k0 a1 a2 a3 a4 S = some S') : Ct l yX11_addContract [Cond.code yX11_addContract cX11_addContract 6 none] (gR 1 20) G [.ref (G.2.1 k0), .int a1, .int a2, .int a3, .int a4] S none S' := by
  refine Ct_of (by decide) (Nat.le_of_ble_eq_true rfl) ?_
  intro p e s m below meth c ls cx hr hlk hw hS hl
  have hN := cx.2.2.2.2.hN
  have hl : lv_has ls 6 [(0, .ref (G.2.1 k0)), (1, .int a1), (2, .int a2), (3, .int a3), (4, .int a4)] := hl
  unfold f_X11_addContract at hf
  refine lv_aload_n cx.1 cx.2.1 dX11_addContract_0 rfl (lv_at hl 0 rfl) ?_
  refine lv_iconst (v := (2 : Int32)) cx.1 cx.2.1 dX11_addContract_1 (by decide) ?_
  obtain ⟨hin, hf⟩ := gck_some hf
  refine g_iald cx hw hk0 (vp_of_inb hin) dX11_addContract_2 ?_
  obtain ⟨v_2, S_1, hv, hf⟩ := gbi_some hf
  refine g_S (As := [.int (S k0 (2 : Int32).toNatClampNeg)]) (rest := []) cx hw hS (c_X11_contractAt l G hM (S k0 (2 : Int32).toNatClampNeg) S v_2 S_1 hv) gw_299 gy_X11_contractAt gi_X11_contractAt ⟨Nat.le_of_ble_eq_true rfl, Nat.le_of_ble_eq_true rfl⟩ ⟨Nat.zero_le _, Nat.zero_le _⟩ rfl hl.1 rfl (Nat.le_of_ble_eq_true rfl) dX11_addContract_3 (fun H locs hw hS => ?_)
  refine W.eq (g2 := F0 m 6 ls [.int v_2]) rfl ?_
  refine lv_istore (lv' := [(5, .int v_2), (0, .ref (G.2.1 k0)), (1, .int a1), (2, .int a2), (3, .int a3), (4, .int a4)]) cx.1 cx.2.1 dX11_addContract_6 hl (by decide) rfl (fun ls hl => ?_)
  refine lv_aload_n cx.1 cx.2.1 dX11_addContract_8 rfl (lv_at hl 1 rfl) ?_
  refine lv_iload cx.1 cx.2.1 dX11_addContract_9 (lv_at hl 0 rfl) ?_
  refine lv_iload_n cx.1 cx.2.1 dX11_addContract_11 rfl (lv_at hl 2 rfl) ?_
  obtain ⟨hin, hf⟩ := gck_some hf
  obtain ⟨S_3, eS_3, hf⟩ := gst_ex hf
  refine g_iast cx hw hS hk0 (vp_of_inb hin) dX11_addContract_12 (fun H locs hw hS => ?_)
  rw [eS_3] at hw
  refine lv_aload_n cx.1 cx.2.1 dX11_addContract_13 rfl (lv_at hl 1 rfl) ?_
  refine lv_iload cx.1 cx.2.1 dX11_addContract_14 (lv_at hl 0 rfl) ?_
  refine lv_iconst (v := (1 : Int32)) cx.1 cx.2.1 dX11_addContract_16 (by decide) ?_
  refine lv_iadd cx.1 cx.2.1 dX11_addContract_17 ?_
  refine lv_iload_n cx.1 cx.2.1 dX11_addContract_18 rfl (lv_at hl 3 rfl) ?_
  obtain ⟨hin, hf⟩ := gck_some hf
  obtain ⟨S_4, eS_4, hf⟩ := gst_ex hf
  refine g_iast cx hw hS hk0 (vp_of_inb hin) dX11_addContract_19 (fun H locs hw hS => ?_)
  rw [eS_4] at hw
  refine lv_aload_n cx.1 cx.2.1 dX11_addContract_20 rfl (lv_at hl 1 rfl) ?_
  refine lv_iload cx.1 cx.2.1 dX11_addContract_21 (lv_at hl 0 rfl) ?_
  refine lv_iconst (v := (2 : Int32)) cx.1 cx.2.1 dX11_addContract_23 (by decide) ?_
  refine lv_iadd cx.1 cx.2.1 dX11_addContract_24 ?_
  refine lv_iload_n cx.1 cx.2.1 dX11_addContract_25 rfl (lv_at hl 4 rfl) ?_
  obtain ⟨hin, hf⟩ := gck_some hf
  obtain ⟨S_5, eS_5, hf⟩ := gst_ex hf
  refine g_iast cx hw hS hk0 (vp_of_inb hin) dX11_addContract_26 (fun H locs hw hS => ?_)
  rw [eS_5] at hw
  refine lv_aload_n cx.1 cx.2.1 dX11_addContract_27 rfl (lv_at hl 1 rfl) ?_
  refine lv_iload cx.1 cx.2.1 dX11_addContract_28 (lv_at hl 0 rfl) ?_
  refine lv_iconst (v := (3 : Int32)) cx.1 cx.2.1 dX11_addContract_30 (by decide) ?_
  refine lv_iadd cx.1 cx.2.1 dX11_addContract_31 ?_
  refine lv_iload cx.1 cx.2.1 dX11_addContract_32 (lv_at hl 5 rfl) ?_
  obtain ⟨hin, hf⟩ := gck_some hf
  obtain ⟨S_6, eS_6, hf⟩ := gst_ex hf
  refine g_iast cx hw hS hk0 (vp_of_inb hin) dX11_addContract_34 (fun H locs hw hS => ?_)
  rw [eS_6] at hw
  refine lv_aload_n cx.1 cx.2.1 dX11_addContract_35 rfl (lv_at hl 1 rfl) ?_
  refine lv_iload cx.1 cx.2.1 dX11_addContract_36 (lv_at hl 0 rfl) ?_
  refine lv_iconst (v := (4 : Int32)) cx.1 cx.2.1 dX11_addContract_38 (by decide) ?_
  refine lv_iadd cx.1 cx.2.1 dX11_addContract_39 ?_
  refine lv_bipush (v := (-9 : Int32)) cx.1 cx.2.1 dX11_addContract_40 (by decide) ?_
  obtain ⟨hin, hf⟩ := gck_some hf
  obtain ⟨S_7, eS_7, hf⟩ := gst_ex hf
  refine g_iast cx hw hS hk0 (vp_of_inb hin) dX11_addContract_42 (fun H locs hw hS => ?_)
  rw [eS_7] at hw
  refine lv_aload_n cx.1 cx.2.1 dX11_addContract_43 rfl (lv_at hl 1 rfl) ?_
  refine lv_iload cx.1 cx.2.1 dX11_addContract_44 (lv_at hl 0 rfl) ?_
  refine lv_iconst (v := (5 : Int32)) cx.1 cx.2.1 dX11_addContract_46 (by decide) ?_
  refine lv_iadd cx.1 cx.2.1 dX11_addContract_47 ?_
  refine lv_iconst (v := (0 : Int32)) cx.1 cx.2.1 dX11_addContract_48 (by decide) ?_
  obtain ⟨hin, hf⟩ := gck_some hf
  obtain ⟨S_8, eS_8, hf⟩ := gst_ex hf
  refine g_iast cx hw hS hk0 (vp_of_inb hin) dX11_addContract_49 (fun H locs hw hS => ?_)
  rw [eS_8] at hw
  refine lv_aload_n cx.1 cx.2.1 dX11_addContract_50 rfl (lv_at hl 1 rfl) ?_
  refine lv_iconst (v := (2 : Int32)) cx.1 cx.2.1 dX11_addContract_51 (by decide) ?_
  refine lv_dup2_11 cx.1 cx.2.1 dX11_addContract_52 rfl rfl ?_
  obtain ⟨hin, hf⟩ := gck_some hf
  refine g_iald cx hw hk0 (vp_of_inb hin) dX11_addContract_53 ?_
  refine lv_iconst (v := (1 : Int32)) cx.1 cx.2.1 dX11_addContract_54 (by decide) ?_
  refine lv_iadd cx.1 cx.2.1 dX11_addContract_55 ?_
  obtain ⟨hin, hf⟩ := gck_some hf
  obtain ⟨S_9, eS_9, hf⟩ := gst_ex hf
  refine g_iast cx hw hS hk0 (vp_of_inb hin) dX11_addContract_56 (fun H locs hw hS => ?_)
  rw [eS_9] at hw
  exact g_vreti cx hr hlk hw hS hf dX11_addContract_57
set_option maxHeartbeats 4000000 in
set_option maxRecDepth 100000 in
theorem c_X11_addTrack (l : Launch) (G : gG) {k0 : Nat} (hM : 402 ≤ gN G) (hk0 : IA G k0 175) (a1 : Int32) (a2 : Int32) (a3 : Int32) (S : Sg) (S' : Sg) (hf : f_X11_addTrack k0 a1 a2 a3 S = some S') : Ct l yX11_addTrack [Cond.code yX11_addTrack cX11_addTrack 5 none] (gR 1 20) G [.ref (G.2.1 k0), .int a1, .int a2, .int a3] S none S' := by
  refine Ct_of (by decide) (Nat.le_of_ble_eq_true rfl) ?_
  intro p e s m below meth c ls cx hr hlk hw hS hl
  have hN := cx.2.2.2.2.hN
  have hl : lv_has ls 5 [(0, .ref (G.2.1 k0)), (1, .int a1), (2, .int a2), (3, .int a3)] := hl
  unfold f_X11_addTrack at hf
  refine lv_aload_n cx.1 cx.2.1 dX11_addTrack_0 rfl (lv_at hl 0 rfl) ?_
  refine lv_iconst (v := (1 : Int32)) cx.1 cx.2.1 dX11_addTrack_1 (by decide) ?_
  obtain ⟨hin, hf⟩ := gck_some hf
  refine g_iald cx hw hk0 (vp_of_inb hin) dX11_addTrack_2 ?_
  obtain ⟨v_2, S_1, hv, hf⟩ := gbi_some hf
  refine g_S (As := [.int (S k0 (1 : Int32).toNatClampNeg)]) (rest := []) cx hw hS (c_X11_trackAt l G hM (S k0 (1 : Int32).toNatClampNeg) S v_2 S_1 hv) gw_161 gy_X11_trackAt gi_X11_trackAt ⟨Nat.le_of_ble_eq_true rfl, Nat.le_of_ble_eq_true rfl⟩ ⟨Nat.zero_le _, Nat.zero_le _⟩ rfl hl.1 rfl (Nat.le_of_ble_eq_true rfl) dX11_addTrack_3 (fun H locs hw hS => ?_)
  refine W.eq (g2 := F0 m 6 ls [.int v_2]) rfl ?_
  refine lv_istore (lv' := [(4, .int v_2), (0, .ref (G.2.1 k0)), (1, .int a1), (2, .int a2), (3, .int a3)]) cx.1 cx.2.1 dX11_addTrack_6 hl (by decide) rfl (fun ls hl => ?_)
  refine lv_aload_n cx.1 cx.2.1 dX11_addTrack_8 rfl (lv_at hl 1 rfl) ?_
  refine lv_iload cx.1 cx.2.1 dX11_addTrack_9 (lv_at hl 0 rfl) ?_
  refine lv_iload_n cx.1 cx.2.1 dX11_addTrack_11 rfl (lv_at hl 2 rfl) ?_
  obtain ⟨hin, hf⟩ := gck_some hf
  obtain ⟨S_3, eS_3, hf⟩ := gst_ex hf
  refine g_iast cx hw hS hk0 (vp_of_inb hin) dX11_addTrack_12 (fun H locs hw hS => ?_)
  rw [eS_3] at hw
  refine lv_aload_n cx.1 cx.2.1 dX11_addTrack_13 rfl (lv_at hl 1 rfl) ?_
  refine lv_iload cx.1 cx.2.1 dX11_addTrack_14 (lv_at hl 0 rfl) ?_
  refine lv_iconst (v := (1 : Int32)) cx.1 cx.2.1 dX11_addTrack_16 (by decide) ?_
  refine lv_iadd cx.1 cx.2.1 dX11_addTrack_17 ?_
  refine lv_iload_n cx.1 cx.2.1 dX11_addTrack_18 rfl (lv_at hl 3 rfl) ?_
  obtain ⟨hin, hf⟩ := gck_some hf
  obtain ⟨S_4, eS_4, hf⟩ := gst_ex hf
  refine g_iast cx hw hS hk0 (vp_of_inb hin) dX11_addTrack_19 (fun H locs hw hS => ?_)
  rw [eS_4] at hw
  refine lv_aload_n cx.1 cx.2.1 dX11_addTrack_20 rfl (lv_at hl 1 rfl) ?_
  refine lv_iload cx.1 cx.2.1 dX11_addTrack_21 (lv_at hl 0 rfl) ?_
  refine lv_iconst (v := (2 : Int32)) cx.1 cx.2.1 dX11_addTrack_23 (by decide) ?_
  refine lv_iadd cx.1 cx.2.1 dX11_addTrack_24 ?_
  refine lv_iload_n cx.1 cx.2.1 dX11_addTrack_25 rfl (lv_at hl 4 rfl) ?_
  obtain ⟨hin, hf⟩ := gck_some hf
  obtain ⟨S_5, eS_5, hf⟩ := gst_ex hf
  refine g_iast cx hw hS hk0 (vp_of_inb hin) dX11_addTrack_26 (fun H locs hw hS => ?_)
  rw [eS_5] at hw
  refine lv_aload_n cx.1 cx.2.1 dX11_addTrack_27 rfl (lv_at hl 1 rfl) ?_
  refine lv_iload cx.1 cx.2.1 dX11_addTrack_28 (lv_at hl 0 rfl) ?_
  refine lv_iconst (v := (3 : Int32)) cx.1 cx.2.1 dX11_addTrack_30 (by decide) ?_
  refine lv_iadd cx.1 cx.2.1 dX11_addTrack_31 ?_
  refine lv_bipush (v := (-9 : Int32)) cx.1 cx.2.1 dX11_addTrack_32 (by decide) ?_
  obtain ⟨hin, hf⟩ := gck_some hf
  obtain ⟨S_6, eS_6, hf⟩ := gst_ex hf
  refine g_iast cx hw hS hk0 (vp_of_inb hin) dX11_addTrack_34 (fun H locs hw hS => ?_)
  rw [eS_6] at hw
  refine lv_aload_n cx.1 cx.2.1 dX11_addTrack_35 rfl (lv_at hl 1 rfl) ?_
  refine lv_iconst (v := (1 : Int32)) cx.1 cx.2.1 dX11_addTrack_36 (by decide) ?_
  refine lv_dup2_11 cx.1 cx.2.1 dX11_addTrack_37 rfl rfl ?_
  obtain ⟨hin, hf⟩ := gck_some hf
  refine g_iald cx hw hk0 (vp_of_inb hin) dX11_addTrack_38 ?_
  refine lv_iconst (v := (1 : Int32)) cx.1 cx.2.1 dX11_addTrack_39 (by decide) ?_
  refine lv_iadd cx.1 cx.2.1 dX11_addTrack_40 ?_
  obtain ⟨hin, hf⟩ := gck_some hf
  obtain ⟨S_7, eS_7, hf⟩ := gst_ex hf
  refine g_iast cx hw hS hk0 (vp_of_inb hin) dX11_addTrack_41 (fun H locs hw hS => ?_)
  rw [eS_7] at hw
  exact g_vreti cx hr hlk hw hS hf dX11_addTrack_42
set_option maxHeartbeats 4000000 in
set_option maxRecDepth 100000 in
theorem c_X11_append (l : Launch) (G : gG) (hM : 402 ≤ gN G) (a1 : Int32) (S : Sg) (r : Int32) (S' : Sg) (hf : f_X11_append a1 S = some (r, S')) : Ct l yX11_append [Cond.code yX11_append cX11_append 2 (some .int)] (gR 1 25) G [.ref (G.2.1 392), .int a1] S (some (.int r)) S' := by
  refine Ct_of (by decide) (Nat.le_of_ble_eq_true rfl) ?_
  intro p e s m below meth c ls cx hr hlk hw hS hl
  have hN := cx.2.2.2.2.hN
  have hB_31 : ∀ (S : Sg) (x1 : Int32) (t0 : Int32) (H : Heap) (locs : List Loc) (ls : Array Slot), gP G S H → va_S (gA G s.heap.size) s.heap H locs → lv_has ls 2 [(0, .ref (G.2.1 392)), (1, .int x1)] → B_X11_append_31 S x1 t0 = some (r, S') → W p l e (gR 1 25) s m ([.ref (G.2.1 392), .int a1] : List Value).toArray below meth c H locs 0 0 (MQ below (gQ G S' (some (.int r)) (gA G s.heap.size)) ([.ref (G.2.1 392), .int a1] : List Value).toArray s 0 0 (gA G s.heap.size)) (F0 m 31 ls [.int t0, .ref (G.2.1 392)]) := by
    intro S x1 t0 H locs ls hw hS hl hf
    unfold B_X11_append_31 at hf
    obtain ⟨v_2, S_1, hv, hf⟩ := gbi_some hf
    refine g_V (As := [.int t0]) (rest := []) cx hw hS (c_X11_refused l G hM t0 S v_2 S_1 hv) (by omega) he_c392 rfl rfl gw_200 gy_X11_refused gi_X11_refused ⟨Nat.le_of_ble_eq_true rfl, Nat.le_of_ble_eq_true rfl⟩ ⟨Nat.zero_le _, Nat.zero_le _⟩ rfl hl.1 rfl (Nat.le_of_ble_eq_true rfl) dX11_append_31 (fun H locs hw hS => ?_)
    refine W.eq (g2 := F0 m 34 ls [.int v_2]) rfl ?_
    refine lv_if_eq (tgt := 39) cx.1 cx.2.1 dX11_append_34 (by decide) (fun hc => ?_) (fun hc => ?_)
    · rw [if_pos hc] at hf
      refine lv_aload_n cx.1 cx.2.1 dX11_append_39 rfl (lv_at hl 0 rfl) ?_
      refine g_get (C := RX11) (T := TX11) (N := 16) (v := .ref (G.2.1 393)) cx hw inlX11 392 (by omega) he_c392 rfl 1 (by decide) gw_142 rfl rfl dX11_append_40 ?_
      refine lv_aload_n cx.1 cx.2.1 dX11_append_43 rfl (lv_at hl 0 rfl) ?_
      refine g_get (C := RX11) (T := TX11) (N := 16) (v := .int (S_1 392 2)) cx hw inlX11 392 (by omega) he_c392 rfl 2 (by decide) gw_196 rfl rfl dX11_append_44 ?_
      refine lv_iload_n cx.1 cx.2.1 dX11_append_47 rfl (lv_at hl 1 rfl) ?_
      obtain ⟨hin, hf⟩ := gck_some hf
      obtain ⟨S_3, eS_3, hf⟩ := gst_ex hf
      refine g_iast cx hw hS (ia_c393 hM) (vp_of_inb hin) dX11_append_48 (fun H locs hw hS => ?_)
      rw [eS_3] at hw
      refine lv_aload_n cx.1 cx.2.1 dX11_append_49 rfl (lv_at hl 0 rfl) ?_
      refine lv_dup cx.1 cx.2.1 dX11_append_50 rfl ?_
      refine g_get (C := RX11) (T := TX11) (N := 16) (v := .int (S_3 392 2)) cx hw inlX11 392 (by omega) he_c392 rfl 2 (by decide) gw_196 rfl rfl dX11_append_51 ?_
      refine lv_iconst (v := (1 : Int32)) cx.1 cx.2.1 dX11_append_54 (by decide) ?_
      refine lv_iadd cx.1 cx.2.1 dX11_append_55 ?_
      obtain ⟨S_4, eS_4, hf⟩ := gst_ex hf
      refine g_put (C := RX11) (T := TX11) (N := 16) cx hw hS inlX11 tyX11 tyX11_ok nmX11 392 (by omega) he_c392 rfl 2 (by decide) gw_196 rfl rfl (by decide +kernel) (Nat.le_of_ble_eq_true rfl) (by rw [u2_s, he_c392]; rfl) dX11_append_56 (fun H locs hw hS => ?_)
      rw [eS_4] at hw
      refine lv_aload_n cx.1 cx.2.1 dX11_append_59 rfl (lv_at hl 0 rfl) ?_
      refine g_get (C := RX11) (T := TX11) (N := 16) (v := .int (S_4 392 2)) cx hw inlX11 392 (by omega) he_c392 rfl 2 (by decide) gw_196 rfl rfl dX11_append_60 ?_
      exact g_ireti cx hr hlk hw hS hf dX11_append_63
    · rw [if_neg hc] at hf
      refine lv_iconst (v := (0 : Int32)) cx.1 cx.2.1 dX11_append_37 (by decide) ?_
      exact g_ireti cx hr hlk hw hS hf dX11_append_38
  have hl : lv_has ls 2 [(0, .ref (G.2.1 392)), (1, .int a1)] := hl
  unfold f_X11_append at hf
  refine lv_aload_n cx.1 cx.2.1 dX11_append_0 rfl (lv_at hl 0 rfl) ?_
  refine lv_iload_n cx.1 cx.2.1 dX11_append_1 rfl (lv_at hl 1 rfl) ?_
  refine lv_i2l cx.1 cx.2.1 dX11_append_2 rfl ?_
  refine lv_lconst (v := (0 : Int64)) cx.1 cx.2.1 dX11_append_3 (by decide) ?_
  refine lv_ldc2 cx.1 cx.2.1 cx.2.2.2.1 (cx.2.2.2.2.ts _ gw_195) dX11_append_4 ?_
  obtain ⟨v_6, S_5, hv, hf⟩ := gbi_some hf
  refine g_S (As := [.long a1.toInt64, .long (0 : Int64), .long (255 : Int64)]) (rest := [.ref (G.2.1 392)]) cx hw hS (c_X11_in l G hM a1.toInt64 (0 : Int64) (255 : Int64) S v_6 S_5 hv) gw_197 gy_X11_in gi_X11_in ⟨Nat.le_of_ble_eq_true rfl, Nat.le_of_ble_eq_true rfl⟩ ⟨Nat.zero_le _, Nat.zero_le _⟩ rfl hl.1 rfl (Nat.le_of_ble_eq_true rfl) dX11_append_7 (fun H locs hw hS => ?_)
  refine W.eq (g2 := F0 m 10 ls [.int v_6, .ref (G.2.1 392)]) rfl ?_
  refine lv_if_ne (tgt := 17) cx.1 cx.2.1 dX11_append_10 (by decide) (fun hc => ?_) (fun hc => ?_)
  · rw [if_neg hc] at hf
    refine lv_aload_n cx.1 cx.2.1 dX11_append_17 rfl (lv_at hl 0 rfl) ?_
    refine g_get (C := RX11) (T := TX11) (N := 16) (v := .int (S_5 392 2)) cx hw inlX11 392 (by omega) he_c392 rfl 2 (by decide) gw_196 rfl rfl dX11_append_18 ?_
    refine lv_bipush (v := (100 : Int32)) cx.1 cx.2.1 dX11_append_21 (by decide) ?_
    refine lv_icmp_ne (tgt := 30) cx.1 cx.2.1 dX11_append_23 (by decide) (fun hc => ?_) (fun hc => ?_)
    · rw [if_neg hc] at hf
      refine lv_iconst (v := (0 : Int32)) cx.1 cx.2.1 dX11_append_30 (by decide) ?_
      exact hB_31 S_5 a1 (0 : Int32) _ _ _ hw hS (lv_sub hl [0, 1] rfl) hf
    · rw [if_pos hc] at hf
      refine lv_iconst (v := (2 : Int32)) cx.1 cx.2.1 dX11_append_26 (by decide) ?_
      refine lv_goto (tgt := 31) cx.1 cx.2.1 dX11_append_27 (by decide) ?_
      exact hB_31 S_5 a1 (2 : Int32) _ _ _ hw hS (lv_sub hl [0, 1] rfl) hf
  · rw [if_pos hc] at hf
    refine lv_iconst (v := (1 : Int32)) cx.1 cx.2.1 dX11_append_13 (by decide) ?_
    refine lv_goto (tgt := 31) cx.1 cx.2.1 dX11_append_14 (by decide) ?_
    exact hB_31 S_5 a1 (1 : Int32) _ _ _ hw hS (lv_sub hl [0, 1] rfl) hf
set_option maxHeartbeats 4000000 in
set_option maxRecDepth 100000 in
theorem c_X11_isCompany (l : Launch) (G : gG) (hM : 402 ≤ gN G) (a0 : Int32) (S : Sg) (r : Int32) (S' : Sg) (hf : f_X11_isCompany a0 S = some (r, S')) : Ct l yX11_isCompany [Cond.code yX11_isCompany cX11_isCompany 1 (some .boolean)] (gR 1 25) G [.int a0] S (some (.int r)) S' := by
  refine Ct_of (by decide) (Nat.le_of_ble_eq_true rfl) ?_
  intro p e s m below meth c ls cx hr hlk hw hS hl
  have hN := cx.2.2.2.2.hN
  have hl : lv_has ls 1 [(0, .int a0)] := hl
  unfold f_X11_isCompany at hf
  refine lv_iload_n cx.1 cx.2.1 dX11_isCompany_0 rfl (lv_at hl 0 rfl) ?_
  refine lv_i2l cx.1 cx.2.1 dX11_isCompany_1 rfl ?_
  refine lv_lconst (v := (0 : Int64)) cx.1 cx.2.1 dX11_isCompany_2 (by decide) ?_
  refine lv_ldc2 cx.1 cx.2.1 cx.2.2.2.1 (cx.2.2.2.2.ts _ gw_414) dX11_isCompany_3 ?_
  obtain ⟨v_2, S_1, hv, hf⟩ := gbi_some hf
  refine g_S (As := [.long a0.toInt64, .long (0 : Int64), .long (3 : Int64)]) (rest := []) cx hw hS (c_X11_in l G hM a0.toInt64 (0 : Int64) (3 : Int64) S v_2 S_1 hv) gw_197 gy_X11_in gi_X11_in ⟨Nat.le_of_ble_eq_true rfl, Nat.le_of_ble_eq_true rfl⟩ ⟨Nat.zero_le _, Nat.zero_le _⟩ rfl hl.1 rfl (Nat.le_of_ble_eq_true rfl) dX11_isCompany_6 (fun H locs hw hS => ?_)
  refine W.eq (g2 := F0 m 9 ls [.int v_2]) rfl ?_
  obtain ⟨hbo, hf⟩ := gck_some hf
  exact g_zreti cx hr hlk hw hS hbo hf dX11_isCompany_9
set_option maxHeartbeats 4000000 in
set_option maxRecDepth 100000 in
theorem c_X11_copyPage (l : Launch) (G : gG) {k0 : Nat} {n0 : Nat} {k2 : Nat} {n2 : Nat} (hM : 402 ≤ gN G) (hk0 : IA G k0 n0) (hk2 : IA G k2 n2) (a1 : Int32) (a3 : Int32) (S : Sg) (S' : Sg) (hf : f_X11_copyPage k0 n0 k2 n2 a1 a3 S = some S') : Ct l yX11_copyPage [Cond.code yX11_copyPage cX11_copyPage 5 none] (gR 0 0) G [.ref (G.2.1 k0), .int a1, .ref (G.2.1 k2), .int a3] S none S' := by
  refine Ct_of (by decide) (Nat.le_of_ble_eq_true rfl) ?_
  intro p e s m below meth c ls cx hr hlk hw hS hl
  have hN := cx.2.2.2.2.hN
  have hL_3 : ∀ (n : Nat), ∀ (S : Sg) (x1 : Int32) (x3 : Int32) (x4 : Int32) (H : Heap) (locs : List Loc) (ls : Array Slot), gP G S H → va_S (gA G s.heap.size) s.heap H locs → lv_has ls 5 [(0, .ref (G.2.1 k0)), (1, .int x1), (2, .ref (G.2.1 k2)), (3, .int x3), (4, .int x4)] → L_X11_copyPage_3 k0 n0 k2 n2 n S x1 x3 x4 = some S' → W p l e (gR 0 0) s m ([.ref (G.2.1 k0), .int a1, .ref (G.2.1 k2), .int a3] : List Value).toArray below meth c H locs 0 0 (MQ below (gQ G S' none (gA G s.heap.size)) ([.ref (G.2.1 k0), .int a1, .ref (G.2.1 k2), .int a3] : List Value).toArray s 0 0 (gA G s.heap.size)) (F0 m 3 ls []) := by
    intro n
    induction n with
    | zero => intro S x1 x3 x4 H locs ls hw hS hl hf; cases hf
    | succ n hK3 =>
      intro S x1 x3 x4 H locs ls hw hS hl hf
      have hf : Lb_X11_copyPage_3 k0 n0 k2 n2 (L_X11_copyPage_3 k0 n0 k2 n2 n) S x1 x3 x4 = some S' := hf
      unfold Lb_X11_copyPage_3 at hf
      refine lv_iload cx.1 cx.2.1 dX11_copyPage_3 (lv_at hl 4 rfl) ?_
      refine lv_sipush (v := (175 : Int32)) cx.1 cx.2.1 dX11_copyPage_5 (by decide) ?_
      refine lv_icmp_ge (tgt := 29) cx.1 cx.2.1 dX11_copyPage_8 (by decide) (fun hc => ?_) (fun hc => ?_)
      · rw [if_pos hc] at hf
        exact g_vreti cx hr hlk hw hS hf dX11_copyPage_29
      · rw [if_neg hc] at hf
        refine lv_aload_n cx.1 cx.2.1 dX11_copyPage_11 rfl (lv_at hl 2 rfl) ?_
        refine lv_iload_n cx.1 cx.2.1 dX11_copyPage_12 rfl (lv_at hl 3 rfl) ?_
        refine lv_iload cx.1 cx.2.1 dX11_copyPage_13 (lv_at hl 4 rfl) ?_
        refine lv_iadd cx.1 cx.2.1 dX11_copyPage_15 ?_
        refine lv_aload_n cx.1 cx.2.1 dX11_copyPage_16 rfl (lv_at hl 0 rfl) ?_
        refine lv_iload_n cx.1 cx.2.1 dX11_copyPage_17 rfl (lv_at hl 1 rfl) ?_
        refine lv_iload cx.1 cx.2.1 dX11_copyPage_18 (lv_at hl 4 rfl) ?_
        refine lv_iadd cx.1 cx.2.1 dX11_copyPage_20 ?_
        obtain ⟨hin, hf⟩ := gck_some hf
        refine g_iald cx hw hk0 (vp_of_inb hin) dX11_copyPage_21 ?_
        obtain ⟨hin, hf⟩ := gck_some hf
        obtain ⟨S_1, eS_1, hf⟩ := gst_ex hf
        refine g_iast cx hw hS hk2 (vp_of_inb hin) dX11_copyPage_22 (fun H locs hw hS => ?_)
        rw [eS_1] at hw
        obtain ⟨x4_2, ex4_2, hf⟩ := gvi_ex hf
        refine lv_iinc (v := x4_2) (lv' := [(4, .int x4_2), (0, .ref (G.2.1 k0)), (1, .int x1), (2, .ref (G.2.1 k2)), (3, .int x3)]) cx.1 cx.2.1 dX11_copyPage_23 hl (k := 4) rfl (by rw [← ex4_2]; rfl) (by decide) rfl (fun ls hl => ?_)
        refine lv_goto (tgt := 3) cx.1 cx.2.1 dX11_copyPage_26 (by decide) ?_
        exact hK3 S_1 x1 x3 x4_2 _ _ _ hw hS (lv_sub hl [1, 2, 3, 4, 0] rfl) hf
  have hl : lv_has ls 5 [(0, .ref (G.2.1 k0)), (1, .int a1), (2, .ref (G.2.1 k2)), (3, .int a3)] := hl
  unfold f_X11_copyPage at hf
  refine lv_iconst (v := (0 : Int32)) cx.1 cx.2.1 dX11_copyPage_0 (by decide) ?_
  refine lv_istore (lv' := [(4, .int (0 : Int32)), (0, .ref (G.2.1 k0)), (1, .int a1), (2, .ref (G.2.1 k2)), (3, .int a3)]) cx.1 cx.2.1 dX11_copyPage_1 hl (by decide) rfl (fun ls hl => ?_)
  exact hL_3 gFu S a1 a3 (0 : Int32) _ _ _ hw hS (lv_sub hl [1, 2, 3, 4, 0] rfl) hf
set_option maxHeartbeats 4000000 in
set_option maxRecDepth 100000 in
theorem c_X11_companyAt (l : Launch) (G : gG) (hM : 402 ≤ gN G) (a0 : Int32) (S : Sg) (r : Int32) (S' : Sg) (hf : f_X11_companyAt a0 S = some (r, S')) : Ct l yX11_companyAt [Cond.code yX11_companyAt cX11_companyAt 1 (some .int)] (gR 0 0) G [.int a0] S (some (.int r)) S' := by
  refine Ct_of (by decide) (Nat.le_of_ble_eq_true rfl) ?_
  intro p e s m below meth c ls cx hr hlk hw hS hl
  have hN := cx.2.2.2.2.hN
  have hl : lv_has ls 1 [(0, .int a0)] := hl
  unfold f_X11_companyAt at hf
  refine lv_bipush (v := (75 : Int32)) cx.1 cx.2.1 dX11_companyAt_0 (by decide) ?_
  refine lv_iconst (v := (5 : Int32)) cx.1 cx.2.1 dX11_companyAt_2 (by decide) ?_
  refine lv_iload_n cx.1 cx.2.1 dX11_companyAt_3 rfl (lv_at hl 0 rfl) ?_
  refine lv_imul cx.1 cx.2.1 dX11_companyAt_4 ?_
  refine lv_iadd cx.1 cx.2.1 dX11_companyAt_5 ?_
  exact g_ireti cx hr hlk hw hS hf dX11_companyAt_6
set_option maxHeartbeats 4000000 in
set_option maxRecDepth 100000 in
theorem c_X11_toBank (l : Launch) (G : gG) {k0 : Nat} (hM : 402 ≤ gN G) (hk0 : IA G k0 175) (a1 : Int32) (a2 : Int32) (S : Sg) (S' : Sg) (hf : f_X11_toBank k0 a1 a2 S = some S') : Ct l yX11_toBank [Cond.code yX11_toBank cX11_toBank 3 none] (gR 1 20) G [.ref (G.2.1 k0), .int a1, .int a2] S none S' := by
  refine Ct_of (by decide) (Nat.le_of_ble_eq_true rfl) ?_
  intro p e s m below meth c ls cx hr hlk hw hS hl
  have hN := cx.2.2.2.2.hN
  have hl : lv_has ls 3 [(0, .ref (G.2.1 k0)), (1, .int a1), (2, .int a2)] := hl
  unfold f_X11_toBank at hf
  refine lv_aload_n cx.1 cx.2.1 dX11_toBank_0 rfl (lv_at hl 0 rfl) ?_
  refine lv_iload_n cx.1 cx.2.1 dX11_toBank_1 rfl (lv_at hl 1 rfl) ?_
  obtain ⟨v_2, S_1, hv, hf⟩ := gbi_some hf
  refine g_S (As := [.int a1]) (rest := [.ref (G.2.1 k0)]) cx hw hS (c_X11_companyAt l G hM a1 S v_2 S_1 hv) gw_155 gy_X11_companyAt gi_X11_companyAt ⟨Nat.le_of_ble_eq_true rfl, Nat.le_of_ble_eq_true rfl⟩ ⟨Nat.zero_le _, Nat.zero_le _⟩ rfl hl.1 rfl (Nat.le_of_ble_eq_true rfl) dX11_toBank_2 (fun H locs hw hS => ?_)
  refine W.eq (g2 := F0 m 5 ls [.int v_2, .ref (G.2.1 k0)]) rfl ?_
  refine lv_dup2_11 cx.1 cx.2.1 dX11_toBank_5 rfl rfl ?_
  obtain ⟨hin, hf⟩ := gck_some hf
  refine g_iald cx hw hk0 (vp_of_inb hin) dX11_toBank_6 ?_
  refine lv_iload_n cx.1 cx.2.1 dX11_toBank_7 rfl (lv_at hl 2 rfl) ?_
  refine lv_isub cx.1 cx.2.1 dX11_toBank_8 ?_
  obtain ⟨hin, hf⟩ := gck_some hf
  obtain ⟨S_3, eS_3, hf⟩ := gst_ex hf
  refine g_iast cx hw hS hk0 (vp_of_inb hin) dX11_toBank_9 (fun H locs hw hS => ?_)
  rw [eS_3] at hw
  refine lv_aload_n cx.1 cx.2.1 dX11_toBank_10 rfl (lv_at hl 0 rfl) ?_
  refine lv_iconst (v := (5 : Int32)) cx.1 cx.2.1 dX11_toBank_11 (by decide) ?_
  refine lv_dup2_11 cx.1 cx.2.1 dX11_toBank_12 rfl rfl ?_
  obtain ⟨hin, hf⟩ := gck_some hf
  refine g_iald cx hw hk0 (vp_of_inb hin) dX11_toBank_13 ?_
  refine lv_iload_n cx.1 cx.2.1 dX11_toBank_14 rfl (lv_at hl 2 rfl) ?_
  refine lv_iadd cx.1 cx.2.1 dX11_toBank_15 ?_
  obtain ⟨hin, hf⟩ := gck_some hf
  obtain ⟨S_4, eS_4, hf⟩ := gst_ex hf
  refine g_iast cx hw hS hk0 (vp_of_inb hin) dX11_toBank_16 (fun H locs hw hS => ?_)
  rw [eS_4] at hw
  exact g_vreti cx hr hlk hw hS hf dX11_toBank_17
set_option maxHeartbeats 4000000 in
set_option maxRecDepth 100000 in
theorem c_X11_dropContract (l : Launch) (G : gG) {k0 : Nat} (hM : 402 ≤ gN G) (hk0 : IA G k0 175) (a1 : Int32) (S : Sg) (S' : Sg) (hf : f_X11_dropContract k0 a1 S = some S') : Ct l yX11_dropContract [Cond.code yX11_dropContract cX11_dropContract 3 none] (gR 1 20) G [.ref (G.2.1 k0), .int a1] S none S' := by
  refine Ct_of (by decide) (Nat.le_of_ble_eq_true rfl) ?_
  intro p e s m below meth c ls cx hr hlk hw hS hl
  have hN := cx.2.2.2.2.hN
  have hL_5 : ∀ (n : Nat), ∀ (S : Sg) (x2 : Int32) (H : Heap) (locs : List Loc) (ls : Array Slot), gP G S H → va_S (gA G s.heap.size) s.heap H locs → lv_has ls 3 [(0, .ref (G.2.1 k0)), (2, .int x2)] → L_X11_dropContract_5 k0 n S x2 = some S' → W p l e (gR 1 20) s m ([.ref (G.2.1 k0), .int a1] : List Value).toArray below meth c H locs 0 0 (MQ below (gQ G S' none (gA G s.heap.size)) ([.ref (G.2.1 k0), .int a1] : List Value).toArray s 0 0 (gA G s.heap.size)) (F0 m 5 ls []) := by
    intro n
    induction n with
    | zero => intro S x2 H locs ls hw hS hl hf; cases hf
    | succ n hK5 =>
      intro S x2 H locs ls hw hS hl hf
      have hf : Lb_X11_dropContract_5 k0 (L_X11_dropContract_5 k0 n) S x2 = some S' := hf
      unfold Lb_X11_dropContract_5 at hf
      refine lv_iload_n cx.1 cx.2.1 dX11_dropContract_5 rfl (lv_at hl 1 rfl) ?_
      refine lv_bipush (v := (6 : Int32)) cx.1 cx.2.1 dX11_dropContract_6 (by decide) ?_
      refine lv_iadd cx.1 cx.2.1 dX11_dropContract_8 ?_
      refine lv_sipush (v := (175 : Int32)) cx.1 cx.2.1 dX11_dropContract_9 (by decide) ?_
      refine lv_icmp_ge (tgt := 30) cx.1 cx.2.1 dX11_dropContract_12 (by decide) (fun hc => ?_) (fun hc => ?_)
      · rw [if_pos hc] at hf
        refine lv_aload_n cx.1 cx.2.1 dX11_dropContract_30 rfl (lv_at hl 0 rfl) ?_
        refine lv_iconst (v := (2 : Int32)) cx.1 cx.2.1 dX11_dropContract_31 (by decide) ?_
        refine lv_dup2_11 cx.1 cx.2.1 dX11_dropContract_32 rfl rfl ?_
        obtain ⟨hin, hf⟩ := gck_some hf
        refine g_iald cx hw hk0 (vp_of_inb hin) dX11_dropContract_33 ?_
        refine lv_iconst (v := (1 : Int32)) cx.1 cx.2.1 dX11_dropContract_34 (by decide) ?_
        refine lv_isub cx.1 cx.2.1 dX11_dropContract_35 ?_
        obtain ⟨hin, hf⟩ := gck_some hf
        obtain ⟨S_1, eS_1, hf⟩ := gst_ex hf
        refine g_iast cx hw hS hk0 (vp_of_inb hin) dX11_dropContract_36 (fun H locs hw hS => ?_)
        rw [eS_1] at hw
        exact g_vreti cx hr hlk hw hS hf dX11_dropContract_37
      · rw [if_neg hc] at hf
        refine lv_aload_n cx.1 cx.2.1 dX11_dropContract_15 rfl (lv_at hl 0 rfl) ?_
        refine lv_iload_n cx.1 cx.2.1 dX11_dropContract_16 rfl (lv_at hl 1 rfl) ?_
        refine lv_aload_n cx.1 cx.2.1 dX11_dropContract_17 rfl (lv_at hl 0 rfl) ?_
        refine lv_iload_n cx.1 cx.2.1 dX11_dropContract_18 rfl (lv_at hl 1 rfl) ?_
        refine lv_bipush (v := (6 : Int32)) cx.1 cx.2.1 dX11_dropContract_19 (by decide) ?_
        refine lv_iadd cx.1 cx.2.1 dX11_dropContract_21 ?_
        obtain ⟨hin, hf⟩ := gck_some hf
        refine g_iald cx hw hk0 (vp_of_inb hin) dX11_dropContract_22 ?_
        obtain ⟨hin, hf⟩ := gck_some hf
        obtain ⟨S_2, eS_2, hf⟩ := gst_ex hf
        refine g_iast cx hw hS hk0 (vp_of_inb hin) dX11_dropContract_23 (fun H locs hw hS => ?_)
        rw [eS_2] at hw
        obtain ⟨x2_3, ex2_3, hf⟩ := gvi_ex hf
        refine lv_iinc (v := x2_3) (lv' := [(2, .int x2_3), (0, .ref (G.2.1 k0))]) cx.1 cx.2.1 dX11_dropContract_24 hl (k := 1) rfl (by rw [← ex2_3]; rfl) (by decide) rfl (fun ls hl => ?_)
        refine lv_goto (tgt := 5) cx.1 cx.2.1 dX11_dropContract_27 (by decide) ?_
        exact hK5 S_2 x2_3 _ _ _ hw hS (lv_sub hl [1, 0] rfl) hf
  have hl : lv_has ls 3 [(0, .ref (G.2.1 k0)), (1, .int a1)] := hl
  unfold f_X11_dropContract at hf
  refine lv_iload_n cx.1 cx.2.1 dX11_dropContract_0 rfl (lv_at hl 1 rfl) ?_
  obtain ⟨v_5, S_4, hv, hf⟩ := gbi_some hf
  refine g_S (As := [.int a1]) (rest := []) cx hw hS (c_X11_contractAt l G hM a1 S v_5 S_4 hv) gw_299 gy_X11_contractAt gi_X11_contractAt ⟨Nat.le_of_ble_eq_true rfl, Nat.le_of_ble_eq_true rfl⟩ ⟨Nat.zero_le _, Nat.zero_le _⟩ rfl hl.1 rfl (Nat.le_of_ble_eq_true rfl) dX11_dropContract_1 (fun H locs hw hS => ?_)
  refine W.eq (g2 := F0 m 4 ls [.int v_5]) rfl ?_
  refine lv_istore_n (lv' := [(2, .int v_5), (0, .ref (G.2.1 k0)), (1, .int a1)]) cx.1 cx.2.1 dX11_dropContract_4 rfl hl (by decide) rfl (fun ls hl => ?_)
  exact hL_5 gFu S_4 v_5 _ _ _ hw hS (lv_sub hl [1, 0] rfl) hf
set_option maxHeartbeats 4000000 in
set_option maxRecDepth 100000 in
theorem c_X11_endContracts (l : Launch) (G : gG) {k0 : Nat} (hM : 402 ≤ gN G) (hk0 : IA G k0 175) (S : Sg) (S' : Sg) (hf : f_X11_endContracts k0 S = some S') : Ct l yX11_endContracts [Cond.code yX11_endContracts cX11_endContracts 4 none] (gR 2 42) G [.ref (G.2.1 k0)] S none S' := by
  refine Ct_of (by decide) (Nat.le_of_ble_eq_true rfl) ?_
  intro p e s m below meth c ls cx hr hlk hw hS hl
  have hN := cx.2.2.2.2.hN
  have hB_57 : ∀ (K2 : Sg → Int32 → Option Sg) (hK2 : ∀ (S : Sg) (x1 : Int32) (H : Heap) (locs : List Loc) (ls : Array Slot), gP G S H → va_S (gA G s.heap.size) s.heap H locs → lv_has ls 4 [(0, .ref (G.2.1 k0)), (1, .int x1)] → K2 S x1 = some S' → W p l e (gR 2 42) s m ([.ref (G.2.1 k0)] : List Value).toArray below meth c H locs 0 0 (MQ below (gQ G S' none (gA G s.heap.size)) ([.ref (G.2.1 k0)] : List Value).toArray s 0 0 (gA G s.heap.size)) (F0 m 2 ls [])), ∀ (S : Sg) (x1 : Int32) (x2 : Int32) (H : Heap) (locs : List Loc) (ls : Array Slot), gP G S H → va_S (gA G s.heap.size) s.heap H locs → lv_has ls 4 [(0, .ref (G.2.1 k0)), (1, .int x1), (2, .int x2)] → B_X11_endContracts_57 k0 K2 S x1 x2 = some S' → W p l e (gR 2 42) s m ([.ref (G.2.1 k0)] : List Value).toArray below meth c H locs 0 0 (MQ below (gQ G S' none (gA G s.heap.size)) ([.ref (G.2.1 k0)] : List Value).toArray s 0 0 (gA G s.heap.size)) (F0 m 57 ls []) := by
    intro K2 hK2 S x1 x2 H locs ls hw hS hl hf
    unfold B_X11_endContracts_57 at hf
    refine lv_aload_n cx.1 cx.2.1 dX11_endContracts_57 rfl (lv_at hl 0 rfl) ?_
    refine lv_iload_n cx.1 cx.2.1 dX11_endContracts_58 rfl (lv_at hl 2 rfl) ?_
    refine lv_iconst (v := (5 : Int32)) cx.1 cx.2.1 dX11_endContracts_59 (by decide) ?_
    refine lv_iadd cx.1 cx.2.1 dX11_endContracts_60 ?_
    refine lv_iconst (v := (0 : Int32)) cx.1 cx.2.1 dX11_endContracts_61 (by decide) ?_
    obtain ⟨hin, hf⟩ := gck_some hf
    obtain ⟨S_1, eS_1, hf⟩ := gst_ex hf
    refine g_iast cx hw hS hk0 (vp_of_inb hin) dX11_endContracts_62 (fun H locs hw hS => ?_)
    rw [eS_1] at hw
    refine lv_aload_n cx.1 cx.2.1 dX11_endContracts_63 rfl (lv_at hl 0 rfl) ?_
    refine lv_iload_n cx.1 cx.2.1 dX11_endContracts_64 rfl (lv_at hl 2 rfl) ?_
    refine lv_iconst (v := (3 : Int32)) cx.1 cx.2.1 dX11_endContracts_65 (by decide) ?_
    refine lv_iadd cx.1 cx.2.1 dX11_endContracts_66 ?_
    obtain ⟨hin, hf⟩ := gck_some hf
    refine g_iald cx hw hk0 (vp_of_inb hin) dX11_endContracts_67 ?_
    refine lv_if_ne (tgt := 79) cx.1 cx.2.1 dX11_endContracts_68 (by decide) (fun hc => ?_) (fun hc => ?_)
    · rw [if_neg hc] at hf
      obtain ⟨x1_2, ex1_2, hf⟩ := gvi_ex hf
      refine lv_iinc (v := x1_2) (lv' := [(1, .int x1_2), (0, .ref (G.2.1 k0)), (2, .int x2)]) cx.1 cx.2.1 dX11_endContracts_79 hl (k := 1) rfl (by rw [← ex1_2]; rfl) (by decide) rfl (fun ls hl => ?_)
      refine lv_goto (tgt := 2) cx.1 cx.2.1 dX11_endContracts_82 (by decide) ?_
      exact hK2 S_1 x1_2 _ _ _ hw hS (lv_sub hl [1, 0] rfl) hf
    · rw [if_pos hc] at hf
      refine lv_aload_n cx.1 cx.2.1 dX11_endContracts_71 rfl (lv_at hl 0 rfl) ?_
      refine lv_iload_n cx.1 cx.2.1 dX11_endContracts_72 rfl (lv_at hl 1 rfl) ?_
      obtain ⟨S_3, hv, hf⟩ := gbv_some hf
      refine g_S (As := [.ref (G.2.1 k0), .int x1]) (rest := []) cx hw hS (c_X11_dropContract l G hM hk0 x1 S_1 S_3 hv) gw_881 gy_X11_dropContract gi_X11_dropContract ⟨Nat.le_of_ble_eq_true rfl, Nat.le_of_ble_eq_true rfl⟩ ⟨Nat.zero_le _, Nat.zero_le _⟩ rfl hl.1 rfl (Nat.le_of_ble_eq_true rfl) dX11_endContracts_73 (fun H locs hw hS => ?_)
      refine W.eq (g2 := F0 m 76 ls []) rfl ?_
      refine lv_goto (tgt := 82) cx.1 cx.2.1 dX11_endContracts_76 (by decide) ?_
      refine lv_goto (tgt := 2) cx.1 cx.2.1 dX11_endContracts_82 (by decide) ?_
      exact hK2 S_3 x1 _ _ _ hw hS (lv_sub hl [0, 1] rfl) hf
  have hB_48 : ∀ (K2 : Sg → Int32 → Option Sg) (hK2 : ∀ (S : Sg) (x1 : Int32) (H : Heap) (locs : List Loc) (ls : Array Slot), gP G S H → va_S (gA G s.heap.size) s.heap H locs → lv_has ls 4 [(0, .ref (G.2.1 k0)), (1, .int x1)] → K2 S x1 = some S' → W p l e (gR 2 42) s m ([.ref (G.2.1 k0)] : List Value).toArray below meth c H locs 0 0 (MQ below (gQ G S' none (gA G s.heap.size)) ([.ref (G.2.1 k0)] : List Value).toArray s 0 0 (gA G s.heap.size)) (F0 m 2 ls [])), ∀ (S : Sg) (x1 : Int32) (x2 : Int32) (H : Heap) (locs : List Loc) (ls : Array Slot), gP G S H → va_S (gA G s.heap.size) s.heap H locs → lv_has ls 4 [(0, .ref (G.2.1 k0)), (1, .int x1), (2, .int x2)] → B_X11_endContracts_48 k0 K2 S x1 x2 = some S' → W p l e (gR 2 42) s m ([.ref (G.2.1 k0)] : List Value).toArray below meth c H locs 0 0 (MQ below (gQ G S' none (gA G s.heap.size)) ([.ref (G.2.1 k0)] : List Value).toArray s 0 0 (gA G s.heap.size)) (F0 m 48 ls []) := by
    intro K2 hK2 S x1 x2 H locs ls hw hS hl hf
    unfold B_X11_endContracts_48 at hf
    refine lv_aload_n cx.1 cx.2.1 dX11_endContracts_48 rfl (lv_at hl 0 rfl) ?_
    refine lv_iload_n cx.1 cx.2.1 dX11_endContracts_49 rfl (lv_at hl 2 rfl) ?_
    refine lv_iconst (v := (3 : Int32)) cx.1 cx.2.1 dX11_endContracts_50 (by decide) ?_
    refine lv_iadd cx.1 cx.2.1 dX11_endContracts_51 ?_
    refine lv_dup2_11 cx.1 cx.2.1 dX11_endContracts_52 rfl rfl ?_
    obtain ⟨hin, hf⟩ := gck_some hf
    refine g_iald cx hw hk0 (vp_of_inb hin) dX11_endContracts_53 ?_
    refine lv_iconst (v := (1 : Int32)) cx.1 cx.2.1 dX11_endContracts_54 (by decide) ?_
    refine lv_isub cx.1 cx.2.1 dX11_endContracts_55 ?_
    obtain ⟨hin, hf⟩ := gck_some hf
    obtain ⟨S_4, eS_4, hf⟩ := gst_ex hf
    refine g_iast cx hw hS hk0 (vp_of_inb hin) dX11_endContracts_56 (fun H locs hw hS => ?_)
    rw [eS_4] at hw
    exact hB_57 K2 hK2 S_4 x1 x2 _ _ _ hw hS (lv_sub hl [0, 1, 2] rfl) hf
  have hL_2 : ∀ (n : Nat), ∀ (S : Sg) (x1 : Int32) (H : Heap) (locs : List Loc) (ls : Array Slot), gP G S H → va_S (gA G s.heap.size) s.heap H locs → lv_has ls 4 [(0, .ref (G.2.1 k0)), (1, .int x1)] → L_X11_endContracts_2 k0 n S x1 = some S' → W p l e (gR 2 42) s m ([.ref (G.2.1 k0)] : List Value).toArray below meth c H locs 0 0 (MQ below (gQ G S' none (gA G s.heap.size)) ([.ref (G.2.1 k0)] : List Value).toArray s 0 0 (gA G s.heap.size)) (F0 m 2 ls []) := by
    intro n
    induction n with
    | zero => intro S x1 H locs ls hw hS hl hf; cases hf
    | succ n hK2 =>
      intro S x1 H locs ls hw hS hl hf
      have hf : Lb_X11_endContracts_2 k0 (L_X11_endContracts_2 k0 n) S x1 = some S' := hf
      unfold Lb_X11_endContracts_2 at hf
      refine lv_iload_n cx.1 cx.2.1 dX11_endContracts_2 rfl (lv_at hl 1 rfl) ?_
      refine lv_aload_n cx.1 cx.2.1 dX11_endContracts_3 rfl (lv_at hl 0 rfl) ?_
      refine lv_iconst (v := (2 : Int32)) cx.1 cx.2.1 dX11_endContracts_4 (by decide) ?_
      obtain ⟨hin, hf⟩ := gck_some hf
      refine g_iald cx hw hk0 (vp_of_inb hin) dX11_endContracts_5 ?_
      refine lv_icmp_ge (tgt := 85) cx.1 cx.2.1 dX11_endContracts_6 (by decide) (fun hc => ?_) (fun hc => ?_)
      · rw [if_pos hc] at hf
        exact g_vreti cx hr hlk hw hS hf dX11_endContracts_85
      · rw [if_neg hc] at hf
        refine lv_iload_n cx.1 cx.2.1 dX11_endContracts_9 rfl (lv_at hl 1 rfl) ?_
        obtain ⟨v_6, S_5, hv, hf⟩ := gbi_some hf
        refine g_S (As := [.int x1]) (rest := []) cx hw hS (c_X11_contractAt l G hM x1 S v_6 S_5 hv) gw_299 gy_X11_contractAt gi_X11_contractAt ⟨Nat.le_of_ble_eq_true rfl, Nat.le_of_ble_eq_true rfl⟩ ⟨Nat.zero_le _, Nat.zero_le _⟩ rfl hl.1 rfl (Nat.le_of_ble_eq_true rfl) dX11_endContracts_10 (fun H locs hw hS => ?_)
        refine W.eq (g2 := F0 m 13 ls [.int v_6]) rfl ?_
        refine lv_istore_n (lv' := [(2, .int v_6), (0, .ref (G.2.1 k0)), (1, .int x1)]) cx.1 cx.2.1 dX11_endContracts_13 rfl hl (by decide) rfl (fun ls hl => ?_)
        refine lv_aload_n cx.1 cx.2.1 dX11_endContracts_14 rfl (lv_at hl 1 rfl) ?_
        refine lv_iload_n cx.1 cx.2.1 dX11_endContracts_15 rfl (lv_at hl 0 rfl) ?_
        refine lv_iconst (v := (4 : Int32)) cx.1 cx.2.1 dX11_endContracts_16 (by decide) ?_
        refine lv_iadd cx.1 cx.2.1 dX11_endContracts_17 ?_
        obtain ⟨hin, hf⟩ := gck_some hf
        refine g_iald cx hw hk0 (vp_of_inb hin) dX11_endContracts_18 ?_
        obtain ⟨x3_7, ex3_7, hf⟩ := gvi_ex hf
        refine W.eq (g2 := F0 m 19 ls [.int x3_7]) (by rw [← ex3_7]) ?_
        refine lv_istore_n (lv' := [(3, .int x3_7), (2, .int v_6), (0, .ref (G.2.1 k0)), (1, .int x1)]) cx.1 cx.2.1 dX11_endContracts_19 rfl hl (by decide) rfl (fun ls hl => ?_)
        refine lv_iload_n cx.1 cx.2.1 dX11_endContracts_20 rfl (lv_at hl 0 rfl) ?_
        refine lv_bipush (v := (-9 : Int32)) cx.1 cx.2.1 dX11_endContracts_21 (by decide) ?_
        refine lv_icmp_eq (tgt := 57) cx.1 cx.2.1 dX11_endContracts_23 (by decide) (fun hc => ?_) (fun hc => ?_)
        · rw [if_pos hc] at hf
          exact hB_57 (L_X11_endContracts_2 k0 n) hK2 S_5 x1 v_6 _ _ _ hw hS (lv_sub hl [2, 3, 1] rfl) hf
        · rw [if_neg hc] at hf
          refine lv_aload_n cx.1 cx.2.1 dX11_endContracts_26 rfl (lv_at hl 2 rfl) ?_
          refine lv_iload_n cx.1 cx.2.1 dX11_endContracts_27 rfl (lv_at hl 1 rfl) ?_
          refine lv_iconst (v := (5 : Int32)) cx.1 cx.2.1 dX11_endContracts_28 (by decide) ?_
          refine lv_iadd cx.1 cx.2.1 dX11_endContracts_29 ?_
          obtain ⟨hin, hf⟩ := gck_some hf
          refine g_iald cx hw hk0 (vp_of_inb hin) dX11_endContracts_30 ?_
          refine lv_if_ne (tgt := 48) cx.1 cx.2.1 dX11_endContracts_31 (by decide) (fun hc => ?_) (fun hc => ?_)
          · rw [if_neg hc] at hf
            exact hB_48 (L_X11_endContracts_2 k0 n) hK2 S_5 x1 v_6 _ _ _ hw hS (lv_sub hl [2, 3, 1] rfl) hf
          · rw [if_pos hc] at hf
            refine lv_aload_n cx.1 cx.2.1 dX11_endContracts_34 rfl (lv_at hl 2 rfl) ?_
            refine lv_iload_n cx.1 cx.2.1 dX11_endContracts_35 rfl (lv_at hl 0 rfl) ?_
            refine lv_iconst (v := (5 : Int32)) cx.1 cx.2.1 dX11_endContracts_36 (by decide) ?_
            obtain ⟨S_8, hv, hf⟩ := gbv_some hf
            refine g_S (As := [.ref (G.2.1 k0), .int x3_7, .int (5 : Int32)]) (rest := []) cx hw hS (c_X11_toBank l G hM hk0 x3_7 (5 : Int32) S_5 S_8 hv) gw_579 gy_X11_toBank gi_X11_toBank ⟨Nat.le_of_ble_eq_true rfl, Nat.le_of_ble_eq_true rfl⟩ ⟨Nat.zero_le _, Nat.zero_le _⟩ rfl hl.1 rfl (Nat.le_of_ble_eq_true rfl) dX11_endContracts_37 (fun H locs hw hS => ?_)
            refine W.eq (g2 := F0 m 40 ls []) rfl ?_
            refine lv_aload_n cx.1 cx.2.1 dX11_endContracts_40 rfl (lv_at hl 2 rfl) ?_
            refine lv_bipush (v := (8 : Int32)) cx.1 cx.2.1 dX11_endContracts_41 (by decide) ?_
            refine lv_dup2_11 cx.1 cx.2.1 dX11_endContracts_43 rfl rfl ?_
            obtain ⟨hin, hf⟩ := gck_some hf
            refine g_iald cx hw hk0 (vp_of_inb hin) dX11_endContracts_44 ?_
            refine lv_iconst (v := (5 : Int32)) cx.1 cx.2.1 dX11_endContracts_45 (by decide) ?_
            refine lv_iadd cx.1 cx.2.1 dX11_endContracts_46 ?_
            obtain ⟨hin, hf⟩ := gck_some hf
            obtain ⟨S_9, eS_9, hf⟩ := gst_ex hf
            refine g_iast cx hw hS hk0 (vp_of_inb hin) dX11_endContracts_47 (fun H locs hw hS => ?_)
            rw [eS_9] at hw
            exact hB_48 (L_X11_endContracts_2 k0 n) hK2 S_9 x1 v_6 _ _ _ hw hS (lv_sub hl [2, 3, 1] rfl) hf
  have hl : lv_has ls 4 [(0, .ref (G.2.1 k0))] := hl
  unfold f_X11_endContracts at hf
  refine lv_iconst (v := (0 : Int32)) cx.1 cx.2.1 dX11_endContracts_0 (by decide) ?_
  refine lv_istore_n (lv' := [(1, .int (0 : Int32)), (0, .ref (G.2.1 k0))]) cx.1 cx.2.1 dX11_endContracts_1 rfl hl (by decide) rfl (fun ls hl => ?_)
  exact hL_2 gFu S (0 : Int32) _ _ _ hw hS (lv_sub hl [1, 0] rfl) hf
set_option maxHeartbeats 4000000 in
set_option maxRecDepth 100000 in
theorem c_X11_tracksOf (l : Launch) (G : gG) {k0 : Nat} (hM : 402 ≤ gN G) (hk0 : IA G k0 175) (a1 : Int32) (a2 : Int32) (S : Sg) (r : Int32) (S' : Sg) (hf : f_X11_tracksOf k0 a1 a2 S = some (r, S')) : Ct l yX11_tracksOf [Cond.code yX11_tracksOf cX11_tracksOf 5 (some .int)] (gR 1 20) G [.ref (G.2.1 k0), .int a1, .int a2] S (some (.int r)) S' := by
  refine Ct_of (by decide) (Nat.le_of_ble_eq_true rfl) ?_
  intro p e s m below meth c ls cx hr hlk hw hS hl
  have hN := cx.2.2.2.2.hN
  have hL_5 : ∀ (n : Nat), ∀ (S : Sg) (x1 : Int32) (x2 : Int32) (x3 : Int32) (x4 : Int32) (H : Heap) (locs : List Loc) (ls : Array Slot), gP G S H → va_S (gA G s.heap.size) s.heap H locs → lv_has ls 5 [(0, .ref (G.2.1 k0)), (1, .int x1), (2, .int x2), (3, .int x3), (4, .int x4)] → L_X11_tracksOf_5 k0 n S x1 x2 x3 x4 = some (r, S') → W p l e (gR 1 20) s m ([.ref (G.2.1 k0), .int a1, .int a2] : List Value).toArray below meth c H locs 0 0 (MQ below (gQ G S' (some (.int r)) (gA G s.heap.size)) ([.ref (G.2.1 k0), .int a1, .int a2] : List Value).toArray s 0 0 (gA G s.heap.size)) (F0 m 5 ls []) := by
    intro n
    induction n with
    | zero => intro S x1 x2 x3 x4 H locs ls hw hS hl hf; cases hf
    | succ n hK5 =>
      intro S x1 x2 x3 x4 H locs ls hw hS hl hf
      have hf : Lb_X11_tracksOf_5 k0 (L_X11_tracksOf_5 k0 n) S x1 x2 x3 x4 = some (r, S') := hf
      unfold Lb_X11_tracksOf_5 at hf
      refine lv_iload cx.1 cx.2.1 dX11_tracksOf_5 (lv_at hl 4 rfl) ?_
      refine lv_aload_n cx.1 cx.2.1 dX11_tracksOf_7 rfl (lv_at hl 0 rfl) ?_
      refine lv_iconst (v := (1 : Int32)) cx.1 cx.2.1 dX11_tracksOf_8 (by decide) ?_
      obtain ⟨hin, hf⟩ := gck_some hf
      refine g_iald cx hw hk0 (vp_of_inb hin) dX11_tracksOf_9 ?_
      refine lv_icmp_ge (tgt := 56) cx.1 cx.2.1 dX11_tracksOf_10 (by decide) (fun hc => ?_) (fun hc => ?_)
      · rw [if_pos hc] at hf
        refine lv_iload_n cx.1 cx.2.1 dX11_tracksOf_56 rfl (lv_at hl 3 rfl) ?_
        exact g_ireti cx hr hlk hw hS hf dX11_tracksOf_57
      · rw [if_neg hc] at hf
        refine lv_iload_n cx.1 cx.2.1 dX11_tracksOf_13 rfl (lv_at hl 3 rfl) ?_
        refine lv_aload_n cx.1 cx.2.1 dX11_tracksOf_14 rfl (lv_at hl 0 rfl) ?_
        refine lv_iload cx.1 cx.2.1 dX11_tracksOf_15 (lv_at hl 4 rfl) ?_
        obtain ⟨v_2, S_1, hv, hf⟩ := gbi_some hf
        refine g_S (As := [.int x4]) (rest := [.ref (G.2.1 k0), .int x3]) cx hw hS (c_X11_trackAt l G hM x4 S v_2 S_1 hv) gw_161 gy_X11_trackAt gi_X11_trackAt ⟨Nat.le_of_ble_eq_true rfl, Nat.le_of_ble_eq_true rfl⟩ ⟨Nat.zero_le _, Nat.zero_le _⟩ rfl hl.1 rfl (Nat.le_of_ble_eq_true rfl) dX11_tracksOf_17 (fun H locs hw hS => ?_)
        refine W.eq (g2 := F0 m 20 ls [.int v_2, .ref (G.2.1 k0), .int x3]) rfl ?_
        refine lv_iconst (v := (3 : Int32)) cx.1 cx.2.1 dX11_tracksOf_20 (by decide) ?_
        refine lv_iadd cx.1 cx.2.1 dX11_tracksOf_21 ?_
        obtain ⟨hin, hf⟩ := gck_some hf
        refine g_iald cx hw hk0 (vp_of_inb hin) dX11_tracksOf_22 ?_
        refine lv_iload_n cx.1 cx.2.1 dX11_tracksOf_23 rfl (lv_at hl 1 rfl) ?_
        refine lv_icmp_ne (tgt := 47) cx.1 cx.2.1 dX11_tracksOf_24 (by decide) (fun hc => ?_) (fun hc => ?_)
        · rw [if_neg hc] at hf
          refine lv_iconst (v := (0 : Int32)) cx.1 cx.2.1 dX11_tracksOf_47 (by decide) ?_
          refine lv_iadd cx.1 cx.2.1 dX11_tracksOf_48 ?_
          obtain ⟨x3_3, ex3_3, hf⟩ := gvi_ex hf
          refine W.eq (g2 := F0 m 49 ls [.int x3_3]) (by rw [← ex3_3]) ?_
          refine lv_istore_n (lv' := [(3, .int x3_3), (0, .ref (G.2.1 k0)), (1, .int x1), (2, .int x2), (4, .int x4)]) cx.1 cx.2.1 dX11_tracksOf_49 rfl hl (by decide) rfl (fun ls hl => ?_)
          obtain ⟨x4_4, ex4_4, hf⟩ := gvi_ex hf
          refine lv_iinc (v := x4_4) (lv' := [(4, .int x4_4), (3, .int x3_3), (0, .ref (G.2.1 k0)), (1, .int x1), (2, .int x2)]) cx.1 cx.2.1 dX11_tracksOf_50 hl (k := 4) rfl (by rw [← ex4_4]; rfl) (by decide) rfl (fun ls hl => ?_)
          refine lv_goto (tgt := 5) cx.1 cx.2.1 dX11_tracksOf_53 (by decide) ?_
          exact hK5 S_1 x1 x2 x3_3 x4_4 _ _ _ hw hS (lv_sub hl [2, 3, 4, 1, 0] rfl) hf
        · rw [if_pos hc] at hf
          refine lv_iload_n cx.1 cx.2.1 dX11_tracksOf_27 rfl (lv_at hl 2 rfl) ?_
          refine lv_if_eq (tgt := 43) cx.1 cx.2.1 dX11_tracksOf_28 (by decide) (fun hc => ?_) (fun hc => ?_)
          · rw [if_pos hc] at hf
            refine lv_iconst (v := (1 : Int32)) cx.1 cx.2.1 dX11_tracksOf_43 (by decide) ?_
            refine lv_goto (tgt := 48) cx.1 cx.2.1 dX11_tracksOf_44 (by decide) ?_
            refine lv_iadd cx.1 cx.2.1 dX11_tracksOf_48 ?_
            obtain ⟨x3_5, ex3_5, hf⟩ := gvi_ex hf
            refine W.eq (g2 := F0 m 49 ls [.int x3_5]) (by rw [← ex3_5]) ?_
            refine lv_istore_n (lv' := [(3, .int x3_5), (0, .ref (G.2.1 k0)), (1, .int x1), (2, .int x2), (4, .int x4)]) cx.1 cx.2.1 dX11_tracksOf_49 rfl hl (by decide) rfl (fun ls hl => ?_)
            obtain ⟨x4_6, ex4_6, hf⟩ := gvi_ex hf
            refine lv_iinc (v := x4_6) (lv' := [(4, .int x4_6), (3, .int x3_5), (0, .ref (G.2.1 k0)), (1, .int x1), (2, .int x2)]) cx.1 cx.2.1 dX11_tracksOf_50 hl (k := 4) rfl (by rw [← ex4_6]; rfl) (by decide) rfl (fun ls hl => ?_)
            refine lv_goto (tgt := 5) cx.1 cx.2.1 dX11_tracksOf_53 (by decide) ?_
            exact hK5 S_1 x1 x2 x3_5 x4_6 _ _ _ hw hS (lv_sub hl [2, 3, 4, 1, 0] rfl) hf
          · rw [if_neg hc] at hf
            refine lv_aload_n cx.1 cx.2.1 dX11_tracksOf_31 rfl (lv_at hl 0 rfl) ?_
            refine lv_iload cx.1 cx.2.1 dX11_tracksOf_32 (lv_at hl 4 rfl) ?_
            obtain ⟨v_8, S_7, hv, hf⟩ := gbi_some hf
            refine g_S (As := [.int x4]) (rest := [.ref (G.2.1 k0), .int x3]) cx hw hS (c_X11_trackAt l G hM x4 S_1 v_8 S_7 hv) gw_161 gy_X11_trackAt gi_X11_trackAt ⟨Nat.le_of_ble_eq_true rfl, Nat.le_of_ble_eq_true rfl⟩ ⟨Nat.zero_le _, Nat.zero_le _⟩ rfl hl.1 rfl (Nat.le_of_ble_eq_true rfl) dX11_tracksOf_34 (fun H locs hw hS => ?_)
            refine W.eq (g2 := F0 m 37 ls [.int v_8, .ref (G.2.1 k0), .int x3]) rfl ?_
            refine lv_iconst (v := (2 : Int32)) cx.1 cx.2.1 dX11_tracksOf_37 (by decide) ?_
            refine lv_iadd cx.1 cx.2.1 dX11_tracksOf_38 ?_
            obtain ⟨hin, hf⟩ := gck_some hf
            refine g_iald cx hw hk0 (vp_of_inb hin) dX11_tracksOf_39 ?_
            refine lv_goto (tgt := 48) cx.1 cx.2.1 dX11_tracksOf_40 (by decide) ?_
            refine lv_iadd cx.1 cx.2.1 dX11_tracksOf_48 ?_
            obtain ⟨x3_9, ex3_9, hf⟩ := gvi_ex hf
            refine W.eq (g2 := F0 m 49 ls [.int x3_9]) (by rw [← ex3_9]) ?_
            refine lv_istore_n (lv' := [(3, .int x3_9), (0, .ref (G.2.1 k0)), (1, .int x1), (2, .int x2), (4, .int x4)]) cx.1 cx.2.1 dX11_tracksOf_49 rfl hl (by decide) rfl (fun ls hl => ?_)
            obtain ⟨x4_10, ex4_10, hf⟩ := gvi_ex hf
            refine lv_iinc (v := x4_10) (lv' := [(4, .int x4_10), (3, .int x3_9), (0, .ref (G.2.1 k0)), (1, .int x1), (2, .int x2)]) cx.1 cx.2.1 dX11_tracksOf_50 hl (k := 4) rfl (by rw [← ex4_10]; rfl) (by decide) rfl (fun ls hl => ?_)
            refine lv_goto (tgt := 5) cx.1 cx.2.1 dX11_tracksOf_53 (by decide) ?_
            exact hK5 S_7 x1 x2 x3_9 x4_10 _ _ _ hw hS (lv_sub hl [2, 3, 4, 1, 0] rfl) hf
  have hl : lv_has ls 5 [(0, .ref (G.2.1 k0)), (1, .int a1), (2, .int a2)] := hl
  unfold f_X11_tracksOf at hf
  refine lv_iconst (v := (0 : Int32)) cx.1 cx.2.1 dX11_tracksOf_0 (by decide) ?_
  refine lv_istore_n (lv' := [(3, .int (0 : Int32)), (0, .ref (G.2.1 k0)), (1, .int a1), (2, .int a2)]) cx.1 cx.2.1 dX11_tracksOf_1 rfl hl (by decide) rfl (fun ls hl => ?_)
  refine lv_iconst (v := (0 : Int32)) cx.1 cx.2.1 dX11_tracksOf_2 (by decide) ?_
  refine lv_istore (lv' := [(4, .int (0 : Int32)), (3, .int (0 : Int32)), (0, .ref (G.2.1 k0)), (1, .int a1), (2, .int a2)]) cx.1 cx.2.1 dX11_tracksOf_3 hl (by decide) rfl (fun ls hl => ?_)
  exact hL_5 gFu S a1 a2 (0 : Int32) (0 : Int32) _ _ _ hw hS (lv_sub hl [2, 3, 4, 1, 0] rfl) hf
set_option maxHeartbeats 4000000 in
set_option maxRecDepth 100000 in
theorem c_X11_trainsOf (l : Launch) (G : gG) {k0 : Nat} (hM : 402 ≤ gN G) (hk0 : IA G k0 175) (a1 : Int32) (S : Sg) (r : Int32) (S' : Sg) (hf : f_X11_trainsOf k0 a1 S = some (r, S')) : Ct l yX11_trainsOf [Cond.code yX11_trainsOf cX11_trainsOf 2 (some .int)] (gR 1 20) G [.ref (G.2.1 k0), .int a1] S (some (.int r)) S' := by
  refine Ct_of (by decide) (Nat.le_of_ble_eq_true rfl) ?_
  intro p e s m below meth c ls cx hr hlk hw hS hl
  have hN := cx.2.2.2.2.hN
  have hl : lv_has ls 2 [(0, .ref (G.2.1 k0)), (1, .int a1)] := hl
  unfold f_X11_trainsOf at hf
  refine lv_aload_n cx.1 cx.2.1 dX11_trainsOf_0 rfl (lv_at hl 0 rfl) ?_
  refine lv_iload_n cx.1 cx.2.1 dX11_trainsOf_1 rfl (lv_at hl 1 rfl) ?_
  obtain ⟨v_2, S_1, hv, hf⟩ := gbi_some hf
  refine g_S (As := [.int a1]) (rest := [.ref (G.2.1 k0)]) cx hw hS (c_X11_companyAt l G hM a1 S v_2 S_1 hv) gw_155 gy_X11_companyAt gi_X11_companyAt ⟨Nat.le_of_ble_eq_true rfl, Nat.le_of_ble_eq_true rfl⟩ ⟨Nat.zero_le _, Nat.zero_le _⟩ rfl hl.1 rfl (Nat.le_of_ble_eq_true rfl) dX11_trainsOf_2 (fun H locs hw hS => ?_)
  refine W.eq (g2 := F0 m 5 ls [.int v_2, .ref (G.2.1 k0)]) rfl ?_
  refine lv_iconst (v := (2 : Int32)) cx.1 cx.2.1 dX11_trainsOf_5 (by decide) ?_
  refine lv_iadd cx.1 cx.2.1 dX11_trainsOf_6 ?_
  obtain ⟨hin, hf⟩ := gck_some hf
  refine g_iald cx hw hk0 (vp_of_inb hin) dX11_trainsOf_7 ?_
  exact g_ireti cx hr hlk hw hS hf dX11_trainsOf_8
set_option maxHeartbeats 4000000 in
set_option maxRecDepth 100000 in
theorem c_X11_trainAt (l : Launch) (G : gG) (hM : 402 ≤ gN G) (a0 : Int32) (a1 : Int32) (S : Sg) (r : Int32) (S' : Sg) (hf : f_X11_trainAt a0 a1 S = some (r, S')) : Ct l yX11_trainAt [Cond.code yX11_trainAt cX11_trainAt 2 (some .int)] (gR 0 0) G [.int a0, .int a1] S (some (.int r)) S' := by
  refine Ct_of (by decide) (Nat.le_of_ble_eq_true rfl) ?_
  intro p e s m below meth c ls cx hr hlk hw hS hl
  have hN := cx.2.2.2.2.hN
  have hl : lv_has ls 2 [(0, .int a0), (1, .int a1)] := hl
  unfold f_X11_trainAt at hf
  refine lv_bipush (v := (95 : Int32)) cx.1 cx.2.1 dX11_trainAt_0 (by decide) ?_
  refine lv_bipush (v := (8 : Int32)) cx.1 cx.2.1 dX11_trainAt_2 (by decide) ?_
  refine lv_iload_n cx.1 cx.2.1 dX11_trainAt_4 rfl (lv_at hl 0 rfl) ?_
  refine lv_imul cx.1 cx.2.1 dX11_trainAt_5 ?_
  refine lv_iadd cx.1 cx.2.1 dX11_trainAt_6 ?_
  refine lv_iconst (v := (2 : Int32)) cx.1 cx.2.1 dX11_trainAt_7 (by decide) ?_
  refine lv_iload_n cx.1 cx.2.1 dX11_trainAt_8 rfl (lv_at hl 1 rfl) ?_
  refine lv_imul cx.1 cx.2.1 dX11_trainAt_9 ?_
  refine lv_iadd cx.1 cx.2.1 dX11_trainAt_10 ?_
  exact g_ireti cx hr hlk hw hS hf dX11_trainAt_11
set_option maxHeartbeats 4000000 in
set_option maxRecDepth 100000 in
theorem c_X11_levelsOf (l : Launch) (G : gG) {k0 : Nat} (hM : 402 ≤ gN G) (hk0 : IA G k0 175) (a1 : Int32) (S : Sg) (r : Int32) (S' : Sg) (hf : f_X11_levelsOf k0 a1 S = some (r, S')) : Ct l yX11_levelsOf [Cond.code yX11_levelsOf cX11_levelsOf 4 (some .int)] (gR 2 41) G [.ref (G.2.1 k0), .int a1] S (some (.int r)) S' := by
  refine Ct_of (by decide) (Nat.le_of_ble_eq_true rfl) ?_
  intro p e s m below meth c ls cx hr hlk hw hS hl
  have hN := cx.2.2.2.2.hN
  have hL_4 : ∀ (n : Nat), ∀ (S : Sg) (x1 : Int32) (x2 : Int32) (x3 : Int32) (H : Heap) (locs : List Loc) (ls : Array Slot), gP G S H → va_S (gA G s.heap.size) s.heap H locs → lv_has ls 4 [(0, .ref (G.2.1 k0)), (1, .int x1), (2, .int x2), (3, .int x3)] → L_X11_levelsOf_4 k0 n S x1 x2 x3 = some (r, S') → W p l e (gR 2 41) s m ([.ref (G.2.1 k0), .int a1] : List Value).toArray below meth c H locs 0 0 (MQ below (gQ G S' (some (.int r)) (gA G s.heap.size)) ([.ref (G.2.1 k0), .int a1] : List Value).toArray s 0 0 (gA G s.heap.size)) (F0 m 4 ls []) := by
    intro n
    induction n with
    | zero => intro S x1 x2 x3 H locs ls hw hS hl hf; cases hf
    | succ n hK4 =>
      intro S x1 x2 x3 H locs ls hw hS hl hf
      have hf : Lb_X11_levelsOf_4 k0 (L_X11_levelsOf_4 k0 n) S x1 x2 x3 = some (r, S') := hf
      unfold Lb_X11_levelsOf_4 at hf
      refine lv_iload_n cx.1 cx.2.1 dX11_levelsOf_4 rfl (lv_at hl 3 rfl) ?_
      refine lv_aload_n cx.1 cx.2.1 dX11_levelsOf_5 rfl (lv_at hl 0 rfl) ?_
      refine lv_iload_n cx.1 cx.2.1 dX11_levelsOf_6 rfl (lv_at hl 1 rfl) ?_
      obtain ⟨v_2, S_1, hv, hf⟩ := gbi_some hf
      refine g_S (As := [.ref (G.2.1 k0), .int x1]) (rest := [.int x3]) cx hw hS (c_X11_trainsOf l G hM hk0 x1 S v_2 S_1 hv) gw_489 gy_X11_trainsOf gi_X11_trainsOf ⟨Nat.le_of_ble_eq_true rfl, Nat.le_of_ble_eq_true rfl⟩ ⟨Nat.zero_le _, Nat.zero_le _⟩ rfl hl.1 rfl (Nat.le_of_ble_eq_true rfl) dX11_levelsOf_7 (fun H locs hw hS => ?_)
      refine W.eq (g2 := F0 m 10 ls [.int v_2, .int x3]) rfl ?_
      refine lv_icmp_ge (tgt := 29) cx.1 cx.2.1 dX11_levelsOf_10 (by decide) (fun hc => ?_) (fun hc => ?_)
      · rw [if_pos hc] at hf
        refine lv_iload_n cx.1 cx.2.1 dX11_levelsOf_29 rfl (lv_at hl 2 rfl) ?_
        exact g_ireti cx hr hlk hw hS hf dX11_levelsOf_30
      · rw [if_neg hc] at hf
        refine lv_iload_n cx.1 cx.2.1 dX11_levelsOf_13 rfl (lv_at hl 2 rfl) ?_
        refine lv_aload_n cx.1 cx.2.1 dX11_levelsOf_14 rfl (lv_at hl 0 rfl) ?_
        refine lv_iload_n cx.1 cx.2.1 dX11_levelsOf_15 rfl (lv_at hl 1 rfl) ?_
        refine lv_iload_n cx.1 cx.2.1 dX11_levelsOf_16 rfl (lv_at hl 3 rfl) ?_
        obtain ⟨v_4, S_3, hv, hf⟩ := gbi_some hf
        refine g_S (As := [.int x1, .int x3]) (rest := [.ref (G.2.1 k0), .int x2]) cx hw hS (c_X11_trainAt l G hM x1 x3 S_1 v_4 S_3 hv) gw_492 gy_X11_trainAt gi_X11_trainAt ⟨Nat.le_of_ble_eq_true rfl, Nat.le_of_ble_eq_true rfl⟩ ⟨Nat.zero_le _, Nat.zero_le _⟩ rfl hl.1 rfl (Nat.le_of_ble_eq_true rfl) dX11_levelsOf_17 (fun H locs hw hS => ?_)
        refine W.eq (g2 := F0 m 20 ls [.int v_4, .ref (G.2.1 k0), .int x2]) rfl ?_
        obtain ⟨hin, hf⟩ := gck_some hf
        refine g_iald cx hw hk0 (vp_of_inb hin) dX11_levelsOf_20 ?_
        refine lv_iadd cx.1 cx.2.1 dX11_levelsOf_21 ?_
        obtain ⟨x2_5, ex2_5, hf⟩ := gvi_ex hf
        refine W.eq (g2 := F0 m 22 ls [.int x2_5]) (by rw [← ex2_5]) ?_
        refine lv_istore_n (lv' := [(2, .int x2_5), (0, .ref (G.2.1 k0)), (1, .int x1), (3, .int x3)]) cx.1 cx.2.1 dX11_levelsOf_22 rfl hl (by decide) rfl (fun ls hl => ?_)
        obtain ⟨x3_6, ex3_6, hf⟩ := gvi_ex hf
        refine lv_iinc (v := x3_6) (lv' := [(3, .int x3_6), (2, .int x2_5), (0, .ref (G.2.1 k0)), (1, .int x1)]) cx.1 cx.2.1 dX11_levelsOf_23 hl (k := 3) rfl (by rw [← ex3_6]; rfl) (by decide) rfl (fun ls hl => ?_)
        refine lv_goto (tgt := 4) cx.1 cx.2.1 dX11_levelsOf_26 (by decide) ?_
        exact hK4 S_3 x1 x2_5 x3_6 _ _ _ hw hS (lv_sub hl [2, 3, 1, 0] rfl) hf
  have hl : lv_has ls 4 [(0, .ref (G.2.1 k0)), (1, .int a1)] := hl
  unfold f_X11_levelsOf at hf
  refine lv_iconst (v := (0 : Int32)) cx.1 cx.2.1 dX11_levelsOf_0 (by decide) ?_
  refine lv_istore_n (lv' := [(2, .int (0 : Int32)), (0, .ref (G.2.1 k0)), (1, .int a1)]) cx.1 cx.2.1 dX11_levelsOf_1 rfl hl (by decide) rfl (fun ls hl => ?_)
  refine lv_iconst (v := (0 : Int32)) cx.1 cx.2.1 dX11_levelsOf_2 (by decide) ?_
  refine lv_istore_n (lv' := [(3, .int (0 : Int32)), (2, .int (0 : Int32)), (0, .ref (G.2.1 k0)), (1, .int a1)]) cx.1 cx.2.1 dX11_levelsOf_3 rfl hl (by decide) rfl (fun ls hl => ?_)
  exact hL_4 gFu S a1 (0 : Int32) (0 : Int32) _ _ _ hw hS (lv_sub hl [2, 3, 1, 0] rfl) hf
set_option maxHeartbeats 4000000 in
set_option maxRecDepth 100000 in
theorem c_X11_goBroke (l : Launch) (G : gG) {k0 : Nat} (hM : 402 ≤ gN G) (hk0 : IA G k0 175) (a1 : Int32) (S : Sg) (S' : Sg) (hf : f_X11_goBroke k0 a1 S = some S') : Ct l yX11_goBroke [Cond.code yX11_goBroke cX11_goBroke 3 none] (gR 2 42) G [.ref (G.2.1 k0), .int a1] S none S' := by
  refine Ct_of (by decide) (Nat.le_of_ble_eq_true rfl) ?_
  intro p e s m below meth c ls cx hr hlk hw hS hl
  have hN := cx.2.2.2.2.hN
  have hB_129 : ∀ (K90 : Sg → Int32 → Int32 → Option Sg) (hK90 : ∀ (S : Sg) (x1 : Int32) (x2 : Int32) (H : Heap) (locs : List Loc) (ls : Array Slot), gP G S H → va_S (gA G s.heap.size) s.heap H locs → lv_has ls 3 [(0, .ref (G.2.1 k0)), (1, .int x1), (2, .int x2)] → K90 S x1 x2 = some S' → W p l e (gR 2 42) s m ([.ref (G.2.1 k0), .int a1] : List Value).toArray below meth c H locs 0 0 (MQ below (gQ G S' none (gA G s.heap.size)) ([.ref (G.2.1 k0), .int a1] : List Value).toArray s 0 0 (gA G s.heap.size)) (F0 m 90 ls [])), ∀ (S : Sg) (x1 : Int32) (x2 : Int32) (t0 : Int32) (t1 : Int32) (H : Heap) (locs : List Loc) (ls : Array Slot), gP G S H → va_S (gA G s.heap.size) s.heap H locs → lv_has ls 3 [(0, .ref (G.2.1 k0)), (1, .int x1), (2, .int x2)] → B_X11_goBroke_129 k0 K90 S x1 x2 t0 t1 = some S' → W p l e (gR 2 42) s m ([.ref (G.2.1 k0), .int a1] : List Value).toArray below meth c H locs 0 0 (MQ below (gQ G S' none (gA G s.heap.size)) ([.ref (G.2.1 k0), .int a1] : List Value).toArray s 0 0 (gA G s.heap.size)) (F0 m 129 ls [.int t0, .int t1, .ref (G.2.1 k0)]) := by
    intro K90 hK90 S x1 x2 t0 t1 H locs ls hw hS hl hf
    unfold B_X11_goBroke_129 at hf
    obtain ⟨hin, hf⟩ := gck_some hf
    obtain ⟨S_1, eS_1, hf⟩ := gst_ex hf
    refine g_iast cx hw hS hk0 (vp_of_inb hin) dX11_goBroke_129 (fun H locs hw hS => ?_)
    rw [eS_1] at hw
    obtain ⟨x2_2, ex2_2, hf⟩ := gvi_ex hf
    refine lv_iinc (v := x2_2) (lv' := [(2, .int x2_2), (0, .ref (G.2.1 k0)), (1, .int x1)]) cx.1 cx.2.1 dX11_goBroke_130 hl (k := 2) rfl (by rw [← ex2_2]; rfl) (by decide) rfl (fun ls hl => ?_)
    refine lv_goto (tgt := 90) cx.1 cx.2.1 dX11_goBroke_133 (by decide) ?_
    exact hK90 S_1 x1 x2_2 _ _ _ hw hS (lv_sub hl [1, 2, 0] rfl) hf
  have hL_90 : ∀ (n : Nat), ∀ (S : Sg) (x1 : Int32) (x2 : Int32) (H : Heap) (locs : List Loc) (ls : Array Slot), gP G S H → va_S (gA G s.heap.size) s.heap H locs → lv_has ls 3 [(0, .ref (G.2.1 k0)), (1, .int x1), (2, .int x2)] → L_X11_goBroke_90 k0 n S x1 x2 = some S' → W p l e (gR 2 42) s m ([.ref (G.2.1 k0), .int a1] : List Value).toArray below meth c H locs 0 0 (MQ below (gQ G S' none (gA G s.heap.size)) ([.ref (G.2.1 k0), .int a1] : List Value).toArray s 0 0 (gA G s.heap.size)) (F0 m 90 ls []) := by
    intro n
    induction n with
    | zero => intro S x1 x2 H locs ls hw hS hl hf; cases hf
    | succ n hK90 =>
      intro S x1 x2 H locs ls hw hS hl hf
      have hf : Lb_X11_goBroke_90 k0 (L_X11_goBroke_90 k0 n) S x1 x2 = some S' := hf
      unfold Lb_X11_goBroke_90 at hf
      refine lv_iload_n cx.1 cx.2.1 dX11_goBroke_90 rfl (lv_at hl 2 rfl) ?_
      refine lv_aload_n cx.1 cx.2.1 dX11_goBroke_91 rfl (lv_at hl 0 rfl) ?_
      refine lv_iconst (v := (2 : Int32)) cx.1 cx.2.1 dX11_goBroke_92 (by decide) ?_
      obtain ⟨hin, hf⟩ := gck_some hf
      refine g_iald cx hw hk0 (vp_of_inb hin) dX11_goBroke_93 ?_
      refine lv_icmp_ge (tgt := 136) cx.1 cx.2.1 dX11_goBroke_94 (by decide) (fun hc => ?_) (fun hc => ?_)
      · rw [if_pos hc] at hf
        exact g_vreti cx hr hlk hw hS hf dX11_goBroke_136
      · rw [if_neg hc] at hf
        refine lv_aload_n cx.1 cx.2.1 dX11_goBroke_97 rfl (lv_at hl 0 rfl) ?_
        refine lv_iload_n cx.1 cx.2.1 dX11_goBroke_98 rfl (lv_at hl 2 rfl) ?_
        obtain ⟨v_4, S_3, hv, hf⟩ := gbi_some hf
        refine g_S (As := [.int x2]) (rest := [.ref (G.2.1 k0)]) cx hw hS (c_X11_contractAt l G hM x2 S v_4 S_3 hv) gw_299 gy_X11_contractAt gi_X11_contractAt ⟨Nat.le_of_ble_eq_true rfl, Nat.le_of_ble_eq_true rfl⟩ ⟨Nat.zero_le _, Nat.zero_le _⟩ rfl hl.1 rfl (Nat.le_of_ble_eq_true rfl) dX11_goBroke_99 (fun H locs hw hS => ?_)
        refine W.eq (g2 := F0 m 102 ls [.int v_4, .ref (G.2.1 k0)]) rfl ?_
        refine lv_iconst (v := (4 : Int32)) cx.1 cx.2.1 dX11_goBroke_102 (by decide) ?_
        refine lv_iadd cx.1 cx.2.1 dX11_goBroke_103 ?_
        refine lv_aload_n cx.1 cx.2.1 dX11_goBroke_104 rfl (lv_at hl 0 rfl) ?_
        refine lv_iload_n cx.1 cx.2.1 dX11_goBroke_105 rfl (lv_at hl 2 rfl) ?_
        obtain ⟨v_6, S_5, hv, hf⟩ := gbi_some hf
        refine g_S (As := [.int x2]) (rest := [.ref (G.2.1 k0), .int (v_4 + (4 : Int32)), .ref (G.2.1 k0)]) cx hw hS (c_X11_contractAt l G hM x2 S_3 v_6 S_5 hv) gw_299 gy_X11_contractAt gi_X11_contractAt ⟨Nat.le_of_ble_eq_true rfl, Nat.le_of_ble_eq_true rfl⟩ ⟨Nat.zero_le _, Nat.zero_le _⟩ rfl hl.1 rfl (Nat.le_of_ble_eq_true rfl) dX11_goBroke_106 (fun H locs hw hS => ?_)
        refine W.eq (g2 := F0 m 109 ls [.int v_6, .ref (G.2.1 k0), .int (v_4 + (4 : Int32)), .ref (G.2.1 k0)]) rfl ?_
        refine lv_iconst (v := (4 : Int32)) cx.1 cx.2.1 dX11_goBroke_109 (by decide) ?_
        refine lv_iadd cx.1 cx.2.1 dX11_goBroke_110 ?_
        obtain ⟨hin, hf⟩ := gck_some hf
        refine g_iald cx hw hk0 (vp_of_inb hin) dX11_goBroke_111 ?_
        refine lv_iload_n cx.1 cx.2.1 dX11_goBroke_112 rfl (lv_at hl 1 rfl) ?_
        refine lv_icmp_ne (tgt := 121) cx.1 cx.2.1 dX11_goBroke_113 (by decide) (fun hc => ?_) (fun hc => ?_)
        · rw [if_neg hc] at hf
          refine lv_aload_n cx.1 cx.2.1 dX11_goBroke_121 rfl (lv_at hl 0 rfl) ?_
          refine lv_iload_n cx.1 cx.2.1 dX11_goBroke_122 rfl (lv_at hl 2 rfl) ?_
          obtain ⟨v_8, S_7, hv, hf⟩ := gbi_some hf
          refine g_S (As := [.int x2]) (rest := [.ref (G.2.1 k0), .int (v_4 + (4 : Int32)), .ref (G.2.1 k0)]) cx hw hS (c_X11_contractAt l G hM x2 S_5 v_8 S_7 hv) gw_299 gy_X11_contractAt gi_X11_contractAt ⟨Nat.le_of_ble_eq_true rfl, Nat.le_of_ble_eq_true rfl⟩ ⟨Nat.zero_le _, Nat.zero_le _⟩ rfl hl.1 rfl (Nat.le_of_ble_eq_true rfl) dX11_goBroke_123 (fun H locs hw hS => ?_)
          refine W.eq (g2 := F0 m 126 ls [.int v_8, .ref (G.2.1 k0), .int (v_4 + (4 : Int32)), .ref (G.2.1 k0)]) rfl ?_
          refine lv_iconst (v := (4 : Int32)) cx.1 cx.2.1 dX11_goBroke_126 (by decide) ?_
          refine lv_iadd cx.1 cx.2.1 dX11_goBroke_127 ?_
          obtain ⟨hin, hf⟩ := gck_some hf
          refine g_iald cx hw hk0 (vp_of_inb hin) dX11_goBroke_128 ?_
          exact hB_129 (L_X11_goBroke_90 k0 n) hK90 S_7 x1 x2 (S_7 k0 (v_8 + (4 : Int32)).toNatClampNeg) (v_4 + (4 : Int32)) _ _ _ hw hS (lv_sub hl [0, 1, 2] rfl) hf
        · rw [if_pos hc] at hf
          refine lv_bipush (v := (-9 : Int32)) cx.1 cx.2.1 dX11_goBroke_116 (by decide) ?_
          refine lv_goto (tgt := 129) cx.1 cx.2.1 dX11_goBroke_118 (by decide) ?_
          exact hB_129 (L_X11_goBroke_90 k0 n) hK90 S_5 x1 x2 (-9 : Int32) (v_4 + (4 : Int32)) _ _ _ hw hS (lv_sub hl [0, 1, 2] rfl) hf
  have hB_81 : ∀ (K42 : Sg → Int32 → Int32 → Option Sg) (hK42 : ∀ (S : Sg) (x1 : Int32) (x2 : Int32) (H : Heap) (locs : List Loc) (ls : Array Slot), gP G S H → va_S (gA G s.heap.size) s.heap H locs → lv_has ls 3 [(0, .ref (G.2.1 k0)), (1, .int x1), (2, .int x2)] → K42 S x1 x2 = some S' → W p l e (gR 2 42) s m ([.ref (G.2.1 k0), .int a1] : List Value).toArray below meth c H locs 0 0 (MQ below (gQ G S' none (gA G s.heap.size)) ([.ref (G.2.1 k0), .int a1] : List Value).toArray s 0 0 (gA G s.heap.size)) (F0 m 42 ls [])), ∀ (S : Sg) (x1 : Int32) (x2 : Int32) (t0 : Int32) (t1 : Int32) (H : Heap) (locs : List Loc) (ls : Array Slot), gP G S H → va_S (gA G s.heap.size) s.heap H locs → lv_has ls 3 [(0, .ref (G.2.1 k0)), (1, .int x1), (2, .int x2)] → B_X11_goBroke_81 k0 K42 S x1 x2 t0 t1 = some S' → W p l e (gR 2 42) s m ([.ref (G.2.1 k0), .int a1] : List Value).toArray below meth c H locs 0 0 (MQ below (gQ G S' none (gA G s.heap.size)) ([.ref (G.2.1 k0), .int a1] : List Value).toArray s 0 0 (gA G s.heap.size)) (F0 m 81 ls [.int t0, .int t1, .ref (G.2.1 k0)]) := by
    intro K42 hK42 S x1 x2 t0 t1 H locs ls hw hS hl hf
    unfold B_X11_goBroke_81 at hf
    obtain ⟨hin, hf⟩ := gck_some hf
    obtain ⟨S_9, eS_9, hf⟩ := gst_ex hf
    refine g_iast cx hw hS hk0 (vp_of_inb hin) dX11_goBroke_81 (fun H locs hw hS => ?_)
    rw [eS_9] at hw
    obtain ⟨x2_10, ex2_10, hf⟩ := gvi_ex hf
    refine lv_iinc (v := x2_10) (lv' := [(2, .int x2_10), (0, .ref (G.2.1 k0)), (1, .int x1)]) cx.1 cx.2.1 dX11_goBroke_82 hl (k := 2) rfl (by rw [← ex2_10]; rfl) (by decide) rfl (fun ls hl => ?_)
    refine lv_goto (tgt := 42) cx.1 cx.2.1 dX11_goBroke_85 (by decide) ?_
    exact hK42 S_9 x1 x2_10 _ _ _ hw hS (lv_sub hl [1, 2, 0] rfl) hf
  have hL_42 : ∀ (n : Nat), ∀ (S : Sg) (x1 : Int32) (x2 : Int32) (H : Heap) (locs : List Loc) (ls : Array Slot), gP G S H → va_S (gA G s.heap.size) s.heap H locs → lv_has ls 3 [(0, .ref (G.2.1 k0)), (1, .int x1), (2, .int x2)] → L_X11_goBroke_42 k0 n S x1 x2 = some S' → W p l e (gR 2 42) s m ([.ref (G.2.1 k0), .int a1] : List Value).toArray below meth c H locs 0 0 (MQ below (gQ G S' none (gA G s.heap.size)) ([.ref (G.2.1 k0), .int a1] : List Value).toArray s 0 0 (gA G s.heap.size)) (F0 m 42 ls []) := by
    intro n
    induction n with
    | zero => intro S x1 x2 H locs ls hw hS hl hf; cases hf
    | succ n hK42 =>
      intro S x1 x2 H locs ls hw hS hl hf
      have hf : Lb_X11_goBroke_42 k0 (L_X11_goBroke_42 k0 n) S x1 x2 = some S' := hf
      unfold Lb_X11_goBroke_42 at hf
      refine lv_iload_n cx.1 cx.2.1 dX11_goBroke_42 rfl (lv_at hl 2 rfl) ?_
      refine lv_aload_n cx.1 cx.2.1 dX11_goBroke_43 rfl (lv_at hl 0 rfl) ?_
      refine lv_iconst (v := (1 : Int32)) cx.1 cx.2.1 dX11_goBroke_44 (by decide) ?_
      obtain ⟨hin, hf⟩ := gck_some hf
      refine g_iald cx hw hk0 (vp_of_inb hin) dX11_goBroke_45 ?_
      refine lv_icmp_ge (tgt := 88) cx.1 cx.2.1 dX11_goBroke_46 (by decide) (fun hc => ?_) (fun hc => ?_)
      · rw [if_pos hc] at hf
        refine lv_iconst (v := (0 : Int32)) cx.1 cx.2.1 dX11_goBroke_88 (by decide) ?_
        refine lv_istore_n (lv' := [(2, .int (0 : Int32)), (0, .ref (G.2.1 k0)), (1, .int x1)]) cx.1 cx.2.1 dX11_goBroke_89 rfl hl (by decide) rfl (fun ls hl => ?_)
        exact hL_90 gFu S x1 (0 : Int32) _ _ _ hw hS (lv_sub hl [1, 2, 0] rfl) hf
      · rw [if_neg hc] at hf
        refine lv_aload_n cx.1 cx.2.1 dX11_goBroke_49 rfl (lv_at hl 0 rfl) ?_
        refine lv_iload_n cx.1 cx.2.1 dX11_goBroke_50 rfl (lv_at hl 2 rfl) ?_
        obtain ⟨v_12, S_11, hv, hf⟩ := gbi_some hf
        refine g_S (As := [.int x2]) (rest := [.ref (G.2.1 k0)]) cx hw hS (c_X11_trackAt l G hM x2 S v_12 S_11 hv) gw_161 gy_X11_trackAt gi_X11_trackAt ⟨Nat.le_of_ble_eq_true rfl, Nat.le_of_ble_eq_true rfl⟩ ⟨Nat.zero_le _, Nat.zero_le _⟩ rfl hl.1 rfl (Nat.le_of_ble_eq_true rfl) dX11_goBroke_51 (fun H locs hw hS => ?_)
        refine W.eq (g2 := F0 m 54 ls [.int v_12, .ref (G.2.1 k0)]) rfl ?_
        refine lv_iconst (v := (3 : Int32)) cx.1 cx.2.1 dX11_goBroke_54 (by decide) ?_
        refine lv_iadd cx.1 cx.2.1 dX11_goBroke_55 ?_
        refine lv_aload_n cx.1 cx.2.1 dX11_goBroke_56 rfl (lv_at hl 0 rfl) ?_
        refine lv_iload_n cx.1 cx.2.1 dX11_goBroke_57 rfl (lv_at hl 2 rfl) ?_
        obtain ⟨v_14, S_13, hv, hf⟩ := gbi_some hf
        refine g_S (As := [.int x2]) (rest := [.ref (G.2.1 k0), .int (v_12 + (3 : Int32)), .ref (G.2.1 k0)]) cx hw hS (c_X11_trackAt l G hM x2 S_11 v_14 S_13 hv) gw_161 gy_X11_trackAt gi_X11_trackAt ⟨Nat.le_of_ble_eq_true rfl, Nat.le_of_ble_eq_true rfl⟩ ⟨Nat.zero_le _, Nat.zero_le _⟩ rfl hl.1 rfl (Nat.le_of_ble_eq_true rfl) dX11_goBroke_58 (fun H locs hw hS => ?_)
        refine W.eq (g2 := F0 m 61 ls [.int v_14, .ref (G.2.1 k0), .int (v_12 + (3 : Int32)), .ref (G.2.1 k0)]) rfl ?_
        refine lv_iconst (v := (3 : Int32)) cx.1 cx.2.1 dX11_goBroke_61 (by decide) ?_
        refine lv_iadd cx.1 cx.2.1 dX11_goBroke_62 ?_
        obtain ⟨hin, hf⟩ := gck_some hf
        refine g_iald cx hw hk0 (vp_of_inb hin) dX11_goBroke_63 ?_
        refine lv_iload_n cx.1 cx.2.1 dX11_goBroke_64 rfl (lv_at hl 1 rfl) ?_
        refine lv_icmp_ne (tgt := 73) cx.1 cx.2.1 dX11_goBroke_65 (by decide) (fun hc => ?_) (fun hc => ?_)
        · rw [if_neg hc] at hf
          refine lv_aload_n cx.1 cx.2.1 dX11_goBroke_73 rfl (lv_at hl 0 rfl) ?_
          refine lv_iload_n cx.1 cx.2.1 dX11_goBroke_74 rfl (lv_at hl 2 rfl) ?_
          obtain ⟨v_16, S_15, hv, hf⟩ := gbi_some hf
          refine g_S (As := [.int x2]) (rest := [.ref (G.2.1 k0), .int (v_12 + (3 : Int32)), .ref (G.2.1 k0)]) cx hw hS (c_X11_trackAt l G hM x2 S_13 v_16 S_15 hv) gw_161 gy_X11_trackAt gi_X11_trackAt ⟨Nat.le_of_ble_eq_true rfl, Nat.le_of_ble_eq_true rfl⟩ ⟨Nat.zero_le _, Nat.zero_le _⟩ rfl hl.1 rfl (Nat.le_of_ble_eq_true rfl) dX11_goBroke_75 (fun H locs hw hS => ?_)
          refine W.eq (g2 := F0 m 78 ls [.int v_16, .ref (G.2.1 k0), .int (v_12 + (3 : Int32)), .ref (G.2.1 k0)]) rfl ?_
          refine lv_iconst (v := (3 : Int32)) cx.1 cx.2.1 dX11_goBroke_78 (by decide) ?_
          refine lv_iadd cx.1 cx.2.1 dX11_goBroke_79 ?_
          obtain ⟨hin, hf⟩ := gck_some hf
          refine g_iald cx hw hk0 (vp_of_inb hin) dX11_goBroke_80 ?_
          exact hB_81 (L_X11_goBroke_42 k0 n) hK42 S_15 x1 x2 (S_15 k0 (v_16 + (3 : Int32)).toNatClampNeg) (v_12 + (3 : Int32)) _ _ _ hw hS (lv_sub hl [0, 1, 2] rfl) hf
        · rw [if_pos hc] at hf
          refine lv_bipush (v := (-9 : Int32)) cx.1 cx.2.1 dX11_goBroke_68 (by decide) ?_
          refine lv_goto (tgt := 81) cx.1 cx.2.1 dX11_goBroke_70 (by decide) ?_
          exact hB_81 (L_X11_goBroke_42 k0 n) hK42 S_13 x1 x2 (-9 : Int32) (v_12 + (3 : Int32)) _ _ _ hw hS (lv_sub hl [0, 1, 2] rfl) hf
  have hl : lv_has ls 3 [(0, .ref (G.2.1 k0)), (1, .int a1)] := hl
  unfold f_X11_goBroke at hf
  refine lv_aload_n cx.1 cx.2.1 dX11_goBroke_0 rfl (lv_at hl 0 rfl) ?_
  refine lv_iload_n cx.1 cx.2.1 dX11_goBroke_1 rfl (lv_at hl 1 rfl) ?_
  refine lv_aload_n cx.1 cx.2.1 dX11_goBroke_2 rfl (lv_at hl 0 rfl) ?_
  refine lv_iload_n cx.1 cx.2.1 dX11_goBroke_3 rfl (lv_at hl 1 rfl) ?_
  obtain ⟨v_18, S_17, hv, hf⟩ := gbi_some hf
  refine g_S (As := [.int a1]) (rest := [.ref (G.2.1 k0), .int a1, .ref (G.2.1 k0)]) cx hw hS (c_X11_companyAt l G hM a1 S v_18 S_17 hv) gw_155 gy_X11_companyAt gi_X11_companyAt ⟨Nat.le_of_ble_eq_true rfl, Nat.le_of_ble_eq_true rfl⟩ ⟨Nat.zero_le _, Nat.zero_le _⟩ rfl hl.1 rfl (Nat.le_of_ble_eq_true rfl) dX11_goBroke_4 (fun H locs hw hS => ?_)
  refine W.eq (g2 := F0 m 7 ls [.int v_18, .ref (G.2.1 k0), .int a1, .ref (G.2.1 k0)]) rfl ?_
  obtain ⟨hin, hf⟩ := gck_some hf
  refine g_iald cx hw hk0 (vp_of_inb hin) dX11_goBroke_7 ?_
  obtain ⟨S_19, hv, hf⟩ := gbv_some hf
  refine g_S (As := [.ref (G.2.1 k0), .int a1, .int (S_17 k0 v_18.toNatClampNeg)]) (rest := []) cx hw hS (c_X11_toBank l G hM hk0 a1 (S_17 k0 v_18.toNatClampNeg) S_17 S_19 hv) gw_579 gy_X11_toBank gi_X11_toBank ⟨Nat.le_of_ble_eq_true rfl, Nat.le_of_ble_eq_true rfl⟩ ⟨Nat.zero_le _, Nat.zero_le _⟩ rfl hl.1 rfl (Nat.le_of_ble_eq_true rfl) dX11_goBroke_8 (fun H locs hw hS => ?_)
  refine W.eq (g2 := F0 m 11 ls []) rfl ?_
  refine lv_aload_n cx.1 cx.2.1 dX11_goBroke_11 rfl (lv_at hl 0 rfl) ?_
  refine lv_iload_n cx.1 cx.2.1 dX11_goBroke_12 rfl (lv_at hl 1 rfl) ?_
  obtain ⟨v_21, S_20, hv, hf⟩ := gbi_some hf
  refine g_S (As := [.int a1]) (rest := [.ref (G.2.1 k0)]) cx hw hS (c_X11_companyAt l G hM a1 S_19 v_21 S_20 hv) gw_155 gy_X11_companyAt gi_X11_companyAt ⟨Nat.le_of_ble_eq_true rfl, Nat.le_of_ble_eq_true rfl⟩ ⟨Nat.zero_le _, Nat.zero_le _⟩ rfl hl.1 rfl (Nat.le_of_ble_eq_true rfl) dX11_goBroke_13 (fun H locs hw hS => ?_)
  refine W.eq (g2 := F0 m 16 ls [.int v_21, .ref (G.2.1 k0)]) rfl ?_
  refine lv_iconst (v := (2 : Int32)) cx.1 cx.2.1 dX11_goBroke_16 (by decide) ?_
  refine lv_iadd cx.1 cx.2.1 dX11_goBroke_17 ?_
  refine lv_iconst (v := (0 : Int32)) cx.1 cx.2.1 dX11_goBroke_18 (by decide) ?_
  obtain ⟨hin, hf⟩ := gck_some hf
  obtain ⟨S_22, eS_22, hf⟩ := gst_ex hf
  refine g_iast cx hw hS hk0 (vp_of_inb hin) dX11_goBroke_19 (fun H locs hw hS => ?_)
  rw [eS_22] at hw
  refine lv_aload_n cx.1 cx.2.1 dX11_goBroke_20 rfl (lv_at hl 0 rfl) ?_
  refine lv_iload_n cx.1 cx.2.1 dX11_goBroke_21 rfl (lv_at hl 1 rfl) ?_
  obtain ⟨v_24, S_23, hv, hf⟩ := gbi_some hf
  refine g_S (As := [.int a1]) (rest := [.ref (G.2.1 k0)]) cx hw hS (c_X11_companyAt l G hM a1 S_22 v_24 S_23 hv) gw_155 gy_X11_companyAt gi_X11_companyAt ⟨Nat.le_of_ble_eq_true rfl, Nat.le_of_ble_eq_true rfl⟩ ⟨Nat.zero_le _, Nat.zero_le _⟩ rfl hl.1 rfl (Nat.le_of_ble_eq_true rfl) dX11_goBroke_22 (fun H locs hw hS => ?_)
  refine W.eq (g2 := F0 m 25 ls [.int v_24, .ref (G.2.1 k0)]) rfl ?_
  refine lv_iconst (v := (4 : Int32)) cx.1 cx.2.1 dX11_goBroke_25 (by decide) ?_
  refine lv_iadd cx.1 cx.2.1 dX11_goBroke_26 ?_
  refine lv_dup2_11 cx.1 cx.2.1 dX11_goBroke_27 rfl rfl ?_
  obtain ⟨hin, hf⟩ := gck_some hf
  refine g_iald cx hw hk0 (vp_of_inb hin) dX11_goBroke_28 ?_
  refine lv_iconst (v := (1 : Int32)) cx.1 cx.2.1 dX11_goBroke_29 (by decide) ?_
  refine lv_iadd cx.1 cx.2.1 dX11_goBroke_30 ?_
  obtain ⟨hin, hf⟩ := gck_some hf
  obtain ⟨S_25, eS_25, hf⟩ := gst_ex hf
  refine g_iast cx hw hS hk0 (vp_of_inb hin) dX11_goBroke_31 (fun H locs hw hS => ?_)
  rw [eS_25] at hw
  refine lv_aload_n cx.1 cx.2.1 dX11_goBroke_32 rfl (lv_at hl 0 rfl) ?_
  refine lv_bipush (v := (9 : Int32)) cx.1 cx.2.1 dX11_goBroke_33 (by decide) ?_
  refine lv_dup2_11 cx.1 cx.2.1 dX11_goBroke_35 rfl rfl ?_
  obtain ⟨hin, hf⟩ := gck_some hf
  refine g_iald cx hw hk0 (vp_of_inb hin) dX11_goBroke_36 ?_
  refine lv_iconst (v := (1 : Int32)) cx.1 cx.2.1 dX11_goBroke_37 (by decide) ?_
  refine lv_iadd cx.1 cx.2.1 dX11_goBroke_38 ?_
  obtain ⟨hin, hf⟩ := gck_some hf
  obtain ⟨S_26, eS_26, hf⟩ := gst_ex hf
  refine g_iast cx hw hS hk0 (vp_of_inb hin) dX11_goBroke_39 (fun H locs hw hS => ?_)
  rw [eS_26] at hw
  refine lv_iconst (v := (0 : Int32)) cx.1 cx.2.1 dX11_goBroke_40 (by decide) ?_
  refine lv_istore_n (lv' := [(2, .int (0 : Int32)), (0, .ref (G.2.1 k0)), (1, .int a1)]) cx.1 cx.2.1 dX11_goBroke_41 rfl hl (by decide) rfl (fun ls hl => ?_)
  exact hL_42 gFu S_26 a1 (0 : Int32) _ _ _ hw hS (lv_sub hl [1, 2, 0] rfl) hf
set_option maxHeartbeats 4000000 in
set_option maxRecDepth 100000 in
theorem c_X11_endOn (l : Launch) (G : gG) {k0 : Nat} (hM : 402 ≤ gN G) (hk0 : IA G k0 175) (S : Sg) (r : Int32) (S' : Sg) (hf : f_X11_endOn k0 S = some (r, S')) : Ct l yX11_endOn [Cond.code yX11_endOn cX11_endOn 4 (some .int)] (gR 3 65) G [.ref (G.2.1 k0)] S (some (.int r)) S' := by
  refine Ct_of (by decide) (Nat.le_of_ble_eq_true rfl) ?_
  intro p e s m below meth c ls cx hr hlk hw hS hl
  have hN := cx.2.2.2.2.hN
  have hL_65 : ∀ (K38 : Sg → Int32 → Int32 → Option (Int32 × Sg)) (hK38 : ∀ (S : Sg) (x1 : Int32) (x2 : Int32) (H : Heap) (locs : List Loc) (ls : Array Slot), gP G S H → va_S (gA G s.heap.size) s.heap H locs → lv_has ls 4 [(0, .ref (G.2.1 k0)), (1, .int x1), (2, .int x2)] → K38 S x1 x2 = some (r, S') → W p l e (gR 3 65) s m ([.ref (G.2.1 k0)] : List Value).toArray below meth c H locs 0 0 (MQ below (gQ G S' (some (.int r)) (gA G s.heap.size)) ([.ref (G.2.1 k0)] : List Value).toArray s 0 0 (gA G s.heap.size)) (F0 m 38 ls [])), ∀ (n : Nat), ∀ (S : Sg) (x1 : Int32) (x2 : Int32) (x3 : Int32) (H : Heap) (locs : List Loc) (ls : Array Slot), gP G S H → va_S (gA G s.heap.size) s.heap H locs → lv_has ls 4 [(0, .ref (G.2.1 k0)), (1, .int x1), (2, .int x2), (3, .int x3)] → L_X11_endOn_65 k0 K38 n S x1 x2 x3 = some (r, S') → W p l e (gR 3 65) s m ([.ref (G.2.1 k0)] : List Value).toArray below meth c H locs 0 0 (MQ below (gQ G S' (some (.int r)) (gA G s.heap.size)) ([.ref (G.2.1 k0)] : List Value).toArray s 0 0 (gA G s.heap.size)) (F0 m 65 ls []) := by
    intro K38 hK38 n
    induction n with
    | zero => intro S x1 x2 x3 H locs ls hw hS hl hf; cases hf
    | succ n hK65 =>
      intro S x1 x2 x3 H locs ls hw hS hl hf
      have hf : Lb_X11_endOn_65 k0 K38 (L_X11_endOn_65 k0 K38 n) S x1 x2 x3 = some (r, S') := hf
      unfold Lb_X11_endOn_65 at hf
      refine lv_iload_n cx.1 cx.2.1 dX11_endOn_65 rfl (lv_at hl 3 rfl) ?_
      refine lv_aload_n cx.1 cx.2.1 dX11_endOn_66 rfl (lv_at hl 0 rfl) ?_
      refine lv_iload_n cx.1 cx.2.1 dX11_endOn_67 rfl (lv_at hl 2 rfl) ?_
      obtain ⟨v_2, S_1, hv, hf⟩ := gbi_some hf
      refine g_S (As := [.ref (G.2.1 k0), .int x2]) (rest := [.int x3]) cx hw hS (c_X11_trainsOf l G hM hk0 x2 S v_2 S_1 hv) gw_489 gy_X11_trainsOf gi_X11_trainsOf ⟨Nat.le_of_ble_eq_true rfl, Nat.le_of_ble_eq_true rfl⟩ ⟨Nat.zero_le _, Nat.zero_le _⟩ rfl hl.1 rfl (Nat.le_of_ble_eq_true rfl) dX11_endOn_68 (fun H locs hw hS => ?_)
      refine W.eq (g2 := F0 m 71 ls [.int v_2, .int x3]) rfl ?_
      refine lv_icmp_ge (tgt := 90) cx.1 cx.2.1 dX11_endOn_71 (by decide) (fun hc => ?_) (fun hc => ?_)
      · rw [if_pos hc] at hf
        obtain ⟨x2_3, ex2_3, hf⟩ := gvi_ex hf
        refine lv_iinc (v := x2_3) (lv' := [(2, .int x2_3), (0, .ref (G.2.1 k0)), (1, .int x1), (3, .int x3)]) cx.1 cx.2.1 dX11_endOn_90 hl (k := 2) rfl (by rw [← ex2_3]; rfl) (by decide) rfl (fun ls hl => ?_)
        refine lv_goto (tgt := 38) cx.1 cx.2.1 dX11_endOn_93 (by decide) ?_
        exact hK38 S_1 x1 x2_3 _ _ _ hw hS (lv_sub hl [1, 2, 0] rfl) hf
      · rw [if_neg hc] at hf
        refine lv_aload_n cx.1 cx.2.1 dX11_endOn_74 rfl (lv_at hl 0 rfl) ?_
        refine lv_iload_n cx.1 cx.2.1 dX11_endOn_75 rfl (lv_at hl 2 rfl) ?_
        refine lv_iload_n cx.1 cx.2.1 dX11_endOn_76 rfl (lv_at hl 3 rfl) ?_
        obtain ⟨v_5, S_4, hv, hf⟩ := gbi_some hf
        refine g_S (As := [.int x2, .int x3]) (rest := [.ref (G.2.1 k0)]) cx hw hS (c_X11_trainAt l G hM x2 x3 S_1 v_5 S_4 hv) gw_492 gy_X11_trainAt gi_X11_trainAt ⟨Nat.le_of_ble_eq_true rfl, Nat.le_of_ble_eq_true rfl⟩ ⟨Nat.zero_le _, Nat.zero_le _⟩ rfl hl.1 rfl (Nat.le_of_ble_eq_true rfl) dX11_endOn_77 (fun H locs hw hS => ?_)
        refine W.eq (g2 := F0 m 80 ls [.int v_5, .ref (G.2.1 k0)]) rfl ?_
        refine lv_iconst (v := (1 : Int32)) cx.1 cx.2.1 dX11_endOn_80 (by decide) ?_
        refine lv_iadd cx.1 cx.2.1 dX11_endOn_81 ?_
        refine lv_iconst (v := (0 : Int32)) cx.1 cx.2.1 dX11_endOn_82 (by decide) ?_
        obtain ⟨hin, hf⟩ := gck_some hf
        obtain ⟨S_6, eS_6, hf⟩ := gst_ex hf
        refine g_iast cx hw hS hk0 (vp_of_inb hin) dX11_endOn_83 (fun H locs hw hS => ?_)
        rw [eS_6] at hw
        obtain ⟨x3_7, ex3_7, hf⟩ := gvi_ex hf
        refine lv_iinc (v := x3_7) (lv' := [(3, .int x3_7), (0, .ref (G.2.1 k0)), (1, .int x1), (2, .int x2)]) cx.1 cx.2.1 dX11_endOn_84 hl (k := 3) rfl (by rw [← ex3_7]; rfl) (by decide) rfl (fun ls hl => ?_)
        refine lv_goto (tgt := 65) cx.1 cx.2.1 dX11_endOn_87 (by decide) ?_
        exact hK65 S_6 x1 x2 x3_7 _ _ _ hw hS (lv_sub hl [1, 2, 3, 0] rfl) hf
  have hL_38 : ∀ (n : Nat), ∀ (S : Sg) (x1 : Int32) (x2 : Int32) (H : Heap) (locs : List Loc) (ls : Array Slot), gP G S H → va_S (gA G s.heap.size) s.heap H locs → lv_has ls 4 [(0, .ref (G.2.1 k0)), (1, .int x1), (2, .int x2)] → L_X11_endOn_38 k0 n S x1 x2 = some (r, S') → W p l e (gR 3 65) s m ([.ref (G.2.1 k0)] : List Value).toArray below meth c H locs 0 0 (MQ below (gQ G S' (some (.int r)) (gA G s.heap.size)) ([.ref (G.2.1 k0)] : List Value).toArray s 0 0 (gA G s.heap.size)) (F0 m 38 ls []) := by
    intro n
    induction n with
    | zero => intro S x1 x2 H locs ls hw hS hl hf; cases hf
    | succ n hK38 =>
      intro S x1 x2 H locs ls hw hS hl hf
      have hf : Lb_X11_endOn_38 k0 (L_X11_endOn_38 k0 n) S x1 x2 = some (r, S') := hf
      unfold Lb_X11_endOn_38 at hf
      refine lv_iload_n cx.1 cx.2.1 dX11_endOn_38 rfl (lv_at hl 2 rfl) ?_
      refine lv_iconst (v := (4 : Int32)) cx.1 cx.2.1 dX11_endOn_39 (by decide) ?_
      refine lv_icmp_ge (tgt := 96) cx.1 cx.2.1 dX11_endOn_40 (by decide) (fun hc => ?_) (fun hc => ?_)
      · rw [if_pos hc] at hf
        refine lv_aload_n cx.1 cx.2.1 dX11_endOn_96 rfl (lv_at hl 0 rfl) ?_
        refine lv_iconst (v := (4 : Int32)) cx.1 cx.2.1 dX11_endOn_97 (by decide) ?_
        refine lv_dup2_11 cx.1 cx.2.1 dX11_endOn_98 rfl rfl ?_
        obtain ⟨hin, hf⟩ := gck_some hf
        refine g_iald cx hw hk0 (vp_of_inb hin) dX11_endOn_99 ?_
        refine lv_iconst (v := (1 : Int32)) cx.1 cx.2.1 dX11_endOn_100 (by decide) ?_
        refine lv_iadd cx.1 cx.2.1 dX11_endOn_101 ?_
        obtain ⟨hin, hf⟩ := gck_some hf
        obtain ⟨S_8, eS_8, hf⟩ := gst_ex hf
        refine g_iast cx hw hS hk0 (vp_of_inb hin) dX11_endOn_102 (fun H locs hw hS => ?_)
        rw [eS_8] at hw
        refine lv_iload_n cx.1 cx.2.1 dX11_endOn_103 rfl (lv_at hl 1 rfl) ?_
        exact g_ireti cx hr hlk hw hS hf dX11_endOn_104
      · rw [if_neg hc] at hf
        refine lv_aload_n cx.1 cx.2.1 dX11_endOn_43 rfl (lv_at hl 0 rfl) ?_
        refine lv_iload_n cx.1 cx.2.1 dX11_endOn_44 rfl (lv_at hl 2 rfl) ?_
        obtain ⟨v_10, S_9, hv, hf⟩ := gbi_some hf
        refine g_S (As := [.int x2]) (rest := [.ref (G.2.1 k0)]) cx hw hS (c_X11_companyAt l G hM x2 S v_10 S_9 hv) gw_155 gy_X11_companyAt gi_X11_companyAt ⟨Nat.le_of_ble_eq_true rfl, Nat.le_of_ble_eq_true rfl⟩ ⟨Nat.zero_le _, Nat.zero_le _⟩ rfl hl.1 rfl (Nat.le_of_ble_eq_true rfl) dX11_endOn_45 (fun H locs hw hS => ?_)
        refine W.eq (g2 := F0 m 48 ls [.int v_10, .ref (G.2.1 k0)]) rfl ?_
        obtain ⟨hin, hf⟩ := gck_some hf
        refine g_iald cx hw hk0 (vp_of_inb hin) dX11_endOn_48 ?_
        refine lv_if_ge (tgt := 63) cx.1 cx.2.1 dX11_endOn_49 (by decide) (fun hc => ?_) (fun hc => ?_)
        · rw [if_pos hc] at hf
          refine lv_iconst (v := (0 : Int32)) cx.1 cx.2.1 dX11_endOn_63 (by decide) ?_
          refine lv_istore_n (lv' := [(3, .int (0 : Int32)), (0, .ref (G.2.1 k0)), (1, .int x1), (2, .int x2)]) cx.1 cx.2.1 dX11_endOn_64 rfl hl (by decide) rfl (fun ls hl => ?_)
          exact hL_65 (L_X11_endOn_38 k0 n) hK38 gFu S_9 x1 x2 (0 : Int32) _ _ _ hw hS (lv_sub hl [1, 2, 3, 0] rfl) hf
        · rw [if_neg hc] at hf
          refine lv_aload_n cx.1 cx.2.1 dX11_endOn_52 rfl (lv_at hl 0 rfl) ?_
          refine lv_iload_n cx.1 cx.2.1 dX11_endOn_53 rfl (lv_at hl 2 rfl) ?_
          obtain ⟨S_11, hv, hf⟩ := gbv_some hf
          refine g_S (As := [.ref (G.2.1 k0), .int x2]) (rest := []) cx hw hS (c_X11_goBroke l G hM hk0 x2 S_9 S_11 hv) gw_887 gy_X11_goBroke gi_X11_goBroke ⟨Nat.le_of_ble_eq_true rfl, Nat.le_of_ble_eq_true rfl⟩ ⟨Nat.zero_le _, Nat.zero_le _⟩ rfl hl.1 rfl (Nat.le_of_ble_eq_true rfl) dX11_endOn_54 (fun H locs hw hS => ?_)
          refine W.eq (g2 := F0 m 57 ls []) rfl ?_
          refine lv_iload_n cx.1 cx.2.1 dX11_endOn_57 rfl (lv_at hl 1 rfl) ?_
          refine lv_iconst (v := (1 : Int32)) cx.1 cx.2.1 dX11_endOn_58 (by decide) ?_
          refine lv_iload_n cx.1 cx.2.1 dX11_endOn_59 rfl (lv_at hl 2 rfl) ?_
          refine lv_ishl cx.1 cx.2.1 dX11_endOn_60 ?_
          refine lv_ior cx.1 cx.2.1 dX11_endOn_61 ?_
          obtain ⟨x1_12, ex1_12, hf⟩ := gvi_ex hf
          refine W.eq (g2 := F0 m 62 ls [.int x1_12]) (by rw [← ex1_12]) ?_
          refine lv_istore_n (lv' := [(1, .int x1_12), (0, .ref (G.2.1 k0)), (2, .int x2)]) cx.1 cx.2.1 dX11_endOn_62 rfl hl (by decide) rfl (fun ls hl => ?_)
          refine lv_iconst (v := (0 : Int32)) cx.1 cx.2.1 dX11_endOn_63 (by decide) ?_
          refine lv_istore_n (lv' := [(3, .int (0 : Int32)), (1, .int x1_12), (0, .ref (G.2.1 k0)), (2, .int x2)]) cx.1 cx.2.1 dX11_endOn_64 rfl hl (by decide) rfl (fun ls hl => ?_)
          exact hL_65 (L_X11_endOn_38 k0 n) hK38 gFu S_11 x1_12 x2 (0 : Int32) _ _ _ hw hS (lv_sub hl [2, 1, 3, 0] rfl) hf
  have hL_6 : ∀ (n : Nat), ∀ (S : Sg) (x1 : Int32) (H : Heap) (locs : List Loc) (ls : Array Slot), gP G S H → va_S (gA G s.heap.size) s.heap H locs → lv_has ls 4 [(0, .ref (G.2.1 k0)), (1, .int x1)] → L_X11_endOn_6 k0 n S x1 = some (r, S') → W p l e (gR 3 65) s m ([.ref (G.2.1 k0)] : List Value).toArray below meth c H locs 0 0 (MQ below (gQ G S' (some (.int r)) (gA G s.heap.size)) ([.ref (G.2.1 k0)] : List Value).toArray s 0 0 (gA G s.heap.size)) (F0 m 6 ls []) := by
    intro n
    induction n with
    | zero => intro S x1 H locs ls hw hS hl hf; cases hf
    | succ n hK6 =>
      intro S x1 H locs ls hw hS hl hf
      have hf : Lb_X11_endOn_6 k0 (L_X11_endOn_6 k0 n) S x1 = some (r, S') := hf
      unfold Lb_X11_endOn_6 at hf
      refine lv_iload_n cx.1 cx.2.1 dX11_endOn_6 rfl (lv_at hl 1 rfl) ?_
      refine lv_iconst (v := (4 : Int32)) cx.1 cx.2.1 dX11_endOn_7 (by decide) ?_
      refine lv_icmp_ge (tgt := 34) cx.1 cx.2.1 dX11_endOn_8 (by decide) (fun hc => ?_) (fun hc => ?_)
      · rw [if_pos hc] at hf
        refine lv_iconst (v := (0 : Int32)) cx.1 cx.2.1 dX11_endOn_34 (by decide) ?_
        refine lv_istore_n (lv' := [(1, .int (0 : Int32)), (0, .ref (G.2.1 k0))]) cx.1 cx.2.1 dX11_endOn_35 rfl hl (by decide) rfl (fun ls hl => ?_)
        refine lv_iconst (v := (0 : Int32)) cx.1 cx.2.1 dX11_endOn_36 (by decide) ?_
        refine lv_istore_n (lv' := [(2, .int (0 : Int32)), (1, .int (0 : Int32)), (0, .ref (G.2.1 k0))]) cx.1 cx.2.1 dX11_endOn_37 rfl hl (by decide) rfl (fun ls hl => ?_)
        exact hL_38 gFu S (0 : Int32) (0 : Int32) _ _ _ hw hS (lv_sub hl [2, 1, 0] rfl) hf
      · rw [if_neg hc] at hf
        refine lv_aload_n cx.1 cx.2.1 dX11_endOn_11 rfl (lv_at hl 0 rfl) ?_
        refine lv_iload_n cx.1 cx.2.1 dX11_endOn_12 rfl (lv_at hl 1 rfl) ?_
        refine lv_aload_n cx.1 cx.2.1 dX11_endOn_13 rfl (lv_at hl 0 rfl) ?_
        refine lv_iload_n cx.1 cx.2.1 dX11_endOn_14 rfl (lv_at hl 1 rfl) ?_
        refine lv_iconst (v := (0 : Int32)) cx.1 cx.2.1 dX11_endOn_15 (by decide) ?_
        obtain ⟨v_14, S_13, hv, hf⟩ := gbi_some hf
        refine g_S (As := [.ref (G.2.1 k0), .int x1, .int (0 : Int32)]) (rest := [.int x1, .ref (G.2.1 k0)]) cx hw hS (c_X11_tracksOf l G hM hk0 x1 (0 : Int32) S v_14 S_13 hv) gw_449 gy_X11_tracksOf gi_X11_tracksOf ⟨Nat.le_of_ble_eq_true rfl, Nat.le_of_ble_eq_true rfl⟩ ⟨Nat.zero_le _, Nat.zero_le _⟩ rfl hl.1 rfl (Nat.le_of_ble_eq_true rfl) dX11_endOn_16 (fun H locs hw hS => ?_)
        refine W.eq (g2 := F0 m 19 ls [.int v_14, .int x1, .ref (G.2.1 k0)]) rfl ?_
        refine lv_aload_n cx.1 cx.2.1 dX11_endOn_19 rfl (lv_at hl 0 rfl) ?_
        refine lv_iload_n cx.1 cx.2.1 dX11_endOn_20 rfl (lv_at hl 1 rfl) ?_
        obtain ⟨v_16, S_15, hv, hf⟩ := gbi_some hf
        refine g_S (As := [.ref (G.2.1 k0), .int x1]) (rest := [.int v_14, .int x1, .ref (G.2.1 k0)]) cx hw hS (c_X11_levelsOf l G hM hk0 x1 S_13 v_16 S_15 hv) gw_884 gy_X11_levelsOf gi_X11_levelsOf ⟨Nat.le_of_ble_eq_true rfl, Nat.le_of_ble_eq_true rfl⟩ ⟨Nat.zero_le _, Nat.zero_le _⟩ rfl hl.1 rfl (Nat.le_of_ble_eq_true rfl) dX11_endOn_21 (fun H locs hw hS => ?_)
        refine W.eq (g2 := F0 m 24 ls [.int v_16, .int v_14, .int x1, .ref (G.2.1 k0)]) rfl ?_
        refine lv_iadd cx.1 cx.2.1 dX11_endOn_24 ?_
        obtain ⟨S_17, hv, hf⟩ := gbv_some hf
        refine g_S (As := [.ref (G.2.1 k0), .int x1, .int (v_14 + v_16)]) (rest := []) cx hw hS (c_X11_toBank l G hM hk0 x1 (v_14 + v_16) S_15 S_17 hv) gw_579 gy_X11_toBank gi_X11_toBank ⟨Nat.le_of_ble_eq_true rfl, Nat.le_of_ble_eq_true rfl⟩ ⟨Nat.zero_le _, Nat.zero_le _⟩ rfl hl.1 rfl (Nat.le_of_ble_eq_true rfl) dX11_endOn_25 (fun H locs hw hS => ?_)
        refine W.eq (g2 := F0 m 28 ls []) rfl ?_
        obtain ⟨x1_18, ex1_18, hf⟩ := gvi_ex hf
        refine lv_iinc (v := x1_18) (lv' := [(1, .int x1_18), (0, .ref (G.2.1 k0))]) cx.1 cx.2.1 dX11_endOn_28 hl (k := 1) rfl (by rw [← ex1_18]; rfl) (by decide) rfl (fun ls hl => ?_)
        refine lv_goto (tgt := 6) cx.1 cx.2.1 dX11_endOn_31 (by decide) ?_
        exact hK6 S_17 x1_18 _ _ _ hw hS (lv_sub hl [1, 0] rfl) hf
  have hl : lv_has ls 4 [(0, .ref (G.2.1 k0))] := hl
  unfold f_X11_endOn at hf
  refine lv_aload_n cx.1 cx.2.1 dX11_endOn_0 rfl (lv_at hl 0 rfl) ?_
  obtain ⟨S_19, hv, hf⟩ := gbv_some hf
  refine g_S (As := [.ref (G.2.1 k0)]) (rest := []) cx hw hS (c_X11_endContracts l G hM hk0 S S_19 hv) gw_878 gy_X11_endContracts gi_X11_endContracts ⟨Nat.le_of_ble_eq_true rfl, Nat.le_of_ble_eq_true rfl⟩ ⟨Nat.zero_le _, Nat.zero_le _⟩ rfl hl.1 rfl (Nat.le_of_ble_eq_true rfl) dX11_endOn_1 (fun H locs hw hS => ?_)
  refine W.eq (g2 := F0 m 4 ls []) rfl ?_
  refine lv_iconst (v := (0 : Int32)) cx.1 cx.2.1 dX11_endOn_4 (by decide) ?_
  refine lv_istore_n (lv' := [(1, .int (0 : Int32)), (0, .ref (G.2.1 k0))]) cx.1 cx.2.1 dX11_endOn_5 rfl hl (by decide) rfl (fun ls hl => ?_)
  exact hL_6 gFu S_19 (0 : Int32) _ _ _ hw hS (lv_sub hl [1, 0] rfl) hf
set_option maxHeartbeats 4000000 in
set_option maxRecDepth 100000 in
theorem c_X11_bankruptAfter (l : Launch) (G : gG) (hM : 402 ≤ gN G) (a1 : Int32) (S : Sg) (r : Int32) (S' : Sg) (hf : f_X11_bankruptAfter a1 S = some (r, S')) : Ct l yX11_bankruptAfter [Cond.code yX11_bankruptAfter cX11_bankruptAfter 3 (some .int)] (gR 4 88) G [.ref (G.2.1 392), .int a1] S (some (.int r)) S' := by
  refine Ct_of (by decide) (Nat.le_of_ble_eq_true rfl) ?_
  intro p e s m below meth c ls cx hr hlk hw hS hl
  have hN := cx.2.2.2.2.hN
  have hL_36 : ∀ (n : Nat), ∀ (S : Sg) (x1 : Int32) (x2 : Int32) (H : Heap) (locs : List Loc) (ls : Array Slot), gP G S H → va_S (gA G s.heap.size) s.heap H locs → lv_has ls 3 [(0, .ref (G.2.1 392)), (1, .int x1), (2, .int x2)] → L_X11_bankruptAfter_36 n S x1 x2 = some (r, S') → W p l e (gR 4 88) s m ([.ref (G.2.1 392), .int a1] : List Value).toArray below meth c H locs 0 0 (MQ below (gQ G S' (some (.int r)) (gA G s.heap.size)) ([.ref (G.2.1 392), .int a1] : List Value).toArray s 0 0 (gA G s.heap.size)) (F0 m 36 ls []) := by
    intro n
    induction n with
    | zero => intro S x1 x2 H locs ls hw hS hl hf; cases hf
    | succ n hK36 =>
      intro S x1 x2 H locs ls hw hS hl hf
      have hf : Lb_X11_bankruptAfter_36 (L_X11_bankruptAfter_36 n) S x1 x2 = some (r, S') := hf
      unfold Lb_X11_bankruptAfter_36 at hf
      refine lv_iload_n cx.1 cx.2.1 dX11_bankruptAfter_36 rfl (lv_at hl 2 rfl) ?_
      refine lv_bipush (v := (50 : Int32)) cx.1 cx.2.1 dX11_bankruptAfter_37 (by decide) ?_
      refine lv_icmp_gt (tgt := 65) cx.1 cx.2.1 dX11_bankruptAfter_39 (by decide) (fun hc => ?_) (fun hc => ?_)
      · rw [if_pos hc] at hf
        refine lv_bipush (v := (-9 : Int32)) cx.1 cx.2.1 dX11_bankruptAfter_65 (by decide) ?_
        exact g_ireti cx hr hlk hw hS hf dX11_bankruptAfter_67
      · rw [if_neg hc] at hf
        refine lv_aload_n cx.1 cx.2.1 dX11_bankruptAfter_42 rfl (lv_at hl 0 rfl) ?_
        refine g_get (C := RX11) (T := TX11) (N := 16) (v := .ref (G.2.1 396)) cx hw inlX11 392 (by omega) he_c392 rfl 6 (by decide) gw_145 rfl rfl dX11_bankruptAfter_43 ?_
        obtain ⟨v_2, S_1, hv, hf⟩ := gbi_some hf
        refine g_S (As := [.ref (G.2.1 396)]) (rest := []) cx hw hS (c_X11_endOn l G hM (ia_c396 hM) S v_2 S_1 hv) gw_875 gy_X11_endOn gi_X11_endOn ⟨Nat.le_of_ble_eq_true rfl, Nat.le_of_ble_eq_true rfl⟩ ⟨Nat.zero_le _, Nat.zero_le _⟩ rfl hl.1 rfl (Nat.le_of_ble_eq_true rfl) dX11_bankruptAfter_46 (fun H locs hw hS => ?_)
        refine W.eq (g2 := F0 m 49 ls [.int v_2]) rfl ?_
        refine lv_iload_n cx.1 cx.2.1 dX11_bankruptAfter_49 rfl (lv_at hl 1 rfl) ?_
        refine lv_ishr cx.1 cx.2.1 dX11_bankruptAfter_50 ?_
        refine lv_iconst (v := (1 : Int32)) cx.1 cx.2.1 dX11_bankruptAfter_51 (by decide) ?_
        refine lv_iand cx.1 cx.2.1 dX11_bankruptAfter_52 ?_
        refine lv_iconst (v := (1 : Int32)) cx.1 cx.2.1 dX11_bankruptAfter_53 (by decide) ?_
        refine lv_icmp_ne (tgt := 59) cx.1 cx.2.1 dX11_bankruptAfter_54 (by decide) (fun hc => ?_) (fun hc => ?_)
        · rw [if_neg hc] at hf
          obtain ⟨x2_3, ex2_3, hf⟩ := gvi_ex hf
          refine lv_iinc (v := x2_3) (lv' := [(2, .int x2_3), (0, .ref (G.2.1 392)), (1, .int x1)]) cx.1 cx.2.1 dX11_bankruptAfter_59 hl (k := 2) rfl (by rw [← ex2_3]; rfl) (by decide) rfl (fun ls hl => ?_)
          refine lv_goto (tgt := 36) cx.1 cx.2.1 dX11_bankruptAfter_62 (by decide) ?_
          exact hK36 S_1 x1 x2_3 _ _ _ hw hS (lv_sub hl [1, 2, 0] rfl) hf
        · rw [if_pos hc] at hf
          refine lv_iload_n cx.1 cx.2.1 dX11_bankruptAfter_57 rfl (lv_at hl 2 rfl) ?_
          exact g_ireti cx hr hlk hw hS hf dX11_bankruptAfter_58
  have hB_13 : ∀ (S : Sg) (x1 : Int32) (t0 : Int32) (H : Heap) (locs : List Loc) (ls : Array Slot), gP G S H → va_S (gA G s.heap.size) s.heap H locs → lv_has ls 3 [(0, .ref (G.2.1 392)), (1, .int x1)] → B_X11_bankruptAfter_13 S x1 t0 = some (r, S') → W p l e (gR 4 88) s m ([.ref (G.2.1 392), .int a1] : List Value).toArray below meth c H locs 0 0 (MQ below (gQ G S' (some (.int r)) (gA G s.heap.size)) ([.ref (G.2.1 392), .int a1] : List Value).toArray s 0 0 (gA G s.heap.size)) (F0 m 13 ls [.int t0, .ref (G.2.1 392)]) := by
    intro S x1 t0 H locs ls hw hS hl hf
    unfold B_X11_bankruptAfter_13 at hf
    obtain ⟨v_5, S_4, hv, hf⟩ := gbi_some hf
    refine g_V (As := [.int t0]) (rest := []) cx hw hS (c_X11_refused l G hM t0 S v_5 S_4 hv) (by omega) he_c392 rfl rfl gw_200 gy_X11_refused gi_X11_refused ⟨Nat.le_of_ble_eq_true rfl, Nat.le_of_ble_eq_true rfl⟩ ⟨Nat.zero_le _, Nat.zero_le _⟩ rfl hl.1 rfl (Nat.le_of_ble_eq_true rfl) dX11_bankruptAfter_13 (fun H locs hw hS => ?_)
    refine W.eq (g2 := F0 m 16 ls [.int v_5]) rfl ?_
    refine lv_if_eq (tgt := 21) cx.1 cx.2.1 dX11_bankruptAfter_16 (by decide) (fun hc => ?_) (fun hc => ?_)
    · rw [if_pos hc] at hf
      refine lv_aload_n cx.1 cx.2.1 dX11_bankruptAfter_21 rfl (lv_at hl 0 rfl) ?_
      refine g_get (C := RX11) (T := TX11) (N := 16) (v := .ref (G.2.1 395)) cx hw inlX11 392 (by omega) he_c392 rfl 5 (by decide) gw_144 rfl rfl dX11_bankruptAfter_22 ?_
      refine lv_iconst (v := (0 : Int32)) cx.1 cx.2.1 dX11_bankruptAfter_25 (by decide) ?_
      refine lv_aload_n cx.1 cx.2.1 dX11_bankruptAfter_26 rfl (lv_at hl 0 rfl) ?_
      refine g_get (C := RX11) (T := TX11) (N := 16) (v := .ref (G.2.1 396)) cx hw inlX11 392 (by omega) he_c392 rfl 6 (by decide) gw_145 rfl rfl dX11_bankruptAfter_27 ?_
      refine lv_iconst (v := (0 : Int32)) cx.1 cx.2.1 dX11_bankruptAfter_30 (by decide) ?_
      obtain ⟨S_6, hv, hf⟩ := gbv_some hf
      refine g_S (As := [.ref (G.2.1 395), .int (0 : Int32), .ref (G.2.1 396), .int (0 : Int32)]) (rest := []) cx hw hS (c_X11_copyPage l G hM (ia_c395 hM) (ia_c396 hM) (0 : Int32) (0 : Int32) S_4 S_6 hv) gw_350 gy_X11_copyPage gi_X11_copyPage ⟨Nat.le_of_ble_eq_true rfl, Nat.le_of_ble_eq_true rfl⟩ ⟨Nat.zero_le _, Nat.zero_le _⟩ rfl hl.1 rfl (Nat.le_of_ble_eq_true rfl) dX11_bankruptAfter_31 (fun H locs hw hS => ?_)
      refine W.eq (g2 := F0 m 34 ls []) rfl ?_
      refine lv_iconst (v := (1 : Int32)) cx.1 cx.2.1 dX11_bankruptAfter_34 (by decide) ?_
      refine lv_istore_n (lv' := [(2, .int (1 : Int32)), (0, .ref (G.2.1 392)), (1, .int x1)]) cx.1 cx.2.1 dX11_bankruptAfter_35 rfl hl (by decide) rfl (fun ls hl => ?_)
      exact hL_36 gFu S_6 x1 (1 : Int32) _ _ _ hw hS (lv_sub hl [1, 2, 0] rfl) hf
    · rw [if_neg hc] at hf
      refine lv_iconst (v := (0 : Int32)) cx.1 cx.2.1 dX11_bankruptAfter_19 (by decide) ?_
      exact g_ireti cx hr hlk hw hS hf dX11_bankruptAfter_20
  have hl : lv_has ls 3 [(0, .ref (G.2.1 392)), (1, .int a1)] := hl
  unfold f_X11_bankruptAfter at hf
  refine lv_aload_n cx.1 cx.2.1 dX11_bankruptAfter_0 rfl (lv_at hl 0 rfl) ?_
  refine lv_iload_n cx.1 cx.2.1 dX11_bankruptAfter_1 rfl (lv_at hl 1 rfl) ?_
  obtain ⟨v_8, S_7, hv, hf⟩ := gbi_some hf
  refine g_S (As := [.int a1]) (rest := [.ref (G.2.1 392)]) cx hw hS (c_X11_isCompany l G hM a1 S v_8 S_7 hv) gw_446 gy_X11_isCompany gi_X11_isCompany ⟨Nat.le_of_ble_eq_true rfl, Nat.le_of_ble_eq_true rfl⟩ ⟨Nat.zero_le _, Nat.zero_le _⟩ rfl hl.1 rfl (Nat.le_of_ble_eq_true rfl) dX11_bankruptAfter_2 (fun H locs hw hS => ?_)
  refine W.eq (g2 := F0 m 5 ls [.int v_8, .ref (G.2.1 392)]) rfl ?_
  refine lv_if_eq (tgt := 12) cx.1 cx.2.1 dX11_bankruptAfter_5 (by decide) (fun hc => ?_) (fun hc => ?_)
  · rw [if_pos hc] at hf
    refine lv_iconst (v := (1 : Int32)) cx.1 cx.2.1 dX11_bankruptAfter_12 (by decide) ?_
    exact hB_13 S_7 a1 (1 : Int32) _ _ _ hw hS (lv_sub hl [0, 1] rfl) hf
  · rw [if_neg hc] at hf
    refine lv_iconst (v := (0 : Int32)) cx.1 cx.2.1 dX11_bankruptAfter_8 (by decide) ?_
    refine lv_goto (tgt := 13) cx.1 cx.2.1 dX11_bankruptAfter_9 (by decide) ?_
    exact hB_13 S_7 a1 (0 : Int32) _ _ _ hw hS (lv_sub hl [0, 1] rfl) hf
