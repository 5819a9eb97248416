set_option maxHeartbeats 4000000 in
set_option maxRecDepth 100000 in
theorem c_X6_fetchInto (l : Launch) (G : gG) {b2 : Nat} (hb2 : IsSt b2) (a1 : Int32) (S : Sg) (S' : Sg) (hf : f_X6_fetchInto b2 a1 S = some S') : Ct l yX6_fetchInto [Cond.code yX6_fetchInto cX6_fetchInto 3 none] (gR 5 144) G [.ref (G.2.1 5), .int a1, .ref (G.2.1 b2)] S none S' := by
  refine Ct_of (by decide) (Nat.le_of_ble_eq_true rfl) ?_
  intro p e s m below meth c ls cx hr hlk hw hS hl
  have hN := cx.2.2.2.2.hN
  have hl : lv_has ls 3 [(0, .ref (G.2.1 5)), (1, .int a1), (2, .ref (G.2.1 b2))] := hl
  unfold f_X6_fetchInto at hf
  refine lv_aload_n cx.1 cx.2.1 dX6_fetchInto_0 rfl (lv_at hl 0 rfl) ?_
  refine lv_iload_n cx.1 cx.2.1 dX6_fetchInto_1 rfl (lv_at hl 1 rfl) ?_
  obtain ⟨v_2, S_1, hv, hf⟩ := gbn_some hf
  have hbv_2 := st_of_X6_stateAt hv
  refine g_V (As := [.int a1]) (rest := []) cx hw hS (c_X6_stateAt l G a1 S v_2 S_1 hv) (by omega) he_c5 rfl rfl gw_788 gy_X6_stateAt gi_X6_stateAt ⟨Nat.le_of_ble_eq_true rfl, Nat.le_of_ble_eq_true rfl⟩ ⟨Nat.zero_le _, Nat.zero_le _⟩ rfl hl.1 rfl (Nat.le_of_ble_eq_true rfl) dX6_fetchInto_2 (fun H locs hw hS => ?_)
  refine W.eq (g2 := F0 m 5 ls [.ref (G.2.1 v_2)]) rfl ?_
  refine lv_aload_n cx.1 cx.2.1 dX6_fetchInto_5 rfl (lv_at hl 2 rfl) ?_
  obtain ⟨S_3, hv, hf⟩ := gbv_some hf
  refine g_N (As := [.ref (G.2.1 v_2), .ref (G.2.1 b2)]) (rest := []) cx hw hS (c_X10_copyState l G hbv_2 hb2 S_1 S_3 hv) gnm_18 gy_X10_copyState gi_X10_copyState ⟨Nat.le_of_ble_eq_true rfl, Nat.le_of_ble_eq_true rfl⟩ ⟨Nat.zero_le _, Nat.zero_le _⟩ rfl hl.1 rfl (Nat.le_of_ble_eq_true rfl) dX6_fetchInto_6 (fun H locs hw hS => ?_)
  refine W.eq (g2 := F0 m 9 ls []) rfl ?_
  exact g_vreti cx hr hlk hw hS hf dX6_fetchInto_9
set_option maxHeartbeats 4000000 in
set_option maxRecDepth 100000 in
theorem c_X6_isFilled (l : Launch) (G : gG) (a1 : Int32) (S : Sg) (r : Int32) (S' : Sg) (hf : f_X6_isFilled a1 S = some (r, S')) : Ct l yX6_isFilled [Cond.code yX6_isFilled cX6_isFilled 2 (some .boolean)] (gR 1 21) G [.ref (G.2.1 5), .int a1] S (some (.int r)) S' := by
  refine Ct_of (by decide) (Nat.le_of_ble_eq_true rfl) ?_
  intro p e s m below meth c ls cx hr hlk hw hS hl
  have hN := cx.2.2.2.2.hN
  have hl : lv_has ls 2 [(0, .ref (G.2.1 5)), (1, .int a1)] := hl
  unfold f_X6_isFilled at hf
  refine lv_aload_n cx.1 cx.2.1 dX6_isFilled_0 rfl (lv_at hl 0 rfl) ?_
  refine g_get (C := RX6) (T := TX6) (N := 2) (v := .ref (G.2.1 7)) cx hw inlX6 5 (by omega) he_c5 rfl 1 (by decide) gw_90 rfl rfl dX6_isFilled_1 ?_
  refine lv_iload_n cx.1 cx.2.1 dX6_isFilled_4 rfl (lv_at hl 1 rfl) ?_
  obtain ⟨v_2, S_1, hv, hf⟩ := gbi_some hf
  refine g_N (As := [.ref (G.2.1 7), .int a1]) (rest := []) cx hw hS (c_X10_at l G (ia_c7 hN) a1 S v_2 S_1 hv) gnm_20 gy_X10_at gi_X10_at ⟨Nat.le_of_ble_eq_true rfl, Nat.le_of_ble_eq_true rfl⟩ ⟨Nat.zero_le _, Nat.zero_le _⟩ rfl hl.1 rfl (Nat.le_of_ble_eq_true rfl) dX6_isFilled_5 (fun H locs hw hS => ?_)
  refine W.eq (g2 := F0 m 8 ls [.int v_2]) rfl ?_
  refine lv_iconst (v := (1 : Int32)) cx.1 cx.2.1 dX6_isFilled_8 (by decide) ?_
  refine lv_icmp_ne (tgt := 16) cx.1 cx.2.1 dX6_isFilled_9 (by decide) (fun hc => ?_) (fun hc => ?_)
  · rw [if_neg hc] at hf
    refine lv_iconst (v := (0 : Int32)) cx.1 cx.2.1 dX6_isFilled_16 (by decide) ?_
    exact g_zreti cx hr hlk hw hS (by decide) hf dX6_isFilled_17
  · rw [if_pos hc] at hf
    refine lv_iconst (v := (1 : Int32)) cx.1 cx.2.1 dX6_isFilled_12 (by decide) ?_
    refine lv_goto (tgt := 17) cx.1 cx.2.1 dX6_isFilled_13 (by decide) ?_
    exact g_zreti cx hr hlk hw hS (by decide) hf dX6_isFilled_17
set_option maxHeartbeats 4000000 in
set_option maxRecDepth 100000 in
theorem c_X6_keep (l : Launch) (G : gG) {b2 : Nat} (hb2 : IsSt b2) (a1 : Int32) (S : Sg) (S' : Sg) (hf : f_X6_keep b2 a1 S = some S') : Ct l yX6_keep [Cond.code yX6_keep cX6_keep 3 none] (gR 5 144) G [.ref (G.2.1 5), .int a1, .ref (G.2.1 b2)] S none S' := by
  refine Ct_of (by decide) (Nat.le_of_ble_eq_true rfl) ?_
  intro p e s m below meth c ls cx hr hlk hw hS hl
  have hN := cx.2.2.2.2.hN
  have hl : lv_has ls 3 [(0, .ref (G.2.1 5)), (1, .int a1), (2, .ref (G.2.1 b2))] := hl
  unfold f_X6_keep at hf
  refine lv_aload_n cx.1 cx.2.1 dX6_keep_0 rfl (lv_at hl 2 rfl) ?_
  refine lv_aload_n cx.1 cx.2.1 dX6_keep_1 rfl (lv_at hl 0 rfl) ?_
  refine lv_iload_n cx.1 cx.2.1 dX6_keep_2 rfl (lv_at hl 1 rfl) ?_
  obtain ⟨v_2, S_1, hv, hf⟩ := gbn_some hf
  have hbv_2 := st_of_X6_stateAt hv
  refine g_V (As := [.int a1]) (rest := [.ref (G.2.1 b2)]) cx hw hS (c_X6_stateAt l G a1 S v_2 S_1 hv) (by omega) he_c5 rfl rfl gw_788 gy_X6_stateAt gi_X6_stateAt ⟨Nat.le_of_ble_eq_true rfl, Nat.le_of_ble_eq_true rfl⟩ ⟨Nat.zero_le _, Nat.zero_le _⟩ rfl hl.1 rfl (Nat.le_of_ble_eq_true rfl) dX6_keep_3 (fun H locs hw hS => ?_)
  refine W.eq (g2 := F0 m 6 ls [.ref (G.2.1 v_2), .ref (G.2.1 b2)]) rfl ?_
  obtain ⟨S_3, hv, hf⟩ := gbv_some hf
  refine g_N (As := [.ref (G.2.1 b2), .ref (G.2.1 v_2)]) (rest := []) cx hw hS (c_X10_copyState l G hb2 hbv_2 S_1 S_3 hv) gnm_18 gy_X10_copyState gi_X10_copyState ⟨Nat.le_of_ble_eq_true rfl, Nat.le_of_ble_eq_true rfl⟩ ⟨Nat.zero_le _, Nat.zero_le _⟩ rfl hl.1 rfl (Nat.le_of_ble_eq_true rfl) dX6_keep_6 (fun H locs hw hS => ?_)
  refine W.eq (g2 := F0 m 9 ls []) rfl ?_
  refine lv_aload_n cx.1 cx.2.1 dX6_keep_9 rfl (lv_at hl 0 rfl) ?_
  refine g_get (C := RX6) (T := TX6) (N := 2) (v := .ref (G.2.1 7)) cx hw inlX6 5 (by omega) he_c5 rfl 1 (by decide) gw_90 rfl rfl dX6_keep_10 ?_
  refine lv_iload_n cx.1 cx.2.1 dX6_keep_13 rfl (lv_at hl 1 rfl) ?_
  refine lv_iconst (v := (1 : Int32)) cx.1 cx.2.1 dX6_keep_14 (by decide) ?_
  obtain ⟨S_4, hv, hf⟩ := gbv_some hf
  refine g_N (As := [.ref (G.2.1 7), .int a1, .int (1 : Int32)]) (rest := []) cx hw hS (c_X10_put l G (ia_c7 hN) a1 (1 : Int32) S_3 S_4 hv) gnm_19 gy_X10_put gi_X10_put ⟨Nat.le_of_ble_eq_true rfl, Nat.le_of_ble_eq_true rfl⟩ ⟨Nat.zero_le _, Nat.zero_le _⟩ rfl hl.1 rfl (Nat.le_of_ble_eq_true rfl) dX6_keep_15 (fun H locs hw hS => ?_)
  refine W.eq (g2 := F0 m 18 ls []) rfl ?_
  exact g_vreti cx hr hlk hw hS hf dX6_keep_18
set_option maxHeartbeats 4000000 in
set_option maxRecDepth 100000 in
theorem c_X7_dealByChance (l : Launch) (G : gG) {b : Nat} (hb : IsSt b) (a1 : Int32) (S : Sg) (S' : Sg) (hf : f_X7_dealByChance b a1 S = some S') : Ct l yX7_dealByChance [Cond.code yX7_dealByChance cX7_dealByChance 4 none] (gR 5 108) G [.ref (G.2.1 b), .int a1] S none S' := by
  refine Ct_of (by decide) (Nat.le_of_ble_eq_true rfl) ?_
  intro p e s m below meth c ls cx hr hlk hw hS hl
  have hN := cx.2.2.2.2.hN
  have hB_118 : ∀ (S : Sg) (t0 : Int32) (t1 : Int32) (H : Heap) (locs : List Loc) (ls : Array Slot), gP G S H → va_S (gA G s.heap.size) s.heap H locs → lv_has ls 4 [] → B_X7_dealByChance_118 b S t0 t1 = some S' → W p l e (gR 5 108) s m ([.ref (G.2.1 b), .int a1] : List Value).toArray below meth c H locs 0 0 (MQ below (gQ G S' none (gA G s.heap.size)) ([.ref (G.2.1 b), .int a1] : List Value).toArray s 0 0 (gA G s.heap.size)) (F0 m 118 ls [.int t0, .int t1, .ref (G.2.1 b)]) := by
    intro S t0 t1 H locs ls hw hS hl hf
    unfold B_X7_dealByChance_118 at hf
    obtain ⟨v_2, S_1, hv, hf⟩ := gbi_some hf
    refine g_V (As := [.int t1, .int t0]) (rest := []) cx hw hS (c_X7_tryContract l G hb t1 t0 S v_2 S_1 hv) (Nat.lt_of_lt_of_le hb.lt0 hN) (he_s0 hb) rfl rfl gw_762 gy_X7_tryContract gi_X7_tryContract ⟨Nat.le_of_ble_eq_true rfl, Nat.le_of_ble_eq_true rfl⟩ ⟨Nat.zero_le _, Nat.zero_le _⟩ rfl hl.1 rfl (Nat.le_of_ble_eq_true rfl) dX7_dealByChance_118 (fun H locs hw hS => ?_)
    refine W.eq (g2 := F0 m 121 ls [.int v_2]) rfl ?_
    refine lv_pop cx.1 cx.2.1 dX7_dealByChance_121 rfl ?_
    refine lv_goto (tgt := 125) cx.1 cx.2.1 dX7_dealByChance_122 (by decide) ?_
    exact g_vreti cx hr hlk hw hS hf dX7_dealByChance_125
  have hB_85 : ∀ (S : Sg) (t0 : Int32) (t1 : Int32) (H : Heap) (locs : List Loc) (ls : Array Slot), gP G S H → va_S (gA G s.heap.size) s.heap H locs → lv_has ls 4 [] → B_X7_dealByChance_85 b S t0 t1 = some S' → W p l e (gR 5 108) s m ([.ref (G.2.1 b), .int a1] : List Value).toArray below meth c H locs 0 0 (MQ below (gQ G S' none (gA G s.heap.size)) ([.ref (G.2.1 b), .int a1] : List Value).toArray s 0 0 (gA G s.heap.size)) (F0 m 85 ls [.int t0, .int t1, .ref (G.2.1 b)]) := by
    intro S t0 t1 H locs ls hw hS hl hf
    unfold B_X7_dealByChance_85 at hf
    obtain ⟨v_4, S_3, hv, hf⟩ := gbi_some hf
    refine g_V (As := [.int t1, .int t0]) (rest := []) cx hw hS (c_X7_tryTrack l G hb t1 t0 S v_4 S_3 hv) (Nat.lt_of_lt_of_le hb.lt0 hN) (he_s0 hb) rfl rfl gw_761 gy_X7_tryTrack gi_X7_tryTrack ⟨Nat.le_of_ble_eq_true rfl, Nat.le_of_ble_eq_true rfl⟩ ⟨Nat.zero_le _, Nat.zero_le _⟩ rfl hl.1 rfl (Nat.le_of_ble_eq_true rfl) dX7_dealByChance_85 (fun H locs hw hS => ?_)
    refine W.eq (g2 := F0 m 88 ls [.int v_4]) rfl ?_
    refine lv_pop cx.1 cx.2.1 dX7_dealByChance_88 rfl ?_
    refine lv_goto (tgt := 125) cx.1 cx.2.1 dX7_dealByChance_89 (by decide) ?_
    exact g_vreti cx hr hlk hw hS hf dX7_dealByChance_125
  have hl : lv_has ls 4 [(0, .ref (G.2.1 b)), (1, .int a1)] := hl
  unfold f_X7_dealByChance at hf
  refine lv_iload_n cx.1 cx.2.1 dX7_dealByChance_0 rfl (lv_at hl 1 rfl) ?_
  refine lv_bipush (v := (8 : Int32)) cx.1 cx.2.1 dX7_dealByChance_1 (by decide) ?_
  refine lv_idiv cx.1 cx.2.1 dX7_dealByChance_3 (by decide) ?_
  refine lv_iconst (v := (4 : Int32)) cx.1 cx.2.1 dX7_dealByChance_4 (by decide) ?_
  refine lv_irem cx.1 cx.2.1 dX7_dealByChance_5 (by decide) ?_
  obtain ⟨x2_5, ex2_5, hf⟩ := gvi_ex hf
  refine W.eq (g2 := F0 m 6 ls [.int x2_5]) (by rw [← ex2_5]) ?_
  refine lv_istore_n (lv' := [(2, .int x2_5), (0, .ref (G.2.1 b)), (1, .int a1)]) cx.1 cx.2.1 dX7_dealByChance_6 rfl hl (by decide) rfl (fun ls hl => ?_)
  refine lv_iload_n cx.1 cx.2.1 dX7_dealByChance_7 rfl (lv_at hl 2 rfl) ?_
  refine lv_bipush (v := (32 : Int32)) cx.1 cx.2.1 dX7_dealByChance_8 (by decide) ?_
  refine lv_idiv cx.1 cx.2.1 dX7_dealByChance_10 (by decide) ?_
  obtain ⟨x3_6, ex3_6, hf⟩ := gvi_ex hf
  refine W.eq (g2 := F0 m 11 ls [.int x3_6]) (by rw [← ex3_6]) ?_
  refine lv_istore_n (lv' := [(3, .int x3_6), (2, .int x2_5), (0, .ref (G.2.1 b)), (1, .int a1)]) cx.1 cx.2.1 dX7_dealByChance_11 rfl hl (by decide) rfl (fun ls hl => ?_)
  refine lv_iload_n cx.1 cx.2.1 dX7_dealByChance_12 rfl (lv_at hl 3 rfl) ?_
  refine lv_bipush (v := (8 : Int32)) cx.1 cx.2.1 dX7_dealByChance_13 (by decide) ?_
  refine lv_irem cx.1 cx.2.1 dX7_dealByChance_15 (by decide) ?_
  by_cases hs_9 : (a1 - a1 / (8 : Int32) * (8 : Int32)) = (0 : Int32)
  · rw [if_pos hs_9] at hf
    refine lv_tableIn (off := 28) (tgt := 44) cx.1 cx.2.1 dX7_dealByChance_16 (by rw [hs_9]; decide) (by rw [hs_9]; decide) (by rw [hs_9]; decide) (by decide) ?_
    refine lv_aload_n cx.1 cx.2.1 dX7_dealByChance_44 rfl (lv_at hl 2 rfl) ?_
    refine lv_iload_n cx.1 cx.2.1 dX7_dealByChance_45 rfl (lv_at hl 1 rfl) ?_
    refine lv_iconst (v := (1 : Int32)) cx.1 cx.2.1 dX7_dealByChance_46 (by decide) ?_
    refine lv_iload_n cx.1 cx.2.1 dX7_dealByChance_47 rfl (lv_at hl 0 rfl) ?_
    refine lv_bipush (v := (6 : Int32)) cx.1 cx.2.1 dX7_dealByChance_48 (by decide) ?_
    refine lv_irem cx.1 cx.2.1 dX7_dealByChance_50 (by decide) ?_
    refine lv_iadd cx.1 cx.2.1 dX7_dealByChance_51 ?_
    obtain ⟨v_8, S_7, hv, hf⟩ := gbi_some hf
    refine g_V (As := [.int x2_5, .int ((1 : Int32) + (x3_6 - x3_6 / (6 : Int32) * (6 : Int32)))]) (rest := []) cx hw hS (c_X7_tryTrain l G hb x2_5 ((1 : Int32) + (x3_6 - x3_6 / (6 : Int32) * (6 : Int32))) S v_8 S_7 hv) (Nat.lt_of_lt_of_le hb.lt0 hN) (he_s0 hb) rfl rfl gw_760 gy_X7_tryTrain gi_X7_tryTrain ⟨Nat.le_of_ble_eq_true rfl, Nat.le_of_ble_eq_true rfl⟩ ⟨Nat.zero_le _, Nat.zero_le _⟩ rfl hl.1 rfl (Nat.le_of_ble_eq_true rfl) dX7_dealByChance_52 (fun H locs hw hS => ?_)
    refine W.eq (g2 := F0 m 55 ls [.int v_8]) rfl ?_
    refine lv_pop cx.1 cx.2.1 dX7_dealByChance_55 rfl ?_
    refine lv_goto (tgt := 125) cx.1 cx.2.1 dX7_dealByChance_56 (by decide) ?_
    exact g_vreti cx hr hlk hw hS hf dX7_dealByChance_125
  rw [if_neg hs_9] at hf
  by_cases hs_10 : (a1 - a1 / (8 : Int32) * (8 : Int32)) = (1 : Int32)
  · rw [if_pos hs_10] at hf
    refine lv_tableIn (off := 43) (tgt := 59) cx.1 cx.2.1 dX7_dealByChance_16 (by rw [hs_10]; decide) (by rw [hs_10]; decide) (by rw [hs_10]; decide) (by decide) ?_
    refine lv_aload_n cx.1 cx.2.1 dX7_dealByChance_59 rfl (lv_at hl 2 rfl) ?_
    refine lv_iload_n cx.1 cx.2.1 dX7_dealByChance_60 rfl (lv_at hl 1 rfl) ?_
    refine lv_aload_n cx.1 cx.2.1 dX7_dealByChance_61 rfl (lv_at hl 2 rfl) ?_
    refine g_get (C := RX7) (T := TX7) (N := 9) (v := .ref (G.2.1 (b + 1))) cx hw inlX7 b (Nat.lt_of_lt_of_le hb.lt0 hN) (he_s0 hb) rfl 0 (by decide) gw_43 rfl rfl dX7_dealByChance_62 ?_
    refine g_get (C := RX8) (T := TX8) (N := 5) (v := .int (S (b + 1) 4)) cx hw inlX8 (b + 1) (Nat.lt_of_lt_of_le (hb.lt (j := 1) (by omega)) hN) (he_s1 hb) rfl 4 (by decide) gw_109 rfl rfl dX7_dealByChance_65 ?_
    refine lv_if_le (tgt := 83) cx.1 cx.2.1 dX7_dealByChance_68 (by decide) (fun hc => ?_) (fun hc => ?_)
    · rw [if_pos hc] at hf
      refine lv_bipush (v := (-9 : Int32)) cx.1 cx.2.1 dX7_dealByChance_83 (by decide) ?_
      exact hB_85 S (-9 : Int32) x2_5 _ _ _ hw hS (lv_sub hl [] rfl) hf
    · rw [if_neg hc] at hf
      refine lv_iload_n cx.1 cx.2.1 dX7_dealByChance_71 rfl (lv_at hl 0 rfl) ?_
      refine lv_aload_n cx.1 cx.2.1 dX7_dealByChance_72 rfl (lv_at hl 2 rfl) ?_
      refine g_get (C := RX7) (T := TX7) (N := 9) (v := .ref (G.2.1 (b + 1))) cx hw inlX7 b (Nat.lt_of_lt_of_le hb.lt0 hN) (he_s0 hb) rfl 0 (by decide) gw_43 rfl rfl dX7_dealByChance_73 ?_
      refine g_get (C := RX8) (T := TX8) (N := 5) (v := .int (S (b + 1) 4)) cx hw inlX8 (b + 1) (Nat.lt_of_lt_of_le (hb.lt (j := 1) (by omega)) hN) (he_s1 hb) rfl 4 (by decide) gw_109 rfl rfl dX7_dealByChance_76 ?_
      obtain ⟨hne, hf⟩ := gck_some hf
      refine lv_irem cx.1 cx.2.1 dX7_dealByChance_79 (by simpa using hne) ?_
      refine lv_goto (tgt := 85) cx.1 cx.2.1 dX7_dealByChance_80 (by decide) ?_
      exact hB_85 S (x3_6 - x3_6 / (S (b + 1) 4) * (S (b + 1) 4)) x2_5 _ _ _ hw hS (lv_sub hl [] rfl) hf
  rw [if_neg hs_10] at hf
  by_cases hs_11 : (a1 - a1 / (8 : Int32) * (8 : Int32)) = (2 : Int32)
  · rw [if_pos hs_11] at hf
    refine lv_tableIn (off := 76) (tgt := 92) cx.1 cx.2.1 dX7_dealByChance_16 (by rw [hs_11]; decide) (by rw [hs_11]; decide) (by rw [hs_11]; decide) (by decide) ?_
    refine lv_aload_n cx.1 cx.2.1 dX7_dealByChance_92 rfl (lv_at hl 2 rfl) ?_
    refine lv_iload_n cx.1 cx.2.1 dX7_dealByChance_93 rfl (lv_at hl 1 rfl) ?_
    refine lv_aload_n cx.1 cx.2.1 dX7_dealByChance_94 rfl (lv_at hl 2 rfl) ?_
    refine g_get (C := RX7) (T := TX7) (N := 9) (v := .ref (G.2.1 (b + 2))) cx hw inlX7 b (Nat.lt_of_lt_of_le hb.lt0 hN) (he_s0 hb) rfl 1 (by decide) gw_47 rfl rfl dX7_dealByChance_95 ?_
    refine g_get (C := RX1) (T := TX1) (N := 7) (v := .int (S (b + 2) 6)) cx hw inlX1 (b + 2) (Nat.lt_of_lt_of_le (hb.lt (j := 2) (by omega)) hN) (he_s2 hb) rfl 6 (by decide) gw_110 rfl rfl dX7_dealByChance_98 ?_
    refine lv_if_le (tgt := 116) cx.1 cx.2.1 dX7_dealByChance_101 (by decide) (fun hc => ?_) (fun hc => ?_)
    · rw [if_pos hc] at hf
      refine lv_bipush (v := (-9 : Int32)) cx.1 cx.2.1 dX7_dealByChance_116 (by decide) ?_
      exact hB_118 S (-9 : Int32) x2_5 _ _ _ hw hS (lv_sub hl [] rfl) hf
    · rw [if_neg hc] at hf
      refine lv_iload_n cx.1 cx.2.1 dX7_dealByChance_104 rfl (lv_at hl 0 rfl) ?_
      refine lv_aload_n cx.1 cx.2.1 dX7_dealByChance_105 rfl (lv_at hl 2 rfl) ?_
      refine g_get (C := RX7) (T := TX7) (N := 9) (v := .ref (G.2.1 (b + 2))) cx hw inlX7 b (Nat.lt_of_lt_of_le hb.lt0 hN) (he_s0 hb) rfl 1 (by decide) gw_47 rfl rfl dX7_dealByChance_106 ?_
      refine g_get (C := RX1) (T := TX1) (N := 7) (v := .int (S (b + 2) 6)) cx hw inlX1 (b + 2) (Nat.lt_of_lt_of_le (hb.lt (j := 2) (by omega)) hN) (he_s2 hb) rfl 6 (by decide) gw_110 rfl rfl dX7_dealByChance_109 ?_
      obtain ⟨hne, hf⟩ := gck_some hf
      refine lv_irem cx.1 cx.2.1 dX7_dealByChance_112 (by simpa using hne) ?_
      refine lv_goto (tgt := 118) cx.1 cx.2.1 dX7_dealByChance_113 (by decide) ?_
      exact hB_118 S (x3_6 - x3_6 / (S (b + 2) 6) * (S (b + 2) 6)) x2_5 _ _ _ hw hS (lv_sub hl [] rfl) hf
  rw [if_neg hs_11] at hf
  refine lv_tableOut (tgt := 125) cx.1 cx.2.1 dX7_dealByChance_16 (by have := sw_nek (k := 0) hs_9 (by decide); have := sw_nek (k := 1) hs_10 (by decide); have := sw_nek (k := 2) hs_11 (by decide); omega) (by decide) ?_
  exact g_vreti cx hr hlk hw hS hf dX7_dealByChance_125
set_option maxHeartbeats 4000000 in
set_option maxRecDepth 100000 in
theorem c_X8_lengthsOf (l : Launch) (G : gG) {b : Nat} (hb : IsSt b) (a1 : Int32) (S : Sg) (r : Int32) (S' : Sg) (hf : f_X8_lengthsOf b a1 S = some (r, S')) : Ct l yX8_lengthsOf [Cond.code yX8_lengthsOf cX8_lengthsOf 4 (some .int)] (gR 1 21) G [.ref (G.2.1 (b + 1)), .int a1] S (some (.int r)) S' := by
  refine Ct_of (by decide) (Nat.le_of_ble_eq_true rfl) ?_
  intro p e s m below meth c ls cx hr hlk hw hS hl
  have hN := cx.2.2.2.2.hN
  have hL_4 : ∀ (n : Nat), ∀ (S : Sg) (x1 : Int32) (x2 : Int32) (x3 : Int32) (H : Heap) (locs : List Loc) (ls : Array Slot), gP G S H → va_S (gA G s.heap.size) s.heap H locs → lv_has ls 4 [(0, .ref (G.2.1 (b + 1))), (1, .int x1), (2, .int x2), (3, .int x3)] → L_X8_lengthsOf_4 b n S x1 x2 x3 = some (r, S') → W p l e (gR 1 21) s m ([.ref (G.2.1 (b + 1)), .int a1] : List Value).toArray below meth c H locs 0 0 (MQ below (gQ G S' (some (.int r)) (gA G s.heap.size)) ([.ref (G.2.1 (b + 1)), .int a1] : List Value).toArray s 0 0 (gA G s.heap.size)) (F0 m 4 ls []) := by
    intro n
    induction n with
    | zero => intro S x1 x2 x3 H locs ls hw hS hl hf; cases hf
    | succ n hK4 =>
      intro S x1 x2 x3 H locs ls hw hS hl hf
      have hf : Lb_X8_lengthsOf_4 b (L_X8_lengthsOf_4 b n) S x1 x2 x3 = some (r, S') := hf
      unfold Lb_X8_lengthsOf_4 at hf
      refine lv_iload_n cx.1 cx.2.1 dX8_lengthsOf_4 rfl (lv_at hl 3 rfl) ?_
      refine lv_aload_n cx.1 cx.2.1 dX8_lengthsOf_5 rfl (lv_at hl 0 rfl) ?_
      refine g_get (C := RX8) (T := TX8) (N := 5) (v := .int (S (b + 1) 4)) cx hw inlX8 (b + 1) (Nat.lt_of_lt_of_le (hb.lt (j := 1) (by omega)) hN) (he_s1 hb) rfl 4 (by decide) gw_129 rfl rfl dX8_lengthsOf_6 ?_
      refine lv_icmp_ge (tgt := 45) cx.1 cx.2.1 dX8_lengthsOf_9 (by decide) (fun hc => ?_) (fun hc => ?_)
      · rw [if_pos hc] at hf
        refine lv_iload_n cx.1 cx.2.1 dX8_lengthsOf_45 rfl (lv_at hl 2 rfl) ?_
        exact g_ireti cx hr hlk hw hS hf dX8_lengthsOf_46
      · rw [if_neg hc] at hf
        refine lv_iload_n cx.1 cx.2.1 dX8_lengthsOf_12 rfl (lv_at hl 2 rfl) ?_
        refine lv_aload_n cx.1 cx.2.1 dX8_lengthsOf_13 rfl (lv_at hl 0 rfl) ?_
        refine g_get (C := RX8) (T := TX8) (N := 5) (v := .ref (G.2.1 (b + 7))) cx hw inlX8 (b + 1) (Nat.lt_of_lt_of_le (hb.lt (j := 1) (by omega)) hN) (he_s1 hb) rfl 3 (by decide) gw_58 rfl rfl dX8_lengthsOf_14 ?_
        refine lv_iload_n cx.1 cx.2.1 dX8_lengthsOf_17 rfl (lv_at hl 3 rfl) ?_
        obtain ⟨v_2, S_1, hv, hf⟩ := gbi_some hf
        refine g_N (As := [.ref (G.2.1 (b + 7)), .int x3]) (rest := [.int x2]) cx hw hS (c_X10_at l G (ia_s7 hN hb) x3 S v_2 S_1 hv) gnm_25 gy_X10_at gi_X10_at ⟨Nat.le_of_ble_eq_true rfl, Nat.le_of_ble_eq_true rfl⟩ ⟨Nat.zero_le _, Nat.zero_le _⟩ rfl hl.1 rfl (Nat.le_of_ble_eq_true rfl) dX8_lengthsOf_18 (fun H locs hw hS => ?_)
        refine W.eq (g2 := F0 m 21 ls [.int v_2, .int x2]) rfl ?_
        refine lv_iload_n cx.1 cx.2.1 dX8_lengthsOf_21 rfl (lv_at hl 1 rfl) ?_
        refine lv_icmp_ne (tgt := 36) cx.1 cx.2.1 dX8_lengthsOf_22 (by decide) (fun hc => ?_) (fun hc => ?_)
        · rw [if_neg hc] at hf
          refine lv_iconst (v := (0 : Int32)) cx.1 cx.2.1 dX8_lengthsOf_36 (by decide) ?_
          refine lv_iadd cx.1 cx.2.1 dX8_lengthsOf_37 ?_
          obtain ⟨x2_3, ex2_3, hf⟩ := gvi_ex hf
          refine W.eq (g2 := F0 m 38 ls [.int x2_3]) (by rw [← ex2_3]) ?_
          refine lv_istore_n (lv' := [(2, .int x2_3), (0, .ref (G.2.1 (b + 1))), (1, .int x1), (3, .int x3)]) cx.1 cx.2.1 dX8_lengthsOf_38 rfl hl (by decide) rfl (fun ls hl => ?_)
          obtain ⟨x3_4, ex3_4, hf⟩ := gvi_ex hf
          refine lv_iinc (v := x3_4) (lv' := [(3, .int x3_4), (2, .int x2_3), (0, .ref (G.2.1 (b + 1))), (1, .int x1)]) cx.1 cx.2.1 dX8_lengthsOf_39 hl (k := 3) rfl (by rw [← ex3_4]; rfl) (by decide) rfl (fun ls hl => ?_)
          refine lv_goto (tgt := 4) cx.1 cx.2.1 dX8_lengthsOf_42 (by decide) ?_
          exact hK4 S_1 x1 x2_3 x3_4 _ _ _ hw hS (lv_sub hl [2, 3, 1, 0] rfl) hf
        · rw [if_pos hc] at hf
          refine lv_aload_n cx.1 cx.2.1 dX8_lengthsOf_25 rfl (lv_at hl 0 rfl) ?_
          refine g_get (C := RX8) (T := TX8) (N := 5) (v := .ref (G.2.1 (b + 6))) cx hw inlX8 (b + 1) (Nat.lt_of_lt_of_le (hb.lt (j := 1) (by omega)) hN) (he_s1 hb) rfl 2 (by decide) gw_57 rfl rfl dX8_lengthsOf_26 ?_
          refine lv_iload_n cx.1 cx.2.1 dX8_lengthsOf_29 rfl (lv_at hl 3 rfl) ?_
          obtain ⟨v_6, S_5, hv, hf⟩ := gbi_some hf
          refine g_N (As := [.ref (G.2.1 (b + 6)), .int x3]) (rest := [.int x2]) cx hw hS (c_X10_at l G (ia_s6 hN hb) x3 S_1 v_6 S_5 hv) gnm_25 gy_X10_at gi_X10_at ⟨Nat.le_of_ble_eq_true rfl, Nat.le_of_ble_eq_true rfl⟩ ⟨Nat.zero_le _, Nat.zero_le _⟩ rfl hl.1 rfl (Nat.le_of_ble_eq_true rfl) dX8_lengthsOf_30 (fun H locs hw hS => ?_)
          refine W.eq (g2 := F0 m 33 ls [.int v_6, .int x2]) rfl ?_
          refine lv_goto (tgt := 37) cx.1 cx.2.1 dX8_lengthsOf_33 (by decide) ?_
          refine lv_iadd cx.1 cx.2.1 dX8_lengthsOf_37 ?_
          obtain ⟨x2_7, ex2_7, hf⟩ := gvi_ex hf
          refine W.eq (g2 := F0 m 38 ls [.int x2_7]) (by rw [← ex2_7]) ?_
          refine lv_istore_n (lv' := [(2, .int x2_7), (0, .ref (G.2.1 (b + 1))), (1, .int x1), (3, .int x3)]) cx.1 cx.2.1 dX8_lengthsOf_38 rfl hl (by decide) rfl (fun ls hl => ?_)
          obtain ⟨x3_8, ex3_8, hf⟩ := gvi_ex hf
          refine lv_iinc (v := x3_8) (lv' := [(3, .int x3_8), (2, .int x2_7), (0, .ref (G.2.1 (b + 1))), (1, .int x1)]) cx.1 cx.2.1 dX8_lengthsOf_39 hl (k := 3) rfl (by rw [← ex3_8]; rfl) (by decide) rfl (fun ls hl => ?_)
          refine lv_goto (tgt := 4) cx.1 cx.2.1 dX8_lengthsOf_42 (by decide) ?_
          exact hK4 S_5 x1 x2_7 x3_8 _ _ _ hw hS (lv_sub hl [2, 3, 1, 0] rfl) hf
  have hl : lv_has ls 4 [(0, .ref (G.2.1 (b + 1))), (1, .int a1)] := hl
  unfold f_X8_lengthsOf at hf
  refine lv_iconst (v := (0 : Int32)) cx.1 cx.2.1 dX8_lengthsOf_0 (by decide) ?_
  refine lv_istore_n (lv' := [(2, .int (0 : Int32)), (0, .ref (G.2.1 (b + 1))), (1, .int a1)]) cx.1 cx.2.1 dX8_lengthsOf_1 rfl hl (by decide) rfl (fun ls hl => ?_)
  refine lv_iconst (v := (0 : Int32)) cx.1 cx.2.1 dX8_lengthsOf_2 (by decide) ?_
  refine lv_istore_n (lv' := [(3, .int (0 : Int32)), (2, .int (0 : Int32)), (0, .ref (G.2.1 (b + 1))), (1, .int a1)]) cx.1 cx.2.1 dX8_lengthsOf_3 rfl hl (by decide) rfl (fun ls hl => ?_)
  exact hL_4 gFu S a1 (0 : Int32) (0 : Int32) _ _ _ hw hS (lv_sub hl [2, 3, 1, 0] rfl) hf
set_option maxHeartbeats 4000000 in
set_option maxRecDepth 100000 in
theorem c_X7_worthOf (l : Launch) (G : gG) {b : Nat} (hb : IsSt b) (a1 : Int32) (S : Sg) (r : Int32) (S' : Sg) (hf : f_X7_worthOf b a1 S = some (r, S')) : Ct l yX7_worthOf [Cond.code yX7_worthOf cX7_worthOf 2 (some .int)] (gR 2 44) G [.ref (G.2.1 b), .int a1] S (some (.int r)) S' := by
  refine Ct_of (by decide) (Nat.le_of_ble_eq_true rfl) ?_
  intro p e s m below meth c ls cx hr hlk hw hS hl
  have hN := cx.2.2.2.2.hN
  have hl : lv_has ls 2 [(0, .ref (G.2.1 b)), (1, .int a1)] := hl
  unfold f_X7_worthOf at hf
  refine lv_aload_n cx.1 cx.2.1 dX7_worthOf_0 rfl (lv_at hl 0 rfl) ?_
  refine g_get (C := RX7) (T := TX7) (N := 9) (v := .ref (G.2.1 (b + 3))) cx hw inlX7 b (Nat.lt_of_lt_of_le hb.lt0 hN) (he_s0 hb) rfl 2 (by decide) gw_51 rfl rfl dX7_worthOf_1 ?_
  refine g_get (C := RX0) (T := TX0) (N := 7) (v := .ref (G.2.1 (b + 14))) cx hw inlX0 (b + 3) (Nat.lt_of_lt_of_le (hb.lt (j := 3) (by omega)) hN) (he_s3 hb) rfl 0 (by decide) gw_448 rfl rfl dX7_worthOf_4 ?_
  refine lv_iload_n cx.1 cx.2.1 dX7_worthOf_7 rfl (lv_at hl 1 rfl) ?_
  obtain ⟨v_2, S_1, hv, hf⟩ := gbi_some hf
  refine g_N (As := [.ref (G.2.1 (b + 14)), .int a1]) (rest := []) cx hw hS (c_X10_at l G (ia_s14 hN hb) a1 S v_2 S_1 hv) gnm_30 gy_X10_at gi_X10_at ⟨Nat.le_of_ble_eq_true rfl, Nat.le_of_ble_eq_true rfl⟩ ⟨Nat.zero_le _, Nat.zero_le _⟩ rfl hl.1 rfl (Nat.le_of_ble_eq_true rfl) dX7_worthOf_8 (fun H locs hw hS => ?_)
  refine W.eq (g2 := F0 m 11 ls [.int v_2]) rfl ?_
  refine lv_iconst (v := (3 : Int32)) cx.1 cx.2.1 dX7_worthOf_11 (by decide) ?_
  refine lv_aload_n cx.1 cx.2.1 dX7_worthOf_12 rfl (lv_at hl 0 rfl) ?_
  refine g_get (C := RX7) (T := TX7) (N := 9) (v := .ref (G.2.1 (b + 1))) cx hw inlX7 b (Nat.lt_of_lt_of_le hb.lt0 hN) (he_s0 hb) rfl 0 (by decide) gw_43 rfl rfl dX7_worthOf_13 ?_
  refine lv_iload_n cx.1 cx.2.1 dX7_worthOf_16 rfl (lv_at hl 1 rfl) ?_
  obtain ⟨v_4, S_3, hv, hf⟩ := gbi_some hf
  refine g_V (As := [.int a1]) (rest := [.int (3 : Int32), .int v_2]) cx hw hS (c_X8_lengthsOf l G hb a1 S_1 v_4 S_3 hv) (Nat.lt_of_lt_of_le (hb.lt (j := 1) (by omega)) hN) (he_s1 hb) rfl rfl gw_686 gy_X8_lengthsOf gi_X8_lengthsOf ⟨Nat.le_of_ble_eq_true rfl, Nat.le_of_ble_eq_true rfl⟩ ⟨Nat.zero_le _, Nat.zero_le _⟩ rfl hl.1 rfl (Nat.le_of_ble_eq_true rfl) dX7_worthOf_17 (fun H locs hw hS => ?_)
  refine W.eq (g2 := F0 m 20 ls [.int v_4, .int (3 : Int32), .int v_2]) rfl ?_
  refine lv_imul cx.1 cx.2.1 dX7_worthOf_20 ?_
  refine lv_iadd cx.1 cx.2.1 dX7_worthOf_21 ?_
  refine lv_bipush (v := (10 : Int32)) cx.1 cx.2.1 dX7_worthOf_22 (by decide) ?_
  refine lv_aload_n cx.1 cx.2.1 dX7_worthOf_24 rfl (lv_at hl 0 rfl) ?_
  refine g_get (C := RX7) (T := TX7) (N := 9) (v := .ref (G.2.1 (b + 3))) cx hw inlX7 b (Nat.lt_of_lt_of_le hb.lt0 hN) (he_s0 hb) rfl 2 (by decide) gw_51 rfl rfl dX7_worthOf_25 ?_
  refine lv_iload_n cx.1 cx.2.1 dX7_worthOf_28 rfl (lv_at hl 1 rfl) ?_
  obtain ⟨v_6, S_5, hv, hf⟩ := gbi_some hf
  refine g_V (As := [.int a1]) (rest := [.int (10 : Int32), .int (v_2 + ((3 : Int32) * v_4))]) cx hw hS (c_X0_levelsOf l G hb a1 S_3 v_6 S_5 hv) (Nat.lt_of_lt_of_le (hb.lt (j := 3) (by omega)) hN) (he_s3 hb) rfl rfl gw_648 gy_X0_levelsOf gi_X0_levelsOf ⟨Nat.le_of_ble_eq_true rfl, Nat.le_of_ble_eq_true rfl⟩ ⟨Nat.zero_le _, Nat.zero_le _⟩ rfl hl.1 rfl (Nat.le_of_ble_eq_true rfl) dX7_worthOf_29 (fun H locs hw hS => ?_)
  refine W.eq (g2 := F0 m 32 ls [.int v_6, .int (10 : Int32), .int (v_2 + ((3 : Int32) * v_4))]) rfl ?_
  refine lv_imul cx.1 cx.2.1 dX7_worthOf_32 ?_
  refine lv_iadd cx.1 cx.2.1 dX7_worthOf_33 ?_
  exact g_ireti cx hr hlk hw hS hf dX7_worthOf_34
set_option maxHeartbeats 4000000 in
set_option maxRecDepth 100000 in
theorem c_X7_greatestWorth (l : Launch) (G : gG) {b : Nat} (hb : IsSt b) (S : Sg) (r : Int32) (S' : Sg) (hf : f_X7_greatestWorth b S = some (r, S')) : Ct l yX7_greatestWorth [Cond.code yX7_greatestWorth cX7_greatestWorth 3 (some .int)] (gR 3 65) G [.ref (G.2.1 b)] S (some (.int r)) S' := by
  refine Ct_of (by decide) (Nat.le_of_ble_eq_true rfl) ?_
  intro p e s m below meth c ls cx hr hlk hw hS hl
  have hN := cx.2.2.2.2.hN
  have hL_8 : ∀ (n : Nat), ∀ (S : Sg) (x1 : Int32) (x2 : Int32) (H : Heap) (locs : List Loc) (ls : Array Slot), gP G S H → va_S (gA G s.heap.size) s.heap H locs → lv_has ls 3 [(0, .ref (G.2.1 b)), (1, .int x1), (2, .int x2)] → L_X7_greatestWorth_8 b n S x1 x2 = some (r, S') → W p l e (gR 3 65) s m ([.ref (G.2.1 b)] : List Value).toArray below meth c H locs 0 0 (MQ below (gQ G S' (some (.int r)) (gA G s.heap.size)) ([.ref (G.2.1 b)] : List Value).toArray s 0 0 (gA G s.heap.size)) (F0 m 8 ls []) := by
    intro n
    induction n with
    | zero => intro S x1 x2 H locs ls hw hS hl hf; cases hf
    | succ n hK8 =>
      intro S x1 x2 H locs ls hw hS hl hf
      have hf : Lb_X7_greatestWorth_8 b (L_X7_greatestWorth_8 b n) S x1 x2 = some (r, S') := hf
      unfold Lb_X7_greatestWorth_8 at hf
      refine lv_iload_n cx.1 cx.2.1 dX7_greatestWorth_8 rfl (lv_at hl 2 rfl) ?_
      refine lv_iconst (v := (4 : Int32)) cx.1 cx.2.1 dX7_greatestWorth_9 (by decide) ?_
      refine lv_icmp_ge (tgt := 29) cx.1 cx.2.1 dX7_greatestWorth_10 (by decide) (fun hc => ?_) (fun hc => ?_)
      · rw [if_pos hc] at hf
        refine lv_iload_n cx.1 cx.2.1 dX7_greatestWorth_29 rfl (lv_at hl 1 rfl) ?_
        exact g_ireti cx hr hlk hw hS hf dX7_greatestWorth_30
      · rw [if_neg hc] at hf
        refine lv_iload_n cx.1 cx.2.1 dX7_greatestWorth_13 rfl (lv_at hl 1 rfl) ?_
        refine lv_aload_n cx.1 cx.2.1 dX7_greatestWorth_14 rfl (lv_at hl 0 rfl) ?_
        refine lv_iload_n cx.1 cx.2.1 dX7_greatestWorth_15 rfl (lv_at hl 2 rfl) ?_
        obtain ⟨v_2, S_1, hv, hf⟩ := gbi_some hf
        refine g_V (As := [.int x2]) (rest := [.int x1]) cx hw hS (c_X7_worthOf l G hb x2 S v_2 S_1 hv) (Nat.lt_of_lt_of_le hb.lt0 hN) (he_s0 hb) rfl rfl gw_773 gy_X7_worthOf gi_X7_worthOf ⟨Nat.le_of_ble_eq_true rfl, Nat.le_of_ble_eq_true rfl⟩ ⟨Nat.zero_le _, Nat.zero_le _⟩ rfl hl.1 rfl (Nat.le_of_ble_eq_true rfl) dX7_greatestWorth_16 (fun H locs hw hS => ?_)
        refine W.eq (g2 := F0 m 19 ls [.int v_2, .int x1]) rfl ?_
        refine va_mmax cx.1 cx.2.1 (cx.2.2.1.trans hl.1.symm) cx.2.2.2.1 (cx.2.2.2.2.ts _ gw_772) (cx.2.2.2.2.ts _ gw_612) (cx.2.2.2.2.ts _ gw_331) (cx.2.2.2.2.ts _ gw_613) (Nat.le_of_ble_eq_true rfl) (Nat.le_of_ble_eq_true rfl) (Nat.zero_le _) (Nat.zero_le _) dX7_greatestWorth_19 ?_
        obtain ⟨x1_3, ex1_3, hf⟩ := gvi_ex hf
        refine W.eq (g2 := F0 m 22 ls [.int x1_3]) (by rw [← ex1_3]) ?_
        refine lv_istore_n (lv' := [(1, .int x1_3), (0, .ref (G.2.1 b)), (2, .int x2)]) cx.1 cx.2.1 dX7_greatestWorth_22 rfl hl (by decide) rfl (fun ls hl => ?_)
        obtain ⟨x2_4, ex2_4, hf⟩ := gvi_ex hf
        refine lv_iinc (v := x2_4) (lv' := [(2, .int x2_4), (1, .int x1_3), (0, .ref (G.2.1 b))]) cx.1 cx.2.1 dX7_greatestWorth_23 hl (k := 2) rfl (by rw [← ex2_4]; rfl) (by decide) rfl (fun ls hl => ?_)
        refine lv_goto (tgt := 8) cx.1 cx.2.1 dX7_greatestWorth_26 (by decide) ?_
        exact hK8 S_1 x1_3 x2_4 _ _ _ hw hS (lv_sub hl [2, 1, 0] rfl) hf
  have hl : lv_has ls 3 [(0, .ref (G.2.1 b))] := hl
  unfold f_X7_greatestWorth at hf
  refine lv_aload_n cx.1 cx.2.1 dX7_greatestWorth_0 rfl (lv_at hl 0 rfl) ?_
  refine lv_iconst (v := (0 : Int32)) cx.1 cx.2.1 dX7_greatestWorth_1 (by decide) ?_
  obtain ⟨v_6, S_5, hv, hf⟩ := gbi_some hf
  refine g_V (As := [.int (0 : Int32)]) (rest := []) cx hw hS (c_X7_worthOf l G hb (0 : Int32) S v_6 S_5 hv) (Nat.lt_of_lt_of_le hb.lt0 hN) (he_s0 hb) rfl rfl gw_773 gy_X7_worthOf gi_X7_worthOf ⟨Nat.le_of_ble_eq_true rfl, Nat.le_of_ble_eq_true rfl⟩ ⟨Nat.zero_le _, Nat.zero_le _⟩ rfl hl.1 rfl (Nat.le_of_ble_eq_true rfl) dX7_greatestWorth_2 (fun H locs hw hS => ?_)
  refine W.eq (g2 := F0 m 5 ls [.int v_6]) rfl ?_
  refine lv_istore_n (lv' := [(1, .int v_6), (0, .ref (G.2.1 b))]) cx.1 cx.2.1 dX7_greatestWorth_5 rfl hl (by decide) rfl (fun ls hl => ?_)
  refine lv_iconst (v := (1 : Int32)) cx.1 cx.2.1 dX7_greatestWorth_6 (by decide) ?_
  refine lv_istore_n (lv' := [(2, .int (1 : Int32)), (1, .int v_6), (0, .ref (G.2.1 b))]) cx.1 cx.2.1 dX7_greatestWorth_7 rfl hl (by decide) rfl (fun ls hl => ?_)
  exact hL_8 gFu S_5 v_6 (1 : Int32) _ _ _ hw hS (lv_sub hl [2, 1, 0] rfl) hf
