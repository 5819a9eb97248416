set_option maxHeartbeats 4000000 in
set_option maxRecDepth 100000 in
theorem c_X10_about (l : Launch) (hst : l.stackTraces = false) (G : gG) (a1 : Int32) (S : Sg) (k : Nat) (r : Int32) (S' : Sg) (hf : f_X10_about a1 S = some (k, r, S')) : Cx l yX10_about [Cond.code yX10_about cX10_about 2 (some .int)] (gRx 6 90 1 6) G [.ref (G.2.1 0), .int a1] S k (some (.int r)) S' 1 6 := by
  refine Cx_of (by decide) (Nat.le_of_ble_eq_true rfl) ?_
  intro p e s m below meth c ls cx hX hZ hexn hr hlk hw hS hl
  have hN := cx.2.2.2.2.hN
  have hl : lv_has ls 2 [(0, .ref (G.2.1 0)), (1, .int a1)] := hl
  unfold f_X10_about at hf
  refine lv_iload_n cx.1 cx.2.1 dX10_about_0 rfl (lv_at hl 1 rfl) ?_
  by_cases hs_1 : a1 = (0 : Int32)
  · rw [if_pos hs_1] at hf
    refine lv_tableIn (off := 59) (tgt := 60) cx.1 cx.2.1 dX10_about_1 (by rw [hs_1]; decide) (by rw [hs_1]; decide) (by rw [hs_1]; decide) (by decide) ?_
    refine lv_aload_n cx.1 cx.2.1 dX10_about_60 rfl (lv_at hl 0 rfl) ?_
    refine g_get (C := RX10) (T := TX10) (N := 6) (v := .ref (G.2.1 14)) cx hw inlX10 0 (by omega) he_c0 rfl 1 (by decide) gw_17 rfl rfl dX10_about_61 ?_
    refine g_get (C := RX7) (T := TX7) (N := 9) (v := .int (S 14 3)) cx hw inlX7 14 (Nat.lt_of_lt_of_le st_14.lt0 hN) (he_s0 st_14) rfl 3 (by decide) gw_197 rfl rfl dX10_about_64 ?_
    exact gx_ireti cx hr hlk hw hS hf dX10_about_67 (Nat.le_of_ble_eq_true rfl) (Nat.le_of_ble_eq_true rfl)
  rw [if_neg hs_1] at hf
  by_cases hs_2 : a1 = (1 : Int32)
  · rw [if_pos hs_2] at hf
    refine lv_tableIn (off := 67) (tgt := 68) cx.1 cx.2.1 dX10_about_1 (by rw [hs_2]; decide) (by rw [hs_2]; decide) (by rw [hs_2]; decide) (by decide) ?_
    refine lv_aload_n cx.1 cx.2.1 dX10_about_68 rfl (lv_at hl 0 rfl) ?_
    refine g_get (C := RX10) (T := TX10) (N := 6) (v := .ref (G.2.1 14)) cx hw inlX10 0 (by omega) he_c0 rfl 1 (by decide) gw_17 rfl rfl dX10_about_69 ?_
    refine g_get (C := RX7) (T := TX7) (N := 9) (v := .ref (G.2.1 (14 + 1))) cx hw inlX7 14 (Nat.lt_of_lt_of_le st_14.lt0 hN) (he_s0 st_14) rfl 0 (by decide) gw_31 rfl rfl dX10_about_72 ?_
    refine g_get (C := RX8) (T := TX8) (N := 5) (v := .int (S (14 + 1) 4)) cx hw inlX8 (14 + 1) (Nat.lt_of_lt_of_le (st_14.lt (j := 1) (by omega)) hN) (he_s1 st_14) rfl 4 (by decide) gw_198 rfl rfl dX10_about_75 ?_
    exact gx_ireti cx hr hlk hw hS hf dX10_about_78 (Nat.le_of_ble_eq_true rfl) (Nat.le_of_ble_eq_true rfl)
  rw [if_neg hs_2] at hf
  by_cases hs_3 : a1 = (2 : Int32)
  · rw [if_pos hs_3] at hf
    refine lv_tableIn (off := 78) (tgt := 79) cx.1 cx.2.1 dX10_about_1 (by rw [hs_3]; decide) (by rw [hs_3]; decide) (by rw [hs_3]; decide) (by decide) ?_
    refine lv_aload_n cx.1 cx.2.1 dX10_about_79 rfl (lv_at hl 0 rfl) ?_
    refine g_get (C := RX10) (T := TX10) (N := 6) (v := .ref (G.2.1 14)) cx hw inlX10 0 (by omega) he_c0 rfl 1 (by decide) gw_17 rfl rfl dX10_about_80 ?_
    refine g_get (C := RX7) (T := TX7) (N := 9) (v := .ref (G.2.1 (14 + 2))) cx hw inlX7 14 (Nat.lt_of_lt_of_le st_14.lt0 hN) (he_s0 st_14) rfl 1 (by decide) gw_199 rfl rfl dX10_about_83 ?_
    refine g_get (C := RX1) (T := TX1) (N := 7) (v := .int (S (14 + 2) 6)) cx hw inlX1 (14 + 2) (Nat.lt_of_lt_of_le (st_14.lt (j := 2) (by omega)) hN) (he_s2 st_14) rfl 6 (by decide) gw_200 rfl rfl dX10_about_86 ?_
    exact gx_ireti cx hr hlk hw hS hf dX10_about_89 (Nat.le_of_ble_eq_true rfl) (Nat.le_of_ble_eq_true rfl)
  rw [if_neg hs_3] at hf
  by_cases hs_4 : a1 = (3 : Int32)
  · rw [if_pos hs_4] at hf
    refine lv_tableIn (off := 89) (tgt := 90) cx.1 cx.2.1 dX10_about_1 (by rw [hs_4]; decide) (by rw [hs_4]; decide) (by rw [hs_4]; decide) (by decide) ?_
    refine lv_aload_n cx.1 cx.2.1 dX10_about_90 rfl (lv_at hl 0 rfl) ?_
    refine g_get (C := RX10) (T := TX10) (N := 6) (v := .ref (G.2.1 14)) cx hw inlX10 0 (by omega) he_c0 rfl 1 (by decide) gw_17 rfl rfl dX10_about_91 ?_
    refine g_get (C := RX7) (T := TX7) (N := 9) (v := .int (S 14 4)) cx hw inlX7 14 (Nat.lt_of_lt_of_le st_14.lt0 hN) (he_s0 st_14) rfl 4 (by decide) gw_201 rfl rfl dX10_about_94 ?_
    exact gx_ireti cx hr hlk hw hS hf dX10_about_97 (Nat.le_of_ble_eq_true rfl) (Nat.le_of_ble_eq_true rfl)
  rw [if_neg hs_4] at hf
  by_cases hs_5 : a1 = (4 : Int32)
  · rw [if_pos hs_5] at hf
    refine lv_tableIn (off := 97) (tgt := 98) cx.1 cx.2.1 dX10_about_1 (by rw [hs_5]; decide) (by rw [hs_5]; decide) (by rw [hs_5]; decide) (by decide) ?_
    refine lv_aload_n cx.1 cx.2.1 dX10_about_98 rfl (lv_at hl 0 rfl) ?_
    refine g_get (C := RX10) (T := TX10) (N := 6) (v := .ref (G.2.1 14)) cx hw inlX10 0 (by omega) he_c0 rfl 1 (by decide) gw_17 rfl rfl dX10_about_99 ?_
    refine g_get (C := RX7) (T := TX7) (N := 9) (v := .int (S 14 5)) cx hw inlX7 14 (Nat.lt_of_lt_of_le st_14.lt0 hN) (he_s0 st_14) rfl 5 (by decide) gw_202 rfl rfl dX10_about_102 ?_
    exact gx_ireti cx hr hlk hw hS hf dX10_about_105 (Nat.le_of_ble_eq_true rfl) (Nat.le_of_ble_eq_true rfl)
  rw [if_neg hs_5] at hf
  by_cases hs_8 : a1 = (5 : Int32)
  · rw [if_pos hs_8] at hf
    refine lv_tableIn (off := 105) (tgt := 106) cx.1 cx.2.1 dX10_about_1 (by rw [hs_8]; decide) (by rw [hs_8]; decide) (by rw [hs_8]; decide) (by decide) ?_
    refine lv_aload_n cx.1 cx.2.1 dX10_about_106 rfl (lv_at hl 0 rfl) ?_
    refine g_get (C := RX10) (T := TX10) (N := 6) (v := .ref (G.2.1 14)) cx hw inlX10 0 (by omega) he_c0 rfl 1 (by decide) gw_17 rfl rfl dX10_about_107 ?_
    refine g_get (C := RX7) (T := TX7) (N := 9) (v := .ref (G.2.1 (14 + 3))) cx hw inlX7 14 (Nat.lt_of_lt_of_le st_14.lt0 hN) (he_s0 st_14) rfl 2 (by decide) gw_203 rfl rfl dX10_about_110 ?_
    refine g_get (C := RX0) (T := TX0) (N := 7) (v := .ref (G.2.1 (14 + 14))) cx hw inlX0 (14 + 3) (Nat.lt_of_lt_of_le (st_14.lt (j := 3) (by omega)) hN) (he_s3 st_14) rfl 0 (by decide) gw_204 rfl rfl dX10_about_113 ?_
    refine lv_iconst (v := (4 : Int32)) cx.1 cx.2.1 dX10_about_116 (by decide) ?_
    obtain ⟨v_7, S_6, hv, hf⟩ := gbi_some hf
    refine g_S (As := [.ref (G.2.1 (14 + 14)), .int (4 : Int32)]) (rest := []) cx hw hS (c_X10_at l G (ia_s14 hN st_14) (4 : Int32) S v_7 S_6 hv) gw_210 gy_X10_at gi_X10_at ⟨Nat.le_of_ble_eq_true rfl, Nat.le_of_ble_eq_true rfl⟩ ⟨Nat.le_of_ble_eq_true rfl, Nat.le_of_ble_eq_true rfl⟩ rfl hl.1 rfl (Nat.le_of_ble_eq_true rfl) dX10_about_117 (fun H locs hw hS => ?_)
    refine W.eq (g2 := F0 m 120 ls [.int v_7]) rfl ?_
    exact gx_ireti cx hr hlk hw hS hf dX10_about_120 (Nat.le_of_ble_eq_true rfl) (Nat.le_of_ble_eq_true rfl)
  rw [if_neg hs_8] at hf
  by_cases hs_11 : a1 = (6 : Int32)
  · rw [if_pos hs_11] at hf
    refine lv_tableIn (off := 120) (tgt := 121) cx.1 cx.2.1 dX10_about_1 (by rw [hs_11]; decide) (by rw [hs_11]; decide) (by rw [hs_11]; decide) (by decide) ?_
    refine lv_aload_n cx.1 cx.2.1 dX10_about_121 rfl (lv_at hl 0 rfl) ?_
    refine g_get (C := RX10) (T := TX10) (N := 6) (v := .ref (G.2.1 14)) cx hw inlX10 0 (by omega) he_c0 rfl 1 (by decide) gw_17 rfl rfl dX10_about_122 ?_
    refine g_get (C := RX7) (T := TX7) (N := 9) (v := .ref (G.2.1 (14 + 3))) cx hw inlX7 14 (Nat.lt_of_lt_of_le st_14.lt0 hN) (he_s0 st_14) rfl 2 (by decide) gw_203 rfl rfl dX10_about_125 ?_
    refine g_get (C := RX0) (T := TX0) (N := 7) (v := .ref (G.2.1 (14 + 16))) cx hw inlX0 (14 + 3) (Nat.lt_of_lt_of_le (st_14.lt (j := 3) (by omega)) hN) (he_s3 st_14) rfl 2 (by decide) gw_205 rfl rfl dX10_about_128 ?_
    obtain ⟨v_10, S_9, hv, hf⟩ := gbi_some hf
    refine g_S (As := [.ref (G.2.1 (14 + 16))]) (rest := []) cx hw hS (c_X10_sum l G (ia_s16 hN st_14) S v_10 S_9 hv) gw_211 gy_X10_sum gi_X10_sum ⟨Nat.le_of_ble_eq_true rfl, Nat.le_of_ble_eq_true rfl⟩ ⟨Nat.le_of_ble_eq_true rfl, Nat.le_of_ble_eq_true rfl⟩ rfl hl.1 rfl (Nat.le_of_ble_eq_true rfl) dX10_about_131 (fun H locs hw hS => ?_)
    refine W.eq (g2 := F0 m 134 ls [.int v_10]) rfl ?_
    exact gx_ireti cx hr hlk hw hS hf dX10_about_134 (Nat.le_of_ble_eq_true rfl) (Nat.le_of_ble_eq_true rfl)
  rw [if_neg hs_11] at hf
  by_cases hs_12 : a1 = (7 : Int32)
  · rw [if_pos hs_12] at hf
    refine lv_tableIn (off := 134) (tgt := 135) cx.1 cx.2.1 dX10_about_1 (by rw [hs_12]; decide) (by rw [hs_12]; decide) (by rw [hs_12]; decide) (by decide) ?_
    refine lv_aload_n cx.1 cx.2.1 dX10_about_135 rfl (lv_at hl 0 rfl) ?_
    refine g_get (C := RX10) (T := TX10) (N := 6) (v := .ref (G.2.1 14)) cx hw inlX10 0 (by omega) he_c0 rfl 1 (by decide) gw_17 rfl rfl dX10_about_136 ?_
    refine g_get (C := RX7) (T := TX7) (N := 9) (v := .int (S 14 6)) cx hw inlX7 14 (Nat.lt_of_lt_of_le st_14.lt0 hN) (he_s0 st_14) rfl 6 (by decide) gw_206 rfl rfl dX10_about_139 ?_
    exact gx_ireti cx hr hlk hw hS hf dX10_about_142 (Nat.le_of_ble_eq_true rfl) (Nat.le_of_ble_eq_true rfl)
  rw [if_neg hs_12] at hf
  by_cases hs_13 : a1 = (8 : Int32)
  · rw [if_pos hs_13] at hf
    refine lv_tableIn (off := 142) (tgt := 143) cx.1 cx.2.1 dX10_about_1 (by rw [hs_13]; decide) (by rw [hs_13]; decide) (by rw [hs_13]; decide) (by decide) ?_
    refine lv_aload_n cx.1 cx.2.1 dX10_about_143 rfl (lv_at hl 0 rfl) ?_
    refine g_get (C := RX10) (T := TX10) (N := 6) (v := .ref (G.2.1 14)) cx hw inlX10 0 (by omega) he_c0 rfl 1 (by decide) gw_17 rfl rfl dX10_about_144 ?_
    refine g_get (C := RX7) (T := TX7) (N := 9) (v := .int (S 14 7)) cx hw inlX7 14 (Nat.lt_of_lt_of_le st_14.lt0 hN) (he_s0 st_14) rfl 7 (by decide) gw_207 rfl rfl dX10_about_147 ?_
    exact gx_ireti cx hr hlk hw hS hf dX10_about_150 (Nat.le_of_ble_eq_true rfl) (Nat.le_of_ble_eq_true rfl)
  rw [if_neg hs_13] at hf
  by_cases hs_16 : a1 = (9 : Int32)
  · rw [if_pos hs_16] at hf
    refine lv_tableIn (off := 150) (tgt := 151) cx.1 cx.2.1 dX10_about_1 (by rw [hs_16]; decide) (by rw [hs_16]; decide) (by rw [hs_16]; decide) (by decide) ?_
    refine lv_aload_n cx.1 cx.2.1 dX10_about_151 rfl (lv_at hl 0 rfl) ?_
    refine g_get (C := RX10) (T := TX10) (N := 6) (v := .ref (G.2.1 14)) cx hw inlX10 0 (by omega) he_c0 rfl 1 (by decide) gw_17 rfl rfl dX10_about_152 ?_
    refine g_get (C := RX7) (T := TX7) (N := 9) (v := .ref (G.2.1 (14 + 3))) cx hw inlX7 14 (Nat.lt_of_lt_of_le st_14.lt0 hN) (he_s0 st_14) rfl 2 (by decide) gw_203 rfl rfl dX10_about_155 ?_
    refine g_get (C := RX0) (T := TX0) (N := 7) (v := .ref (G.2.1 (14 + 17))) cx hw inlX0 (14 + 3) (Nat.lt_of_lt_of_le (st_14.lt (j := 3) (by omega)) hN) (he_s3 st_14) rfl 3 (by decide) gw_208 rfl rfl dX10_about_158 ?_
    obtain ⟨v_15, S_14, hv, hf⟩ := gbi_some hf
    refine g_S (As := [.ref (G.2.1 (14 + 17))]) (rest := []) cx hw hS (c_X10_sum l G (ia_s17 hN st_14) S v_15 S_14 hv) gw_211 gy_X10_sum gi_X10_sum ⟨Nat.le_of_ble_eq_true rfl, Nat.le_of_ble_eq_true rfl⟩ ⟨Nat.le_of_ble_eq_true rfl, Nat.le_of_ble_eq_true rfl⟩ rfl hl.1 rfl (Nat.le_of_ble_eq_true rfl) dX10_about_161 (fun H locs hw hS => ?_)
    refine W.eq (g2 := F0 m 164 ls [.int v_15]) rfl ?_
    exact gx_ireti cx hr hlk hw hS hf dX10_about_164 (Nat.le_of_ble_eq_true rfl) (Nat.le_of_ble_eq_true rfl)
  rw [if_neg hs_16] at hf
  by_cases hs_17 : a1 = (10 : Int32)
  · rw [if_pos hs_17] at hf
    refine lv_tableIn (off := 164) (tgt := 165) cx.1 cx.2.1 dX10_about_1 (by rw [hs_17]; decide) (by rw [hs_17]; decide) (by rw [hs_17]; decide) (by decide) ?_
    refine lv_aload_n cx.1 cx.2.1 dX10_about_165 rfl (lv_at hl 0 rfl) ?_
    refine g_get (C := RX10) (T := TX10) (N := 6) (v := .ref (G.2.1 14)) cx hw inlX10 0 (by omega) he_c0 rfl 1 (by decide) gw_17 rfl rfl dX10_about_166 ?_
    refine g_get (C := RX7) (T := TX7) (N := 9) (v := .int (S 14 8)) cx hw inlX7 14 (Nat.lt_of_lt_of_le st_14.lt0 hN) (he_s0 st_14) rfl 8 (by decide) gw_209 rfl rfl dX10_about_169 ?_
    exact gx_ireti cx hr hlk hw hS hf dX10_about_172 (Nat.le_of_ble_eq_true rfl) (Nat.le_of_ble_eq_true rfl)
  rw [if_neg hs_17] at hf
  refine lv_tableOut (tgt := 173) cx.1 cx.2.1 dX10_about_1 (by have := sw_nek (k := 0) hs_1 (by decide); have := sw_nek (k := 1) hs_2 (by decide); have := sw_nek (k := 2) hs_3 (by decide); have := sw_nek (k := 3) hs_4 (by decide); have := sw_nek (k := 4) hs_5 (by decide); have := sw_nek (k := 5) hs_8 (by decide); have := sw_nek (k := 6) hs_11 (by decide); have := sw_nek (k := 7) hs_12 (by decide); have := sw_nek (k := 8) hs_13 (by decide); have := sw_nek (k := 9) hs_16 (by decide); have := sw_nek (k := 10) hs_17 (by decide); omega) (by decide) ?_
  exact gx_throw (k := 1) (text := "no such number") cx hX hZ hw hS hst hexn hlk hl.1 gw_195 gw_196 (by decide +kernel) gEo2 (List.mem_of_getElem? (i := 3) rfl) hf dX10_about_173 dX10_about_176 dX10_about_177 dX10_about_179 dX10_about_182 (Nat.le_of_ble_eq_true rfl) (Nat.le_of_ble_eq_true rfl) (Nat.le_of_ble_eq_true rfl) (Nat.le_of_ble_eq_true rfl) (Nat.le_of_ble_eq_true rfl) (Nat.le_of_ble_eq_true rfl)
set_option maxHeartbeats 4000000 in
set_option maxRecDepth 100000 in
theorem c_X10_needRange (l : Launch) (hst : l.stackTraces = false) (G : gG) (a0 : Int32) (a1 : Int32) (a2 : Int32) (S : Sg) (k : Nat) (r : Int32) (S' : Sg) (hf : f_X10_needRange a0 a1 a2 S = some (k, r, S')) : Cx l yX10_needRange [Cond.code yX10_needRange cX10_needRange 3 none] (gRx 6 90 1 6) G [.int a0, .int a1, .int a2] S k none S' 1 6 := by
  refine Cx_of (by decide) (Nat.le_of_ble_eq_true rfl) ?_
  intro p e s m below meth c ls cx hX hZ hexn hr hlk hw hS hl
  have hN := cx.2.2.2.2.hN
  have hB_10 : ∀ (S : Sg) (H : Heap) (locs : List Loc) (ls : Array Slot), gP G S H → va_S (gA G s.heap.size) s.heap H locs → lv_has ls 3 [] → B_X10_needRange_10 S = some (k, r, S') → W p l e (gRx 6 90 1 6) s m ([.int a0, .int a1, .int a2] : List Value).toArray below meth c H locs 0 0 (vx_MQ below (gQx G S' k none (gA G s.heap.size)) (gXx G S' k (gA G s.heap.size)) ([.int a0, .int a1, .int a2] : List Value).toArray s 1 6 (gA G s.heap.size)) (F0 m 10 ls []) := by
    intro S H locs ls hw hS hl hf
    unfold B_X10_needRange_10 at hf
    exact gx_throwW (k := 1) (text := "out of range") cx hX hZ hw hS hst hexn hlk hl.1 gw_195 gw_196 (by decide +kernel) gEo2 (List.mem_of_getElem? (i := 0) rfl) hf dX10_needRange_10 dX10_needRange_13 dX10_needRange_14 dX10_needRange_17 dX10_needRange_20 (Nat.le_of_ble_eq_true rfl) (Nat.le_of_ble_eq_true rfl) (Nat.le_of_ble_eq_true rfl) (Nat.le_of_ble_eq_true rfl) (Nat.le_of_ble_eq_true rfl) (Nat.le_of_ble_eq_true rfl)
  have hl : lv_has ls 3 [(0, .int a0), (1, .int a1), (2, .int a2)] := hl
  unfold f_X10_needRange at hf
  refine lv_iload_n cx.1 cx.2.1 dX10_needRange_0 rfl (lv_at hl 0 rfl) ?_
  refine lv_iload_n cx.1 cx.2.1 dX10_needRange_1 rfl (lv_at hl 1 rfl) ?_
  refine lv_icmp_lt (tgt := 10) cx.1 cx.2.1 dX10_needRange_2 (by decide) (fun hc => ?_) (fun hc => ?_)
  · rw [if_pos hc] at hf
    exact hB_10 S _ _ _ hw hS (lv_sub hl [] rfl) hf
  · rw [if_neg hc] at hf
    refine lv_iload_n cx.1 cx.2.1 dX10_needRange_5 rfl (lv_at hl 0 rfl) ?_
    refine lv_iload_n cx.1 cx.2.1 dX10_needRange_6 rfl (lv_at hl 2 rfl) ?_
    refine lv_icmp_le (tgt := 21) cx.1 cx.2.1 dX10_needRange_7 (by decide) (fun hc => ?_) (fun hc => ?_)
    · rw [if_pos hc] at hf
      exact gx_vreti cx hr hlk hw hS hf dX10_needRange_21 (Nat.le_of_ble_eq_true rfl) (Nat.le_of_ble_eq_true rfl)
    · rw [if_neg hc] at hf
      exact hB_10 S _ _ _ hw hS (lv_sub hl [] rfl) hf
set_option maxHeartbeats 4000000 in
set_option maxRecDepth 100000 in
theorem c_X10_append (l : Launch) (hst : l.stackTraces = false) (G : gG) (a1 : Int32) (S : Sg) (k : Nat) (r : Int32) (S' : Sg) (hf : f_X10_append a1 S = some (k, r, S')) : Cx l yX10_append [Cond.code yX10_append cX10_append 2 (some .int)] (gRx 7 112 2 12) G [.ref (G.2.1 0), .int a1] S k (some (.int r)) S' 2 12 := by
  refine Cx_of (by decide) (Nat.le_of_ble_eq_true rfl) ?_
  intro p e s m below meth c ls cx hX hZ hexn hr hlk hw hS hl
  have hN := cx.2.2.2.2.hN
  have hl : lv_has ls 2 [(0, .ref (G.2.1 0)), (1, .int a1)] := hl
  unfold f_X10_append at hf
  refine lv_iload_n cx.1 cx.2.1 dX10_append_0 rfl (lv_at hl 1 rfl) ?_
  refine lv_iconst (v := (0 : Int32)) cx.1 cx.2.1 dX10_append_1 (by decide) ?_
  refine lv_sipush (v := (255 : Int32)) cx.1 cx.2.1 dX10_append_2 (by decide) ?_
  rcases gbx_some hf with ⟨j9, v9, S9, hv, hf9⟩ | ⟨v_2, S_1, hv, hf⟩
  · exact gx_thr (gx_rS (As := [.int a1, .int (0 : Int32), .int (255 : Int32)]) (rest := []) cx hX hZ hw hS (c_X10_needRange l hst G a1 (0 : Int32) (255 : Int32) S (j9 + 1) v9 S9 hv) gw_241 gy_X10_needRange gi_X10_needRange ⟨Nat.le_of_ble_eq_true rfl, Nat.le_of_ble_eq_true rfl⟩ ⟨Nat.le_of_ble_eq_true rfl, Nat.le_of_ble_eq_true rfl⟩ rfl hl.1 rfl (Nat.le_of_ble_eq_true rfl) dX10_append_5) hS hexn hlk hf9 (Nat.le_of_ble_eq_true rfl) (Nat.le_of_ble_eq_true rfl)
  refine gx_ret (gx_rS (As := [.int a1, .int (0 : Int32), .int (255 : Int32)]) (rest := []) cx hX hZ hw hS (c_X10_needRange l hst G a1 (0 : Int32) (255 : Int32) S 0 v_2 S_1 hv) gw_241 gy_X10_needRange gi_X10_needRange ⟨Nat.le_of_ble_eq_true rfl, Nat.le_of_ble_eq_true rfl⟩ ⟨Nat.le_of_ble_eq_true rfl, Nat.le_of_ble_eq_true rfl⟩ rfl hl.1 rfl (Nat.le_of_ble_eq_true rfl) dX10_append_5) hS (fun H locs hw hS => ?_)
  refine W.eq (g2 := F0 m 8 ls []) rfl ?_
  refine lv_aload_n cx.1 cx.2.1 dX10_append_8 rfl (lv_at hl 0 rfl) ?_
  refine g_get (C := RX10) (T := TX10) (N := 6) (v := .ref (G.2.1 1)) cx hw inlX10 0 (by omega) he_c0 rfl 0 (by decide) gw_13 rfl rfl dX10_append_9 ?_
  obtain ⟨v_4, S_3, hv, hf⟩ := gbi_some hf
  refine g_V (As := []) (rest := []) cx hw hS (c_X2_isFull l G S_1 v_4 S_3 hv) (by omega) he_c1 rfl rfl gw_818 gy_X2_isFull gi_X2_isFull ⟨Nat.le_of_ble_eq_true rfl, Nat.le_of_ble_eq_true rfl⟩ ⟨Nat.le_of_ble_eq_true rfl, Nat.le_of_ble_eq_true rfl⟩ rfl hl.1 rfl (Nat.le_of_ble_eq_true rfl) dX10_append_12 (fun H locs hw hS => ?_)
  refine W.eq (g2 := F0 m 15 ls [.int v_4]) rfl ?_
  refine lv_if_eq (tgt := 28) cx.1 cx.2.1 dX10_append_15 (by decide) (fun hc => ?_) (fun hc => ?_)
  · rw [if_pos hc] at hf
    refine lv_aload_n cx.1 cx.2.1 dX10_append_28 rfl (lv_at hl 0 rfl) ?_
    refine g_get (C := RX10) (T := TX10) (N := 6) (v := .ref (G.2.1 1)) cx hw inlX10 0 (by omega) he_c0 rfl 0 (by decide) gw_13 rfl rfl dX10_append_29 ?_
    refine lv_iload_n cx.1 cx.2.1 dX10_append_32 rfl (lv_at hl 1 rfl) ?_
    obtain ⟨v_6, S_5, hv, hf⟩ := gbi_some hf
    refine g_V (As := [.int a1]) (rest := []) cx hw hS (c_X2_add l G a1 S_3 v_6 S_5 hv) (by omega) he_c1 rfl rfl gw_822 gy_X2_add gi_X2_add ⟨Nat.le_of_ble_eq_true rfl, Nat.le_of_ble_eq_true rfl⟩ ⟨Nat.le_of_ble_eq_true rfl, Nat.le_of_ble_eq_true rfl⟩ rfl hl.1 rfl (Nat.le_of_ble_eq_true rfl) dX10_append_33 (fun H locs hw hS => ?_)
    refine W.eq (g2 := F0 m 36 ls [.int v_6]) rfl ?_
    exact gx_ireti cx hr hlk hw hS hf dX10_append_36 (Nat.le_of_ble_eq_true rfl) (Nat.le_of_ble_eq_true rfl)
  · rw [if_neg hc] at hf
    exact gx_throw (k := 2) (text := "the text is full") cx hX hZ hw hS hst hexn hlk hl.1 gw_305 gw_306 (by decide +kernel) gEo3 (List.mem_of_getElem? (i := 1) rfl) hf dX10_append_18 dX10_append_21 dX10_append_22 dX10_append_24 dX10_append_27 (Nat.le_of_ble_eq_true rfl) (Nat.le_of_ble_eq_true rfl) (Nat.le_of_ble_eq_true rfl) (Nat.le_of_ble_eq_true rfl) (Nat.le_of_ble_eq_true rfl) (Nat.le_of_ble_eq_true rfl)
set_option maxHeartbeats 4000000 in
set_option maxRecDepth 100000 in
theorem c_X10_needIndex (l : Launch) (hst : l.stackTraces = false) (G : gG) (a0 : Int32) (S : Sg) (k : Nat) (r : Int32) (S' : Sg) (hf : f_X10_needIndex a0 S = some (k, r, S')) : Cx l yX10_needIndex [Cond.code yX10_needIndex cX10_needIndex 1 none] (gRx 6 90 1 6) G [.int a0] S k none S' 1 6 := by
  refine Cx_of (by decide) (Nat.le_of_ble_eq_true rfl) ?_
  intro p e s m below meth c ls cx hX hZ hexn hr hlk hw hS hl
  have hN := cx.2.2.2.2.hN
  have hl : lv_has ls 1 [(0, .int a0)] := hl
  unfold f_X10_needIndex at hf
  refine lv_iload_n cx.1 cx.2.1 dX10_needIndex_0 rfl (lv_at hl 0 rfl) ?_
  refine lv_if_ne (tgt := 15) cx.1 cx.2.1 dX10_needIndex_1 (by decide) (fun hc => ?_) (fun hc => ?_)
  · rw [if_neg hc] at hf
    exact gx_vreti cx hr hlk hw hS hf dX10_needIndex_15 (Nat.le_of_ble_eq_true rfl) (Nat.le_of_ble_eq_true rfl)
  · rw [if_pos hc] at hf
    exact gx_throwW (k := 0) (text := "there is no such thing") cx hX hZ hw hS hst hexn hlk hl.1 gw_232 gw_233 (by decide +kernel) gEo1 (List.mem_of_getElem? (i := 4) rfl) hf dX10_needIndex_4 dX10_needIndex_7 dX10_needIndex_8 dX10_needIndex_11 dX10_needIndex_14 (Nat.le_of_ble_eq_true rfl) (Nat.le_of_ble_eq_true rfl) (Nat.le_of_ble_eq_true rfl) (Nat.le_of_ble_eq_true rfl) (Nat.le_of_ble_eq_true rfl) (Nat.le_of_ble_eq_true rfl)
set_option maxHeartbeats 4000000 in
set_option maxRecDepth 100000 in
theorem c_X10_needCompany (l : Launch) (hst : l.stackTraces = false) (G : gG) (a0 : Int32) (S : Sg) (k : Nat) (r : Int32) (S' : Sg) (hf : f_X10_needCompany a0 S = some (k, r, S')) : Cx l yX10_needCompany [Cond.code yX10_needCompany cX10_needCompany 1 none] (gRx 7 110 1 6) G [.int a0] S k none S' 1 6 := by
  refine Cx_of (by decide) (Nat.le_of_ble_eq_true rfl) ?_
  intro p e s m below meth c ls cx hX hZ hexn hr hlk hw hS hl
  have hN := cx.2.2.2.2.hN
  have hl : lv_has ls 1 [(0, .int a0)] := hl
  unfold f_X10_needCompany at hf
  refine lv_iload_n cx.1 cx.2.1 dX10_needCompany_0 rfl (lv_at hl 0 rfl) ?_
  obtain ⟨v_2, S_1, hv, hf⟩ := gbi_some hf
  refine g_S (As := [.int a0]) (rest := []) cx hw hS (c_X10_isCompany l G a0 S v_2 S_1 hv) gw_226 gy_X10_isCompany gi_X10_isCompany ⟨Nat.le_of_ble_eq_true rfl, Nat.le_of_ble_eq_true rfl⟩ ⟨Nat.le_of_ble_eq_true rfl, Nat.le_of_ble_eq_true rfl⟩ rfl hl.1 rfl (Nat.le_of_ble_eq_true rfl) dX10_needCompany_1 (fun H locs hw hS => ?_)
  refine W.eq (g2 := F0 m 4 ls [.int v_2]) rfl ?_
  rcases gbx_some hf with ⟨j9, v9, S9, hv, hf9⟩ | ⟨v_4, S_3, hv, hf⟩
  · exact gx_thr (gx_rS (As := [.int v_2]) (rest := []) cx hX hZ hw hS (c_X10_needIndex l hst G v_2 S_1 (j9 + 1) v9 S9 hv) gw_229 gy_X10_needIndex gi_X10_needIndex ⟨Nat.le_of_ble_eq_true rfl, Nat.le_of_ble_eq_true rfl⟩ ⟨Nat.le_of_ble_eq_true rfl, Nat.le_of_ble_eq_true rfl⟩ rfl hl.1 rfl (Nat.le_of_ble_eq_true rfl) dX10_needCompany_4) hS hexn hlk hf9 (Nat.le_of_ble_eq_true rfl) (Nat.le_of_ble_eq_true rfl)
  refine gx_ret (gx_rS (As := [.int v_2]) (rest := []) cx hX hZ hw hS (c_X10_needIndex l hst G v_2 S_1 0 v_4 S_3 hv) gw_229 gy_X10_needIndex gi_X10_needIndex ⟨Nat.le_of_ble_eq_true rfl, Nat.le_of_ble_eq_true rfl⟩ ⟨Nat.le_of_ble_eq_true rfl, Nat.le_of_ble_eq_true rfl⟩ rfl hl.1 rfl (Nat.le_of_ble_eq_true rfl) dX10_needCompany_4) hS (fun H locs hw hS => ?_)
  refine W.eq (g2 := F0 m 7 ls []) rfl ?_
  exact gx_vreti cx hr hlk hw hS hf dX10_needCompany_7 (Nat.le_of_ble_eq_true rfl) (Nat.le_of_ble_eq_true rfl)
set_option maxHeartbeats 4000000 in
set_option maxRecDepth 100000 in
theorem c_X10_bankruptAfter (l : Launch) (hst : l.stackTraces = false) (G : gG) (a1 : Int32) (S : Sg) (k : Nat) (r : Int32) (S' : Sg) (hf : f_X10_bankruptAfter a1 S = some (k, r, S')) : Cx l yX10_bankruptAfter [Cond.code yX10_bankruptAfter cX10_bankruptAfter 4 (some .int)] (gRx 8 130 1 6) G [.ref (G.2.1 0), .int a1] S k (some (.int r)) S' 1 6 := by
  refine Cx_of (by decide) (Nat.le_of_ble_eq_true rfl) ?_
  intro p e s m below meth c ls cx hX hZ hexn hr hlk hw hS hl
  have hN := cx.2.2.2.2.hN
  have hL_32 : ∀ (n : Nat), ∀ (S : Sg) (x1 : Int32) (x2 : Int32) (x3 : Int32) (H : Heap) (locs : List Loc) (ls : Array Slot), gP G S H → va_S (gA G s.heap.size) s.heap H locs → lv_has ls 4 [(0, .ref (G.2.1 0)), (1, .int x1), (2, .int x2), (3, .int x3)] → L_X10_bankruptAfter_32 n S x1 x2 x3 = some (k, r, S') → W p l e (gRx 8 130 1 6) s m ([.ref (G.2.1 0), .int a1] : List Value).toArray below meth c H locs 1 6 (vx_MQ below (gQx G S' k (some (.int r)) (gA G s.heap.size)) (gXx G S' k (gA G s.heap.size)) ([.ref (G.2.1 0), .int a1] : List Value).toArray s 1 6 (gA G s.heap.size)) (F0 m 32 ls []) := by
    intro n
    induction n with
    | zero => intro S x1 x2 x3 H locs ls hw hS hl hf; cases hf
    | succ n hK32 =>
      intro S x1 x2 x3 H locs ls hw hS hl hf
      have hf : Lb_X10_bankruptAfter_32 (L_X10_bankruptAfter_32 n) S x1 x2 x3 = some (k, r, S') := hf
      unfold Lb_X10_bankruptAfter_32 at hf
      refine lv_iload_n cx.1 cx.2.1 dX10_bankruptAfter_32 rfl (lv_at hl 3 rfl) ?_
      refine lv_bipush (v := (50 : Int32)) cx.1 cx.2.1 dX10_bankruptAfter_33 (by decide) ?_
      refine lv_icmp_gt (tgt := 72) cx.1 cx.2.1 dX10_bankruptAfter_35 (by decide) (fun hc => ?_) (fun hc => ?_)
      · rw [if_pos hc] at hf
        refine lv_bipush (v := (-9 : Int32)) cx.1 cx.2.1 dX10_bankruptAfter_72 (by decide) ?_
        exact gx_ireti cx hr hlk hw hS hf dX10_bankruptAfter_74 (Nat.le_of_ble_eq_true rfl) (Nat.le_of_ble_eq_true rfl)
      · rw [if_neg hc] at hf
        refine lv_aload_n cx.1 cx.2.1 dX10_bankruptAfter_38 rfl (lv_at hl 0 rfl) ?_
        refine g_get (C := RX10) (T := TX10) (N := 6) (v := .ref (G.2.1 35)) cx hw inlX10 0 (by omega) he_c0 rfl 2 (by decide) gw_18 rfl rfl dX10_bankruptAfter_39 ?_
        obtain ⟨v_2, S_1, hv, hf⟩ := gbi_some hf
        refine g_V (As := []) (rest := []) cx hw hS (c_X7_closeRound l G st_35 S v_2 S_1 hv) (Nat.lt_of_lt_of_le st_35.lt0 hN) (he_s0 st_35) rfl rfl gw_622 gy_X7_closeRound gi_X7_closeRound ⟨Nat.le_of_ble_eq_true rfl, Nat.le_of_ble_eq_true rfl⟩ ⟨Nat.le_of_ble_eq_true rfl, Nat.le_of_ble_eq_true rfl⟩ rfl hl.1 rfl (Nat.le_of_ble_eq_true rfl) dX10_bankruptAfter_42 (fun H locs hw hS => ?_)
        refine W.eq (g2 := F0 m 45 ls [.int v_2]) rfl ?_
        refine lv_pop cx.1 cx.2.1 dX10_bankruptAfter_45 rfl ?_
        refine lv_aload_n cx.1 cx.2.1 dX10_bankruptAfter_46 rfl (lv_at hl 0 rfl) ?_
        refine g_get (C := RX10) (T := TX10) (N := 6) (v := .ref (G.2.1 35)) cx hw inlX10 0 (by omega) he_c0 rfl 2 (by decide) gw_18 rfl rfl dX10_bankruptAfter_47 ?_
        refine g_get (C := RX7) (T := TX7) (N := 9) (v := .ref (G.2.1 (35 + 3))) cx hw inlX7 35 (Nat.lt_of_lt_of_le st_35.lt0 hN) (he_s0 st_35) rfl 2 (by decide) gw_203 rfl rfl dX10_bankruptAfter_50 ?_
        refine g_get (C := RX0) (T := TX0) (N := 7) (v := .ref (G.2.1 (35 + 17))) cx hw inlX0 (35 + 3) (Nat.lt_of_lt_of_le (st_35.lt (j := 3) (by omega)) hN) (he_s3 st_35) rfl 3 (by decide) gw_208 rfl rfl dX10_bankruptAfter_53 ?_
        refine lv_iload_n cx.1 cx.2.1 dX10_bankruptAfter_56 rfl (lv_at hl 1 rfl) ?_
        obtain ⟨v_4, S_3, hv, hf⟩ := gbi_some hf
        refine g_S (As := [.ref (G.2.1 (35 + 17)), .int x1]) (rest := []) cx hw hS (c_X10_at l G (ia_s17 hN st_35) x1 S_1 v_4 S_3 hv) gw_210 gy_X10_at gi_X10_at ⟨Nat.le_of_ble_eq_true rfl, Nat.le_of_ble_eq_true rfl⟩ ⟨Nat.le_of_ble_eq_true rfl, Nat.le_of_ble_eq_true rfl⟩ rfl hl.1 rfl (Nat.le_of_ble_eq_true rfl) dX10_bankruptAfter_57 (fun H locs hw hS => ?_)
        refine W.eq (g2 := F0 m 60 ls [.int v_4]) rfl ?_
        refine lv_iload_n cx.1 cx.2.1 dX10_bankruptAfter_60 rfl (lv_at hl 2 rfl) ?_
        refine lv_icmp_le (tgt := 66) cx.1 cx.2.1 dX10_bankruptAfter_61 (by decide) (fun hc => ?_) (fun hc => ?_)
        · rw [if_pos hc] at hf
          obtain ⟨x3_5, ex3_5, hf⟩ := gvi_ex hf
          refine lv_iinc (v := x3_5) (lv' := [(3, .int x3_5), (0, .ref (G.2.1 0)), (1, .int x1), (2, .int x2)]) cx.1 cx.2.1 dX10_bankruptAfter_66 hl (k := 3) rfl (by rw [← ex3_5]; rfl) (by decide) rfl (fun ls hl => ?_)
          refine lv_goto (tgt := 32) cx.1 cx.2.1 dX10_bankruptAfter_69 (by decide) ?_
          exact hK32 S_3 x1 x2 x3_5 _ _ _ hw hS (lv_sub hl [1, 2, 3, 0] rfl) hf
        · rw [if_neg hc] at hf
          refine lv_iload_n cx.1 cx.2.1 dX10_bankruptAfter_64 rfl (lv_at hl 3 rfl) ?_
          exact gx_ireti cx hr hlk hw hS hf dX10_bankruptAfter_65 (Nat.le_of_ble_eq_true rfl) (Nat.le_of_ble_eq_true rfl)
  have hl : lv_has ls 4 [(0, .ref (G.2.1 0)), (1, .int a1)] := hl
  unfold f_X10_bankruptAfter at hf
  refine lv_iload_n cx.1 cx.2.1 dX10_bankruptAfter_0 rfl (lv_at hl 1 rfl) ?_
  rcases gbx_some hf with ⟨j9, v9, S9, hv, hf9⟩ | ⟨v_7, S_6, hv, hf⟩
  · exact gx_thr (gx_rS (As := [.int a1]) (rest := []) cx hX hZ hw hS (c_X10_needCompany l hst G a1 S (j9 + 1) v9 S9 hv) gw_223 gy_X10_needCompany gi_X10_needCompany ⟨Nat.le_of_ble_eq_true rfl, Nat.le_of_ble_eq_true rfl⟩ ⟨Nat.le_of_ble_eq_true rfl, Nat.le_of_ble_eq_true rfl⟩ rfl hl.1 rfl (Nat.le_of_ble_eq_true rfl) dX10_bankruptAfter_1) hS hexn hlk hf9 (Nat.le_of_ble_eq_true rfl) (Nat.le_of_ble_eq_true rfl)
  refine gx_ret (gx_rS (As := [.int a1]) (rest := []) cx hX hZ hw hS (c_X10_needCompany l hst G a1 S 0 v_7 S_6 hv) gw_223 gy_X10_needCompany gi_X10_needCompany ⟨Nat.le_of_ble_eq_true rfl, Nat.le_of_ble_eq_true rfl⟩ ⟨Nat.le_of_ble_eq_true rfl, Nat.le_of_ble_eq_true rfl⟩ rfl hl.1 rfl (Nat.le_of_ble_eq_true rfl) dX10_bankruptAfter_1) hS (fun H locs hw hS => ?_)
  refine W.eq (g2 := F0 m 4 ls []) rfl ?_
  refine lv_aload_n cx.1 cx.2.1 dX10_bankruptAfter_4 rfl (lv_at hl 0 rfl) ?_
  refine g_get (C := RX10) (T := TX10) (N := 6) (v := .ref (G.2.1 35)) cx hw inlX10 0 (by omega) he_c0 rfl 2 (by decide) gw_18 rfl rfl dX10_bankruptAfter_5 ?_
  refine lv_aload_n cx.1 cx.2.1 dX10_bankruptAfter_8 rfl (lv_at hl 0 rfl) ?_
  refine g_get (C := RX10) (T := TX10) (N := 6) (v := .ref (G.2.1 14)) cx hw inlX10 0 (by omega) he_c0 rfl 1 (by decide) gw_17 rfl rfl dX10_bankruptAfter_9 ?_
  obtain ⟨S_8, hv, hf⟩ := gbv_some hf
  refine g_V (As := [.ref (G.2.1 14)]) (rest := []) cx hw hS (c_X7_copyFrom l G st_35 st_14 S_6 S_8 hv) (Nat.lt_of_lt_of_le st_35.lt0 hN) (he_s0 st_35) rfl rfl gw_319 gy_X7_copyFrom gi_X7_copyFrom ⟨Nat.le_of_ble_eq_true rfl, Nat.le_of_ble_eq_true rfl⟩ ⟨Nat.le_of_ble_eq_true rfl, Nat.le_of_ble_eq_true rfl⟩ rfl hl.1 rfl (Nat.le_of_ble_eq_true rfl) dX10_bankruptAfter_12 (fun H locs hw hS => ?_)
  refine W.eq (g2 := F0 m 15 ls []) rfl ?_
  refine lv_aload_n cx.1 cx.2.1 dX10_bankruptAfter_15 rfl (lv_at hl 0 rfl) ?_
  refine g_get (C := RX10) (T := TX10) (N := 6) (v := .ref (G.2.1 14)) cx hw inlX10 0 (by omega) he_c0 rfl 1 (by decide) gw_17 rfl rfl dX10_bankruptAfter_16 ?_
  refine g_get (C := RX7) (T := TX7) (N := 9) (v := .ref (G.2.1 (14 + 3))) cx hw inlX7 14 (Nat.lt_of_lt_of_le st_14.lt0 hN) (he_s0 st_14) rfl 2 (by decide) gw_203 rfl rfl dX10_bankruptAfter_19 ?_
  refine g_get (C := RX0) (T := TX0) (N := 7) (v := .ref (G.2.1 (14 + 17))) cx hw inlX0 (14 + 3) (Nat.lt_of_lt_of_le (st_14.lt (j := 3) (by omega)) hN) (he_s3 st_14) rfl 3 (by decide) gw_208 rfl rfl dX10_bankruptAfter_22 ?_
  refine lv_iload_n cx.1 cx.2.1 dX10_bankruptAfter_25 rfl (lv_at hl 1 rfl) ?_
  obtain ⟨v_10, S_9, hv, hf⟩ := gbi_some hf
  refine g_S (As := [.ref (G.2.1 (14 + 17)), .int a1]) (rest := []) cx hw hS (c_X10_at l G (ia_s17 hN st_14) a1 S_8 v_10 S_9 hv) gw_210 gy_X10_at gi_X10_at ⟨Nat.le_of_ble_eq_true rfl, Nat.le_of_ble_eq_true rfl⟩ ⟨Nat.le_of_ble_eq_true rfl, Nat.le_of_ble_eq_true rfl⟩ rfl hl.1 rfl (Nat.le_of_ble_eq_true rfl) dX10_bankruptAfter_26 (fun H locs hw hS => ?_)
  refine W.eq (g2 := F0 m 29 ls [.int v_10]) rfl ?_
  refine lv_istore_n (lv' := [(2, .int v_10), (0, .ref (G.2.1 0)), (1, .int a1)]) cx.1 cx.2.1 dX10_bankruptAfter_29 rfl hl (by decide) rfl (fun ls hl => ?_)
  refine lv_iconst (v := (1 : Int32)) cx.1 cx.2.1 dX10_bankruptAfter_30 (by decide) ?_
  refine lv_istore_n (lv' := [(3, .int (1 : Int32)), (2, .int v_10), (0, .ref (G.2.1 0)), (1, .int a1)]) cx.1 cx.2.1 dX10_bankruptAfter_31 rfl hl (by decide) rfl (fun ls hl => ?_)
  exact hL_32 gFu S_9 a1 v_10 (1 : Int32) _ _ _ hw hS (lv_sub hl [2, 3, 1, 0] rfl) hf
set_option maxHeartbeats 4000000 in
set_option maxRecDepth 100000 in
theorem c_X10_bestContract (l : Launch) (hst : l.stackTraces = false) (G : gG) (a1 : Int32) (S : Sg) (k : Nat) (r : Int32) (S' : Sg) (hf : f_X10_bestContract a1 S = some (k, r, S')) : Cx l yX10_bestContract [Cond.code yX10_bestContract cX10_bestContract 2 (some .int)] (gRx 8 130 1 6) G [.ref (G.2.1 0), .int a1] S k (some (.int r)) S' 1 6 := by
  refine Cx_of (by decide) (Nat.le_of_ble_eq_true rfl) ?_
  intro p e s m below meth c ls cx hX hZ hexn hr hlk hw hS hl
  have hN := cx.2.2.2.2.hN
  have hl : lv_has ls 2 [(0, .ref (G.2.1 0)), (1, .int a1)] := hl
  unfold f_X10_bestContract at hf
  refine lv_iload_n cx.1 cx.2.1 dX10_bestContract_0 rfl (lv_at hl 1 rfl) ?_
  rcases gbx_some hf with ⟨j9, v9, S9, hv, hf9⟩ | ⟨v_2, S_1, hv, hf⟩
  · exact gx_thr (gx_rS (As := [.int a1]) (rest := []) cx hX hZ hw hS (c_X10_needCompany l hst G a1 S (j9 + 1) v9 S9 hv) gw_223 gy_X10_needCompany gi_X10_needCompany ⟨Nat.le_of_ble_eq_true rfl, Nat.le_of_ble_eq_true rfl⟩ ⟨Nat.le_of_ble_eq_true rfl, Nat.le_of_ble_eq_true rfl⟩ rfl hl.1 rfl (Nat.le_of_ble_eq_true rfl) dX10_bestContract_1) hS hexn hlk hf9 (Nat.le_of_ble_eq_true rfl) (Nat.le_of_ble_eq_true rfl)
  refine gx_ret (gx_rS (As := [.int a1]) (rest := []) cx hX hZ hw hS (c_X10_needCompany l hst G a1 S 0 v_2 S_1 hv) gw_223 gy_X10_needCompany gi_X10_needCompany ⟨Nat.le_of_ble_eq_true rfl, Nat.le_of_ble_eq_true rfl⟩ ⟨Nat.le_of_ble_eq_true rfl, Nat.le_of_ble_eq_true rfl⟩ rfl hl.1 rfl (Nat.le_of_ble_eq_true rfl) dX10_bestContract_1) hS (fun H locs hw hS => ?_)
  refine W.eq (g2 := F0 m 4 ls []) rfl ?_
  refine lv_aload_n cx.1 cx.2.1 dX10_bestContract_4 rfl (lv_at hl 0 rfl) ?_
  refine g_get (C := RX10) (T := TX10) (N := 6) (v := .ref (G.2.1 8)) cx hw inlX10 0 (by omega) he_c0 rfl 5 (by decide) gw_30 rfl rfl dX10_bestContract_5 ?_
  refine lv_aload_n cx.1 cx.2.1 dX10_bestContract_8 rfl (lv_at hl 0 rfl) ?_
  refine g_get (C := RX10) (T := TX10) (N := 6) (v := .ref (G.2.1 14)) cx hw inlX10 0 (by omega) he_c0 rfl 1 (by decide) gw_17 rfl rfl dX10_bestContract_9 ?_
  refine lv_iload_n cx.1 cx.2.1 dX10_bestContract_12 rfl (lv_at hl 1 rfl) ?_
  obtain ⟨v_4, S_3, hv, hf⟩ := gbi_some hf
  refine g_V (As := [.ref (G.2.1 14), .int a1]) (rest := []) cx hw hS (c_X4_bestFree l G st_14 a1 S_1 v_4 S_3 hv) (by omega) he_c8 rfl rfl gw_602 gy_X4_bestFree gi_X4_bestFree ⟨Nat.le_of_ble_eq_true rfl, Nat.le_of_ble_eq_true rfl⟩ ⟨Nat.le_of_ble_eq_true rfl, Nat.le_of_ble_eq_true rfl⟩ rfl hl.1 rfl (Nat.le_of_ble_eq_true rfl) dX10_bestContract_13 (fun H locs hw hS => ?_)
  refine W.eq (g2 := F0 m 16 ls [.int v_4]) rfl ?_
  exact gx_ireti cx hr hlk hw hS hf dX10_bestContract_16 (Nat.le_of_ble_eq_true rfl) (Nat.le_of_ble_eq_true rfl)
set_option maxHeartbeats 4000000 in
set_option maxRecDepth 100000 in
theorem c_X10_needTrack (l : Launch) (hst : l.stackTraces = false) (G : gG) (a1 : Int32) (S : Sg) (k : Nat) (r : Int32) (S' : Sg) (hf : f_X10_needTrack a1 S = some (k, r, S')) : Cx l yX10_needTrack [Cond.code yX10_needTrack cX10_needTrack 2 none] (gRx 7 110 1 6) G [.ref (G.2.1 0), .int a1] S k none S' 1 6 := by
  refine Cx_of (by decide) (Nat.le_of_ble_eq_true rfl) ?_
  intro p e s m below meth c ls cx hX hZ hexn hr hlk hw hS hl
  have hN := cx.2.2.2.2.hN
  have hl : lv_has ls 2 [(0, .ref (G.2.1 0)), (1, .int a1)] := hl
  unfold f_X10_needTrack at hf
  refine lv_aload_n cx.1 cx.2.1 dX10_needTrack_0 rfl (lv_at hl 0 rfl) ?_
  refine g_get (C := RX10) (T := TX10) (N := 6) (v := .ref (G.2.1 14)) cx hw inlX10 0 (by omega) he_c0 rfl 1 (by decide) gw_17 rfl rfl dX10_needTrack_1 ?_
  refine g_get (C := RX7) (T := TX7) (N := 9) (v := .ref (G.2.1 (14 + 1))) cx hw inlX7 14 (Nat.lt_of_lt_of_le st_14.lt0 hN) (he_s0 st_14) rfl 0 (by decide) gw_31 rfl rfl dX10_needTrack_4 ?_
  refine lv_iload_n cx.1 cx.2.1 dX10_needTrack_7 rfl (lv_at hl 1 rfl) ?_
  obtain ⟨v_2, S_1, hv, hf⟩ := gbi_some hf
  refine g_V (As := [.int a1]) (rest := []) cx hw hS (c_X8_has l G st_14 a1 S v_2 S_1 hv) (Nat.lt_of_lt_of_le (st_14.lt (j := 1) (by omega)) hN) (he_s1 st_14) rfl rfl gw_381 gy_X8_has gi_X8_has ⟨Nat.le_of_ble_eq_true rfl, Nat.le_of_ble_eq_true rfl⟩ ⟨Nat.le_of_ble_eq_true rfl, Nat.le_of_ble_eq_true rfl⟩ rfl hl.1 rfl (Nat.le_of_ble_eq_true rfl) dX10_needTrack_8 (fun H locs hw hS => ?_)
  refine W.eq (g2 := F0 m 11 ls [.int v_2]) rfl ?_
  rcases gbx_some hf with ⟨j9, v9, S9, hv, hf9⟩ | ⟨v_4, S_3, hv, hf⟩
  · exact gx_thr (gx_rS (As := [.int v_2]) (rest := []) cx hX hZ hw hS (c_X10_needIndex l hst G v_2 S_1 (j9 + 1) v9 S9 hv) gw_229 gy_X10_needIndex gi_X10_needIndex ⟨Nat.le_of_ble_eq_true rfl, Nat.le_of_ble_eq_true rfl⟩ ⟨Nat.le_of_ble_eq_true rfl, Nat.le_of_ble_eq_true rfl⟩ rfl hl.1 rfl (Nat.le_of_ble_eq_true rfl) dX10_needTrack_11) hS hexn hlk hf9 (Nat.le_of_ble_eq_true rfl) (Nat.le_of_ble_eq_true rfl)
  refine gx_ret (gx_rS (As := [.int v_2]) (rest := []) cx hX hZ hw hS (c_X10_needIndex l hst G v_2 S_1 0 v_4 S_3 hv) gw_229 gy_X10_needIndex gi_X10_needIndex ⟨Nat.le_of_ble_eq_true rfl, Nat.le_of_ble_eq_true rfl⟩ ⟨Nat.le_of_ble_eq_true rfl, Nat.le_of_ble_eq_true rfl⟩ rfl hl.1 rfl (Nat.le_of_ble_eq_true rfl) dX10_needTrack_11) hS (fun H locs hw hS => ?_)
  refine W.eq (g2 := F0 m 14 ls []) rfl ?_
  exact gx_vreti cx hr hlk hw hS hf dX10_needTrack_14 (Nat.le_of_ble_eq_true rfl) (Nat.le_of_ble_eq_true rfl)
set_option maxHeartbeats 4000000 in
set_option maxRecDepth 100000 in
theorem c_X10_needAllowed (l : Launch) (hst : l.stackTraces = false) (G : gG) (a0 : Int32) (S : Sg) (k : Nat) (r : Int32) (S' : Sg) (hf : f_X10_needAllowed a0 S = some (k, r, S')) : Cx l yX10_needAllowed [Cond.code yX10_needAllowed cX10_needAllowed 1 none] (gRx 6 90 1 6) G [.int a0] S k none S' 1 6 := by
  refine Cx_of (by decide) (Nat.le_of_ble_eq_true rfl) ?_
  intro p e s m below meth c ls cx hX hZ hexn hr hlk hw hS hl
  have hN := cx.2.2.2.2.hN
  have hl : lv_has ls 1 [(0, .int a0)] := hl
  unfold f_X10_needAllowed at hf
  refine lv_iload_n cx.1 cx.2.1 dX10_needAllowed_0 rfl (lv_at hl 0 rfl) ?_
  refine lv_if_ne (tgt := 15) cx.1 cx.2.1 dX10_needAllowed_1 (by decide) (fun hc => ?_) (fun hc => ?_)
  · rw [if_neg hc] at hf
    exact gx_vreti cx hr hlk hw hS hf dX10_needAllowed_15 (Nat.le_of_ble_eq_true rfl) (Nat.le_of_ble_eq_true rfl)
  · rw [if_pos hc] at hf
    exact gx_throwW (k := 2) (text := "not possible now") cx hX hZ hw hS hst hexn hlk hl.1 gw_305 gw_306 (by decide +kernel) gEo3 (List.mem_of_getElem? (i := 5) rfl) hf dX10_needAllowed_4 dX10_needAllowed_7 dX10_needAllowed_8 dX10_needAllowed_11 dX10_needAllowed_14 (Nat.le_of_ble_eq_true rfl) (Nat.le_of_ble_eq_true rfl) (Nat.le_of_ble_eq_true rfl) (Nat.le_of_ble_eq_true rfl) (Nat.le_of_ble_eq_true rfl) (Nat.le_of_ble_eq_true rfl)
set_option maxHeartbeats 4000000 in
set_option maxRecDepth 100000 in
theorem c_X10_buyTrack (l : Launch) (hst : l.stackTraces = false) (G : gG) (a1 : Int32) (a2 : Int32) (S : Sg) (k : Nat) (r : Int32) (S' : Sg) (hf : f_X10_buyTrack a1 a2 S = some (k, r, S')) : Cx l yX10_buyTrack [Cond.code yX10_buyTrack cX10_buyTrack 3 (some .int)] (gRx 8 165 3 18) G [.ref (G.2.1 0), .int a1, .int a2] S k (some (.int r)) S' 3 18 := by
  refine Cx_of (by decide) (Nat.le_of_ble_eq_true rfl) ?_
  intro p e s m below meth c ls cx hX hZ hexn hr hlk hw hS hl
  have hN := cx.2.2.2.2.hN
  have hl : lv_has ls 3 [(0, .ref (G.2.1 0)), (1, .int a1), (2, .int a2)] := hl
  unfold f_X10_buyTrack at hf
  refine lv_iload_n cx.1 cx.2.1 dX10_buyTrack_0 rfl (lv_at hl 1 rfl) ?_
  rcases gbx_some hf with ⟨j9, v9, S9, hv, hf9⟩ | ⟨v_2, S_1, hv, hf⟩
  · exact gx_thr (gx_rS (As := [.int a1]) (rest := []) cx hX hZ hw hS (c_X10_needCompany l hst G a1 S (j9 + 1) v9 S9 hv) gw_223 gy_X10_needCompany gi_X10_needCompany ⟨Nat.le_of_ble_eq_true rfl, Nat.le_of_ble_eq_true rfl⟩ ⟨Nat.le_of_ble_eq_true rfl, Nat.le_of_ble_eq_true rfl⟩ rfl hl.1 rfl (Nat.le_of_ble_eq_true rfl) dX10_buyTrack_1) hS hexn hlk hf9 (Nat.le_of_ble_eq_true rfl) (Nat.le_of_ble_eq_true rfl)
  refine gx_ret (gx_rS (As := [.int a1]) (rest := []) cx hX hZ hw hS (c_X10_needCompany l hst G a1 S 0 v_2 S_1 hv) gw_223 gy_X10_needCompany gi_X10_needCompany ⟨Nat.le_of_ble_eq_true rfl, Nat.le_of_ble_eq_true rfl⟩ ⟨Nat.le_of_ble_eq_true rfl, Nat.le_of_ble_eq_true rfl⟩ rfl hl.1 rfl (Nat.le_of_ble_eq_true rfl) dX10_buyTrack_1) hS (fun H locs hw hS => ?_)
  refine W.eq (g2 := F0 m 4 ls []) rfl ?_
  refine lv_aload_n cx.1 cx.2.1 dX10_buyTrack_4 rfl (lv_at hl 0 rfl) ?_
  refine lv_iload_n cx.1 cx.2.1 dX10_buyTrack_5 rfl (lv_at hl 2 rfl) ?_
  rcases gbx_some hf with ⟨j9, v9, S9, hv, hf9⟩ | ⟨v_4, S_3, hv, hf⟩
  · exact gx_thr (gx_rV (As := [.int a2]) (rest := []) cx hX hZ hw hS (c_X10_needTrack l hst G a2 S_1 (j9 + 1) v9 S9 hv) (by omega) he_c0 rfl rfl gw_377 gy_X10_needTrack gi_X10_needTrack ⟨Nat.le_of_ble_eq_true rfl, Nat.le_of_ble_eq_true rfl⟩ ⟨Nat.le_of_ble_eq_true rfl, Nat.le_of_ble_eq_true rfl⟩ rfl hl.1 rfl (Nat.le_of_ble_eq_true rfl) dX10_buyTrack_6) hS hexn hlk hf9 (Nat.le_of_ble_eq_true rfl) (Nat.le_of_ble_eq_true rfl)
  refine gx_ret (gx_rV (As := [.int a2]) (rest := []) cx hX hZ hw hS (c_X10_needTrack l hst G a2 S_1 0 v_4 S_3 hv) (by omega) he_c0 rfl rfl gw_377 gy_X10_needTrack gi_X10_needTrack ⟨Nat.le_of_ble_eq_true rfl, Nat.le_of_ble_eq_true rfl⟩ ⟨Nat.le_of_ble_eq_true rfl, Nat.le_of_ble_eq_true rfl⟩ rfl hl.1 rfl (Nat.le_of_ble_eq_true rfl) dX10_buyTrack_6) hS (fun H locs hw hS => ?_)
  refine W.eq (g2 := F0 m 9 ls []) rfl ?_
  refine lv_aload_n cx.1 cx.2.1 dX10_buyTrack_9 rfl (lv_at hl 0 rfl) ?_
  refine g_get (C := RX10) (T := TX10) (N := 6) (v := .ref (G.2.1 14)) cx hw inlX10 0 (by omega) he_c0 rfl 1 (by decide) gw_17 rfl rfl dX10_buyTrack_10 ?_
  refine lv_iload_n cx.1 cx.2.1 dX10_buyTrack_13 rfl (lv_at hl 1 rfl) ?_
  refine lv_iload_n cx.1 cx.2.1 dX10_buyTrack_14 rfl (lv_at hl 2 rfl) ?_
  obtain ⟨v_6, S_5, hv, hf⟩ := gbi_some hf
  refine g_V (As := [.int a1, .int a2]) (rest := []) cx hw hS (c_X7_maySellTrack l G st_14 a1 a2 S_3 v_6 S_5 hv) (Nat.lt_of_lt_of_le st_14.lt0 hN) (he_s0 st_14) rfl rfl gw_444 gy_X7_maySellTrack gi_X7_maySellTrack ⟨Nat.le_of_ble_eq_true rfl, Nat.le_of_ble_eq_true rfl⟩ ⟨Nat.le_of_ble_eq_true rfl, Nat.le_of_ble_eq_true rfl⟩ rfl hl.1 rfl (Nat.le_of_ble_eq_true rfl) dX10_buyTrack_15 (fun H locs hw hS => ?_)
  refine W.eq (g2 := F0 m 18 ls [.int v_6]) rfl ?_
  rcases gbx_some hf with ⟨j9, v9, S9, hv, hf9⟩ | ⟨v_8, S_7, hv, hf⟩
  · exact gx_thr (gx_rS (As := [.int v_6]) (rest := []) cx hX hZ hw hS (c_X10_needAllowed l hst G v_6 S_5 (j9 + 1) v9 S9 hv) gw_302 gy_X10_needAllowed gi_X10_needAllowed ⟨Nat.le_of_ble_eq_true rfl, Nat.le_of_ble_eq_true rfl⟩ ⟨Nat.le_of_ble_eq_true rfl, Nat.le_of_ble_eq_true rfl⟩ rfl hl.1 rfl (Nat.le_of_ble_eq_true rfl) dX10_buyTrack_18) hS hexn hlk hf9 (Nat.le_of_ble_eq_true rfl) (Nat.le_of_ble_eq_true rfl)
  refine gx_ret (gx_rS (As := [.int v_6]) (rest := []) cx hX hZ hw hS (c_X10_needAllowed l hst G v_6 S_5 0 v_8 S_7 hv) gw_302 gy_X10_needAllowed gi_X10_needAllowed ⟨Nat.le_of_ble_eq_true rfl, Nat.le_of_ble_eq_true rfl⟩ ⟨Nat.le_of_ble_eq_true rfl, Nat.le_of_ble_eq_true rfl⟩ rfl hl.1 rfl (Nat.le_of_ble_eq_true rfl) dX10_buyTrack_18) hS (fun H locs hw hS => ?_)
  refine W.eq (g2 := F0 m 21 ls []) rfl ?_
  refine lv_aload_n cx.1 cx.2.1 dX10_buyTrack_21 rfl (lv_at hl 0 rfl) ?_
  refine g_get (C := RX10) (T := TX10) (N := 6) (v := .ref (G.2.1 3)) cx hw inlX10 0 (by omega) he_c0 rfl 3 (by decide) gw_22 rfl rfl dX10_buyTrack_22 ?_
  refine lv_aload_n cx.1 cx.2.1 dX10_buyTrack_25 rfl (lv_at hl 0 rfl) ?_
  refine g_get (C := RX10) (T := TX10) (N := 6) (v := .ref (G.2.1 14)) cx hw inlX10 0 (by omega) he_c0 rfl 1 (by decide) gw_17 rfl rfl dX10_buyTrack_26 ?_
  obtain ⟨S_9, hv, hf⟩ := gbv_some hf
  refine g_V (As := [.ref (G.2.1 14)]) (rest := []) cx hw hS (c_X3_remember l G st_14 S_7 S_9 hv) (by omega) he_c3 rfl rfl gw_455 gy_X3_remember gi_X3_remember ⟨Nat.le_of_ble_eq_true rfl, Nat.le_of_ble_eq_true rfl⟩ ⟨Nat.le_of_ble_eq_true rfl, Nat.le_of_ble_eq_true rfl⟩ rfl hl.1 rfl (Nat.le_of_ble_eq_true rfl) dX10_buyTrack_29 (fun H locs hw hS => ?_)
  refine W.eq (g2 := F0 m 32 ls []) rfl ?_
  refine lv_aload_n cx.1 cx.2.1 dX10_buyTrack_32 rfl (lv_at hl 0 rfl) ?_
  refine g_get (C := RX10) (T := TX10) (N := 6) (v := .ref (G.2.1 14)) cx hw inlX10 0 (by omega) he_c0 rfl 1 (by decide) gw_17 rfl rfl dX10_buyTrack_33 ?_
  refine lv_iload_n cx.1 cx.2.1 dX10_buyTrack_36 rfl (lv_at hl 1 rfl) ?_
  refine lv_iload_n cx.1 cx.2.1 dX10_buyTrack_37 rfl (lv_at hl 2 rfl) ?_
  obtain ⟨S_10, hv, hf⟩ := gbv_some hf
  refine g_V (As := [.int a1, .int a2]) (rest := []) cx hw hS (c_X7_sellTrack l G st_14 a1 a2 S_9 S_10 hv) (Nat.lt_of_lt_of_le st_14.lt0 hN) (he_s0 st_14) rfl rfl gw_459 gy_X7_sellTrack gi_X7_sellTrack ⟨Nat.le_of_ble_eq_true rfl, Nat.le_of_ble_eq_true rfl⟩ ⟨Nat.le_of_ble_eq_true rfl, Nat.le_of_ble_eq_true rfl⟩ rfl hl.1 rfl (Nat.le_of_ble_eq_true rfl) dX10_buyTrack_38 (fun H locs hw hS => ?_)
  refine W.eq (g2 := F0 m 41 ls []) rfl ?_
  refine lv_aload_n cx.1 cx.2.1 dX10_buyTrack_41 rfl (lv_at hl 0 rfl) ?_
  refine g_get (C := RX10) (T := TX10) (N := 6) (v := .ref (G.2.1 14)) cx hw inlX10 0 (by omega) he_c0 rfl 1 (by decide) gw_17 rfl rfl dX10_buyTrack_42 ?_
  refine g_get (C := RX7) (T := TX7) (N := 9) (v := .ref (G.2.1 (14 + 3))) cx hw inlX7 14 (Nat.lt_of_lt_of_le st_14.lt0 hN) (he_s0 st_14) rfl 2 (by decide) gw_203 rfl rfl dX10_buyTrack_45 ?_
  refine g_get (C := RX0) (T := TX0) (N := 7) (v := .ref (G.2.1 (14 + 14))) cx hw inlX0 (14 + 3) (Nat.lt_of_lt_of_le (st_14.lt (j := 3) (by omega)) hN) (he_s3 st_14) rfl 0 (by decide) gw_204 rfl rfl dX10_buyTrack_48 ?_
  refine lv_iload_n cx.1 cx.2.1 dX10_buyTrack_51 rfl (lv_at hl 1 rfl) ?_
  obtain ⟨v_12, S_11, hv, hf⟩ := gbi_some hf
  refine g_S (As := [.ref (G.2.1 (14 + 14)), .int a1]) (rest := []) cx hw hS (c_X10_at l G (ia_s14 hN st_14) a1 S_10 v_12 S_11 hv) gw_210 gy_X10_at gi_X10_at ⟨Nat.le_of_ble_eq_true rfl, Nat.le_of_ble_eq_true rfl⟩ ⟨Nat.le_of_ble_eq_true rfl, Nat.le_of_ble_eq_true rfl⟩ rfl hl.1 rfl (Nat.le_of_ble_eq_true rfl) dX10_buyTrack_52 (fun H locs hw hS => ?_)
  refine W.eq (g2 := F0 m 55 ls [.int v_12]) rfl ?_
  exact gx_ireti cx hr hlk hw hS hf dX10_buyTrack_55 (Nat.le_of_ble_eq_true rfl) (Nat.le_of_ble_eq_true rfl)
set_option maxHeartbeats 4000000 in
set_option maxRecDepth 100000 in
theorem c_X10_buyTrain (l : Launch) (hst : l.stackTraces = false) (G : gG) (a1 : Int32) (a2 : Int32) (S : Sg) (k : Nat) (r : Int32) (S' : Sg) (hf : f_X10_buyTrain a1 a2 S = some (k, r, S')) : Cx l yX10_buyTrain [Cond.code yX10_buyTrain cX10_buyTrain 3 (some .int)] (gRx 8 165 3 18) G [.ref (G.2.1 0), .int a1, .int a2] S k (some (.int r)) S' 3 18 := by
  refine Cx_of (by decide) (Nat.le_of_ble_eq_true rfl) ?_
  intro p e s m below meth c ls cx hX hZ hexn hr hlk hw hS hl
  have hN := cx.2.2.2.2.hN
  have hl : lv_has ls 3 [(0, .ref (G.2.1 0)), (1, .int a1), (2, .int a2)] := hl
  unfold f_X10_buyTrain at hf
  refine lv_iload_n cx.1 cx.2.1 dX10_buyTrain_0 rfl (lv_at hl 1 rfl) ?_
  rcases gbx_some hf with ⟨j9, v9, S9, hv, hf9⟩ | ⟨v_2, S_1, hv, hf⟩
  · exact gx_thr (gx_rS (As := [.int a1]) (rest := []) cx hX hZ hw hS (c_X10_needCompany l hst G a1 S (j9 + 1) v9 S9 hv) gw_223 gy_X10_needCompany gi_X10_needCompany ⟨Nat.le_of_ble_eq_true rfl, Nat.le_of_ble_eq_true rfl⟩ ⟨Nat.le_of_ble_eq_true rfl, Nat.le_of_ble_eq_true rfl⟩ rfl hl.1 rfl (Nat.le_of_ble_eq_true rfl) dX10_buyTrain_1) hS hexn hlk hf9 (Nat.le_of_ble_eq_true rfl) (Nat.le_of_ble_eq_true rfl)
  refine gx_ret (gx_rS (As := [.int a1]) (rest := []) cx hX hZ hw hS (c_X10_needCompany l hst G a1 S 0 v_2 S_1 hv) gw_223 gy_X10_needCompany gi_X10_needCompany ⟨Nat.le_of_ble_eq_true rfl, Nat.le_of_ble_eq_true rfl⟩ ⟨Nat.le_of_ble_eq_true rfl, Nat.le_of_ble_eq_true rfl⟩ rfl hl.1 rfl (Nat.le_of_ble_eq_true rfl) dX10_buyTrain_1) hS (fun H locs hw hS => ?_)
  refine W.eq (g2 := F0 m 4 ls []) rfl ?_
  refine lv_iload_n cx.1 cx.2.1 dX10_buyTrain_4 rfl (lv_at hl 2 rfl) ?_
  refine lv_iconst (v := (1 : Int32)) cx.1 cx.2.1 dX10_buyTrain_5 (by decide) ?_
  refine lv_bipush (v := (6 : Int32)) cx.1 cx.2.1 dX10_buyTrain_6 (by decide) ?_
  rcases gbx_some hf with ⟨j9, v9, S9, hv, hf9⟩ | ⟨v_4, S_3, hv, hf⟩
  · exact gx_thr (gx_rS (As := [.int a2, .int (1 : Int32), .int (6 : Int32)]) (rest := []) cx hX hZ hw hS (c_X10_needRange l hst G a2 (1 : Int32) (6 : Int32) S_1 (j9 + 1) v9 S9 hv) gw_241 gy_X10_needRange gi_X10_needRange ⟨Nat.le_of_ble_eq_true rfl, Nat.le_of_ble_eq_true rfl⟩ ⟨Nat.le_of_ble_eq_true rfl, Nat.le_of_ble_eq_true rfl⟩ rfl hl.1 rfl (Nat.le_of_ble_eq_true rfl) dX10_buyTrain_8) hS hexn hlk hf9 (Nat.le_of_ble_eq_true rfl) (Nat.le_of_ble_eq_true rfl)
  refine gx_ret (gx_rS (As := [.int a2, .int (1 : Int32), .int (6 : Int32)]) (rest := []) cx hX hZ hw hS (c_X10_needRange l hst G a2 (1 : Int32) (6 : Int32) S_1 0 v_4 S_3 hv) gw_241 gy_X10_needRange gi_X10_needRange ⟨Nat.le_of_ble_eq_true rfl, Nat.le_of_ble_eq_true rfl⟩ ⟨Nat.le_of_ble_eq_true rfl, Nat.le_of_ble_eq_true rfl⟩ rfl hl.1 rfl (Nat.le_of_ble_eq_true rfl) dX10_buyTrain_8) hS (fun H locs hw hS => ?_)
  refine W.eq (g2 := F0 m 11 ls []) rfl ?_
  refine lv_aload_n cx.1 cx.2.1 dX10_buyTrain_11 rfl (lv_at hl 0 rfl) ?_
  refine g_get (C := RX10) (T := TX10) (N := 6) (v := .ref (G.2.1 14)) cx hw inlX10 0 (by omega) he_c0 rfl 1 (by decide) gw_17 rfl rfl dX10_buyTrain_12 ?_
  refine lv_iload_n cx.1 cx.2.1 dX10_buyTrain_15 rfl (lv_at hl 1 rfl) ?_
  refine lv_iload_n cx.1 cx.2.1 dX10_buyTrain_16 rfl (lv_at hl 2 rfl) ?_
  obtain ⟨v_6, S_5, hv, hf⟩ := gbi_some hf
  refine g_V (As := [.int a1, .int a2]) (rest := []) cx hw hS (c_X7_maySellTrain l G st_14 a1 a2 S_3 v_6 S_5 hv) (Nat.lt_of_lt_of_le st_14.lt0 hN) (he_s0 st_14) rfl rfl gw_475 gy_X7_maySellTrain gi_X7_maySellTrain ⟨Nat.le_of_ble_eq_true rfl, Nat.le_of_ble_eq_true rfl⟩ ⟨Nat.le_of_ble_eq_true rfl, Nat.le_of_ble_eq_true rfl⟩ rfl hl.1 rfl (Nat.le_of_ble_eq_true rfl) dX10_buyTrain_17 (fun H locs hw hS => ?_)
  refine W.eq (g2 := F0 m 20 ls [.int v_6]) rfl ?_
  rcases gbx_some hf with ⟨j9, v9, S9, hv, hf9⟩ | ⟨v_8, S_7, hv, hf⟩
  · exact gx_thr (gx_rS (As := [.int v_6]) (rest := []) cx hX hZ hw hS (c_X10_needAllowed l hst G v_6 S_5 (j9 + 1) v9 S9 hv) gw_302 gy_X10_needAllowed gi_X10_needAllowed ⟨Nat.le_of_ble_eq_true rfl, Nat.le_of_ble_eq_true rfl⟩ ⟨Nat.le_of_ble_eq_true rfl, Nat.le_of_ble_eq_true rfl⟩ rfl hl.1 rfl (Nat.le_of_ble_eq_true rfl) dX10_buyTrain_20) hS hexn hlk hf9 (Nat.le_of_ble_eq_true rfl) (Nat.le_of_ble_eq_true rfl)
  refine gx_ret (gx_rS (As := [.int v_6]) (rest := []) cx hX hZ hw hS (c_X10_needAllowed l hst G v_6 S_5 0 v_8 S_7 hv) gw_302 gy_X10_needAllowed gi_X10_needAllowed ⟨Nat.le_of_ble_eq_true rfl, Nat.le_of_ble_eq_true rfl⟩ ⟨Nat.le_of_ble_eq_true rfl, Nat.le_of_ble_eq_true rfl⟩ rfl hl.1 rfl (Nat.le_of_ble_eq_true rfl) dX10_buyTrain_20) hS (fun H locs hw hS => ?_)
  refine W.eq (g2 := F0 m 23 ls []) rfl ?_
  refine lv_aload_n cx.1 cx.2.1 dX10_buyTrain_23 rfl (lv_at hl 0 rfl) ?_
  refine g_get (C := RX10) (T := TX10) (N := 6) (v := .ref (G.2.1 3)) cx hw inlX10 0 (by omega) he_c0 rfl 3 (by decide) gw_22 rfl rfl dX10_buyTrain_24 ?_
  refine lv_aload_n cx.1 cx.2.1 dX10_buyTrain_27 rfl (lv_at hl 0 rfl) ?_
  refine g_get (C := RX10) (T := TX10) (N := 6) (v := .ref (G.2.1 14)) cx hw inlX10 0 (by omega) he_c0 rfl 1 (by decide) gw_17 rfl rfl dX10_buyTrain_28 ?_
  obtain ⟨S_9, hv, hf⟩ := gbv_some hf
  refine g_V (As := [.ref (G.2.1 14)]) (rest := []) cx hw hS (c_X3_remember l G st_14 S_7 S_9 hv) (by omega) he_c3 rfl rfl gw_455 gy_X3_remember gi_X3_remember ⟨Nat.le_of_ble_eq_true rfl, Nat.le_of_ble_eq_true rfl⟩ ⟨Nat.le_of_ble_eq_true rfl, Nat.le_of_ble_eq_true rfl⟩ rfl hl.1 rfl (Nat.le_of_ble_eq_true rfl) dX10_buyTrain_31 (fun H locs hw hS => ?_)
  refine W.eq (g2 := F0 m 34 ls []) rfl ?_
  refine lv_aload_n cx.1 cx.2.1 dX10_buyTrain_34 rfl (lv_at hl 0 rfl) ?_
  refine g_get (C := RX10) (T := TX10) (N := 6) (v := .ref (G.2.1 14)) cx hw inlX10 0 (by omega) he_c0 rfl 1 (by decide) gw_17 rfl rfl dX10_buyTrain_35 ?_
  refine lv_iload_n cx.1 cx.2.1 dX10_buyTrain_38 rfl (lv_at hl 1 rfl) ?_
  refine lv_iload_n cx.1 cx.2.1 dX10_buyTrain_39 rfl (lv_at hl 2 rfl) ?_
  obtain ⟨v_11, S_10, hv, hf⟩ := gbi_some hf
  refine g_V (As := [.int a1, .int a2]) (rest := []) cx hw hS (c_X7_sellTrain l G st_14 a1 a2 S_9 v_11 S_10 hv) (Nat.lt_of_lt_of_le st_14.lt0 hN) (he_s0 st_14) rfl rfl gw_480 gy_X7_sellTrain gi_X7_sellTrain ⟨Nat.le_of_ble_eq_true rfl, Nat.le_of_ble_eq_true rfl⟩ ⟨Nat.le_of_ble_eq_true rfl, Nat.le_of_ble_eq_true rfl⟩ rfl hl.1 rfl (Nat.le_of_ble_eq_true rfl) dX10_buyTrain_40 (fun H locs hw hS => ?_)
  refine W.eq (g2 := F0 m 43 ls [.int v_11]) rfl ?_
  exact gx_ireti cx hr hlk hw hS hf dX10_buyTrain_43 (Nat.le_of_ble_eq_true rfl) (Nat.le_of_ble_eq_true rfl)
set_option maxHeartbeats 4000000 in
set_option maxRecDepth 100000 in
theorem c_X10_coinsAfter (l : Launch) (hst : l.stackTraces = false) (G : gG) (a1 : Int32) (a2 : Int32) (S : Sg) (k : Nat) (r : Int32) (S' : Sg) (hf : f_X10_coinsAfter a1 a2 S = some (k, r, S')) : Cx l yX10_coinsAfter [Cond.code yX10_coinsAfter cX10_coinsAfter 4 (some .int)] (gRx 8 130 2 12) G [.ref (G.2.1 0), .int a1, .int a2] S k (some (.int r)) S' 2 12 := by
  refine Cx_of (by decide) (Nat.le_of_ble_eq_true rfl) ?_
  intro p e s m below meth c ls cx hX hZ hexn hr hlk hw hS hl
  have hN := cx.2.2.2.2.hN
  have hL_24 : ∀ (n : Nat), ∀ (S : Sg) (x1 : Int32) (x2 : Int32) (x3 : Int32) (H : Heap) (locs : List Loc) (ls : Array Slot), gP G S H → va_S (gA G s.heap.size) s.heap H locs → lv_has ls 4 [(0, .ref (G.2.1 0)), (1, .int x1), (2, .int x2), (3, .int x3)] → L_X10_coinsAfter_24 n S x1 x2 x3 = some (k, r, S') → W p l e (gRx 8 130 2 12) s m ([.ref (G.2.1 0), .int a1, .int a2] : List Value).toArray below meth c H locs 2 12 (vx_MQ below (gQx G S' k (some (.int r)) (gA G s.heap.size)) (gXx G S' k (gA G s.heap.size)) ([.ref (G.2.1 0), .int a1, .int a2] : List Value).toArray s 2 12 (gA G s.heap.size)) (F0 m 24 ls []) := by
    intro n
    induction n with
    | zero => intro S x1 x2 x3 H locs ls hw hS hl hf; cases hf
    | succ n hK24 =>
      intro S x1 x2 x3 H locs ls hw hS hl hf
      have hf : Lb_X10_coinsAfter_24 (L_X10_coinsAfter_24 n) S x1 x2 x3 = some (k, r, S') := hf
      unfold Lb_X10_coinsAfter_24 at hf
      refine lv_iload_n cx.1 cx.2.1 dX10_coinsAfter_24 rfl (lv_at hl 3 rfl) ?_
      refine lv_iload_n cx.1 cx.2.1 dX10_coinsAfter_25 rfl (lv_at hl 2 rfl) ?_
      refine lv_icmp_ge (tgt := 43) cx.1 cx.2.1 dX10_coinsAfter_26 (by decide) (fun hc => ?_) (fun hc => ?_)
      · rw [if_pos hc] at hf
        refine lv_aload_n cx.1 cx.2.1 dX10_coinsAfter_43 rfl (lv_at hl 0 rfl) ?_
        refine g_get (C := RX10) (T := TX10) (N := 6) (v := .ref (G.2.1 35)) cx hw inlX10 0 (by omega) he_c0 rfl 2 (by decide) gw_18 rfl rfl dX10_coinsAfter_44 ?_
        refine g_get (C := RX7) (T := TX7) (N := 9) (v := .ref (G.2.1 (35 + 3))) cx hw inlX7 35 (Nat.lt_of_lt_of_le st_35.lt0 hN) (he_s0 st_35) rfl 2 (by decide) gw_203 rfl rfl dX10_coinsAfter_47 ?_
        refine g_get (C := RX0) (T := TX0) (N := 7) (v := .ref (G.2.1 (35 + 14))) cx hw inlX0 (35 + 3) (Nat.lt_of_lt_of_le (st_35.lt (j := 3) (by omega)) hN) (he_s3 st_35) rfl 0 (by decide) gw_204 rfl rfl dX10_coinsAfter_50 ?_
        refine lv_iload_n cx.1 cx.2.1 dX10_coinsAfter_53 rfl (lv_at hl 1 rfl) ?_
        obtain ⟨v_2, S_1, hv, hf⟩ := gbi_some hf
        refine g_S (As := [.ref (G.2.1 (35 + 14)), .int x1]) (rest := []) cx hw hS (c_X10_at l G (ia_s14 hN st_35) x1 S v_2 S_1 hv) gw_210 gy_X10_at gi_X10_at ⟨Nat.le_of_ble_eq_true rfl, Nat.le_of_ble_eq_true rfl⟩ ⟨Nat.le_of_ble_eq_true rfl, Nat.le_of_ble_eq_true rfl⟩ rfl hl.1 rfl (Nat.le_of_ble_eq_true rfl) dX10_coinsAfter_54 (fun H locs hw hS => ?_)
        refine W.eq (g2 := F0 m 57 ls [.int v_2]) rfl ?_
        exact gx_ireti cx hr hlk hw hS hf dX10_coinsAfter_57 (Nat.le_of_ble_eq_true rfl) (Nat.le_of_ble_eq_true rfl)
      · rw [if_neg hc] at hf
        refine lv_aload_n cx.1 cx.2.1 dX10_coinsAfter_29 rfl (lv_at hl 0 rfl) ?_
        refine g_get (C := RX10) (T := TX10) (N := 6) (v := .ref (G.2.1 35)) cx hw inlX10 0 (by omega) he_c0 rfl 2 (by decide) gw_18 rfl rfl dX10_coinsAfter_30 ?_
        obtain ⟨v_4, S_3, hv, hf⟩ := gbi_some hf
        refine g_V (As := []) (rest := []) cx hw hS (c_X7_closeRound l G st_35 S v_4 S_3 hv) (Nat.lt_of_lt_of_le st_35.lt0 hN) (he_s0 st_35) rfl rfl gw_622 gy_X7_closeRound gi_X7_closeRound ⟨Nat.le_of_ble_eq_true rfl, Nat.le_of_ble_eq_true rfl⟩ ⟨Nat.le_of_ble_eq_true rfl, Nat.le_of_ble_eq_true rfl⟩ rfl hl.1 rfl (Nat.le_of_ble_eq_true rfl) dX10_coinsAfter_33 (fun H locs hw hS => ?_)
        refine W.eq (g2 := F0 m 36 ls [.int v_4]) rfl ?_
        refine lv_pop cx.1 cx.2.1 dX10_coinsAfter_36 rfl ?_
        obtain ⟨x3_5, ex3_5, hf⟩ := gvi_ex hf
        refine lv_iinc (v := x3_5) (lv' := [(3, .int x3_5), (0, .ref (G.2.1 0)), (1, .int x1), (2, .int x2)]) cx.1 cx.2.1 dX10_coinsAfter_37 hl (k := 3) rfl (by rw [← ex3_5]; rfl) (by decide) rfl (fun ls hl => ?_)
        refine lv_goto (tgt := 24) cx.1 cx.2.1 dX10_coinsAfter_40 (by decide) ?_
        exact hK24 S_3 x1 x2 x3_5 _ _ _ hw hS (lv_sub hl [1, 2, 3, 0] rfl) hf
  have hl : lv_has ls 4 [(0, .ref (G.2.1 0)), (1, .int a1), (2, .int a2)] := hl
  unfold f_X10_coinsAfter at hf
  refine lv_iload_n cx.1 cx.2.1 dX10_coinsAfter_0 rfl (lv_at hl 1 rfl) ?_
  rcases gbx_some hf with ⟨j9, v9, S9, hv, hf9⟩ | ⟨v_7, S_6, hv, hf⟩
  · exact gx_thr (gx_rS (As := [.int a1]) (rest := []) cx hX hZ hw hS (c_X10_needCompany l hst G a1 S (j9 + 1) v9 S9 hv) gw_223 gy_X10_needCompany gi_X10_needCompany ⟨Nat.le_of_ble_eq_true rfl, Nat.le_of_ble_eq_true rfl⟩ ⟨Nat.le_of_ble_eq_true rfl, Nat.le_of_ble_eq_true rfl⟩ rfl hl.1 rfl (Nat.le_of_ble_eq_true rfl) dX10_coinsAfter_1) hS hexn hlk hf9 (Nat.le_of_ble_eq_true rfl) (Nat.le_of_ble_eq_true rfl)
  refine gx_ret (gx_rS (As := [.int a1]) (rest := []) cx hX hZ hw hS (c_X10_needCompany l hst G a1 S 0 v_7 S_6 hv) gw_223 gy_X10_needCompany gi_X10_needCompany ⟨Nat.le_of_ble_eq_true rfl, Nat.le_of_ble_eq_true rfl⟩ ⟨Nat.le_of_ble_eq_true rfl, Nat.le_of_ble_eq_true rfl⟩ rfl hl.1 rfl (Nat.le_of_ble_eq_true rfl) dX10_coinsAfter_1) hS (fun H locs hw hS => ?_)
  refine W.eq (g2 := F0 m 4 ls []) rfl ?_
  refine lv_iload_n cx.1 cx.2.1 dX10_coinsAfter_4 rfl (lv_at hl 2 rfl) ?_
  refine lv_iconst (v := (0 : Int32)) cx.1 cx.2.1 dX10_coinsAfter_5 (by decide) ?_
  refine lv_bipush (v := (50 : Int32)) cx.1 cx.2.1 dX10_coinsAfter_6 (by decide) ?_
  rcases gbx_some hf with ⟨j9, v9, S9, hv, hf9⟩ | ⟨v_9, S_8, hv, hf⟩
  · exact gx_thr (gx_rS (As := [.int a2, .int (0 : Int32), .int (50 : Int32)]) (rest := []) cx hX hZ hw hS (c_X10_needRange l hst G a2 (0 : Int32) (50 : Int32) S_6 (j9 + 1) v9 S9 hv) gw_241 gy_X10_needRange gi_X10_needRange ⟨Nat.le_of_ble_eq_true rfl, Nat.le_of_ble_eq_true rfl⟩ ⟨Nat.le_of_ble_eq_true rfl, Nat.le_of_ble_eq_true rfl⟩ rfl hl.1 rfl (Nat.le_of_ble_eq_true rfl) dX10_coinsAfter_8) hS hexn hlk hf9 (Nat.le_of_ble_eq_true rfl) (Nat.le_of_ble_eq_true rfl)
  refine gx_ret (gx_rS (As := [.int a2, .int (0 : Int32), .int (50 : Int32)]) (rest := []) cx hX hZ hw hS (c_X10_needRange l hst G a2 (0 : Int32) (50 : Int32) S_6 0 v_9 S_8 hv) gw_241 gy_X10_needRange gi_X10_needRange ⟨Nat.le_of_ble_eq_true rfl, Nat.le_of_ble_eq_true rfl⟩ ⟨Nat.le_of_ble_eq_true rfl, Nat.le_of_ble_eq_true rfl⟩ rfl hl.1 rfl (Nat.le_of_ble_eq_true rfl) dX10_coinsAfter_8) hS (fun H locs hw hS => ?_)
  refine W.eq (g2 := F0 m 11 ls []) rfl ?_
  refine lv_aload_n cx.1 cx.2.1 dX10_coinsAfter_11 rfl (lv_at hl 0 rfl) ?_
  refine g_get (C := RX10) (T := TX10) (N := 6) (v := .ref (G.2.1 35)) cx hw inlX10 0 (by omega) he_c0 rfl 2 (by decide) gw_18 rfl rfl dX10_coinsAfter_12 ?_
  refine lv_aload_n cx.1 cx.2.1 dX10_coinsAfter_15 rfl (lv_at hl 0 rfl) ?_
  refine g_get (C := RX10) (T := TX10) (N := 6) (v := .ref (G.2.1 14)) cx hw inlX10 0 (by omega) he_c0 rfl 1 (by decide) gw_17 rfl rfl dX10_coinsAfter_16 ?_
  obtain ⟨S_10, hv, hf⟩ := gbv_some hf
  refine g_V (As := [.ref (G.2.1 14)]) (rest := []) cx hw hS (c_X7_copyFrom l G st_35 st_14 S_8 S_10 hv) (Nat.lt_of_lt_of_le st_35.lt0 hN) (he_s0 st_35) rfl rfl gw_319 gy_X7_copyFrom gi_X7_copyFrom ⟨Nat.le_of_ble_eq_true rfl, Nat.le_of_ble_eq_true rfl⟩ ⟨Nat.le_of_ble_eq_true rfl, Nat.le_of_ble_eq_true rfl⟩ rfl hl.1 rfl (Nat.le_of_ble_eq_true rfl) dX10_coinsAfter_19 (fun H locs hw hS => ?_)
  refine W.eq (g2 := F0 m 22 ls []) rfl ?_
  refine lv_iconst (v := (0 : Int32)) cx.1 cx.2.1 dX10_coinsAfter_22 (by decide) ?_
  refine lv_istore_n (lv' := [(3, .int (0 : Int32)), (0, .ref (G.2.1 0)), (1, .int a1), (2, .int a2)]) cx.1 cx.2.1 dX10_coinsAfter_23 rfl hl (by decide) rfl (fun ls hl => ?_)
  exact hL_24 gFu S_10 a1 a2 (0 : Int32) _ _ _ hw hS (lv_sub hl [1, 2, 3, 0] rfl) hf
set_option maxHeartbeats 4000000 in
set_option maxRecDepth 100000 in
theorem c_X10_company (l : Launch) (hst : l.stackTraces = false) (G : gG) (a1 : Int32) (a2 : Int32) (S : Sg) (k : Nat) (r : Int32) (S' : Sg) (hf : f_X10_company a1 a2 S = some (k, r, S')) : Cx l yX10_company [Cond.code yX10_company cX10_company 4 (some .int)] (gRx 8 130 2 12) G [.ref (G.2.1 0), .int a1, .int a2] S k (some (.int r)) S' 2 12 := by
  refine Cx_of (by decide) (Nat.le_of_ble_eq_true rfl) ?_
  intro p e s m below meth c ls cx hX hZ hexn hr hlk hw hS hl
  have hN := cx.2.2.2.2.hN
  have hl : lv_has ls 4 [(0, .ref (G.2.1 0)), (1, .int a1), (2, .int a2)] := hl
  unfold f_X10_company at hf
  refine lv_iload_n cx.1 cx.2.1 dX10_company_0 rfl (lv_at hl 1 rfl) ?_
  rcases gbx_some hf with ⟨j9, v9, S9, hv, hf9⟩ | ⟨v_2, S_1, hv, hf⟩
  · exact gx_thr (gx_rS (As := [.int a1]) (rest := []) cx hX hZ hw hS (c_X10_needCompany l hst G a1 S (j9 + 1) v9 S9 hv) gw_223 gy_X10_needCompany gi_X10_needCompany ⟨Nat.le_of_ble_eq_true rfl, Nat.le_of_ble_eq_true rfl⟩ ⟨Nat.le_of_ble_eq_true rfl, Nat.le_of_ble_eq_true rfl⟩ rfl hl.1 rfl (Nat.le_of_ble_eq_true rfl) dX10_company_1) hS hexn hlk hf9 (Nat.le_of_ble_eq_true rfl) (Nat.le_of_ble_eq_true rfl)
  refine gx_ret (gx_rS (As := [.int a1]) (rest := []) cx hX hZ hw hS (c_X10_needCompany l hst G a1 S 0 v_2 S_1 hv) gw_223 gy_X10_needCompany gi_X10_needCompany ⟨Nat.le_of_ble_eq_true rfl, Nat.le_of_ble_eq_true rfl⟩ ⟨Nat.le_of_ble_eq_true rfl, Nat.le_of_ble_eq_true rfl⟩ rfl hl.1 rfl (Nat.le_of_ble_eq_true rfl) dX10_company_1) hS (fun H locs hw hS => ?_)
  refine W.eq (g2 := F0 m 4 ls []) rfl ?_
  refine lv_aload_n cx.1 cx.2.1 dX10_company_4 rfl (lv_at hl 0 rfl) ?_
  refine g_get (C := RX10) (T := TX10) (N := 6) (v := .ref (G.2.1 14)) cx hw inlX10 0 (by omega) he_c0 rfl 1 (by decide) gw_17 rfl rfl dX10_company_5 ?_
  refine g_get (C := RX7) (T := TX7) (N := 9) (v := .ref (G.2.1 (14 + 3))) cx hw inlX7 14 (Nat.lt_of_lt_of_le st_14.lt0 hN) (he_s0 st_14) rfl 2 (by decide) gw_203 rfl rfl dX10_company_8 ?_
  refine lv_astore_n (lv' := [(3, .ref (G.2.1 (14 + 3))), (0, .ref (G.2.1 0)), (1, .int a1), (2, .int a2)]) cx.1 cx.2.1 dX10_company_11 rfl hl (by decide) rfl (fun ls hl => ?_)
  refine lv_iload_n cx.1 cx.2.1 dX10_company_12 rfl (lv_at hl 3 rfl) ?_
  by_cases hs_5 : a2 = (0 : Int32)
  · rw [if_pos hs_5] at hf
    refine lv_tableIn (off := 43) (tgt := 56) cx.1 cx.2.1 dX10_company_13 (by rw [hs_5]; decide) (by rw [hs_5]; decide) (by rw [hs_5]; decide) (by decide) ?_
    refine lv_aload_n cx.1 cx.2.1 dX10_company_56 rfl (lv_at hl 0 rfl) ?_
    refine g_get (C := RX0) (T := TX0) (N := 7) (v := .ref (G.2.1 (14 + 14))) cx hw inlX0 (14 + 3) (Nat.lt_of_lt_of_le (st_14.lt (j := 3) (by omega)) hN) (he_s3 st_14) rfl 0 (by decide) gw_204 rfl rfl dX10_company_57 ?_
    refine lv_iload_n cx.1 cx.2.1 dX10_company_60 rfl (lv_at hl 2 rfl) ?_
    obtain ⟨v_4, S_3, hv, hf⟩ := gbi_some hf
    refine g_S (As := [.ref (G.2.1 (14 + 14)), .int a1]) (rest := []) cx hw hS (c_X10_at l G (ia_s14 hN st_14) a1 S_1 v_4 S_3 hv) gw_210 gy_X10_at gi_X10_at ⟨Nat.le_of_ble_eq_true rfl, Nat.le_of_ble_eq_true rfl⟩ ⟨Nat.le_of_ble_eq_true rfl, Nat.le_of_ble_eq_true rfl⟩ rfl hl.1 rfl (Nat.le_of_ble_eq_true rfl) dX10_company_61 (fun H locs hw hS => ?_)
    refine W.eq (g2 := F0 m 64 ls [.int v_4]) rfl ?_
    exact gx_ireti cx hr hlk hw hS hf dX10_company_64 (Nat.le_of_ble_eq_true rfl) (Nat.le_of_ble_eq_true rfl)
  rw [if_neg hs_5] at hf
  by_cases hs_8 : a2 = (1 : Int32)
  · rw [if_pos hs_8] at hf
    refine lv_tableIn (off := 52) (tgt := 65) cx.1 cx.2.1 dX10_company_13 (by rw [hs_8]; decide) (by rw [hs_8]; decide) (by rw [hs_8]; decide) (by decide) ?_
    refine lv_aload_n cx.1 cx.2.1 dX10_company_65 rfl (lv_at hl 0 rfl) ?_
    refine g_get (C := RX0) (T := TX0) (N := 7) (v := .ref (G.2.1 (14 + 15))) cx hw inlX0 (14 + 3) (Nat.lt_of_lt_of_le (st_14.lt (j := 3) (by omega)) hN) (he_s3 st_14) rfl 1 (by decide) gw_356 rfl rfl dX10_company_66 ?_
    refine lv_iload_n cx.1 cx.2.1 dX10_company_69 rfl (lv_at hl 2 rfl) ?_
    obtain ⟨v_7, S_6, hv, hf⟩ := gbi_some hf
    refine g_S (As := [.ref (G.2.1 (14 + 15)), .int a1]) (rest := []) cx hw hS (c_X10_at l G (ia_s15 hN st_14) a1 S_1 v_7 S_6 hv) gw_210 gy_X10_at gi_X10_at ⟨Nat.le_of_ble_eq_true rfl, Nat.le_of_ble_eq_true rfl⟩ ⟨Nat.le_of_ble_eq_true rfl, Nat.le_of_ble_eq_true rfl⟩ rfl hl.1 rfl (Nat.le_of_ble_eq_true rfl) dX10_company_70 (fun H locs hw hS => ?_)
    refine W.eq (g2 := F0 m 73 ls [.int v_7]) rfl ?_
    exact gx_ireti cx hr hlk hw hS hf dX10_company_73 (Nat.le_of_ble_eq_true rfl) (Nat.le_of_ble_eq_true rfl)
  rw [if_neg hs_8] at hf
  by_cases hs_11 : a2 = (2 : Int32)
  · rw [if_pos hs_11] at hf
    refine lv_tableIn (off := 61) (tgt := 74) cx.1 cx.2.1 dX10_company_13 (by rw [hs_11]; decide) (by rw [hs_11]; decide) (by rw [hs_11]; decide) (by decide) ?_
    refine lv_aload_n cx.1 cx.2.1 dX10_company_74 rfl (lv_at hl 0 rfl) ?_
    refine g_get (C := RX0) (T := TX0) (N := 7) (v := .ref (G.2.1 (14 + 18))) cx hw inlX0 (14 + 3) (Nat.lt_of_lt_of_le (st_14.lt (j := 3) (by omega)) hN) (he_s3 st_14) rfl 4 (by decide) gw_357 rfl rfl dX10_company_75 ?_
    refine lv_iload_n cx.1 cx.2.1 dX10_company_78 rfl (lv_at hl 2 rfl) ?_
    obtain ⟨v_10, S_9, hv, hf⟩ := gbi_some hf
    refine g_S (As := [.ref (G.2.1 (14 + 18)), .int a1]) (rest := []) cx hw hS (c_X10_at l G (ia_s18 hN st_14) a1 S_1 v_10 S_9 hv) gw_210 gy_X10_at gi_X10_at ⟨Nat.le_of_ble_eq_true rfl, Nat.le_of_ble_eq_true rfl⟩ ⟨Nat.le_of_ble_eq_true rfl, Nat.le_of_ble_eq_true rfl⟩ rfl hl.1 rfl (Nat.le_of_ble_eq_true rfl) dX10_company_79 (fun H locs hw hS => ?_)
    refine W.eq (g2 := F0 m 82 ls [.int v_10]) rfl ?_
    exact gx_ireti cx hr hlk hw hS hf dX10_company_82 (Nat.le_of_ble_eq_true rfl) (Nat.le_of_ble_eq_true rfl)
  rw [if_neg hs_11] at hf
  by_cases hs_14 : a2 = (3 : Int32)
  · rw [if_pos hs_14] at hf
    refine lv_tableIn (off := 70) (tgt := 83) cx.1 cx.2.1 dX10_company_13 (by rw [hs_14]; decide) (by rw [hs_14]; decide) (by rw [hs_14]; decide) (by decide) ?_
    refine lv_aload_n cx.1 cx.2.1 dX10_company_83 rfl (lv_at hl 1 rfl) ?_
    refine g_get (C := RX10) (T := TX10) (N := 6) (v := .ref (G.2.1 14)) cx hw inlX10 0 (by omega) he_c0 rfl 1 (by decide) gw_17 rfl rfl dX10_company_84 ?_
    refine g_get (C := RX7) (T := TX7) (N := 9) (v := .ref (G.2.1 (14 + 1))) cx hw inlX7 14 (Nat.lt_of_lt_of_le st_14.lt0 hN) (he_s0 st_14) rfl 0 (by decide) gw_31 rfl rfl dX10_company_87 ?_
    refine lv_iload_n cx.1 cx.2.1 dX10_company_90 rfl (lv_at hl 2 rfl) ?_
    obtain ⟨v_13, S_12, hv, hf⟩ := gbi_some hf
    refine g_V (As := [.int a1]) (rest := []) cx hw hS (c_X8_countOf l G st_14 a1 S_1 v_13 S_12 hv) (Nat.lt_of_lt_of_le (st_14.lt (j := 1) (by omega)) hN) (he_s1 st_14) rfl rfl gw_358 gy_X8_countOf gi_X8_countOf ⟨Nat.le_of_ble_eq_true rfl, Nat.le_of_ble_eq_true rfl⟩ ⟨Nat.le_of_ble_eq_true rfl, Nat.le_of_ble_eq_true rfl⟩ rfl hl.1 rfl (Nat.le_of_ble_eq_true rfl) dX10_company_91 (fun H locs hw hS => ?_)
    refine W.eq (g2 := F0 m 94 ls [.int v_13]) rfl ?_
    exact gx_ireti cx hr hlk hw hS hf dX10_company_94 (Nat.le_of_ble_eq_true rfl) (Nat.le_of_ble_eq_true rfl)
  rw [if_neg hs_14] at hf
  by_cases hs_17 : a2 = (4 : Int32)
  · rw [if_pos hs_17] at hf
    refine lv_tableIn (off := 82) (tgt := 95) cx.1 cx.2.1 dX10_company_13 (by rw [hs_17]; decide) (by rw [hs_17]; decide) (by rw [hs_17]; decide) (by decide) ?_
    refine lv_aload_n cx.1 cx.2.1 dX10_company_95 rfl (lv_at hl 1 rfl) ?_
    refine g_get (C := RX10) (T := TX10) (N := 6) (v := .ref (G.2.1 14)) cx hw inlX10 0 (by omega) he_c0 rfl 1 (by decide) gw_17 rfl rfl dX10_company_96 ?_
    refine g_get (C := RX7) (T := TX7) (N := 9) (v := .ref (G.2.1 (14 + 2))) cx hw inlX7 14 (Nat.lt_of_lt_of_le st_14.lt0 hN) (he_s0 st_14) rfl 1 (by decide) gw_199 rfl rfl dX10_company_99 ?_
    refine lv_iload_n cx.1 cx.2.1 dX10_company_102 rfl (lv_at hl 2 rfl) ?_
    obtain ⟨v_16, S_15, hv, hf⟩ := gbi_some hf
    refine g_V (As := [.int a1]) (rest := []) cx hw hS (c_X1_countOf l G st_14 a1 S_1 v_16 S_15 hv) (Nat.lt_of_lt_of_le (st_14.lt (j := 2) (by omega)) hN) (he_s2 st_14) rfl rfl gw_362 gy_X1_countOf gi_X1_countOf ⟨Nat.le_of_ble_eq_true rfl, Nat.le_of_ble_eq_true rfl⟩ ⟨Nat.le_of_ble_eq_true rfl, Nat.le_of_ble_eq_true rfl⟩ rfl hl.1 rfl (Nat.le_of_ble_eq_true rfl) dX10_company_103 (fun H locs hw hS => ?_)
    refine W.eq (g2 := F0 m 106 ls [.int v_16]) rfl ?_
    exact gx_ireti cx hr hlk hw hS hf dX10_company_106 (Nat.le_of_ble_eq_true rfl) (Nat.le_of_ble_eq_true rfl)
  rw [if_neg hs_17] at hf
  by_cases hs_20 : a2 = (5 : Int32)
  · rw [if_pos hs_20] at hf
    refine lv_tableIn (off := 94) (tgt := 107) cx.1 cx.2.1 dX10_company_13 (by rw [hs_20]; decide) (by rw [hs_20]; decide) (by rw [hs_20]; decide) (by decide) ?_
    refine lv_aload_n cx.1 cx.2.1 dX10_company_107 rfl (lv_at hl 0 rfl) ?_
    refine g_get (C := RX0) (T := TX0) (N := 7) (v := .ref (G.2.1 (14 + 16))) cx hw inlX0 (14 + 3) (Nat.lt_of_lt_of_le (st_14.lt (j := 3) (by omega)) hN) (he_s3 st_14) rfl 2 (by decide) gw_205 rfl rfl dX10_company_108 ?_
    refine lv_iload_n cx.1 cx.2.1 dX10_company_111 rfl (lv_at hl 2 rfl) ?_
    obtain ⟨v_19, S_18, hv, hf⟩ := gbi_some hf
    refine g_S (As := [.ref (G.2.1 (14 + 16)), .int a1]) (rest := []) cx hw hS (c_X10_at l G (ia_s16 hN st_14) a1 S_1 v_19 S_18 hv) gw_210 gy_X10_at gi_X10_at ⟨Nat.le_of_ble_eq_true rfl, Nat.le_of_ble_eq_true rfl⟩ ⟨Nat.le_of_ble_eq_true rfl, Nat.le_of_ble_eq_true rfl⟩ rfl hl.1 rfl (Nat.le_of_ble_eq_true rfl) dX10_company_112 (fun H locs hw hS => ?_)
    refine W.eq (g2 := F0 m 115 ls [.int v_19]) rfl ?_
    exact gx_ireti cx hr hlk hw hS hf dX10_company_115 (Nat.le_of_ble_eq_true rfl) (Nat.le_of_ble_eq_true rfl)
  rw [if_neg hs_20] at hf
  by_cases hs_23 : a2 = (6 : Int32)
  · rw [if_pos hs_23] at hf
    refine lv_tableIn (off := 103) (tgt := 116) cx.1 cx.2.1 dX10_company_13 (by rw [hs_23]; decide) (by rw [hs_23]; decide) (by rw [hs_23]; decide) (by decide) ?_
    refine lv_aload_n cx.1 cx.2.1 dX10_company_116 rfl (lv_at hl 0 rfl) ?_
    refine g_get (C := RX0) (T := TX0) (N := 7) (v := .ref (G.2.1 (14 + 17))) cx hw inlX0 (14 + 3) (Nat.lt_of_lt_of_le (st_14.lt (j := 3) (by omega)) hN) (he_s3 st_14) rfl 3 (by decide) gw_208 rfl rfl dX10_company_117 ?_
    refine lv_iload_n cx.1 cx.2.1 dX10_company_120 rfl (lv_at hl 2 rfl) ?_
    obtain ⟨v_22, S_21, hv, hf⟩ := gbi_some hf
    refine g_S (As := [.ref (G.2.1 (14 + 17)), .int a1]) (rest := []) cx hw hS (c_X10_at l G (ia_s17 hN st_14) a1 S_1 v_22 S_21 hv) gw_210 gy_X10_at gi_X10_at ⟨Nat.le_of_ble_eq_true rfl, Nat.le_of_ble_eq_true rfl⟩ ⟨Nat.le_of_ble_eq_true rfl, Nat.le_of_ble_eq_true rfl⟩ rfl hl.1 rfl (Nat.le_of_ble_eq_true rfl) dX10_company_121 (fun H locs hw hS => ?_)
    refine W.eq (g2 := F0 m 124 ls [.int v_22]) rfl ?_
    exact gx_ireti cx hr hlk hw hS hf dX10_company_124 (Nat.le_of_ble_eq_true rfl) (Nat.le_of_ble_eq_true rfl)
  rw [if_neg hs_23] at hf
  refine lv_tableOut (tgt := 125) cx.1 cx.2.1 dX10_company_13 (by have := sw_nek (k := 0) hs_5 (by decide); have := sw_nek (k := 1) hs_8 (by decide); have := sw_nek (k := 2) hs_11 (by decide); have := sw_nek (k := 3) hs_14 (by decide); have := sw_nek (k := 4) hs_17 (by decide); have := sw_nek (k := 5) hs_20 (by decide); have := sw_nek (k := 6) hs_23 (by decide); omega) (by decide) ?_
  exact gx_throw (k := 1) (text := "no such number") cx hX hZ hw hS hst hexn hlk hl.1 gw_195 gw_196 (by decide +kernel) gEo2 (List.mem_of_getElem? (i := 3) rfl) hf dX10_company_125 dX10_company_128 dX10_company_129 dX10_company_131 dX10_company_134 (Nat.le_of_ble_eq_true rfl) (Nat.le_of_ble_eq_true rfl) (Nat.le_of_ble_eq_true rfl) (Nat.le_of_ble_eq_true rfl) (Nat.le_of_ble_eq_true rfl) (Nat.le_of_ble_eq_true rfl)
set_option maxHeartbeats 4000000 in
set_option maxRecDepth 100000 in
theorem c_X10_needContract (l : Launch) (hst : l.stackTraces = false) (G : gG) (a1 : Int32) (S : Sg) (k : Nat) (r : Int32) (S' : Sg) (hf : f_X10_needContract a1 S = some (k, r, S')) : Cx l yX10_needContract [Cond.code yX10_needContract cX10_needContract 2 none] (gRx 7 110 1 6) G [.ref (G.2.1 0), .int a1] S k none S' 1 6 := by
  refine Cx_of (by decide) (Nat.le_of_ble_eq_true rfl) ?_
  intro p e s m below meth c ls cx hX hZ hexn hr hlk hw hS hl
  have hN := cx.2.2.2.2.hN
  have hl : lv_has ls 2 [(0, .ref (G.2.1 0)), (1, .int a1)] := hl
  unfold f_X10_needContract at hf
  refine lv_aload_n cx.1 cx.2.1 dX10_needContract_0 rfl (lv_at hl 0 rfl) ?_
  refine g_get (C := RX10) (T := TX10) (N := 6) (v := .ref (G.2.1 14)) cx hw inlX10 0 (by omega) he_c0 rfl 1 (by decide) gw_17 rfl rfl dX10_needContract_1 ?_
  refine g_get (C := RX7) (T := TX7) (N := 9) (v := .ref (G.2.1 (14 + 2))) cx hw inlX7 14 (Nat.lt_of_lt_of_le st_14.lt0 hN) (he_s0 st_14) rfl 1 (by decide) gw_199 rfl rfl dX10_needContract_4 ?_
  refine lv_iload_n cx.1 cx.2.1 dX10_needContract_7 rfl (lv_at hl 1 rfl) ?_
  obtain ⟨v_2, S_1, hv, hf⟩ := gbi_some hf
  refine g_V (As := [.int a1]) (rest := []) cx hw hS (c_X1_has l G st_14 a1 S v_2 S_1 hv) (Nat.lt_of_lt_of_le (st_14.lt (j := 2) (by omega)) hN) (he_s2 st_14) rfl rfl gw_433 gy_X1_has gi_X1_has ⟨Nat.le_of_ble_eq_true rfl, Nat.le_of_ble_eq_true rfl⟩ ⟨Nat.le_of_ble_eq_true rfl, Nat.le_of_ble_eq_true rfl⟩ rfl hl.1 rfl (Nat.le_of_ble_eq_true rfl) dX10_needContract_8 (fun H locs hw hS => ?_)
  refine W.eq (g2 := F0 m 11 ls [.int v_2]) rfl ?_
  rcases gbx_some hf with ⟨j9, v9, S9, hv, hf9⟩ | ⟨v_4, S_3, hv, hf⟩
  · exact gx_thr (gx_rS (As := [.int v_2]) (rest := []) cx hX hZ hw hS (c_X10_needIndex l hst G v_2 S_1 (j9 + 1) v9 S9 hv) gw_229 gy_X10_needIndex gi_X10_needIndex ⟨Nat.le_of_ble_eq_true rfl, Nat.le_of_ble_eq_true rfl⟩ ⟨Nat.le_of_ble_eq_true rfl, Nat.le_of_ble_eq_true rfl⟩ rfl hl.1 rfl (Nat.le_of_ble_eq_true rfl) dX10_needContract_11) hS hexn hlk hf9 (Nat.le_of_ble_eq_true rfl) (Nat.le_of_ble_eq_true rfl)
  refine gx_ret (gx_rS (As := [.int v_2]) (rest := []) cx hX hZ hw hS (c_X10_needIndex l hst G v_2 S_1 0 v_4 S_3 hv) gw_229 gy_X10_needIndex gi_X10_needIndex ⟨Nat.le_of_ble_eq_true rfl, Nat.le_of_ble_eq_true rfl⟩ ⟨Nat.le_of_ble_eq_true rfl, Nat.le_of_ble_eq_true rfl⟩ rfl hl.1 rfl (Nat.le_of_ble_eq_true rfl) dX10_needContract_11) hS (fun H locs hw hS => ?_)
  refine W.eq (g2 := F0 m 14 ls []) rfl ?_
  exact gx_vreti cx hr hlk hw hS hf dX10_needContract_14 (Nat.le_of_ble_eq_true rfl) (Nat.le_of_ble_eq_true rfl)
set_option maxHeartbeats 4000000 in
set_option maxRecDepth 100000 in
theorem c_X10_contract (l : Launch) (hst : l.stackTraces = false) (G : gG) (a1 : Int32) (a2 : Int32) (S : Sg) (k : Nat) (r : Int32) (S' : Sg) (hf : f_X10_contract a1 a2 S = some (k, r, S')) : Cx l yX10_contract [Cond.code yX10_contract cX10_contract 4 (some .int)] (gRx 8 131 2 12) G [.ref (G.2.1 0), .int a1, .int a2] S k (some (.int r)) S' 2 12 := by
  refine Cx_of (by decide) (Nat.le_of_ble_eq_true rfl) ?_
  intro p e s m below meth c ls cx hX hZ hexn hr hlk hw hS hl
  have hN := cx.2.2.2.2.hN
  have hl : lv_has ls 4 [(0, .ref (G.2.1 0)), (1, .int a1), (2, .int a2)] := hl
  unfold f_X10_contract at hf
  refine lv_aload_n cx.1 cx.2.1 dX10_contract_0 rfl (lv_at hl 0 rfl) ?_
  refine lv_iload_n cx.1 cx.2.1 dX10_contract_1 rfl (lv_at hl 1 rfl) ?_
  rcases gbx_some hf with ⟨j9, v9, S9, hv, hf9⟩ | ⟨v_2, S_1, hv, hf⟩
  · exact gx_thr (gx_rV (As := [.int a1]) (rest := []) cx hX hZ hw hS (c_X10_needContract l hst G a1 S (j9 + 1) v9 S9 hv) (by omega) he_c0 rfl rfl gw_429 gy_X10_needContract gi_X10_needContract ⟨Nat.le_of_ble_eq_true rfl, Nat.le_of_ble_eq_true rfl⟩ ⟨Nat.le_of_ble_eq_true rfl, Nat.le_of_ble_eq_true rfl⟩ rfl hl.1 rfl (Nat.le_of_ble_eq_true rfl) dX10_contract_2) hS hexn hlk hf9 (Nat.le_of_ble_eq_true rfl) (Nat.le_of_ble_eq_true rfl)
  refine gx_ret (gx_rV (As := [.int a1]) (rest := []) cx hX hZ hw hS (c_X10_needContract l hst G a1 S 0 v_2 S_1 hv) (by omega) he_c0 rfl rfl gw_429 gy_X10_needContract gi_X10_needContract ⟨Nat.le_of_ble_eq_true rfl, Nat.le_of_ble_eq_true rfl⟩ ⟨Nat.le_of_ble_eq_true rfl, Nat.le_of_ble_eq_true rfl⟩ rfl hl.1 rfl (Nat.le_of_ble_eq_true rfl) dX10_contract_2) hS (fun H locs hw hS => ?_)
  refine W.eq (g2 := F0 m 5 ls []) rfl ?_
  refine lv_aload_n cx.1 cx.2.1 dX10_contract_5 rfl (lv_at hl 0 rfl) ?_
  refine g_get (C := RX10) (T := TX10) (N := 6) (v := .ref (G.2.1 14)) cx hw inlX10 0 (by omega) he_c0 rfl 1 (by decide) gw_17 rfl rfl dX10_contract_6 ?_
  refine g_get (C := RX7) (T := TX7) (N := 9) (v := .ref (G.2.1 (14 + 2))) cx hw inlX7 14 (Nat.lt_of_lt_of_le st_14.lt0 hN) (he_s0 st_14) rfl 1 (by decide) gw_199 rfl rfl dX10_contract_9 ?_
  refine lv_astore_n (lv' := [(3, .ref (G.2.1 (14 + 2))), (0, .ref (G.2.1 0)), (1, .int a1), (2, .int a2)]) cx.1 cx.2.1 dX10_contract_12 rfl hl (by decide) rfl (fun ls hl => ?_)
  refine lv_iload_n cx.1 cx.2.1 dX10_contract_13 rfl (lv_at hl 3 rfl) ?_
  by_cases hs_5 : a2 = (0 : Int32)
  · rw [if_pos hs_5] at hf
    refine lv_tableIn (off := 38) (tgt := 52) cx.1 cx.2.1 dX10_contract_14 (by rw [hs_5]; decide) (by rw [hs_5]; decide) (by rw [hs_5]; decide) (by decide) ?_
    refine lv_aload_n cx.1 cx.2.1 dX10_contract_52 rfl (lv_at hl 0 rfl) ?_
    refine g_get (C := RX1) (T := TX1) (N := 7) (v := .ref (G.2.1 (14 + 8))) cx hw inlX1 (14 + 2) (Nat.lt_of_lt_of_le (st_14.lt (j := 2) (by omega)) hN) (he_s2 st_14) rfl 0 (by decide) gw_423 rfl rfl dX10_contract_53 ?_
    refine lv_iload_n cx.1 cx.2.1 dX10_contract_56 rfl (lv_at hl 2 rfl) ?_
    obtain ⟨v_4, S_3, hv, hf⟩ := gbi_some hf
    refine g_S (As := [.ref (G.2.1 (14 + 8)), .int a1]) (rest := []) cx hw hS (c_X10_at l G (ia_s8 hN st_14) a1 S_1 v_4 S_3 hv) gw_210 gy_X10_at gi_X10_at ⟨Nat.le_of_ble_eq_true rfl, Nat.le_of_ble_eq_true rfl⟩ ⟨Nat.le_of_ble_eq_true rfl, Nat.le_of_ble_eq_true rfl⟩ rfl hl.1 rfl (Nat.le_of_ble_eq_true rfl) dX10_contract_57 (fun H locs hw hS => ?_)
    refine W.eq (g2 := F0 m 60 ls [.int v_4]) rfl ?_
    exact gx_ireti cx hr hlk hw hS hf dX10_contract_60 (Nat.le_of_ble_eq_true rfl) (Nat.le_of_ble_eq_true rfl)
  rw [if_neg hs_5] at hf
  by_cases hs_8 : a2 = (1 : Int32)
  · rw [if_pos hs_8] at hf
    refine lv_tableIn (off := 47) (tgt := 61) cx.1 cx.2.1 dX10_contract_14 (by rw [hs_8]; decide) (by rw [hs_8]; decide) (by rw [hs_8]; decide) (by decide) ?_
    refine lv_aload_n cx.1 cx.2.1 dX10_contract_61 rfl (lv_at hl 0 rfl) ?_
    refine g_get (C := RX1) (T := TX1) (N := 7) (v := .ref (G.2.1 (14 + 9))) cx hw inlX1 (14 + 2) (Nat.lt_of_lt_of_le (st_14.lt (j := 2) (by omega)) hN) (he_s2 st_14) rfl 1 (by decide) gw_424 rfl rfl dX10_contract_62 ?_
    refine lv_iload_n cx.1 cx.2.1 dX10_contract_65 rfl (lv_at hl 2 rfl) ?_
    obtain ⟨v_7, S_6, hv, hf⟩ := gbi_some hf
    refine g_S (As := [.ref (G.2.1 (14 + 9)), .int a1]) (rest := []) cx hw hS (c_X10_at l G (ia_s9 hN st_14) a1 S_1 v_7 S_6 hv) gw_210 gy_X10_at gi_X10_at ⟨Nat.le_of_ble_eq_true rfl, Nat.le_of_ble_eq_true rfl⟩ ⟨Nat.le_of_ble_eq_true rfl, Nat.le_of_ble_eq_true rfl⟩ rfl hl.1 rfl (Nat.le_of_ble_eq_true rfl) dX10_contract_66 (fun H locs hw hS => ?_)
    refine W.eq (g2 := F0 m 69 ls [.int v_7]) rfl ?_
    exact gx_ireti cx hr hlk hw hS hf dX10_contract_69 (Nat.le_of_ble_eq_true rfl) (Nat.le_of_ble_eq_true rfl)
  rw [if_neg hs_8] at hf
  by_cases hs_11 : a2 = (2 : Int32)
  · rw [if_pos hs_11] at hf
    refine lv_tableIn (off := 56) (tgt := 70) cx.1 cx.2.1 dX10_contract_14 (by rw [hs_11]; decide) (by rw [hs_11]; decide) (by rw [hs_11]; decide) (by decide) ?_
    refine lv_aload_n cx.1 cx.2.1 dX10_contract_70 rfl (lv_at hl 0 rfl) ?_
    refine g_get (C := RX1) (T := TX1) (N := 7) (v := .ref (G.2.1 (14 + 10))) cx hw inlX1 (14 + 2) (Nat.lt_of_lt_of_le (st_14.lt (j := 2) (by omega)) hN) (he_s2 st_14) rfl 2 (by decide) gw_425 rfl rfl dX10_contract_71 ?_
    refine lv_iload_n cx.1 cx.2.1 dX10_contract_74 rfl (lv_at hl 2 rfl) ?_
    obtain ⟨v_10, S_9, hv, hf⟩ := gbi_some hf
    refine g_S (As := [.ref (G.2.1 (14 + 10)), .int a1]) (rest := []) cx hw hS (c_X10_at l G (ia_s10 hN st_14) a1 S_1 v_10 S_9 hv) gw_210 gy_X10_at gi_X10_at ⟨Nat.le_of_ble_eq_true rfl, Nat.le_of_ble_eq_true rfl⟩ ⟨Nat.le_of_ble_eq_true rfl, Nat.le_of_ble_eq_true rfl⟩ rfl hl.1 rfl (Nat.le_of_ble_eq_true rfl) dX10_contract_75 (fun H locs hw hS => ?_)
    refine W.eq (g2 := F0 m 78 ls [.int v_10]) rfl ?_
    exact gx_ireti cx hr hlk hw hS hf dX10_contract_78 (Nat.le_of_ble_eq_true rfl) (Nat.le_of_ble_eq_true rfl)
  rw [if_neg hs_11] at hf
  by_cases hs_14 : a2 = (3 : Int32)
  · rw [if_pos hs_14] at hf
    refine lv_tableIn (off := 65) (tgt := 79) cx.1 cx.2.1 dX10_contract_14 (by rw [hs_14]; decide) (by rw [hs_14]; decide) (by rw [hs_14]; decide) (by decide) ?_
    refine lv_aload_n cx.1 cx.2.1 dX10_contract_79 rfl (lv_at hl 0 rfl) ?_
    refine g_get (C := RX1) (T := TX1) (N := 7) (v := .ref (G.2.1 (14 + 11))) cx hw inlX1 (14 + 2) (Nat.lt_of_lt_of_le (st_14.lt (j := 2) (by omega)) hN) (he_s2 st_14) rfl 3 (by decide) gw_426 rfl rfl dX10_contract_80 ?_
    refine lv_iload_n cx.1 cx.2.1 dX10_contract_83 rfl (lv_at hl 2 rfl) ?_
    obtain ⟨v_13, S_12, hv, hf⟩ := gbi_some hf
    refine g_S (As := [.ref (G.2.1 (14 + 11)), .int a1]) (rest := []) cx hw hS (c_X10_at l G (ia_s11 hN st_14) a1 S_1 v_13 S_12 hv) gw_210 gy_X10_at gi_X10_at ⟨Nat.le_of_ble_eq_true rfl, Nat.le_of_ble_eq_true rfl⟩ ⟨Nat.le_of_ble_eq_true rfl, Nat.le_of_ble_eq_true rfl⟩ rfl hl.1 rfl (Nat.le_of_ble_eq_true rfl) dX10_contract_84 (fun H locs hw hS => ?_)
    refine W.eq (g2 := F0 m 87 ls [.int v_13]) rfl ?_
    exact gx_ireti cx hr hlk hw hS hf dX10_contract_87 (Nat.le_of_ble_eq_true rfl) (Nat.le_of_ble_eq_true rfl)
  rw [if_neg hs_14] at hf
  by_cases hs_17 : a2 = (4 : Int32)
  · rw [if_pos hs_17] at hf
    refine lv_tableIn (off := 74) (tgt := 88) cx.1 cx.2.1 dX10_contract_14 (by rw [hs_17]; decide) (by rw [hs_17]; decide) (by rw [hs_17]; decide) (by decide) ?_
    refine lv_aload_n cx.1 cx.2.1 dX10_contract_88 rfl (lv_at hl 0 rfl) ?_
    refine g_get (C := RX1) (T := TX1) (N := 7) (v := .ref (G.2.1 (14 + 12))) cx hw inlX1 (14 + 2) (Nat.lt_of_lt_of_le (st_14.lt (j := 2) (by omega)) hN) (he_s2 st_14) rfl 4 (by decide) gw_427 rfl rfl dX10_contract_89 ?_
    refine lv_iload_n cx.1 cx.2.1 dX10_contract_92 rfl (lv_at hl 2 rfl) ?_
    obtain ⟨v_16, S_15, hv, hf⟩ := gbi_some hf
    refine g_S (As := [.ref (G.2.1 (14 + 12)), .int a1]) (rest := []) cx hw hS (c_X10_at l G (ia_s12 hN st_14) a1 S_1 v_16 S_15 hv) gw_210 gy_X10_at gi_X10_at ⟨Nat.le_of_ble_eq_true rfl, Nat.le_of_ble_eq_true rfl⟩ ⟨Nat.le_of_ble_eq_true rfl, Nat.le_of_ble_eq_true rfl⟩ rfl hl.1 rfl (Nat.le_of_ble_eq_true rfl) dX10_contract_93 (fun H locs hw hS => ?_)
    refine W.eq (g2 := F0 m 96 ls [.int v_16]) rfl ?_
    exact gx_ireti cx hr hlk hw hS hf dX10_contract_96 (Nat.le_of_ble_eq_true rfl) (Nat.le_of_ble_eq_true rfl)
  rw [if_neg hs_17] at hf
  by_cases hs_20 : a2 = (5 : Int32)
  · rw [if_pos hs_20] at hf
    refine lv_tableIn (off := 83) (tgt := 97) cx.1 cx.2.1 dX10_contract_14 (by rw [hs_20]; decide) (by rw [hs_20]; decide) (by rw [hs_20]; decide) (by decide) ?_
    refine lv_aload_n cx.1 cx.2.1 dX10_contract_97 rfl (lv_at hl 0 rfl) ?_
    refine g_get (C := RX1) (T := TX1) (N := 7) (v := .ref (G.2.1 (14 + 13))) cx hw inlX1 (14 + 2) (Nat.lt_of_lt_of_le (st_14.lt (j := 2) (by omega)) hN) (he_s2 st_14) rfl 5 (by decide) gw_428 rfl rfl dX10_contract_98 ?_
    refine lv_iload_n cx.1 cx.2.1 dX10_contract_101 rfl (lv_at hl 2 rfl) ?_
    obtain ⟨v_19, S_18, hv, hf⟩ := gbi_some hf
    refine g_S (As := [.ref (G.2.1 (14 + 13)), .int a1]) (rest := []) cx hw hS (c_X10_at l G (ia_s13 hN st_14) a1 S_1 v_19 S_18 hv) gw_210 gy_X10_at gi_X10_at ⟨Nat.le_of_ble_eq_true rfl, Nat.le_of_ble_eq_true rfl⟩ ⟨Nat.le_of_ble_eq_true rfl, Nat.le_of_ble_eq_true rfl⟩ rfl hl.1 rfl (Nat.le_of_ble_eq_true rfl) dX10_contract_102 (fun H locs hw hS => ?_)
    refine W.eq (g2 := F0 m 105 ls [.int v_19]) rfl ?_
    exact gx_ireti cx hr hlk hw hS hf dX10_contract_105 (Nat.le_of_ble_eq_true rfl) (Nat.le_of_ble_eq_true rfl)
  rw [if_neg hs_20] at hf
  refine lv_tableOut (tgt := 106) cx.1 cx.2.1 dX10_contract_14 (by have := sw_nek (k := 0) hs_5 (by decide); have := sw_nek (k := 1) hs_8 (by decide); have := sw_nek (k := 2) hs_11 (by decide); have := sw_nek (k := 3) hs_14 (by decide); have := sw_nek (k := 4) hs_17 (by decide); have := sw_nek (k := 5) hs_20 (by decide); omega) (by decide) ?_
  exact gx_throw (k := 1) (text := "no such number") cx hX hZ hw hS hst hexn hlk hl.1 gw_195 gw_196 (by decide +kernel) gEo2 (List.mem_of_getElem? (i := 3) rfl) hf dX10_contract_106 dX10_contract_109 dX10_contract_110 dX10_contract_112 dX10_contract_115 (Nat.le_of_ble_eq_true rfl) (Nat.le_of_ble_eq_true rfl) (Nat.le_of_ble_eq_true rfl) (Nat.le_of_ble_eq_true rfl) (Nat.le_of_ble_eq_true rfl) (Nat.le_of_ble_eq_true rfl)
set_option maxHeartbeats 4000000 in
set_option maxRecDepth 100000 in
theorem c_X10_levelFor (l : Launch) (hst : l.stackTraces = false) (G : gG) (a1 : Int32) (a2 : Int32) (S : Sg) (k : Nat) (r : Int32) (S' : Sg) (hf : f_X10_levelFor a1 a2 S = some (k, r, S')) : Cx l yX10_levelFor [Cond.code yX10_levelFor cX10_levelFor 3 (some .int)] (gRx 8 131 2 12) G [.ref (G.2.1 0), .int a1, .int a2] S k (some (.int r)) S' 2 12 := by
  refine Cx_of (by decide) (Nat.le_of_ble_eq_true rfl) ?_
  intro p e s m below meth c ls cx hX hZ hexn hr hlk hw hS hl
  have hN := cx.2.2.2.2.hN
  have hl : lv_has ls 3 [(0, .ref (G.2.1 0)), (1, .int a1), (2, .int a2)] := hl
  unfold f_X10_levelFor at hf
  refine lv_iload_n cx.1 cx.2.1 dX10_levelFor_0 rfl (lv_at hl 1 rfl) ?_
  rcases gbx_some hf with ⟨j9, v9, S9, hv, hf9⟩ | ⟨v_2, S_1, hv, hf⟩
  · exact gx_thr (gx_rS (As := [.int a1]) (rest := []) cx hX hZ hw hS (c_X10_needCompany l hst G a1 S (j9 + 1) v9 S9 hv) gw_223 gy_X10_needCompany gi_X10_needCompany ⟨Nat.le_of_ble_eq_true rfl, Nat.le_of_ble_eq_true rfl⟩ ⟨Nat.le_of_ble_eq_true rfl, Nat.le_of_ble_eq_true rfl⟩ rfl hl.1 rfl (Nat.le_of_ble_eq_true rfl) dX10_levelFor_1) hS hexn hlk hf9 (Nat.le_of_ble_eq_true rfl) (Nat.le_of_ble_eq_true rfl)
  refine gx_ret (gx_rS (As := [.int a1]) (rest := []) cx hX hZ hw hS (c_X10_needCompany l hst G a1 S 0 v_2 S_1 hv) gw_223 gy_X10_needCompany gi_X10_needCompany ⟨Nat.le_of_ble_eq_true rfl, Nat.le_of_ble_eq_true rfl⟩ ⟨Nat.le_of_ble_eq_true rfl, Nat.le_of_ble_eq_true rfl⟩ rfl hl.1 rfl (Nat.le_of_ble_eq_true rfl) dX10_levelFor_1) hS (fun H locs hw hS => ?_)
  refine W.eq (g2 := F0 m 4 ls []) rfl ?_
  refine lv_aload_n cx.1 cx.2.1 dX10_levelFor_4 rfl (lv_at hl 0 rfl) ?_
  refine lv_iload_n cx.1 cx.2.1 dX10_levelFor_5 rfl (lv_at hl 2 rfl) ?_
  rcases gbx_some hf with ⟨j9, v9, S9, hv, hf9⟩ | ⟨v_4, S_3, hv, hf⟩
  · exact gx_thr (gx_rV (As := [.int a2]) (rest := []) cx hX hZ hw hS (c_X10_needContract l hst G a2 S_1 (j9 + 1) v9 S9 hv) (by omega) he_c0 rfl rfl gw_429 gy_X10_needContract gi_X10_needContract ⟨Nat.le_of_ble_eq_true rfl, Nat.le_of_ble_eq_true rfl⟩ ⟨Nat.le_of_ble_eq_true rfl, Nat.le_of_ble_eq_true rfl⟩ rfl hl.1 rfl (Nat.le_of_ble_eq_true rfl) dX10_levelFor_6) hS hexn hlk hf9 (Nat.le_of_ble_eq_true rfl) (Nat.le_of_ble_eq_true rfl)
  refine gx_ret (gx_rV (As := [.int a2]) (rest := []) cx hX hZ hw hS (c_X10_needContract l hst G a2 S_1 0 v_4 S_3 hv) (by omega) he_c0 rfl rfl gw_429 gy_X10_needContract gi_X10_needContract ⟨Nat.le_of_ble_eq_true rfl, Nat.le_of_ble_eq_true rfl⟩ ⟨Nat.le_of_ble_eq_true rfl, Nat.le_of_ble_eq_true rfl⟩ rfl hl.1 rfl (Nat.le_of_ble_eq_true rfl) dX10_levelFor_6) hS (fun H locs hw hS => ?_)
  refine W.eq (g2 := F0 m 9 ls []) rfl ?_
  refine lv_aload_n cx.1 cx.2.1 dX10_levelFor_9 rfl (lv_at hl 0 rfl) ?_
  refine g_get (C := RX10) (T := TX10) (N := 6) (v := .ref (G.2.1 8)) cx hw inlX10 0 (by omega) he_c0 rfl 5 (by decide) gw_30 rfl rfl dX10_levelFor_10 ?_
  refine lv_aload_n cx.1 cx.2.1 dX10_levelFor_13 rfl (lv_at hl 0 rfl) ?_
  refine g_get (C := RX10) (T := TX10) (N := 6) (v := .ref (G.2.1 14)) cx hw inlX10 0 (by omega) he_c0 rfl 1 (by decide) gw_17 rfl rfl dX10_levelFor_14 ?_
  refine lv_iload_n cx.1 cx.2.1 dX10_levelFor_17 rfl (lv_at hl 1 rfl) ?_
  refine lv_iload_n cx.1 cx.2.1 dX10_levelFor_18 rfl (lv_at hl 2 rfl) ?_
  obtain ⟨v_6, S_5, hv, hf⟩ := gbi_some hf
  refine g_V (As := [.ref (G.2.1 14), .int a1, .int a2]) (rest := []) cx hw hS (c_X4_smallestLevel l G st_14 a1 a2 S_3 v_6 S_5 hv) (by omega) he_c8 rfl rfl gw_591 gy_X4_smallestLevel gi_X4_smallestLevel ⟨Nat.le_of_ble_eq_true rfl, Nat.le_of_ble_eq_true rfl⟩ ⟨Nat.le_of_ble_eq_true rfl, Nat.le_of_ble_eq_true rfl⟩ rfl hl.1 rfl (Nat.le_of_ble_eq_true rfl) dX10_levelFor_19 (fun H locs hw hS => ?_)
  refine W.eq (g2 := F0 m 22 ls [.int v_6]) rfl ?_
  exact gx_ireti cx hr hlk hw hS hf dX10_levelFor_22 (Nat.le_of_ble_eq_true rfl) (Nat.le_of_ble_eq_true rfl)
set_option maxHeartbeats 4000000 in
set_option maxRecDepth 100000 in
theorem c_X10_load (l : Launch) (hst : l.stackTraces = false) (G : gG) (S : Sg) (k : Nat) (r : Int32) (S' : Sg) (hf : f_X10_load S = some (k, r, S')) : Cx l yX10_load [Cond.code yX10_load cX10_load 1 (some .int)] (gRx 6 139 1 6) G [.ref (G.2.1 0)] S k (some (.int r)) S' 1 6 := by
  refine Cx_of (by decide) (Nat.le_of_ble_eq_true rfl) ?_
  intro p e s m below meth c ls cx hX hZ hexn hr hlk hw hS hl
  have hN := cx.2.2.2.2.hN
  have hl : lv_has ls 1 [(0, .ref (G.2.1 0))] := hl
  unfold f_X10_load at hf
  refine lv_aload_n cx.1 cx.2.1 dX10_load_0 rfl (lv_at hl 0 rfl) ?_
  refine g_get (C := RX10) (T := TX10) (N := 6) (v := .ref (G.2.1 1)) cx hw inlX10 0 (by omega) he_c0 rfl 0 (by decide) gw_13 rfl rfl dX10_load_1 ?_
  refine lv_aload_n cx.1 cx.2.1 dX10_load_4 rfl (lv_at hl 0 rfl) ?_
  refine g_get (C := RX10) (T := TX10) (N := 6) (v := .ref (G.2.1 35)) cx hw inlX10 0 (by omega) he_c0 rfl 2 (by decide) gw_18 rfl rfl dX10_load_5 ?_
  obtain ⟨v_2, S_1, hv, hf⟩ := gbi_some hf
  refine g_V (As := [.ref (G.2.1 35)]) (rest := []) cx hw hS (c_X2_readInto l G st_35 S v_2 S_1 hv) (by omega) he_c1 rfl rfl gw_138 gy_X2_readInto gi_X2_readInto ⟨Nat.le_of_ble_eq_true rfl, Nat.le_of_ble_eq_true rfl⟩ ⟨Nat.le_of_ble_eq_true rfl, Nat.le_of_ble_eq_true rfl⟩ rfl hl.1 rfl (Nat.le_of_ble_eq_true rfl) dX10_load_8 (fun H locs hw hS => ?_)
  refine W.eq (g2 := F0 m 11 ls [.int v_2]) rfl ?_
  refine lv_bipush (v := (-9 : Int32)) cx.1 cx.2.1 dX10_load_11 (by decide) ?_
  refine lv_icmp_eq (tgt := 26) cx.1 cx.2.1 dX10_load_13 (by decide) (fun hc => ?_) (fun hc => ?_)
  · rw [if_pos hc] at hf
    refine lv_aload_n cx.1 cx.2.1 dX10_load_26 rfl (lv_at hl 0 rfl) ?_
    refine g_get (C := RX10) (T := TX10) (N := 6) (v := .ref (G.2.1 14)) cx hw inlX10 0 (by omega) he_c0 rfl 1 (by decide) gw_17 rfl rfl dX10_load_27 ?_
    refine lv_aload_n cx.1 cx.2.1 dX10_load_30 rfl (lv_at hl 0 rfl) ?_
    refine g_get (C := RX10) (T := TX10) (N := 6) (v := .ref (G.2.1 35)) cx hw inlX10 0 (by omega) he_c0 rfl 2 (by decide) gw_18 rfl rfl dX10_load_31 ?_
    obtain ⟨S_3, hv, hf⟩ := gbv_some hf
    refine g_V (As := [.ref (G.2.1 35)]) (rest := []) cx hw hS (c_X7_copyFrom l G st_14 st_35 S_1 S_3 hv) (Nat.lt_of_lt_of_le st_14.lt0 hN) (he_s0 st_14) rfl rfl gw_319 gy_X7_copyFrom gi_X7_copyFrom ⟨Nat.le_of_ble_eq_true rfl, Nat.le_of_ble_eq_true rfl⟩ ⟨Nat.le_of_ble_eq_true rfl, Nat.le_of_ble_eq_true rfl⟩ rfl hl.1 rfl (Nat.le_of_ble_eq_true rfl) dX10_load_34 (fun H locs hw hS => ?_)
    refine W.eq (g2 := F0 m 37 ls []) rfl ?_
    refine lv_aload_n cx.1 cx.2.1 dX10_load_37 rfl (lv_at hl 0 rfl) ?_
    refine g_get (C := RX10) (T := TX10) (N := 6) (v := .ref (G.2.1 3)) cx hw inlX10 0 (by omega) he_c0 rfl 3 (by decide) gw_22 rfl rfl dX10_load_38 ?_
    obtain ⟨S_4, hv, hf⟩ := gbv_some hf
    refine g_V (As := []) (rest := []) cx hw hS (c_X3_forget l G S_3 S_4 hv) (by omega) he_c3 rfl rfl gw_807 gy_X3_forget gi_X3_forget ⟨Nat.le_of_ble_eq_true rfl, Nat.le_of_ble_eq_true rfl⟩ ⟨Nat.le_of_ble_eq_true rfl, Nat.le_of_ble_eq_true rfl⟩ rfl hl.1 rfl (Nat.le_of_ble_eq_true rfl) dX10_load_41 (fun H locs hw hS => ?_)
    refine W.eq (g2 := F0 m 44 ls []) rfl ?_
    refine lv_aload_n cx.1 cx.2.1 dX10_load_44 rfl (lv_at hl 0 rfl) ?_
    refine g_get (C := RX10) (T := TX10) (N := 6) (v := .ref (G.2.1 5)) cx hw inlX10 0 (by omega) he_c0 rfl 4 (by decide) gw_26 rfl rfl dX10_load_45 ?_
    obtain ⟨S_5, hv, hf⟩ := gbv_some hf
    refine g_V (As := []) (rest := []) cx hw hS (c_X6_empty l G S_4 S_5 hv) (by omega) he_c5 rfl rfl gw_859 gy_X6_empty gi_X6_empty ⟨Nat.le_of_ble_eq_true rfl, Nat.le_of_ble_eq_true rfl⟩ ⟨Nat.le_of_ble_eq_true rfl, Nat.le_of_ble_eq_true rfl⟩ rfl hl.1 rfl (Nat.le_of_ble_eq_true rfl) dX10_load_48 (fun H locs hw hS => ?_)
    refine W.eq (g2 := F0 m 51 ls []) rfl ?_
    refine lv_aload_n cx.1 cx.2.1 dX10_load_51 rfl (lv_at hl 0 rfl) ?_
    refine g_get (C := RX10) (T := TX10) (N := 6) (v := .ref (G.2.1 14)) cx hw inlX10 0 (by omega) he_c0 rfl 1 (by decide) gw_17 rfl rfl dX10_load_52 ?_
    refine g_get (C := RX7) (T := TX7) (N := 9) (v := .ref (G.2.1 (14 + 1))) cx hw inlX7 14 (Nat.lt_of_lt_of_le st_14.lt0 hN) (he_s0 st_14) rfl 0 (by decide) gw_31 rfl rfl dX10_load_55 ?_
    refine g_get (C := RX8) (T := TX8) (N := 5) (v := .int (S_5 (14 + 1) 4)) cx hw inlX8 (14 + 1) (Nat.lt_of_lt_of_le (st_14.lt (j := 1) (by omega)) hN) (he_s1 st_14) rfl 4 (by decide) gw_198 rfl rfl dX10_load_58 ?_
    exact gx_ireti cx hr hlk hw hS hf dX10_load_61 (Nat.le_of_ble_eq_true rfl) (Nat.le_of_ble_eq_true rfl)
  · rw [if_neg hc] at hf
    exact gx_throw (k := 2) (text := "the text is not a game") cx hX hZ hw hS hst hexn hlk hl.1 gw_305 gw_306 (by decide +kernel) gEo3 (List.mem_of_getElem? (i := 2) rfl) hf dX10_load_16 dX10_load_19 dX10_load_20 dX10_load_22 dX10_load_25 (Nat.le_of_ble_eq_true rfl) (Nat.le_of_ble_eq_true rfl) (Nat.le_of_ble_eq_true rfl) (Nat.le_of_ble_eq_true rfl) (Nat.le_of_ble_eq_true rfl) (Nat.le_of_ble_eq_true rfl)
set_option maxHeartbeats 4000000 in
set_option maxRecDepth 100000 in
theorem c_X10_needCity (l : Launch) (hst : l.stackTraces = false) (G : gG) (a1 : Int32) (S : Sg) (k : Nat) (r : Int32) (S' : Sg) (hf : f_X10_needCity a1 S = some (k, r, S')) : Cx l yX10_needCity [Cond.code yX10_needCity cX10_needCity 2 none] (gRx 7 110 1 6) G [.ref (G.2.1 0), .int a1] S k none S' 1 6 := by
  refine Cx_of (by decide) (Nat.le_of_ble_eq_true rfl) ?_
  intro p e s m below meth c ls cx hX hZ hexn hr hlk hw hS hl
  have hN := cx.2.2.2.2.hN
  have hB_20 : ∀ (S : Sg) (t0 : Int32) (H : Heap) (locs : List Loc) (ls : Array Slot), gP G S H → va_S (gA G s.heap.size) s.heap H locs → lv_has ls 2 [] → B_X10_needCity_20 S t0 = some (k, r, S') → W p l e (gRx 7 110 1 6) s m ([.ref (G.2.1 0), .int a1] : List Value).toArray below meth c H locs 0 0 (vx_MQ below (gQx G S' k none (gA G s.heap.size)) (gXx G S' k (gA G s.heap.size)) ([.ref (G.2.1 0), .int a1] : List Value).toArray s 1 6 (gA G s.heap.size)) (F0 m 20 ls [.int t0]) := by
    intro S t0 H locs ls hw hS hl hf
    unfold B_X10_needCity_20 at hf
    rcases gbx_some hf with ⟨j9, v9, S9, hv, hf9⟩ | ⟨v_2, S_1, hv, hf⟩
    · exact gx_thr (gx_rS (As := [.int t0]) (rest := []) cx hX hZ hw hS (c_X10_needIndex l hst G t0 S (j9 + 1) v9 S9 hv) gw_229 gy_X10_needIndex gi_X10_needIndex ⟨Nat.le_of_ble_eq_true rfl, Nat.le_of_ble_eq_true rfl⟩ ⟨Nat.le_of_ble_eq_true rfl, Nat.le_of_ble_eq_true rfl⟩ rfl hl.1 rfl (Nat.le_of_ble_eq_true rfl) dX10_needCity_20) hS hexn hlk hf9 (Nat.le_of_ble_eq_true rfl) (Nat.le_of_ble_eq_true rfl)
    refine gx_ret (gx_rS (As := [.int t0]) (rest := []) cx hX hZ hw hS (c_X10_needIndex l hst G t0 S 0 v_2 S_1 hv) gw_229 gy_X10_needIndex gi_X10_needIndex ⟨Nat.le_of_ble_eq_true rfl, Nat.le_of_ble_eq_true rfl⟩ ⟨Nat.le_of_ble_eq_true rfl, Nat.le_of_ble_eq_true rfl⟩ rfl hl.1 rfl (Nat.le_of_ble_eq_true rfl) dX10_needCity_20) hS (fun H locs hw hS => ?_)
    refine W.eq (g2 := F0 m 23 ls []) rfl ?_
    exact gx_vreti cx hr hlk hw hS hf dX10_needCity_23 (Nat.le_of_ble_eq_true rfl) (Nat.le_of_ble_eq_true rfl)
  have hl : lv_has ls 2 [(0, .ref (G.2.1 0)), (1, .int a1)] := hl
  unfold f_X10_needCity at hf
  refine lv_iload_n cx.1 cx.2.1 dX10_needCity_0 rfl (lv_at hl 1 rfl) ?_
  refine lv_if_lt (tgt := 19) cx.1 cx.2.1 dX10_needCity_1 (by decide) (fun hc => ?_) (fun hc => ?_)
  · rw [if_pos hc] at hf
    refine lv_iconst (v := (0 : Int32)) cx.1 cx.2.1 dX10_needCity_19 (by decide) ?_
    exact hB_20 S (0 : Int32) _ _ _ hw hS (lv_sub hl [] rfl) hf
  · rw [if_neg hc] at hf
    refine lv_iload_n cx.1 cx.2.1 dX10_needCity_4 rfl (lv_at hl 1 rfl) ?_
    refine lv_aload_n cx.1 cx.2.1 dX10_needCity_5 rfl (lv_at hl 0 rfl) ?_
    refine g_get (C := RX10) (T := TX10) (N := 6) (v := .ref (G.2.1 14)) cx hw inlX10 0 (by omega) he_c0 rfl 1 (by decide) gw_17 rfl rfl dX10_needCity_6 ?_
    refine g_get (C := RX7) (T := TX7) (N := 9) (v := .int (S 14 3)) cx hw inlX7 14 (Nat.lt_of_lt_of_le st_14.lt0 hN) (he_s0 st_14) rfl 3 (by decide) gw_197 rfl rfl dX10_needCity_9 ?_
    refine lv_icmp_ge (tgt := 19) cx.1 cx.2.1 dX10_needCity_12 (by decide) (fun hc => ?_) (fun hc => ?_)
    · rw [if_pos hc] at hf
      refine lv_iconst (v := (0 : Int32)) cx.1 cx.2.1 dX10_needCity_19 (by decide) ?_
      exact hB_20 S (0 : Int32) _ _ _ hw hS (lv_sub hl [] rfl) hf
    · rw [if_neg hc] at hf
      refine lv_iconst (v := (1 : Int32)) cx.1 cx.2.1 dX10_needCity_15 (by decide) ?_
      refine lv_goto (tgt := 20) cx.1 cx.2.1 dX10_needCity_16 (by decide) ?_
      exact hB_20 S (1 : Int32) _ _ _ hw hS (lv_sub hl [] rfl) hf
set_option maxHeartbeats 4000000 in
set_option maxRecDepth 100000 in
theorem c_X10_needDifferent (l : Launch) (hst : l.stackTraces = false) (G : gG) (a0 : Int32) (a1 : Int32) (S : Sg) (k : Nat) (r : Int32) (S' : Sg) (hf : f_X10_needDifferent a0 a1 S = some (k, r, S')) : Cx l yX10_needDifferent [Cond.code yX10_needDifferent cX10_needDifferent 2 none] (gRx 6 90 1 6) G [.int a0, .int a1] S k none S' 1 6 := by
  refine Cx_of (by decide) (Nat.le_of_ble_eq_true rfl) ?_
  intro p e s m below meth c ls cx hX hZ hexn hr hlk hw hS hl
  have hN := cx.2.2.2.2.hN
  have hl : lv_has ls 2 [(0, .int a0), (1, .int a1)] := hl
  unfold f_X10_needDifferent at hf
  refine lv_iload_n cx.1 cx.2.1 dX10_needDifferent_0 rfl (lv_at hl 0 rfl) ?_
  refine lv_iload_n cx.1 cx.2.1 dX10_needDifferent_1 rfl (lv_at hl 1 rfl) ?_
  refine lv_icmp_ne (tgt := 16) cx.1 cx.2.1 dX10_needDifferent_2 (by decide) (fun hc => ?_) (fun hc => ?_)
  · rw [if_neg hc] at hf
    exact gx_vreti cx hr hlk hw hS hf dX10_needDifferent_16 (Nat.le_of_ble_eq_true rfl) (Nat.le_of_ble_eq_true rfl)
  · rw [if_pos hc] at hf
    exact gx_throwW (k := 1) (text := "the cities are the same") cx hX hZ hw hS hst hexn hlk hl.1 gw_195 gw_196 (by decide +kernel) gEo2 (List.mem_of_getElem? (i := 6) rfl) hf dX10_needDifferent_5 dX10_needDifferent_8 dX10_needDifferent_9 dX10_needDifferent_12 dX10_needDifferent_15 (Nat.le_of_ble_eq_true rfl) (Nat.le_of_ble_eq_true rfl) (Nat.le_of_ble_eq_true rfl) (Nat.le_of_ble_eq_true rfl) (Nat.le_of_ble_eq_true rfl) (Nat.le_of_ble_eq_true rfl)
set_option maxHeartbeats 4000000 in
set_option maxRecDepth 100000 in
theorem c_X10_needSlot (l : Launch) (hst : l.stackTraces = false) (G : gG) (a0 : Int32) (S : Sg) (k : Nat) (r : Int32) (S' : Sg) (hf : f_X10_needSlot a0 S = some (k, r, S')) : Cx l yX10_needSlot [Cond.code yX10_needSlot cX10_needSlot 1 none] (gRx 7 110 1 6) G [.int a0] S k none S' 1 6 := by
  refine Cx_of (by decide) (Nat.le_of_ble_eq_true rfl) ?_
  intro p e s m below meth c ls cx hX hZ hexn hr hlk hw hS hl
  have hN := cx.2.2.2.2.hN
  have hB_14 : ∀ (S : Sg) (t0 : Int32) (H : Heap) (locs : List Loc) (ls : Array Slot), gP G S H → va_S (gA G s.heap.size) s.heap H locs → lv_has ls 1 [] → B_X10_needSlot_14 S t0 = some (k, r, S') → W p l e (gRx 7 110 1 6) s m ([.int a0] : List Value).toArray below meth c H locs 0 0 (vx_MQ below (gQx G S' k none (gA G s.heap.size)) (gXx G S' k (gA G s.heap.size)) ([.int a0] : List Value).toArray s 1 6 (gA G s.heap.size)) (F0 m 14 ls [.int t0]) := by
    intro S t0 H locs ls hw hS hl hf
    unfold B_X10_needSlot_14 at hf
    rcases gbx_some hf with ⟨j9, v9, S9, hv, hf9⟩ | ⟨v_2, S_1, hv, hf⟩
    · exact gx_thr (gx_rS (As := [.int t0]) (rest := []) cx hX hZ hw hS (c_X10_needIndex l hst G t0 S (j9 + 1) v9 S9 hv) gw_229 gy_X10_needIndex gi_X10_needIndex ⟨Nat.le_of_ble_eq_true rfl, Nat.le_of_ble_eq_true rfl⟩ ⟨Nat.le_of_ble_eq_true rfl, Nat.le_of_ble_eq_true rfl⟩ rfl hl.1 rfl (Nat.le_of_ble_eq_true rfl) dX10_needSlot_14) hS hexn hlk hf9 (Nat.le_of_ble_eq_true rfl) (Nat.le_of_ble_eq_true rfl)
    refine gx_ret (gx_rS (As := [.int t0]) (rest := []) cx hX hZ hw hS (c_X10_needIndex l hst G t0 S 0 v_2 S_1 hv) gw_229 gy_X10_needIndex gi_X10_needIndex ⟨Nat.le_of_ble_eq_true rfl, Nat.le_of_ble_eq_true rfl⟩ ⟨Nat.le_of_ble_eq_true rfl, Nat.le_of_ble_eq_true rfl⟩ rfl hl.1 rfl (Nat.le_of_ble_eq_true rfl) dX10_needSlot_14) hS (fun H locs hw hS => ?_)
    refine W.eq (g2 := F0 m 17 ls []) rfl ?_
    exact gx_vreti cx hr hlk hw hS hf dX10_needSlot_17 (Nat.le_of_ble_eq_true rfl) (Nat.le_of_ble_eq_true rfl)
  have hl : lv_has ls 1 [(0, .int a0)] := hl
  unfold f_X10_needSlot at hf
  refine lv_iload_n cx.1 cx.2.1 dX10_needSlot_0 rfl (lv_at hl 0 rfl) ?_
  refine lv_if_lt (tgt := 13) cx.1 cx.2.1 dX10_needSlot_1 (by decide) (fun hc => ?_) (fun hc => ?_)
  · rw [if_pos hc] at hf
    refine lv_iconst (v := (0 : Int32)) cx.1 cx.2.1 dX10_needSlot_13 (by decide) ?_
    exact hB_14 S (0 : Int32) _ _ _ hw hS (lv_sub hl [] rfl) hf
  · rw [if_neg hc] at hf
    refine lv_iload_n cx.1 cx.2.1 dX10_needSlot_4 rfl (lv_at hl 0 rfl) ?_
    refine lv_iconst (v := (2 : Int32)) cx.1 cx.2.1 dX10_needSlot_5 (by decide) ?_
    refine lv_icmp_ge (tgt := 13) cx.1 cx.2.1 dX10_needSlot_6 (by decide) (fun hc => ?_) (fun hc => ?_)
    · rw [if_pos hc] at hf
      refine lv_iconst (v := (0 : Int32)) cx.1 cx.2.1 dX10_needSlot_13 (by decide) ?_
      exact hB_14 S (0 : Int32) _ _ _ hw hS (lv_sub hl [] rfl) hf
    · rw [if_neg hc] at hf
      refine lv_iconst (v := (1 : Int32)) cx.1 cx.2.1 dX10_needSlot_9 (by decide) ?_
      refine lv_goto (tgt := 14) cx.1 cx.2.1 dX10_needSlot_10 (by decide) ?_
      exact hB_14 S (1 : Int32) _ _ _ hw hS (lv_sub hl [] rfl) hf
set_option maxHeartbeats 4000000 in
set_option maxRecDepth 100000 in
theorem c_X10_needTrain (l : Launch) (hst : l.stackTraces = false) (G : gG) (a1 : Int32) (a2 : Int32) (S : Sg) (k : Nat) (r : Int32) (S' : Sg) (hf : f_X10_needTrain a1 a2 S = some (k, r, S')) : Cx l yX10_needTrain [Cond.code yX10_needTrain cX10_needTrain 3 none] (gRx 7 110 1 6) G [.ref (G.2.1 0), .int a1, .int a2] S k none S' 1 6 := by
  refine Cx_of (by decide) (Nat.le_of_ble_eq_true rfl) ?_
  intro p e s m below meth c ls cx hX hZ hexn hr hlk hw hS hl
  have hN := cx.2.2.2.2.hN
  have hl : lv_has ls 3 [(0, .ref (G.2.1 0)), (1, .int a1), (2, .int a2)] := hl
  unfold f_X10_needTrain at hf
  refine lv_aload_n cx.1 cx.2.1 dX10_needTrain_0 rfl (lv_at hl 0 rfl) ?_
  refine g_get (C := RX10) (T := TX10) (N := 6) (v := .ref (G.2.1 14)) cx hw inlX10 0 (by omega) he_c0 rfl 1 (by decide) gw_17 rfl rfl dX10_needTrain_1 ?_
  refine g_get (C := RX7) (T := TX7) (N := 9) (v := .ref (G.2.1 (14 + 3))) cx hw inlX7 14 (Nat.lt_of_lt_of_le st_14.lt0 hN) (he_s0 st_14) rfl 2 (by decide) gw_203 rfl rfl dX10_needTrain_4 ?_
  refine lv_iload_n cx.1 cx.2.1 dX10_needTrain_7 rfl (lv_at hl 1 rfl) ?_
  refine lv_iload_n cx.1 cx.2.1 dX10_needTrain_8 rfl (lv_at hl 2 rfl) ?_
  obtain ⟨v_2, S_1, hv, hf⟩ := gbi_some hf
  refine g_V (As := [.int a1, .int a2]) (rest := []) cx hw hS (c_X0_hasTrain l G st_14 a1 a2 S v_2 S_1 hv) (Nat.lt_of_lt_of_le (st_14.lt (j := 3) (by omega)) hN) (he_s3 st_14) rfl rfl gw_400 gy_X0_hasTrain gi_X0_hasTrain ⟨Nat.le_of_ble_eq_true rfl, Nat.le_of_ble_eq_true rfl⟩ ⟨Nat.le_of_ble_eq_true rfl, Nat.le_of_ble_eq_true rfl⟩ rfl hl.1 rfl (Nat.le_of_ble_eq_true rfl) dX10_needTrain_9 (fun H locs hw hS => ?_)
  refine W.eq (g2 := F0 m 12 ls [.int v_2]) rfl ?_
  rcases gbx_some hf with ⟨j9, v9, S9, hv, hf9⟩ | ⟨v_4, S_3, hv, hf⟩
  · exact gx_thr (gx_rS (As := [.int v_2]) (rest := []) cx hX hZ hw hS (c_X10_needIndex l hst G v_2 S_1 (j9 + 1) v9 S9 hv) gw_229 gy_X10_needIndex gi_X10_needIndex ⟨Nat.le_of_ble_eq_true rfl, Nat.le_of_ble_eq_true rfl⟩ ⟨Nat.le_of_ble_eq_true rfl, Nat.le_of_ble_eq_true rfl⟩ rfl hl.1 rfl (Nat.le_of_ble_eq_true rfl) dX10_needTrain_12) hS hexn hlk hf9 (Nat.le_of_ble_eq_true rfl) (Nat.le_of_ble_eq_true rfl)
  refine gx_ret (gx_rS (As := [.int v_2]) (rest := []) cx hX hZ hw hS (c_X10_needIndex l hst G v_2 S_1 0 v_4 S_3 hv) gw_229 gy_X10_needIndex gi_X10_needIndex ⟨Nat.le_of_ble_eq_true rfl, Nat.le_of_ble_eq_true rfl⟩ ⟨Nat.le_of_ble_eq_true rfl, Nat.le_of_ble_eq_true rfl⟩ rfl hl.1 rfl (Nat.le_of_ble_eq_true rfl) dX10_needTrain_12) hS (fun H locs hw hS => ?_)
  refine W.eq (g2 := F0 m 15 ls []) rfl ?_
  exact gx_vreti cx hr hlk hw hS hf dX10_needTrain_15 (Nat.le_of_ble_eq_true rfl) (Nat.le_of_ble_eq_true rfl)
set_option maxHeartbeats 4000000 in
set_option maxRecDepth 100000 in
theorem c_X10_needTrainOfHolder (l : Launch) (hst : l.stackTraces = false) (G : gG) (a1 : Int32) (a2 : Int32) (S : Sg) (k : Nat) (r : Int32) (S' : Sg) (hf : f_X10_needTrainOfHolder a1 a2 S = some (k, r, S')) : Cx l yX10_needTrainOfHolder [Cond.code yX10_needTrainOfHolder cX10_needTrainOfHolder 3 none] (gRx 8 132 1 6) G [.ref (G.2.1 0), .int a1, .int a2] S k none S' 1 6 := by
  refine Cx_of (by decide) (Nat.le_of_ble_eq_true rfl) ?_
  intro p e s m below meth c ls cx hX hZ hexn hr hlk hw hS hl
  have hN := cx.2.2.2.2.hN
  have hl : lv_has ls 3 [(0, .ref (G.2.1 0)), (1, .int a1), (2, .int a2)] := hl
  unfold f_X10_needTrainOfHolder at hf
  refine lv_aload_n cx.1 cx.2.1 dX10_needTrainOfHolder_0 rfl (lv_at hl 0 rfl) ?_
  refine g_get (C := RX10) (T := TX10) (N := 6) (v := .ref (G.2.1 14)) cx hw inlX10 0 (by omega) he_c0 rfl 1 (by decide) gw_17 rfl rfl dX10_needTrainOfHolder_1 ?_
  refine g_get (C := RX7) (T := TX7) (N := 9) (v := .ref (G.2.1 (14 + 2))) cx hw inlX7 14 (Nat.lt_of_lt_of_le st_14.lt0 hN) (he_s0 st_14) rfl 1 (by decide) gw_199 rfl rfl dX10_needTrainOfHolder_4 ?_
  refine lv_iload_n cx.1 cx.2.1 dX10_needTrainOfHolder_7 rfl (lv_at hl 1 rfl) ?_
  obtain ⟨v_2, S_1, hv, hf⟩ := gbi_some hf
  refine g_V (As := [.int a1]) (rest := []) cx hw hS (c_X1_isFree l G st_14 a1 S v_2 S_1 hv) (Nat.lt_of_lt_of_le (st_14.lt (j := 2) (by omega)) hN) (he_s2 st_14) rfl rfl gw_519 gy_X1_isFree gi_X1_isFree ⟨Nat.le_of_ble_eq_true rfl, Nat.le_of_ble_eq_true rfl⟩ ⟨Nat.le_of_ble_eq_true rfl, Nat.le_of_ble_eq_true rfl⟩ rfl hl.1 rfl (Nat.le_of_ble_eq_true rfl) dX10_needTrainOfHolder_8 (fun H locs hw hS => ?_)
  refine W.eq (g2 := F0 m 11 ls [.int v_2]) rfl ?_
  refine lv_if_ne (tgt := 30) cx.1 cx.2.1 dX10_needTrainOfHolder_11 (by decide) (fun hc => ?_) (fun hc => ?_)
  · rw [if_neg hc] at hf
    exact gx_vreti cx hr hlk hw hS hf dX10_needTrainOfHolder_30 (Nat.le_of_ble_eq_true rfl) (Nat.le_of_ble_eq_true rfl)
  · rw [if_pos hc] at hf
    refine lv_aload_n cx.1 cx.2.1 dX10_needTrainOfHolder_14 rfl (lv_at hl 0 rfl) ?_
    refine lv_aload_n cx.1 cx.2.1 dX10_needTrainOfHolder_15 rfl (lv_at hl 0 rfl) ?_
    refine g_get (C := RX10) (T := TX10) (N := 6) (v := .ref (G.2.1 14)) cx hw inlX10 0 (by omega) he_c0 rfl 1 (by decide) gw_17 rfl rfl dX10_needTrainOfHolder_16 ?_
    refine g_get (C := RX7) (T := TX7) (N := 9) (v := .ref (G.2.1 (14 + 2))) cx hw inlX7 14 (Nat.lt_of_lt_of_le st_14.lt0 hN) (he_s0 st_14) rfl 1 (by decide) gw_199 rfl rfl dX10_needTrainOfHolder_19 ?_
    refine lv_iload_n cx.1 cx.2.1 dX10_needTrainOfHolder_22 rfl (lv_at hl 1 rfl) ?_
    obtain ⟨v_4, S_3, hv, hf⟩ := gbi_some hf
    refine g_V (As := [.int a1]) (rest := [.ref (G.2.1 0)]) cx hw hS (c_X1_holderOf l G st_14 a1 S_1 v_4 S_3 hv) (Nat.lt_of_lt_of_le (st_14.lt (j := 2) (by omega)) hN) (he_s2 st_14) rfl rfl gw_543 gy_X1_holderOf gi_X1_holderOf ⟨Nat.le_of_ble_eq_true rfl, Nat.le_of_ble_eq_true rfl⟩ ⟨Nat.le_of_ble_eq_true rfl, Nat.le_of_ble_eq_true rfl⟩ rfl hl.1 rfl (Nat.le_of_ble_eq_true rfl) dX10_needTrainOfHolder_23 (fun H locs hw hS => ?_)
    refine W.eq (g2 := F0 m 26 ls [.int v_4, .ref (G.2.1 0)]) rfl ?_
    refine lv_iload_n cx.1 cx.2.1 dX10_needTrainOfHolder_26 rfl (lv_at hl 2 rfl) ?_
    rcases gbx_some hf with ⟨j9, v9, S9, hv, hf9⟩ | ⟨v_6, S_5, hv, hf⟩
    · exact gx_thr (gx_rV (As := [.int v_4, .int a2]) (rest := []) cx hX hZ hw hS (c_X10_needTrain l hst G v_4 a2 S_3 (j9 + 1) v9 S9 hv) (by omega) he_c0 rfl rfl gw_396 gy_X10_needTrain gi_X10_needTrain ⟨Nat.le_of_ble_eq_true rfl, Nat.le_of_ble_eq_true rfl⟩ ⟨Nat.le_of_ble_eq_true rfl, Nat.le_of_ble_eq_true rfl⟩ rfl hl.1 rfl (Nat.le_of_ble_eq_true rfl) dX10_needTrainOfHolder_27) hS hexn hlk hf9 (Nat.le_of_ble_eq_true rfl) (Nat.le_of_ble_eq_true rfl)
    refine gx_ret (gx_rV (As := [.int v_4, .int a2]) (rest := []) cx hX hZ hw hS (c_X10_needTrain l hst G v_4 a2 S_3 0 v_6 S_5 hv) (by omega) he_c0 rfl rfl gw_396 gy_X10_needTrain gi_X10_needTrain ⟨Nat.le_of_ble_eq_true rfl, Nat.le_of_ble_eq_true rfl⟩ ⟨Nat.le_of_ble_eq_true rfl, Nat.le_of_ble_eq_true rfl⟩ rfl hl.1 rfl (Nat.le_of_ble_eq_true rfl) dX10_needTrainOfHolder_27) hS (fun H locs hw hS => ?_)
    refine W.eq (g2 := F0 m 30 ls []) rfl ?_
    exact gx_vreti cx hr hlk hw hS hf dX10_needTrainOfHolder_30 (Nat.le_of_ble_eq_true rfl) (Nat.le_of_ble_eq_true rfl)
set_option maxHeartbeats 4000000 in
set_option maxRecDepth 100000 in
theorem c_X10_offer (l : Launch) (hst : l.stackTraces = false) (G : gG) (a1 : Int32) (a2 : Int32) (a3 : Int32) (a4 : Int32) (S : Sg) (k : Nat) (r : Int32) (S' : Sg) (hf : f_X10_offer a1 a2 a3 a4 S = some (k, r, S')) : Cx l yX10_offer [Cond.code yX10_offer cX10_offer 5 (some .int)] (gRx 8 165 6 36) G [.ref (G.2.1 0), .int a1, .int a2, .int a3, .int a4] S k (some (.int r)) S' 6 36 := by
  refine Cx_of (by decide) (Nat.le_of_ble_eq_true rfl) ?_
  intro p e s m below meth c ls cx hX hZ hexn hr hlk hw hS hl
  have hN := cx.2.2.2.2.hN
  have hB_48 : ∀ (S : Sg) (x1 : Int32) (x2 : Int32) (x3 : Int32) (x4 : Int32) (t0 : Int32) (H : Heap) (locs : List Loc) (ls : Array Slot), gP G S H → va_S (gA G s.heap.size) s.heap H locs → lv_has ls 5 [(0, .ref (G.2.1 0)), (1, .int x1), (2, .int x2), (3, .int x3), (4, .int x4)] → B_X10_offer_48 S x1 x2 x3 x4 t0 = some (k, r, S') → W p l e (gRx 8 165 6 36) s m ([.ref (G.2.1 0), .int a1, .int a2, .int a3, .int a4] : List Value).toArray below meth c H locs 5 30 (vx_MQ below (gQx G S' k (some (.int r)) (gA G s.heap.size)) (gXx G S' k (gA G s.heap.size)) ([.ref (G.2.1 0), .int a1, .int a2, .int a3, .int a4] : List Value).toArray s 6 36 (gA G s.heap.size)) (F0 m 48 ls [.int t0]) := by
    intro S x1 x2 x3 x4 t0 H locs ls hw hS hl hf
    unfold B_X10_offer_48 at hf
    rcases gbx_some hf with ⟨j9, v9, S9, hv, hf9⟩ | ⟨v_2, S_1, hv, hf⟩
    · exact gx_thr (gx_rS (As := [.int t0]) (rest := []) cx hX hZ hw hS (c_X10_needAllowed l hst G t0 S (j9 + 1) v9 S9 hv) gw_302 gy_X10_needAllowed gi_X10_needAllowed ⟨Nat.le_of_ble_eq_true rfl, Nat.le_of_ble_eq_true rfl⟩ ⟨Nat.le_of_ble_eq_true rfl, Nat.le_of_ble_eq_true rfl⟩ rfl hl.1 rfl (Nat.le_of_ble_eq_true rfl) dX10_offer_48) hS hexn hlk hf9 (Nat.le_of_ble_eq_true rfl) (Nat.le_of_ble_eq_true rfl)
    refine gx_ret (gx_rS (As := [.int t0]) (rest := []) cx hX hZ hw hS (c_X10_needAllowed l hst G t0 S 0 v_2 S_1 hv) gw_302 gy_X10_needAllowed gi_X10_needAllowed ⟨Nat.le_of_ble_eq_true rfl, Nat.le_of_ble_eq_true rfl⟩ ⟨Nat.le_of_ble_eq_true rfl, Nat.le_of_ble_eq_true rfl⟩ rfl hl.1 rfl (Nat.le_of_ble_eq_true rfl) dX10_offer_48) hS (fun H locs hw hS => ?_)
    refine W.eq (g2 := F0 m 51 ls []) rfl ?_
    refine lv_aload_n cx.1 cx.2.1 dX10_offer_51 rfl (lv_at hl 0 rfl) ?_
    refine g_get (C := RX10) (T := TX10) (N := 6) (v := .ref (G.2.1 3)) cx hw inlX10 0 (by omega) he_c0 rfl 3 (by decide) gw_22 rfl rfl dX10_offer_52 ?_
    refine lv_aload_n cx.1 cx.2.1 dX10_offer_55 rfl (lv_at hl 0 rfl) ?_
    refine g_get (C := RX10) (T := TX10) (N := 6) (v := .ref (G.2.1 14)) cx hw inlX10 0 (by omega) he_c0 rfl 1 (by decide) gw_17 rfl rfl dX10_offer_56 ?_
    obtain ⟨S_3, hv, hf⟩ := gbv_some hf
    refine g_V (As := [.ref (G.2.1 14)]) (rest := []) cx hw hS (c_X3_remember l G st_14 S_1 S_3 hv) (by omega) he_c3 rfl rfl gw_455 gy_X3_remember gi_X3_remember ⟨Nat.le_of_ble_eq_true rfl, Nat.le_of_ble_eq_true rfl⟩ ⟨Nat.le_of_ble_eq_true rfl, Nat.le_of_ble_eq_true rfl⟩ rfl hl.1 rfl (Nat.le_of_ble_eq_true rfl) dX10_offer_59 (fun H locs hw hS => ?_)
    refine W.eq (g2 := F0 m 62 ls []) rfl ?_
    refine lv_aload_n cx.1 cx.2.1 dX10_offer_62 rfl (lv_at hl 0 rfl) ?_
    refine g_get (C := RX10) (T := TX10) (N := 6) (v := .ref (G.2.1 14)) cx hw inlX10 0 (by omega) he_c0 rfl 1 (by decide) gw_17 rfl rfl dX10_offer_63 ?_
    refine g_get (C := RX7) (T := TX7) (N := 9) (v := .ref (G.2.1 (14 + 2))) cx hw inlX7 14 (Nat.lt_of_lt_of_le st_14.lt0 hN) (he_s0 st_14) rfl 1 (by decide) gw_199 rfl rfl dX10_offer_66 ?_
    refine lv_iload_n cx.1 cx.2.1 dX10_offer_69 rfl (lv_at hl 1 rfl) ?_
    refine lv_iload_n cx.1 cx.2.1 dX10_offer_70 rfl (lv_at hl 2 rfl) ?_
    refine lv_iload_n cx.1 cx.2.1 dX10_offer_71 rfl (lv_at hl 3 rfl) ?_
    refine lv_iload cx.1 cx.2.1 dX10_offer_72 (lv_at hl 4 rfl) ?_
    obtain ⟨S_4, hv, hf⟩ := gbv_some hf
    refine g_V (As := [.int x1, .int x2, .int x3, .int x4]) (rest := []) cx hw hS (c_X1_add l G st_14 x1 x2 x3 x4 S_3 S_4 hv) (Nat.lt_of_lt_of_le (st_14.lt (j := 2) (by omega)) hN) (he_s2 st_14) rfl rfl gw_511 gy_X1_add gi_X1_add ⟨Nat.le_of_ble_eq_true rfl, Nat.le_of_ble_eq_true rfl⟩ ⟨Nat.le_of_ble_eq_true rfl, Nat.le_of_ble_eq_true rfl⟩ rfl hl.1 rfl (Nat.le_of_ble_eq_true rfl) dX10_offer_74 (fun H locs hw hS => ?_)
    refine W.eq (g2 := F0 m 77 ls []) rfl ?_
    refine lv_aload_n cx.1 cx.2.1 dX10_offer_77 rfl (lv_at hl 0 rfl) ?_
    refine g_get (C := RX10) (T := TX10) (N := 6) (v := .ref (G.2.1 14)) cx hw inlX10 0 (by omega) he_c0 rfl 1 (by decide) gw_17 rfl rfl dX10_offer_78 ?_
    refine g_get (C := RX7) (T := TX7) (N := 9) (v := .ref (G.2.1 (14 + 2))) cx hw inlX7 14 (Nat.lt_of_lt_of_le st_14.lt0 hN) (he_s0 st_14) rfl 1 (by decide) gw_199 rfl rfl dX10_offer_81 ?_
    refine g_get (C := RX1) (T := TX1) (N := 7) (v := .int (S_4 (14 + 2) 6)) cx hw inlX1 (14 + 2) (Nat.lt_of_lt_of_le (st_14.lt (j := 2) (by omega)) hN) (he_s2 st_14) rfl 6 (by decide) gw_200 rfl rfl dX10_offer_84 ?_
    refine lv_iconst (v := (1 : Int32)) cx.1 cx.2.1 dX10_offer_87 (by decide) ?_
    refine lv_isub cx.1 cx.2.1 dX10_offer_88 ?_
    exact gx_ireti cx hr hlk hw hS hf dX10_offer_89 (Nat.le_of_ble_eq_true rfl) (Nat.le_of_ble_eq_true rfl)
  have hl : lv_has ls 5 [(0, .ref (G.2.1 0)), (1, .int a1), (2, .int a2), (3, .int a3), (4, .int a4)] := hl
  unfold f_X10_offer at hf
  refine lv_aload_n cx.1 cx.2.1 dX10_offer_0 rfl (lv_at hl 0 rfl) ?_
  refine lv_iload_n cx.1 cx.2.1 dX10_offer_1 rfl (lv_at hl 1 rfl) ?_
  rcases gbx_some hf with ⟨j9, v9, S9, hv, hf9⟩ | ⟨v_6, S_5, hv, hf⟩
  · exact gx_thr (gx_rV (As := [.int a1]) (rest := []) cx hX hZ hw hS (c_X10_needCity l hst G a1 S (j9 + 1) v9 S9 hv) (by omega) he_c0 rfl rfl gw_234 gy_X10_needCity gi_X10_needCity ⟨Nat.le_of_ble_eq_true rfl, Nat.le_of_ble_eq_true rfl⟩ ⟨Nat.le_of_ble_eq_true rfl, Nat.le_of_ble_eq_true rfl⟩ rfl hl.1 rfl (Nat.le_of_ble_eq_true rfl) dX10_offer_2) hS hexn hlk hf9 (Nat.le_of_ble_eq_true rfl) (Nat.le_of_ble_eq_true rfl)
  refine gx_ret (gx_rV (As := [.int a1]) (rest := []) cx hX hZ hw hS (c_X10_needCity l hst G a1 S 0 v_6 S_5 hv) (by omega) he_c0 rfl rfl gw_234 gy_X10_needCity gi_X10_needCity ⟨Nat.le_of_ble_eq_true rfl, Nat.le_of_ble_eq_true rfl⟩ ⟨Nat.le_of_ble_eq_true rfl, Nat.le_of_ble_eq_true rfl⟩ rfl hl.1 rfl (Nat.le_of_ble_eq_true rfl) dX10_offer_2) hS (fun H locs hw hS => ?_)
  refine W.eq (g2 := F0 m 5 ls []) rfl ?_
  refine lv_aload_n cx.1 cx.2.1 dX10_offer_5 rfl (lv_at hl 0 rfl) ?_
  refine lv_iload_n cx.1 cx.2.1 dX10_offer_6 rfl (lv_at hl 2 rfl) ?_
  rcases gbx_some hf with ⟨j9, v9, S9, hv, hf9⟩ | ⟨v_8, S_7, hv, hf⟩
  · exact gx_thr (gx_rV (As := [.int a2]) (rest := []) cx hX hZ hw hS (c_X10_needCity l hst G a2 S_5 (j9 + 1) v9 S9 hv) (by omega) he_c0 rfl rfl gw_234 gy_X10_needCity gi_X10_needCity ⟨Nat.le_of_ble_eq_true rfl, Nat.le_of_ble_eq_true rfl⟩ ⟨Nat.le_of_ble_eq_true rfl, Nat.le_of_ble_eq_true rfl⟩ rfl hl.1 rfl (Nat.le_of_ble_eq_true rfl) dX10_offer_7) hS hexn hlk hf9 (Nat.le_of_ble_eq_true rfl) (Nat.le_of_ble_eq_true rfl)
  refine gx_ret (gx_rV (As := [.int a2]) (rest := []) cx hX hZ hw hS (c_X10_needCity l hst G a2 S_5 0 v_8 S_7 hv) (by omega) he_c0 rfl rfl gw_234 gy_X10_needCity gi_X10_needCity ⟨Nat.le_of_ble_eq_true rfl, Nat.le_of_ble_eq_true rfl⟩ ⟨Nat.le_of_ble_eq_true rfl, Nat.le_of_ble_eq_true rfl⟩ rfl hl.1 rfl (Nat.le_of_ble_eq_true rfl) dX10_offer_7) hS (fun H locs hw hS => ?_)
  refine W.eq (g2 := F0 m 10 ls []) rfl ?_
  refine lv_iload_n cx.1 cx.2.1 dX10_offer_10 rfl (lv_at hl 1 rfl) ?_
  refine lv_iload_n cx.1 cx.2.1 dX10_offer_11 rfl (lv_at hl 2 rfl) ?_
  rcases gbx_some hf with ⟨j9, v9, S9, hv, hf9⟩ | ⟨v_10, S_9, hv, hf⟩
  · exact gx_thr (gx_rS (As := [.int a1, .int a2]) (rest := []) cx hX hZ hw hS (c_X10_needDifferent l hst G a1 a2 S_7 (j9 + 1) v9 S9 hv) gw_238 gy_X10_needDifferent gi_X10_needDifferent ⟨Nat.le_of_ble_eq_true rfl, Nat.le_of_ble_eq_true rfl⟩ ⟨Nat.le_of_ble_eq_true rfl, Nat.le_of_ble_eq_true rfl⟩ rfl hl.1 rfl (Nat.le_of_ble_eq_true rfl) dX10_offer_12) hS hexn hlk hf9 (Nat.le_of_ble_eq_true rfl) (Nat.le_of_ble_eq_true rfl)
  refine gx_ret (gx_rS (As := [.int a1, .int a2]) (rest := []) cx hX hZ hw hS (c_X10_needDifferent l hst G a1 a2 S_7 0 v_10 S_9 hv) gw_238 gy_X10_needDifferent gi_X10_needDifferent ⟨Nat.le_of_ble_eq_true rfl, Nat.le_of_ble_eq_true rfl⟩ ⟨Nat.le_of_ble_eq_true rfl, Nat.le_of_ble_eq_true rfl⟩ rfl hl.1 rfl (Nat.le_of_ble_eq_true rfl) dX10_offer_12) hS (fun H locs hw hS => ?_)
  refine W.eq (g2 := F0 m 15 ls []) rfl ?_
  refine lv_iload_n cx.1 cx.2.1 dX10_offer_15 rfl (lv_at hl 3 rfl) ?_
  refine lv_iconst (v := (1 : Int32)) cx.1 cx.2.1 dX10_offer_16 (by decide) ?_
  refine lv_bipush (v := (99 : Int32)) cx.1 cx.2.1 dX10_offer_17 (by decide) ?_
  rcases gbx_some hf with ⟨j9, v9, S9, hv, hf9⟩ | ⟨v_12, S_11, hv, hf⟩
  · exact gx_thr (gx_rS (As := [.int a3, .int (1 : Int32), .int (99 : Int32)]) (rest := []) cx hX hZ hw hS (c_X10_needRange l hst G a3 (1 : Int32) (99 : Int32) S_9 (j9 + 1) v9 S9 hv) gw_241 gy_X10_needRange gi_X10_needRange ⟨Nat.le_of_ble_eq_true rfl, Nat.le_of_ble_eq_true rfl⟩ ⟨Nat.le_of_ble_eq_true rfl, Nat.le_of_ble_eq_true rfl⟩ rfl hl.1 rfl (Nat.le_of_ble_eq_true rfl) dX10_offer_19) hS hexn hlk hf9 (Nat.le_of_ble_eq_true rfl) (Nat.le_of_ble_eq_true rfl)
  refine gx_ret (gx_rS (As := [.int a3, .int (1 : Int32), .int (99 : Int32)]) (rest := []) cx hX hZ hw hS (c_X10_needRange l hst G a3 (1 : Int32) (99 : Int32) S_9 0 v_12 S_11 hv) gw_241 gy_X10_needRange gi_X10_needRange ⟨Nat.le_of_ble_eq_true rfl, Nat.le_of_ble_eq_true rfl⟩ ⟨Nat.le_of_ble_eq_true rfl, Nat.le_of_ble_eq_true rfl⟩ rfl hl.1 rfl (Nat.le_of_ble_eq_true rfl) dX10_offer_19) hS (fun H locs hw hS => ?_)
  refine W.eq (g2 := F0 m 22 ls []) rfl ?_
  refine lv_iload cx.1 cx.2.1 dX10_offer_22 (lv_at hl 4 rfl) ?_
  refine lv_iconst (v := (1 : Int32)) cx.1 cx.2.1 dX10_offer_24 (by decide) ?_
  refine lv_bipush (v := (9 : Int32)) cx.1 cx.2.1 dX10_offer_25 (by decide) ?_
  rcases gbx_some hf with ⟨j9, v9, S9, hv, hf9⟩ | ⟨v_14, S_13, hv, hf⟩
  · exact gx_thr (gx_rS (As := [.int a4, .int (1 : Int32), .int (9 : Int32)]) (rest := []) cx hX hZ hw hS (c_X10_needRange l hst G a4 (1 : Int32) (9 : Int32) S_11 (j9 + 1) v9 S9 hv) gw_241 gy_X10_needRange gi_X10_needRange ⟨Nat.le_of_ble_eq_true rfl, Nat.le_of_ble_eq_true rfl⟩ ⟨Nat.le_of_ble_eq_true rfl, Nat.le_of_ble_eq_true rfl⟩ rfl hl.1 rfl (Nat.le_of_ble_eq_true rfl) dX10_offer_27) hS hexn hlk hf9 (Nat.le_of_ble_eq_true rfl) (Nat.le_of_ble_eq_true rfl)
  refine gx_ret (gx_rS (As := [.int a4, .int (1 : Int32), .int (9 : Int32)]) (rest := []) cx hX hZ hw hS (c_X10_needRange l hst G a4 (1 : Int32) (9 : Int32) S_11 0 v_14 S_13 hv) gw_241 gy_X10_needRange gi_X10_needRange ⟨Nat.le_of_ble_eq_true rfl, Nat.le_of_ble_eq_true rfl⟩ ⟨Nat.le_of_ble_eq_true rfl, Nat.le_of_ble_eq_true rfl⟩ rfl hl.1 rfl (Nat.le_of_ble_eq_true rfl) dX10_offer_27) hS (fun H locs hw hS => ?_)
  refine W.eq (g2 := F0 m 30 ls []) rfl ?_
  refine lv_aload_n cx.1 cx.2.1 dX10_offer_30 rfl (lv_at hl 0 rfl) ?_
  refine g_get (C := RX10) (T := TX10) (N := 6) (v := .ref (G.2.1 14)) cx hw inlX10 0 (by omega) he_c0 rfl 1 (by decide) gw_17 rfl rfl dX10_offer_31 ?_
  refine g_get (C := RX7) (T := TX7) (N := 9) (v := .ref (G.2.1 (14 + 2))) cx hw inlX7 14 (Nat.lt_of_lt_of_le st_14.lt0 hN) (he_s0 st_14) rfl 1 (by decide) gw_199 rfl rfl dX10_offer_34 ?_
  obtain ⟨v_16, S_15, hv, hf⟩ := gbi_some hf
  refine g_V (As := []) (rest := []) cx hw hS (c_X1_areFull l G st_14 S_13 v_16 S_15 hv) (Nat.lt_of_lt_of_le (st_14.lt (j := 2) (by omega)) hN) (he_s2 st_14) rfl rfl gw_510 gy_X1_areFull gi_X1_areFull ⟨Nat.le_of_ble_eq_true rfl, Nat.le_of_ble_eq_true rfl⟩ ⟨Nat.le_of_ble_eq_true rfl, Nat.le_of_ble_eq_true rfl⟩ rfl hl.1 rfl (Nat.le_of_ble_eq_true rfl) dX10_offer_37 (fun H locs hw hS => ?_)
  refine W.eq (g2 := F0 m 40 ls [.int v_16]) rfl ?_
  refine lv_if_ne (tgt := 47) cx.1 cx.2.1 dX10_offer_40 (by decide) (fun hc => ?_) (fun hc => ?_)
  · rw [if_neg hc] at hf
    refine lv_iconst (v := (0 : Int32)) cx.1 cx.2.1 dX10_offer_47 (by decide) ?_
    exact hB_48 S_15 a1 a2 a3 a4 (0 : Int32) _ _ _ hw hS (lv_sub hl [0, 1, 2, 3, 4] rfl) hf
  · rw [if_pos hc] at hf
    refine lv_iconst (v := (1 : Int32)) cx.1 cx.2.1 dX10_offer_43 (by decide) ?_
    refine lv_goto (tgt := 48) cx.1 cx.2.1 dX10_offer_44 (by decide) ?_
    exact hB_48 S_15 a1 a2 a3 a4 (1 : Int32) _ _ _ hw hS (lv_sub hl [0, 1, 2, 3, 4] rfl) hf
set_option maxHeartbeats 4000000 in
set_option maxRecDepth 100000 in
theorem c_X10_restore (l : Launch) (hst : l.stackTraces = false) (G : gG) (a1 : Int32) (S : Sg) (k : Nat) (r : Int32) (S' : Sg) (hf : f_X10_restore a1 S = some (k, r, S')) : Cx l yX10_restore [Cond.code yX10_restore cX10_restore 2 (some .int)] (gRx 8 166 2 12) G [.ref (G.2.1 0), .int a1] S k (some (.int r)) S' 2 12 := by
  refine Cx_of (by decide) (Nat.le_of_ble_eq_true rfl) ?_
  intro p e s m below meth c ls cx hX hZ hexn hr hlk hw hS hl
  have hN := cx.2.2.2.2.hN
  have hl : lv_has ls 2 [(0, .ref (G.2.1 0)), (1, .int a1)] := hl
  unfold f_X10_restore at hf
  refine lv_iload_n cx.1 cx.2.1 dX10_restore_0 rfl (lv_at hl 1 rfl) ?_
  rcases gbx_some hf with ⟨j9, v9, S9, hv, hf9⟩ | ⟨v_2, S_1, hv, hf⟩
  · exact gx_thr (gx_rS (As := [.int a1]) (rest := []) cx hX hZ hw hS (c_X10_needSlot l hst G a1 S (j9 + 1) v9 S9 hv) gw_781 gy_X10_needSlot gi_X10_needSlot ⟨Nat.le_of_ble_eq_true rfl, Nat.le_of_ble_eq_true rfl⟩ ⟨Nat.le_of_ble_eq_true rfl, Nat.le_of_ble_eq_true rfl⟩ rfl hl.1 rfl (Nat.le_of_ble_eq_true rfl) dX10_restore_1) hS hexn hlk hf9 (Nat.le_of_ble_eq_true rfl) (Nat.le_of_ble_eq_true rfl)
  refine gx_ret (gx_rS (As := [.int a1]) (rest := []) cx hX hZ hw hS (c_X10_needSlot l hst G a1 S 0 v_2 S_1 hv) gw_781 gy_X10_needSlot gi_X10_needSlot ⟨Nat.le_of_ble_eq_true rfl, Nat.le_of_ble_eq_true rfl⟩ ⟨Nat.le_of_ble_eq_true rfl, Nat.le_of_ble_eq_true rfl⟩ rfl hl.1 rfl (Nat.le_of_ble_eq_true rfl) dX10_restore_1) hS (fun H locs hw hS => ?_)
  refine W.eq (g2 := F0 m 4 ls []) rfl ?_
  refine lv_aload_n cx.1 cx.2.1 dX10_restore_4 rfl (lv_at hl 0 rfl) ?_
  refine g_get (C := RX10) (T := TX10) (N := 6) (v := .ref (G.2.1 5)) cx hw inlX10 0 (by omega) he_c0 rfl 4 (by decide) gw_26 rfl rfl dX10_restore_5 ?_
  refine lv_iload_n cx.1 cx.2.1 dX10_restore_8 rfl (lv_at hl 1 rfl) ?_
  obtain ⟨v_4, S_3, hv, hf⟩ := gbi_some hf
  refine g_V (As := [.int a1]) (rest := []) cx hw hS (c_X6_isFilled l G a1 S_1 v_4 S_3 hv) (by omega) he_c5 rfl rfl gw_799 gy_X6_isFilled gi_X6_isFilled ⟨Nat.le_of_ble_eq_true rfl, Nat.le_of_ble_eq_true rfl⟩ ⟨Nat.le_of_ble_eq_true rfl, Nat.le_of_ble_eq_true rfl⟩ rfl hl.1 rfl (Nat.le_of_ble_eq_true rfl) dX10_restore_9 (fun H locs hw hS => ?_)
  refine W.eq (g2 := F0 m 12 ls [.int v_4]) rfl ?_
  rcases gbx_some hf with ⟨j9, v9, S9, hv, hf9⟩ | ⟨v_6, S_5, hv, hf⟩
  · exact gx_thr (gx_rS (As := [.int v_4]) (rest := []) cx hX hZ hw hS (c_X10_needAllowed l hst G v_4 S_3 (j9 + 1) v9 S9 hv) gw_302 gy_X10_needAllowed gi_X10_needAllowed ⟨Nat.le_of_ble_eq_true rfl, Nat.le_of_ble_eq_true rfl⟩ ⟨Nat.le_of_ble_eq_true rfl, Nat.le_of_ble_eq_true rfl⟩ rfl hl.1 rfl (Nat.le_of_ble_eq_true rfl) dX10_restore_12) hS hexn hlk hf9 (Nat.le_of_ble_eq_true rfl) (Nat.le_of_ble_eq_true rfl)
  refine gx_ret (gx_rS (As := [.int v_4]) (rest := []) cx hX hZ hw hS (c_X10_needAllowed l hst G v_4 S_3 0 v_6 S_5 hv) gw_302 gy_X10_needAllowed gi_X10_needAllowed ⟨Nat.le_of_ble_eq_true rfl, Nat.le_of_ble_eq_true rfl⟩ ⟨Nat.le_of_ble_eq_true rfl, Nat.le_of_ble_eq_true rfl⟩ rfl hl.1 rfl (Nat.le_of_ble_eq_true rfl) dX10_restore_12) hS (fun H locs hw hS => ?_)
  refine W.eq (g2 := F0 m 15 ls []) rfl ?_
  refine lv_aload_n cx.1 cx.2.1 dX10_restore_15 rfl (lv_at hl 0 rfl) ?_
  refine g_get (C := RX10) (T := TX10) (N := 6) (v := .ref (G.2.1 5)) cx hw inlX10 0 (by omega) he_c0 rfl 4 (by decide) gw_26 rfl rfl dX10_restore_16 ?_
  refine lv_iload_n cx.1 cx.2.1 dX10_restore_19 rfl (lv_at hl 1 rfl) ?_
  refine lv_aload_n cx.1 cx.2.1 dX10_restore_20 rfl (lv_at hl 0 rfl) ?_
  refine g_get (C := RX10) (T := TX10) (N := 6) (v := .ref (G.2.1 14)) cx hw inlX10 0 (by omega) he_c0 rfl 1 (by decide) gw_17 rfl rfl dX10_restore_21 ?_
  obtain ⟨S_7, hv, hf⟩ := gbv_some hf
  refine g_V (As := [.int a1, .ref (G.2.1 14)]) (rest := []) cx hw hS (c_X6_fetchInto l G st_14 a1 S_5 S_7 hv) (by omega) he_c5 rfl rfl gw_803 gy_X6_fetchInto gi_X6_fetchInto ⟨Nat.le_of_ble_eq_true rfl, Nat.le_of_ble_eq_true rfl⟩ ⟨Nat.le_of_ble_eq_true rfl, Nat.le_of_ble_eq_true rfl⟩ rfl hl.1 rfl (Nat.le_of_ble_eq_true rfl) dX10_restore_24 (fun H locs hw hS => ?_)
  refine W.eq (g2 := F0 m 27 ls []) rfl ?_
  refine lv_aload_n cx.1 cx.2.1 dX10_restore_27 rfl (lv_at hl 0 rfl) ?_
  refine g_get (C := RX10) (T := TX10) (N := 6) (v := .ref (G.2.1 3)) cx hw inlX10 0 (by omega) he_c0 rfl 3 (by decide) gw_22 rfl rfl dX10_restore_28 ?_
  obtain ⟨S_8, hv, hf⟩ := gbv_some hf
  refine g_V (As := []) (rest := []) cx hw hS (c_X3_forget l G S_7 S_8 hv) (by omega) he_c3 rfl rfl gw_807 gy_X3_forget gi_X3_forget ⟨Nat.le_of_ble_eq_true rfl, Nat.le_of_ble_eq_true rfl⟩ ⟨Nat.le_of_ble_eq_true rfl, Nat.le_of_ble_eq_true rfl⟩ rfl hl.1 rfl (Nat.le_of_ble_eq_true rfl) dX10_restore_31 (fun H locs hw hS => ?_)
  refine W.eq (g2 := F0 m 34 ls []) rfl ?_
  refine lv_aload_n cx.1 cx.2.1 dX10_restore_34 rfl (lv_at hl 0 rfl) ?_
  refine g_get (C := RX10) (T := TX10) (N := 6) (v := .ref (G.2.1 14)) cx hw inlX10 0 (by omega) he_c0 rfl 1 (by decide) gw_17 rfl rfl dX10_restore_35 ?_
  refine g_get (C := RX7) (T := TX7) (N := 9) (v := .int (S_8 14 5)) cx hw inlX7 14 (Nat.lt_of_lt_of_le st_14.lt0 hN) (he_s0 st_14) rfl 5 (by decide) gw_202 rfl rfl dX10_restore_38 ?_
  exact gx_ireti cx hr hlk hw hS hf dX10_restore_41 (Nat.le_of_ble_eq_true rfl) (Nat.le_of_ble_eq_true rfl)
set_option maxHeartbeats 4000000 in
set_option maxRecDepth 100000 in
theorem c_X10_run (l : Launch) (hst : l.stackTraces = false) (G : gG) (a1 : Int32) (a2 : Int32) (S : Sg) (k : Nat) (r : Int32) (S' : Sg) (hf : f_X10_run a1 a2 S = some (k, r, S')) : Cx l yX10_run [Cond.code yX10_run cX10_run 3 (some .int)] (gRx 9 165 3 18) G [.ref (G.2.1 0), .int a1, .int a2] S k (some (.int r)) S' 3 18 := by
  refine Cx_of (by decide) (Nat.le_of_ble_eq_true rfl) ?_
  intro p e s m below meth c ls cx hX hZ hexn hr hlk hw hS hl
  have hN := cx.2.2.2.2.hN
  have hB_32 : ∀ (S : Sg) (x1 : Int32) (x2 : Int32) (t0 : Int32) (H : Heap) (locs : List Loc) (ls : Array Slot), gP G S H → va_S (gA G s.heap.size) s.heap H locs → lv_has ls 3 [(0, .ref (G.2.1 0)), (1, .int x1), (2, .int x2)] → B_X10_run_32 S x1 x2 t0 = some (k, r, S') → W p l e (gRx 9 165 3 18) s m ([.ref (G.2.1 0), .int a1, .int a2] : List Value).toArray below meth c H locs 2 12 (vx_MQ below (gQx G S' k (some (.int r)) (gA G s.heap.size)) (gXx G S' k (gA G s.heap.size)) ([.ref (G.2.1 0), .int a1, .int a2] : List Value).toArray s 3 18 (gA G s.heap.size)) (F0 m 32 ls [.int t0]) := by
    intro S x1 x2 t0 H locs ls hw hS hl hf
    unfold B_X10_run_32 at hf
    rcases gbx_some hf with ⟨j9, v9, S9, hv, hf9⟩ | ⟨v_2, S_1, hv, hf⟩
    · exact gx_thr (gx_rS (As := [.int t0]) (rest := []) cx hX hZ hw hS (c_X10_needAllowed l hst G t0 S (j9 + 1) v9 S9 hv) gw_302 gy_X10_needAllowed gi_X10_needAllowed ⟨Nat.le_of_ble_eq_true rfl, Nat.le_of_ble_eq_true rfl⟩ ⟨Nat.le_of_ble_eq_true rfl, Nat.le_of_ble_eq_true rfl⟩ rfl hl.1 rfl (Nat.le_of_ble_eq_true rfl) dX10_run_32) hS hexn hlk hf9 (Nat.le_of_ble_eq_true rfl) (Nat.le_of_ble_eq_true rfl)
    refine gx_ret (gx_rS (As := [.int t0]) (rest := []) cx hX hZ hw hS (c_X10_needAllowed l hst G t0 S 0 v_2 S_1 hv) gw_302 gy_X10_needAllowed gi_X10_needAllowed ⟨Nat.le_of_ble_eq_true rfl, Nat.le_of_ble_eq_true rfl⟩ ⟨Nat.le_of_ble_eq_true rfl, Nat.le_of_ble_eq_true rfl⟩ rfl hl.1 rfl (Nat.le_of_ble_eq_true rfl) dX10_run_32) hS (fun H locs hw hS => ?_)
    refine W.eq (g2 := F0 m 35 ls []) rfl ?_
    refine lv_aload_n cx.1 cx.2.1 dX10_run_35 rfl (lv_at hl 0 rfl) ?_
    refine g_get (C := RX10) (T := TX10) (N := 6) (v := .ref (G.2.1 3)) cx hw inlX10 0 (by omega) he_c0 rfl 3 (by decide) gw_22 rfl rfl dX10_run_36 ?_
    refine lv_aload_n cx.1 cx.2.1 dX10_run_39 rfl (lv_at hl 0 rfl) ?_
    refine g_get (C := RX10) (T := TX10) (N := 6) (v := .ref (G.2.1 14)) cx hw inlX10 0 (by omega) he_c0 rfl 1 (by decide) gw_17 rfl rfl dX10_run_40 ?_
    obtain ⟨S_3, hv, hf⟩ := gbv_some hf
    refine g_V (As := [.ref (G.2.1 14)]) (rest := []) cx hw hS (c_X3_remember l G st_14 S_1 S_3 hv) (by omega) he_c3 rfl rfl gw_455 gy_X3_remember gi_X3_remember ⟨Nat.le_of_ble_eq_true rfl, Nat.le_of_ble_eq_true rfl⟩ ⟨Nat.le_of_ble_eq_true rfl, Nat.le_of_ble_eq_true rfl⟩ rfl hl.1 rfl (Nat.le_of_ble_eq_true rfl) dX10_run_43 (fun H locs hw hS => ?_)
    refine W.eq (g2 := F0 m 46 ls []) rfl ?_
    refine lv_aload_n cx.1 cx.2.1 dX10_run_46 rfl (lv_at hl 0 rfl) ?_
    refine g_get (C := RX10) (T := TX10) (N := 6) (v := .ref (G.2.1 8)) cx hw inlX10 0 (by omega) he_c0 rfl 5 (by decide) gw_30 rfl rfl dX10_run_47 ?_
    refine lv_aload_n cx.1 cx.2.1 dX10_run_50 rfl (lv_at hl 0 rfl) ?_
    refine g_get (C := RX10) (T := TX10) (N := 6) (v := .ref (G.2.1 14)) cx hw inlX10 0 (by omega) he_c0 rfl 1 (by decide) gw_17 rfl rfl dX10_run_51 ?_
    refine lv_iload_n cx.1 cx.2.1 dX10_run_54 rfl (lv_at hl 1 rfl) ?_
    refine lv_iload_n cx.1 cx.2.1 dX10_run_55 rfl (lv_at hl 2 rfl) ?_
    obtain ⟨v_5, S_4, hv, hf⟩ := gbi_some hf
    refine g_V (As := [.ref (G.2.1 14), .int x1, .int x2]) (rest := []) cx hw hS (c_X4_carry l G st_14 x1 x2 S_3 v_5 S_4 hv) (by omega) he_c8 rfl rfl gw_557 gy_X4_carry gi_X4_carry ⟨Nat.le_of_ble_eq_true rfl, Nat.le_of_ble_eq_true rfl⟩ ⟨Nat.le_of_ble_eq_true rfl, Nat.le_of_ble_eq_true rfl⟩ rfl hl.1 rfl (Nat.le_of_ble_eq_true rfl) dX10_run_56 (fun H locs hw hS => ?_)
    refine W.eq (g2 := F0 m 59 ls [.int v_5]) rfl ?_
    exact gx_ireti cx hr hlk hw hS hf dX10_run_59 (Nat.le_of_ble_eq_true rfl) (Nat.le_of_ble_eq_true rfl)
  have hl : lv_has ls 3 [(0, .ref (G.2.1 0)), (1, .int a1), (2, .int a2)] := hl
  unfold f_X10_run at hf
  refine lv_aload_n cx.1 cx.2.1 dX10_run_0 rfl (lv_at hl 0 rfl) ?_
  refine lv_iload_n cx.1 cx.2.1 dX10_run_1 rfl (lv_at hl 1 rfl) ?_
  rcases gbx_some hf with ⟨j9, v9, S9, hv, hf9⟩ | ⟨v_7, S_6, hv, hf⟩
  · exact gx_thr (gx_rV (As := [.int a1]) (rest := []) cx hX hZ hw hS (c_X10_needContract l hst G a1 S (j9 + 1) v9 S9 hv) (by omega) he_c0 rfl rfl gw_429 gy_X10_needContract gi_X10_needContract ⟨Nat.le_of_ble_eq_true rfl, Nat.le_of_ble_eq_true rfl⟩ ⟨Nat.le_of_ble_eq_true rfl, Nat.le_of_ble_eq_true rfl⟩ rfl hl.1 rfl (Nat.le_of_ble_eq_true rfl) dX10_run_2) hS hexn hlk hf9 (Nat.le_of_ble_eq_true rfl) (Nat.le_of_ble_eq_true rfl)
  refine gx_ret (gx_rV (As := [.int a1]) (rest := []) cx hX hZ hw hS (c_X10_needContract l hst G a1 S 0 v_7 S_6 hv) (by omega) he_c0 rfl rfl gw_429 gy_X10_needContract gi_X10_needContract ⟨Nat.le_of_ble_eq_true rfl, Nat.le_of_ble_eq_true rfl⟩ ⟨Nat.le_of_ble_eq_true rfl, Nat.le_of_ble_eq_true rfl⟩ rfl hl.1 rfl (Nat.le_of_ble_eq_true rfl) dX10_run_2) hS (fun H locs hw hS => ?_)
  refine W.eq (g2 := F0 m 5 ls []) rfl ?_
  refine lv_aload_n cx.1 cx.2.1 dX10_run_5 rfl (lv_at hl 0 rfl) ?_
  refine lv_iload_n cx.1 cx.2.1 dX10_run_6 rfl (lv_at hl 1 rfl) ?_
  refine lv_iload_n cx.1 cx.2.1 dX10_run_7 rfl (lv_at hl 2 rfl) ?_
  rcases gbx_some hf with ⟨j9, v9, S9, hv, hf9⟩ | ⟨v_9, S_8, hv, hf⟩
  · exact gx_thr (gx_rV (As := [.int a1, .int a2]) (rest := []) cx hX hZ hw hS (c_X10_needTrainOfHolder l hst G a1 a2 S_6 (j9 + 1) v9 S9 hv) (by omega) he_c0 rfl rfl gw_539 gy_X10_needTrainOfHolder gi_X10_needTrainOfHolder ⟨Nat.le_of_ble_eq_true rfl, Nat.le_of_ble_eq_true rfl⟩ ⟨Nat.le_of_ble_eq_true rfl, Nat.le_of_ble_eq_true rfl⟩ rfl hl.1 rfl (Nat.le_of_ble_eq_true rfl) dX10_run_8) hS hexn hlk hf9 (Nat.le_of_ble_eq_true rfl) (Nat.le_of_ble_eq_true rfl)
  refine gx_ret (gx_rV (As := [.int a1, .int a2]) (rest := []) cx hX hZ hw hS (c_X10_needTrainOfHolder l hst G a1 a2 S_6 0 v_9 S_8 hv) (by omega) he_c0 rfl rfl gw_539 gy_X10_needTrainOfHolder gi_X10_needTrainOfHolder ⟨Nat.le_of_ble_eq_true rfl, Nat.le_of_ble_eq_true rfl⟩ ⟨Nat.le_of_ble_eq_true rfl, Nat.le_of_ble_eq_true rfl⟩ rfl hl.1 rfl (Nat.le_of_ble_eq_true rfl) dX10_run_8) hS (fun H locs hw hS => ?_)
  refine W.eq (g2 := F0 m 11 ls []) rfl ?_
  refine lv_aload_n cx.1 cx.2.1 dX10_run_11 rfl (lv_at hl 0 rfl) ?_
  refine g_get (C := RX10) (T := TX10) (N := 6) (v := .ref (G.2.1 8)) cx hw inlX10 0 (by omega) he_c0 rfl 5 (by decide) gw_30 rfl rfl dX10_run_12 ?_
  refine lv_aload_n cx.1 cx.2.1 dX10_run_15 rfl (lv_at hl 0 rfl) ?_
  refine g_get (C := RX10) (T := TX10) (N := 6) (v := .ref (G.2.1 14)) cx hw inlX10 0 (by omega) he_c0 rfl 1 (by decide) gw_17 rfl rfl dX10_run_16 ?_
  refine lv_iload_n cx.1 cx.2.1 dX10_run_19 rfl (lv_at hl 1 rfl) ?_
  refine lv_iload_n cx.1 cx.2.1 dX10_run_20 rfl (lv_at hl 2 rfl) ?_
  obtain ⟨v_11, S_10, hv, hf⟩ := gbi_some hf
  refine g_V (As := [.ref (G.2.1 14), .int a1, .int a2]) (rest := []) cx hw hS (c_X4_reasonAgainst l G st_14 a1 a2 S_8 v_11 S_10 hv) (by omega) he_c8 rfl rfl gw_544 gy_X4_reasonAgainst gi_X4_reasonAgainst ⟨Nat.le_of_ble_eq_true rfl, Nat.le_of_ble_eq_true rfl⟩ ⟨Nat.le_of_ble_eq_true rfl, Nat.le_of_ble_eq_true rfl⟩ rfl hl.1 rfl (Nat.le_of_ble_eq_true rfl) dX10_run_21 (fun H locs hw hS => ?_)
  refine W.eq (g2 := F0 m 24 ls [.int v_11]) rfl ?_
  refine lv_if_ne (tgt := 31) cx.1 cx.2.1 dX10_run_24 (by decide) (fun hc => ?_) (fun hc => ?_)
  · rw [if_neg hc] at hf
    refine lv_iconst (v := (0 : Int32)) cx.1 cx.2.1 dX10_run_31 (by decide) ?_
    exact hB_32 S_10 a1 a2 (0 : Int32) _ _ _ hw hS (lv_sub hl [0, 1, 2] rfl) hf
  · rw [if_pos hc] at hf
    refine lv_iconst (v := (1 : Int32)) cx.1 cx.2.1 dX10_run_27 (by decide) ?_
    refine lv_goto (tgt := 32) cx.1 cx.2.1 dX10_run_28 (by decide) ?_
    exact hB_32 S_10 a1 a2 (1 : Int32) _ _ _ hw hS (lv_sub hl [0, 1, 2] rfl) hf
set_option maxHeartbeats 4000000 in
set_option maxRecDepth 100000 in
theorem c_X10_runScript (l : Launch) (hst : l.stackTraces = false) (G : gG) (a1 : Int32) (a2 : Int64) (S : Sg) (k : Nat) (r : Int32) (S' : Sg) (hf : f_X10_runScript a1 a2 S = some (k, r, S')) : Cx l yX10_runScript [Cond.code yX10_runScript cX10_runScript 6 (some .int)] (gRx 7 174 2 12) G [.ref (G.2.1 0), .int a1, .long a2] S k (some (.int r)) S' 2 12 := by
  refine Cx_of (by decide) (Nat.le_of_ble_eq_true rfl) ?_
  intro p e s m below meth c ls cx hX hZ hexn hr hlk hw hS hl
  have hN := cx.2.2.2.2.hN
  have hL_47 : ∀ (n : Nat), ∀ (S : Sg) (x1 : Int32) (x2 : Int64) (x4 : Int32) (H : Heap) (locs : List Loc) (ls : Array Slot), gP G S H → va_S (gA G s.heap.size) s.heap H locs → lv_has ls 6 [(0, .ref (G.2.1 0)), (1, .int x1), (2, .long x2), (4, .int x4)] → L_X10_runScript_47 n S x1 x2 x4 = some (k, r, S') → W p l e (gRx 7 174 2 12) s m ([.ref (G.2.1 0), .int a1, .long a2] : List Value).toArray below meth c H locs 1 6 (vx_MQ below (gQx G S' k (some (.int r)) (gA G s.heap.size)) (gXx G S' k (gA G s.heap.size)) ([.ref (G.2.1 0), .int a1, .long a2] : List Value).toArray s 2 12 (gA G s.heap.size)) (F0 m 47 ls []) := by
    intro n
    induction n with
    | zero => intro S x1 x2 x4 H locs ls hw hS hl hf; cases hf
    | succ n hK47 =>
      intro S x1 x2 x4 H locs ls hw hS hl hf
      have hf : Lb_X10_runScript_47 (L_X10_runScript_47 n) S x1 x2 x4 = some (k, r, S') := hf
      unfold Lb_X10_runScript_47 at hf
      refine lv_iload cx.1 cx.2.1 dX10_runScript_47 (lv_at hl 3 rfl) ?_
      refine lv_iload_n cx.1 cx.2.1 dX10_runScript_49 rfl (lv_at hl 1 rfl) ?_
      refine lv_icmp_ge (tgt := 95) cx.1 cx.2.1 dX10_runScript_50 (by decide) (fun hc => ?_) (fun hc => ?_)
      · rw [if_pos hc] at hf
        refine lv_bipush (v := (-9 : Int32)) cx.1 cx.2.1 dX10_runScript_95 (by decide) ?_
        exact gx_ireti cx hr hlk hw hS hf dX10_runScript_97 (Nat.le_of_ble_eq_true rfl) (Nat.le_of_ble_eq_true rfl)
      · rw [if_neg hc] at hf
        refine lv_lload_n cx.1 cx.2.1 dX10_runScript_53 rfl (lv_at hl 2 rfl) ?_
        refine lv_iload_n cx.1 cx.2.1 dX10_runScript_54 rfl (lv_at hl 1 rfl) ?_
        refine lv_iconst (v := (1 : Int32)) cx.1 cx.2.1 dX10_runScript_55 (by decide) ?_
        refine lv_isub cx.1 cx.2.1 dX10_runScript_56 ?_
        refine lv_iload cx.1 cx.2.1 dX10_runScript_57 (lv_at hl 3 rfl) ?_
        refine lv_isub cx.1 cx.2.1 dX10_runScript_59 ?_
        obtain ⟨v_2, S_1, hv, hf⟩ := gbl_some hf
        refine g_S (As := [.long x2, .int ((x1 - (1 : Int32)) - x4)]) (rest := []) cx hw hS (c_X5_withoutLowest l G x2 ((x1 - (1 : Int32)) - x4) S v_2 S_1 hv) gw_698 gy_X5_withoutLowest gi_X5_withoutLowest ⟨Nat.le_of_ble_eq_true rfl, Nat.le_of_ble_eq_true rfl⟩ ⟨Nat.le_of_ble_eq_true rfl, Nat.le_of_ble_eq_true rfl⟩ rfl hl.1 rfl (Nat.le_of_ble_eq_true rfl) dX10_runScript_60 (fun H locs hw hS => ?_)
        refine W.eq (g2 := F0 m 63 ls [.long v_2]) rfl ?_
        refine lv_ldc2 cx.1 cx.2.1 cx.2.2.2.1 (cx.2.2.2.2.ts _ gw_697) dX10_runScript_63 ?_
        refine lv_lrem cx.1 cx.2.1 dX10_runScript_66 (by decide) ?_
        refine lv_l2i cx.1 cx.2.1 dX10_runScript_67 rfl ?_
        obtain ⟨x5_3, ex5_3, hf⟩ := gvi_ex hf
        refine W.eq (g2 := F0 m 68 ls [.int x5_3]) (by rw [← ex5_3]) ?_
        refine lv_istore (lv' := [(5, .int x5_3), (0, .ref (G.2.1 0)), (1, .int x1), (2, .long x2), (4, .int x4)]) cx.1 cx.2.1 dX10_runScript_68 hl (by decide) rfl (fun ls hl => ?_)
        refine lv_aload_n cx.1 cx.2.1 dX10_runScript_70 rfl (lv_at hl 1 rfl) ?_
        refine g_get (C := RX10) (T := TX10) (N := 6) (v := .ref (G.2.1 35)) cx hw inlX10 0 (by omega) he_c0 rfl 2 (by decide) gw_18 rfl rfl dX10_runScript_71 ?_
        refine lv_aload_n cx.1 cx.2.1 dX10_runScript_74 rfl (lv_at hl 1 rfl) ?_
        refine g_get (C := RX10) (T := TX10) (N := 6) (v := .ref (G.2.1 8)) cx hw inlX10 0 (by omega) he_c0 rfl 5 (by decide) gw_30 rfl rfl dX10_runScript_75 ?_
        refine lv_iload cx.1 cx.2.1 dX10_runScript_78 (lv_at hl 0 rfl) ?_
        obtain ⟨v_5, S_4, hv, hf⟩ := gbi_some hf
        refine g_S (As := [.ref (G.2.1 35), .ref (G.2.1 8), .int x5_3]) (rest := []) cx hw hS (c_X5_obey l G st_35 x5_3 S_1 v_5 S_4 hv) gw_703 gy_X5_obey gi_X5_obey ⟨Nat.le_of_ble_eq_true rfl, Nat.le_of_ble_eq_true rfl⟩ ⟨Nat.le_of_ble_eq_true rfl, Nat.le_of_ble_eq_true rfl⟩ rfl hl.1 rfl (Nat.le_of_ble_eq_true rfl) dX10_runScript_80 (fun H locs hw hS => ?_)
        refine W.eq (g2 := F0 m 83 ls [.int v_5]) rfl ?_
        refine lv_if_ne (tgt := 89) cx.1 cx.2.1 dX10_runScript_83 (by decide) (fun hc => ?_) (fun hc => ?_)
        · rw [if_neg hc] at hf
          obtain ⟨x4_6, ex4_6, hf⟩ := gvi_ex hf
          refine lv_iinc (v := x4_6) (lv' := [(4, .int x4_6), (5, .int x5_3), (0, .ref (G.2.1 0)), (1, .int x1), (2, .long x2)]) cx.1 cx.2.1 dX10_runScript_89 hl (k := 4) rfl (by rw [← ex4_6]; rfl) (by decide) rfl (fun ls hl => ?_)
          refine lv_goto (tgt := 47) cx.1 cx.2.1 dX10_runScript_92 (by decide) ?_
          exact hK47 S_4 x1 x2 x4_6 _ _ _ hw hS (lv_sub hl [2, 3, 4, 0] rfl) hf
        · rw [if_pos hc] at hf
          refine lv_iload cx.1 cx.2.1 dX10_runScript_86 (lv_at hl 4 rfl) ?_
          exact gx_ireti cx hr hlk hw hS hf dX10_runScript_88 (Nat.le_of_ble_eq_true rfl) (Nat.le_of_ble_eq_true rfl)
  have hB_22 : ∀ (S : Sg) (H : Heap) (locs : List Loc) (ls : Array Slot), gP G S H → va_S (gA G s.heap.size) s.heap H locs → lv_has ls 6 [] → B_X10_runScript_22 S = some (k, r, S') → W p l e (gRx 7 174 2 12) s m ([.ref (G.2.1 0), .int a1, .long a2] : List Value).toArray below meth c H locs 1 6 (vx_MQ below (gQx G S' k (some (.int r)) (gA G s.heap.size)) (gXx G S' k (gA G s.heap.size)) ([.ref (G.2.1 0), .int a1, .long a2] : List Value).toArray s 2 12 (gA G s.heap.size)) (F0 m 22 ls []) := by
    intro S H locs ls hw hS hl hf
    unfold B_X10_runScript_22 at hf
    exact gx_throwW (k := 1) (text := "negative, or too many digits") cx hX hZ hw hS hst hexn hlk hl.1 gw_195 gw_196 (by decide +kernel) gEo2 (List.mem_of_getElem? (i := 7) rfl) hf dX10_runScript_22 dX10_runScript_25 dX10_runScript_26 dX10_runScript_29 dX10_runScript_32 (Nat.le_of_ble_eq_true rfl) (Nat.le_of_ble_eq_true rfl) (Nat.le_of_ble_eq_true rfl) (Nat.le_of_ble_eq_true rfl) (Nat.le_of_ble_eq_true rfl) (Nat.le_of_ble_eq_true rfl)
  have hl : lv_has ls 6 [(0, .ref (G.2.1 0)), (1, .int a1), (2, .long a2)] := hl
  unfold f_X10_runScript at hf
  refine lv_iload_n cx.1 cx.2.1 dX10_runScript_0 rfl (lv_at hl 1 rfl) ?_
  refine lv_iconst (v := (1 : Int32)) cx.1 cx.2.1 dX10_runScript_1 (by decide) ?_
  refine lv_iconst (v := (3 : Int32)) cx.1 cx.2.1 dX10_runScript_2 (by decide) ?_
  rcases gbx_some hf with ⟨j9, v9, S9, hv, hf9⟩ | ⟨v_8, S_7, hv, hf⟩
  · exact gx_thr (gx_rS (As := [.int a1, .int (1 : Int32), .int (3 : Int32)]) (rest := []) cx hX hZ hw hS (c_X10_needRange l hst G a1 (1 : Int32) (3 : Int32) S (j9 + 1) v9 S9 hv) gw_241 gy_X10_needRange gi_X10_needRange ⟨Nat.le_of_ble_eq_true rfl, Nat.le_of_ble_eq_true rfl⟩ ⟨Nat.le_of_ble_eq_true rfl, Nat.le_of_ble_eq_true rfl⟩ rfl hl.1 rfl (Nat.le_of_ble_eq_true rfl) dX10_runScript_3) hS hexn hlk hf9 (Nat.le_of_ble_eq_true rfl) (Nat.le_of_ble_eq_true rfl)
  refine gx_ret (gx_rS (As := [.int a1, .int (1 : Int32), .int (3 : Int32)]) (rest := []) cx hX hZ hw hS (c_X10_needRange l hst G a1 (1 : Int32) (3 : Int32) S 0 v_8 S_7 hv) gw_241 gy_X10_needRange gi_X10_needRange ⟨Nat.le_of_ble_eq_true rfl, Nat.le_of_ble_eq_true rfl⟩ ⟨Nat.le_of_ble_eq_true rfl, Nat.le_of_ble_eq_true rfl⟩ rfl hl.1 rfl (Nat.le_of_ble_eq_true rfl) dX10_runScript_3) hS (fun H locs hw hS => ?_)
  refine W.eq (g2 := F0 m 6 ls []) rfl ?_
  refine lv_lload_n cx.1 cx.2.1 dX10_runScript_6 rfl (lv_at hl 2 rfl) ?_
  refine lv_lconst (v := (0 : Int64)) cx.1 cx.2.1 dX10_runScript_7 (by decide) ?_
  refine W.lcmp cx.1 cx.2.1 dX10_runScript_8 ?_
  refine lv_if_lt (tgt := 22) cx.1 cx.2.1 dX10_runScript_9 (by decide) (fun hc => ?_) (fun hc => ?_)
  · rw [if_pos hc] at hf
    exact hB_22 S_7 _ _ _ hw hS (lv_sub hl [] rfl) hf
  · rw [if_neg hc] at hf
    refine lv_lload_n cx.1 cx.2.1 dX10_runScript_12 rfl (lv_at hl 2 rfl) ?_
    refine lv_iload_n cx.1 cx.2.1 dX10_runScript_13 rfl (lv_at hl 1 rfl) ?_
    obtain ⟨v_10, S_9, hv, hf⟩ := gbl_some hf
    refine g_S (As := [.long a2, .int a1]) (rest := []) cx hw hS (c_X5_withoutLowest l G a2 a1 S_7 v_10 S_9 hv) gw_698 gy_X5_withoutLowest gi_X5_withoutLowest ⟨Nat.le_of_ble_eq_true rfl, Nat.le_of_ble_eq_true rfl⟩ ⟨Nat.le_of_ble_eq_true rfl, Nat.le_of_ble_eq_true rfl⟩ rfl hl.1 rfl (Nat.le_of_ble_eq_true rfl) dX10_runScript_14 (fun H locs hw hS => ?_)
    refine W.eq (g2 := F0 m 17 ls [.long v_10]) rfl ?_
    refine lv_lconst (v := (0 : Int64)) cx.1 cx.2.1 dX10_runScript_17 (by decide) ?_
    refine W.lcmp cx.1 cx.2.1 dX10_runScript_18 ?_
    refine lv_if_le (tgt := 33) cx.1 cx.2.1 dX10_runScript_19 (by decide) (fun hc => ?_) (fun hc => ?_)
    · rw [if_pos hc] at hf
      refine lv_aload_n cx.1 cx.2.1 dX10_runScript_33 rfl (lv_at hl 0 rfl) ?_
      refine g_get (C := RX10) (T := TX10) (N := 6) (v := .ref (G.2.1 35)) cx hw inlX10 0 (by omega) he_c0 rfl 2 (by decide) gw_18 rfl rfl dX10_runScript_34 ?_
      refine lv_aload_n cx.1 cx.2.1 dX10_runScript_37 rfl (lv_at hl 0 rfl) ?_
      refine g_get (C := RX10) (T := TX10) (N := 6) (v := .ref (G.2.1 14)) cx hw inlX10 0 (by omega) he_c0 rfl 1 (by decide) gw_17 rfl rfl dX10_runScript_38 ?_
      obtain ⟨S_11, hv, hf⟩ := gbv_some hf
      refine g_V (As := [.ref (G.2.1 14)]) (rest := []) cx hw hS (c_X7_copyFrom l G st_35 st_14 S_9 S_11 hv) (Nat.lt_of_lt_of_le st_35.lt0 hN) (he_s0 st_35) rfl rfl gw_319 gy_X7_copyFrom gi_X7_copyFrom ⟨Nat.le_of_ble_eq_true rfl, Nat.le_of_ble_eq_true rfl⟩ ⟨Nat.le_of_ble_eq_true rfl, Nat.le_of_ble_eq_true rfl⟩ rfl hl.1 rfl (Nat.le_of_ble_eq_true rfl) dX10_runScript_41 (fun H locs hw hS => ?_)
      refine W.eq (g2 := F0 m 44 ls []) rfl ?_
      refine lv_iconst (v := (0 : Int32)) cx.1 cx.2.1 dX10_runScript_44 (by decide) ?_
      refine lv_istore (lv' := [(4, .int (0 : Int32)), (0, .ref (G.2.1 0)), (1, .int a1), (2, .long a2)]) cx.1 cx.2.1 dX10_runScript_45 hl (by decide) rfl (fun ls hl => ?_)
      exact hL_47 gFu S_11 a1 a2 (0 : Int32) _ _ _ hw hS (lv_sub hl [1, 2, 3, 0] rfl) hf
    · rw [if_neg hc] at hf
      exact hB_22 S_9 _ _ _ hw hS (lv_sub hl [] rfl) hf
set_option maxHeartbeats 4000000 in
set_option maxRecDepth 100000 in
theorem c_X10_save (l : Launch) (hst : l.stackTraces = false) (G : gG) (a1 : Int32) (S : Sg) (k : Nat) (r : Int32) (S' : Sg) (hf : f_X10_save a1 S = some (k, r, S')) : Cx l yX10_save [Cond.code yX10_save cX10_save 2 (some .int)] (gRx 8 166 1 6) G [.ref (G.2.1 0), .int a1] S k (some (.int r)) S' 1 6 := by
  refine Cx_of (by decide) (Nat.le_of_ble_eq_true rfl) ?_
  intro p e s m below meth c ls cx hX hZ hexn hr hlk hw hS hl
  have hN := cx.2.2.2.2.hN
  have hl : lv_has ls 2 [(0, .ref (G.2.1 0)), (1, .int a1)] := hl
  unfold f_X10_save at hf
  refine lv_iload_n cx.1 cx.2.1 dX10_save_0 rfl (lv_at hl 1 rfl) ?_
  rcases gbx_some hf with ⟨j9, v9, S9, hv, hf9⟩ | ⟨v_2, S_1, hv, hf⟩
  · exact gx_thr (gx_rS (As := [.int a1]) (rest := []) cx hX hZ hw hS (c_X10_needSlot l hst G a1 S (j9 + 1) v9 S9 hv) gw_781 gy_X10_needSlot gi_X10_needSlot ⟨Nat.le_of_ble_eq_true rfl, Nat.le_of_ble_eq_true rfl⟩ ⟨Nat.le_of_ble_eq_true rfl, Nat.le_of_ble_eq_true rfl⟩ rfl hl.1 rfl (Nat.le_of_ble_eq_true rfl) dX10_save_1) hS hexn hlk hf9 (Nat.le_of_ble_eq_true rfl) (Nat.le_of_ble_eq_true rfl)
  refine gx_ret (gx_rS (As := [.int a1]) (rest := []) cx hX hZ hw hS (c_X10_needSlot l hst G a1 S 0 v_2 S_1 hv) gw_781 gy_X10_needSlot gi_X10_needSlot ⟨Nat.le_of_ble_eq_true rfl, Nat.le_of_ble_eq_true rfl⟩ ⟨Nat.le_of_ble_eq_true rfl, Nat.le_of_ble_eq_true rfl⟩ rfl hl.1 rfl (Nat.le_of_ble_eq_true rfl) dX10_save_1) hS (fun H locs hw hS => ?_)
  refine W.eq (g2 := F0 m 4 ls []) rfl ?_
  refine lv_aload_n cx.1 cx.2.1 dX10_save_4 rfl (lv_at hl 0 rfl) ?_
  refine g_get (C := RX10) (T := TX10) (N := 6) (v := .ref (G.2.1 5)) cx hw inlX10 0 (by omega) he_c0 rfl 4 (by decide) gw_26 rfl rfl dX10_save_5 ?_
  refine lv_iload_n cx.1 cx.2.1 dX10_save_8 rfl (lv_at hl 1 rfl) ?_
  refine lv_aload_n cx.1 cx.2.1 dX10_save_9 rfl (lv_at hl 0 rfl) ?_
  refine g_get (C := RX10) (T := TX10) (N := 6) (v := .ref (G.2.1 14)) cx hw inlX10 0 (by omega) he_c0 rfl 1 (by decide) gw_17 rfl rfl dX10_save_10 ?_
  obtain ⟨S_3, hv, hf⟩ := gbv_some hf
  refine g_V (As := [.int a1, .ref (G.2.1 14)]) (rest := []) cx hw hS (c_X6_keep l G st_14 a1 S_1 S_3 hv) (by omega) he_c5 rfl rfl gw_784 gy_X6_keep gi_X6_keep ⟨Nat.le_of_ble_eq_true rfl, Nat.le_of_ble_eq_true rfl⟩ ⟨Nat.le_of_ble_eq_true rfl, Nat.le_of_ble_eq_true rfl⟩ rfl hl.1 rfl (Nat.le_of_ble_eq_true rfl) dX10_save_13 (fun H locs hw hS => ?_)
  refine W.eq (g2 := F0 m 16 ls []) rfl ?_
  refine lv_aload_n cx.1 cx.2.1 dX10_save_16 rfl (lv_at hl 0 rfl) ?_
  refine g_get (C := RX10) (T := TX10) (N := 6) (v := .ref (G.2.1 14)) cx hw inlX10 0 (by omega) he_c0 rfl 1 (by decide) gw_17 rfl rfl dX10_save_17 ?_
  refine g_get (C := RX7) (T := TX7) (N := 9) (v := .int (S_3 14 5)) cx hw inlX7 14 (Nat.lt_of_lt_of_le st_14.lt0 hN) (he_s0 st_14) rfl 5 (by decide) gw_202 rfl rfl dX10_save_20 ?_
  exact gx_ireti cx hr hlk hw hS hf dX10_save_23 (Nat.le_of_ble_eq_true rfl) (Nat.le_of_ble_eq_true rfl)
set_option maxHeartbeats 4000000 in
set_option maxRecDepth 100000 in
theorem c_X10_setRent (l : Launch) (hst : l.stackTraces = false) (G : gG) (a1 : Int32) (a2 : Int32) (S : Sg) (k : Nat) (r : Int32) (S' : Sg) (hf : f_X10_setRent a1 a2 S = some (k, r, S')) : Cx l yX10_setRent [Cond.code yX10_setRent cX10_setRent 4 (some .int)] (gRx 8 165 2 12) G [.ref (G.2.1 0), .int a1, .int a2] S k (some (.int r)) S' 2 12 := by
  refine Cx_of (by decide) (Nat.le_of_ble_eq_true rfl) ?_
  intro p e s m below meth c ls cx hX hZ hexn hr hlk hw hS hl
  have hN := cx.2.2.2.2.hN
  have hl : lv_has ls 4 [(0, .ref (G.2.1 0)), (1, .int a1), (2, .int a2)] := hl
  unfold f_X10_setRent at hf
  refine lv_iload_n cx.1 cx.2.1 dX10_setRent_0 rfl (lv_at hl 1 rfl) ?_
  rcases gbx_some hf with ⟨j9, v9, S9, hv, hf9⟩ | ⟨v_2, S_1, hv, hf⟩
  · exact gx_thr (gx_rS (As := [.int a1]) (rest := []) cx hX hZ hw hS (c_X10_needCompany l hst G a1 S (j9 + 1) v9 S9 hv) gw_223 gy_X10_needCompany gi_X10_needCompany ⟨Nat.le_of_ble_eq_true rfl, Nat.le_of_ble_eq_true rfl⟩ ⟨Nat.le_of_ble_eq_true rfl, Nat.le_of_ble_eq_true rfl⟩ rfl hl.1 rfl (Nat.le_of_ble_eq_true rfl) dX10_setRent_1) hS hexn hlk hf9 (Nat.le_of_ble_eq_true rfl) (Nat.le_of_ble_eq_true rfl)
  refine gx_ret (gx_rS (As := [.int a1]) (rest := []) cx hX hZ hw hS (c_X10_needCompany l hst G a1 S 0 v_2 S_1 hv) gw_223 gy_X10_needCompany gi_X10_needCompany ⟨Nat.le_of_ble_eq_true rfl, Nat.le_of_ble_eq_true rfl⟩ ⟨Nat.le_of_ble_eq_true rfl, Nat.le_of_ble_eq_true rfl⟩ rfl hl.1 rfl (Nat.le_of_ble_eq_true rfl) dX10_setRent_1) hS (fun H locs hw hS => ?_)
  refine W.eq (g2 := F0 m 4 ls []) rfl ?_
  refine lv_iload_n cx.1 cx.2.1 dX10_setRent_4 rfl (lv_at hl 2 rfl) ?_
  refine lv_iconst (v := (0 : Int32)) cx.1 cx.2.1 dX10_setRent_5 (by decide) ?_
  refine lv_bipush (v := (9 : Int32)) cx.1 cx.2.1 dX10_setRent_6 (by decide) ?_
  rcases gbx_some hf with ⟨j9, v9, S9, hv, hf9⟩ | ⟨v_4, S_3, hv, hf⟩
  · exact gx_thr (gx_rS (As := [.int a2, .int (0 : Int32), .int (9 : Int32)]) (rest := []) cx hX hZ hw hS (c_X10_needRange l hst G a2 (0 : Int32) (9 : Int32) S_1 (j9 + 1) v9 S9 hv) gw_241 gy_X10_needRange gi_X10_needRange ⟨Nat.le_of_ble_eq_true rfl, Nat.le_of_ble_eq_true rfl⟩ ⟨Nat.le_of_ble_eq_true rfl, Nat.le_of_ble_eq_true rfl⟩ rfl hl.1 rfl (Nat.le_of_ble_eq_true rfl) dX10_setRent_8) hS hexn hlk hf9 (Nat.le_of_ble_eq_true rfl) (Nat.le_of_ble_eq_true rfl)
  refine gx_ret (gx_rS (As := [.int a2, .int (0 : Int32), .int (9 : Int32)]) (rest := []) cx hX hZ hw hS (c_X10_needRange l hst G a2 (0 : Int32) (9 : Int32) S_1 0 v_4 S_3 hv) gw_241 gy_X10_needRange gi_X10_needRange ⟨Nat.le_of_ble_eq_true rfl, Nat.le_of_ble_eq_true rfl⟩ ⟨Nat.le_of_ble_eq_true rfl, Nat.le_of_ble_eq_true rfl⟩ rfl hl.1 rfl (Nat.le_of_ble_eq_true rfl) dX10_setRent_8) hS (fun H locs hw hS => ?_)
  refine W.eq (g2 := F0 m 11 ls []) rfl ?_
  refine lv_aload_n cx.1 cx.2.1 dX10_setRent_11 rfl (lv_at hl 0 rfl) ?_
  refine g_get (C := RX10) (T := TX10) (N := 6) (v := .ref (G.2.1 3)) cx hw inlX10 0 (by omega) he_c0 rfl 3 (by decide) gw_22 rfl rfl dX10_setRent_12 ?_
  refine lv_aload_n cx.1 cx.2.1 dX10_setRent_15 rfl (lv_at hl 0 rfl) ?_
  refine g_get (C := RX10) (T := TX10) (N := 6) (v := .ref (G.2.1 14)) cx hw inlX10 0 (by omega) he_c0 rfl 1 (by decide) gw_17 rfl rfl dX10_setRent_16 ?_
  obtain ⟨S_5, hv, hf⟩ := gbv_some hf
  refine g_V (As := [.ref (G.2.1 14)]) (rest := []) cx hw hS (c_X3_remember l G st_14 S_3 S_5 hv) (by omega) he_c3 rfl rfl gw_455 gy_X3_remember gi_X3_remember ⟨Nat.le_of_ble_eq_true rfl, Nat.le_of_ble_eq_true rfl⟩ ⟨Nat.le_of_ble_eq_true rfl, Nat.le_of_ble_eq_true rfl⟩ rfl hl.1 rfl (Nat.le_of_ble_eq_true rfl) dX10_setRent_19 (fun H locs hw hS => ?_)
  refine W.eq (g2 := F0 m 22 ls []) rfl ?_
  refine lv_aload_n cx.1 cx.2.1 dX10_setRent_22 rfl (lv_at hl 0 rfl) ?_
  refine g_get (C := RX10) (T := TX10) (N := 6) (v := .ref (G.2.1 14)) cx hw inlX10 0 (by omega) he_c0 rfl 1 (by decide) gw_17 rfl rfl dX10_setRent_23 ?_
  refine g_get (C := RX7) (T := TX7) (N := 9) (v := .ref (G.2.1 (14 + 3))) cx hw inlX7 14 (Nat.lt_of_lt_of_le st_14.lt0 hN) (he_s0 st_14) rfl 2 (by decide) gw_203 rfl rfl dX10_setRent_26 ?_
  refine g_get (C := RX0) (T := TX0) (N := 7) (v := .ref (G.2.1 (14 + 15))) cx hw inlX0 (14 + 3) (Nat.lt_of_lt_of_le (st_14.lt (j := 3) (by omega)) hN) (he_s3 st_14) rfl 1 (by decide) gw_356 rfl rfl dX10_setRent_29 ?_
  refine lv_iload_n cx.1 cx.2.1 dX10_setRent_32 rfl (lv_at hl 1 rfl) ?_
  obtain ⟨v_7, S_6, hv, hf⟩ := gbi_some hf
  refine g_S (As := [.ref (G.2.1 (14 + 15)), .int a1]) (rest := []) cx hw hS (c_X10_at l G (ia_s15 hN st_14) a1 S_5 v_7 S_6 hv) gw_210 gy_X10_at gi_X10_at ⟨Nat.le_of_ble_eq_true rfl, Nat.le_of_ble_eq_true rfl⟩ ⟨Nat.le_of_ble_eq_true rfl, Nat.le_of_ble_eq_true rfl⟩ rfl hl.1 rfl (Nat.le_of_ble_eq_true rfl) dX10_setRent_33 (fun H locs hw hS => ?_)
  refine W.eq (g2 := F0 m 36 ls [.int v_7]) rfl ?_
  refine lv_istore_n (lv' := [(3, .int v_7), (0, .ref (G.2.1 0)), (1, .int a1), (2, .int a2)]) cx.1 cx.2.1 dX10_setRent_36 rfl hl (by decide) rfl (fun ls hl => ?_)
  refine lv_aload_n cx.1 cx.2.1 dX10_setRent_37 rfl (lv_at hl 1 rfl) ?_
  refine g_get (C := RX10) (T := TX10) (N := 6) (v := .ref (G.2.1 14)) cx hw inlX10 0 (by omega) he_c0 rfl 1 (by decide) gw_17 rfl rfl dX10_setRent_38 ?_
  refine g_get (C := RX7) (T := TX7) (N := 9) (v := .ref (G.2.1 (14 + 3))) cx hw inlX7 14 (Nat.lt_of_lt_of_le st_14.lt0 hN) (he_s0 st_14) rfl 2 (by decide) gw_203 rfl rfl dX10_setRent_41 ?_
  refine lv_iload_n cx.1 cx.2.1 dX10_setRent_44 rfl (lv_at hl 2 rfl) ?_
  refine lv_iload_n cx.1 cx.2.1 dX10_setRent_45 rfl (lv_at hl 3 rfl) ?_
  obtain ⟨S_8, hv, hf⟩ := gbv_some hf
  refine g_V (As := [.int a1, .int a2]) (rest := []) cx hw hS (c_X0_changeRent l G st_14 a1 a2 S_6 S_8 hv) (Nat.lt_of_lt_of_le (st_14.lt (j := 3) (by omega)) hN) (he_s3 st_14) rfl rfl gw_499 gy_X0_changeRent gi_X0_changeRent ⟨Nat.le_of_ble_eq_true rfl, Nat.le_of_ble_eq_true rfl⟩ ⟨Nat.le_of_ble_eq_true rfl, Nat.le_of_ble_eq_true rfl⟩ rfl hl.1 rfl (Nat.le_of_ble_eq_true rfl) dX10_setRent_46 (fun H locs hw hS => ?_)
  refine W.eq (g2 := F0 m 49 ls []) rfl ?_
  refine lv_iload_n cx.1 cx.2.1 dX10_setRent_49 rfl (lv_at hl 0 rfl) ?_
  exact gx_ireti cx hr hlk hw hS hf dX10_setRent_50 (Nat.le_of_ble_eq_true rfl) (Nat.le_of_ble_eq_true rfl)
set_option maxHeartbeats 4000000 in
set_option maxRecDepth 100000 in
theorem c_X10_simulate (l : Launch) (hst : l.stackTraces = false) (G : gG) (a1 : Int64) (a3 : Int32) (S : Sg) (k : Nat) (r : Int32) (S' : Sg) (hf : f_X10_simulate a1 a3 S = some (k, r, S')) : Cx l yX10_simulate [Cond.code yX10_simulate cX10_simulate 7 (some .int)] (gRx 7 172 1 6) G [.ref (G.2.1 0), .long a1, .int a3] S k (some (.int r)) S' 1 6 := by
  refine Cx_of (by decide) (Nat.le_of_ble_eq_true rfl) ?_
  intro p e s m below meth c ls cx hX hZ hexn hr hlk hw hS hl
  have hN := cx.2.2.2.2.hN
  have hL_24 : ∀ (n : Nat), ∀ (S : Sg) (x3 : Int32) (x4 : Int64) (x6 : Int32) (H : Heap) (locs : List Loc) (ls : Array Slot), gP G S H → va_S (gA G s.heap.size) s.heap H locs → lv_has ls 7 [(0, .ref (G.2.1 0)), (3, .int x3), (4, .long x4), (6, .int x6)] → L_X10_simulate_24 n S x3 x4 x6 = some (k, r, S') → W p l e (gRx 7 172 1 6) s m ([.ref (G.2.1 0), .long a1, .int a3] : List Value).toArray below meth c H locs 1 6 (vx_MQ below (gQx G S' k (some (.int r)) (gA G s.heap.size)) (gXx G S' k (gA G s.heap.size)) ([.ref (G.2.1 0), .long a1, .int a3] : List Value).toArray s 1 6 (gA G s.heap.size)) (F0 m 24 ls []) := by
    intro n
    induction n with
    | zero => intro S x3 x4 x6 H locs ls hw hS hl hf; cases hf
    | succ n hK24 =>
      intro S x3 x4 x6 H locs ls hw hS hl hf
      have hf : Lb_X10_simulate_24 (L_X10_simulate_24 n) S x3 x4 x6 = some (k, r, S') := hf
      unfold Lb_X10_simulate_24 at hf
      refine lv_iload cx.1 cx.2.1 dX10_simulate_24 (lv_at hl 3 rfl) ?_
      refine lv_iload_n cx.1 cx.2.1 dX10_simulate_26 rfl (lv_at hl 1 rfl) ?_
      refine lv_icmp_ge (tgt := 80) cx.1 cx.2.1 dX10_simulate_27 (by decide) (fun hc => ?_) (fun hc => ?_)
      · rw [if_pos hc] at hf
        refine lv_aload_n cx.1 cx.2.1 dX10_simulate_80 rfl (lv_at hl 0 rfl) ?_
        refine g_get (C := RX10) (T := TX10) (N := 6) (v := .ref (G.2.1 35)) cx hw inlX10 0 (by omega) he_c0 rfl 2 (by decide) gw_18 rfl rfl dX10_simulate_81 ?_
        obtain ⟨v_2, S_1, hv, hf⟩ := gbi_some hf
        refine g_V (As := []) (rest := []) cx hw hS (c_X7_greatestWorth l G st_35 S v_2 S_1 hv) (Nat.lt_of_lt_of_le st_35.lt0 hN) (he_s0 st_35) rfl rfl gw_768 gy_X7_greatestWorth gi_X7_greatestWorth ⟨Nat.le_of_ble_eq_true rfl, Nat.le_of_ble_eq_true rfl⟩ ⟨Nat.le_of_ble_eq_true rfl, Nat.le_of_ble_eq_true rfl⟩ rfl hl.1 rfl (Nat.le_of_ble_eq_true rfl) dX10_simulate_84 (fun H locs hw hS => ?_)
        refine W.eq (g2 := F0 m 87 ls [.int v_2]) rfl ?_
        refine lv_sipush (v := (10000 : Int32)) cx.1 cx.2.1 dX10_simulate_87 (by decide) ?_
        refine lv_aload_n cx.1 cx.2.1 dX10_simulate_90 rfl (lv_at hl 0 rfl) ?_
        refine g_get (C := RX10) (T := TX10) (N := 6) (v := .ref (G.2.1 35)) cx hw inlX10 0 (by omega) he_c0 rfl 2 (by decide) gw_18 rfl rfl dX10_simulate_91 ?_
        refine g_get (C := RX7) (T := TX7) (N := 9) (v := .int (S_1 35 4)) cx hw inlX7 35 (Nat.lt_of_lt_of_le st_35.lt0 hN) (he_s0 st_35) rfl 4 (by decide) gw_201 rfl rfl dX10_simulate_94 ?_
        refine lv_imul cx.1 cx.2.1 dX10_simulate_97 ?_
        refine lv_iadd cx.1 cx.2.1 dX10_simulate_98 ?_
        exact gx_ireti cx hr hlk hw hS hf dX10_simulate_99 (Nat.le_of_ble_eq_true rfl) (Nat.le_of_ble_eq_true rfl)
      · rw [if_neg hc] at hf
        refine lv_lload cx.1 cx.2.1 dX10_simulate_30 (lv_at hl 2 rfl) ?_
        refine lv_ldc2 cx.1 cx.2.1 cx.2.2.2.1 (cx.2.2.2.2.ts _ gw_754) dX10_simulate_32 ?_
        refine lv_lmul cx.1 cx.2.1 dX10_simulate_35 ?_
        refine lv_ldc2 cx.1 cx.2.1 cx.2.2.2.1 (cx.2.2.2.2.ts _ gw_755) dX10_simulate_36 ?_
        refine lv_ladd cx.1 cx.2.1 dX10_simulate_39 ?_
        obtain ⟨x4_3, ex4_3, hf⟩ := gvl_ex hf
        refine W.eq (g2 := F0 m 40 ls [.long x4_3]) (by rw [← ex4_3]) ?_
        refine lv_lstore (lv' := [(4, .long x4_3), (0, .ref (G.2.1 0)), (3, .int x3), (6, .int x6)]) cx.1 cx.2.1 dX10_simulate_40 hl (by decide) rfl (fun ls hl => ?_)
        refine lv_aload_n cx.1 cx.2.1 dX10_simulate_42 rfl (lv_at hl 1 rfl) ?_
        refine g_get (C := RX10) (T := TX10) (N := 6) (v := .ref (G.2.1 35)) cx hw inlX10 0 (by omega) he_c0 rfl 2 (by decide) gw_18 rfl rfl dX10_simulate_43 ?_
        refine lv_lload cx.1 cx.2.1 dX10_simulate_46 (lv_at hl 0 rfl) ?_
        refine lv_bipush (v := (33 : Int32)) cx.1 cx.2.1 dX10_simulate_48 (by decide) ?_
        refine lv_lushr cx.1 cx.2.1 dX10_simulate_50 rfl ?_
        refine lv_l2i cx.1 cx.2.1 dX10_simulate_51 rfl ?_
        obtain ⟨S_4, hv, hf⟩ := gbv_some hf
        refine g_V (As := [.int (((x4_3.toUInt64 >>> ((33 : Int32).toInt64.toUInt64 &&& Int64.toUInt64 63)).toInt64).toInt32)]) (rest := []) cx hw hS (c_X7_dealByChance l G st_35 (((x4_3.toUInt64 >>> ((33 : Int32).toInt64.toUInt64 &&& Int64.toUInt64 63)).toInt64).toInt32) S S_4 hv) (Nat.lt_of_lt_of_le st_35.lt0 hN) (he_s0 st_35) rfl rfl gw_756 gy_X7_dealByChance gi_X7_dealByChance ⟨Nat.le_of_ble_eq_true rfl, Nat.le_of_ble_eq_true rfl⟩ ⟨Nat.le_of_ble_eq_true rfl, Nat.le_of_ble_eq_true rfl⟩ rfl hl.1 rfl (Nat.le_of_ble_eq_true rfl) dX10_simulate_52 (fun H locs hw hS => ?_)
        refine W.eq (g2 := F0 m 55 ls []) rfl ?_
        refine lv_aload_n cx.1 cx.2.1 dX10_simulate_55 rfl (lv_at hl 1 rfl) ?_
        refine g_get (C := RX10) (T := TX10) (N := 6) (v := .ref (G.2.1 8)) cx hw inlX10 0 (by omega) he_c0 rfl 5 (by decide) gw_30 rfl rfl dX10_simulate_56 ?_
        refine lv_aload_n cx.1 cx.2.1 dX10_simulate_59 rfl (lv_at hl 1 rfl) ?_
        refine g_get (C := RX10) (T := TX10) (N := 6) (v := .ref (G.2.1 35)) cx hw inlX10 0 (by omega) he_c0 rfl 2 (by decide) gw_18 rfl rfl dX10_simulate_60 ?_
        obtain ⟨S_5, hv, hf⟩ := gbv_some hf
        refine g_V (As := [.ref (G.2.1 35)]) (rest := []) cx hw hS (c_X4_carryAll l G st_35 S_4 S_5 hv) (by omega) he_c8 rfl rfl gw_763 gy_X4_carryAll gi_X4_carryAll ⟨Nat.le_of_ble_eq_true rfl, Nat.le_of_ble_eq_true rfl⟩ ⟨Nat.le_of_ble_eq_true rfl, Nat.le_of_ble_eq_true rfl⟩ rfl hl.1 rfl (Nat.le_of_ble_eq_true rfl) dX10_simulate_63 (fun H locs hw hS => ?_)
        refine W.eq (g2 := F0 m 66 ls []) rfl ?_
        refine lv_aload_n cx.1 cx.2.1 dX10_simulate_66 rfl (lv_at hl 1 rfl) ?_
        refine g_get (C := RX10) (T := TX10) (N := 6) (v := .ref (G.2.1 35)) cx hw inlX10 0 (by omega) he_c0 rfl 2 (by decide) gw_18 rfl rfl dX10_simulate_67 ?_
        obtain ⟨v_7, S_6, hv, hf⟩ := gbi_some hf
        refine g_V (As := []) (rest := []) cx hw hS (c_X7_closeRound l G st_35 S_5 v_7 S_6 hv) (Nat.lt_of_lt_of_le st_35.lt0 hN) (he_s0 st_35) rfl rfl gw_622 gy_X7_closeRound gi_X7_closeRound ⟨Nat.le_of_ble_eq_true rfl, Nat.le_of_ble_eq_true rfl⟩ ⟨Nat.le_of_ble_eq_true rfl, Nat.le_of_ble_eq_true rfl⟩ rfl hl.1 rfl (Nat.le_of_ble_eq_true rfl) dX10_simulate_70 (fun H locs hw hS => ?_)
        refine W.eq (g2 := F0 m 73 ls [.int v_7]) rfl ?_
        refine lv_pop cx.1 cx.2.1 dX10_simulate_73 rfl ?_
        obtain ⟨x6_8, ex6_8, hf⟩ := gvi_ex hf
        refine lv_iinc (v := x6_8) (lv' := [(6, .int x6_8), (4, .long x4_3), (0, .ref (G.2.1 0)), (3, .int x3)]) cx.1 cx.2.1 dX10_simulate_74 hl (k := 3) rfl (by rw [← ex6_8]; rfl) (by decide) rfl (fun ls hl => ?_)
        refine lv_goto (tgt := 24) cx.1 cx.2.1 dX10_simulate_77 (by decide) ?_
        exact hK24 S_6 x3 x4_3 x6_8 _ _ _ hw hS (lv_sub hl [2, 3, 1, 0] rfl) hf
  have hl : lv_has ls 7 [(0, .ref (G.2.1 0)), (1, .long a1), (3, .int a3)] := hl
  unfold f_X10_simulate at hf
  refine lv_iload_n cx.1 cx.2.1 dX10_simulate_0 rfl (lv_at hl 2 rfl) ?_
  refine lv_iconst (v := (1 : Int32)) cx.1 cx.2.1 dX10_simulate_1 (by decide) ?_
  refine lv_bipush (v := (50 : Int32)) cx.1 cx.2.1 dX10_simulate_2 (by decide) ?_
  rcases gbx_some hf with ⟨j9, v9, S9, hv, hf9⟩ | ⟨v_10, S_9, hv, hf⟩
  · exact gx_thr (gx_rS (As := [.int a3, .int (1 : Int32), .int (50 : Int32)]) (rest := []) cx hX hZ hw hS (c_X10_needRange l hst G a3 (1 : Int32) (50 : Int32) S (j9 + 1) v9 S9 hv) gw_241 gy_X10_needRange gi_X10_needRange ⟨Nat.le_of_ble_eq_true rfl, Nat.le_of_ble_eq_true rfl⟩ ⟨Nat.le_of_ble_eq_true rfl, Nat.le_of_ble_eq_true rfl⟩ rfl hl.1 rfl (Nat.le_of_ble_eq_true rfl) dX10_simulate_4) hS hexn hlk hf9 (Nat.le_of_ble_eq_true rfl) (Nat.le_of_ble_eq_true rfl)
  refine gx_ret (gx_rS (As := [.int a3, .int (1 : Int32), .int (50 : Int32)]) (rest := []) cx hX hZ hw hS (c_X10_needRange l hst G a3 (1 : Int32) (50 : Int32) S 0 v_10 S_9 hv) gw_241 gy_X10_needRange gi_X10_needRange ⟨Nat.le_of_ble_eq_true rfl, Nat.le_of_ble_eq_true rfl⟩ ⟨Nat.le_of_ble_eq_true rfl, Nat.le_of_ble_eq_true rfl⟩ rfl hl.1 rfl (Nat.le_of_ble_eq_true rfl) dX10_simulate_4) hS (fun H locs hw hS => ?_)
  refine W.eq (g2 := F0 m 7 ls []) rfl ?_
  refine lv_aload_n cx.1 cx.2.1 dX10_simulate_7 rfl (lv_at hl 0 rfl) ?_
  refine g_get (C := RX10) (T := TX10) (N := 6) (v := .ref (G.2.1 35)) cx hw inlX10 0 (by omega) he_c0 rfl 2 (by decide) gw_18 rfl rfl dX10_simulate_8 ?_
  refine lv_aload_n cx.1 cx.2.1 dX10_simulate_11 rfl (lv_at hl 0 rfl) ?_
  refine g_get (C := RX10) (T := TX10) (N := 6) (v := .ref (G.2.1 14)) cx hw inlX10 0 (by omega) he_c0 rfl 1 (by decide) gw_17 rfl rfl dX10_simulate_12 ?_
  obtain ⟨S_11, hv, hf⟩ := gbv_some hf
  refine g_V (As := [.ref (G.2.1 14)]) (rest := []) cx hw hS (c_X7_copyFrom l G st_35 st_14 S_9 S_11 hv) (Nat.lt_of_lt_of_le st_35.lt0 hN) (he_s0 st_35) rfl rfl gw_319 gy_X7_copyFrom gi_X7_copyFrom ⟨Nat.le_of_ble_eq_true rfl, Nat.le_of_ble_eq_true rfl⟩ ⟨Nat.le_of_ble_eq_true rfl, Nat.le_of_ble_eq_true rfl⟩ rfl hl.1 rfl (Nat.le_of_ble_eq_true rfl) dX10_simulate_15 (fun H locs hw hS => ?_)
  refine W.eq (g2 := F0 m 18 ls []) rfl ?_
  refine lv_lload_n cx.1 cx.2.1 dX10_simulate_18 rfl (lv_at hl 1 rfl) ?_
  refine lv_lstore (lv' := [(4, .long a1), (0, .ref (G.2.1 0)), (1, .long a1), (3, .int a3)]) cx.1 cx.2.1 dX10_simulate_19 hl (by decide) rfl (fun ls hl => ?_)
  refine lv_iconst (v := (0 : Int32)) cx.1 cx.2.1 dX10_simulate_21 (by decide) ?_
  refine lv_istore (lv' := [(6, .int (0 : Int32)), (4, .long a1), (0, .ref (G.2.1 0)), (1, .long a1), (3, .int a3)]) cx.1 cx.2.1 dX10_simulate_22 hl (by decide) rfl (fun ls hl => ?_)
  exact hL_24 gFu S_11 a3 a1 (0 : Int32) _ _ _ hw hS (lv_sub hl [2, 4, 1, 0] rfl) hf
set_option maxHeartbeats 4000000 in
set_option maxRecDepth 100000 in
theorem c_X10_take (l : Launch) (hst : l.stackTraces = false) (G : gG) (a1 : Int32) (a2 : Int32) (S : Sg) (k : Nat) (r : Int32) (S' : Sg) (hf : f_X10_take a1 a2 S = some (k, r, S')) : Cx l yX10_take [Cond.code yX10_take cX10_take 3 (some .int)] (gRx 8 165 3 18) G [.ref (G.2.1 0), .int a1, .int a2] S k (some (.int r)) S' 3 18 := by
  refine Cx_of (by decide) (Nat.le_of_ble_eq_true rfl) ?_
  intro p e s m below meth c ls cx hX hZ hexn hr hlk hw hS hl
  have hN := cx.2.2.2.2.hN
  have hl : lv_has ls 3 [(0, .ref (G.2.1 0)), (1, .int a1), (2, .int a2)] := hl
  unfold f_X10_take at hf
  refine lv_iload_n cx.1 cx.2.1 dX10_take_0 rfl (lv_at hl 1 rfl) ?_
  rcases gbx_some hf with ⟨j9, v9, S9, hv, hf9⟩ | ⟨v_2, S_1, hv, hf⟩
  · exact gx_thr (gx_rS (As := [.int a1]) (rest := []) cx hX hZ hw hS (c_X10_needCompany l hst G a1 S (j9 + 1) v9 S9 hv) gw_223 gy_X10_needCompany gi_X10_needCompany ⟨Nat.le_of_ble_eq_true rfl, Nat.le_of_ble_eq_true rfl⟩ ⟨Nat.le_of_ble_eq_true rfl, Nat.le_of_ble_eq_true rfl⟩ rfl hl.1 rfl (Nat.le_of_ble_eq_true rfl) dX10_take_1) hS hexn hlk hf9 (Nat.le_of_ble_eq_true rfl) (Nat.le_of_ble_eq_true rfl)
  refine gx_ret (gx_rS (As := [.int a1]) (rest := []) cx hX hZ hw hS (c_X10_needCompany l hst G a1 S 0 v_2 S_1 hv) gw_223 gy_X10_needCompany gi_X10_needCompany ⟨Nat.le_of_ble_eq_true rfl, Nat.le_of_ble_eq_true rfl⟩ ⟨Nat.le_of_ble_eq_true rfl, Nat.le_of_ble_eq_true rfl⟩ rfl hl.1 rfl (Nat.le_of_ble_eq_true rfl) dX10_take_1) hS (fun H locs hw hS => ?_)
  refine W.eq (g2 := F0 m 4 ls []) rfl ?_
  refine lv_aload_n cx.1 cx.2.1 dX10_take_4 rfl (lv_at hl 0 rfl) ?_
  refine lv_iload_n cx.1 cx.2.1 dX10_take_5 rfl (lv_at hl 2 rfl) ?_
  rcases gbx_some hf with ⟨j9, v9, S9, hv, hf9⟩ | ⟨v_4, S_3, hv, hf⟩
  · exact gx_thr (gx_rV (As := [.int a2]) (rest := []) cx hX hZ hw hS (c_X10_needContract l hst G a2 S_1 (j9 + 1) v9 S9 hv) (by omega) he_c0 rfl rfl gw_429 gy_X10_needContract gi_X10_needContract ⟨Nat.le_of_ble_eq_true rfl, Nat.le_of_ble_eq_true rfl⟩ ⟨Nat.le_of_ble_eq_true rfl, Nat.le_of_ble_eq_true rfl⟩ rfl hl.1 rfl (Nat.le_of_ble_eq_true rfl) dX10_take_6) hS hexn hlk hf9 (Nat.le_of_ble_eq_true rfl) (Nat.le_of_ble_eq_true rfl)
  refine gx_ret (gx_rV (As := [.int a2]) (rest := []) cx hX hZ hw hS (c_X10_needContract l hst G a2 S_1 0 v_4 S_3 hv) (by omega) he_c0 rfl rfl gw_429 gy_X10_needContract gi_X10_needContract ⟨Nat.le_of_ble_eq_true rfl, Nat.le_of_ble_eq_true rfl⟩ ⟨Nat.le_of_ble_eq_true rfl, Nat.le_of_ble_eq_true rfl⟩ rfl hl.1 rfl (Nat.le_of_ble_eq_true rfl) dX10_take_6) hS (fun H locs hw hS => ?_)
  refine W.eq (g2 := F0 m 9 ls []) rfl ?_
  refine lv_aload_n cx.1 cx.2.1 dX10_take_9 rfl (lv_at hl 0 rfl) ?_
  refine g_get (C := RX10) (T := TX10) (N := 6) (v := .ref (G.2.1 14)) cx hw inlX10 0 (by omega) he_c0 rfl 1 (by decide) gw_17 rfl rfl dX10_take_10 ?_
  refine g_get (C := RX7) (T := TX7) (N := 9) (v := .ref (G.2.1 (14 + 2))) cx hw inlX7 14 (Nat.lt_of_lt_of_le st_14.lt0 hN) (he_s0 st_14) rfl 1 (by decide) gw_199 rfl rfl dX10_take_13 ?_
  refine lv_iload_n cx.1 cx.2.1 dX10_take_16 rfl (lv_at hl 2 rfl) ?_
  obtain ⟨v_6, S_5, hv, hf⟩ := gbi_some hf
  refine g_V (As := [.int a2]) (rest := []) cx hw hS (c_X1_isFree l G st_14 a2 S_3 v_6 S_5 hv) (Nat.lt_of_lt_of_le (st_14.lt (j := 2) (by omega)) hN) (he_s2 st_14) rfl rfl gw_519 gy_X1_isFree gi_X1_isFree ⟨Nat.le_of_ble_eq_true rfl, Nat.le_of_ble_eq_true rfl⟩ ⟨Nat.le_of_ble_eq_true rfl, Nat.le_of_ble_eq_true rfl⟩ rfl hl.1 rfl (Nat.le_of_ble_eq_true rfl) dX10_take_17 (fun H locs hw hS => ?_)
  refine W.eq (g2 := F0 m 20 ls [.int v_6]) rfl ?_
  rcases gbx_some hf with ⟨j9, v9, S9, hv, hf9⟩ | ⟨v_8, S_7, hv, hf⟩
  · exact gx_thr (gx_rS (As := [.int v_6]) (rest := []) cx hX hZ hw hS (c_X10_needAllowed l hst G v_6 S_5 (j9 + 1) v9 S9 hv) gw_302 gy_X10_needAllowed gi_X10_needAllowed ⟨Nat.le_of_ble_eq_true rfl, Nat.le_of_ble_eq_true rfl⟩ ⟨Nat.le_of_ble_eq_true rfl, Nat.le_of_ble_eq_true rfl⟩ rfl hl.1 rfl (Nat.le_of_ble_eq_true rfl) dX10_take_20) hS hexn hlk hf9 (Nat.le_of_ble_eq_true rfl) (Nat.le_of_ble_eq_true rfl)
  refine gx_ret (gx_rS (As := [.int v_6]) (rest := []) cx hX hZ hw hS (c_X10_needAllowed l hst G v_6 S_5 0 v_8 S_7 hv) gw_302 gy_X10_needAllowed gi_X10_needAllowed ⟨Nat.le_of_ble_eq_true rfl, Nat.le_of_ble_eq_true rfl⟩ ⟨Nat.le_of_ble_eq_true rfl, Nat.le_of_ble_eq_true rfl⟩ rfl hl.1 rfl (Nat.le_of_ble_eq_true rfl) dX10_take_20) hS (fun H locs hw hS => ?_)
  refine W.eq (g2 := F0 m 23 ls []) rfl ?_
  refine lv_aload_n cx.1 cx.2.1 dX10_take_23 rfl (lv_at hl 0 rfl) ?_
  refine g_get (C := RX10) (T := TX10) (N := 6) (v := .ref (G.2.1 3)) cx hw inlX10 0 (by omega) he_c0 rfl 3 (by decide) gw_22 rfl rfl dX10_take_24 ?_
  refine lv_aload_n cx.1 cx.2.1 dX10_take_27 rfl (lv_at hl 0 rfl) ?_
  refine g_get (C := RX10) (T := TX10) (N := 6) (v := .ref (G.2.1 14)) cx hw inlX10 0 (by omega) he_c0 rfl 1 (by decide) gw_17 rfl rfl dX10_take_28 ?_
  obtain ⟨S_9, hv, hf⟩ := gbv_some hf
  refine g_V (As := [.ref (G.2.1 14)]) (rest := []) cx hw hS (c_X3_remember l G st_14 S_7 S_9 hv) (by omega) he_c3 rfl rfl gw_455 gy_X3_remember gi_X3_remember ⟨Nat.le_of_ble_eq_true rfl, Nat.le_of_ble_eq_true rfl⟩ ⟨Nat.le_of_ble_eq_true rfl, Nat.le_of_ble_eq_true rfl⟩ rfl hl.1 rfl (Nat.le_of_ble_eq_true rfl) dX10_take_31 (fun H locs hw hS => ?_)
  refine W.eq (g2 := F0 m 34 ls []) rfl ?_
  refine lv_aload_n cx.1 cx.2.1 dX10_take_34 rfl (lv_at hl 0 rfl) ?_
  refine g_get (C := RX10) (T := TX10) (N := 6) (v := .ref (G.2.1 14)) cx hw inlX10 0 (by omega) he_c0 rfl 1 (by decide) gw_17 rfl rfl dX10_take_35 ?_
  refine g_get (C := RX7) (T := TX7) (N := 9) (v := .ref (G.2.1 (14 + 2))) cx hw inlX7 14 (Nat.lt_of_lt_of_le st_14.lt0 hN) (he_s0 st_14) rfl 1 (by decide) gw_199 rfl rfl dX10_take_38 ?_
  refine lv_iload_n cx.1 cx.2.1 dX10_take_41 rfl (lv_at hl 2 rfl) ?_
  refine lv_iload_n cx.1 cx.2.1 dX10_take_42 rfl (lv_at hl 1 rfl) ?_
  obtain ⟨S_10, hv, hf⟩ := gbv_some hf
  refine g_V (As := [.int a2, .int a1]) (rest := []) cx hw hS (c_X1_give l G st_14 a2 a1 S_9 S_10 hv) (Nat.lt_of_lt_of_le (st_14.lt (j := 2) (by omega)) hN) (he_s2 st_14) rfl rfl gw_528 gy_X1_give gi_X1_give ⟨Nat.le_of_ble_eq_true rfl, Nat.le_of_ble_eq_true rfl⟩ ⟨Nat.le_of_ble_eq_true rfl, Nat.le_of_ble_eq_true rfl⟩ rfl hl.1 rfl (Nat.le_of_ble_eq_true rfl) dX10_take_43 (fun H locs hw hS => ?_)
  refine W.eq (g2 := F0 m 46 ls []) rfl ?_
  refine lv_aload_n cx.1 cx.2.1 dX10_take_46 rfl (lv_at hl 0 rfl) ?_
  refine g_get (C := RX10) (T := TX10) (N := 6) (v := .ref (G.2.1 14)) cx hw inlX10 0 (by omega) he_c0 rfl 1 (by decide) gw_17 rfl rfl dX10_take_47 ?_
  refine g_get (C := RX7) (T := TX7) (N := 9) (v := .ref (G.2.1 (14 + 2))) cx hw inlX7 14 (Nat.lt_of_lt_of_le st_14.lt0 hN) (he_s0 st_14) rfl 1 (by decide) gw_199 rfl rfl dX10_take_50 ?_
  refine lv_iload_n cx.1 cx.2.1 dX10_take_53 rfl (lv_at hl 1 rfl) ?_
  obtain ⟨v_12, S_11, hv, hf⟩ := gbi_some hf
  refine g_V (As := [.int a1]) (rest := []) cx hw hS (c_X1_countOf l G st_14 a1 S_10 v_12 S_11 hv) (Nat.lt_of_lt_of_le (st_14.lt (j := 2) (by omega)) hN) (he_s2 st_14) rfl rfl gw_362 gy_X1_countOf gi_X1_countOf ⟨Nat.le_of_ble_eq_true rfl, Nat.le_of_ble_eq_true rfl⟩ ⟨Nat.le_of_ble_eq_true rfl, Nat.le_of_ble_eq_true rfl⟩ rfl hl.1 rfl (Nat.le_of_ble_eq_true rfl) dX10_take_54 (fun H locs hw hS => ?_)
  refine W.eq (g2 := F0 m 57 ls [.int v_12]) rfl ?_
  exact gx_ireti cx hr hlk hw hS hf dX10_take_57 (Nat.le_of_ble_eq_true rfl) (Nat.le_of_ble_eq_true rfl)
set_option maxHeartbeats 4000000 in
set_option maxRecDepth 100000 in
theorem c_X10_track (l : Launch) (hst : l.stackTraces = false) (G : gG) (a1 : Int32) (a2 : Int32) (S : Sg) (k : Nat) (r : Int32) (S' : Sg) (hf : f_X10_track a1 a2 S = some (k, r, S')) : Cx l yX10_track [Cond.code yX10_track cX10_track 4 (some .int)] (gRx 8 131 2 12) G [.ref (G.2.1 0), .int a1, .int a2] S k (some (.int r)) S' 2 12 := by
  refine Cx_of (by decide) (Nat.le_of_ble_eq_true rfl) ?_
  intro p e s m below meth c ls cx hX hZ hexn hr hlk hw hS hl
  have hN := cx.2.2.2.2.hN
  have hl : lv_has ls 4 [(0, .ref (G.2.1 0)), (1, .int a1), (2, .int a2)] := hl
  unfold f_X10_track at hf
  refine lv_aload_n cx.1 cx.2.1 dX10_track_0 rfl (lv_at hl 0 rfl) ?_
  refine lv_iload_n cx.1 cx.2.1 dX10_track_1 rfl (lv_at hl 1 rfl) ?_
  rcases gbx_some hf with ⟨j9, v9, S9, hv, hf9⟩ | ⟨v_2, S_1, hv, hf⟩
  · exact gx_thr (gx_rV (As := [.int a1]) (rest := []) cx hX hZ hw hS (c_X10_needTrack l hst G a1 S (j9 + 1) v9 S9 hv) (by omega) he_c0 rfl rfl gw_377 gy_X10_needTrack gi_X10_needTrack ⟨Nat.le_of_ble_eq_true rfl, Nat.le_of_ble_eq_true rfl⟩ ⟨Nat.le_of_ble_eq_true rfl, Nat.le_of_ble_eq_true rfl⟩ rfl hl.1 rfl (Nat.le_of_ble_eq_true rfl) dX10_track_2) hS hexn hlk hf9 (Nat.le_of_ble_eq_true rfl) (Nat.le_of_ble_eq_true rfl)
  refine gx_ret (gx_rV (As := [.int a1]) (rest := []) cx hX hZ hw hS (c_X10_needTrack l hst G a1 S 0 v_2 S_1 hv) (by omega) he_c0 rfl rfl gw_377 gy_X10_needTrack gi_X10_needTrack ⟨Nat.le_of_ble_eq_true rfl, Nat.le_of_ble_eq_true rfl⟩ ⟨Nat.le_of_ble_eq_true rfl, Nat.le_of_ble_eq_true rfl⟩ rfl hl.1 rfl (Nat.le_of_ble_eq_true rfl) dX10_track_2) hS (fun H locs hw hS => ?_)
  refine W.eq (g2 := F0 m 5 ls []) rfl ?_
  refine lv_aload_n cx.1 cx.2.1 dX10_track_5 rfl (lv_at hl 0 rfl) ?_
  refine g_get (C := RX10) (T := TX10) (N := 6) (v := .ref (G.2.1 14)) cx hw inlX10 0 (by omega) he_c0 rfl 1 (by decide) gw_17 rfl rfl dX10_track_6 ?_
  refine g_get (C := RX7) (T := TX7) (N := 9) (v := .ref (G.2.1 (14 + 1))) cx hw inlX7 14 (Nat.lt_of_lt_of_le st_14.lt0 hN) (he_s0 st_14) rfl 0 (by decide) gw_31 rfl rfl dX10_track_9 ?_
  refine lv_astore_n (lv' := [(3, .ref (G.2.1 (14 + 1))), (0, .ref (G.2.1 0)), (1, .int a1), (2, .int a2)]) cx.1 cx.2.1 dX10_track_12 rfl hl (by decide) rfl (fun ls hl => ?_)
  refine lv_iload_n cx.1 cx.2.1 dX10_track_13 rfl (lv_at hl 3 rfl) ?_
  by_cases hs_5 : a2 = (0 : Int32)
  · rw [if_pos hs_5] at hf
    refine lv_tableIn (off := 30) (tgt := 44) cx.1 cx.2.1 dX10_track_14 (by rw [hs_5]; decide) (by rw [hs_5]; decide) (by rw [hs_5]; decide) (by decide) ?_
    refine lv_aload_n cx.1 cx.2.1 dX10_track_44 rfl (lv_at hl 0 rfl) ?_
    refine g_get (C := RX8) (T := TX8) (N := 5) (v := .ref (G.2.1 (14 + 4))) cx hw inlX8 (14 + 1) (Nat.lt_of_lt_of_le (st_14.lt (j := 1) (by omega)) hN) (he_s1 st_14) rfl 0 (by decide) gw_373 rfl rfl dX10_track_45 ?_
    refine lv_iload_n cx.1 cx.2.1 dX10_track_48 rfl (lv_at hl 2 rfl) ?_
    obtain ⟨v_4, S_3, hv, hf⟩ := gbi_some hf
    refine g_S (As := [.ref (G.2.1 (14 + 4)), .int a1]) (rest := []) cx hw hS (c_X10_at l G (ia_s4 hN st_14) a1 S_1 v_4 S_3 hv) gw_210 gy_X10_at gi_X10_at ⟨Nat.le_of_ble_eq_true rfl, Nat.le_of_ble_eq_true rfl⟩ ⟨Nat.le_of_ble_eq_true rfl, Nat.le_of_ble_eq_true rfl⟩ rfl hl.1 rfl (Nat.le_of_ble_eq_true rfl) dX10_track_49 (fun H locs hw hS => ?_)
    refine W.eq (g2 := F0 m 52 ls [.int v_4]) rfl ?_
    exact gx_ireti cx hr hlk hw hS hf dX10_track_52 (Nat.le_of_ble_eq_true rfl) (Nat.le_of_ble_eq_true rfl)
  rw [if_neg hs_5] at hf
  by_cases hs_8 : a2 = (1 : Int32)
  · rw [if_pos hs_8] at hf
    refine lv_tableIn (off := 39) (tgt := 53) cx.1 cx.2.1 dX10_track_14 (by rw [hs_8]; decide) (by rw [hs_8]; decide) (by rw [hs_8]; decide) (by decide) ?_
    refine lv_aload_n cx.1 cx.2.1 dX10_track_53 rfl (lv_at hl 0 rfl) ?_
    refine g_get (C := RX8) (T := TX8) (N := 5) (v := .ref (G.2.1 (14 + 5))) cx hw inlX8 (14 + 1) (Nat.lt_of_lt_of_le (st_14.lt (j := 1) (by omega)) hN) (he_s1 st_14) rfl 1 (by decide) gw_374 rfl rfl dX10_track_54 ?_
    refine lv_iload_n cx.1 cx.2.1 dX10_track_57 rfl (lv_at hl 2 rfl) ?_
    obtain ⟨v_7, S_6, hv, hf⟩ := gbi_some hf
    refine g_S (As := [.ref (G.2.1 (14 + 5)), .int a1]) (rest := []) cx hw hS (c_X10_at l G (ia_s5 hN st_14) a1 S_1 v_7 S_6 hv) gw_210 gy_X10_at gi_X10_at ⟨Nat.le_of_ble_eq_true rfl, Nat.le_of_ble_eq_true rfl⟩ ⟨Nat.le_of_ble_eq_true rfl, Nat.le_of_ble_eq_true rfl⟩ rfl hl.1 rfl (Nat.le_of_ble_eq_true rfl) dX10_track_58 (fun H locs hw hS => ?_)
    refine W.eq (g2 := F0 m 61 ls [.int v_7]) rfl ?_
    exact gx_ireti cx hr hlk hw hS hf dX10_track_61 (Nat.le_of_ble_eq_true rfl) (Nat.le_of_ble_eq_true rfl)
  rw [if_neg hs_8] at hf
  by_cases hs_11 : a2 = (2 : Int32)
  · rw [if_pos hs_11] at hf
    refine lv_tableIn (off := 48) (tgt := 62) cx.1 cx.2.1 dX10_track_14 (by rw [hs_11]; decide) (by rw [hs_11]; decide) (by rw [hs_11]; decide) (by decide) ?_
    refine lv_aload_n cx.1 cx.2.1 dX10_track_62 rfl (lv_at hl 0 rfl) ?_
    refine g_get (C := RX8) (T := TX8) (N := 5) (v := .ref (G.2.1 (14 + 6))) cx hw inlX8 (14 + 1) (Nat.lt_of_lt_of_le (st_14.lt (j := 1) (by omega)) hN) (he_s1 st_14) rfl 2 (by decide) gw_375 rfl rfl dX10_track_63 ?_
    refine lv_iload_n cx.1 cx.2.1 dX10_track_66 rfl (lv_at hl 2 rfl) ?_
    obtain ⟨v_10, S_9, hv, hf⟩ := gbi_some hf
    refine g_S (As := [.ref (G.2.1 (14 + 6)), .int a1]) (rest := []) cx hw hS (c_X10_at l G (ia_s6 hN st_14) a1 S_1 v_10 S_9 hv) gw_210 gy_X10_at gi_X10_at ⟨Nat.le_of_ble_eq_true rfl, Nat.le_of_ble_eq_true rfl⟩ ⟨Nat.le_of_ble_eq_true rfl, Nat.le_of_ble_eq_true rfl⟩ rfl hl.1 rfl (Nat.le_of_ble_eq_true rfl) dX10_track_67 (fun H locs hw hS => ?_)
    refine W.eq (g2 := F0 m 70 ls [.int v_10]) rfl ?_
    exact gx_ireti cx hr hlk hw hS hf dX10_track_70 (Nat.le_of_ble_eq_true rfl) (Nat.le_of_ble_eq_true rfl)
  rw [if_neg hs_11] at hf
  by_cases hs_16 : a2 = (3 : Int32)
  · rw [if_pos hs_16] at hf
    refine lv_tableIn (off := 57) (tgt := 71) cx.1 cx.2.1 dX10_track_14 (by rw [hs_16]; decide) (by rw [hs_16]; decide) (by rw [hs_16]; decide) (by decide) ?_
    refine lv_aload_n cx.1 cx.2.1 dX10_track_71 rfl (lv_at hl 0 rfl) ?_
    refine lv_iload_n cx.1 cx.2.1 dX10_track_72 rfl (lv_at hl 2 rfl) ?_
    obtain ⟨v_13, S_12, hv, hf⟩ := gbi_some hf
    refine g_V (As := [.int a1]) (rest := []) cx hw hS (c_X8_isOfBank l G st_14 a1 S_1 v_13 S_12 hv) (Nat.lt_of_lt_of_le (st_14.lt (j := 1) (by omega)) hN) (he_s1 st_14) rfl rfl gw_385 gy_X8_isOfBank gi_X8_isOfBank ⟨Nat.le_of_ble_eq_true rfl, Nat.le_of_ble_eq_true rfl⟩ ⟨Nat.le_of_ble_eq_true rfl, Nat.le_of_ble_eq_true rfl⟩ rfl hl.1 rfl (Nat.le_of_ble_eq_true rfl) dX10_track_73 (fun H locs hw hS => ?_)
    refine W.eq (g2 := F0 m 76 ls [.int v_13]) rfl ?_
    refine lv_if_eq (tgt := 84) cx.1 cx.2.1 dX10_track_76 (by decide) (fun hc => ?_) (fun hc => ?_)
    · rw [if_pos hc] at hf
      refine lv_aload_n cx.1 cx.2.1 dX10_track_84 rfl (lv_at hl 0 rfl) ?_
      refine g_get (C := RX8) (T := TX8) (N := 5) (v := .ref (G.2.1 (14 + 7))) cx hw inlX8 (14 + 1) (Nat.lt_of_lt_of_le (st_14.lt (j := 1) (by omega)) hN) (he_s1 st_14) rfl 3 (by decide) gw_376 rfl rfl dX10_track_85 ?_
      refine lv_iload_n cx.1 cx.2.1 dX10_track_88 rfl (lv_at hl 2 rfl) ?_
      obtain ⟨v_15, S_14, hv, hf⟩ := gbi_some hf
      refine g_S (As := [.ref (G.2.1 (14 + 7)), .int a1]) (rest := []) cx hw hS (c_X10_at l G (ia_s7 hN st_14) a1 S_12 v_15 S_14 hv) gw_210 gy_X10_at gi_X10_at ⟨Nat.le_of_ble_eq_true rfl, Nat.le_of_ble_eq_true rfl⟩ ⟨Nat.le_of_ble_eq_true rfl, Nat.le_of_ble_eq_true rfl⟩ rfl hl.1 rfl (Nat.le_of_ble_eq_true rfl) dX10_track_89 (fun H locs hw hS => ?_)
      refine W.eq (g2 := F0 m 92 ls [.int v_15]) rfl ?_
      exact gx_ireti cx hr hlk hw hS hf dX10_track_92 (Nat.le_of_ble_eq_true rfl) (Nat.le_of_ble_eq_true rfl)
    · rw [if_neg hc] at hf
      refine lv_bipush (v := (-9 : Int32)) cx.1 cx.2.1 dX10_track_79 (by decide) ?_
      refine lv_goto (tgt := 92) cx.1 cx.2.1 dX10_track_81 (by decide) ?_
      exact gx_ireti cx hr hlk hw hS hf dX10_track_92 (Nat.le_of_ble_eq_true rfl) (Nat.le_of_ble_eq_true rfl)
  rw [if_neg hs_16] at hf
  refine lv_tableOut (tgt := 93) cx.1 cx.2.1 dX10_track_14 (by have := sw_nek (k := 0) hs_5 (by decide); have := sw_nek (k := 1) hs_8 (by decide); have := sw_nek (k := 2) hs_11 (by decide); have := sw_nek (k := 3) hs_16 (by decide); omega) (by decide) ?_
  exact gx_throw (k := 1) (text := "no such number") cx hX hZ hw hS hst hexn hlk hl.1 gw_195 gw_196 (by decide +kernel) gEo2 (List.mem_of_getElem? (i := 3) rfl) hf dX10_track_93 dX10_track_96 dX10_track_97 dX10_track_99 dX10_track_102 (Nat.le_of_ble_eq_true rfl) (Nat.le_of_ble_eq_true rfl) (Nat.le_of_ble_eq_true rfl) (Nat.le_of_ble_eq_true rfl) (Nat.le_of_ble_eq_true rfl) (Nat.le_of_ble_eq_true rfl)
set_option maxHeartbeats 4000000 in
set_option maxRecDepth 100000 in
theorem c_X10_train (l : Launch) (hst : l.stackTraces = false) (G : gG) (a1 : Int32) (a2 : Int32) (a3 : Int32) (S : Sg) (k : Nat) (r : Int32) (S' : Sg) (hf : f_X10_train a1 a2 a3 S = some (k, r, S')) : Cx l yX10_train [Cond.code yX10_train cX10_train 4 (some .int)] (gRx 8 132 3 18) G [.ref (G.2.1 0), .int a1, .int a2, .int a3] S k (some (.int r)) S' 3 18 := by
  refine Cx_of (by decide) (Nat.le_of_ble_eq_true rfl) ?_
  intro p e s m below meth c ls cx hX hZ hexn hr hlk hw hS hl
  have hN := cx.2.2.2.2.hN
  have hl : lv_has ls 4 [(0, .ref (G.2.1 0)), (1, .int a1), (2, .int a2), (3, .int a3)] := hl
  unfold f_X10_train at hf
  refine lv_iload_n cx.1 cx.2.1 dX10_train_0 rfl (lv_at hl 1 rfl) ?_
  rcases gbx_some hf with ⟨j9, v9, S9, hv, hf9⟩ | ⟨v_2, S_1, hv, hf⟩
  · exact gx_thr (gx_rS (As := [.int a1]) (rest := []) cx hX hZ hw hS (c_X10_needCompany l hst G a1 S (j9 + 1) v9 S9 hv) gw_223 gy_X10_needCompany gi_X10_needCompany ⟨Nat.le_of_ble_eq_true rfl, Nat.le_of_ble_eq_true rfl⟩ ⟨Nat.le_of_ble_eq_true rfl, Nat.le_of_ble_eq_true rfl⟩ rfl hl.1 rfl (Nat.le_of_ble_eq_true rfl) dX10_train_1) hS hexn hlk hf9 (Nat.le_of_ble_eq_true rfl) (Nat.le_of_ble_eq_true rfl)
  refine gx_ret (gx_rS (As := [.int a1]) (rest := []) cx hX hZ hw hS (c_X10_needCompany l hst G a1 S 0 v_2 S_1 hv) gw_223 gy_X10_needCompany gi_X10_needCompany ⟨Nat.le_of_ble_eq_true rfl, Nat.le_of_ble_eq_true rfl⟩ ⟨Nat.le_of_ble_eq_true rfl, Nat.le_of_ble_eq_true rfl⟩ rfl hl.1 rfl (Nat.le_of_ble_eq_true rfl) dX10_train_1) hS (fun H locs hw hS => ?_)
  refine W.eq (g2 := F0 m 4 ls []) rfl ?_
  refine lv_aload_n cx.1 cx.2.1 dX10_train_4 rfl (lv_at hl 0 rfl) ?_
  refine lv_iload_n cx.1 cx.2.1 dX10_train_5 rfl (lv_at hl 1 rfl) ?_
  refine lv_iload_n cx.1 cx.2.1 dX10_train_6 rfl (lv_at hl 2 rfl) ?_
  rcases gbx_some hf with ⟨j9, v9, S9, hv, hf9⟩ | ⟨v_4, S_3, hv, hf⟩
  · exact gx_thr (gx_rV (As := [.int a1, .int a2]) (rest := []) cx hX hZ hw hS (c_X10_needTrain l hst G a1 a2 S_1 (j9 + 1) v9 S9 hv) (by omega) he_c0 rfl rfl gw_396 gy_X10_needTrain gi_X10_needTrain ⟨Nat.le_of_ble_eq_true rfl, Nat.le_of_ble_eq_true rfl⟩ ⟨Nat.le_of_ble_eq_true rfl, Nat.le_of_ble_eq_true rfl⟩ rfl hl.1 rfl (Nat.le_of_ble_eq_true rfl) dX10_train_7) hS hexn hlk hf9 (Nat.le_of_ble_eq_true rfl) (Nat.le_of_ble_eq_true rfl)
  refine gx_ret (gx_rV (As := [.int a1, .int a2]) (rest := []) cx hX hZ hw hS (c_X10_needTrain l hst G a1 a2 S_1 0 v_4 S_3 hv) (by omega) he_c0 rfl rfl gw_396 gy_X10_needTrain gi_X10_needTrain ⟨Nat.le_of_ble_eq_true rfl, Nat.le_of_ble_eq_true rfl⟩ ⟨Nat.le_of_ble_eq_true rfl, Nat.le_of_ble_eq_true rfl⟩ rfl hl.1 rfl (Nat.le_of_ble_eq_true rfl) dX10_train_7) hS (fun H locs hw hS => ?_)
  refine W.eq (g2 := F0 m 10 ls []) rfl ?_
  refine lv_iload_n cx.1 cx.2.1 dX10_train_10 rfl (lv_at hl 3 rfl) ?_
  by_cases hs_7 : a3 = (0 : Int32)
  · rw [if_pos hs_7] at hf
    refine lv_lookup (off := 25) (tgt := 36) cx.1 cx.2.1 dX10_train_11 (by decide) (by rw [hs_7]; decide) (by decide) ?_
    refine lv_aload_n cx.1 cx.2.1 dX10_train_36 rfl (lv_at hl 0 rfl) ?_
    refine g_get (C := RX10) (T := TX10) (N := 6) (v := .ref (G.2.1 14)) cx hw inlX10 0 (by omega) he_c0 rfl 1 (by decide) gw_17 rfl rfl dX10_train_37 ?_
    refine g_get (C := RX7) (T := TX7) (N := 9) (v := .ref (G.2.1 (14 + 3))) cx hw inlX7 14 (Nat.lt_of_lt_of_le st_14.lt0 hN) (he_s0 st_14) rfl 2 (by decide) gw_203 rfl rfl dX10_train_40 ?_
    refine lv_iload_n cx.1 cx.2.1 dX10_train_43 rfl (lv_at hl 1 rfl) ?_
    refine lv_iload_n cx.1 cx.2.1 dX10_train_44 rfl (lv_at hl 2 rfl) ?_
    obtain ⟨v_6, S_5, hv, hf⟩ := gbi_some hf
    refine g_V (As := [.int a1, .int a2]) (rest := []) cx hw hS (c_X0_levelOf l G st_14 a1 a2 S_3 v_6 S_5 hv) (Nat.lt_of_lt_of_le (st_14.lt (j := 3) (by omega)) hN) (he_s3 st_14) rfl rfl gw_404 gy_X0_levelOf gi_X0_levelOf ⟨Nat.le_of_ble_eq_true rfl, Nat.le_of_ble_eq_true rfl⟩ ⟨Nat.le_of_ble_eq_true rfl, Nat.le_of_ble_eq_true rfl⟩ rfl hl.1 rfl (Nat.le_of_ble_eq_true rfl) dX10_train_45 (fun H locs hw hS => ?_)
    refine W.eq (g2 := F0 m 48 ls [.int v_6]) rfl ?_
    exact gx_ireti cx hr hlk hw hS hf dX10_train_48 (Nat.le_of_ble_eq_true rfl) (Nat.le_of_ble_eq_true rfl)
  rw [if_neg hs_7] at hf
  by_cases hs_10 : a3 = (1 : Int32)
  · rw [if_pos hs_10] at hf
    refine lv_lookup (off := 38) (tgt := 49) cx.1 cx.2.1 dX10_train_11 (by decide) (by rw [hs_10]; decide) (by decide) ?_
    refine lv_aload_n cx.1 cx.2.1 dX10_train_49 rfl (lv_at hl 0 rfl) ?_
    refine g_get (C := RX10) (T := TX10) (N := 6) (v := .ref (G.2.1 14)) cx hw inlX10 0 (by omega) he_c0 rfl 1 (by decide) gw_17 rfl rfl dX10_train_50 ?_
    refine g_get (C := RX7) (T := TX7) (N := 9) (v := .ref (G.2.1 (14 + 3))) cx hw inlX7 14 (Nat.lt_of_lt_of_le st_14.lt0 hN) (he_s0 st_14) rfl 2 (by decide) gw_203 rfl rfl dX10_train_53 ?_
    refine lv_iload_n cx.1 cx.2.1 dX10_train_56 rfl (lv_at hl 1 rfl) ?_
    refine lv_iload_n cx.1 cx.2.1 dX10_train_57 rfl (lv_at hl 2 rfl) ?_
    obtain ⟨v_9, S_8, hv, hf⟩ := gbi_some hf
    refine g_V (As := [.int a1, .int a2]) (rest := []) cx hw hS (c_X0_hasRun l G st_14 a1 a2 S_3 v_9 S_8 hv) (Nat.lt_of_lt_of_le (st_14.lt (j := 3) (by omega)) hN) (he_s3 st_14) rfl rfl gw_412 gy_X0_hasRun gi_X0_hasRun ⟨Nat.le_of_ble_eq_true rfl, Nat.le_of_ble_eq_true rfl⟩ ⟨Nat.le_of_ble_eq_true rfl, Nat.le_of_ble_eq_true rfl⟩ rfl hl.1 rfl (Nat.le_of_ble_eq_true rfl) dX10_train_58 (fun H locs hw hS => ?_)
    refine W.eq (g2 := F0 m 61 ls [.int v_9]) rfl ?_
    refine lv_if_eq (tgt := 68) cx.1 cx.2.1 dX10_train_61 (by decide) (fun hc => ?_) (fun hc => ?_)
    · rw [if_pos hc] at hf
      refine lv_iconst (v := (0 : Int32)) cx.1 cx.2.1 dX10_train_68 (by decide) ?_
      exact gx_ireti cx hr hlk hw hS hf dX10_train_69 (Nat.le_of_ble_eq_true rfl) (Nat.le_of_ble_eq_true rfl)
    · rw [if_neg hc] at hf
      refine lv_iconst (v := (1 : Int32)) cx.1 cx.2.1 dX10_train_64 (by decide) ?_
      refine lv_goto (tgt := 69) cx.1 cx.2.1 dX10_train_65 (by decide) ?_
      exact gx_ireti cx hr hlk hw hS hf dX10_train_69 (Nat.le_of_ble_eq_true rfl) (Nat.le_of_ble_eq_true rfl)
  rw [if_neg hs_10] at hf
  refine lv_lookup (off := 59) (tgt := 70) cx.1 cx.2.1 dX10_train_11 (by decide) (sw_dflt2 hs_7 hs_10) (by decide) ?_
  exact gx_throw (k := 1) (text := "no such number") cx hX hZ hw hS hst hexn hlk hl.1 gw_195 gw_196 (by decide +kernel) gEo2 (List.mem_of_getElem? (i := 3) rfl) hf dX10_train_70 dX10_train_73 dX10_train_74 dX10_train_76 dX10_train_79 (Nat.le_of_ble_eq_true rfl) (Nat.le_of_ble_eq_true rfl) (Nat.le_of_ble_eq_true rfl) (Nat.le_of_ble_eq_true rfl) (Nat.le_of_ble_eq_true rfl) (Nat.le_of_ble_eq_true rfl)
set_option maxHeartbeats 4000000 in
set_option maxRecDepth 100000 in
theorem c_X10_undo (l : Launch) (hst : l.stackTraces = false) (G : gG) (S : Sg) (k : Nat) (r : Int32) (S' : Sg) (hf : f_X10_undo S = some (k, r, S')) : Cx l yX10_undo [Cond.code yX10_undo cX10_undo 1 (some .int)] (gRx 7 165 1 6) G [.ref (G.2.1 0)] S k (some (.int r)) S' 1 6 := by
  refine Cx_of (by decide) (Nat.le_of_ble_eq_true rfl) ?_
  intro p e s m below meth c ls cx hX hZ hexn hr hlk hw hS hl
  have hN := cx.2.2.2.2.hN
  have hB_15 : ∀ (S : Sg) (t0 : Int32) (H : Heap) (locs : List Loc) (ls : Array Slot), gP G S H → va_S (gA G s.heap.size) s.heap H locs → lv_has ls 1 [(0, .ref (G.2.1 0))] → B_X10_undo_15 S t0 = some (k, r, S') → W p l e (gRx 7 165 1 6) s m ([.ref (G.2.1 0)] : List Value).toArray below meth c H locs 0 0 (vx_MQ below (gQx G S' k (some (.int r)) (gA G s.heap.size)) (gXx G S' k (gA G s.heap.size)) ([.ref (G.2.1 0)] : List Value).toArray s 1 6 (gA G s.heap.size)) (F0 m 15 ls [.int t0]) := by
    intro S t0 H locs ls hw hS hl hf
    unfold B_X10_undo_15 at hf
    rcases gbx_some hf with ⟨j9, v9, S9, hv, hf9⟩ | ⟨v_2, S_1, hv, hf⟩
    · exact gx_thr (gx_rS (As := [.int t0]) (rest := []) cx hX hZ hw hS (c_X10_needAllowed l hst G t0 S (j9 + 1) v9 S9 hv) gw_302 gy_X10_needAllowed gi_X10_needAllowed ⟨Nat.le_of_ble_eq_true rfl, Nat.le_of_ble_eq_true rfl⟩ ⟨Nat.le_of_ble_eq_true rfl, Nat.le_of_ble_eq_true rfl⟩ rfl hl.1 rfl (Nat.le_of_ble_eq_true rfl) dX10_undo_15) hS hexn hlk hf9 (Nat.le_of_ble_eq_true rfl) (Nat.le_of_ble_eq_true rfl)
    refine gx_ret (gx_rS (As := [.int t0]) (rest := []) cx hX hZ hw hS (c_X10_needAllowed l hst G t0 S 0 v_2 S_1 hv) gw_302 gy_X10_needAllowed gi_X10_needAllowed ⟨Nat.le_of_ble_eq_true rfl, Nat.le_of_ble_eq_true rfl⟩ ⟨Nat.le_of_ble_eq_true rfl, Nat.le_of_ble_eq_true rfl⟩ rfl hl.1 rfl (Nat.le_of_ble_eq_true rfl) dX10_undo_15) hS (fun H locs hw hS => ?_)
    refine W.eq (g2 := F0 m 18 ls []) rfl ?_
    refine lv_aload_n cx.1 cx.2.1 dX10_undo_18 rfl (lv_at hl 0 rfl) ?_
    refine g_get (C := RX10) (T := TX10) (N := 6) (v := .ref (G.2.1 3)) cx hw inlX10 0 (by omega) he_c0 rfl 3 (by decide) gw_22 rfl rfl dX10_undo_19 ?_
    refine lv_aload_n cx.1 cx.2.1 dX10_undo_22 rfl (lv_at hl 0 rfl) ?_
    refine g_get (C := RX10) (T := TX10) (N := 6) (v := .ref (G.2.1 14)) cx hw inlX10 0 (by omega) he_c0 rfl 1 (by decide) gw_17 rfl rfl dX10_undo_23 ?_
    obtain ⟨S_3, hv, hf⟩ := gbv_some hf
    refine g_V (As := [.ref (G.2.1 14)]) (rest := []) cx hw hS (c_X3_takeBackInto l G st_14 S_1 S_3 hv) (by omega) he_c3 rfl rfl gw_307 gy_X3_takeBackInto gi_X3_takeBackInto ⟨Nat.le_of_ble_eq_true rfl, Nat.le_of_ble_eq_true rfl⟩ ⟨Nat.le_of_ble_eq_true rfl, Nat.le_of_ble_eq_true rfl⟩ rfl hl.1 rfl (Nat.le_of_ble_eq_true rfl) dX10_undo_26 (fun H locs hw hS => ?_)
    refine W.eq (g2 := F0 m 29 ls []) rfl ?_
    refine lv_aload_n cx.1 cx.2.1 dX10_undo_29 rfl (lv_at hl 0 rfl) ?_
    refine g_get (C := RX10) (T := TX10) (N := 6) (v := .ref (G.2.1 3)) cx hw inlX10 0 (by omega) he_c0 rfl 3 (by decide) gw_22 rfl rfl dX10_undo_30 ?_
    refine g_getN (host := "RustRails") (C := RX3) (T := TX3) (N := 3) (v := .int (S_3 3 2)) cx hw inlX3 3 (by omega) he_c3 rfl 2 (by decide) gnf_0 rfl rfl dX10_undo_33 ?_
    exact gx_ireti cx hr hlk hw hS hf dX10_undo_36 (Nat.le_of_ble_eq_true rfl) (Nat.le_of_ble_eq_true rfl)
  have hl : lv_has ls 1 [(0, .ref (G.2.1 0))] := hl
  unfold f_X10_undo at hf
  refine lv_aload_n cx.1 cx.2.1 dX10_undo_0 rfl (lv_at hl 0 rfl) ?_
  refine g_get (C := RX10) (T := TX10) (N := 6) (v := .ref (G.2.1 3)) cx hw inlX10 0 (by omega) he_c0 rfl 3 (by decide) gw_22 rfl rfl dX10_undo_1 ?_
  refine g_getN (host := "RustRails") (C := RX3) (T := TX3) (N := 3) (v := .int (S 3 2)) cx hw inlX3 3 (by omega) he_c3 rfl 2 (by decide) gnf_0 rfl rfl dX10_undo_4 ?_
  refine lv_if_le (tgt := 14) cx.1 cx.2.1 dX10_undo_7 (by decide) (fun hc => ?_) (fun hc => ?_)
  · rw [if_pos hc] at hf
    refine lv_iconst (v := (0 : Int32)) cx.1 cx.2.1 dX10_undo_14 (by decide) ?_
    exact hB_15 S (0 : Int32) _ _ _ hw hS (lv_sub hl [0] rfl) hf
  · rw [if_neg hc] at hf
    refine lv_iconst (v := (1 : Int32)) cx.1 cx.2.1 dX10_undo_10 (by decide) ?_
    refine lv_goto (tgt := 15) cx.1 cx.2.1 dX10_undo_11 (by decide) ?_
    exact hB_15 S (1 : Int32) _ _ _ hw hS (lv_sub hl [0] rfl) hf
set_option maxHeartbeats 4000000 in
set_option maxRecDepth 100000 in
theorem c_X10_way (l : Launch) (hst : l.stackTraces = false) (G : gG) (a1 : Int32) (a2 : Int32) (a3 : Int32) (a4 : Int32) (a5 : Int32) (S : Sg) (k : Nat) (r : Int32) (S' : Sg) (hf : f_X10_way a1 a2 a3 a4 a5 S = some (k, r, S')) : Cx l yX10_way [Cond.code yX10_way cX10_way 7 (some .int)] (gRx 8 131 6 36) G [.ref (G.2.1 0), .int a1, .int a2, .int a3, .int a4, .int a5] S k (some (.int r)) S' 6 36 := by
  refine Cx_of (by decide) (Nat.le_of_ble_eq_true rfl) ?_
  intro p e s m below meth c ls cx hX hZ hexn hr hlk hw hS hl
  have hN := cx.2.2.2.2.hN
  have hl : lv_has ls 7 [(0, .ref (G.2.1 0)), (1, .int a1), (2, .int a2), (3, .int a3), (4, .int a4), (5, .int a5)] := hl
  unfold f_X10_way at hf
  refine lv_iload_n cx.1 cx.2.1 dX10_way_0 rfl (lv_at hl 1 rfl) ?_
  rcases gbx_some hf with ⟨j9, v9, S9, hv, hf9⟩ | ⟨v_2, S_1, hv, hf⟩
  · exact gx_thr (gx_rS (As := [.int a1]) (rest := []) cx hX hZ hw hS (c_X10_needCompany l hst G a1 S (j9 + 1) v9 S9 hv) gw_223 gy_X10_needCompany gi_X10_needCompany ⟨Nat.le_of_ble_eq_true rfl, Nat.le_of_ble_eq_true rfl⟩ ⟨Nat.le_of_ble_eq_true rfl, Nat.le_of_ble_eq_true rfl⟩ rfl hl.1 rfl (Nat.le_of_ble_eq_true rfl) dX10_way_1) hS hexn hlk hf9 (Nat.le_of_ble_eq_true rfl) (Nat.le_of_ble_eq_true rfl)
  refine gx_ret (gx_rS (As := [.int a1]) (rest := []) cx hX hZ hw hS (c_X10_needCompany l hst G a1 S 0 v_2 S_1 hv) gw_223 gy_X10_needCompany gi_X10_needCompany ⟨Nat.le_of_ble_eq_true rfl, Nat.le_of_ble_eq_true rfl⟩ ⟨Nat.le_of_ble_eq_true rfl, Nat.le_of_ble_eq_true rfl⟩ rfl hl.1 rfl (Nat.le_of_ble_eq_true rfl) dX10_way_1) hS (fun H locs hw hS => ?_)
  refine W.eq (g2 := F0 m 4 ls []) rfl ?_
  refine lv_aload_n cx.1 cx.2.1 dX10_way_4 rfl (lv_at hl 0 rfl) ?_
  refine lv_iload_n cx.1 cx.2.1 dX10_way_5 rfl (lv_at hl 2 rfl) ?_
  rcases gbx_some hf with ⟨j9, v9, S9, hv, hf9⟩ | ⟨v_4, S_3, hv, hf⟩
  · exact gx_thr (gx_rV (As := [.int a2]) (rest := []) cx hX hZ hw hS (c_X10_needCity l hst G a2 S_1 (j9 + 1) v9 S9 hv) (by omega) he_c0 rfl rfl gw_234 gy_X10_needCity gi_X10_needCity ⟨Nat.le_of_ble_eq_true rfl, Nat.le_of_ble_eq_true rfl⟩ ⟨Nat.le_of_ble_eq_true rfl, Nat.le_of_ble_eq_true rfl⟩ rfl hl.1 rfl (Nat.le_of_ble_eq_true rfl) dX10_way_6) hS hexn hlk hf9 (Nat.le_of_ble_eq_true rfl) (Nat.le_of_ble_eq_true rfl)
  refine gx_ret (gx_rV (As := [.int a2]) (rest := []) cx hX hZ hw hS (c_X10_needCity l hst G a2 S_1 0 v_4 S_3 hv) (by omega) he_c0 rfl rfl gw_234 gy_X10_needCity gi_X10_needCity ⟨Nat.le_of_ble_eq_true rfl, Nat.le_of_ble_eq_true rfl⟩ ⟨Nat.le_of_ble_eq_true rfl, Nat.le_of_ble_eq_true rfl⟩ rfl hl.1 rfl (Nat.le_of_ble_eq_true rfl) dX10_way_6) hS (fun H locs hw hS => ?_)
  refine W.eq (g2 := F0 m 9 ls []) rfl ?_
  refine lv_aload_n cx.1 cx.2.1 dX10_way_9 rfl (lv_at hl 0 rfl) ?_
  refine lv_iload_n cx.1 cx.2.1 dX10_way_10 rfl (lv_at hl 3 rfl) ?_
  rcases gbx_some hf with ⟨j9, v9, S9, hv, hf9⟩ | ⟨v_6, S_5, hv, hf⟩
  · exact gx_thr (gx_rV (As := [.int a3]) (rest := []) cx hX hZ hw hS (c_X10_needCity l hst G a3 S_3 (j9 + 1) v9 S9 hv) (by omega) he_c0 rfl rfl gw_234 gy_X10_needCity gi_X10_needCity ⟨Nat.le_of_ble_eq_true rfl, Nat.le_of_ble_eq_true rfl⟩ ⟨Nat.le_of_ble_eq_true rfl, Nat.le_of_ble_eq_true rfl⟩ rfl hl.1 rfl (Nat.le_of_ble_eq_true rfl) dX10_way_11) hS hexn hlk hf9 (Nat.le_of_ble_eq_true rfl) (Nat.le_of_ble_eq_true rfl)
  refine gx_ret (gx_rV (As := [.int a3]) (rest := []) cx hX hZ hw hS (c_X10_needCity l hst G a3 S_3 0 v_6 S_5 hv) (by omega) he_c0 rfl rfl gw_234 gy_X10_needCity gi_X10_needCity ⟨Nat.le_of_ble_eq_true rfl, Nat.le_of_ble_eq_true rfl⟩ ⟨Nat.le_of_ble_eq_true rfl, Nat.le_of_ble_eq_true rfl⟩ rfl hl.1 rfl (Nat.le_of_ble_eq_true rfl) dX10_way_11) hS (fun H locs hw hS => ?_)
  refine W.eq (g2 := F0 m 14 ls []) rfl ?_
  refine lv_iload_n cx.1 cx.2.1 dX10_way_14 rfl (lv_at hl 2 rfl) ?_
  refine lv_iload_n cx.1 cx.2.1 dX10_way_15 rfl (lv_at hl 3 rfl) ?_
  rcases gbx_some hf with ⟨j9, v9, S9, hv, hf9⟩ | ⟨v_8, S_7, hv, hf⟩
  · exact gx_thr (gx_rS (As := [.int a2, .int a3]) (rest := []) cx hX hZ hw hS (c_X10_needDifferent l hst G a2 a3 S_5 (j9 + 1) v9 S9 hv) gw_238 gy_X10_needDifferent gi_X10_needDifferent ⟨Nat.le_of_ble_eq_true rfl, Nat.le_of_ble_eq_true rfl⟩ ⟨Nat.le_of_ble_eq_true rfl, Nat.le_of_ble_eq_true rfl⟩ rfl hl.1 rfl (Nat.le_of_ble_eq_true rfl) dX10_way_16) hS hexn hlk hf9 (Nat.le_of_ble_eq_true rfl) (Nat.le_of_ble_eq_true rfl)
  refine gx_ret (gx_rS (As := [.int a2, .int a3]) (rest := []) cx hX hZ hw hS (c_X10_needDifferent l hst G a2 a3 S_5 0 v_8 S_7 hv) gw_238 gy_X10_needDifferent gi_X10_needDifferent ⟨Nat.le_of_ble_eq_true rfl, Nat.le_of_ble_eq_true rfl⟩ ⟨Nat.le_of_ble_eq_true rfl, Nat.le_of_ble_eq_true rfl⟩ rfl hl.1 rfl (Nat.le_of_ble_eq_true rfl) dX10_way_16) hS (fun H locs hw hS => ?_)
  refine W.eq (g2 := F0 m 19 ls []) rfl ?_
  refine lv_iload cx.1 cx.2.1 dX10_way_19 (lv_at hl 4 rfl) ?_
  refine lv_iconst (v := (1 : Int32)) cx.1 cx.2.1 dX10_way_21 (by decide) ?_
  refine lv_bipush (v := (24 : Int32)) cx.1 cx.2.1 dX10_way_22 (by decide) ?_
  rcases gbx_some hf with ⟨j9, v9, S9, hv, hf9⟩ | ⟨v_10, S_9, hv, hf⟩
  · exact gx_thr (gx_rS (As := [.int a4, .int (1 : Int32), .int (24 : Int32)]) (rest := []) cx hX hZ hw hS (c_X10_needRange l hst G a4 (1 : Int32) (24 : Int32) S_7 (j9 + 1) v9 S9 hv) gw_241 gy_X10_needRange gi_X10_needRange ⟨Nat.le_of_ble_eq_true rfl, Nat.le_of_ble_eq_true rfl⟩ ⟨Nat.le_of_ble_eq_true rfl, Nat.le_of_ble_eq_true rfl⟩ rfl hl.1 rfl (Nat.le_of_ble_eq_true rfl) dX10_way_24) hS hexn hlk hf9 (Nat.le_of_ble_eq_true rfl) (Nat.le_of_ble_eq_true rfl)
  refine gx_ret (gx_rS (As := [.int a4, .int (1 : Int32), .int (24 : Int32)]) (rest := []) cx hX hZ hw hS (c_X10_needRange l hst G a4 (1 : Int32) (24 : Int32) S_7 0 v_10 S_9 hv) gw_241 gy_X10_needRange gi_X10_needRange ⟨Nat.le_of_ble_eq_true rfl, Nat.le_of_ble_eq_true rfl⟩ ⟨Nat.le_of_ble_eq_true rfl, Nat.le_of_ble_eq_true rfl⟩ rfl hl.1 rfl (Nat.le_of_ble_eq_true rfl) dX10_way_24) hS (fun H locs hw hS => ?_)
  refine W.eq (g2 := F0 m 27 ls []) rfl ?_
  refine lv_iload cx.1 cx.2.1 dX10_way_27 (lv_at hl 5 rfl) ?_
  refine lv_iconst (v := (0 : Int32)) cx.1 cx.2.1 dX10_way_29 (by decide) ?_
  refine lv_iconst (v := (3 : Int32)) cx.1 cx.2.1 dX10_way_30 (by decide) ?_
  rcases gbx_some hf with ⟨j9, v9, S9, hv, hf9⟩ | ⟨v_12, S_11, hv, hf⟩
  · exact gx_thr (gx_rS (As := [.int a5, .int (0 : Int32), .int (3 : Int32)]) (rest := []) cx hX hZ hw hS (c_X10_needRange l hst G a5 (0 : Int32) (3 : Int32) S_9 (j9 + 1) v9 S9 hv) gw_241 gy_X10_needRange gi_X10_needRange ⟨Nat.le_of_ble_eq_true rfl, Nat.le_of_ble_eq_true rfl⟩ ⟨Nat.le_of_ble_eq_true rfl, Nat.le_of_ble_eq_true rfl⟩ rfl hl.1 rfl (Nat.le_of_ble_eq_true rfl) dX10_way_31) hS hexn hlk hf9 (Nat.le_of_ble_eq_true rfl) (Nat.le_of_ble_eq_true rfl)
  refine gx_ret (gx_rS (As := [.int a5, .int (0 : Int32), .int (3 : Int32)]) (rest := []) cx hX hZ hw hS (c_X10_needRange l hst G a5 (0 : Int32) (3 : Int32) S_9 0 v_12 S_11 hv) gw_241 gy_X10_needRange gi_X10_needRange ⟨Nat.le_of_ble_eq_true rfl, Nat.le_of_ble_eq_true rfl⟩ ⟨Nat.le_of_ble_eq_true rfl, Nat.le_of_ble_eq_true rfl⟩ rfl hl.1 rfl (Nat.le_of_ble_eq_true rfl) dX10_way_31) hS (fun H locs hw hS => ?_)
  refine W.eq (g2 := F0 m 34 ls []) rfl ?_
  refine lv_aload_n cx.1 cx.2.1 dX10_way_34 rfl (lv_at hl 0 rfl) ?_
  refine g_get (C := RX10) (T := TX10) (N := 6) (v := .ref (G.2.1 8)) cx hw inlX10 0 (by omega) he_c0 rfl 5 (by decide) gw_30 rfl rfl dX10_way_35 ?_
  refine g_getN (host := "RustRails") (C := RX4) (T := TX4) (N := 1) (v := .ref (G.2.1 9)) cx hw inlX4 8 (by omega) he_c8 rfl 0 (by decide) gnf_9 rfl rfl dX10_way_38 ?_
  refine lv_astore (lv' := [(6, .ref (G.2.1 9)), (0, .ref (G.2.1 0)), (1, .int a1), (2, .int a2), (3, .int a3), (4, .int a4), (5, .int a5)]) cx.1 cx.2.1 dX10_way_41 hl (by decide) rfl (fun ls hl => ?_)
  refine lv_aload cx.1 cx.2.1 dX10_way_43 (lv_at hl 0 rfl) ?_
  refine lv_aload_n cx.1 cx.2.1 dX10_way_45 rfl (lv_at hl 1 rfl) ?_
  refine g_get (C := RX10) (T := TX10) (N := 6) (v := .ref (G.2.1 14)) cx hw inlX10 0 (by omega) he_c0 rfl 1 (by decide) gw_17 rfl rfl dX10_way_46 ?_
  refine lv_iload_n cx.1 cx.2.1 dX10_way_49 rfl (lv_at hl 2 rfl) ?_
  refine lv_iload_n cx.1 cx.2.1 dX10_way_50 rfl (lv_at hl 3 rfl) ?_
  refine lv_iload_n cx.1 cx.2.1 dX10_way_51 rfl (lv_at hl 4 rfl) ?_
  refine lv_iload cx.1 cx.2.1 dX10_way_52 (lv_at hl 5 rfl) ?_
  obtain ⟨v_14, S_13, hv, hf⟩ := gbi_some hf
  refine g_V (As := [.ref (G.2.1 14), .int a1, .int a2, .int a3, .int a4]) (rest := []) cx hw hS (c_X9_find l G st_14 a1 a2 a3 a4 S_11 v_14 S_13 hv) (by omega) he_c9 rfl rfl gw_244 gy_X9_find gi_X9_find ⟨Nat.le_of_ble_eq_true rfl, Nat.le_of_ble_eq_true rfl⟩ ⟨Nat.le_of_ble_eq_true rfl, Nat.le_of_ble_eq_true rfl⟩ rfl hl.1 rfl (Nat.le_of_ble_eq_true rfl) dX10_way_54 (fun H locs hw hS => ?_)
  refine W.eq (g2 := F0 m 57 ls [.int v_14]) rfl ?_
  refine lv_if_ne (tgt := 63) cx.1 cx.2.1 dX10_way_57 (by decide) (fun hc => ?_) (fun hc => ?_)
  · rw [if_neg hc] at hf
    refine lv_iload cx.1 cx.2.1 dX10_way_63 (lv_at hl 6 rfl) ?_
    by_cases hs_15 : a5 = (0 : Int32)
    · rw [if_pos hs_15] at hf
      refine lv_tableIn (off := 27) (tgt := 92) cx.1 cx.2.1 dX10_way_65 (by rw [hs_15]; decide) (by rw [hs_15]; decide) (by rw [hs_15]; decide) (by decide) ?_
      refine lv_aload cx.1 cx.2.1 dX10_way_92 (lv_at hl 0 rfl) ?_
      refine g_getN (host := "RustRails") (C := RX9) (T := TX9) (N := 7) (v := .int (S_13 9 5)) cx hw inlX9 9 (by omega) he_c9 rfl 5 (by decide) gnf_7 rfl rfl dX10_way_94 ?_
      exact gx_ireti cx hr hlk hw hS hf dX10_way_97 (Nat.le_of_ble_eq_true rfl) (Nat.le_of_ble_eq_true rfl)
    rw [if_neg hs_15] at hf
    by_cases hs_16 : a5 = (1 : Int32)
    · rw [if_pos hs_16] at hf
      refine lv_tableIn (off := 33) (tgt := 98) cx.1 cx.2.1 dX10_way_65 (by rw [hs_16]; decide) (by rw [hs_16]; decide) (by rw [hs_16]; decide) (by decide) ?_
      refine lv_aload cx.1 cx.2.1 dX10_way_98 (lv_at hl 0 rfl) ?_
      refine g_getN (host := "RustRails") (C := RX9) (T := TX9) (N := 7) (v := .int (S_13 9 6)) cx hw inlX9 9 (by omega) he_c9 rfl 6 (by decide) gnf_8 rfl rfl dX10_way_100 ?_
      exact gx_ireti cx hr hlk hw hS hf dX10_way_103 (Nat.le_of_ble_eq_true rfl) (Nat.le_of_ble_eq_true rfl)
    rw [if_neg hs_16] at hf
    by_cases hs_17 : a5 = (2 : Int32)
    · rw [if_pos hs_17] at hf
      refine lv_tableIn (off := 39) (tgt := 104) cx.1 cx.2.1 dX10_way_65 (by rw [hs_17]; decide) (by rw [hs_17]; decide) (by rw [hs_17]; decide) (by decide) ?_
      refine lv_aload cx.1 cx.2.1 dX10_way_104 (lv_at hl 0 rfl) ?_
      refine g_getN (host := "RustRails") (C := RX9) (T := TX9) (N := 7) (v := .int (S_13 9 4)) cx hw inlX9 9 (by omega) he_c9 rfl 4 (by decide) gnf_5 rfl rfl dX10_way_106 ?_
      exact gx_ireti cx hr hlk hw hS hf dX10_way_109 (Nat.le_of_ble_eq_true rfl) (Nat.le_of_ble_eq_true rfl)
    rw [if_neg hs_17] at hf
    refine lv_tableOut (tgt := 110) cx.1 cx.2.1 dX10_way_65 (by have := sw_nek (k := 0) hs_15 (by decide); have := sw_nek (k := 1) hs_16 (by decide); have := sw_nek (k := 2) hs_17 (by decide); omega) (by decide) ?_
    refine lv_aload cx.1 cx.2.1 dX10_way_110 (lv_at hl 0 rfl) ?_
    refine g_getN (host := "RustRails") (C := RX9) (T := TX9) (N := 7) (v := .ref (G.2.1 13)) cx hw inlX9 9 (by omega) he_c9 rfl 3 (by decide) gnf_3 rfl rfl dX10_way_112 ?_
    refine lv_iconst (v := (0 : Int32)) cx.1 cx.2.1 dX10_way_115 (by decide) ?_
    obtain ⟨v_19, S_18, hv, hf⟩ := gbi_some hf
    refine g_S (As := [.ref (G.2.1 13), .int (0 : Int32)]) (rest := []) cx hw hS (c_X10_at l G (ia_c13 hN) (0 : Int32) S_13 v_19 S_18 hv) gw_210 gy_X10_at gi_X10_at ⟨Nat.le_of_ble_eq_true rfl, Nat.le_of_ble_eq_true rfl⟩ ⟨Nat.le_of_ble_eq_true rfl, Nat.le_of_ble_eq_true rfl⟩ rfl hl.1 rfl (Nat.le_of_ble_eq_true rfl) dX10_way_116 (fun H locs hw hS => ?_)
    refine W.eq (g2 := F0 m 119 ls [.int v_19]) rfl ?_
    exact gx_ireti cx hr hlk hw hS hf dX10_way_119 (Nat.le_of_ble_eq_true rfl) (Nat.le_of_ble_eq_true rfl)
  · rw [if_pos hc] at hf
    refine lv_bipush (v := (-9 : Int32)) cx.1 cx.2.1 dX10_way_60 (by decide) ?_
    exact gx_ireti cx hr hlk hw hS hf dX10_way_62 (Nat.le_of_ble_eq_true rfl) (Nat.le_of_ble_eq_true rfl)
set_option maxHeartbeats 4000000 in
set_option maxRecDepth 100000 in
theorem c_X10_whyNot (l : Launch) (hst : l.stackTraces = false) (G : gG) (a1 : Int32) (a2 : Int32) (S : Sg) (k : Nat) (r : Int32) (S' : Sg) (hf : f_X10_whyNot a1 a2 S = some (k, r, S')) : Cx l yX10_whyNot [Cond.code yX10_whyNot cX10_whyNot 3 (some .int)] (gRx 9 154 2 12) G [.ref (G.2.1 0), .int a1, .int a2] S k (some (.int r)) S' 2 12 := by
  refine Cx_of (by decide) (Nat.le_of_ble_eq_true rfl) ?_
  intro p e s m below meth c ls cx hX hZ hexn hr hlk hw hS hl
  have hN := cx.2.2.2.2.hN
  have hl : lv_has ls 3 [(0, .ref (G.2.1 0)), (1, .int a1), (2, .int a2)] := hl
  unfold f_X10_whyNot at hf
  refine lv_aload_n cx.1 cx.2.1 dX10_whyNot_0 rfl (lv_at hl 0 rfl) ?_
  refine lv_iload_n cx.1 cx.2.1 dX10_whyNot_1 rfl (lv_at hl 1 rfl) ?_
  rcases gbx_some hf with ⟨j9, v9, S9, hv, hf9⟩ | ⟨v_2, S_1, hv, hf⟩
  · exact gx_thr (gx_rV (As := [.int a1]) (rest := []) cx hX hZ hw hS (c_X10_needContract l hst G a1 S (j9 + 1) v9 S9 hv) (by omega) he_c0 rfl rfl gw_429 gy_X10_needContract gi_X10_needContract ⟨Nat.le_of_ble_eq_true rfl, Nat.le_of_ble_eq_true rfl⟩ ⟨Nat.le_of_ble_eq_true rfl, Nat.le_of_ble_eq_true rfl⟩ rfl hl.1 rfl (Nat.le_of_ble_eq_true rfl) dX10_whyNot_2) hS hexn hlk hf9 (Nat.le_of_ble_eq_true rfl) (Nat.le_of_ble_eq_true rfl)
  refine gx_ret (gx_rV (As := [.int a1]) (rest := []) cx hX hZ hw hS (c_X10_needContract l hst G a1 S 0 v_2 S_1 hv) (by omega) he_c0 rfl rfl gw_429 gy_X10_needContract gi_X10_needContract ⟨Nat.le_of_ble_eq_true rfl, Nat.le_of_ble_eq_true rfl⟩ ⟨Nat.le_of_ble_eq_true rfl, Nat.le_of_ble_eq_true rfl⟩ rfl hl.1 rfl (Nat.le_of_ble_eq_true rfl) dX10_whyNot_2) hS (fun H locs hw hS => ?_)
  refine W.eq (g2 := F0 m 5 ls []) rfl ?_
  refine lv_aload_n cx.1 cx.2.1 dX10_whyNot_5 rfl (lv_at hl 0 rfl) ?_
  refine lv_iload_n cx.1 cx.2.1 dX10_whyNot_6 rfl (lv_at hl 1 rfl) ?_
  refine lv_iload_n cx.1 cx.2.1 dX10_whyNot_7 rfl (lv_at hl 2 rfl) ?_
  rcases gbx_some hf with ⟨j9, v9, S9, hv, hf9⟩ | ⟨v_4, S_3, hv, hf⟩
  · exact gx_thr (gx_rV (As := [.int a1, .int a2]) (rest := []) cx hX hZ hw hS (c_X10_needTrainOfHolder l hst G a1 a2 S_1 (j9 + 1) v9 S9 hv) (by omega) he_c0 rfl rfl gw_539 gy_X10_needTrainOfHolder gi_X10_needTrainOfHolder ⟨Nat.le_of_ble_eq_true rfl, Nat.le_of_ble_eq_true rfl⟩ ⟨Nat.le_of_ble_eq_true rfl, Nat.le_of_ble_eq_true rfl⟩ rfl hl.1 rfl (Nat.le_of_ble_eq_true rfl) dX10_whyNot_8) hS hexn hlk hf9 (Nat.le_of_ble_eq_true rfl) (Nat.le_of_ble_eq_true rfl)
  refine gx_ret (gx_rV (As := [.int a1, .int a2]) (rest := []) cx hX hZ hw hS (c_X10_needTrainOfHolder l hst G a1 a2 S_1 0 v_4 S_3 hv) (by omega) he_c0 rfl rfl gw_539 gy_X10_needTrainOfHolder gi_X10_needTrainOfHolder ⟨Nat.le_of_ble_eq_true rfl, Nat.le_of_ble_eq_true rfl⟩ ⟨Nat.le_of_ble_eq_true rfl, Nat.le_of_ble_eq_true rfl⟩ rfl hl.1 rfl (Nat.le_of_ble_eq_true rfl) dX10_whyNot_8) hS (fun H locs hw hS => ?_)
  refine W.eq (g2 := F0 m 11 ls []) rfl ?_
  refine lv_aload_n cx.1 cx.2.1 dX10_whyNot_11 rfl (lv_at hl 0 rfl) ?_
  refine g_get (C := RX10) (T := TX10) (N := 6) (v := .ref (G.2.1 8)) cx hw inlX10 0 (by omega) he_c0 rfl 5 (by decide) gw_30 rfl rfl dX10_whyNot_12 ?_
  refine lv_aload_n cx.1 cx.2.1 dX10_whyNot_15 rfl (lv_at hl 0 rfl) ?_
  refine g_get (C := RX10) (T := TX10) (N := 6) (v := .ref (G.2.1 14)) cx hw inlX10 0 (by omega) he_c0 rfl 1 (by decide) gw_17 rfl rfl dX10_whyNot_16 ?_
  refine lv_iload_n cx.1 cx.2.1 dX10_whyNot_19 rfl (lv_at hl 1 rfl) ?_
  refine lv_iload_n cx.1 cx.2.1 dX10_whyNot_20 rfl (lv_at hl 2 rfl) ?_
  obtain ⟨v_6, S_5, hv, hf⟩ := gbi_some hf
  refine g_V (As := [.ref (G.2.1 14), .int a1, .int a2]) (rest := []) cx hw hS (c_X4_reasonAgainst l G st_14 a1 a2 S_3 v_6 S_5 hv) (by omega) he_c8 rfl rfl gw_544 gy_X4_reasonAgainst gi_X4_reasonAgainst ⟨Nat.le_of_ble_eq_true rfl, Nat.le_of_ble_eq_true rfl⟩ ⟨Nat.le_of_ble_eq_true rfl, Nat.le_of_ble_eq_true rfl⟩ rfl hl.1 rfl (Nat.le_of_ble_eq_true rfl) dX10_whyNot_21 (fun H locs hw hS => ?_)
  refine W.eq (g2 := F0 m 24 ls [.int v_6]) rfl ?_
  exact gx_ireti cx hr hlk hw hS hf dX10_whyNot_24 (Nat.le_of_ble_eq_true rfl) (Nat.le_of_ble_eq_true rfl)
set_option maxHeartbeats 4000000 in
set_option maxRecDepth 100000 in
theorem c_X10_worth (l : Launch) (hst : l.stackTraces = false) (G : gG) (a1 : Int32) (S : Sg) (k : Nat) (r : Int32) (S' : Sg) (hf : f_X10_worth a1 S = some (k, r, S')) : Cx l yX10_worth [Cond.code yX10_worth cX10_worth 2 (some .int)] (gRx 8 130 1 6) G [.ref (G.2.1 0), .int a1] S k (some (.int r)) S' 1 6 := by
  refine Cx_of (by decide) (Nat.le_of_ble_eq_true rfl) ?_
  intro p e s m below meth c ls cx hX hZ hexn hr hlk hw hS hl
  have hN := cx.2.2.2.2.hN
  have hl : lv_has ls 2 [(0, .ref (G.2.1 0)), (1, .int a1)] := hl
  unfold f_X10_worth at hf
  refine lv_iload_n cx.1 cx.2.1 dX10_worth_0 rfl (lv_at hl 1 rfl) ?_
  rcases gbx_some hf with ⟨j9, v9, S9, hv, hf9⟩ | ⟨v_2, S_1, hv, hf⟩
  · exact gx_thr (gx_rS (As := [.int a1]) (rest := []) cx hX hZ hw hS (c_X10_needCompany l hst G a1 S (j9 + 1) v9 S9 hv) gw_223 gy_X10_needCompany gi_X10_needCompany ⟨Nat.le_of_ble_eq_true rfl, Nat.le_of_ble_eq_true rfl⟩ ⟨Nat.le_of_ble_eq_true rfl, Nat.le_of_ble_eq_true rfl⟩ rfl hl.1 rfl (Nat.le_of_ble_eq_true rfl) dX10_worth_1) hS hexn hlk hf9 (Nat.le_of_ble_eq_true rfl) (Nat.le_of_ble_eq_true rfl)
  refine gx_ret (gx_rS (As := [.int a1]) (rest := []) cx hX hZ hw hS (c_X10_needCompany l hst G a1 S 0 v_2 S_1 hv) gw_223 gy_X10_needCompany gi_X10_needCompany ⟨Nat.le_of_ble_eq_true rfl, Nat.le_of_ble_eq_true rfl⟩ ⟨Nat.le_of_ble_eq_true rfl, Nat.le_of_ble_eq_true rfl⟩ rfl hl.1 rfl (Nat.le_of_ble_eq_true rfl) dX10_worth_1) hS (fun H locs hw hS => ?_)
  refine W.eq (g2 := F0 m 4 ls []) rfl ?_
  refine lv_aload_n cx.1 cx.2.1 dX10_worth_4 rfl (lv_at hl 0 rfl) ?_
  refine g_get (C := RX10) (T := TX10) (N := 6) (v := .ref (G.2.1 14)) cx hw inlX10 0 (by omega) he_c0 rfl 1 (by decide) gw_17 rfl rfl dX10_worth_5 ?_
  refine lv_iload_n cx.1 cx.2.1 dX10_worth_8 rfl (lv_at hl 1 rfl) ?_
  obtain ⟨v_4, S_3, hv, hf⟩ := gbi_some hf
  refine g_V (As := [.int a1]) (rest := []) cx hw hS (c_X7_worthOf l G st_14 a1 S_1 v_4 S_3 hv) (Nat.lt_of_lt_of_le st_14.lt0 hN) (he_s0 st_14) rfl rfl gw_682 gy_X7_worthOf gi_X7_worthOf ⟨Nat.le_of_ble_eq_true rfl, Nat.le_of_ble_eq_true rfl⟩ ⟨Nat.le_of_ble_eq_true rfl, Nat.le_of_ble_eq_true rfl⟩ rfl hl.1 rfl (Nat.le_of_ble_eq_true rfl) dX10_worth_9 (fun H locs hw hS => ?_)
  refine W.eq (g2 := F0 m 12 ls [.int v_4]) rfl ?_
  exact gx_ireti cx hr hlk hw hS hf dX10_worth_12 (Nat.le_of_ble_eq_true rfl) (Nat.le_of_ble_eq_true rfl)
