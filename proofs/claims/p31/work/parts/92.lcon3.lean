set_option maxHeartbeats 8000000 in
set_option maxRecDepth 100000 in
theorem a_hands (l : Launch) (hst : l.stackTraces = false) (G : gG) (a1 : Int32) (S : At) (r : Int32) (S' : At) (hf : h_hands a1 S = some (r, S')) : gC l yL_hands [Cond.code yL_hands cL_hands 35 (some .boolean)] (gRx 12 247 24340 146040) G (gNo G) E0 (gPA G S) [.ref (G.2.1 0), .int a1] (some (.int r)) (gPA G S') 24340 146040 := by
  refine gC_of (by decide) (Nat.le_of_ble_eq_true rfl) ?_
  intro p e s m below meth c ls cx hE hX hZ hr hlk hw hS hl
  have hN := cx.2.2.2.2.hN
  have hB_1346 : ∀ (S : At) (x1 : Int32) (x2 : Int32) (x3 : Int32) (x6 : Int32) (H : Heap) (locs : List Loc) (ls : Array Slot) (cells slots : Nat), cells + (18433) ≤ 24340 → slots + (110598) ≤ 146040 → gPA G S H → va_S (gAr (gNo G) s.heap.size) s.heap H locs → lv_has ls 35 [(0, .ref (G.2.1 0)), (1, .int x1), (2, .int x2), (3, .int x3), (6, .int x6)] → B_hands_1346 S x1 x2 x3 x6 = some (r, S') → W p l e (gRx 12 247 24340 146040) s m ([.ref (G.2.1 0), .int a1] : List Value).toArray below meth c H locs cells slots (MQ below (gQr (gPA G S') (some (.int r)) (gAr (gNo G) s.heap.size)) ([.ref (G.2.1 0), .int a1] : List Value).toArray s 24340 146040 (gAr (gNo G) s.heap.size)) (F0 m 1346 ls []) := by
    intro S x1 x2 x3 x6 H locs ls cells slots hcl hsl hw hS hl hf
    unfold B_hands_1346 at hf
    refine lv_iload cx.1 cx.2.1 dL_hands_1346 (lv_at hl 4 rfl) ?_
    refine lv_if_eq (tgt := 1383) cx.1 cx.2.1 dL_hands_1348 (by decide) (fun hc => ?_) (fun hc => ?_)
    · rw [if_pos hc] at hf
      refine lv_iconst (v := (0 : Int32)) cx.1 cx.2.1 dL_hands_1383 (by decide) ?_
      exact al_zreti (P := (gPA G)) cx hr hlk hw hS (by decide) hf dL_hands_1384 (by omega) (by omega)
    · rw [if_neg hc] at hf
      refine lv_aload_n cx.1 cx.2.1 dL_hands_1351 rfl (lv_at hl 0 rfl) ?_
      refine lv_iload_n cx.1 cx.2.1 dL_hands_1352 rfl (lv_at hl 3 rfl) ?_
      refine lv_iload_n cx.1 cx.2.1 dL_hands_1353 rfl (lv_at hl 1 rfl) ?_
      refine lv_iload_n cx.1 cx.2.1 dL_hands_1354 rfl (lv_at hl 2 rfl) ?_
      obtain ⟨v_1, S_2, hv, hf⟩ := gbs_some hf
      refine a_S (As := [.ref (G.2.1 0), .int x3, .int x1, .int x2]) (rest := []) cx hX hZ hw hS (a_rounds l hst G x3 x1 x2 S v_1 S_2 hv) gw_898 gyl_L_rounds gil_L_rounds ⟨Nat.le_of_ble_eq_true rfl, Nat.le_of_ble_eq_true rfl⟩ (show cells + 18430 ≤ 24340 ∧ slots + 110580 ≤ 146040 from ⟨by omega, by omega⟩) rfl hl.1 rfl (Nat.le_of_ble_eq_true rfl) dL_hands_1355 (fun H locs hw hS => ?_)
      refine W.eq (g2 := F0 m 1358 ls [.int v_1]) rfl ?_
      refine lv_if_eq (tgt := 1383) cx.1 cx.2.1 dL_hands_1358 (by decide) (fun hc => ?_) (fun hc => ?_)
      · rw [if_pos hc] at hf
        refine lv_iconst (v := (0 : Int32)) cx.1 cx.2.1 dL_hands_1383 (by decide) ?_
        exact al_zreti (P := (gPA G)) cx hr hlk hw hS (by decide) hf dL_hands_1384 (by omega) (by omega)
      · rw [if_neg hc] at hf
        refine lv_aload_n cx.1 cx.2.1 dL_hands_1361 rfl (lv_at hl 0 rfl) ?_
        refine lv_iconst (v := (0 : Int32)) cx.1 cx.2.1 dL_hands_1362 (by decide) ?_
        obtain ⟨v_3, S_4, hv, hf⟩ := gbs_some hf
        refine a_SW (As := [.ref (G.2.1 0), .int (0 : Int32)]) (rest := []) cx hX hZ hw hS (a_tryRestore l hst G (0 : Int32) S_2 v_3 S_4 hv) gw_792 gw_187 gyw_L_tryRestore ⟨by decide, by decide⟩ ⟨Nat.le_of_ble_eq_true rfl, Nat.le_of_ble_eq_true rfl⟩ (show cells + 18430 + 2 ≤ 24340 ∧ slots + 110580 + 12 ≤ 146040 from ⟨by omega, by omega⟩) rfl hl.1 rfl (Nat.le_of_ble_eq_true rfl) dL_hands_1363 (fun H locs hw hS => ?_)
        refine W.eq (g2 := F0 m 1366 ls [.int v_3]) rfl ?_
        refine lv_iload_n cx.1 cx.2.1 dL_hands_1366 rfl (lv_at hl 2 rfl) ?_
        refine lv_icmp_ne (tgt := 1383) cx.1 cx.2.1 dL_hands_1367 (by decide) (fun hc => ?_) (fun hc => ?_)
        · rw [if_neg hc] at hf
          refine lv_iconst (v := (0 : Int32)) cx.1 cx.2.1 dL_hands_1383 (by decide) ?_
          exact al_zreti (P := (gPA G)) cx hr hlk hw hS (by decide) hf dL_hands_1384 (by omega) (by omega)
        · rw [if_pos hc] at hf
          refine lv_aload_n cx.1 cx.2.1 dL_hands_1370 rfl (lv_at hl 0 rfl) ?_
          obtain ⟨v_5, S_6, hv, hf⟩ := gbs_some hf
          refine a_SW (As := [.ref (G.2.1 0)]) (rest := []) cx hX hZ hw hS (a_tryUndo l hst G S_4 v_5 S_6 hv) gw_294 gw_187 gyw_L_tryUndo ⟨by decide, by decide⟩ ⟨Nat.le_of_ble_eq_true rfl, Nat.le_of_ble_eq_true rfl⟩ (show cells + 18430 + 2 + 1 ≤ 24340 ∧ slots + 110580 + 12 + 6 ≤ 146040 from ⟨by omega, by omega⟩) rfl hl.1 rfl (Nat.le_of_ble_eq_true rfl) dL_hands_1371 (fun H locs hw hS => ?_)
          refine W.eq (g2 := F0 m 1374 ls [.int v_5]) rfl ?_
          refine lv_ldc cx.1 cx.2.1 cx.2.2.2.1 (cx.2.2.2.2.ts _ gw_3) dL_hands_1374 ?_
          refine lv_icmp_ne (tgt := 1383) cx.1 cx.2.1 dL_hands_1376 (by decide) (fun hc => ?_) (fun hc => ?_)
          · rw [if_neg hc] at hf
            refine lv_iconst (v := (0 : Int32)) cx.1 cx.2.1 dL_hands_1383 (by decide) ?_
            exact al_zreti (P := (gPA G)) cx hr hlk hw hS (by decide) hf dL_hands_1384 (by omega) (by omega)
          · rw [if_pos hc] at hf
            refine lv_iconst (v := (1 : Int32)) cx.1 cx.2.1 dL_hands_1379 (by decide) ?_
            refine lv_goto (tgt := 1384) cx.1 cx.2.1 dL_hands_1380 (by decide) ?_
            exact al_zreti (P := (gPA G)) cx hr hlk hw hS (by decide) hf dL_hands_1384 (by omega) (by omega)
  have hB_1253 : ∀ (S : At) (x1 : Int32) (x2 : Int32) (x3 : Int32) (x21 : Int32) (x28 : Int32) (x29 : Int32) (x30 : Int32) (x31 : Int32) (t0 : Int32) (H : Heap) (locs : List Loc) (ls : Array Slot) (cells slots : Nat), cells + (18447) ≤ 24340 → slots + (110682) ≤ 146040 → gPA G S H → va_S (gAr (gNo G) s.heap.size) s.heap H locs → lv_has ls 35 [(0, .ref (G.2.1 0)), (1, .int x1), (2, .int x2), (3, .int x3), (21, .int x21), (28, .int x28), (29, .int x29), (30, .int x30), (31, .int x31)] → B_hands_1253 S x1 x2 x3 x21 x28 x29 x30 x31 t0 = some (r, S') → W p l e (gRx 12 247 24340 146040) s m ([.ref (G.2.1 0), .int a1] : List Value).toArray below meth c H locs cells slots (MQ below (gQr (gPA G S') (some (.int r)) (gAr (gNo G) s.heap.size)) ([.ref (G.2.1 0), .int a1] : List Value).toArray s 24340 146040 (gAr (gNo G) s.heap.size)) (F0 m 1253 ls [.int t0]) := by
    intro S x1 x2 x3 x21 x28 x29 x30 x31 t0 H locs ls cells slots hcl hsl hw hS hl hf
    unfold B_hands_1253 at hf
    refine lv_istore (lv' := [(6, .int t0), (0, .ref (G.2.1 0)), (1, .int x1), (2, .int x2), (3, .int x3), (21, .int x21), (28, .int x28), (29, .int x29), (30, .int x30), (31, .int x31)]) cx.1 cx.2.1 dL_hands_1253 hl (by decide) rfl (fun ls hl => ?_)
    refine lv_iload cx.1 cx.2.1 dL_hands_1255 (lv_at hl 9 rfl) ?_
    refine lv_if_eq (tgt := 1346) cx.1 cx.2.1 dL_hands_1257 (by decide) (fun hc => ?_) (fun hc => ?_)
    · rw [if_pos hc] at hf
      exact hB_1346 S x1 x2 x3 t0 _ _ _ _ _ (by omega) (by omega) hw hS (lv_sub hl [1, 2, 3, 4, 0] rfl) hf
    · rw [if_neg hc] at hf
      refine lv_iload cx.1 cx.2.1 dL_hands_1260 (lv_at hl 6 rfl) ?_
      refine lv_bipush (v := (-9 : Int32)) cx.1 cx.2.1 dL_hands_1262 (by decide) ?_
      refine lv_icmp_eq (tgt := 1346) cx.1 cx.2.1 dL_hands_1264 (by decide) (fun hc => ?_) (fun hc => ?_)
      · rw [if_pos hc] at hf
        exact hB_1346 S x1 x2 x3 t0 _ _ _ _ _ (by omega) (by omega) hw hS (lv_sub hl [1, 2, 3, 4, 0] rfl) hf
      · rw [if_neg hc] at hf
        refine lv_iload cx.1 cx.2.1 dL_hands_1267 (lv_at hl 0 rfl) ?_
        refine lv_if_eq (tgt := 1346) cx.1 cx.2.1 dL_hands_1269 (by decide) (fun hc => ?_) (fun hc => ?_)
        · rw [if_pos hc] at hf
          exact hB_1346 S x1 x2 x3 t0 _ _ _ _ _ (by omega) (by omega) hw hS (lv_sub hl [1, 2, 3, 4, 0] rfl) hf
        · rw [if_neg hc] at hf
          refine lv_aload_n cx.1 cx.2.1 dL_hands_1272 rfl (lv_at hl 1 rfl) ?_
          refine lv_iload cx.1 cx.2.1 dL_hands_1273 (lv_at hl 6 rfl) ?_
          refine lv_iconst (v := (2 : Int32)) cx.1 cx.2.1 dL_hands_1275 (by decide) ?_
          obtain ⟨v_7, S_8, hv, hf⟩ := gbs_some hf
          refine a_SW (As := [.ref (G.2.1 0), .int x28, .int (2 : Int32)]) (rest := []) cx hX hZ hw hS (a_tryContract l hst G x28 (2 : Int32) S v_7 S_8 hv) gw_416 gw_187 gyw_L_tryContract ⟨by decide, by decide⟩ ⟨Nat.le_of_ble_eq_true rfl, Nat.le_of_ble_eq_true rfl⟩ (show cells + 2 ≤ 24340 ∧ slots + 12 ≤ 146040 from ⟨by omega, by omega⟩) rfl hl.1 rfl (Nat.le_of_ble_eq_true rfl) dL_hands_1276 (fun H locs hw hS => ?_)
          refine W.eq (g2 := F0 m 1279 ls [.int v_7]) rfl ?_
          refine lv_aload_n cx.1 cx.2.1 dL_hands_1279 rfl (lv_at hl 1 rfl) ?_
          refine lv_iload_n cx.1 cx.2.1 dL_hands_1280 rfl (lv_at hl 4 rfl) ?_
          refine lv_aload_n cx.1 cx.2.1 dL_hands_1281 rfl (lv_at hl 1 rfl) ?_
          refine lv_iload cx.1 cx.2.1 dL_hands_1282 (lv_at hl 6 rfl) ?_
          refine lv_iconst (v := (0 : Int32)) cx.1 cx.2.1 dL_hands_1284 (by decide) ?_
          obtain ⟨v_9, S_10, hv, hf⟩ := gbs_some hf
          refine a_SW (As := [.ref (G.2.1 0), .int x28, .int (0 : Int32)]) (rest := [.int x3, .ref (G.2.1 0), .int v_7]) cx hX hZ hw hS (a_tryContract l hst G x28 (0 : Int32) S_8 v_9 S_10 hv) gw_416 gw_187 gyw_L_tryContract ⟨by decide, by decide⟩ ⟨Nat.le_of_ble_eq_true rfl, Nat.le_of_ble_eq_true rfl⟩ (show cells + 2 + 2 ≤ 24340 ∧ slots + 12 + 12 ≤ 146040 from ⟨by omega, by omega⟩) rfl hl.1 rfl (Nat.le_of_ble_eq_true rfl) dL_hands_1285 (fun H locs hw hS => ?_)
          refine W.eq (g2 := F0 m 1288 ls [.int v_9, .int x3, .ref (G.2.1 0), .int v_7]) rfl ?_
          refine lv_aload_n cx.1 cx.2.1 dL_hands_1288 rfl (lv_at hl 1 rfl) ?_
          refine lv_iload cx.1 cx.2.1 dL_hands_1289 (lv_at hl 6 rfl) ?_
          refine lv_iconst (v := (1 : Int32)) cx.1 cx.2.1 dL_hands_1291 (by decide) ?_
          obtain ⟨v_11, S_12, hv, hf⟩ := gbs_some hf
          refine a_SW (As := [.ref (G.2.1 0), .int x28, .int (1 : Int32)]) (rest := [.int v_9, .int x3, .ref (G.2.1 0), .int v_7]) cx hX hZ hw hS (a_tryContract l hst G x28 (1 : Int32) S_10 v_11 S_12 hv) gw_416 gw_187 gyw_L_tryContract ⟨by decide, by decide⟩ ⟨Nat.le_of_ble_eq_true rfl, Nat.le_of_ble_eq_true rfl⟩ (show cells + 2 + 2 + 2 ≤ 24340 ∧ slots + 12 + 12 + 12 ≤ 146040 from ⟨by omega, by omega⟩) rfl hl.1 rfl (Nat.le_of_ble_eq_true rfl) dL_hands_1292 (fun H locs hw hS => ?_)
          refine W.eq (g2 := F0 m 1295 ls [.int v_11, .int v_9, .int x3, .ref (G.2.1 0), .int v_7]) rfl ?_
          refine lv_iconst (v := (4 : Int32)) cx.1 cx.2.1 dL_hands_1295 (by decide) ?_
          refine lv_iload cx.1 cx.2.1 dL_hands_1296 (lv_at hl 7 rfl) ?_
          refine lv_imul cx.1 cx.2.1 dL_hands_1298 ?_
          refine lv_iconst (v := (0 : Int32)) cx.1 cx.2.1 dL_hands_1299 (by decide) ?_
          obtain ⟨v_13, S_14, hv, hf⟩ := gbs_some hf
          refine a_SW (As := [.ref (G.2.1 0), .int x3, .int v_9, .int v_11, .int ((4 : Int32) * x29), .int (0 : Int32)]) (rest := [.int v_7]) cx hX hZ hw hS (a_tryWay l hst G x3 v_9 v_11 ((4 : Int32) * x29) (0 : Int32) S_12 v_13 S_14 hv) gw_214 gw_187 gyw_L_tryWay ⟨by decide, by decide⟩ ⟨Nat.le_of_ble_eq_true rfl, Nat.le_of_ble_eq_true rfl⟩ (show cells + 2 + 2 + 2 + 6 ≤ 24340 ∧ slots + 12 + 12 + 12 + 36 ≤ 146040 from ⟨by omega, by omega⟩) rfl hl.1 rfl (Nat.le_of_ble_eq_true rfl) dL_hands_1300 (fun H locs hw hS => ?_)
          refine W.eq (g2 := F0 m 1303 ls [.int v_13, .int v_7]) rfl ?_
          refine lv_isub cx.1 cx.2.1 dL_hands_1303 ?_
          obtain ⟨x32_15, ex32_15, hf⟩ := gvi_ex hf
          refine W.eq (g2 := F0 m 1304 ls [.int x32_15]) (by rw [← ex32_15]) ?_
          refine lv_istore (lv' := [(32, .int x32_15), (6, .int t0), (0, .ref (G.2.1 0)), (1, .int x1), (2, .int x2), (3, .int x3), (21, .int x21), (28, .int x28), (29, .int x29), (30, .int x30), (31, .int x31)]) cx.1 cx.2.1 dL_hands_1304 hl (by decide) rfl (fun ls hl => ?_)
          refine lv_aload_n cx.1 cx.2.1 dL_hands_1306 rfl (lv_at hl 2 rfl) ?_
          refine lv_iload cx.1 cx.2.1 dL_hands_1307 (lv_at hl 6 rfl) ?_
          refine lv_iconst (v := (2 : Int32)) cx.1 cx.2.1 dL_hands_1309 (by decide) ?_
          obtain ⟨v_16, S_17, hv, hf⟩ := gbs_some hf
          refine a_SW (As := [.ref (G.2.1 0), .int x21, .int (2 : Int32)]) (rest := []) cx hX hZ hw hS (a_tryContract l hst G x21 (2 : Int32) S_14 v_16 S_17 hv) gw_416 gw_187 gyw_L_tryContract ⟨by decide, by decide⟩ ⟨Nat.le_of_ble_eq_true rfl, Nat.le_of_ble_eq_true rfl⟩ (show cells + 2 + 2 + 2 + 6 + 2 ≤ 24340 ∧ slots + 12 + 12 + 12 + 36 + 12 ≤ 146040 from ⟨by omega, by omega⟩) rfl hl.1 rfl (Nat.le_of_ble_eq_true rfl) dL_hands_1310 (fun H locs hw hS => ?_)
          refine W.eq (g2 := F0 m 1313 ls [.int v_16]) rfl ?_
          refine lv_iload cx.1 cx.2.1 dL_hands_1313 (lv_at hl 9 rfl) ?_
          refine lv_isub cx.1 cx.2.1 dL_hands_1315 ?_
          obtain ⟨x33_18, ex33_18, hf⟩ := gvi_ex hf
          refine W.eq (g2 := F0 m 1316 ls [.int x33_18]) (by rw [← ex33_18]) ?_
          refine lv_istore (lv' := [(33, .int x33_18), (32, .int x32_15), (6, .int t0), (0, .ref (G.2.1 0)), (1, .int x1), (2, .int x2), (3, .int x3), (21, .int x21), (28, .int x28), (29, .int x29), (30, .int x30), (31, .int x31)]) cx.1 cx.2.1 dL_hands_1316 hl (by decide) rfl (fun ls hl => ?_)
          refine lv_iload cx.1 cx.2.1 dL_hands_1318 (lv_at hl 1 rfl) ?_
          refine lv_iload cx.1 cx.2.1 dL_hands_1320 (lv_at hl 0 rfl) ?_
          refine lv_icmp_gt (tgt := 1339) cx.1 cx.2.1 dL_hands_1322 (by decide) (fun hc => ?_) (fun hc => ?_)
          · rw [if_pos hc] at hf
            refine lv_iconst (v := (1 : Int32)) cx.1 cx.2.1 dL_hands_1339 (by decide) ?_
            refine lv_goto (tgt := 1344) cx.1 cx.2.1 dL_hands_1340 (by decide) ?_
            refine lv_istore (lv' := [(6, .int (1 : Int32)), (33, .int x33_18), (32, .int x32_15), (0, .ref (G.2.1 0)), (1, .int x1), (2, .int x2), (3, .int x3), (21, .int x21), (28, .int x28), (29, .int x29), (30, .int x30), (31, .int x31)]) cx.1 cx.2.1 dL_hands_1344 hl (by decide) rfl (fun ls hl => ?_)
            exact hB_1346 S_17 x1 x2 x3 (1 : Int32) _ _ _ _ _ (by omega) (by omega) hw hS (lv_sub hl [3, 4, 5, 6, 0] rfl) hf
          · rw [if_neg hc] at hf
            refine lv_iload cx.1 cx.2.1 dL_hands_1325 (lv_at hl 1 rfl) ?_
            refine lv_iload cx.1 cx.2.1 dL_hands_1327 (lv_at hl 0 rfl) ?_
            refine lv_icmp_ne (tgt := 1343) cx.1 cx.2.1 dL_hands_1329 (by decide) (fun hc => ?_) (fun hc => ?_)
            · rw [if_neg hc] at hf
              refine lv_iconst (v := (0 : Int32)) cx.1 cx.2.1 dL_hands_1343 (by decide) ?_
              refine lv_istore (lv' := [(6, .int (0 : Int32)), (33, .int x33_18), (32, .int x32_15), (0, .ref (G.2.1 0)), (1, .int x1), (2, .int x2), (3, .int x3), (21, .int x21), (28, .int x28), (29, .int x29), (30, .int x30), (31, .int x31)]) cx.1 cx.2.1 dL_hands_1344 hl (by decide) rfl (fun ls hl => ?_)
              exact hB_1346 S_17 x1 x2 x3 (0 : Int32) _ _ _ _ _ (by omega) (by omega) hw hS (lv_sub hl [3, 4, 5, 6, 0] rfl) hf
            · rw [if_pos hc] at hf
              refine lv_iload cx.1 cx.2.1 dL_hands_1332 (lv_at hl 8 rfl) ?_
              refine lv_iload cx.1 cx.2.1 dL_hands_1334 (lv_at hl 7 rfl) ?_
              refine lv_icmp_gt (tgt := 1343) cx.1 cx.2.1 dL_hands_1336 (by decide) (fun hc => ?_) (fun hc => ?_)
              · rw [if_pos hc] at hf
                refine lv_iconst (v := (0 : Int32)) cx.1 cx.2.1 dL_hands_1343 (by decide) ?_
                refine lv_istore (lv' := [(6, .int (0 : Int32)), (33, .int x33_18), (32, .int x32_15), (0, .ref (G.2.1 0)), (1, .int x1), (2, .int x2), (3, .int x3), (21, .int x21), (28, .int x28), (29, .int x29), (30, .int x30), (31, .int x31)]) cx.1 cx.2.1 dL_hands_1344 hl (by decide) rfl (fun ls hl => ?_)
                exact hB_1346 S_17 x1 x2 x3 (0 : Int32) _ _ _ _ _ (by omega) (by omega) hw hS (lv_sub hl [3, 4, 5, 6, 0] rfl) hf
              · rw [if_neg hc] at hf
                refine lv_iconst (v := (1 : Int32)) cx.1 cx.2.1 dL_hands_1339 (by decide) ?_
                refine lv_goto (tgt := 1344) cx.1 cx.2.1 dL_hands_1340 (by decide) ?_
                refine lv_istore (lv' := [(6, .int (1 : Int32)), (33, .int x33_18), (32, .int x32_15), (0, .ref (G.2.1 0)), (1, .int x1), (2, .int x2), (3, .int x3), (21, .int x21), (28, .int x28), (29, .int x29), (30, .int x30), (31, .int x31)]) cx.1 cx.2.1 dL_hands_1344 hl (by decide) rfl (fun ls hl => ?_)
                exact hB_1346 S_17 x1 x2 x3 (1 : Int32) _ _ _ _ _ (by omega) (by omega) hw hS (lv_sub hl [3, 4, 5, 6, 0] rfl) hf
  have hB_1224 : ∀ (S : At) (x1 : Int32) (x2 : Int32) (x3 : Int32) (x21 : Int32) (x28 : Int32) (x29 : Int32) (x30 : Int32) (x31 : Int32) (H : Heap) (locs : List Loc) (ls : Array Slot) (cells slots : Nat), cells + (18449) ≤ 24340 → slots + (110694) ≤ 146040 → gPA G S H → va_S (gAr (gNo G) s.heap.size) s.heap H locs → lv_has ls 35 [(0, .ref (G.2.1 0)), (1, .int x1), (2, .int x2), (3, .int x3), (21, .int x21), (28, .int x28), (29, .int x29), (30, .int x30), (31, .int x31)] → B_hands_1224 S x1 x2 x3 x21 x28 x29 x30 x31 = some (r, S') → W p l e (gRx 12 247 24340 146040) s m ([.ref (G.2.1 0), .int a1] : List Value).toArray below meth c H locs cells slots (MQ below (gQr (gPA G S') (some (.int r)) (gAr (gNo G) s.heap.size)) ([.ref (G.2.1 0), .int a1] : List Value).toArray s 24340 146040 (gAr (gNo G) s.heap.size)) (F0 m 1224 ls []) := by
    intro S x1 x2 x3 x21 x28 x29 x30 x31 H locs ls cells slots hcl hsl hw hS hl hf
    unfold B_hands_1224 at hf
    refine lv_iload cx.1 cx.2.1 dL_hands_1224 (lv_at hl 5 rfl) ?_
    refine lv_bipush (v := (-9 : Int32)) cx.1 cx.2.1 dL_hands_1226 (by decide) ?_
    refine lv_icmp_eq (tgt := 1248) cx.1 cx.2.1 dL_hands_1228 (by decide) (fun hc => ?_) (fun hc => ?_)
    · rw [if_pos hc] at hf
      refine lv_iconst (v := (1 : Int32)) cx.1 cx.2.1 dL_hands_1248 (by decide) ?_
      refine lv_goto (tgt := 1253) cx.1 cx.2.1 dL_hands_1249 (by decide) ?_
      exact hB_1253 S x1 x2 x3 x21 x28 x29 x30 x31 (1 : Int32) _ _ _ _ _ (by omega) (by omega) hw hS (lv_sub hl [0, 1, 2, 3, 4, 5, 6, 7, 8] rfl) hf
    · rw [if_neg hc] at hf
      refine lv_aload_n cx.1 cx.2.1 dL_hands_1231 rfl (lv_at hl 0 rfl) ?_
      refine lv_iload cx.1 cx.2.1 dL_hands_1232 (lv_at hl 5 rfl) ?_
      refine lv_iconst (v := (4 : Int32)) cx.1 cx.2.1 dL_hands_1234 (by decide) ?_
      obtain ⟨v_19, S_20, hv, hf⟩ := gbs_some hf
      refine a_SW (As := [.ref (G.2.1 0), .int x28, .int (4 : Int32)]) (rest := []) cx hX hZ hw hS (a_tryContract l hst G x28 (4 : Int32) S v_19 S_20 hv) gw_416 gw_187 gyw_L_tryContract ⟨by decide, by decide⟩ ⟨Nat.le_of_ble_eq_true rfl, Nat.le_of_ble_eq_true rfl⟩ (show cells + 2 ≤ 24340 ∧ slots + 12 ≤ 146040 from ⟨by omega, by omega⟩) rfl hl.1 rfl (Nat.le_of_ble_eq_true rfl) dL_hands_1235 (fun H locs hw hS => ?_)
      refine W.eq (g2 := F0 m 1238 ls [.int v_19]) rfl ?_
      refine lv_bipush (v := (-9 : Int32)) cx.1 cx.2.1 dL_hands_1238 (by decide) ?_
      refine lv_icmp_ne (tgt := 1252) cx.1 cx.2.1 dL_hands_1240 (by decide) (fun hc => ?_) (fun hc => ?_)
      · rw [if_neg hc] at hf
        refine lv_iconst (v := (0 : Int32)) cx.1 cx.2.1 dL_hands_1252 (by decide) ?_
        exact hB_1253 S_20 x1 x2 x3 x21 x28 x29 x30 x31 (0 : Int32) _ _ _ _ _ (by omega) (by omega) hw hS (lv_sub hl [0, 1, 2, 3, 4, 5, 6, 7, 8] rfl) hf
      · rw [if_pos hc] at hf
        refine lv_iload cx.1 cx.2.1 dL_hands_1243 (lv_at hl 6 rfl) ?_
        refine lv_if_le (tgt := 1252) cx.1 cx.2.1 dL_hands_1245 (by decide) (fun hc => ?_) (fun hc => ?_)
        · rw [if_pos hc] at hf
          refine lv_iconst (v := (0 : Int32)) cx.1 cx.2.1 dL_hands_1252 (by decide) ?_
          exact hB_1253 S_20 x1 x2 x3 x21 x28 x29 x30 x31 (0 : Int32) _ _ _ _ _ (by omega) (by omega) hw hS (lv_sub hl [0, 1, 2, 3, 4, 5, 6, 7, 8] rfl) hf
        · rw [if_neg hc] at hf
          refine lv_iconst (v := (1 : Int32)) cx.1 cx.2.1 dL_hands_1248 (by decide) ?_
          refine lv_goto (tgt := 1253) cx.1 cx.2.1 dL_hands_1249 (by decide) ?_
          exact hB_1253 S_20 x1 x2 x3 x21 x28 x29 x30 x31 (1 : Int32) _ _ _ _ _ (by omega) (by omega) hw hS (lv_sub hl [0, 1, 2, 3, 4, 5, 6, 7, 8] rfl) hf
  have hB_1205 : ∀ (S : At) (x1 : Int32) (x2 : Int32) (x3 : Int32) (x6 : Int32) (x21 : Int32) (x28 : Int32) (x29 : Int32) (x30 : Int32) (t0 : Int32) (H : Heap) (locs : List Loc) (ls : Array Slot) (cells slots : Nat), cells + (18449) ≤ 24340 → slots + (110694) ≤ 146040 → gPA G S H → va_S (gAr (gNo G) s.heap.size) s.heap H locs → lv_has ls 35 [(0, .ref (G.2.1 0)), (1, .int x1), (2, .int x2), (3, .int x3), (6, .int x6), (21, .int x21), (28, .int x28), (29, .int x29), (30, .int x30)] → B_hands_1205 S x1 x2 x3 x6 x21 x28 x29 x30 t0 = some (r, S') → W p l e (gRx 12 247 24340 146040) s m ([.ref (G.2.1 0), .int a1] : List Value).toArray below meth c H locs cells slots (MQ below (gQr (gPA G S') (some (.int r)) (gAr (gNo G) s.heap.size)) ([.ref (G.2.1 0), .int a1] : List Value).toArray s 24340 146040 (gAr (gNo G) s.heap.size)) (F0 m 1205 ls [.int t0]) := by
    intro S x1 x2 x3 x6 x21 x28 x29 x30 t0 H locs ls cells slots hcl hsl hw hS hl hf
    unfold B_hands_1205 at hf
    refine lv_istore (lv' := [(31, .int t0), (0, .ref (G.2.1 0)), (1, .int x1), (2, .int x2), (3, .int x3), (6, .int x6), (21, .int x21), (28, .int x28), (29, .int x29), (30, .int x30)]) cx.1 cx.2.1 dL_hands_1205 hl (by decide) rfl (fun ls hl => ?_)
    refine lv_iload cx.1 cx.2.1 dL_hands_1207 (lv_at hl 5 rfl) ?_
    refine lv_if_eq (tgt := 1252) cx.1 cx.2.1 dL_hands_1209 (by decide) (fun hc => ?_) (fun hc => ?_)
    · rw [if_pos hc] at hf
      refine lv_iconst (v := (0 : Int32)) cx.1 cx.2.1 dL_hands_1252 (by decide) ?_
      exact hB_1253 S x1 x2 x3 x21 x28 x29 x30 t0 (0 : Int32) _ _ _ _ _ (by omega) (by omega) hw hS (lv_sub hl [1, 2, 3, 4, 6, 7, 8, 9, 0] rfl) hf
    · rw [if_neg hc] at hf
      refine lv_iload cx.1 cx.2.1 dL_hands_1212 (lv_at hl 0 rfl) ?_
      refine lv_if_eq (tgt := 1224) cx.1 cx.2.1 dL_hands_1214 (by decide) (fun hc => ?_) (fun hc => ?_)
      · rw [if_pos hc] at hf
        exact hB_1224 S x1 x2 x3 x21 x28 x29 x30 t0 _ _ _ _ _ (by omega) (by omega) hw hS (lv_sub hl [1, 2, 3, 4, 6, 7, 8, 9, 0] rfl) hf
      · rw [if_neg hc] at hf
        refine lv_iload cx.1 cx.2.1 dL_hands_1217 (lv_at hl 7 rfl) ?_
        refine lv_bipush (v := (-9 : Int32)) cx.1 cx.2.1 dL_hands_1219 (by decide) ?_
        refine lv_icmp_eq (tgt := 1252) cx.1 cx.2.1 dL_hands_1221 (by decide) (fun hc => ?_) (fun hc => ?_)
        · rw [if_pos hc] at hf
          refine lv_iconst (v := (0 : Int32)) cx.1 cx.2.1 dL_hands_1252 (by decide) ?_
          exact hB_1253 S x1 x2 x3 x21 x28 x29 x30 t0 (0 : Int32) _ _ _ _ _ (by omega) (by omega) hw hS (lv_sub hl [1, 2, 3, 4, 6, 7, 8, 9, 0] rfl) hf
        · rw [if_neg hc] at hf
          exact hB_1224 S x1 x2 x3 x21 x28 x29 x30 t0 _ _ _ _ _ (by omega) (by omega) hw hS (lv_sub hl [1, 2, 3, 4, 6, 7, 8, 9, 0] rfl) hf
  have hB_1184 : ∀ (S : At) (x1 : Int32) (x2 : Int32) (x3 : Int32) (x6 : Int32) (x21 : Int32) (x22 : Int32) (x28 : Int32) (x29 : Int32) (t0 : Int32) (H : Heap) (locs : List Loc) (ls : Array Slot) (cells slots : Nat), cells + (18449) ≤ 24340 → slots + (110694) ≤ 146040 → gPA G S H → va_S (gAr (gNo G) s.heap.size) s.heap H locs → lv_has ls 35 [(0, .ref (G.2.1 0)), (1, .int x1), (2, .int x2), (3, .int x3), (6, .int x6), (21, .int x21), (22, .int x22), (28, .int x28), (29, .int x29)] → B_hands_1184 S x1 x2 x3 x6 x21 x22 x28 x29 t0 = some (r, S') → W p l e (gRx 12 247 24340 146040) s m ([.ref (G.2.1 0), .int a1] : List Value).toArray below meth c H locs cells slots (MQ below (gQr (gPA G S') (some (.int r)) (gAr (gNo G) s.heap.size)) ([.ref (G.2.1 0), .int a1] : List Value).toArray s 24340 146040 (gAr (gNo G) s.heap.size)) (F0 m 1184 ls [.int t0]) := by
    intro S x1 x2 x3 x6 x21 x22 x28 x29 t0 H locs ls cells slots hcl hsl hw hS hl hf
    unfold B_hands_1184 at hf
    refine lv_istore (lv' := [(30, .int t0), (0, .ref (G.2.1 0)), (1, .int x1), (2, .int x2), (3, .int x3), (6, .int x6), (21, .int x21), (22, .int x22), (28, .int x28), (29, .int x29)]) cx.1 cx.2.1 dL_hands_1184 hl (by decide) rfl (fun ls hl => ?_)
    refine lv_iload cx.1 cx.2.1 dL_hands_1186 (lv_at hl 7 rfl) ?_
    refine lv_bipush (v := (-9 : Int32)) cx.1 cx.2.1 dL_hands_1188 (by decide) ?_
    refine lv_icmp_ne (tgt := 1204) cx.1 cx.2.1 dL_hands_1190 (by decide) (fun hc => ?_) (fun hc => ?_)
    · rw [if_neg hc] at hf
      refine lv_iconst (v := (0 : Int32)) cx.1 cx.2.1 dL_hands_1204 (by decide) ?_
      exact hB_1205 S x1 x2 x3 x6 x21 x28 x29 t0 (0 : Int32) _ _ _ _ _ (by omega) (by omega) hw hS (lv_sub hl [1, 2, 3, 4, 5, 6, 8, 9, 0] rfl) hf
    · rw [if_pos hc] at hf
      refine lv_iload cx.1 cx.2.1 dL_hands_1193 (lv_at hl 0 rfl) ?_
      refine lv_bipush (v := (-9 : Int32)) cx.1 cx.2.1 dL_hands_1195 (by decide) ?_
      refine lv_icmp_eq (tgt := 1204) cx.1 cx.2.1 dL_hands_1197 (by decide) (fun hc => ?_) (fun hc => ?_)
      · rw [if_pos hc] at hf
        refine lv_iconst (v := (0 : Int32)) cx.1 cx.2.1 dL_hands_1204 (by decide) ?_
        exact hB_1205 S x1 x2 x3 x6 x21 x28 x29 t0 (0 : Int32) _ _ _ _ _ (by omega) (by omega) hw hS (lv_sub hl [1, 2, 3, 4, 5, 6, 8, 9, 0] rfl) hf
      · rw [if_neg hc] at hf
        refine lv_iconst (v := (1 : Int32)) cx.1 cx.2.1 dL_hands_1200 (by decide) ?_
        refine lv_goto (tgt := 1205) cx.1 cx.2.1 dL_hands_1201 (by decide) ?_
        exact hB_1205 S x1 x2 x3 x6 x21 x28 x29 t0 (1 : Int32) _ _ _ _ _ (by omega) (by omega) hw hS (lv_sub hl [1, 2, 3, 4, 5, 6, 8, 9, 0] rfl) hf
  have hL_1119 : ∀ (n : Nat), ∀ (S : At) (x1 : Int32) (x2 : Int32) (x3 : Int32) (x6 : Int32) (x14 : Int32) (x21 : Int32) (x22 : Int32) (x25 : Int32) (x26 : Int32) (x28 : Int32) (x29 : Int32) (x30 : Int32) (H : Heap) (locs : List Loc) (ls : Array Slot) (cells slots : Nat), cells + (18455 + 6 * n) ≤ 24340 → slots + (110730 + 36 * n) ≤ 146040 → gPA G S H → va_S (gAr (gNo G) s.heap.size) s.heap H locs → lv_has ls 35 [(0, .ref (G.2.1 0)), (1, .int x1), (2, .int x2), (3, .int x3), (6, .int x6), (14, .int x14), (21, .int x21), (22, .int x22), (25, .int x25), (26, .int x26), (28, .int x28), (29, .int x29), (30, .int x30)] → L_hands_1119 n S x1 x2 x3 x6 x14 x21 x22 x25 x26 x28 x29 x30 = some (r, S') → W p l e (gRx 12 247 24340 146040) s m ([.ref (G.2.1 0), .int a1] : List Value).toArray below meth c H locs cells slots (MQ below (gQr (gPA G S') (some (.int r)) (gAr (gNo G) s.heap.size)) ([.ref (G.2.1 0), .int a1] : List Value).toArray s 24340 146040 (gAr (gNo G) s.heap.size)) (F0 m 1119 ls []) := by
    intro n_1119
    induction n_1119 with
    | zero => intro S x1 x2 x3 x6 x14 x21 x22 x25 x26 x28 x29 x30 H locs ls cells slots hcl hsl hw hS hl hf; cases hf
    | succ n_1119 hK1119 =>
      intro S x1 x2 x3 x6 x14 x21 x22 x25 x26 x28 x29 x30 H locs ls cells slots hcl hsl hw hS hl hf
      have hf : Lb_hands_1119 (L_hands_1119 n_1119) S x1 x2 x3 x6 x14 x21 x22 x25 x26 x28 x29 x30 = some (r, S') := hf
      unfold Lb_hands_1119 at hf
      refine lv_iload cx.1 cx.2.1 dL_hands_1119 (lv_at hl 12 rfl) ?_
      refine lv_iload cx.1 cx.2.1 dL_hands_1121 (lv_at hl 5 rfl) ?_
      refine lv_icmp_ge (tgt := 1160) cx.1 cx.2.1 dL_hands_1123 (by decide) (fun hc => ?_) (fun hc => ?_)
      · rw [if_pos hc] at hf
        refine lv_iload cx.1 cx.2.1 dL_hands_1160 (lv_at hl 11 rfl) ?_
        refine lv_if_ne (tgt := 1170) cx.1 cx.2.1 dL_hands_1162 (by decide) (fun hc => ?_) (fun hc => ?_)
        · rw [if_neg hc] at hf
          refine lv_aload_n cx.1 cx.2.1 dL_hands_1170 rfl (lv_at hl 0 rfl) ?_
          refine lv_iload_n cx.1 cx.2.1 dL_hands_1171 rfl (lv_at hl 3 rfl) ?_
          refine lv_iload cx.1 cx.2.1 dL_hands_1172 (lv_at hl 8 rfl) ?_
          refine lv_iload cx.1 cx.2.1 dL_hands_1174 (lv_at hl 9 rfl) ?_
          refine lv_iconst (v := (4 : Int32)) cx.1 cx.2.1 dL_hands_1176 (by decide) ?_
          refine lv_iload cx.1 cx.2.1 dL_hands_1177 (lv_at hl 11 rfl) ?_
          refine lv_imul cx.1 cx.2.1 dL_hands_1179 ?_
          refine lv_iconst (v := (0 : Int32)) cx.1 cx.2.1 dL_hands_1180 (by decide) ?_
          obtain ⟨v_21, S_22, hv, hf⟩ := gbs_some hf
          refine a_SW (As := [.ref (G.2.1 0), .int x3, .int x25, .int x26, .int ((4 : Int32) * x29), .int (0 : Int32)]) (rest := []) cx hX hZ hw hS (a_tryWay l hst G x3 x25 x26 ((4 : Int32) * x29) (0 : Int32) S v_21 S_22 hv) gw_214 gw_187 gyw_L_tryWay ⟨by decide, by decide⟩ ⟨Nat.le_of_ble_eq_true rfl, Nat.le_of_ble_eq_true rfl⟩ (show cells + 6 ≤ 24340 ∧ slots + 36 ≤ 146040 from ⟨by omega, by omega⟩) rfl hl.1 rfl (Nat.le_of_ble_eq_true rfl) dL_hands_1181 (fun H locs hw hS => ?_)
          refine W.eq (g2 := F0 m 1184 ls [.int v_21]) rfl ?_
          exact hB_1184 S_22 x1 x2 x3 x6 x21 x22 x28 x29 v_21 _ _ _ _ _ (by omega) (by omega) hw hS (lv_sub hl [0, 1, 2, 3, 4, 6, 7, 10, 11] rfl) hf
        · rw [if_pos hc] at hf
          refine lv_bipush (v := (-9 : Int32)) cx.1 cx.2.1 dL_hands_1165 (by decide) ?_
          refine lv_goto (tgt := 1184) cx.1 cx.2.1 dL_hands_1167 (by decide) ?_
          exact hB_1184 S x1 x2 x3 x6 x21 x22 x28 x29 (-9 : Int32) _ _ _ _ _ (by omega) (by omega) hw hS (lv_sub hl [0, 1, 2, 3, 4, 6, 7, 10, 11] rfl) hf
      · rw [if_neg hc] at hf
        refine lv_aload_n cx.1 cx.2.1 dL_hands_1126 rfl (lv_at hl 0 rfl) ?_
        refine lv_iload_n cx.1 cx.2.1 dL_hands_1127 rfl (lv_at hl 3 rfl) ?_
        refine lv_iload cx.1 cx.2.1 dL_hands_1128 (lv_at hl 12 rfl) ?_
        refine lv_iconst (v := (0 : Int32)) cx.1 cx.2.1 dL_hands_1130 (by decide) ?_
        obtain ⟨v_23, S_24, hv, hf⟩ := gbs_some hf
        refine a_SW (As := [.ref (G.2.1 0), .int x3, .int x30, .int (0 : Int32)]) (rest := []) cx hX hZ hw hS (a_tryTrain l hst G x3 x30 (0 : Int32) S v_23 S_24 hv) gw_389 gw_187 gyw_L_tryTrain ⟨by decide, by decide⟩ ⟨Nat.le_of_ble_eq_true rfl, Nat.le_of_ble_eq_true rfl⟩ (show cells + 3 ≤ 24340 ∧ slots + 18 ≤ 146040 from ⟨by omega, by omega⟩) rfl hl.1 rfl (Nat.le_of_ble_eq_true rfl) dL_hands_1131 (fun H locs hw hS => ?_)
        refine W.eq (g2 := F0 m 1134 ls [.int v_23]) rfl ?_
        refine lv_iload cx.1 cx.2.1 dL_hands_1134 (lv_at hl 11 rfl) ?_
        refine lv_icmp_le (tgt := 1150) cx.1 cx.2.1 dL_hands_1136 (by decide) (fun hc => ?_) (fun hc => ?_)
        · rw [if_pos hc] at hf
          refine lv_iload cx.1 cx.2.1 dL_hands_1150 (lv_at hl 11 rfl) ?_
          refine lv_istore (lv' := [(29, .int x29), (0, .ref (G.2.1 0)), (1, .int x1), (2, .int x2), (3, .int x3), (6, .int x6), (14, .int x14), (21, .int x21), (22, .int x22), (25, .int x25), (26, .int x26), (28, .int x28), (30, .int x30)]) cx.1 cx.2.1 dL_hands_1152 hl (by decide) rfl (fun ls hl => ?_)
          obtain ⟨x30_25, ex30_25, hf⟩ := gvi_ex hf
          refine lv_iinc (v := x30_25) (lv' := [(30, .int x30_25), (29, .int x29), (0, .ref (G.2.1 0)), (1, .int x1), (2, .int x2), (3, .int x3), (6, .int x6), (14, .int x14), (21, .int x21), (22, .int x22), (25, .int x25), (26, .int x26), (28, .int x28)]) cx.1 cx.2.1 dL_hands_1154 hl (k := 12) rfl (by rw [← ex30_25]; rfl) (by decide) rfl (fun ls hl => ?_)
          refine lv_goto (tgt := 1119) cx.1 cx.2.1 dL_hands_1157 (by decide) ?_
          exact hK1119 S_24 x1 x2 x3 x6 x14 x21 x22 x25 x26 x28 x29 x30_25 _ _ _ _ _ (by omega) (by omega) hw hS (lv_sub hl [2, 3, 4, 5, 6, 7, 8, 9, 10, 11, 12, 1, 0] rfl) hf
        · rw [if_neg hc] at hf
          refine lv_aload_n cx.1 cx.2.1 dL_hands_1139 rfl (lv_at hl 0 rfl) ?_
          refine lv_iload_n cx.1 cx.2.1 dL_hands_1140 rfl (lv_at hl 3 rfl) ?_
          refine lv_iload cx.1 cx.2.1 dL_hands_1141 (lv_at hl 12 rfl) ?_
          refine lv_iconst (v := (0 : Int32)) cx.1 cx.2.1 dL_hands_1143 (by decide) ?_
          obtain ⟨v_26, S_27, hv, hf⟩ := gbs_some hf
          refine a_SW (As := [.ref (G.2.1 0), .int x3, .int x30, .int (0 : Int32)]) (rest := []) cx hX hZ hw hS (a_tryTrain l hst G x3 x30 (0 : Int32) S_24 v_26 S_27 hv) gw_389 gw_187 gyw_L_tryTrain ⟨by decide, by decide⟩ ⟨Nat.le_of_ble_eq_true rfl, Nat.le_of_ble_eq_true rfl⟩ (show cells + 3 + 3 ≤ 24340 ∧ slots + 18 + 18 ≤ 146040 from ⟨by omega, by omega⟩) rfl hl.1 rfl (Nat.le_of_ble_eq_true rfl) dL_hands_1144 (fun H locs hw hS => ?_)
          refine W.eq (g2 := F0 m 1147 ls [.int v_26]) rfl ?_
          refine lv_goto (tgt := 1152) cx.1 cx.2.1 dL_hands_1147 (by decide) ?_
          refine lv_istore (lv' := [(29, .int v_26), (0, .ref (G.2.1 0)), (1, .int x1), (2, .int x2), (3, .int x3), (6, .int x6), (14, .int x14), (21, .int x21), (22, .int x22), (25, .int x25), (26, .int x26), (28, .int x28), (30, .int x30)]) cx.1 cx.2.1 dL_hands_1152 hl (by decide) rfl (fun ls hl => ?_)
          obtain ⟨x30_28, ex30_28, hf⟩ := gvi_ex hf
          refine lv_iinc (v := x30_28) (lv' := [(30, .int x30_28), (29, .int v_26), (0, .ref (G.2.1 0)), (1, .int x1), (2, .int x2), (3, .int x3), (6, .int x6), (14, .int x14), (21, .int x21), (22, .int x22), (25, .int x25), (26, .int x26), (28, .int x28)]) cx.1 cx.2.1 dL_hands_1154 hl (k := 12) rfl (by rw [← ex30_28]; rfl) (by decide) rfl (fun ls hl => ?_)
          refine lv_goto (tgt := 1119) cx.1 cx.2.1 dL_hands_1157 (by decide) ?_
          exact hK1119 S_27 x1 x2 x3 x6 x14 x21 x22 x25 x26 x28 v_26 x30_28 _ _ _ _ _ (by omega) (by omega) hw hS (lv_sub hl [2, 3, 4, 5, 6, 7, 8, 9, 10, 11, 12, 1, 0] rfl) hf
  have hB_1106 : ∀ (S : At) (x1 : Int32) (x2 : Int32) (x3 : Int32) (x6 : Int32) (x14 : Int32) (x21 : Int32) (x22 : Int32) (x25 : Int32) (x26 : Int32) (H : Heap) (locs : List Loc) (ls : Array Slot) (cells slots : Nat), cells + (18486) ≤ 24340 → slots + (110916) ≤ 146040 → gPA G S H → va_S (gAr (gNo G) s.heap.size) s.heap H locs → lv_has ls 35 [(0, .ref (G.2.1 0)), (1, .int x1), (2, .int x2), (3, .int x3), (6, .int x6), (14, .int x14), (21, .int x21), (22, .int x22), (25, .int x25), (26, .int x26)] → B_hands_1106 S x1 x2 x3 x6 x14 x21 x22 x25 x26 = some (r, S') → W p l e (gRx 12 247 24340 146040) s m ([.ref (G.2.1 0), .int a1] : List Value).toArray below meth c H locs cells slots (MQ below (gQr (gPA G S') (some (.int r)) (gAr (gNo G) s.heap.size)) ([.ref (G.2.1 0), .int a1] : List Value).toArray s 24340 146040 (gAr (gNo G) s.heap.size)) (F0 m 1106 ls []) := by
    intro S x1 x2 x3 x6 x14 x21 x22 x25 x26 H locs ls cells slots hcl hsl hw hS hl hf
    unfold B_hands_1106 at hf
    refine lv_aload_n cx.1 cx.2.1 dL_hands_1106 rfl (lv_at hl 0 rfl) ?_
    refine lv_iload_n cx.1 cx.2.1 dL_hands_1107 rfl (lv_at hl 3 rfl) ?_
    obtain ⟨v_29, S_30, hv, hf⟩ := gbs_some hf
    refine a_SW (As := [.ref (G.2.1 0), .int x3]) (rest := []) cx hX hZ hw hS (a_tryBestContract l hst G x3 S v_29 S_30 hv) gw_595 gw_187 gyw_L_tryBestContract ⟨by decide, by decide⟩ ⟨Nat.le_of_ble_eq_true rfl, Nat.le_of_ble_eq_true rfl⟩ (show cells + 1 ≤ 24340 ∧ slots + 6 ≤ 146040 from ⟨by omega, by omega⟩) rfl hl.1 rfl (Nat.le_of_ble_eq_true rfl) dL_hands_1108 (fun H locs hw hS => ?_)
    refine W.eq (g2 := F0 m 1111 ls [.int v_29]) rfl ?_
    refine lv_istore (lv' := [(28, .int v_29), (0, .ref (G.2.1 0)), (1, .int x1), (2, .int x2), (3, .int x3), (6, .int x6), (14, .int x14), (21, .int x21), (22, .int x22), (25, .int x25), (26, .int x26)]) cx.1 cx.2.1 dL_hands_1111 hl (by decide) rfl (fun ls hl => ?_)
    refine lv_iconst (v := (0 : Int32)) cx.1 cx.2.1 dL_hands_1113 (by decide) ?_
    refine lv_istore (lv' := [(29, .int (0 : Int32)), (28, .int v_29), (0, .ref (G.2.1 0)), (1, .int x1), (2, .int x2), (3, .int x3), (6, .int x6), (14, .int x14), (21, .int x21), (22, .int x22), (25, .int x25), (26, .int x26)]) cx.1 cx.2.1 dL_hands_1114 hl (by decide) rfl (fun ls hl => ?_)
    refine lv_iconst (v := (0 : Int32)) cx.1 cx.2.1 dL_hands_1116 (by decide) ?_
    refine lv_istore (lv' := [(30, .int (0 : Int32)), (29, .int (0 : Int32)), (28, .int v_29), (0, .ref (G.2.1 0)), (1, .int x1), (2, .int x2), (3, .int x3), (6, .int x6), (14, .int x14), (21, .int x21), (22, .int x22), (25, .int x25), (26, .int x26)]) cx.1 cx.2.1 dL_hands_1117 hl (by decide) rfl (fun ls hl => ?_)
    exact hL_1119 5 S_30 x1 x2 x3 x6 x14 x21 x22 x25 x26 v_29 (0 : Int32) (0 : Int32) _ _ _ _ _ (by omega) (by omega) hw hS (lv_sub hl [3, 4, 5, 6, 7, 8, 9, 10, 11, 12, 2, 1, 0] rfl) hf
  have hB_1083 : ∀ (S : At) (x1 : Int32) (x2 : Int32) (x3 : Int32) (x14 : Int32) (x21 : Int32) (x22 : Int32) (x25 : Int32) (x26 : Int32) (H : Heap) (locs : List Loc) (ls : Array Slot) (cells slots : Nat), cells + (19786) ≤ 24340 → slots + (118716) ≤ 146040 → gPA G S H → va_S (gAr (gNo G) s.heap.size) s.heap H locs → lv_has ls 35 [(0, .ref (G.2.1 0)), (1, .int x1), (2, .int x2), (3, .int x3), (14, .int x14), (21, .int x21), (22, .int x22), (25, .int x25), (26, .int x26)] → B_hands_1083 S x1 x2 x3 x14 x21 x22 x25 x26 = some (r, S') → W p l e (gRx 12 247 24340 146040) s m ([.ref (G.2.1 0), .int a1] : List Value).toArray below meth c H locs cells slots (MQ below (gQr (gPA G S') (some (.int r)) (gAr (gNo G) s.heap.size)) ([.ref (G.2.1 0), .int a1] : List Value).toArray s 24340 146040 (gAr (gNo G) s.heap.size)) (F0 m 1083 ls []) := by
    intro S x1 x2 x3 x14 x21 x22 x25 x26 H locs ls cells slots hcl hsl hw hS hl hf
    unfold B_hands_1083 at hf
    refine lv_aload_n cx.1 cx.2.1 dL_hands_1083 rfl (lv_at hl 0 rfl) ?_
    obtain ⟨v_31, S_32, hv, hf⟩ := gbs_some hf
    refine a_S (As := [.ref (G.2.1 0)]) (rest := []) cx hX hZ hw hS (a_sound l hst G S v_31 S_32 hv) gw_830 gyl_L_sound gil_L_sound ⟨Nat.le_of_ble_eq_true rfl, Nat.le_of_ble_eq_true rfl⟩ (show cells + 1298 ≤ 24340 ∧ slots + 7788 ≤ 146040 from ⟨by omega, by omega⟩) rfl hl.1 rfl (Nat.le_of_ble_eq_true rfl) dL_hands_1084 (fun H locs hw hS => ?_)
    refine W.eq (g2 := F0 m 1087 ls [.int v_31]) rfl ?_
    refine lv_if_eq (tgt := 1103) cx.1 cx.2.1 dL_hands_1087 (by decide) (fun hc => ?_) (fun hc => ?_)
    · rw [if_pos hc] at hf
      refine lv_iconst (v := (0 : Int32)) cx.1 cx.2.1 dL_hands_1103 (by decide) ?_
      refine lv_istore (lv' := [(6, .int (0 : Int32)), (0, .ref (G.2.1 0)), (1, .int x1), (2, .int x2), (3, .int x3), (14, .int x14), (21, .int x21), (22, .int x22), (25, .int x25), (26, .int x26)]) cx.1 cx.2.1 dL_hands_1104 hl (by decide) rfl (fun ls hl => ?_)
      exact hB_1106 S_32 x1 x2 x3 (0 : Int32) x14 x21 x22 x25 x26 _ _ _ _ _ (by omega) (by omega) hw hS (lv_sub hl [1, 2, 3, 4, 0, 5, 6, 7, 8, 9] rfl) hf
    · rw [if_neg hc] at hf
      refine lv_aload_n cx.1 cx.2.1 dL_hands_1090 rfl (lv_at hl 0 rfl) ?_
      refine lv_iconst (v := (0 : Int32)) cx.1 cx.2.1 dL_hands_1091 (by decide) ?_
      obtain ⟨v_33, S_34, hv, hf⟩ := gbs_some hf
      refine a_SW (As := [.ref (G.2.1 0), .int (0 : Int32)]) (rest := []) cx hX hZ hw hS (a_tryRestore l hst G (0 : Int32) S_32 v_33 S_34 hv) gw_792 gw_187 gyw_L_tryRestore ⟨by decide, by decide⟩ ⟨Nat.le_of_ble_eq_true rfl, Nat.le_of_ble_eq_true rfl⟩ (show cells + 1298 + 2 ≤ 24340 ∧ slots + 7788 + 12 ≤ 146040 from ⟨by omega, by omega⟩) rfl hl.1 rfl (Nat.le_of_ble_eq_true rfl) dL_hands_1092 (fun H locs hw hS => ?_)
      refine W.eq (g2 := F0 m 1095 ls [.int v_33]) rfl ?_
      refine lv_iload_n cx.1 cx.2.1 dL_hands_1095 rfl (lv_at hl 2 rfl) ?_
      refine lv_icmp_ne (tgt := 1103) cx.1 cx.2.1 dL_hands_1096 (by decide) (fun hc => ?_) (fun hc => ?_)
      · rw [if_neg hc] at hf
        refine lv_iconst (v := (0 : Int32)) cx.1 cx.2.1 dL_hands_1103 (by decide) ?_
        refine lv_istore (lv' := [(6, .int (0 : Int32)), (0, .ref (G.2.1 0)), (1, .int x1), (2, .int x2), (3, .int x3), (14, .int x14), (21, .int x21), (22, .int x22), (25, .int x25), (26, .int x26)]) cx.1 cx.2.1 dL_hands_1104 hl (by decide) rfl (fun ls hl => ?_)
        exact hB_1106 S_34 x1 x2 x3 (0 : Int32) x14 x21 x22 x25 x26 _ _ _ _ _ (by omega) (by omega) hw hS (lv_sub hl [1, 2, 3, 4, 0, 5, 6, 7, 8, 9] rfl) hf
      · rw [if_pos hc] at hf
        refine lv_iconst (v := (1 : Int32)) cx.1 cx.2.1 dL_hands_1099 (by decide) ?_
        refine lv_goto (tgt := 1104) cx.1 cx.2.1 dL_hands_1100 (by decide) ?_
        refine lv_istore (lv' := [(6, .int (1 : Int32)), (0, .ref (G.2.1 0)), (1, .int x1), (2, .int x2), (3, .int x3), (14, .int x14), (21, .int x21), (22, .int x22), (25, .int x25), (26, .int x26)]) cx.1 cx.2.1 dL_hands_1104 hl (by decide) rfl (fun ls hl => ?_)
        exact hB_1106 S_34 x1 x2 x3 (1 : Int32) x14 x21 x22 x25 x26 _ _ _ _ _ (by omega) (by omega) hw hS (lv_sub hl [1, 2, 3, 4, 0, 5, 6, 7, 8, 9] rfl) hf
  have hB_1064 : ∀ (S : At) (x1 : Int32) (x2 : Int32) (x3 : Int32) (x14 : Int32) (x21 : Int32) (x22 : Int32) (x25 : Int32) (x26 : Int32) (x28 : Int32) (x29 : Int32) (H : Heap) (locs : List Loc) (ls : Array Slot) (cells slots : Nat), cells + (19789) ≤ 24340 → slots + (118734) ≤ 146040 → gPA G S H → va_S (gAr (gNo G) s.heap.size) s.heap H locs → lv_has ls 35 [(0, .ref (G.2.1 0)), (1, .int x1), (2, .int x2), (3, .int x3), (14, .int x14), (21, .int x21), (22, .int x22), (25, .int x25), (26, .int x26), (28, .int x28), (29, .int x29)] → B_hands_1064 S x1 x2 x3 x14 x21 x22 x25 x26 x28 x29 = some (r, S') → W p l e (gRx 12 247 24340 146040) s m ([.ref (G.2.1 0), .int a1] : List Value).toArray below meth c H locs cells slots (MQ below (gQr (gPA G S') (some (.int r)) (gAr (gNo G) s.heap.size)) ([.ref (G.2.1 0), .int a1] : List Value).toArray s 24340 146040 (gAr (gNo G) s.heap.size)) (F0 m 1064 ls []) := by
    intro S x1 x2 x3 x14 x21 x22 x25 x26 x28 x29 H locs ls cells slots hcl hsl hw hS hl hf
    unfold B_hands_1064 at hf
    refine lv_iload cx.1 cx.2.1 dL_hands_1064 (lv_at hl 10 rfl) ?_
    refine lv_iconst (v := (3 : Int32)) cx.1 cx.2.1 dL_hands_1066 (by decide) ?_
    refine lv_icmp_ne (tgt := 1083) cx.1 cx.2.1 dL_hands_1067 (by decide) (fun hc => ?_) (fun hc => ?_)
    · rw [if_neg hc] at hf
      exact hB_1083 S x1 x2 x3 x14 x21 x22 x25 x26 _ _ _ _ _ (by omega) (by omega) hw hS (lv_sub hl [0, 1, 2, 3, 4, 5, 6, 7, 8] rfl) hf
    · rw [if_pos hc] at hf
      refine lv_aload_n cx.1 cx.2.1 dL_hands_1070 rfl (lv_at hl 0 rfl) ?_
      refine lv_iload cx.1 cx.2.1 dL_hands_1071 (lv_at hl 6 rfl) ?_
      refine lv_iload cx.1 cx.2.1 dL_hands_1073 (lv_at hl 9 rfl) ?_
      refine lv_iconst (v := (1 : Int32)) cx.1 cx.2.1 dL_hands_1075 (by decide) ?_
      obtain ⟨v_35, S_36, hv, hf⟩ := gbs_some hf
      refine a_SW (As := [.ref (G.2.1 0), .int x22, .int x28, .int (1 : Int32)]) (rest := []) cx hX hZ hw hS (a_tryTrain l hst G x22 x28 (1 : Int32) S v_35 S_36 hv) gw_389 gw_187 gyw_L_tryTrain ⟨by decide, by decide⟩ ⟨Nat.le_of_ble_eq_true rfl, Nat.le_of_ble_eq_true rfl⟩ (show cells + 3 ≤ 24340 ∧ slots + 18 ≤ 146040 from ⟨by omega, by omega⟩) rfl hl.1 rfl (Nat.le_of_ble_eq_true rfl) dL_hands_1076 (fun H locs hw hS => ?_)
      refine W.eq (g2 := F0 m 1079 ls [.int v_35]) rfl ?_
      refine lv_iconst (v := (1 : Int32)) cx.1 cx.2.1 dL_hands_1079 (by decide) ?_
      refine lv_icmp_ne (tgt := 1103) cx.1 cx.2.1 dL_hands_1080 (by decide) (fun hc => ?_) (fun hc => ?_)
      · rw [if_neg hc] at hf
        refine lv_iconst (v := (0 : Int32)) cx.1 cx.2.1 dL_hands_1103 (by decide) ?_
        refine lv_istore (lv' := [(6, .int (0 : Int32)), (0, .ref (G.2.1 0)), (1, .int x1), (2, .int x2), (3, .int x3), (14, .int x14), (21, .int x21), (22, .int x22), (25, .int x25), (26, .int x26), (28, .int x28), (29, .int x29)]) cx.1 cx.2.1 dL_hands_1104 hl (by decide) rfl (fun ls hl => ?_)
        exact hB_1106 S_36 x1 x2 x3 (0 : Int32) x14 x21 x22 x25 x26 _ _ _ _ _ (by omega) (by omega) hw hS (lv_sub hl [1, 2, 3, 4, 0, 5, 6, 7, 8, 9] rfl) hf
      · rw [if_pos hc] at hf
        exact hB_1083 S_36 x1 x2 x3 x14 x21 x22 x25 x26 _ _ _ _ _ (by omega) (by omega) hw hS (lv_sub hl [0, 1, 2, 3, 4, 5, 6, 7, 8] rfl) hf
  have hB_1047 : ∀ (S : At) (x1 : Int32) (x2 : Int32) (x3 : Int32) (x14 : Int32) (x21 : Int32) (x22 : Int32) (x25 : Int32) (x26 : Int32) (x28 : Int32) (x29 : Int32) (H : Heap) (locs : List Loc) (ls : Array Slot) (cells slots : Nat), cells + (19791) ≤ 24340 → slots + (118746) ≤ 146040 → gPA G S H → va_S (gAr (gNo G) s.heap.size) s.heap H locs → lv_has ls 35 [(0, .ref (G.2.1 0)), (1, .int x1), (2, .int x2), (3, .int x3), (14, .int x14), (21, .int x21), (22, .int x22), (25, .int x25), (26, .int x26), (28, .int x28), (29, .int x29)] → B_hands_1047 S x1 x2 x3 x14 x21 x22 x25 x26 x28 x29 = some (r, S') → W p l e (gRx 12 247 24340 146040) s m ([.ref (G.2.1 0), .int a1] : List Value).toArray below meth c H locs cells slots (MQ below (gQr (gPA G S') (some (.int r)) (gAr (gNo G) s.heap.size)) ([.ref (G.2.1 0), .int a1] : List Value).toArray s 24340 146040 (gAr (gNo G) s.heap.size)) (F0 m 1047 ls []) := by
    intro S x1 x2 x3 x14 x21 x22 x25 x26 x28 x29 H locs ls cells slots hcl hsl hw hS hl hf
    unfold B_hands_1047 at hf
    refine lv_iload cx.1 cx.2.1 dL_hands_1047 (lv_at hl 10 rfl) ?_
    refine lv_iconst (v := (2 : Int32)) cx.1 cx.2.1 dL_hands_1049 (by decide) ?_
    refine lv_icmp_ne (tgt := 1064) cx.1 cx.2.1 dL_hands_1050 (by decide) (fun hc => ?_) (fun hc => ?_)
    · rw [if_neg hc] at hf
      exact hB_1064 S x1 x2 x3 x14 x21 x22 x25 x26 x28 x29 _ _ _ _ _ (by omega) (by omega) hw hS (lv_sub hl [0, 1, 2, 3, 4, 5, 6, 7, 8, 9, 10] rfl) hf
    · rw [if_pos hc] at hf
      refine lv_aload_n cx.1 cx.2.1 dL_hands_1053 rfl (lv_at hl 0 rfl) ?_
      refine lv_iload cx.1 cx.2.1 dL_hands_1054 (lv_at hl 5 rfl) ?_
      refine lv_iconst (v := (5 : Int32)) cx.1 cx.2.1 dL_hands_1056 (by decide) ?_
      obtain ⟨v_37, S_38, hv, hf⟩ := gbs_some hf
      refine a_SW (As := [.ref (G.2.1 0), .int x21, .int (5 : Int32)]) (rest := []) cx hX hZ hw hS (a_tryContract l hst G x21 (5 : Int32) S v_37 S_38 hv) gw_416 gw_187 gyw_L_tryContract ⟨by decide, by decide⟩ ⟨Nat.le_of_ble_eq_true rfl, Nat.le_of_ble_eq_true rfl⟩ (show cells + 2 ≤ 24340 ∧ slots + 12 ≤ 146040 from ⟨by omega, by omega⟩) rfl hl.1 rfl (Nat.le_of_ble_eq_true rfl) dL_hands_1057 (fun H locs hw hS => ?_)
      refine W.eq (g2 := F0 m 1060 ls [.int v_37]) rfl ?_
      refine lv_iconst (v := (1 : Int32)) cx.1 cx.2.1 dL_hands_1060 (by decide) ?_
      refine lv_icmp_ne (tgt := 1103) cx.1 cx.2.1 dL_hands_1061 (by decide) (fun hc => ?_) (fun hc => ?_)
      · rw [if_neg hc] at hf
        refine lv_iconst (v := (0 : Int32)) cx.1 cx.2.1 dL_hands_1103 (by decide) ?_
        refine lv_istore (lv' := [(6, .int (0 : Int32)), (0, .ref (G.2.1 0)), (1, .int x1), (2, .int x2), (3, .int x3), (14, .int x14), (21, .int x21), (22, .int x22), (25, .int x25), (26, .int x26), (28, .int x28), (29, .int x29)]) cx.1 cx.2.1 dL_hands_1104 hl (by decide) rfl (fun ls hl => ?_)
        exact hB_1106 S_38 x1 x2 x3 (0 : Int32) x14 x21 x22 x25 x26 _ _ _ _ _ (by omega) (by omega) hw hS (lv_sub hl [1, 2, 3, 4, 0, 5, 6, 7, 8, 9] rfl) hf
      · rw [if_pos hc] at hf
        exact hB_1064 S_38 x1 x2 x3 x14 x21 x22 x25 x26 x28 x29 _ _ _ _ _ (by omega) (by omega) hw hS (lv_sub hl [0, 1, 2, 3, 4, 5, 6, 7, 8, 9, 10] rfl) hf
  have hB_1034 : ∀ (S : At) (x1 : Int32) (x2 : Int32) (x3 : Int32) (x14 : Int32) (x21 : Int32) (x22 : Int32) (x25 : Int32) (x26 : Int32) (x28 : Int32) (x29 : Int32) (x32 : Int32) (H : Heap) (locs : List Loc) (ls : Array Slot) (cells slots : Nat), cells + (19791) ≤ 24340 → slots + (118746) ≤ 146040 → gPA G S H → va_S (gAr (gNo G) s.heap.size) s.heap H locs → lv_has ls 35 [(0, .ref (G.2.1 0)), (1, .int x1), (2, .int x2), (3, .int x3), (14, .int x14), (21, .int x21), (22, .int x22), (25, .int x25), (26, .int x26), (28, .int x28), (29, .int x29), (32, .int x32)] → B_hands_1034 S x1 x2 x3 x14 x21 x22 x25 x26 x28 x29 x32 = some (r, S') → W p l e (gRx 12 247 24340 146040) s m ([.ref (G.2.1 0), .int a1] : List Value).toArray below meth c H locs cells slots (MQ below (gQr (gPA G S') (some (.int r)) (gAr (gNo G) s.heap.size)) ([.ref (G.2.1 0), .int a1] : List Value).toArray s 24340 146040 (gAr (gNo G) s.heap.size)) (F0 m 1034 ls []) := by
    intro S x1 x2 x3 x14 x21 x22 x25 x26 x28 x29 x32 H locs ls cells slots hcl hsl hw hS hl hf
    unfold B_hands_1034 at hf
    refine lv_iload cx.1 cx.2.1 dL_hands_1034 (lv_at hl 10 rfl) ?_
    refine lv_iconst (v := (4 : Int32)) cx.1 cx.2.1 dL_hands_1036 (by decide) ?_
    refine lv_icmp_ne (tgt := 1047) cx.1 cx.2.1 dL_hands_1037 (by decide) (fun hc => ?_) (fun hc => ?_)
    · rw [if_neg hc] at hf
      exact hB_1047 S x1 x2 x3 x14 x21 x22 x25 x26 x28 x29 _ _ _ _ _ (by omega) (by omega) hw hS (lv_sub hl [0, 1, 2, 3, 4, 5, 6, 7, 8, 9, 10] rfl) hf
    · rw [if_pos hc] at hf
      refine lv_iload cx.1 cx.2.1 dL_hands_1040 (lv_at hl 11 rfl) ?_
      refine lv_bipush (v := (-9 : Int32)) cx.1 cx.2.1 dL_hands_1042 (by decide) ?_
      refine lv_icmp_ne (tgt := 1103) cx.1 cx.2.1 dL_hands_1044 (by decide) (fun hc => ?_) (fun hc => ?_)
      · rw [if_neg hc] at hf
        refine lv_iconst (v := (0 : Int32)) cx.1 cx.2.1 dL_hands_1103 (by decide) ?_
        refine lv_istore (lv' := [(6, .int (0 : Int32)), (0, .ref (G.2.1 0)), (1, .int x1), (2, .int x2), (3, .int x3), (14, .int x14), (21, .int x21), (22, .int x22), (25, .int x25), (26, .int x26), (28, .int x28), (29, .int x29), (32, .int x32)]) cx.1 cx.2.1 dL_hands_1104 hl (by decide) rfl (fun ls hl => ?_)
        exact hB_1106 S x1 x2 x3 (0 : Int32) x14 x21 x22 x25 x26 _ _ _ _ _ (by omega) (by omega) hw hS (lv_sub hl [1, 2, 3, 4, 0, 5, 6, 7, 8, 9] rfl) hf
      · rw [if_pos hc] at hf
        exact hB_1047 S x1 x2 x3 x14 x21 x22 x25 x26 x28 x29 _ _ _ _ _ (by omega) (by omega) hw hS (lv_sub hl [0, 1, 2, 3, 4, 5, 6, 7, 8, 9, 10] rfl) hf
  have hB_946 : ∀ (S : At) (x1 : Int32) (x2 : Int32) (x3 : Int32) (x14 : Int32) (x21 : Int32) (x22 : Int32) (x25 : Int32) (x26 : Int32) (x28 : Int32) (x29 : Int32) (x30 : Int32) (x31 : Int32) (x32 : Int32) (x33 : Int32) (x34 : Int32) (t0 : Int32) (t1 : Int32) (H : Heap) (locs : List Loc) (ls : Array Slot) (cells slots : Nat), cells + (19803) ≤ 24340 → slots + (118818) ≤ 146040 → gPA G S H → va_S (gAr (gNo G) s.heap.size) s.heap H locs → lv_has ls 35 [(0, .ref (G.2.1 0)), (1, .int x1), (2, .int x2), (3, .int x3), (14, .int x14), (21, .int x21), (22, .int x22), (25, .int x25), (26, .int x26), (28, .int x28), (29, .int x29), (30, .int x30), (31, .int x31), (32, .int x32), (33, .int x33), (34, .int x34)] → B_hands_946 S x1 x2 x3 x14 x21 x22 x25 x26 x28 x29 x30 x31 x32 x33 x34 t0 t1 = some (r, S') → W p l e (gRx 12 247 24340 146040) s m ([.ref (G.2.1 0), .int a1] : List Value).toArray below meth c H locs cells slots (MQ below (gQr (gPA G S') (some (.int r)) (gAr (gNo G) s.heap.size)) ([.ref (G.2.1 0), .int a1] : List Value).toArray s 24340 146040 (gAr (gNo G) s.heap.size)) (F0 m 946 ls [.int t0, .int t1]) := by
    intro S x1 x2 x3 x14 x21 x22 x25 x26 x28 x29 x30 x31 x32 x33 x34 t0 t1 H locs ls cells slots hcl hsl hw hS hl hf
    unfold B_hands_946 at hf
    refine lv_icmp_ne (tgt := 1103) cx.1 cx.2.1 dL_hands_946 (by decide) (fun hc => ?_) (fun hc => ?_)
    · rw [if_neg hc] at hf
      refine lv_iconst (v := (0 : Int32)) cx.1 cx.2.1 dL_hands_1103 (by decide) ?_
      refine lv_istore (lv' := [(6, .int (0 : Int32)), (0, .ref (G.2.1 0)), (1, .int x1), (2, .int x2), (3, .int x3), (14, .int x14), (21, .int x21), (22, .int x22), (25, .int x25), (26, .int x26), (28, .int x28), (29, .int x29), (30, .int x30), (31, .int x31), (32, .int x32), (33, .int x33), (34, .int x34)]) cx.1 cx.2.1 dL_hands_1104 hl (by decide) rfl (fun ls hl => ?_)
      exact hB_1106 S x1 x2 x3 (0 : Int32) x14 x21 x22 x25 x26 _ _ _ _ _ (by omega) (by omega) hw hS (lv_sub hl [1, 2, 3, 4, 0, 5, 6, 7, 8, 9] rfl) hf
    · rw [if_pos hc] at hf
      refine lv_iload cx.1 cx.2.1 dL_hands_949 (lv_at hl 10 rfl) ?_
      refine lv_if_ne (tgt := 1034) cx.1 cx.2.1 dL_hands_951 (by decide) (fun hc => ?_) (fun hc => ?_)
      · rw [if_neg hc] at hf
        exact hB_1034 S x1 x2 x3 x14 x21 x22 x25 x26 x28 x29 x32 _ _ _ _ _ (by omega) (by omega) hw hS (lv_sub hl [0, 1, 2, 3, 4, 5, 6, 7, 8, 9, 10, 13] rfl) hf
      · rw [if_pos hc] at hf
        refine lv_aload_n cx.1 cx.2.1 dL_hands_954 rfl (lv_at hl 0 rfl) ?_
        refine lv_iload cx.1 cx.2.1 dL_hands_955 (lv_at hl 6 rfl) ?_
        refine lv_iconst (v := (0 : Int32)) cx.1 cx.2.1 dL_hands_957 (by decide) ?_
        obtain ⟨v_39, S_40, hv, hf⟩ := gbs_some hf
        refine a_SW (As := [.ref (G.2.1 0), .int x22, .int (0 : Int32)]) (rest := []) cx hX hZ hw hS (a_tryCompany l hst G x22 (0 : Int32) S v_39 S_40 hv) gw_349 gw_187 gyw_L_tryCompany ⟨by decide, by decide⟩ ⟨Nat.le_of_ble_eq_true rfl, Nat.le_of_ble_eq_true rfl⟩ (show cells + 2 ≤ 24340 ∧ slots + 12 ≤ 146040 from ⟨by omega, by omega⟩) rfl hl.1 rfl (Nat.le_of_ble_eq_true rfl) dL_hands_958 (fun H locs hw hS => ?_)
        refine W.eq (g2 := F0 m 961 ls [.int v_39]) rfl ?_
        refine lv_iload cx.1 cx.2.1 dL_hands_961 (lv_at hl 12 rfl) ?_
        refine lv_iload cx.1 cx.2.1 dL_hands_963 (lv_at hl 13 rfl) ?_
        refine lv_isub cx.1 cx.2.1 dL_hands_965 ?_
        refine lv_iload cx.1 cx.2.1 dL_hands_966 (lv_at hl 11 rfl) ?_
        refine lv_iadd cx.1 cx.2.1 dL_hands_968 ?_
        refine lv_icmp_ne (tgt := 1103) cx.1 cx.2.1 dL_hands_969 (by decide) (fun hc => ?_) (fun hc => ?_)
        · rw [if_neg hc] at hf
          refine lv_iconst (v := (0 : Int32)) cx.1 cx.2.1 dL_hands_1103 (by decide) ?_
          refine lv_istore (lv' := [(6, .int (0 : Int32)), (0, .ref (G.2.1 0)), (1, .int x1), (2, .int x2), (3, .int x3), (14, .int x14), (21, .int x21), (22, .int x22), (25, .int x25), (26, .int x26), (28, .int x28), (29, .int x29), (30, .int x30), (31, .int x31), (32, .int x32), (33, .int x33), (34, .int x34)]) cx.1 cx.2.1 dL_hands_1104 hl (by decide) rfl (fun ls hl => ?_)
          exact hB_1106 S_40 x1 x2 x3 (0 : Int32) x14 x21 x22 x25 x26 _ _ _ _ _ (by omega) (by omega) hw hS (lv_sub hl [1, 2, 3, 4, 0, 5, 6, 7, 8, 9] rfl) hf
        · rw [if_pos hc] at hf
          refine lv_aload_n cx.1 cx.2.1 dL_hands_972 rfl (lv_at hl 0 rfl) ?_
          refine lv_iload cx.1 cx.2.1 dL_hands_973 (lv_at hl 6 rfl) ?_
          refine lv_iconst (v := (5 : Int32)) cx.1 cx.2.1 dL_hands_975 (by decide) ?_
          obtain ⟨v_41, S_42, hv, hf⟩ := gbs_some hf
          refine a_SW (As := [.ref (G.2.1 0), .int x22, .int (5 : Int32)]) (rest := []) cx hX hZ hw hS (a_tryCompany l hst G x22 (5 : Int32) S_40 v_41 S_42 hv) gw_349 gw_187 gyw_L_tryCompany ⟨by decide, by decide⟩ ⟨Nat.le_of_ble_eq_true rfl, Nat.le_of_ble_eq_true rfl⟩ (show cells + 2 + 2 ≤ 24340 ∧ slots + 12 + 12 ≤ 146040 from ⟨by omega, by omega⟩) rfl hl.1 rfl (Nat.le_of_ble_eq_true rfl) dL_hands_976 (fun H locs hw hS => ?_)
          refine W.eq (g2 := F0 m 979 ls [.int v_41]) rfl ?_
          refine lv_iload cx.1 cx.2.1 dL_hands_979 (lv_at hl 14 rfl) ?_
          refine lv_icmp_ne (tgt := 1103) cx.1 cx.2.1 dL_hands_981 (by decide) (fun hc => ?_) (fun hc => ?_)
          · rw [if_neg hc] at hf
            refine lv_iconst (v := (0 : Int32)) cx.1 cx.2.1 dL_hands_1103 (by decide) ?_
            refine lv_istore (lv' := [(6, .int (0 : Int32)), (0, .ref (G.2.1 0)), (1, .int x1), (2, .int x2), (3, .int x3), (14, .int x14), (21, .int x21), (22, .int x22), (25, .int x25), (26, .int x26), (28, .int x28), (29, .int x29), (30, .int x30), (31, .int x31), (32, .int x32), (33, .int x33), (34, .int x34)]) cx.1 cx.2.1 dL_hands_1104 hl (by decide) rfl (fun ls hl => ?_)
            exact hB_1106 S_42 x1 x2 x3 (0 : Int32) x14 x21 x22 x25 x26 _ _ _ _ _ (by omega) (by omega) hw hS (lv_sub hl [1, 2, 3, 4, 0, 5, 6, 7, 8, 9] rfl) hf
          · rw [if_pos hc] at hf
            refine lv_aload_n cx.1 cx.2.1 dL_hands_984 rfl (lv_at hl 0 rfl) ?_
            refine lv_bipush (v := (6 : Int32)) cx.1 cx.2.1 dL_hands_985 (by decide) ?_
            obtain ⟨v_43, S_44, hv, hf⟩ := gbs_some hf
            refine a_SW (As := [.ref (G.2.1 0), .int (6 : Int32)]) (rest := []) cx hX hZ hw hS (a_tryAbout l hst G (6 : Int32) S_42 v_43 S_44 hv) gw_185 gw_187 gyw_L_tryAbout ⟨by decide, by decide⟩ ⟨Nat.le_of_ble_eq_true rfl, Nat.le_of_ble_eq_true rfl⟩ (show cells + 2 + 2 + 1 ≤ 24340 ∧ slots + 12 + 12 + 6 ≤ 146040 from ⟨by omega, by omega⟩) rfl hl.1 rfl (Nat.le_of_ble_eq_true rfl) dL_hands_987 (fun H locs hw hS => ?_)
            refine W.eq (g2 := F0 m 990 ls [.int v_43]) rfl ?_
            refine lv_iload cx.1 cx.2.1 dL_hands_990 (lv_at hl 15 rfl) ?_
            refine lv_iload cx.1 cx.2.1 dL_hands_992 (lv_at hl 13 rfl) ?_
            refine lv_iadd cx.1 cx.2.1 dL_hands_994 ?_
            refine lv_icmp_ne (tgt := 1103) cx.1 cx.2.1 dL_hands_995 (by decide) (fun hc => ?_) (fun hc => ?_)
            · rw [if_neg hc] at hf
              refine lv_iconst (v := (0 : Int32)) cx.1 cx.2.1 dL_hands_1103 (by decide) ?_
              refine lv_istore (lv' := [(6, .int (0 : Int32)), (0, .ref (G.2.1 0)), (1, .int x1), (2, .int x2), (3, .int x3), (14, .int x14), (21, .int x21), (22, .int x22), (25, .int x25), (26, .int x26), (28, .int x28), (29, .int x29), (30, .int x30), (31, .int x31), (32, .int x32), (33, .int x33), (34, .int x34)]) cx.1 cx.2.1 dL_hands_1104 hl (by decide) rfl (fun ls hl => ?_)
              exact hB_1106 S_44 x1 x2 x3 (0 : Int32) x14 x21 x22 x25 x26 _ _ _ _ _ (by omega) (by omega) hw hS (lv_sub hl [1, 2, 3, 4, 0, 5, 6, 7, 8, 9] rfl) hf
            · rw [if_pos hc] at hf
              refine lv_aload_n cx.1 cx.2.1 dL_hands_998 rfl (lv_at hl 0 rfl) ?_
              refine lv_iload cx.1 cx.2.1 dL_hands_999 (lv_at hl 5 rfl) ?_
              refine lv_iconst (v := (5 : Int32)) cx.1 cx.2.1 dL_hands_1001 (by decide) ?_
              obtain ⟨v_45, S_46, hv, hf⟩ := gbs_some hf
              refine a_SW (As := [.ref (G.2.1 0), .int x21, .int (5 : Int32)]) (rest := []) cx hX hZ hw hS (a_tryContract l hst G x21 (5 : Int32) S_44 v_45 S_46 hv) gw_416 gw_187 gyw_L_tryContract ⟨by decide, by decide⟩ ⟨Nat.le_of_ble_eq_true rfl, Nat.le_of_ble_eq_true rfl⟩ (show cells + 2 + 2 + 1 + 2 ≤ 24340 ∧ slots + 12 + 12 + 6 + 12 ≤ 146040 from ⟨by omega, by omega⟩) rfl hl.1 rfl (Nat.le_of_ble_eq_true rfl) dL_hands_1002 (fun H locs hw hS => ?_)
              refine W.eq (g2 := F0 m 1005 ls [.int v_45]) rfl ?_
              refine lv_iconst (v := (1 : Int32)) cx.1 cx.2.1 dL_hands_1005 (by decide) ?_
              refine lv_icmp_ne (tgt := 1103) cx.1 cx.2.1 dL_hands_1006 (by decide) (fun hc => ?_) (fun hc => ?_)
              · rw [if_neg hc] at hf
                refine lv_iconst (v := (0 : Int32)) cx.1 cx.2.1 dL_hands_1103 (by decide) ?_
                refine lv_istore (lv' := [(6, .int (0 : Int32)), (0, .ref (G.2.1 0)), (1, .int x1), (2, .int x2), (3, .int x3), (14, .int x14), (21, .int x21), (22, .int x22), (25, .int x25), (26, .int x26), (28, .int x28), (29, .int x29), (30, .int x30), (31, .int x31), (32, .int x32), (33, .int x33), (34, .int x34)]) cx.1 cx.2.1 dL_hands_1104 hl (by decide) rfl (fun ls hl => ?_)
                exact hB_1106 S_46 x1 x2 x3 (0 : Int32) x14 x21 x22 x25 x26 _ _ _ _ _ (by omega) (by omega) hw hS (lv_sub hl [1, 2, 3, 4, 0, 5, 6, 7, 8, 9] rfl) hf
              · rw [if_pos hc] at hf
                refine lv_aload_n cx.1 cx.2.1 dL_hands_1009 rfl (lv_at hl 0 rfl) ?_
                refine lv_iload cx.1 cx.2.1 dL_hands_1010 (lv_at hl 6 rfl) ?_
                refine lv_iload cx.1 cx.2.1 dL_hands_1012 (lv_at hl 9 rfl) ?_
                refine lv_iconst (v := (1 : Int32)) cx.1 cx.2.1 dL_hands_1014 (by decide) ?_
                obtain ⟨v_47, S_48, hv, hf⟩ := gbs_some hf
                refine a_SW (As := [.ref (G.2.1 0), .int x22, .int x28, .int (1 : Int32)]) (rest := []) cx hX hZ hw hS (a_tryTrain l hst G x22 x28 (1 : Int32) S_46 v_47 S_48 hv) gw_389 gw_187 gyw_L_tryTrain ⟨by decide, by decide⟩ ⟨Nat.le_of_ble_eq_true rfl, Nat.le_of_ble_eq_true rfl⟩ (show cells + 2 + 2 + 1 + 2 + 3 ≤ 24340 ∧ slots + 12 + 12 + 6 + 12 + 18 ≤ 146040 from ⟨by omega, by omega⟩) rfl hl.1 rfl (Nat.le_of_ble_eq_true rfl) dL_hands_1015 (fun H locs hw hS => ?_)
                refine W.eq (g2 := F0 m 1018 ls [.int v_47]) rfl ?_
                refine lv_iconst (v := (1 : Int32)) cx.1 cx.2.1 dL_hands_1018 (by decide) ?_
                refine lv_icmp_ne (tgt := 1103) cx.1 cx.2.1 dL_hands_1019 (by decide) (fun hc => ?_) (fun hc => ?_)
                · rw [if_neg hc] at hf
                  refine lv_iconst (v := (0 : Int32)) cx.1 cx.2.1 dL_hands_1103 (by decide) ?_
                  refine lv_istore (lv' := [(6, .int (0 : Int32)), (0, .ref (G.2.1 0)), (1, .int x1), (2, .int x2), (3, .int x3), (14, .int x14), (21, .int x21), (22, .int x22), (25, .int x25), (26, .int x26), (28, .int x28), (29, .int x29), (30, .int x30), (31, .int x31), (32, .int x32), (33, .int x33), (34, .int x34)]) cx.1 cx.2.1 dL_hands_1104 hl (by decide) rfl (fun ls hl => ?_)
                  exact hB_1106 S_48 x1 x2 x3 (0 : Int32) x14 x21 x22 x25 x26 _ _ _ _ _ (by omega) (by omega) hw hS (lv_sub hl [1, 2, 3, 4, 0, 5, 6, 7, 8, 9] rfl) hf
                · rw [if_pos hc] at hf
                  refine lv_aload_n cx.1 cx.2.1 dL_hands_1022 rfl (lv_at hl 0 rfl) ?_
                  refine lv_iload cx.1 cx.2.1 dL_hands_1023 (lv_at hl 5 rfl) ?_
                  refine lv_iload cx.1 cx.2.1 dL_hands_1025 (lv_at hl 9 rfl) ?_
                  obtain ⟨v_49, S_50, hv, hf⟩ := gbs_some hf
                  refine a_SW (As := [.ref (G.2.1 0), .int x21, .int x28]) (rest := []) cx hX hZ hw hS (a_tryWhyNot l hst G x21 x28 S_48 v_49 S_50 hv) gw_577 gw_187 gyw_L_tryWhyNot ⟨by decide, by decide⟩ ⟨Nat.le_of_ble_eq_true rfl, Nat.le_of_ble_eq_true rfl⟩ (show cells + 2 + 2 + 1 + 2 + 3 + 2 ≤ 24340 ∧ slots + 12 + 12 + 6 + 12 + 18 + 12 ≤ 146040 from ⟨by omega, by omega⟩) rfl hl.1 rfl (Nat.le_of_ble_eq_true rfl) dL_hands_1027 (fun H locs hw hS => ?_)
                  refine W.eq (g2 := F0 m 1030 ls [.int v_49]) rfl ?_
                  refine lv_iconst (v := (2 : Int32)) cx.1 cx.2.1 dL_hands_1030 (by decide) ?_
                  refine lv_icmp_ne (tgt := 1103) cx.1 cx.2.1 dL_hands_1031 (by decide) (fun hc => ?_) (fun hc => ?_)
                  · rw [if_neg hc] at hf
                    refine lv_iconst (v := (0 : Int32)) cx.1 cx.2.1 dL_hands_1103 (by decide) ?_
                    refine lv_istore (lv' := [(6, .int (0 : Int32)), (0, .ref (G.2.1 0)), (1, .int x1), (2, .int x2), (3, .int x3), (14, .int x14), (21, .int x21), (22, .int x22), (25, .int x25), (26, .int x26), (28, .int x28), (29, .int x29), (30, .int x30), (31, .int x31), (32, .int x32), (33, .int x33), (34, .int x34)]) cx.1 cx.2.1 dL_hands_1104 hl (by decide) rfl (fun ls hl => ?_)
                    exact hB_1106 S_50 x1 x2 x3 (0 : Int32) x14 x21 x22 x25 x26 _ _ _ _ _ (by omega) (by omega) hw hS (lv_sub hl [1, 2, 3, 4, 0, 5, 6, 7, 8, 9] rfl) hf
                  · rw [if_pos hc] at hf
                    exact hB_1034 S_50 x1 x2 x3 x14 x21 x22 x25 x26 x28 x29 x32 _ _ _ _ _ (by omega) (by omega) hw hS (lv_sub hl [0, 1, 2, 3, 4, 5, 6, 7, 8, 9, 10, 13] rfl) hf
  have hB_836 : ∀ (S : At) (x1 : Int32) (x2 : Int32) (x3 : Int32) (x14 : Int32) (x21 : Int32) (x22 : Int32) (x25 : Int32) (x26 : Int32) (x27 : Int32) (t0 : Int32) (H : Heap) (locs : List Loc) (ls : Array Slot) (cells slots : Nat), cells + (19824) ≤ 24340 → slots + (118944) ≤ 146040 → gPA G S H → va_S (gAr (gNo G) s.heap.size) s.heap H locs → lv_has ls 35 [(0, .ref (G.2.1 0)), (1, .int x1), (2, .int x2), (3, .int x3), (14, .int x14), (21, .int x21), (22, .int x22), (25, .int x25), (26, .int x26), (27, .int x27)] → B_hands_836 S x1 x2 x3 x14 x21 x22 x25 x26 x27 t0 = some (r, S') → W p l e (gRx 12 247 24340 146040) s m ([.ref (G.2.1 0), .int a1] : List Value).toArray below meth c H locs cells slots (MQ below (gQr (gPA G S') (some (.int r)) (gAr (gNo G) s.heap.size)) ([.ref (G.2.1 0), .int a1] : List Value).toArray s 24340 146040 (gAr (gNo G) s.heap.size)) (F0 m 836 ls [.int t0]) := by
    intro S x1 x2 x3 x14 x21 x22 x25 x26 x27 t0 H locs ls cells slots hcl hsl hw hS hl hf
    unfold B_hands_836 at hf
    refine lv_istore (lv' := [(6, .int t0), (0, .ref (G.2.1 0)), (1, .int x1), (2, .int x2), (3, .int x3), (14, .int x14), (21, .int x21), (22, .int x22), (25, .int x25), (26, .int x26), (27, .int x27)]) cx.1 cx.2.1 dL_hands_836 hl (by decide) rfl (fun ls hl => ?_)
    refine lv_iload cx.1 cx.2.1 dL_hands_838 (lv_at hl 10 rfl) ?_
    refine lv_if_le (tgt := 1106) cx.1 cx.2.1 dL_hands_840 (by decide) (fun hc => ?_) (fun hc => ?_)
    · rw [if_pos hc] at hf
      exact hB_1106 S x1 x2 x3 t0 x14 x21 x22 x25 x26 _ _ _ _ _ (by omega) (by omega) hw hS (lv_sub hl [1, 2, 3, 4, 0, 5, 6, 7, 8, 9] rfl) hf
    · rw [if_neg hc] at hf
      refine lv_iload cx.1 cx.2.1 dL_hands_843 (lv_at hl 0 rfl) ?_
      refine lv_if_eq (tgt := 1106) cx.1 cx.2.1 dL_hands_845 (by decide) (fun hc => ?_) (fun hc => ?_)
      · rw [if_pos hc] at hf
        exact hB_1106 S x1 x2 x3 t0 x14 x21 x22 x25 x26 _ _ _ _ _ (by omega) (by omega) hw hS (lv_sub hl [1, 2, 3, 4, 0, 5, 6, 7, 8, 9] rfl) hf
      · rw [if_neg hc] at hf
        refine lv_iload_n cx.1 cx.2.1 dL_hands_848 rfl (lv_at hl 2 rfl) ?_
        refine lv_bipush (v := (8 : Int32)) cx.1 cx.2.1 dL_hands_849 (by decide) ?_
        refine lv_idiv cx.1 cx.2.1 dL_hands_851 (by decide) ?_
        refine lv_iload cx.1 cx.2.1 dL_hands_852 (lv_at hl 10 rfl) ?_
        obtain ⟨hne, hf⟩ := gck_some hf
        refine lv_irem cx.1 cx.2.1 dL_hands_854 (by simpa using hne) ?_
        obtain ⟨x28_51, ex28_51, hf⟩ := gvi_ex hf
        refine W.eq (g2 := F0 m 855 ls [.int x28_51]) (by rw [← ex28_51]) ?_
        refine lv_istore (lv' := [(28, .int x28_51), (6, .int t0), (0, .ref (G.2.1 0)), (1, .int x1), (2, .int x2), (3, .int x3), (14, .int x14), (21, .int x21), (22, .int x22), (25, .int x25), (26, .int x26), (27, .int x27)]) cx.1 cx.2.1 dL_hands_855 hl (by decide) rfl (fun ls hl => ?_)
        refine lv_aload_n cx.1 cx.2.1 dL_hands_857 rfl (lv_at hl 2 rfl) ?_
        refine lv_iload cx.1 cx.2.1 dL_hands_858 (lv_at hl 7 rfl) ?_
        refine lv_iload cx.1 cx.2.1 dL_hands_860 (lv_at hl 0 rfl) ?_
        obtain ⟨v_52, S_53, hv, hf⟩ := gbs_some hf
        refine a_SW (As := [.ref (G.2.1 0), .int x21, .int x28_51]) (rest := []) cx hX hZ hw hS (a_tryWhyNot l hst G x21 x28_51 S v_52 S_53 hv) gw_577 gw_187 gyw_L_tryWhyNot ⟨by decide, by decide⟩ ⟨Nat.le_of_ble_eq_true rfl, Nat.le_of_ble_eq_true rfl⟩ (show cells + 2 ≤ 24340 ∧ slots + 12 ≤ 146040 from ⟨by omega, by omega⟩) rfl hl.1 rfl (Nat.le_of_ble_eq_true rfl) dL_hands_862 (fun H locs hw hS => ?_)
        refine W.eq (g2 := F0 m 865 ls [.int v_52]) rfl ?_
        refine lv_istore (lv' := [(29, .int v_52), (28, .int x28_51), (6, .int t0), (0, .ref (G.2.1 0)), (1, .int x1), (2, .int x2), (3, .int x3), (14, .int x14), (21, .int x21), (22, .int x22), (25, .int x25), (26, .int x26), (27, .int x27)]) cx.1 cx.2.1 dL_hands_865 hl (by decide) rfl (fun ls hl => ?_)
        refine lv_aload_n cx.1 cx.2.1 dL_hands_867 rfl (lv_at hl 3 rfl) ?_
        refine lv_iload cx.1 cx.2.1 dL_hands_868 (lv_at hl 8 rfl) ?_
        refine lv_iconst (v := (2 : Int32)) cx.1 cx.2.1 dL_hands_870 (by decide) ?_
        obtain ⟨v_54, S_55, hv, hf⟩ := gbs_some hf
        refine a_SW (As := [.ref (G.2.1 0), .int x21, .int (2 : Int32)]) (rest := []) cx hX hZ hw hS (a_tryContract l hst G x21 (2 : Int32) S_53 v_54 S_55 hv) gw_416 gw_187 gyw_L_tryContract ⟨by decide, by decide⟩ ⟨Nat.le_of_ble_eq_true rfl, Nat.le_of_ble_eq_true rfl⟩ (show cells + 2 + 2 ≤ 24340 ∧ slots + 12 + 12 ≤ 146040 from ⟨by omega, by omega⟩) rfl hl.1 rfl (Nat.le_of_ble_eq_true rfl) dL_hands_871 (fun H locs hw hS => ?_)
        refine W.eq (g2 := F0 m 874 ls [.int v_54]) rfl ?_
        refine lv_istore (lv' := [(30, .int v_54), (29, .int v_52), (28, .int x28_51), (6, .int t0), (0, .ref (G.2.1 0)), (1, .int x1), (2, .int x2), (3, .int x3), (14, .int x14), (21, .int x21), (22, .int x22), (25, .int x25), (26, .int x26), (27, .int x27)]) cx.1 cx.2.1 dL_hands_874 hl (by decide) rfl (fun ls hl => ?_)
        refine lv_aload_n cx.1 cx.2.1 dL_hands_876 rfl (lv_at hl 4 rfl) ?_
        refine lv_iload cx.1 cx.2.1 dL_hands_877 (lv_at hl 10 rfl) ?_
        refine lv_iconst (v := (0 : Int32)) cx.1 cx.2.1 dL_hands_879 (by decide) ?_
        obtain ⟨v_56, S_57, hv, hf⟩ := gbs_some hf
        refine a_SW (As := [.ref (G.2.1 0), .int x22, .int (0 : Int32)]) (rest := []) cx hX hZ hw hS (a_tryCompany l hst G x22 (0 : Int32) S_55 v_56 S_57 hv) gw_349 gw_187 gyw_L_tryCompany ⟨by decide, by decide⟩ ⟨Nat.le_of_ble_eq_true rfl, Nat.le_of_ble_eq_true rfl⟩ (show cells + 2 + 2 + 2 ≤ 24340 ∧ slots + 12 + 12 + 12 ≤ 146040 from ⟨by omega, by omega⟩) rfl hl.1 rfl (Nat.le_of_ble_eq_true rfl) dL_hands_880 (fun H locs hw hS => ?_)
        refine W.eq (g2 := F0 m 883 ls [.int v_56]) rfl ?_
        refine lv_istore (lv' := [(31, .int v_56), (30, .int v_54), (29, .int v_52), (28, .int x28_51), (6, .int t0), (0, .ref (G.2.1 0)), (1, .int x1), (2, .int x2), (3, .int x3), (14, .int x14), (21, .int x21), (22, .int x22), (25, .int x25), (26, .int x26), (27, .int x27)]) cx.1 cx.2.1 dL_hands_883 hl (by decide) rfl (fun ls hl => ?_)
        refine lv_aload_n cx.1 cx.2.1 dL_hands_885 rfl (lv_at hl 5 rfl) ?_
        refine lv_iload cx.1 cx.2.1 dL_hands_886 (lv_at hl 11 rfl) ?_
        refine lv_iload cx.1 cx.2.1 dL_hands_888 (lv_at hl 12 rfl) ?_
        refine lv_iload cx.1 cx.2.1 dL_hands_890 (lv_at hl 13 rfl) ?_
        refine lv_iconst (v := (4 : Int32)) cx.1 cx.2.1 dL_hands_892 (by decide) ?_
        refine lv_aload_n cx.1 cx.2.1 dL_hands_893 rfl (lv_at hl 5 rfl) ?_
        refine lv_iload cx.1 cx.2.1 dL_hands_894 (lv_at hl 11 rfl) ?_
        refine lv_iload cx.1 cx.2.1 dL_hands_896 (lv_at hl 3 rfl) ?_
        refine lv_iconst (v := (0 : Int32)) cx.1 cx.2.1 dL_hands_898 (by decide) ?_
        obtain ⟨v_58, S_59, hv, hf⟩ := gbs_some hf
        refine a_SW (As := [.ref (G.2.1 0), .int x22, .int x28_51, .int (0 : Int32)]) (rest := [.int (4 : Int32), .int x26, .int x25, .int x22, .ref (G.2.1 0)]) cx hX hZ hw hS (a_tryTrain l hst G x22 x28_51 (0 : Int32) S_57 v_58 S_59 hv) gw_389 gw_187 gyw_L_tryTrain ⟨by decide, by decide⟩ ⟨Nat.le_of_ble_eq_true rfl, Nat.le_of_ble_eq_true rfl⟩ (show cells + 2 + 2 + 2 + 3 ≤ 24340 ∧ slots + 12 + 12 + 12 + 18 ≤ 146040 from ⟨by omega, by omega⟩) rfl hl.1 rfl (Nat.le_of_ble_eq_true rfl) dL_hands_899 (fun H locs hw hS => ?_)
        refine W.eq (g2 := F0 m 902 ls [.int v_58, .int (4 : Int32), .int x26, .int x25, .int x22, .ref (G.2.1 0)]) rfl ?_
        refine lv_imul cx.1 cx.2.1 dL_hands_902 ?_
        refine lv_iconst (v := (0 : Int32)) cx.1 cx.2.1 dL_hands_903 (by decide) ?_
        obtain ⟨v_60, S_61, hv, hf⟩ := gbs_some hf
        refine a_SW (As := [.ref (G.2.1 0), .int x22, .int x25, .int x26, .int ((4 : Int32) * v_58), .int (0 : Int32)]) (rest := []) cx hX hZ hw hS (a_tryWay l hst G x22 x25 x26 ((4 : Int32) * v_58) (0 : Int32) S_59 v_60 S_61 hv) gw_214 gw_187 gyw_L_tryWay ⟨by decide, by decide⟩ ⟨Nat.le_of_ble_eq_true rfl, Nat.le_of_ble_eq_true rfl⟩ (show cells + 2 + 2 + 2 + 3 + 6 ≤ 24340 ∧ slots + 12 + 12 + 12 + 18 + 36 ≤ 146040 from ⟨by omega, by omega⟩) rfl hl.1 rfl (Nat.le_of_ble_eq_true rfl) dL_hands_904 (fun H locs hw hS => ?_)
        refine W.eq (g2 := F0 m 907 ls [.int v_60]) rfl ?_
        refine lv_istore (lv' := [(32, .int v_60), (31, .int v_56), (30, .int v_54), (29, .int v_52), (28, .int x28_51), (6, .int t0), (0, .ref (G.2.1 0)), (1, .int x1), (2, .int x2), (3, .int x3), (14, .int x14), (21, .int x21), (22, .int x22), (25, .int x25), (26, .int x26), (27, .int x27)]) cx.1 cx.2.1 dL_hands_907 hl (by decide) rfl (fun ls hl => ?_)
        refine lv_aload_n cx.1 cx.2.1 dL_hands_909 rfl (lv_at hl 6 rfl) ?_
        refine lv_iload cx.1 cx.2.1 dL_hands_910 (lv_at hl 12 rfl) ?_
        refine lv_iconst (v := (5 : Int32)) cx.1 cx.2.1 dL_hands_912 (by decide) ?_
        obtain ⟨v_62, S_63, hv, hf⟩ := gbs_some hf
        refine a_SW (As := [.ref (G.2.1 0), .int x22, .int (5 : Int32)]) (rest := []) cx hX hZ hw hS (a_tryCompany l hst G x22 (5 : Int32) S_61 v_62 S_63 hv) gw_349 gw_187 gyw_L_tryCompany ⟨by decide, by decide⟩ ⟨Nat.le_of_ble_eq_true rfl, Nat.le_of_ble_eq_true rfl⟩ (show cells + 2 + 2 + 2 + 3 + 6 + 2 ≤ 24340 ∧ slots + 12 + 12 + 12 + 18 + 36 + 12 ≤ 146040 from ⟨by omega, by omega⟩) rfl hl.1 rfl (Nat.le_of_ble_eq_true rfl) dL_hands_913 (fun H locs hw hS => ?_)
        refine W.eq (g2 := F0 m 916 ls [.int v_62]) rfl ?_
        refine lv_istore (lv' := [(33, .int v_62), (32, .int v_60), (31, .int v_56), (30, .int v_54), (29, .int v_52), (28, .int x28_51), (6, .int t0), (0, .ref (G.2.1 0)), (1, .int x1), (2, .int x2), (3, .int x3), (14, .int x14), (21, .int x21), (22, .int x22), (25, .int x25), (26, .int x26), (27, .int x27)]) cx.1 cx.2.1 dL_hands_916 hl (by decide) rfl (fun ls hl => ?_)
        refine lv_aload_n cx.1 cx.2.1 dL_hands_918 rfl (lv_at hl 7 rfl) ?_
        refine lv_bipush (v := (6 : Int32)) cx.1 cx.2.1 dL_hands_919 (by decide) ?_
        obtain ⟨v_64, S_65, hv, hf⟩ := gbs_some hf
        refine a_SW (As := [.ref (G.2.1 0), .int (6 : Int32)]) (rest := []) cx hX hZ hw hS (a_tryAbout l hst G (6 : Int32) S_63 v_64 S_65 hv) gw_185 gw_187 gyw_L_tryAbout ⟨by decide, by decide⟩ ⟨Nat.le_of_ble_eq_true rfl, Nat.le_of_ble_eq_true rfl⟩ (show cells + 2 + 2 + 2 + 3 + 6 + 2 + 1 ≤ 24340 ∧ slots + 12 + 12 + 12 + 18 + 36 + 12 + 6 ≤ 146040 from ⟨by omega, by omega⟩) rfl hl.1 rfl (Nat.le_of_ble_eq_true rfl) dL_hands_921 (fun H locs hw hS => ?_)
        refine W.eq (g2 := F0 m 924 ls [.int v_64]) rfl ?_
        refine lv_istore (lv' := [(34, .int v_64), (33, .int v_62), (32, .int v_60), (31, .int v_56), (30, .int v_54), (29, .int v_52), (28, .int x28_51), (6, .int t0), (0, .ref (G.2.1 0)), (1, .int x1), (2, .int x2), (3, .int x3), (14, .int x14), (21, .int x21), (22, .int x22), (25, .int x25), (26, .int x26), (27, .int x27)]) cx.1 cx.2.1 dL_hands_924 hl (by decide) rfl (fun ls hl => ?_)
        refine lv_aload_n cx.1 cx.2.1 dL_hands_926 rfl (lv_at hl 8 rfl) ?_
        refine lv_iload cx.1 cx.2.1 dL_hands_927 (lv_at hl 13 rfl) ?_
        refine lv_iload cx.1 cx.2.1 dL_hands_929 (lv_at hl 6 rfl) ?_
        obtain ⟨v_66, S_67, hv, hf⟩ := gbs_some hf
        refine a_SW (As := [.ref (G.2.1 0), .int x21, .int x28_51]) (rest := []) cx hX hZ hw hS (a_tryRun l hst G x21 x28_51 S_65 v_66 S_67 hv) gw_532 gw_187 gyw_L_tryRun ⟨by decide, by decide⟩ ⟨Nat.le_of_ble_eq_true rfl, Nat.le_of_ble_eq_true rfl⟩ (show cells + 2 + 2 + 2 + 3 + 6 + 2 + 1 + 3 ≤ 24340 ∧ slots + 12 + 12 + 12 + 18 + 36 + 12 + 6 + 18 ≤ 146040 from ⟨by omega, by omega⟩) rfl hl.1 rfl (Nat.le_of_ble_eq_true rfl) dL_hands_931 (fun H locs hw hS => ?_)
        refine W.eq (g2 := F0 m 934 ls [.int v_66]) rfl ?_
        refine lv_iload cx.1 cx.2.1 dL_hands_934 (lv_at hl 5 rfl) ?_
        refine lv_if_ne (tgt := 944) cx.1 cx.2.1 dL_hands_936 (by decide) (fun hc => ?_) (fun hc => ?_)
        · rw [if_neg hc] at hf
          refine lv_ldc cx.1 cx.2.1 cx.2.2.2.1 (cx.2.2.2.2.ts _ gw_3) dL_hands_944 ?_
          exact hB_946 S_67 x1 x2 x3 x14 x21 x22 x25 x26 x28_51 v_52 v_54 v_56 v_60 v_62 v_64 (-9999003 : Int32) v_66 _ _ _ _ _ (by omega) (by omega) hw hS (lv_sub hl [8, 9, 10, 11, 12, 13, 14, 15, 16, 6, 5, 4, 3, 2, 1, 0] rfl) hf
        · rw [if_pos hc] at hf
          refine lv_iload cx.1 cx.2.1 dL_hands_939 (lv_at hl 2 rfl) ?_
          refine lv_goto (tgt := 946) cx.1 cx.2.1 dL_hands_941 (by decide) ?_
          exact hB_946 S_67 x1 x2 x3 x14 x21 x22 x25 x26 x28_51 v_52 v_54 v_56 v_60 v_62 v_64 v_60 v_66 _ _ _ _ _ (by omega) (by omega) hw hS (lv_sub hl [8, 9, 10, 11, 12, 13, 14, 15, 16, 6, 5, 4, 3, 2, 1, 0] rfl) hf
  have hB_804 : ∀ (S : At) (x1 : Int32) (x2 : Int32) (x3 : Int32) (x6 : Int32) (x14 : Int32) (x21 : Int32) (x22 : Int32) (x25 : Int32) (x26 : Int32) (t0 : Int32) (H : Heap) (locs : List Loc) (ls : Array Slot) (cells slots : Nat), cells + (19826) ≤ 24340 → slots + (118956) ≤ 146040 → gPA G S H → va_S (gAr (gNo G) s.heap.size) s.heap H locs → lv_has ls 35 [(0, .ref (G.2.1 0)), (1, .int x1), (2, .int x2), (3, .int x3), (6, .int x6), (14, .int x14), (21, .int x21), (22, .int x22), (25, .int x25), (26, .int x26)] → B_hands_804 S x1 x2 x3 x6 x14 x21 x22 x25 x26 t0 = some (r, S') → W p l e (gRx 12 247 24340 146040) s m ([.ref (G.2.1 0), .int a1] : List Value).toArray below meth c H locs cells slots (MQ below (gQr (gPA G S') (some (.int r)) (gAr (gNo G) s.heap.size)) ([.ref (G.2.1 0), .int a1] : List Value).toArray s 24340 146040 (gAr (gNo G) s.heap.size)) (F0 m 804 ls [.int t0]) := by
    intro S x1 x2 x3 x6 x14 x21 x22 x25 x26 t0 H locs ls cells slots hcl hsl hw hS hl hf
    unfold B_hands_804 at hf
    refine lv_istore (lv' := [(27, .int t0), (0, .ref (G.2.1 0)), (1, .int x1), (2, .int x2), (3, .int x3), (6, .int x6), (14, .int x14), (21, .int x21), (22, .int x22), (25, .int x25), (26, .int x26)]) cx.1 cx.2.1 dL_hands_804 hl (by decide) rfl (fun ls hl => ?_)
    refine lv_iload cx.1 cx.2.1 dL_hands_806 (lv_at hl 5 rfl) ?_
    refine lv_if_eq (tgt := 835) cx.1 cx.2.1 dL_hands_808 (by decide) (fun hc => ?_) (fun hc => ?_)
    · rw [if_pos hc] at hf
      refine lv_iconst (v := (0 : Int32)) cx.1 cx.2.1 dL_hands_835 (by decide) ?_
      exact hB_836 S x1 x2 x3 x14 x21 x22 x25 x26 t0 (0 : Int32) _ _ _ _ _ (by omega) (by omega) hw hS (lv_sub hl [1, 2, 3, 4, 6, 7, 8, 9, 10, 0] rfl) hf
    · rw [if_neg hc] at hf
      refine lv_iload cx.1 cx.2.1 dL_hands_811 (lv_at hl 8 rfl) ?_
      refine lv_bipush (v := (-9 : Int32)) cx.1 cx.2.1 dL_hands_813 (by decide) ?_
      refine lv_icmp_eq (tgt := 831) cx.1 cx.2.1 dL_hands_815 (by decide) (fun hc => ?_) (fun hc => ?_)
      · rw [if_pos hc] at hf
        refine lv_iconst (v := (1 : Int32)) cx.1 cx.2.1 dL_hands_831 (by decide) ?_
        refine lv_goto (tgt := 836) cx.1 cx.2.1 dL_hands_832 (by decide) ?_
        exact hB_836 S x1 x2 x3 x14 x21 x22 x25 x26 t0 (1 : Int32) _ _ _ _ _ (by omega) (by omega) hw hS (lv_sub hl [1, 2, 3, 4, 6, 7, 8, 9, 10, 0] rfl) hf
      · rw [if_neg hc] at hf
        refine lv_aload_n cx.1 cx.2.1 dL_hands_818 rfl (lv_at hl 1 rfl) ?_
        refine lv_iload cx.1 cx.2.1 dL_hands_819 (lv_at hl 7 rfl) ?_
        refine lv_iload cx.1 cx.2.1 dL_hands_821 (lv_at hl 0 rfl) ?_
        obtain ⟨v_68, S_69, hv, hf⟩ := gbs_some hf
        refine a_SW (As := [.ref (G.2.1 0), .int x21, .int t0]) (rest := []) cx hX hZ hw hS (a_tryWhyNot l hst G x21 t0 S v_68 S_69 hv) gw_577 gw_187 gyw_L_tryWhyNot ⟨by decide, by decide⟩ ⟨Nat.le_of_ble_eq_true rfl, Nat.le_of_ble_eq_true rfl⟩ (show cells + 2 ≤ 24340 ∧ slots + 12 ≤ 146040 from ⟨by omega, by omega⟩) rfl hl.1 rfl (Nat.le_of_ble_eq_true rfl) dL_hands_823 (fun H locs hw hS => ?_)
        refine W.eq (g2 := F0 m 826 ls [.int v_68]) rfl ?_
        refine lv_ldc cx.1 cx.2.1 cx.2.2.2.1 (cx.2.2.2.2.ts _ gw_218) dL_hands_826 ?_
        refine lv_icmp_ne (tgt := 835) cx.1 cx.2.1 dL_hands_828 (by decide) (fun hc => ?_) (fun hc => ?_)
        · rw [if_neg hc] at hf
          refine lv_iconst (v := (0 : Int32)) cx.1 cx.2.1 dL_hands_835 (by decide) ?_
          exact hB_836 S_69 x1 x2 x3 x14 x21 x22 x25 x26 t0 (0 : Int32) _ _ _ _ _ (by omega) (by omega) hw hS (lv_sub hl [1, 2, 3, 4, 6, 7, 8, 9, 10, 0] rfl) hf
        · rw [if_pos hc] at hf
          refine lv_iconst (v := (1 : Int32)) cx.1 cx.2.1 dL_hands_831 (by decide) ?_
          refine lv_goto (tgt := 836) cx.1 cx.2.1 dL_hands_832 (by decide) ?_
          exact hB_836 S_69 x1 x2 x3 x14 x21 x22 x25 x26 t0 (1 : Int32) _ _ _ _ _ (by omega) (by omega) hw hS (lv_sub hl [1, 2, 3, 4, 6, 7, 8, 9, 10, 0] rfl) hf
  have hB_784 : ∀ (S : At) (x1 : Int32) (x2 : Int32) (x3 : Int32) (x14 : Int32) (x21 : Int32) (x22 : Int32) (x25 : Int32) (x26 : Int32) (t0 : Int32) (H : Heap) (locs : List Loc) (ls : Array Slot) (cells slots : Nat), cells + (19828) ≤ 24340 → slots + (118968) ≤ 146040 → gPA G S H → va_S (gAr (gNo G) s.heap.size) s.heap H locs → lv_has ls 35 [(0, .ref (G.2.1 0)), (1, .int x1), (2, .int x2), (3, .int x3), (14, .int x14), (21, .int x21), (22, .int x22), (25, .int x25), (26, .int x26)] → B_hands_784 S x1 x2 x3 x14 x21 x22 x25 x26 t0 = some (r, S') → W p l e (gRx 12 247 24340 146040) s m ([.ref (G.2.1 0), .int a1] : List Value).toArray below meth c H locs cells slots (MQ below (gQr (gPA G S') (some (.int r)) (gAr (gNo G) s.heap.size)) ([.ref (G.2.1 0), .int a1] : List Value).toArray s 24340 146040 (gAr (gNo G) s.heap.size)) (F0 m 784 ls [.int t0]) := by
    intro S x1 x2 x3 x14 x21 x22 x25 x26 t0 H locs ls cells slots hcl hsl hw hS hl hf
    unfold B_hands_784 at hf
    refine lv_istore (lv' := [(6, .int t0), (0, .ref (G.2.1 0)), (1, .int x1), (2, .int x2), (3, .int x3), (14, .int x14), (21, .int x21), (22, .int x22), (25, .int x25), (26, .int x26)]) cx.1 cx.2.1 dL_hands_784 hl (by decide) rfl (fun ls hl => ?_)
    refine lv_iload cx.1 cx.2.1 dL_hands_786 (lv_at hl 7 rfl) ?_
    refine lv_bipush (v := (-9 : Int32)) cx.1 cx.2.1 dL_hands_788 (by decide) ?_
    refine lv_icmp_ne (tgt := 797) cx.1 cx.2.1 dL_hands_790 (by decide) (fun hc => ?_) (fun hc => ?_)
    · rw [if_neg hc] at hf
      refine lv_aload_n cx.1 cx.2.1 dL_hands_797 rfl (lv_at hl 1 rfl) ?_
      refine lv_iload cx.1 cx.2.1 dL_hands_798 (lv_at hl 7 rfl) ?_
      refine lv_iconst (v := (2 : Int32)) cx.1 cx.2.1 dL_hands_800 (by decide) ?_
      obtain ⟨v_70, S_71, hv, hf⟩ := gbs_some hf
      refine a_SW (As := [.ref (G.2.1 0), .int x22, .int (2 : Int32)]) (rest := []) cx hX hZ hw hS (a_tryCompany l hst G x22 (2 : Int32) S v_70 S_71 hv) gw_349 gw_187 gyw_L_tryCompany ⟨by decide, by decide⟩ ⟨Nat.le_of_ble_eq_true rfl, Nat.le_of_ble_eq_true rfl⟩ (show cells + 2 ≤ 24340 ∧ slots + 12 ≤ 146040 from ⟨by omega, by omega⟩) rfl hl.1 rfl (Nat.le_of_ble_eq_true rfl) dL_hands_801 (fun H locs hw hS => ?_)
      refine W.eq (g2 := F0 m 804 ls [.int v_70]) rfl ?_
      exact hB_804 S_71 x1 x2 x3 t0 x14 x21 x22 x25 x26 v_70 _ _ _ _ _ (by omega) (by omega) hw hS (lv_sub hl [1, 2, 3, 4, 0, 5, 6, 7, 8, 9] rfl) hf
    · rw [if_pos hc] at hf
      refine lv_iconst (v := (0 : Int32)) cx.1 cx.2.1 dL_hands_793 (by decide) ?_
      refine lv_goto (tgt := 804) cx.1 cx.2.1 dL_hands_794 (by decide) ?_
      exact hB_804 S x1 x2 x3 t0 x14 x21 x22 x25 x26 (0 : Int32) _ _ _ _ _ (by omega) (by omega) hw hS (lv_sub hl [1, 2, 3, 4, 0, 5, 6, 7, 8, 9] rfl) hf
  have hB_730 : ∀ (S : At) (x1 : Int32) (x2 : Int32) (x3 : Int32) (x14 : Int32) (x21 : Int32) (x22 : Int32) (x25 : Int32) (x26 : Int32) (t0 : Int32) (t1 : Int32) (H : Heap) (locs : List Loc) (ls : Array Slot) (cells slots : Nat), cells + (21133) ≤ 24340 → slots + (126798) ≤ 146040 → gPA G S H → va_S (gAr (gNo G) s.heap.size) s.heap H locs → lv_has ls 35 [(0, .ref (G.2.1 0)), (1, .int x1), (2, .int x2), (3, .int x3), (14, .int x14), (21, .int x21), (22, .int x22), (25, .int x25), (26, .int x26)] → B_hands_730 S x1 x2 x3 x14 x21 x22 x25 x26 t0 t1 = some (r, S') → W p l e (gRx 12 247 24340 146040) s m ([.ref (G.2.1 0), .int a1] : List Value).toArray below meth c H locs cells slots (MQ below (gQr (gPA G S') (some (.int r)) (gAr (gNo G) s.heap.size)) ([.ref (G.2.1 0), .int a1] : List Value).toArray s 24340 146040 (gAr (gNo G) s.heap.size)) (F0 m 730 ls [.int t0, .int t1]) := by
    intro S x1 x2 x3 x14 x21 x22 x25 x26 t0 t1 H locs ls cells slots hcl hsl hw hS hl hf
    unfold B_hands_730 at hf
    refine lv_icmp_ne (tgt := 783) cx.1 cx.2.1 dL_hands_730 (by decide) (fun hc => ?_) (fun hc => ?_)
    · rw [if_neg hc] at hf
      refine lv_iconst (v := (0 : Int32)) cx.1 cx.2.1 dL_hands_783 (by decide) ?_
      exact hB_784 S x1 x2 x3 x14 x21 x22 x25 x26 (0 : Int32) _ _ _ _ _ (by omega) (by omega) hw hS (lv_sub hl [0, 1, 2, 3, 4, 5, 6, 7, 8] rfl) hf
    · rw [if_pos hc] at hf
      refine lv_aload_n cx.1 cx.2.1 dL_hands_733 rfl (lv_at hl 0 rfl) ?_
      obtain ⟨v_72, S_73, hv, hf⟩ := gbs_some hf
      refine a_S (As := [.ref (G.2.1 0)]) (rest := []) cx hX hZ hw hS (a_sound l hst G S v_72 S_73 hv) gw_830 gyl_L_sound gil_L_sound ⟨Nat.le_of_ble_eq_true rfl, Nat.le_of_ble_eq_true rfl⟩ (show cells + 1298 ≤ 24340 ∧ slots + 7788 ≤ 146040 from ⟨by omega, by omega⟩) rfl hl.1 rfl (Nat.le_of_ble_eq_true rfl) dL_hands_734 (fun H locs hw hS => ?_)
      refine W.eq (g2 := F0 m 737 ls [.int v_72]) rfl ?_
      refine lv_if_eq (tgt := 783) cx.1 cx.2.1 dL_hands_737 (by decide) (fun hc => ?_) (fun hc => ?_)
      · rw [if_pos hc] at hf
        refine lv_iconst (v := (0 : Int32)) cx.1 cx.2.1 dL_hands_783 (by decide) ?_
        exact hB_784 S_73 x1 x2 x3 x14 x21 x22 x25 x26 (0 : Int32) _ _ _ _ _ (by omega) (by omega) hw hS (lv_sub hl [0, 1, 2, 3, 4, 5, 6, 7, 8] rfl) hf
      · rw [if_neg hc] at hf
        refine lv_aload_n cx.1 cx.2.1 dL_hands_740 rfl (lv_at hl 0 rfl) ?_
        refine lv_iconst (v := (0 : Int32)) cx.1 cx.2.1 dL_hands_741 (by decide) ?_
        obtain ⟨v_74, S_75, hv, hf⟩ := gbs_some hf
        refine a_SW (As := [.ref (G.2.1 0), .int (0 : Int32)]) (rest := []) cx hX hZ hw hS (a_tryRestore l hst G (0 : Int32) S_73 v_74 S_75 hv) gw_792 gw_187 gyw_L_tryRestore ⟨by decide, by decide⟩ ⟨Nat.le_of_ble_eq_true rfl, Nat.le_of_ble_eq_true rfl⟩ (show cells + 1298 + 2 ≤ 24340 ∧ slots + 7788 + 12 ≤ 146040 from ⟨by omega, by omega⟩) rfl hl.1 rfl (Nat.le_of_ble_eq_true rfl) dL_hands_742 (fun H locs hw hS => ?_)
        refine W.eq (g2 := F0 m 745 ls [.int v_74]) rfl ?_
        refine lv_iload_n cx.1 cx.2.1 dL_hands_745 rfl (lv_at hl 2 rfl) ?_
        refine lv_icmp_ne (tgt := 783) cx.1 cx.2.1 dL_hands_746 (by decide) (fun hc => ?_) (fun hc => ?_)
        · rw [if_neg hc] at hf
          refine lv_iconst (v := (0 : Int32)) cx.1 cx.2.1 dL_hands_783 (by decide) ?_
          exact hB_784 S_75 x1 x2 x3 x14 x21 x22 x25 x26 (0 : Int32) _ _ _ _ _ (by omega) (by omega) hw hS (lv_sub hl [0, 1, 2, 3, 4, 5, 6, 7, 8] rfl) hf
        · rw [if_pos hc] at hf
          refine lv_iload cx.1 cx.2.1 dL_hands_749 (lv_at hl 6 rfl) ?_
          refine lv_bipush (v := (-9 : Int32)) cx.1 cx.2.1 dL_hands_751 (by decide) ?_
          refine lv_icmp_ne (tgt := 779) cx.1 cx.2.1 dL_hands_753 (by decide) (fun hc => ?_) (fun hc => ?_)
          · rw [if_neg hc] at hf
            refine lv_iconst (v := (1 : Int32)) cx.1 cx.2.1 dL_hands_779 (by decide) ?_
            refine lv_goto (tgt := 784) cx.1 cx.2.1 dL_hands_780 (by decide) ?_
            exact hB_784 S_75 x1 x2 x3 x14 x21 x22 x25 x26 (1 : Int32) _ _ _ _ _ (by omega) (by omega) hw hS (lv_sub hl [0, 1, 2, 3, 4, 5, 6, 7, 8] rfl) hf
          · rw [if_pos hc] at hf
            refine lv_aload_n cx.1 cx.2.1 dL_hands_756 rfl (lv_at hl 0 rfl) ?_
            refine lv_iload cx.1 cx.2.1 dL_hands_757 (lv_at hl 5 rfl) ?_
            refine lv_iconst (v := (0 : Int32)) cx.1 cx.2.1 dL_hands_759 (by decide) ?_
            obtain ⟨v_76, S_77, hv, hf⟩ := gbs_some hf
            refine a_SW (As := [.ref (G.2.1 0), .int x21, .int (0 : Int32)]) (rest := []) cx hX hZ hw hS (a_tryWhyNot l hst G x21 (0 : Int32) S_75 v_76 S_77 hv) gw_577 gw_187 gyw_L_tryWhyNot ⟨by decide, by decide⟩ ⟨Nat.le_of_ble_eq_true rfl, Nat.le_of_ble_eq_true rfl⟩ (show cells + 1298 + 2 + 2 ≤ 24340 ∧ slots + 7788 + 12 + 12 ≤ 146040 from ⟨by omega, by omega⟩) rfl hl.1 rfl (Nat.le_of_ble_eq_true rfl) dL_hands_760 (fun H locs hw hS => ?_)
            refine W.eq (g2 := F0 m 763 ls [.int v_76]) rfl ?_
            refine lv_iconst (v := (1 : Int32)) cx.1 cx.2.1 dL_hands_763 (by decide) ?_
            refine lv_icmp_ne (tgt := 783) cx.1 cx.2.1 dL_hands_764 (by decide) (fun hc => ?_) (fun hc => ?_)
            · rw [if_neg hc] at hf
              refine lv_iconst (v := (0 : Int32)) cx.1 cx.2.1 dL_hands_783 (by decide) ?_
              exact hB_784 S_77 x1 x2 x3 x14 x21 x22 x25 x26 (0 : Int32) _ _ _ _ _ (by omega) (by omega) hw hS (lv_sub hl [0, 1, 2, 3, 4, 5, 6, 7, 8] rfl) hf
            · rw [if_pos hc] at hf
              refine lv_aload_n cx.1 cx.2.1 dL_hands_767 rfl (lv_at hl 0 rfl) ?_
              refine lv_iload cx.1 cx.2.1 dL_hands_768 (lv_at hl 5 rfl) ?_
              refine lv_iconst (v := (0 : Int32)) cx.1 cx.2.1 dL_hands_770 (by decide) ?_
              obtain ⟨v_78, S_79, hv, hf⟩ := gbs_some hf
              refine a_SW (As := [.ref (G.2.1 0), .int x21, .int (0 : Int32)]) (rest := []) cx hX hZ hw hS (a_tryRun l hst G x21 (0 : Int32) S_77 v_78 S_79 hv) gw_532 gw_187 gyw_L_tryRun ⟨by decide, by decide⟩ ⟨Nat.le_of_ble_eq_true rfl, Nat.le_of_ble_eq_true rfl⟩ (show cells + 1298 + 2 + 2 + 3 ≤ 24340 ∧ slots + 7788 + 12 + 12 + 18 ≤ 146040 from ⟨by omega, by omega⟩) rfl hl.1 rfl (Nat.le_of_ble_eq_true rfl) dL_hands_771 (fun H locs hw hS => ?_)
              refine W.eq (g2 := F0 m 774 ls [.int v_78]) rfl ?_
              refine lv_ldc cx.1 cx.2.1 cx.2.2.2.1 (cx.2.2.2.2.ts _ gw_3) dL_hands_774 ?_
              refine lv_icmp_ne (tgt := 783) cx.1 cx.2.1 dL_hands_776 (by decide) (fun hc => ?_) (fun hc => ?_)
              · rw [if_neg hc] at hf
                refine lv_iconst (v := (0 : Int32)) cx.1 cx.2.1 dL_hands_783 (by decide) ?_
                exact hB_784 S_79 x1 x2 x3 x14 x21 x22 x25 x26 (0 : Int32) _ _ _ _ _ (by omega) (by omega) hw hS (lv_sub hl [0, 1, 2, 3, 4, 5, 6, 7, 8] rfl) hf
              · rw [if_pos hc] at hf
                refine lv_iconst (v := (1 : Int32)) cx.1 cx.2.1 dL_hands_779 (by decide) ?_
                refine lv_goto (tgt := 784) cx.1 cx.2.1 dL_hands_780 (by decide) ?_
                exact hB_784 S_79 x1 x2 x3 x14 x21 x22 x25 x26 (1 : Int32) _ _ _ _ _ (by omega) (by omega) hw hS (lv_sub hl [0, 1, 2, 3, 4, 5, 6, 7, 8] rfl) hf
  have hB_707 : ∀ (S : At) (x1 : Int32) (x2 : Int32) (x3 : Int32) (x14 : Int32) (x21 : Int32) (x22 : Int32) (x25 : Int32) (x26 : Int32) (t0 : Int32) (t1 : Int32) (H : Heap) (locs : List Loc) (ls : Array Slot) (cells slots : Nat), cells + (21135) ≤ 24340 → slots + (126810) ≤ 146040 → gPA G S H → va_S (gAr (gNo G) s.heap.size) s.heap H locs → lv_has ls 35 [(0, .ref (G.2.1 0)), (1, .int x1), (2, .int x2), (3, .int x3), (14, .int x14), (21, .int x21), (22, .int x22), (25, .int x25), (26, .int x26)] → B_hands_707 S x1 x2 x3 x14 x21 x22 x25 x26 t0 t1 = some (r, S') → W p l e (gRx 12 247 24340 146040) s m ([.ref (G.2.1 0), .int a1] : List Value).toArray below meth c H locs cells slots (MQ below (gQr (gPA G S') (some (.int r)) (gAr (gNo G) s.heap.size)) ([.ref (G.2.1 0), .int a1] : List Value).toArray s 24340 146040 (gAr (gNo G) s.heap.size)) (F0 m 707 ls [.int t0, .int t1]) := by
    intro S x1 x2 x3 x14 x21 x22 x25 x26 t0 t1 H locs ls cells slots hcl hsl hw hS hl hf
    unfold B_hands_707 at hf
    refine lv_icmp_ne (tgt := 783) cx.1 cx.2.1 dL_hands_707 (by decide) (fun hc => ?_) (fun hc => ?_)
    · rw [if_neg hc] at hf
      refine lv_iconst (v := (0 : Int32)) cx.1 cx.2.1 dL_hands_783 (by decide) ?_
      exact hB_784 S x1 x2 x3 x14 x21 x22 x25 x26 (0 : Int32) _ _ _ _ _ (by omega) (by omega) hw hS (lv_sub hl [0, 1, 2, 3, 4, 5, 6, 7, 8] rfl) hf
    · rw [if_pos hc] at hf
      refine lv_aload_n cx.1 cx.2.1 dL_hands_710 rfl (lv_at hl 0 rfl) ?_
      refine lv_iload cx.1 cx.2.1 dL_hands_711 (lv_at hl 5 rfl) ?_
      refine lv_iconst (v := (4 : Int32)) cx.1 cx.2.1 dL_hands_713 (by decide) ?_
      obtain ⟨v_80, S_81, hv, hf⟩ := gbs_some hf
      refine a_SW (As := [.ref (G.2.1 0), .int x21, .int (4 : Int32)]) (rest := []) cx hX hZ hw hS (a_tryContract l hst G x21 (4 : Int32) S v_80 S_81 hv) gw_416 gw_187 gyw_L_tryContract ⟨by decide, by decide⟩ ⟨Nat.le_of_ble_eq_true rfl, Nat.le_of_ble_eq_true rfl⟩ (show cells + 2 ≤ 24340 ∧ slots + 12 ≤ 146040 from ⟨by omega, by omega⟩) rfl hl.1 rfl (Nat.le_of_ble_eq_true rfl) dL_hands_714 (fun H locs hw hS => ?_)
      refine W.eq (g2 := F0 m 717 ls [.int v_80]) rfl ?_
      refine lv_iload cx.1 cx.2.1 dL_hands_717 (lv_at hl 6 rfl) ?_
      refine lv_bipush (v := (-9 : Int32)) cx.1 cx.2.1 dL_hands_719 (by decide) ?_
      refine lv_icmp_ne (tgt := 728) cx.1 cx.2.1 dL_hands_721 (by decide) (fun hc => ?_) (fun hc => ?_)
      · rw [if_neg hc] at hf
        refine lv_iload cx.1 cx.2.1 dL_hands_728 (lv_at hl 6 rfl) ?_
        exact hB_730 S_81 x1 x2 x3 x14 x21 x22 x25 x26 x22 v_80 _ _ _ _ _ (by omega) (by omega) hw hS (lv_sub hl [0, 1, 2, 3, 4, 5, 6, 7, 8] rfl) hf
      · rw [if_pos hc] at hf
        refine lv_iload_n cx.1 cx.2.1 dL_hands_724 rfl (lv_at hl 3 rfl) ?_
        refine lv_goto (tgt := 730) cx.1 cx.2.1 dL_hands_725 (by decide) ?_
        exact hB_730 S_81 x1 x2 x3 x14 x21 x22 x25 x26 x3 v_80 _ _ _ _ _ (by omega) (by omega) hw hS (lv_sub hl [0, 1, 2, 3, 4, 5, 6, 7, 8] rfl) hf
  have hB_684 : ∀ (S : At) (x1 : Int32) (x2 : Int32) (x3 : Int32) (x14 : Int32) (x21 : Int32) (x22 : Int32) (x23 : Int32) (x25 : Int32) (x26 : Int32) (H : Heap) (locs : List Loc) (ls : Array Slot) (cells slots : Nat), cells + (21138) ≤ 24340 → slots + (126828) ≤ 146040 → gPA G S H → va_S (gAr (gNo G) s.heap.size) s.heap H locs → lv_has ls 35 [(0, .ref (G.2.1 0)), (1, .int x1), (2, .int x2), (3, .int x3), (14, .int x14), (21, .int x21), (22, .int x22), (23, .int x23), (25, .int x25), (26, .int x26)] → B_hands_684 S x1 x2 x3 x14 x21 x22 x23 x25 x26 = some (r, S') → W p l e (gRx 12 247 24340 146040) s m ([.ref (G.2.1 0), .int a1] : List Value).toArray below meth c H locs cells slots (MQ below (gQr (gPA G S') (some (.int r)) (gAr (gNo G) s.heap.size)) ([.ref (G.2.1 0), .int a1] : List Value).toArray s 24340 146040 (gAr (gNo G) s.heap.size)) (F0 m 684 ls []) := by
    intro S x1 x2 x3 x14 x21 x22 x23 x25 x26 H locs ls cells slots hcl hsl hw hS hl hf
    unfold B_hands_684 at hf
    refine lv_aload_n cx.1 cx.2.1 dL_hands_684 rfl (lv_at hl 0 rfl) ?_
    refine lv_iload_n cx.1 cx.2.1 dL_hands_685 rfl (lv_at hl 3 rfl) ?_
    refine lv_iload cx.1 cx.2.1 dL_hands_686 (lv_at hl 5 rfl) ?_
    obtain ⟨v_82, S_83, hv, hf⟩ := gbs_some hf
    refine a_SW (As := [.ref (G.2.1 0), .int x3, .int x21]) (rest := []) cx hX hZ hw hS (a_tryTake l hst G x3 x21 S v_82 S_83 hv) gw_512 gw_187 gyw_L_tryTake ⟨by decide, by decide⟩ ⟨Nat.le_of_ble_eq_true rfl, Nat.le_of_ble_eq_true rfl⟩ (show cells + 3 ≤ 24340 ∧ slots + 18 ≤ 146040 from ⟨by omega, by omega⟩) rfl hl.1 rfl (Nat.le_of_ble_eq_true rfl) dL_hands_688 (fun H locs hw hS => ?_)
    refine W.eq (g2 := F0 m 691 ls [.int v_82]) rfl ?_
    refine lv_iload cx.1 cx.2.1 dL_hands_691 (lv_at hl 6 rfl) ?_
    refine lv_bipush (v := (-9 : Int32)) cx.1 cx.2.1 dL_hands_693 (by decide) ?_
    refine lv_icmp_ne (tgt := 705) cx.1 cx.2.1 dL_hands_695 (by decide) (fun hc => ?_) (fun hc => ?_)
    · rw [if_neg hc] at hf
      refine lv_ldc cx.1 cx.2.1 cx.2.2.2.1 (cx.2.2.2.2.ts _ gw_3) dL_hands_705 ?_
      exact hB_707 S_83 x1 x2 x3 x14 x21 x22 x25 x26 (-9999003 : Int32) v_82 _ _ _ _ _ (by omega) (by omega) hw hS (lv_sub hl [0, 1, 2, 3, 4, 5, 6, 8, 9] rfl) hf
    · rw [if_pos hc] at hf
      refine lv_iload cx.1 cx.2.1 dL_hands_698 (lv_at hl 7 rfl) ?_
      refine lv_iconst (v := (1 : Int32)) cx.1 cx.2.1 dL_hands_700 (by decide) ?_
      refine lv_iadd cx.1 cx.2.1 dL_hands_701 ?_
      refine lv_goto (tgt := 707) cx.1 cx.2.1 dL_hands_702 (by decide) ?_
      exact hB_707 S_83 x1 x2 x3 x14 x21 x22 x25 x26 (x23 + (1 : Int32)) v_82 _ _ _ _ _ (by omega) (by omega) hw hS (lv_sub hl [0, 1, 2, 3, 4, 5, 6, 8, 9] rfl) hf
  have hB_539 : ∀ (S : At) (x1 : Int32) (x2 : Int32) (x3 : Int32) (x14 : Int32) (t0 : Int32) (H : Heap) (locs : List Loc) (ls : Array Slot) (cells slots : Nat), cells + (21161) ≤ 24340 → slots + (126966) ≤ 146040 → gPA G S H → va_S (gAr (gNo G) s.heap.size) s.heap H locs → lv_has ls 35 [(0, .ref (G.2.1 0)), (1, .int x1), (2, .int x2), (3, .int x3), (14, .int x14)] → B_hands_539 S x1 x2 x3 x14 t0 = some (r, S') → W p l e (gRx 12 247 24340 146040) s m ([.ref (G.2.1 0), .int a1] : List Value).toArray below meth c H locs cells slots (MQ below (gQr (gPA G S') (some (.int r)) (gAr (gNo G) s.heap.size)) ([.ref (G.2.1 0), .int a1] : List Value).toArray s 24340 146040 (gAr (gNo G) s.heap.size)) (F0 m 539 ls [.int t0]) := by
    intro S x1 x2 x3 x14 t0 H locs ls cells slots hcl hsl hw hS hl hf
    unfold B_hands_539 at hf
    refine lv_istore (lv' := [(6, .int t0), (0, .ref (G.2.1 0)), (1, .int x1), (2, .int x2), (3, .int x3), (14, .int x14)]) cx.1 cx.2.1 dL_hands_539 hl (by decide) rfl (fun ls hl => ?_)
    refine lv_aload_n cx.1 cx.2.1 dL_hands_541 rfl (lv_at hl 1 rfl) ?_
    refine lv_iconst (v := (2 : Int32)) cx.1 cx.2.1 dL_hands_542 (by decide) ?_
    obtain ⟨v_84, S_85, hv, hf⟩ := gbs_some hf
    refine a_SW (As := [.ref (G.2.1 0), .int (2 : Int32)]) (rest := []) cx hX hZ hw hS (a_tryAbout l hst G (2 : Int32) S v_84 S_85 hv) gw_185 gw_187 gyw_L_tryAbout ⟨by decide, by decide⟩ ⟨Nat.le_of_ble_eq_true rfl, Nat.le_of_ble_eq_true rfl⟩ (show cells + 1 ≤ 24340 ∧ slots + 6 ≤ 146040 from ⟨by omega, by omega⟩) rfl hl.1 rfl (Nat.le_of_ble_eq_true rfl) dL_hands_543 (fun H locs hw hS => ?_)
    refine W.eq (g2 := F0 m 546 ls [.int v_84]) rfl ?_
    refine lv_istore (lv' := [(20, .int v_84), (6, .int t0), (0, .ref (G.2.1 0)), (1, .int x1), (2, .int x2), (3, .int x3), (14, .int x14)]) cx.1 cx.2.1 dL_hands_546 hl (by decide) rfl (fun ls hl => ?_)
    refine lv_iload cx.1 cx.2.1 dL_hands_548 (lv_at hl 0 rfl) ?_
    refine lv_if_le (tgt := 1346) cx.1 cx.2.1 dL_hands_550 (by decide) (fun hc => ?_) (fun hc => ?_)
    · rw [if_pos hc] at hf
      exact hB_1346 S_85 x1 x2 x3 t0 _ _ _ _ _ (by omega) (by omega) hw hS (lv_sub hl [2, 3, 4, 5, 1] rfl) hf
    · rw [if_neg hc] at hf
      refine lv_iload cx.1 cx.2.1 dL_hands_553 (lv_at hl 1 rfl) ?_
      refine lv_if_eq (tgt := 1346) cx.1 cx.2.1 dL_hands_555 (by decide) (fun hc => ?_) (fun hc => ?_)
      · rw [if_pos hc] at hf
        exact hB_1346 S_85 x1 x2 x3 t0 _ _ _ _ _ (by omega) (by omega) hw hS (lv_sub hl [2, 3, 4, 5, 1] rfl) hf
      · rw [if_neg hc] at hf
        refine lv_iload_n cx.1 cx.2.1 dL_hands_558 rfl (lv_at hl 3 rfl) ?_
        refine lv_bipush (v := (16 : Int32)) cx.1 cx.2.1 dL_hands_559 (by decide) ?_
        refine lv_idiv cx.1 cx.2.1 dL_hands_561 (by decide) ?_
        refine lv_iload cx.1 cx.2.1 dL_hands_562 (lv_at hl 0 rfl) ?_
        obtain ⟨hne, hf⟩ := gck_some hf
        refine lv_irem cx.1 cx.2.1 dL_hands_564 (by simpa using hne) ?_
        obtain ⟨x21_86, ex21_86, hf⟩ := gvi_ex hf
        refine W.eq (g2 := F0 m 565 ls [.int x21_86]) (by rw [← ex21_86]) ?_
        refine lv_istore (lv' := [(21, .int x21_86), (20, .int v_84), (6, .int t0), (0, .ref (G.2.1 0)), (1, .int x1), (2, .int x2), (3, .int x3), (14, .int x14)]) cx.1 cx.2.1 dL_hands_565 hl (by decide) rfl (fun ls hl => ?_)
        refine lv_aload_n cx.1 cx.2.1 dL_hands_567 rfl (lv_at hl 3 rfl) ?_
        refine lv_iload cx.1 cx.2.1 dL_hands_568 (lv_at hl 0 rfl) ?_
        refine lv_iconst (v := (4 : Int32)) cx.1 cx.2.1 dL_hands_570 (by decide) ?_
        obtain ⟨v_87, S_88, hv, hf⟩ := gbs_some hf
        refine a_SW (As := [.ref (G.2.1 0), .int x21_86, .int (4 : Int32)]) (rest := []) cx hX hZ hw hS (a_tryContract l hst G x21_86 (4 : Int32) S_85 v_87 S_88 hv) gw_416 gw_187 gyw_L_tryContract ⟨by decide, by decide⟩ ⟨Nat.le_of_ble_eq_true rfl, Nat.le_of_ble_eq_true rfl⟩ (show cells + 1 + 2 ≤ 24340 ∧ slots + 6 + 12 ≤ 146040 from ⟨by omega, by omega⟩) rfl hl.1 rfl (Nat.le_of_ble_eq_true rfl) dL_hands_571 (fun H locs hw hS => ?_)
        refine W.eq (g2 := F0 m 574 ls [.int v_87]) rfl ?_
        refine lv_istore (lv' := [(22, .int v_87), (21, .int x21_86), (20, .int v_84), (6, .int t0), (0, .ref (G.2.1 0)), (1, .int x1), (2, .int x2), (3, .int x3), (14, .int x14)]) cx.1 cx.2.1 dL_hands_574 hl (by decide) rfl (fun ls hl => ?_)
        refine lv_aload_n cx.1 cx.2.1 dL_hands_576 rfl (lv_at hl 4 rfl) ?_
        refine lv_iload_n cx.1 cx.2.1 dL_hands_577 rfl (lv_at hl 7 rfl) ?_
        refine lv_iconst (v := (4 : Int32)) cx.1 cx.2.1 dL_hands_578 (by decide) ?_
        obtain ⟨v_89, S_90, hv, hf⟩ := gbs_some hf
        refine a_SW (As := [.ref (G.2.1 0), .int x3, .int (4 : Int32)]) (rest := []) cx hX hZ hw hS (a_tryCompany l hst G x3 (4 : Int32) S_88 v_89 S_90 hv) gw_349 gw_187 gyw_L_tryCompany ⟨by decide, by decide⟩ ⟨Nat.le_of_ble_eq_true rfl, Nat.le_of_ble_eq_true rfl⟩ (show cells + 1 + 2 + 2 ≤ 24340 ∧ slots + 6 + 12 + 12 ≤ 146040 from ⟨by omega, by omega⟩) rfl hl.1 rfl (Nat.le_of_ble_eq_true rfl) dL_hands_579 (fun H locs hw hS => ?_)
        refine W.eq (g2 := F0 m 582 ls [.int v_89]) rfl ?_
        refine lv_istore (lv' := [(23, .int v_89), (22, .int v_87), (21, .int x21_86), (20, .int v_84), (6, .int t0), (0, .ref (G.2.1 0)), (1, .int x1), (2, .int x2), (3, .int x3), (14, .int x14)]) cx.1 cx.2.1 dL_hands_582 hl (by decide) rfl (fun ls hl => ?_)
        refine lv_aload_n cx.1 cx.2.1 dL_hands_584 rfl (lv_at hl 5 rfl) ?_
        refine lv_iload_n cx.1 cx.2.1 dL_hands_585 rfl (lv_at hl 8 rfl) ?_
        refine lv_iload cx.1 cx.2.1 dL_hands_586 (lv_at hl 2 rfl) ?_
        obtain ⟨v_91, S_92, hv, hf⟩ := gbs_some hf
        refine a_SW (As := [.ref (G.2.1 0), .int x3, .int x21_86]) (rest := []) cx hX hZ hw hS (a_tryLevelFor l hst G x3 x21_86 S_90 v_91 S_92 hv) gw_584 gw_187 gyw_L_tryLevelFor ⟨by decide, by decide⟩ ⟨Nat.le_of_ble_eq_true rfl, Nat.le_of_ble_eq_true rfl⟩ (show cells + 1 + 2 + 2 + 2 ≤ 24340 ∧ slots + 6 + 12 + 12 + 12 ≤ 146040 from ⟨by omega, by omega⟩) rfl hl.1 rfl (Nat.le_of_ble_eq_true rfl) dL_hands_588 (fun H locs hw hS => ?_)
        refine W.eq (g2 := F0 m 591 ls [.int v_91]) rfl ?_
        refine lv_istore (lv' := [(24, .int v_91), (23, .int v_89), (22, .int v_87), (21, .int x21_86), (20, .int v_84), (6, .int t0), (0, .ref (G.2.1 0)), (1, .int x1), (2, .int x2), (3, .int x3), (14, .int x14)]) cx.1 cx.2.1 dL_hands_591 hl (by decide) rfl (fun ls hl => ?_)
        refine lv_aload_n cx.1 cx.2.1 dL_hands_593 rfl (lv_at hl 6 rfl) ?_
        refine lv_iload cx.1 cx.2.1 dL_hands_594 (lv_at hl 3 rfl) ?_
        refine lv_iconst (v := (0 : Int32)) cx.1 cx.2.1 dL_hands_596 (by decide) ?_
        obtain ⟨v_93, S_94, hv, hf⟩ := gbs_some hf
        refine a_SW (As := [.ref (G.2.1 0), .int x21_86, .int (0 : Int32)]) (rest := []) cx hX hZ hw hS (a_tryContract l hst G x21_86 (0 : Int32) S_92 v_93 S_94 hv) gw_416 gw_187 gyw_L_tryContract ⟨by decide, by decide⟩ ⟨Nat.le_of_ble_eq_true rfl, Nat.le_of_ble_eq_true rfl⟩ (show cells + 1 + 2 + 2 + 2 + 2 ≤ 24340 ∧ slots + 6 + 12 + 12 + 12 + 12 ≤ 146040 from ⟨by omega, by omega⟩) rfl hl.1 rfl (Nat.le_of_ble_eq_true rfl) dL_hands_597 (fun H locs hw hS => ?_)
        refine W.eq (g2 := F0 m 600 ls [.int v_93]) rfl ?_
        refine lv_istore (lv' := [(25, .int v_93), (24, .int v_91), (23, .int v_89), (22, .int v_87), (21, .int x21_86), (20, .int v_84), (6, .int t0), (0, .ref (G.2.1 0)), (1, .int x1), (2, .int x2), (3, .int x3), (14, .int x14)]) cx.1 cx.2.1 dL_hands_600 hl (by decide) rfl (fun ls hl => ?_)
        refine lv_aload_n cx.1 cx.2.1 dL_hands_602 rfl (lv_at hl 7 rfl) ?_
        refine lv_iload cx.1 cx.2.1 dL_hands_603 (lv_at hl 4 rfl) ?_
        refine lv_iconst (v := (1 : Int32)) cx.1 cx.2.1 dL_hands_605 (by decide) ?_
        obtain ⟨v_95, S_96, hv, hf⟩ := gbs_some hf
        refine a_SW (As := [.ref (G.2.1 0), .int x21_86, .int (1 : Int32)]) (rest := []) cx hX hZ hw hS (a_tryContract l hst G x21_86 (1 : Int32) S_94 v_95 S_96 hv) gw_416 gw_187 gyw_L_tryContract ⟨by decide, by decide⟩ ⟨Nat.le_of_ble_eq_true rfl, Nat.le_of_ble_eq_true rfl⟩ (show cells + 1 + 2 + 2 + 2 + 2 + 2 ≤ 24340 ∧ slots + 6 + 12 + 12 + 12 + 12 + 12 ≤ 146040 from ⟨by omega, by omega⟩) rfl hl.1 rfl (Nat.le_of_ble_eq_true rfl) dL_hands_606 (fun H locs hw hS => ?_)
        refine W.eq (g2 := F0 m 609 ls [.int v_95]) rfl ?_
        refine lv_istore (lv' := [(26, .int v_95), (25, .int v_93), (24, .int v_91), (23, .int v_89), (22, .int v_87), (21, .int x21_86), (20, .int v_84), (6, .int t0), (0, .ref (G.2.1 0)), (1, .int x1), (2, .int x2), (3, .int x3), (14, .int x14)]) cx.1 cx.2.1 dL_hands_609 hl (by decide) rfl (fun ls hl => ?_)
        refine lv_iload cx.1 cx.2.1 dL_hands_611 (lv_at hl 2 rfl) ?_
        refine lv_bipush (v := (-9 : Int32)) cx.1 cx.2.1 dL_hands_613 (by decide) ?_
        refine lv_icmp_ne (tgt := 638) cx.1 cx.2.1 dL_hands_615 (by decide) (fun hc => ?_) (fun hc => ?_)
        · rw [if_neg hc] at hf
          refine lv_aload_n cx.1 cx.2.1 dL_hands_638 rfl (lv_at hl 8 rfl) ?_
          refine lv_iload_n cx.1 cx.2.1 dL_hands_639 rfl (lv_at hl 11 rfl) ?_
          refine lv_iload cx.1 cx.2.1 dL_hands_640 (lv_at hl 1 rfl) ?_
          refine lv_iload cx.1 cx.2.1 dL_hands_642 (lv_at hl 0 rfl) ?_
          refine lv_iconst (v := (4 : Int32)) cx.1 cx.2.1 dL_hands_644 (by decide) ?_
          refine lv_iload cx.1 cx.2.1 dL_hands_645 (lv_at hl 2 rfl) ?_
          refine lv_imul cx.1 cx.2.1 dL_hands_647 ?_
          refine lv_iconst (v := (0 : Int32)) cx.1 cx.2.1 dL_hands_648 (by decide) ?_
          obtain ⟨v_97, S_98, hv, hf⟩ := gbs_some hf
          refine a_SW (As := [.ref (G.2.1 0), .int x3, .int v_93, .int v_95, .int ((4 : Int32) * v_91), .int (0 : Int32)]) (rest := []) cx hX hZ hw hS (a_tryWay l hst G x3 v_93 v_95 ((4 : Int32) * v_91) (0 : Int32) S_96 v_97 S_98 hv) gw_214 gw_187 gyw_L_tryWay ⟨by decide, by decide⟩ ⟨Nat.le_of_ble_eq_true rfl, Nat.le_of_ble_eq_true rfl⟩ (show cells + 1 + 2 + 2 + 2 + 2 + 2 + 6 ≤ 24340 ∧ slots + 6 + 12 + 12 + 12 + 12 + 12 + 36 ≤ 146040 from ⟨by omega, by omega⟩) rfl hl.1 rfl (Nat.le_of_ble_eq_true rfl) dL_hands_649 (fun H locs hw hS => ?_)
          refine W.eq (g2 := F0 m 652 ls [.int v_97]) rfl ?_
          refine lv_bipush (v := (-9 : Int32)) cx.1 cx.2.1 dL_hands_652 (by decide) ?_
          refine lv_icmp_eq (tgt := 783) cx.1 cx.2.1 dL_hands_654 (by decide) (fun hc => ?_) (fun hc => ?_)
          · rw [if_pos hc] at hf
            refine lv_iconst (v := (0 : Int32)) cx.1 cx.2.1 dL_hands_783 (by decide) ?_
            exact hB_784 S_98 x1 x2 x3 x14 x21_86 v_87 v_93 v_95 (0 : Int32) _ _ _ _ _ (by omega) (by omega) hw hS (lv_sub hl [8, 9, 10, 11, 12, 5, 4, 1, 0] rfl) hf
          · rw [if_neg hc] at hf
            refine lv_iload cx.1 cx.2.1 dL_hands_657 (lv_at hl 2 rfl) ?_
            refine lv_iconst (v := (1 : Int32)) cx.1 cx.2.1 dL_hands_659 (by decide) ?_
            refine lv_icmp_eq (tgt := 684) cx.1 cx.2.1 dL_hands_660 (by decide) (fun hc => ?_) (fun hc => ?_)
            · rw [if_pos hc] at hf
              exact hB_684 S_98 x1 x2 x3 x14 x21_86 v_87 v_89 v_93 v_95 _ _ _ _ _ (by omega) (by omega) hw hS (lv_sub hl [8, 9, 10, 11, 12, 5, 4, 3, 1, 0] rfl) hf
            · rw [if_neg hc] at hf
              refine lv_aload_n cx.1 cx.2.1 dL_hands_663 rfl (lv_at hl 8 rfl) ?_
              refine lv_iload_n cx.1 cx.2.1 dL_hands_664 rfl (lv_at hl 11 rfl) ?_
              refine lv_iload cx.1 cx.2.1 dL_hands_665 (lv_at hl 1 rfl) ?_
              refine lv_iload cx.1 cx.2.1 dL_hands_667 (lv_at hl 0 rfl) ?_
              refine lv_iconst (v := (4 : Int32)) cx.1 cx.2.1 dL_hands_669 (by decide) ?_
              refine lv_iload cx.1 cx.2.1 dL_hands_670 (lv_at hl 2 rfl) ?_
              refine lv_imul cx.1 cx.2.1 dL_hands_672 ?_
              refine lv_iconst (v := (4 : Int32)) cx.1 cx.2.1 dL_hands_673 (by decide) ?_
              refine lv_isub cx.1 cx.2.1 dL_hands_674 ?_
              refine lv_iconst (v := (0 : Int32)) cx.1 cx.2.1 dL_hands_675 (by decide) ?_
              obtain ⟨v_99, S_100, hv, hf⟩ := gbs_some hf
              refine a_SW (As := [.ref (G.2.1 0), .int x3, .int v_93, .int v_95, .int (((4 : Int32) * v_91) - (4 : Int32)), .int (0 : Int32)]) (rest := []) cx hX hZ hw hS (a_tryWay l hst G x3 v_93 v_95 (((4 : Int32) * v_91) - (4 : Int32)) (0 : Int32) S_98 v_99 S_100 hv) gw_214 gw_187 gyw_L_tryWay ⟨by decide, by decide⟩ ⟨Nat.le_of_ble_eq_true rfl, Nat.le_of_ble_eq_true rfl⟩ (show cells + 1 + 2 + 2 + 2 + 2 + 2 + 6 + 6 ≤ 24340 ∧ slots + 6 + 12 + 12 + 12 + 12 + 12 + 36 + 36 ≤ 146040 from ⟨by omega, by omega⟩) rfl hl.1 rfl (Nat.le_of_ble_eq_true rfl) dL_hands_676 (fun H locs hw hS => ?_)
              refine W.eq (g2 := F0 m 679 ls [.int v_99]) rfl ?_
              refine lv_bipush (v := (-9 : Int32)) cx.1 cx.2.1 dL_hands_679 (by decide) ?_
              refine lv_icmp_ne (tgt := 783) cx.1 cx.2.1 dL_hands_681 (by decide) (fun hc => ?_) (fun hc => ?_)
              · rw [if_neg hc] at hf
                refine lv_iconst (v := (0 : Int32)) cx.1 cx.2.1 dL_hands_783 (by decide) ?_
                exact hB_784 S_100 x1 x2 x3 x14 x21_86 v_87 v_93 v_95 (0 : Int32) _ _ _ _ _ (by omega) (by omega) hw hS (lv_sub hl [8, 9, 10, 11, 12, 5, 4, 1, 0] rfl) hf
              · rw [if_pos hc] at hf
                exact hB_684 S_100 x1 x2 x3 x14 x21_86 v_87 v_89 v_93 v_95 _ _ _ _ _ (by omega) (by omega) hw hS (lv_sub hl [8, 9, 10, 11, 12, 5, 4, 3, 1, 0] rfl) hf
        · rw [if_pos hc] at hf
          refine lv_aload_n cx.1 cx.2.1 dL_hands_618 rfl (lv_at hl 8 rfl) ?_
          refine lv_iload_n cx.1 cx.2.1 dL_hands_619 rfl (lv_at hl 11 rfl) ?_
          refine lv_iload cx.1 cx.2.1 dL_hands_620 (lv_at hl 1 rfl) ?_
          refine lv_iload cx.1 cx.2.1 dL_hands_622 (lv_at hl 0 rfl) ?_
          refine lv_bipush (v := (24 : Int32)) cx.1 cx.2.1 dL_hands_624 (by decide) ?_
          refine lv_iconst (v := (0 : Int32)) cx.1 cx.2.1 dL_hands_626 (by decide) ?_
          obtain ⟨v_101, S_102, hv, hf⟩ := gbs_some hf
          refine a_SW (As := [.ref (G.2.1 0), .int x3, .int v_93, .int v_95, .int (24 : Int32), .int (0 : Int32)]) (rest := []) cx hX hZ hw hS (a_tryWay l hst G x3 v_93 v_95 (24 : Int32) (0 : Int32) S_96 v_101 S_102 hv) gw_214 gw_187 gyw_L_tryWay ⟨by decide, by decide⟩ ⟨Nat.le_of_ble_eq_true rfl, Nat.le_of_ble_eq_true rfl⟩ (show cells + 1 + 2 + 2 + 2 + 2 + 2 + 6 ≤ 24340 ∧ slots + 6 + 12 + 12 + 12 + 12 + 12 + 36 ≤ 146040 from ⟨by omega, by omega⟩) rfl hl.1 rfl (Nat.le_of_ble_eq_true rfl) dL_hands_627 (fun H locs hw hS => ?_)
          refine W.eq (g2 := F0 m 630 ls [.int v_101]) rfl ?_
          refine lv_bipush (v := (-9 : Int32)) cx.1 cx.2.1 dL_hands_630 (by decide) ?_
          refine lv_icmp_ne (tgt := 783) cx.1 cx.2.1 dL_hands_632 (by decide) (fun hc => ?_) (fun hc => ?_)
          · rw [if_neg hc] at hf
            refine lv_iconst (v := (0 : Int32)) cx.1 cx.2.1 dL_hands_783 (by decide) ?_
            exact hB_784 S_102 x1 x2 x3 x14 x21_86 v_87 v_93 v_95 (0 : Int32) _ _ _ _ _ (by omega) (by omega) hw hS (lv_sub hl [8, 9, 10, 11, 12, 5, 4, 1, 0] rfl) hf
          · rw [if_pos hc] at hf
            refine lv_goto (tgt := 684) cx.1 cx.2.1 dL_hands_635 (by decide) ?_
            exact hB_684 S_102 x1 x2 x3 x14 x21_86 v_87 v_89 v_93 v_95 _ _ _ _ _ (by omega) (by omega) hw hS (lv_sub hl [8, 9, 10, 11, 12, 5, 4, 3, 1, 0] rfl) hf
  have hB_521 : ∀ (S : At) (x1 : Int32) (x2 : Int32) (x3 : Int32) (x14 : Int32) (t0 : Int32) (t1 : Int32) (t2 : Int32) (H : Heap) (locs : List Loc) (ls : Array Slot) (cells slots : Nat), cells + (21163) ≤ 24340 → slots + (126978) ≤ 146040 → gPA G S H → va_S (gAr (gNo G) s.heap.size) s.heap H locs → lv_has ls 35 [(0, .ref (G.2.1 0)), (1, .int x1), (2, .int x2), (3, .int x3), (14, .int x14)] → B_hands_521 S x1 x2 x3 x14 t0 t1 t2 = some (r, S') → W p l e (gRx 12 247 24340 146040) s m ([.ref (G.2.1 0), .int a1] : List Value).toArray below meth c H locs cells slots (MQ below (gQr (gPA G S') (some (.int r)) (gAr (gNo G) s.heap.size)) ([.ref (G.2.1 0), .int a1] : List Value).toArray s 24340 146040 (gAr (gNo G) s.heap.size)) (F0 m 521 ls [.int t0, .int t1, .int t2]) := by
    intro S x1 x2 x3 x14 t0 t1 t2 H locs ls cells slots hcl hsl hw hS hl hf
    unfold B_hands_521 at hf
    refine lv_iadd cx.1 cx.2.1 dL_hands_521 ?_
    refine lv_icmp_ne (tgt := 538) cx.1 cx.2.1 dL_hands_522 (by decide) (fun hc => ?_) (fun hc => ?_)
    · rw [if_neg hc] at hf
      refine lv_iconst (v := (0 : Int32)) cx.1 cx.2.1 dL_hands_538 (by decide) ?_
      exact hB_539 S x1 x2 x3 x14 (0 : Int32) _ _ _ _ _ (by omega) (by omega) hw hS (lv_sub hl [0, 1, 2, 3, 4] rfl) hf
    · rw [if_pos hc] at hf
      refine lv_aload_n cx.1 cx.2.1 dL_hands_525 rfl (lv_at hl 0 rfl) ?_
      refine lv_iconst (v := (0 : Int32)) cx.1 cx.2.1 dL_hands_526 (by decide) ?_
      obtain ⟨v_103, S_104, hv, hf⟩ := gbs_some hf
      refine a_SW (As := [.ref (G.2.1 0), .int (0 : Int32)]) (rest := []) cx hX hZ hw hS (a_tryRestore l hst G (0 : Int32) S v_103 S_104 hv) gw_792 gw_187 gyw_L_tryRestore ⟨by decide, by decide⟩ ⟨Nat.le_of_ble_eq_true rfl, Nat.le_of_ble_eq_true rfl⟩ (show cells + 2 ≤ 24340 ∧ slots + 12 ≤ 146040 from ⟨by omega, by omega⟩) rfl hl.1 rfl (Nat.le_of_ble_eq_true rfl) dL_hands_527 (fun H locs hw hS => ?_)
      refine W.eq (g2 := F0 m 530 ls [.int v_103]) rfl ?_
      refine lv_iload_n cx.1 cx.2.1 dL_hands_530 rfl (lv_at hl 2 rfl) ?_
      refine lv_icmp_ne (tgt := 538) cx.1 cx.2.1 dL_hands_531 (by decide) (fun hc => ?_) (fun hc => ?_)
      · rw [if_neg hc] at hf
        refine lv_iconst (v := (0 : Int32)) cx.1 cx.2.1 dL_hands_538 (by decide) ?_
        exact hB_539 S_104 x1 x2 x3 x14 (0 : Int32) _ _ _ _ _ (by omega) (by omega) hw hS (lv_sub hl [0, 1, 2, 3, 4] rfl) hf
      · rw [if_pos hc] at hf
        refine lv_iconst (v := (1 : Int32)) cx.1 cx.2.1 dL_hands_534 (by decide) ?_
        refine lv_goto (tgt := 539) cx.1 cx.2.1 dL_hands_535 (by decide) ?_
        exact hB_539 S_104 x1 x2 x3 x14 (1 : Int32) _ _ _ _ _ (by omega) (by omega) hw hS (lv_sub hl [0, 1, 2, 3, 4] rfl) hf
  have hL_475 : ∀ (n : Nat), ∀ (S : At) (x1 : Int32) (x2 : Int32) (x3 : Int32) (x6 : Int32) (x14 : Int32) (x16 : Int32) (x17 : Int32) (x18 : Int32) (x19 : Int32) (x20 : Int32) (H : Heap) (locs : List Loc) (ls : Array Slot) (cells slots : Nat), cells + (21163 + 2 * n) ≤ 24340 → slots + (126978 + 12 * n) ≤ 146040 → gPA G S H → va_S (gAr (gNo G) s.heap.size) s.heap H locs → lv_has ls 35 [(0, .ref (G.2.1 0)), (1, .int x1), (2, .int x2), (3, .int x3), (6, .int x6), (14, .int x14), (16, .int x16), (17, .int x17), (18, .int x18), (19, .int x19), (20, .int x20)] → L_hands_475 n S x1 x2 x3 x6 x14 x16 x17 x18 x19 x20 = some (r, S') → W p l e (gRx 12 247 24340 146040) s m ([.ref (G.2.1 0), .int a1] : List Value).toArray below meth c H locs cells slots (MQ below (gQr (gPA G S') (some (.int r)) (gAr (gNo G) s.heap.size)) ([.ref (G.2.1 0), .int a1] : List Value).toArray s 24340 146040 (gAr (gNo G) s.heap.size)) (F0 m 475 ls []) := by
    intro n_475
    induction n_475 with
    | zero => intro S x1 x2 x3 x6 x14 x16 x17 x18 x19 x20 H locs ls cells slots hcl hsl hw hS hl hf; cases hf
    | succ n_475 hK475 =>
      intro S x1 x2 x3 x6 x14 x16 x17 x18 x19 x20 H locs ls cells slots hcl hsl hw hS hl hf
      have hf : Lb_hands_475 (L_hands_475 n_475) S x1 x2 x3 x6 x14 x16 x17 x18 x19 x20 = some (r, S') := hf
      unfold Lb_hands_475 at hf
      refine lv_iload cx.1 cx.2.1 dL_hands_475 (lv_at hl 10 rfl) ?_
      refine lv_iconst (v := (4 : Int32)) cx.1 cx.2.1 dL_hands_477 (by decide) ?_
      refine lv_icmp_ge (tgt := 499) cx.1 cx.2.1 dL_hands_478 (by decide) (fun hc => ?_) (fun hc => ?_)
      · rw [if_pos hc] at hf
        refine lv_iload cx.1 cx.2.1 dL_hands_499 (lv_at hl 4 rfl) ?_
        refine lv_if_eq (tgt := 538) cx.1 cx.2.1 dL_hands_501 (by decide) (fun hc => ?_) (fun hc => ?_)
        · rw [if_pos hc] at hf
          refine lv_iconst (v := (0 : Int32)) cx.1 cx.2.1 dL_hands_538 (by decide) ?_
          exact hB_539 S x1 x2 x3 x14 (0 : Int32) _ _ _ _ _ (by omega) (by omega) hw hS (lv_sub hl [0, 1, 2, 3, 5] rfl) hf
        · rw [if_neg hc] at hf
          refine lv_iload cx.1 cx.2.1 dL_hands_504 (lv_at hl 9 rfl) ?_
          refine lv_iload cx.1 cx.2.1 dL_hands_506 (lv_at hl 7 rfl) ?_
          refine lv_iload cx.1 cx.2.1 dL_hands_508 (lv_at hl 6 rfl) ?_
          refine lv_if_eq (tgt := 520) cx.1 cx.2.1 dL_hands_510 (by decide) (fun hc => ?_) (fun hc => ?_)
          · rw [if_pos hc] at hf
            refine lv_iconst (v := (0 : Int32)) cx.1 cx.2.1 dL_hands_520 (by decide) ?_
            exact hB_521 S x1 x2 x3 x14 (0 : Int32) x17 x19 _ _ _ _ _ (by omega) (by omega) hw hS (lv_sub hl [0, 1, 2, 3, 5] rfl) hf
          · rw [if_neg hc] at hf
            refine lv_iconst (v := (1 : Int32)) cx.1 cx.2.1 dL_hands_513 (by decide) ?_
            refine lv_iload cx.1 cx.2.1 dL_hands_514 (lv_at hl 8 rfl) ?_
            refine lv_isub cx.1 cx.2.1 dL_hands_516 ?_
            refine lv_goto (tgt := 521) cx.1 cx.2.1 dL_hands_517 (by decide) ?_
            exact hB_521 S x1 x2 x3 x14 ((1 : Int32) - x18) x17 x19 _ _ _ _ _ (by omega) (by omega) hw hS (lv_sub hl [0, 1, 2, 3, 5] rfl) hf
      · rw [if_neg hc] at hf
        refine lv_iload cx.1 cx.2.1 dL_hands_481 (lv_at hl 9 rfl) ?_
        refine lv_aload_n cx.1 cx.2.1 dL_hands_483 rfl (lv_at hl 0 rfl) ?_
        refine lv_iload cx.1 cx.2.1 dL_hands_484 (lv_at hl 10 rfl) ?_
        refine lv_iconst (v := (2 : Int32)) cx.1 cx.2.1 dL_hands_486 (by decide) ?_
        obtain ⟨v_105, S_106, hv, hf⟩ := gbs_some hf
        refine a_SW (As := [.ref (G.2.1 0), .int x20, .int (2 : Int32)]) (rest := [.int x19]) cx hX hZ hw hS (a_tryCompany l hst G x20 (2 : Int32) S v_105 S_106 hv) gw_349 gw_187 gyw_L_tryCompany ⟨by decide, by decide⟩ ⟨Nat.le_of_ble_eq_true rfl, Nat.le_of_ble_eq_true rfl⟩ (show cells + 2 ≤ 24340 ∧ slots + 12 ≤ 146040 from ⟨by omega, by omega⟩) rfl hl.1 rfl (Nat.le_of_ble_eq_true rfl) dL_hands_487 (fun H locs hw hS => ?_)
        refine W.eq (g2 := F0 m 490 ls [.int v_105, .int x19]) rfl ?_
        refine lv_iadd cx.1 cx.2.1 dL_hands_490 ?_
        obtain ⟨x19_107, ex19_107, hf⟩ := gvi_ex hf
        refine W.eq (g2 := F0 m 491 ls [.int x19_107]) (by rw [← ex19_107]) ?_
        refine lv_istore (lv' := [(19, .int x19_107), (0, .ref (G.2.1 0)), (1, .int x1), (2, .int x2), (3, .int x3), (6, .int x6), (14, .int x14), (16, .int x16), (17, .int x17), (18, .int x18), (20, .int x20)]) cx.1 cx.2.1 dL_hands_491 hl (by decide) rfl (fun ls hl => ?_)
        obtain ⟨x20_108, ex20_108, hf⟩ := gvi_ex hf
        refine lv_iinc (v := x20_108) (lv' := [(20, .int x20_108), (19, .int x19_107), (0, .ref (G.2.1 0)), (1, .int x1), (2, .int x2), (3, .int x3), (6, .int x6), (14, .int x14), (16, .int x16), (17, .int x17), (18, .int x18)]) cx.1 cx.2.1 dL_hands_493 hl (k := 10) rfl (by rw [← ex20_108]; rfl) (by decide) rfl (fun ls hl => ?_)
        refine lv_goto (tgt := 475) cx.1 cx.2.1 dL_hands_496 (by decide) ?_
        exact hK475 S_106 x1 x2 x3 x6 x14 x16 x17 x18 x19_107 x20_108 _ _ _ _ _ (by omega) (by omega) hw hS (lv_sub hl [2, 3, 4, 5, 6, 7, 8, 9, 10, 1, 0] rfl) hf
  have hB_467 : ∀ (S : At) (x1 : Int32) (x2 : Int32) (x3 : Int32) (x14 : Int32) (x16 : Int32) (x17 : Int32) (x18 : Int32) (t0 : Int32) (H : Heap) (locs : List Loc) (ls : Array Slot) (cells slots : Nat), cells + (21173) ≤ 24340 → slots + (127038) ≤ 146040 → gPA G S H → va_S (gAr (gNo G) s.heap.size) s.heap H locs → lv_has ls 35 [(0, .ref (G.2.1 0)), (1, .int x1), (2, .int x2), (3, .int x3), (14, .int x14), (16, .int x16), (17, .int x17), (18, .int x18)] → B_hands_467 S x1 x2 x3 x14 x16 x17 x18 t0 = some (r, S') → W p l e (gRx 12 247 24340 146040) s m ([.ref (G.2.1 0), .int a1] : List Value).toArray below meth c H locs cells slots (MQ below (gQr (gPA G S') (some (.int r)) (gAr (gNo G) s.heap.size)) ([.ref (G.2.1 0), .int a1] : List Value).toArray s 24340 146040 (gAr (gNo G) s.heap.size)) (F0 m 467 ls [.int t0]) := by
    intro S x1 x2 x3 x14 x16 x17 x18 t0 H locs ls cells slots hcl hsl hw hS hl hf
    unfold B_hands_467 at hf
    refine lv_istore (lv' := [(6, .int t0), (0, .ref (G.2.1 0)), (1, .int x1), (2, .int x2), (3, .int x3), (14, .int x14), (16, .int x16), (17, .int x17), (18, .int x18)]) cx.1 cx.2.1 dL_hands_467 hl (by decide) rfl (fun ls hl => ?_)
    refine lv_iconst (v := (0 : Int32)) cx.1 cx.2.1 dL_hands_469 (by decide) ?_
    refine lv_istore (lv' := [(19, .int (0 : Int32)), (6, .int t0), (0, .ref (G.2.1 0)), (1, .int x1), (2, .int x2), (3, .int x3), (14, .int x14), (16, .int x16), (17, .int x17), (18, .int x18)]) cx.1 cx.2.1 dL_hands_470 hl (by decide) rfl (fun ls hl => ?_)
    refine lv_iconst (v := (0 : Int32)) cx.1 cx.2.1 dL_hands_472 (by decide) ?_
    refine lv_istore (lv' := [(20, .int (0 : Int32)), (19, .int (0 : Int32)), (6, .int t0), (0, .ref (G.2.1 0)), (1, .int x1), (2, .int x2), (3, .int x3), (14, .int x14), (16, .int x16), (17, .int x17), (18, .int x18)]) cx.1 cx.2.1 dL_hands_473 hl (by decide) rfl (fun ls hl => ?_)
    exact hL_475 5 S x1 x2 x3 t0 x14 x16 x17 x18 (0 : Int32) (0 : Int32) _ _ _ _ _ (by omega) (by omega) hw hS (lv_sub hl [3, 4, 5, 6, 2, 7, 8, 9, 10, 1, 0] rfl) hf
  have hB_451 : ∀ (S : At) (x1 : Int32) (x2 : Int32) (x3 : Int32) (x14 : Int32) (x16 : Int32) (x17 : Int32) (x18 : Int32) (t0 : Int32) (t1 : Int32) (t2 : Int32) (H : Heap) (locs : List Loc) (ls : Array Slot) (cells slots : Nat), cells + (22471) ≤ 24340 → slots + (134826) ≤ 146040 → gPA G S H → va_S (gAr (gNo G) s.heap.size) s.heap H locs → lv_has ls 35 [(0, .ref (G.2.1 0)), (1, .int x1), (2, .int x2), (3, .int x3), (14, .int x14), (16, .int x16), (17, .int x17), (18, .int x18)] → B_hands_451 S x1 x2 x3 x14 x16 x17 x18 t0 t1 t2 = some (r, S') → W p l e (gRx 12 247 24340 146040) s m ([.ref (G.2.1 0), .int a1] : List Value).toArray below meth c H locs cells slots (MQ below (gQr (gPA G S') (some (.int r)) (gAr (gNo G) s.heap.size)) ([.ref (G.2.1 0), .int a1] : List Value).toArray s 24340 146040 (gAr (gNo G) s.heap.size)) (F0 m 451 ls [.int t0, .int t1, .int t2]) := by
    intro S x1 x2 x3 x14 x16 x17 x18 t0 t1 t2 H locs ls cells slots hcl hsl hw hS hl hf
    unfold B_hands_451 at hf
    refine lv_isub cx.1 cx.2.1 dL_hands_451 ?_
    refine lv_icmp_ne (tgt := 466) cx.1 cx.2.1 dL_hands_452 (by decide) (fun hc => ?_) (fun hc => ?_)
    · rw [if_neg hc] at hf
      refine lv_iconst (v := (0 : Int32)) cx.1 cx.2.1 dL_hands_466 (by decide) ?_
      exact hB_467 S x1 x2 x3 x14 x16 x17 x18 (0 : Int32) _ _ _ _ _ (by omega) (by omega) hw hS (lv_sub hl [0, 1, 2, 3, 4, 5, 6, 7] rfl) hf
    · rw [if_pos hc] at hf
      refine lv_aload_n cx.1 cx.2.1 dL_hands_455 rfl (lv_at hl 0 rfl) ?_
      obtain ⟨v_109, S_110, hv, hf⟩ := gbs_some hf
      refine a_S (As := [.ref (G.2.1 0)]) (rest := []) cx hX hZ hw hS (a_sound l hst G S v_109 S_110 hv) gw_830 gyl_L_sound gil_L_sound ⟨Nat.le_of_ble_eq_true rfl, Nat.le_of_ble_eq_true rfl⟩ (show cells + 1298 ≤ 24340 ∧ slots + 7788 ≤ 146040 from ⟨by omega, by omega⟩) rfl hl.1 rfl (Nat.le_of_ble_eq_true rfl) dL_hands_456 (fun H locs hw hS => ?_)
      refine W.eq (g2 := F0 m 459 ls [.int v_109]) rfl ?_
      refine lv_if_eq (tgt := 466) cx.1 cx.2.1 dL_hands_459 (by decide) (fun hc => ?_) (fun hc => ?_)
      · rw [if_pos hc] at hf
        refine lv_iconst (v := (0 : Int32)) cx.1 cx.2.1 dL_hands_466 (by decide) ?_
        exact hB_467 S_110 x1 x2 x3 x14 x16 x17 x18 (0 : Int32) _ _ _ _ _ (by omega) (by omega) hw hS (lv_sub hl [0, 1, 2, 3, 4, 5, 6, 7] rfl) hf
      · rw [if_neg hc] at hf
        refine lv_iconst (v := (1 : Int32)) cx.1 cx.2.1 dL_hands_462 (by decide) ?_
        refine lv_goto (tgt := 467) cx.1 cx.2.1 dL_hands_463 (by decide) ?_
        exact hB_467 S_110 x1 x2 x3 x14 x16 x17 x18 (1 : Int32) _ _ _ _ _ (by omega) (by omega) hw hS (lv_sub hl [0, 1, 2, 3, 4, 5, 6, 7] rfl) hf
  have hB_425 : ∀ (S : At) (x1 : Int32) (x2 : Int32) (x3 : Int32) (x4 : Int32) (x13 : Int32) (x14 : Int32) (x16 : Int32) (x17 : Int32) (x18 : Int32) (t0 : Int32) (t1 : Int32) (t2 : Int32) (H : Heap) (locs : List Loc) (ls : Array Slot) (cells slots : Nat), cells + (22473) ≤ 24340 → slots + (134838) ≤ 146040 → gPA G S H → va_S (gAr (gNo G) s.heap.size) s.heap H locs → lv_has ls 35 [(0, .ref (G.2.1 0)), (1, .int x1), (2, .int x2), (3, .int x3), (4, .int x4), (13, .int x13), (14, .int x14), (16, .int x16), (17, .int x17), (18, .int x18)] → B_hands_425 S x1 x2 x3 x4 x13 x14 x16 x17 x18 t0 t1 t2 = some (r, S') → W p l e (gRx 12 247 24340 146040) s m ([.ref (G.2.1 0), .int a1] : List Value).toArray below meth c H locs cells slots (MQ below (gQr (gPA G S') (some (.int r)) (gAr (gNo G) s.heap.size)) ([.ref (G.2.1 0), .int a1] : List Value).toArray s 24340 146040 (gAr (gNo G) s.heap.size)) (F0 m 425 ls [.int t0, .int t1, .int t2]) := by
    intro S x1 x2 x3 x4 x13 x14 x16 x17 x18 t0 t1 t2 H locs ls cells slots hcl hsl hw hS hl hf
    unfold B_hands_425 at hf
    refine lv_iadd cx.1 cx.2.1 dL_hands_425 ?_
    refine lv_icmp_ne (tgt := 466) cx.1 cx.2.1 dL_hands_426 (by decide) (fun hc => ?_) (fun hc => ?_)
    · rw [if_neg hc] at hf
      refine lv_iconst (v := (0 : Int32)) cx.1 cx.2.1 dL_hands_466 (by decide) ?_
      exact hB_467 S x1 x2 x3 x14 x16 x17 x18 (0 : Int32) _ _ _ _ _ (by omega) (by omega) hw hS (lv_sub hl [0, 1, 2, 3, 6, 7, 8, 9] rfl) hf
    · rw [if_pos hc] at hf
      refine lv_aload_n cx.1 cx.2.1 dL_hands_429 rfl (lv_at hl 0 rfl) ?_
      refine lv_iload_n cx.1 cx.2.1 dL_hands_430 rfl (lv_at hl 3 rfl) ?_
      refine lv_iconst (v := (0 : Int32)) cx.1 cx.2.1 dL_hands_431 (by decide) ?_
      obtain ⟨v_111, S_112, hv, hf⟩ := gbs_some hf
      refine a_SW (As := [.ref (G.2.1 0), .int x3, .int (0 : Int32)]) (rest := []) cx hX hZ hw hS (a_tryCompany l hst G x3 (0 : Int32) S v_111 S_112 hv) gw_349 gw_187 gyw_L_tryCompany ⟨by decide, by decide⟩ ⟨Nat.le_of_ble_eq_true rfl, Nat.le_of_ble_eq_true rfl⟩ (show cells + 2 ≤ 24340 ∧ slots + 12 ≤ 146040 from ⟨by omega, by omega⟩) rfl hl.1 rfl (Nat.le_of_ble_eq_true rfl) dL_hands_432 (fun H locs hw hS => ?_)
      refine W.eq (g2 := F0 m 435 ls [.int v_111]) rfl ?_
      refine lv_iload cx.1 cx.2.1 dL_hands_435 (lv_at hl 4 rfl) ?_
      refine lv_iload cx.1 cx.2.1 dL_hands_437 (lv_at hl 7 rfl) ?_
      refine lv_if_eq (tgt := 450) cx.1 cx.2.1 dL_hands_439 (by decide) (fun hc => ?_) (fun hc => ?_)
      · rw [if_pos hc] at hf
        refine lv_iconst (v := (0 : Int32)) cx.1 cx.2.1 dL_hands_450 (by decide) ?_
        exact hB_451 S_112 x1 x2 x3 x14 x16 x17 x18 (0 : Int32) x4 v_111 _ _ _ _ _ (by omega) (by omega) hw hS (lv_sub hl [0, 1, 2, 3, 6, 7, 8, 9] rfl) hf
      · rw [if_neg hc] at hf
        refine lv_bipush (v := (20 : Int32)) cx.1 cx.2.1 dL_hands_442 (by decide) ?_
        refine lv_iload cx.1 cx.2.1 dL_hands_444 (lv_at hl 5 rfl) ?_
        refine lv_imul cx.1 cx.2.1 dL_hands_446 ?_
        refine lv_goto (tgt := 451) cx.1 cx.2.1 dL_hands_447 (by decide) ?_
        exact hB_451 S_112 x1 x2 x3 x14 x16 x17 x18 ((20 : Int32) * x13) x4 v_111 _ _ _ _ _ (by omega) (by omega) hw hS (lv_sub hl [0, 1, 2, 3, 6, 7, 8, 9] rfl) hf
  have hB_403 : ∀ (S : At) (x1 : Int32) (x2 : Int32) (x3 : Int32) (x4 : Int32) (x13 : Int32) (x14 : Int32) (x15 : Int32) (x16 : Int32) (x17 : Int32) (x18 : Int32) (t0 : Int32) (t1 : Int32) (H : Heap) (locs : List Loc) (ls : Array Slot) (cells slots : Nat), cells + (22474) ≤ 24340 → slots + (134844) ≤ 146040 → gPA G S H → va_S (gAr (gNo G) s.heap.size) s.heap H locs → lv_has ls 35 [(0, .ref (G.2.1 0)), (1, .int x1), (2, .int x2), (3, .int x3), (4, .int x4), (13, .int x13), (14, .int x14), (15, .int x15), (16, .int x16), (17, .int x17), (18, .int x18)] → B_hands_403 S x1 x2 x3 x4 x13 x14 x15 x16 x17 x18 t0 t1 = some (r, S') → W p l e (gRx 12 247 24340 146040) s m ([.ref (G.2.1 0), .int a1] : List Value).toArray below meth c H locs cells slots (MQ below (gQr (gPA G S') (some (.int r)) (gAr (gNo G) s.heap.size)) ([.ref (G.2.1 0), .int a1] : List Value).toArray s 24340 146040 (gAr (gNo G) s.heap.size)) (F0 m 403 ls [.int t0, .int t1]) := by
    intro S x1 x2 x3 x4 x13 x14 x15 x16 x17 x18 t0 t1 H locs ls cells slots hcl hsl hw hS hl hf
    unfold B_hands_403 at hf
    refine lv_icmp_ne (tgt := 466) cx.1 cx.2.1 dL_hands_403 (by decide) (fun hc => ?_) (fun hc => ?_)
    · rw [if_neg hc] at hf
      refine lv_iconst (v := (0 : Int32)) cx.1 cx.2.1 dL_hands_466 (by decide) ?_
      exact hB_467 S x1 x2 x3 x14 x16 x17 x18 (0 : Int32) _ _ _ _ _ (by omega) (by omega) hw hS (lv_sub hl [0, 1, 2, 3, 6, 8, 9, 10] rfl) hf
    · rw [if_pos hc] at hf
      refine lv_aload_n cx.1 cx.2.1 dL_hands_406 rfl (lv_at hl 0 rfl) ?_
      refine lv_bipush (v := (10 : Int32)) cx.1 cx.2.1 dL_hands_407 (by decide) ?_
      obtain ⟨v_113, S_114, hv, hf⟩ := gbs_some hf
      refine a_SW (As := [.ref (G.2.1 0), .int (10 : Int32)]) (rest := []) cx hX hZ hw hS (a_tryAbout l hst G (10 : Int32) S v_113 S_114 hv) gw_185 gw_187 gyw_L_tryAbout ⟨by decide, by decide⟩ ⟨Nat.le_of_ble_eq_true rfl, Nat.le_of_ble_eq_true rfl⟩ (show cells + 1 ≤ 24340 ∧ slots + 6 ≤ 146040 from ⟨by omega, by omega⟩) rfl hl.1 rfl (Nat.le_of_ble_eq_true rfl) dL_hands_409 (fun H locs hw hS => ?_)
      refine W.eq (g2 := F0 m 412 ls [.int v_113]) rfl ?_
      refine lv_iload cx.1 cx.2.1 dL_hands_412 (lv_at hl 7 rfl) ?_
      refine lv_iload cx.1 cx.2.1 dL_hands_414 (lv_at hl 8 rfl) ?_
      refine lv_if_eq (tgt := 424) cx.1 cx.2.1 dL_hands_416 (by decide) (fun hc => ?_) (fun hc => ?_)
      · rw [if_pos hc] at hf
        refine lv_iconst (v := (0 : Int32)) cx.1 cx.2.1 dL_hands_424 (by decide) ?_
        exact hB_425 S_114 x1 x2 x3 x4 x13 x14 x16 x17 x18 (0 : Int32) x15 v_113 _ _ _ _ _ (by omega) (by omega) hw hS (lv_sub hl [0, 1, 2, 3, 4, 5, 6, 8, 9, 10] rfl) hf
      · rw [if_neg hc] at hf
        refine lv_iload cx.1 cx.2.1 dL_hands_419 (lv_at hl 10 rfl) ?_
        refine lv_goto (tgt := 425) cx.1 cx.2.1 dL_hands_421 (by decide) ?_
        exact hB_425 S_114 x1 x2 x3 x4 x13 x14 x16 x17 x18 x18 x15 v_113 _ _ _ _ _ (by omega) (by omega) hw hS (lv_sub hl [0, 1, 2, 3, 4, 5, 6, 8, 9, 10] rfl) hf
  have hB_376 : ∀ (S : At) (x1 : Int32) (x2 : Int32) (x3 : Int32) (x4 : Int32) (x12 : Int32) (x13 : Int32) (x14 : Int32) (x15 : Int32) (x16 : Int32) (x17 : Int32) (x18 : Int32) (t0 : Int32) (t1 : Int32) (H : Heap) (locs : List Loc) (ls : Array Slot) (cells slots : Nat), cells + (22475) ≤ 24340 → slots + (134850) ≤ 146040 → gPA G S H → va_S (gAr (gNo G) s.heap.size) s.heap H locs → lv_has ls 35 [(0, .ref (G.2.1 0)), (1, .int x1), (2, .int x2), (3, .int x3), (4, .int x4), (12, .int x12), (13, .int x13), (14, .int x14), (15, .int x15), (16, .int x16), (17, .int x17), (18, .int x18)] → B_hands_376 S x1 x2 x3 x4 x12 x13 x14 x15 x16 x17 x18 t0 t1 = some (r, S') → W p l e (gRx 12 247 24340 146040) s m ([.ref (G.2.1 0), .int a1] : List Value).toArray below meth c H locs cells slots (MQ below (gQr (gPA G S') (some (.int r)) (gAr (gNo G) s.heap.size)) ([.ref (G.2.1 0), .int a1] : List Value).toArray s 24340 146040 (gAr (gNo G) s.heap.size)) (F0 m 376 ls [.int t0, .int t1]) := by
    intro S x1 x2 x3 x4 x12 x13 x14 x15 x16 x17 x18 t0 t1 H locs ls cells slots hcl hsl hw hS hl hf
    unfold B_hands_376 at hf
    refine lv_icmp_ne (tgt := 466) cx.1 cx.2.1 dL_hands_376 (by decide) (fun hc => ?_) (fun hc => ?_)
    · rw [if_neg hc] at hf
      refine lv_iconst (v := (0 : Int32)) cx.1 cx.2.1 dL_hands_466 (by decide) ?_
      exact hB_467 S x1 x2 x3 x14 x16 x17 x18 (0 : Int32) _ _ _ _ _ (by omega) (by omega) hw hS (lv_sub hl [0, 1, 2, 3, 7, 9, 10, 11] rfl) hf
    · rw [if_pos hc] at hf
      refine lv_aload_n cx.1 cx.2.1 dL_hands_379 rfl (lv_at hl 0 rfl) ?_
      refine lv_iconst (v := (3 : Int32)) cx.1 cx.2.1 dL_hands_380 (by decide) ?_
      obtain ⟨v_115, S_116, hv, hf⟩ := gbs_some hf
      refine a_SW (As := [.ref (G.2.1 0), .int (3 : Int32)]) (rest := []) cx hX hZ hw hS (a_tryAbout l hst G (3 : Int32) S v_115 S_116 hv) gw_185 gw_187 gyw_L_tryAbout ⟨by decide, by decide⟩ ⟨Nat.le_of_ble_eq_true rfl, Nat.le_of_ble_eq_true rfl⟩ (show cells + 1 ≤ 24340 ∧ slots + 6 ≤ 146040 from ⟨by omega, by omega⟩) rfl hl.1 rfl (Nat.le_of_ble_eq_true rfl) dL_hands_381 (fun H locs hw hS => ?_)
      refine W.eq (g2 := F0 m 384 ls [.int v_115]) rfl ?_
      refine lv_iload cx.1 cx.2.1 dL_hands_384 (lv_at hl 9 rfl) ?_
      refine lv_if_eq (tgt := 401) cx.1 cx.2.1 dL_hands_386 (by decide) (fun hc => ?_) (fun hc => ?_)
      · rw [if_pos hc] at hf
        refine lv_iload cx.1 cx.2.1 dL_hands_401 (lv_at hl 5 rfl) ?_
        exact hB_403 S_116 x1 x2 x3 x4 x13 x14 x15 x16 x17 x18 x12 v_115 _ _ _ _ _ (by omega) (by omega) hw hS (lv_sub hl [0, 1, 2, 3, 4, 6, 7, 8, 9, 10, 11] rfl) hf
      · rw [if_neg hc] at hf
        refine lv_iload cx.1 cx.2.1 dL_hands_389 (lv_at hl 6 rfl) ?_
        refine lv_iload cx.1 cx.2.1 dL_hands_391 (lv_at hl 5 rfl) ?_
        refine lv_icmp_le (tgt := 401) cx.1 cx.2.1 dL_hands_393 (by decide) (fun hc => ?_) (fun hc => ?_)
        · rw [if_pos hc] at hf
          refine lv_iload cx.1 cx.2.1 dL_hands_401 (lv_at hl 5 rfl) ?_
          exact hB_403 S_116 x1 x2 x3 x4 x13 x14 x15 x16 x17 x18 x12 v_115 _ _ _ _ _ (by omega) (by omega) hw hS (lv_sub hl [0, 1, 2, 3, 4, 6, 7, 8, 9, 10, 11] rfl) hf
        · rw [if_neg hc] at hf
          refine lv_iload cx.1 cx.2.1 dL_hands_396 (lv_at hl 6 rfl) ?_
          refine lv_goto (tgt := 403) cx.1 cx.2.1 dL_hands_398 (by decide) ?_
          exact hB_403 S_116 x1 x2 x3 x4 x13 x14 x15 x16 x17 x18 x13 v_115 _ _ _ _ _ (by omega) (by omega) hw hS (lv_sub hl [0, 1, 2, 3, 4, 6, 7, 8, 9, 10, 11] rfl) hf
  have hB_337 : ∀ (K285 : At → Int32 → Int32 → Int32 → Int32 → Int32 → Int32 → Int32 → Int32 → Int32 → Int32 → Int32 → Int32 → Int32 → Option (Int32 × At)) (n_285 : Nat) (hK285 : ∀ (S : At) (x1 : Int32) (x2 : Int32) (x3 : Int32) (x4 : Int32) (x6 : Int32) (x12 : Int32) (x13 : Int32) (x14 : Int32) (x15 : Int32) (x16 : Int32) (x17 : Int32) (x18 : Int32) (x19 : Int32) (H : Heap) (locs : List Loc) (ls : Array Slot) (cells slots : Nat), cells + (22478 + 27 * n_285) ≤ 24340 → slots + (134868 + 162 * n_285) ≤ 146040 → gPA G S H → va_S (gAr (gNo G) s.heap.size) s.heap H locs → lv_has ls 35 [(0, .ref (G.2.1 0)), (1, .int x1), (2, .int x2), (3, .int x3), (4, .int x4), (6, .int x6), (12, .int x12), (13, .int x13), (14, .int x14), (15, .int x15), (16, .int x16), (17, .int x17), (18, .int x18), (19, .int x19)] → K285 S x1 x2 x3 x4 x6 x12 x13 x14 x15 x16 x17 x18 x19 = some (r, S') → W p l e (gRx 12 247 24340 146040) s m ([.ref (G.2.1 0), .int a1] : List Value).toArray below meth c H locs cells slots (MQ below (gQr (gPA G S') (some (.int r)) (gAr (gNo G) s.heap.size)) ([.ref (G.2.1 0), .int a1] : List Value).toArray s 24340 146040 (gAr (gNo G) s.heap.size)) (F0 m 285 ls [])) (K294 : At → Int32 → Int32 → Int32 → Int32 → Int32 → Int32 → Int32 → Int32 → Int32 → Int32 → Int32 → Int32 → Int32 → Int32 → Option (Int32 × At)) (n_294 : Nat) (hK294 : ∀ (S : At) (x1 : Int32) (x2 : Int32) (x3 : Int32) (x4 : Int32) (x6 : Int32) (x12 : Int32) (x13 : Int32) (x14 : Int32) (x15 : Int32) (x16 : Int32) (x17 : Int32) (x18 : Int32) (x19 : Int32) (x20 : Int32) (H : Heap) (locs : List Loc) (ls : Array Slot) (cells slots : Nat), cells + (22480 + 5 * n_294 + 27 * n_285) ≤ 24340 → slots + (134880 + 30 * n_294 + 162 * n_285) ≤ 146040 → gPA G S H → va_S (gAr (gNo G) s.heap.size) s.heap H locs → lv_has ls 35 [(0, .ref (G.2.1 0)), (1, .int x1), (2, .int x2), (3, .int x3), (4, .int x4), (6, .int x6), (12, .int x12), (13, .int x13), (14, .int x14), (15, .int x15), (16, .int x16), (17, .int x17), (18, .int x18), (19, .int x19), (20, .int x20)] → K294 S x1 x2 x3 x4 x6 x12 x13 x14 x15 x16 x17 x18 x19 x20 = some (r, S') → W p l e (gRx 12 247 24340 146040) s m ([.ref (G.2.1 0), .int a1] : List Value).toArray below meth c H locs cells slots (MQ below (gQr (gPA G S') (some (.int r)) (gAr (gNo G) s.heap.size)) ([.ref (G.2.1 0), .int a1] : List Value).toArray s 24340 146040 (gAr (gNo G) s.heap.size)) (F0 m 294 ls [])), ∀ (S : At) (x1 : Int32) (x2 : Int32) (x3 : Int32) (x4 : Int32) (x6 : Int32) (x12 : Int32) (x13 : Int32) (x14 : Int32) (x15 : Int32) (x16 : Int32) (x17 : Int32) (x19 : Int32) (x20 : Int32) (t0 : Int32) (t1 : Int32) (H : Heap) (locs : List Loc) (ls : Array Slot) (cells slots : Nat), cells + (22480 + 27 * n_285 + 5 * n_294) ≤ 24340 → slots + (134880 + 162 * n_285 + 30 * n_294) ≤ 146040 → gPA G S H → va_S (gAr (gNo G) s.heap.size) s.heap H locs → lv_has ls 35 [(0, .ref (G.2.1 0)), (1, .int x1), (2, .int x2), (3, .int x3), (4, .int x4), (6, .int x6), (12, .int x12), (13, .int x13), (14, .int x14), (15, .int x15), (16, .int x16), (17, .int x17), (19, .int x19), (20, .int x20)] → B_hands_337 K285 K294 S x1 x2 x3 x4 x6 x12 x13 x14 x15 x16 x17 x19 x20 t0 t1 = some (r, S') → W p l e (gRx 12 247 24340 146040) s m ([.ref (G.2.1 0), .int a1] : List Value).toArray below meth c H locs cells slots (MQ below (gQr (gPA G S') (some (.int r)) (gAr (gNo G) s.heap.size)) ([.ref (G.2.1 0), .int a1] : List Value).toArray s 24340 146040 (gAr (gNo G) s.heap.size)) (F0 m 337 ls [.int t0, .int t1]) := by
    intro K285 n_285 hK285 K294 n_294 hK294 S x1 x2 x3 x4 x6 x12 x13 x14 x15 x16 x17 x19 x20 t0 t1 H locs ls cells slots hcl hsl hw hS hl hf
    unfold B_hands_337 at hf
    refine lv_iadd cx.1 cx.2.1 dL_hands_337 ?_
    obtain ⟨x18_117, ex18_117, hf⟩ := gvi_ex hf
    refine W.eq (g2 := F0 m 338 ls [.int x18_117]) (by rw [← ex18_117]) ?_
    refine lv_istore (lv' := [(18, .int x18_117), (0, .ref (G.2.1 0)), (1, .int x1), (2, .int x2), (3, .int x3), (4, .int x4), (6, .int x6), (12, .int x12), (13, .int x13), (14, .int x14), (15, .int x15), (16, .int x16), (17, .int x17), (19, .int x19), (20, .int x20)]) cx.1 cx.2.1 dL_hands_338 hl (by decide) rfl (fun ls hl => ?_)
    obtain ⟨x20_118, ex20_118, hf⟩ := gvi_ex hf
    refine lv_iinc (v := x20_118) (lv' := [(20, .int x20_118), (18, .int x18_117), (0, .ref (G.2.1 0)), (1, .int x1), (2, .int x2), (3, .int x3), (4, .int x4), (6, .int x6), (12, .int x12), (13, .int x13), (14, .int x14), (15, .int x15), (16, .int x16), (17, .int x17), (19, .int x19)]) cx.1 cx.2.1 dL_hands_340 hl (k := 14) rfl (by rw [← ex20_118]; rfl) (by decide) rfl (fun ls hl => ?_)
    refine lv_goto (tgt := 294) cx.1 cx.2.1 dL_hands_343 (by decide) ?_
    exact hK294 S x1 x2 x3 x4 x6 x12 x13 x14 x15 x16 x17 x18_117 x19 x20_118 _ _ _ _ _ (by omega) (by omega) hw hS (lv_sub hl [2, 3, 4, 5, 6, 7, 8, 9, 10, 11, 12, 13, 1, 14, 0] rfl) hf
  have hL_294 : ∀ (K285 : At → Int32 → Int32 → Int32 → Int32 → Int32 → Int32 → Int32 → Int32 → Int32 → Int32 → Int32 → Int32 → Int32 → Option (Int32 × At)) (n_285 : Nat) (hK285 : ∀ (S : At) (x1 : Int32) (x2 : Int32) (x3 : Int32) (x4 : Int32) (x6 : Int32) (x12 : Int32) (x13 : Int32) (x14 : Int32) (x15 : Int32) (x16 : Int32) (x17 : Int32) (x18 : Int32) (x19 : Int32) (H : Heap) (locs : List Loc) (ls : Array Slot) (cells slots : Nat), cells + (22478 + 27 * n_285) ≤ 24340 → slots + (134868 + 162 * n_285) ≤ 146040 → gPA G S H → va_S (gAr (gNo G) s.heap.size) s.heap H locs → lv_has ls 35 [(0, .ref (G.2.1 0)), (1, .int x1), (2, .int x2), (3, .int x3), (4, .int x4), (6, .int x6), (12, .int x12), (13, .int x13), (14, .int x14), (15, .int x15), (16, .int x16), (17, .int x17), (18, .int x18), (19, .int x19)] → K285 S x1 x2 x3 x4 x6 x12 x13 x14 x15 x16 x17 x18 x19 = some (r, S') → W p l e (gRx 12 247 24340 146040) s m ([.ref (G.2.1 0), .int a1] : List Value).toArray below meth c H locs cells slots (MQ below (gQr (gPA G S') (some (.int r)) (gAr (gNo G) s.heap.size)) ([.ref (G.2.1 0), .int a1] : List Value).toArray s 24340 146040 (gAr (gNo G) s.heap.size)) (F0 m 285 ls [])), ∀ (n : Nat), ∀ (S : At) (x1 : Int32) (x2 : Int32) (x3 : Int32) (x4 : Int32) (x6 : Int32) (x12 : Int32) (x13 : Int32) (x14 : Int32) (x15 : Int32) (x16 : Int32) (x17 : Int32) (x18 : Int32) (x19 : Int32) (x20 : Int32) (H : Heap) (locs : List Loc) (ls : Array Slot) (cells slots : Nat), cells + (22480 + 5 * n + 27 * n_285) ≤ 24340 → slots + (134880 + 30 * n + 162 * n_285) ≤ 146040 → gPA G S H → va_S (gAr (gNo G) s.heap.size) s.heap H locs → lv_has ls 35 [(0, .ref (G.2.1 0)), (1, .int x1), (2, .int x2), (3, .int x3), (4, .int x4), (6, .int x6), (12, .int x12), (13, .int x13), (14, .int x14), (15, .int x15), (16, .int x16), (17, .int x17), (18, .int x18), (19, .int x19), (20, .int x20)] → L_hands_294 K285 n S x1 x2 x3 x4 x6 x12 x13 x14 x15 x16 x17 x18 x19 x20 = some (r, S') → W p l e (gRx 12 247 24340 146040) s m ([.ref (G.2.1 0), .int a1] : List Value).toArray below meth c H locs cells slots (MQ below (gQr (gPA G S') (some (.int r)) (gAr (gNo G) s.heap.size)) ([.ref (G.2.1 0), .int a1] : List Value).toArray s 24340 146040 (gAr (gNo G) s.heap.size)) (F0 m 294 ls []) := by
    intro K285 n_285 hK285 n_294
    induction n_294 with
    | zero => intro S x1 x2 x3 x4 x6 x12 x13 x14 x15 x16 x17 x18 x19 x20 H locs ls cells slots hcl hsl hw hS hl hf; cases hf
    | succ n_294 hK294 =>
      intro S x1 x2 x3 x4 x6 x12 x13 x14 x15 x16 x17 x18 x19 x20 H locs ls cells slots hcl hsl hw hS hl hf
      have hf : Lb_hands_294 K285 (L_hands_294 K285 n_294) S x1 x2 x3 x4 x6 x12 x13 x14 x15 x16 x17 x18 x19 x20 = some (r, S') := hf
      unfold Lb_hands_294 at hf
      refine lv_iload cx.1 cx.2.1 dL_hands_294 (lv_at hl 14 rfl) ?_
      refine lv_aload_n cx.1 cx.2.1 dL_hands_296 rfl (lv_at hl 0 rfl) ?_
      refine lv_iload cx.1 cx.2.1 dL_hands_297 (lv_at hl 13 rfl) ?_
      refine lv_iconst (v := (2 : Int32)) cx.1 cx.2.1 dL_hands_299 (by decide) ?_
      obtain ⟨v_119, S_120, hv, hf⟩ := gbs_some hf
      refine a_SW (As := [.ref (G.2.1 0), .int x19, .int (2 : Int32)]) (rest := [.int x20]) cx hX hZ hw hS (a_tryCompany l hst G x19 (2 : Int32) S v_119 S_120 hv) gw_349 gw_187 gyw_L_tryCompany ⟨by decide, by decide⟩ ⟨Nat.le_of_ble_eq_true rfl, Nat.le_of_ble_eq_true rfl⟩ (show cells + 2 ≤ 24340 ∧ slots + 12 ≤ 146040 from ⟨by omega, by omega⟩) rfl hl.1 rfl (Nat.le_of_ble_eq_true rfl) dL_hands_300 (fun H locs hw hS => ?_)
      refine W.eq (g2 := F0 m 303 ls [.int v_119, .int x20]) rfl ?_
      refine lv_icmp_ge (tgt := 346) cx.1 cx.2.1 dL_hands_303 (by decide) (fun hc => ?_) (fun hc => ?_)
      · rw [if_pos hc] at hf
        obtain ⟨x19_121, ex19_121, hf⟩ := gvi_ex hf
        refine lv_iinc (v := x19_121) (lv' := [(19, .int x19_121), (0, .ref (G.2.1 0)), (1, .int x1), (2, .int x2), (3, .int x3), (4, .int x4), (6, .int x6), (12, .int x12), (13, .int x13), (14, .int x14), (15, .int x15), (16, .int x16), (17, .int x17), (18, .int x18), (20, .int x20)]) cx.1 cx.2.1 dL_hands_346 hl (k := 13) rfl (by rw [← ex19_121]; rfl) (by decide) rfl (fun ls hl => ?_)
        refine lv_goto (tgt := 285) cx.1 cx.2.1 dL_hands_349 (by decide) ?_
        exact hK285 S_120 x1 x2 x3 x4 x6 x12 x13 x14 x15 x16 x17 x18 x19_121 _ _ _ _ _ (by omega) (by omega) hw hS (lv_sub hl [1, 2, 3, 4, 5, 6, 7, 8, 9, 10, 11, 12, 13, 0] rfl) hf
      · rw [if_neg hc] at hf
        obtain ⟨x17_122, ex17_122, hf⟩ := gvi_ex hf
        refine lv_iinc (v := x17_122) (lv' := [(17, .int x17_122), (0, .ref (G.2.1 0)), (1, .int x1), (2, .int x2), (3, .int x3), (4, .int x4), (6, .int x6), (12, .int x12), (13, .int x13), (14, .int x14), (15, .int x15), (16, .int x16), (18, .int x18), (19, .int x19), (20, .int x20)]) cx.1 cx.2.1 dL_hands_306 hl (k := 11) rfl (by rw [← ex17_122]; rfl) (by decide) rfl (fun ls hl => ?_)
        refine lv_iload cx.1 cx.2.1 dL_hands_309 (lv_at hl 12 rfl) ?_
        refine lv_iload cx.1 cx.2.1 dL_hands_311 (lv_at hl 8 rfl) ?_
        refine lv_iload cx.1 cx.2.1 dL_hands_313 (lv_at hl 7 rfl) ?_
        refine lv_icmp_le (tgt := 336) cx.1 cx.2.1 dL_hands_315 (by decide) (fun hc => ?_) (fun hc => ?_)
        · rw [if_pos hc] at hf
          refine lv_iconst (v := (0 : Int32)) cx.1 cx.2.1 dL_hands_336 (by decide) ?_
          exact hB_337 K285 n_285 hK285 (L_hands_294 K285 n_294) n_294 hK294 S_120 x1 x2 x3 x4 x6 x12 x13 x14 x15 x16 x17_122 x19 x20 (0 : Int32) x18 _ _ _ _ _ (by omega) (by omega) hw hS (lv_sub hl [1, 2, 3, 4, 5, 6, 7, 8, 9, 10, 11, 0, 13, 14] rfl) hf
        · rw [if_neg hc] at hf
          refine lv_aload_n cx.1 cx.2.1 dL_hands_318 rfl (lv_at hl 1 rfl) ?_
          refine lv_iload cx.1 cx.2.1 dL_hands_319 (lv_at hl 13 rfl) ?_
          refine lv_iload cx.1 cx.2.1 dL_hands_321 (lv_at hl 14 rfl) ?_
          refine lv_iconst (v := (0 : Int32)) cx.1 cx.2.1 dL_hands_323 (by decide) ?_
          obtain ⟨v_123, S_124, hv, hf⟩ := gbs_some hf
          refine a_SW (As := [.ref (G.2.1 0), .int x19, .int x20, .int (0 : Int32)]) (rest := [.int x18]) cx hX hZ hw hS (a_tryTrain l hst G x19 x20 (0 : Int32) S_120 v_123 S_124 hv) gw_389 gw_187 gyw_L_tryTrain ⟨by decide, by decide⟩ ⟨Nat.le_of_ble_eq_true rfl, Nat.le_of_ble_eq_true rfl⟩ (show cells + 2 + 3 ≤ 24340 ∧ slots + 12 + 18 ≤ 146040 from ⟨by omega, by omega⟩) rfl hl.1 rfl (Nat.le_of_ble_eq_true rfl) dL_hands_324 (fun H locs hw hS => ?_)
          refine W.eq (g2 := F0 m 327 ls [.int v_123, .int x18]) rfl ?_
          refine lv_iload cx.1 cx.2.1 dL_hands_327 (lv_at hl 7 rfl) ?_
          refine lv_icmp_ge (tgt := 336) cx.1 cx.2.1 dL_hands_329 (by decide) (fun hc => ?_) (fun hc => ?_)
          · rw [if_pos hc] at hf
            refine lv_iconst (v := (0 : Int32)) cx.1 cx.2.1 dL_hands_336 (by decide) ?_
            exact hB_337 K285 n_285 hK285 (L_hands_294 K285 n_294) n_294 hK294 S_124 x1 x2 x3 x4 x6 x12 x13 x14 x15 x16 x17_122 x19 x20 (0 : Int32) x18 _ _ _ _ _ (by omega) (by omega) hw hS (lv_sub hl [1, 2, 3, 4, 5, 6, 7, 8, 9, 10, 11, 0, 13, 14] rfl) hf
          · rw [if_neg hc] at hf
            refine lv_iconst (v := (1 : Int32)) cx.1 cx.2.1 dL_hands_332 (by decide) ?_
            refine lv_goto (tgt := 337) cx.1 cx.2.1 dL_hands_333 (by decide) ?_
            exact hB_337 K285 n_285 hK285 (L_hands_294 K285 n_294) n_294 hK294 S_124 x1 x2 x3 x4 x6 x12 x13 x14 x15 x16 x17_122 x19 x20 (1 : Int32) x18 _ _ _ _ _ (by omega) (by omega) hw hS (lv_sub hl [1, 2, 3, 4, 5, 6, 7, 8, 9, 10, 11, 0, 13, 14] rfl) hf
  have hL_285 : ∀ (n : Nat), ∀ (S : At) (x1 : Int32) (x2 : Int32) (x3 : Int32) (x4 : Int32) (x6 : Int32) (x12 : Int32) (x13 : Int32) (x14 : Int32) (x15 : Int32) (x16 : Int32) (x17 : Int32) (x18 : Int32) (x19 : Int32) (H : Heap) (locs : List Loc) (ls : Array Slot) (cells slots : Nat), cells + (22478 + 27 * n) ≤ 24340 → slots + (134868 + 162 * n) ≤ 146040 → gPA G S H → va_S (gAr (gNo G) s.heap.size) s.heap H locs → lv_has ls 35 [(0, .ref (G.2.1 0)), (1, .int x1), (2, .int x2), (3, .int x3), (4, .int x4), (6, .int x6), (12, .int x12), (13, .int x13), (14, .int x14), (15, .int x15), (16, .int x16), (17, .int x17), (18, .int x18), (19, .int x19)] → L_hands_285 n S x1 x2 x3 x4 x6 x12 x13 x14 x15 x16 x17 x18 x19 = some (r, S') → W p l e (gRx 12 247 24340 146040) s m ([.ref (G.2.1 0), .int a1] : List Value).toArray below meth c H locs cells slots (MQ below (gQr (gPA G S') (some (.int r)) (gAr (gNo G) s.heap.size)) ([.ref (G.2.1 0), .int a1] : List Value).toArray s 24340 146040 (gAr (gNo G) s.heap.size)) (F0 m 285 ls []) := by
    intro n_285
    induction n_285 with
    | zero => intro S x1 x2 x3 x4 x6 x12 x13 x14 x15 x16 x17 x18 x19 H locs ls cells slots hcl hsl hw hS hl hf; cases hf
    | succ n_285 hK285 =>
      intro S x1 x2 x3 x4 x6 x12 x13 x14 x15 x16 x17 x18 x19 H locs ls cells slots hcl hsl hw hS hl hf
      have hf : Lb_hands_285 (L_hands_285 n_285) S x1 x2 x3 x4 x6 x12 x13 x14 x15 x16 x17 x18 x19 = some (r, S') := hf
      unfold Lb_hands_285 at hf
      refine lv_iload cx.1 cx.2.1 dL_hands_285 (lv_at hl 13 rfl) ?_
      refine lv_iconst (v := (4 : Int32)) cx.1 cx.2.1 dL_hands_287 (by decide) ?_
      refine lv_icmp_ge (tgt := 352) cx.1 cx.2.1 dL_hands_288 (by decide) (fun hc => ?_) (fun hc => ?_)
      · rw [if_pos hc] at hf
        refine lv_iload cx.1 cx.2.1 dL_hands_352 (lv_at hl 5 rfl) ?_
        refine lv_if_eq (tgt := 466) cx.1 cx.2.1 dL_hands_354 (by decide) (fun hc => ?_) (fun hc => ?_)
        · rw [if_pos hc] at hf
          refine lv_iconst (v := (0 : Int32)) cx.1 cx.2.1 dL_hands_466 (by decide) ?_
          exact hB_467 S x1 x2 x3 x14 x16 x17 x18 (0 : Int32) _ _ _ _ _ (by omega) (by omega) hw hS (lv_sub hl [0, 1, 2, 3, 8, 10, 11, 12] rfl) hf
        · rw [if_neg hc] at hf
          refine lv_aload_n cx.1 cx.2.1 dL_hands_357 rfl (lv_at hl 0 rfl) ?_
          refine lv_iload_n cx.1 cx.2.1 dL_hands_358 rfl (lv_at hl 3 rfl) ?_
          refine lv_iload cx.1 cx.2.1 dL_hands_359 (lv_at hl 7 rfl) ?_
          obtain ⟨v_125, S_126, hv, hf⟩ := gbs_some hf
          refine a_SW (As := [.ref (G.2.1 0), .int x3, .int x13]) (rest := []) cx hX hZ hw hS (a_tryBuyTrain l hst G x3 x13 S v_125 S_126 hv) gw_468 gw_187 gyw_L_tryBuyTrain ⟨by decide, by decide⟩ ⟨Nat.le_of_ble_eq_true rfl, Nat.le_of_ble_eq_true rfl⟩ (show cells + 3 ≤ 24340 ∧ slots + 18 ≤ 146040 from ⟨by omega, by omega⟩) rfl hl.1 rfl (Nat.le_of_ble_eq_true rfl) dL_hands_361 (fun H locs hw hS => ?_)
          refine W.eq (g2 := F0 m 364 ls [.int v_125]) rfl ?_
          refine lv_iload cx.1 cx.2.1 dL_hands_364 (lv_at hl 10 rfl) ?_
          refine lv_if_eq (tgt := 374) cx.1 cx.2.1 dL_hands_366 (by decide) (fun hc => ?_) (fun hc => ?_)
          · rw [if_pos hc] at hf
            refine lv_ldc cx.1 cx.2.1 cx.2.2.2.1 (cx.2.2.2.2.ts _ gw_3) dL_hands_374 ?_
            exact hB_376 S_126 x1 x2 x3 x4 x12 x13 x14 x15 x16 x17 x18 (-9999003 : Int32) v_125 _ _ _ _ _ (by omega) (by omega) hw hS (lv_sub hl [0, 1, 2, 3, 4, 6, 7, 8, 9, 10, 11, 12] rfl) hf
          · rw [if_neg hc] at hf
            refine lv_iload cx.1 cx.2.1 dL_hands_369 (lv_at hl 12 rfl) ?_
            refine lv_goto (tgt := 376) cx.1 cx.2.1 dL_hands_371 (by decide) ?_
            exact hB_376 S_126 x1 x2 x3 x4 x12 x13 x14 x15 x16 x17 x18 x18 v_125 _ _ _ _ _ (by omega) (by omega) hw hS (lv_sub hl [0, 1, 2, 3, 4, 6, 7, 8, 9, 10, 11, 12] rfl) hf
      · rw [if_neg hc] at hf
        refine lv_iconst (v := (0 : Int32)) cx.1 cx.2.1 dL_hands_291 (by decide) ?_
        refine lv_istore (lv' := [(20, .int (0 : Int32)), (0, .ref (G.2.1 0)), (1, .int x1), (2, .int x2), (3, .int x3), (4, .int x4), (6, .int x6), (12, .int x12), (13, .int x13), (14, .int x14), (15, .int x15), (16, .int x16), (17, .int x17), (18, .int x18), (19, .int x19)]) cx.1 cx.2.1 dL_hands_292 hl (by decide) rfl (fun ls hl => ?_)
        exact hL_294 (L_hands_285 n_285) n_285 hK285 5 S x1 x2 x3 x4 x6 x12 x13 x14 x15 x16 x17 x18 x19 (0 : Int32) _ _ _ _ _ (by omega) (by omega) hw hS (lv_sub hl [1, 2, 3, 4, 5, 6, 7, 8, 9, 10, 11, 12, 13, 14, 0] rfl) hf
  have hB_274 : ∀ (S : At) (x1 : Int32) (x2 : Int32) (x3 : Int32) (x4 : Int32) (x6 : Int32) (x12 : Int32) (x13 : Int32) (x14 : Int32) (x15 : Int32) (t0 : Int32) (H : Heap) (locs : List Loc) (ls : Array Slot) (cells slots : Nat), cells + (22613) ≤ 24340 → slots + (135678) ≤ 146040 → gPA G S H → va_S (gAr (gNo G) s.heap.size) s.heap H locs → lv_has ls 35 [(0, .ref (G.2.1 0)), (1, .int x1), (2, .int x2), (3, .int x3), (4, .int x4), (6, .int x6), (12, .int x12), (13, .int x13), (14, .int x14), (15, .int x15)] → B_hands_274 S x1 x2 x3 x4 x6 x12 x13 x14 x15 t0 = some (r, S') → W p l e (gRx 12 247 24340 146040) s m ([.ref (G.2.1 0), .int a1] : List Value).toArray below meth c H locs cells slots (MQ below (gQr (gPA G S') (some (.int r)) (gAr (gNo G) s.heap.size)) ([.ref (G.2.1 0), .int a1] : List Value).toArray s 24340 146040 (gAr (gNo G) s.heap.size)) (F0 m 274 ls [.int t0]) := by
    intro S x1 x2 x3 x4 x6 x12 x13 x14 x15 t0 H locs ls cells slots hcl hsl hw hS hl hf
    unfold B_hands_274 at hf
    refine lv_istore (lv' := [(16, .int t0), (0, .ref (G.2.1 0)), (1, .int x1), (2, .int x2), (3, .int x3), (4, .int x4), (6, .int x6), (12, .int x12), (13, .int x13), (14, .int x14), (15, .int x15)]) cx.1 cx.2.1 dL_hands_274 hl (by decide) rfl (fun ls hl => ?_)
    refine lv_iconst (v := (0 : Int32)) cx.1 cx.2.1 dL_hands_276 (by decide) ?_
    refine lv_istore (lv' := [(17, .int (0 : Int32)), (16, .int t0), (0, .ref (G.2.1 0)), (1, .int x1), (2, .int x2), (3, .int x3), (4, .int x4), (6, .int x6), (12, .int x12), (13, .int x13), (14, .int x14), (15, .int x15)]) cx.1 cx.2.1 dL_hands_277 hl (by decide) rfl (fun ls hl => ?_)
    refine lv_iconst (v := (0 : Int32)) cx.1 cx.2.1 dL_hands_279 (by decide) ?_
    refine lv_istore (lv' := [(18, .int (0 : Int32)), (17, .int (0 : Int32)), (16, .int t0), (0, .ref (G.2.1 0)), (1, .int x1), (2, .int x2), (3, .int x3), (4, .int x4), (6, .int x6), (12, .int x12), (13, .int x13), (14, .int x14), (15, .int x15)]) cx.1 cx.2.1 dL_hands_280 hl (by decide) rfl (fun ls hl => ?_)
    refine lv_iconst (v := (0 : Int32)) cx.1 cx.2.1 dL_hands_282 (by decide) ?_
    refine lv_istore (lv' := [(19, .int (0 : Int32)), (18, .int (0 : Int32)), (17, .int (0 : Int32)), (16, .int t0), (0, .ref (G.2.1 0)), (1, .int x1), (2, .int x2), (3, .int x3), (4, .int x4), (6, .int x6), (12, .int x12), (13, .int x13), (14, .int x14), (15, .int x15)]) cx.1 cx.2.1 dL_hands_283 hl (by decide) rfl (fun ls hl => ?_)
    exact hL_285 5 S x1 x2 x3 x4 x6 x12 x13 x14 x15 t0 (0 : Int32) (0 : Int32) (0 : Int32) _ _ _ _ _ (by omega) (by omega) hw hS (lv_sub hl [4, 5, 6, 7, 8, 9, 10, 11, 12, 13, 3, 2, 1, 0] rfl) hf
  have hB_199 : ∀ (S : At) (x1 : Int32) (x2 : Int32) (x3 : Int32) (x4 : Int32) (t0 : Int32) (H : Heap) (locs : List Loc) (ls : Array Slot) (cells slots : Nat), cells + (22617) ≤ 24340 → slots + (135702) ≤ 146040 → gPA G S H → va_S (gAr (gNo G) s.heap.size) s.heap H locs → lv_has ls 35 [(0, .ref (G.2.1 0)), (1, .int x1), (2, .int x2), (3, .int x3), (4, .int x4)] → B_hands_199 S x1 x2 x3 x4 t0 = some (r, S') → W p l e (gRx 12 247 24340 146040) s m ([.ref (G.2.1 0), .int a1] : List Value).toArray below meth c H locs cells slots (MQ below (gQr (gPA G S') (some (.int r)) (gAr (gNo G) s.heap.size)) ([.ref (G.2.1 0), .int a1] : List Value).toArray s 24340 146040 (gAr (gNo G) s.heap.size)) (F0 m 199 ls [.int t0]) := by
    intro S x1 x2 x3 x4 t0 H locs ls cells slots hcl hsl hw hS hl hf
    unfold B_hands_199 at hf
    refine lv_istore (lv' := [(6, .int t0), (0, .ref (G.2.1 0)), (1, .int x1), (2, .int x2), (3, .int x3), (4, .int x4)]) cx.1 cx.2.1 dL_hands_199 hl (by decide) rfl (fun ls hl => ?_)
    refine lv_aload_n cx.1 cx.2.1 dL_hands_201 rfl (lv_at hl 1 rfl) ?_
    refine lv_iconst (v := (3 : Int32)) cx.1 cx.2.1 dL_hands_202 (by decide) ?_
    obtain ⟨v_127, S_128, hv, hf⟩ := gbs_some hf
    refine a_SW (As := [.ref (G.2.1 0), .int (3 : Int32)]) (rest := []) cx hX hZ hw hS (a_tryAbout l hst G (3 : Int32) S v_127 S_128 hv) gw_185 gw_187 gyw_L_tryAbout ⟨by decide, by decide⟩ ⟨Nat.le_of_ble_eq_true rfl, Nat.le_of_ble_eq_true rfl⟩ (show cells + 1 ≤ 24340 ∧ slots + 6 ≤ 146040 from ⟨by omega, by omega⟩) rfl hl.1 rfl (Nat.le_of_ble_eq_true rfl) dL_hands_203 (fun H locs hw hS => ?_)
    refine W.eq (g2 := F0 m 206 ls [.int v_127]) rfl ?_
    refine lv_istore (lv' := [(12, .int v_127), (6, .int t0), (0, .ref (G.2.1 0)), (1, .int x1), (2, .int x2), (3, .int x3), (4, .int x4)]) cx.1 cx.2.1 dL_hands_206 hl (by decide) rfl (fun ls hl => ?_)
    refine lv_iconst (v := (1 : Int32)) cx.1 cx.2.1 dL_hands_208 (by decide) ?_
    refine lv_iload_n cx.1 cx.2.1 dL_hands_209 rfl (lv_at hl 3 rfl) ?_
    refine lv_bipush (v := (64 : Int32)) cx.1 cx.2.1 dL_hands_210 (by decide) ?_
    refine lv_idiv cx.1 cx.2.1 dL_hands_212 (by decide) ?_
    refine lv_bipush (v := (6 : Int32)) cx.1 cx.2.1 dL_hands_213 (by decide) ?_
    refine lv_irem cx.1 cx.2.1 dL_hands_215 (by decide) ?_
    refine lv_iadd cx.1 cx.2.1 dL_hands_216 ?_
    obtain ⟨x13_129, ex13_129, hf⟩ := gvi_ex hf
    refine W.eq (g2 := F0 m 217 ls [.int x13_129]) (by rw [← ex13_129]) ?_
    refine lv_istore (lv' := [(13, .int x13_129), (12, .int v_127), (6, .int t0), (0, .ref (G.2.1 0)), (1, .int x1), (2, .int x2), (3, .int x3), (4, .int x4)]) cx.1 cx.2.1 dL_hands_217 hl (by decide) rfl (fun ls hl => ?_)
    refine lv_aload_n cx.1 cx.2.1 dL_hands_219 rfl (lv_at hl 3 rfl) ?_
    refine lv_iload_n cx.1 cx.2.1 dL_hands_220 rfl (lv_at hl 6 rfl) ?_
    refine lv_iconst (v := (2 : Int32)) cx.1 cx.2.1 dL_hands_221 (by decide) ?_
    obtain ⟨v_130, S_131, hv, hf⟩ := gbs_some hf
    refine a_SW (As := [.ref (G.2.1 0), .int x3, .int (2 : Int32)]) (rest := []) cx hX hZ hw hS (a_tryCompany l hst G x3 (2 : Int32) S_128 v_130 S_131 hv) gw_349 gw_187 gyw_L_tryCompany ⟨by decide, by decide⟩ ⟨Nat.le_of_ble_eq_true rfl, Nat.le_of_ble_eq_true rfl⟩ (show cells + 1 + 2 ≤ 24340 ∧ slots + 6 + 12 ≤ 146040 from ⟨by omega, by omega⟩) rfl hl.1 rfl (Nat.le_of_ble_eq_true rfl) dL_hands_222 (fun H locs hw hS => ?_)
    refine W.eq (g2 := F0 m 225 ls [.int v_130]) rfl ?_
    refine lv_istore (lv' := [(14, .int v_130), (13, .int x13_129), (12, .int v_127), (6, .int t0), (0, .ref (G.2.1 0)), (1, .int x1), (2, .int x2), (3, .int x3), (4, .int x4)]) cx.1 cx.2.1 dL_hands_225 hl (by decide) rfl (fun ls hl => ?_)
    refine lv_aload_n cx.1 cx.2.1 dL_hands_227 rfl (lv_at hl 4 rfl) ?_
    refine lv_bipush (v := (10 : Int32)) cx.1 cx.2.1 dL_hands_228 (by decide) ?_
    obtain ⟨v_132, S_133, hv, hf⟩ := gbs_some hf
    refine a_SW (As := [.ref (G.2.1 0), .int (10 : Int32)]) (rest := []) cx hX hZ hw hS (a_tryAbout l hst G (10 : Int32) S_131 v_132 S_133 hv) gw_185 gw_187 gyw_L_tryAbout ⟨by decide, by decide⟩ ⟨Nat.le_of_ble_eq_true rfl, Nat.le_of_ble_eq_true rfl⟩ (show cells + 1 + 2 + 1 ≤ 24340 ∧ slots + 6 + 12 + 6 ≤ 146040 from ⟨by omega, by omega⟩) rfl hl.1 rfl (Nat.le_of_ble_eq_true rfl) dL_hands_230 (fun H locs hw hS => ?_)
    refine W.eq (g2 := F0 m 233 ls [.int v_132]) rfl ?_
    refine lv_istore (lv' := [(15, .int v_132), (14, .int v_130), (13, .int x13_129), (12, .int v_127), (6, .int t0), (0, .ref (G.2.1 0)), (1, .int x1), (2, .int x2), (3, .int x3), (4, .int x4)]) cx.1 cx.2.1 dL_hands_233 hl (by decide) rfl (fun ls hl => ?_)
    refine lv_iload cx.1 cx.2.1 dL_hands_235 (lv_at hl 2 rfl) ?_
    refine lv_iload cx.1 cx.2.1 dL_hands_237 (lv_at hl 3 rfl) ?_
    refine lv_iconst (v := (1 : Int32)) cx.1 cx.2.1 dL_hands_239 (by decide) ?_
    refine lv_isub cx.1 cx.2.1 dL_hands_240 ?_
    refine lv_icmp_lt (tgt := 273) cx.1 cx.2.1 dL_hands_241 (by decide) (fun hc => ?_) (fun hc => ?_)
    · rw [if_pos hc] at hf
      refine lv_iconst (v := (0 : Int32)) cx.1 cx.2.1 dL_hands_273 (by decide) ?_
      exact hB_274 S_133 x1 x2 x3 x4 t0 v_127 x13_129 v_130 v_132 (0 : Int32) _ _ _ _ _ (by omega) (by omega) hw hS (lv_sub hl [5, 6, 7, 8, 9, 4, 3, 2, 1, 0] rfl) hf
    · rw [if_neg hc] at hf
      refine lv_iload cx.1 cx.2.1 dL_hands_244 (lv_at hl 2 rfl) ?_
      refine lv_iload cx.1 cx.2.1 dL_hands_246 (lv_at hl 3 rfl) ?_
      refine lv_iconst (v := (1 : Int32)) cx.1 cx.2.1 dL_hands_248 (by decide) ?_
      refine lv_iadd cx.1 cx.2.1 dL_hands_249 ?_
      refine lv_icmp_gt (tgt := 273) cx.1 cx.2.1 dL_hands_250 (by decide) (fun hc => ?_) (fun hc => ?_)
      · rw [if_pos hc] at hf
        refine lv_iconst (v := (0 : Int32)) cx.1 cx.2.1 dL_hands_273 (by decide) ?_
        exact hB_274 S_133 x1 x2 x3 x4 t0 v_127 x13_129 v_130 v_132 (0 : Int32) _ _ _ _ _ (by omega) (by omega) hw hS (lv_sub hl [5, 6, 7, 8, 9, 4, 3, 2, 1, 0] rfl) hf
      · rw [if_neg hc] at hf
        refine lv_iload cx.1 cx.2.1 dL_hands_253 (lv_at hl 1 rfl) ?_
        refine lv_iconst (v := (4 : Int32)) cx.1 cx.2.1 dL_hands_255 (by decide) ?_
        refine lv_icmp_ge (tgt := 273) cx.1 cx.2.1 dL_hands_256 (by decide) (fun hc => ?_) (fun hc => ?_)
        · rw [if_pos hc] at hf
          refine lv_iconst (v := (0 : Int32)) cx.1 cx.2.1 dL_hands_273 (by decide) ?_
          exact hB_274 S_133 x1 x2 x3 x4 t0 v_127 x13_129 v_130 v_132 (0 : Int32) _ _ _ _ _ (by omega) (by omega) hw hS (lv_sub hl [5, 6, 7, 8, 9, 4, 3, 2, 1, 0] rfl) hf
        · rw [if_neg hc] at hf
          refine lv_iload cx.1 cx.2.1 dL_hands_259 (lv_at hl 9 rfl) ?_
          refine lv_bipush (v := (20 : Int32)) cx.1 cx.2.1 dL_hands_261 (by decide) ?_
          refine lv_iload cx.1 cx.2.1 dL_hands_263 (lv_at hl 2 rfl) ?_
          refine lv_imul cx.1 cx.2.1 dL_hands_265 ?_
          refine lv_icmp_lt (tgt := 273) cx.1 cx.2.1 dL_hands_266 (by decide) (fun hc => ?_) (fun hc => ?_)
          · rw [if_pos hc] at hf
            refine lv_iconst (v := (0 : Int32)) cx.1 cx.2.1 dL_hands_273 (by decide) ?_
            exact hB_274 S_133 x1 x2 x3 x4 t0 v_127 x13_129 v_130 v_132 (0 : Int32) _ _ _ _ _ (by omega) (by omega) hw hS (lv_sub hl [5, 6, 7, 8, 9, 4, 3, 2, 1, 0] rfl) hf
          · rw [if_neg hc] at hf
            refine lv_iconst (v := (1 : Int32)) cx.1 cx.2.1 dL_hands_269 (by decide) ?_
            refine lv_goto (tgt := 274) cx.1 cx.2.1 dL_hands_270 (by decide) ?_
            exact hB_274 S_133 x1 x2 x3 x4 t0 v_127 x13_129 v_130 v_132 (1 : Int32) _ _ _ _ _ (by omega) (by omega) hw hS (lv_sub hl [5, 6, 7, 8, 9, 4, 3, 2, 1, 0] rfl) hf
  have hB_175 : ∀ (S : At) (x1 : Int32) (x2 : Int32) (x3 : Int32) (x4 : Int32) (t0 : Int32) (t1 : Int32) (H : Heap) (locs : List Loc) (ls : Array Slot) (cells slots : Nat), cells + (23917) ≤ 24340 → slots + (143502) ≤ 146040 → gPA G S H → va_S (gAr (gNo G) s.heap.size) s.heap H locs → lv_has ls 35 [(0, .ref (G.2.1 0)), (1, .int x1), (2, .int x2), (3, .int x3), (4, .int x4)] → B_hands_175 S x1 x2 x3 x4 t0 t1 = some (r, S') → W p l e (gRx 12 247 24340 146040) s m ([.ref (G.2.1 0), .int a1] : List Value).toArray below meth c H locs cells slots (MQ below (gQr (gPA G S') (some (.int r)) (gAr (gNo G) s.heap.size)) ([.ref (G.2.1 0), .int a1] : List Value).toArray s 24340 146040 (gAr (gNo G) s.heap.size)) (F0 m 175 ls [.int t0, .int t1]) := by
    intro S x1 x2 x3 x4 t0 t1 H locs ls cells slots hcl hsl hw hS hl hf
    unfold B_hands_175 at hf
    refine lv_icmp_ne (tgt := 198) cx.1 cx.2.1 dL_hands_175 (by decide) (fun hc => ?_) (fun hc => ?_)
    · rw [if_neg hc] at hf
      refine lv_iconst (v := (0 : Int32)) cx.1 cx.2.1 dL_hands_198 (by decide) ?_
      exact hB_199 S x1 x2 x3 x4 (0 : Int32) _ _ _ _ _ (by omega) (by omega) hw hS (lv_sub hl [0, 1, 2, 3, 4] rfl) hf
    · rw [if_pos hc] at hf
      refine lv_aload_n cx.1 cx.2.1 dL_hands_178 rfl (lv_at hl 0 rfl) ?_
      obtain ⟨v_134, S_135, hv, hf⟩ := gbs_some hf
      refine a_S (As := [.ref (G.2.1 0)]) (rest := []) cx hX hZ hw hS (a_sound l hst G S v_134 S_135 hv) gw_830 gyl_L_sound gil_L_sound ⟨Nat.le_of_ble_eq_true rfl, Nat.le_of_ble_eq_true rfl⟩ (show cells + 1298 ≤ 24340 ∧ slots + 7788 ≤ 146040 from ⟨by omega, by omega⟩) rfl hl.1 rfl (Nat.le_of_ble_eq_true rfl) dL_hands_179 (fun H locs hw hS => ?_)
      refine W.eq (g2 := F0 m 182 ls [.int v_134]) rfl ?_
      refine lv_if_eq (tgt := 198) cx.1 cx.2.1 dL_hands_182 (by decide) (fun hc => ?_) (fun hc => ?_)
      · rw [if_pos hc] at hf
        refine lv_iconst (v := (0 : Int32)) cx.1 cx.2.1 dL_hands_198 (by decide) ?_
        exact hB_199 S_135 x1 x2 x3 x4 (0 : Int32) _ _ _ _ _ (by omega) (by omega) hw hS (lv_sub hl [0, 1, 2, 3, 4] rfl) hf
      · rw [if_neg hc] at hf
        refine lv_aload_n cx.1 cx.2.1 dL_hands_185 rfl (lv_at hl 0 rfl) ?_
        refine lv_iconst (v := (0 : Int32)) cx.1 cx.2.1 dL_hands_186 (by decide) ?_
        obtain ⟨v_136, S_137, hv, hf⟩ := gbs_some hf
        refine a_SW (As := [.ref (G.2.1 0), .int (0 : Int32)]) (rest := []) cx hX hZ hw hS (a_tryRestore l hst G (0 : Int32) S_135 v_136 S_137 hv) gw_792 gw_187 gyw_L_tryRestore ⟨by decide, by decide⟩ ⟨Nat.le_of_ble_eq_true rfl, Nat.le_of_ble_eq_true rfl⟩ (show cells + 1298 + 2 ≤ 24340 ∧ slots + 7788 + 12 ≤ 146040 from ⟨by omega, by omega⟩) rfl hl.1 rfl (Nat.le_of_ble_eq_true rfl) dL_hands_187 (fun H locs hw hS => ?_)
        refine W.eq (g2 := F0 m 190 ls [.int v_136]) rfl ?_
        refine lv_iload_n cx.1 cx.2.1 dL_hands_190 rfl (lv_at hl 2 rfl) ?_
        refine lv_icmp_ne (tgt := 198) cx.1 cx.2.1 dL_hands_191 (by decide) (fun hc => ?_) (fun hc => ?_)
        · rw [if_neg hc] at hf
          refine lv_iconst (v := (0 : Int32)) cx.1 cx.2.1 dL_hands_198 (by decide) ?_
          exact hB_199 S_137 x1 x2 x3 x4 (0 : Int32) _ _ _ _ _ (by omega) (by omega) hw hS (lv_sub hl [0, 1, 2, 3, 4] rfl) hf
        · rw [if_pos hc] at hf
          refine lv_iconst (v := (1 : Int32)) cx.1 cx.2.1 dL_hands_194 (by decide) ?_
          refine lv_goto (tgt := 199) cx.1 cx.2.1 dL_hands_195 (by decide) ?_
          exact hB_199 S_137 x1 x2 x3 x4 (1 : Int32) _ _ _ _ _ (by omega) (by omega) hw hS (lv_sub hl [0, 1, 2, 3, 4] rfl) hf
  have hB_153 : ∀ (S : At) (x1 : Int32) (x2 : Int32) (x3 : Int32) (x4 : Int32) (x8 : Int32) (x10 : Int32) (x11 : Int32) (t0 : Int32) (t1 : Int32) (t2 : Int32) (H : Heap) (locs : List Loc) (ls : Array Slot) (cells slots : Nat), cells + (23919) ≤ 24340 → slots + (143514) ≤ 146040 → gPA G S H → va_S (gAr (gNo G) s.heap.size) s.heap H locs → lv_has ls 35 [(0, .ref (G.2.1 0)), (1, .int x1), (2, .int x2), (3, .int x3), (4, .int x4), (8, .int x8), (10, .int x10), (11, .int x11)] → B_hands_153 S x1 x2 x3 x4 x8 x10 x11 t0 t1 t2 = some (r, S') → W p l e (gRx 12 247 24340 146040) s m ([.ref (G.2.1 0), .int a1] : List Value).toArray below meth c H locs cells slots (MQ below (gQr (gPA G S') (some (.int r)) (gAr (gNo G) s.heap.size)) ([.ref (G.2.1 0), .int a1] : List Value).toArray s 24340 146040 (gAr (gNo G) s.heap.size)) (F0 m 153 ls [.int t0, .int t1, .int t2]) := by
    intro S x1 x2 x3 x4 x8 x10 x11 t0 t1 t2 H locs ls cells slots hcl hsl hw hS hl hf
    unfold B_hands_153 at hf
    refine lv_iadd cx.1 cx.2.1 dL_hands_153 ?_
    refine lv_icmp_ne (tgt := 198) cx.1 cx.2.1 dL_hands_154 (by decide) (fun hc => ?_) (fun hc => ?_)
    · rw [if_neg hc] at hf
      refine lv_iconst (v := (0 : Int32)) cx.1 cx.2.1 dL_hands_198 (by decide) ?_
      exact hB_199 S x1 x2 x3 x4 (0 : Int32) _ _ _ _ _ (by omega) (by omega) hw hS (lv_sub hl [0, 1, 2, 3, 4] rfl) hf
    · rw [if_pos hc] at hf
      refine lv_aload_n cx.1 cx.2.1 dL_hands_157 rfl (lv_at hl 0 rfl) ?_
      refine lv_iload cx.1 cx.2.1 dL_hands_158 (lv_at hl 5 rfl) ?_
      refine lv_iconst (v := (3 : Int32)) cx.1 cx.2.1 dL_hands_160 (by decide) ?_
      obtain ⟨v_138, S_139, hv, hf⟩ := gbs_some hf
      refine a_SW (As := [.ref (G.2.1 0), .int x8, .int (3 : Int32)]) (rest := []) cx hX hZ hw hS (a_tryTrack l hst G x8 (3 : Int32) S v_138 S_139 hv) gw_366 gw_187 gyw_L_tryTrack ⟨by decide, by decide⟩ ⟨Nat.le_of_ble_eq_true rfl, Nat.le_of_ble_eq_true rfl⟩ (show cells + 2 ≤ 24340 ∧ slots + 12 ≤ 146040 from ⟨by omega, by omega⟩) rfl hl.1 rfl (Nat.le_of_ble_eq_true rfl) dL_hands_161 (fun H locs hw hS => ?_)
      refine W.eq (g2 := F0 m 164 ls [.int v_138]) rfl ?_
      refine lv_iload cx.1 cx.2.1 dL_hands_164 (lv_at hl 7 rfl) ?_
      refine lv_if_eq (tgt := 173) cx.1 cx.2.1 dL_hands_166 (by decide) (fun hc => ?_) (fun hc => ?_)
      · rw [if_pos hc] at hf
        refine lv_iload cx.1 cx.2.1 dL_hands_173 (lv_at hl 6 rfl) ?_
        exact hB_175 S_139 x1 x2 x3 x4 x10 v_138 _ _ _ _ _ (by omega) (by omega) hw hS (lv_sub hl [0, 1, 2, 3, 4] rfl) hf
      · rw [if_neg hc] at hf
        refine lv_iload_n cx.1 cx.2.1 dL_hands_169 rfl (lv_at hl 3 rfl) ?_
        refine lv_goto (tgt := 175) cx.1 cx.2.1 dL_hands_170 (by decide) ?_
        exact hB_175 S_139 x1 x2 x3 x4 x3 v_138 _ _ _ _ _ (by omega) (by omega) hw hS (lv_sub hl [0, 1, 2, 3, 4] rfl) hf
  have hB_132 : ∀ (S : At) (x1 : Int32) (x2 : Int32) (x3 : Int32) (x4 : Int32) (x5 : Int32) (x8 : Int32) (x9 : Int32) (x10 : Int32) (x11 : Int32) (t0 : Int32) (t1 : Int32) (H : Heap) (locs : List Loc) (ls : Array Slot) (cells slots : Nat), cells + (23920) ≤ 24340 → slots + (143520) ≤ 146040 → gPA G S H → va_S (gAr (gNo G) s.heap.size) s.heap H locs → lv_has ls 35 [(0, .ref (G.2.1 0)), (1, .int x1), (2, .int x2), (3, .int x3), (4, .int x4), (5, .int x5), (8, .int x8), (9, .int x9), (10, .int x10), (11, .int x11)] → B_hands_132 S x1 x2 x3 x4 x5 x8 x9 x10 x11 t0 t1 = some (r, S') → W p l e (gRx 12 247 24340 146040) s m ([.ref (G.2.1 0), .int a1] : List Value).toArray below meth c H locs cells slots (MQ below (gQr (gPA G S') (some (.int r)) (gAr (gNo G) s.heap.size)) ([.ref (G.2.1 0), .int a1] : List Value).toArray s 24340 146040 (gAr (gNo G) s.heap.size)) (F0 m 132 ls [.int t0, .int t1]) := by
    intro S x1 x2 x3 x4 x5 x8 x9 x10 x11 t0 t1 H locs ls cells slots hcl hsl hw hS hl hf
    unfold B_hands_132 at hf
    refine lv_icmp_ne (tgt := 198) cx.1 cx.2.1 dL_hands_132 (by decide) (fun hc => ?_) (fun hc => ?_)
    · rw [if_neg hc] at hf
      refine lv_iconst (v := (0 : Int32)) cx.1 cx.2.1 dL_hands_198 (by decide) ?_
      exact hB_199 S x1 x2 x3 x4 (0 : Int32) _ _ _ _ _ (by omega) (by omega) hw hS (lv_sub hl [0, 1, 2, 3, 4] rfl) hf
    · rw [if_pos hc] at hf
      refine lv_aload_n cx.1 cx.2.1 dL_hands_135 rfl (lv_at hl 0 rfl) ?_
      refine lv_iconst (v := (5 : Int32)) cx.1 cx.2.1 dL_hands_136 (by decide) ?_
      obtain ⟨v_140, S_141, hv, hf⟩ := gbs_some hf
      refine a_SW (As := [.ref (G.2.1 0), .int (5 : Int32)]) (rest := []) cx hX hZ hw hS (a_tryAbout l hst G (5 : Int32) S v_140 S_141 hv) gw_185 gw_187 gyw_L_tryAbout ⟨by decide, by decide⟩ ⟨Nat.le_of_ble_eq_true rfl, Nat.le_of_ble_eq_true rfl⟩ (show cells + 1 ≤ 24340 ∧ slots + 6 ≤ 146040 from ⟨by omega, by omega⟩) rfl hl.1 rfl (Nat.le_of_ble_eq_true rfl) dL_hands_137 (fun H locs hw hS => ?_)
      refine W.eq (g2 := F0 m 140 ls [.int v_140]) rfl ?_
      refine lv_iload cx.1 cx.2.1 dL_hands_140 (lv_at hl 5 rfl) ?_
      refine lv_iload cx.1 cx.2.1 dL_hands_142 (lv_at hl 9 rfl) ?_
      refine lv_if_eq (tgt := 152) cx.1 cx.2.1 dL_hands_144 (by decide) (fun hc => ?_) (fun hc => ?_)
      · rw [if_pos hc] at hf
        refine lv_iconst (v := (0 : Int32)) cx.1 cx.2.1 dL_hands_152 (by decide) ?_
        exact hB_153 S_141 x1 x2 x3 x4 x8 x10 x11 (0 : Int32) x5 v_140 _ _ _ _ _ (by omega) (by omega) hw hS (lv_sub hl [0, 1, 2, 3, 4, 6, 8, 9] rfl) hf
      · rw [if_neg hc] at hf
        refine lv_iload cx.1 cx.2.1 dL_hands_147 (lv_at hl 7 rfl) ?_
        refine lv_goto (tgt := 153) cx.1 cx.2.1 dL_hands_149 (by decide) ?_
        exact hB_153 S_141 x1 x2 x3 x4 x8 x10 x11 x9 x5 v_140 _ _ _ _ _ (by omega) (by omega) hw hS (lv_sub hl [0, 1, 2, 3, 4, 6, 8, 9] rfl) hf
  have hB_103 : ∀ (S : At) (x1 : Int32) (x2 : Int32) (x3 : Int32) (x4 : Int32) (x5 : Int32) (x6 : Int32) (x8 : Int32) (x9 : Int32) (x10 : Int32) (t0 : Int32) (H : Heap) (locs : List Loc) (ls : Array Slot) (cells slots : Nat), cells + (23923) ≤ 24340 → slots + (143538) ≤ 146040 → gPA G S H → va_S (gAr (gNo G) s.heap.size) s.heap H locs → lv_has ls 35 [(0, .ref (G.2.1 0)), (1, .int x1), (2, .int x2), (3, .int x3), (4, .int x4), (5, .int x5), (6, .int x6), (8, .int x8), (9, .int x9), (10, .int x10)] → B_hands_103 S x1 x2 x3 x4 x5 x6 x8 x9 x10 t0 = some (r, S') → W p l e (gRx 12 247 24340 146040) s m ([.ref (G.2.1 0), .int a1] : List Value).toArray below meth c H locs cells slots (MQ below (gQr (gPA G S') (some (.int r)) (gAr (gNo G) s.heap.size)) ([.ref (G.2.1 0), .int a1] : List Value).toArray s 24340 146040 (gAr (gNo G) s.heap.size)) (F0 m 103 ls [.int t0]) := by
    intro S x1 x2 x3 x4 x5 x6 x8 x9 x10 t0 H locs ls cells slots hcl hsl hw hS hl hf
    unfold B_hands_103 at hf
    refine lv_istore (lv' := [(11, .int t0), (0, .ref (G.2.1 0)), (1, .int x1), (2, .int x2), (3, .int x3), (4, .int x4), (5, .int x5), (6, .int x6), (8, .int x8), (9, .int x9), (10, .int x10)]) cx.1 cx.2.1 dL_hands_103 hl (by decide) rfl (fun ls hl => ?_)
    refine lv_iload cx.1 cx.2.1 dL_hands_105 (lv_at hl 7 rfl) ?_
    refine lv_if_eq (tgt := 198) cx.1 cx.2.1 dL_hands_107 (by decide) (fun hc => ?_) (fun hc => ?_)
    · rw [if_pos hc] at hf
      refine lv_iconst (v := (0 : Int32)) cx.1 cx.2.1 dL_hands_198 (by decide) ?_
      exact hB_199 S x1 x2 x3 x4 (0 : Int32) _ _ _ _ _ (by omega) (by omega) hw hS (lv_sub hl [1, 2, 3, 4, 5] rfl) hf
    · rw [if_neg hc] at hf
      refine lv_aload_n cx.1 cx.2.1 dL_hands_110 rfl (lv_at hl 1 rfl) ?_
      refine lv_iload_n cx.1 cx.2.1 dL_hands_111 rfl (lv_at hl 4 rfl) ?_
      refine lv_iload cx.1 cx.2.1 dL_hands_112 (lv_at hl 8 rfl) ?_
      obtain ⟨v_142, S_143, hv, hf⟩ := gbs_some hf
      refine a_SW (As := [.ref (G.2.1 0), .int x3, .int x8]) (rest := []) cx hX hZ hw hS (a_tryBuyTrack l hst G x3 x8 S v_142 S_143 hv) gw_437 gw_187 gyw_L_tryBuyTrack ⟨by decide, by decide⟩ ⟨Nat.le_of_ble_eq_true rfl, Nat.le_of_ble_eq_true rfl⟩ (show cells + 3 ≤ 24340 ∧ slots + 18 ≤ 146040 from ⟨by omega, by omega⟩) rfl hl.1 rfl (Nat.le_of_ble_eq_true rfl) dL_hands_114 (fun H locs hw hS => ?_)
      refine W.eq (g2 := F0 m 117 ls [.int v_142]) rfl ?_
      refine lv_iload cx.1 cx.2.1 dL_hands_117 (lv_at hl 0 rfl) ?_
      refine lv_if_eq (tgt := 130) cx.1 cx.2.1 dL_hands_119 (by decide) (fun hc => ?_) (fun hc => ?_)
      · rw [if_pos hc] at hf
        refine lv_ldc cx.1 cx.2.1 cx.2.2.2.1 (cx.2.2.2.2.ts _ gw_3) dL_hands_130 ?_
        exact hB_132 S_143 x1 x2 x3 x4 x5 x8 x9 x10 t0 (-9999003 : Int32) v_142 _ _ _ _ _ (by omega) (by omega) hw hS (lv_sub hl [1, 2, 3, 4, 5, 6, 8, 9, 10, 0] rfl) hf
      · rw [if_neg hc] at hf
        refine lv_iload cx.1 cx.2.1 dL_hands_122 (lv_at hl 5 rfl) ?_
        refine lv_iload cx.1 cx.2.1 dL_hands_124 (lv_at hl 9 rfl) ?_
        refine lv_isub cx.1 cx.2.1 dL_hands_126 ?_
        refine lv_goto (tgt := 132) cx.1 cx.2.1 dL_hands_127 (by decide) ?_
        exact hB_132 S_143 x1 x2 x3 x4 x5 x8 x9 x10 t0 (x4 - x9) v_142 _ _ _ _ _ (by omega) (by omega) hw hS (lv_sub hl [1, 2, 3, 4, 5, 6, 8, 9, 10, 0] rfl) hf
  have hB_47 : ∀ (S : At) (x1 : Int32) (x2 : Int32) (x3 : Int32) (x4 : Int32) (x5 : Int32) (t0 : Int32) (H : Heap) (locs : List Loc) (ls : Array Slot) (cells slots : Nat), cells + (23928) ≤ 24340 → slots + (143568) ≤ 146040 → gPA G S H → va_S (gAr (gNo G) s.heap.size) s.heap H locs → lv_has ls 35 [(0, .ref (G.2.1 0)), (1, .int x1), (2, .int x2), (3, .int x3), (4, .int x4), (5, .int x5)] → B_hands_47 S x1 x2 x3 x4 x5 t0 = some (r, S') → W p l e (gRx 12 247 24340 146040) s m ([.ref (G.2.1 0), .int a1] : List Value).toArray below meth c H locs cells slots (MQ below (gQr (gPA G S') (some (.int r)) (gAr (gNo G) s.heap.size)) ([.ref (G.2.1 0), .int a1] : List Value).toArray s 24340 146040 (gAr (gNo G) s.heap.size)) (F0 m 47 ls [.int t0]) := by
    intro S x1 x2 x3 x4 x5 t0 H locs ls cells slots hcl hsl hw hS hl hf
    unfold B_hands_47 at hf
    refine lv_istore (lv' := [(6, .int t0), (0, .ref (G.2.1 0)), (1, .int x1), (2, .int x2), (3, .int x3), (4, .int x4), (5, .int x5)]) cx.1 cx.2.1 dL_hands_47 hl (by decide) rfl (fun ls hl => ?_)
    refine lv_aload_n cx.1 cx.2.1 dL_hands_49 rfl (lv_at hl 1 rfl) ?_
    refine lv_iconst (v := (1 : Int32)) cx.1 cx.2.1 dL_hands_50 (by decide) ?_
    obtain ⟨v_144, S_145, hv, hf⟩ := gbs_some hf
    refine a_SW (As := [.ref (G.2.1 0), .int (1 : Int32)]) (rest := []) cx hX hZ hw hS (a_tryAbout l hst G (1 : Int32) S v_144 S_145 hv) gw_185 gw_187 gyw_L_tryAbout ⟨by decide, by decide⟩ ⟨Nat.le_of_ble_eq_true rfl, Nat.le_of_ble_eq_true rfl⟩ (show cells + 1 ≤ 24340 ∧ slots + 6 ≤ 146040 from ⟨by omega, by omega⟩) rfl hl.1 rfl (Nat.le_of_ble_eq_true rfl) dL_hands_51 (fun H locs hw hS => ?_)
    refine W.eq (g2 := F0 m 54 ls [.int v_144]) rfl ?_
    refine lv_istore (lv' := [(7, .int v_144), (6, .int t0), (0, .ref (G.2.1 0)), (1, .int x1), (2, .int x2), (3, .int x3), (4, .int x4), (5, .int x5)]) cx.1 cx.2.1 dL_hands_54 hl (by decide) rfl (fun ls hl => ?_)
    refine lv_iload_n cx.1 cx.2.1 dL_hands_56 rfl (lv_at hl 3 rfl) ?_
    refine lv_iconst (v := (4 : Int32)) cx.1 cx.2.1 dL_hands_57 (by decide) ?_
    refine lv_idiv cx.1 cx.2.1 dL_hands_58 (by decide) ?_
    refine lv_iload cx.1 cx.2.1 dL_hands_59 (lv_at hl 0 rfl) ?_
    obtain ⟨hne, hf⟩ := gck_some hf
    refine lv_irem cx.1 cx.2.1 dL_hands_61 (by simpa using hne) ?_
    obtain ⟨x8_146, ex8_146, hf⟩ := gvi_ex hf
    refine W.eq (g2 := F0 m 62 ls [.int x8_146]) (by rw [← ex8_146]) ?_
    refine lv_istore (lv' := [(8, .int x8_146), (7, .int v_144), (6, .int t0), (0, .ref (G.2.1 0)), (1, .int x1), (2, .int x2), (3, .int x3), (4, .int x4), (5, .int x5)]) cx.1 cx.2.1 dL_hands_62 hl (by decide) rfl (fun ls hl => ?_)
    refine lv_iconst (v := (3 : Int32)) cx.1 cx.2.1 dL_hands_64 (by decide) ?_
    refine lv_aload_n cx.1 cx.2.1 dL_hands_65 rfl (lv_at hl 3 rfl) ?_
    refine lv_iload cx.1 cx.2.1 dL_hands_66 (lv_at hl 0 rfl) ?_
    refine lv_iconst (v := (2 : Int32)) cx.1 cx.2.1 dL_hands_68 (by decide) ?_
    obtain ⟨v_147, S_148, hv, hf⟩ := gbs_some hf
    refine a_SW (As := [.ref (G.2.1 0), .int x8_146, .int (2 : Int32)]) (rest := [.int (3 : Int32)]) cx hX hZ hw hS (a_tryTrack l hst G x8_146 (2 : Int32) S_145 v_147 S_148 hv) gw_366 gw_187 gyw_L_tryTrack ⟨by decide, by decide⟩ ⟨Nat.le_of_ble_eq_true rfl, Nat.le_of_ble_eq_true rfl⟩ (show cells + 1 + 2 ≤ 24340 ∧ slots + 6 + 12 ≤ 146040 from ⟨by omega, by omega⟩) rfl hl.1 rfl (Nat.le_of_ble_eq_true rfl) dL_hands_69 (fun H locs hw hS => ?_)
    refine W.eq (g2 := F0 m 72 ls [.int v_147, .int (3 : Int32)]) rfl ?_
    refine lv_imul cx.1 cx.2.1 dL_hands_72 ?_
    obtain ⟨x9_149, ex9_149, hf⟩ := gvi_ex hf
    refine W.eq (g2 := F0 m 73 ls [.int x9_149]) (by rw [← ex9_149]) ?_
    refine lv_istore (lv' := [(9, .int x9_149), (8, .int x8_146), (7, .int v_144), (6, .int t0), (0, .ref (G.2.1 0)), (1, .int x1), (2, .int x2), (3, .int x3), (4, .int x4), (5, .int x5)]) cx.1 cx.2.1 dL_hands_73 hl (by decide) rfl (fun ls hl => ?_)
    refine lv_aload_n cx.1 cx.2.1 dL_hands_75 rfl (lv_at hl 4 rfl) ?_
    refine lv_iload cx.1 cx.2.1 dL_hands_76 (lv_at hl 1 rfl) ?_
    refine lv_iconst (v := (3 : Int32)) cx.1 cx.2.1 dL_hands_78 (by decide) ?_
    obtain ⟨v_150, S_151, hv, hf⟩ := gbs_some hf
    refine a_SW (As := [.ref (G.2.1 0), .int x8_146, .int (3 : Int32)]) (rest := []) cx hX hZ hw hS (a_tryTrack l hst G x8_146 (3 : Int32) S_148 v_150 S_151 hv) gw_366 gw_187 gyw_L_tryTrack ⟨by decide, by decide⟩ ⟨Nat.le_of_ble_eq_true rfl, Nat.le_of_ble_eq_true rfl⟩ (show cells + 1 + 2 + 2 ≤ 24340 ∧ slots + 6 + 12 + 12 ≤ 146040 from ⟨by omega, by omega⟩) rfl hl.1 rfl (Nat.le_of_ble_eq_true rfl) dL_hands_79 (fun H locs hw hS => ?_)
    refine W.eq (g2 := F0 m 82 ls [.int v_150]) rfl ?_
    refine lv_istore (lv' := [(10, .int v_150), (9, .int x9_149), (8, .int x8_146), (7, .int v_144), (6, .int t0), (0, .ref (G.2.1 0)), (1, .int x1), (2, .int x2), (3, .int x3), (4, .int x4), (5, .int x5)]) cx.1 cx.2.1 dL_hands_82 hl (by decide) rfl (fun ls hl => ?_)
    refine lv_iload cx.1 cx.2.1 dL_hands_84 (lv_at hl 0 rfl) ?_
    refine lv_bipush (v := (-9 : Int32)) cx.1 cx.2.1 dL_hands_86 (by decide) ?_
    refine lv_icmp_ne (tgt := 102) cx.1 cx.2.1 dL_hands_88 (by decide) (fun hc => ?_) (fun hc => ?_)
    · rw [if_neg hc] at hf
      refine lv_iconst (v := (0 : Int32)) cx.1 cx.2.1 dL_hands_102 (by decide) ?_
      exact hB_103 S_151 x1 x2 x3 x4 x5 t0 x8_146 x9_149 v_150 (0 : Int32) _ _ _ _ _ (by omega) (by omega) hw hS (lv_sub hl [5, 6, 7, 8, 9, 10, 4, 2, 1, 0] rfl) hf
    · rw [if_pos hc] at hf
      refine lv_iload cx.1 cx.2.1 dL_hands_91 (lv_at hl 9 rfl) ?_
      refine lv_iload cx.1 cx.2.1 dL_hands_93 (lv_at hl 1 rfl) ?_
      refine lv_icmp_lt (tgt := 102) cx.1 cx.2.1 dL_hands_95 (by decide) (fun hc => ?_) (fun hc => ?_)
      · rw [if_pos hc] at hf
        refine lv_iconst (v := (0 : Int32)) cx.1 cx.2.1 dL_hands_102 (by decide) ?_
        exact hB_103 S_151 x1 x2 x3 x4 x5 t0 x8_146 x9_149 v_150 (0 : Int32) _ _ _ _ _ (by omega) (by omega) hw hS (lv_sub hl [5, 6, 7, 8, 9, 10, 4, 2, 1, 0] rfl) hf
      · rw [if_neg hc] at hf
        refine lv_iconst (v := (1 : Int32)) cx.1 cx.2.1 dL_hands_98 (by decide) ?_
        refine lv_goto (tgt := 103) cx.1 cx.2.1 dL_hands_99 (by decide) ?_
        exact hB_103 S_151 x1 x2 x3 x4 x5 t0 x8_146 x9_149 v_150 (1 : Int32) _ _ _ _ _ (by omega) (by omega) hw hS (lv_sub hl [5, 6, 7, 8, 9, 10, 4, 2, 1, 0] rfl) hf
  have hl : lv_has ls 35 [(0, .ref (G.2.1 0)), (1, .int a1)] := hl
  unfold h_hands at hf
  refine lv_aload_n cx.1 cx.2.1 dL_hands_0 rfl (lv_at hl 0 rfl) ?_
  refine lv_iconst (v := (4 : Int32)) cx.1 cx.2.1 dL_hands_1 (by decide) ?_
  obtain ⟨v_152, S_153, hv, hf⟩ := gbs_some hf
  refine a_SW (As := [.ref (G.2.1 0), .int (4 : Int32)]) (rest := []) cx hX hZ hw hS (a_tryAbout l hst G (4 : Int32) S v_152 S_153 hv) gw_185 gw_187 gyw_L_tryAbout ⟨by decide, by decide⟩ ⟨Nat.le_of_ble_eq_true rfl, Nat.le_of_ble_eq_true rfl⟩ (show 0 + 1 ≤ 24340 ∧ 0 + 6 ≤ 146040 from ⟨by omega, by omega⟩) rfl hl.1 rfl (Nat.le_of_ble_eq_true rfl) dL_hands_2 (fun H locs hw hS => ?_)
  refine W.eq (g2 := F0 m 5 ls [.int v_152]) rfl ?_
  refine lv_istore_n (lv' := [(2, .int v_152), (0, .ref (G.2.1 0)), (1, .int a1)]) cx.1 cx.2.1 dL_hands_5 rfl hl (by decide) rfl (fun ls hl => ?_)
  refine lv_iload_n cx.1 cx.2.1 dL_hands_6 rfl (lv_at hl 2 rfl) ?_
  refine lv_iconst (v := (4 : Int32)) cx.1 cx.2.1 dL_hands_7 (by decide) ?_
  refine lv_irem cx.1 cx.2.1 dL_hands_8 (by decide) ?_
  obtain ⟨x3_154, ex3_154, hf⟩ := gvi_ex hf
  refine W.eq (g2 := F0 m 9 ls [.int x3_154]) (by rw [← ex3_154]) ?_
  refine lv_istore_n (lv' := [(3, .int x3_154), (2, .int v_152), (0, .ref (G.2.1 0)), (1, .int a1)]) cx.1 cx.2.1 dL_hands_9 rfl hl (by decide) rfl (fun ls hl => ?_)
  refine lv_aload_n cx.1 cx.2.1 dL_hands_10 rfl (lv_at hl 2 rfl) ?_
  refine lv_iload_n cx.1 cx.2.1 dL_hands_11 rfl (lv_at hl 0 rfl) ?_
  refine lv_iconst (v := (0 : Int32)) cx.1 cx.2.1 dL_hands_12 (by decide) ?_
  obtain ⟨v_155, S_156, hv, hf⟩ := gbs_some hf
  refine a_SW (As := [.ref (G.2.1 0), .int x3_154, .int (0 : Int32)]) (rest := []) cx hX hZ hw hS (a_tryCompany l hst G x3_154 (0 : Int32) S_153 v_155 S_156 hv) gw_349 gw_187 gyw_L_tryCompany ⟨by decide, by decide⟩ ⟨Nat.le_of_ble_eq_true rfl, Nat.le_of_ble_eq_true rfl⟩ (show 0 + 1 + 2 ≤ 24340 ∧ 0 + 6 + 12 ≤ 146040 from ⟨by omega, by omega⟩) rfl hl.1 rfl (Nat.le_of_ble_eq_true rfl) dL_hands_13 (fun H locs hw hS => ?_)
  refine W.eq (g2 := F0 m 16 ls [.int v_155]) rfl ?_
  refine lv_istore (lv' := [(4, .int v_155), (3, .int x3_154), (2, .int v_152), (0, .ref (G.2.1 0)), (1, .int a1)]) cx.1 cx.2.1 dL_hands_16 hl (by decide) rfl (fun ls hl => ?_)
  refine lv_aload_n cx.1 cx.2.1 dL_hands_18 rfl (lv_at hl 3 rfl) ?_
  refine lv_iconst (v := (5 : Int32)) cx.1 cx.2.1 dL_hands_19 (by decide) ?_
  obtain ⟨v_157, S_158, hv, hf⟩ := gbs_some hf
  refine a_SW (As := [.ref (G.2.1 0), .int (5 : Int32)]) (rest := []) cx hX hZ hw hS (a_tryAbout l hst G (5 : Int32) S_156 v_157 S_158 hv) gw_185 gw_187 gyw_L_tryAbout ⟨by decide, by decide⟩ ⟨Nat.le_of_ble_eq_true rfl, Nat.le_of_ble_eq_true rfl⟩ (show 0 + 1 + 2 + 1 ≤ 24340 ∧ 0 + 6 + 12 + 6 ≤ 146040 from ⟨by omega, by omega⟩) rfl hl.1 rfl (Nat.le_of_ble_eq_true rfl) dL_hands_20 (fun H locs hw hS => ?_)
  refine W.eq (g2 := F0 m 23 ls [.int v_157]) rfl ?_
  refine lv_istore (lv' := [(5, .int v_157), (4, .int v_155), (3, .int x3_154), (2, .int v_152), (0, .ref (G.2.1 0)), (1, .int a1)]) cx.1 cx.2.1 dL_hands_23 hl (by decide) rfl (fun ls hl => ?_)
  refine lv_aload_n cx.1 cx.2.1 dL_hands_25 rfl (lv_at hl 4 rfl) ?_
  refine lv_iconst (v := (0 : Int32)) cx.1 cx.2.1 dL_hands_26 (by decide) ?_
  obtain ⟨v_159, S_160, hv, hf⟩ := gbs_some hf
  refine a_SW (As := [.ref (G.2.1 0), .int (0 : Int32)]) (rest := []) cx hX hZ hw hS (a_trySave l hst G (0 : Int32) S_158 v_159 S_160 hv) gw_774 gw_187 gyw_L_trySave ⟨by decide, by decide⟩ ⟨Nat.le_of_ble_eq_true rfl, Nat.le_of_ble_eq_true rfl⟩ (show 0 + 1 + 2 + 1 + 1 ≤ 24340 ∧ 0 + 6 + 12 + 6 + 6 ≤ 146040 from ⟨by omega, by omega⟩) rfl hl.1 rfl (Nat.le_of_ble_eq_true rfl) dL_hands_27 (fun H locs hw hS => ?_)
  refine W.eq (g2 := F0 m 30 ls [.int v_159]) rfl ?_
  refine lv_iload_n cx.1 cx.2.1 dL_hands_30 rfl (lv_at hl 3 rfl) ?_
  refine lv_icmp_ne (tgt := 46) cx.1 cx.2.1 dL_hands_31 (by decide) (fun hc => ?_) (fun hc => ?_)
  · rw [if_neg hc] at hf
    refine lv_iconst (v := (0 : Int32)) cx.1 cx.2.1 dL_hands_46 (by decide) ?_
    exact hB_47 S_160 a1 v_152 x3_154 v_155 v_157 (0 : Int32) _ _ _ _ _ (by omega) (by omega) hw hS (lv_sub hl [4, 5, 3, 2, 1, 0] rfl) hf
  · rw [if_pos hc] at hf
    refine lv_aload_n cx.1 cx.2.1 dL_hands_34 rfl (lv_at hl 4 rfl) ?_
    refine lv_iload_n cx.1 cx.2.1 dL_hands_35 rfl (lv_at hl 5 rfl) ?_
    obtain ⟨v_161, S_162, hv, hf⟩ := gbs_some hf
    refine a_S (As := [.ref (G.2.1 0), .int a1]) (rest := []) cx hX hZ hw hS (a_ways l hst G a1 S_160 v_161 S_162 hv) gw_895 gyl_L_ways gil_L_ways ⟨Nat.le_of_ble_eq_true rfl, Nat.le_of_ble_eq_true rfl⟩ (show 0 + 1 + 2 + 1 + 1 + 407 ≤ 24340 ∧ 0 + 6 + 12 + 6 + 6 + 2442 ≤ 146040 from ⟨by omega, by omega⟩) rfl hl.1 rfl (Nat.le_of_ble_eq_true rfl) dL_hands_36 (fun H locs hw hS => ?_)
    refine W.eq (g2 := F0 m 39 ls [.int v_161]) rfl ?_
    refine lv_if_eq (tgt := 46) cx.1 cx.2.1 dL_hands_39 (by decide) (fun hc => ?_) (fun hc => ?_)
    · rw [if_pos hc] at hf
      refine lv_iconst (v := (0 : Int32)) cx.1 cx.2.1 dL_hands_46 (by decide) ?_
      exact hB_47 S_162 a1 v_152 x3_154 v_155 v_157 (0 : Int32) _ _ _ _ _ (by omega) (by omega) hw hS (lv_sub hl [4, 5, 3, 2, 1, 0] rfl) hf
    · rw [if_neg hc] at hf
      refine lv_iconst (v := (1 : Int32)) cx.1 cx.2.1 dL_hands_42 (by decide) ?_
      refine lv_goto (tgt := 47) cx.1 cx.2.1 dL_hands_43 (by decide) ?_
      exact hB_47 S_162 a1 v_152 x3_154 v_155 v_157 (1 : Int32) _ _ _ _ _ (by omega) (by omega) hw hS (lv_sub hl [4, 5, 3, 2, 1, 0] rfl) hf
