set_option maxHeartbeats 8000000 in
set_option maxRecDepth 100000 in
theorem a_rounds (l : Launch) (hst : l.stackTraces = false) (G : gG) (a1 : Int32) (a2 : Int32) (a3 : Int32) (S : At) (r : Int32) (S' : At) (hf : h_rounds a1 a2 a3 S = some (r, S')) : gC l yL_rounds [Cond.code yL_rounds cL_rounds 18 (some .boolean)] (gRx 11 210 18430 110580) G (gNo G) E0 (gPA G S) [.ref (G.2.1 0), .int a1, .int a2, .int a3] (some (.int r)) (gPA G S') 18430 110580 := by
  refine gC_of (by decide) (Nat.le_of_ble_eq_true rfl) ?_
  intro p e s m below meth c ls cx hE hX hZ hr hlk hw hS hl
  have hN := cx.2.2.2.2.hN
  have hB_406 : ∀ (S : At) (x1 : Int32) (x5 : Int32) (x7 : Int32) (H : Heap) (locs : List Loc) (ls : Array Slot) (cells slots : Nat), cells + (2) ≤ 18430 → slots + (12) ≤ 110580 → gPA G S H → va_S (gAr (gNo G) s.heap.size) s.heap H locs → lv_has ls 18 [(0, .ref (G.2.1 0)), (1, .int x1), (5, .int x5), (7, .int x7)] → B_rounds_406 S x1 x5 x7 = some (r, S') → W p l e (gRx 11 210 18430 110580) s m ([.ref (G.2.1 0), .int a1, .int a2, .int a3] : List Value).toArray below meth c H locs cells slots (MQ below (gQr (gPA G S') (some (.int r)) (gAr (gNo G) s.heap.size)) ([.ref (G.2.1 0), .int a1, .int a2, .int a3] : List Value).toArray s 18430 110580 (gAr (gNo G) s.heap.size)) (F0 m 406 ls []) := by
    intro S x1 x5 x7 H locs ls cells slots hcl hsl hw hS hl hf
    unfold B_rounds_406 at hf
    refine lv_iload cx.1 cx.2.1 dL_rounds_406 (lv_at hl 3 rfl) ?_
    refine lv_if_eq (tgt := 426) cx.1 cx.2.1 dL_rounds_408 (by decide) (fun hc => ?_) (fun hc => ?_)
    · rw [if_pos hc] at hf
      refine lv_iconst (v := (0 : Int32)) cx.1 cx.2.1 dL_rounds_426 (by decide) ?_
      exact al_zreti (P := (gPA G)) cx hr hlk hw hS (by decide) hf dL_rounds_427 (by omega) (by omega)
    · rw [if_neg hc] at hf
      refine lv_aload_n cx.1 cx.2.1 dL_rounds_411 rfl (lv_at hl 0 rfl) ?_
      refine lv_iload_n cx.1 cx.2.1 dL_rounds_412 rfl (lv_at hl 1 rfl) ?_
      refine lv_iconst (v := (0 : Int32)) cx.1 cx.2.1 dL_rounds_413 (by decide) ?_
      obtain ⟨v_1, S_2, hv, hf⟩ := gbs_some hf
      refine a_SW (As := [.ref (G.2.1 0), .int x1, .int (0 : Int32)]) (rest := []) cx hX hZ hw hS (a_tryCompany l hst G x1 (0 : Int32) S v_1 S_2 hv) gw_349 gw_187 gyw_L_tryCompany ⟨by decide, by decide⟩ ⟨Nat.le_of_ble_eq_true rfl, Nat.le_of_ble_eq_true rfl⟩ (show cells + 2 ≤ 18430 ∧ slots + 12 ≤ 110580 from ⟨by omega, by omega⟩) rfl hl.1 rfl (Nat.le_of_ble_eq_true rfl) dL_rounds_414 (fun H locs hw hS => ?_)
      refine W.eq (g2 := F0 m 417 ls [.int v_1]) rfl ?_
      refine lv_iload cx.1 cx.2.1 dL_rounds_417 (lv_at hl 2 rfl) ?_
      refine lv_icmp_ne (tgt := 426) cx.1 cx.2.1 dL_rounds_419 (by decide) (fun hc => ?_) (fun hc => ?_)
      · rw [if_neg hc] at hf
        refine lv_iconst (v := (0 : Int32)) cx.1 cx.2.1 dL_rounds_426 (by decide) ?_
        exact al_zreti (P := (gPA G)) cx hr hlk hw hS (by decide) hf dL_rounds_427 (by omega) (by omega)
      · rw [if_pos hc] at hf
        refine lv_iconst (v := (1 : Int32)) cx.1 cx.2.1 dL_rounds_422 (by decide) ?_
        refine lv_goto (tgt := 427) cx.1 cx.2.1 dL_rounds_423 (by decide) ?_
        exact al_zreti (P := (gPA G)) cx hr hlk hw hS (by decide) hf dL_rounds_427 (by omega) (by omega)
  have hL_360 : ∀ (K52 : At → Int32 → Int32 → Int32 → Int32 → Int32 → Int32 → Int32 → Option (Int32 × At)) (n_52 : Nat) (hK52 : ∀ (S : At) (x1 : Int32) (x3 : Int32) (x4 : Int32) (x5 : Int32) (x6 : Int32) (x7 : Int32) (x8 : Int32) (H : Heap) (locs : List Loc) (ls : Array Slot) (cells slots : Nat), cells + (2 + 1417 * n_52) ≤ 18430 → slots + (12 + 8502 * n_52) ≤ 110580 → gPA G S H → va_S (gAr (gNo G) s.heap.size) s.heap H locs → lv_has ls 18 [(0, .ref (G.2.1 0)), (1, .int x1), (3, .int x3), (4, .int x4), (5, .int x5), (6, .int x6), (7, .int x7), (8, .int x8)] → K52 S x1 x3 x4 x5 x6 x7 x8 = some (r, S') → W p l e (gRx 11 210 18430 110580) s m ([.ref (G.2.1 0), .int a1, .int a2, .int a3] : List Value).toArray below meth c H locs cells slots (MQ below (gQr (gPA G S') (some (.int r)) (gAr (gNo G) s.heap.size)) ([.ref (G.2.1 0), .int a1, .int a2, .int a3] : List Value).toArray s 18430 110580 (gAr (gNo G) s.heap.size)) (F0 m 52 ls [])), ∀ (n : Nat), ∀ (S : At) (x1 : Int32) (x3 : Int32) (x4 : Int32) (x5 : Int32) (x6 : Int32) (x7 : Int32) (x8 : Int32) (x17 : Int32) (H : Heap) (locs : List Loc) (ls : Array Slot) (cells slots : Nat), cells + (4 + 5 * n + 1417 * n_52) ≤ 18430 → slots + (24 + 30 * n + 8502 * n_52) ≤ 110580 → gPA G S H → va_S (gAr (gNo G) s.heap.size) s.heap H locs → lv_has ls 18 [(0, .ref (G.2.1 0)), (1, .int x1), (3, .int x3), (4, .int x4), (5, .int x5), (6, .int x6), (7, .int x7), (8, .int x8), (17, .int x17)] → L_rounds_360 K52 n S x1 x3 x4 x5 x6 x7 x8 x17 = some (r, S') → W p l e (gRx 11 210 18430 110580) s m ([.ref (G.2.1 0), .int a1, .int a2, .int a3] : List Value).toArray below meth c H locs cells slots (MQ below (gQr (gPA G S') (some (.int r)) (gAr (gNo G) s.heap.size)) ([.ref (G.2.1 0), .int a1, .int a2, .int a3] : List Value).toArray s 18430 110580 (gAr (gNo G) s.heap.size)) (F0 m 360 ls []) := by
    intro K52 n_52 hK52 n_360
    induction n_360 with
    | zero => intro S x1 x3 x4 x5 x6 x7 x8 x17 H locs ls cells slots hcl hsl hw hS hl hf; cases hf
    | succ n_360 hK360 =>
      intro S x1 x3 x4 x5 x6 x7 x8 x17 H locs ls cells slots hcl hsl hw hS hl hf
      have hf : Lb_rounds_360 K52 (L_rounds_360 K52 n_360) S x1 x3 x4 x5 x6 x7 x8 x17 = some (r, S') := hf
      unfold Lb_rounds_360 at hf
      refine lv_iload cx.1 cx.2.1 dL_rounds_360 (lv_at hl 8 rfl) ?_
      refine lv_aload_n cx.1 cx.2.1 dL_rounds_362 rfl (lv_at hl 0 rfl) ?_
      refine lv_iload_n cx.1 cx.2.1 dL_rounds_363 rfl (lv_at hl 1 rfl) ?_
      refine lv_iconst (v := (2 : Int32)) cx.1 cx.2.1 dL_rounds_364 (by decide) ?_
      obtain ⟨v_3, S_4, hv, hf⟩ := gbs_some hf
      refine a_SW (As := [.ref (G.2.1 0), .int x1, .int (2 : Int32)]) (rest := [.int x17]) cx hX hZ hw hS (a_tryCompany l hst G x1 (2 : Int32) S v_3 S_4 hv) gw_349 gw_187 gyw_L_tryCompany ⟨by decide, by decide⟩ ⟨Nat.le_of_ble_eq_true rfl, Nat.le_of_ble_eq_true rfl⟩ (show cells + 2 ≤ 18430 ∧ slots + 12 ≤ 110580 from ⟨by omega, by omega⟩) rfl hl.1 rfl (Nat.le_of_ble_eq_true rfl) dL_rounds_365 (fun H locs hw hS => ?_)
      refine W.eq (g2 := F0 m 368 ls [.int v_3, .int x17]) rfl ?_
      refine lv_icmp_ge (tgt := 400) cx.1 cx.2.1 dL_rounds_368 (by decide) (fun hc => ?_) (fun hc => ?_)
      · rw [if_pos hc] at hf
        obtain ⟨x8_5, ex8_5, hf⟩ := gvi_ex hf
        refine lv_iinc (v := x8_5) (lv' := [(8, .int x8_5), (0, .ref (G.2.1 0)), (1, .int x1), (3, .int x3), (4, .int x4), (5, .int x5), (6, .int x6), (7, .int x7), (17, .int x17)]) cx.1 cx.2.1 dL_rounds_400 hl (k := 7) rfl (by rw [← ex8_5]; rfl) (by decide) rfl (fun ls hl => ?_)
        refine lv_goto (tgt := 52) cx.1 cx.2.1 dL_rounds_403 (by decide) ?_
        exact hK52 S_4 x1 x3 x4 x5 x6 x7 x8_5 _ _ _ _ _ (by omega) (by omega) hw hS (lv_sub hl [1, 2, 3, 4, 5, 6, 7, 0] rfl) hf
      · rw [if_neg hc] at hf
        refine lv_iload cx.1 cx.2.1 dL_rounds_371 (lv_at hl 6 rfl) ?_
        refine lv_if_eq (tgt := 400) cx.1 cx.2.1 dL_rounds_373 (by decide) (fun hc => ?_) (fun hc => ?_)
        · rw [if_pos hc] at hf
          obtain ⟨x8_6, ex8_6, hf⟩ := gvi_ex hf
          refine lv_iinc (v := x8_6) (lv' := [(8, .int x8_6), (0, .ref (G.2.1 0)), (1, .int x1), (3, .int x3), (4, .int x4), (5, .int x5), (6, .int x6), (7, .int x7), (17, .int x17)]) cx.1 cx.2.1 dL_rounds_400 hl (k := 7) rfl (by rw [← ex8_6]; rfl) (by decide) rfl (fun ls hl => ?_)
          refine lv_goto (tgt := 52) cx.1 cx.2.1 dL_rounds_403 (by decide) ?_
          exact hK52 S_4 x1 x3 x4 x5 x6 x7 x8_6 _ _ _ _ _ (by omega) (by omega) hw hS (lv_sub hl [1, 2, 3, 4, 5, 6, 7, 0] rfl) hf
        · rw [if_neg hc] at hf
          refine lv_aload_n cx.1 cx.2.1 dL_rounds_376 rfl (lv_at hl 0 rfl) ?_
          refine lv_iload_n cx.1 cx.2.1 dL_rounds_377 rfl (lv_at hl 1 rfl) ?_
          refine lv_iload cx.1 cx.2.1 dL_rounds_378 (lv_at hl 8 rfl) ?_
          refine lv_iconst (v := (1 : Int32)) cx.1 cx.2.1 dL_rounds_380 (by decide) ?_
          obtain ⟨v_7, S_8, hv, hf⟩ := gbs_some hf
          refine a_SW (As := [.ref (G.2.1 0), .int x1, .int x17, .int (1 : Int32)]) (rest := []) cx hX hZ hw hS (a_tryTrain l hst G x1 x17 (1 : Int32) S_4 v_7 S_8 hv) gw_389 gw_187 gyw_L_tryTrain ⟨by decide, by decide⟩ ⟨Nat.le_of_ble_eq_true rfl, Nat.le_of_ble_eq_true rfl⟩ (show cells + 2 + 3 ≤ 18430 ∧ slots + 12 + 18 ≤ 110580 from ⟨by omega, by omega⟩) rfl hl.1 rfl (Nat.le_of_ble_eq_true rfl) dL_rounds_381 (fun H locs hw hS => ?_)
          refine W.eq (g2 := F0 m 384 ls [.int v_7]) rfl ?_
          refine lv_if_ne (tgt := 391) cx.1 cx.2.1 dL_rounds_384 (by decide) (fun hc => ?_) (fun hc => ?_)
          · rw [if_neg hc] at hf
            refine lv_iconst (v := (0 : Int32)) cx.1 cx.2.1 dL_rounds_391 (by decide) ?_
            refine lv_istore (lv' := [(7, .int (0 : Int32)), (0, .ref (G.2.1 0)), (1, .int x1), (3, .int x3), (4, .int x4), (5, .int x5), (6, .int x6), (8, .int x8), (17, .int x17)]) cx.1 cx.2.1 dL_rounds_392 hl (by decide) rfl (fun ls hl => ?_)
            obtain ⟨x17_9, ex17_9, hf⟩ := gvi_ex hf
            refine lv_iinc (v := x17_9) (lv' := [(17, .int x17_9), (7, .int (0 : Int32)), (0, .ref (G.2.1 0)), (1, .int x1), (3, .int x3), (4, .int x4), (5, .int x5), (6, .int x6), (8, .int x8)]) cx.1 cx.2.1 dL_rounds_394 hl (k := 8) rfl (by rw [← ex17_9]; rfl) (by decide) rfl (fun ls hl => ?_)
            refine lv_goto (tgt := 360) cx.1 cx.2.1 dL_rounds_397 (by decide) ?_
            exact hK360 S_8 x1 x3 x4 x5 x6 (0 : Int32) x8 x17_9 _ _ _ _ _ (by omega) (by omega) hw hS (lv_sub hl [2, 3, 4, 5, 6, 7, 1, 8, 0] rfl) hf
          · rw [if_pos hc] at hf
            refine lv_iconst (v := (1 : Int32)) cx.1 cx.2.1 dL_rounds_387 (by decide) ?_
            refine lv_goto (tgt := 392) cx.1 cx.2.1 dL_rounds_388 (by decide) ?_
            refine lv_istore (lv' := [(7, .int (1 : Int32)), (0, .ref (G.2.1 0)), (1, .int x1), (3, .int x3), (4, .int x4), (5, .int x5), (6, .int x6), (8, .int x8), (17, .int x17)]) cx.1 cx.2.1 dL_rounds_392 hl (by decide) rfl (fun ls hl => ?_)
            obtain ⟨x17_10, ex17_10, hf⟩ := gvi_ex hf
            refine lv_iinc (v := x17_10) (lv' := [(17, .int x17_10), (7, .int (1 : Int32)), (0, .ref (G.2.1 0)), (1, .int x1), (3, .int x3), (4, .int x4), (5, .int x5), (6, .int x6), (8, .int x8)]) cx.1 cx.2.1 dL_rounds_394 hl (k := 8) rfl (by rw [← ex17_10]; rfl) (by decide) rfl (fun ls hl => ?_)
            refine lv_goto (tgt := 360) cx.1 cx.2.1 dL_rounds_397 (by decide) ?_
            exact hK360 S_8 x1 x3 x4 x5 x6 (1 : Int32) x8 x17_10 _ _ _ _ _ (by omega) (by omega) hw hS (lv_sub hl [2, 3, 4, 5, 6, 7, 1, 8, 0] rfl) hf
  have hB_354 : ∀ (K52 : At → Int32 → Int32 → Int32 → Int32 → Int32 → Int32 → Int32 → Option (Int32 × At)) (n_52 : Nat) (hK52 : ∀ (S : At) (x1 : Int32) (x3 : Int32) (x4 : Int32) (x5 : Int32) (x6 : Int32) (x7 : Int32) (x8 : Int32) (H : Heap) (locs : List Loc) (ls : Array Slot) (cells slots : Nat), cells + (2 + 1417 * n_52) ≤ 18430 → slots + (12 + 8502 * n_52) ≤ 110580 → gPA G S H → va_S (gAr (gNo G) s.heap.size) s.heap H locs → lv_has ls 18 [(0, .ref (G.2.1 0)), (1, .int x1), (3, .int x3), (4, .int x4), (5, .int x5), (6, .int x6), (7, .int x7), (8, .int x8)] → K52 S x1 x3 x4 x5 x6 x7 x8 = some (r, S') → W p l e (gRx 11 210 18430 110580) s m ([.ref (G.2.1 0), .int a1, .int a2, .int a3] : List Value).toArray below meth c H locs cells slots (MQ below (gQr (gPA G S') (some (.int r)) (gAr (gNo G) s.heap.size)) ([.ref (G.2.1 0), .int a1, .int a2, .int a3] : List Value).toArray s 18430 110580 (gAr (gNo G) s.heap.size)) (F0 m 52 ls [])), ∀ (S : At) (x1 : Int32) (x3 : Int32) (x4 : Int32) (x5 : Int32) (x6 : Int32) (x8 : Int32) (H : Heap) (locs : List Loc) (ls : Array Slot) (cells slots : Nat), cells + (29 + 1417 * n_52) ≤ 18430 → slots + (174 + 8502 * n_52) ≤ 110580 → gPA G S H → va_S (gAr (gNo G) s.heap.size) s.heap H locs → lv_has ls 18 [(0, .ref (G.2.1 0)), (1, .int x1), (3, .int x3), (4, .int x4), (5, .int x5), (6, .int x6), (8, .int x8)] → B_rounds_354 K52 S x1 x3 x4 x5 x6 x8 = some (r, S') → W p l e (gRx 11 210 18430 110580) s m ([.ref (G.2.1 0), .int a1, .int a2, .int a3] : List Value).toArray below meth c H locs cells slots (MQ below (gQr (gPA G S') (some (.int r)) (gAr (gNo G) s.heap.size)) ([.ref (G.2.1 0), .int a1, .int a2, .int a3] : List Value).toArray s 18430 110580 (gAr (gNo G) s.heap.size)) (F0 m 354 ls []) := by
    intro K52 n_52 hK52 S x1 x3 x4 x5 x6 x8 H locs ls cells slots hcl hsl hw hS hl hf
    unfold B_rounds_354 at hf
    refine lv_iconst (v := (0 : Int32)) cx.1 cx.2.1 dL_rounds_354 (by decide) ?_
    refine lv_istore (lv' := [(7, .int (0 : Int32)), (0, .ref (G.2.1 0)), (1, .int x1), (3, .int x3), (4, .int x4), (5, .int x5), (6, .int x6), (8, .int x8)]) cx.1 cx.2.1 dL_rounds_355 hl (by decide) rfl (fun ls hl => ?_)
    refine lv_iconst (v := (0 : Int32)) cx.1 cx.2.1 dL_rounds_357 (by decide) ?_
    refine lv_istore (lv' := [(17, .int (0 : Int32)), (7, .int (0 : Int32)), (0, .ref (G.2.1 0)), (1, .int x1), (3, .int x3), (4, .int x4), (5, .int x5), (6, .int x6), (8, .int x8)]) cx.1 cx.2.1 dL_rounds_358 hl (by decide) rfl (fun ls hl => ?_)
    exact hL_360 K52 n_52 hK52 5 S x1 x3 x4 x5 x6 (0 : Int32) x8 (0 : Int32) _ _ _ _ _ (by omega) (by omega) hw hS (lv_sub hl [2, 3, 4, 5, 6, 7, 1, 8, 0] rfl) hf
  have hB_343 : ∀ (K52 : At → Int32 → Int32 → Int32 → Int32 → Int32 → Int32 → Int32 → Option (Int32 × At)) (n_52 : Nat) (hK52 : ∀ (S : At) (x1 : Int32) (x3 : Int32) (x4 : Int32) (x5 : Int32) (x6 : Int32) (x7 : Int32) (x8 : Int32) (H : Heap) (locs : List Loc) (ls : Array Slot) (cells slots : Nat), cells + (2 + 1417 * n_52) ≤ 18430 → slots + (12 + 8502 * n_52) ≤ 110580 → gPA G S H → va_S (gAr (gNo G) s.heap.size) s.heap H locs → lv_has ls 18 [(0, .ref (G.2.1 0)), (1, .int x1), (3, .int x3), (4, .int x4), (5, .int x5), (6, .int x6), (7, .int x7), (8, .int x8)] → K52 S x1 x3 x4 x5 x6 x7 x8 = some (r, S') → W p l e (gRx 11 210 18430 110580) s m ([.ref (G.2.1 0), .int a1, .int a2, .int a3] : List Value).toArray below meth c H locs cells slots (MQ below (gQr (gPA G S') (some (.int r)) (gAr (gNo G) s.heap.size)) ([.ref (G.2.1 0), .int a1, .int a2, .int a3] : List Value).toArray s 18430 110580 (gAr (gNo G) s.heap.size)) (F0 m 52 ls [])), ∀ (S : At) (x1 : Int32) (x3 : Int32) (x4 : Int32) (x5 : Int32) (x6 : Int32) (x8 : Int32) (H : Heap) (locs : List Loc) (ls : Array Slot) (cells slots : Nat), cells + (1327 + 1417 * n_52) ≤ 18430 → slots + (7962 + 8502 * n_52) ≤ 110580 → gPA G S H → va_S (gAr (gNo G) s.heap.size) s.heap H locs → lv_has ls 18 [(0, .ref (G.2.1 0)), (1, .int x1), (3, .int x3), (4, .int x4), (5, .int x5), (6, .int x6), (8, .int x8)] → B_rounds_343 K52 S x1 x3 x4 x5 x6 x8 = some (r, S') → W p l e (gRx 11 210 18430 110580) s m ([.ref (G.2.1 0), .int a1, .int a2, .int a3] : List Value).toArray below meth c H locs cells slots (MQ below (gQr (gPA G S') (some (.int r)) (gAr (gNo G) s.heap.size)) ([.ref (G.2.1 0), .int a1, .int a2, .int a3] : List Value).toArray s 18430 110580 (gAr (gNo G) s.heap.size)) (F0 m 343 ls []) := by
    intro K52 n_52 hK52 S x1 x3 x4 x5 x6 x8 H locs ls cells slots hcl hsl hw hS hl hf
    unfold B_rounds_343 at hf
    refine lv_aload_n cx.1 cx.2.1 dL_rounds_343 rfl (lv_at hl 0 rfl) ?_
    obtain ⟨v_11, S_12, hv, hf⟩ := gbs_some hf
    refine a_S (As := [.ref (G.2.1 0)]) (rest := []) cx hX hZ hw hS (a_sound l hst G S v_11 S_12 hv) gw_830 gyl_L_sound gil_L_sound ⟨Nat.le_of_ble_eq_true rfl, Nat.le_of_ble_eq_true rfl⟩ (show cells + 1298 ≤ 18430 ∧ slots + 7788 ≤ 110580 from ⟨by omega, by omega⟩) rfl hl.1 rfl (Nat.le_of_ble_eq_true rfl) dL_rounds_344 (fun H locs hw hS => ?_)
    refine W.eq (g2 := F0 m 347 ls [.int v_11]) rfl ?_
    refine lv_if_eq (tgt := 354) cx.1 cx.2.1 dL_rounds_347 (by decide) (fun hc => ?_) (fun hc => ?_)
    · rw [if_pos hc] at hf
      exact hB_354 K52 n_52 hK52 S_12 x1 x3 x4 x5 x6 x8 _ _ _ _ _ (by omega) (by omega) hw hS (lv_sub hl [0, 1, 2, 3, 4, 5, 6] rfl) hf
    · rw [if_neg hc] at hf
      refine lv_iconst (v := (1 : Int32)) cx.1 cx.2.1 dL_rounds_350 (by decide) ?_
      refine lv_goto (tgt := 355) cx.1 cx.2.1 dL_rounds_351 (by decide) ?_
      refine lv_istore (lv' := [(7, .int (1 : Int32)), (0, .ref (G.2.1 0)), (1, .int x1), (3, .int x3), (4, .int x4), (5, .int x5), (6, .int x6), (8, .int x8)]) cx.1 cx.2.1 dL_rounds_355 hl (by decide) rfl (fun ls hl => ?_)
      refine lv_iconst (v := (0 : Int32)) cx.1 cx.2.1 dL_rounds_357 (by decide) ?_
      refine lv_istore (lv' := [(17, .int (0 : Int32)), (7, .int (1 : Int32)), (0, .ref (G.2.1 0)), (1, .int x1), (3, .int x3), (4, .int x4), (5, .int x5), (6, .int x6), (8, .int x8)]) cx.1 cx.2.1 dL_rounds_358 hl (by decide) rfl (fun ls hl => ?_)
      exact hL_360 K52 n_52 hK52 5 S_12 x1 x3 x4 x5 x6 (1 : Int32) x8 (0 : Int32) _ _ _ _ _ (by omega) (by omega) hw hS (lv_sub hl [2, 3, 4, 5, 6, 7, 1, 8, 0] rfl) hf
  have hB_338 : ∀ (K52 : At → Int32 → Int32 → Int32 → Int32 → Int32 → Int32 → Int32 → Option (Int32 × At)) (n_52 : Nat) (hK52 : ∀ (S : At) (x1 : Int32) (x3 : Int32) (x4 : Int32) (x5 : Int32) (x6 : Int32) (x7 : Int32) (x8 : Int32) (H : Heap) (locs : List Loc) (ls : Array Slot) (cells slots : Nat), cells + (2 + 1417 * n_52) ≤ 18430 → slots + (12 + 8502 * n_52) ≤ 110580 → gPA G S H → va_S (gAr (gNo G) s.heap.size) s.heap H locs → lv_has ls 18 [(0, .ref (G.2.1 0)), (1, .int x1), (3, .int x3), (4, .int x4), (5, .int x5), (6, .int x6), (7, .int x7), (8, .int x8)] → K52 S x1 x3 x4 x5 x6 x7 x8 = some (r, S') → W p l e (gRx 11 210 18430 110580) s m ([.ref (G.2.1 0), .int a1, .int a2, .int a3] : List Value).toArray below meth c H locs cells slots (MQ below (gQr (gPA G S') (some (.int r)) (gAr (gNo G) s.heap.size)) ([.ref (G.2.1 0), .int a1, .int a2, .int a3] : List Value).toArray s 18430 110580 (gAr (gNo G) s.heap.size)) (F0 m 52 ls [])), ∀ (S : At) (x1 : Int32) (x3 : Int32) (x4 : Int32) (x5 : Int32) (x6 : Int32) (x8 : Int32) (x16 : Int32) (t0 : Int32) (H : Heap) (locs : List Loc) (ls : Array Slot) (cells slots : Nat), cells + (1327 + 1417 * n_52) ≤ 18430 → slots + (7962 + 8502 * n_52) ≤ 110580 → gPA G S H → va_S (gAr (gNo G) s.heap.size) s.heap H locs → lv_has ls 18 [(0, .ref (G.2.1 0)), (1, .int x1), (3, .int x3), (4, .int x4), (5, .int x5), (6, .int x6), (8, .int x8), (16, .int x16)] → B_rounds_338 K52 S x1 x3 x4 x5 x6 x8 x16 t0 = some (r, S') → W p l e (gRx 11 210 18430 110580) s m ([.ref (G.2.1 0), .int a1, .int a2, .int a3] : List Value).toArray below meth c H locs cells slots (MQ below (gQr (gPA G S') (some (.int r)) (gAr (gNo G) s.heap.size)) ([.ref (G.2.1 0), .int a1, .int a2, .int a3] : List Value).toArray s 18430 110580 (gAr (gNo G) s.heap.size)) (F0 m 338 ls [.int t0]) := by
    intro K52 n_52 hK52 S x1 x3 x4 x5 x6 x8 x16 t0 H locs ls cells slots hcl hsl hw hS hl hf
    unfold B_rounds_338 at hf
    refine lv_iload cx.1 cx.2.1 dL_rounds_338 (lv_at hl 7 rfl) ?_
    refine lv_icmp_ne (tgt := 354) cx.1 cx.2.1 dL_rounds_340 (by decide) (fun hc => ?_) (fun hc => ?_)
    · rw [if_neg hc] at hf
      exact hB_354 K52 n_52 hK52 S x1 x3 x4 x5 x6 x8 _ _ _ _ _ (by omega) (by omega) hw hS (lv_sub hl [0, 1, 2, 3, 4, 5, 6] rfl) hf
    · rw [if_pos hc] at hf
      exact hB_343 K52 n_52 hK52 S x1 x3 x4 x5 x6 x8 _ _ _ _ _ (by omega) (by omega) hw hS (lv_sub hl [0, 1, 2, 3, 4, 5, 6] rfl) hf
  have hB_326 : ∀ (K52 : At → Int32 → Int32 → Int32 → Int32 → Int32 → Int32 → Int32 → Option (Int32 × At)) (n_52 : Nat) (hK52 : ∀ (S : At) (x1 : Int32) (x3 : Int32) (x4 : Int32) (x5 : Int32) (x6 : Int32) (x7 : Int32) (x8 : Int32) (H : Heap) (locs : List Loc) (ls : Array Slot) (cells slots : Nat), cells + (2 + 1417 * n_52) ≤ 18430 → slots + (12 + 8502 * n_52) ≤ 110580 → gPA G S H → va_S (gAr (gNo G) s.heap.size) s.heap H locs → lv_has ls 18 [(0, .ref (G.2.1 0)), (1, .int x1), (3, .int x3), (4, .int x4), (5, .int x5), (6, .int x6), (7, .int x7), (8, .int x8)] → K52 S x1 x3 x4 x5 x6 x7 x8 = some (r, S') → W p l e (gRx 11 210 18430 110580) s m ([.ref (G.2.1 0), .int a1, .int a2, .int a3] : List Value).toArray below meth c H locs cells slots (MQ below (gQr (gPA G S') (some (.int r)) (gAr (gNo G) s.heap.size)) ([.ref (G.2.1 0), .int a1, .int a2, .int a3] : List Value).toArray s 18430 110580 (gAr (gNo G) s.heap.size)) (F0 m 52 ls [])), ∀ (S : At) (x1 : Int32) (x3 : Int32) (x4 : Int32) (x5 : Int32) (x6 : Int32) (x8 : Int32) (x16 : Int32) (H : Heap) (locs : List Loc) (ls : Array Slot) (cells slots : Nat), cells + (1327 + 1417 * n_52) ≤ 18430 → slots + (7962 + 8502 * n_52) ≤ 110580 → gPA G S H → va_S (gAr (gNo G) s.heap.size) s.heap H locs → lv_has ls 18 [(0, .ref (G.2.1 0)), (1, .int x1), (3, .int x3), (4, .int x4), (5, .int x5), (6, .int x6), (8, .int x8), (16, .int x16)] → B_rounds_326 K52 S x1 x3 x4 x5 x6 x8 x16 = some (r, S') → W p l e (gRx 11 210 18430 110580) s m ([.ref (G.2.1 0), .int a1, .int a2, .int a3] : List Value).toArray below meth c H locs cells slots (MQ below (gQr (gPA G S') (some (.int r)) (gAr (gNo G) s.heap.size)) ([.ref (G.2.1 0), .int a1, .int a2, .int a3] : List Value).toArray s 18430 110580 (gAr (gNo G) s.heap.size)) (F0 m 326 ls []) := by
    intro K52 n_52 hK52 S x1 x3 x4 x5 x6 x8 x16 H locs ls cells slots hcl hsl hw hS hl hf
    unfold B_rounds_326 at hf
    refine lv_iload cx.1 cx.2.1 dL_rounds_326 (lv_at hl 5 rfl) ?_
    refine lv_iload cx.1 cx.2.1 dL_rounds_328 (lv_at hl 6 rfl) ?_
    refine lv_icmp_ne (tgt := 337) cx.1 cx.2.1 dL_rounds_330 (by decide) (fun hc => ?_) (fun hc => ?_)
    · rw [if_neg hc] at hf
      refine lv_iconst (v := (0 : Int32)) cx.1 cx.2.1 dL_rounds_337 (by decide) ?_
      exact hB_338 K52 n_52 hK52 S x1 x3 x4 x5 x6 x8 x16 (0 : Int32) _ _ _ _ _ (by omega) (by omega) hw hS (lv_sub hl [0, 1, 2, 3, 4, 5, 6, 7] rfl) hf
    · rw [if_pos hc] at hf
      refine lv_iconst (v := (1 : Int32)) cx.1 cx.2.1 dL_rounds_333 (by decide) ?_
      refine lv_goto (tgt := 338) cx.1 cx.2.1 dL_rounds_334 (by decide) ?_
      exact hB_338 K52 n_52 hK52 S x1 x3 x4 x5 x6 x8 x16 (1 : Int32) _ _ _ _ _ (by omega) (by omega) hw hS (lv_sub hl [0, 1, 2, 3, 4, 5, 6, 7] rfl) hf
  have hB_312 : ∀ (K52 : At → Int32 → Int32 → Int32 → Int32 → Int32 → Int32 → Int32 → Option (Int32 × At)) (n_52 : Nat) (hK52 : ∀ (S : At) (x1 : Int32) (x3 : Int32) (x4 : Int32) (x5 : Int32) (x6 : Int32) (x7 : Int32) (x8 : Int32) (H : Heap) (locs : List Loc) (ls : Array Slot) (cells slots : Nat), cells + (2 + 1417 * n_52) ≤ 18430 → slots + (12 + 8502 * n_52) ≤ 110580 → gPA G S H → va_S (gAr (gNo G) s.heap.size) s.heap H locs → lv_has ls 18 [(0, .ref (G.2.1 0)), (1, .int x1), (3, .int x3), (4, .int x4), (5, .int x5), (6, .int x6), (7, .int x7), (8, .int x8)] → K52 S x1 x3 x4 x5 x6 x7 x8 = some (r, S') → W p l e (gRx 11 210 18430 110580) s m ([.ref (G.2.1 0), .int a1, .int a2, .int a3] : List Value).toArray below meth c H locs cells slots (MQ below (gQr (gPA G S') (some (.int r)) (gAr (gNo G) s.heap.size)) ([.ref (G.2.1 0), .int a1, .int a2, .int a3] : List Value).toArray s 18430 110580 (gAr (gNo G) s.heap.size)) (F0 m 52 ls [])), ∀ (S : At) (x1 : Int32) (x3 : Int32) (x4 : Int32) (x5 : Int32) (x6 : Int32) (x8 : Int32) (x16 : Int32) (H : Heap) (locs : List Loc) (ls : Array Slot) (cells slots : Nat), cells + (1327 + 1417 * n_52) ≤ 18430 → slots + (7962 + 8502 * n_52) ≤ 110580 → gPA G S H → va_S (gAr (gNo G) s.heap.size) s.heap H locs → lv_has ls 18 [(0, .ref (G.2.1 0)), (1, .int x1), (3, .int x3), (4, .int x4), (5, .int x5), (6, .int x6), (8, .int x8), (16, .int x16)] → B_rounds_312 K52 S x1 x3 x4 x5 x6 x8 x16 = some (r, S') → W p l e (gRx 11 210 18430 110580) s m ([.ref (G.2.1 0), .int a1, .int a2, .int a3] : List Value).toArray below meth c H locs cells slots (MQ below (gQr (gPA G S') (some (.int r)) (gAr (gNo G) s.heap.size)) ([.ref (G.2.1 0), .int a1, .int a2, .int a3] : List Value).toArray s 18430 110580 (gAr (gNo G) s.heap.size)) (F0 m 312 ls []) := by
    intro K52 n_52 hK52 S x1 x3 x4 x5 x6 x8 x16 H locs ls cells slots hcl hsl hw hS hl hf
    unfold B_rounds_312 at hf
    refine lv_iload cx.1 cx.2.1 dL_rounds_312 (lv_at hl 5 rfl) ?_
    refine lv_bipush (v := (-9 : Int32)) cx.1 cx.2.1 dL_rounds_314 (by decide) ?_
    refine lv_icmp_eq (tgt := 326) cx.1 cx.2.1 dL_rounds_316 (by decide) (fun hc => ?_) (fun hc => ?_)
    · rw [if_pos hc] at hf
      exact hB_326 K52 n_52 hK52 S x1 x3 x4 x5 x6 x8 x16 _ _ _ _ _ (by omega) (by omega) hw hS (lv_sub hl [0, 1, 2, 3, 4, 5, 6, 7] rfl) hf
    · rw [if_neg hc] at hf
      refine lv_iload cx.1 cx.2.1 dL_rounds_319 (lv_at hl 5 rfl) ?_
      refine lv_iload cx.1 cx.2.1 dL_rounds_321 (lv_at hl 6 rfl) ?_
      refine lv_icmp_lt (tgt := 343) cx.1 cx.2.1 dL_rounds_323 (by decide) (fun hc => ?_) (fun hc => ?_)
      · rw [if_pos hc] at hf
        exact hB_343 K52 n_52 hK52 S x1 x3 x4 x5 x6 x8 _ _ _ _ _ (by omega) (by omega) hw hS (lv_sub hl [0, 1, 2, 3, 4, 5, 6] rfl) hf
      · rw [if_neg hc] at hf
        exact hB_326 K52 n_52 hK52 S x1 x3 x4 x5 x6 x8 x16 _ _ _ _ _ (by omega) (by omega) hw hS (lv_sub hl [0, 1, 2, 3, 4, 5, 6, 7] rfl) hf
  have hB_276 : ∀ (K52 : At → Int32 → Int32 → Int32 → Int32 → Int32 → Int32 → Int32 → Option (Int32 × At)) (n_52 : Nat) (hK52 : ∀ (S : At) (x1 : Int32) (x3 : Int32) (x4 : Int32) (x5 : Int32) (x6 : Int32) (x7 : Int32) (x8 : Int32) (H : Heap) (locs : List Loc) (ls : Array Slot) (cells slots : Nat), cells + (2 + 1417 * n_52) ≤ 18430 → slots + (12 + 8502 * n_52) ≤ 110580 → gPA G S H → va_S (gAr (gNo G) s.heap.size) s.heap H locs → lv_has ls 18 [(0, .ref (G.2.1 0)), (1, .int x1), (3, .int x3), (4, .int x4), (5, .int x5), (6, .int x6), (7, .int x7), (8, .int x8)] → K52 S x1 x3 x4 x5 x6 x7 x8 = some (r, S') → W p l e (gRx 11 210 18430 110580) s m ([.ref (G.2.1 0), .int a1, .int a2, .int a3] : List Value).toArray below meth c H locs cells slots (MQ below (gQr (gPA G S') (some (.int r)) (gAr (gNo G) s.heap.size)) ([.ref (G.2.1 0), .int a1, .int a2, .int a3] : List Value).toArray s 18430 110580 (gAr (gNo G) s.heap.size)) (F0 m 52 ls [])), ∀ (S : At) (x1 : Int32) (x3 : Int32) (x4 : Int32) (x5 : Int32) (x6 : Int32) (x8 : Int32) (x16 : Int32) (t0 : Int32) (t1 : Int32) (t2 : Int32) (H : Heap) (locs : List Loc) (ls : Array Slot) (cells slots : Nat), cells + (1333 + 1417 * n_52) ≤ 18430 → slots + (7998 + 8502 * n_52) ≤ 110580 → gPA G S H → va_S (gAr (gNo G) s.heap.size) s.heap H locs → lv_has ls 18 [(0, .ref (G.2.1 0)), (1, .int x1), (3, .int x3), (4, .int x4), (5, .int x5), (6, .int x6), (8, .int x8), (16, .int x16)] → B_rounds_276 K52 S x1 x3 x4 x5 x6 x8 x16 t0 t1 t2 = some (r, S') → W p l e (gRx 11 210 18430 110580) s m ([.ref (G.2.1 0), .int a1, .int a2, .int a3] : List Value).toArray below meth c H locs cells slots (MQ below (gQr (gPA G S') (some (.int r)) (gAr (gNo G) s.heap.size)) ([.ref (G.2.1 0), .int a1, .int a2, .int a3] : List Value).toArray s 18430 110580 (gAr (gNo G) s.heap.size)) (F0 m 276 ls [.int t0, .int t1, .int t2]) := by
    intro K52 n_52 hK52 S x1 x3 x4 x5 x6 x8 x16 t0 t1 t2 H locs ls cells slots hcl hsl hw hS hl hf
    unfold B_rounds_276 at hf
    refine lv_iadd cx.1 cx.2.1 dL_rounds_276 ?_
    refine lv_icmp_ne (tgt := 354) cx.1 cx.2.1 dL_rounds_277 (by decide) (fun hc => ?_) (fun hc => ?_)
    · rw [if_neg hc] at hf
      exact hB_354 K52 n_52 hK52 S x1 x3 x4 x5 x6 x8 _ _ _ _ _ (by omega) (by omega) hw hS (lv_sub hl [0, 1, 2, 3, 4, 5, 6] rfl) hf
    · rw [if_pos hc] at hf
      refine lv_iload cx.1 cx.2.1 dL_rounds_280 (lv_at hl 7 rfl) ?_
      refine lv_if_eq (tgt := 312) cx.1 cx.2.1 dL_rounds_282 (by decide) (fun hc => ?_) (fun hc => ?_)
      · rw [if_pos hc] at hf
        exact hB_312 K52 n_52 hK52 S x1 x3 x4 x5 x6 x8 x16 _ _ _ _ _ (by omega) (by omega) hw hS (lv_sub hl [0, 1, 2, 3, 4, 5, 6, 7] rfl) hf
      · rw [if_neg hc] at hf
        refine lv_aload_n cx.1 cx.2.1 dL_rounds_285 rfl (lv_at hl 0 rfl) ?_
        refine lv_iload_n cx.1 cx.2.1 dL_rounds_286 rfl (lv_at hl 1 rfl) ?_
        refine lv_iconst (v := (2 : Int32)) cx.1 cx.2.1 dL_rounds_287 (by decide) ?_
        obtain ⟨v_13, S_14, hv, hf⟩ := gbs_some hf
        refine a_SW (As := [.ref (G.2.1 0), .int x1, .int (2 : Int32)]) (rest := []) cx hX hZ hw hS (a_tryCompany l hst G x1 (2 : Int32) S v_13 S_14 hv) gw_349 gw_187 gyw_L_tryCompany ⟨by decide, by decide⟩ ⟨Nat.le_of_ble_eq_true rfl, Nat.le_of_ble_eq_true rfl⟩ (show cells + 2 ≤ 18430 ∧ slots + 12 ≤ 110580 from ⟨by omega, by omega⟩) rfl hl.1 rfl (Nat.le_of_ble_eq_true rfl) dL_rounds_288 (fun H locs hw hS => ?_)
        refine W.eq (g2 := F0 m 291 ls [.int v_13]) rfl ?_
        refine lv_if_ne (tgt := 354) cx.1 cx.2.1 dL_rounds_291 (by decide) (fun hc => ?_) (fun hc => ?_)
        · rw [if_neg hc] at hf
          exact hB_354 K52 n_52 hK52 S_14 x1 x3 x4 x5 x6 x8 _ _ _ _ _ (by omega) (by omega) hw hS (lv_sub hl [0, 1, 2, 3, 4, 5, 6] rfl) hf
        · rw [if_pos hc] at hf
          refine lv_aload_n cx.1 cx.2.1 dL_rounds_294 rfl (lv_at hl 0 rfl) ?_
          refine lv_iload_n cx.1 cx.2.1 dL_rounds_295 rfl (lv_at hl 1 rfl) ?_
          refine lv_iconst (v := (3 : Int32)) cx.1 cx.2.1 dL_rounds_296 (by decide) ?_
          obtain ⟨v_15, S_16, hv, hf⟩ := gbs_some hf
          refine a_SW (As := [.ref (G.2.1 0), .int x1, .int (3 : Int32)]) (rest := []) cx hX hZ hw hS (a_tryCompany l hst G x1 (3 : Int32) S_14 v_15 S_16 hv) gw_349 gw_187 gyw_L_tryCompany ⟨by decide, by decide⟩ ⟨Nat.le_of_ble_eq_true rfl, Nat.le_of_ble_eq_true rfl⟩ (show cells + 2 + 2 ≤ 18430 ∧ slots + 12 + 12 ≤ 110580 from ⟨by omega, by omega⟩) rfl hl.1 rfl (Nat.le_of_ble_eq_true rfl) dL_rounds_297 (fun H locs hw hS => ?_)
          refine W.eq (g2 := F0 m 300 ls [.int v_15]) rfl ?_
          refine lv_if_ne (tgt := 354) cx.1 cx.2.1 dL_rounds_300 (by decide) (fun hc => ?_) (fun hc => ?_)
          · rw [if_neg hc] at hf
            exact hB_354 K52 n_52 hK52 S_16 x1 x3 x4 x5 x6 x8 _ _ _ _ _ (by omega) (by omega) hw hS (lv_sub hl [0, 1, 2, 3, 4, 5, 6] rfl) hf
          · rw [if_pos hc] at hf
            refine lv_aload_n cx.1 cx.2.1 dL_rounds_303 rfl (lv_at hl 0 rfl) ?_
            refine lv_iload_n cx.1 cx.2.1 dL_rounds_304 rfl (lv_at hl 1 rfl) ?_
            refine lv_iconst (v := (4 : Int32)) cx.1 cx.2.1 dL_rounds_305 (by decide) ?_
            obtain ⟨v_17, S_18, hv, hf⟩ := gbs_some hf
            refine a_SW (As := [.ref (G.2.1 0), .int x1, .int (4 : Int32)]) (rest := []) cx hX hZ hw hS (a_tryCompany l hst G x1 (4 : Int32) S_16 v_17 S_18 hv) gw_349 gw_187 gyw_L_tryCompany ⟨by decide, by decide⟩ ⟨Nat.le_of_ble_eq_true rfl, Nat.le_of_ble_eq_true rfl⟩ (show cells + 2 + 2 + 2 ≤ 18430 ∧ slots + 12 + 12 + 12 ≤ 110580 from ⟨by omega, by omega⟩) rfl hl.1 rfl (Nat.le_of_ble_eq_true rfl) dL_rounds_306 (fun H locs hw hS => ?_)
            refine W.eq (g2 := F0 m 309 ls [.int v_17]) rfl ?_
            refine lv_if_ne (tgt := 354) cx.1 cx.2.1 dL_rounds_309 (by decide) (fun hc => ?_) (fun hc => ?_)
            · rw [if_neg hc] at hf
              exact hB_354 K52 n_52 hK52 S_18 x1 x3 x4 x5 x6 x8 _ _ _ _ _ (by omega) (by omega) hw hS (lv_sub hl [0, 1, 2, 3, 4, 5, 6] rfl) hf
            · rw [if_pos hc] at hf
              exact hB_312 K52 n_52 hK52 S_18 x1 x3 x4 x5 x6 x8 x16 _ _ _ _ _ (by omega) (by omega) hw hS (lv_sub hl [0, 1, 2, 3, 4, 5, 6, 7] rfl) hf
  have hB_254 : ∀ (K52 : At → Int32 → Int32 → Int32 → Int32 → Int32 → Int32 → Int32 → Option (Int32 × At)) (n_52 : Nat) (hK52 : ∀ (S : At) (x1 : Int32) (x3 : Int32) (x4 : Int32) (x5 : Int32) (x6 : Int32) (x7 : Int32) (x8 : Int32) (H : Heap) (locs : List Loc) (ls : Array Slot) (cells slots : Nat), cells + (2 + 1417 * n_52) ≤ 18430 → slots + (12 + 8502 * n_52) ≤ 110580 → gPA G S H → va_S (gAr (gNo G) s.heap.size) s.heap H locs → lv_has ls 18 [(0, .ref (G.2.1 0)), (1, .int x1), (3, .int x3), (4, .int x4), (5, .int x5), (6, .int x6), (7, .int x7), (8, .int x8)] → K52 S x1 x3 x4 x5 x6 x7 x8 = some (r, S') → W p l e (gRx 11 210 18430 110580) s m ([.ref (G.2.1 0), .int a1, .int a2, .int a3] : List Value).toArray below meth c H locs cells slots (MQ below (gQr (gPA G S') (some (.int r)) (gAr (gNo G) s.heap.size)) ([.ref (G.2.1 0), .int a1, .int a2, .int a3] : List Value).toArray s 18430 110580 (gAr (gNo G) s.heap.size)) (F0 m 52 ls [])), ∀ (S : At) (x1 : Int32) (x3 : Int32) (x4 : Int32) (x5 : Int32) (x6 : Int32) (x8 : Int32) (x10 : Int32) (x16 : Int32) (t0 : Int32) (t1 : Int32) (H : Heap) (locs : List Loc) (ls : Array Slot) (cells slots : Nat), cells + (1335 + 1417 * n_52) ≤ 18430 → slots + (8010 + 8502 * n_52) ≤ 110580 → gPA G S H → va_S (gAr (gNo G) s.heap.size) s.heap H locs → lv_has ls 18 [(0, .ref (G.2.1 0)), (1, .int x1), (3, .int x3), (4, .int x4), (5, .int x5), (6, .int x6), (8, .int x8), (10, .int x10), (16, .int x16)] → B_rounds_254 K52 S x1 x3 x4 x5 x6 x8 x10 x16 t0 t1 = some (r, S') → W p l e (gRx 11 210 18430 110580) s m ([.ref (G.2.1 0), .int a1, .int a2, .int a3] : List Value).toArray below meth c H locs cells slots (MQ below (gQr (gPA G S') (some (.int r)) (gAr (gNo G) s.heap.size)) ([.ref (G.2.1 0), .int a1, .int a2, .int a3] : List Value).toArray s 18430 110580 (gAr (gNo G) s.heap.size)) (F0 m 254 ls [.int t0, .int t1]) := by
    intro K52 n_52 hK52 S x1 x3 x4 x5 x6 x8 x10 x16 t0 t1 H locs ls cells slots hcl hsl hw hS hl hf
    unfold B_rounds_254 at hf
    refine lv_icmp_ne (tgt := 354) cx.1 cx.2.1 dL_rounds_254 (by decide) (fun hc => ?_) (fun hc => ?_)
    · rw [if_neg hc] at hf
      exact hB_354 K52 n_52 hK52 S x1 x3 x4 x5 x6 x8 _ _ _ _ _ (by omega) (by omega) hw hS (lv_sub hl [0, 1, 2, 3, 4, 5, 6] rfl) hf
    · rw [if_pos hc] at hf
      refine lv_aload_n cx.1 cx.2.1 dL_rounds_257 rfl (lv_at hl 0 rfl) ?_
      refine lv_iload_n cx.1 cx.2.1 dL_rounds_258 rfl (lv_at hl 1 rfl) ?_
      refine lv_bipush (v := (6 : Int32)) cx.1 cx.2.1 dL_rounds_259 (by decide) ?_
      obtain ⟨v_19, S_20, hv, hf⟩ := gbs_some hf
      refine a_SW (As := [.ref (G.2.1 0), .int x1, .int (6 : Int32)]) (rest := []) cx hX hZ hw hS (a_tryCompany l hst G x1 (6 : Int32) S v_19 S_20 hv) gw_349 gw_187 gyw_L_tryCompany ⟨by decide, by decide⟩ ⟨Nat.le_of_ble_eq_true rfl, Nat.le_of_ble_eq_true rfl⟩ (show cells + 2 ≤ 18430 ∧ slots + 12 ≤ 110580 from ⟨by omega, by omega⟩) rfl hl.1 rfl (Nat.le_of_ble_eq_true rfl) dL_rounds_261 (fun H locs hw hS => ?_)
      refine W.eq (g2 := F0 m 264 ls [.int v_19]) rfl ?_
      refine lv_iload cx.1 cx.2.1 dL_rounds_264 (lv_at hl 7 rfl) ?_
      refine lv_iload cx.1 cx.2.1 dL_rounds_266 (lv_at hl 8 rfl) ?_
      refine lv_if_eq (tgt := 275) cx.1 cx.2.1 dL_rounds_268 (by decide) (fun hc => ?_) (fun hc => ?_)
      · rw [if_pos hc] at hf
        refine lv_iconst (v := (0 : Int32)) cx.1 cx.2.1 dL_rounds_275 (by decide) ?_
        exact hB_276 K52 n_52 hK52 S_20 x1 x3 x4 x5 x6 x8 x16 (0 : Int32) x10 v_19 _ _ _ _ _ (by omega) (by omega) hw hS (lv_sub hl [0, 1, 2, 3, 4, 5, 6, 8] rfl) hf
      · rw [if_neg hc] at hf
        refine lv_iconst (v := (1 : Int32)) cx.1 cx.2.1 dL_rounds_271 (by decide) ?_
        refine lv_goto (tgt := 276) cx.1 cx.2.1 dL_rounds_272 (by decide) ?_
        exact hB_276 K52 n_52 hK52 S_20 x1 x3 x4 x5 x6 x8 x16 (1 : Int32) x10 v_19 _ _ _ _ _ (by omega) (by omega) hw hS (lv_sub hl [0, 1, 2, 3, 4, 5, 6, 8] rfl) hf
  have hB_209 : ∀ (K52 : At → Int32 → Int32 → Int32 → Int32 → Int32 → Int32 → Int32 → Option (Int32 × At)) (n_52 : Nat) (hK52 : ∀ (S : At) (x1 : Int32) (x3 : Int32) (x4 : Int32) (x5 : Int32) (x6 : Int32) (x7 : Int32) (x8 : Int32) (H : Heap) (locs : List Loc) (ls : Array Slot) (cells slots : Nat), cells + (2 + 1417 * n_52) ≤ 18430 → slots + (12 + 8502 * n_52) ≤ 110580 → gPA G S H → va_S (gAr (gNo G) s.heap.size) s.heap H locs → lv_has ls 18 [(0, .ref (G.2.1 0)), (1, .int x1), (3, .int x3), (4, .int x4), (5, .int x5), (6, .int x6), (7, .int x7), (8, .int x8)] → K52 S x1 x3 x4 x5 x6 x7 x8 = some (r, S') → W p l e (gRx 11 210 18430 110580) s m ([.ref (G.2.1 0), .int a1, .int a2, .int a3] : List Value).toArray below meth c H locs cells slots (MQ below (gQr (gPA G S') (some (.int r)) (gAr (gNo G) s.heap.size)) ([.ref (G.2.1 0), .int a1, .int a2, .int a3] : List Value).toArray s 18430 110580 (gAr (gNo G) s.heap.size)) (F0 m 52 ls [])), ∀ (S : At) (x1 : Int32) (x3 : Int32) (x4 : Int32) (x5 : Int32) (x6 : Int32) (x8 : Int32) (x10 : Int32) (x13 : Int32) (x14 : Int32) (x15 : Int32) (t0 : Int32) (H : Heap) (locs : List Loc) (ls : Array Slot) (cells slots : Nat), cells + (1339 + 1417 * n_52) ≤ 18430 → slots + (8034 + 8502 * n_52) ≤ 110580 → gPA G S H → va_S (gAr (gNo G) s.heap.size) s.heap H locs → lv_has ls 18 [(0, .ref (G.2.1 0)), (1, .int x1), (3, .int x3), (4, .int x4), (5, .int x5), (6, .int x6), (8, .int x8), (10, .int x10), (13, .int x13), (14, .int x14), (15, .int x15)] → B_rounds_209 K52 S x1 x3 x4 x5 x6 x8 x10 x13 x14 x15 t0 = some (r, S') → W p l e (gRx 11 210 18430 110580) s m ([.ref (G.2.1 0), .int a1, .int a2, .int a3] : List Value).toArray below meth c H locs cells slots (MQ below (gQr (gPA G S') (some (.int r)) (gAr (gNo G) s.heap.size)) ([.ref (G.2.1 0), .int a1, .int a2, .int a3] : List Value).toArray s 18430 110580 (gAr (gNo G) s.heap.size)) (F0 m 209 ls [.int t0]) := by
    intro K52 n_52 hK52 S x1 x3 x4 x5 x6 x8 x10 x13 x14 x15 t0 H locs ls cells slots hcl hsl hw hS hl hf
    unfold B_rounds_209 at hf
    refine lv_istore (lv' := [(16, .int t0), (0, .ref (G.2.1 0)), (1, .int x1), (3, .int x3), (4, .int x4), (5, .int x5), (6, .int x6), (8, .int x8), (10, .int x10), (13, .int x13), (14, .int x14), (15, .int x15)]) cx.1 cx.2.1 dL_rounds_209 hl (by decide) rfl (fun ls hl => ?_)
    refine lv_aload_n cx.1 cx.2.1 dL_rounds_211 rfl (lv_at hl 1 rfl) ?_
    refine lv_iconst (v := (4 : Int32)) cx.1 cx.2.1 dL_rounds_212 (by decide) ?_
    obtain ⟨v_21, S_22, hv, hf⟩ := gbs_some hf
    refine a_SW (As := [.ref (G.2.1 0), .int (4 : Int32)]) (rest := []) cx hX hZ hw hS (a_tryAbout l hst G (4 : Int32) S v_21 S_22 hv) gw_185 gw_187 gyw_L_tryAbout ⟨by decide, by decide⟩ ⟨Nat.le_of_ble_eq_true rfl, Nat.le_of_ble_eq_true rfl⟩ (show cells + 1 ≤ 18430 ∧ slots + 6 ≤ 110580 from ⟨by omega, by omega⟩) rfl hl.1 rfl (Nat.le_of_ble_eq_true rfl) dL_rounds_213 (fun H locs hw hS => ?_)
    refine W.eq (g2 := F0 m 216 ls [.int v_21]) rfl ?_
    refine lv_iload_n cx.1 cx.2.1 dL_rounds_216 rfl (lv_at hl 3 rfl) ?_
    refine lv_iload cx.1 cx.2.1 dL_rounds_217 (lv_at hl 7 rfl) ?_
    refine lv_iadd cx.1 cx.2.1 dL_rounds_219 ?_
    refine lv_icmp_ne (tgt := 354) cx.1 cx.2.1 dL_rounds_220 (by decide) (fun hc => ?_) (fun hc => ?_)
    · rw [if_neg hc] at hf
      exact hB_354 K52 n_52 hK52 S_22 x1 x3 x4 x5 x6 x8 _ _ _ _ _ (by omega) (by omega) hw hS (lv_sub hl [1, 2, 3, 4, 5, 6, 7] rfl) hf
    · rw [if_pos hc] at hf
      refine lv_aload_n cx.1 cx.2.1 dL_rounds_223 rfl (lv_at hl 1 rfl) ?_
      refine lv_bipush (v := (9 : Int32)) cx.1 cx.2.1 dL_rounds_224 (by decide) ?_
      obtain ⟨v_23, S_24, hv, hf⟩ := gbs_some hf
      refine a_SW (As := [.ref (G.2.1 0), .int (9 : Int32)]) (rest := []) cx hX hZ hw hS (a_tryAbout l hst G (9 : Int32) S_22 v_23 S_24 hv) gw_185 gw_187 gyw_L_tryAbout ⟨by decide, by decide⟩ ⟨Nat.le_of_ble_eq_true rfl, Nat.le_of_ble_eq_true rfl⟩ (show cells + 1 + 1 ≤ 18430 ∧ slots + 6 + 6 ≤ 110580 from ⟨by omega, by omega⟩) rfl hl.1 rfl (Nat.le_of_ble_eq_true rfl) dL_rounds_226 (fun H locs hw hS => ?_)
      refine W.eq (g2 := F0 m 229 ls [.int v_23]) rfl ?_
      refine lv_iload cx.1 cx.2.1 dL_rounds_229 (lv_at hl 10 rfl) ?_
      refine lv_iload cx.1 cx.2.1 dL_rounds_231 (lv_at hl 11 rfl) ?_
      refine lv_iadd cx.1 cx.2.1 dL_rounds_233 ?_
      refine lv_icmp_ne (tgt := 354) cx.1 cx.2.1 dL_rounds_234 (by decide) (fun hc => ?_) (fun hc => ?_)
      · rw [if_neg hc] at hf
        exact hB_354 K52 n_52 hK52 S_24 x1 x3 x4 x5 x6 x8 _ _ _ _ _ (by omega) (by omega) hw hS (lv_sub hl [1, 2, 3, 4, 5, 6, 7] rfl) hf
      · rw [if_pos hc] at hf
        refine lv_aload_n cx.1 cx.2.1 dL_rounds_237 rfl (lv_at hl 1 rfl) ?_
        refine lv_iload_n cx.1 cx.2.1 dL_rounds_238 rfl (lv_at hl 2 rfl) ?_
        refine lv_iconst (v := (0 : Int32)) cx.1 cx.2.1 dL_rounds_239 (by decide) ?_
        obtain ⟨v_25, S_26, hv, hf⟩ := gbs_some hf
        refine a_SW (As := [.ref (G.2.1 0), .int x1, .int (0 : Int32)]) (rest := []) cx hX hZ hw hS (a_tryCompany l hst G x1 (0 : Int32) S_24 v_25 S_26 hv) gw_349 gw_187 gyw_L_tryCompany ⟨by decide, by decide⟩ ⟨Nat.le_of_ble_eq_true rfl, Nat.le_of_ble_eq_true rfl⟩ (show cells + 1 + 1 + 2 ≤ 18430 ∧ slots + 6 + 6 + 12 ≤ 110580 from ⟨by omega, by omega⟩) rfl hl.1 rfl (Nat.le_of_ble_eq_true rfl) dL_rounds_240 (fun H locs hw hS => ?_)
        refine W.eq (g2 := F0 m 243 ls [.int v_25]) rfl ?_
        refine lv_iload cx.1 cx.2.1 dL_rounds_243 (lv_at hl 0 rfl) ?_
        refine lv_if_eq (tgt := 252) cx.1 cx.2.1 dL_rounds_245 (by decide) (fun hc => ?_) (fun hc => ?_)
        · rw [if_pos hc] at hf
          refine lv_iload cx.1 cx.2.1 dL_rounds_252 (lv_at hl 9 rfl) ?_
          exact hB_254 K52 n_52 hK52 S_26 x1 x3 x4 x5 x6 x8 x10 t0 x13 v_25 _ _ _ _ _ (by omega) (by omega) hw hS (lv_sub hl [1, 2, 3, 4, 5, 6, 7, 8, 0] rfl) hf
        · rw [if_neg hc] at hf
          refine lv_iconst (v := (0 : Int32)) cx.1 cx.2.1 dL_rounds_248 (by decide) ?_
          refine lv_goto (tgt := 254) cx.1 cx.2.1 dL_rounds_249 (by decide) ?_
          exact hB_254 K52 n_52 hK52 S_26 x1 x3 x4 x5 x6 x8 x10 t0 (0 : Int32) v_25 _ _ _ _ _ (by omega) (by omega) hw hS (lv_sub hl [1, 2, 3, 4, 5, 6, 7, 8, 0] rfl) hf
  have hB_166 : ∀ (K52 : At → Int32 → Int32 → Int32 → Int32 → Int32 → Int32 → Int32 → Option (Int32 × At)) (n_52 : Nat) (hK52 : ∀ (S : At) (x1 : Int32) (x3 : Int32) (x4 : Int32) (x5 : Int32) (x6 : Int32) (x7 : Int32) (x8 : Int32) (H : Heap) (locs : List Loc) (ls : Array Slot) (cells slots : Nat), cells + (2 + 1417 * n_52) ≤ 18430 → slots + (12 + 8502 * n_52) ≤ 110580 → gPA G S H → va_S (gAr (gNo G) s.heap.size) s.heap H locs → lv_has ls 18 [(0, .ref (G.2.1 0)), (1, .int x1), (3, .int x3), (4, .int x4), (5, .int x5), (6, .int x6), (7, .int x7), (8, .int x8)] → K52 S x1 x3 x4 x5 x6 x7 x8 = some (r, S') → W p l e (gRx 11 210 18430 110580) s m ([.ref (G.2.1 0), .int a1, .int a2, .int a3] : List Value).toArray below meth c H locs cells slots (MQ below (gQr (gPA G S') (some (.int r)) (gAr (gNo G) s.heap.size)) ([.ref (G.2.1 0), .int a1, .int a2, .int a3] : List Value).toArray s 18430 110580 (gAr (gNo G) s.heap.size)) (F0 m 52 ls [])) (K128 : At → Int32 → Int32 → Int32 → Int32 → Int32 → Int32 → Int32 → Int32 → Int32 → Int32 → Int32 → Option (Int32 × At)) (n_128 : Nat) (hK128 : ∀ (S : At) (x1 : Int32) (x3 : Int32) (x4 : Int32) (x5 : Int32) (x6 : Int32) (x8 : Int32) (x9 : Int32) (x10 : Int32) (x11 : Int32) (x12 : Int32) (x13 : Int32) (H : Heap) (locs : List Loc) (ls : Array Slot) (cells slots : Nat), cells + (1341 + 5 * n_128 + 1417 * n_52) ≤ 18430 → slots + (8046 + 30 * n_128 + 8502 * n_52) ≤ 110580 → gPA G S H → va_S (gAr (gNo G) s.heap.size) s.heap H locs → lv_has ls 18 [(0, .ref (G.2.1 0)), (1, .int x1), (3, .int x3), (4, .int x4), (5, .int x5), (6, .int x6), (8, .int x8), (9, .int x9), (10, .int x10), (11, .int x11), (12, .int x12), (13, .int x13)] → K128 S x1 x3 x4 x5 x6 x8 x9 x10 x11 x12 x13 = some (r, S') → W p l e (gRx 11 210 18430 110580) s m ([.ref (G.2.1 0), .int a1, .int a2, .int a3] : List Value).toArray below meth c H locs cells slots (MQ below (gQr (gPA G S') (some (.int r)) (gAr (gNo G) s.heap.size)) ([.ref (G.2.1 0), .int a1, .int a2, .int a3] : List Value).toArray s 18430 110580 (gAr (gNo G) s.heap.size)) (F0 m 128 ls [])), ∀ (S : At) (x1 : Int32) (x3 : Int32) (x4 : Int32) (x5 : Int32) (x6 : Int32) (x8 : Int32) (x9 : Int32) (x10 : Int32) (x11 : Int32) (x13 : Int32) (t0 : Int32) (t1 : Int32) (H : Heap) (locs : List Loc) (ls : Array Slot) (cells slots : Nat), cells + (1341 + 1417 * n_52 + 5 * n_128) ≤ 18430 → slots + (8046 + 8502 * n_52 + 30 * n_128) ≤ 110580 → gPA G S H → va_S (gAr (gNo G) s.heap.size) s.heap H locs → lv_has ls 18 [(0, .ref (G.2.1 0)), (1, .int x1), (3, .int x3), (4, .int x4), (5, .int x5), (6, .int x6), (8, .int x8), (9, .int x9), (10, .int x10), (11, .int x11), (13, .int x13)] → B_rounds_166 K52 K128 S x1 x3 x4 x5 x6 x8 x9 x10 x11 x13 t0 t1 = some (r, S') → W p l e (gRx 11 210 18430 110580) s m ([.ref (G.2.1 0), .int a1, .int a2, .int a3] : List Value).toArray below meth c H locs cells slots (MQ below (gQr (gPA G S') (some (.int r)) (gAr (gNo G) s.heap.size)) ([.ref (G.2.1 0), .int a1, .int a2, .int a3] : List Value).toArray s 18430 110580 (gAr (gNo G) s.heap.size)) (F0 m 166 ls [.int t0, .int t1]) := by
    intro K52 n_52 hK52 K128 n_128 hK128 S x1 x3 x4 x5 x6 x8 x9 x10 x11 x13 t0 t1 H locs ls cells slots hcl hsl hw hS hl hf
    unfold B_rounds_166 at hf
    refine lv_iadd cx.1 cx.2.1 dL_rounds_166 ?_
    obtain ⟨x12_27, ex12_27, hf⟩ := gvi_ex hf
    refine W.eq (g2 := F0 m 167 ls [.int x12_27]) (by rw [← ex12_27]) ?_
    refine lv_istore (lv' := [(12, .int x12_27), (0, .ref (G.2.1 0)), (1, .int x1), (3, .int x3), (4, .int x4), (5, .int x5), (6, .int x6), (8, .int x8), (9, .int x9), (10, .int x10), (11, .int x11), (13, .int x13)]) cx.1 cx.2.1 dL_rounds_167 hl (by decide) rfl (fun ls hl => ?_)
    obtain ⟨x13_28, ex13_28, hf⟩ := gvi_ex hf
    refine lv_iinc (v := x13_28) (lv' := [(13, .int x13_28), (12, .int x12_27), (0, .ref (G.2.1 0)), (1, .int x1), (3, .int x3), (4, .int x4), (5, .int x5), (6, .int x6), (8, .int x8), (9, .int x9), (10, .int x10), (11, .int x11)]) cx.1 cx.2.1 dL_rounds_169 hl (k := 11) rfl (by rw [← ex13_28]; rfl) (by decide) rfl (fun ls hl => ?_)
    refine lv_goto (tgt := 128) cx.1 cx.2.1 dL_rounds_172 (by decide) ?_
    exact hK128 S x1 x3 x4 x5 x6 x8 x9 x10 x11 x12_27 x13_28 _ _ _ _ _ (by omega) (by omega) hw hS (lv_sub hl [2, 3, 4, 5, 6, 7, 8, 9, 10, 11, 1, 0] rfl) hf
  have hL_128 : ∀ (K52 : At → Int32 → Int32 → Int32 → Int32 → Int32 → Int32 → Int32 → Option (Int32 × At)) (n_52 : Nat) (hK52 : ∀ (S : At) (x1 : Int32) (x3 : Int32) (x4 : Int32) (x5 : Int32) (x6 : Int32) (x7 : Int32) (x8 : Int32) (H : Heap) (locs : List Loc) (ls : Array Slot) (cells slots : Nat), cells + (2 + 1417 * n_52) ≤ 18430 → slots + (12 + 8502 * n_52) ≤ 110580 → gPA G S H → va_S (gAr (gNo G) s.heap.size) s.heap H locs → lv_has ls 18 [(0, .ref (G.2.1 0)), (1, .int x1), (3, .int x3), (4, .int x4), (5, .int x5), (6, .int x6), (7, .int x7), (8, .int x8)] → K52 S x1 x3 x4 x5 x6 x7 x8 = some (r, S') → W p l e (gRx 11 210 18430 110580) s m ([.ref (G.2.1 0), .int a1, .int a2, .int a3] : List Value).toArray below meth c H locs cells slots (MQ below (gQr (gPA G S') (some (.int r)) (gAr (gNo G) s.heap.size)) ([.ref (G.2.1 0), .int a1, .int a2, .int a3] : List Value).toArray s 18430 110580 (gAr (gNo G) s.heap.size)) (F0 m 52 ls [])), ∀ (n : Nat), ∀ (S : At) (x1 : Int32) (x3 : Int32) (x4 : Int32) (x5 : Int32) (x6 : Int32) (x8 : Int32) (x9 : Int32) (x10 : Int32) (x11 : Int32) (x12 : Int32) (x13 : Int32) (H : Heap) (locs : List Loc) (ls : Array Slot) (cells slots : Nat), cells + (1341 + 5 * n + 1417 * n_52) ≤ 18430 → slots + (8046 + 30 * n + 8502 * n_52) ≤ 110580 → gPA G S H → va_S (gAr (gNo G) s.heap.size) s.heap H locs → lv_has ls 18 [(0, .ref (G.2.1 0)), (1, .int x1), (3, .int x3), (4, .int x4), (5, .int x5), (6, .int x6), (8, .int x8), (9, .int x9), (10, .int x10), (11, .int x11), (12, .int x12), (13, .int x13)] → L_rounds_128 K52 n S x1 x3 x4 x5 x6 x8 x9 x10 x11 x12 x13 = some (r, S') → W p l e (gRx 11 210 18430 110580) s m ([.ref (G.2.1 0), .int a1, .int a2, .int a3] : List Value).toArray below meth c H locs cells slots (MQ below (gQr (gPA G S') (some (.int r)) (gAr (gNo G) s.heap.size)) ([.ref (G.2.1 0), .int a1, .int a2, .int a3] : List Value).toArray s 18430 110580 (gAr (gNo G) s.heap.size)) (F0 m 128 ls []) := by
    intro K52 n_52 hK52 n_128
    induction n_128 with
    | zero => intro S x1 x3 x4 x5 x6 x8 x9 x10 x11 x12 x13 H locs ls cells slots hcl hsl hw hS hl hf; cases hf
    | succ n_128 hK128 =>
      intro S x1 x3 x4 x5 x6 x8 x9 x10 x11 x12 x13 H locs ls cells slots hcl hsl hw hS hl hf
      have hf : Lb_rounds_128 K52 (L_rounds_128 K52 n_128) S x1 x3 x4 x5 x6 x8 x9 x10 x11 x12 x13 = some (r, S') := hf
      unfold Lb_rounds_128 at hf
      refine lv_iload cx.1 cx.2.1 dL_rounds_128 (lv_at hl 11 rfl) ?_
      refine lv_aload_n cx.1 cx.2.1 dL_rounds_130 rfl (lv_at hl 0 rfl) ?_
      refine lv_iconst (v := (2 : Int32)) cx.1 cx.2.1 dL_rounds_131 (by decide) ?_
      obtain ⟨v_29, S_30, hv, hf⟩ := gbs_some hf
      refine a_SW (As := [.ref (G.2.1 0), .int (2 : Int32)]) (rest := [.int x13]) cx hX hZ hw hS (a_tryAbout l hst G (2 : Int32) S v_29 S_30 hv) gw_185 gw_187 gyw_L_tryAbout ⟨by decide, by decide⟩ ⟨Nat.le_of_ble_eq_true rfl, Nat.le_of_ble_eq_true rfl⟩ (show cells + 1 ≤ 18430 ∧ slots + 6 ≤ 110580 from ⟨by omega, by omega⟩) rfl hl.1 rfl (Nat.le_of_ble_eq_true rfl) dL_rounds_132 (fun H locs hw hS => ?_)
      refine W.eq (g2 := F0 m 135 ls [.int v_29, .int x13]) rfl ?_
      refine lv_icmp_ge (tgt := 175) cx.1 cx.2.1 dL_rounds_135 (by decide) (fun hc => ?_) (fun hc => ?_)
      · rw [if_pos hc] at hf
        refine lv_iload cx.1 cx.2.1 dL_rounds_175 (lv_at hl 7 rfl) ?_
        refine lv_iload cx.1 cx.2.1 dL_rounds_177 (lv_at hl 9 rfl) ?_
        refine lv_isub cx.1 cx.2.1 dL_rounds_179 ?_
        refine lv_iload cx.1 cx.2.1 dL_rounds_180 (lv_at hl 10 rfl) ?_
        refine lv_isub cx.1 cx.2.1 dL_rounds_182 ?_
        obtain ⟨x13_31, ex13_31, hf⟩ := gvi_ex hf
        refine W.eq (g2 := F0 m 183 ls [.int x13_31]) (by rw [← ex13_31]) ?_
        refine lv_istore (lv' := [(13, .int x13_31), (0, .ref (G.2.1 0)), (1, .int x1), (3, .int x3), (4, .int x4), (5, .int x5), (6, .int x6), (8, .int x8), (9, .int x9), (10, .int x10), (11, .int x11), (12, .int x12)]) cx.1 cx.2.1 dL_rounds_183 hl (by decide) rfl (fun ls hl => ?_)
        refine lv_aload_n cx.1 cx.2.1 dL_rounds_185 rfl (lv_at hl 1 rfl) ?_
        refine lv_bipush (v := (9 : Int32)) cx.1 cx.2.1 dL_rounds_186 (by decide) ?_
        obtain ⟨v_32, S_33, hv, hf⟩ := gbs_some hf
        refine a_SW (As := [.ref (G.2.1 0), .int (9 : Int32)]) (rest := []) cx hX hZ hw hS (a_tryAbout l hst G (9 : Int32) S_30 v_32 S_33 hv) gw_185 gw_187 gyw_L_tryAbout ⟨by decide, by decide⟩ ⟨Nat.le_of_ble_eq_true rfl, Nat.le_of_ble_eq_true rfl⟩ (show cells + 1 + 1 ≤ 18430 ∧ slots + 6 + 6 ≤ 110580 from ⟨by omega, by omega⟩) rfl hl.1 rfl (Nat.le_of_ble_eq_true rfl) dL_rounds_188 (fun H locs hw hS => ?_)
        refine W.eq (g2 := F0 m 191 ls [.int v_32]) rfl ?_
        refine lv_istore (lv' := [(14, .int v_32), (13, .int x13_31), (0, .ref (G.2.1 0)), (1, .int x1), (3, .int x3), (4, .int x4), (5, .int x5), (6, .int x6), (8, .int x8), (9, .int x9), (10, .int x10), (11, .int x11), (12, .int x12)]) cx.1 cx.2.1 dL_rounds_191 hl (by decide) rfl (fun ls hl => ?_)
        refine lv_aload_n cx.1 cx.2.1 dL_rounds_193 rfl (lv_at hl 2 rfl) ?_
        obtain ⟨v_34, S_35, hv, hf⟩ := gbs_some hf
        refine a_V (As := []) (rest := []) cx hX hZ hw hS (a_X10_endRound l hst G S_33 v_34 S_35 hv) rfl gw_867 gy_X10_endRound gi_X10_endRound ⟨Nat.le_of_ble_eq_true rfl, Nat.le_of_ble_eq_true rfl⟩ (show cells + 1 + 1 + 0 ≤ 18430 ∧ slots + 6 + 6 + 0 ≤ 110580 from ⟨by omega, by omega⟩) rfl hl.1 rfl (Nat.le_of_ble_eq_true rfl) dL_rounds_194 (fun H locs hw hS => ?_)
        refine W.eq (g2 := F0 m 197 ls [.int v_34]) rfl ?_
        refine lv_istore (lv' := [(15, .int v_34), (14, .int v_32), (13, .int x13_31), (0, .ref (G.2.1 0)), (1, .int x1), (3, .int x3), (4, .int x4), (5, .int x5), (6, .int x6), (8, .int x8), (9, .int x9), (10, .int x10), (11, .int x11), (12, .int x12)]) cx.1 cx.2.1 dL_rounds_197 hl (by decide) rfl (fun ls hl => ?_)
        refine lv_iload cx.1 cx.2.1 dL_rounds_199 (lv_at hl 2 rfl) ?_
        refine lv_if_ge (tgt := 208) cx.1 cx.2.1 dL_rounds_201 (by decide) (fun hc => ?_) (fun hc => ?_)
        · rw [if_pos hc] at hf
          refine lv_iconst (v := (0 : Int32)) cx.1 cx.2.1 dL_rounds_208 (by decide) ?_
          exact hB_209 K52 n_52 hK52 S_35 x1 x3 x4 x5 x6 x8 x10 x13_31 v_32 v_34 (0 : Int32) _ _ _ _ _ (by omega) (by omega) hw hS (lv_sub hl [3, 4, 5, 6, 7, 8, 9, 11, 2, 1, 0] rfl) hf
        · rw [if_neg hc] at hf
          refine lv_iconst (v := (1 : Int32)) cx.1 cx.2.1 dL_rounds_204 (by decide) ?_
          refine lv_goto (tgt := 209) cx.1 cx.2.1 dL_rounds_205 (by decide) ?_
          exact hB_209 K52 n_52 hK52 S_35 x1 x3 x4 x5 x6 x8 x10 x13_31 v_32 v_34 (1 : Int32) _ _ _ _ _ (by omega) (by omega) hw hS (lv_sub hl [3, 4, 5, 6, 7, 8, 9, 11, 2, 1, 0] rfl) hf
      · rw [if_neg hc] at hf
        refine lv_iload cx.1 cx.2.1 dL_rounds_138 (lv_at hl 10 rfl) ?_
        refine lv_aload_n cx.1 cx.2.1 dL_rounds_140 rfl (lv_at hl 0 rfl) ?_
        refine lv_iload cx.1 cx.2.1 dL_rounds_141 (lv_at hl 11 rfl) ?_
        refine lv_iconst (v := (4 : Int32)) cx.1 cx.2.1 dL_rounds_143 (by decide) ?_
        obtain ⟨v_36, S_37, hv, hf⟩ := gbs_some hf
        refine a_SW (As := [.ref (G.2.1 0), .int x13, .int (4 : Int32)]) (rest := [.int x12]) cx hX hZ hw hS (a_tryContract l hst G x13 (4 : Int32) S_30 v_36 S_37 hv) gw_416 gw_187 gyw_L_tryContract ⟨by decide, by decide⟩ ⟨Nat.le_of_ble_eq_true rfl, Nat.le_of_ble_eq_true rfl⟩ (show cells + 1 + 2 ≤ 18430 ∧ slots + 6 + 12 ≤ 110580 from ⟨by omega, by omega⟩) rfl hl.1 rfl (Nat.le_of_ble_eq_true rfl) dL_rounds_144 (fun H locs hw hS => ?_)
        refine W.eq (g2 := F0 m 147 ls [.int v_36, .int x12]) rfl ?_
        refine lv_iload_n cx.1 cx.2.1 dL_rounds_147 rfl (lv_at hl 1 rfl) ?_
        refine lv_icmp_ne (tgt := 165) cx.1 cx.2.1 dL_rounds_148 (by decide) (fun hc => ?_) (fun hc => ?_)
        · rw [if_neg hc] at hf
          refine lv_iconst (v := (0 : Int32)) cx.1 cx.2.1 dL_rounds_165 (by decide) ?_
          exact hB_166 K52 n_52 hK52 (L_rounds_128 K52 n_128) n_128 hK128 S_37 x1 x3 x4 x5 x6 x8 x9 x10 x11 x13 (0 : Int32) x12 _ _ _ _ _ (by omega) (by omega) hw hS (lv_sub hl [0, 1, 2, 3, 4, 5, 6, 7, 8, 9, 11] rfl) hf
        · rw [if_pos hc] at hf
          refine lv_aload_n cx.1 cx.2.1 dL_rounds_151 rfl (lv_at hl 0 rfl) ?_
          refine lv_iload cx.1 cx.2.1 dL_rounds_152 (lv_at hl 11 rfl) ?_
          refine lv_iconst (v := (5 : Int32)) cx.1 cx.2.1 dL_rounds_154 (by decide) ?_
          obtain ⟨v_38, S_39, hv, hf⟩ := gbs_some hf
          refine a_SW (As := [.ref (G.2.1 0), .int x13, .int (5 : Int32)]) (rest := [.int x12]) cx hX hZ hw hS (a_tryContract l hst G x13 (5 : Int32) S_37 v_38 S_39 hv) gw_416 gw_187 gyw_L_tryContract ⟨by decide, by decide⟩ ⟨Nat.le_of_ble_eq_true rfl, Nat.le_of_ble_eq_true rfl⟩ (show cells + 1 + 2 + 2 ≤ 18430 ∧ slots + 6 + 12 + 12 ≤ 110580 from ⟨by omega, by omega⟩) rfl hl.1 rfl (Nat.le_of_ble_eq_true rfl) dL_rounds_155 (fun H locs hw hS => ?_)
          refine W.eq (g2 := F0 m 158 ls [.int v_38, .int x12]) rfl ?_
          refine lv_if_ne (tgt := 165) cx.1 cx.2.1 dL_rounds_158 (by decide) (fun hc => ?_) (fun hc => ?_)
          · rw [if_neg hc] at hf
            refine lv_iconst (v := (0 : Int32)) cx.1 cx.2.1 dL_rounds_165 (by decide) ?_
            exact hB_166 K52 n_52 hK52 (L_rounds_128 K52 n_128) n_128 hK128 S_39 x1 x3 x4 x5 x6 x8 x9 x10 x11 x13 (0 : Int32) x12 _ _ _ _ _ (by omega) (by omega) hw hS (lv_sub hl [0, 1, 2, 3, 4, 5, 6, 7, 8, 9, 11] rfl) hf
          · rw [if_pos hc] at hf
            refine lv_iconst (v := (5 : Int32)) cx.1 cx.2.1 dL_rounds_161 (by decide) ?_
            refine lv_goto (tgt := 166) cx.1 cx.2.1 dL_rounds_162 (by decide) ?_
            exact hB_166 K52 n_52 hK52 (L_rounds_128 K52 n_128) n_128 hK128 S_39 x1 x3 x4 x5 x6 x8 x9 x10 x11 x13 (5 : Int32) x12 _ _ _ _ _ (by omega) (by omega) hw hS (lv_sub hl [0, 1, 2, 3, 4, 5, 6, 7, 8, 9, 11] rfl) hf
  have hL_92 : ∀ (K52 : At → Int32 → Int32 → Int32 → Int32 → Int32 → Int32 → Int32 → Option (Int32 × At)) (n_52 : Nat) (hK52 : ∀ (S : At) (x1 : Int32) (x3 : Int32) (x4 : Int32) (x5 : Int32) (x6 : Int32) (x7 : Int32) (x8 : Int32) (H : Heap) (locs : List Loc) (ls : Array Slot) (cells slots : Nat), cells + (2 + 1417 * n_52) ≤ 18430 → slots + (12 + 8502 * n_52) ≤ 110580 → gPA G S H → va_S (gAr (gNo G) s.heap.size) s.heap H locs → lv_has ls 18 [(0, .ref (G.2.1 0)), (1, .int x1), (3, .int x3), (4, .int x4), (5, .int x5), (6, .int x6), (7, .int x7), (8, .int x8)] → K52 S x1 x3 x4 x5 x6 x7 x8 = some (r, S') → W p l e (gRx 11 210 18430 110580) s m ([.ref (G.2.1 0), .int a1, .int a2, .int a3] : List Value).toArray below meth c H locs cells slots (MQ below (gQr (gPA G S') (some (.int r)) (gAr (gNo G) s.heap.size)) ([.ref (G.2.1 0), .int a1, .int a2, .int a3] : List Value).toArray s 18430 110580 (gAr (gNo G) s.heap.size)) (F0 m 52 ls [])), ∀ (n : Nat), ∀ (S : At) (x1 : Int32) (x3 : Int32) (x4 : Int32) (x5 : Int32) (x6 : Int32) (x8 : Int32) (x9 : Int32) (x10 : Int32) (x11 : Int32) (x12 : Int32) (H : Heap) (locs : List Loc) (ls : Array Slot) (cells slots : Nat), cells + (1388 + 5 * n + 1417 * n_52) ≤ 18430 → slots + (8328 + 30 * n + 8502 * n_52) ≤ 110580 → gPA G S H → va_S (gAr (gNo G) s.heap.size) s.heap H locs → lv_has ls 18 [(0, .ref (G.2.1 0)), (1, .int x1), (3, .int x3), (4, .int x4), (5, .int x5), (6, .int x6), (8, .int x8), (9, .int x9), (10, .int x10), (11, .int x11), (12, .int x12)] → L_rounds_92 K52 n S x1 x3 x4 x5 x6 x8 x9 x10 x11 x12 = some (r, S') → W p l e (gRx 11 210 18430 110580) s m ([.ref (G.2.1 0), .int a1, .int a2, .int a3] : List Value).toArray below meth c H locs cells slots (MQ below (gQr (gPA G S') (some (.int r)) (gAr (gNo G) s.heap.size)) ([.ref (G.2.1 0), .int a1, .int a2, .int a3] : List Value).toArray s 18430 110580 (gAr (gNo G) s.heap.size)) (F0 m 92 ls []) := by
    intro K52 n_52 hK52 n_92
    induction n_92 with
    | zero => intro S x1 x3 x4 x5 x6 x8 x9 x10 x11 x12 H locs ls cells slots hcl hsl hw hS hl hf; cases hf
    | succ n_92 hK92 =>
      intro S x1 x3 x4 x5 x6 x8 x9 x10 x11 x12 H locs ls cells slots hcl hsl hw hS hl hf
      have hf : Lb_rounds_92 K52 (L_rounds_92 K52 n_92) S x1 x3 x4 x5 x6 x8 x9 x10 x11 x12 = some (r, S') := hf
      unfold Lb_rounds_92 at hf
      refine lv_iload cx.1 cx.2.1 dL_rounds_92 (lv_at hl 10 rfl) ?_
      refine lv_aload_n cx.1 cx.2.1 dL_rounds_94 rfl (lv_at hl 0 rfl) ?_
      refine lv_iload_n cx.1 cx.2.1 dL_rounds_95 rfl (lv_at hl 1 rfl) ?_
      refine lv_iconst (v := (2 : Int32)) cx.1 cx.2.1 dL_rounds_96 (by decide) ?_
      obtain ⟨v_40, S_41, hv, hf⟩ := gbs_some hf
      refine a_SW (As := [.ref (G.2.1 0), .int x1, .int (2 : Int32)]) (rest := [.int x12]) cx hX hZ hw hS (a_tryCompany l hst G x1 (2 : Int32) S v_40 S_41 hv) gw_349 gw_187 gyw_L_tryCompany ⟨by decide, by decide⟩ ⟨Nat.le_of_ble_eq_true rfl, Nat.le_of_ble_eq_true rfl⟩ (show cells + 2 ≤ 18430 ∧ slots + 12 ≤ 110580 from ⟨by omega, by omega⟩) rfl hl.1 rfl (Nat.le_of_ble_eq_true rfl) dL_rounds_97 (fun H locs hw hS => ?_)
      refine W.eq (g2 := F0 m 100 ls [.int v_40, .int x12]) rfl ?_
      refine lv_icmp_ge (tgt := 122) cx.1 cx.2.1 dL_rounds_100 (by decide) (fun hc => ?_) (fun hc => ?_)
      · rw [if_pos hc] at hf
        refine lv_iconst (v := (0 : Int32)) cx.1 cx.2.1 dL_rounds_122 (by decide) ?_
        refine lv_istore (lv' := [(12, .int (0 : Int32)), (0, .ref (G.2.1 0)), (1, .int x1), (3, .int x3), (4, .int x4), (5, .int x5), (6, .int x6), (8, .int x8), (9, .int x9), (10, .int x10), (11, .int x11)]) cx.1 cx.2.1 dL_rounds_123 hl (by decide) rfl (fun ls hl => ?_)
        refine lv_iconst (v := (0 : Int32)) cx.1 cx.2.1 dL_rounds_125 (by decide) ?_
        refine lv_istore (lv' := [(13, .int (0 : Int32)), (12, .int (0 : Int32)), (0, .ref (G.2.1 0)), (1, .int x1), (3, .int x3), (4, .int x4), (5, .int x5), (6, .int x6), (8, .int x8), (9, .int x9), (10, .int x10), (11, .int x11)]) cx.1 cx.2.1 dL_rounds_126 hl (by decide) rfl (fun ls hl => ?_)
        exact hL_128 K52 n_52 hK52 9 S_41 x1 x3 x4 x5 x6 x8 x9 x10 x11 (0 : Int32) (0 : Int32) _ _ _ _ _ (by omega) (by omega) hw hS (lv_sub hl [2, 3, 4, 5, 6, 7, 8, 9, 10, 11, 1, 0] rfl) hf
      · rw [if_neg hc] at hf
        refine lv_iload cx.1 cx.2.1 dL_rounds_103 (lv_at hl 9 rfl) ?_
        refine lv_aload_n cx.1 cx.2.1 dL_rounds_105 rfl (lv_at hl 0 rfl) ?_
        refine lv_iload_n cx.1 cx.2.1 dL_rounds_106 rfl (lv_at hl 1 rfl) ?_
        refine lv_iload cx.1 cx.2.1 dL_rounds_107 (lv_at hl 10 rfl) ?_
        refine lv_iconst (v := (0 : Int32)) cx.1 cx.2.1 dL_rounds_109 (by decide) ?_
        obtain ⟨v_42, S_43, hv, hf⟩ := gbs_some hf
        refine a_SW (As := [.ref (G.2.1 0), .int x1, .int x12, .int (0 : Int32)]) (rest := [.int x11]) cx hX hZ hw hS (a_tryTrain l hst G x1 x12 (0 : Int32) S_41 v_42 S_43 hv) gw_389 gw_187 gyw_L_tryTrain ⟨by decide, by decide⟩ ⟨Nat.le_of_ble_eq_true rfl, Nat.le_of_ble_eq_true rfl⟩ (show cells + 2 + 3 ≤ 18430 ∧ slots + 12 + 18 ≤ 110580 from ⟨by omega, by omega⟩) rfl hl.1 rfl (Nat.le_of_ble_eq_true rfl) dL_rounds_110 (fun H locs hw hS => ?_)
        refine W.eq (g2 := F0 m 113 ls [.int v_42, .int x11]) rfl ?_
        refine lv_iadd cx.1 cx.2.1 dL_rounds_113 ?_
        obtain ⟨x11_44, ex11_44, hf⟩ := gvi_ex hf
        refine W.eq (g2 := F0 m 114 ls [.int x11_44]) (by rw [← ex11_44]) ?_
        refine lv_istore (lv' := [(11, .int x11_44), (0, .ref (G.2.1 0)), (1, .int x1), (3, .int x3), (4, .int x4), (5, .int x5), (6, .int x6), (8, .int x8), (9, .int x9), (10, .int x10), (12, .int x12)]) cx.1 cx.2.1 dL_rounds_114 hl (by decide) rfl (fun ls hl => ?_)
        obtain ⟨x12_45, ex12_45, hf⟩ := gvi_ex hf
        refine lv_iinc (v := x12_45) (lv' := [(12, .int x12_45), (11, .int x11_44), (0, .ref (G.2.1 0)), (1, .int x1), (3, .int x3), (4, .int x4), (5, .int x5), (6, .int x6), (8, .int x8), (9, .int x9), (10, .int x10)]) cx.1 cx.2.1 dL_rounds_116 hl (k := 10) rfl (by rw [← ex12_45]; rfl) (by decide) rfl (fun ls hl => ?_)
        refine lv_goto (tgt := 92) cx.1 cx.2.1 dL_rounds_119 (by decide) ?_
        exact hK92 S_43 x1 x3 x4 x5 x6 x8 x9 x10 x11_44 x12_45 _ _ _ _ _ (by omega) (by omega) hw hS (lv_sub hl [2, 3, 4, 5, 6, 7, 8, 9, 10, 1, 0] rfl) hf
  have hL_52 : ∀ (n : Nat), ∀ (S : At) (x1 : Int32) (x3 : Int32) (x4 : Int32) (x5 : Int32) (x6 : Int32) (x7 : Int32) (x8 : Int32) (H : Heap) (locs : List Loc) (ls : Array Slot) (cells slots : Nat), cells + (2 + 1417 * n) ≤ 18430 → slots + (12 + 8502 * n) ≤ 110580 → gPA G S H → va_S (gAr (gNo G) s.heap.size) s.heap H locs → lv_has ls 18 [(0, .ref (G.2.1 0)), (1, .int x1), (3, .int x3), (4, .int x4), (5, .int x5), (6, .int x6), (7, .int x7), (8, .int x8)] → L_rounds_52 n S x1 x3 x4 x5 x6 x7 x8 = some (r, S') → W p l e (gRx 11 210 18430 110580) s m ([.ref (G.2.1 0), .int a1, .int a2, .int a3] : List Value).toArray below meth c H locs cells slots (MQ below (gQr (gPA G S') (some (.int r)) (gAr (gNo G) s.heap.size)) ([.ref (G.2.1 0), .int a1, .int a2, .int a3] : List Value).toArray s 18430 110580 (gAr (gNo G) s.heap.size)) (F0 m 52 ls []) := by
    intro n_52
    induction n_52 with
    | zero => intro S x1 x3 x4 x5 x6 x7 x8 H locs ls cells slots hcl hsl hw hS hl hf; cases hf
    | succ n_52 hK52 =>
      intro S x1 x3 x4 x5 x6 x7 x8 H locs ls cells slots hcl hsl hw hS hl hf
      have hf : Lb_rounds_52 (L_rounds_52 n_52) S x1 x3 x4 x5 x6 x7 x8 = some (r, S') := hf
      unfold Lb_rounds_52 at hf
      refine lv_iload cx.1 cx.2.1 dL_rounds_52 (lv_at hl 7 rfl) ?_
      refine lv_iload cx.1 cx.2.1 dL_rounds_54 (lv_at hl 3 rfl) ?_
      refine lv_icmp_gt (tgt := 406) cx.1 cx.2.1 dL_rounds_56 (by decide) (fun hc => ?_) (fun hc => ?_)
      · rw [if_pos hc] at hf
        exact hB_406 S x1 x5 x7 _ _ _ _ _ (by omega) (by omega) hw hS (lv_sub hl [0, 1, 4, 6] rfl) hf
      · rw [if_neg hc] at hf
        refine lv_iload cx.1 cx.2.1 dL_rounds_59 (lv_at hl 6 rfl) ?_
        refine lv_if_eq (tgt := 406) cx.1 cx.2.1 dL_rounds_61 (by decide) (fun hc => ?_) (fun hc => ?_)
        · rw [if_pos hc] at hf
          exact hB_406 S x1 x5 x7 _ _ _ _ _ (by omega) (by omega) hw hS (lv_sub hl [0, 1, 4, 6] rfl) hf
        · rw [if_neg hc] at hf
          refine lv_aload_n cx.1 cx.2.1 dL_rounds_64 rfl (lv_at hl 0 rfl) ?_
          refine lv_iload_n cx.1 cx.2.1 dL_rounds_65 rfl (lv_at hl 1 rfl) ?_
          refine lv_iconst (v := (0 : Int32)) cx.1 cx.2.1 dL_rounds_66 (by decide) ?_
          obtain ⟨v_46, S_47, hv, hf⟩ := gbs_some hf
          refine a_SW (As := [.ref (G.2.1 0), .int x1, .int (0 : Int32)]) (rest := []) cx hX hZ hw hS (a_tryCompany l hst G x1 (0 : Int32) S v_46 S_47 hv) gw_349 gw_187 gyw_L_tryCompany ⟨by decide, by decide⟩ ⟨Nat.le_of_ble_eq_true rfl, Nat.le_of_ble_eq_true rfl⟩ (show cells + 2 ≤ 18430 ∧ slots + 12 ≤ 110580 from ⟨by omega, by omega⟩) rfl hl.1 rfl (Nat.le_of_ble_eq_true rfl) dL_rounds_67 (fun H locs hw hS => ?_)
          refine W.eq (g2 := F0 m 70 ls [.int v_46]) rfl ?_
          refine lv_istore (lv' := [(9, .int v_46), (0, .ref (G.2.1 0)), (1, .int x1), (3, .int x3), (4, .int x4), (5, .int x5), (6, .int x6), (7, .int x7), (8, .int x8)]) cx.1 cx.2.1 dL_rounds_70 hl (by decide) rfl (fun ls hl => ?_)
          refine lv_aload_n cx.1 cx.2.1 dL_rounds_72 rfl (lv_at hl 1 rfl) ?_
          refine lv_iload_n cx.1 cx.2.1 dL_rounds_73 rfl (lv_at hl 2 rfl) ?_
          refine lv_bipush (v := (6 : Int32)) cx.1 cx.2.1 dL_rounds_74 (by decide) ?_
          obtain ⟨v_48, S_49, hv, hf⟩ := gbs_some hf
          refine a_SW (As := [.ref (G.2.1 0), .int x1, .int (6 : Int32)]) (rest := []) cx hX hZ hw hS (a_tryCompany l hst G x1 (6 : Int32) S_47 v_48 S_49 hv) gw_349 gw_187 gyw_L_tryCompany ⟨by decide, by decide⟩ ⟨Nat.le_of_ble_eq_true rfl, Nat.le_of_ble_eq_true rfl⟩ (show cells + 2 + 2 ≤ 18430 ∧ slots + 12 + 12 ≤ 110580 from ⟨by omega, by omega⟩) rfl hl.1 rfl (Nat.le_of_ble_eq_true rfl) dL_rounds_76 (fun H locs hw hS => ?_)
          refine W.eq (g2 := F0 m 79 ls [.int v_48]) rfl ?_
          refine lv_istore (lv' := [(10, .int v_48), (9, .int v_46), (0, .ref (G.2.1 0)), (1, .int x1), (3, .int x3), (4, .int x4), (5, .int x5), (6, .int x6), (7, .int x7), (8, .int x8)]) cx.1 cx.2.1 dL_rounds_79 hl (by decide) rfl (fun ls hl => ?_)
          refine lv_aload_n cx.1 cx.2.1 dL_rounds_81 rfl (lv_at hl 2 rfl) ?_
          refine lv_iload_n cx.1 cx.2.1 dL_rounds_82 rfl (lv_at hl 3 rfl) ?_
          refine lv_iconst (v := (3 : Int32)) cx.1 cx.2.1 dL_rounds_83 (by decide) ?_
          obtain ⟨v_50, S_51, hv, hf⟩ := gbs_some hf
          refine a_SW (As := [.ref (G.2.1 0), .int x1, .int (3 : Int32)]) (rest := []) cx hX hZ hw hS (a_tryCompany l hst G x1 (3 : Int32) S_49 v_50 S_51 hv) gw_349 gw_187 gyw_L_tryCompany ⟨by decide, by decide⟩ ⟨Nat.le_of_ble_eq_true rfl, Nat.le_of_ble_eq_true rfl⟩ (show cells + 2 + 2 + 2 ≤ 18430 ∧ slots + 12 + 12 + 12 ≤ 110580 from ⟨by omega, by omega⟩) rfl hl.1 rfl (Nat.le_of_ble_eq_true rfl) dL_rounds_84 (fun H locs hw hS => ?_)
          refine W.eq (g2 := F0 m 87 ls [.int v_50]) rfl ?_
          refine lv_istore (lv' := [(11, .int v_50), (10, .int v_48), (9, .int v_46), (0, .ref (G.2.1 0)), (1, .int x1), (3, .int x3), (4, .int x4), (5, .int x5), (6, .int x6), (7, .int x7), (8, .int x8)]) cx.1 cx.2.1 dL_rounds_87 hl (by decide) rfl (fun ls hl => ?_)
          refine lv_iconst (v := (0 : Int32)) cx.1 cx.2.1 dL_rounds_89 (by decide) ?_
          refine lv_istore (lv' := [(12, .int (0 : Int32)), (11, .int v_50), (10, .int v_48), (9, .int v_46), (0, .ref (G.2.1 0)), (1, .int x1), (3, .int x3), (4, .int x4), (5, .int x5), (6, .int x6), (7, .int x7), (8, .int x8)]) cx.1 cx.2.1 dL_rounds_90 hl (by decide) rfl (fun ls hl => ?_)
          exact hL_92 (L_rounds_52 n_52) n_52 hK52 5 S_51 x1 x3 x4 x5 x6 x8 v_46 v_48 v_50 (0 : Int32) _ _ _ _ _ (by omega) (by omega) hw hS (lv_sub hl [4, 5, 6, 7, 8, 9, 11, 3, 2, 1, 0] rfl) hf
  have hl : lv_has ls 18 [(0, .ref (G.2.1 0)), (1, .int a1), (2, .int a2), (3, .int a3)] := hl
  unfold h_rounds at hf
  refine lv_iconst (v := (1 : Int32)) cx.1 cx.2.1 dL_rounds_0 (by decide) ?_
  refine lv_iload_n cx.1 cx.2.1 dL_rounds_1 rfl (lv_at hl 2 rfl) ?_
  refine lv_bipush (v := (32 : Int32)) cx.1 cx.2.1 dL_rounds_2 (by decide) ?_
  refine lv_idiv cx.1 cx.2.1 dL_rounds_4 (by decide) ?_
  refine lv_bipush (v := (12 : Int32)) cx.1 cx.2.1 dL_rounds_5 (by decide) ?_
  refine lv_irem cx.1 cx.2.1 dL_rounds_7 (by decide) ?_
  refine lv_iadd cx.1 cx.2.1 dL_rounds_8 ?_
  obtain ⟨x4_52, ex4_52, hf⟩ := gvi_ex hf
  refine W.eq (g2 := F0 m 9 ls [.int x4_52]) (by rw [← ex4_52]) ?_
  refine lv_istore (lv' := [(4, .int x4_52), (0, .ref (G.2.1 0)), (1, .int a1), (2, .int a2), (3, .int a3)]) cx.1 cx.2.1 dL_rounds_9 hl (by decide) rfl (fun ls hl => ?_)
  refine lv_aload_n cx.1 cx.2.1 dL_rounds_11 rfl (lv_at hl 1 rfl) ?_
  refine lv_iload_n cx.1 cx.2.1 dL_rounds_12 rfl (lv_at hl 2 rfl) ?_
  refine lv_iload cx.1 cx.2.1 dL_rounds_13 (lv_at hl 0 rfl) ?_
  obtain ⟨v_53, S_54, hv, hf⟩ := gbs_some hf
  refine a_SW (As := [.ref (G.2.1 0), .int a1, .int x4_52]) (rest := []) cx hX hZ hw hS (a_tryCoinsAfter l hst G a1 x4_52 S v_53 S_54 hv) gw_615 gw_187 gyw_L_tryCoinsAfter ⟨by decide, by decide⟩ ⟨Nat.le_of_ble_eq_true rfl, Nat.le_of_ble_eq_true rfl⟩ (show 0 + 2 ≤ 18430 ∧ 0 + 12 ≤ 110580 from ⟨by omega, by omega⟩) rfl hl.1 rfl (Nat.le_of_ble_eq_true rfl) dL_rounds_15 (fun H locs hw hS => ?_)
  refine W.eq (g2 := F0 m 18 ls [.int v_53]) rfl ?_
  refine lv_istore (lv' := [(5, .int v_53), (4, .int x4_52), (0, .ref (G.2.1 0)), (1, .int a1), (2, .int a2), (3, .int a3)]) cx.1 cx.2.1 dL_rounds_18 hl (by decide) rfl (fun ls hl => ?_)
  refine lv_aload_n cx.1 cx.2.1 dL_rounds_20 rfl (lv_at hl 2 rfl) ?_
  refine lv_iload_n cx.1 cx.2.1 dL_rounds_21 rfl (lv_at hl 3 rfl) ?_
  obtain ⟨v_55, S_56, hv, hf⟩ := gbs_some hf
  refine a_SW (As := [.ref (G.2.1 0), .int a1]) (rest := []) cx hX hZ hw hS (a_tryBankruptAfter l hst G a1 S_54 v_55 S_56 hv) gw_668 gw_187 gyw_L_tryBankruptAfter ⟨by decide, by decide⟩ ⟨Nat.le_of_ble_eq_true rfl, Nat.le_of_ble_eq_true rfl⟩ (show 0 + 2 + 1 ≤ 18430 ∧ 0 + 12 + 6 ≤ 110580 from ⟨by omega, by omega⟩) rfl hl.1 rfl (Nat.le_of_ble_eq_true rfl) dL_rounds_22 (fun H locs hw hS => ?_)
  refine W.eq (g2 := F0 m 25 ls [.int v_55]) rfl ?_
  refine lv_istore (lv' := [(6, .int v_55), (5, .int v_53), (4, .int x4_52), (0, .ref (G.2.1 0)), (1, .int a1), (2, .int a2), (3, .int a3)]) cx.1 cx.2.1 dL_rounds_25 hl (by decide) rfl (fun ls hl => ?_)
  refine lv_aload_n cx.1 cx.2.1 dL_rounds_27 rfl (lv_at hl 3 rfl) ?_
  refine lv_iload_n cx.1 cx.2.1 dL_rounds_28 rfl (lv_at hl 4 rfl) ?_
  refine lv_iconst (v := (0 : Int32)) cx.1 cx.2.1 dL_rounds_29 (by decide) ?_
  obtain ⟨v_57, S_58, hv, hf⟩ := gbs_some hf
  refine a_SW (As := [.ref (G.2.1 0), .int a1, .int (0 : Int32)]) (rest := []) cx hX hZ hw hS (a_tryCoinsAfter l hst G a1 (0 : Int32) S_56 v_57 S_58 hv) gw_615 gw_187 gyw_L_tryCoinsAfter ⟨by decide, by decide⟩ ⟨Nat.le_of_ble_eq_true rfl, Nat.le_of_ble_eq_true rfl⟩ (show 0 + 2 + 1 + 2 ≤ 18430 ∧ 0 + 12 + 6 + 12 ≤ 110580 from ⟨by omega, by omega⟩) rfl hl.1 rfl (Nat.le_of_ble_eq_true rfl) dL_rounds_30 (fun H locs hw hS => ?_)
  refine W.eq (g2 := F0 m 33 ls [.int v_57]) rfl ?_
  refine lv_aload_n cx.1 cx.2.1 dL_rounds_33 rfl (lv_at hl 3 rfl) ?_
  refine lv_iload_n cx.1 cx.2.1 dL_rounds_34 rfl (lv_at hl 4 rfl) ?_
  refine lv_iconst (v := (0 : Int32)) cx.1 cx.2.1 dL_rounds_35 (by decide) ?_
  obtain ⟨v_59, S_60, hv, hf⟩ := gbs_some hf
  refine a_SW (As := [.ref (G.2.1 0), .int a1, .int (0 : Int32)]) (rest := [.int v_57]) cx hX hZ hw hS (a_tryCompany l hst G a1 (0 : Int32) S_58 v_59 S_60 hv) gw_349 gw_187 gyw_L_tryCompany ⟨by decide, by decide⟩ ⟨Nat.le_of_ble_eq_true rfl, Nat.le_of_ble_eq_true rfl⟩ (show 0 + 2 + 1 + 2 + 2 ≤ 18430 ∧ 0 + 12 + 6 + 12 + 12 ≤ 110580 from ⟨by omega, by omega⟩) rfl hl.1 rfl (Nat.le_of_ble_eq_true rfl) dL_rounds_36 (fun H locs hw hS => ?_)
  refine W.eq (g2 := F0 m 39 ls [.int v_59, .int v_57]) rfl ?_
  refine lv_icmp_ne (tgt := 46) cx.1 cx.2.1 dL_rounds_39 (by decide) (fun hc => ?_) (fun hc => ?_)
  · rw [if_neg hc] at hf
    refine lv_iconst (v := (0 : Int32)) cx.1 cx.2.1 dL_rounds_46 (by decide) ?_
    refine lv_istore (lv' := [(7, .int (0 : Int32)), (6, .int v_55), (5, .int v_53), (4, .int x4_52), (0, .ref (G.2.1 0)), (1, .int a1), (2, .int a2), (3, .int a3)]) cx.1 cx.2.1 dL_rounds_47 hl (by decide) rfl (fun ls hl => ?_)
    refine lv_iconst (v := (1 : Int32)) cx.1 cx.2.1 dL_rounds_49 (by decide) ?_
    refine lv_istore (lv' := [(8, .int (1 : Int32)), (7, .int (0 : Int32)), (6, .int v_55), (5, .int v_53), (4, .int x4_52), (0, .ref (G.2.1 0)), (1, .int a1), (2, .int a2), (3, .int a3)]) cx.1 cx.2.1 dL_rounds_50 hl (by decide) rfl (fun ls hl => ?_)
    exact hL_52 13 S_60 a1 a3 x4_52 v_53 v_55 (0 : Int32) (1 : Int32) _ _ _ _ _ (by omega) (by omega) hw hS (lv_sub hl [5, 6, 8, 4, 3, 2, 1, 0] rfl) hf
  · rw [if_pos hc] at hf
    refine lv_iconst (v := (1 : Int32)) cx.1 cx.2.1 dL_rounds_42 (by decide) ?_
    refine lv_goto (tgt := 47) cx.1 cx.2.1 dL_rounds_43 (by decide) ?_
    refine lv_istore (lv' := [(7, .int (1 : Int32)), (6, .int v_55), (5, .int v_53), (4, .int x4_52), (0, .ref (G.2.1 0)), (1, .int a1), (2, .int a2), (3, .int a3)]) cx.1 cx.2.1 dL_rounds_47 hl (by decide) rfl (fun ls hl => ?_)
    refine lv_iconst (v := (1 : Int32)) cx.1 cx.2.1 dL_rounds_49 (by decide) ?_
    refine lv_istore (lv' := [(8, .int (1 : Int32)), (7, .int (1 : Int32)), (6, .int v_55), (5, .int v_53), (4, .int x4_52), (0, .ref (G.2.1 0)), (1, .int a1), (2, .int a2), (3, .int a3)]) cx.1 cx.2.1 dL_rounds_50 hl (by decide) rfl (fun ls hl => ?_)
    exact hL_52 13 S_60 a1 a3 x4_52 v_53 v_55 (1 : Int32) (1 : Int32) _ _ _ _ _ (by omega) (by omega) hw hS (lv_sub hl [5, 6, 8, 4, 3, 2, 1, 0] rfl) hf
set_option maxHeartbeats 8000000 in
set_option maxRecDepth 100000 in
theorem a_scripts (l : Launch) (hst : l.stackTraces = false) (G : gG) (a1 : Int32) (S : At) (r : Int32) (S' : At) (hf : h_scripts a1 S = some (r, S')) : gC l yL_scripts [Cond.code yL_scripts cL_scripts 12 (some .boolean)] (gRx 10 223 45 270) G (gNo G) E0 (gPA G S) [.ref (G.2.1 0), .int a1] (some (.int r)) (gPA G S') 45 270 := by
  refine gC_of (by decide) (Nat.le_of_ble_eq_true rfl) ?_
  intro p e s m below meth c ls cx hE hX hZ hr hlk hw hS hl
  have hN := cx.2.2.2.2.hN
  have hB_372 : ∀ (S : At) (x3 : Int64) (x5 : Int32) (H : Heap) (locs : List Loc) (ls : Array Slot) (cells slots : Nat), cells + (2) ≤ 45 → slots + (12) ≤ 270 → gPA G S H → va_S (gAr (gNo G) s.heap.size) s.heap H locs → lv_has ls 12 [(0, .ref (G.2.1 0)), (3, .long x3), (5, .int x5)] → B_scripts_372 S x3 x5 = some (r, S') → W p l e (gRx 10 223 45 270) s m ([.ref (G.2.1 0), .int a1] : List Value).toArray below meth c H locs cells slots (MQ below (gQr (gPA G S') (some (.int r)) (gAr (gNo G) s.heap.size)) ([.ref (G.2.1 0), .int a1] : List Value).toArray s 45 270 (gAr (gNo G) s.heap.size)) (F0 m 372 ls []) := by
    intro S x3 x5 H locs ls cells slots hcl hsl hw hS hl hf
    unfold B_scripts_372 at hf
    refine lv_iload cx.1 cx.2.1 dL_scripts_372 (lv_at hl 2 rfl) ?_
    refine lv_if_ge (tgt := 390) cx.1 cx.2.1 dL_scripts_374 (by decide) (fun hc => ?_) (fun hc => ?_)
    · rw [if_pos hc] at hf
      refine lv_iconst (v := (1 : Int32)) cx.1 cx.2.1 dL_scripts_390 (by decide) ?_
      refine lv_goto (tgt := 395) cx.1 cx.2.1 dL_scripts_391 (by decide) ?_
      exact al_zreti (P := (gPA G)) cx hr hlk hw hS (by decide) hf dL_scripts_395 (by omega) (by omega)
    · rw [if_neg hc] at hf
      refine lv_aload_n cx.1 cx.2.1 dL_scripts_377 rfl (lv_at hl 0 rfl) ?_
      refine lv_iconst (v := (1 : Int32)) cx.1 cx.2.1 dL_scripts_378 (by decide) ?_
      refine lv_ldc2 cx.1 cx.2.1 cx.2.2.2.1 (cx.2.2.2.2.ts _ gw_890) dL_scripts_379 ?_
      refine lv_lload_n cx.1 cx.2.1 dL_scripts_382 rfl (lv_at hl 1 rfl) ?_
      refine lv_ladd cx.1 cx.2.1 dL_scripts_383 ?_
      obtain ⟨v_1, S_2, hv, hf⟩ := gbs_some hf
      refine a_SW (As := [.ref (G.2.1 0), .int (1 : Int32), .long ((70000 : Int64) + x3)]) (rest := []) cx hX hZ hw hS (a_tryScript l hst G (1 : Int32) ((70000 : Int64) + x3) S v_1 S_2 hv) gw_690 gw_187 gyw_L_tryScript ⟨by decide, by decide⟩ ⟨Nat.le_of_ble_eq_true rfl, Nat.le_of_ble_eq_true rfl⟩ (show cells + 2 ≤ 45 ∧ slots + 12 ≤ 270 from ⟨by omega, by omega⟩) rfl hl.1 rfl (Nat.le_of_ble_eq_true rfl) dL_scripts_384 (fun H locs hw hS => ?_)
      refine W.eq (g2 := F0 m 387 ls [.int v_1]) rfl ?_
      refine lv_if_ne (tgt := 394) cx.1 cx.2.1 dL_scripts_387 (by decide) (fun hc => ?_) (fun hc => ?_)
      · rw [if_neg hc] at hf
        refine lv_iconst (v := (0 : Int32)) cx.1 cx.2.1 dL_scripts_394 (by decide) ?_
        exact al_zreti (P := (gPA G)) cx hr hlk hw hS (by decide) hf dL_scripts_395 (by omega) (by omega)
      · rw [if_pos hc] at hf
        refine lv_iconst (v := (1 : Int32)) cx.1 cx.2.1 dL_scripts_390 (by decide) ?_
        refine lv_goto (tgt := 395) cx.1 cx.2.1 dL_scripts_391 (by decide) ?_
        exact al_zreti (P := (gPA G)) cx hr hlk hw hS (by decide) hf dL_scripts_395 (by omega) (by omega)
  have hB_342 : ∀ (S : At) (x3 : Int64) (x5 : Int32) (H : Heap) (locs : List Loc) (ls : Array Slot) (cells slots : Nat), cells + (4) ≤ 45 → slots + (24) ≤ 270 → gPA G S H → va_S (gAr (gNo G) s.heap.size) s.heap H locs → lv_has ls 12 [(0, .ref (G.2.1 0)), (3, .long x3), (5, .int x5)] → B_scripts_342 S x3 x5 = some (r, S') → W p l e (gRx 10 223 45 270) s m ([.ref (G.2.1 0), .int a1] : List Value).toArray below meth c H locs cells slots (MQ below (gQr (gPA G S') (some (.int r)) (gAr (gNo G) s.heap.size)) ([.ref (G.2.1 0), .int a1] : List Value).toArray s 45 270 (gAr (gNo G) s.heap.size)) (F0 m 342 ls []) := by
    intro S x3 x5 H locs ls cells slots hcl hsl hw hS hl hf
    unfold B_scripts_342 at hf
    refine lv_iload cx.1 cx.2.1 dL_scripts_342 (lv_at hl 2 rfl) ?_
    refine lv_if_lt (tgt := 372) cx.1 cx.2.1 dL_scripts_344 (by decide) (fun hc => ?_) (fun hc => ?_)
    · rw [if_pos hc] at hf
      exact hB_372 S x3 x5 _ _ _ _ _ (by omega) (by omega) hw hS (lv_sub hl [0, 1, 2] rfl) hf
    · rw [if_neg hc] at hf
      refine lv_iload cx.1 cx.2.1 dL_scripts_347 (lv_at hl 2 rfl) ?_
      refine lv_sipush (v := (998 : Int32)) cx.1 cx.2.1 dL_scripts_349 (by decide) ?_
      refine lv_icmp_gt (tgt := 372) cx.1 cx.2.1 dL_scripts_352 (by decide) (fun hc => ?_) (fun hc => ?_)
      · rw [if_pos hc] at hf
        exact hB_372 S x3 x5 _ _ _ _ _ (by omega) (by omega) hw hS (lv_sub hl [0, 1, 2] rfl) hf
      · rw [if_neg hc] at hf
        refine lv_aload_n cx.1 cx.2.1 dL_scripts_355 rfl (lv_at hl 0 rfl) ?_
        refine lv_iconst (v := (1 : Int32)) cx.1 cx.2.1 dL_scripts_356 (by decide) ?_
        refine lv_ldc2 cx.1 cx.2.1 cx.2.2.2.1 (cx.2.2.2.2.ts _ gw_891) dL_scripts_357 ?_
        refine lv_lload_n cx.1 cx.2.1 dL_scripts_360 rfl (lv_at hl 1 rfl) ?_
        refine lv_ladd cx.1 cx.2.1 dL_scripts_361 ?_
        refine lv_iload cx.1 cx.2.1 dL_scripts_362 (lv_at hl 2 rfl) ?_
        refine lv_i2l cx.1 cx.2.1 dL_scripts_364 rfl ?_
        refine lv_ladd cx.1 cx.2.1 dL_scripts_365 ?_
        obtain ⟨v_3, S_4, hv, hf⟩ := gbs_some hf
        refine a_SW (As := [.ref (G.2.1 0), .int (1 : Int32), .long (((70001 : Int64) + x3) + x5.toInt64)]) (rest := []) cx hX hZ hw hS (a_tryScript l hst G (1 : Int32) (((70001 : Int64) + x3) + x5.toInt64) S v_3 S_4 hv) gw_690 gw_187 gyw_L_tryScript ⟨by decide, by decide⟩ ⟨Nat.le_of_ble_eq_true rfl, Nat.le_of_ble_eq_true rfl⟩ (show cells + 2 ≤ 45 ∧ slots + 12 ≤ 270 from ⟨by omega, by omega⟩) rfl hl.1 rfl (Nat.le_of_ble_eq_true rfl) dL_scripts_366 (fun H locs hw hS => ?_)
        refine W.eq (g2 := F0 m 369 ls [.int v_3]) rfl ?_
        refine lv_if_ne (tgt := 394) cx.1 cx.2.1 dL_scripts_369 (by decide) (fun hc => ?_) (fun hc => ?_)
        · rw [if_neg hc] at hf
          refine lv_iconst (v := (0 : Int32)) cx.1 cx.2.1 dL_scripts_394 (by decide) ?_
          exact al_zreti (P := (gPA G)) cx hr hlk hw hS (by decide) hf dL_scripts_395 (by omega) (by omega)
        · rw [if_pos hc] at hf
          exact hB_372 S_4 x3 x5 _ _ _ _ _ (by omega) (by omega) hw hS (lv_sub hl [0, 1, 2] rfl) hf
  have hB_303 : ∀ (S : At) (x3 : Int64) (x5 : Int32) (t0 : Int32) (H : Heap) (locs : List Loc) (ls : Array Slot) (cells slots : Nat), cells + (6) ≤ 45 → slots + (36) ≤ 270 → gPA G S H → va_S (gAr (gNo G) s.heap.size) s.heap H locs → lv_has ls 12 [(0, .ref (G.2.1 0)), (3, .long x3), (5, .int x5)] → B_scripts_303 S x3 x5 t0 = some (r, S') → W p l e (gRx 10 223 45 270) s m ([.ref (G.2.1 0), .int a1] : List Value).toArray below meth c H locs cells slots (MQ below (gQr (gPA G S') (some (.int r)) (gAr (gNo G) s.heap.size)) ([.ref (G.2.1 0), .int a1] : List Value).toArray s 45 270 (gAr (gNo G) s.heap.size)) (F0 m 303 ls [.int t0]) := by
    intro S x3 x5 t0 H locs ls cells slots hcl hsl hw hS hl hf
    unfold B_scripts_303 at hf
    refine lv_istore (lv' := [(11, .int t0), (0, .ref (G.2.1 0)), (3, .long x3), (5, .int x5)]) cx.1 cx.2.1 dL_scripts_303 hl (by decide) rfl (fun ls hl => ?_)
    refine lv_iload cx.1 cx.2.1 dL_scripts_305 (lv_at hl 0 rfl) ?_
    refine lv_if_eq (tgt := 394) cx.1 cx.2.1 dL_scripts_307 (by decide) (fun hc => ?_) (fun hc => ?_)
    · rw [if_pos hc] at hf
      refine lv_iconst (v := (0 : Int32)) cx.1 cx.2.1 dL_scripts_394 (by decide) ?_
      exact al_zreti (P := (gPA G)) cx hr hlk hw hS (by decide) hf dL_scripts_395 (by omega) (by omega)
    · rw [if_neg hc] at hf
      refine lv_iload cx.1 cx.2.1 dL_scripts_310 (lv_at hl 3 rfl) ?_
      refine lv_if_lt (tgt := 342) cx.1 cx.2.1 dL_scripts_312 (by decide) (fun hc => ?_) (fun hc => ?_)
      · rw [if_pos hc] at hf
        exact hB_342 S x3 x5 _ _ _ _ _ (by omega) (by omega) hw hS (lv_sub hl [1, 2, 3] rfl) hf
      · rw [if_neg hc] at hf
        refine lv_iload cx.1 cx.2.1 dL_scripts_315 (lv_at hl 3 rfl) ?_
        refine lv_sipush (v := (999 : Int32)) cx.1 cx.2.1 dL_scripts_317 (by decide) ?_
        refine lv_icmp_gt (tgt := 342) cx.1 cx.2.1 dL_scripts_320 (by decide) (fun hc => ?_) (fun hc => ?_)
        · rw [if_pos hc] at hf
          exact hB_342 S x3 x5 _ _ _ _ _ (by omega) (by omega) hw hS (lv_sub hl [1, 2, 3] rfl) hf
        · rw [if_neg hc] at hf
          refine lv_aload_n cx.1 cx.2.1 dL_scripts_323 rfl (lv_at hl 1 rfl) ?_
          refine lv_iconst (v := (1 : Int32)) cx.1 cx.2.1 dL_scripts_324 (by decide) ?_
          refine lv_ldc2 cx.1 cx.2.1 cx.2.2.2.1 (cx.2.2.2.2.ts _ gw_890) dL_scripts_325 ?_
          refine lv_lload_n cx.1 cx.2.1 dL_scripts_328 rfl (lv_at hl 2 rfl) ?_
          refine lv_ladd cx.1 cx.2.1 dL_scripts_329 ?_
          refine lv_iload cx.1 cx.2.1 dL_scripts_330 (lv_at hl 3 rfl) ?_
          refine lv_i2l cx.1 cx.2.1 dL_scripts_332 rfl ?_
          refine lv_ladd cx.1 cx.2.1 dL_scripts_333 ?_
          obtain ⟨v_5, S_6, hv, hf⟩ := gbs_some hf
          refine a_SW (As := [.ref (G.2.1 0), .int (1 : Int32), .long (((70000 : Int64) + x3) + x5.toInt64)]) (rest := []) cx hX hZ hw hS (a_tryScript l hst G (1 : Int32) (((70000 : Int64) + x3) + x5.toInt64) S v_5 S_6 hv) gw_690 gw_187 gyw_L_tryScript ⟨by decide, by decide⟩ ⟨Nat.le_of_ble_eq_true rfl, Nat.le_of_ble_eq_true rfl⟩ (show cells + 2 ≤ 45 ∧ slots + 12 ≤ 270 from ⟨by omega, by omega⟩) rfl hl.1 rfl (Nat.le_of_ble_eq_true rfl) dL_scripts_334 (fun H locs hw hS => ?_)
          refine W.eq (g2 := F0 m 337 ls [.int v_5]) rfl ?_
          refine lv_bipush (v := (-9 : Int32)) cx.1 cx.2.1 dL_scripts_337 (by decide) ?_
          refine lv_icmp_ne (tgt := 394) cx.1 cx.2.1 dL_scripts_339 (by decide) (fun hc => ?_) (fun hc => ?_)
          · rw [if_neg hc] at hf
            refine lv_iconst (v := (0 : Int32)) cx.1 cx.2.1 dL_scripts_394 (by decide) ?_
            exact al_zreti (P := (gPA G)) cx hr hlk hw hS (by decide) hf dL_scripts_395 (by omega) (by omega)
          · rw [if_pos hc] at hf
            exact hB_342 S_6 x3 x5 _ _ _ _ _ (by omega) (by omega) hw hS (lv_sub hl [1, 2, 3] rfl) hf
  have hl : lv_has ls 12 [(0, .ref (G.2.1 0)), (1, .int a1)] := hl
  unfold h_scripts at hf
  refine lv_iload_n cx.1 cx.2.1 dL_scripts_0 rfl (lv_at hl 1 rfl) ?_
  refine lv_iconst (v := (4 : Int32)) cx.1 cx.2.1 dL_scripts_1 (by decide) ?_
  refine lv_irem cx.1 cx.2.1 dL_scripts_2 (by decide) ?_
  obtain ⟨x2_7, ex2_7, hf⟩ := gvi_ex hf
  refine W.eq (g2 := F0 m 3 ls [.int x2_7]) (by rw [← ex2_7]) ?_
  refine lv_istore_n (lv' := [(2, .int x2_7), (0, .ref (G.2.1 0)), (1, .int a1)]) cx.1 cx.2.1 dL_scripts_3 rfl hl (by decide) rfl (fun ls hl => ?_)
  refine lv_ldc2 cx.1 cx.2.1 cx.2.2.2.1 (cx.2.2.2.2.ts _ gw_874) dL_scripts_4 ?_
  refine lv_iload_n cx.1 cx.2.1 dL_scripts_7 rfl (lv_at hl 0 rfl) ?_
  refine lv_i2l cx.1 cx.2.1 dL_scripts_8 rfl ?_
  refine lv_lmul cx.1 cx.2.1 dL_scripts_9 ?_
  obtain ⟨x3_8, ex3_8, hf⟩ := gvl_ex hf
  refine W.eq (g2 := F0 m 10 ls [.long x3_8]) (by rw [← ex3_8]) ?_
  refine lv_lstore_n (lv' := [(3, .long x3_8), (2, .int x2_7), (0, .ref (G.2.1 0)), (1, .int a1)]) cx.1 cx.2.1 dL_scripts_10 rfl hl (by decide) rfl (fun ls hl => ?_)
  refine lv_aload_n cx.1 cx.2.1 dL_scripts_11 rfl (lv_at hl 2 rfl) ?_
  refine lv_iload_n cx.1 cx.2.1 dL_scripts_12 rfl (lv_at hl 1 rfl) ?_
  refine lv_iconst (v := (0 : Int32)) cx.1 cx.2.1 dL_scripts_13 (by decide) ?_
  obtain ⟨v_9, S_10, hv, hf⟩ := gbs_some hf
  refine a_SW (As := [.ref (G.2.1 0), .int x2_7, .int (0 : Int32)]) (rest := []) cx hX hZ hw hS (a_tryCompany l hst G x2_7 (0 : Int32) S v_9 S_10 hv) gw_349 gw_187 gyw_L_tryCompany ⟨by decide, by decide⟩ ⟨Nat.le_of_ble_eq_true rfl, Nat.le_of_ble_eq_true rfl⟩ (show 0 + 2 ≤ 45 ∧ 0 + 12 ≤ 270 from ⟨by omega, by omega⟩) rfl hl.1 rfl (Nat.le_of_ble_eq_true rfl) dL_scripts_14 (fun H locs hw hS => ?_)
  refine W.eq (g2 := F0 m 17 ls [.int v_9]) rfl ?_
  refine lv_istore (lv' := [(5, .int v_9), (3, .long x3_8), (2, .int x2_7), (0, .ref (G.2.1 0)), (1, .int a1)]) cx.1 cx.2.1 dL_scripts_17 hl (by decide) rfl (fun ls hl => ?_)
  refine lv_aload_n cx.1 cx.2.1 dL_scripts_19 rfl (lv_at hl 3 rfl) ?_
  refine lv_iconst (v := (3 : Int32)) cx.1 cx.2.1 dL_scripts_20 (by decide) ?_
  obtain ⟨v_11, S_12, hv, hf⟩ := gbs_some hf
  refine a_SW (As := [.ref (G.2.1 0), .int (3 : Int32)]) (rest := []) cx hX hZ hw hS (a_tryAbout l hst G (3 : Int32) S_10 v_11 S_12 hv) gw_185 gw_187 gyw_L_tryAbout ⟨by decide, by decide⟩ ⟨Nat.le_of_ble_eq_true rfl, Nat.le_of_ble_eq_true rfl⟩ (show 0 + 2 + 1 ≤ 45 ∧ 0 + 12 + 6 ≤ 270 from ⟨by omega, by omega⟩) rfl hl.1 rfl (Nat.le_of_ble_eq_true rfl) dL_scripts_21 (fun H locs hw hS => ?_)
  refine W.eq (g2 := F0 m 24 ls [.int v_11]) rfl ?_
  refine lv_istore (lv' := [(6, .int v_11), (5, .int v_9), (3, .long x3_8), (2, .int x2_7), (0, .ref (G.2.1 0)), (1, .int a1)]) cx.1 cx.2.1 dL_scripts_24 hl (by decide) rfl (fun ls hl => ?_)
  refine lv_aload_n cx.1 cx.2.1 dL_scripts_26 rfl (lv_at hl 4 rfl) ?_
  refine lv_iload_n cx.1 cx.2.1 dL_scripts_27 rfl (lv_at hl 3 rfl) ?_
  refine lv_iconst (v := (2 : Int32)) cx.1 cx.2.1 dL_scripts_28 (by decide) ?_
  obtain ⟨v_13, S_14, hv, hf⟩ := gbs_some hf
  refine a_SW (As := [.ref (G.2.1 0), .int x2_7, .int (2 : Int32)]) (rest := []) cx hX hZ hw hS (a_tryCompany l hst G x2_7 (2 : Int32) S_12 v_13 S_14 hv) gw_349 gw_187 gyw_L_tryCompany ⟨by decide, by decide⟩ ⟨Nat.le_of_ble_eq_true rfl, Nat.le_of_ble_eq_true rfl⟩ (show 0 + 2 + 1 + 2 ≤ 45 ∧ 0 + 12 + 6 + 12 ≤ 270 from ⟨by omega, by omega⟩) rfl hl.1 rfl (Nat.le_of_ble_eq_true rfl) dL_scripts_29 (fun H locs hw hS => ?_)
  refine W.eq (g2 := F0 m 32 ls [.int v_13]) rfl ?_
  refine lv_istore (lv' := [(7, .int v_13), (6, .int v_11), (5, .int v_9), (3, .long x3_8), (2, .int x2_7), (0, .ref (G.2.1 0)), (1, .int a1)]) cx.1 cx.2.1 dL_scripts_32 hl (by decide) rfl (fun ls hl => ?_)
  refine lv_aload_n cx.1 cx.2.1 dL_scripts_34 rfl (lv_at hl 5 rfl) ?_
  refine lv_iconst (v := (1 : Int32)) cx.1 cx.2.1 dL_scripts_35 (by decide) ?_
  obtain ⟨v_15, S_16, hv, hf⟩ := gbs_some hf
  refine a_SW (As := [.ref (G.2.1 0), .int (1 : Int32)]) (rest := []) cx hX hZ hw hS (a_tryAbout l hst G (1 : Int32) S_14 v_15 S_16 hv) gw_185 gw_187 gyw_L_tryAbout ⟨by decide, by decide⟩ ⟨Nat.le_of_ble_eq_true rfl, Nat.le_of_ble_eq_true rfl⟩ (show 0 + 2 + 1 + 2 + 1 ≤ 45 ∧ 0 + 12 + 6 + 12 + 6 ≤ 270 from ⟨by omega, by omega⟩) rfl hl.1 rfl (Nat.le_of_ble_eq_true rfl) dL_scripts_36 (fun H locs hw hS => ?_)
  refine W.eq (g2 := F0 m 39 ls [.int v_15]) rfl ?_
  refine lv_istore (lv' := [(8, .int v_15), (7, .int v_13), (6, .int v_11), (5, .int v_9), (3, .long x3_8), (2, .int x2_7), (0, .ref (G.2.1 0)), (1, .int a1)]) cx.1 cx.2.1 dL_scripts_39 hl (by decide) rfl (fun ls hl => ?_)
  refine lv_aload_n cx.1 cx.2.1 dL_scripts_41 rfl (lv_at hl 6 rfl) ?_
  refine lv_iconst (v := (2 : Int32)) cx.1 cx.2.1 dL_scripts_42 (by decide) ?_
  obtain ⟨v_17, S_18, hv, hf⟩ := gbs_some hf
  refine a_SW (As := [.ref (G.2.1 0), .int (2 : Int32)]) (rest := []) cx hX hZ hw hS (a_tryAbout l hst G (2 : Int32) S_16 v_17 S_18 hv) gw_185 gw_187 gyw_L_tryAbout ⟨by decide, by decide⟩ ⟨Nat.le_of_ble_eq_true rfl, Nat.le_of_ble_eq_true rfl⟩ (show 0 + 2 + 1 + 2 + 1 + 1 ≤ 45 ∧ 0 + 12 + 6 + 12 + 6 + 6 ≤ 270 from ⟨by omega, by omega⟩) rfl hl.1 rfl (Nat.le_of_ble_eq_true rfl) dL_scripts_43 (fun H locs hw hS => ?_)
  refine W.eq (g2 := F0 m 46 ls [.int v_17]) rfl ?_
  refine lv_istore (lv' := [(9, .int v_17), (8, .int v_15), (7, .int v_13), (6, .int v_11), (5, .int v_9), (3, .long x3_8), (2, .int x2_7), (0, .ref (G.2.1 0)), (1, .int a1)]) cx.1 cx.2.1 dL_scripts_46 hl (by decide) rfl (fun ls hl => ?_)
  refine lv_aload_n cx.1 cx.2.1 dL_scripts_48 rfl (lv_at hl 7 rfl) ?_
  refine lv_iload_n cx.1 cx.2.1 dL_scripts_49 rfl (lv_at hl 8 rfl) ?_
  refine lv_i2l cx.1 cx.2.1 dL_scripts_50 rfl ?_
  refine lv_ldc2 cx.1 cx.2.1 cx.2.2.2.1 (cx.2.2.2.2.ts _ gw_875) dL_scripts_51 ?_
  refine lv_lmul cx.1 cx.2.1 dL_scripts_54 ?_
  refine lv_bipush (v := (10 : Int32)) cx.1 cx.2.1 dL_scripts_55 (by decide) ?_
  obtain ⟨v_19, S_20, hv, hf⟩ := gbs_some hf
  refine a_SW (As := [.ref (G.2.1 0), .long (a1.toInt64 * (197 : Int64)), .int (10 : Int32)]) (rest := []) cx hX hZ hw hS (a_trySimulate l hst G (a1.toInt64 * (197 : Int64)) (10 : Int32) S_18 v_19 S_20 hv) gw_747 gw_187 gyw_L_trySimulate ⟨by decide, by decide⟩ ⟨Nat.le_of_ble_eq_true rfl, Nat.le_of_ble_eq_true rfl⟩ (show 0 + 2 + 1 + 2 + 1 + 1 + 1 ≤ 45 ∧ 0 + 12 + 6 + 12 + 6 + 6 + 6 ≤ 270 from ⟨by omega, by omega⟩) rfl hl.1 rfl (Nat.le_of_ble_eq_true rfl) dL_scripts_57 (fun H locs hw hS => ?_)
  refine W.eq (g2 := F0 m 60 ls [.int v_19]) rfl ?_
  refine lv_istore (lv' := [(10, .int v_19), (9, .int v_17), (8, .int v_15), (7, .int v_13), (6, .int v_11), (5, .int v_9), (3, .long x3_8), (2, .int x2_7), (0, .ref (G.2.1 0)), (1, .int a1)]) cx.1 cx.2.1 dL_scripts_60 hl (by decide) rfl (fun ls hl => ?_)
  refine lv_aload_n cx.1 cx.2.1 dL_scripts_62 rfl (lv_at hl 8 rfl) ?_
  refine lv_iconst (v := (1 : Int32)) cx.1 cx.2.1 dL_scripts_63 (by decide) ?_
  refine lv_ldc2 cx.1 cx.2.1 cx.2.2.2.1 (cx.2.2.2.2.ts _ gw_876) dL_scripts_64 ?_
  refine lv_iload cx.1 cx.2.1 dL_scripts_67 (lv_at hl 4 rfl) ?_
  refine lv_i2l cx.1 cx.2.1 dL_scripts_69 rfl ?_
  refine lv_ladd cx.1 cx.2.1 dL_scripts_70 ?_
  obtain ⟨v_21, S_22, hv, hf⟩ := gbs_some hf
  refine a_SW (As := [.ref (G.2.1 0), .int (1 : Int32), .long ((80000 : Int64) + v_11.toInt64)]) (rest := []) cx hX hZ hw hS (a_tryScript l hst G (1 : Int32) ((80000 : Int64) + v_11.toInt64) S_20 v_21 S_22 hv) gw_690 gw_187 gyw_L_tryScript ⟨by decide, by decide⟩ ⟨Nat.le_of_ble_eq_true rfl, Nat.le_of_ble_eq_true rfl⟩ (show 0 + 2 + 1 + 2 + 1 + 1 + 1 + 2 ≤ 45 ∧ 0 + 12 + 6 + 12 + 6 + 6 + 6 + 12 ≤ 270 from ⟨by omega, by omega⟩) rfl hl.1 rfl (Nat.le_of_ble_eq_true rfl) dL_scripts_71 (fun H locs hw hS => ?_)
  refine W.eq (g2 := F0 m 74 ls [.int v_21]) rfl ?_
  refine lv_bipush (v := (-9 : Int32)) cx.1 cx.2.1 dL_scripts_74 (by decide) ?_
  refine lv_icmp_ne (tgt := 302) cx.1 cx.2.1 dL_scripts_76 (by decide) (fun hc => ?_) (fun hc => ?_)
  · rw [if_neg hc] at hf
    refine lv_iconst (v := (0 : Int32)) cx.1 cx.2.1 dL_scripts_302 (by decide) ?_
    exact hB_303 S_22 x3_8 v_9 (0 : Int32) _ _ _ _ _ (by omega) (by omega) hw hS (lv_sub hl [8, 6, 5] rfl) hf
  · rw [if_pos hc] at hf
    refine lv_aload_n cx.1 cx.2.1 dL_scripts_79 rfl (lv_at hl 8 rfl) ?_
    refine lv_iconst (v := (1 : Int32)) cx.1 cx.2.1 dL_scripts_80 (by decide) ?_
    refine lv_ldc2 cx.1 cx.2.1 cx.2.2.2.1 (cx.2.2.2.2.ts _ gw_877) dL_scripts_81 ?_
    obtain ⟨v_23, S_24, hv, hf⟩ := gbs_some hf
    refine a_SW (As := [.ref (G.2.1 0), .int (1 : Int32), .long (80007 : Int64)]) (rest := []) cx hX hZ hw hS (a_tryScript l hst G (1 : Int32) (80007 : Int64) S_22 v_23 S_24 hv) gw_690 gw_187 gyw_L_tryScript ⟨by decide, by decide⟩ ⟨Nat.le_of_ble_eq_true rfl, Nat.le_of_ble_eq_true rfl⟩ (show 0 + 2 + 1 + 2 + 1 + 1 + 1 + 2 + 2 ≤ 45 ∧ 0 + 12 + 6 + 12 + 6 + 6 + 6 + 12 + 12 ≤ 270 from ⟨by omega, by omega⟩) rfl hl.1 rfl (Nat.le_of_ble_eq_true rfl) dL_scripts_84 (fun H locs hw hS => ?_)
    refine W.eq (g2 := F0 m 87 ls [.int v_23]) rfl ?_
    refine lv_if_ne (tgt := 302) cx.1 cx.2.1 dL_scripts_87 (by decide) (fun hc => ?_) (fun hc => ?_)
    · rw [if_neg hc] at hf
      refine lv_iconst (v := (0 : Int32)) cx.1 cx.2.1 dL_scripts_302 (by decide) ?_
      exact hB_303 S_24 x3_8 v_9 (0 : Int32) _ _ _ _ _ (by omega) (by omega) hw hS (lv_sub hl [8, 6, 5] rfl) hf
    · rw [if_pos hc] at hf
      refine lv_aload_n cx.1 cx.2.1 dL_scripts_90 rfl (lv_at hl 8 rfl) ?_
      refine lv_iconst (v := (1 : Int32)) cx.1 cx.2.1 dL_scripts_91 (by decide) ?_
      refine lv_ldc2 cx.1 cx.2.1 cx.2.2.2.1 (cx.2.2.2.2.ts _ gw_878) dL_scripts_92 ?_
      refine lv_lload_n cx.1 cx.2.1 dL_scripts_95 rfl (lv_at hl 6 rfl) ?_
      refine lv_ladd cx.1 cx.2.1 dL_scripts_96 ?_
      refine lv_iload cx.1 cx.2.1 dL_scripts_97 (lv_at hl 3 rfl) ?_
      refine lv_i2l cx.1 cx.2.1 dL_scripts_99 rfl ?_
      refine lv_ladd cx.1 cx.2.1 dL_scripts_100 ?_
      obtain ⟨v_25, S_26, hv, hf⟩ := gbs_some hf
      refine a_SW (As := [.ref (G.2.1 0), .int (1 : Int32), .long (((90000 : Int64) + x3_8) + v_13.toInt64)]) (rest := []) cx hX hZ hw hS (a_tryScript l hst G (1 : Int32) (((90000 : Int64) + x3_8) + v_13.toInt64) S_24 v_25 S_26 hv) gw_690 gw_187 gyw_L_tryScript ⟨by decide, by decide⟩ ⟨Nat.le_of_ble_eq_true rfl, Nat.le_of_ble_eq_true rfl⟩ (show 0 + 2 + 1 + 2 + 1 + 1 + 1 + 2 + 2 + 2 ≤ 45 ∧ 0 + 12 + 6 + 12 + 6 + 6 + 6 + 12 + 12 + 12 ≤ 270 from ⟨by omega, by omega⟩) rfl hl.1 rfl (Nat.le_of_ble_eq_true rfl) dL_scripts_101 (fun H locs hw hS => ?_)
      refine W.eq (g2 := F0 m 104 ls [.int v_25]) rfl ?_
      refine lv_bipush (v := (-9 : Int32)) cx.1 cx.2.1 dL_scripts_104 (by decide) ?_
      refine lv_icmp_ne (tgt := 302) cx.1 cx.2.1 dL_scripts_106 (by decide) (fun hc => ?_) (fun hc => ?_)
      · rw [if_neg hc] at hf
        refine lv_iconst (v := (0 : Int32)) cx.1 cx.2.1 dL_scripts_302 (by decide) ?_
        exact hB_303 S_26 x3_8 v_9 (0 : Int32) _ _ _ _ _ (by omega) (by omega) hw hS (lv_sub hl [8, 6, 5] rfl) hf
      · rw [if_pos hc] at hf
        refine lv_aload_n cx.1 cx.2.1 dL_scripts_109 rfl (lv_at hl 8 rfl) ?_
        refine lv_iconst (v := (1 : Int32)) cx.1 cx.2.1 dL_scripts_110 (by decide) ?_
        refine lv_ldc2 cx.1 cx.2.1 cx.2.2.2.1 (cx.2.2.2.2.ts _ gw_879) dL_scripts_111 ?_
        refine lv_lload_n cx.1 cx.2.1 dL_scripts_114 rfl (lv_at hl 6 rfl) ?_
        refine lv_ladd cx.1 cx.2.1 dL_scripts_115 ?_
        obtain ⟨v_27, S_28, hv, hf⟩ := gbs_some hf
        refine a_SW (As := [.ref (G.2.1 0), .int (1 : Int32), .long ((90005 : Int64) + x3_8)]) (rest := []) cx hX hZ hw hS (a_tryScript l hst G (1 : Int32) ((90005 : Int64) + x3_8) S_26 v_27 S_28 hv) gw_690 gw_187 gyw_L_tryScript ⟨by decide, by decide⟩ ⟨Nat.le_of_ble_eq_true rfl, Nat.le_of_ble_eq_true rfl⟩ (show 0 + 2 + 1 + 2 + 1 + 1 + 1 + 2 + 2 + 2 + 2 ≤ 45 ∧ 0 + 12 + 6 + 12 + 6 + 6 + 6 + 12 + 12 + 12 + 12 ≤ 270 from ⟨by omega, by omega⟩) rfl hl.1 rfl (Nat.le_of_ble_eq_true rfl) dL_scripts_116 (fun H locs hw hS => ?_)
        refine W.eq (g2 := F0 m 119 ls [.int v_27]) rfl ?_
        refine lv_if_ne (tgt := 302) cx.1 cx.2.1 dL_scripts_119 (by decide) (fun hc => ?_) (fun hc => ?_)
        · rw [if_neg hc] at hf
          refine lv_iconst (v := (0 : Int32)) cx.1 cx.2.1 dL_scripts_302 (by decide) ?_
          exact hB_303 S_28 x3_8 v_9 (0 : Int32) _ _ _ _ _ (by omega) (by omega) hw hS (lv_sub hl [8, 6, 5] rfl) hf
        · rw [if_pos hc] at hf
          refine lv_aload_n cx.1 cx.2.1 dL_scripts_122 rfl (lv_at hl 8 rfl) ?_
          refine lv_iconst (v := (1 : Int32)) cx.1 cx.2.1 dL_scripts_123 (by decide) ?_
          refine lv_ldc2 cx.1 cx.2.1 cx.2.2.2.1 (cx.2.2.2.2.ts _ gw_880) dL_scripts_124 ?_
          obtain ⟨v_29, S_30, hv, hf⟩ := gbs_some hf
          refine a_SW (As := [.ref (G.2.1 0), .int (1 : Int32), .long (60000 : Int64)]) (rest := []) cx hX hZ hw hS (a_tryScript l hst G (1 : Int32) (60000 : Int64) S_28 v_29 S_30 hv) gw_690 gw_187 gyw_L_tryScript ⟨by decide, by decide⟩ ⟨Nat.le_of_ble_eq_true rfl, Nat.le_of_ble_eq_true rfl⟩ (show 0 + 2 + 1 + 2 + 1 + 1 + 1 + 2 + 2 + 2 + 2 + 2 ≤ 45 ∧ 0 + 12 + 6 + 12 + 6 + 6 + 6 + 12 + 12 + 12 + 12 + 12 ≤ 270 from ⟨by omega, by omega⟩) rfl hl.1 rfl (Nat.le_of_ble_eq_true rfl) dL_scripts_127 (fun H locs hw hS => ?_)
          refine W.eq (g2 := F0 m 130 ls [.int v_29]) rfl ?_
          refine lv_bipush (v := (-9 : Int32)) cx.1 cx.2.1 dL_scripts_130 (by decide) ?_
          refine lv_icmp_ne (tgt := 302) cx.1 cx.2.1 dL_scripts_132 (by decide) (fun hc => ?_) (fun hc => ?_)
          · rw [if_neg hc] at hf
            refine lv_iconst (v := (0 : Int32)) cx.1 cx.2.1 dL_scripts_302 (by decide) ?_
            exact hB_303 S_30 x3_8 v_9 (0 : Int32) _ _ _ _ _ (by omega) (by omega) hw hS (lv_sub hl [8, 6, 5] rfl) hf
          · rw [if_pos hc] at hf
            refine lv_aload_n cx.1 cx.2.1 dL_scripts_135 rfl (lv_at hl 8 rfl) ?_
            refine lv_iconst (v := (1 : Int32)) cx.1 cx.2.1 dL_scripts_136 (by decide) ?_
            refine lv_ldc2 cx.1 cx.2.1 cx.2.2.2.1 (cx.2.2.2.2.ts _ gw_881) dL_scripts_137 ?_
            obtain ⟨v_31, S_32, hv, hf⟩ := gbs_some hf
            refine a_SW (As := [.ref (G.2.1 0), .int (1 : Int32), .long (60001 : Int64)]) (rest := []) cx hX hZ hw hS (a_tryScript l hst G (1 : Int32) (60001 : Int64) S_30 v_31 S_32 hv) gw_690 gw_187 gyw_L_tryScript ⟨by decide, by decide⟩ ⟨Nat.le_of_ble_eq_true rfl, Nat.le_of_ble_eq_true rfl⟩ (show 0 + 2 + 1 + 2 + 1 + 1 + 1 + 2 + 2 + 2 + 2 + 2 + 2 ≤ 45 ∧ 0 + 12 + 6 + 12 + 6 + 6 + 6 + 12 + 12 + 12 + 12 + 12 + 12 ≤ 270 from ⟨by omega, by omega⟩) rfl hl.1 rfl (Nat.le_of_ble_eq_true rfl) dL_scripts_140 (fun H locs hw hS => ?_)
            refine W.eq (g2 := F0 m 143 ls [.int v_31]) rfl ?_
            refine lv_if_ne (tgt := 302) cx.1 cx.2.1 dL_scripts_143 (by decide) (fun hc => ?_) (fun hc => ?_)
            · rw [if_neg hc] at hf
              refine lv_iconst (v := (0 : Int32)) cx.1 cx.2.1 dL_scripts_302 (by decide) ?_
              exact hB_303 S_32 x3_8 v_9 (0 : Int32) _ _ _ _ _ (by omega) (by omega) hw hS (lv_sub hl [8, 6, 5] rfl) hf
            · rw [if_pos hc] at hf
              refine lv_aload_n cx.1 cx.2.1 dL_scripts_146 rfl (lv_at hl 8 rfl) ?_
              refine lv_iconst (v := (1 : Int32)) cx.1 cx.2.1 dL_scripts_147 (by decide) ?_
              refine lv_ldc2 cx.1 cx.2.1 cx.2.2.2.1 (cx.2.2.2.2.ts _ gw_882) dL_scripts_148 ?_
              refine lv_lload_n cx.1 cx.2.1 dL_scripts_151 rfl (lv_at hl 6 rfl) ?_
              refine lv_ladd cx.1 cx.2.1 dL_scripts_152 ?_
              refine lv_iload cx.1 cx.2.1 dL_scripts_153 (lv_at hl 2 rfl) ?_
              refine lv_i2l cx.1 cx.2.1 dL_scripts_155 rfl ?_
              refine lv_ladd cx.1 cx.2.1 dL_scripts_156 ?_
              obtain ⟨v_33, S_34, hv, hf⟩ := gbs_some hf
              refine a_SW (As := [.ref (G.2.1 0), .int (1 : Int32), .long (((10000 : Int64) + x3_8) + v_15.toInt64)]) (rest := []) cx hX hZ hw hS (a_tryScript l hst G (1 : Int32) (((10000 : Int64) + x3_8) + v_15.toInt64) S_32 v_33 S_34 hv) gw_690 gw_187 gyw_L_tryScript ⟨by decide, by decide⟩ ⟨Nat.le_of_ble_eq_true rfl, Nat.le_of_ble_eq_true rfl⟩ (show 0 + 2 + 1 + 2 + 1 + 1 + 1 + 2 + 2 + 2 + 2 + 2 + 2 + 2 ≤ 45 ∧ 0 + 12 + 6 + 12 + 6 + 6 + 6 + 12 + 12 + 12 + 12 + 12 + 12 + 12 ≤ 270 from ⟨by omega, by omega⟩) rfl hl.1 rfl (Nat.le_of_ble_eq_true rfl) dL_scripts_157 (fun H locs hw hS => ?_)
              refine W.eq (g2 := F0 m 160 ls [.int v_33]) rfl ?_
              refine lv_if_ne (tgt := 302) cx.1 cx.2.1 dL_scripts_160 (by decide) (fun hc => ?_) (fun hc => ?_)
              · rw [if_neg hc] at hf
                refine lv_iconst (v := (0 : Int32)) cx.1 cx.2.1 dL_scripts_302 (by decide) ?_
                exact hB_303 S_34 x3_8 v_9 (0 : Int32) _ _ _ _ _ (by omega) (by omega) hw hS (lv_sub hl [8, 6, 5] rfl) hf
              · rw [if_pos hc] at hf
                refine lv_aload_n cx.1 cx.2.1 dL_scripts_163 rfl (lv_at hl 8 rfl) ?_
                refine lv_iconst (v := (1 : Int32)) cx.1 cx.2.1 dL_scripts_164 (by decide) ?_
                refine lv_ldc2 cx.1 cx.2.1 cx.2.2.2.1 (cx.2.2.2.2.ts _ gw_883) dL_scripts_165 ?_
                obtain ⟨v_35, S_36, hv, hf⟩ := gbs_some hf
                refine a_SW (As := [.ref (G.2.1 0), .int (1 : Int32), .long (14000 : Int64)]) (rest := []) cx hX hZ hw hS (a_tryScript l hst G (1 : Int32) (14000 : Int64) S_34 v_35 S_36 hv) gw_690 gw_187 gyw_L_tryScript ⟨by decide, by decide⟩ ⟨Nat.le_of_ble_eq_true rfl, Nat.le_of_ble_eq_true rfl⟩ (show 0 + 2 + 1 + 2 + 1 + 1 + 1 + 2 + 2 + 2 + 2 + 2 + 2 + 2 + 2 ≤ 45 ∧ 0 + 12 + 6 + 12 + 6 + 6 + 6 + 12 + 12 + 12 + 12 + 12 + 12 + 12 + 12 ≤ 270 from ⟨by omega, by omega⟩) rfl hl.1 rfl (Nat.le_of_ble_eq_true rfl) dL_scripts_168 (fun H locs hw hS => ?_)
                refine W.eq (g2 := F0 m 171 ls [.int v_35]) rfl ?_
                refine lv_if_ne (tgt := 302) cx.1 cx.2.1 dL_scripts_171 (by decide) (fun hc => ?_) (fun hc => ?_)
                · rw [if_neg hc] at hf
                  refine lv_iconst (v := (0 : Int32)) cx.1 cx.2.1 dL_scripts_302 (by decide) ?_
                  exact hB_303 S_36 x3_8 v_9 (0 : Int32) _ _ _ _ _ (by omega) (by omega) hw hS (lv_sub hl [8, 6, 5] rfl) hf
                · rw [if_pos hc] at hf
                  refine lv_aload_n cx.1 cx.2.1 dL_scripts_174 rfl (lv_at hl 8 rfl) ?_
                  refine lv_iconst (v := (1 : Int32)) cx.1 cx.2.1 dL_scripts_175 (by decide) ?_
                  refine lv_ldc2 cx.1 cx.2.1 cx.2.2.2.1 (cx.2.2.2.2.ts _ gw_884) dL_scripts_176 ?_
                  refine lv_lload_n cx.1 cx.2.1 dL_scripts_179 rfl (lv_at hl 6 rfl) ?_
                  refine lv_ladd cx.1 cx.2.1 dL_scripts_180 ?_
                  obtain ⟨v_37, S_38, hv, hf⟩ := gbs_some hf
                  refine a_SW (As := [.ref (G.2.1 0), .int (1 : Int32), .long ((20000 : Int64) + x3_8)]) (rest := []) cx hX hZ hw hS (a_tryScript l hst G (1 : Int32) ((20000 : Int64) + x3_8) S_36 v_37 S_38 hv) gw_690 gw_187 gyw_L_tryScript ⟨by decide, by decide⟩ ⟨Nat.le_of_ble_eq_true rfl, Nat.le_of_ble_eq_true rfl⟩ (show 0 + 2 + 1 + 2 + 1 + 1 + 1 + 2 + 2 + 2 + 2 + 2 + 2 + 2 + 2 + 2 ≤ 45 ∧ 0 + 12 + 6 + 12 + 6 + 6 + 6 + 12 + 12 + 12 + 12 + 12 + 12 + 12 + 12 + 12 ≤ 270 from ⟨by omega, by omega⟩) rfl hl.1 rfl (Nat.le_of_ble_eq_true rfl) dL_scripts_181 (fun H locs hw hS => ?_)
                  refine W.eq (g2 := F0 m 184 ls [.int v_37]) rfl ?_
                  refine lv_if_ne (tgt := 302) cx.1 cx.2.1 dL_scripts_184 (by decide) (fun hc => ?_) (fun hc => ?_)
                  · rw [if_neg hc] at hf
                    refine lv_iconst (v := (0 : Int32)) cx.1 cx.2.1 dL_scripts_302 (by decide) ?_
                    exact hB_303 S_38 x3_8 v_9 (0 : Int32) _ _ _ _ _ (by omega) (by omega) hw hS (lv_sub hl [8, 6, 5] rfl) hf
                  · rw [if_pos hc] at hf
                    refine lv_aload_n cx.1 cx.2.1 dL_scripts_187 rfl (lv_at hl 8 rfl) ?_
                    refine lv_iconst (v := (1 : Int32)) cx.1 cx.2.1 dL_scripts_188 (by decide) ?_
                    refine lv_ldc2 cx.1 cx.2.1 cx.2.2.2.1 (cx.2.2.2.2.ts _ gw_885) dL_scripts_189 ?_
                    refine lv_lload_n cx.1 cx.2.1 dL_scripts_192 rfl (lv_at hl 6 rfl) ?_
                    refine lv_ladd cx.1 cx.2.1 dL_scripts_193 ?_
                    obtain ⟨v_39, S_40, hv, hf⟩ := gbs_some hf
                    refine a_SW (As := [.ref (G.2.1 0), .int (1 : Int32), .long ((20007 : Int64) + x3_8)]) (rest := []) cx hX hZ hw hS (a_tryScript l hst G (1 : Int32) ((20007 : Int64) + x3_8) S_38 v_39 S_40 hv) gw_690 gw_187 gyw_L_tryScript ⟨by decide, by decide⟩ ⟨Nat.le_of_ble_eq_true rfl, Nat.le_of_ble_eq_true rfl⟩ (show 0 + 2 + 1 + 2 + 1 + 1 + 1 + 2 + 2 + 2 + 2 + 2 + 2 + 2 + 2 + 2 + 2 ≤ 45 ∧ 0 + 12 + 6 + 12 + 6 + 6 + 6 + 12 + 12 + 12 + 12 + 12 + 12 + 12 + 12 + 12 + 12 ≤ 270 from ⟨by omega, by omega⟩) rfl hl.1 rfl (Nat.le_of_ble_eq_true rfl) dL_scripts_194 (fun H locs hw hS => ?_)
                    refine W.eq (g2 := F0 m 197 ls [.int v_39]) rfl ?_
                    refine lv_if_ne (tgt := 302) cx.1 cx.2.1 dL_scripts_197 (by decide) (fun hc => ?_) (fun hc => ?_)
                    · rw [if_neg hc] at hf
                      refine lv_iconst (v := (0 : Int32)) cx.1 cx.2.1 dL_scripts_302 (by decide) ?_
                      exact hB_303 S_40 x3_8 v_9 (0 : Int32) _ _ _ _ _ (by omega) (by omega) hw hS (lv_sub hl [8, 6, 5] rfl) hf
                    · rw [if_pos hc] at hf
                      refine lv_aload_n cx.1 cx.2.1 dL_scripts_200 rfl (lv_at hl 8 rfl) ?_
                      refine lv_iconst (v := (1 : Int32)) cx.1 cx.2.1 dL_scripts_201 (by decide) ?_
                      refine lv_ldc2 cx.1 cx.2.1 cx.2.2.2.1 (cx.2.2.2.2.ts _ gw_886) dL_scripts_202 ?_
                      refine lv_lload_n cx.1 cx.2.1 dL_scripts_205 rfl (lv_at hl 6 rfl) ?_
                      refine lv_ladd cx.1 cx.2.1 dL_scripts_206 ?_
                      obtain ⟨v_41, S_42, hv, hf⟩ := gbs_some hf
                      refine a_SW (As := [.ref (G.2.1 0), .int (1 : Int32), .long ((30009 : Int64) + x3_8)]) (rest := []) cx hX hZ hw hS (a_tryScript l hst G (1 : Int32) ((30009 : Int64) + x3_8) S_40 v_41 S_42 hv) gw_690 gw_187 gyw_L_tryScript ⟨by decide, by decide⟩ ⟨Nat.le_of_ble_eq_true rfl, Nat.le_of_ble_eq_true rfl⟩ (show 0 + 2 + 1 + 2 + 1 + 1 + 1 + 2 + 2 + 2 + 2 + 2 + 2 + 2 + 2 + 2 + 2 + 2 ≤ 45 ∧ 0 + 12 + 6 + 12 + 6 + 6 + 6 + 12 + 12 + 12 + 12 + 12 + 12 + 12 + 12 + 12 + 12 + 12 ≤ 270 from ⟨by omega, by omega⟩) rfl hl.1 rfl (Nat.le_of_ble_eq_true rfl) dL_scripts_207 (fun H locs hw hS => ?_)
                      refine W.eq (g2 := F0 m 210 ls [.int v_41]) rfl ?_
                      refine lv_bipush (v := (-9 : Int32)) cx.1 cx.2.1 dL_scripts_210 (by decide) ?_
                      refine lv_icmp_ne (tgt := 302) cx.1 cx.2.1 dL_scripts_212 (by decide) (fun hc => ?_) (fun hc => ?_)
                      · rw [if_neg hc] at hf
                        refine lv_iconst (v := (0 : Int32)) cx.1 cx.2.1 dL_scripts_302 (by decide) ?_
                        exact hB_303 S_42 x3_8 v_9 (0 : Int32) _ _ _ _ _ (by omega) (by omega) hw hS (lv_sub hl [8, 6, 5] rfl) hf
                      · rw [if_pos hc] at hf
                        refine lv_aload_n cx.1 cx.2.1 dL_scripts_215 rfl (lv_at hl 8 rfl) ?_
                        refine lv_iconst (v := (1 : Int32)) cx.1 cx.2.1 dL_scripts_216 (by decide) ?_
                        refine lv_ldc2 cx.1 cx.2.1 cx.2.2.2.1 (cx.2.2.2.2.ts _ gw_887) dL_scripts_217 ?_
                        refine lv_lload_n cx.1 cx.2.1 dL_scripts_220 rfl (lv_at hl 6 rfl) ?_
                        refine lv_ladd cx.1 cx.2.1 dL_scripts_221 ?_
                        obtain ⟨v_43, S_44, hv, hf⟩ := gbs_some hf
                        refine a_SW (As := [.ref (G.2.1 0), .int (1 : Int32), .long ((30010 : Int64) + x3_8)]) (rest := []) cx hX hZ hw hS (a_tryScript l hst G (1 : Int32) ((30010 : Int64) + x3_8) S_42 v_43 S_44 hv) gw_690 gw_187 gyw_L_tryScript ⟨by decide, by decide⟩ ⟨Nat.le_of_ble_eq_true rfl, Nat.le_of_ble_eq_true rfl⟩ (show 0 + 2 + 1 + 2 + 1 + 1 + 1 + 2 + 2 + 2 + 2 + 2 + 2 + 2 + 2 + 2 + 2 + 2 + 2 ≤ 45 ∧ 0 + 12 + 6 + 12 + 6 + 6 + 6 + 12 + 12 + 12 + 12 + 12 + 12 + 12 + 12 + 12 + 12 + 12 + 12 ≤ 270 from ⟨by omega, by omega⟩) rfl hl.1 rfl (Nat.le_of_ble_eq_true rfl) dL_scripts_222 (fun H locs hw hS => ?_)
                        refine W.eq (g2 := F0 m 225 ls [.int v_43]) rfl ?_
                        refine lv_if_ne (tgt := 302) cx.1 cx.2.1 dL_scripts_225 (by decide) (fun hc => ?_) (fun hc => ?_)
                        · rw [if_neg hc] at hf
                          refine lv_iconst (v := (0 : Int32)) cx.1 cx.2.1 dL_scripts_302 (by decide) ?_
                          exact hB_303 S_44 x3_8 v_9 (0 : Int32) _ _ _ _ _ (by omega) (by omega) hw hS (lv_sub hl [8, 6, 5] rfl) hf
                        · rw [if_pos hc] at hf
                          refine lv_aload_n cx.1 cx.2.1 dL_scripts_228 rfl (lv_at hl 8 rfl) ?_
                          refine lv_iconst (v := (1 : Int32)) cx.1 cx.2.1 dL_scripts_229 (by decide) ?_
                          refine lv_ldc2 cx.1 cx.2.1 cx.2.2.2.1 (cx.2.2.2.2.ts _ gw_888) dL_scripts_230 ?_
                          refine lv_lload_n cx.1 cx.2.1 dL_scripts_233 rfl (lv_at hl 6 rfl) ?_
                          refine lv_ladd cx.1 cx.2.1 dL_scripts_234 ?_
                          refine lv_iload cx.1 cx.2.1 dL_scripts_235 (lv_at hl 1 rfl) ?_
                          refine lv_i2l cx.1 cx.2.1 dL_scripts_237 rfl ?_
                          refine lv_ladd cx.1 cx.2.1 dL_scripts_238 ?_
                          obtain ⟨v_45, S_46, hv, hf⟩ := gbs_some hf
                          refine a_SW (As := [.ref (G.2.1 0), .int (1 : Int32), .long (((40000 : Int64) + x3_8) + v_17.toInt64)]) (rest := []) cx hX hZ hw hS (a_tryScript l hst G (1 : Int32) (((40000 : Int64) + x3_8) + v_17.toInt64) S_44 v_45 S_46 hv) gw_690 gw_187 gyw_L_tryScript ⟨by decide, by decide⟩ ⟨Nat.le_of_ble_eq_true rfl, Nat.le_of_ble_eq_true rfl⟩ (show 0 + 2 + 1 + 2 + 1 + 1 + 1 + 2 + 2 + 2 + 2 + 2 + 2 + 2 + 2 + 2 + 2 + 2 + 2 + 2 ≤ 45 ∧ 0 + 12 + 6 + 12 + 6 + 6 + 6 + 12 + 12 + 12 + 12 + 12 + 12 + 12 + 12 + 12 + 12 + 12 + 12 + 12 ≤ 270 from ⟨by omega, by omega⟩) rfl hl.1 rfl (Nat.le_of_ble_eq_true rfl) dL_scripts_239 (fun H locs hw hS => ?_)
                          refine W.eq (g2 := F0 m 242 ls [.int v_45]) rfl ?_
                          refine lv_if_ne (tgt := 302) cx.1 cx.2.1 dL_scripts_242 (by decide) (fun hc => ?_) (fun hc => ?_)
                          · rw [if_neg hc] at hf
                            refine lv_iconst (v := (0 : Int32)) cx.1 cx.2.1 dL_scripts_302 (by decide) ?_
                            exact hB_303 S_46 x3_8 v_9 (0 : Int32) _ _ _ _ _ (by omega) (by omega) hw hS (lv_sub hl [8, 6, 5] rfl) hf
                          · rw [if_pos hc] at hf
                            refine lv_aload_n cx.1 cx.2.1 dL_scripts_245 rfl (lv_at hl 8 rfl) ?_
                            refine lv_iconst (v := (1 : Int32)) cx.1 cx.2.1 dL_scripts_246 (by decide) ?_
                            refine lv_ldc2 cx.1 cx.2.1 cx.2.2.2.1 (cx.2.2.2.2.ts _ gw_889) dL_scripts_247 ?_
                            obtain ⟨v_47, S_48, hv, hf⟩ := gbs_some hf
                            refine a_SW (As := [.ref (G.2.1 0), .int (1 : Int32), .long (74000 : Int64)]) (rest := []) cx hX hZ hw hS (a_tryScript l hst G (1 : Int32) (74000 : Int64) S_46 v_47 S_48 hv) gw_690 gw_187 gyw_L_tryScript ⟨by decide, by decide⟩ ⟨Nat.le_of_ble_eq_true rfl, Nat.le_of_ble_eq_true rfl⟩ (show 0 + 2 + 1 + 2 + 1 + 1 + 1 + 2 + 2 + 2 + 2 + 2 + 2 + 2 + 2 + 2 + 2 + 2 + 2 + 2 + 2 ≤ 45 ∧ 0 + 12 + 6 + 12 + 6 + 6 + 6 + 12 + 12 + 12 + 12 + 12 + 12 + 12 + 12 + 12 + 12 + 12 + 12 + 12 + 12 ≤ 270 from ⟨by omega, by omega⟩) rfl hl.1 rfl (Nat.le_of_ble_eq_true rfl) dL_scripts_250 (fun H locs hw hS => ?_)
                            refine W.eq (g2 := F0 m 253 ls [.int v_47]) rfl ?_
                            refine lv_if_ne (tgt := 302) cx.1 cx.2.1 dL_scripts_253 (by decide) (fun hc => ?_) (fun hc => ?_)
                            · rw [if_neg hc] at hf
                              refine lv_iconst (v := (0 : Int32)) cx.1 cx.2.1 dL_scripts_302 (by decide) ?_
                              exact hB_303 S_48 x3_8 v_9 (0 : Int32) _ _ _ _ _ (by omega) (by omega) hw hS (lv_sub hl [8, 6, 5] rfl) hf
                            · rw [if_pos hc] at hf
                              refine lv_aload_n cx.1 cx.2.1 dL_scripts_256 rfl (lv_at hl 8 rfl) ?_
                              refine lv_iconst (v := (1 : Int32)) cx.1 cx.2.1 dL_scripts_257 (by decide) ?_
                              refine lv_lconst (v := (0 : Int64)) cx.1 cx.2.1 dL_scripts_258 (by decide) ?_
                              obtain ⟨v_49, S_50, hv, hf⟩ := gbs_some hf
                              refine a_SW (As := [.ref (G.2.1 0), .int (1 : Int32), .long (0 : Int64)]) (rest := []) cx hX hZ hw hS (a_tryScript l hst G (1 : Int32) (0 : Int64) S_48 v_49 S_50 hv) gw_690 gw_187 gyw_L_tryScript ⟨by decide, by decide⟩ ⟨Nat.le_of_ble_eq_true rfl, Nat.le_of_ble_eq_true rfl⟩ (show 0 + 2 + 1 + 2 + 1 + 1 + 1 + 2 + 2 + 2 + 2 + 2 + 2 + 2 + 2 + 2 + 2 + 2 + 2 + 2 + 2 + 2 ≤ 45 ∧ 0 + 12 + 6 + 12 + 6 + 6 + 6 + 12 + 12 + 12 + 12 + 12 + 12 + 12 + 12 + 12 + 12 + 12 + 12 + 12 + 12 + 12 ≤ 270 from ⟨by omega, by omega⟩) rfl hl.1 rfl (Nat.le_of_ble_eq_true rfl) dL_scripts_259 (fun H locs hw hS => ?_)
                              refine W.eq (g2 := F0 m 262 ls [.int v_49]) rfl ?_
                              refine lv_if_ne (tgt := 302) cx.1 cx.2.1 dL_scripts_262 (by decide) (fun hc => ?_) (fun hc => ?_)
                              · rw [if_neg hc] at hf
                                refine lv_iconst (v := (0 : Int32)) cx.1 cx.2.1 dL_scripts_302 (by decide) ?_
                                exact hB_303 S_50 x3_8 v_9 (0 : Int32) _ _ _ _ _ (by omega) (by omega) hw hS (lv_sub hl [8, 6, 5] rfl) hf
                              · rw [if_pos hc] at hf
                                refine lv_iload cx.1 cx.2.1 dL_scripts_265 (lv_at hl 0 rfl) ?_
                                refine lv_if_le (tgt := 302) cx.1 cx.2.1 dL_scripts_267 (by decide) (fun hc => ?_) (fun hc => ?_)
                                · rw [if_pos hc] at hf
                                  refine lv_iconst (v := (0 : Int32)) cx.1 cx.2.1 dL_scripts_302 (by decide) ?_
                                  exact hB_303 S_50 x3_8 v_9 (0 : Int32) _ _ _ _ _ (by omega) (by omega) hw hS (lv_sub hl [8, 6, 5] rfl) hf
                                · rw [if_neg hc] at hf
                                  refine lv_iload cx.1 cx.2.1 dL_scripts_270 (lv_at hl 0 rfl) ?_
                                  refine lv_sipush (v := (10000 : Int32)) cx.1 cx.2.1 dL_scripts_272 (by decide) ?_
                                  refine lv_idiv cx.1 cx.2.1 dL_scripts_275 (by decide) ?_
                                  refine lv_iload cx.1 cx.2.1 dL_scripts_276 (lv_at hl 4 rfl) ?_
                                  refine lv_icmp_lt (tgt := 302) cx.1 cx.2.1 dL_scripts_278 (by decide) (fun hc => ?_) (fun hc => ?_)
                                  · rw [if_pos hc] at hf
                                    refine lv_iconst (v := (0 : Int32)) cx.1 cx.2.1 dL_scripts_302 (by decide) ?_
                                    exact hB_303 S_50 x3_8 v_9 (0 : Int32) _ _ _ _ _ (by omega) (by omega) hw hS (lv_sub hl [8, 6, 5] rfl) hf
                                  · rw [if_neg hc] at hf
                                    refine lv_iload cx.1 cx.2.1 dL_scripts_281 (lv_at hl 0 rfl) ?_
                                    refine lv_aload_n cx.1 cx.2.1 dL_scripts_283 rfl (lv_at hl 8 rfl) ?_
                                    refine lv_iload_n cx.1 cx.2.1 dL_scripts_284 rfl (lv_at hl 9 rfl) ?_
                                    refine lv_i2l cx.1 cx.2.1 dL_scripts_285 rfl ?_
                                    refine lv_ldc2 cx.1 cx.2.1 cx.2.2.2.1 (cx.2.2.2.2.ts _ gw_875) dL_scripts_286 ?_
                                    refine lv_lmul cx.1 cx.2.1 dL_scripts_289 ?_
                                    refine lv_bipush (v := (10 : Int32)) cx.1 cx.2.1 dL_scripts_290 (by decide) ?_
                                    obtain ⟨v_51, S_52, hv, hf⟩ := gbs_some hf
                                    refine a_SW (As := [.ref (G.2.1 0), .long (a1.toInt64 * (197 : Int64)), .int (10 : Int32)]) (rest := [.int v_19]) cx hX hZ hw hS (a_trySimulate l hst G (a1.toInt64 * (197 : Int64)) (10 : Int32) S_50 v_51 S_52 hv) gw_747 gw_187 gyw_L_trySimulate ⟨by decide, by decide⟩ ⟨Nat.le_of_ble_eq_true rfl, Nat.le_of_ble_eq_true rfl⟩ (show 0 + 2 + 1 + 2 + 1 + 1 + 1 + 2 + 2 + 2 + 2 + 2 + 2 + 2 + 2 + 2 + 2 + 2 + 2 + 2 + 2 + 2 + 1 ≤ 45 ∧ 0 + 12 + 6 + 12 + 6 + 6 + 6 + 12 + 12 + 12 + 12 + 12 + 12 + 12 + 12 + 12 + 12 + 12 + 12 + 12 + 12 + 12 + 6 ≤ 270 from ⟨by omega, by omega⟩) rfl hl.1 rfl (Nat.le_of_ble_eq_true rfl) dL_scripts_292 (fun H locs hw hS => ?_)
                                    refine W.eq (g2 := F0 m 295 ls [.int v_51, .int v_19]) rfl ?_
                                    refine lv_icmp_ne (tgt := 302) cx.1 cx.2.1 dL_scripts_295 (by decide) (fun hc => ?_) (fun hc => ?_)
                                    · rw [if_neg hc] at hf
                                      refine lv_iconst (v := (0 : Int32)) cx.1 cx.2.1 dL_scripts_302 (by decide) ?_
                                      exact hB_303 S_52 x3_8 v_9 (0 : Int32) _ _ _ _ _ (by omega) (by omega) hw hS (lv_sub hl [8, 6, 5] rfl) hf
                                    · rw [if_pos hc] at hf
                                      refine lv_iconst (v := (1 : Int32)) cx.1 cx.2.1 dL_scripts_298 (by decide) ?_
                                      refine lv_goto (tgt := 303) cx.1 cx.2.1 dL_scripts_299 (by decide) ?_
                                      exact hB_303 S_52 x3_8 v_9 (1 : Int32) _ _ _ _ _ (by omega) (by omega) hw hS (lv_sub hl [8, 6, 5] rfl) hf
set_option maxHeartbeats 8000000 in
set_option maxRecDepth 100000 in
theorem a_act (l : Launch) (hst : l.stackTraces = false) (G : gG) (a1 : Int32) (a2 : Int32) (S : At) (r : Int32) (S' : At) (hf : h_act a1 a2 S = some (r, S')) : gC l yL_act [Cond.code yL_act cL_act 8 (some .int)] (gRx 11 214 9 54) G (gNo G) E0 (gPA G S) [.ref (G.2.1 0), .int a1, .int a2] (some (.int r)) (gPA G S') 9 54 := by
  refine gC_of (by decide) (Nat.le_of_ble_eq_true rfl) ?_
  intro p e s m below meth c ls cx hE hX hZ hr hlk hw hS hl
  have hN := cx.2.2.2.2.hN
  have hB_173 : ∀ (S : At) (t0 : Int32) (t1 : Int32) (H : Heap) (locs : List Loc) (ls : Array Slot) (cells slots : Nat), cells + (3) ≤ 9 → slots + (18) ≤ 54 → gPA G S H → va_S (gAr (gNo G) s.heap.size) s.heap H locs → lv_has ls 8 [] → B_act_173 S t0 t1 = some (r, S') → W p l e (gRx 11 214 9 54) s m ([.ref (G.2.1 0), .int a1, .int a2] : List Value).toArray below meth c H locs cells slots (MQ below (gQr (gPA G S') (some (.int r)) (gAr (gNo G) s.heap.size)) ([.ref (G.2.1 0), .int a1, .int a2] : List Value).toArray s 9 54 (gAr (gNo G) s.heap.size)) (F0 m 173 ls [.int t0, .int t1, .ref (G.2.1 0)]) := by
    intro S t0 t1 H locs ls cells slots hcl hsl hw hS hl hf
    unfold B_act_173 at hf
    obtain ⟨v_1, S_2, hv, hf⟩ := gbs_some hf
    refine a_SW (As := [.ref (G.2.1 0), .int t1, .int t0]) (rest := []) cx hX hZ hw hS (a_tryBuyTrain l hst G t1 t0 S v_1 S_2 hv) gw_468 gw_187 gyw_L_tryBuyTrain ⟨by decide, by decide⟩ ⟨Nat.le_of_ble_eq_true rfl, Nat.le_of_ble_eq_true rfl⟩ (show cells + 3 ≤ 9 ∧ slots + 18 ≤ 54 from ⟨by omega, by omega⟩) rfl hl.1 rfl (Nat.le_of_ble_eq_true rfl) dL_act_173 (fun H locs hw hS => ?_)
    refine W.eq (g2 := F0 m 176 ls [.int v_1]) rfl ?_
    exact al_ireti (P := (gPA G)) cx hr hlk hw hS hf dL_act_176 (by omega) (by omega)
  have hB_28 : ∀ (S : At) (x1 : Int32) (x2 : Int32) (x3 : Int32) (t0 : Int32) (H : Heap) (locs : List Loc) (ls : Array Slot) (cells slots : Nat), cells + (7) ≤ 9 → slots + (42) ≤ 54 → gPA G S H → va_S (gAr (gNo G) s.heap.size) s.heap H locs → lv_has ls 8 [(0, .ref (G.2.1 0)), (1, .int x1), (2, .int x2), (3, .int x3)] → B_act_28 S x1 x2 x3 t0 = some (r, S') → W p l e (gRx 11 214 9 54) s m ([.ref (G.2.1 0), .int a1, .int a2] : List Value).toArray below meth c H locs cells slots (MQ below (gQr (gPA G S') (some (.int r)) (gAr (gNo G) s.heap.size)) ([.ref (G.2.1 0), .int a1, .int a2] : List Value).toArray s 9 54 (gAr (gNo G) s.heap.size)) (F0 m 28 ls [.int t0]) := by
    intro S x1 x2 x3 t0 H locs ls cells slots hcl hsl hw hS hl hf
    unfold B_act_28 at hf
    refine lv_istore (lv' := [(5, .int t0), (0, .ref (G.2.1 0)), (1, .int x1), (2, .int x2), (3, .int x3)]) cx.1 cx.2.1 dL_act_28 hl (by decide) rfl (fun ls hl => ?_)
    refine lv_aload_n cx.1 cx.2.1 dL_act_30 rfl (lv_at hl 1 rfl) ?_
    refine lv_iconst (v := (3 : Int32)) cx.1 cx.2.1 dL_act_31 (by decide) ?_
    obtain ⟨v_3, S_4, hv, hf⟩ := gbs_some hf
    refine a_SW (As := [.ref (G.2.1 0), .int (3 : Int32)]) (rest := []) cx hX hZ hw hS (a_tryAbout l hst G (3 : Int32) S v_3 S_4 hv) gw_185 gw_187 gyw_L_tryAbout ⟨by decide, by decide⟩ ⟨Nat.le_of_ble_eq_true rfl, Nat.le_of_ble_eq_true rfl⟩ (show cells + 1 ≤ 9 ∧ slots + 6 ≤ 54 from ⟨by omega, by omega⟩) rfl hl.1 rfl (Nat.le_of_ble_eq_true rfl) dL_act_32 (fun H locs hw hS => ?_)
    refine W.eq (g2 := F0 m 35 ls [.int v_3]) rfl ?_
    refine lv_istore (lv' := [(6, .int v_3), (5, .int t0), (0, .ref (G.2.1 0)), (1, .int x1), (2, .int x2), (3, .int x3)]) cx.1 cx.2.1 dL_act_35 hl (by decide) rfl (fun ls hl => ?_)
    refine lv_iload cx.1 cx.2.1 dL_act_37 (lv_at hl 0 rfl) ?_
    refine lv_iconst (v := (1 : Int32)) cx.1 cx.2.1 dL_act_39 (by decide) ?_
    refine lv_isub cx.1 cx.2.1 dL_act_40 ?_
    refine lv_iload_n cx.1 cx.2.1 dL_act_41 rfl (lv_at hl 4 rfl) ?_
    refine lv_iconst (v := (4 : Int32)) cx.1 cx.2.1 dL_act_42 (by decide) ?_
    refine lv_idiv cx.1 cx.2.1 dL_act_43 (by decide) ?_
    refine lv_iconst (v := (3 : Int32)) cx.1 cx.2.1 dL_act_44 (by decide) ?_
    refine lv_irem cx.1 cx.2.1 dL_act_45 (by decide) ?_
    refine lv_iadd cx.1 cx.2.1 dL_act_46 ?_
    obtain ⟨x7_5, ex7_5, hf⟩ := gvi_ex hf
    refine W.eq (g2 := F0 m 47 ls [.int x7_5]) (by rw [← ex7_5]) ?_
    refine lv_istore (lv' := [(7, .int x7_5), (6, .int v_3), (5, .int t0), (0, .ref (G.2.1 0)), (1, .int x1), (2, .int x2), (3, .int x3)]) cx.1 cx.2.1 dL_act_47 hl (by decide) rfl (fun ls hl => ?_)
    refine lv_iload_n cx.1 cx.2.1 dL_act_49 rfl (lv_at hl 4 rfl) ?_
    refine lv_bipush (v := (16 : Int32)) cx.1 cx.2.1 dL_act_50 (by decide) ?_
    refine lv_irem cx.1 cx.2.1 dL_act_52 (by decide) ?_
    by_cases hs_10 : (x1 - x1 / (16 : Int32) * (16 : Int32)) = (0 : Int32)
    · rw [if_pos hs_10] at hf
      refine lv_tableIn (off := 75) (tgt := 128) cx.1 cx.2.1 dL_act_53 (by rw [hs_10]; decide) (by rw [hs_10]; decide) (by rw [hs_10]; decide) (by decide) ?_
      refine lv_aload_n cx.1 cx.2.1 dL_act_128 rfl (lv_at hl 3 rfl) ?_
      refine lv_iload_n cx.1 cx.2.1 dL_act_129 rfl (lv_at hl 5 rfl) ?_
      refine lv_iconst (v := (4 : Int32)) cx.1 cx.2.1 dL_act_130 (by decide) ?_
      refine lv_irem cx.1 cx.2.1 dL_act_131 (by decide) ?_
      refine lv_iload_n cx.1 cx.2.1 dL_act_132 rfl (lv_at hl 5 rfl) ?_
      refine lv_iconst (v := (4 : Int32)) cx.1 cx.2.1 dL_act_133 (by decide) ?_
      refine lv_idiv cx.1 cx.2.1 dL_act_134 (by decide) ?_
      refine lv_aload_n cx.1 cx.2.1 dL_act_135 rfl (lv_at hl 3 rfl) ?_
      refine lv_iconst (v := (1 : Int32)) cx.1 cx.2.1 dL_act_136 (by decide) ?_
      obtain ⟨v_6, S_7, hv, hf⟩ := gbs_some hf
      refine a_SW (As := [.ref (G.2.1 0), .int (1 : Int32)]) (rest := [.int (x2 / (4 : Int32)), .int (x2 - x2 / (4 : Int32) * (4 : Int32)), .ref (G.2.1 0)]) cx hX hZ hw hS (a_tryAbout l hst G (1 : Int32) S_4 v_6 S_7 hv) gw_185 gw_187 gyw_L_tryAbout ⟨by decide, by decide⟩ ⟨Nat.le_of_ble_eq_true rfl, Nat.le_of_ble_eq_true rfl⟩ (show cells + 1 + 1 ≤ 9 ∧ slots + 6 + 6 ≤ 54 from ⟨by omega, by omega⟩) rfl hl.1 rfl (Nat.le_of_ble_eq_true rfl) dL_act_137 (fun H locs hw hS => ?_)
      refine W.eq (g2 := F0 m 140 ls [.int v_6, .int (x2 / (4 : Int32)), .int (x2 - x2 / (4 : Int32) * (4 : Int32)), .ref (G.2.1 0)]) rfl ?_
      obtain ⟨hne, hf⟩ := gck_some hf
      refine lv_irem cx.1 cx.2.1 dL_act_140 (by simpa using hne) ?_
      obtain ⟨v_8, S_9, hv, hf⟩ := gbs_some hf
      refine a_SW (As := [.ref (G.2.1 0), .int (x2 - x2 / (4 : Int32) * (4 : Int32)), .int ((x2 / (4 : Int32)) - (x2 / (4 : Int32)) / v_6 * v_6)]) (rest := []) cx hX hZ hw hS (a_tryBuyTrack l hst G (x2 - x2 / (4 : Int32) * (4 : Int32)) ((x2 / (4 : Int32)) - (x2 / (4 : Int32)) / v_6 * v_6) S_7 v_8 S_9 hv) gw_437 gw_187 gyw_L_tryBuyTrack ⟨by decide, by decide⟩ ⟨Nat.le_of_ble_eq_true rfl, Nat.le_of_ble_eq_true rfl⟩ (show cells + 1 + 1 + 3 ≤ 9 ∧ slots + 6 + 6 + 18 ≤ 54 from ⟨by omega, by omega⟩) rfl hl.1 rfl (Nat.le_of_ble_eq_true rfl) dL_act_141 (fun H locs hw hS => ?_)
      refine W.eq (g2 := F0 m 144 ls [.int v_8]) rfl ?_
      exact al_ireti (P := (gPA G)) cx hr hlk hw hS hf dL_act_144 (by omega) (by omega)
    rw [if_neg hs_10] at hf
    by_cases hs_15 : (x1 - x1 / (16 : Int32) * (16 : Int32)) = (1 : Int32)
    · rw [if_pos hs_15] at hf
      refine lv_tableIn (off := 75) (tgt := 128) cx.1 cx.2.1 dL_act_53 (by rw [hs_15]; decide) (by rw [hs_15]; decide) (by rw [hs_15]; decide) (by decide) ?_
      refine lv_aload_n cx.1 cx.2.1 dL_act_128 rfl (lv_at hl 3 rfl) ?_
      refine lv_iload_n cx.1 cx.2.1 dL_act_129 rfl (lv_at hl 5 rfl) ?_
      refine lv_iconst (v := (4 : Int32)) cx.1 cx.2.1 dL_act_130 (by decide) ?_
      refine lv_irem cx.1 cx.2.1 dL_act_131 (by decide) ?_
      refine lv_iload_n cx.1 cx.2.1 dL_act_132 rfl (lv_at hl 5 rfl) ?_
      refine lv_iconst (v := (4 : Int32)) cx.1 cx.2.1 dL_act_133 (by decide) ?_
      refine lv_idiv cx.1 cx.2.1 dL_act_134 (by decide) ?_
      refine lv_aload_n cx.1 cx.2.1 dL_act_135 rfl (lv_at hl 3 rfl) ?_
      refine lv_iconst (v := (1 : Int32)) cx.1 cx.2.1 dL_act_136 (by decide) ?_
      obtain ⟨v_11, S_12, hv, hf⟩ := gbs_some hf
      refine a_SW (As := [.ref (G.2.1 0), .int (1 : Int32)]) (rest := [.int (x2 / (4 : Int32)), .int (x2 - x2 / (4 : Int32) * (4 : Int32)), .ref (G.2.1 0)]) cx hX hZ hw hS (a_tryAbout l hst G (1 : Int32) S_4 v_11 S_12 hv) gw_185 gw_187 gyw_L_tryAbout ⟨by decide, by decide⟩ ⟨Nat.le_of_ble_eq_true rfl, Nat.le_of_ble_eq_true rfl⟩ (show cells + 1 + 1 ≤ 9 ∧ slots + 6 + 6 ≤ 54 from ⟨by omega, by omega⟩) rfl hl.1 rfl (Nat.le_of_ble_eq_true rfl) dL_act_137 (fun H locs hw hS => ?_)
      refine W.eq (g2 := F0 m 140 ls [.int v_11, .int (x2 / (4 : Int32)), .int (x2 - x2 / (4 : Int32) * (4 : Int32)), .ref (G.2.1 0)]) rfl ?_
      obtain ⟨hne, hf⟩ := gck_some hf
      refine lv_irem cx.1 cx.2.1 dL_act_140 (by simpa using hne) ?_
      obtain ⟨v_13, S_14, hv, hf⟩ := gbs_some hf
      refine a_SW (As := [.ref (G.2.1 0), .int (x2 - x2 / (4 : Int32) * (4 : Int32)), .int ((x2 / (4 : Int32)) - (x2 / (4 : Int32)) / v_11 * v_11)]) (rest := []) cx hX hZ hw hS (a_tryBuyTrack l hst G (x2 - x2 / (4 : Int32) * (4 : Int32)) ((x2 / (4 : Int32)) - (x2 / (4 : Int32)) / v_11 * v_11) S_12 v_13 S_14 hv) gw_437 gw_187 gyw_L_tryBuyTrack ⟨by decide, by decide⟩ ⟨Nat.le_of_ble_eq_true rfl, Nat.le_of_ble_eq_true rfl⟩ (show cells + 1 + 1 + 3 ≤ 9 ∧ slots + 6 + 6 + 18 ≤ 54 from ⟨by omega, by omega⟩) rfl hl.1 rfl (Nat.le_of_ble_eq_true rfl) dL_act_141 (fun H locs hw hS => ?_)
      refine W.eq (g2 := F0 m 144 ls [.int v_13]) rfl ?_
      exact al_ireti (P := (gPA G)) cx hr hlk hw hS hf dL_act_144 (by omega) (by omega)
    rw [if_neg hs_15] at hf
    by_cases hs_16 : (x1 - x1 / (16 : Int32) * (16 : Int32)) = (2 : Int32)
    · rw [if_pos hs_16] at hf
      refine lv_tableIn (off := 92) (tgt := 145) cx.1 cx.2.1 dL_act_53 (by rw [hs_16]; decide) (by rw [hs_16]; decide) (by rw [hs_16]; decide) (by decide) ?_
      refine lv_aload_n cx.1 cx.2.1 dL_act_145 rfl (lv_at hl 3 rfl) ?_
      refine lv_iload_n cx.1 cx.2.1 dL_act_146 rfl (lv_at hl 5 rfl) ?_
      refine lv_iconst (v := (4 : Int32)) cx.1 cx.2.1 dL_act_147 (by decide) ?_
      refine lv_irem cx.1 cx.2.1 dL_act_148 (by decide) ?_
      refine lv_iload cx.1 cx.2.1 dL_act_149 (lv_at hl 0 rfl) ?_
      refine lv_iconst (v := (1 : Int32)) cx.1 cx.2.1 dL_act_151 (by decide) ?_
      refine lv_icmp_ge (tgt := 159) cx.1 cx.2.1 dL_act_152 (by decide) (fun hc => ?_) (fun hc => ?_)
      · rw [if_pos hc] at hf
        refine lv_iload cx.1 cx.2.1 dL_act_159 (lv_at hl 0 rfl) ?_
        refine lv_bipush (v := (6 : Int32)) cx.1 cx.2.1 dL_act_161 (by decide) ?_
        refine lv_icmp_le (tgt := 171) cx.1 cx.2.1 dL_act_163 (by decide) (fun hc => ?_) (fun hc => ?_)
        · rw [if_pos hc] at hf
          refine lv_iload cx.1 cx.2.1 dL_act_171 (lv_at hl 0 rfl) ?_
          exact hB_173 S_4 x7_5 (x2 - x2 / (4 : Int32) * (4 : Int32)) _ _ _ _ _ (by omega) (by omega) hw hS (lv_sub hl [] rfl) hf
        · rw [if_neg hc] at hf
          refine lv_bipush (v := (6 : Int32)) cx.1 cx.2.1 dL_act_166 (by decide) ?_
          refine lv_goto (tgt := 173) cx.1 cx.2.1 dL_act_168 (by decide) ?_
          exact hB_173 S_4 (6 : Int32) (x2 - x2 / (4 : Int32) * (4 : Int32)) _ _ _ _ _ (by omega) (by omega) hw hS (lv_sub hl [] rfl) hf
      · rw [if_neg hc] at hf
        refine lv_iconst (v := (1 : Int32)) cx.1 cx.2.1 dL_act_155 (by decide) ?_
        refine lv_goto (tgt := 173) cx.1 cx.2.1 dL_act_156 (by decide) ?_
        exact hB_173 S_4 (1 : Int32) (x2 - x2 / (4 : Int32) * (4 : Int32)) _ _ _ _ _ (by omega) (by omega) hw hS (lv_sub hl [] rfl) hf
    rw [if_neg hs_16] at hf
    by_cases hs_17 : (x1 - x1 / (16 : Int32) * (16 : Int32)) = (3 : Int32)
    · rw [if_pos hs_17] at hf
      refine lv_tableIn (off := 92) (tgt := 145) cx.1 cx.2.1 dL_act_53 (by rw [hs_17]; decide) (by rw [hs_17]; decide) (by rw [hs_17]; decide) (by decide) ?_
      refine lv_aload_n cx.1 cx.2.1 dL_act_145 rfl (lv_at hl 3 rfl) ?_
      refine lv_iload_n cx.1 cx.2.1 dL_act_146 rfl (lv_at hl 5 rfl) ?_
      refine lv_iconst (v := (4 : Int32)) cx.1 cx.2.1 dL_act_147 (by decide) ?_
      refine lv_irem cx.1 cx.2.1 dL_act_148 (by decide) ?_
      refine lv_iload cx.1 cx.2.1 dL_act_149 (lv_at hl 0 rfl) ?_
      refine lv_iconst (v := (1 : Int32)) cx.1 cx.2.1 dL_act_151 (by decide) ?_
      refine lv_icmp_ge (tgt := 159) cx.1 cx.2.1 dL_act_152 (by decide) (fun hc => ?_) (fun hc => ?_)
      · rw [if_pos hc] at hf
        refine lv_iload cx.1 cx.2.1 dL_act_159 (lv_at hl 0 rfl) ?_
        refine lv_bipush (v := (6 : Int32)) cx.1 cx.2.1 dL_act_161 (by decide) ?_
        refine lv_icmp_le (tgt := 171) cx.1 cx.2.1 dL_act_163 (by decide) (fun hc => ?_) (fun hc => ?_)
        · rw [if_pos hc] at hf
          refine lv_iload cx.1 cx.2.1 dL_act_171 (lv_at hl 0 rfl) ?_
          exact hB_173 S_4 x7_5 (x2 - x2 / (4 : Int32) * (4 : Int32)) _ _ _ _ _ (by omega) (by omega) hw hS (lv_sub hl [] rfl) hf
        · rw [if_neg hc] at hf
          refine lv_bipush (v := (6 : Int32)) cx.1 cx.2.1 dL_act_166 (by decide) ?_
          refine lv_goto (tgt := 173) cx.1 cx.2.1 dL_act_168 (by decide) ?_
          exact hB_173 S_4 (6 : Int32) (x2 - x2 / (4 : Int32) * (4 : Int32)) _ _ _ _ _ (by omega) (by omega) hw hS (lv_sub hl [] rfl) hf
      · rw [if_neg hc] at hf
        refine lv_iconst (v := (1 : Int32)) cx.1 cx.2.1 dL_act_155 (by decide) ?_
        refine lv_goto (tgt := 173) cx.1 cx.2.1 dL_act_156 (by decide) ?_
        exact hB_173 S_4 (1 : Int32) (x2 - x2 / (4 : Int32) * (4 : Int32)) _ _ _ _ _ (by omega) (by omega) hw hS (lv_sub hl [] rfl) hf
    rw [if_neg hs_17] at hf
    by_cases hs_20 : (x1 - x1 / (16 : Int32) * (16 : Int32)) = (4 : Int32)
    · rw [if_pos hs_20] at hf
      refine lv_tableIn (off := 124) (tgt := 177) cx.1 cx.2.1 dL_act_53 (by rw [hs_20]; decide) (by rw [hs_20]; decide) (by rw [hs_20]; decide) (by decide) ?_
      refine lv_aload_n cx.1 cx.2.1 dL_act_177 rfl (lv_at hl 3 rfl) ?_
      refine lv_iload_n cx.1 cx.2.1 dL_act_178 rfl (lv_at hl 5 rfl) ?_
      refine lv_iconst (v := (4 : Int32)) cx.1 cx.2.1 dL_act_179 (by decide) ?_
      refine lv_irem cx.1 cx.2.1 dL_act_180 (by decide) ?_
      refine lv_iload_n cx.1 cx.2.1 dL_act_181 rfl (lv_at hl 5 rfl) ?_
      refine lv_iconst (v := (4 : Int32)) cx.1 cx.2.1 dL_act_182 (by decide) ?_
      refine lv_idiv cx.1 cx.2.1 dL_act_183 (by decide) ?_
      refine lv_bipush (v := (10 : Int32)) cx.1 cx.2.1 dL_act_184 (by decide) ?_
      refine lv_irem cx.1 cx.2.1 dL_act_186 (by decide) ?_
      obtain ⟨v_18, S_19, hv, hf⟩ := gbs_some hf
      refine a_SW (As := [.ref (G.2.1 0), .int (x2 - x2 / (4 : Int32) * (4 : Int32)), .int ((x2 / (4 : Int32)) - (x2 / (4 : Int32)) / (10 : Int32) * (10 : Int32))]) (rest := []) cx hX hZ hw hS (a_trySetRent l hst G (x2 - x2 / (4 : Int32) * (4 : Int32)) ((x2 / (4 : Int32)) - (x2 / (4 : Int32)) / (10 : Int32) * (10 : Int32)) S_4 v_18 S_19 hv) gw_492 gw_187 gyw_L_trySetRent ⟨by decide, by decide⟩ ⟨Nat.le_of_ble_eq_true rfl, Nat.le_of_ble_eq_true rfl⟩ (show cells + 1 + 2 ≤ 9 ∧ slots + 6 + 12 ≤ 54 from ⟨by omega, by omega⟩) rfl hl.1 rfl (Nat.le_of_ble_eq_true rfl) dL_act_187 (fun H locs hw hS => ?_)
      refine W.eq (g2 := F0 m 190 ls [.int v_18]) rfl ?_
      exact al_ireti (P := (gPA G)) cx hr hlk hw hS hf dL_act_190 (by omega) (by omega)
    rw [if_neg hs_20] at hf
    by_cases hs_23 : (x1 - x1 / (16 : Int32) * (16 : Int32)) = (5 : Int32)
    · rw [if_pos hs_23] at hf
      refine lv_tableIn (off := 138) (tgt := 191) cx.1 cx.2.1 dL_act_53 (by rw [hs_23]; decide) (by rw [hs_23]; decide) (by rw [hs_23]; decide) (by decide) ?_
      refine lv_aload_n cx.1 cx.2.1 dL_act_191 rfl (lv_at hl 3 rfl) ?_
      refine lv_iload_n cx.1 cx.2.1 dL_act_192 rfl (lv_at hl 5 rfl) ?_
      refine lv_iload_n cx.1 cx.2.1 dL_act_193 rfl (lv_at hl 6 rfl) ?_
      obtain ⟨hne, hf⟩ := gck_some hf
      refine lv_irem cx.1 cx.2.1 dL_act_194 (by simpa using hne) ?_
      refine lv_iload_n cx.1 cx.2.1 dL_act_195 rfl (lv_at hl 5 rfl) ?_
      refine lv_iconst (v := (1 : Int32)) cx.1 cx.2.1 dL_act_196 (by decide) ?_
      refine lv_iadd cx.1 cx.2.1 dL_act_197 ?_
      refine lv_iload_n cx.1 cx.2.1 dL_act_198 rfl (lv_at hl 5 rfl) ?_
      refine lv_bipush (v := (16 : Int32)) cx.1 cx.2.1 dL_act_199 (by decide) ?_
      refine lv_idiv cx.1 cx.2.1 dL_act_201 (by decide) ?_
      refine lv_iload_n cx.1 cx.2.1 dL_act_202 rfl (lv_at hl 6 rfl) ?_
      refine lv_iconst (v := (1 : Int32)) cx.1 cx.2.1 dL_act_203 (by decide) ?_
      refine lv_isub cx.1 cx.2.1 dL_act_204 ?_
      obtain ⟨hne, hf⟩ := gck_some hf
      refine lv_irem cx.1 cx.2.1 dL_act_205 (by simpa using hne) ?_
      refine lv_iadd cx.1 cx.2.1 dL_act_206 ?_
      refine lv_iload_n cx.1 cx.2.1 dL_act_207 rfl (lv_at hl 6 rfl) ?_
      obtain ⟨hne, hf⟩ := gck_some hf
      refine lv_irem cx.1 cx.2.1 dL_act_208 (by simpa using hne) ?_
      refine lv_iconst (v := (1 : Int32)) cx.1 cx.2.1 dL_act_209 (by decide) ?_
      refine lv_iload_n cx.1 cx.2.1 dL_act_210 rfl (lv_at hl 5 rfl) ?_
      refine lv_sipush (v := (256 : Int32)) cx.1 cx.2.1 dL_act_211 (by decide) ?_
      refine lv_idiv cx.1 cx.2.1 dL_act_214 (by decide) ?_
      refine lv_bipush (v := (60 : Int32)) cx.1 cx.2.1 dL_act_215 (by decide) ?_
      refine lv_irem cx.1 cx.2.1 dL_act_217 (by decide) ?_
      refine lv_iadd cx.1 cx.2.1 dL_act_218 ?_
      refine lv_iconst (v := (1 : Int32)) cx.1 cx.2.1 dL_act_219 (by decide) ?_
      refine lv_iload_n cx.1 cx.2.1 dL_act_220 rfl (lv_at hl 5 rfl) ?_
      refine lv_ldc cx.1 cx.2.1 cx.2.2.2.1 (cx.2.2.2.2.ts _ gw_866) dL_act_221 ?_
      refine lv_idiv cx.1 cx.2.1 dL_act_223 (by decide) ?_
      refine lv_bipush (v := (9 : Int32)) cx.1 cx.2.1 dL_act_224 (by decide) ?_
      refine lv_irem cx.1 cx.2.1 dL_act_226 (by decide) ?_
      refine lv_iadd cx.1 cx.2.1 dL_act_227 ?_
      obtain ⟨v_21, S_22, hv, hf⟩ := gbs_some hf
      refine a_SW (As := [.ref (G.2.1 0), .int (x2 - x2 / x3 * x3), .int (((x2 + (1 : Int32)) + ((x2 / (16 : Int32)) - (x2 / (16 : Int32)) / (x3 - (1 : Int32)) * (x3 - (1 : Int32)))) - ((x2 + (1 : Int32)) + ((x2 / (16 : Int32)) - (x2 / (16 : Int32)) / (x3 - (1 : Int32)) * (x3 - (1 : Int32)))) / x3 * x3), .int ((1 : Int32) + ((x2 / (256 : Int32)) - (x2 / (256 : Int32)) / (60 : Int32) * (60 : Int32))), .int ((1 : Int32) + ((x2 / (32768 : Int32)) - (x2 / (32768 : Int32)) / (9 : Int32) * (9 : Int32)))]) (rest := []) cx hX hZ hw hS (a_tryOffer l hst G (x2 - x2 / x3 * x3) (((x2 + (1 : Int32)) + ((x2 / (16 : Int32)) - (x2 / (16 : Int32)) / (x3 - (1 : Int32)) * (x3 - (1 : Int32)))) - ((x2 + (1 : Int32)) + ((x2 / (16 : Int32)) - (x2 / (16 : Int32)) / (x3 - (1 : Int32)) * (x3 - (1 : Int32)))) / x3 * x3) ((1 : Int32) + ((x2 / (256 : Int32)) - (x2 / (256 : Int32)) / (60 : Int32) * (60 : Int32))) ((1 : Int32) + ((x2 / (32768 : Int32)) - (x2 / (32768 : Int32)) / (9 : Int32) * (9 : Int32))) S_4 v_21 S_22 hv) gw_503 gw_187 gyw_L_tryOffer ⟨by decide, by decide⟩ ⟨Nat.le_of_ble_eq_true rfl, Nat.le_of_ble_eq_true rfl⟩ (show cells + 1 + 6 ≤ 9 ∧ slots + 6 + 36 ≤ 54 from ⟨by omega, by omega⟩) rfl hl.1 rfl (Nat.le_of_ble_eq_true rfl) dL_act_228 (fun H locs hw hS => ?_)
      refine W.eq (g2 := F0 m 231 ls [.int v_21]) rfl ?_
      exact al_ireti (P := (gPA G)) cx hr hlk hw hS hf dL_act_231 (by omega) (by omega)
    rw [if_neg hs_23] at hf
    by_cases hs_26 : (x1 - x1 / (16 : Int32) * (16 : Int32)) = (6 : Int32)
    · rw [if_pos hs_26] at hf
      refine lv_tableIn (off := 138) (tgt := 191) cx.1 cx.2.1 dL_act_53 (by rw [hs_26]; decide) (by rw [hs_26]; decide) (by rw [hs_26]; decide) (by decide) ?_
      refine lv_aload_n cx.1 cx.2.1 dL_act_191 rfl (lv_at hl 3 rfl) ?_
      refine lv_iload_n cx.1 cx.2.1 dL_act_192 rfl (lv_at hl 5 rfl) ?_
      refine lv_iload_n cx.1 cx.2.1 dL_act_193 rfl (lv_at hl 6 rfl) ?_
      obtain ⟨hne, hf⟩ := gck_some hf
      refine lv_irem cx.1 cx.2.1 dL_act_194 (by simpa using hne) ?_
      refine lv_iload_n cx.1 cx.2.1 dL_act_195 rfl (lv_at hl 5 rfl) ?_
      refine lv_iconst (v := (1 : Int32)) cx.1 cx.2.1 dL_act_196 (by decide) ?_
      refine lv_iadd cx.1 cx.2.1 dL_act_197 ?_
      refine lv_iload_n cx.1 cx.2.1 dL_act_198 rfl (lv_at hl 5 rfl) ?_
      refine lv_bipush (v := (16 : Int32)) cx.1 cx.2.1 dL_act_199 (by decide) ?_
      refine lv_idiv cx.1 cx.2.1 dL_act_201 (by decide) ?_
      refine lv_iload_n cx.1 cx.2.1 dL_act_202 rfl (lv_at hl 6 rfl) ?_
      refine lv_iconst (v := (1 : Int32)) cx.1 cx.2.1 dL_act_203 (by decide) ?_
      refine lv_isub cx.1 cx.2.1 dL_act_204 ?_
      obtain ⟨hne, hf⟩ := gck_some hf
      refine lv_irem cx.1 cx.2.1 dL_act_205 (by simpa using hne) ?_
      refine lv_iadd cx.1 cx.2.1 dL_act_206 ?_
      refine lv_iload_n cx.1 cx.2.1 dL_act_207 rfl (lv_at hl 6 rfl) ?_
      obtain ⟨hne, hf⟩ := gck_some hf
      refine lv_irem cx.1 cx.2.1 dL_act_208 (by simpa using hne) ?_
      refine lv_iconst (v := (1 : Int32)) cx.1 cx.2.1 dL_act_209 (by decide) ?_
      refine lv_iload_n cx.1 cx.2.1 dL_act_210 rfl (lv_at hl 5 rfl) ?_
      refine lv_sipush (v := (256 : Int32)) cx.1 cx.2.1 dL_act_211 (by decide) ?_
      refine lv_idiv cx.1 cx.2.1 dL_act_214 (by decide) ?_
      refine lv_bipush (v := (60 : Int32)) cx.1 cx.2.1 dL_act_215 (by decide) ?_
      refine lv_irem cx.1 cx.2.1 dL_act_217 (by decide) ?_
      refine lv_iadd cx.1 cx.2.1 dL_act_218 ?_
      refine lv_iconst (v := (1 : Int32)) cx.1 cx.2.1 dL_act_219 (by decide) ?_
      refine lv_iload_n cx.1 cx.2.1 dL_act_220 rfl (lv_at hl 5 rfl) ?_
      refine lv_ldc cx.1 cx.2.1 cx.2.2.2.1 (cx.2.2.2.2.ts _ gw_866) dL_act_221 ?_
      refine lv_idiv cx.1 cx.2.1 dL_act_223 (by decide) ?_
      refine lv_bipush (v := (9 : Int32)) cx.1 cx.2.1 dL_act_224 (by decide) ?_
      refine lv_irem cx.1 cx.2.1 dL_act_226 (by decide) ?_
      refine lv_iadd cx.1 cx.2.1 dL_act_227 ?_
      obtain ⟨v_24, S_25, hv, hf⟩ := gbs_some hf
      refine a_SW (As := [.ref (G.2.1 0), .int (x2 - x2 / x3 * x3), .int (((x2 + (1 : Int32)) + ((x2 / (16 : Int32)) - (x2 / (16 : Int32)) / (x3 - (1 : Int32)) * (x3 - (1 : Int32)))) - ((x2 + (1 : Int32)) + ((x2 / (16 : Int32)) - (x2 / (16 : Int32)) / (x3 - (1 : Int32)) * (x3 - (1 : Int32)))) / x3 * x3), .int ((1 : Int32) + ((x2 / (256 : Int32)) - (x2 / (256 : Int32)) / (60 : Int32) * (60 : Int32))), .int ((1 : Int32) + ((x2 / (32768 : Int32)) - (x2 / (32768 : Int32)) / (9 : Int32) * (9 : Int32)))]) (rest := []) cx hX hZ hw hS (a_tryOffer l hst G (x2 - x2 / x3 * x3) (((x2 + (1 : Int32)) + ((x2 / (16 : Int32)) - (x2 / (16 : Int32)) / (x3 - (1 : Int32)) * (x3 - (1 : Int32)))) - ((x2 + (1 : Int32)) + ((x2 / (16 : Int32)) - (x2 / (16 : Int32)) / (x3 - (1 : Int32)) * (x3 - (1 : Int32)))) / x3 * x3) ((1 : Int32) + ((x2 / (256 : Int32)) - (x2 / (256 : Int32)) / (60 : Int32) * (60 : Int32))) ((1 : Int32) + ((x2 / (32768 : Int32)) - (x2 / (32768 : Int32)) / (9 : Int32) * (9 : Int32))) S_4 v_24 S_25 hv) gw_503 gw_187 gyw_L_tryOffer ⟨by decide, by decide⟩ ⟨Nat.le_of_ble_eq_true rfl, Nat.le_of_ble_eq_true rfl⟩ (show cells + 1 + 6 ≤ 9 ∧ slots + 6 + 36 ≤ 54 from ⟨by omega, by omega⟩) rfl hl.1 rfl (Nat.le_of_ble_eq_true rfl) dL_act_228 (fun H locs hw hS => ?_)
      refine W.eq (g2 := F0 m 231 ls [.int v_24]) rfl ?_
      exact al_ireti (P := (gPA G)) cx hr hlk hw hS hf dL_act_231 (by omega) (by omega)
    rw [if_neg hs_26] at hf
    by_cases hs_29 : (x1 - x1 / (16 : Int32) * (16 : Int32)) = (7 : Int32)
    · rw [if_pos hs_29] at hf
      refine lv_tableIn (off := 179) (tgt := 232) cx.1 cx.2.1 dL_act_53 (by rw [hs_29]; decide) (by rw [hs_29]; decide) (by rw [hs_29]; decide) (by decide) ?_
      refine lv_aload_n cx.1 cx.2.1 dL_act_232 rfl (lv_at hl 3 rfl) ?_
      refine lv_iload_n cx.1 cx.2.1 dL_act_233 rfl (lv_at hl 5 rfl) ?_
      refine lv_iconst (v := (4 : Int32)) cx.1 cx.2.1 dL_act_234 (by decide) ?_
      refine lv_irem cx.1 cx.2.1 dL_act_235 (by decide) ?_
      refine lv_iload cx.1 cx.2.1 dL_act_236 (lv_at hl 2 rfl) ?_
      obtain ⟨v_27, S_28, hv, hf⟩ := gbs_some hf
      refine a_SW (As := [.ref (G.2.1 0), .int (x2 - x2 / (4 : Int32) * (4 : Int32)), .int t0]) (rest := []) cx hX hZ hw hS (a_tryTake l hst G (x2 - x2 / (4 : Int32) * (4 : Int32)) t0 S_4 v_27 S_28 hv) gw_512 gw_187 gyw_L_tryTake ⟨by decide, by decide⟩ ⟨Nat.le_of_ble_eq_true rfl, Nat.le_of_ble_eq_true rfl⟩ (show cells + 1 + 3 ≤ 9 ∧ slots + 6 + 18 ≤ 54 from ⟨by omega, by omega⟩) rfl hl.1 rfl (Nat.le_of_ble_eq_true rfl) dL_act_238 (fun H locs hw hS => ?_)
      refine W.eq (g2 := F0 m 241 ls [.int v_27]) rfl ?_
      exact al_ireti (P := (gPA G)) cx hr hlk hw hS hf dL_act_241 (by omega) (by omega)
    rw [if_neg hs_29] at hf
    by_cases hs_32 : (x1 - x1 / (16 : Int32) * (16 : Int32)) = (8 : Int32)
    · rw [if_pos hs_32] at hf
      refine lv_tableIn (off := 179) (tgt := 232) cx.1 cx.2.1 dL_act_53 (by rw [hs_32]; decide) (by rw [hs_32]; decide) (by rw [hs_32]; decide) (by decide) ?_
      refine lv_aload_n cx.1 cx.2.1 dL_act_232 rfl (lv_at hl 3 rfl) ?_
      refine lv_iload_n cx.1 cx.2.1 dL_act_233 rfl (lv_at hl 5 rfl) ?_
      refine lv_iconst (v := (4 : Int32)) cx.1 cx.2.1 dL_act_234 (by decide) ?_
      refine lv_irem cx.1 cx.2.1 dL_act_235 (by decide) ?_
      refine lv_iload cx.1 cx.2.1 dL_act_236 (lv_at hl 2 rfl) ?_
      obtain ⟨v_30, S_31, hv, hf⟩ := gbs_some hf
      refine a_SW (As := [.ref (G.2.1 0), .int (x2 - x2 / (4 : Int32) * (4 : Int32)), .int t0]) (rest := []) cx hX hZ hw hS (a_tryTake l hst G (x2 - x2 / (4 : Int32) * (4 : Int32)) t0 S_4 v_30 S_31 hv) gw_512 gw_187 gyw_L_tryTake ⟨by decide, by decide⟩ ⟨Nat.le_of_ble_eq_true rfl, Nat.le_of_ble_eq_true rfl⟩ (show cells + 1 + 3 ≤ 9 ∧ slots + 6 + 18 ≤ 54 from ⟨by omega, by omega⟩) rfl hl.1 rfl (Nat.le_of_ble_eq_true rfl) dL_act_238 (fun H locs hw hS => ?_)
      refine W.eq (g2 := F0 m 241 ls [.int v_30]) rfl ?_
      exact al_ireti (P := (gPA G)) cx hr hlk hw hS hf dL_act_241 (by omega) (by omega)
    rw [if_neg hs_32] at hf
    by_cases hs_35 : (x1 - x1 / (16 : Int32) * (16 : Int32)) = (9 : Int32)
    · rw [if_pos hs_35] at hf
      refine lv_tableIn (off := 189) (tgt := 242) cx.1 cx.2.1 dL_act_53 (by rw [hs_35]; decide) (by rw [hs_35]; decide) (by rw [hs_35]; decide) (by decide) ?_
      refine lv_aload_n cx.1 cx.2.1 dL_act_242 rfl (lv_at hl 3 rfl) ?_
      refine lv_iload cx.1 cx.2.1 dL_act_243 (lv_at hl 2 rfl) ?_
      refine lv_iload_n cx.1 cx.2.1 dL_act_245 rfl (lv_at hl 5 rfl) ?_
      refine lv_bipush (v := (64 : Int32)) cx.1 cx.2.1 dL_act_246 (by decide) ?_
      refine lv_idiv cx.1 cx.2.1 dL_act_248 (by decide) ?_
      refine lv_iconst (v := (2 : Int32)) cx.1 cx.2.1 dL_act_249 (by decide) ?_
      refine lv_irem cx.1 cx.2.1 dL_act_250 (by decide) ?_
      obtain ⟨v_33, S_34, hv, hf⟩ := gbs_some hf
      refine a_SW (As := [.ref (G.2.1 0), .int t0, .int ((x2 / (64 : Int32)) - (x2 / (64 : Int32)) / (2 : Int32) * (2 : Int32))]) (rest := []) cx hX hZ hw hS (a_tryRun l hst G t0 ((x2 / (64 : Int32)) - (x2 / (64 : Int32)) / (2 : Int32) * (2 : Int32)) S_4 v_33 S_34 hv) gw_532 gw_187 gyw_L_tryRun ⟨by decide, by decide⟩ ⟨Nat.le_of_ble_eq_true rfl, Nat.le_of_ble_eq_true rfl⟩ (show cells + 1 + 3 ≤ 9 ∧ slots + 6 + 18 ≤ 54 from ⟨by omega, by omega⟩) rfl hl.1 rfl (Nat.le_of_ble_eq_true rfl) dL_act_251 (fun H locs hw hS => ?_)
      refine W.eq (g2 := F0 m 254 ls [.int v_33]) rfl ?_
      exact al_ireti (P := (gPA G)) cx hr hlk hw hS hf dL_act_254 (by omega) (by omega)
    rw [if_neg hs_35] at hf
    by_cases hs_38 : (x1 - x1 / (16 : Int32) * (16 : Int32)) = (10 : Int32)
    · rw [if_pos hs_38] at hf
      refine lv_tableIn (off := 189) (tgt := 242) cx.1 cx.2.1 dL_act_53 (by rw [hs_38]; decide) (by rw [hs_38]; decide) (by rw [hs_38]; decide) (by decide) ?_
      refine lv_aload_n cx.1 cx.2.1 dL_act_242 rfl (lv_at hl 3 rfl) ?_
      refine lv_iload cx.1 cx.2.1 dL_act_243 (lv_at hl 2 rfl) ?_
      refine lv_iload_n cx.1 cx.2.1 dL_act_245 rfl (lv_at hl 5 rfl) ?_
      refine lv_bipush (v := (64 : Int32)) cx.1 cx.2.1 dL_act_246 (by decide) ?_
      refine lv_idiv cx.1 cx.2.1 dL_act_248 (by decide) ?_
      refine lv_iconst (v := (2 : Int32)) cx.1 cx.2.1 dL_act_249 (by decide) ?_
      refine lv_irem cx.1 cx.2.1 dL_act_250 (by decide) ?_
      obtain ⟨v_36, S_37, hv, hf⟩ := gbs_some hf
      refine a_SW (As := [.ref (G.2.1 0), .int t0, .int ((x2 / (64 : Int32)) - (x2 / (64 : Int32)) / (2 : Int32) * (2 : Int32))]) (rest := []) cx hX hZ hw hS (a_tryRun l hst G t0 ((x2 / (64 : Int32)) - (x2 / (64 : Int32)) / (2 : Int32) * (2 : Int32)) S_4 v_36 S_37 hv) gw_532 gw_187 gyw_L_tryRun ⟨by decide, by decide⟩ ⟨Nat.le_of_ble_eq_true rfl, Nat.le_of_ble_eq_true rfl⟩ (show cells + 1 + 3 ≤ 9 ∧ slots + 6 + 18 ≤ 54 from ⟨by omega, by omega⟩) rfl hl.1 rfl (Nat.le_of_ble_eq_true rfl) dL_act_251 (fun H locs hw hS => ?_)
      refine W.eq (g2 := F0 m 254 ls [.int v_36]) rfl ?_
      exact al_ireti (P := (gPA G)) cx hr hlk hw hS hf dL_act_254 (by omega) (by omega)
    rw [if_neg hs_38] at hf
    by_cases hs_41 : (x1 - x1 / (16 : Int32) * (16 : Int32)) = (11 : Int32)
    · rw [if_pos hs_41] at hf
      refine lv_tableIn (off := 189) (tgt := 242) cx.1 cx.2.1 dL_act_53 (by rw [hs_41]; decide) (by rw [hs_41]; decide) (by rw [hs_41]; decide) (by decide) ?_
      refine lv_aload_n cx.1 cx.2.1 dL_act_242 rfl (lv_at hl 3 rfl) ?_
      refine lv_iload cx.1 cx.2.1 dL_act_243 (lv_at hl 2 rfl) ?_
      refine lv_iload_n cx.1 cx.2.1 dL_act_245 rfl (lv_at hl 5 rfl) ?_
      refine lv_bipush (v := (64 : Int32)) cx.1 cx.2.1 dL_act_246 (by decide) ?_
      refine lv_idiv cx.1 cx.2.1 dL_act_248 (by decide) ?_
      refine lv_iconst (v := (2 : Int32)) cx.1 cx.2.1 dL_act_249 (by decide) ?_
      refine lv_irem cx.1 cx.2.1 dL_act_250 (by decide) ?_
      obtain ⟨v_39, S_40, hv, hf⟩ := gbs_some hf
      refine a_SW (As := [.ref (G.2.1 0), .int t0, .int ((x2 / (64 : Int32)) - (x2 / (64 : Int32)) / (2 : Int32) * (2 : Int32))]) (rest := []) cx hX hZ hw hS (a_tryRun l hst G t0 ((x2 / (64 : Int32)) - (x2 / (64 : Int32)) / (2 : Int32) * (2 : Int32)) S_4 v_39 S_40 hv) gw_532 gw_187 gyw_L_tryRun ⟨by decide, by decide⟩ ⟨Nat.le_of_ble_eq_true rfl, Nat.le_of_ble_eq_true rfl⟩ (show cells + 1 + 3 ≤ 9 ∧ slots + 6 + 18 ≤ 54 from ⟨by omega, by omega⟩) rfl hl.1 rfl (Nat.le_of_ble_eq_true rfl) dL_act_251 (fun H locs hw hS => ?_)
      refine W.eq (g2 := F0 m 254 ls [.int v_39]) rfl ?_
      exact al_ireti (P := (gPA G)) cx hr hlk hw hS hf dL_act_254 (by omega) (by omega)
    rw [if_neg hs_41] at hf
    by_cases hs_44 : (x1 - x1 / (16 : Int32) * (16 : Int32)) = (12 : Int32)
    · rw [if_pos hs_44] at hf
      refine lv_tableIn (off := 202) (tgt := 255) cx.1 cx.2.1 dL_act_53 (by rw [hs_44]; decide) (by rw [hs_44]; decide) (by rw [hs_44]; decide) (by decide) ?_
      refine lv_aload_n cx.1 cx.2.1 dL_act_255 rfl (lv_at hl 3 rfl) ?_
      obtain ⟨v_42, S_43, hv, hf⟩ := gbs_some hf
      refine a_V (As := []) (rest := []) cx hX hZ hw hS (a_X10_endRound l hst G S_4 v_42 S_43 hv) rfl gw_867 gy_X10_endRound gi_X10_endRound ⟨Nat.le_of_ble_eq_true rfl, Nat.le_of_ble_eq_true rfl⟩ (show cells + 1 + 0 ≤ 9 ∧ slots + 6 + 0 ≤ 54 from ⟨by omega, by omega⟩) rfl hl.1 rfl (Nat.le_of_ble_eq_true rfl) dL_act_256 (fun H locs hw hS => ?_)
      refine W.eq (g2 := F0 m 259 ls [.int v_42]) rfl ?_
      exact al_ireti (P := (gPA G)) cx hr hlk hw hS hf dL_act_259 (by omega) (by omega)
    rw [if_neg hs_44] at hf
    by_cases hs_47 : (x1 - x1 / (16 : Int32) * (16 : Int32)) = (13 : Int32)
    · rw [if_pos hs_47] at hf
      refine lv_tableIn (off := 202) (tgt := 255) cx.1 cx.2.1 dL_act_53 (by rw [hs_47]; decide) (by rw [hs_47]; decide) (by rw [hs_47]; decide) (by decide) ?_
      refine lv_aload_n cx.1 cx.2.1 dL_act_255 rfl (lv_at hl 3 rfl) ?_
      obtain ⟨v_45, S_46, hv, hf⟩ := gbs_some hf
      refine a_V (As := []) (rest := []) cx hX hZ hw hS (a_X10_endRound l hst G S_4 v_45 S_46 hv) rfl gw_867 gy_X10_endRound gi_X10_endRound ⟨Nat.le_of_ble_eq_true rfl, Nat.le_of_ble_eq_true rfl⟩ (show cells + 1 + 0 ≤ 9 ∧ slots + 6 + 0 ≤ 54 from ⟨by omega, by omega⟩) rfl hl.1 rfl (Nat.le_of_ble_eq_true rfl) dL_act_256 (fun H locs hw hS => ?_)
      refine W.eq (g2 := F0 m 259 ls [.int v_45]) rfl ?_
      exact al_ireti (P := (gPA G)) cx hr hlk hw hS hf dL_act_259 (by omega) (by omega)
    rw [if_neg hs_47] at hf
    by_cases hs_50 : (x1 - x1 / (16 : Int32) * (16 : Int32)) = (14 : Int32)
    · rw [if_pos hs_50] at hf
      refine lv_tableIn (off := 207) (tgt := 260) cx.1 cx.2.1 dL_act_53 (by rw [hs_50]; decide) (by rw [hs_50]; decide) (by rw [hs_50]; decide) (by decide) ?_
      refine lv_aload_n cx.1 cx.2.1 dL_act_260 rfl (lv_at hl 3 rfl) ?_
      obtain ⟨v_48, S_49, hv, hf⟩ := gbs_some hf
      refine a_SW (As := [.ref (G.2.1 0)]) (rest := []) cx hX hZ hw hS (a_tryUndo l hst G S_4 v_48 S_49 hv) gw_294 gw_187 gyw_L_tryUndo ⟨by decide, by decide⟩ ⟨Nat.le_of_ble_eq_true rfl, Nat.le_of_ble_eq_true rfl⟩ (show cells + 1 + 1 ≤ 9 ∧ slots + 6 + 6 ≤ 54 from ⟨by omega, by omega⟩) rfl hl.1 rfl (Nat.le_of_ble_eq_true rfl) dL_act_261 (fun H locs hw hS => ?_)
      refine W.eq (g2 := F0 m 264 ls [.int v_48]) rfl ?_
      exact al_ireti (P := (gPA G)) cx hr hlk hw hS hf dL_act_264 (by omega) (by omega)
    rw [if_neg hs_50] at hf
    refine lv_tableOut (tgt := 265) cx.1 cx.2.1 dL_act_53 (by have := sw_nek (k := 0) hs_10 (by decide); have := sw_nek (k := 1) hs_15 (by decide); have := sw_nek (k := 2) hs_16 (by decide); have := sw_nek (k := 3) hs_17 (by decide); have := sw_nek (k := 4) hs_20 (by decide); have := sw_nek (k := 5) hs_23 (by decide); have := sw_nek (k := 6) hs_26 (by decide); have := sw_nek (k := 7) hs_29 (by decide); have := sw_nek (k := 8) hs_32 (by decide); have := sw_nek (k := 9) hs_35 (by decide); have := sw_nek (k := 10) hs_38 (by decide); have := sw_nek (k := 11) hs_41 (by decide); have := sw_nek (k := 12) hs_44 (by decide); have := sw_nek (k := 13) hs_47 (by decide); have := sw_nek (k := 14) hs_50 (by decide); omega) (by decide) ?_
    refine lv_iload_n cx.1 cx.2.1 dL_act_265 rfl (lv_at hl 5 rfl) ?_
    refine lv_iconst (v := (2 : Int32)) cx.1 cx.2.1 dL_act_266 (by decide) ?_
    refine lv_irem cx.1 cx.2.1 dL_act_267 (by decide) ?_
    refine lv_if_ne (tgt := 279) cx.1 cx.2.1 dL_act_268 (by decide) (fun hc => ?_) (fun hc => ?_)
    · rw [if_neg hc] at hf
      refine lv_aload_n cx.1 cx.2.1 dL_act_279 rfl (lv_at hl 3 rfl) ?_
      refine lv_iconst (v := (1 : Int32)) cx.1 cx.2.1 dL_act_280 (by decide) ?_
      obtain ⟨v_51, S_52, hv, hf⟩ := gbs_some hf
      refine a_SW (As := [.ref (G.2.1 0), .int (1 : Int32)]) (rest := []) cx hX hZ hw hS (a_tryRestore l hst G (1 : Int32) S_4 v_51 S_52 hv) gw_792 gw_187 gyw_L_tryRestore ⟨by decide, by decide⟩ ⟨Nat.le_of_ble_eq_true rfl, Nat.le_of_ble_eq_true rfl⟩ (show cells + 1 + 2 ≤ 9 ∧ slots + 6 + 12 ≤ 54 from ⟨by omega, by omega⟩) rfl hl.1 rfl (Nat.le_of_ble_eq_true rfl) dL_act_281 (fun H locs hw hS => ?_)
      refine W.eq (g2 := F0 m 284 ls [.int v_51]) rfl ?_
      exact al_ireti (P := (gPA G)) cx hr hlk hw hS hf dL_act_284 (by omega) (by omega)
    · rw [if_pos hc] at hf
      refine lv_aload_n cx.1 cx.2.1 dL_act_271 rfl (lv_at hl 3 rfl) ?_
      refine lv_iconst (v := (1 : Int32)) cx.1 cx.2.1 dL_act_272 (by decide) ?_
      obtain ⟨v_53, S_54, hv, hf⟩ := gbs_some hf
      refine a_SW (As := [.ref (G.2.1 0), .int (1 : Int32)]) (rest := []) cx hX hZ hw hS (a_trySave l hst G (1 : Int32) S_4 v_53 S_54 hv) gw_774 gw_187 gyw_L_trySave ⟨by decide, by decide⟩ ⟨Nat.le_of_ble_eq_true rfl, Nat.le_of_ble_eq_true rfl⟩ (show cells + 1 + 1 ≤ 9 ∧ slots + 6 + 6 ≤ 54 from ⟨by omega, by omega⟩) rfl hl.1 rfl (Nat.le_of_ble_eq_true rfl) dL_act_273 (fun H locs hw hS => ?_)
      refine W.eq (g2 := F0 m 276 ls [.int v_53]) rfl ?_
      refine lv_goto (tgt := 284) cx.1 cx.2.1 dL_act_276 (by decide) ?_
      exact al_ireti (P := (gPA G)) cx hr hlk hw hS hf dL_act_284 (by omega) (by omega)
  have hl : lv_has ls 8 [(0, .ref (G.2.1 0)), (1, .int a1), (2, .int a2)] := hl
  unfold h_act at hf
  refine lv_aload_n cx.1 cx.2.1 dL_act_0 rfl (lv_at hl 0 rfl) ?_
  refine lv_iconst (v := (0 : Int32)) cx.1 cx.2.1 dL_act_1 (by decide) ?_
  obtain ⟨v_55, S_56, hv, hf⟩ := gbs_some hf
  refine a_SW (As := [.ref (G.2.1 0), .int (0 : Int32)]) (rest := []) cx hX hZ hw hS (a_tryAbout l hst G (0 : Int32) S v_55 S_56 hv) gw_185 gw_187 gyw_L_tryAbout ⟨by decide, by decide⟩ ⟨Nat.le_of_ble_eq_true rfl, Nat.le_of_ble_eq_true rfl⟩ (show 0 + 1 ≤ 9 ∧ 0 + 6 ≤ 54 from ⟨by omega, by omega⟩) rfl hl.1 rfl (Nat.le_of_ble_eq_true rfl) dL_act_2 (fun H locs hw hS => ?_)
  refine W.eq (g2 := F0 m 5 ls [.int v_55]) rfl ?_
  refine lv_istore_n (lv' := [(3, .int v_55), (0, .ref (G.2.1 0)), (1, .int a1), (2, .int a2)]) cx.1 cx.2.1 dL_act_5 rfl hl (by decide) rfl (fun ls hl => ?_)
  refine lv_aload_n cx.1 cx.2.1 dL_act_6 rfl (lv_at hl 1 rfl) ?_
  refine lv_iconst (v := (2 : Int32)) cx.1 cx.2.1 dL_act_7 (by decide) ?_
  obtain ⟨v_57, S_58, hv, hf⟩ := gbs_some hf
  refine a_SW (As := [.ref (G.2.1 0), .int (2 : Int32)]) (rest := []) cx hX hZ hw hS (a_tryAbout l hst G (2 : Int32) S_56 v_57 S_58 hv) gw_185 gw_187 gyw_L_tryAbout ⟨by decide, by decide⟩ ⟨Nat.le_of_ble_eq_true rfl, Nat.le_of_ble_eq_true rfl⟩ (show 0 + 1 + 1 ≤ 9 ∧ 0 + 6 + 6 ≤ 54 from ⟨by omega, by omega⟩) rfl hl.1 rfl (Nat.le_of_ble_eq_true rfl) dL_act_8 (fun H locs hw hS => ?_)
  refine W.eq (g2 := F0 m 11 ls [.int v_57]) rfl ?_
  refine lv_istore (lv' := [(4, .int v_57), (3, .int v_55), (0, .ref (G.2.1 0)), (1, .int a1), (2, .int a2)]) cx.1 cx.2.1 dL_act_11 hl (by decide) rfl (fun ls hl => ?_)
  refine lv_iload cx.1 cx.2.1 dL_act_13 (lv_at hl 0 rfl) ?_
  refine lv_if_ne (tgt := 22) cx.1 cx.2.1 dL_act_15 (by decide) (fun hc => ?_) (fun hc => ?_)
  · rw [if_neg hc] at hf
    refine lv_iload_n cx.1 cx.2.1 dL_act_22 rfl (lv_at hl 4 rfl) ?_
    refine lv_iconst (v := (4 : Int32)) cx.1 cx.2.1 dL_act_23 (by decide) ?_
    refine lv_idiv cx.1 cx.2.1 dL_act_24 (by decide) ?_
    refine lv_iload cx.1 cx.2.1 dL_act_25 (lv_at hl 0 rfl) ?_
    obtain ⟨hne, hf⟩ := gck_some hf
    refine lv_irem cx.1 cx.2.1 dL_act_27 (by simpa using hne) ?_
    exact hB_28 S_58 a1 a2 v_55 ((a2 / (4 : Int32)) - (a2 / (4 : Int32)) / v_57 * v_57) _ _ _ _ _ (by omega) (by omega) hw hS (lv_sub hl [2, 3, 4, 1] rfl) hf
  · rw [if_pos hc] at hf
    refine lv_iconst (v := (0 : Int32)) cx.1 cx.2.1 dL_act_18 (by decide) ?_
    refine lv_goto (tgt := 28) cx.1 cx.2.1 dL_act_19 (by decide) ?_
    exact hB_28 S_58 a1 a2 v_55 (0 : Int32) _ _ _ _ _ (by omega) (by omega) hw hS (lv_sub hl [2, 3, 4, 1] rfl) hf
