set_option maxHeartbeats 8000000 in
set_option maxRecDepth 100000 in
theorem a_sound (l : Launch) (hst : l.stackTraces = false) (G : gG) (S : At) (r : Int32) (S' : At) (hf : h_sound S = some (r, S')) : gC l yL_sound [Cond.code yL_sound cL_sound 12 (some .boolean)] (gRx 10 179 1298 7788) G (gNo G) E0 (gPA G S) [.ref (G.2.1 0)] (some (.int r)) (gPA G S') 1298 7788 := by
  refine gC_of (by decide) (Nat.le_of_ble_eq_true rfl) ?_
  intro p e s m below meth c ls cx hE hX hZ hr hlk hw hS hl
  have hN := cx.2.2.2.2.hN
  have hB_465 : ∀ (S : At) (x1 : Int32) (x2 : Int32) (x3 : Int32) (x5 : Int32) (H : Heap) (locs : List Loc) (ls : Array Slot) (cells slots : Nat), cells + (3) ≤ 1298 → slots + (18) ≤ 7788 → gPA G S H → va_S (gAr (gNo G) s.heap.size) s.heap H locs → lv_has ls 12 [(0, .ref (G.2.1 0)), (1, .int x1), (2, .int x2), (3, .int x3), (5, .int x5)] → B_sound_465 S x1 x2 x3 x5 = some (r, S') → W p l e (gRx 10 179 1298 7788) s m ([.ref (G.2.1 0)] : List Value).toArray below meth c H locs cells slots (MQ below (gQr (gPA G S') (some (.int r)) (gAr (gNo G) s.heap.size)) ([.ref (G.2.1 0)] : List Value).toArray s 1298 7788 (gAr (gNo G) s.heap.size)) (F0 m 465 ls []) := by
    intro S x1 x2 x3 x5 H locs ls cells slots hcl hsl hw hS hl hf
    unfold B_sound_465 at hf
    refine lv_iload cx.1 cx.2.1 dL_sound_465 (lv_at hl 4 rfl) ?_
    refine lv_if_eq (tgt := 509) cx.1 cx.2.1 dL_sound_467 (by decide) (fun hc => ?_) (fun hc => ?_)
    · rw [if_pos hc] at hf
      refine lv_iconst (v := (0 : Int32)) cx.1 cx.2.1 dL_sound_509 (by decide) ?_
      exact al_zreti (P := (gPA G)) cx hr hlk hw hS (by decide) hf dL_sound_510 (by omega) (by omega)
    · rw [if_neg hc] at hf
      refine lv_iload_n cx.1 cx.2.1 dL_sound_470 rfl (lv_at hl 1 rfl) ?_
      refine lv_if_ne (tgt := 509) cx.1 cx.2.1 dL_sound_471 (by decide) (fun hc => ?_) (fun hc => ?_)
      · rw [if_neg hc] at hf
        refine lv_iconst (v := (0 : Int32)) cx.1 cx.2.1 dL_sound_509 (by decide) ?_
        exact al_zreti (P := (gPA G)) cx hr hlk hw hS (by decide) hf dL_sound_510 (by omega) (by omega)
      · rw [if_pos hc] at hf
        refine lv_iload_n cx.1 cx.2.1 dL_sound_474 rfl (lv_at hl 2 rfl) ?_
        refine lv_aload_n cx.1 cx.2.1 dL_sound_475 rfl (lv_at hl 0 rfl) ?_
        refine lv_bipush (v := (6 : Int32)) cx.1 cx.2.1 dL_sound_476 (by decide) ?_
        obtain ⟨v_1, S_2, hv, hf⟩ := gbs_some hf
        refine a_SW (As := [.ref (G.2.1 0), .int (6 : Int32)]) (rest := [.int x2]) cx hX hZ hw hS (a_tryAbout l hst G (6 : Int32) S v_1 S_2 hv) gw_185 gw_187 gyw_L_tryAbout ⟨by decide, by decide⟩ ⟨Nat.le_of_ble_eq_true rfl, Nat.le_of_ble_eq_true rfl⟩ (show cells + 1 ≤ 1298 ∧ slots + 6 ≤ 7788 from ⟨by omega, by omega⟩) rfl hl.1 rfl (Nat.le_of_ble_eq_true rfl) dL_sound_478 (fun H locs hw hS => ?_)
        refine W.eq (g2 := F0 m 481 ls [.int v_1, .int x2]) rfl ?_
        refine lv_icmp_gt (tgt := 509) cx.1 cx.2.1 dL_sound_481 (by decide) (fun hc => ?_) (fun hc => ?_)
        · rw [if_pos hc] at hf
          refine lv_iconst (v := (0 : Int32)) cx.1 cx.2.1 dL_sound_509 (by decide) ?_
          exact al_zreti (P := (gPA G)) cx hr hlk hw hS (by decide) hf dL_sound_510 (by omega) (by omega)
        · rw [if_neg hc] at hf
          refine lv_iload_n cx.1 cx.2.1 dL_sound_484 rfl (lv_at hl 3 rfl) ?_
          refine lv_aload_n cx.1 cx.2.1 dL_sound_485 rfl (lv_at hl 0 rfl) ?_
          refine lv_bipush (v := (9 : Int32)) cx.1 cx.2.1 dL_sound_486 (by decide) ?_
          obtain ⟨v_3, S_4, hv, hf⟩ := gbs_some hf
          refine a_SW (As := [.ref (G.2.1 0), .int (9 : Int32)]) (rest := [.int x3]) cx hX hZ hw hS (a_tryAbout l hst G (9 : Int32) S_2 v_3 S_4 hv) gw_185 gw_187 gyw_L_tryAbout ⟨by decide, by decide⟩ ⟨Nat.le_of_ble_eq_true rfl, Nat.le_of_ble_eq_true rfl⟩ (show cells + 1 + 1 ≤ 1298 ∧ slots + 6 + 6 ≤ 7788 from ⟨by omega, by omega⟩) rfl hl.1 rfl (Nat.le_of_ble_eq_true rfl) dL_sound_488 (fun H locs hw hS => ?_)
          refine W.eq (g2 := F0 m 491 ls [.int v_3, .int x3]) rfl ?_
          refine lv_icmp_ne (tgt := 509) cx.1 cx.2.1 dL_sound_491 (by decide) (fun hc => ?_) (fun hc => ?_)
          · rw [if_neg hc] at hf
            refine lv_iconst (v := (0 : Int32)) cx.1 cx.2.1 dL_sound_509 (by decide) ?_
            exact al_zreti (P := (gPA G)) cx hr hlk hw hS (by decide) hf dL_sound_510 (by omega) (by omega)
          · rw [if_pos hc] at hf
            refine lv_aload_n cx.1 cx.2.1 dL_sound_494 rfl (lv_at hl 0 rfl) ?_
            refine lv_bipush (v := (8 : Int32)) cx.1 cx.2.1 dL_sound_495 (by decide) ?_
            obtain ⟨v_5, S_6, hv, hf⟩ := gbs_some hf
            refine a_SW (As := [.ref (G.2.1 0), .int (8 : Int32)]) (rest := []) cx hX hZ hw hS (a_tryAbout l hst G (8 : Int32) S_4 v_5 S_6 hv) gw_185 gw_187 gyw_L_tryAbout ⟨by decide, by decide⟩ ⟨Nat.le_of_ble_eq_true rfl, Nat.le_of_ble_eq_true rfl⟩ (show cells + 1 + 1 + 1 ≤ 1298 ∧ slots + 6 + 6 + 6 ≤ 7788 from ⟨by omega, by omega⟩) rfl hl.1 rfl (Nat.le_of_ble_eq_true rfl) dL_sound_497 (fun H locs hw hS => ?_)
            refine W.eq (g2 := F0 m 500 ls [.int v_5]) rfl ?_
            refine lv_iconst (v := (5 : Int32)) cx.1 cx.2.1 dL_sound_500 (by decide) ?_
            refine lv_irem cx.1 cx.2.1 dL_sound_501 (by decide) ?_
            refine lv_if_ne (tgt := 509) cx.1 cx.2.1 dL_sound_502 (by decide) (fun hc => ?_) (fun hc => ?_)
            · rw [if_neg hc] at hf
              refine lv_iconst (v := (0 : Int32)) cx.1 cx.2.1 dL_sound_509 (by decide) ?_
              exact al_zreti (P := (gPA G)) cx hr hlk hw hS (by decide) hf dL_sound_510 (by omega) (by omega)
            · rw [if_pos hc] at hf
              refine lv_iconst (v := (1 : Int32)) cx.1 cx.2.1 dL_sound_505 (by decide) ?_
              refine lv_goto (tgt := 510) cx.1 cx.2.1 dL_sound_506 (by decide) ?_
              exact al_zreti (P := (gPA G)) cx hr hlk hw hS (by decide) hf dL_sound_510 (by omega) (by omega)
  have hB_456 : ∀ (K376 : At → Int32 → Int32 → Int32 → Int32 → Int32 → Option (Int32 × At)) (n_376 : Nat) (hK376 : ∀ (S : At) (x1 : Int32) (x2 : Int32) (x3 : Int32) (x5 : Int32) (x6 : Int32) (H : Heap) (locs : List Loc) (ls : Array Slot) (cells slots : Nat), cells + (4 + 13 * n_376) ≤ 1298 → slots + (24 + 78 * n_376) ≤ 7788 → gPA G S H → va_S (gAr (gNo G) s.heap.size) s.heap H locs → lv_has ls 12 [(0, .ref (G.2.1 0)), (1, .int x1), (2, .int x2), (3, .int x3), (5, .int x5), (6, .int x6)] → K376 S x1 x2 x3 x5 x6 = some (r, S') → W p l e (gRx 10 179 1298 7788) s m ([.ref (G.2.1 0)] : List Value).toArray below meth c H locs cells slots (MQ below (gQr (gPA G S') (some (.int r)) (gAr (gNo G) s.heap.size)) ([.ref (G.2.1 0)] : List Value).toArray s 1298 7788 (gAr (gNo G) s.heap.size)) (F0 m 376 ls [])), ∀ (S : At) (x1 : Int32) (x2 : Int32) (x3 : Int32) (x6 : Int32) (H : Heap) (locs : List Loc) (ls : Array Slot) (cells slots : Nat), cells + (4 + 13 * n_376) ≤ 1298 → slots + (24 + 78 * n_376) ≤ 7788 → gPA G S H → va_S (gAr (gNo G) s.heap.size) s.heap H locs → lv_has ls 12 [(0, .ref (G.2.1 0)), (1, .int x1), (2, .int x2), (3, .int x3), (6, .int x6)] → B_sound_456 K376 S x1 x2 x3 x6 = some (r, S') → W p l e (gRx 10 179 1298 7788) s m ([.ref (G.2.1 0)] : List Value).toArray below meth c H locs cells slots (MQ below (gQr (gPA G S') (some (.int r)) (gAr (gNo G) s.heap.size)) ([.ref (G.2.1 0)] : List Value).toArray s 1298 7788 (gAr (gNo G) s.heap.size)) (F0 m 456 ls []) := by
    intro K376 n_376 hK376 S x1 x2 x3 x6 H locs ls cells slots hcl hsl hw hS hl hf
    unfold B_sound_456 at hf
    refine lv_iconst (v := (0 : Int32)) cx.1 cx.2.1 dL_sound_456 (by decide) ?_
    refine lv_istore (lv' := [(5, .int (0 : Int32)), (0, .ref (G.2.1 0)), (1, .int x1), (2, .int x2), (3, .int x3), (6, .int x6)]) cx.1 cx.2.1 dL_sound_457 hl (by decide) rfl (fun ls hl => ?_)
    obtain ⟨x6_7, ex6_7, hf⟩ := gvi_ex hf
    refine lv_iinc (v := x6_7) (lv' := [(6, .int x6_7), (5, .int (0 : Int32)), (0, .ref (G.2.1 0)), (1, .int x1), (2, .int x2), (3, .int x3)]) cx.1 cx.2.1 dL_sound_459 hl (k := 5) rfl (by rw [← ex6_7]; rfl) (by decide) rfl (fun ls hl => ?_)
    refine lv_goto (tgt := 376) cx.1 cx.2.1 dL_sound_462 (by decide) ?_
    exact hK376 S x1 x2 x3 (0 : Int32) x6_7 _ _ _ _ _ (by omega) (by omega) hw hS (lv_sub hl [2, 3, 4, 5, 1, 0] rfl) hf
  have hB_452 : ∀ (K376 : At → Int32 → Int32 → Int32 → Int32 → Int32 → Option (Int32 × At)) (n_376 : Nat) (hK376 : ∀ (S : At) (x1 : Int32) (x2 : Int32) (x3 : Int32) (x5 : Int32) (x6 : Int32) (H : Heap) (locs : List Loc) (ls : Array Slot) (cells slots : Nat), cells + (4 + 13 * n_376) ≤ 1298 → slots + (24 + 78 * n_376) ≤ 7788 → gPA G S H → va_S (gAr (gNo G) s.heap.size) s.heap H locs → lv_has ls 12 [(0, .ref (G.2.1 0)), (1, .int x1), (2, .int x2), (3, .int x3), (5, .int x5), (6, .int x6)] → K376 S x1 x2 x3 x5 x6 = some (r, S') → W p l e (gRx 10 179 1298 7788) s m ([.ref (G.2.1 0)] : List Value).toArray below meth c H locs cells slots (MQ below (gQr (gPA G S') (some (.int r)) (gAr (gNo G) s.heap.size)) ([.ref (G.2.1 0)] : List Value).toArray s 1298 7788 (gAr (gNo G) s.heap.size)) (F0 m 376 ls [])), ∀ (S : At) (x1 : Int32) (x2 : Int32) (x3 : Int32) (x6 : Int32) (H : Heap) (locs : List Loc) (ls : Array Slot) (cells slots : Nat), cells + (4 + 13 * n_376) ≤ 1298 → slots + (24 + 78 * n_376) ≤ 7788 → gPA G S H → va_S (gAr (gNo G) s.heap.size) s.heap H locs → lv_has ls 12 [(0, .ref (G.2.1 0)), (1, .int x1), (2, .int x2), (3, .int x3), (6, .int x6)] → B_sound_452 K376 S x1 x2 x3 x6 = some (r, S') → W p l e (gRx 10 179 1298 7788) s m ([.ref (G.2.1 0)] : List Value).toArray below meth c H locs cells slots (MQ below (gQr (gPA G S') (some (.int r)) (gAr (gNo G) s.heap.size)) ([.ref (G.2.1 0)] : List Value).toArray s 1298 7788 (gAr (gNo G) s.heap.size)) (F0 m 452 ls []) := by
    intro K376 n_376 hK376 S x1 x2 x3 x6 H locs ls cells slots hcl hsl hw hS hl hf
    unfold B_sound_452 at hf
    refine lv_iconst (v := (1 : Int32)) cx.1 cx.2.1 dL_sound_452 (by decide) ?_
    refine lv_goto (tgt := 457) cx.1 cx.2.1 dL_sound_453 (by decide) ?_
    refine lv_istore (lv' := [(5, .int (1 : Int32)), (0, .ref (G.2.1 0)), (1, .int x1), (2, .int x2), (3, .int x3), (6, .int x6)]) cx.1 cx.2.1 dL_sound_457 hl (by decide) rfl (fun ls hl => ?_)
    obtain ⟨x6_8, ex6_8, hf⟩ := gvi_ex hf
    refine lv_iinc (v := x6_8) (lv' := [(6, .int x6_8), (5, .int (1 : Int32)), (0, .ref (G.2.1 0)), (1, .int x1), (2, .int x2), (3, .int x3)]) cx.1 cx.2.1 dL_sound_459 hl (k := 5) rfl (by rw [← ex6_8]; rfl) (by decide) rfl (fun ls hl => ?_)
    refine lv_goto (tgt := 376) cx.1 cx.2.1 dL_sound_462 (by decide) ?_
    exact hK376 S x1 x2 x3 (1 : Int32) x6_8 _ _ _ _ _ (by omega) (by omega) hw hS (lv_sub hl [2, 3, 4, 5, 1, 0] rfl) hf
  have hL_376 : ∀ (n : Nat), ∀ (S : At) (x1 : Int32) (x2 : Int32) (x3 : Int32) (x5 : Int32) (x6 : Int32) (H : Heap) (locs : List Loc) (ls : Array Slot) (cells slots : Nat), cells + (4 + 13 * n) ≤ 1298 → slots + (24 + 78 * n) ≤ 7788 → gPA G S H → va_S (gAr (gNo G) s.heap.size) s.heap H locs → lv_has ls 12 [(0, .ref (G.2.1 0)), (1, .int x1), (2, .int x2), (3, .int x3), (5, .int x5), (6, .int x6)] → L_sound_376 n S x1 x2 x3 x5 x6 = some (r, S') → W p l e (gRx 10 179 1298 7788) s m ([.ref (G.2.1 0)] : List Value).toArray below meth c H locs cells slots (MQ below (gQr (gPA G S') (some (.int r)) (gAr (gNo G) s.heap.size)) ([.ref (G.2.1 0)] : List Value).toArray s 1298 7788 (gAr (gNo G) s.heap.size)) (F0 m 376 ls []) := by
    intro n_376
    induction n_376 with
    | zero => intro S x1 x2 x3 x5 x6 H locs ls cells slots hcl hsl hw hS hl hf; cases hf
    | succ n_376 hK376 =>
      intro S x1 x2 x3 x5 x6 H locs ls cells slots hcl hsl hw hS hl hf
      have hf : Lb_sound_376 (L_sound_376 n_376) S x1 x2 x3 x5 x6 = some (r, S') := hf
      unfold Lb_sound_376 at hf
      refine lv_iload cx.1 cx.2.1 dL_sound_376 (lv_at hl 5 rfl) ?_
      refine lv_aload_n cx.1 cx.2.1 dL_sound_378 rfl (lv_at hl 0 rfl) ?_
      refine lv_iconst (v := (2 : Int32)) cx.1 cx.2.1 dL_sound_379 (by decide) ?_
      obtain ⟨v_9, S_10, hv, hf⟩ := gbs_some hf
      refine a_SW (As := [.ref (G.2.1 0), .int (2 : Int32)]) (rest := [.int x6]) cx hX hZ hw hS (a_tryAbout l hst G (2 : Int32) S v_9 S_10 hv) gw_185 gw_187 gyw_L_tryAbout ⟨by decide, by decide⟩ ⟨Nat.le_of_ble_eq_true rfl, Nat.le_of_ble_eq_true rfl⟩ (show cells + 1 ≤ 1298 ∧ slots + 6 ≤ 7788 from ⟨by omega, by omega⟩) rfl hl.1 rfl (Nat.le_of_ble_eq_true rfl) dL_sound_380 (fun H locs hw hS => ?_)
      refine W.eq (g2 := F0 m 383 ls [.int v_9, .int x6]) rfl ?_
      refine lv_icmp_ge (tgt := 465) cx.1 cx.2.1 dL_sound_383 (by decide) (fun hc => ?_) (fun hc => ?_)
      · rw [if_pos hc] at hf
        exact hB_465 S_10 x1 x2 x3 x5 _ _ _ _ _ (by omega) (by omega) hw hS (lv_sub hl [0, 1, 2, 3, 4] rfl) hf
      · rw [if_neg hc] at hf
        refine lv_iload cx.1 cx.2.1 dL_sound_386 (lv_at hl 4 rfl) ?_
        refine lv_if_eq (tgt := 465) cx.1 cx.2.1 dL_sound_388 (by decide) (fun hc => ?_) (fun hc => ?_)
        · rw [if_pos hc] at hf
          exact hB_465 S_10 x1 x2 x3 x5 _ _ _ _ _ (by omega) (by omega) hw hS (lv_sub hl [0, 1, 2, 3, 4] rfl) hf
        · rw [if_neg hc] at hf
          refine lv_aload_n cx.1 cx.2.1 dL_sound_391 rfl (lv_at hl 0 rfl) ?_
          refine lv_iload cx.1 cx.2.1 dL_sound_392 (lv_at hl 5 rfl) ?_
          refine lv_iconst (v := (0 : Int32)) cx.1 cx.2.1 dL_sound_394 (by decide) ?_
          obtain ⟨v_11, S_12, hv, hf⟩ := gbs_some hf
          refine a_SW (As := [.ref (G.2.1 0), .int x6, .int (0 : Int32)]) (rest := []) cx hX hZ hw hS (a_tryContract l hst G x6 (0 : Int32) S_10 v_11 S_12 hv) gw_416 gw_187 gyw_L_tryContract ⟨by decide, by decide⟩ ⟨Nat.le_of_ble_eq_true rfl, Nat.le_of_ble_eq_true rfl⟩ (show cells + 1 + 2 ≤ 1298 ∧ slots + 6 + 12 ≤ 7788 from ⟨by omega, by omega⟩) rfl hl.1 rfl (Nat.le_of_ble_eq_true rfl) dL_sound_395 (fun H locs hw hS => ?_)
          refine W.eq (g2 := F0 m 398 ls [.int v_11]) rfl ?_
          refine lv_aload_n cx.1 cx.2.1 dL_sound_398 rfl (lv_at hl 0 rfl) ?_
          refine lv_iload cx.1 cx.2.1 dL_sound_399 (lv_at hl 5 rfl) ?_
          refine lv_iconst (v := (1 : Int32)) cx.1 cx.2.1 dL_sound_401 (by decide) ?_
          obtain ⟨v_13, S_14, hv, hf⟩ := gbs_some hf
          refine a_SW (As := [.ref (G.2.1 0), .int x6, .int (1 : Int32)]) (rest := [.int v_11]) cx hX hZ hw hS (a_tryContract l hst G x6 (1 : Int32) S_12 v_13 S_14 hv) gw_416 gw_187 gyw_L_tryContract ⟨by decide, by decide⟩ ⟨Nat.le_of_ble_eq_true rfl, Nat.le_of_ble_eq_true rfl⟩ (show cells + 1 + 2 + 2 ≤ 1298 ∧ slots + 6 + 12 + 12 ≤ 7788 from ⟨by omega, by omega⟩) rfl hl.1 rfl (Nat.le_of_ble_eq_true rfl) dL_sound_402 (fun H locs hw hS => ?_)
          refine W.eq (g2 := F0 m 405 ls [.int v_13, .int v_11]) rfl ?_
          refine lv_icmp_eq (tgt := 456) cx.1 cx.2.1 dL_sound_405 (by decide) (fun hc => ?_) (fun hc => ?_)
          · rw [if_pos hc] at hf
            exact hB_456 (L_sound_376 n_376) n_376 hK376 S_14 x1 x2 x3 x6 _ _ _ _ _ (by omega) (by omega) hw hS (lv_sub hl [0, 1, 2, 3, 5] rfl) hf
          · rw [if_neg hc] at hf
            refine lv_aload_n cx.1 cx.2.1 dL_sound_408 rfl (lv_at hl 0 rfl) ?_
            refine lv_iload cx.1 cx.2.1 dL_sound_409 (lv_at hl 5 rfl) ?_
            refine lv_iconst (v := (3 : Int32)) cx.1 cx.2.1 dL_sound_411 (by decide) ?_
            obtain ⟨v_15, S_16, hv, hf⟩ := gbs_some hf
            refine a_SW (As := [.ref (G.2.1 0), .int x6, .int (3 : Int32)]) (rest := []) cx hX hZ hw hS (a_tryContract l hst G x6 (3 : Int32) S_14 v_15 S_16 hv) gw_416 gw_187 gyw_L_tryContract ⟨by decide, by decide⟩ ⟨Nat.le_of_ble_eq_true rfl, Nat.le_of_ble_eq_true rfl⟩ (show cells + 1 + 2 + 2 + 2 ≤ 1298 ∧ slots + 6 + 12 + 12 + 12 ≤ 7788 from ⟨by omega, by omega⟩) rfl hl.1 rfl (Nat.le_of_ble_eq_true rfl) dL_sound_412 (fun H locs hw hS => ?_)
            refine W.eq (g2 := F0 m 415 ls [.int v_15]) rfl ?_
            refine lv_if_le (tgt := 456) cx.1 cx.2.1 dL_sound_415 (by decide) (fun hc => ?_) (fun hc => ?_)
            · rw [if_pos hc] at hf
              exact hB_456 (L_sound_376 n_376) n_376 hK376 S_16 x1 x2 x3 x6 _ _ _ _ _ (by omega) (by omega) hw hS (lv_sub hl [0, 1, 2, 3, 5] rfl) hf
            · rw [if_neg hc] at hf
              refine lv_aload_n cx.1 cx.2.1 dL_sound_418 rfl (lv_at hl 0 rfl) ?_
              refine lv_iload cx.1 cx.2.1 dL_sound_419 (lv_at hl 5 rfl) ?_
              refine lv_iconst (v := (3 : Int32)) cx.1 cx.2.1 dL_sound_421 (by decide) ?_
              obtain ⟨v_17, S_18, hv, hf⟩ := gbs_some hf
              refine a_SW (As := [.ref (G.2.1 0), .int x6, .int (3 : Int32)]) (rest := []) cx hX hZ hw hS (a_tryContract l hst G x6 (3 : Int32) S_16 v_17 S_18 hv) gw_416 gw_187 gyw_L_tryContract ⟨by decide, by decide⟩ ⟨Nat.le_of_ble_eq_true rfl, Nat.le_of_ble_eq_true rfl⟩ (show cells + 1 + 2 + 2 + 2 + 2 ≤ 1298 ∧ slots + 6 + 12 + 12 + 12 + 12 ≤ 7788 from ⟨by omega, by omega⟩) rfl hl.1 rfl (Nat.le_of_ble_eq_true rfl) dL_sound_422 (fun H locs hw hS => ?_)
              refine W.eq (g2 := F0 m 425 ls [.int v_17]) rfl ?_
              refine lv_bipush (v := (10 : Int32)) cx.1 cx.2.1 dL_sound_425 (by decide) ?_
              refine lv_icmp_ge (tgt := 456) cx.1 cx.2.1 dL_sound_427 (by decide) (fun hc => ?_) (fun hc => ?_)
              · rw [if_pos hc] at hf
                exact hB_456 (L_sound_376 n_376) n_376 hK376 S_18 x1 x2 x3 x6 _ _ _ _ _ (by omega) (by omega) hw hS (lv_sub hl [0, 1, 2, 3, 5] rfl) hf
              · rw [if_neg hc] at hf
                refine lv_aload_n cx.1 cx.2.1 dL_sound_430 rfl (lv_at hl 0 rfl) ?_
                refine lv_iload cx.1 cx.2.1 dL_sound_431 (lv_at hl 5 rfl) ?_
                refine lv_iconst (v := (5 : Int32)) cx.1 cx.2.1 dL_sound_433 (by decide) ?_
                obtain ⟨v_19, S_20, hv, hf⟩ := gbs_some hf
                refine a_SW (As := [.ref (G.2.1 0), .int x6, .int (5 : Int32)]) (rest := []) cx hX hZ hw hS (a_tryContract l hst G x6 (5 : Int32) S_18 v_19 S_20 hv) gw_416 gw_187 gyw_L_tryContract ⟨by decide, by decide⟩ ⟨Nat.le_of_ble_eq_true rfl, Nat.le_of_ble_eq_true rfl⟩ (show cells + 1 + 2 + 2 + 2 + 2 + 2 ≤ 1298 ∧ slots + 6 + 12 + 12 + 12 + 12 + 12 ≤ 7788 from ⟨by omega, by omega⟩) rfl hl.1 rfl (Nat.le_of_ble_eq_true rfl) dL_sound_434 (fun H locs hw hS => ?_)
                refine W.eq (g2 := F0 m 437 ls [.int v_19]) rfl ?_
                refine lv_if_eq (tgt := 452) cx.1 cx.2.1 dL_sound_437 (by decide) (fun hc => ?_) (fun hc => ?_)
                · rw [if_pos hc] at hf
                  exact hB_452 (L_sound_376 n_376) n_376 hK376 S_20 x1 x2 x3 x6 _ _ _ _ _ (by omega) (by omega) hw hS (lv_sub hl [0, 1, 2, 3, 5] rfl) hf
                · rw [if_neg hc] at hf
                  refine lv_aload_n cx.1 cx.2.1 dL_sound_440 rfl (lv_at hl 0 rfl) ?_
                  refine lv_iload cx.1 cx.2.1 dL_sound_441 (lv_at hl 5 rfl) ?_
                  refine lv_iconst (v := (4 : Int32)) cx.1 cx.2.1 dL_sound_443 (by decide) ?_
                  obtain ⟨v_21, S_22, hv, hf⟩ := gbs_some hf
                  refine a_SW (As := [.ref (G.2.1 0), .int x6, .int (4 : Int32)]) (rest := []) cx hX hZ hw hS (a_tryContract l hst G x6 (4 : Int32) S_20 v_21 S_22 hv) gw_416 gw_187 gyw_L_tryContract ⟨by decide, by decide⟩ ⟨Nat.le_of_ble_eq_true rfl, Nat.le_of_ble_eq_true rfl⟩ (show cells + 1 + 2 + 2 + 2 + 2 + 2 + 2 ≤ 1298 ∧ slots + 6 + 12 + 12 + 12 + 12 + 12 + 12 ≤ 7788 from ⟨by omega, by omega⟩) rfl hl.1 rfl (Nat.le_of_ble_eq_true rfl) dL_sound_444 (fun H locs hw hS => ?_)
                  refine W.eq (g2 := F0 m 447 ls [.int v_21]) rfl ?_
                  refine lv_bipush (v := (-9 : Int32)) cx.1 cx.2.1 dL_sound_447 (by decide) ?_
                  refine lv_icmp_eq (tgt := 456) cx.1 cx.2.1 dL_sound_449 (by decide) (fun hc => ?_) (fun hc => ?_)
                  · rw [if_pos hc] at hf
                    exact hB_456 (L_sound_376 n_376) n_376 hK376 S_22 x1 x2 x3 x6 _ _ _ _ _ (by omega) (by omega) hw hS (lv_sub hl [0, 1, 2, 3, 5] rfl) hf
                  · rw [if_neg hc] at hf
                    exact hB_452 (L_sound_376 n_376) n_376 hK376 S_22 x1 x2 x3 x6 _ _ _ _ _ (by omega) (by omega) hw hS (lv_sub hl [0, 1, 2, 3, 5] rfl) hf
  have hB_364 : ∀ (K40 : At → Int32 → Int32 → Int32 → Int32 → Int32 → Int32 → Option (Int32 × At)) (n_40 : Nat) (hK40 : ∀ (S : At) (x1 : Int32) (x2 : Int32) (x3 : Int32) (x4 : Int32) (x5 : Int32) (x6 : Int32) (H : Heap) (locs : List Loc) (ls : Array Slot) (cells slots : Nat), cells + (121 + 235 * n_40) ≤ 1298 → slots + (726 + 1410 * n_40) ≤ 7788 → gPA G S H → va_S (gAr (gNo G) s.heap.size) s.heap H locs → lv_has ls 12 [(0, .ref (G.2.1 0)), (1, .int x1), (2, .int x2), (3, .int x3), (4, .int x4), (5, .int x5), (6, .int x6)] → K40 S x1 x2 x3 x4 x5 x6 = some (r, S') → W p l e (gRx 10 179 1298 7788) s m ([.ref (G.2.1 0)] : List Value).toArray below meth c H locs cells slots (MQ below (gQr (gPA G S') (some (.int r)) (gAr (gNo G) s.heap.size)) ([.ref (G.2.1 0)] : List Value).toArray s 1298 7788 (gAr (gNo G) s.heap.size)) (F0 m 40 ls [])), ∀ (S : At) (x1 : Int32) (x2 : Int32) (x3 : Int32) (x4 : Int32) (x6 : Int32) (H : Heap) (locs : List Loc) (ls : Array Slot) (cells slots : Nat), cells + (121 + 235 * n_40) ≤ 1298 → slots + (726 + 1410 * n_40) ≤ 7788 → gPA G S H → va_S (gAr (gNo G) s.heap.size) s.heap H locs → lv_has ls 12 [(0, .ref (G.2.1 0)), (1, .int x1), (2, .int x2), (3, .int x3), (4, .int x4), (6, .int x6)] → B_sound_364 K40 S x1 x2 x3 x4 x6 = some (r, S') → W p l e (gRx 10 179 1298 7788) s m ([.ref (G.2.1 0)] : List Value).toArray below meth c H locs cells slots (MQ below (gQr (gPA G S') (some (.int r)) (gAr (gNo G) s.heap.size)) ([.ref (G.2.1 0)] : List Value).toArray s 1298 7788 (gAr (gNo G) s.heap.size)) (F0 m 364 ls []) := by
    intro K40 n_40 hK40 S x1 x2 x3 x4 x6 H locs ls cells slots hcl hsl hw hS hl hf
    unfold B_sound_364 at hf
    refine lv_iconst (v := (0 : Int32)) cx.1 cx.2.1 dL_sound_364 (by decide) ?_
    refine lv_istore (lv' := [(5, .int (0 : Int32)), (0, .ref (G.2.1 0)), (1, .int x1), (2, .int x2), (3, .int x3), (4, .int x4), (6, .int x6)]) cx.1 cx.2.1 dL_sound_365 hl (by decide) rfl (fun ls hl => ?_)
    obtain ⟨x6_23, ex6_23, hf⟩ := gvi_ex hf
    refine lv_iinc (v := x6_23) (lv' := [(6, .int x6_23), (5, .int (0 : Int32)), (0, .ref (G.2.1 0)), (1, .int x1), (2, .int x2), (3, .int x3), (4, .int x4)]) cx.1 cx.2.1 dL_sound_367 hl (k := 6) rfl (by rw [← ex6_23]; rfl) (by decide) rfl (fun ls hl => ?_)
    refine lv_goto (tgt := 40) cx.1 cx.2.1 dL_sound_370 (by decide) ?_
    exact hK40 S x1 x2 x3 x4 (0 : Int32) x6_23 _ _ _ _ _ (by omega) (by omega) hw hS (lv_sub hl [2, 3, 4, 5, 6, 1, 0] rfl) hf
  have hB_284 : ∀ (K40 : At → Int32 → Int32 → Int32 → Int32 → Int32 → Int32 → Option (Int32 × At)) (n_40 : Nat) (hK40 : ∀ (S : At) (x1 : Int32) (x2 : Int32) (x3 : Int32) (x4 : Int32) (x5 : Int32) (x6 : Int32) (H : Heap) (locs : List Loc) (ls : Array Slot) (cells slots : Nat), cells + (121 + 235 * n_40) ≤ 1298 → slots + (726 + 1410 * n_40) ≤ 7788 → gPA G S H → va_S (gAr (gNo G) s.heap.size) s.heap H locs → lv_has ls 12 [(0, .ref (G.2.1 0)), (1, .int x1), (2, .int x2), (3, .int x3), (4, .int x4), (5, .int x5), (6, .int x6)] → K40 S x1 x2 x3 x4 x5 x6 = some (r, S') → W p l e (gRx 10 179 1298 7788) s m ([.ref (G.2.1 0)] : List Value).toArray below meth c H locs cells slots (MQ below (gQr (gPA G S') (some (.int r)) (gAr (gNo G) s.heap.size)) ([.ref (G.2.1 0)] : List Value).toArray s 1298 7788 (gAr (gNo G) s.heap.size)) (F0 m 40 ls [])) (K255 : At → Int32 → Int32 → Int32 → Int32 → Int32 → Int32 → Int32 → Int32 → Int32 → Int32 → Int32 → Option (Int32 × At)) (n_255 : Nat) (hK255 : ∀ (S : At) (x1 : Int32) (x2 : Int32) (x3 : Int32) (x4 : Int32) (x5 : Int32) (x6 : Int32) (x7 : Int32) (x8 : Int32) (x9 : Int32) (x10 : Int32) (x11 : Int32) (H : Heap) (locs : List Loc) (ls : Array Slot) (cells slots : Nat), cells + (131 + 3 * n_255 + 235 * n_40) ≤ 1298 → slots + (786 + 18 * n_255 + 1410 * n_40) ≤ 7788 → gPA G S H → va_S (gAr (gNo G) s.heap.size) s.heap H locs → lv_has ls 12 [(0, .ref (G.2.1 0)), (1, .int x1), (2, .int x2), (3, .int x3), (4, .int x4), (5, .int x5), (6, .int x6), (7, .int x7), (8, .int x8), (9, .int x9), (10, .int x10), (11, .int x11)] → K255 S x1 x2 x3 x4 x5 x6 x7 x8 x9 x10 x11 = some (r, S') → W p l e (gRx 10 179 1298 7788) s m ([.ref (G.2.1 0)] : List Value).toArray below meth c H locs cells slots (MQ below (gQr (gPA G S') (some (.int r)) (gAr (gNo G) s.heap.size)) ([.ref (G.2.1 0)] : List Value).toArray s 1298 7788 (gAr (gNo G) s.heap.size)) (F0 m 255 ls [])), ∀ (S : At) (x1 : Int32) (x2 : Int32) (x3 : Int32) (x4 : Int32) (x5 : Int32) (x6 : Int32) (x7 : Int32) (x8 : Int32) (x9 : Int32) (x11 : Int32) (t0 : Int32) (t1 : Int32) (H : Heap) (locs : List Loc) (ls : Array Slot) (cells slots : Nat), cells + (131 + 235 * n_40 + 3 * n_255) ≤ 1298 → slots + (786 + 1410 * n_40 + 18 * n_255) ≤ 7788 → gPA G S H → va_S (gAr (gNo G) s.heap.size) s.heap H locs → lv_has ls 12 [(0, .ref (G.2.1 0)), (1, .int x1), (2, .int x2), (3, .int x3), (4, .int x4), (5, .int x5), (6, .int x6), (7, .int x7), (8, .int x8), (9, .int x9), (11, .int x11)] → B_sound_284 K40 K255 S x1 x2 x3 x4 x5 x6 x7 x8 x9 x11 t0 t1 = some (r, S') → W p l e (gRx 10 179 1298 7788) s m ([.ref (G.2.1 0)] : List Value).toArray below meth c H locs cells slots (MQ below (gQr (gPA G S') (some (.int r)) (gAr (gNo G) s.heap.size)) ([.ref (G.2.1 0)] : List Value).toArray s 1298 7788 (gAr (gNo G) s.heap.size)) (F0 m 284 ls [.int t0, .int t1]) := by
    intro K40 n_40 hK40 K255 n_255 hK255 S x1 x2 x3 x4 x5 x6 x7 x8 x9 x11 t0 t1 H locs ls cells slots hcl hsl hw hS hl hf
    unfold B_sound_284 at hf
    refine lv_iadd cx.1 cx.2.1 dL_sound_284 ?_
    obtain ⟨x10_24, ex10_24, hf⟩ := gvi_ex hf
    refine W.eq (g2 := F0 m 285 ls [.int x10_24]) (by rw [← ex10_24]) ?_
    refine lv_istore (lv' := [(10, .int x10_24), (0, .ref (G.2.1 0)), (1, .int x1), (2, .int x2), (3, .int x3), (4, .int x4), (5, .int x5), (6, .int x6), (7, .int x7), (8, .int x8), (9, .int x9), (11, .int x11)]) cx.1 cx.2.1 dL_sound_285 hl (by decide) rfl (fun ls hl => ?_)
    obtain ⟨x11_25, ex11_25, hf⟩ := gvi_ex hf
    refine lv_iinc (v := x11_25) (lv' := [(11, .int x11_25), (10, .int x10_24), (0, .ref (G.2.1 0)), (1, .int x1), (2, .int x2), (3, .int x3), (4, .int x4), (5, .int x5), (6, .int x6), (7, .int x7), (8, .int x8), (9, .int x9)]) cx.1 cx.2.1 dL_sound_287 hl (k := 11) rfl (by rw [← ex11_25]; rfl) (by decide) rfl (fun ls hl => ?_)
    refine lv_goto (tgt := 255) cx.1 cx.2.1 dL_sound_290 (by decide) ?_
    exact hK255 S x1 x2 x3 x4 x5 x6 x7 x8 x9 x10_24 x11_25 _ _ _ _ _ (by omega) (by omega) hw hS (lv_sub hl [2, 3, 4, 5, 6, 7, 8, 9, 10, 11, 1, 0] rfl) hf
  have hL_255 : ∀ (K40 : At → Int32 → Int32 → Int32 → Int32 → Int32 → Int32 → Option (Int32 × At)) (n_40 : Nat) (hK40 : ∀ (S : At) (x1 : Int32) (x2 : Int32) (x3 : Int32) (x4 : Int32) (x5 : Int32) (x6 : Int32) (H : Heap) (locs : List Loc) (ls : Array Slot) (cells slots : Nat), cells + (121 + 235 * n_40) ≤ 1298 → slots + (726 + 1410 * n_40) ≤ 7788 → gPA G S H → va_S (gAr (gNo G) s.heap.size) s.heap H locs → lv_has ls 12 [(0, .ref (G.2.1 0)), (1, .int x1), (2, .int x2), (3, .int x3), (4, .int x4), (5, .int x5), (6, .int x6)] → K40 S x1 x2 x3 x4 x5 x6 = some (r, S') → W p l e (gRx 10 179 1298 7788) s m ([.ref (G.2.1 0)] : List Value).toArray below meth c H locs cells slots (MQ below (gQr (gPA G S') (some (.int r)) (gAr (gNo G) s.heap.size)) ([.ref (G.2.1 0)] : List Value).toArray s 1298 7788 (gAr (gNo G) s.heap.size)) (F0 m 40 ls [])), ∀ (n : Nat), ∀ (S : At) (x1 : Int32) (x2 : Int32) (x3 : Int32) (x4 : Int32) (x5 : Int32) (x6 : Int32) (x7 : Int32) (x8 : Int32) (x9 : Int32) (x10 : Int32) (x11 : Int32) (H : Heap) (locs : List Loc) (ls : Array Slot) (cells slots : Nat), cells + (131 + 3 * n + 235 * n_40) ≤ 1298 → slots + (786 + 18 * n + 1410 * n_40) ≤ 7788 → gPA G S H → va_S (gAr (gNo G) s.heap.size) s.heap H locs → lv_has ls 12 [(0, .ref (G.2.1 0)), (1, .int x1), (2, .int x2), (3, .int x3), (4, .int x4), (5, .int x5), (6, .int x6), (7, .int x7), (8, .int x8), (9, .int x9), (10, .int x10), (11, .int x11)] → L_sound_255 K40 n S x1 x2 x3 x4 x5 x6 x7 x8 x9 x10 x11 = some (r, S') → W p l e (gRx 10 179 1298 7788) s m ([.ref (G.2.1 0)] : List Value).toArray below meth c H locs cells slots (MQ below (gQr (gPA G S') (some (.int r)) (gAr (gNo G) s.heap.size)) ([.ref (G.2.1 0)] : List Value).toArray s 1298 7788 (gAr (gNo G) s.heap.size)) (F0 m 255 ls []) := by
    intro K40 n_40 hK40 n_255
    induction n_255 with
    | zero => intro S x1 x2 x3 x4 x5 x6 x7 x8 x9 x10 x11 H locs ls cells slots hcl hsl hw hS hl hf; cases hf
    | succ n_255 hK255 =>
      intro S x1 x2 x3 x4 x5 x6 x7 x8 x9 x10 x11 H locs ls cells slots hcl hsl hw hS hl hf
      have hf : Lb_sound_255 K40 (L_sound_255 K40 n_255) S x1 x2 x3 x4 x5 x6 x7 x8 x9 x10 x11 = some (r, S') := hf
      unfold Lb_sound_255 at hf
      refine lv_iload cx.1 cx.2.1 dL_sound_255 (lv_at hl 11 rfl) ?_
      refine lv_aload_n cx.1 cx.2.1 dL_sound_257 rfl (lv_at hl 0 rfl) ?_
      refine lv_iconst (v := (2 : Int32)) cx.1 cx.2.1 dL_sound_258 (by decide) ?_
      obtain ⟨v_26, S_27, hv, hf⟩ := gbs_some hf
      refine a_SW (As := [.ref (G.2.1 0), .int (2 : Int32)]) (rest := [.int x11]) cx hX hZ hw hS (a_tryAbout l hst G (2 : Int32) S v_26 S_27 hv) gw_185 gw_187 gyw_L_tryAbout ⟨by decide, by decide⟩ ⟨Nat.le_of_ble_eq_true rfl, Nat.le_of_ble_eq_true rfl⟩ (show cells + 1 ≤ 1298 ∧ slots + 6 ≤ 7788 from ⟨by omega, by omega⟩) rfl hl.1 rfl (Nat.le_of_ble_eq_true rfl) dL_sound_259 (fun H locs hw hS => ?_)
      refine W.eq (g2 := F0 m 262 ls [.int v_26, .int x11]) rfl ?_
      refine lv_icmp_ge (tgt := 293) cx.1 cx.2.1 dL_sound_262 (by decide) (fun hc => ?_) (fun hc => ?_)
      · rw [if_pos hc] at hf
        refine lv_iload cx.1 cx.2.1 dL_sound_293 (lv_at hl 5 rfl) ?_
        refine lv_if_eq (tgt := 364) cx.1 cx.2.1 dL_sound_295 (by decide) (fun hc => ?_) (fun hc => ?_)
        · rw [if_pos hc] at hf
          exact hB_364 K40 n_40 hK40 S_27 x1 x2 x3 x4 x6 _ _ _ _ _ (by omega) (by omega) hw hS (lv_sub hl [0, 1, 2, 3, 4, 6] rfl) hf
        · rw [if_neg hc] at hf
          refine lv_aload_n cx.1 cx.2.1 dL_sound_298 rfl (lv_at hl 0 rfl) ?_
          refine lv_iload cx.1 cx.2.1 dL_sound_299 (lv_at hl 6 rfl) ?_
          refine lv_iconst (v := (3 : Int32)) cx.1 cx.2.1 dL_sound_301 (by decide) ?_
          obtain ⟨v_28, S_29, hv, hf⟩ := gbs_some hf
          refine a_SW (As := [.ref (G.2.1 0), .int x6, .int (3 : Int32)]) (rest := []) cx hX hZ hw hS (a_tryCompany l hst G x6 (3 : Int32) S_27 v_28 S_29 hv) gw_349 gw_187 gyw_L_tryCompany ⟨by decide, by decide⟩ ⟨Nat.le_of_ble_eq_true rfl, Nat.le_of_ble_eq_true rfl⟩ (show cells + 1 + 2 ≤ 1298 ∧ slots + 6 + 12 ≤ 7788 from ⟨by omega, by omega⟩) rfl hl.1 rfl (Nat.le_of_ble_eq_true rfl) dL_sound_302 (fun H locs hw hS => ?_)
          refine W.eq (g2 := F0 m 305 ls [.int v_28]) rfl ?_
          refine lv_iload cx.1 cx.2.1 dL_sound_305 (lv_at hl 9 rfl) ?_
          refine lv_icmp_ne (tgt := 364) cx.1 cx.2.1 dL_sound_307 (by decide) (fun hc => ?_) (fun hc => ?_)
          · rw [if_neg hc] at hf
            exact hB_364 K40 n_40 hK40 S_29 x1 x2 x3 x4 x6 _ _ _ _ _ (by omega) (by omega) hw hS (lv_sub hl [0, 1, 2, 3, 4, 6] rfl) hf
          · rw [if_pos hc] at hf
            refine lv_aload_n cx.1 cx.2.1 dL_sound_310 rfl (lv_at hl 0 rfl) ?_
            refine lv_iload cx.1 cx.2.1 dL_sound_311 (lv_at hl 6 rfl) ?_
            refine lv_iconst (v := (4 : Int32)) cx.1 cx.2.1 dL_sound_313 (by decide) ?_
            obtain ⟨v_30, S_31, hv, hf⟩ := gbs_some hf
            refine a_SW (As := [.ref (G.2.1 0), .int x6, .int (4 : Int32)]) (rest := []) cx hX hZ hw hS (a_tryCompany l hst G x6 (4 : Int32) S_29 v_30 S_31 hv) gw_349 gw_187 gyw_L_tryCompany ⟨by decide, by decide⟩ ⟨Nat.le_of_ble_eq_true rfl, Nat.le_of_ble_eq_true rfl⟩ (show cells + 1 + 2 + 2 ≤ 1298 ∧ slots + 6 + 12 + 12 ≤ 7788 from ⟨by omega, by omega⟩) rfl hl.1 rfl (Nat.le_of_ble_eq_true rfl) dL_sound_314 (fun H locs hw hS => ?_)
            refine W.eq (g2 := F0 m 317 ls [.int v_30]) rfl ?_
            refine lv_iload cx.1 cx.2.1 dL_sound_317 (lv_at hl 10 rfl) ?_
            refine lv_icmp_ne (tgt := 364) cx.1 cx.2.1 dL_sound_319 (by decide) (fun hc => ?_) (fun hc => ?_)
            · rw [if_neg hc] at hf
              exact hB_364 K40 n_40 hK40 S_31 x1 x2 x3 x4 x6 _ _ _ _ _ (by omega) (by omega) hw hS (lv_sub hl [0, 1, 2, 3, 4, 6] rfl) hf
            · rw [if_pos hc] at hf
              refine lv_aload_n cx.1 cx.2.1 dL_sound_322 rfl (lv_at hl 0 rfl) ?_
              refine lv_iload cx.1 cx.2.1 dL_sound_323 (lv_at hl 6 rfl) ?_
              refine lv_iconst (v := (2 : Int32)) cx.1 cx.2.1 dL_sound_325 (by decide) ?_
              obtain ⟨v_32, S_33, hv, hf⟩ := gbs_some hf
              refine a_SW (As := [.ref (G.2.1 0), .int x6, .int (2 : Int32)]) (rest := []) cx hX hZ hw hS (a_tryCompany l hst G x6 (2 : Int32) S_31 v_32 S_33 hv) gw_349 gw_187 gyw_L_tryCompany ⟨by decide, by decide⟩ ⟨Nat.le_of_ble_eq_true rfl, Nat.le_of_ble_eq_true rfl⟩ (show cells + 1 + 2 + 2 + 2 ≤ 1298 ∧ slots + 6 + 12 + 12 + 12 ≤ 7788 from ⟨by omega, by omega⟩) rfl hl.1 rfl (Nat.le_of_ble_eq_true rfl) dL_sound_326 (fun H locs hw hS => ?_)
              refine W.eq (g2 := F0 m 329 ls [.int v_32]) rfl ?_
              refine lv_iconst (v := (4 : Int32)) cx.1 cx.2.1 dL_sound_329 (by decide) ?_
              refine lv_icmp_gt (tgt := 364) cx.1 cx.2.1 dL_sound_330 (by decide) (fun hc => ?_) (fun hc => ?_)
              · rw [if_pos hc] at hf
                exact hB_364 K40 n_40 hK40 S_33 x1 x2 x3 x4 x6 _ _ _ _ _ (by omega) (by omega) hw hS (lv_sub hl [0, 1, 2, 3, 4, 6] rfl) hf
              · rw [if_neg hc] at hf
                refine lv_aload_n cx.1 cx.2.1 dL_sound_333 rfl (lv_at hl 0 rfl) ?_
                refine lv_iload cx.1 cx.2.1 dL_sound_334 (lv_at hl 6 rfl) ?_
                obtain ⟨v_34, S_35, hv, hf⟩ := gbs_some hf
                refine a_SW (As := [.ref (G.2.1 0), .int x6]) (rest := []) cx hX hZ hw hS (a_tryWorth l hst G x6 S_33 v_34 S_35 hv) gw_675 gw_187 gyw_L_tryWorth ⟨by decide, by decide⟩ ⟨Nat.le_of_ble_eq_true rfl, Nat.le_of_ble_eq_true rfl⟩ (show cells + 1 + 2 + 2 + 2 + 1 ≤ 1298 ∧ slots + 6 + 12 + 12 + 12 + 6 ≤ 7788 from ⟨by omega, by omega⟩) rfl hl.1 rfl (Nat.le_of_ble_eq_true rfl) dL_sound_336 (fun H locs hw hS => ?_)
                refine W.eq (g2 := F0 m 339 ls [.int v_34]) rfl ?_
                refine lv_aload_n cx.1 cx.2.1 dL_sound_339 rfl (lv_at hl 0 rfl) ?_
                refine lv_iload cx.1 cx.2.1 dL_sound_340 (lv_at hl 6 rfl) ?_
                refine lv_iconst (v := (0 : Int32)) cx.1 cx.2.1 dL_sound_342 (by decide) ?_
                obtain ⟨v_36, S_37, hv, hf⟩ := gbs_some hf
                refine a_SW (As := [.ref (G.2.1 0), .int x6, .int (0 : Int32)]) (rest := [.int v_34]) cx hX hZ hw hS (a_tryCompany l hst G x6 (0 : Int32) S_35 v_36 S_37 hv) gw_349 gw_187 gyw_L_tryCompany ⟨by decide, by decide⟩ ⟨Nat.le_of_ble_eq_true rfl, Nat.le_of_ble_eq_true rfl⟩ (show cells + 1 + 2 + 2 + 2 + 1 + 2 ≤ 1298 ∧ slots + 6 + 12 + 12 + 12 + 6 + 12 ≤ 7788 from ⟨by omega, by omega⟩) rfl hl.1 rfl (Nat.le_of_ble_eq_true rfl) dL_sound_343 (fun H locs hw hS => ?_)
                refine W.eq (g2 := F0 m 346 ls [.int v_36, .int v_34]) rfl ?_
                refine lv_iconst (v := (3 : Int32)) cx.1 cx.2.1 dL_sound_346 (by decide) ?_
                refine lv_iload cx.1 cx.2.1 dL_sound_347 (lv_at hl 8 rfl) ?_
                refine lv_imul cx.1 cx.2.1 dL_sound_349 ?_
                refine lv_iadd cx.1 cx.2.1 dL_sound_350 ?_
                refine lv_bipush (v := (10 : Int32)) cx.1 cx.2.1 dL_sound_351 (by decide) ?_
                refine lv_iload cx.1 cx.2.1 dL_sound_353 (lv_at hl 7 rfl) ?_
                refine lv_imul cx.1 cx.2.1 dL_sound_355 ?_
                refine lv_iadd cx.1 cx.2.1 dL_sound_356 ?_
                refine lv_icmp_ne (tgt := 364) cx.1 cx.2.1 dL_sound_357 (by decide) (fun hc => ?_) (fun hc => ?_)
                · rw [if_neg hc] at hf
                  exact hB_364 K40 n_40 hK40 S_37 x1 x2 x3 x4 x6 _ _ _ _ _ (by omega) (by omega) hw hS (lv_sub hl [0, 1, 2, 3, 4, 6] rfl) hf
                · rw [if_pos hc] at hf
                  refine lv_iconst (v := (1 : Int32)) cx.1 cx.2.1 dL_sound_360 (by decide) ?_
                  refine lv_goto (tgt := 365) cx.1 cx.2.1 dL_sound_361 (by decide) ?_
                  refine lv_istore (lv' := [(5, .int (1 : Int32)), (0, .ref (G.2.1 0)), (1, .int x1), (2, .int x2), (3, .int x3), (4, .int x4), (6, .int x6), (7, .int x7), (8, .int x8), (9, .int x9), (10, .int x10), (11, .int x11)]) cx.1 cx.2.1 dL_sound_365 hl (by decide) rfl (fun ls hl => ?_)
                  obtain ⟨x6_38, ex6_38, hf⟩ := gvi_ex hf
                  refine lv_iinc (v := x6_38) (lv' := [(6, .int x6_38), (5, .int (1 : Int32)), (0, .ref (G.2.1 0)), (1, .int x1), (2, .int x2), (3, .int x3), (4, .int x4), (7, .int x7), (8, .int x8), (9, .int x9), (10, .int x10), (11, .int x11)]) cx.1 cx.2.1 dL_sound_367 hl (k := 6) rfl (by rw [← ex6_38]; rfl) (by decide) rfl (fun ls hl => ?_)
                  refine lv_goto (tgt := 40) cx.1 cx.2.1 dL_sound_370 (by decide) ?_
                  exact hK40 S_37 x1 x2 x3 x4 (1 : Int32) x6_38 _ _ _ _ _ (by omega) (by omega) hw hS (lv_sub hl [2, 3, 4, 5, 6, 1, 0] rfl) hf
      · rw [if_neg hc] at hf
        refine lv_iload cx.1 cx.2.1 dL_sound_265 (lv_at hl 10 rfl) ?_
        refine lv_aload_n cx.1 cx.2.1 dL_sound_267 rfl (lv_at hl 0 rfl) ?_
        refine lv_iload cx.1 cx.2.1 dL_sound_268 (lv_at hl 11 rfl) ?_
        refine lv_iconst (v := (4 : Int32)) cx.1 cx.2.1 dL_sound_270 (by decide) ?_
        obtain ⟨v_39, S_40, hv, hf⟩ := gbs_some hf
        refine a_SW (As := [.ref (G.2.1 0), .int x11, .int (4 : Int32)]) (rest := [.int x10]) cx hX hZ hw hS (a_tryContract l hst G x11 (4 : Int32) S_27 v_39 S_40 hv) gw_416 gw_187 gyw_L_tryContract ⟨by decide, by decide⟩ ⟨Nat.le_of_ble_eq_true rfl, Nat.le_of_ble_eq_true rfl⟩ (show cells + 1 + 2 ≤ 1298 ∧ slots + 6 + 12 ≤ 7788 from ⟨by omega, by omega⟩) rfl hl.1 rfl (Nat.le_of_ble_eq_true rfl) dL_sound_271 (fun H locs hw hS => ?_)
        refine W.eq (g2 := F0 m 274 ls [.int v_39, .int x10]) rfl ?_
        refine lv_iload cx.1 cx.2.1 dL_sound_274 (lv_at hl 6 rfl) ?_
        refine lv_icmp_ne (tgt := 283) cx.1 cx.2.1 dL_sound_276 (by decide) (fun hc => ?_) (fun hc => ?_)
        · rw [if_neg hc] at hf
          refine lv_iconst (v := (0 : Int32)) cx.1 cx.2.1 dL_sound_283 (by decide) ?_
          exact hB_284 K40 n_40 hK40 (L_sound_255 K40 n_255) n_255 hK255 S_40 x1 x2 x3 x4 x5 x6 x7 x8 x9 x11 (0 : Int32) x10 _ _ _ _ _ (by omega) (by omega) hw hS (lv_sub hl [0, 1, 2, 3, 4, 5, 6, 7, 8, 9, 11] rfl) hf
        · rw [if_pos hc] at hf
          refine lv_iconst (v := (1 : Int32)) cx.1 cx.2.1 dL_sound_279 (by decide) ?_
          refine lv_goto (tgt := 284) cx.1 cx.2.1 dL_sound_280 (by decide) ?_
          exact hB_284 K40 n_40 hK40 (L_sound_255 K40 n_255) n_255 hK255 S_40 x1 x2 x3 x4 x5 x6 x7 x8 x9 x11 (1 : Int32) x10 _ _ _ _ _ (by omega) (by omega) hw hS (lv_sub hl [0, 1, 2, 3, 4, 5, 6, 7, 8, 9, 11] rfl) hf
  have hB_243 : ∀ (K40 : At → Int32 → Int32 → Int32 → Int32 → Int32 → Int32 → Option (Int32 × At)) (n_40 : Nat) (hK40 : ∀ (S : At) (x1 : Int32) (x2 : Int32) (x3 : Int32) (x4 : Int32) (x5 : Int32) (x6 : Int32) (H : Heap) (locs : List Loc) (ls : Array Slot) (cells slots : Nat), cells + (121 + 235 * n_40) ≤ 1298 → slots + (726 + 1410 * n_40) ≤ 7788 → gPA G S H → va_S (gAr (gNo G) s.heap.size) s.heap H locs → lv_has ls 12 [(0, .ref (G.2.1 0)), (1, .int x1), (2, .int x2), (3, .int x3), (4, .int x4), (5, .int x5), (6, .int x6)] → K40 S x1 x2 x3 x4 x5 x6 = some (r, S') → W p l e (gRx 10 179 1298 7788) s m ([.ref (G.2.1 0)] : List Value).toArray below meth c H locs cells slots (MQ below (gQr (gPA G S') (some (.int r)) (gAr (gNo G) s.heap.size)) ([.ref (G.2.1 0)] : List Value).toArray s 1298 7788 (gAr (gNo G) s.heap.size)) (F0 m 40 ls [])) (K186 : At → Int32 → Int32 → Int32 → Int32 → Int32 → Int32 → Int32 → Int32 → Int32 → Int32 → Int32 → Option (Int32 × At)) (n_186 : Nat) (hK186 : ∀ (S : At) (x1 : Int32) (x2 : Int32) (x3 : Int32) (x4 : Int32) (x5 : Int32) (x6 : Int32) (x7 : Int32) (x8 : Int32) (x9 : Int32) (x10 : Int32) (x11 : Int32) (H : Heap) (locs : List Loc) (ls : Array Slot) (cells slots : Nat), cells + (159 + 7 * n_186 + 235 * n_40) ≤ 1298 → slots + (954 + 42 * n_186 + 1410 * n_40) ≤ 7788 → gPA G S H → va_S (gAr (gNo G) s.heap.size) s.heap H locs → lv_has ls 12 [(0, .ref (G.2.1 0)), (1, .int x1), (2, .int x2), (3, .int x3), (4, .int x4), (5, .int x5), (6, .int x6), (7, .int x7), (8, .int x8), (9, .int x9), (10, .int x10), (11, .int x11)] → K186 S x1 x2 x3 x4 x5 x6 x7 x8 x9 x10 x11 = some (r, S') → W p l e (gRx 10 179 1298 7788) s m ([.ref (G.2.1 0)] : List Value).toArray below meth c H locs cells slots (MQ below (gQr (gPA G S') (some (.int r)) (gAr (gNo G) s.heap.size)) ([.ref (G.2.1 0)] : List Value).toArray s 1298 7788 (gAr (gNo G) s.heap.size)) (F0 m 186 ls [])), ∀ (S : At) (x1 : Int32) (x2 : Int32) (x3 : Int32) (x4 : Int32) (x5 : Int32) (x6 : Int32) (x7 : Int32) (x9 : Int32) (x10 : Int32) (x11 : Int32) (t0 : Int32) (t1 : Int32) (H : Heap) (locs : List Loc) (ls : Array Slot) (cells slots : Nat), cells + (159 + 235 * n_40 + 7 * n_186) ≤ 1298 → slots + (954 + 1410 * n_40 + 42 * n_186) ≤ 7788 → gPA G S H → va_S (gAr (gNo G) s.heap.size) s.heap H locs → lv_has ls 12 [(0, .ref (G.2.1 0)), (1, .int x1), (2, .int x2), (3, .int x3), (4, .int x4), (5, .int x5), (6, .int x6), (7, .int x7), (9, .int x9), (10, .int x10), (11, .int x11)] → B_sound_243 K40 K186 S x1 x2 x3 x4 x5 x6 x7 x9 x10 x11 t0 t1 = some (r, S') → W p l e (gRx 10 179 1298 7788) s m ([.ref (G.2.1 0)] : List Value).toArray below meth c H locs cells slots (MQ below (gQr (gPA G S') (some (.int r)) (gAr (gNo G) s.heap.size)) ([.ref (G.2.1 0)] : List Value).toArray s 1298 7788 (gAr (gNo G) s.heap.size)) (F0 m 243 ls [.int t0, .int t1]) := by
    intro K40 n_40 hK40 K186 n_186 hK186 S x1 x2 x3 x4 x5 x6 x7 x9 x10 x11 t0 t1 H locs ls cells slots hcl hsl hw hS hl hf
    unfold B_sound_243 at hf
    refine lv_iadd cx.1 cx.2.1 dL_sound_243 ?_
    obtain ⟨x8_41, ex8_41, hf⟩ := gvi_ex hf
    refine W.eq (g2 := F0 m 244 ls [.int x8_41]) (by rw [← ex8_41]) ?_
    refine lv_istore (lv' := [(8, .int x8_41), (0, .ref (G.2.1 0)), (1, .int x1), (2, .int x2), (3, .int x3), (4, .int x4), (5, .int x5), (6, .int x6), (7, .int x7), (9, .int x9), (10, .int x10), (11, .int x11)]) cx.1 cx.2.1 dL_sound_244 hl (by decide) rfl (fun ls hl => ?_)
    obtain ⟨x11_42, ex11_42, hf⟩ := gvi_ex hf
    refine lv_iinc (v := x11_42) (lv' := [(11, .int x11_42), (8, .int x8_41), (0, .ref (G.2.1 0)), (1, .int x1), (2, .int x2), (3, .int x3), (4, .int x4), (5, .int x5), (6, .int x6), (7, .int x7), (9, .int x9), (10, .int x10)]) cx.1 cx.2.1 dL_sound_246 hl (k := 11) rfl (by rw [← ex11_42]; rfl) (by decide) rfl (fun ls hl => ?_)
    refine lv_goto (tgt := 186) cx.1 cx.2.1 dL_sound_249 (by decide) ?_
    exact hK186 S x1 x2 x3 x4 x5 x6 x7 x8_41 x9 x10 x11_42 _ _ _ _ _ (by omega) (by omega) hw hS (lv_sub hl [2, 3, 4, 5, 6, 7, 8, 9, 1, 10, 11, 0] rfl) hf
  have hB_215 : ∀ (K40 : At → Int32 → Int32 → Int32 → Int32 → Int32 → Int32 → Option (Int32 × At)) (n_40 : Nat) (hK40 : ∀ (S : At) (x1 : Int32) (x2 : Int32) (x3 : Int32) (x4 : Int32) (x5 : Int32) (x6 : Int32) (H : Heap) (locs : List Loc) (ls : Array Slot) (cells slots : Nat), cells + (121 + 235 * n_40) ≤ 1298 → slots + (726 + 1410 * n_40) ≤ 7788 → gPA G S H → va_S (gAr (gNo G) s.heap.size) s.heap H locs → lv_has ls 12 [(0, .ref (G.2.1 0)), (1, .int x1), (2, .int x2), (3, .int x3), (4, .int x4), (5, .int x5), (6, .int x6)] → K40 S x1 x2 x3 x4 x5 x6 = some (r, S') → W p l e (gRx 10 179 1298 7788) s m ([.ref (G.2.1 0)] : List Value).toArray below meth c H locs cells slots (MQ below (gQr (gPA G S') (some (.int r)) (gAr (gNo G) s.heap.size)) ([.ref (G.2.1 0)] : List Value).toArray s 1298 7788 (gAr (gNo G) s.heap.size)) (F0 m 40 ls [])) (K186 : At → Int32 → Int32 → Int32 → Int32 → Int32 → Int32 → Int32 → Int32 → Int32 → Int32 → Int32 → Option (Int32 × At)) (n_186 : Nat) (hK186 : ∀ (S : At) (x1 : Int32) (x2 : Int32) (x3 : Int32) (x4 : Int32) (x5 : Int32) (x6 : Int32) (x7 : Int32) (x8 : Int32) (x9 : Int32) (x10 : Int32) (x11 : Int32) (H : Heap) (locs : List Loc) (ls : Array Slot) (cells slots : Nat), cells + (159 + 7 * n_186 + 235 * n_40) ≤ 1298 → slots + (954 + 42 * n_186 + 1410 * n_40) ≤ 7788 → gPA G S H → va_S (gAr (gNo G) s.heap.size) s.heap H locs → lv_has ls 12 [(0, .ref (G.2.1 0)), (1, .int x1), (2, .int x2), (3, .int x3), (4, .int x4), (5, .int x5), (6, .int x6), (7, .int x7), (8, .int x8), (9, .int x9), (10, .int x10), (11, .int x11)] → K186 S x1 x2 x3 x4 x5 x6 x7 x8 x9 x10 x11 = some (r, S') → W p l e (gRx 10 179 1298 7788) s m ([.ref (G.2.1 0)] : List Value).toArray below meth c H locs cells slots (MQ below (gQr (gPA G S') (some (.int r)) (gAr (gNo G) s.heap.size)) ([.ref (G.2.1 0)] : List Value).toArray s 1298 7788 (gAr (gNo G) s.heap.size)) (F0 m 186 ls [])), ∀ (S : At) (x1 : Int32) (x2 : Int32) (x3 : Int32) (x4 : Int32) (x5 : Int32) (x6 : Int32) (x7 : Int32) (x8 : Int32) (x10 : Int32) (x11 : Int32) (t0 : Int32) (t1 : Int32) (H : Heap) (locs : List Loc) (ls : Array Slot) (cells slots : Nat), cells + (163 + 235 * n_40 + 7 * n_186) ≤ 1298 → slots + (978 + 1410 * n_40 + 42 * n_186) ≤ 7788 → gPA G S H → va_S (gAr (gNo G) s.heap.size) s.heap H locs → lv_has ls 12 [(0, .ref (G.2.1 0)), (1, .int x1), (2, .int x2), (3, .int x3), (4, .int x4), (5, .int x5), (6, .int x6), (7, .int x7), (8, .int x8), (10, .int x10), (11, .int x11)] → B_sound_215 K40 K186 S x1 x2 x3 x4 x5 x6 x7 x8 x10 x11 t0 t1 = some (r, S') → W p l e (gRx 10 179 1298 7788) s m ([.ref (G.2.1 0)] : List Value).toArray below meth c H locs cells slots (MQ below (gQr (gPA G S') (some (.int r)) (gAr (gNo G) s.heap.size)) ([.ref (G.2.1 0)] : List Value).toArray s 1298 7788 (gAr (gNo G) s.heap.size)) (F0 m 215 ls [.int t0, .int t1]) := by
    intro K40 n_40 hK40 K186 n_186 hK186 S x1 x2 x3 x4 x5 x6 x7 x8 x10 x11 t0 t1 H locs ls cells slots hcl hsl hw hS hl hf
    unfold B_sound_215 at hf
    refine lv_iadd cx.1 cx.2.1 dL_sound_215 ?_
    obtain ⟨x9_43, ex9_43, hf⟩ := gvi_ex hf
    refine W.eq (g2 := F0 m 216 ls [.int x9_43]) (by rw [← ex9_43]) ?_
    refine lv_istore (lv' := [(9, .int x9_43), (0, .ref (G.2.1 0)), (1, .int x1), (2, .int x2), (3, .int x3), (4, .int x4), (5, .int x5), (6, .int x6), (7, .int x7), (8, .int x8), (10, .int x10), (11, .int x11)]) cx.1 cx.2.1 dL_sound_216 hl (by decide) rfl (fun ls hl => ?_)
    refine lv_iload cx.1 cx.2.1 dL_sound_218 (lv_at hl 9 rfl) ?_
    refine lv_aload_n cx.1 cx.2.1 dL_sound_220 rfl (lv_at hl 1 rfl) ?_
    refine lv_iload cx.1 cx.2.1 dL_sound_221 (lv_at hl 11 rfl) ?_
    refine lv_iconst (v := (3 : Int32)) cx.1 cx.2.1 dL_sound_223 (by decide) ?_
    obtain ⟨v_44, S_45, hv, hf⟩ := gbs_some hf
    refine a_SW (As := [.ref (G.2.1 0), .int x11, .int (3 : Int32)]) (rest := [.int x8]) cx hX hZ hw hS (a_tryTrack l hst G x11 (3 : Int32) S v_44 S_45 hv) gw_366 gw_187 gyw_L_tryTrack ⟨by decide, by decide⟩ ⟨Nat.le_of_ble_eq_true rfl, Nat.le_of_ble_eq_true rfl⟩ (show cells + 2 ≤ 1298 ∧ slots + 12 ≤ 7788 from ⟨by omega, by omega⟩) rfl hl.1 rfl (Nat.le_of_ble_eq_true rfl) dL_sound_224 (fun H locs hw hS => ?_)
    refine W.eq (g2 := F0 m 227 ls [.int v_44, .int x8]) rfl ?_
    refine lv_iload cx.1 cx.2.1 dL_sound_227 (lv_at hl 7 rfl) ?_
    refine lv_icmp_ne (tgt := 242) cx.1 cx.2.1 dL_sound_229 (by decide) (fun hc => ?_) (fun hc => ?_)
    · rw [if_neg hc] at hf
      refine lv_iconst (v := (0 : Int32)) cx.1 cx.2.1 dL_sound_242 (by decide) ?_
      exact hB_243 K40 n_40 hK40 K186 n_186 hK186 S_45 x1 x2 x3 x4 x5 x6 x7 x9_43 x10 x11 (0 : Int32) x8 _ _ _ _ _ (by omega) (by omega) hw hS (lv_sub hl [1, 2, 3, 4, 5, 6, 7, 8, 0, 10, 11] rfl) hf
    · rw [if_pos hc] at hf
      refine lv_aload_n cx.1 cx.2.1 dL_sound_232 rfl (lv_at hl 1 rfl) ?_
      refine lv_iload cx.1 cx.2.1 dL_sound_233 (lv_at hl 11 rfl) ?_
      refine lv_iconst (v := (2 : Int32)) cx.1 cx.2.1 dL_sound_235 (by decide) ?_
      obtain ⟨v_46, S_47, hv, hf⟩ := gbs_some hf
      refine a_SW (As := [.ref (G.2.1 0), .int x11, .int (2 : Int32)]) (rest := [.int x8]) cx hX hZ hw hS (a_tryTrack l hst G x11 (2 : Int32) S_45 v_46 S_47 hv) gw_366 gw_187 gyw_L_tryTrack ⟨by decide, by decide⟩ ⟨Nat.le_of_ble_eq_true rfl, Nat.le_of_ble_eq_true rfl⟩ (show cells + 2 + 2 ≤ 1298 ∧ slots + 12 + 12 ≤ 7788 from ⟨by omega, by omega⟩) rfl hl.1 rfl (Nat.le_of_ble_eq_true rfl) dL_sound_236 (fun H locs hw hS => ?_)
      refine W.eq (g2 := F0 m 239 ls [.int v_46, .int x8]) rfl ?_
      refine lv_goto (tgt := 243) cx.1 cx.2.1 dL_sound_239 (by decide) ?_
      exact hB_243 K40 n_40 hK40 K186 n_186 hK186 S_47 x1 x2 x3 x4 x5 x6 x7 x9_43 x10 x11 v_46 x8 _ _ _ _ _ (by omega) (by omega) hw hS (lv_sub hl [1, 2, 3, 4, 5, 6, 7, 8, 0, 10, 11] rfl) hf
  have hL_186 : ∀ (K40 : At → Int32 → Int32 → Int32 → Int32 → Int32 → Int32 → Option (Int32 × At)) (n_40 : Nat) (hK40 : ∀ (S : At) (x1 : Int32) (x2 : Int32) (x3 : Int32) (x4 : Int32) (x5 : Int32) (x6 : Int32) (H : Heap) (locs : List Loc) (ls : Array Slot) (cells slots : Nat), cells + (121 + 235 * n_40) ≤ 1298 → slots + (726 + 1410 * n_40) ≤ 7788 → gPA G S H → va_S (gAr (gNo G) s.heap.size) s.heap H locs → lv_has ls 12 [(0, .ref (G.2.1 0)), (1, .int x1), (2, .int x2), (3, .int x3), (4, .int x4), (5, .int x5), (6, .int x6)] → K40 S x1 x2 x3 x4 x5 x6 = some (r, S') → W p l e (gRx 10 179 1298 7788) s m ([.ref (G.2.1 0)] : List Value).toArray below meth c H locs cells slots (MQ below (gQr (gPA G S') (some (.int r)) (gAr (gNo G) s.heap.size)) ([.ref (G.2.1 0)] : List Value).toArray s 1298 7788 (gAr (gNo G) s.heap.size)) (F0 m 40 ls [])), ∀ (n : Nat), ∀ (S : At) (x1 : Int32) (x2 : Int32) (x3 : Int32) (x4 : Int32) (x5 : Int32) (x6 : Int32) (x7 : Int32) (x8 : Int32) (x9 : Int32) (x10 : Int32) (x11 : Int32) (H : Heap) (locs : List Loc) (ls : Array Slot) (cells slots : Nat), cells + (159 + 7 * n + 235 * n_40) ≤ 1298 → slots + (954 + 42 * n + 1410 * n_40) ≤ 7788 → gPA G S H → va_S (gAr (gNo G) s.heap.size) s.heap H locs → lv_has ls 12 [(0, .ref (G.2.1 0)), (1, .int x1), (2, .int x2), (3, .int x3), (4, .int x4), (5, .int x5), (6, .int x6), (7, .int x7), (8, .int x8), (9, .int x9), (10, .int x10), (11, .int x11)] → L_sound_186 K40 n S x1 x2 x3 x4 x5 x6 x7 x8 x9 x10 x11 = some (r, S') → W p l e (gRx 10 179 1298 7788) s m ([.ref (G.2.1 0)] : List Value).toArray below meth c H locs cells slots (MQ below (gQr (gPA G S') (some (.int r)) (gAr (gNo G) s.heap.size)) ([.ref (G.2.1 0)] : List Value).toArray s 1298 7788 (gAr (gNo G) s.heap.size)) (F0 m 186 ls []) := by
    intro K40 n_40 hK40 n_186
    induction n_186 with
    | zero => intro S x1 x2 x3 x4 x5 x6 x7 x8 x9 x10 x11 H locs ls cells slots hcl hsl hw hS hl hf; cases hf
    | succ n_186 hK186 =>
      intro S x1 x2 x3 x4 x5 x6 x7 x8 x9 x10 x11 H locs ls cells slots hcl hsl hw hS hl hf
      have hf : Lb_sound_186 K40 (L_sound_186 K40 n_186) S x1 x2 x3 x4 x5 x6 x7 x8 x9 x10 x11 = some (r, S') := hf
      unfold Lb_sound_186 at hf
      refine lv_iload cx.1 cx.2.1 dL_sound_186 (lv_at hl 11 rfl) ?_
      refine lv_aload_n cx.1 cx.2.1 dL_sound_188 rfl (lv_at hl 0 rfl) ?_
      refine lv_iconst (v := (1 : Int32)) cx.1 cx.2.1 dL_sound_189 (by decide) ?_
      obtain ⟨v_48, S_49, hv, hf⟩ := gbs_some hf
      refine a_SW (As := [.ref (G.2.1 0), .int (1 : Int32)]) (rest := [.int x11]) cx hX hZ hw hS (a_tryAbout l hst G (1 : Int32) S v_48 S_49 hv) gw_185 gw_187 gyw_L_tryAbout ⟨by decide, by decide⟩ ⟨Nat.le_of_ble_eq_true rfl, Nat.le_of_ble_eq_true rfl⟩ (show cells + 1 ≤ 1298 ∧ slots + 6 ≤ 7788 from ⟨by omega, by omega⟩) rfl hl.1 rfl (Nat.le_of_ble_eq_true rfl) dL_sound_190 (fun H locs hw hS => ?_)
      refine W.eq (g2 := F0 m 193 ls [.int v_48, .int x11]) rfl ?_
      refine lv_icmp_ge (tgt := 252) cx.1 cx.2.1 dL_sound_193 (by decide) (fun hc => ?_) (fun hc => ?_)
      · rw [if_pos hc] at hf
        refine lv_iconst (v := (0 : Int32)) cx.1 cx.2.1 dL_sound_252 (by decide) ?_
        refine lv_istore (lv' := [(11, .int (0 : Int32)), (0, .ref (G.2.1 0)), (1, .int x1), (2, .int x2), (3, .int x3), (4, .int x4), (5, .int x5), (6, .int x6), (7, .int x7), (8, .int x8), (9, .int x9), (10, .int x10)]) cx.1 cx.2.1 dL_sound_253 hl (by decide) rfl (fun ls hl => ?_)
        exact hL_255 K40 n_40 hK40 9 S_49 x1 x2 x3 x4 x5 x6 x7 x8 x9 x10 (0 : Int32) _ _ _ _ _ (by omega) (by omega) hw hS (lv_sub hl [1, 2, 3, 4, 5, 6, 7, 8, 9, 10, 11, 0] rfl) hf
      · rw [if_neg hc] at hf
        refine lv_iload cx.1 cx.2.1 dL_sound_196 (lv_at hl 9 rfl) ?_
        refine lv_aload_n cx.1 cx.2.1 dL_sound_198 rfl (lv_at hl 0 rfl) ?_
        refine lv_iload cx.1 cx.2.1 dL_sound_199 (lv_at hl 11 rfl) ?_
        refine lv_iconst (v := (3 : Int32)) cx.1 cx.2.1 dL_sound_201 (by decide) ?_
        obtain ⟨v_50, S_51, hv, hf⟩ := gbs_some hf
        refine a_SW (As := [.ref (G.2.1 0), .int x11, .int (3 : Int32)]) (rest := [.int x9]) cx hX hZ hw hS (a_tryTrack l hst G x11 (3 : Int32) S_49 v_50 S_51 hv) gw_366 gw_187 gyw_L_tryTrack ⟨by decide, by decide⟩ ⟨Nat.le_of_ble_eq_true rfl, Nat.le_of_ble_eq_true rfl⟩ (show cells + 1 + 2 ≤ 1298 ∧ slots + 6 + 12 ≤ 7788 from ⟨by omega, by omega⟩) rfl hl.1 rfl (Nat.le_of_ble_eq_true rfl) dL_sound_202 (fun H locs hw hS => ?_)
        refine W.eq (g2 := F0 m 205 ls [.int v_50, .int x9]) rfl ?_
        refine lv_iload cx.1 cx.2.1 dL_sound_205 (lv_at hl 6 rfl) ?_
        refine lv_icmp_ne (tgt := 214) cx.1 cx.2.1 dL_sound_207 (by decide) (fun hc => ?_) (fun hc => ?_)
        · rw [if_neg hc] at hf
          refine lv_iconst (v := (0 : Int32)) cx.1 cx.2.1 dL_sound_214 (by decide) ?_
          exact hB_215 K40 n_40 hK40 (L_sound_186 K40 n_186) n_186 hK186 S_51 x1 x2 x3 x4 x5 x6 x7 x8 x10 x11 (0 : Int32) x9 _ _ _ _ _ (by omega) (by omega) hw hS (lv_sub hl [0, 1, 2, 3, 4, 5, 6, 7, 8, 10, 11] rfl) hf
        · rw [if_pos hc] at hf
          refine lv_iconst (v := (1 : Int32)) cx.1 cx.2.1 dL_sound_210 (by decide) ?_
          refine lv_goto (tgt := 215) cx.1 cx.2.1 dL_sound_211 (by decide) ?_
          exact hB_215 K40 n_40 hK40 (L_sound_186 K40 n_186) n_186 hK186 S_51 x1 x2 x3 x4 x5 x6 x7 x8 x10 x11 (1 : Int32) x9 _ _ _ _ _ (by omega) (by omega) hw hS (lv_sub hl [0, 1, 2, 3, 4, 5, 6, 7, 8, 10, 11] rfl) hf
  have hB_174 : ∀ (K40 : At → Int32 → Int32 → Int32 → Int32 → Int32 → Int32 → Option (Int32 × At)) (n_40 : Nat) (hK40 : ∀ (S : At) (x1 : Int32) (x2 : Int32) (x3 : Int32) (x4 : Int32) (x5 : Int32) (x6 : Int32) (H : Heap) (locs : List Loc) (ls : Array Slot) (cells slots : Nat), cells + (121 + 235 * n_40) ≤ 1298 → slots + (726 + 1410 * n_40) ≤ 7788 → gPA G S H → va_S (gAr (gNo G) s.heap.size) s.heap H locs → lv_has ls 12 [(0, .ref (G.2.1 0)), (1, .int x1), (2, .int x2), (3, .int x3), (4, .int x4), (5, .int x5), (6, .int x6)] → K40 S x1 x2 x3 x4 x5 x6 = some (r, S') → W p l e (gRx 10 179 1298 7788) s m ([.ref (G.2.1 0)] : List Value).toArray below meth c H locs cells slots (MQ below (gQr (gPA G S') (some (.int r)) (gAr (gNo G) s.heap.size)) ([.ref (G.2.1 0)] : List Value).toArray s 1298 7788 (gAr (gNo G) s.heap.size)) (F0 m 40 ls [])) (K97 : At → Int32 → Int32 → Int32 → Int32 → Int32 → Int32 → Int32 → Int32 → Int32 → Int32 → Int32 → Option (Int32 × At)) (n_97 : Nat) (hK97 : ∀ (S : At) (x1 : Int32) (x2 : Int32) (x3 : Int32) (x4 : Int32) (x5 : Int32) (x6 : Int32) (x7 : Int32) (x8 : Int32) (x9 : Int32) (x10 : Int32) (x11 : Int32) (H : Heap) (locs : List Loc) (ls : Array Slot) (cells slots : Nat), cells + (280 + 14 * n_97 + 235 * n_40) ≤ 1298 → slots + (1680 + 84 * n_97 + 1410 * n_40) ≤ 7788 → gPA G S H → va_S (gAr (gNo G) s.heap.size) s.heap H locs → lv_has ls 12 [(0, .ref (G.2.1 0)), (1, .int x1), (2, .int x2), (3, .int x3), (4, .int x4), (5, .int x5), (6, .int x6), (7, .int x7), (8, .int x8), (9, .int x9), (10, .int x10), (11, .int x11)] → K97 S x1 x2 x3 x4 x5 x6 x7 x8 x9 x10 x11 = some (r, S') → W p l e (gRx 10 179 1298 7788) s m ([.ref (G.2.1 0)] : List Value).toArray below meth c H locs cells slots (MQ below (gQr (gPA G S') (some (.int r)) (gAr (gNo G) s.heap.size)) ([.ref (G.2.1 0)] : List Value).toArray s 1298 7788 (gAr (gNo G) s.heap.size)) (F0 m 97 ls [])), ∀ (S : At) (x1 : Int32) (x2 : Int32) (x3 : Int32) (x4 : Int32) (x6 : Int32) (x7 : Int32) (x8 : Int32) (x9 : Int32) (x10 : Int32) (x11 : Int32) (H : Heap) (locs : List Loc) (ls : Array Slot) (cells slots : Nat), cells + (280 + 235 * n_40 + 14 * n_97) ≤ 1298 → slots + (1680 + 1410 * n_40 + 84 * n_97) ≤ 7788 → gPA G S H → va_S (gAr (gNo G) s.heap.size) s.heap H locs → lv_has ls 12 [(0, .ref (G.2.1 0)), (1, .int x1), (2, .int x2), (3, .int x3), (4, .int x4), (6, .int x6), (7, .int x7), (8, .int x8), (9, .int x9), (10, .int x10), (11, .int x11)] → B_sound_174 K40 K97 S x1 x2 x3 x4 x6 x7 x8 x9 x10 x11 = some (r, S') → W p l e (gRx 10 179 1298 7788) s m ([.ref (G.2.1 0)] : List Value).toArray below meth c H locs cells slots (MQ below (gQr (gPA G S') (some (.int r)) (gAr (gNo G) s.heap.size)) ([.ref (G.2.1 0)] : List Value).toArray s 1298 7788 (gAr (gNo G) s.heap.size)) (F0 m 174 ls []) := by
    intro K40 n_40 hK40 K97 n_97 hK97 S x1 x2 x3 x4 x6 x7 x8 x9 x10 x11 H locs ls cells slots hcl hsl hw hS hl hf
    unfold B_sound_174 at hf
    refine lv_iconst (v := (0 : Int32)) cx.1 cx.2.1 dL_sound_174 (by decide) ?_
    refine lv_istore (lv' := [(5, .int (0 : Int32)), (0, .ref (G.2.1 0)), (1, .int x1), (2, .int x2), (3, .int x3), (4, .int x4), (6, .int x6), (7, .int x7), (8, .int x8), (9, .int x9), (10, .int x10), (11, .int x11)]) cx.1 cx.2.1 dL_sound_175 hl (by decide) rfl (fun ls hl => ?_)
    obtain ⟨x11_52, ex11_52, hf⟩ := gvi_ex hf
    refine lv_iinc (v := x11_52) (lv' := [(11, .int x11_52), (5, .int (0 : Int32)), (0, .ref (G.2.1 0)), (1, .int x1), (2, .int x2), (3, .int x3), (4, .int x4), (6, .int x6), (7, .int x7), (8, .int x8), (9, .int x9), (10, .int x10)]) cx.1 cx.2.1 dL_sound_177 hl (k := 11) rfl (by rw [← ex11_52]; rfl) (by decide) rfl (fun ls hl => ?_)
    refine lv_goto (tgt := 97) cx.1 cx.2.1 dL_sound_180 (by decide) ?_
    exact hK97 S x1 x2 x3 x4 (0 : Int32) x6 x7 x8 x9 x10 x11_52 _ _ _ _ _ (by omega) (by omega) hw hS (lv_sub hl [2, 3, 4, 5, 6, 1, 7, 8, 9, 10, 11, 0] rfl) hf
  have hL_97 : ∀ (K40 : At → Int32 → Int32 → Int32 → Int32 → Int32 → Int32 → Option (Int32 × At)) (n_40 : Nat) (hK40 : ∀ (S : At) (x1 : Int32) (x2 : Int32) (x3 : Int32) (x4 : Int32) (x5 : Int32) (x6 : Int32) (H : Heap) (locs : List Loc) (ls : Array Slot) (cells slots : Nat), cells + (121 + 235 * n_40) ≤ 1298 → slots + (726 + 1410 * n_40) ≤ 7788 → gPA G S H → va_S (gAr (gNo G) s.heap.size) s.heap H locs → lv_has ls 12 [(0, .ref (G.2.1 0)), (1, .int x1), (2, .int x2), (3, .int x3), (4, .int x4), (5, .int x5), (6, .int x6)] → K40 S x1 x2 x3 x4 x5 x6 = some (r, S') → W p l e (gRx 10 179 1298 7788) s m ([.ref (G.2.1 0)] : List Value).toArray below meth c H locs cells slots (MQ below (gQr (gPA G S') (some (.int r)) (gAr (gNo G) s.heap.size)) ([.ref (G.2.1 0)] : List Value).toArray s 1298 7788 (gAr (gNo G) s.heap.size)) (F0 m 40 ls [])), ∀ (n : Nat), ∀ (S : At) (x1 : Int32) (x2 : Int32) (x3 : Int32) (x4 : Int32) (x5 : Int32) (x6 : Int32) (x7 : Int32) (x8 : Int32) (x9 : Int32) (x10 : Int32) (x11 : Int32) (H : Heap) (locs : List Loc) (ls : Array Slot) (cells slots : Nat), cells + (280 + 14 * n + 235 * n_40) ≤ 1298 → slots + (1680 + 84 * n + 1410 * n_40) ≤ 7788 → gPA G S H → va_S (gAr (gNo G) s.heap.size) s.heap H locs → lv_has ls 12 [(0, .ref (G.2.1 0)), (1, .int x1), (2, .int x2), (3, .int x3), (4, .int x4), (5, .int x5), (6, .int x6), (7, .int x7), (8, .int x8), (9, .int x9), (10, .int x10), (11, .int x11)] → L_sound_97 K40 n S x1 x2 x3 x4 x5 x6 x7 x8 x9 x10 x11 = some (r, S') → W p l e (gRx 10 179 1298 7788) s m ([.ref (G.2.1 0)] : List Value).toArray below meth c H locs cells slots (MQ below (gQr (gPA G S') (some (.int r)) (gAr (gNo G) s.heap.size)) ([.ref (G.2.1 0)] : List Value).toArray s 1298 7788 (gAr (gNo G) s.heap.size)) (F0 m 97 ls []) := by
    intro K40 n_40 hK40 n_97
    induction n_97 with
    | zero => intro S x1 x2 x3 x4 x5 x6 x7 x8 x9 x10 x11 H locs ls cells slots hcl hsl hw hS hl hf; cases hf
    | succ n_97 hK97 =>
      intro S x1 x2 x3 x4 x5 x6 x7 x8 x9 x10 x11 H locs ls cells slots hcl hsl hw hS hl hf
      have hf : Lb_sound_97 K40 (L_sound_97 K40 n_97) S x1 x2 x3 x4 x5 x6 x7 x8 x9 x10 x11 = some (r, S') := hf
      unfold Lb_sound_97 at hf
      refine lv_iload cx.1 cx.2.1 dL_sound_97 (lv_at hl 11 rfl) ?_
      refine lv_aload_n cx.1 cx.2.1 dL_sound_99 rfl (lv_at hl 0 rfl) ?_
      refine lv_iload cx.1 cx.2.1 dL_sound_100 (lv_at hl 6 rfl) ?_
      refine lv_iconst (v := (2 : Int32)) cx.1 cx.2.1 dL_sound_102 (by decide) ?_
      obtain ⟨v_53, S_54, hv, hf⟩ := gbs_some hf
      refine a_SW (As := [.ref (G.2.1 0), .int x6, .int (2 : Int32)]) (rest := [.int x11]) cx hX hZ hw hS (a_tryCompany l hst G x6 (2 : Int32) S v_53 S_54 hv) gw_349 gw_187 gyw_L_tryCompany ⟨by decide, by decide⟩ ⟨Nat.le_of_ble_eq_true rfl, Nat.le_of_ble_eq_true rfl⟩ (show cells + 2 ≤ 1298 ∧ slots + 12 ≤ 7788 from ⟨by omega, by omega⟩) rfl hl.1 rfl (Nat.le_of_ble_eq_true rfl) dL_sound_103 (fun H locs hw hS => ?_)
      refine W.eq (g2 := F0 m 106 ls [.int v_53, .int x11]) rfl ?_
      refine lv_icmp_ge (tgt := 183) cx.1 cx.2.1 dL_sound_106 (by decide) (fun hc => ?_) (fun hc => ?_)
      · rw [if_pos hc] at hf
        refine lv_iconst (v := (0 : Int32)) cx.1 cx.2.1 dL_sound_183 (by decide) ?_
        refine lv_istore (lv' := [(11, .int (0 : Int32)), (0, .ref (G.2.1 0)), (1, .int x1), (2, .int x2), (3, .int x3), (4, .int x4), (5, .int x5), (6, .int x6), (7, .int x7), (8, .int x8), (9, .int x9), (10, .int x10)]) cx.1 cx.2.1 dL_sound_184 hl (by decide) rfl (fun ls hl => ?_)
        exact hL_186 K40 n_40 hK40 17 S_54 x1 x2 x3 x4 x5 x6 x7 x8 x9 x10 (0 : Int32) _ _ _ _ _ (by omega) (by omega) hw hS (lv_sub hl [1, 2, 3, 4, 5, 6, 7, 8, 9, 10, 11, 0] rfl) hf
      · rw [if_neg hc] at hf
        refine lv_iload cx.1 cx.2.1 dL_sound_109 (lv_at hl 5 rfl) ?_
        refine lv_if_eq (tgt := 183) cx.1 cx.2.1 dL_sound_111 (by decide) (fun hc => ?_) (fun hc => ?_)
        · rw [if_pos hc] at hf
          refine lv_iconst (v := (0 : Int32)) cx.1 cx.2.1 dL_sound_183 (by decide) ?_
          refine lv_istore (lv' := [(11, .int (0 : Int32)), (0, .ref (G.2.1 0)), (1, .int x1), (2, .int x2), (3, .int x3), (4, .int x4), (5, .int x5), (6, .int x6), (7, .int x7), (8, .int x8), (9, .int x9), (10, .int x10)]) cx.1 cx.2.1 dL_sound_184 hl (by decide) rfl (fun ls hl => ?_)
          exact hL_186 K40 n_40 hK40 17 S_54 x1 x2 x3 x4 x5 x6 x7 x8 x9 x10 (0 : Int32) _ _ _ _ _ (by omega) (by omega) hw hS (lv_sub hl [1, 2, 3, 4, 5, 6, 7, 8, 9, 10, 11, 0] rfl) hf
        · rw [if_neg hc] at hf
          refine lv_iload cx.1 cx.2.1 dL_sound_114 (lv_at hl 7 rfl) ?_
          refine lv_aload_n cx.1 cx.2.1 dL_sound_116 rfl (lv_at hl 0 rfl) ?_
          refine lv_iload cx.1 cx.2.1 dL_sound_117 (lv_at hl 6 rfl) ?_
          refine lv_iload cx.1 cx.2.1 dL_sound_119 (lv_at hl 11 rfl) ?_
          refine lv_iconst (v := (0 : Int32)) cx.1 cx.2.1 dL_sound_121 (by decide) ?_
          obtain ⟨v_55, S_56, hv, hf⟩ := gbs_some hf
          refine a_SW (As := [.ref (G.2.1 0), .int x6, .int x11, .int (0 : Int32)]) (rest := [.int x7]) cx hX hZ hw hS (a_tryTrain l hst G x6 x11 (0 : Int32) S_54 v_55 S_56 hv) gw_389 gw_187 gyw_L_tryTrain ⟨by decide, by decide⟩ ⟨Nat.le_of_ble_eq_true rfl, Nat.le_of_ble_eq_true rfl⟩ (show cells + 2 + 3 ≤ 1298 ∧ slots + 12 + 18 ≤ 7788 from ⟨by omega, by omega⟩) rfl hl.1 rfl (Nat.le_of_ble_eq_true rfl) dL_sound_122 (fun H locs hw hS => ?_)
          refine W.eq (g2 := F0 m 125 ls [.int v_55, .int x7]) rfl ?_
          refine lv_iadd cx.1 cx.2.1 dL_sound_125 ?_
          obtain ⟨x7_57, ex7_57, hf⟩ := gvi_ex hf
          refine W.eq (g2 := F0 m 126 ls [.int x7_57]) (by rw [← ex7_57]) ?_
          refine lv_istore (lv' := [(7, .int x7_57), (0, .ref (G.2.1 0)), (1, .int x1), (2, .int x2), (3, .int x3), (4, .int x4), (5, .int x5), (6, .int x6), (8, .int x8), (9, .int x9), (10, .int x10), (11, .int x11)]) cx.1 cx.2.1 dL_sound_126 hl (by decide) rfl (fun ls hl => ?_)
          refine lv_aload_n cx.1 cx.2.1 dL_sound_128 rfl (lv_at hl 1 rfl) ?_
          refine lv_iload cx.1 cx.2.1 dL_sound_129 (lv_at hl 7 rfl) ?_
          refine lv_iload cx.1 cx.2.1 dL_sound_131 (lv_at hl 11 rfl) ?_
          refine lv_iconst (v := (0 : Int32)) cx.1 cx.2.1 dL_sound_133 (by decide) ?_
          obtain ⟨v_58, S_59, hv, hf⟩ := gbs_some hf
          refine a_SW (As := [.ref (G.2.1 0), .int x6, .int x11, .int (0 : Int32)]) (rest := []) cx hX hZ hw hS (a_tryTrain l hst G x6 x11 (0 : Int32) S_56 v_58 S_59 hv) gw_389 gw_187 gyw_L_tryTrain ⟨by decide, by decide⟩ ⟨Nat.le_of_ble_eq_true rfl, Nat.le_of_ble_eq_true rfl⟩ (show cells + 2 + 3 + 3 ≤ 1298 ∧ slots + 12 + 18 + 18 ≤ 7788 from ⟨by omega, by omega⟩) rfl hl.1 rfl (Nat.le_of_ble_eq_true rfl) dL_sound_134 (fun H locs hw hS => ?_)
          refine W.eq (g2 := F0 m 137 ls [.int v_58]) rfl ?_
          refine lv_iload cx.1 cx.2.1 dL_sound_137 (lv_at hl 5 rfl) ?_
          refine lv_iconst (v := (1 : Int32)) cx.1 cx.2.1 dL_sound_139 (by decide) ?_
          refine lv_isub cx.1 cx.2.1 dL_sound_140 ?_
          refine lv_icmp_lt (tgt := 174) cx.1 cx.2.1 dL_sound_141 (by decide) (fun hc => ?_) (fun hc => ?_)
          · rw [if_pos hc] at hf
            exact hB_174 K40 n_40 hK40 (L_sound_97 K40 n_97) n_97 hK97 S_59 x1 x2 x3 x4 x6 x7_57 x8 x9 x10 x11 _ _ _ _ _ (by omega) (by omega) hw hS (lv_sub hl [1, 2, 3, 4, 5, 7, 0, 8, 9, 10, 11] rfl) hf
          · rw [if_neg hc] at hf
            refine lv_aload_n cx.1 cx.2.1 dL_sound_144 rfl (lv_at hl 1 rfl) ?_
            refine lv_iload cx.1 cx.2.1 dL_sound_145 (lv_at hl 7 rfl) ?_
            refine lv_iload cx.1 cx.2.1 dL_sound_147 (lv_at hl 11 rfl) ?_
            refine lv_iconst (v := (0 : Int32)) cx.1 cx.2.1 dL_sound_149 (by decide) ?_
            obtain ⟨v_60, S_61, hv, hf⟩ := gbs_some hf
            refine a_SW (As := [.ref (G.2.1 0), .int x6, .int x11, .int (0 : Int32)]) (rest := []) cx hX hZ hw hS (a_tryTrain l hst G x6 x11 (0 : Int32) S_59 v_60 S_61 hv) gw_389 gw_187 gyw_L_tryTrain ⟨by decide, by decide⟩ ⟨Nat.le_of_ble_eq_true rfl, Nat.le_of_ble_eq_true rfl⟩ (show cells + 2 + 3 + 3 + 3 ≤ 1298 ∧ slots + 12 + 18 + 18 + 18 ≤ 7788 from ⟨by omega, by omega⟩) rfl hl.1 rfl (Nat.le_of_ble_eq_true rfl) dL_sound_150 (fun H locs hw hS => ?_)
            refine W.eq (g2 := F0 m 153 ls [.int v_60]) rfl ?_
            refine lv_iload cx.1 cx.2.1 dL_sound_153 (lv_at hl 5 rfl) ?_
            refine lv_icmp_gt (tgt := 174) cx.1 cx.2.1 dL_sound_155 (by decide) (fun hc => ?_) (fun hc => ?_)
            · rw [if_pos hc] at hf
              exact hB_174 K40 n_40 hK40 (L_sound_97 K40 n_97) n_97 hK97 S_61 x1 x2 x3 x4 x6 x7_57 x8 x9 x10 x11 _ _ _ _ _ (by omega) (by omega) hw hS (lv_sub hl [1, 2, 3, 4, 5, 7, 0, 8, 9, 10, 11] rfl) hf
            · rw [if_neg hc] at hf
              refine lv_aload_n cx.1 cx.2.1 dL_sound_158 rfl (lv_at hl 1 rfl) ?_
              refine lv_iload cx.1 cx.2.1 dL_sound_159 (lv_at hl 7 rfl) ?_
              refine lv_iload cx.1 cx.2.1 dL_sound_161 (lv_at hl 11 rfl) ?_
              refine lv_iconst (v := (0 : Int32)) cx.1 cx.2.1 dL_sound_163 (by decide) ?_
              obtain ⟨v_62, S_63, hv, hf⟩ := gbs_some hf
              refine a_SW (As := [.ref (G.2.1 0), .int x6, .int x11, .int (0 : Int32)]) (rest := []) cx hX hZ hw hS (a_tryTrain l hst G x6 x11 (0 : Int32) S_61 v_62 S_63 hv) gw_389 gw_187 gyw_L_tryTrain ⟨by decide, by decide⟩ ⟨Nat.le_of_ble_eq_true rfl, Nat.le_of_ble_eq_true rfl⟩ (show cells + 2 + 3 + 3 + 3 + 3 ≤ 1298 ∧ slots + 12 + 18 + 18 + 18 + 18 ≤ 7788 from ⟨by omega, by omega⟩) rfl hl.1 rfl (Nat.le_of_ble_eq_true rfl) dL_sound_164 (fun H locs hw hS => ?_)
              refine W.eq (g2 := F0 m 167 ls [.int v_62]) rfl ?_
              refine lv_if_le (tgt := 174) cx.1 cx.2.1 dL_sound_167 (by decide) (fun hc => ?_) (fun hc => ?_)
              · rw [if_pos hc] at hf
                exact hB_174 K40 n_40 hK40 (L_sound_97 K40 n_97) n_97 hK97 S_63 x1 x2 x3 x4 x6 x7_57 x8 x9 x10 x11 _ _ _ _ _ (by omega) (by omega) hw hS (lv_sub hl [1, 2, 3, 4, 5, 7, 0, 8, 9, 10, 11] rfl) hf
              · rw [if_neg hc] at hf
                refine lv_iconst (v := (1 : Int32)) cx.1 cx.2.1 dL_sound_170 (by decide) ?_
                refine lv_goto (tgt := 175) cx.1 cx.2.1 dL_sound_171 (by decide) ?_
                refine lv_istore (lv' := [(5, .int (1 : Int32)), (7, .int x7_57), (0, .ref (G.2.1 0)), (1, .int x1), (2, .int x2), (3, .int x3), (4, .int x4), (6, .int x6), (8, .int x8), (9, .int x9), (10, .int x10), (11, .int x11)]) cx.1 cx.2.1 dL_sound_175 hl (by decide) rfl (fun ls hl => ?_)
                obtain ⟨x11_64, ex11_64, hf⟩ := gvi_ex hf
                refine lv_iinc (v := x11_64) (lv' := [(11, .int x11_64), (5, .int (1 : Int32)), (7, .int x7_57), (0, .ref (G.2.1 0)), (1, .int x1), (2, .int x2), (3, .int x3), (4, .int x4), (6, .int x6), (8, .int x8), (9, .int x9), (10, .int x10)]) cx.1 cx.2.1 dL_sound_177 hl (k := 11) rfl (by rw [← ex11_64]; rfl) (by decide) rfl (fun ls hl => ?_)
                refine lv_goto (tgt := 97) cx.1 cx.2.1 dL_sound_180 (by decide) ?_
                exact hK97 S_63 x1 x2 x3 x4 (1 : Int32) x6 x7_57 x8 x9 x10 x11_64 _ _ _ _ _ (by omega) (by omega) hw hS (lv_sub hl [3, 4, 5, 6, 7, 1, 8, 2, 9, 10, 11, 0] rfl) hf
  have hL_40 : ∀ (n : Nat), ∀ (S : At) (x1 : Int32) (x2 : Int32) (x3 : Int32) (x4 : Int32) (x5 : Int32) (x6 : Int32) (H : Heap) (locs : List Loc) (ls : Array Slot) (cells slots : Nat), cells + (121 + 235 * n) ≤ 1298 → slots + (726 + 1410 * n) ≤ 7788 → gPA G S H → va_S (gAr (gNo G) s.heap.size) s.heap H locs → lv_has ls 12 [(0, .ref (G.2.1 0)), (1, .int x1), (2, .int x2), (3, .int x3), (4, .int x4), (5, .int x5), (6, .int x6)] → L_sound_40 n S x1 x2 x3 x4 x5 x6 = some (r, S') → W p l e (gRx 10 179 1298 7788) s m ([.ref (G.2.1 0)] : List Value).toArray below meth c H locs cells slots (MQ below (gQr (gPA G S') (some (.int r)) (gAr (gNo G) s.heap.size)) ([.ref (G.2.1 0)] : List Value).toArray s 1298 7788 (gAr (gNo G) s.heap.size)) (F0 m 40 ls []) := by
    intro n_40
    induction n_40 with
    | zero => intro S x1 x2 x3 x4 x5 x6 H locs ls cells slots hcl hsl hw hS hl hf; cases hf
    | succ n_40 hK40 =>
      intro S x1 x2 x3 x4 x5 x6 H locs ls cells slots hcl hsl hw hS hl hf
      have hf : Lb_sound_40 (L_sound_40 n_40) S x1 x2 x3 x4 x5 x6 = some (r, S') := hf
      unfold Lb_sound_40 at hf
      refine lv_iload cx.1 cx.2.1 dL_sound_40 (lv_at hl 6 rfl) ?_
      refine lv_iconst (v := (4 : Int32)) cx.1 cx.2.1 dL_sound_42 (by decide) ?_
      refine lv_icmp_ge (tgt := 373) cx.1 cx.2.1 dL_sound_43 (by decide) (fun hc => ?_) (fun hc => ?_)
      · rw [if_pos hc] at hf
        refine lv_iconst (v := (0 : Int32)) cx.1 cx.2.1 dL_sound_373 (by decide) ?_
        refine lv_istore (lv' := [(6, .int (0 : Int32)), (0, .ref (G.2.1 0)), (1, .int x1), (2, .int x2), (3, .int x3), (4, .int x4), (5, .int x5)]) cx.1 cx.2.1 dL_sound_374 hl (by decide) rfl (fun ls hl => ?_)
        exact hL_376 9 S x1 x2 x3 x5 (0 : Int32) _ _ _ _ _ (by omega) (by omega) hw hS (lv_sub hl [1, 2, 3, 4, 6, 0] rfl) hf
      · rw [if_neg hc] at hf
        refine lv_iload cx.1 cx.2.1 dL_sound_46 (lv_at hl 5 rfl) ?_
        refine lv_if_eq (tgt := 373) cx.1 cx.2.1 dL_sound_48 (by decide) (fun hc => ?_) (fun hc => ?_)
        · rw [if_pos hc] at hf
          refine lv_iconst (v := (0 : Int32)) cx.1 cx.2.1 dL_sound_373 (by decide) ?_
          refine lv_istore (lv' := [(6, .int (0 : Int32)), (0, .ref (G.2.1 0)), (1, .int x1), (2, .int x2), (3, .int x3), (4, .int x4), (5, .int x5)]) cx.1 cx.2.1 dL_sound_374 hl (by decide) rfl (fun ls hl => ?_)
          exact hL_376 9 S x1 x2 x3 x5 (0 : Int32) _ _ _ _ _ (by omega) (by omega) hw hS (lv_sub hl [1, 2, 3, 4, 6, 0] rfl) hf
        · rw [if_neg hc] at hf
          refine lv_iconst (v := (0 : Int32)) cx.1 cx.2.1 dL_sound_51 (by decide) ?_
          refine lv_istore (lv' := [(7, .int (0 : Int32)), (0, .ref (G.2.1 0)), (1, .int x1), (2, .int x2), (3, .int x3), (4, .int x4), (5, .int x5), (6, .int x6)]) cx.1 cx.2.1 dL_sound_52 hl (by decide) rfl (fun ls hl => ?_)
          refine lv_iconst (v := (0 : Int32)) cx.1 cx.2.1 dL_sound_54 (by decide) ?_
          refine lv_istore (lv' := [(8, .int (0 : Int32)), (7, .int (0 : Int32)), (0, .ref (G.2.1 0)), (1, .int x1), (2, .int x2), (3, .int x3), (4, .int x4), (5, .int x5), (6, .int x6)]) cx.1 cx.2.1 dL_sound_55 hl (by decide) rfl (fun ls hl => ?_)
          refine lv_iconst (v := (0 : Int32)) cx.1 cx.2.1 dL_sound_57 (by decide) ?_
          refine lv_istore (lv' := [(9, .int (0 : Int32)), (8, .int (0 : Int32)), (7, .int (0 : Int32)), (0, .ref (G.2.1 0)), (1, .int x1), (2, .int x2), (3, .int x3), (4, .int x4), (5, .int x5), (6, .int x6)]) cx.1 cx.2.1 dL_sound_58 hl (by decide) rfl (fun ls hl => ?_)
          refine lv_iconst (v := (0 : Int32)) cx.1 cx.2.1 dL_sound_60 (by decide) ?_
          refine lv_istore (lv' := [(10, .int (0 : Int32)), (9, .int (0 : Int32)), (8, .int (0 : Int32)), (7, .int (0 : Int32)), (0, .ref (G.2.1 0)), (1, .int x1), (2, .int x2), (3, .int x3), (4, .int x4), (5, .int x5), (6, .int x6)]) cx.1 cx.2.1 dL_sound_61 hl (by decide) rfl (fun ls hl => ?_)
          refine lv_iload_n cx.1 cx.2.1 dL_sound_63 rfl (lv_at hl 5 rfl) ?_
          refine lv_aload_n cx.1 cx.2.1 dL_sound_64 rfl (lv_at hl 4 rfl) ?_
          refine lv_iload cx.1 cx.2.1 dL_sound_65 (lv_at hl 10 rfl) ?_
          refine lv_iconst (v := (0 : Int32)) cx.1 cx.2.1 dL_sound_67 (by decide) ?_
          obtain ⟨v_65, S_66, hv, hf⟩ := gbs_some hf
          refine a_SW (As := [.ref (G.2.1 0), .int x6, .int (0 : Int32)]) (rest := [.int x1]) cx hX hZ hw hS (a_tryCompany l hst G x6 (0 : Int32) S v_65 S_66 hv) gw_349 gw_187 gyw_L_tryCompany ⟨by decide, by decide⟩ ⟨Nat.le_of_ble_eq_true rfl, Nat.le_of_ble_eq_true rfl⟩ (show cells + 2 ≤ 1298 ∧ slots + 12 ≤ 7788 from ⟨by omega, by omega⟩) rfl hl.1 rfl (Nat.le_of_ble_eq_true rfl) dL_sound_68 (fun H locs hw hS => ?_)
          refine W.eq (g2 := F0 m 71 ls [.int v_65, .int x1]) rfl ?_
          refine lv_iadd cx.1 cx.2.1 dL_sound_71 ?_
          obtain ⟨x1_67, ex1_67, hf⟩ := gvi_ex hf
          refine W.eq (g2 := F0 m 72 ls [.int x1_67]) (by rw [← ex1_67]) ?_
          refine lv_istore_n (lv' := [(1, .int x1_67), (10, .int (0 : Int32)), (9, .int (0 : Int32)), (8, .int (0 : Int32)), (7, .int (0 : Int32)), (0, .ref (G.2.1 0)), (2, .int x2), (3, .int x3), (4, .int x4), (5, .int x5), (6, .int x6)]) cx.1 cx.2.1 dL_sound_72 rfl hl (by decide) rfl (fun ls hl => ?_)
          refine lv_iload_n cx.1 cx.2.1 dL_sound_73 rfl (lv_at hl 6 rfl) ?_
          refine lv_aload_n cx.1 cx.2.1 dL_sound_74 rfl (lv_at hl 5 rfl) ?_
          refine lv_iload cx.1 cx.2.1 dL_sound_75 (lv_at hl 10 rfl) ?_
          refine lv_iconst (v := (5 : Int32)) cx.1 cx.2.1 dL_sound_77 (by decide) ?_
          obtain ⟨v_68, S_69, hv, hf⟩ := gbs_some hf
          refine a_SW (As := [.ref (G.2.1 0), .int x6, .int (5 : Int32)]) (rest := [.int x2]) cx hX hZ hw hS (a_tryCompany l hst G x6 (5 : Int32) S_66 v_68 S_69 hv) gw_349 gw_187 gyw_L_tryCompany ⟨by decide, by decide⟩ ⟨Nat.le_of_ble_eq_true rfl, Nat.le_of_ble_eq_true rfl⟩ (show cells + 2 + 2 ≤ 1298 ∧ slots + 12 + 12 ≤ 7788 from ⟨by omega, by omega⟩) rfl hl.1 rfl (Nat.le_of_ble_eq_true rfl) dL_sound_78 (fun H locs hw hS => ?_)
          refine W.eq (g2 := F0 m 81 ls [.int v_68, .int x2]) rfl ?_
          refine lv_iadd cx.1 cx.2.1 dL_sound_81 ?_
          obtain ⟨x2_70, ex2_70, hf⟩ := gvi_ex hf
          refine W.eq (g2 := F0 m 82 ls [.int x2_70]) (by rw [← ex2_70]) ?_
          refine lv_istore_n (lv' := [(2, .int x2_70), (1, .int x1_67), (10, .int (0 : Int32)), (9, .int (0 : Int32)), (8, .int (0 : Int32)), (7, .int (0 : Int32)), (0, .ref (G.2.1 0)), (3, .int x3), (4, .int x4), (5, .int x5), (6, .int x6)]) cx.1 cx.2.1 dL_sound_82 rfl hl (by decide) rfl (fun ls hl => ?_)
          refine lv_iload_n cx.1 cx.2.1 dL_sound_83 rfl (lv_at hl 7 rfl) ?_
          refine lv_aload_n cx.1 cx.2.1 dL_sound_84 rfl (lv_at hl 6 rfl) ?_
          refine lv_iload cx.1 cx.2.1 dL_sound_85 (lv_at hl 10 rfl) ?_
          refine lv_bipush (v := (6 : Int32)) cx.1 cx.2.1 dL_sound_87 (by decide) ?_
          obtain ⟨v_71, S_72, hv, hf⟩ := gbs_some hf
          refine a_SW (As := [.ref (G.2.1 0), .int x6, .int (6 : Int32)]) (rest := [.int x3]) cx hX hZ hw hS (a_tryCompany l hst G x6 (6 : Int32) S_69 v_71 S_72 hv) gw_349 gw_187 gyw_L_tryCompany ⟨by decide, by decide⟩ ⟨Nat.le_of_ble_eq_true rfl, Nat.le_of_ble_eq_true rfl⟩ (show cells + 2 + 2 + 2 ≤ 1298 ∧ slots + 12 + 12 + 12 ≤ 7788 from ⟨by omega, by omega⟩) rfl hl.1 rfl (Nat.le_of_ble_eq_true rfl) dL_sound_89 (fun H locs hw hS => ?_)
          refine W.eq (g2 := F0 m 92 ls [.int v_71, .int x3]) rfl ?_
          refine lv_iadd cx.1 cx.2.1 dL_sound_92 ?_
          obtain ⟨x3_73, ex3_73, hf⟩ := gvi_ex hf
          refine W.eq (g2 := F0 m 93 ls [.int x3_73]) (by rw [← ex3_73]) ?_
          refine lv_istore_n (lv' := [(3, .int x3_73), (2, .int x2_70), (1, .int x1_67), (10, .int (0 : Int32)), (9, .int (0 : Int32)), (8, .int (0 : Int32)), (7, .int (0 : Int32)), (0, .ref (G.2.1 0)), (4, .int x4), (5, .int x5), (6, .int x6)]) cx.1 cx.2.1 dL_sound_93 rfl hl (by decide) rfl (fun ls hl => ?_)
          refine lv_iconst (v := (0 : Int32)) cx.1 cx.2.1 dL_sound_94 (by decide) ?_
          refine lv_istore (lv' := [(11, .int (0 : Int32)), (3, .int x3_73), (2, .int x2_70), (1, .int x1_67), (10, .int (0 : Int32)), (9, .int (0 : Int32)), (8, .int (0 : Int32)), (7, .int (0 : Int32)), (0, .ref (G.2.1 0)), (4, .int x4), (5, .int x5), (6, .int x6)]) cx.1 cx.2.1 dL_sound_95 hl (by decide) rfl (fun ls hl => ?_)
          exact hL_97 (L_sound_40 n_40) n_40 hK40 5 S_72 x1_67 x2_70 x3_73 x4 x5 x6 (0 : Int32) (0 : Int32) (0 : Int32) (0 : Int32) (0 : Int32) _ _ _ _ _ (by omega) (by omega) hw hS (lv_sub hl [8, 3, 2, 1, 9, 10, 11, 7, 6, 5, 4, 0] rfl) hf
  have hB_34 : ∀ (S : At) (x1 : Int32) (x2 : Int32) (x3 : Int32) (x4 : Int32) (H : Heap) (locs : List Loc) (ls : Array Slot) (cells slots : Nat), cells + (1296) ≤ 1298 → slots + (7776) ≤ 7788 → gPA G S H → va_S (gAr (gNo G) s.heap.size) s.heap H locs → lv_has ls 12 [(0, .ref (G.2.1 0)), (1, .int x1), (2, .int x2), (3, .int x3), (4, .int x4)] → B_sound_34 S x1 x2 x3 x4 = some (r, S') → W p l e (gRx 10 179 1298 7788) s m ([.ref (G.2.1 0)] : List Value).toArray below meth c H locs cells slots (MQ below (gQr (gPA G S') (some (.int r)) (gAr (gNo G) s.heap.size)) ([.ref (G.2.1 0)] : List Value).toArray s 1298 7788 (gAr (gNo G) s.heap.size)) (F0 m 34 ls []) := by
    intro S x1 x2 x3 x4 H locs ls cells slots hcl hsl hw hS hl hf
    unfold B_sound_34 at hf
    refine lv_iconst (v := (0 : Int32)) cx.1 cx.2.1 dL_sound_34 (by decide) ?_
    refine lv_istore (lv' := [(5, .int (0 : Int32)), (0, .ref (G.2.1 0)), (1, .int x1), (2, .int x2), (3, .int x3), (4, .int x4)]) cx.1 cx.2.1 dL_sound_35 hl (by decide) rfl (fun ls hl => ?_)
    refine lv_iconst (v := (0 : Int32)) cx.1 cx.2.1 dL_sound_37 (by decide) ?_
    refine lv_istore (lv' := [(6, .int (0 : Int32)), (5, .int (0 : Int32)), (0, .ref (G.2.1 0)), (1, .int x1), (2, .int x2), (3, .int x3), (4, .int x4)]) cx.1 cx.2.1 dL_sound_38 hl (by decide) rfl (fun ls hl => ?_)
    exact hL_40 5 S x1 x2 x3 x4 (0 : Int32) (0 : Int32) _ _ _ _ _ (by omega) (by omega) hw hS (lv_sub hl [2, 3, 4, 5, 6, 1, 0] rfl) hf
  have hl : lv_has ls 12 [(0, .ref (G.2.1 0))] := hl
  unfold h_sound at hf
  refine lv_aload_n cx.1 cx.2.1 dL_sound_0 rfl (lv_at hl 0 rfl) ?_
  refine lv_iconst (v := (5 : Int32)) cx.1 cx.2.1 dL_sound_1 (by decide) ?_
  obtain ⟨v_74, S_75, hv, hf⟩ := gbs_some hf
  refine a_SW (As := [.ref (G.2.1 0), .int (5 : Int32)]) (rest := []) cx hX hZ hw hS (a_tryAbout l hst G (5 : Int32) S v_74 S_75 hv) gw_185 gw_187 gyw_L_tryAbout ⟨by decide, by decide⟩ ⟨Nat.le_of_ble_eq_true rfl, Nat.le_of_ble_eq_true rfl⟩ (show 0 + 1 ≤ 1298 ∧ 0 + 6 ≤ 7788 from ⟨by omega, by omega⟩) rfl hl.1 rfl (Nat.le_of_ble_eq_true rfl) dL_sound_2 (fun H locs hw hS => ?_)
  refine W.eq (g2 := F0 m 5 ls [.int v_74]) rfl ?_
  refine lv_istore_n (lv' := [(1, .int v_74), (0, .ref (G.2.1 0))]) cx.1 cx.2.1 dL_sound_5 rfl hl (by decide) rfl (fun ls hl => ?_)
  refine lv_iconst (v := (0 : Int32)) cx.1 cx.2.1 dL_sound_6 (by decide) ?_
  refine lv_istore_n (lv' := [(2, .int (0 : Int32)), (1, .int v_74), (0, .ref (G.2.1 0))]) cx.1 cx.2.1 dL_sound_7 rfl hl (by decide) rfl (fun ls hl => ?_)
  refine lv_iconst (v := (0 : Int32)) cx.1 cx.2.1 dL_sound_8 (by decide) ?_
  refine lv_istore_n (lv' := [(3, .int (0 : Int32)), (2, .int (0 : Int32)), (1, .int v_74), (0, .ref (G.2.1 0))]) cx.1 cx.2.1 dL_sound_9 rfl hl (by decide) rfl (fun ls hl => ?_)
  refine lv_aload_n cx.1 cx.2.1 dL_sound_10 rfl (lv_at hl 3 rfl) ?_
  refine lv_iconst (v := (3 : Int32)) cx.1 cx.2.1 dL_sound_11 (by decide) ?_
  obtain ⟨v_76, S_77, hv, hf⟩ := gbs_some hf
  refine a_SW (As := [.ref (G.2.1 0), .int (3 : Int32)]) (rest := []) cx hX hZ hw hS (a_tryAbout l hst G (3 : Int32) S_75 v_76 S_77 hv) gw_185 gw_187 gyw_L_tryAbout ⟨by decide, by decide⟩ ⟨Nat.le_of_ble_eq_true rfl, Nat.le_of_ble_eq_true rfl⟩ (show 0 + 1 + 1 ≤ 1298 ∧ 0 + 6 + 6 ≤ 7788 from ⟨by omega, by omega⟩) rfl hl.1 rfl (Nat.le_of_ble_eq_true rfl) dL_sound_12 (fun H locs hw hS => ?_)
  refine W.eq (g2 := F0 m 15 ls [.int v_76]) rfl ?_
  refine lv_istore (lv' := [(4, .int v_76), (3, .int (0 : Int32)), (2, .int (0 : Int32)), (1, .int v_74), (0, .ref (G.2.1 0))]) cx.1 cx.2.1 dL_sound_15 hl (by decide) rfl (fun ls hl => ?_)
  refine lv_iload cx.1 cx.2.1 dL_sound_17 (lv_at hl 0 rfl) ?_
  refine lv_iconst (v := (1 : Int32)) cx.1 cx.2.1 dL_sound_19 (by decide) ?_
  refine lv_icmp_lt (tgt := 34) cx.1 cx.2.1 dL_sound_20 (by decide) (fun hc => ?_) (fun hc => ?_)
  · rw [if_pos hc] at hf
    exact hB_34 S_77 v_74 (0 : Int32) (0 : Int32) v_76 _ _ _ _ _ (by omega) (by omega) hw hS (lv_sub hl [4, 3, 2, 1, 0] rfl) hf
  · rw [if_neg hc] at hf
    refine lv_iload cx.1 cx.2.1 dL_sound_23 (lv_at hl 0 rfl) ?_
    refine lv_bipush (v := (6 : Int32)) cx.1 cx.2.1 dL_sound_25 (by decide) ?_
    refine lv_icmp_gt (tgt := 34) cx.1 cx.2.1 dL_sound_27 (by decide) (fun hc => ?_) (fun hc => ?_)
    · rw [if_pos hc] at hf
      exact hB_34 S_77 v_74 (0 : Int32) (0 : Int32) v_76 _ _ _ _ _ (by omega) (by omega) hw hS (lv_sub hl [4, 3, 2, 1, 0] rfl) hf
    · rw [if_neg hc] at hf
      refine lv_iconst (v := (1 : Int32)) cx.1 cx.2.1 dL_sound_30 (by decide) ?_
      refine lv_goto (tgt := 35) cx.1 cx.2.1 dL_sound_31 (by decide) ?_
      refine lv_istore (lv' := [(5, .int (1 : Int32)), (4, .int v_76), (3, .int (0 : Int32)), (2, .int (0 : Int32)), (1, .int v_74), (0, .ref (G.2.1 0))]) cx.1 cx.2.1 dL_sound_35 hl (by decide) rfl (fun ls hl => ?_)
      refine lv_iconst (v := (0 : Int32)) cx.1 cx.2.1 dL_sound_37 (by decide) ?_
      refine lv_istore (lv' := [(6, .int (0 : Int32)), (5, .int (1 : Int32)), (4, .int v_76), (3, .int (0 : Int32)), (2, .int (0 : Int32)), (1, .int v_74), (0, .ref (G.2.1 0))]) cx.1 cx.2.1 dL_sound_38 hl (by decide) rfl (fun ls hl => ?_)
      exact hL_40 5 S_77 v_74 (0 : Int32) (0 : Int32) v_76 (1 : Int32) (0 : Int32) _ _ _ _ _ (by omega) (by omega) hw hS (lv_sub hl [6, 5, 4, 3, 2, 1, 0] rfl) hf
set_option maxHeartbeats 8000000 in
set_option maxRecDepth 100000 in
theorem a_ways (l : Launch) (hst : l.stackTraces = false) (G : gG) (a1 : Int32) (S : At) (r : Int32) (S' : At) (hf : h_ways a1 S = some (r, S')) : gC l yL_ways [Cond.code yL_ways cL_ways 20 (some .boolean)] (gRx 10 183 407 2442) G (gNo G) E0 (gPA G S) [.ref (G.2.1 0), .int a1] (some (.int r)) (gPA G S') 407 2442 := by
  refine gC_of (by decide) (Nat.le_of_ble_eq_true rfl) ?_
  intro p e s m below meth c ls cx hE hX hZ hr hlk hw hS hl
  have hN := cx.2.2.2.2.hN
  have hB_532 : ∀ (S : At) (x7 : Int32) (x10 : Int32) (x11 : Int32) (H : Heap) (locs : List Loc) (ls : Array Slot) (cells slots : Nat), cells + (0) ≤ 407 → slots + (0) ≤ 2442 → gPA G S H → va_S (gAr (gNo G) s.heap.size) s.heap H locs → lv_has ls 20 [(7, .int x7), (10, .int x10), (11, .int x11)] → B_ways_532 S x7 x10 x11 = some (r, S') → W p l e (gRx 10 183 407 2442) s m ([.ref (G.2.1 0), .int a1] : List Value).toArray below meth c H locs cells slots (MQ below (gQr (gPA G S') (some (.int r)) (gAr (gNo G) s.heap.size)) ([.ref (G.2.1 0), .int a1] : List Value).toArray s 407 2442 (gAr (gNo G) s.heap.size)) (F0 m 532 ls []) := by
    intro S x7 x10 x11 H locs ls cells slots hcl hsl hw hS hl hf
    unfold B_ways_532 at hf
    refine lv_iload cx.1 cx.2.1 dL_ways_532 (lv_at hl 1 rfl) ?_
    refine lv_if_eq (tgt := 548) cx.1 cx.2.1 dL_ways_534 (by decide) (fun hc => ?_) (fun hc => ?_)
    · rw [if_pos hc] at hf
      refine lv_iconst (v := (0 : Int32)) cx.1 cx.2.1 dL_ways_548 (by decide) ?_
      exact al_zreti (P := (gPA G)) cx hr hlk hw hS (by decide) hf dL_ways_549 (by omega) (by omega)
    · rw [if_neg hc] at hf
      refine lv_iload cx.1 cx.2.1 dL_ways_537 (lv_at hl 2 rfl) ?_
      refine lv_iload cx.1 cx.2.1 dL_ways_539 (lv_at hl 0 rfl) ?_
      refine lv_icmp_ne (tgt := 548) cx.1 cx.2.1 dL_ways_541 (by decide) (fun hc => ?_) (fun hc => ?_)
      · rw [if_neg hc] at hf
        refine lv_iconst (v := (0 : Int32)) cx.1 cx.2.1 dL_ways_548 (by decide) ?_
        exact al_zreti (P := (gPA G)) cx hr hlk hw hS (by decide) hf dL_ways_549 (by omega) (by omega)
      · rw [if_pos hc] at hf
        refine lv_iconst (v := (1 : Int32)) cx.1 cx.2.1 dL_ways_544 (by decide) ?_
        refine lv_goto (tgt := 549) cx.1 cx.2.1 dL_ways_545 (by decide) ?_
        exact al_zreti (P := (gPA G)) cx hr hlk hw hS (by decide) hf dL_ways_549 (by omega) (by omega)
  have hB_523 : ∀ (K244 : At → Int32 → Int32 → Int32 → Int32 → Int32 → Int32 → Int32 → Int32 → Int32 → Option (Int32 × At)) (n_244 : Nat) (hK244 : ∀ (S : At) (x3 : Int32) (x4 : Int32) (x5 : Int32) (x6 : Int32) (x7 : Int32) (x9 : Int32) (x10 : Int32) (x11 : Int32) (x12 : Int32) (H : Heap) (locs : List Loc) (ls : Array Slot) (cells slots : Nat), cells + (1 + 21 * n_244) ≤ 407 → slots + (6 + 126 * n_244) ≤ 2442 → gPA G S H → va_S (gAr (gNo G) s.heap.size) s.heap H locs → lv_has ls 20 [(0, .ref (G.2.1 0)), (3, .int x3), (4, .int x4), (5, .int x5), (6, .int x6), (7, .int x7), (9, .int x9), (10, .int x10), (11, .int x11), (12, .int x12)] → K244 S x3 x4 x5 x6 x7 x9 x10 x11 x12 = some (r, S') → W p l e (gRx 10 183 407 2442) s m ([.ref (G.2.1 0), .int a1] : List Value).toArray below meth c H locs cells slots (MQ below (gQr (gPA G S') (some (.int r)) (gAr (gNo G) s.heap.size)) ([.ref (G.2.1 0), .int a1] : List Value).toArray s 407 2442 (gAr (gNo G) s.heap.size)) (F0 m 244 ls [])), ∀ (S : At) (x3 : Int32) (x4 : Int32) (x5 : Int32) (x6 : Int32) (x7 : Int32) (x9 : Int32) (x11 : Int32) (x12 : Int32) (H : Heap) (locs : List Loc) (ls : Array Slot) (cells slots : Nat), cells + (1 + 21 * n_244) ≤ 407 → slots + (6 + 126 * n_244) ≤ 2442 → gPA G S H → va_S (gAr (gNo G) s.heap.size) s.heap H locs → lv_has ls 20 [(0, .ref (G.2.1 0)), (3, .int x3), (4, .int x4), (5, .int x5), (6, .int x6), (7, .int x7), (9, .int x9), (11, .int x11), (12, .int x12)] → B_ways_523 K244 S x3 x4 x5 x6 x7 x9 x11 x12 = some (r, S') → W p l e (gRx 10 183 407 2442) s m ([.ref (G.2.1 0), .int a1] : List Value).toArray below meth c H locs cells slots (MQ below (gQr (gPA G S') (some (.int r)) (gAr (gNo G) s.heap.size)) ([.ref (G.2.1 0), .int a1] : List Value).toArray s 407 2442 (gAr (gNo G) s.heap.size)) (F0 m 523 ls []) := by
    intro K244 n_244 hK244 S x3 x4 x5 x6 x7 x9 x11 x12 H locs ls cells slots hcl hsl hw hS hl hf
    unfold B_ways_523 at hf
    refine lv_iconst (v := (0 : Int32)) cx.1 cx.2.1 dL_ways_523 (by decide) ?_
    refine lv_istore (lv' := [(10, .int (0 : Int32)), (0, .ref (G.2.1 0)), (3, .int x3), (4, .int x4), (5, .int x5), (6, .int x6), (7, .int x7), (9, .int x9), (11, .int x11), (12, .int x12)]) cx.1 cx.2.1 dL_ways_524 hl (by decide) rfl (fun ls hl => ?_)
    obtain ⟨x12_1, ex12_1, hf⟩ := gvi_ex hf
    refine lv_iinc (v := x12_1) (lv' := [(12, .int x12_1), (10, .int (0 : Int32)), (0, .ref (G.2.1 0)), (3, .int x3), (4, .int x4), (5, .int x5), (6, .int x6), (7, .int x7), (9, .int x9), (11, .int x11)]) cx.1 cx.2.1 dL_ways_526 hl (k := 9) rfl (by rw [← ex12_1]; rfl) (by decide) rfl (fun ls hl => ?_)
    refine lv_goto (tgt := 244) cx.1 cx.2.1 dL_ways_529 (by decide) ?_
    exact hK244 S x3 x4 x5 x6 x7 x9 (0 : Int32) x11 x12_1 _ _ _ _ _ (by omega) (by omega) hw hS (lv_sub hl [2, 3, 4, 5, 6, 7, 8, 1, 9, 0] rfl) hf
  have hB_519 : ∀ (K244 : At → Int32 → Int32 → Int32 → Int32 → Int32 → Int32 → Int32 → Int32 → Int32 → Option (Int32 × At)) (n_244 : Nat) (hK244 : ∀ (S : At) (x3 : Int32) (x4 : Int32) (x5 : Int32) (x6 : Int32) (x7 : Int32) (x9 : Int32) (x10 : Int32) (x11 : Int32) (x12 : Int32) (H : Heap) (locs : List Loc) (ls : Array Slot) (cells slots : Nat), cells + (1 + 21 * n_244) ≤ 407 → slots + (6 + 126 * n_244) ≤ 2442 → gPA G S H → va_S (gAr (gNo G) s.heap.size) s.heap H locs → lv_has ls 20 [(0, .ref (G.2.1 0)), (3, .int x3), (4, .int x4), (5, .int x5), (6, .int x6), (7, .int x7), (9, .int x9), (10, .int x10), (11, .int x11), (12, .int x12)] → K244 S x3 x4 x5 x6 x7 x9 x10 x11 x12 = some (r, S') → W p l e (gRx 10 183 407 2442) s m ([.ref (G.2.1 0), .int a1] : List Value).toArray below meth c H locs cells slots (MQ below (gQr (gPA G S') (some (.int r)) (gAr (gNo G) s.heap.size)) ([.ref (G.2.1 0), .int a1] : List Value).toArray s 407 2442 (gAr (gNo G) s.heap.size)) (F0 m 244 ls [])), ∀ (S : At) (x3 : Int32) (x4 : Int32) (x5 : Int32) (x6 : Int32) (x7 : Int32) (x9 : Int32) (x11 : Int32) (x12 : Int32) (H : Heap) (locs : List Loc) (ls : Array Slot) (cells slots : Nat), cells + (1 + 21 * n_244) ≤ 407 → slots + (6 + 126 * n_244) ≤ 2442 → gPA G S H → va_S (gAr (gNo G) s.heap.size) s.heap H locs → lv_has ls 20 [(0, .ref (G.2.1 0)), (3, .int x3), (4, .int x4), (5, .int x5), (6, .int x6), (7, .int x7), (9, .int x9), (11, .int x11), (12, .int x12)] → B_ways_519 K244 S x3 x4 x5 x6 x7 x9 x11 x12 = some (r, S') → W p l e (gRx 10 183 407 2442) s m ([.ref (G.2.1 0), .int a1] : List Value).toArray below meth c H locs cells slots (MQ below (gQr (gPA G S') (some (.int r)) (gAr (gNo G) s.heap.size)) ([.ref (G.2.1 0), .int a1] : List Value).toArray s 407 2442 (gAr (gNo G) s.heap.size)) (F0 m 519 ls []) := by
    intro K244 n_244 hK244 S x3 x4 x5 x6 x7 x9 x11 x12 H locs ls cells slots hcl hsl hw hS hl hf
    unfold B_ways_519 at hf
    refine lv_iconst (v := (1 : Int32)) cx.1 cx.2.1 dL_ways_519 (by decide) ?_
    refine lv_goto (tgt := 524) cx.1 cx.2.1 dL_ways_520 (by decide) ?_
    refine lv_istore (lv' := [(10, .int (1 : Int32)), (0, .ref (G.2.1 0)), (3, .int x3), (4, .int x4), (5, .int x5), (6, .int x6), (7, .int x7), (9, .int x9), (11, .int x11), (12, .int x12)]) cx.1 cx.2.1 dL_ways_524 hl (by decide) rfl (fun ls hl => ?_)
    obtain ⟨x12_2, ex12_2, hf⟩ := gvi_ex hf
    refine lv_iinc (v := x12_2) (lv' := [(12, .int x12_2), (10, .int (1 : Int32)), (0, .ref (G.2.1 0)), (3, .int x3), (4, .int x4), (5, .int x5), (6, .int x6), (7, .int x7), (9, .int x9), (11, .int x11)]) cx.1 cx.2.1 dL_ways_526 hl (k := 9) rfl (by rw [← ex12_2]; rfl) (by decide) rfl (fun ls hl => ?_)
    refine lv_goto (tgt := 244) cx.1 cx.2.1 dL_ways_529 (by decide) ?_
    exact hK244 S x3 x4 x5 x6 x7 x9 (1 : Int32) x11 x12_2 _ _ _ _ _ (by omega) (by omega) hw hS (lv_sub hl [2, 3, 4, 5, 6, 7, 8, 1, 9, 0] rfl) hf
  have hB_482 : ∀ (K244 : At → Int32 → Int32 → Int32 → Int32 → Int32 → Int32 → Int32 → Int32 → Int32 → Option (Int32 × At)) (n_244 : Nat) (hK244 : ∀ (S : At) (x3 : Int32) (x4 : Int32) (x5 : Int32) (x6 : Int32) (x7 : Int32) (x9 : Int32) (x10 : Int32) (x11 : Int32) (x12 : Int32) (H : Heap) (locs : List Loc) (ls : Array Slot) (cells slots : Nat), cells + (1 + 21 * n_244) ≤ 407 → slots + (6 + 126 * n_244) ≤ 2442 → gPA G S H → va_S (gAr (gNo G) s.heap.size) s.heap H locs → lv_has ls 20 [(0, .ref (G.2.1 0)), (3, .int x3), (4, .int x4), (5, .int x5), (6, .int x6), (7, .int x7), (9, .int x9), (10, .int x10), (11, .int x11), (12, .int x12)] → K244 S x3 x4 x5 x6 x7 x9 x10 x11 x12 = some (r, S') → W p l e (gRx 10 183 407 2442) s m ([.ref (G.2.1 0), .int a1] : List Value).toArray below meth c H locs cells slots (MQ below (gQr (gPA G S') (some (.int r)) (gAr (gNo G) s.heap.size)) ([.ref (G.2.1 0), .int a1] : List Value).toArray s 407 2442 (gAr (gNo G) s.heap.size)) (F0 m 244 ls [])), ∀ (S : At) (x3 : Int32) (x4 : Int32) (x5 : Int32) (x6 : Int32) (x7 : Int32) (x9 : Int32) (x12 : Int32) (x19 : Int32) (t0 : Int32) (H : Heap) (locs : List Loc) (ls : Array Slot) (cells slots : Nat), cells + (1 + 21 * n_244) ≤ 407 → slots + (6 + 126 * n_244) ≤ 2442 → gPA G S H → va_S (gAr (gNo G) s.heap.size) s.heap H locs → lv_has ls 20 [(0, .ref (G.2.1 0)), (3, .int x3), (4, .int x4), (5, .int x5), (6, .int x6), (7, .int x7), (9, .int x9), (12, .int x12), (19, .int x19)] → B_ways_482 K244 S x3 x4 x5 x6 x7 x9 x12 x19 t0 = some (r, S') → W p l e (gRx 10 183 407 2442) s m ([.ref (G.2.1 0), .int a1] : List Value).toArray below meth c H locs cells slots (MQ below (gQr (gPA G S') (some (.int r)) (gAr (gNo G) s.heap.size)) ([.ref (G.2.1 0), .int a1] : List Value).toArray s 407 2442 (gAr (gNo G) s.heap.size)) (F0 m 482 ls [.int t0]) := by
    intro K244 n_244 hK244 S x3 x4 x5 x6 x7 x9 x12 x19 t0 H locs ls cells slots hcl hsl hw hS hl hf
    unfold B_ways_482 at hf
    refine lv_istore (lv' := [(11, .int t0), (0, .ref (G.2.1 0)), (3, .int x3), (4, .int x4), (5, .int x5), (6, .int x6), (7, .int x7), (9, .int x9), (12, .int x12), (19, .int x19)]) cx.1 cx.2.1 dL_ways_482 hl (by decide) rfl (fun ls hl => ?_)
    refine lv_iload cx.1 cx.2.1 dL_ways_484 (lv_at hl 9 rfl) ?_
    refine lv_bipush (v := (-9 : Int32)) cx.1 cx.2.1 dL_ways_486 (by decide) ?_
    refine lv_icmp_eq (tgt := 519) cx.1 cx.2.1 dL_ways_488 (by decide) (fun hc => ?_) (fun hc => ?_)
    · rw [if_pos hc] at hf
      exact hB_519 K244 n_244 hK244 S x3 x4 x5 x6 x7 x9 t0 x12 _ _ _ _ _ (by omega) (by omega) hw hS (lv_sub hl [1, 2, 3, 4, 5, 6, 7, 0, 8] rfl) hf
    · rw [if_neg hc] at hf
      refine lv_iload cx.1 cx.2.1 dL_ways_491 (lv_at hl 6 rfl) ?_
      refine lv_bipush (v := (-9 : Int32)) cx.1 cx.2.1 dL_ways_493 (by decide) ?_
      refine lv_icmp_eq (tgt := 523) cx.1 cx.2.1 dL_ways_495 (by decide) (fun hc => ?_) (fun hc => ?_)
      · rw [if_pos hc] at hf
        exact hB_523 K244 n_244 hK244 S x3 x4 x5 x6 x7 x9 t0 x12 _ _ _ _ _ (by omega) (by omega) hw hS (lv_sub hl [1, 2, 3, 4, 5, 6, 7, 0, 8] rfl) hf
      · rw [if_neg hc] at hf
        refine lv_iload cx.1 cx.2.1 dL_ways_498 (lv_at hl 6 rfl) ?_
        refine lv_iload cx.1 cx.2.1 dL_ways_500 (lv_at hl 9 rfl) ?_
        refine lv_icmp_gt (tgt := 523) cx.1 cx.2.1 dL_ways_502 (by decide) (fun hc => ?_) (fun hc => ?_)
        · rw [if_pos hc] at hf
          exact hB_523 K244 n_244 hK244 S x3 x4 x5 x6 x7 x9 t0 x12 _ _ _ _ _ (by omega) (by omega) hw hS (lv_sub hl [1, 2, 3, 4, 5, 6, 7, 0, 8] rfl) hf
        · rw [if_neg hc] at hf
          refine lv_iload cx.1 cx.2.1 dL_ways_505 (lv_at hl 8 rfl) ?_
          refine lv_iload cx.1 cx.2.1 dL_ways_507 (lv_at hl 7 rfl) ?_
          refine lv_icmp_ne (tgt := 519) cx.1 cx.2.1 dL_ways_509 (by decide) (fun hc => ?_) (fun hc => ?_)
          · rw [if_neg hc] at hf
            exact hB_519 K244 n_244 hK244 S x3 x4 x5 x6 x7 x9 t0 x12 _ _ _ _ _ (by omega) (by omega) hw hS (lv_sub hl [1, 2, 3, 4, 5, 6, 7, 0, 8] rfl) hf
          · rw [if_pos hc] at hf
            refine lv_iload cx.1 cx.2.1 dL_ways_512 (lv_at hl 9 rfl) ?_
            refine lv_iload cx.1 cx.2.1 dL_ways_514 (lv_at hl 6 rfl) ?_
            refine lv_icmp_ne (tgt := 523) cx.1 cx.2.1 dL_ways_516 (by decide) (fun hc => ?_) (fun hc => ?_)
            · rw [if_neg hc] at hf
              exact hB_523 K244 n_244 hK244 S x3 x4 x5 x6 x7 x9 t0 x12 _ _ _ _ _ (by omega) (by omega) hw hS (lv_sub hl [1, 2, 3, 4, 5, 6, 7, 0, 8] rfl) hf
            · rw [if_pos hc] at hf
              exact hB_519 K244 n_244 hK244 S x3 x4 x5 x6 x7 x9 t0 x12 _ _ _ _ _ (by omega) (by omega) hw hS (lv_sub hl [1, 2, 3, 4, 5, 6, 7, 0, 8] rfl) hf
  have hB_447 : ∀ (K244 : At → Int32 → Int32 → Int32 → Int32 → Int32 → Int32 → Int32 → Int32 → Int32 → Option (Int32 × At)) (n_244 : Nat) (hK244 : ∀ (S : At) (x3 : Int32) (x4 : Int32) (x5 : Int32) (x6 : Int32) (x7 : Int32) (x9 : Int32) (x10 : Int32) (x11 : Int32) (x12 : Int32) (H : Heap) (locs : List Loc) (ls : Array Slot) (cells slots : Nat), cells + (1 + 21 * n_244) ≤ 407 → slots + (6 + 126 * n_244) ≤ 2442 → gPA G S H → va_S (gAr (gNo G) s.heap.size) s.heap H locs → lv_has ls 20 [(0, .ref (G.2.1 0)), (3, .int x3), (4, .int x4), (5, .int x5), (6, .int x6), (7, .int x7), (9, .int x9), (10, .int x10), (11, .int x11), (12, .int x12)] → K244 S x3 x4 x5 x6 x7 x9 x10 x11 x12 = some (r, S') → W p l e (gRx 10 183 407 2442) s m ([.ref (G.2.1 0), .int a1] : List Value).toArray below meth c H locs cells slots (MQ below (gQr (gPA G S') (some (.int r)) (gAr (gNo G) s.heap.size)) ([.ref (G.2.1 0), .int a1] : List Value).toArray s 407 2442 (gAr (gNo G) s.heap.size)) (F0 m 244 ls [])), ∀ (S : At) (x3 : Int32) (x4 : Int32) (x5 : Int32) (x6 : Int32) (x7 : Int32) (x9 : Int32) (x11 : Int32) (x12 : Int32) (t0 : Int32) (H : Heap) (locs : List Loc) (ls : Array Slot) (cells slots : Nat), cells + (1 + 21 * n_244) ≤ 407 → slots + (6 + 126 * n_244) ≤ 2442 → gPA G S H → va_S (gAr (gNo G) s.heap.size) s.heap H locs → lv_has ls 20 [(0, .ref (G.2.1 0)), (3, .int x3), (4, .int x4), (5, .int x5), (6, .int x6), (7, .int x7), (9, .int x9), (11, .int x11), (12, .int x12)] → B_ways_447 K244 S x3 x4 x5 x6 x7 x9 x11 x12 t0 = some (r, S') → W p l e (gRx 10 183 407 2442) s m ([.ref (G.2.1 0), .int a1] : List Value).toArray below meth c H locs cells slots (MQ below (gQr (gPA G S') (some (.int r)) (gAr (gNo G) s.heap.size)) ([.ref (G.2.1 0), .int a1] : List Value).toArray s 407 2442 (gAr (gNo G) s.heap.size)) (F0 m 447 ls [.int t0]) := by
    intro K244 n_244 hK244 S x3 x4 x5 x6 x7 x9 x11 x12 t0 H locs ls cells slots hcl hsl hw hS hl hf
    unfold B_ways_447 at hf
    refine lv_istore (lv' := [(19, .int t0), (0, .ref (G.2.1 0)), (3, .int x3), (4, .int x4), (5, .int x5), (6, .int x6), (7, .int x7), (9, .int x9), (11, .int x11), (12, .int x12)]) cx.1 cx.2.1 dL_ways_447 hl (by decide) rfl (fun ls hl => ?_)
    refine lv_iload cx.1 cx.2.1 dL_ways_449 (lv_at hl 0 rfl) ?_
    refine lv_bipush (v := (-9 : Int32)) cx.1 cx.2.1 dL_ways_451 (by decide) ?_
    refine lv_icmp_ne (tgt := 461) cx.1 cx.2.1 dL_ways_453 (by decide) (fun hc => ?_) (fun hc => ?_)
    · rw [if_neg hc] at hf
      refine lv_iload cx.1 cx.2.1 dL_ways_461 (lv_at hl 8 rfl) ?_
      refine lv_bipush (v := (-9 : Int32)) cx.1 cx.2.1 dL_ways_463 (by decide) ?_
      refine lv_icmp_eq (tgt := 475) cx.1 cx.2.1 dL_ways_465 (by decide) (fun hc => ?_) (fun hc => ?_)
      · rw [if_pos hc] at hf
        refine lv_iload cx.1 cx.2.1 dL_ways_475 (lv_at hl 0 rfl) ?_
        refine lv_goto (tgt := 482) cx.1 cx.2.1 dL_ways_477 (by decide) ?_
        exact hB_482 K244 n_244 hK244 S x3 x4 x5 x6 x7 x9 x12 t0 t0 _ _ _ _ _ (by omega) (by omega) hw hS (lv_sub hl [1, 2, 3, 4, 5, 6, 7, 9, 0] rfl) hf
      · rw [if_neg hc] at hf
        refine lv_iload cx.1 cx.2.1 dL_ways_468 (lv_at hl 0 rfl) ?_
        refine lv_iload cx.1 cx.2.1 dL_ways_470 (lv_at hl 8 rfl) ?_
        refine lv_icmp_ge (tgt := 480) cx.1 cx.2.1 dL_ways_472 (by decide) (fun hc => ?_) (fun hc => ?_)
        · rw [if_pos hc] at hf
          refine lv_iload cx.1 cx.2.1 dL_ways_480 (lv_at hl 8 rfl) ?_
          exact hB_482 K244 n_244 hK244 S x3 x4 x5 x6 x7 x9 x12 t0 x11 _ _ _ _ _ (by omega) (by omega) hw hS (lv_sub hl [1, 2, 3, 4, 5, 6, 7, 9, 0] rfl) hf
        · rw [if_neg hc] at hf
          refine lv_iload cx.1 cx.2.1 dL_ways_475 (lv_at hl 0 rfl) ?_
          refine lv_goto (tgt := 482) cx.1 cx.2.1 dL_ways_477 (by decide) ?_
          exact hB_482 K244 n_244 hK244 S x3 x4 x5 x6 x7 x9 x12 t0 t0 _ _ _ _ _ (by omega) (by omega) hw hS (lv_sub hl [1, 2, 3, 4, 5, 6, 7, 9, 0] rfl) hf
    · rw [if_pos hc] at hf
      refine lv_iload cx.1 cx.2.1 dL_ways_456 (lv_at hl 8 rfl) ?_
      refine lv_goto (tgt := 482) cx.1 cx.2.1 dL_ways_458 (by decide) ?_
      exact hB_482 K244 n_244 hK244 S x3 x4 x5 x6 x7 x9 x12 t0 x11 _ _ _ _ _ (by omega) (by omega) hw hS (lv_sub hl [1, 2, 3, 4, 5, 6, 7, 9, 0] rfl) hf
  have hB_416 : ∀ (K244 : At → Int32 → Int32 → Int32 → Int32 → Int32 → Int32 → Int32 → Int32 → Int32 → Option (Int32 × At)) (n_244 : Nat) (hK244 : ∀ (S : At) (x3 : Int32) (x4 : Int32) (x5 : Int32) (x6 : Int32) (x7 : Int32) (x9 : Int32) (x10 : Int32) (x11 : Int32) (x12 : Int32) (H : Heap) (locs : List Loc) (ls : Array Slot) (cells slots : Nat), cells + (1 + 21 * n_244) ≤ 407 → slots + (6 + 126 * n_244) ≤ 2442 → gPA G S H → va_S (gAr (gNo G) s.heap.size) s.heap H locs → lv_has ls 20 [(0, .ref (G.2.1 0)), (3, .int x3), (4, .int x4), (5, .int x5), (6, .int x6), (7, .int x7), (9, .int x9), (10, .int x10), (11, .int x11), (12, .int x12)] → K244 S x3 x4 x5 x6 x7 x9 x10 x11 x12 = some (r, S') → W p l e (gRx 10 183 407 2442) s m ([.ref (G.2.1 0), .int a1] : List Value).toArray below meth c H locs cells slots (MQ below (gQr (gPA G S') (some (.int r)) (gAr (gNo G) s.heap.size)) ([.ref (G.2.1 0), .int a1] : List Value).toArray s 407 2442 (gAr (gNo G) s.heap.size)) (F0 m 244 ls [])), ∀ (S : At) (x3 : Int32) (x4 : Int32) (x5 : Int32) (x6 : Int32) (x7 : Int32) (x9 : Int32) (x11 : Int32) (x12 : Int32) (x13 : Int32) (x14 : Int32) (x17 : Int32) (t0 : Int32) (H : Heap) (locs : List Loc) (ls : Array Slot) (cells slots : Nat), cells + (1 + 21 * n_244) ≤ 407 → slots + (6 + 126 * n_244) ≤ 2442 → gPA G S H → va_S (gAr (gNo G) s.heap.size) s.heap H locs → lv_has ls 20 [(0, .ref (G.2.1 0)), (3, .int x3), (4, .int x4), (5, .int x5), (6, .int x6), (7, .int x7), (9, .int x9), (11, .int x11), (12, .int x12), (13, .int x13), (14, .int x14), (17, .int x17)] → B_ways_416 K244 S x3 x4 x5 x6 x7 x9 x11 x12 x13 x14 x17 t0 = some (r, S') → W p l e (gRx 10 183 407 2442) s m ([.ref (G.2.1 0), .int a1] : List Value).toArray below meth c H locs cells slots (MQ below (gQr (gPA G S') (some (.int r)) (gAr (gNo G) s.heap.size)) ([.ref (G.2.1 0), .int a1] : List Value).toArray s 407 2442 (gAr (gNo G) s.heap.size)) (F0 m 416 ls [.int t0]) := by
    intro K244 n_244 hK244 S x3 x4 x5 x6 x7 x9 x11 x12 x13 x14 x17 t0 H locs ls cells slots hcl hsl hw hS hl hf
    unfold B_ways_416 at hf
    refine lv_istore (lv' := [(18, .int t0), (0, .ref (G.2.1 0)), (3, .int x3), (4, .int x4), (5, .int x5), (6, .int x6), (7, .int x7), (9, .int x9), (11, .int x11), (12, .int x12), (13, .int x13), (14, .int x14), (17, .int x17)]) cx.1 cx.2.1 dL_ways_416 hl (by decide) rfl (fun ls hl => ?_)
    refine lv_iload cx.1 cx.2.1 dL_ways_418 (lv_at hl 10 rfl) ?_
    refine lv_bipush (v := (-9 : Int32)) cx.1 cx.2.1 dL_ways_420 (by decide) ?_
    refine lv_icmp_eq (tgt := 437) cx.1 cx.2.1 dL_ways_422 (by decide) (fun hc => ?_) (fun hc => ?_)
    · rw [if_pos hc] at hf
      refine lv_bipush (v := (-9 : Int32)) cx.1 cx.2.1 dL_ways_437 (by decide) ?_
      refine lv_goto (tgt := 447) cx.1 cx.2.1 dL_ways_439 (by decide) ?_
      exact hB_447 K244 n_244 hK244 S x3 x4 x5 x6 x7 x9 x11 x12 (-9 : Int32) _ _ _ _ _ (by omega) (by omega) hw hS (lv_sub hl [1, 2, 3, 4, 5, 6, 7, 8, 9] rfl) hf
    · rw [if_neg hc] at hf
      refine lv_iload cx.1 cx.2.1 dL_ways_425 (lv_at hl 11 rfl) ?_
      refine lv_if_lt (tgt := 437) cx.1 cx.2.1 dL_ways_427 (by decide) (fun hc => ?_) (fun hc => ?_)
      · rw [if_pos hc] at hf
        refine lv_bipush (v := (-9 : Int32)) cx.1 cx.2.1 dL_ways_437 (by decide) ?_
        refine lv_goto (tgt := 447) cx.1 cx.2.1 dL_ways_439 (by decide) ?_
        exact hB_447 K244 n_244 hK244 S x3 x4 x5 x6 x7 x9 x11 x12 (-9 : Int32) _ _ _ _ _ (by omega) (by omega) hw hS (lv_sub hl [1, 2, 3, 4, 5, 6, 7, 8, 9] rfl) hf
      · rw [if_neg hc] at hf
        refine lv_iload cx.1 cx.2.1 dL_ways_430 (lv_at hl 0 rfl) ?_
        refine lv_bipush (v := (-9 : Int32)) cx.1 cx.2.1 dL_ways_432 (by decide) ?_
        refine lv_icmp_ne (tgt := 442) cx.1 cx.2.1 dL_ways_434 (by decide) (fun hc => ?_) (fun hc => ?_)
        · rw [if_neg hc] at hf
          refine lv_iload cx.1 cx.2.1 dL_ways_442 (lv_at hl 12 rfl) ?_
          refine lv_iload cx.1 cx.2.1 dL_ways_444 (lv_at hl 0 rfl) ?_
          refine lv_iadd cx.1 cx.2.1 dL_ways_446 ?_
          exact hB_447 K244 n_244 hK244 S x3 x4 x5 x6 x7 x9 x11 x12 (x17 + t0) _ _ _ _ _ (by omega) (by omega) hw hS (lv_sub hl [1, 2, 3, 4, 5, 6, 7, 8, 9] rfl) hf
        · rw [if_pos hc] at hf
          refine lv_bipush (v := (-9 : Int32)) cx.1 cx.2.1 dL_ways_437 (by decide) ?_
          refine lv_goto (tgt := 447) cx.1 cx.2.1 dL_ways_439 (by decide) ?_
          exact hB_447 K244 n_244 hK244 S x3 x4 x5 x6 x7 x9 x11 x12 (-9 : Int32) _ _ _ _ _ (by omega) (by omega) hw hS (lv_sub hl [1, 2, 3, 4, 5, 6, 7, 8, 9] rfl) hf
  have hB_386 : ∀ (K244 : At → Int32 → Int32 → Int32 → Int32 → Int32 → Int32 → Int32 → Int32 → Int32 → Option (Int32 × At)) (n_244 : Nat) (hK244 : ∀ (S : At) (x3 : Int32) (x4 : Int32) (x5 : Int32) (x6 : Int32) (x7 : Int32) (x9 : Int32) (x10 : Int32) (x11 : Int32) (x12 : Int32) (H : Heap) (locs : List Loc) (ls : Array Slot) (cells slots : Nat), cells + (1 + 21 * n_244) ≤ 407 → slots + (6 + 126 * n_244) ≤ 2442 → gPA G S H → va_S (gAr (gNo G) s.heap.size) s.heap H locs → lv_has ls 20 [(0, .ref (G.2.1 0)), (3, .int x3), (4, .int x4), (5, .int x5), (6, .int x6), (7, .int x7), (9, .int x9), (10, .int x10), (11, .int x11), (12, .int x12)] → K244 S x3 x4 x5 x6 x7 x9 x10 x11 x12 = some (r, S') → W p l e (gRx 10 183 407 2442) s m ([.ref (G.2.1 0), .int a1] : List Value).toArray below meth c H locs cells slots (MQ below (gQr (gPA G S') (some (.int r)) (gAr (gNo G) s.heap.size)) ([.ref (G.2.1 0), .int a1] : List Value).toArray s 407 2442 (gAr (gNo G) s.heap.size)) (F0 m 244 ls [])), ∀ (S : At) (x3 : Int32) (x4 : Int32) (x5 : Int32) (x6 : Int32) (x7 : Int32) (x9 : Int32) (x11 : Int32) (x12 : Int32) (x13 : Int32) (x14 : Int32) (x17 : Int32) (H : Heap) (locs : List Loc) (ls : Array Slot) (cells slots : Nat), cells + (7 + 21 * n_244) ≤ 407 → slots + (42 + 126 * n_244) ≤ 2442 → gPA G S H → va_S (gAr (gNo G) s.heap.size) s.heap H locs → lv_has ls 20 [(0, .ref (G.2.1 0)), (3, .int x3), (4, .int x4), (5, .int x5), (6, .int x6), (7, .int x7), (9, .int x9), (11, .int x11), (12, .int x12), (13, .int x13), (14, .int x14), (17, .int x17)] → B_ways_386 K244 S x3 x4 x5 x6 x7 x9 x11 x12 x13 x14 x17 = some (r, S') → W p l e (gRx 10 183 407 2442) s m ([.ref (G.2.1 0), .int a1] : List Value).toArray below meth c H locs cells slots (MQ below (gQr (gPA G S') (some (.int r)) (gAr (gNo G) s.heap.size)) ([.ref (G.2.1 0), .int a1] : List Value).toArray s 407 2442 (gAr (gNo G) s.heap.size)) (F0 m 386 ls []) := by
    intro K244 n_244 hK244 S x3 x4 x5 x6 x7 x9 x11 x12 x13 x14 x17 H locs ls cells slots hcl hsl hw hS hl hf
    unfold B_ways_386 at hf
    refine lv_iload cx.1 cx.2.1 dL_ways_386 (lv_at hl 9 rfl) ?_
    refine lv_bipush (v := (-9 : Int32)) cx.1 cx.2.1 dL_ways_388 (by decide) ?_
    refine lv_icmp_eq (tgt := 399) cx.1 cx.2.1 dL_ways_390 (by decide) (fun hc => ?_) (fun hc => ?_)
    · rw [if_pos hc] at hf
      refine lv_bipush (v := (-9 : Int32)) cx.1 cx.2.1 dL_ways_399 (by decide) ?_
      refine lv_goto (tgt := 416) cx.1 cx.2.1 dL_ways_401 (by decide) ?_
      exact hB_416 K244 n_244 hK244 S x3 x4 x5 x6 x7 x9 x11 x12 x13 x14 x17 (-9 : Int32) _ _ _ _ _ (by omega) (by omega) hw hS (lv_sub hl [0, 1, 2, 3, 4, 5, 6, 7, 8, 9, 10, 11] rfl) hf
    · rw [if_neg hc] at hf
      refine lv_iload cx.1 cx.2.1 dL_ways_393 (lv_at hl 10 rfl) ?_
      refine lv_iconst (v := (1 : Int32)) cx.1 cx.2.1 dL_ways_395 (by decide) ?_
      refine lv_icmp_ge (tgt := 404) cx.1 cx.2.1 dL_ways_396 (by decide) (fun hc => ?_) (fun hc => ?_)
      · rw [if_pos hc] at hf
        refine lv_aload_n cx.1 cx.2.1 dL_ways_404 rfl (lv_at hl 0 rfl) ?_
        refine lv_iload_n cx.1 cx.2.1 dL_ways_405 rfl (lv_at hl 1 rfl) ?_
        refine lv_iload cx.1 cx.2.1 dL_ways_406 (lv_at hl 9 rfl) ?_
        refine lv_iload cx.1 cx.2.1 dL_ways_408 (lv_at hl 3 rfl) ?_
        refine lv_iload cx.1 cx.2.1 dL_ways_410 (lv_at hl 10 rfl) ?_
        refine lv_iconst (v := (0 : Int32)) cx.1 cx.2.1 dL_ways_412 (by decide) ?_
        obtain ⟨v_3, S_4, hv, hf⟩ := gbs_some hf
        refine a_SW (As := [.ref (G.2.1 0), .int x3, .int x13, .int x5, .int x14, .int (0 : Int32)]) (rest := []) cx hX hZ hw hS (a_tryWay l hst G x3 x13 x5 x14 (0 : Int32) S v_3 S_4 hv) gw_214 gw_187 gyw_L_tryWay ⟨by decide, by decide⟩ ⟨Nat.le_of_ble_eq_true rfl, Nat.le_of_ble_eq_true rfl⟩ (show cells + 6 ≤ 407 ∧ slots + 36 ≤ 2442 from ⟨by omega, by omega⟩) rfl hl.1 rfl (Nat.le_of_ble_eq_true rfl) dL_ways_413 (fun H locs hw hS => ?_)
        refine W.eq (g2 := F0 m 416 ls [.int v_3]) rfl ?_
        exact hB_416 K244 n_244 hK244 S_4 x3 x4 x5 x6 x7 x9 x11 x12 x13 x14 x17 v_3 _ _ _ _ _ (by omega) (by omega) hw hS (lv_sub hl [0, 1, 2, 3, 4, 5, 6, 7, 8, 9, 10, 11] rfl) hf
      · rw [if_neg hc] at hf
        refine lv_bipush (v := (-9 : Int32)) cx.1 cx.2.1 dL_ways_399 (by decide) ?_
        refine lv_goto (tgt := 416) cx.1 cx.2.1 dL_ways_401 (by decide) ?_
        exact hB_416 K244 n_244 hK244 S x3 x4 x5 x6 x7 x9 x11 x12 x13 x14 x17 (-9 : Int32) _ _ _ _ _ (by omega) (by omega) hw hS (lv_sub hl [0, 1, 2, 3, 4, 5, 6, 7, 8, 9, 10, 11] rfl) hf
  have hB_356 : ∀ (K244 : At → Int32 → Int32 → Int32 → Int32 → Int32 → Int32 → Int32 → Int32 → Int32 → Option (Int32 × At)) (n_244 : Nat) (hK244 : ∀ (S : At) (x3 : Int32) (x4 : Int32) (x5 : Int32) (x6 : Int32) (x7 : Int32) (x9 : Int32) (x10 : Int32) (x11 : Int32) (x12 : Int32) (H : Heap) (locs : List Loc) (ls : Array Slot) (cells slots : Nat), cells + (1 + 21 * n_244) ≤ 407 → slots + (6 + 126 * n_244) ≤ 2442 → gPA G S H → va_S (gAr (gNo G) s.heap.size) s.heap H locs → lv_has ls 20 [(0, .ref (G.2.1 0)), (3, .int x3), (4, .int x4), (5, .int x5), (6, .int x6), (7, .int x7), (9, .int x9), (10, .int x10), (11, .int x11), (12, .int x12)] → K244 S x3 x4 x5 x6 x7 x9 x10 x11 x12 = some (r, S') → W p l e (gRx 10 183 407 2442) s m ([.ref (G.2.1 0), .int a1] : List Value).toArray below meth c H locs cells slots (MQ below (gQr (gPA G S') (some (.int r)) (gAr (gNo G) s.heap.size)) ([.ref (G.2.1 0), .int a1] : List Value).toArray s 407 2442 (gAr (gNo G) s.heap.size)) (F0 m 244 ls [])), ∀ (S : At) (x3 : Int32) (x4 : Int32) (x5 : Int32) (x6 : Int32) (x7 : Int32) (x9 : Int32) (x11 : Int32) (x12 : Int32) (x13 : Int32) (x14 : Int32) (t0 : Int32) (H : Heap) (locs : List Loc) (ls : Array Slot) (cells slots : Nat), cells + (9 + 21 * n_244) ≤ 407 → slots + (54 + 126 * n_244) ≤ 2442 → gPA G S H → va_S (gAr (gNo G) s.heap.size) s.heap H locs → lv_has ls 20 [(0, .ref (G.2.1 0)), (3, .int x3), (4, .int x4), (5, .int x5), (6, .int x6), (7, .int x7), (9, .int x9), (11, .int x11), (12, .int x12), (13, .int x13), (14, .int x14)] → B_ways_356 K244 S x3 x4 x5 x6 x7 x9 x11 x12 x13 x14 t0 = some (r, S') → W p l e (gRx 10 183 407 2442) s m ([.ref (G.2.1 0), .int a1] : List Value).toArray below meth c H locs cells slots (MQ below (gQr (gPA G S') (some (.int r)) (gAr (gNo G) s.heap.size)) ([.ref (G.2.1 0), .int a1] : List Value).toArray s 407 2442 (gAr (gNo G) s.heap.size)) (F0 m 356 ls [.int t0]) := by
    intro K244 n_244 hK244 S x3 x4 x5 x6 x7 x9 x11 x12 x13 x14 t0 H locs ls cells slots hcl hsl hw hS hl hf
    unfold B_ways_356 at hf
    refine lv_istore (lv' := [(16, .int t0), (0, .ref (G.2.1 0)), (3, .int x3), (4, .int x4), (5, .int x5), (6, .int x6), (7, .int x7), (9, .int x9), (11, .int x11), (12, .int x12), (13, .int x13), (14, .int x14)]) cx.1 cx.2.1 dL_ways_356 hl (by decide) rfl (fun ls hl => ?_)
    refine lv_iload cx.1 cx.2.1 dL_ways_358 (lv_at hl 0 rfl) ?_
    refine lv_aload_n cx.1 cx.2.1 dL_ways_360 rfl (lv_at hl 1 rfl) ?_
    refine lv_iload cx.1 cx.2.1 dL_ways_361 (lv_at hl 9 rfl) ?_
    refine lv_iconst (v := (2 : Int32)) cx.1 cx.2.1 dL_ways_363 (by decide) ?_
    obtain ⟨v_5, S_6, hv, hf⟩ := gbs_some hf
    refine a_SW (As := [.ref (G.2.1 0), .int x12, .int (2 : Int32)]) (rest := [.int t0]) cx hX hZ hw hS (a_tryTrack l hst G x12 (2 : Int32) S v_5 S_6 hv) gw_366 gw_187 gyw_L_tryTrack ⟨by decide, by decide⟩ ⟨Nat.le_of_ble_eq_true rfl, Nat.le_of_ble_eq_true rfl⟩ (show cells + 2 ≤ 407 ∧ slots + 12 ≤ 2442 from ⟨by omega, by omega⟩) rfl hl.1 rfl (Nat.le_of_ble_eq_true rfl) dL_ways_364 (fun H locs hw hS => ?_)
    refine W.eq (g2 := F0 m 367 ls [.int v_5, .int t0]) rfl ?_
    refine lv_imul cx.1 cx.2.1 dL_ways_367 ?_
    obtain ⟨x17_7, ex17_7, hf⟩ := gvi_ex hf
    refine W.eq (g2 := F0 m 368 ls [.int x17_7]) (by rw [← ex17_7]) ?_
    refine lv_istore (lv' := [(17, .int x17_7), (16, .int t0), (0, .ref (G.2.1 0)), (3, .int x3), (4, .int x4), (5, .int x5), (6, .int x6), (7, .int x7), (9, .int x9), (11, .int x11), (12, .int x12), (13, .int x13), (14, .int x14)]) cx.1 cx.2.1 dL_ways_368 hl (by decide) rfl (fun ls hl => ?_)
    refine lv_iload cx.1 cx.2.1 dL_ways_370 (lv_at hl 11 rfl) ?_
    refine lv_iload cx.1 cx.2.1 dL_ways_372 (lv_at hl 5 rfl) ?_
    refine lv_icmp_ne (tgt := 386) cx.1 cx.2.1 dL_ways_374 (by decide) (fun hc => ?_) (fun hc => ?_)
    · rw [if_neg hc] at hf
      exact hB_386 K244 n_244 hK244 S_6 x3 x4 x5 x6 x7 x9 x11 x12 x13 x14 x17_7 _ _ _ _ _ (by omega) (by omega) hw hS (lv_sub hl [2, 3, 4, 5, 6, 7, 8, 9, 10, 11, 12, 0] rfl) hf
    · rw [if_pos hc] at hf
      refine lv_iload cx.1 cx.2.1 dL_ways_377 (lv_at hl 12 rfl) ?_
      refine lv_if_lt (tgt := 386) cx.1 cx.2.1 dL_ways_379 (by decide) (fun hc => ?_) (fun hc => ?_)
      · rw [if_pos hc] at hf
        exact hB_386 K244 n_244 hK244 S_6 x3 x4 x5 x6 x7 x9 x11 x12 x13 x14 x17_7 _ _ _ _ _ (by omega) (by omega) hw hS (lv_sub hl [2, 3, 4, 5, 6, 7, 8, 9, 10, 11, 12, 0] rfl) hf
      · rw [if_neg hc] at hf
        refine lv_iconst (v := (0 : Int32)) cx.1 cx.2.1 dL_ways_382 (by decide) ?_
        refine lv_goto (tgt := 416) cx.1 cx.2.1 dL_ways_383 (by decide) ?_
        exact hB_416 K244 n_244 hK244 S_6 x3 x4 x5 x6 x7 x9 x11 x12 x13 x14 x17_7 (0 : Int32) _ _ _ _ _ (by omega) (by omega) hw hS (lv_sub hl [2, 3, 4, 5, 6, 7, 8, 9, 10, 11, 12, 0] rfl) hf
  have hB_305 : ∀ (K244 : At → Int32 → Int32 → Int32 → Int32 → Int32 → Int32 → Int32 → Int32 → Int32 → Option (Int32 × At)) (n_244 : Nat) (hK244 : ∀ (S : At) (x3 : Int32) (x4 : Int32) (x5 : Int32) (x6 : Int32) (x7 : Int32) (x9 : Int32) (x10 : Int32) (x11 : Int32) (x12 : Int32) (H : Heap) (locs : List Loc) (ls : Array Slot) (cells slots : Nat), cells + (1 + 21 * n_244) ≤ 407 → slots + (6 + 126 * n_244) ≤ 2442 → gPA G S H → va_S (gAr (gNo G) s.heap.size) s.heap H locs → lv_has ls 20 [(0, .ref (G.2.1 0)), (3, .int x3), (4, .int x4), (5, .int x5), (6, .int x6), (7, .int x7), (9, .int x9), (10, .int x10), (11, .int x11), (12, .int x12)] → K244 S x3 x4 x5 x6 x7 x9 x10 x11 x12 = some (r, S') → W p l e (gRx 10 183 407 2442) s m ([.ref (G.2.1 0), .int a1] : List Value).toArray below meth c H locs cells slots (MQ below (gQr (gPA G S') (some (.int r)) (gAr (gNo G) s.heap.size)) ([.ref (G.2.1 0), .int a1] : List Value).toArray s 407 2442 (gAr (gNo G) s.heap.size)) (F0 m 244 ls [])), ∀ (S : At) (x3 : Int32) (x4 : Int32) (x5 : Int32) (x6 : Int32) (x7 : Int32) (x9 : Int32) (x11 : Int32) (x12 : Int32) (t0 : Int32) (H : Heap) (locs : List Loc) (ls : Array Slot) (cells slots : Nat), cells + (15 + 21 * n_244) ≤ 407 → slots + (90 + 126 * n_244) ≤ 2442 → gPA G S H → va_S (gAr (gNo G) s.heap.size) s.heap H locs → lv_has ls 20 [(0, .ref (G.2.1 0)), (3, .int x3), (4, .int x4), (5, .int x5), (6, .int x6), (7, .int x7), (9, .int x9), (11, .int x11), (12, .int x12)] → B_ways_305 K244 S x3 x4 x5 x6 x7 x9 x11 x12 t0 = some (r, S') → W p l e (gRx 10 183 407 2442) s m ([.ref (G.2.1 0), .int a1] : List Value).toArray below meth c H locs cells slots (MQ below (gQr (gPA G S') (some (.int r)) (gAr (gNo G) s.heap.size)) ([.ref (G.2.1 0), .int a1] : List Value).toArray s 407 2442 (gAr (gNo G) s.heap.size)) (F0 m 305 ls [.int t0]) := by
    intro K244 n_244 hK244 S x3 x4 x5 x6 x7 x9 x11 x12 t0 H locs ls cells slots hcl hsl hw hS hl hf
    unfold B_ways_305 at hf
    refine lv_istore (lv' := [(13, .int t0), (0, .ref (G.2.1 0)), (3, .int x3), (4, .int x4), (5, .int x5), (6, .int x6), (7, .int x7), (9, .int x9), (11, .int x11), (12, .int x12)]) cx.1 cx.2.1 dL_ways_305 hl (by decide) rfl (fun ls hl => ?_)
    refine lv_iload cx.1 cx.2.1 dL_ways_307 (lv_at hl 5 rfl) ?_
    refine lv_aload_n cx.1 cx.2.1 dL_ways_309 rfl (lv_at hl 1 rfl) ?_
    refine lv_iload cx.1 cx.2.1 dL_ways_310 (lv_at hl 9 rfl) ?_
    refine lv_iconst (v := (2 : Int32)) cx.1 cx.2.1 dL_ways_312 (by decide) ?_
    obtain ⟨v_8, S_9, hv, hf⟩ := gbs_some hf
    refine a_SW (As := [.ref (G.2.1 0), .int x12, .int (2 : Int32)]) (rest := [.int x6]) cx hX hZ hw hS (a_tryTrack l hst G x12 (2 : Int32) S v_8 S_9 hv) gw_366 gw_187 gyw_L_tryTrack ⟨by decide, by decide⟩ ⟨Nat.le_of_ble_eq_true rfl, Nat.le_of_ble_eq_true rfl⟩ (show cells + 2 ≤ 407 ∧ slots + 12 ≤ 2442 from ⟨by omega, by omega⟩) rfl hl.1 rfl (Nat.le_of_ble_eq_true rfl) dL_ways_313 (fun H locs hw hS => ?_)
    refine W.eq (g2 := F0 m 316 ls [.int v_8, .int x6]) rfl ?_
    refine lv_isub cx.1 cx.2.1 dL_ways_316 ?_
    obtain ⟨x14_10, ex14_10, hf⟩ := gvi_ex hf
    refine W.eq (g2 := F0 m 317 ls [.int x14_10]) (by rw [← ex14_10]) ?_
    refine lv_istore (lv' := [(14, .int x14_10), (13, .int t0), (0, .ref (G.2.1 0)), (3, .int x3), (4, .int x4), (5, .int x5), (6, .int x6), (7, .int x7), (9, .int x9), (11, .int x11), (12, .int x12)]) cx.1 cx.2.1 dL_ways_317 hl (by decide) rfl (fun ls hl => ?_)
    refine lv_aload_n cx.1 cx.2.1 dL_ways_319 rfl (lv_at hl 2 rfl) ?_
    refine lv_iload cx.1 cx.2.1 dL_ways_320 (lv_at hl 10 rfl) ?_
    refine lv_iconst (v := (3 : Int32)) cx.1 cx.2.1 dL_ways_322 (by decide) ?_
    obtain ⟨v_11, S_12, hv, hf⟩ := gbs_some hf
    refine a_SW (As := [.ref (G.2.1 0), .int x12, .int (3 : Int32)]) (rest := []) cx hX hZ hw hS (a_tryTrack l hst G x12 (3 : Int32) S_9 v_11 S_12 hv) gw_366 gw_187 gyw_L_tryTrack ⟨by decide, by decide⟩ ⟨Nat.le_of_ble_eq_true rfl, Nat.le_of_ble_eq_true rfl⟩ (show cells + 2 + 2 ≤ 407 ∧ slots + 12 + 12 ≤ 2442 from ⟨by omega, by omega⟩) rfl hl.1 rfl (Nat.le_of_ble_eq_true rfl) dL_ways_323 (fun H locs hw hS => ?_)
    refine W.eq (g2 := F0 m 326 ls [.int v_11]) rfl ?_
    refine lv_istore (lv' := [(15, .int v_11), (14, .int x14_10), (13, .int t0), (0, .ref (G.2.1 0)), (3, .int x3), (4, .int x4), (5, .int x5), (6, .int x6), (7, .int x7), (9, .int x9), (11, .int x11), (12, .int x12)]) cx.1 cx.2.1 dL_ways_326 hl (by decide) rfl (fun ls hl => ?_)
    refine lv_iload cx.1 cx.2.1 dL_ways_328 (lv_at hl 0 rfl) ?_
    refine lv_iload_n cx.1 cx.2.1 dL_ways_330 rfl (lv_at hl 4 rfl) ?_
    refine lv_icmp_ne (tgt := 338) cx.1 cx.2.1 dL_ways_331 (by decide) (fun hc => ?_) (fun hc => ?_)
    · rw [if_neg hc] at hf
      refine lv_iload cx.1 cx.2.1 dL_ways_338 (lv_at hl 0 rfl) ?_
      refine lv_bipush (v := (-9 : Int32)) cx.1 cx.2.1 dL_ways_340 (by decide) ?_
      refine lv_icmp_ne (tgt := 349) cx.1 cx.2.1 dL_ways_342 (by decide) (fun hc => ?_) (fun hc => ?_)
      · rw [if_neg hc] at hf
        refine lv_aload_n cx.1 cx.2.1 dL_ways_349 rfl (lv_at hl 3 rfl) ?_
        refine lv_iload cx.1 cx.2.1 dL_ways_350 (lv_at hl 0 rfl) ?_
        refine lv_iconst (v := (1 : Int32)) cx.1 cx.2.1 dL_ways_352 (by decide) ?_
        obtain ⟨v_13, S_14, hv, hf⟩ := gbs_some hf
        refine a_SW (As := [.ref (G.2.1 0), .int v_11, .int (1 : Int32)]) (rest := []) cx hX hZ hw hS (a_tryCompany l hst G v_11 (1 : Int32) S_12 v_13 S_14 hv) gw_349 gw_187 gyw_L_tryCompany ⟨by decide, by decide⟩ ⟨Nat.le_of_ble_eq_true rfl, Nat.le_of_ble_eq_true rfl⟩ (show cells + 2 + 2 + 2 ≤ 407 ∧ slots + 12 + 12 + 12 ≤ 2442 from ⟨by omega, by omega⟩) rfl hl.1 rfl (Nat.le_of_ble_eq_true rfl) dL_ways_353 (fun H locs hw hS => ?_)
        refine W.eq (g2 := F0 m 356 ls [.int v_13]) rfl ?_
        exact hB_356 K244 n_244 hK244 S_14 x3 x4 x5 x6 x7 x9 x11 x12 t0 x14_10 v_13 _ _ _ _ _ (by omega) (by omega) hw hS (lv_sub hl [3, 4, 5, 6, 7, 8, 9, 10, 11, 2, 1] rfl) hf
      · rw [if_pos hc] at hf
        refine lv_iconst (v := (1 : Int32)) cx.1 cx.2.1 dL_ways_345 (by decide) ?_
        refine lv_goto (tgt := 356) cx.1 cx.2.1 dL_ways_346 (by decide) ?_
        exact hB_356 K244 n_244 hK244 S_12 x3 x4 x5 x6 x7 x9 x11 x12 t0 x14_10 (1 : Int32) _ _ _ _ _ (by omega) (by omega) hw hS (lv_sub hl [3, 4, 5, 6, 7, 8, 9, 10, 11, 2, 1] rfl) hf
    · rw [if_pos hc] at hf
      refine lv_iconst (v := (0 : Int32)) cx.1 cx.2.1 dL_ways_334 (by decide) ?_
      refine lv_goto (tgt := 356) cx.1 cx.2.1 dL_ways_335 (by decide) ?_
      exact hB_356 K244 n_244 hK244 S_12 x3 x4 x5 x6 x7 x9 x11 x12 t0 x14_10 (0 : Int32) _ _ _ _ _ (by omega) (by omega) hw hS (lv_sub hl [3, 4, 5, 6, 7, 8, 9, 10, 11, 2, 1] rfl) hf
  have hL_244 : ∀ (n : Nat), ∀ (S : At) (x3 : Int32) (x4 : Int32) (x5 : Int32) (x6 : Int32) (x7 : Int32) (x9 : Int32) (x10 : Int32) (x11 : Int32) (x12 : Int32) (H : Heap) (locs : List Loc) (ls : Array Slot) (cells slots : Nat), cells + (1 + 21 * n) ≤ 407 → slots + (6 + 126 * n) ≤ 2442 → gPA G S H → va_S (gAr (gNo G) s.heap.size) s.heap H locs → lv_has ls 20 [(0, .ref (G.2.1 0)), (3, .int x3), (4, .int x4), (5, .int x5), (6, .int x6), (7, .int x7), (9, .int x9), (10, .int x10), (11, .int x11), (12, .int x12)] → L_ways_244 n S x3 x4 x5 x6 x7 x9 x10 x11 x12 = some (r, S') → W p l e (gRx 10 183 407 2442) s m ([.ref (G.2.1 0), .int a1] : List Value).toArray below meth c H locs cells slots (MQ below (gQr (gPA G S') (some (.int r)) (gAr (gNo G) s.heap.size)) ([.ref (G.2.1 0), .int a1] : List Value).toArray s 407 2442 (gAr (gNo G) s.heap.size)) (F0 m 244 ls []) := by
    intro n_244
    induction n_244 with
    | zero => intro S x3 x4 x5 x6 x7 x9 x10 x11 x12 H locs ls cells slots hcl hsl hw hS hl hf; cases hf
    | succ n_244 hK244 =>
      intro S x3 x4 x5 x6 x7 x9 x10 x11 x12 H locs ls cells slots hcl hsl hw hS hl hf
      have hf : Lb_ways_244 (L_ways_244 n_244) S x3 x4 x5 x6 x7 x9 x10 x11 x12 = some (r, S') := hf
      unfold Lb_ways_244 at hf
      refine lv_iload cx.1 cx.2.1 dL_ways_244 (lv_at hl 9 rfl) ?_
      refine lv_aload_n cx.1 cx.2.1 dL_ways_246 rfl (lv_at hl 0 rfl) ?_
      refine lv_iconst (v := (1 : Int32)) cx.1 cx.2.1 dL_ways_247 (by decide) ?_
      obtain ⟨v_15, S_16, hv, hf⟩ := gbs_some hf
      refine a_SW (As := [.ref (G.2.1 0), .int (1 : Int32)]) (rest := [.int x12]) cx hX hZ hw hS (a_tryAbout l hst G (1 : Int32) S v_15 S_16 hv) gw_185 gw_187 gyw_L_tryAbout ⟨by decide, by decide⟩ ⟨Nat.le_of_ble_eq_true rfl, Nat.le_of_ble_eq_true rfl⟩ (show cells + 1 ≤ 407 ∧ slots + 6 ≤ 2442 from ⟨by omega, by omega⟩) rfl hl.1 rfl (Nat.le_of_ble_eq_true rfl) dL_ways_248 (fun H locs hw hS => ?_)
      refine W.eq (g2 := F0 m 251 ls [.int v_15, .int x12]) rfl ?_
      refine lv_icmp_ge (tgt := 532) cx.1 cx.2.1 dL_ways_251 (by decide) (fun hc => ?_) (fun hc => ?_)
      · rw [if_pos hc] at hf
        exact hB_532 S_16 x7 x10 x11 _ _ _ _ _ (by omega) (by omega) hw hS (lv_sub hl [5, 7, 8] rfl) hf
      · rw [if_neg hc] at hf
        refine lv_iload cx.1 cx.2.1 dL_ways_254 (lv_at hl 7 rfl) ?_
        refine lv_if_eq (tgt := 532) cx.1 cx.2.1 dL_ways_256 (by decide) (fun hc => ?_) (fun hc => ?_)
        · rw [if_pos hc] at hf
          exact hB_532 S_16 x7 x10 x11 _ _ _ _ _ (by omega) (by omega) hw hS (lv_sub hl [5, 7, 8] rfl) hf
        · rw [if_neg hc] at hf
          refine lv_aload_n cx.1 cx.2.1 dL_ways_259 rfl (lv_at hl 0 rfl) ?_
          refine lv_iload cx.1 cx.2.1 dL_ways_260 (lv_at hl 9 rfl) ?_
          refine lv_iconst (v := (0 : Int32)) cx.1 cx.2.1 dL_ways_262 (by decide) ?_
          obtain ⟨v_17, S_18, hv, hf⟩ := gbs_some hf
          refine a_SW (As := [.ref (G.2.1 0), .int x12, .int (0 : Int32)]) (rest := []) cx hX hZ hw hS (a_tryTrack l hst G x12 (0 : Int32) S_16 v_17 S_18 hv) gw_366 gw_187 gyw_L_tryTrack ⟨by decide, by decide⟩ ⟨Nat.le_of_ble_eq_true rfl, Nat.le_of_ble_eq_true rfl⟩ (show cells + 1 + 2 ≤ 407 ∧ slots + 6 + 12 ≤ 2442 from ⟨by omega, by omega⟩) rfl hl.1 rfl (Nat.le_of_ble_eq_true rfl) dL_ways_263 (fun H locs hw hS => ?_)
          refine W.eq (g2 := F0 m 266 ls [.int v_17]) rfl ?_
          refine lv_iload cx.1 cx.2.1 dL_ways_266 (lv_at hl 2 rfl) ?_
          refine lv_icmp_ne (tgt := 281) cx.1 cx.2.1 dL_ways_268 (by decide) (fun hc => ?_) (fun hc => ?_)
          · rw [if_neg hc] at hf
            refine lv_aload_n cx.1 cx.2.1 dL_ways_281 rfl (lv_at hl 0 rfl) ?_
            refine lv_iload cx.1 cx.2.1 dL_ways_282 (lv_at hl 9 rfl) ?_
            refine lv_iconst (v := (1 : Int32)) cx.1 cx.2.1 dL_ways_284 (by decide) ?_
            obtain ⟨v_19, S_20, hv, hf⟩ := gbs_some hf
            refine a_SW (As := [.ref (G.2.1 0), .int x12, .int (1 : Int32)]) (rest := []) cx hX hZ hw hS (a_tryTrack l hst G x12 (1 : Int32) S_18 v_19 S_20 hv) gw_366 gw_187 gyw_L_tryTrack ⟨by decide, by decide⟩ ⟨Nat.le_of_ble_eq_true rfl, Nat.le_of_ble_eq_true rfl⟩ (show cells + 1 + 2 + 2 ≤ 407 ∧ slots + 6 + 12 + 12 ≤ 2442 from ⟨by omega, by omega⟩) rfl hl.1 rfl (Nat.le_of_ble_eq_true rfl) dL_ways_285 (fun H locs hw hS => ?_)
            refine W.eq (g2 := F0 m 288 ls [.int v_19]) rfl ?_
            refine lv_iload cx.1 cx.2.1 dL_ways_288 (lv_at hl 2 rfl) ?_
            refine lv_icmp_ne (tgt := 303) cx.1 cx.2.1 dL_ways_290 (by decide) (fun hc => ?_) (fun hc => ?_)
            · rw [if_neg hc] at hf
              refine lv_bipush (v := (-9 : Int32)) cx.1 cx.2.1 dL_ways_303 (by decide) ?_
              exact hB_305 (L_ways_244 n_244) n_244 hK244 S_20 x3 x4 x5 x6 x7 x9 x11 x12 (-9 : Int32) _ _ _ _ _ (by omega) (by omega) hw hS (lv_sub hl [0, 1, 2, 3, 4, 5, 6, 8, 9] rfl) hf
            · rw [if_pos hc] at hf
              refine lv_aload_n cx.1 cx.2.1 dL_ways_293 rfl (lv_at hl 0 rfl) ?_
              refine lv_iload cx.1 cx.2.1 dL_ways_294 (lv_at hl 9 rfl) ?_
              refine lv_iconst (v := (0 : Int32)) cx.1 cx.2.1 dL_ways_296 (by decide) ?_
              obtain ⟨v_21, S_22, hv, hf⟩ := gbs_some hf
              refine a_SW (As := [.ref (G.2.1 0), .int x12, .int (0 : Int32)]) (rest := []) cx hX hZ hw hS (a_tryTrack l hst G x12 (0 : Int32) S_20 v_21 S_22 hv) gw_366 gw_187 gyw_L_tryTrack ⟨by decide, by decide⟩ ⟨Nat.le_of_ble_eq_true rfl, Nat.le_of_ble_eq_true rfl⟩ (show cells + 1 + 2 + 2 + 2 ≤ 407 ∧ slots + 6 + 12 + 12 + 12 ≤ 2442 from ⟨by omega, by omega⟩) rfl hl.1 rfl (Nat.le_of_ble_eq_true rfl) dL_ways_297 (fun H locs hw hS => ?_)
              refine W.eq (g2 := F0 m 300 ls [.int v_21]) rfl ?_
              refine lv_goto (tgt := 305) cx.1 cx.2.1 dL_ways_300 (by decide) ?_
              exact hB_305 (L_ways_244 n_244) n_244 hK244 S_22 x3 x4 x5 x6 x7 x9 x11 x12 v_21 _ _ _ _ _ (by omega) (by omega) hw hS (lv_sub hl [0, 1, 2, 3, 4, 5, 6, 8, 9] rfl) hf
          · rw [if_pos hc] at hf
            refine lv_aload_n cx.1 cx.2.1 dL_ways_271 rfl (lv_at hl 0 rfl) ?_
            refine lv_iload cx.1 cx.2.1 dL_ways_272 (lv_at hl 9 rfl) ?_
            refine lv_iconst (v := (1 : Int32)) cx.1 cx.2.1 dL_ways_274 (by decide) ?_
            obtain ⟨v_23, S_24, hv, hf⟩ := gbs_some hf
            refine a_SW (As := [.ref (G.2.1 0), .int x12, .int (1 : Int32)]) (rest := []) cx hX hZ hw hS (a_tryTrack l hst G x12 (1 : Int32) S_18 v_23 S_24 hv) gw_366 gw_187 gyw_L_tryTrack ⟨by decide, by decide⟩ ⟨Nat.le_of_ble_eq_true rfl, Nat.le_of_ble_eq_true rfl⟩ (show cells + 1 + 2 + 2 ≤ 407 ∧ slots + 6 + 12 + 12 ≤ 2442 from ⟨by omega, by omega⟩) rfl hl.1 rfl (Nat.le_of_ble_eq_true rfl) dL_ways_275 (fun H locs hw hS => ?_)
            refine W.eq (g2 := F0 m 278 ls [.int v_23]) rfl ?_
            refine lv_goto (tgt := 305) cx.1 cx.2.1 dL_ways_278 (by decide) ?_
            exact hB_305 (L_ways_244 n_244) n_244 hK244 S_24 x3 x4 x5 x6 x7 x9 x11 x12 v_23 _ _ _ _ _ (by omega) (by omega) hw hS (lv_sub hl [0, 1, 2, 3, 4, 5, 6, 8, 9] rfl) hf
  have hB_237 : ∀ (S : At) (x3 : Int32) (x4 : Int32) (x5 : Int32) (x6 : Int32) (x7 : Int32) (x9 : Int32) (x10 : Int32) (H : Heap) (locs : List Loc) (ls : Array Slot) (cells slots : Nat), cells + (358) ≤ 407 → slots + (2148) ≤ 2442 → gPA G S H → va_S (gAr (gNo G) s.heap.size) s.heap H locs → lv_has ls 20 [(0, .ref (G.2.1 0)), (3, .int x3), (4, .int x4), (5, .int x5), (6, .int x6), (7, .int x7), (9, .int x9), (10, .int x10)] → B_ways_237 S x3 x4 x5 x6 x7 x9 x10 = some (r, S') → W p l e (gRx 10 183 407 2442) s m ([.ref (G.2.1 0), .int a1] : List Value).toArray below meth c H locs cells slots (MQ below (gQr (gPA G S') (some (.int r)) (gAr (gNo G) s.heap.size)) ([.ref (G.2.1 0), .int a1] : List Value).toArray s 407 2442 (gAr (gNo G) s.heap.size)) (F0 m 237 ls []) := by
    intro S x3 x4 x5 x6 x7 x9 x10 H locs ls cells slots hcl hsl hw hS hl hf
    unfold B_ways_237 at hf
    refine lv_bipush (v := (-9 : Int32)) cx.1 cx.2.1 dL_ways_237 (by decide) ?_
    refine lv_istore (lv' := [(11, .int (-9 : Int32)), (0, .ref (G.2.1 0)), (3, .int x3), (4, .int x4), (5, .int x5), (6, .int x6), (7, .int x7), (9, .int x9), (10, .int x10)]) cx.1 cx.2.1 dL_ways_239 hl (by decide) rfl (fun ls hl => ?_)
    refine lv_iconst (v := (0 : Int32)) cx.1 cx.2.1 dL_ways_241 (by decide) ?_
    refine lv_istore (lv' := [(12, .int (0 : Int32)), (11, .int (-9 : Int32)), (0, .ref (G.2.1 0)), (3, .int x3), (4, .int x4), (5, .int x5), (6, .int x6), (7, .int x7), (9, .int x9), (10, .int x10)]) cx.1 cx.2.1 dL_ways_242 hl (by decide) rfl (fun ls hl => ?_)
    exact hL_244 17 S x3 x4 x5 x6 x7 x9 x10 (-9 : Int32) (0 : Int32) _ _ _ _ _ (by omega) (by omega) hw hS (lv_sub hl [2, 3, 4, 5, 6, 7, 8, 9, 1, 0] rfl) hf
  have hB_180 : ∀ (S : At) (x3 : Int32) (x4 : Int32) (x5 : Int32) (x6 : Int32) (x7 : Int32) (x9 : Int32) (t0 : Int32) (H : Heap) (locs : List Loc) (ls : Array Slot) (cells slots : Nat), cells + (364) ≤ 407 → slots + (2184) ≤ 2442 → gPA G S H → va_S (gAr (gNo G) s.heap.size) s.heap H locs → lv_has ls 20 [(0, .ref (G.2.1 0)), (3, .int x3), (4, .int x4), (5, .int x5), (6, .int x6), (7, .int x7), (9, .int x9)] → B_ways_180 S x3 x4 x5 x6 x7 x9 t0 = some (r, S') → W p l e (gRx 10 183 407 2442) s m ([.ref (G.2.1 0), .int a1] : List Value).toArray below meth c H locs cells slots (MQ below (gQr (gPA G S') (some (.int r)) (gAr (gNo G) s.heap.size)) ([.ref (G.2.1 0), .int a1] : List Value).toArray s 407 2442 (gAr (gNo G) s.heap.size)) (F0 m 180 ls [.int t0]) := by
    intro S x3 x4 x5 x6 x7 x9 t0 H locs ls cells slots hcl hsl hw hS hl hf
    unfold B_ways_180 at hf
    refine lv_istore (lv' := [(10, .int t0), (0, .ref (G.2.1 0)), (3, .int x3), (4, .int x4), (5, .int x5), (6, .int x6), (7, .int x7), (9, .int x9)]) cx.1 cx.2.1 dL_ways_180 hl (by decide) rfl (fun ls hl => ?_)
    refine lv_iload cx.1 cx.2.1 dL_ways_182 (lv_at hl 5 rfl) ?_
    refine lv_iconst (v := (1 : Int32)) cx.1 cx.2.1 dL_ways_184 (by decide) ?_
    refine lv_icmp_le (tgt := 237) cx.1 cx.2.1 dL_ways_185 (by decide) (fun hc => ?_) (fun hc => ?_)
    · rw [if_pos hc] at hf
      exact hB_237 S x3 x4 x5 x6 x7 x9 t0 _ _ _ _ _ (by omega) (by omega) hw hS (lv_sub hl [1, 2, 3, 4, 5, 6, 7, 0] rfl) hf
    · rw [if_neg hc] at hf
      refine lv_iload cx.1 cx.2.1 dL_ways_188 (lv_at hl 0 rfl) ?_
      refine lv_if_eq (tgt := 237) cx.1 cx.2.1 dL_ways_190 (by decide) (fun hc => ?_) (fun hc => ?_)
      · rw [if_pos hc] at hf
        exact hB_237 S x3 x4 x5 x6 x7 x9 t0 _ _ _ _ _ (by omega) (by omega) hw hS (lv_sub hl [1, 2, 3, 4, 5, 6, 7, 0] rfl) hf
      · rw [if_neg hc] at hf
        refine lv_aload_n cx.1 cx.2.1 dL_ways_193 rfl (lv_at hl 1 rfl) ?_
        refine lv_iload_n cx.1 cx.2.1 dL_ways_194 rfl (lv_at hl 2 rfl) ?_
        refine lv_iload cx.1 cx.2.1 dL_ways_195 (lv_at hl 3 rfl) ?_
        refine lv_iload cx.1 cx.2.1 dL_ways_197 (lv_at hl 4 rfl) ?_
        refine lv_iload cx.1 cx.2.1 dL_ways_199 (lv_at hl 5 rfl) ?_
        refine lv_iconst (v := (1 : Int32)) cx.1 cx.2.1 dL_ways_201 (by decide) ?_
        refine lv_isub cx.1 cx.2.1 dL_ways_202 ?_
        refine lv_iconst (v := (0 : Int32)) cx.1 cx.2.1 dL_ways_203 (by decide) ?_
        obtain ⟨v_25, S_26, hv, hf⟩ := gbs_some hf
        refine a_SW (As := [.ref (G.2.1 0), .int x3, .int x4, .int x5, .int (x6 - (1 : Int32)), .int (0 : Int32)]) (rest := []) cx hX hZ hw hS (a_tryWay l hst G x3 x4 x5 (x6 - (1 : Int32)) (0 : Int32) S v_25 S_26 hv) gw_214 gw_187 gyw_L_tryWay ⟨by decide, by decide⟩ ⟨Nat.le_of_ble_eq_true rfl, Nat.le_of_ble_eq_true rfl⟩ (show cells + 6 ≤ 407 ∧ slots + 36 ≤ 2442 from ⟨by omega, by omega⟩) rfl hl.1 rfl (Nat.le_of_ble_eq_true rfl) dL_ways_204 (fun H locs hw hS => ?_)
        refine W.eq (g2 := F0 m 207 ls [.int v_25]) rfl ?_
        refine lv_istore (lv' := [(11, .int v_25), (10, .int t0), (0, .ref (G.2.1 0)), (3, .int x3), (4, .int x4), (5, .int x5), (6, .int x6), (7, .int x7), (9, .int x9)]) cx.1 cx.2.1 dL_ways_207 hl (by decide) rfl (fun ls hl => ?_)
        refine lv_iload cx.1 cx.2.1 dL_ways_209 (lv_at hl 0 rfl) ?_
        refine lv_bipush (v := (-9 : Int32)) cx.1 cx.2.1 dL_ways_211 (by decide) ?_
        refine lv_icmp_eq (tgt := 230) cx.1 cx.2.1 dL_ways_213 (by decide) (fun hc => ?_) (fun hc => ?_)
        · rw [if_pos hc] at hf
          refine lv_iconst (v := (1 : Int32)) cx.1 cx.2.1 dL_ways_230 (by decide) ?_
          refine lv_goto (tgt := 235) cx.1 cx.2.1 dL_ways_231 (by decide) ?_
          refine lv_istore (lv' := [(10, .int (1 : Int32)), (11, .int v_25), (0, .ref (G.2.1 0)), (3, .int x3), (4, .int x4), (5, .int x5), (6, .int x6), (7, .int x7), (9, .int x9)]) cx.1 cx.2.1 dL_ways_235 hl (by decide) rfl (fun ls hl => ?_)
          exact hB_237 S_26 x3 x4 x5 x6 x7 x9 (1 : Int32) _ _ _ _ _ (by omega) (by omega) hw hS (lv_sub hl [2, 3, 4, 5, 6, 7, 8, 0] rfl) hf
        · rw [if_neg hc] at hf
          refine lv_iload cx.1 cx.2.1 dL_ways_216 (lv_at hl 7 rfl) ?_
          refine lv_bipush (v := (-9 : Int32)) cx.1 cx.2.1 dL_ways_218 (by decide) ?_
          refine lv_icmp_eq (tgt := 234) cx.1 cx.2.1 dL_ways_220 (by decide) (fun hc => ?_) (fun hc => ?_)
          · rw [if_pos hc] at hf
            refine lv_iconst (v := (0 : Int32)) cx.1 cx.2.1 dL_ways_234 (by decide) ?_
            refine lv_istore (lv' := [(10, .int (0 : Int32)), (11, .int v_25), (0, .ref (G.2.1 0)), (3, .int x3), (4, .int x4), (5, .int x5), (6, .int x6), (7, .int x7), (9, .int x9)]) cx.1 cx.2.1 dL_ways_235 hl (by decide) rfl (fun ls hl => ?_)
            exact hB_237 S_26 x3 x4 x5 x6 x7 x9 (0 : Int32) _ _ _ _ _ (by omega) (by omega) hw hS (lv_sub hl [2, 3, 4, 5, 6, 7, 8, 0] rfl) hf
          · rw [if_neg hc] at hf
            refine lv_iload cx.1 cx.2.1 dL_ways_223 (lv_at hl 7 rfl) ?_
            refine lv_iload cx.1 cx.2.1 dL_ways_225 (lv_at hl 0 rfl) ?_
            refine lv_icmp_gt (tgt := 234) cx.1 cx.2.1 dL_ways_227 (by decide) (fun hc => ?_) (fun hc => ?_)
            · rw [if_pos hc] at hf
              refine lv_iconst (v := (0 : Int32)) cx.1 cx.2.1 dL_ways_234 (by decide) ?_
              refine lv_istore (lv' := [(10, .int (0 : Int32)), (11, .int v_25), (0, .ref (G.2.1 0)), (3, .int x3), (4, .int x4), (5, .int x5), (6, .int x6), (7, .int x7), (9, .int x9)]) cx.1 cx.2.1 dL_ways_235 hl (by decide) rfl (fun ls hl => ?_)
              exact hB_237 S_26 x3 x4 x5 x6 x7 x9 (0 : Int32) _ _ _ _ _ (by omega) (by omega) hw hS (lv_sub hl [2, 3, 4, 5, 6, 7, 8, 0] rfl) hf
            · rw [if_neg hc] at hf
              refine lv_iconst (v := (1 : Int32)) cx.1 cx.2.1 dL_ways_230 (by decide) ?_
              refine lv_goto (tgt := 235) cx.1 cx.2.1 dL_ways_231 (by decide) ?_
              refine lv_istore (lv' := [(10, .int (1 : Int32)), (11, .int v_25), (0, .ref (G.2.1 0)), (3, .int x3), (4, .int x4), (5, .int x5), (6, .int x6), (7, .int x7), (9, .int x9)]) cx.1 cx.2.1 dL_ways_235 hl (by decide) rfl (fun ls hl => ?_)
              exact hB_237 S_26 x3 x4 x5 x6 x7 x9 (1 : Int32) _ _ _ _ _ (by omega) (by omega) hw hS (lv_sub hl [2, 3, 4, 5, 6, 7, 8, 0] rfl) hf
  have hl : lv_has ls 20 [(0, .ref (G.2.1 0)), (1, .int a1)] := hl
  unfold h_ways at hf
  refine lv_aload_n cx.1 cx.2.1 dL_ways_0 rfl (lv_at hl 0 rfl) ?_
  refine lv_iconst (v := (0 : Int32)) cx.1 cx.2.1 dL_ways_1 (by decide) ?_
  obtain ⟨v_27, S_28, hv, hf⟩ := gbs_some hf
  refine a_SW (As := [.ref (G.2.1 0), .int (0 : Int32)]) (rest := []) cx hX hZ hw hS (a_tryAbout l hst G (0 : Int32) S v_27 S_28 hv) gw_185 gw_187 gyw_L_tryAbout ⟨by decide, by decide⟩ ⟨Nat.le_of_ble_eq_true rfl, Nat.le_of_ble_eq_true rfl⟩ (show 0 + 1 ≤ 407 ∧ 0 + 6 ≤ 2442 from ⟨by omega, by omega⟩) rfl hl.1 rfl (Nat.le_of_ble_eq_true rfl) dL_ways_2 (fun H locs hw hS => ?_)
  refine W.eq (g2 := F0 m 5 ls [.int v_27]) rfl ?_
  refine lv_istore_n (lv' := [(2, .int v_27), (0, .ref (G.2.1 0)), (1, .int a1)]) cx.1 cx.2.1 dL_ways_5 rfl hl (by decide) rfl (fun ls hl => ?_)
  refine lv_iload_n cx.1 cx.2.1 dL_ways_6 rfl (lv_at hl 2 rfl) ?_
  refine lv_iconst (v := (4 : Int32)) cx.1 cx.2.1 dL_ways_7 (by decide) ?_
  refine lv_irem cx.1 cx.2.1 dL_ways_8 (by decide) ?_
  obtain ⟨x3_29, ex3_29, hf⟩ := gvi_ex hf
  refine W.eq (g2 := F0 m 9 ls [.int x3_29]) (by rw [← ex3_29]) ?_
  refine lv_istore_n (lv' := [(3, .int x3_29), (2, .int v_27), (0, .ref (G.2.1 0)), (1, .int a1)]) cx.1 cx.2.1 dL_ways_9 rfl hl (by decide) rfl (fun ls hl => ?_)
  refine lv_iload_n cx.1 cx.2.1 dL_ways_10 rfl (lv_at hl 3 rfl) ?_
  refine lv_iconst (v := (4 : Int32)) cx.1 cx.2.1 dL_ways_11 (by decide) ?_
  refine lv_idiv cx.1 cx.2.1 dL_ways_12 (by decide) ?_
  refine lv_iload_n cx.1 cx.2.1 dL_ways_13 rfl (lv_at hl 1 rfl) ?_
  obtain ⟨hne, hf⟩ := gck_some hf
  refine lv_irem cx.1 cx.2.1 dL_ways_14 (by simpa using hne) ?_
  obtain ⟨x4_30, ex4_30, hf⟩ := gvi_ex hf
  refine W.eq (g2 := F0 m 15 ls [.int x4_30]) (by rw [← ex4_30]) ?_
  refine lv_istore (lv' := [(4, .int x4_30), (3, .int x3_29), (2, .int v_27), (0, .ref (G.2.1 0)), (1, .int a1)]) cx.1 cx.2.1 dL_ways_15 hl (by decide) rfl (fun ls hl => ?_)
  refine lv_iload cx.1 cx.2.1 dL_ways_17 (lv_at hl 0 rfl) ?_
  refine lv_iconst (v := (1 : Int32)) cx.1 cx.2.1 dL_ways_19 (by decide) ?_
  refine lv_iadd cx.1 cx.2.1 dL_ways_20 ?_
  refine lv_iload_n cx.1 cx.2.1 dL_ways_21 rfl (lv_at hl 4 rfl) ?_
  refine lv_bipush (v := (64 : Int32)) cx.1 cx.2.1 dL_ways_22 (by decide) ?_
  refine lv_idiv cx.1 cx.2.1 dL_ways_24 (by decide) ?_
  refine lv_iload_n cx.1 cx.2.1 dL_ways_25 rfl (lv_at hl 2 rfl) ?_
  refine lv_iconst (v := (1 : Int32)) cx.1 cx.2.1 dL_ways_26 (by decide) ?_
  refine lv_isub cx.1 cx.2.1 dL_ways_27 ?_
  obtain ⟨hne, hf⟩ := gck_some hf
  refine lv_irem cx.1 cx.2.1 dL_ways_28 (by simpa using hne) ?_
  refine lv_iadd cx.1 cx.2.1 dL_ways_29 ?_
  refine lv_iload_n cx.1 cx.2.1 dL_ways_30 rfl (lv_at hl 2 rfl) ?_
  obtain ⟨hne, hf⟩ := gck_some hf
  refine lv_irem cx.1 cx.2.1 dL_ways_31 (by simpa using hne) ?_
  obtain ⟨x5_31, ex5_31, hf⟩ := gvi_ex hf
  refine W.eq (g2 := F0 m 32 ls [.int x5_31]) (by rw [← ex5_31]) ?_
  refine lv_istore (lv' := [(5, .int x5_31), (4, .int x4_30), (3, .int x3_29), (2, .int v_27), (0, .ref (G.2.1 0)), (1, .int a1)]) cx.1 cx.2.1 dL_ways_32 hl (by decide) rfl (fun ls hl => ?_)
  refine lv_iconst (v := (1 : Int32)) cx.1 cx.2.1 dL_ways_34 (by decide) ?_
  refine lv_iload_n cx.1 cx.2.1 dL_ways_35 rfl (lv_at hl 5 rfl) ?_
  refine lv_sipush (v := (1024 : Int32)) cx.1 cx.2.1 dL_ways_36 (by decide) ?_
  refine lv_idiv cx.1 cx.2.1 dL_ways_39 (by decide) ?_
  refine lv_bipush (v := (24 : Int32)) cx.1 cx.2.1 dL_ways_40 (by decide) ?_
  refine lv_irem cx.1 cx.2.1 dL_ways_42 (by decide) ?_
  refine lv_iadd cx.1 cx.2.1 dL_ways_43 ?_
  obtain ⟨x6_32, ex6_32, hf⟩ := gvi_ex hf
  refine W.eq (g2 := F0 m 44 ls [.int x6_32]) (by rw [← ex6_32]) ?_
  refine lv_istore (lv' := [(6, .int x6_32), (5, .int x5_31), (4, .int x4_30), (3, .int x3_29), (2, .int v_27), (0, .ref (G.2.1 0)), (1, .int a1)]) cx.1 cx.2.1 dL_ways_44 hl (by decide) rfl (fun ls hl => ?_)
  refine lv_aload_n cx.1 cx.2.1 dL_ways_46 rfl (lv_at hl 5 rfl) ?_
  refine lv_iload_n cx.1 cx.2.1 dL_ways_47 rfl (lv_at hl 3 rfl) ?_
  refine lv_iload cx.1 cx.2.1 dL_ways_48 (lv_at hl 2 rfl) ?_
  refine lv_iload cx.1 cx.2.1 dL_ways_50 (lv_at hl 1 rfl) ?_
  refine lv_iload cx.1 cx.2.1 dL_ways_52 (lv_at hl 0 rfl) ?_
  refine lv_iconst (v := (0 : Int32)) cx.1 cx.2.1 dL_ways_54 (by decide) ?_
  obtain ⟨v_33, S_34, hv, hf⟩ := gbs_some hf
  refine a_SW (As := [.ref (G.2.1 0), .int x3_29, .int x4_30, .int x5_31, .int x6_32, .int (0 : Int32)]) (rest := []) cx hX hZ hw hS (a_tryWay l hst G x3_29 x4_30 x5_31 x6_32 (0 : Int32) S_28 v_33 S_34 hv) gw_214 gw_187 gyw_L_tryWay ⟨by decide, by decide⟩ ⟨Nat.le_of_ble_eq_true rfl, Nat.le_of_ble_eq_true rfl⟩ (show 0 + 1 + 6 ≤ 407 ∧ 0 + 6 + 36 ≤ 2442 from ⟨by omega, by omega⟩) rfl hl.1 rfl (Nat.le_of_ble_eq_true rfl) dL_ways_55 (fun H locs hw hS => ?_)
  refine W.eq (g2 := F0 m 58 ls [.int v_33]) rfl ?_
  refine lv_istore (lv' := [(7, .int v_33), (6, .int x6_32), (5, .int x5_31), (4, .int x4_30), (3, .int x3_29), (2, .int v_27), (0, .ref (G.2.1 0)), (1, .int a1)]) cx.1 cx.2.1 dL_ways_58 hl (by decide) rfl (fun ls hl => ?_)
  refine lv_aload_n cx.1 cx.2.1 dL_ways_60 rfl (lv_at hl 6 rfl) ?_
  refine lv_iload_n cx.1 cx.2.1 dL_ways_61 rfl (lv_at hl 4 rfl) ?_
  refine lv_iload cx.1 cx.2.1 dL_ways_62 (lv_at hl 3 rfl) ?_
  refine lv_iload cx.1 cx.2.1 dL_ways_64 (lv_at hl 2 rfl) ?_
  refine lv_iload cx.1 cx.2.1 dL_ways_66 (lv_at hl 1 rfl) ?_
  refine lv_iconst (v := (1 : Int32)) cx.1 cx.2.1 dL_ways_68 (by decide) ?_
  obtain ⟨v_35, S_36, hv, hf⟩ := gbs_some hf
  refine a_SW (As := [.ref (G.2.1 0), .int x3_29, .int x4_30, .int x5_31, .int x6_32, .int (1 : Int32)]) (rest := []) cx hX hZ hw hS (a_tryWay l hst G x3_29 x4_30 x5_31 x6_32 (1 : Int32) S_34 v_35 S_36 hv) gw_214 gw_187 gyw_L_tryWay ⟨by decide, by decide⟩ ⟨Nat.le_of_ble_eq_true rfl, Nat.le_of_ble_eq_true rfl⟩ (show 0 + 1 + 6 + 6 ≤ 407 ∧ 0 + 6 + 36 + 36 ≤ 2442 from ⟨by omega, by omega⟩) rfl hl.1 rfl (Nat.le_of_ble_eq_true rfl) dL_ways_69 (fun H locs hw hS => ?_)
  refine W.eq (g2 := F0 m 72 ls [.int v_35]) rfl ?_
  refine lv_istore (lv' := [(8, .int v_35), (7, .int v_33), (6, .int x6_32), (5, .int x5_31), (4, .int x4_30), (3, .int x3_29), (2, .int v_27), (0, .ref (G.2.1 0)), (1, .int a1)]) cx.1 cx.2.1 dL_ways_72 hl (by decide) rfl (fun ls hl => ?_)
  refine lv_aload_n cx.1 cx.2.1 dL_ways_74 rfl (lv_at hl 7 rfl) ?_
  refine lv_iload_n cx.1 cx.2.1 dL_ways_75 rfl (lv_at hl 5 rfl) ?_
  refine lv_iload cx.1 cx.2.1 dL_ways_76 (lv_at hl 4 rfl) ?_
  refine lv_iload cx.1 cx.2.1 dL_ways_78 (lv_at hl 3 rfl) ?_
  refine lv_iload cx.1 cx.2.1 dL_ways_80 (lv_at hl 2 rfl) ?_
  refine lv_iconst (v := (3 : Int32)) cx.1 cx.2.1 dL_ways_82 (by decide) ?_
  obtain ⟨v_37, S_38, hv, hf⟩ := gbs_some hf
  refine a_SW (As := [.ref (G.2.1 0), .int x3_29, .int x4_30, .int x5_31, .int x6_32, .int (3 : Int32)]) (rest := []) cx hX hZ hw hS (a_tryWay l hst G x3_29 x4_30 x5_31 x6_32 (3 : Int32) S_36 v_37 S_38 hv) gw_214 gw_187 gyw_L_tryWay ⟨by decide, by decide⟩ ⟨Nat.le_of_ble_eq_true rfl, Nat.le_of_ble_eq_true rfl⟩ (show 0 + 1 + 6 + 6 + 6 ≤ 407 ∧ 0 + 6 + 36 + 36 + 36 ≤ 2442 from ⟨by omega, by omega⟩) rfl hl.1 rfl (Nat.le_of_ble_eq_true rfl) dL_ways_83 (fun H locs hw hS => ?_)
  refine W.eq (g2 := F0 m 86 ls [.int v_37]) rfl ?_
  refine lv_istore (lv' := [(9, .int v_37), (8, .int v_35), (7, .int v_33), (6, .int x6_32), (5, .int x5_31), (4, .int x4_30), (3, .int x3_29), (2, .int v_27), (0, .ref (G.2.1 0)), (1, .int a1)]) cx.1 cx.2.1 dL_ways_86 hl (by decide) rfl (fun ls hl => ?_)
  refine lv_iload cx.1 cx.2.1 dL_ways_88 (lv_at hl 2 rfl) ?_
  refine lv_aload_n cx.1 cx.2.1 dL_ways_90 rfl (lv_at hl 8 rfl) ?_
  refine lv_iload_n cx.1 cx.2.1 dL_ways_91 rfl (lv_at hl 6 rfl) ?_
  refine lv_iload cx.1 cx.2.1 dL_ways_92 (lv_at hl 4 rfl) ?_
  refine lv_iload cx.1 cx.2.1 dL_ways_94 (lv_at hl 5 rfl) ?_
  refine lv_iload cx.1 cx.2.1 dL_ways_96 (lv_at hl 3 rfl) ?_
  refine lv_iconst (v := (0 : Int32)) cx.1 cx.2.1 dL_ways_98 (by decide) ?_
  obtain ⟨v_39, S_40, hv, hf⟩ := gbs_some hf
  refine a_SW (As := [.ref (G.2.1 0), .int x3_29, .int x5_31, .int x4_30, .int x6_32, .int (0 : Int32)]) (rest := [.int v_33]) cx hX hZ hw hS (a_tryWay l hst G x3_29 x5_31 x4_30 x6_32 (0 : Int32) S_38 v_39 S_40 hv) gw_214 gw_187 gyw_L_tryWay ⟨by decide, by decide⟩ ⟨Nat.le_of_ble_eq_true rfl, Nat.le_of_ble_eq_true rfl⟩ (show 0 + 1 + 6 + 6 + 6 + 6 ≤ 407 ∧ 0 + 6 + 36 + 36 + 36 + 36 ≤ 2442 from ⟨by omega, by omega⟩) rfl hl.1 rfl (Nat.le_of_ble_eq_true rfl) dL_ways_99 (fun H locs hw hS => ?_)
  refine W.eq (g2 := F0 m 102 ls [.int v_39, .int v_33]) rfl ?_
  refine lv_icmp_ne (tgt := 179) cx.1 cx.2.1 dL_ways_102 (by decide) (fun hc => ?_) (fun hc => ?_)
  · rw [if_neg hc] at hf
    refine lv_iconst (v := (0 : Int32)) cx.1 cx.2.1 dL_ways_179 (by decide) ?_
    exact hB_180 S_40 x3_29 x4_30 x5_31 x6_32 v_33 v_37 (0 : Int32) _ _ _ _ _ (by omega) (by omega) hw hS (lv_sub hl [8, 6, 5, 4, 3, 2, 0] rfl) hf
  · rw [if_pos hc] at hf
    refine lv_iload cx.1 cx.2.1 dL_ways_105 (lv_at hl 1 rfl) ?_
    refine lv_aload_n cx.1 cx.2.1 dL_ways_107 rfl (lv_at hl 8 rfl) ?_
    refine lv_iload_n cx.1 cx.2.1 dL_ways_108 rfl (lv_at hl 6 rfl) ?_
    refine lv_iload cx.1 cx.2.1 dL_ways_109 (lv_at hl 4 rfl) ?_
    refine lv_iload cx.1 cx.2.1 dL_ways_111 (lv_at hl 5 rfl) ?_
    refine lv_iload cx.1 cx.2.1 dL_ways_113 (lv_at hl 3 rfl) ?_
    refine lv_iconst (v := (1 : Int32)) cx.1 cx.2.1 dL_ways_115 (by decide) ?_
    obtain ⟨v_41, S_42, hv, hf⟩ := gbs_some hf
    refine a_SW (As := [.ref (G.2.1 0), .int x3_29, .int x5_31, .int x4_30, .int x6_32, .int (1 : Int32)]) (rest := [.int v_35]) cx hX hZ hw hS (a_tryWay l hst G x3_29 x5_31 x4_30 x6_32 (1 : Int32) S_40 v_41 S_42 hv) gw_214 gw_187 gyw_L_tryWay ⟨by decide, by decide⟩ ⟨Nat.le_of_ble_eq_true rfl, Nat.le_of_ble_eq_true rfl⟩ (show 0 + 1 + 6 + 6 + 6 + 6 + 6 ≤ 407 ∧ 0 + 6 + 36 + 36 + 36 + 36 + 36 ≤ 2442 from ⟨by omega, by omega⟩) rfl hl.1 rfl (Nat.le_of_ble_eq_true rfl) dL_ways_116 (fun H locs hw hS => ?_)
    refine W.eq (g2 := F0 m 119 ls [.int v_41, .int v_35]) rfl ?_
    refine lv_icmp_ne (tgt := 179) cx.1 cx.2.1 dL_ways_119 (by decide) (fun hc => ?_) (fun hc => ?_)
    · rw [if_neg hc] at hf
      refine lv_iconst (v := (0 : Int32)) cx.1 cx.2.1 dL_ways_179 (by decide) ?_
      exact hB_180 S_42 x3_29 x4_30 x5_31 x6_32 v_33 v_37 (0 : Int32) _ _ _ _ _ (by omega) (by omega) hw hS (lv_sub hl [8, 6, 5, 4, 3, 2, 0] rfl) hf
    · rw [if_pos hc] at hf
      refine lv_iload cx.1 cx.2.1 dL_ways_122 (lv_at hl 2 rfl) ?_
      refine lv_bipush (v := (-9 : Int32)) cx.1 cx.2.1 dL_ways_124 (by decide) ?_
      refine lv_icmp_eq (tgt := 175) cx.1 cx.2.1 dL_ways_126 (by decide) (fun hc => ?_) (fun hc => ?_)
      · rw [if_pos hc] at hf
        refine lv_iconst (v := (1 : Int32)) cx.1 cx.2.1 dL_ways_175 (by decide) ?_
        refine lv_goto (tgt := 180) cx.1 cx.2.1 dL_ways_176 (by decide) ?_
        exact hB_180 S_42 x3_29 x4_30 x5_31 x6_32 v_33 v_37 (1 : Int32) _ _ _ _ _ (by omega) (by omega) hw hS (lv_sub hl [8, 6, 5, 4, 3, 2, 0] rfl) hf
      · rw [if_neg hc] at hf
        refine lv_iload cx.1 cx.2.1 dL_ways_129 (lv_at hl 1 rfl) ?_
        refine lv_iload cx.1 cx.2.1 dL_ways_131 (lv_at hl 3 rfl) ?_
        refine lv_icmp_gt (tgt := 179) cx.1 cx.2.1 dL_ways_133 (by decide) (fun hc => ?_) (fun hc => ?_)
        · rw [if_pos hc] at hf
          refine lv_iconst (v := (0 : Int32)) cx.1 cx.2.1 dL_ways_179 (by decide) ?_
          exact hB_180 S_42 x3_29 x4_30 x5_31 x6_32 v_33 v_37 (0 : Int32) _ _ _ _ _ (by omega) (by omega) hw hS (lv_sub hl [8, 6, 5, 4, 3, 2, 0] rfl) hf
        · rw [if_neg hc] at hf
          refine lv_iload cx.1 cx.2.1 dL_ways_136 (lv_at hl 2 rfl) ?_
          refine lv_if_lt (tgt := 179) cx.1 cx.2.1 dL_ways_138 (by decide) (fun hc => ?_) (fun hc => ?_)
          · rw [if_pos hc] at hf
            refine lv_iconst (v := (0 : Int32)) cx.1 cx.2.1 dL_ways_179 (by decide) ?_
            exact hB_180 S_42 x3_29 x4_30 x5_31 x6_32 v_33 v_37 (0 : Int32) _ _ _ _ _ (by omega) (by omega) hw hS (lv_sub hl [8, 6, 5, 4, 3, 2, 0] rfl) hf
          · rw [if_neg hc] at hf
            refine lv_aload_n cx.1 cx.2.1 dL_ways_141 rfl (lv_at hl 8 rfl) ?_
            refine lv_iload_n cx.1 cx.2.1 dL_ways_142 rfl (lv_at hl 6 rfl) ?_
            refine lv_iload cx.1 cx.2.1 dL_ways_143 (lv_at hl 5 rfl) ?_
            refine lv_iload cx.1 cx.2.1 dL_ways_145 (lv_at hl 4 rfl) ?_
            refine lv_iload cx.1 cx.2.1 dL_ways_147 (lv_at hl 3 rfl) ?_
            refine lv_iconst (v := (2 : Int32)) cx.1 cx.2.1 dL_ways_149 (by decide) ?_
            obtain ⟨v_43, S_44, hv, hf⟩ := gbs_some hf
            refine a_SW (As := [.ref (G.2.1 0), .int x3_29, .int x4_30, .int x5_31, .int x6_32, .int (2 : Int32)]) (rest := []) cx hX hZ hw hS (a_tryWay l hst G x3_29 x4_30 x5_31 x6_32 (2 : Int32) S_42 v_43 S_44 hv) gw_214 gw_187 gyw_L_tryWay ⟨by decide, by decide⟩ ⟨Nat.le_of_ble_eq_true rfl, Nat.le_of_ble_eq_true rfl⟩ (show 0 + 1 + 6 + 6 + 6 + 6 + 6 + 6 ≤ 407 ∧ 0 + 6 + 36 + 36 + 36 + 36 + 36 + 36 ≤ 2442 from ⟨by omega, by omega⟩) rfl hl.1 rfl (Nat.le_of_ble_eq_true rfl) dL_ways_150 (fun H locs hw hS => ?_)
            refine W.eq (g2 := F0 m 153 ls [.int v_43]) rfl ?_
            refine lv_iload cx.1 cx.2.1 dL_ways_153 (lv_at hl 1 rfl) ?_
            refine lv_icmp_gt (tgt := 179) cx.1 cx.2.1 dL_ways_155 (by decide) (fun hc => ?_) (fun hc => ?_)
            · rw [if_pos hc] at hf
              refine lv_iconst (v := (0 : Int32)) cx.1 cx.2.1 dL_ways_179 (by decide) ?_
              exact hB_180 S_44 x3_29 x4_30 x5_31 x6_32 v_33 v_37 (0 : Int32) _ _ _ _ _ (by omega) (by omega) hw hS (lv_sub hl [8, 6, 5, 4, 3, 2, 0] rfl) hf
            · rw [if_neg hc] at hf
              refine lv_aload_n cx.1 cx.2.1 dL_ways_158 rfl (lv_at hl 8 rfl) ?_
              refine lv_iload_n cx.1 cx.2.1 dL_ways_159 rfl (lv_at hl 6 rfl) ?_
              refine lv_iload cx.1 cx.2.1 dL_ways_160 (lv_at hl 5 rfl) ?_
              refine lv_iload cx.1 cx.2.1 dL_ways_162 (lv_at hl 4 rfl) ?_
              refine lv_iload cx.1 cx.2.1 dL_ways_164 (lv_at hl 1 rfl) ?_
              refine lv_iconst (v := (0 : Int32)) cx.1 cx.2.1 dL_ways_166 (by decide) ?_
              obtain ⟨v_45, S_46, hv, hf⟩ := gbs_some hf
              refine a_SW (As := [.ref (G.2.1 0), .int x3_29, .int x4_30, .int x5_31, .int v_35, .int (0 : Int32)]) (rest := []) cx hX hZ hw hS (a_tryWay l hst G x3_29 x4_30 x5_31 v_35 (0 : Int32) S_44 v_45 S_46 hv) gw_214 gw_187 gyw_L_tryWay ⟨by decide, by decide⟩ ⟨Nat.le_of_ble_eq_true rfl, Nat.le_of_ble_eq_true rfl⟩ (show 0 + 1 + 6 + 6 + 6 + 6 + 6 + 6 + 6 ≤ 407 ∧ 0 + 6 + 36 + 36 + 36 + 36 + 36 + 36 + 36 ≤ 2442 from ⟨by omega, by omega⟩) rfl hl.1 rfl (Nat.le_of_ble_eq_true rfl) dL_ways_167 (fun H locs hw hS => ?_)
              refine W.eq (g2 := F0 m 170 ls [.int v_45]) rfl ?_
              refine lv_iload cx.1 cx.2.1 dL_ways_170 (lv_at hl 2 rfl) ?_
              refine lv_icmp_ne (tgt := 179) cx.1 cx.2.1 dL_ways_172 (by decide) (fun hc => ?_) (fun hc => ?_)
              · rw [if_neg hc] at hf
                refine lv_iconst (v := (0 : Int32)) cx.1 cx.2.1 dL_ways_179 (by decide) ?_
                exact hB_180 S_46 x3_29 x4_30 x5_31 x6_32 v_33 v_37 (0 : Int32) _ _ _ _ _ (by omega) (by omega) hw hS (lv_sub hl [8, 6, 5, 4, 3, 2, 0] rfl) hf
              · rw [if_pos hc] at hf
                refine lv_iconst (v := (1 : Int32)) cx.1 cx.2.1 dL_ways_175 (by decide) ?_
                refine lv_goto (tgt := 180) cx.1 cx.2.1 dL_ways_176 (by decide) ?_
                exact hB_180 S_46 x3_29 x4_30 x5_31 x6_32 v_33 v_37 (1 : Int32) _ _ _ _ _ (by omega) (by omega) hw hS (lv_sub hl [8, 6, 5, 4, 3, 2, 0] rfl) hf
