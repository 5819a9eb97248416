set_option maxHeartbeats 8000000 in
set_option maxRecDepth 100000 in
theorem a_told (l : Launch) (hst : l.stackTraces = false) (G K : gG) (b L : Nat) (xs : Nat → Int32) (hL : L ≤ 260) (a3 : Int32) (S : At2) (r : Int32) (S' : At2) (hf : h_told xs L a3 S = some (r, S')) : gC l yL_told [Cond.code yL_told cL_told 15 (some .boolean)] (gRx 10 209 351 2106) G (gN2 G K) (E2X G K b L xs) (gPB G K S) [.ref (G.2.1 0), .ref (K.2.1 0), .ref b, .int a3] (some (.int r)) (gPB G K S') 351 2106 := by
  refine gC_of (by decide) (Nat.le_of_ble_eq_true rfl) ?_
  intro p e s m below meth c ls cx hE hX hZ hr hlk hw hS hl
  have hN := cx.2.2.2.2.hN
  have hB_466 : ∀ (S : At2) (x5 : Int32) (x6 : Int32) (x7 : Int32) (x8 : Int32) (x9 : Int32) (H : Heap) (locs : List Loc) (ls : Array Slot) (cells slots : Nat), cells + (15) ≤ 351 → slots + (90) ≤ 2106 → gPB G K S H → va_S (gAr (gN2 G K) s.heap.size) s.heap H locs → lv_has ls 15 [(0, .ref (G.2.1 0)), (1, .ref (K.2.1 0)), (5, .int x5), (6, .int x6), (7, .int x7), (8, .int x8), (9, .int x9)] → B_told_466 xs L S x5 x6 x7 x8 x9 = some (r, S') → W p l e (gRx 10 209 351 2106) s m ([.ref (G.2.1 0), .ref (K.2.1 0), .ref b, .int a3] : List Value).toArray below meth c H locs cells slots (MQ below (gQr (gPB G K S') (some (.int r)) (gAr (gN2 G K) s.heap.size)) ([.ref (G.2.1 0), .ref (K.2.1 0), .ref b, .int a3] : List Value).toArray s 351 2106 (gAr (gN2 G K) s.heap.size)) (F0 m 466 ls []) := by
    intro S x5 x6 x7 x8 x9 H locs ls cells slots hcl hsl hw hS hl hf
    unfold B_told_466 at hf
    refine lv_iload cx.1 cx.2.1 dL_told_466 (lv_at hl 5 rfl) ?_
    refine lv_if_eq (tgt := 582) cx.1 cx.2.1 dL_told_468 (by decide) (fun hc => ?_) (fun hc => ?_)
    · rw [if_pos hc] at hf
      refine lv_iconst (v := (0 : Int32)) cx.1 cx.2.1 dL_told_582 (by decide) ?_
      exact al_zreti (P := (gPB G K)) cx hr hlk hw hS (by decide) hf dL_told_583 (by omega) (by omega)
    · rw [if_neg hc] at hf
      refine lv_aload_n cx.1 cx.2.1 dL_told_471 rfl (lv_at hl 0 rfl) ?_
      obtain ⟨v_1, S_2, hv, hf⟩ := gbs_some hf
      refine b1_SW (As := [.ref (G.2.1 0)]) (rest := []) cx hE.1 hX hZ hw hS hv (fun t ht => a_tryLoad l hst G S.1 v_1 t ht) gw_852 gw_187 gyw_L_tryLoad ⟨by decide, by decide⟩ ⟨Nat.le_of_ble_eq_true rfl, Nat.le_of_ble_eq_true rfl⟩ (show cells + 1 ≤ 351 ∧ slots + 6 ≤ 2106 from ⟨by omega, by omega⟩) rfl hl.1 rfl (Nat.le_of_ble_eq_true rfl) dL_told_472 (fun H locs hw hS => ?_)
      refine W.eq (g2 := F0 m 475 ls [.int v_1]) rfl ?_
      refine lv_iload cx.1 cx.2.1 dL_told_475 (lv_at hl 3 rfl) ?_
      refine lv_icmp_ne (tgt := 582) cx.1 cx.2.1 dL_told_477 (by decide) (fun hc => ?_) (fun hc => ?_)
      · rw [if_neg hc] at hf
        refine lv_iconst (v := (0 : Int32)) cx.1 cx.2.1 dL_told_582 (by decide) ?_
        exact al_zreti (P := (gPB G K)) cx hr hlk hw hS (by decide) hf dL_told_583 (by omega) (by omega)
      · rw [if_pos hc] at hf
        refine lv_aload_n cx.1 cx.2.1 dL_told_480 rfl (lv_at hl 1 rfl) ?_
        obtain ⟨v_3, S_4, hv, hf⟩ := gbs_some hf
        refine b2_SW (As := [.ref (K.2.1 0)]) (rest := []) cx hE.1 hX hZ hw hS hv (fun t ht => a_tryLoad l hst K S_2.2 v_3 t ht) gw_852 gw_187 gyw_L_tryLoad ⟨by decide, by decide⟩ ⟨Nat.le_of_ble_eq_true rfl, Nat.le_of_ble_eq_true rfl⟩ (show cells + 1 + 1 ≤ 351 ∧ slots + 6 + 6 ≤ 2106 from ⟨by omega, by omega⟩) rfl hl.1 rfl (Nat.le_of_ble_eq_true rfl) dL_told_481 (fun H locs hw hS => ?_)
        refine W.eq (g2 := F0 m 484 ls [.int v_3]) rfl ?_
        refine lv_iload cx.1 cx.2.1 dL_told_484 (lv_at hl 3 rfl) ?_
        refine lv_icmp_ne (tgt := 582) cx.1 cx.2.1 dL_told_486 (by decide) (fun hc => ?_) (fun hc => ?_)
        · rw [if_neg hc] at hf
          refine lv_iconst (v := (0 : Int32)) cx.1 cx.2.1 dL_told_582 (by decide) ?_
          exact al_zreti (P := (gPB G K)) cx hr hlk hw hS (by decide) hf dL_told_583 (by omega) (by omega)
        · rw [if_pos hc] at hf
          refine lv_aload_n cx.1 cx.2.1 dL_told_489 rfl (lv_at hl 0 rfl) ?_
          refine lv_iconst (v := (0 : Int32)) cx.1 cx.2.1 dL_told_490 (by decide) ?_
          obtain ⟨v_5, S_6, hv, hf⟩ := gbs_some hf
          refine b1_SW (As := [.ref (G.2.1 0), .int (0 : Int32)]) (rest := []) cx hE.1 hX hZ hw hS hv (fun t ht => a_tryAbout l hst G (0 : Int32) S_4.1 v_5 t ht) gw_185 gw_187 gyw_L_tryAbout ⟨by decide, by decide⟩ ⟨Nat.le_of_ble_eq_true rfl, Nat.le_of_ble_eq_true rfl⟩ (show cells + 1 + 1 + 1 ≤ 351 ∧ slots + 6 + 6 + 6 ≤ 2106 from ⟨by omega, by omega⟩) rfl hl.1 rfl (Nat.le_of_ble_eq_true rfl) dL_told_491 (fun H locs hw hS => ?_)
          refine W.eq (g2 := F0 m 494 ls [.int v_5]) rfl ?_
          refine lv_iload cx.1 cx.2.1 dL_told_494 (lv_at hl 2 rfl) ?_
          refine lv_icmp_ne (tgt := 582) cx.1 cx.2.1 dL_told_496 (by decide) (fun hc => ?_) (fun hc => ?_)
          · rw [if_neg hc] at hf
            refine lv_iconst (v := (0 : Int32)) cx.1 cx.2.1 dL_told_582 (by decide) ?_
            exact al_zreti (P := (gPB G K)) cx hr hlk hw hS (by decide) hf dL_told_583 (by omega) (by omega)
          · rw [if_pos hc] at hf
            refine lv_aload_n cx.1 cx.2.1 dL_told_499 rfl (lv_at hl 0 rfl) ?_
            refine lv_iconst (v := (2 : Int32)) cx.1 cx.2.1 dL_told_500 (by decide) ?_
            obtain ⟨v_7, S_8, hv, hf⟩ := gbs_some hf
            refine b1_SW (As := [.ref (G.2.1 0), .int (2 : Int32)]) (rest := []) cx hE.1 hX hZ hw hS hv (fun t ht => a_tryAbout l hst G (2 : Int32) S_6.1 v_7 t ht) gw_185 gw_187 gyw_L_tryAbout ⟨by decide, by decide⟩ ⟨Nat.le_of_ble_eq_true rfl, Nat.le_of_ble_eq_true rfl⟩ (show cells + 1 + 1 + 1 + 1 ≤ 351 ∧ slots + 6 + 6 + 6 + 6 ≤ 2106 from ⟨by omega, by omega⟩) rfl hl.1 rfl (Nat.le_of_ble_eq_true rfl) dL_told_501 (fun H locs hw hS => ?_)
            refine W.eq (g2 := F0 m 504 ls [.int v_7]) rfl ?_
            refine lv_iload cx.1 cx.2.1 dL_told_504 (lv_at hl 4 rfl) ?_
            refine lv_icmp_ne (tgt := 582) cx.1 cx.2.1 dL_told_506 (by decide) (fun hc => ?_) (fun hc => ?_)
            · rw [if_neg hc] at hf
              refine lv_iconst (v := (0 : Int32)) cx.1 cx.2.1 dL_told_582 (by decide) ?_
              exact al_zreti (P := (gPB G K)) cx hr hlk hw hS (by decide) hf dL_told_583 (by omega) (by omega)
            · rw [if_pos hc] at hf
              refine lv_aload_n cx.1 cx.2.1 dL_told_509 rfl (lv_at hl 0 rfl) ?_
              refine lv_iconst (v := (5 : Int32)) cx.1 cx.2.1 dL_told_510 (by decide) ?_
              obtain ⟨v_9, S_10, hv, hf⟩ := gbs_some hf
              refine b1_SW (As := [.ref (G.2.1 0), .int (5 : Int32)]) (rest := []) cx hE.1 hX hZ hw hS hv (fun t ht => a_tryAbout l hst G (5 : Int32) S_8.1 v_9 t ht) gw_185 gw_187 gyw_L_tryAbout ⟨by decide, by decide⟩ ⟨Nat.le_of_ble_eq_true rfl, Nat.le_of_ble_eq_true rfl⟩ (show cells + 1 + 1 + 1 + 1 + 1 ≤ 351 ∧ slots + 6 + 6 + 6 + 6 + 6 ≤ 2106 from ⟨by omega, by omega⟩) rfl hl.1 rfl (Nat.le_of_ble_eq_true rfl) dL_told_511 (fun H locs hw hS => ?_)
              refine W.eq (g2 := F0 m 514 ls [.int v_9]) rfl ?_
              refine lv_sipush (v := (-400 : Int32)) cx.1 cx.2.1 dL_told_514 (by decide) ?_
              refine lv_icmp_ne (tgt := 582) cx.1 cx.2.1 dL_told_517 (by decide) (fun hc => ?_) (fun hc => ?_)
              · rw [if_neg hc] at hf
                refine lv_iconst (v := (0 : Int32)) cx.1 cx.2.1 dL_told_582 (by decide) ?_
                exact al_zreti (P := (gPB G K)) cx hr hlk hw hS (by decide) hf dL_told_583 (by omega) (by omega)
              · rw [if_pos hc] at hf
                refine lv_aload_n cx.1 cx.2.1 dL_told_520 rfl (lv_at hl 0 rfl) ?_
                refine lv_iconst (v := (3 : Int32)) cx.1 cx.2.1 dL_told_521 (by decide) ?_
                refine lv_iconst (v := (0 : Int32)) cx.1 cx.2.1 dL_told_522 (by decide) ?_
                obtain ⟨v_11, S_12, hv, hf⟩ := gbs_some hf
                refine b1_SW (As := [.ref (G.2.1 0), .int (3 : Int32), .int (0 : Int32)]) (rest := []) cx hE.1 hX hZ hw hS hv (fun t ht => a_tryCompany l hst G (3 : Int32) (0 : Int32) S_10.1 v_11 t ht) gw_349 gw_187 gyw_L_tryCompany ⟨by decide, by decide⟩ ⟨Nat.le_of_ble_eq_true rfl, Nat.le_of_ble_eq_true rfl⟩ (show cells + 1 + 1 + 1 + 1 + 1 + 2 ≤ 351 ∧ slots + 6 + 6 + 6 + 6 + 6 + 12 ≤ 2106 from ⟨by omega, by omega⟩) rfl hl.1 rfl (Nat.le_of_ble_eq_true rfl) dL_told_523 (fun H locs hw hS => ?_)
                refine W.eq (g2 := F0 m 526 ls [.int v_11]) rfl ?_
                refine lv_bipush (v := (100 : Int32)) cx.1 cx.2.1 dL_told_526 (by decide) ?_
                refine lv_icmp_ne (tgt := 582) cx.1 cx.2.1 dL_told_528 (by decide) (fun hc => ?_) (fun hc => ?_)
                · rw [if_neg hc] at hf
                  refine lv_iconst (v := (0 : Int32)) cx.1 cx.2.1 dL_told_582 (by decide) ?_
                  exact al_zreti (P := (gPB G K)) cx hr hlk hw hS (by decide) hf dL_told_583 (by omega) (by omega)
                · rw [if_pos hc] at hf
                  refine lv_aload_n cx.1 cx.2.1 dL_told_531 rfl (lv_at hl 0 rfl) ?_
                  obtain ⟨v_13, S_14, hv, hf⟩ := gbs_some hf
                  refine b1_SW (As := [.ref (G.2.1 0)]) (rest := []) cx hE.1 hX hZ hw hS hv (fun t ht => a_tryUndo l hst G S_12.1 v_13 t ht) gw_294 gw_187 gyw_L_tryUndo ⟨by decide, by decide⟩ ⟨Nat.le_of_ble_eq_true rfl, Nat.le_of_ble_eq_true rfl⟩ (show cells + 1 + 1 + 1 + 1 + 1 + 2 + 1 ≤ 351 ∧ slots + 6 + 6 + 6 + 6 + 6 + 12 + 6 ≤ 2106 from ⟨by omega, by omega⟩) rfl hl.1 rfl (Nat.le_of_ble_eq_true rfl) dL_told_532 (fun H locs hw hS => ?_)
                  refine W.eq (g2 := F0 m 535 ls [.int v_13]) rfl ?_
                  refine lv_ldc cx.1 cx.2.1 cx.2.2.2.1 (cx.2.2.2.2.ts _ gw_3) dL_told_535 ?_
                  refine lv_icmp_ne (tgt := 582) cx.1 cx.2.1 dL_told_537 (by decide) (fun hc => ?_) (fun hc => ?_)
                  · rw [if_neg hc] at hf
                    refine lv_iconst (v := (0 : Int32)) cx.1 cx.2.1 dL_told_582 (by decide) ?_
                    exact al_zreti (P := (gPB G K)) cx hr hlk hw hS (by decide) hf dL_told_583 (by omega) (by omega)
                  · rw [if_pos hc] at hf
                    refine lv_aload_n cx.1 cx.2.1 dL_told_540 rfl (lv_at hl 1 rfl) ?_
                    refine lv_iconst (v := (1 : Int32)) cx.1 cx.2.1 dL_told_541 (by decide) ?_
                    obtain ⟨v_15, S_16, hv, hf⟩ := gbs_some hf
                    refine b2_SW (As := [.ref (K.2.1 0), .int (1 : Int32)]) (rest := []) cx hE.1 hX hZ hw hS hv (fun t ht => a_tryRestore l hst K (1 : Int32) S_14.2 v_15 t ht) gw_792 gw_187 gyw_L_tryRestore ⟨by decide, by decide⟩ ⟨Nat.le_of_ble_eq_true rfl, Nat.le_of_ble_eq_true rfl⟩ (show cells + 1 + 1 + 1 + 1 + 1 + 2 + 1 + 2 ≤ 351 ∧ slots + 6 + 6 + 6 + 6 + 6 + 12 + 6 + 12 ≤ 2106 from ⟨by omega, by omega⟩) rfl hl.1 rfl (Nat.le_of_ble_eq_true rfl) dL_told_542 (fun H locs hw hS => ?_)
                    refine W.eq (g2 := F0 m 545 ls [.int v_15]) rfl ?_
                    refine lv_ldc cx.1 cx.2.1 cx.2.2.2.1 (cx.2.2.2.2.ts _ gw_3) dL_told_545 ?_
                    refine lv_icmp_ne (tgt := 582) cx.1 cx.2.1 dL_told_547 (by decide) (fun hc => ?_) (fun hc => ?_)
                    · rw [if_neg hc] at hf
                      refine lv_iconst (v := (0 : Int32)) cx.1 cx.2.1 dL_told_582 (by decide) ?_
                      exact al_zreti (P := (gPB G K)) cx hr hlk hw hS (by decide) hf dL_told_583 (by omega) (by omega)
                    · rw [if_pos hc] at hf
                      refine lv_aload_n cx.1 cx.2.1 dL_told_550 rfl (lv_at hl 0 rfl) ?_
                      refine lv_aload_n cx.1 cx.2.1 dL_told_551 rfl (lv_at hl 1 rfl) ?_
                      refine lv_bipush (v := (82 : Int32)) cx.1 cx.2.1 dL_told_552 (by decide) ?_
                      obtain ⟨v_17, S_18, hv, hf⟩ := gbs_some hf
                      refine b_S (As := [.ref (G.2.1 0), .ref (K.2.1 0), .int (82 : Int32)]) (rest := []) cx hE.1 hX hZ hw hS (a_put l hst G K (82 : Int32) S_16 v_17 S_18 hv) gw_849 gyl_L_put gil_L_put ⟨Nat.le_of_ble_eq_true rfl, Nat.le_of_ble_eq_true rfl⟩ (show cells + 1 + 1 + 1 + 1 + 1 + 2 + 1 + 2 + 4 ≤ 351 ∧ slots + 6 + 6 + 6 + 6 + 6 + 12 + 6 + 12 + 24 ≤ 2106 from ⟨by omega, by omega⟩) rfl hl.1 rfl (Nat.le_of_ble_eq_true rfl) dL_told_554 (fun H locs hw hS => ?_)
                      refine W.eq (g2 := F0 m 557 ls [.int v_17]) rfl ?_
                      refine lv_if_eq (tgt := 582) cx.1 cx.2.1 dL_told_557 (by decide) (fun hc => ?_) (fun hc => ?_)
                      · rw [if_pos hc] at hf
                        refine lv_iconst (v := (0 : Int32)) cx.1 cx.2.1 dL_told_582 (by decide) ?_
                        exact al_zreti (P := (gPB G K)) cx hr hlk hw hS (by decide) hf dL_told_583 (by omega) (by omega)
                      · rw [if_neg hc] at hf
                        refine lv_aload_n cx.1 cx.2.1 dL_told_560 rfl (lv_at hl 0 rfl) ?_
                        obtain ⟨v_19, S_20, hv, hf⟩ := gbs_some hf
                        refine b1_V (As := []) (rest := []) cx hE.1 hX hZ hw hS hv (fun t ht => a_X10_errorPosition l hst G S_18.1 v_19 t ht) rfl gw_134 gy_X10_errorPosition gi_X10_errorPosition ⟨Nat.le_of_ble_eq_true rfl, Nat.le_of_ble_eq_true rfl⟩ (show cells + 1 + 1 + 1 + 1 + 1 + 2 + 1 + 2 + 4 + 0 ≤ 351 ∧ slots + 6 + 6 + 6 + 6 + 6 + 12 + 6 + 12 + 24 + 0 ≤ 2106 from ⟨by omega, by omega⟩) rfl hl.1 rfl (Nat.le_of_ble_eq_true rfl) dL_told_561 (fun H locs hw hS => ?_)
                        refine W.eq (g2 := F0 m 564 ls [.int v_19]) rfl ?_
                        refine lv_iload cx.1 cx.2.1 dL_told_564 (lv_at hl 6 rfl) ?_
                        refine lv_icmp_ne (tgt := 582) cx.1 cx.2.1 dL_told_566 (by decide) (fun hc => ?_) (fun hc => ?_)
                        · rw [if_neg hc] at hf
                          refine lv_iconst (v := (0 : Int32)) cx.1 cx.2.1 dL_told_582 (by decide) ?_
                          exact al_zreti (P := (gPB G K)) cx hr hlk hw hS (by decide) hf dL_told_583 (by omega) (by omega)
                        · rw [if_pos hc] at hf
                          refine lv_aload_n cx.1 cx.2.1 dL_told_569 rfl (lv_at hl 0 rfl) ?_
                          obtain ⟨v_21, S_22, hv, hf⟩ := gbs_some hf
                          refine b1_SW (As := [.ref (G.2.1 0)]) (rest := []) cx hE.1 hX hZ hw hS hv (fun t ht => a_tryLoad l hst G S_20.1 v_21 t ht) gw_852 gw_187 gyw_L_tryLoad ⟨by decide, by decide⟩ ⟨Nat.le_of_ble_eq_true rfl, Nat.le_of_ble_eq_true rfl⟩ (show cells + 1 + 1 + 1 + 1 + 1 + 2 + 1 + 2 + 4 + 0 + 1 ≤ 351 ∧ slots + 6 + 6 + 6 + 6 + 6 + 12 + 6 + 12 + 24 + 0 + 6 ≤ 2106 from ⟨by omega, by omega⟩) rfl hl.1 rfl (Nat.le_of_ble_eq_true rfl) dL_told_570 (fun H locs hw hS => ?_)
                          refine W.eq (g2 := F0 m 573 ls [.int v_21]) rfl ?_
                          refine lv_ldc cx.1 cx.2.1 cx.2.2.2.1 (cx.2.2.2.2.ts _ gw_3) dL_told_573 ?_
                          refine lv_icmp_ne (tgt := 582) cx.1 cx.2.1 dL_told_575 (by decide) (fun hc => ?_) (fun hc => ?_)
                          · rw [if_neg hc] at hf
                            refine lv_iconst (v := (0 : Int32)) cx.1 cx.2.1 dL_told_582 (by decide) ?_
                            exact al_zreti (P := (gPB G K)) cx hr hlk hw hS (by decide) hf dL_told_583 (by omega) (by omega)
                          · rw [if_pos hc] at hf
                            refine lv_iconst (v := (1 : Int32)) cx.1 cx.2.1 dL_told_578 (by decide) ?_
                            refine lv_goto (tgt := 583) cx.1 cx.2.1 dL_told_579 (by decide) ?_
                            exact al_zreti (P := (gPB G K)) cx hr hlk hw hS (by decide) hf dL_told_583 (by omega) (by omega)
  have hB_455 : ∀ (K262 : At2 → Int32 → Int32 → Int32 → Int32 → Int32 → Int32 → Int32 → Option (Int32 × At2)) (n_262 : Nat) (hK262 : ∀ (S : At2) (x3 : Int32) (x5 : Int32) (x6 : Int32) (x7 : Int32) (x8 : Int32) (x9 : Int32) (x10 : Int32) (H : Heap) (locs : List Loc) (ls : Array Slot) (cells slots : Nat), cells + (15 + 24 * n_262) ≤ 351 → slots + (90 + 144 * n_262) ≤ 2106 → gPB G K S H → va_S (gAr (gN2 G K) s.heap.size) s.heap H locs → lv_has ls 15 [(0, .ref (G.2.1 0)), (1, .ref (K.2.1 0)), (2, .ref b), (3, .int x3), (5, .int x5), (6, .int x6), (7, .int x7), (8, .int x8), (9, .int x9), (10, .int x10)] → K262 S x3 x5 x6 x7 x8 x9 x10 = some (r, S') → W p l e (gRx 10 209 351 2106) s m ([.ref (G.2.1 0), .ref (K.2.1 0), .ref b, .int a3] : List Value).toArray below meth c H locs cells slots (MQ below (gQr (gPB G K S') (some (.int r)) (gAr (gN2 G K) s.heap.size)) ([.ref (G.2.1 0), .ref (K.2.1 0), .ref b, .int a3] : List Value).toArray s 351 2106 (gAr (gN2 G K) s.heap.size)) (F0 m 262 ls [])), ∀ (S : At2) (x3 : Int32) (x5 : Int32) (x6 : Int32) (x7 : Int32) (x9 : Int32) (x10 : Int32) (t0 : Int32) (H : Heap) (locs : List Loc) (ls : Array Slot) (cells slots : Nat), cells + (15 + 24 * n_262) ≤ 351 → slots + (90 + 144 * n_262) ≤ 2106 → gPB G K S H → va_S (gAr (gN2 G K) s.heap.size) s.heap H locs → lv_has ls 15 [(0, .ref (G.2.1 0)), (1, .ref (K.2.1 0)), (2, .ref b), (3, .int x3), (5, .int x5), (6, .int x6), (7, .int x7), (9, .int x9), (10, .int x10)] → B_told_455 xs L K262 S x3 x5 x6 x7 x9 x10 t0 = some (r, S') → W p l e (gRx 10 209 351 2106) s m ([.ref (G.2.1 0), .ref (K.2.1 0), .ref b, .int a3] : List Value).toArray below meth c H locs cells slots (MQ below (gQr (gPB G K S') (some (.int r)) (gAr (gN2 G K) s.heap.size)) ([.ref (G.2.1 0), .ref (K.2.1 0), .ref b, .int a3] : List Value).toArray s 351 2106 (gAr (gN2 G K) s.heap.size)) (F0 m 455 ls [.int t0]) := by
    intro K262 n_262 hK262 S x3 x5 x6 x7 x9 x10 t0 H locs ls cells slots hcl hsl hw hS hl hf
    unfold B_told_455 at hf
    refine lv_istore (lv' := [(8, .int t0), (0, .ref (G.2.1 0)), (1, .ref (K.2.1 0)), (2, .ref b), (3, .int x3), (5, .int x5), (6, .int x6), (7, .int x7), (9, .int x9), (10, .int x10)]) cx.1 cx.2.1 dL_told_455 hl (by decide) rfl (fun ls hl => ?_)
    obtain ⟨x9_23, ex9_23, hf⟩ := gvi_ex hf
    refine lv_iinc (v := x9_23) (lv' := [(9, .int x9_23), (8, .int t0), (0, .ref (G.2.1 0)), (1, .ref (K.2.1 0)), (2, .ref b), (3, .int x3), (5, .int x5), (6, .int x6), (7, .int x7), (10, .int x10)]) cx.1 cx.2.1 dL_told_457 hl (k := 8) rfl (by rw [← ex9_23]; rfl) (by decide) rfl (fun ls hl => ?_)
    obtain ⟨x10_24, ex10_24, hf⟩ := gvi_ex hf
    refine lv_iinc (v := x10_24) (lv' := [(10, .int x10_24), (9, .int x9_23), (8, .int t0), (0, .ref (G.2.1 0)), (1, .ref (K.2.1 0)), (2, .ref b), (3, .int x3), (5, .int x5), (6, .int x6), (7, .int x7)]) cx.1 cx.2.1 dL_told_460 hl (k := 9) rfl (by rw [← ex10_24]; rfl) (by decide) rfl (fun ls hl => ?_)
    refine lv_goto (tgt := 262) cx.1 cx.2.1 dL_told_463 (by decide) ?_
    exact hK262 S x3 x5 x6 x7 t0 x9_23 x10_24 _ _ _ _ _ (by omega) (by omega) hw hS (lv_sub hl [3, 4, 5, 6, 7, 8, 9, 2, 1, 0] rfl) hf
  have hL_262 : ∀ (n : Nat), ∀ (S : At2) (x3 : Int32) (x5 : Int32) (x6 : Int32) (x7 : Int32) (x8 : Int32) (x9 : Int32) (x10 : Int32) (H : Heap) (locs : List Loc) (ls : Array Slot) (cells slots : Nat), cells + (15 + 24 * n) ≤ 351 → slots + (90 + 144 * n) ≤ 2106 → gPB G K S H → va_S (gAr (gN2 G K) s.heap.size) s.heap H locs → lv_has ls 15 [(0, .ref (G.2.1 0)), (1, .ref (K.2.1 0)), (2, .ref b), (3, .int x3), (5, .int x5), (6, .int x6), (7, .int x7), (8, .int x8), (9, .int x9), (10, .int x10)] → L_told_262 xs L n S x3 x5 x6 x7 x8 x9 x10 = some (r, S') → W p l e (gRx 10 209 351 2106) s m ([.ref (G.2.1 0), .ref (K.2.1 0), .ref b, .int a3] : List Value).toArray below meth c H locs cells slots (MQ below (gQr (gPB G K S') (some (.int r)) (gAr (gN2 G K) s.heap.size)) ([.ref (G.2.1 0), .ref (K.2.1 0), .ref b, .int a3] : List Value).toArray s 351 2106 (gAr (gN2 G K) s.heap.size)) (F0 m 262 ls []) := by
    intro n_262
    induction n_262 with
    | zero => intro S x3 x5 x6 x7 x8 x9 x10 H locs ls cells slots hcl hsl hw hS hl hf; cases hf
    | succ n_262 hK262 =>
      intro S x3 x5 x6 x7 x8 x9 x10 H locs ls cells slots hcl hsl hw hS hl hf
      have hf : Lb_told_262 xs L (L_told_262 xs L n_262) S x3 x5 x6 x7 x8 x9 x10 = some (r, S') := hf
      unfold Lb_told_262 at hf
      refine lv_iload cx.1 cx.2.1 dL_told_262 (lv_at hl 9 rfl) ?_
      refine lv_iload cx.1 cx.2.1 dL_told_264 (lv_at hl 6 rfl) ?_
      refine lv_icmp_ge (tgt := 466) cx.1 cx.2.1 dL_told_266 (by decide) (fun hc => ?_) (fun hc => ?_)
      · rw [if_pos hc] at hf
        exact hB_466 S x5 x6 x7 x8 x9 _ _ _ _ _ (by omega) (by omega) hw hS (lv_sub hl [0, 1, 4, 5, 6, 7, 8] rfl) hf
      · rw [if_neg hc] at hf
        refine lv_iload cx.1 cx.2.1 dL_told_269 (lv_at hl 7 rfl) ?_
        refine lv_if_eq (tgt := 466) cx.1 cx.2.1 dL_told_271 (by decide) (fun hc => ?_) (fun hc => ?_)
        · rw [if_pos hc] at hf
          exact hB_466 S x5 x6 x7 x8 x9 _ _ _ _ _ (by omega) (by omega) hw hS (lv_sub hl [0, 1, 4, 5, 6, 7, 8] rfl) hf
        · rw [if_neg hc] at hf
          refine lv_aload_n cx.1 cx.2.1 dL_told_274 rfl (lv_at hl 2 rfl) ?_
          refine lv_iload_n cx.1 cx.2.1 dL_told_275 rfl (lv_at hl 3 rfl) ?_
          refine lv_iconst (v := (4 : Int32)) cx.1 cx.2.1 dL_told_276 (by decide) ?_
          refine lv_iadd cx.1 cx.2.1 dL_told_277 ?_
          obtain ⟨hnn, hf⟩ := gck_some hf
          obtain ⟨v_25, ev_25, hf⟩ := gvi_ex hf
          refine b_num (As := [.ref b, .int (x3 + (4 : Int32))]) (rest := []) cx hE.2 hX hZ hw hS (a_number l G b L xs (x3 + (4 : Int32)) hL (of_decide_eq_true hnn)) gw_836 gyl_L_number gil_L_number ⟨Nat.le_of_ble_eq_true rfl, Nat.le_of_ble_eq_true rfl⟩ (show cells + 0 ≤ 351 ∧ slots + 0 ≤ 2106 from ⟨by omega, by omega⟩) rfl hl.1 rfl (Nat.le_of_ble_eq_true rfl) dL_told_278 (fun H locs hw hS => ?_)
          refine W.eq (g2 := F0 m 281 ls [.int v_25]) (by rw [← ev_25]) ?_
          refine lv_iconst (v := (1 : Int32)) cx.1 cx.2.1 dL_told_281 (by decide) ?_
          refine lv_bipush (v := (17 : Int32)) cx.1 cx.2.1 dL_told_282 (by decide) ?_
          refine lv_iload cx.1 cx.2.1 dL_told_284 (lv_at hl 9 rfl) ?_
          refine lv_imul cx.1 cx.2.1 dL_told_286 ?_
          refine lv_iadd cx.1 cx.2.1 dL_told_287 ?_
          obtain ⟨hne, hf⟩ := gck_some hf
          refine lv_idiv cx.1 cx.2.1 dL_told_288 (by simpa using hne) ?_
          obtain ⟨x11_26, ex11_26, hf⟩ := gvi_ex hf
          refine W.eq (g2 := F0 m 289 ls [.int x11_26]) (by rw [← ex11_26]) ?_
          refine lv_istore (lv' := [(11, .int x11_26), (0, .ref (G.2.1 0)), (1, .ref (K.2.1 0)), (2, .ref b), (3, .int x3), (5, .int x5), (6, .int x6), (7, .int x7), (8, .int x8), (9, .int x9), (10, .int x10)]) cx.1 cx.2.1 dL_told_289 hl (by decide) rfl (fun ls hl => ?_)
          refine lv_iload cx.1 cx.2.1 dL_told_291 (lv_at hl 0 rfl) ?_
          refine lv_iload cx.1 cx.2.1 dL_told_293 (lv_at hl 5 rfl) ?_
          obtain ⟨hne, hf⟩ := gck_some hf
          refine lv_irem cx.1 cx.2.1 dL_told_295 (by simpa using hne) ?_
          obtain ⟨x12_27, ex12_27, hf⟩ := gvi_ex hf
          refine W.eq (g2 := F0 m 296 ls [.int x12_27]) (by rw [← ex12_27]) ?_
          refine lv_istore (lv' := [(12, .int x12_27), (11, .int x11_26), (0, .ref (G.2.1 0)), (1, .ref (K.2.1 0)), (2, .ref b), (3, .int x3), (5, .int x5), (6, .int x6), (7, .int x7), (8, .int x8), (9, .int x9), (10, .int x10)]) cx.1 cx.2.1 dL_told_296 hl (by decide) rfl (fun ls hl => ?_)
          refine lv_iload cx.1 cx.2.1 dL_told_298 (lv_at hl 0 rfl) ?_
          refine lv_iconst (v := (1 : Int32)) cx.1 cx.2.1 dL_told_300 (by decide) ?_
          refine lv_iadd cx.1 cx.2.1 dL_told_301 ?_
          refine lv_iload cx.1 cx.2.1 dL_told_302 (lv_at hl 1 rfl) ?_
          refine lv_bipush (v := (16 : Int32)) cx.1 cx.2.1 dL_told_304 (by decide) ?_
          refine lv_idiv cx.1 cx.2.1 dL_told_306 (by decide) ?_
          refine lv_iload cx.1 cx.2.1 dL_told_307 (lv_at hl 6 rfl) ?_
          refine lv_iconst (v := (1 : Int32)) cx.1 cx.2.1 dL_told_309 (by decide) ?_
          refine lv_isub cx.1 cx.2.1 dL_told_310 ?_
          obtain ⟨hne, hf⟩ := gck_some hf
          refine lv_irem cx.1 cx.2.1 dL_told_311 (by simpa using hne) ?_
          refine lv_iadd cx.1 cx.2.1 dL_told_312 ?_
          refine lv_iload cx.1 cx.2.1 dL_told_313 (lv_at hl 6 rfl) ?_
          obtain ⟨hne, hf⟩ := gck_some hf
          refine lv_irem cx.1 cx.2.1 dL_told_315 (by simpa using hne) ?_
          obtain ⟨x13_28, ex13_28, hf⟩ := gvi_ex hf
          refine W.eq (g2 := F0 m 316 ls [.int x13_28]) (by rw [← ex13_28]) ?_
          refine lv_istore (lv' := [(13, .int x13_28), (12, .int x12_27), (11, .int x11_26), (0, .ref (G.2.1 0)), (1, .ref (K.2.1 0)), (2, .ref b), (3, .int x3), (5, .int x5), (6, .int x6), (7, .int x7), (8, .int x8), (9, .int x9), (10, .int x10)]) cx.1 cx.2.1 dL_told_316 hl (by decide) rfl (fun ls hl => ?_)
          refine lv_iconst (v := (1 : Int32)) cx.1 cx.2.1 dL_told_318 (by decide) ?_
          refine lv_iload cx.1 cx.2.1 dL_told_319 (lv_at hl 2 rfl) ?_
          refine lv_sipush (v := (256 : Int32)) cx.1 cx.2.1 dL_told_321 (by decide) ?_
          refine lv_idiv cx.1 cx.2.1 dL_told_324 (by decide) ?_
          refine lv_bipush (v := (60 : Int32)) cx.1 cx.2.1 dL_told_325 (by decide) ?_
          refine lv_irem cx.1 cx.2.1 dL_told_327 (by decide) ?_
          refine lv_iadd cx.1 cx.2.1 dL_told_328 ?_
          obtain ⟨x14_29, ex14_29, hf⟩ := gvi_ex hf
          refine W.eq (g2 := F0 m 329 ls [.int x14_29]) (by rw [← ex14_29]) ?_
          refine lv_istore (lv' := [(14, .int x14_29), (13, .int x13_28), (12, .int x12_27), (11, .int x11_26), (0, .ref (G.2.1 0)), (1, .ref (K.2.1 0)), (2, .ref b), (3, .int x3), (5, .int x5), (6, .int x6), (7, .int x7), (8, .int x8), (9, .int x9), (10, .int x10)]) cx.1 cx.2.1 dL_told_329 hl (by decide) rfl (fun ls hl => ?_)
          refine lv_aload_n cx.1 cx.2.1 dL_told_331 rfl (lv_at hl 4 rfl) ?_
          refine lv_aload_n cx.1 cx.2.1 dL_told_332 rfl (lv_at hl 5 rfl) ?_
          refine lv_bipush (v := (99 : Int32)) cx.1 cx.2.1 dL_told_333 (by decide) ?_
          obtain ⟨v_30, S_31, hv, hf⟩ := gbs_some hf
          refine b_S (As := [.ref (G.2.1 0), .ref (K.2.1 0), .int (99 : Int32)]) (rest := []) cx hE.1 hX hZ hw hS (a_put l hst G K (99 : Int32) S v_30 S_31 hv) gw_849 gyl_L_put gil_L_put ⟨Nat.le_of_ble_eq_true rfl, Nat.le_of_ble_eq_true rfl⟩ (show cells + 0 + 4 ≤ 351 ∧ slots + 0 + 24 ≤ 2106 from ⟨by omega, by omega⟩) rfl hl.1 rfl (Nat.le_of_ble_eq_true rfl) dL_told_335 (fun H locs hw hS => ?_)
          refine W.eq (g2 := F0 m 338 ls [.int v_30]) rfl ?_
          refine lv_if_eq (tgt := 454) cx.1 cx.2.1 dL_told_338 (by decide) (fun hc => ?_) (fun hc => ?_)
          · rw [if_pos hc] at hf
            refine lv_iconst (v := (0 : Int32)) cx.1 cx.2.1 dL_told_454 (by decide) ?_
            exact hB_455 (L_told_262 xs L n_262) n_262 hK262 S_31 x3 x5 x6 x7 x9 x10 (0 : Int32) _ _ _ _ _ (by omega) (by omega) hw hS (lv_sub hl [4, 5, 6, 7, 8, 9, 10, 12, 13] rfl) hf
          · rw [if_neg hc] at hf
            refine lv_aload_n cx.1 cx.2.1 dL_told_341 rfl (lv_at hl 4 rfl) ?_
            refine lv_aload_n cx.1 cx.2.1 dL_told_342 rfl (lv_at hl 5 rfl) ?_
            refine lv_bipush (v := (48 : Int32)) cx.1 cx.2.1 dL_told_343 (by decide) ?_
            refine lv_iload cx.1 cx.2.1 dL_told_345 (lv_at hl 2 rfl) ?_
            refine lv_iadd cx.1 cx.2.1 dL_told_347 ?_
            obtain ⟨v_32, S_33, hv, hf⟩ := gbs_some hf
            refine b_S (As := [.ref (G.2.1 0), .ref (K.2.1 0), .int ((48 : Int32) + x12_27)]) (rest := []) cx hE.1 hX hZ hw hS (a_put l hst G K ((48 : Int32) + x12_27) S_31 v_32 S_33 hv) gw_849 gyl_L_put gil_L_put ⟨Nat.le_of_ble_eq_true rfl, Nat.le_of_ble_eq_true rfl⟩ (show cells + 0 + 4 + 4 ≤ 351 ∧ slots + 0 + 24 + 24 ≤ 2106 from ⟨by omega, by omega⟩) rfl hl.1 rfl (Nat.le_of_ble_eq_true rfl) dL_told_348 (fun H locs hw hS => ?_)
            refine W.eq (g2 := F0 m 351 ls [.int v_32]) rfl ?_
            refine lv_if_eq (tgt := 454) cx.1 cx.2.1 dL_told_351 (by decide) (fun hc => ?_) (fun hc => ?_)
            · rw [if_pos hc] at hf
              refine lv_iconst (v := (0 : Int32)) cx.1 cx.2.1 dL_told_454 (by decide) ?_
              exact hB_455 (L_told_262 xs L n_262) n_262 hK262 S_33 x3 x5 x6 x7 x9 x10 (0 : Int32) _ _ _ _ _ (by omega) (by omega) hw hS (lv_sub hl [4, 5, 6, 7, 8, 9, 10, 12, 13] rfl) hf
            · rw [if_neg hc] at hf
              refine lv_aload_n cx.1 cx.2.1 dL_told_354 rfl (lv_at hl 4 rfl) ?_
              refine lv_aload_n cx.1 cx.2.1 dL_told_355 rfl (lv_at hl 5 rfl) ?_
              refine lv_bipush (v := (48 : Int32)) cx.1 cx.2.1 dL_told_356 (by decide) ?_
              refine lv_iload cx.1 cx.2.1 dL_told_358 (lv_at hl 1 rfl) ?_
              refine lv_iadd cx.1 cx.2.1 dL_told_360 ?_
              obtain ⟨v_34, S_35, hv, hf⟩ := gbs_some hf
              refine b_S (As := [.ref (G.2.1 0), .ref (K.2.1 0), .int ((48 : Int32) + x13_28)]) (rest := []) cx hE.1 hX hZ hw hS (a_put l hst G K ((48 : Int32) + x13_28) S_33 v_34 S_35 hv) gw_849 gyl_L_put gil_L_put ⟨Nat.le_of_ble_eq_true rfl, Nat.le_of_ble_eq_true rfl⟩ (show cells + 0 + 4 + 4 + 4 ≤ 351 ∧ slots + 0 + 24 + 24 + 24 ≤ 2106 from ⟨by omega, by omega⟩) rfl hl.1 rfl (Nat.le_of_ble_eq_true rfl) dL_told_361 (fun H locs hw hS => ?_)
              refine W.eq (g2 := F0 m 364 ls [.int v_34]) rfl ?_
              refine lv_if_eq (tgt := 454) cx.1 cx.2.1 dL_told_364 (by decide) (fun hc => ?_) (fun hc => ?_)
              · rw [if_pos hc] at hf
                refine lv_iconst (v := (0 : Int32)) cx.1 cx.2.1 dL_told_454 (by decide) ?_
                exact hB_455 (L_told_262 xs L n_262) n_262 hK262 S_35 x3 x5 x6 x7 x9 x10 (0 : Int32) _ _ _ _ _ (by omega) (by omega) hw hS (lv_sub hl [4, 5, 6, 7, 8, 9, 10, 12, 13] rfl) hf
              · rw [if_neg hc] at hf
                refine lv_aload_n cx.1 cx.2.1 dL_told_367 rfl (lv_at hl 4 rfl) ?_
                refine lv_aload_n cx.1 cx.2.1 dL_told_368 rfl (lv_at hl 5 rfl) ?_
                refine lv_bipush (v := (48 : Int32)) cx.1 cx.2.1 dL_told_369 (by decide) ?_
                refine lv_iload cx.1 cx.2.1 dL_told_371 (lv_at hl 0 rfl) ?_
                refine lv_bipush (v := (10 : Int32)) cx.1 cx.2.1 dL_told_373 (by decide) ?_
                refine lv_idiv cx.1 cx.2.1 dL_told_375 (by decide) ?_
                refine lv_iadd cx.1 cx.2.1 dL_told_376 ?_
                obtain ⟨v_36, S_37, hv, hf⟩ := gbs_some hf
                refine b_S (As := [.ref (G.2.1 0), .ref (K.2.1 0), .int ((48 : Int32) + (x14_29 / (10 : Int32)))]) (rest := []) cx hE.1 hX hZ hw hS (a_put l hst G K ((48 : Int32) + (x14_29 / (10 : Int32))) S_35 v_36 S_37 hv) gw_849 gyl_L_put gil_L_put ⟨Nat.le_of_ble_eq_true rfl, Nat.le_of_ble_eq_true rfl⟩ (show cells + 0 + 4 + 4 + 4 + 4 ≤ 351 ∧ slots + 0 + 24 + 24 + 24 + 24 ≤ 2106 from ⟨by omega, by omega⟩) rfl hl.1 rfl (Nat.le_of_ble_eq_true rfl) dL_told_377 (fun H locs hw hS => ?_)
                refine W.eq (g2 := F0 m 380 ls [.int v_36]) rfl ?_
                refine lv_if_eq (tgt := 454) cx.1 cx.2.1 dL_told_380 (by decide) (fun hc => ?_) (fun hc => ?_)
                · rw [if_pos hc] at hf
                  refine lv_iconst (v := (0 : Int32)) cx.1 cx.2.1 dL_told_454 (by decide) ?_
                  exact hB_455 (L_told_262 xs L n_262) n_262 hK262 S_37 x3 x5 x6 x7 x9 x10 (0 : Int32) _ _ _ _ _ (by omega) (by omega) hw hS (lv_sub hl [4, 5, 6, 7, 8, 9, 10, 12, 13] rfl) hf
                · rw [if_neg hc] at hf
                  refine lv_aload_n cx.1 cx.2.1 dL_told_383 rfl (lv_at hl 4 rfl) ?_
                  obtain ⟨v_38, S_39, hv, hf⟩ := gbs_some hf
                  refine b1_V (As := []) (rest := []) cx hE.1 hX hZ hw hS hv (fun t ht => a_X10_errorPosition l hst G S_37.1 v_38 t ht) rfl gw_134 gy_X10_errorPosition gi_X10_errorPosition ⟨Nat.le_of_ble_eq_true rfl, Nat.le_of_ble_eq_true rfl⟩ (show cells + 0 + 4 + 4 + 4 + 4 + 0 ≤ 351 ∧ slots + 0 + 24 + 24 + 24 + 24 + 0 ≤ 2106 from ⟨by omega, by omega⟩) rfl hl.1 rfl (Nat.le_of_ble_eq_true rfl) dL_told_384 (fun H locs hw hS => ?_)
                  refine W.eq (g2 := F0 m 387 ls [.int v_38]) rfl ?_
                  refine lv_iload cx.1 cx.2.1 dL_told_387 (lv_at hl 12 rfl) ?_
                  refine lv_iconst (v := (4 : Int32)) cx.1 cx.2.1 dL_told_389 (by decide) ?_
                  refine lv_iadd cx.1 cx.2.1 dL_told_390 ?_
                  refine lv_icmp_ne (tgt := 454) cx.1 cx.2.1 dL_told_391 (by decide) (fun hc => ?_) (fun hc => ?_)
                  · rw [if_neg hc] at hf
                    refine lv_iconst (v := (0 : Int32)) cx.1 cx.2.1 dL_told_454 (by decide) ?_
                    exact hB_455 (L_told_262 xs L n_262) n_262 hK262 S_39 x3 x5 x6 x7 x9 x10 (0 : Int32) _ _ _ _ _ (by omega) (by omega) hw hS (lv_sub hl [4, 5, 6, 7, 8, 9, 10, 12, 13] rfl) hf
                  · rw [if_pos hc] at hf
                    refine lv_aload_n cx.1 cx.2.1 dL_told_394 rfl (lv_at hl 4 rfl) ?_
                    refine lv_aload_n cx.1 cx.2.1 dL_told_395 rfl (lv_at hl 5 rfl) ?_
                    refine lv_bipush (v := (48 : Int32)) cx.1 cx.2.1 dL_told_396 (by decide) ?_
                    refine lv_iload cx.1 cx.2.1 dL_told_398 (lv_at hl 0 rfl) ?_
                    refine lv_bipush (v := (10 : Int32)) cx.1 cx.2.1 dL_told_400 (by decide) ?_
                    refine lv_irem cx.1 cx.2.1 dL_told_402 (by decide) ?_
                    refine lv_iadd cx.1 cx.2.1 dL_told_403 ?_
                    obtain ⟨v_40, S_41, hv, hf⟩ := gbs_some hf
                    refine b_S (As := [.ref (G.2.1 0), .ref (K.2.1 0), .int ((48 : Int32) + (x14_29 - x14_29 / (10 : Int32) * (10 : Int32)))]) (rest := []) cx hE.1 hX hZ hw hS (a_put l hst G K ((48 : Int32) + (x14_29 - x14_29 / (10 : Int32) * (10 : Int32))) S_39 v_40 S_41 hv) gw_849 gyl_L_put gil_L_put ⟨Nat.le_of_ble_eq_true rfl, Nat.le_of_ble_eq_true rfl⟩ (show cells + 0 + 4 + 4 + 4 + 4 + 0 + 4 ≤ 351 ∧ slots + 0 + 24 + 24 + 24 + 24 + 0 + 24 ≤ 2106 from ⟨by omega, by omega⟩) rfl hl.1 rfl (Nat.le_of_ble_eq_true rfl) dL_told_404 (fun H locs hw hS => ?_)
                    refine W.eq (g2 := F0 m 407 ls [.int v_40]) rfl ?_
                    refine lv_if_eq (tgt := 454) cx.1 cx.2.1 dL_told_407 (by decide) (fun hc => ?_) (fun hc => ?_)
                    · rw [if_pos hc] at hf
                      refine lv_iconst (v := (0 : Int32)) cx.1 cx.2.1 dL_told_454 (by decide) ?_
                      exact hB_455 (L_told_262 xs L n_262) n_262 hK262 S_41 x3 x5 x6 x7 x9 x10 (0 : Int32) _ _ _ _ _ (by omega) (by omega) hw hS (lv_sub hl [4, 5, 6, 7, 8, 9, 10, 12, 13] rfl) hf
                    · rw [if_neg hc] at hf
                      refine lv_aload_n cx.1 cx.2.1 dL_told_410 rfl (lv_at hl 4 rfl) ?_
                      obtain ⟨v_42, S_43, hv, hf⟩ := gbs_some hf
                      refine b1_V (As := []) (rest := []) cx hE.1 hX hZ hw hS hv (fun t ht => a_X10_errorPosition l hst G S_41.1 v_42 t ht) rfl gw_134 gy_X10_errorPosition gi_X10_errorPosition ⟨Nat.le_of_ble_eq_true rfl, Nat.le_of_ble_eq_true rfl⟩ (show cells + 0 + 4 + 4 + 4 + 4 + 0 + 4 + 0 ≤ 351 ∧ slots + 0 + 24 + 24 + 24 + 24 + 0 + 24 + 0 ≤ 2106 from ⟨by omega, by omega⟩) rfl hl.1 rfl (Nat.le_of_ble_eq_true rfl) dL_told_411 (fun H locs hw hS => ?_)
                      refine W.eq (g2 := F0 m 414 ls [.int v_42]) rfl ?_
                      refine lv_iload cx.1 cx.2.1 dL_told_414 (lv_at hl 12 rfl) ?_
                      refine lv_iconst (v := (5 : Int32)) cx.1 cx.2.1 dL_told_416 (by decide) ?_
                      refine lv_iadd cx.1 cx.2.1 dL_told_417 ?_
                      refine lv_icmp_ne (tgt := 454) cx.1 cx.2.1 dL_told_418 (by decide) (fun hc => ?_) (fun hc => ?_)
                      · rw [if_neg hc] at hf
                        refine lv_iconst (v := (0 : Int32)) cx.1 cx.2.1 dL_told_454 (by decide) ?_
                        exact hB_455 (L_told_262 xs L n_262) n_262 hK262 S_43 x3 x5 x6 x7 x9 x10 (0 : Int32) _ _ _ _ _ (by omega) (by omega) hw hS (lv_sub hl [4, 5, 6, 7, 8, 9, 10, 12, 13] rfl) hf
                      · rw [if_pos hc] at hf
                        refine lv_aload_n cx.1 cx.2.1 dL_told_421 rfl (lv_at hl 4 rfl) ?_
                        refine lv_aload_n cx.1 cx.2.1 dL_told_422 rfl (lv_at hl 5 rfl) ?_
                        refine lv_bipush (v := (49 : Int32)) cx.1 cx.2.1 dL_told_423 (by decide) ?_
                        refine lv_iload cx.1 cx.2.1 dL_told_425 (lv_at hl 3 rfl) ?_
                        refine lv_sipush (v := (16384 : Int32)) cx.1 cx.2.1 dL_told_427 (by decide) ?_
                        refine lv_idiv cx.1 cx.2.1 dL_told_430 (by decide) ?_
                        refine lv_bipush (v := (9 : Int32)) cx.1 cx.2.1 dL_told_431 (by decide) ?_
                        refine lv_irem cx.1 cx.2.1 dL_told_433 (by decide) ?_
                        refine lv_iadd cx.1 cx.2.1 dL_told_434 ?_
                        obtain ⟨v_44, S_45, hv, hf⟩ := gbs_some hf
                        refine b_S (As := [.ref (G.2.1 0), .ref (K.2.1 0), .int ((49 : Int32) + ((x11_26 / (16384 : Int32)) - (x11_26 / (16384 : Int32)) / (9 : Int32) * (9 : Int32)))]) (rest := []) cx hE.1 hX hZ hw hS (a_put l hst G K ((49 : Int32) + ((x11_26 / (16384 : Int32)) - (x11_26 / (16384 : Int32)) / (9 : Int32) * (9 : Int32))) S_43 v_44 S_45 hv) gw_849 gyl_L_put gil_L_put ⟨Nat.le_of_ble_eq_true rfl, Nat.le_of_ble_eq_true rfl⟩ (show cells + 0 + 4 + 4 + 4 + 4 + 0 + 4 + 0 + 4 ≤ 351 ∧ slots + 0 + 24 + 24 + 24 + 24 + 0 + 24 + 0 + 24 ≤ 2106 from ⟨by omega, by omega⟩) rfl hl.1 rfl (Nat.le_of_ble_eq_true rfl) dL_told_435 (fun H locs hw hS => ?_)
                        refine W.eq (g2 := F0 m 438 ls [.int v_44]) rfl ?_
                        refine lv_if_eq (tgt := 454) cx.1 cx.2.1 dL_told_438 (by decide) (fun hc => ?_) (fun hc => ?_)
                        · rw [if_pos hc] at hf
                          refine lv_iconst (v := (0 : Int32)) cx.1 cx.2.1 dL_told_454 (by decide) ?_
                          exact hB_455 (L_told_262 xs L n_262) n_262 hK262 S_45 x3 x5 x6 x7 x9 x10 (0 : Int32) _ _ _ _ _ (by omega) (by omega) hw hS (lv_sub hl [4, 5, 6, 7, 8, 9, 10, 12, 13] rfl) hf
                        · rw [if_neg hc] at hf
                          refine lv_aload_n cx.1 cx.2.1 dL_told_441 rfl (lv_at hl 4 rfl) ?_
                          obtain ⟨v_46, S_47, hv, hf⟩ := gbs_some hf
                          refine b1_V (As := []) (rest := []) cx hE.1 hX hZ hw hS hv (fun t ht => a_X10_errorPosition l hst G S_45.1 v_46 t ht) rfl gw_134 gy_X10_errorPosition gi_X10_errorPosition ⟨Nat.le_of_ble_eq_true rfl, Nat.le_of_ble_eq_true rfl⟩ (show cells + 0 + 4 + 4 + 4 + 4 + 0 + 4 + 0 + 4 + 0 ≤ 351 ∧ slots + 0 + 24 + 24 + 24 + 24 + 0 + 24 + 0 + 24 + 0 ≤ 2106 from ⟨by omega, by omega⟩) rfl hl.1 rfl (Nat.le_of_ble_eq_true rfl) dL_told_442 (fun H locs hw hS => ?_)
                          refine W.eq (g2 := F0 m 445 ls [.int v_46]) rfl ?_
                          refine lv_bipush (v := (-9 : Int32)) cx.1 cx.2.1 dL_told_445 (by decide) ?_
                          refine lv_icmp_ne (tgt := 454) cx.1 cx.2.1 dL_told_447 (by decide) (fun hc => ?_) (fun hc => ?_)
                          · rw [if_neg hc] at hf
                            refine lv_iconst (v := (0 : Int32)) cx.1 cx.2.1 dL_told_454 (by decide) ?_
                            exact hB_455 (L_told_262 xs L n_262) n_262 hK262 S_47 x3 x5 x6 x7 x9 x10 (0 : Int32) _ _ _ _ _ (by omega) (by omega) hw hS (lv_sub hl [4, 5, 6, 7, 8, 9, 10, 12, 13] rfl) hf
                          · rw [if_pos hc] at hf
                            refine lv_iconst (v := (1 : Int32)) cx.1 cx.2.1 dL_told_450 (by decide) ?_
                            refine lv_goto (tgt := 455) cx.1 cx.2.1 dL_told_451 (by decide) ?_
                            exact hB_455 (L_told_262 xs L n_262) n_262 hK262 S_47 x3 x5 x6 x7 x9 x10 (1 : Int32) _ _ _ _ _ (by omega) (by omega) hw hS (lv_sub hl [4, 5, 6, 7, 8, 9, 10, 12, 13] rfl) hf
  have hB_248 : ∀ (K105 : At2 → Int32 → Int32 → Int32 → Int32 → Int32 → Int32 → Int32 → Option (Int32 × At2)) (n_105 : Nat) (hK105 : ∀ (S : At2) (x3 : Int32) (x5 : Int32) (x6 : Int32) (x7 : Int32) (x8 : Int32) (x9 : Int32) (x10 : Int32) (H : Heap) (locs : List Loc) (ls : Array Slot) (cells slots : Nat), cells + (183 + 16 * n_105) ≤ 351 → slots + (1098 + 96 * n_105) ≤ 2106 → gPB G K S H → va_S (gAr (gN2 G K) s.heap.size) s.heap H locs → lv_has ls 15 [(0, .ref (G.2.1 0)), (1, .ref (K.2.1 0)), (2, .ref b), (3, .int x3), (5, .int x5), (6, .int x6), (7, .int x7), (8, .int x8), (9, .int x9), (10, .int x10)] → K105 S x3 x5 x6 x7 x8 x9 x10 = some (r, S') → W p l e (gRx 10 209 351 2106) s m ([.ref (G.2.1 0), .ref (K.2.1 0), .ref b, .int a3] : List Value).toArray below meth c H locs cells slots (MQ below (gQr (gPB G K S') (some (.int r)) (gAr (gN2 G K) s.heap.size)) ([.ref (G.2.1 0), .ref (K.2.1 0), .ref b, .int a3] : List Value).toArray s 351 2106 (gAr (gN2 G K) s.heap.size)) (F0 m 105 ls [])), ∀ (S : At2) (x3 : Int32) (x5 : Int32) (x6 : Int32) (x7 : Int32) (x9 : Int32) (x10 : Int32) (t0 : Int32) (H : Heap) (locs : List Loc) (ls : Array Slot) (cells slots : Nat), cells + (183 + 16 * n_105) ≤ 351 → slots + (1098 + 96 * n_105) ≤ 2106 → gPB G K S H → va_S (gAr (gN2 G K) s.heap.size) s.heap H locs → lv_has ls 15 [(0, .ref (G.2.1 0)), (1, .ref (K.2.1 0)), (2, .ref b), (3, .int x3), (5, .int x5), (6, .int x6), (7, .int x7), (9, .int x9), (10, .int x10)] → B_told_248 xs L K105 S x3 x5 x6 x7 x9 x10 t0 = some (r, S') → W p l e (gRx 10 209 351 2106) s m ([.ref (G.2.1 0), .ref (K.2.1 0), .ref b, .int a3] : List Value).toArray below meth c H locs cells slots (MQ below (gQr (gPB G K S') (some (.int r)) (gAr (gN2 G K) s.heap.size)) ([.ref (G.2.1 0), .ref (K.2.1 0), .ref b, .int a3] : List Value).toArray s 351 2106 (gAr (gN2 G K) s.heap.size)) (F0 m 248 ls [.int t0]) := by
    intro K105 n_105 hK105 S x3 x5 x6 x7 x9 x10 t0 H locs ls cells slots hcl hsl hw hS hl hf
    unfold B_told_248 at hf
    refine lv_istore (lv' := [(8, .int t0), (0, .ref (G.2.1 0)), (1, .ref (K.2.1 0)), (2, .ref b), (3, .int x3), (5, .int x5), (6, .int x6), (7, .int x7), (9, .int x9), (10, .int x10)]) cx.1 cx.2.1 dL_told_248 hl (by decide) rfl (fun ls hl => ?_)
    obtain ⟨x9_48, ex9_48, hf⟩ := gvi_ex hf
    refine lv_iinc (v := x9_48) (lv' := [(9, .int x9_48), (8, .int t0), (0, .ref (G.2.1 0)), (1, .ref (K.2.1 0)), (2, .ref b), (3, .int x3), (5, .int x5), (6, .int x6), (7, .int x7), (10, .int x10)]) cx.1 cx.2.1 dL_told_250 hl (k := 8) rfl (by rw [← ex9_48]; rfl) (by decide) rfl (fun ls hl => ?_)
    obtain ⟨x10_49, ex10_49, hf⟩ := gvi_ex hf
    refine lv_iinc (v := x10_49) (lv' := [(10, .int x10_49), (9, .int x9_48), (8, .int t0), (0, .ref (G.2.1 0)), (1, .ref (K.2.1 0)), (2, .ref b), (3, .int x3), (5, .int x5), (6, .int x6), (7, .int x7)]) cx.1 cx.2.1 dL_told_253 hl (k := 9) rfl (by rw [← ex10_49]; rfl) (by decide) rfl (fun ls hl => ?_)
    refine lv_goto (tgt := 105) cx.1 cx.2.1 dL_told_256 (by decide) ?_
    exact hK105 S x3 x5 x6 x7 t0 x9_48 x10_49 _ _ _ _ _ (by omega) (by omega) hw hS (lv_sub hl [3, 4, 5, 6, 7, 8, 9, 2, 1, 0] rfl) hf
  have hL_105 : ∀ (n : Nat), ∀ (S : At2) (x3 : Int32) (x5 : Int32) (x6 : Int32) (x7 : Int32) (x8 : Int32) (x9 : Int32) (x10 : Int32) (H : Heap) (locs : List Loc) (ls : Array Slot) (cells slots : Nat), cells + (183 + 16 * n) ≤ 351 → slots + (1098 + 96 * n) ≤ 2106 → gPB G K S H → va_S (gAr (gN2 G K) s.heap.size) s.heap H locs → lv_has ls 15 [(0, .ref (G.2.1 0)), (1, .ref (K.2.1 0)), (2, .ref b), (3, .int x3), (5, .int x5), (6, .int x6), (7, .int x7), (8, .int x8), (9, .int x9), (10, .int x10)] → L_told_105 xs L n S x3 x5 x6 x7 x8 x9 x10 = some (r, S') → W p l e (gRx 10 209 351 2106) s m ([.ref (G.2.1 0), .ref (K.2.1 0), .ref b, .int a3] : List Value).toArray below meth c H locs cells slots (MQ below (gQr (gPB G K S') (some (.int r)) (gAr (gN2 G K) s.heap.size)) ([.ref (G.2.1 0), .ref (K.2.1 0), .ref b, .int a3] : List Value).toArray s 351 2106 (gAr (gN2 G K) s.heap.size)) (F0 m 105 ls []) := by
    intro n_105
    induction n_105 with
    | zero => intro S x3 x5 x6 x7 x8 x9 x10 H locs ls cells slots hcl hsl hw hS hl hf; cases hf
    | succ n_105 hK105 =>
      intro S x3 x5 x6 x7 x8 x9 x10 H locs ls cells slots hcl hsl hw hS hl hf
      have hf : Lb_told_105 xs L (L_told_105 xs L n_105) S x3 x5 x6 x7 x8 x9 x10 = some (r, S') := hf
      unfold Lb_told_105 at hf
      refine lv_iload cx.1 cx.2.1 dL_told_105 (lv_at hl 9 rfl) ?_
      refine lv_iload cx.1 cx.2.1 dL_told_107 (lv_at hl 5 rfl) ?_
      refine lv_icmp_ge (tgt := 259) cx.1 cx.2.1 dL_told_109 (by decide) (fun hc => ?_) (fun hc => ?_)
      · rw [if_pos hc] at hf
        refine lv_iconst (v := (0 : Int32)) cx.1 cx.2.1 dL_told_259 (by decide) ?_
        refine lv_istore (lv' := [(10, .int (0 : Int32)), (0, .ref (G.2.1 0)), (1, .ref (K.2.1 0)), (2, .ref b), (3, .int x3), (5, .int x5), (6, .int x6), (7, .int x7), (8, .int x8), (9, .int x9)]) cx.1 cx.2.1 dL_told_260 hl (by decide) rfl (fun ls hl => ?_)
        exact hL_262 7 S x3 x5 x6 x7 x8 x9 (0 : Int32) _ _ _ _ _ (by omega) (by omega) hw hS (lv_sub hl [1, 2, 3, 4, 5, 6, 7, 8, 9, 0] rfl) hf
      · rw [if_neg hc] at hf
        refine lv_iload cx.1 cx.2.1 dL_told_112 (lv_at hl 7 rfl) ?_
        refine lv_if_eq (tgt := 259) cx.1 cx.2.1 dL_told_114 (by decide) (fun hc => ?_) (fun hc => ?_)
        · rw [if_pos hc] at hf
          refine lv_iconst (v := (0 : Int32)) cx.1 cx.2.1 dL_told_259 (by decide) ?_
          refine lv_istore (lv' := [(10, .int (0 : Int32)), (0, .ref (G.2.1 0)), (1, .ref (K.2.1 0)), (2, .ref b), (3, .int x3), (5, .int x5), (6, .int x6), (7, .int x7), (8, .int x8), (9, .int x9)]) cx.1 cx.2.1 dL_told_260 hl (by decide) rfl (fun ls hl => ?_)
          exact hL_262 7 S x3 x5 x6 x7 x8 x9 (0 : Int32) _ _ _ _ _ (by omega) (by omega) hw hS (lv_sub hl [1, 2, 3, 4, 5, 6, 7, 8, 9, 0] rfl) hf
        · rw [if_neg hc] at hf
          refine lv_aload_n cx.1 cx.2.1 dL_told_117 rfl (lv_at hl 2 rfl) ?_
          refine lv_iload_n cx.1 cx.2.1 dL_told_118 rfl (lv_at hl 3 rfl) ?_
          refine lv_iconst (v := (1 : Int32)) cx.1 cx.2.1 dL_told_119 (by decide) ?_
          refine lv_iadd cx.1 cx.2.1 dL_told_120 ?_
          refine lv_iload cx.1 cx.2.1 dL_told_121 (lv_at hl 9 rfl) ?_
          refine lv_iconst (v := (3 : Int32)) cx.1 cx.2.1 dL_told_123 (by decide) ?_
          refine lv_irem cx.1 cx.2.1 dL_told_124 (by decide) ?_
          refine lv_iadd cx.1 cx.2.1 dL_told_125 ?_
          obtain ⟨hnn, hf⟩ := gck_some hf
          obtain ⟨v_50, ev_50, hf⟩ := gvi_ex hf
          refine b_num (As := [.ref b, .int ((x3 + (1 : Int32)) + (x10 - x10 / (3 : Int32) * (3 : Int32)))]) (rest := []) cx hE.2 hX hZ hw hS (a_number l G b L xs ((x3 + (1 : Int32)) + (x10 - x10 / (3 : Int32) * (3 : Int32))) hL (of_decide_eq_true hnn)) gw_836 gyl_L_number gil_L_number ⟨Nat.le_of_ble_eq_true rfl, Nat.le_of_ble_eq_true rfl⟩ (show cells + 0 ≤ 351 ∧ slots + 0 ≤ 2106 from ⟨by omega, by omega⟩) rfl hl.1 rfl (Nat.le_of_ble_eq_true rfl) dL_told_126 (fun H locs hw hS => ?_)
          refine W.eq (g2 := F0 m 129 ls [.int v_50]) (by rw [← ev_50]) ?_
          refine lv_iconst (v := (1 : Int32)) cx.1 cx.2.1 dL_told_129 (by decide) ?_
          refine lv_bipush (v := (13 : Int32)) cx.1 cx.2.1 dL_told_130 (by decide) ?_
          refine lv_iload cx.1 cx.2.1 dL_told_132 (lv_at hl 9 rfl) ?_
          refine lv_iconst (v := (3 : Int32)) cx.1 cx.2.1 dL_told_134 (by decide) ?_
          refine lv_idiv cx.1 cx.2.1 dL_told_135 (by decide) ?_
          refine lv_imul cx.1 cx.2.1 dL_told_136 ?_
          refine lv_iadd cx.1 cx.2.1 dL_told_137 ?_
          obtain ⟨hne, hf⟩ := gck_some hf
          refine lv_idiv cx.1 cx.2.1 dL_told_138 (by simpa using hne) ?_
          obtain ⟨x11_51, ex11_51, hf⟩ := gvi_ex hf
          refine W.eq (g2 := F0 m 139 ls [.int x11_51]) (by rw [← ex11_51]) ?_
          refine lv_istore (lv' := [(11, .int x11_51), (0, .ref (G.2.1 0)), (1, .ref (K.2.1 0)), (2, .ref b), (3, .int x3), (5, .int x5), (6, .int x6), (7, .int x7), (8, .int x8), (9, .int x9), (10, .int x10)]) cx.1 cx.2.1 dL_told_139 hl (by decide) rfl (fun ls hl => ?_)
          refine lv_iload cx.1 cx.2.1 dL_told_141 (lv_at hl 0 rfl) ?_
          refine lv_iload cx.1 cx.2.1 dL_told_143 (lv_at hl 5 rfl) ?_
          obtain ⟨hne, hf⟩ := gck_some hf
          refine lv_irem cx.1 cx.2.1 dL_told_145 (by simpa using hne) ?_
          obtain ⟨x12_52, ex12_52, hf⟩ := gvi_ex hf
          refine W.eq (g2 := F0 m 146 ls [.int x12_52]) (by rw [← ex12_52]) ?_
          refine lv_istore (lv' := [(12, .int x12_52), (11, .int x11_51), (0, .ref (G.2.1 0)), (1, .ref (K.2.1 0)), (2, .ref b), (3, .int x3), (5, .int x5), (6, .int x6), (7, .int x7), (8, .int x8), (9, .int x9), (10, .int x10)]) cx.1 cx.2.1 dL_told_146 hl (by decide) rfl (fun ls hl => ?_)
          refine lv_iload cx.1 cx.2.1 dL_told_148 (lv_at hl 0 rfl) ?_
          refine lv_iconst (v := (1 : Int32)) cx.1 cx.2.1 dL_told_150 (by decide) ?_
          refine lv_iadd cx.1 cx.2.1 dL_told_151 ?_
          refine lv_iload cx.1 cx.2.1 dL_told_152 (lv_at hl 1 rfl) ?_
          refine lv_bipush (v := (16 : Int32)) cx.1 cx.2.1 dL_told_154 (by decide) ?_
          refine lv_idiv cx.1 cx.2.1 dL_told_156 (by decide) ?_
          refine lv_iload cx.1 cx.2.1 dL_told_157 (lv_at hl 6 rfl) ?_
          refine lv_iconst (v := (1 : Int32)) cx.1 cx.2.1 dL_told_159 (by decide) ?_
          refine lv_isub cx.1 cx.2.1 dL_told_160 ?_
          obtain ⟨hne, hf⟩ := gck_some hf
          refine lv_irem cx.1 cx.2.1 dL_told_161 (by simpa using hne) ?_
          refine lv_iadd cx.1 cx.2.1 dL_told_162 ?_
          refine lv_iload cx.1 cx.2.1 dL_told_163 (lv_at hl 6 rfl) ?_
          obtain ⟨hne, hf⟩ := gck_some hf
          refine lv_irem cx.1 cx.2.1 dL_told_165 (by simpa using hne) ?_
          obtain ⟨x13_53, ex13_53, hf⟩ := gvi_ex hf
          refine W.eq (g2 := F0 m 166 ls [.int x13_53]) (by rw [← ex13_53]) ?_
          refine lv_istore (lv' := [(13, .int x13_53), (12, .int x12_52), (11, .int x11_51), (0, .ref (G.2.1 0)), (1, .ref (K.2.1 0)), (2, .ref b), (3, .int x3), (5, .int x5), (6, .int x6), (7, .int x7), (8, .int x8), (9, .int x9), (10, .int x10)]) cx.1 cx.2.1 dL_told_166 hl (by decide) rfl (fun ls hl => ?_)
          refine lv_aload_n cx.1 cx.2.1 dL_told_168 rfl (lv_at hl 3 rfl) ?_
          refine lv_aload_n cx.1 cx.2.1 dL_told_169 rfl (lv_at hl 4 rfl) ?_
          refine lv_bipush (v := (116 : Int32)) cx.1 cx.2.1 dL_told_170 (by decide) ?_
          obtain ⟨v_54, S_55, hv, hf⟩ := gbs_some hf
          refine b_S (As := [.ref (G.2.1 0), .ref (K.2.1 0), .int (116 : Int32)]) (rest := []) cx hE.1 hX hZ hw hS (a_put l hst G K (116 : Int32) S v_54 S_55 hv) gw_849 gyl_L_put gil_L_put ⟨Nat.le_of_ble_eq_true rfl, Nat.le_of_ble_eq_true rfl⟩ (show cells + 0 + 4 ≤ 351 ∧ slots + 0 + 24 ≤ 2106 from ⟨by omega, by omega⟩) rfl hl.1 rfl (Nat.le_of_ble_eq_true rfl) dL_told_172 (fun H locs hw hS => ?_)
          refine W.eq (g2 := F0 m 175 ls [.int v_54]) rfl ?_
          refine lv_if_eq (tgt := 247) cx.1 cx.2.1 dL_told_175 (by decide) (fun hc => ?_) (fun hc => ?_)
          · rw [if_pos hc] at hf
            refine lv_iconst (v := (0 : Int32)) cx.1 cx.2.1 dL_told_247 (by decide) ?_
            exact hB_248 (L_told_105 xs L n_105) n_105 hK105 S_55 x3 x5 x6 x7 x9 x10 (0 : Int32) _ _ _ _ _ (by omega) (by omega) hw hS (lv_sub hl [3, 4, 5, 6, 7, 8, 9, 11, 12] rfl) hf
          · rw [if_neg hc] at hf
            refine lv_aload_n cx.1 cx.2.1 dL_told_178 rfl (lv_at hl 3 rfl) ?_
            refine lv_aload_n cx.1 cx.2.1 dL_told_179 rfl (lv_at hl 4 rfl) ?_
            refine lv_bipush (v := (48 : Int32)) cx.1 cx.2.1 dL_told_180 (by decide) ?_
            refine lv_iload cx.1 cx.2.1 dL_told_182 (lv_at hl 1 rfl) ?_
            refine lv_iadd cx.1 cx.2.1 dL_told_184 ?_
            obtain ⟨v_56, S_57, hv, hf⟩ := gbs_some hf
            refine b_S (As := [.ref (G.2.1 0), .ref (K.2.1 0), .int ((48 : Int32) + x12_52)]) (rest := []) cx hE.1 hX hZ hw hS (a_put l hst G K ((48 : Int32) + x12_52) S_55 v_56 S_57 hv) gw_849 gyl_L_put gil_L_put ⟨Nat.le_of_ble_eq_true rfl, Nat.le_of_ble_eq_true rfl⟩ (show cells + 0 + 4 + 4 ≤ 351 ∧ slots + 0 + 24 + 24 ≤ 2106 from ⟨by omega, by omega⟩) rfl hl.1 rfl (Nat.le_of_ble_eq_true rfl) dL_told_185 (fun H locs hw hS => ?_)
            refine W.eq (g2 := F0 m 188 ls [.int v_56]) rfl ?_
            refine lv_if_eq (tgt := 247) cx.1 cx.2.1 dL_told_188 (by decide) (fun hc => ?_) (fun hc => ?_)
            · rw [if_pos hc] at hf
              refine lv_iconst (v := (0 : Int32)) cx.1 cx.2.1 dL_told_247 (by decide) ?_
              exact hB_248 (L_told_105 xs L n_105) n_105 hK105 S_57 x3 x5 x6 x7 x9 x10 (0 : Int32) _ _ _ _ _ (by omega) (by omega) hw hS (lv_sub hl [3, 4, 5, 6, 7, 8, 9, 11, 12] rfl) hf
            · rw [if_neg hc] at hf
              refine lv_aload_n cx.1 cx.2.1 dL_told_191 rfl (lv_at hl 3 rfl) ?_
              obtain ⟨v_58, S_59, hv, hf⟩ := gbs_some hf
              refine b1_V (As := []) (rest := []) cx hE.1 hX hZ hw hS hv (fun t ht => a_X10_errorPosition l hst G S_57.1 v_58 t ht) rfl gw_134 gy_X10_errorPosition gi_X10_errorPosition ⟨Nat.le_of_ble_eq_true rfl, Nat.le_of_ble_eq_true rfl⟩ (show cells + 0 + 4 + 4 + 0 ≤ 351 ∧ slots + 0 + 24 + 24 + 0 ≤ 2106 from ⟨by omega, by omega⟩) rfl hl.1 rfl (Nat.le_of_ble_eq_true rfl) dL_told_192 (fun H locs hw hS => ?_)
              refine W.eq (g2 := F0 m 195 ls [.int v_58]) rfl ?_
              refine lv_iload cx.1 cx.2.1 dL_told_195 (lv_at hl 11 rfl) ?_
              refine lv_iconst (v := (2 : Int32)) cx.1 cx.2.1 dL_told_197 (by decide) ?_
              refine lv_iadd cx.1 cx.2.1 dL_told_198 ?_
              refine lv_icmp_ne (tgt := 247) cx.1 cx.2.1 dL_told_199 (by decide) (fun hc => ?_) (fun hc => ?_)
              · rw [if_neg hc] at hf
                refine lv_iconst (v := (0 : Int32)) cx.1 cx.2.1 dL_told_247 (by decide) ?_
                exact hB_248 (L_told_105 xs L n_105) n_105 hK105 S_59 x3 x5 x6 x7 x9 x10 (0 : Int32) _ _ _ _ _ (by omega) (by omega) hw hS (lv_sub hl [3, 4, 5, 6, 7, 8, 9, 11, 12] rfl) hf
              · rw [if_pos hc] at hf
                refine lv_aload_n cx.1 cx.2.1 dL_told_202 rfl (lv_at hl 3 rfl) ?_
                refine lv_aload_n cx.1 cx.2.1 dL_told_203 rfl (lv_at hl 4 rfl) ?_
                refine lv_bipush (v := (48 : Int32)) cx.1 cx.2.1 dL_told_204 (by decide) ?_
                refine lv_iload cx.1 cx.2.1 dL_told_206 (lv_at hl 0 rfl) ?_
                refine lv_iadd cx.1 cx.2.1 dL_told_208 ?_
                obtain ⟨v_60, S_61, hv, hf⟩ := gbs_some hf
                refine b_S (As := [.ref (G.2.1 0), .ref (K.2.1 0), .int ((48 : Int32) + x13_53)]) (rest := []) cx hE.1 hX hZ hw hS (a_put l hst G K ((48 : Int32) + x13_53) S_59 v_60 S_61 hv) gw_849 gyl_L_put gil_L_put ⟨Nat.le_of_ble_eq_true rfl, Nat.le_of_ble_eq_true rfl⟩ (show cells + 0 + 4 + 4 + 0 + 4 ≤ 351 ∧ slots + 0 + 24 + 24 + 0 + 24 ≤ 2106 from ⟨by omega, by omega⟩) rfl hl.1 rfl (Nat.le_of_ble_eq_true rfl) dL_told_209 (fun H locs hw hS => ?_)
                refine W.eq (g2 := F0 m 212 ls [.int v_60]) rfl ?_
                refine lv_if_eq (tgt := 247) cx.1 cx.2.1 dL_told_212 (by decide) (fun hc => ?_) (fun hc => ?_)
                · rw [if_pos hc] at hf
                  refine lv_iconst (v := (0 : Int32)) cx.1 cx.2.1 dL_told_247 (by decide) ?_
                  exact hB_248 (L_told_105 xs L n_105) n_105 hK105 S_61 x3 x5 x6 x7 x9 x10 (0 : Int32) _ _ _ _ _ (by omega) (by omega) hw hS (lv_sub hl [3, 4, 5, 6, 7, 8, 9, 11, 12] rfl) hf
                · rw [if_neg hc] at hf
                  refine lv_aload_n cx.1 cx.2.1 dL_told_215 rfl (lv_at hl 3 rfl) ?_
                  refine lv_aload_n cx.1 cx.2.1 dL_told_216 rfl (lv_at hl 4 rfl) ?_
                  refine lv_bipush (v := (49 : Int32)) cx.1 cx.2.1 dL_told_217 (by decide) ?_
                  refine lv_iload cx.1 cx.2.1 dL_told_219 (lv_at hl 2 rfl) ?_
                  refine lv_sipush (v := (256 : Int32)) cx.1 cx.2.1 dL_told_221 (by decide) ?_
                  refine lv_idiv cx.1 cx.2.1 dL_told_224 (by decide) ?_
                  refine lv_iconst (v := (5 : Int32)) cx.1 cx.2.1 dL_told_225 (by decide) ?_
                  refine lv_irem cx.1 cx.2.1 dL_told_226 (by decide) ?_
                  refine lv_iadd cx.1 cx.2.1 dL_told_227 ?_
                  obtain ⟨v_62, S_63, hv, hf⟩ := gbs_some hf
                  refine b_S (As := [.ref (G.2.1 0), .ref (K.2.1 0), .int ((49 : Int32) + ((x11_51 / (256 : Int32)) - (x11_51 / (256 : Int32)) / (5 : Int32) * (5 : Int32)))]) (rest := []) cx hE.1 hX hZ hw hS (a_put l hst G K ((49 : Int32) + ((x11_51 / (256 : Int32)) - (x11_51 / (256 : Int32)) / (5 : Int32) * (5 : Int32))) S_61 v_62 S_63 hv) gw_849 gyl_L_put gil_L_put ⟨Nat.le_of_ble_eq_true rfl, Nat.le_of_ble_eq_true rfl⟩ (show cells + 0 + 4 + 4 + 0 + 4 + 4 ≤ 351 ∧ slots + 0 + 24 + 24 + 0 + 24 + 24 ≤ 2106 from ⟨by omega, by omega⟩) rfl hl.1 rfl (Nat.le_of_ble_eq_true rfl) dL_told_228 (fun H locs hw hS => ?_)
                  refine W.eq (g2 := F0 m 231 ls [.int v_62]) rfl ?_
                  refine lv_if_eq (tgt := 247) cx.1 cx.2.1 dL_told_231 (by decide) (fun hc => ?_) (fun hc => ?_)
                  · rw [if_pos hc] at hf
                    refine lv_iconst (v := (0 : Int32)) cx.1 cx.2.1 dL_told_247 (by decide) ?_
                    exact hB_248 (L_told_105 xs L n_105) n_105 hK105 S_63 x3 x5 x6 x7 x9 x10 (0 : Int32) _ _ _ _ _ (by omega) (by omega) hw hS (lv_sub hl [3, 4, 5, 6, 7, 8, 9, 11, 12] rfl) hf
                  · rw [if_neg hc] at hf
                    refine lv_aload_n cx.1 cx.2.1 dL_told_234 rfl (lv_at hl 3 rfl) ?_
                    obtain ⟨v_64, S_65, hv, hf⟩ := gbs_some hf
                    refine b1_V (As := []) (rest := []) cx hE.1 hX hZ hw hS hv (fun t ht => a_X10_errorPosition l hst G S_63.1 v_64 t ht) rfl gw_134 gy_X10_errorPosition gi_X10_errorPosition ⟨Nat.le_of_ble_eq_true rfl, Nat.le_of_ble_eq_true rfl⟩ (show cells + 0 + 4 + 4 + 0 + 4 + 4 + 0 ≤ 351 ∧ slots + 0 + 24 + 24 + 0 + 24 + 24 + 0 ≤ 2106 from ⟨by omega, by omega⟩) rfl hl.1 rfl (Nat.le_of_ble_eq_true rfl) dL_told_235 (fun H locs hw hS => ?_)
                    refine W.eq (g2 := F0 m 238 ls [.int v_64]) rfl ?_
                    refine lv_bipush (v := (-9 : Int32)) cx.1 cx.2.1 dL_told_238 (by decide) ?_
                    refine lv_icmp_ne (tgt := 247) cx.1 cx.2.1 dL_told_240 (by decide) (fun hc => ?_) (fun hc => ?_)
                    · rw [if_neg hc] at hf
                      refine lv_iconst (v := (0 : Int32)) cx.1 cx.2.1 dL_told_247 (by decide) ?_
                      exact hB_248 (L_told_105 xs L n_105) n_105 hK105 S_65 x3 x5 x6 x7 x9 x10 (0 : Int32) _ _ _ _ _ (by omega) (by omega) hw hS (lv_sub hl [3, 4, 5, 6, 7, 8, 9, 11, 12] rfl) hf
                    · rw [if_pos hc] at hf
                      refine lv_iconst (v := (1 : Int32)) cx.1 cx.2.1 dL_told_243 (by decide) ?_
                      refine lv_goto (tgt := 248) cx.1 cx.2.1 dL_told_244 (by decide) ?_
                      exact hB_248 (L_told_105 xs L n_105) n_105 hK105 S_65 x3 x5 x6 x7 x9 x10 (1 : Int32) _ _ _ _ _ (by omega) (by omega) hw hS (lv_sub hl [3, 4, 5, 6, 7, 8, 9, 11, 12] rfl) hf
  have hB_97 : ∀ (S : At2) (x3 : Int32) (x5 : Int32) (x6 : Int32) (x7 : Int32) (t0 : Int32) (H : Heap) (locs : List Loc) (ls : Array Slot) (cells slots : Nat), cells + (343) ≤ 351 → slots + (2058) ≤ 2106 → gPB G K S H → va_S (gAr (gN2 G K) s.heap.size) s.heap H locs → lv_has ls 15 [(0, .ref (G.2.1 0)), (1, .ref (K.2.1 0)), (2, .ref b), (3, .int x3), (5, .int x5), (6, .int x6), (7, .int x7)] → B_told_97 xs L S x3 x5 x6 x7 t0 = some (r, S') → W p l e (gRx 10 209 351 2106) s m ([.ref (G.2.1 0), .ref (K.2.1 0), .ref b, .int a3] : List Value).toArray below meth c H locs cells slots (MQ below (gQr (gPB G K S') (some (.int r)) (gAr (gN2 G K) s.heap.size)) ([.ref (G.2.1 0), .ref (K.2.1 0), .ref b, .int a3] : List Value).toArray s 351 2106 (gAr (gN2 G K) s.heap.size)) (F0 m 97 ls [.int t0]) := by
    intro S x3 x5 x6 x7 t0 H locs ls cells slots hcl hsl hw hS hl hf
    unfold B_told_97 at hf
    refine lv_istore (lv' := [(8, .int t0), (0, .ref (G.2.1 0)), (1, .ref (K.2.1 0)), (2, .ref b), (3, .int x3), (5, .int x5), (6, .int x6), (7, .int x7)]) cx.1 cx.2.1 dL_told_97 hl (by decide) rfl (fun ls hl => ?_)
    refine lv_iconst (v := (2 : Int32)) cx.1 cx.2.1 dL_told_99 (by decide) ?_
    refine lv_istore (lv' := [(9, .int (2 : Int32)), (8, .int t0), (0, .ref (G.2.1 0)), (1, .ref (K.2.1 0)), (2, .ref b), (3, .int x3), (5, .int x5), (6, .int x6), (7, .int x7)]) cx.1 cx.2.1 dL_told_100 hl (by decide) rfl (fun ls hl => ?_)
    refine lv_iconst (v := (0 : Int32)) cx.1 cx.2.1 dL_told_102 (by decide) ?_
    refine lv_istore (lv' := [(10, .int (0 : Int32)), (9, .int (2 : Int32)), (8, .int t0), (0, .ref (G.2.1 0)), (1, .ref (K.2.1 0)), (2, .ref b), (3, .int x3), (5, .int x5), (6, .int x6), (7, .int x7)]) cx.1 cx.2.1 dL_told_103 hl (by decide) rfl (fun ls hl => ?_)
    exact hL_105 10 S x3 x5 x6 x7 t0 (2 : Int32) (0 : Int32) _ _ _ _ _ (by omega) (by omega) hw hS (lv_sub hl [3, 4, 5, 6, 7, 8, 9, 2, 1, 0] rfl) hf
  have hl : lv_has ls 15 [(0, .ref (G.2.1 0)), (1, .ref (K.2.1 0)), (2, .ref b), (3, .int a3)] := hl
  unfold h_told at hf
  refine lv_aload_n cx.1 cx.2.1 dL_told_0 rfl (lv_at hl 2 rfl) ?_
  refine lv_iload_n cx.1 cx.2.1 dL_told_1 rfl (lv_at hl 3 rfl) ?_
  obtain ⟨hnn, hf⟩ := gck_some hf
  obtain ⟨v_66, ev_66, hf⟩ := gvi_ex hf
  refine b_num (As := [.ref b, .int a3]) (rest := []) cx hE.2 hX hZ hw hS (a_number l G b L xs a3 hL (of_decide_eq_true hnn)) gw_836 gyl_L_number gil_L_number ⟨Nat.le_of_ble_eq_true rfl, Nat.le_of_ble_eq_true rfl⟩ (show 0 + 0 ≤ 351 ∧ 0 + 0 ≤ 2106 from ⟨by omega, by omega⟩) rfl hl.1 rfl (Nat.le_of_ble_eq_true rfl) dL_told_2 (fun H locs hw hS => ?_)
  refine W.eq (g2 := F0 m 5 ls [.int v_66]) (by rw [← ev_66]) ?_
  refine lv_istore (lv' := [(4, .int v_66), (0, .ref (G.2.1 0)), (1, .ref (K.2.1 0)), (2, .ref b), (3, .int a3)]) cx.1 cx.2.1 dL_told_5 hl (by decide) rfl (fun ls hl => ?_)
  refine lv_iconst (v := (2 : Int32)) cx.1 cx.2.1 dL_told_7 (by decide) ?_
  refine lv_iload cx.1 cx.2.1 dL_told_8 (lv_at hl 0 rfl) ?_
  refine lv_bipush (v := (6 : Int32)) cx.1 cx.2.1 dL_told_10 (by decide) ?_
  refine lv_irem cx.1 cx.2.1 dL_told_12 (by decide) ?_
  refine lv_iadd cx.1 cx.2.1 dL_told_13 ?_
  obtain ⟨x5_67, ex5_67, hf⟩ := gvi_ex hf
  refine W.eq (g2 := F0 m 14 ls [.int x5_67]) (by rw [← ex5_67]) ?_
  refine lv_istore (lv' := [(5, .int x5_67), (4, .int v_66), (0, .ref (G.2.1 0)), (1, .ref (K.2.1 0)), (2, .ref b), (3, .int a3)]) cx.1 cx.2.1 dL_told_14 hl (by decide) rfl (fun ls hl => ?_)
  refine lv_iconst (v := (2 : Int32)) cx.1 cx.2.1 dL_told_16 (by decide) ?_
  refine lv_iload cx.1 cx.2.1 dL_told_17 (lv_at hl 1 rfl) ?_
  refine lv_bipush (v := (8 : Int32)) cx.1 cx.2.1 dL_told_19 (by decide) ?_
  refine lv_idiv cx.1 cx.2.1 dL_told_21 (by decide) ?_
  refine lv_bipush (v := (8 : Int32)) cx.1 cx.2.1 dL_told_22 (by decide) ?_
  refine lv_irem cx.1 cx.2.1 dL_told_24 (by decide) ?_
  refine lv_iadd cx.1 cx.2.1 dL_told_25 ?_
  obtain ⟨x6_68, ex6_68, hf⟩ := gvi_ex hf
  refine W.eq (g2 := F0 m 26 ls [.int x6_68]) (by rw [← ex6_68]) ?_
  refine lv_istore (lv' := [(6, .int x6_68), (5, .int x5_67), (4, .int v_66), (0, .ref (G.2.1 0)), (1, .ref (K.2.1 0)), (2, .ref b), (3, .int a3)]) cx.1 cx.2.1 dL_told_26 hl (by decide) rfl (fun ls hl => ?_)
  refine lv_iconst (v := (1 : Int32)) cx.1 cx.2.1 dL_told_28 (by decide) ?_
  refine lv_iload cx.1 cx.2.1 dL_told_29 (lv_at hl 2 rfl) ?_
  refine lv_sipush (v := (128 : Int32)) cx.1 cx.2.1 dL_told_31 (by decide) ?_
  refine lv_idiv cx.1 cx.2.1 dL_told_34 (by decide) ?_
  refine lv_bipush (v := (6 : Int32)) cx.1 cx.2.1 dL_told_35 (by decide) ?_
  refine lv_irem cx.1 cx.2.1 dL_told_37 (by decide) ?_
  refine lv_iadd cx.1 cx.2.1 dL_told_38 ?_
  obtain ⟨x7_69, ex7_69, hf⟩ := gvi_ex hf
  refine W.eq (g2 := F0 m 39 ls [.int x7_69]) (by rw [← ex7_69]) ?_
  refine lv_istore (lv' := [(7, .int x7_69), (6, .int x6_68), (5, .int x5_67), (4, .int v_66), (0, .ref (G.2.1 0)), (1, .ref (K.2.1 0)), (2, .ref b), (3, .int a3)]) cx.1 cx.2.1 dL_told_39 hl (by decide) rfl (fun ls hl => ?_)
  refine lv_aload_n cx.1 cx.2.1 dL_told_41 rfl (lv_at hl 4 rfl) ?_
  obtain ⟨v_70, S_71, hv, hf⟩ := gbs_some hf
  refine b1_V (As := []) (rest := []) cx hE.1 hX hZ hw hS hv (fun t ht => a_X10_clearText l hst G S.1 v_70 t ht) rfl gw_841 gy_X10_clearText gi_X10_clearText ⟨Nat.le_of_ble_eq_true rfl, Nat.le_of_ble_eq_true rfl⟩ (show 0 + 0 + 0 ≤ 351 ∧ 0 + 0 + 0 ≤ 2106 from ⟨by omega, by omega⟩) rfl hl.1 rfl (Nat.le_of_ble_eq_true rfl) dL_told_42 (fun H locs hw hS => ?_)
  refine W.eq (g2 := F0 m 45 ls [.int v_70]) rfl ?_
  refine lv_aload_n cx.1 cx.2.1 dL_told_45 rfl (lv_at hl 5 rfl) ?_
  obtain ⟨v_72, S_73, hv, hf⟩ := gbs_some hf
  refine b2_V (As := []) (rest := [.int v_70]) cx hE.1 hX hZ hw hS hv (fun t ht => a_X10_clearText l hst K S_71.2 v_72 t ht) rfl gw_841 gy_X10_clearText gi_X10_clearText ⟨Nat.le_of_ble_eq_true rfl, Nat.le_of_ble_eq_true rfl⟩ (show 0 + 0 + 0 + 0 ≤ 351 ∧ 0 + 0 + 0 + 0 ≤ 2106 from ⟨by omega, by omega⟩) rfl hl.1 rfl (Nat.le_of_ble_eq_true rfl) dL_told_46 (fun H locs hw hS => ?_)
  refine W.eq (g2 := F0 m 49 ls [.int v_72, .int v_70]) rfl ?_
  refine lv_icmp_ne (tgt := 96) cx.1 cx.2.1 dL_told_49 (by decide) (fun hc => ?_) (fun hc => ?_)
  · rw [if_neg hc] at hf
    refine lv_iconst (v := (0 : Int32)) cx.1 cx.2.1 dL_told_96 (by decide) ?_
    exact hB_97 S_73 a3 x5_67 x6_68 x7_69 (0 : Int32) _ _ _ _ _ (by omega) (by omega) hw hS (lv_sub hl [4, 5, 6, 7, 2, 1, 0] rfl) hf
  · rw [if_pos hc] at hf
    refine lv_aload_n cx.1 cx.2.1 dL_told_52 rfl (lv_at hl 4 rfl) ?_
    refine lv_aload_n cx.1 cx.2.1 dL_told_53 rfl (lv_at hl 5 rfl) ?_
    refine lv_bipush (v := (82 : Int32)) cx.1 cx.2.1 dL_told_54 (by decide) ?_
    obtain ⟨v_74, S_75, hv, hf⟩ := gbs_some hf
    refine b_S (As := [.ref (G.2.1 0), .ref (K.2.1 0), .int (82 : Int32)]) (rest := []) cx hE.1 hX hZ hw hS (a_put l hst G K (82 : Int32) S_73 v_74 S_75 hv) gw_849 gyl_L_put gil_L_put ⟨Nat.le_of_ble_eq_true rfl, Nat.le_of_ble_eq_true rfl⟩ (show 0 + 0 + 0 + 0 + 4 ≤ 351 ∧ 0 + 0 + 0 + 0 + 24 ≤ 2106 from ⟨by omega, by omega⟩) rfl hl.1 rfl (Nat.le_of_ble_eq_true rfl) dL_told_56 (fun H locs hw hS => ?_)
    refine W.eq (g2 := F0 m 59 ls [.int v_74]) rfl ?_
    refine lv_if_eq (tgt := 96) cx.1 cx.2.1 dL_told_59 (by decide) (fun hc => ?_) (fun hc => ?_)
    · rw [if_pos hc] at hf
      refine lv_iconst (v := (0 : Int32)) cx.1 cx.2.1 dL_told_96 (by decide) ?_
      exact hB_97 S_75 a3 x5_67 x6_68 x7_69 (0 : Int32) _ _ _ _ _ (by omega) (by omega) hw hS (lv_sub hl [4, 5, 6, 7, 2, 1, 0] rfl) hf
    · rw [if_neg hc] at hf
      refine lv_aload_n cx.1 cx.2.1 dL_told_62 rfl (lv_at hl 4 rfl) ?_
      obtain ⟨v_76, S_77, hv, hf⟩ := gbs_some hf
      refine b1_V (As := []) (rest := []) cx hE.1 hX hZ hw hS hv (fun t ht => a_X10_errorPosition l hst G S_75.1 v_76 t ht) rfl gw_134 gy_X10_errorPosition gi_X10_errorPosition ⟨Nat.le_of_ble_eq_true rfl, Nat.le_of_ble_eq_true rfl⟩ (show 0 + 0 + 0 + 0 + 4 + 0 ≤ 351 ∧ 0 + 0 + 0 + 0 + 24 + 0 ≤ 2106 from ⟨by omega, by omega⟩) rfl hl.1 rfl (Nat.le_of_ble_eq_true rfl) dL_told_63 (fun H locs hw hS => ?_)
      refine W.eq (g2 := F0 m 66 ls [.int v_76]) rfl ?_
      refine lv_iconst (v := (1 : Int32)) cx.1 cx.2.1 dL_told_66 (by decide) ?_
      refine lv_icmp_ne (tgt := 96) cx.1 cx.2.1 dL_told_67 (by decide) (fun hc => ?_) (fun hc => ?_)
      · rw [if_neg hc] at hf
        refine lv_iconst (v := (0 : Int32)) cx.1 cx.2.1 dL_told_96 (by decide) ?_
        exact hB_97 S_77 a3 x5_67 x6_68 x7_69 (0 : Int32) _ _ _ _ _ (by omega) (by omega) hw hS (lv_sub hl [4, 5, 6, 7, 2, 1, 0] rfl) hf
      · rw [if_pos hc] at hf
        refine lv_aload_n cx.1 cx.2.1 dL_told_70 rfl (lv_at hl 4 rfl) ?_
        refine lv_aload_n cx.1 cx.2.1 dL_told_71 rfl (lv_at hl 5 rfl) ?_
        refine lv_bipush (v := (48 : Int32)) cx.1 cx.2.1 dL_told_72 (by decide) ?_
        refine lv_iload cx.1 cx.2.1 dL_told_74 (lv_at hl 2 rfl) ?_
        refine lv_iadd cx.1 cx.2.1 dL_told_76 ?_
        obtain ⟨v_78, S_79, hv, hf⟩ := gbs_some hf
        refine b_S (As := [.ref (G.2.1 0), .ref (K.2.1 0), .int ((48 : Int32) + x5_67)]) (rest := []) cx hE.1 hX hZ hw hS (a_put l hst G K ((48 : Int32) + x5_67) S_77 v_78 S_79 hv) gw_849 gyl_L_put gil_L_put ⟨Nat.le_of_ble_eq_true rfl, Nat.le_of_ble_eq_true rfl⟩ (show 0 + 0 + 0 + 0 + 4 + 0 + 4 ≤ 351 ∧ 0 + 0 + 0 + 0 + 24 + 0 + 24 ≤ 2106 from ⟨by omega, by omega⟩) rfl hl.1 rfl (Nat.le_of_ble_eq_true rfl) dL_told_77 (fun H locs hw hS => ?_)
        refine W.eq (g2 := F0 m 80 ls [.int v_78]) rfl ?_
        refine lv_if_eq (tgt := 96) cx.1 cx.2.1 dL_told_80 (by decide) (fun hc => ?_) (fun hc => ?_)
        · rw [if_pos hc] at hf
          refine lv_iconst (v := (0 : Int32)) cx.1 cx.2.1 dL_told_96 (by decide) ?_
          exact hB_97 S_79 a3 x5_67 x6_68 x7_69 (0 : Int32) _ _ _ _ _ (by omega) (by omega) hw hS (lv_sub hl [4, 5, 6, 7, 2, 1, 0] rfl) hf
        · rw [if_neg hc] at hf
          refine lv_aload_n cx.1 cx.2.1 dL_told_83 rfl (lv_at hl 4 rfl) ?_
          obtain ⟨v_80, S_81, hv, hf⟩ := gbs_some hf
          refine b1_V (As := []) (rest := []) cx hE.1 hX hZ hw hS hv (fun t ht => a_X10_errorPosition l hst G S_79.1 v_80 t ht) rfl gw_134 gy_X10_errorPosition gi_X10_errorPosition ⟨Nat.le_of_ble_eq_true rfl, Nat.le_of_ble_eq_true rfl⟩ (show 0 + 0 + 0 + 0 + 4 + 0 + 4 + 0 ≤ 351 ∧ 0 + 0 + 0 + 0 + 24 + 0 + 24 + 0 ≤ 2106 from ⟨by omega, by omega⟩) rfl hl.1 rfl (Nat.le_of_ble_eq_true rfl) dL_told_84 (fun H locs hw hS => ?_)
          refine W.eq (g2 := F0 m 87 ls [.int v_80]) rfl ?_
          refine lv_bipush (v := (-9 : Int32)) cx.1 cx.2.1 dL_told_87 (by decide) ?_
          refine lv_icmp_ne (tgt := 96) cx.1 cx.2.1 dL_told_89 (by decide) (fun hc => ?_) (fun hc => ?_)
          · rw [if_neg hc] at hf
            refine lv_iconst (v := (0 : Int32)) cx.1 cx.2.1 dL_told_96 (by decide) ?_
            exact hB_97 S_81 a3 x5_67 x6_68 x7_69 (0 : Int32) _ _ _ _ _ (by omega) (by omega) hw hS (lv_sub hl [4, 5, 6, 7, 2, 1, 0] rfl) hf
          · rw [if_pos hc] at hf
            refine lv_iconst (v := (1 : Int32)) cx.1 cx.2.1 dL_told_92 (by decide) ?_
            refine lv_goto (tgt := 97) cx.1 cx.2.1 dL_told_93 (by decide) ?_
            exact hB_97 S_81 a3 x5_67 x6_68 x7_69 (1 : Int32) _ _ _ _ _ (by omega) (by omega) hw hS (lv_sub hl [4, 5, 6, 7, 2, 1, 0] rfl) hf
