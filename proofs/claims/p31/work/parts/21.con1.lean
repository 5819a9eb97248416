set_option maxHeartbeats 4000000 in
set_option maxRecDepth 100000 in
theorem c_X1_leaveHolder (l : Launch) (G : gG) {b : Nat} (hb : IsSt b) (a1 : Int32) (S : Sg) (S' : Sg) (hf : f_X1_leaveHolder b a1 S = some S') : Ct l yX1_leaveHolder [Cond.code yX1_leaveHolder cX1_leaveHolder 3 none] (gR 1 22) G [.ref (G.2.1 (b + 2)), .int a1] S none S' := by
  refine Ct_of (by decide) (Nat.le_of_ble_eq_true rfl) ?_
  intro p e s m below meth c ls cx hr hlk hw hS hl
  have hN := cx.2.2.2.2.hN
  have hL_2 : ∀ (n : Nat), ∀ (S : Sg) (x1 : Int32) (x2 : Int32) (H : Heap) (locs : List Loc) (ls : Array Slot), gP G S H → va_S (gA G s.heap.size) s.heap H locs → lv_has ls 3 [(0, .ref (G.2.1 (b + 2))), (1, .int x1), (2, .int x2)] → L_X1_leaveHolder_2 b n S x1 x2 = some S' → W p l e (gR 1 22) s m ([.ref (G.2.1 (b + 2)), .int a1] : List Value).toArray below meth c H locs 0 0 (MQ below (gQ G S' none (gA G s.heap.size)) ([.ref (G.2.1 (b + 2)), .int a1] : List Value).toArray s 0 0 (gA G s.heap.size)) (F0 m 2 ls []) := by
    intro n
    induction n with
    | zero => intro S x1 x2 H locs ls hw hS hl hf; cases hf
    | succ n hK2 =>
      intro S x1 x2 H locs ls hw hS hl hf
      have hf : Lb_X1_leaveHolder_2 b (L_X1_leaveHolder_2 b n) S x1 x2 = some S' := hf
      unfold Lb_X1_leaveHolder_2 at hf
      refine lv_iload_n cx.1 cx.2.1 dX1_leaveHolder_2 rfl (lv_at hl 2 rfl) ?_
      refine lv_aload_n cx.1 cx.2.1 dX1_leaveHolder_3 rfl (lv_at hl 0 rfl) ?_
      refine g_get (C := RX1) (T := TX1) (N := 7) (v := .int (S (b + 2) 6)) cx hw inlX1 (b + 2) (Nat.lt_of_lt_of_le (hb.lt (j := 2) (by omega)) hN) (he_s2 hb) rfl 6 (by decide) gw_175 rfl rfl dX1_leaveHolder_4 ?_
      refine lv_icmp_ge (tgt := 38) cx.1 cx.2.1 dX1_leaveHolder_7 (by decide) (fun hc => ?_) (fun hc => ?_)
      · rw [if_pos hc] at hf
        exact g_vreti cx hr hlk hw hS hf dX1_leaveHolder_38
      · rw [if_neg hc] at hf
        refine lv_aload_n cx.1 cx.2.1 dX1_leaveHolder_10 rfl (lv_at hl 0 rfl) ?_
        refine g_get (C := RX1) (T := TX1) (N := 7) (v := .ref (G.2.1 (b + 12))) cx hw inlX1 (b + 2) (Nat.lt_of_lt_of_le (hb.lt (j := 2) (by omega)) hN) (he_s2 hb) rfl 4 (by decide) gw_66 rfl rfl dX1_leaveHolder_11 ?_
        refine lv_iload_n cx.1 cx.2.1 dX1_leaveHolder_14 rfl (lv_at hl 2 rfl) ?_
        obtain ⟨v_2, S_1, hv, hf⟩ := gbi_some hf
        refine g_N (As := [.ref (G.2.1 (b + 12)), .int x2]) (rest := []) cx hw hS (c_X10_at l G (ia_s12 hN hb) x2 S v_2 S_1 hv) gnm_28 gy_X10_at gi_X10_at ⟨Nat.le_of_ble_eq_true rfl, Nat.le_of_ble_eq_true rfl⟩ ⟨Nat.zero_le _, Nat.zero_le _⟩ rfl hl.1 rfl (Nat.le_of_ble_eq_true rfl) dX1_leaveHolder_15 (fun H locs hw hS => ?_)
        refine W.eq (g2 := F0 m 18 ls [.int v_2]) rfl ?_
        refine lv_iload_n cx.1 cx.2.1 dX1_leaveHolder_18 rfl (lv_at hl 1 rfl) ?_
        refine lv_icmp_ne (tgt := 32) cx.1 cx.2.1 dX1_leaveHolder_19 (by decide) (fun hc => ?_) (fun hc => ?_)
        · rw [if_neg hc] at hf
          obtain ⟨x2_3, ex2_3, hf⟩ := gvi_ex hf
          refine lv_iinc (v := x2_3) (lv' := [(2, .int x2_3), (0, .ref (G.2.1 (b + 2))), (1, .int x1)]) cx.1 cx.2.1 dX1_leaveHolder_32 hl (k := 2) rfl (by rw [← ex2_3]; rfl) (by decide) rfl (fun ls hl => ?_)
          refine lv_goto (tgt := 2) cx.1 cx.2.1 dX1_leaveHolder_35 (by decide) ?_
          exact hK2 S_1 x1 x2_3 _ _ _ hw hS (lv_sub hl [1, 2, 0] rfl) hf
        · rw [if_pos hc] at hf
          refine lv_aload_n cx.1 cx.2.1 dX1_leaveHolder_22 rfl (lv_at hl 0 rfl) ?_
          refine g_get (C := RX1) (T := TX1) (N := 7) (v := .ref (G.2.1 (b + 12))) cx hw inlX1 (b + 2) (Nat.lt_of_lt_of_le (hb.lt (j := 2) (by omega)) hN) (he_s2 hb) rfl 4 (by decide) gw_66 rfl rfl dX1_leaveHolder_23 ?_
          refine lv_iload_n cx.1 cx.2.1 dX1_leaveHolder_26 rfl (lv_at hl 2 rfl) ?_
          refine lv_bipush (v := (-9 : Int32)) cx.1 cx.2.1 dX1_leaveHolder_27 (by decide) ?_
          obtain ⟨S_4, hv, hf⟩ := gbv_some hf
          refine g_N (As := [.ref (G.2.1 (b + 12)), .int x2, .int (-9 : Int32)]) (rest := []) cx hw hS (c_X10_put l G (ia_s12 hN hb) x2 (-9 : Int32) S_1 S_4 hv) gnm_13 gy_X10_put gi_X10_put ⟨Nat.le_of_ble_eq_true rfl, Nat.le_of_ble_eq_true rfl⟩ ⟨Nat.zero_le _, Nat.zero_le _⟩ rfl hl.1 rfl (Nat.le_of_ble_eq_true rfl) dX1_leaveHolder_29 (fun H locs hw hS => ?_)
          refine W.eq (g2 := F0 m 32 ls []) rfl ?_
          obtain ⟨x2_5, ex2_5, hf⟩ := gvi_ex hf
          refine lv_iinc (v := x2_5) (lv' := [(2, .int x2_5), (0, .ref (G.2.1 (b + 2))), (1, .int x1)]) cx.1 cx.2.1 dX1_leaveHolder_32 hl (k := 2) rfl (by rw [← ex2_5]; rfl) (by decide) rfl (fun ls hl => ?_)
          refine lv_goto (tgt := 2) cx.1 cx.2.1 dX1_leaveHolder_35 (by decide) ?_
          exact hK2 S_4 x1 x2_5 _ _ _ hw hS (lv_sub hl [1, 2, 0] rfl) hf
  have hl : lv_has ls 3 [(0, .ref (G.2.1 (b + 2))), (1, .int a1)] := hl
  unfold f_X1_leaveHolder at hf
  refine lv_iconst (v := (0 : Int32)) cx.1 cx.2.1 dX1_leaveHolder_0 (by decide) ?_
  refine lv_istore_n (lv' := [(2, .int (0 : Int32)), (0, .ref (G.2.1 (b + 2))), (1, .int a1)]) cx.1 cx.2.1 dX1_leaveHolder_1 rfl hl (by decide) rfl (fun ls hl => ?_)
  exact hL_2 gFu S a1 (0 : Int32) _ _ _ hw hS (lv_sub hl [1, 2, 0] rfl) hf
set_option maxHeartbeats 4000000 in
set_option maxRecDepth 100000 in
theorem c_X7_settle (l : Launch) (G : gG) {b : Nat} (hb : IsSt b) (S : Sg) (r : Int32) (S' : Sg) (hf : f_X7_settle b S = some (r, S')) : Ct l yX7_settle [Cond.code yX7_settle cX7_settle 3 (some .int)] (gR 3 66) G [.ref (G.2.1 b)] S (some (.int r)) S' := by
  refine Ct_of (by decide) (Nat.le_of_ble_eq_true rfl) ?_
  intro p e s m below meth c ls cx hr hlk hw hS hl
  have hN := cx.2.2.2.2.hN
  have hL_4 : ∀ (n : Nat), ∀ (S : Sg) (x1 : Int32) (x2 : Int32) (H : Heap) (locs : List Loc) (ls : Array Slot), gP G S H → va_S (gA G s.heap.size) s.heap H locs → lv_has ls 3 [(0, .ref (G.2.1 b)), (1, .int x1), (2, .int x2)] → L_X7_settle_4 b n S x1 x2 = some (r, S') → W p l e (gR 3 66) s m ([.ref (G.2.1 b)] : List Value).toArray below meth c H locs 0 0 (MQ below (gQ G S' (some (.int r)) (gA G s.heap.size)) ([.ref (G.2.1 b)] : List Value).toArray s 0 0 (gA G s.heap.size)) (F0 m 4 ls []) := by
    intro n
    induction n with
    | zero => intro S x1 x2 H locs ls hw hS hl hf; cases hf
    | succ n hK4 =>
      intro S x1 x2 H locs ls hw hS hl hf
      have hf : Lb_X7_settle_4 b (L_X7_settle_4 b n) S x1 x2 = some (r, S') := hf
      unfold Lb_X7_settle_4 at hf
      refine lv_iload_n cx.1 cx.2.1 dX7_settle_4 rfl (lv_at hl 2 rfl) ?_
      refine lv_iconst (v := (4 : Int32)) cx.1 cx.2.1 dX7_settle_5 (by decide) ?_
      refine lv_icmp_ge (tgt := 56) cx.1 cx.2.1 dX7_settle_6 (by decide) (fun hc => ?_) (fun hc => ?_)
      · rw [if_pos hc] at hf
        refine lv_iload_n cx.1 cx.2.1 dX7_settle_56 rfl (lv_at hl 1 rfl) ?_
        exact g_ireti cx hr hlk hw hS hf dX7_settle_57
      · rw [if_neg hc] at hf
        refine lv_aload_n cx.1 cx.2.1 dX7_settle_9 rfl (lv_at hl 0 rfl) ?_
        refine g_get (C := RX7) (T := TX7) (N := 9) (v := .ref (G.2.1 (b + 3))) cx hw inlX7 b (Nat.lt_of_lt_of_le hb.lt0 hN) (he_s0 hb) rfl 2 (by decide) gw_51 rfl rfl dX7_settle_10 ?_
        refine g_get (C := RX0) (T := TX0) (N := 7) (v := .ref (G.2.1 (b + 14))) cx hw inlX0 (b + 3) (Nat.lt_of_lt_of_le (hb.lt (j := 3) (by omega)) hN) (he_s3 hb) rfl 0 (by decide) gw_448 rfl rfl dX7_settle_13 ?_
        refine lv_iload_n cx.1 cx.2.1 dX7_settle_16 rfl (lv_at hl 2 rfl) ?_
        obtain ⟨v_2, S_1, hv, hf⟩ := gbi_some hf
        refine g_N (As := [.ref (G.2.1 (b + 14)), .int x2]) (rest := []) cx hw hS (c_X10_at l G (ia_s14 hN hb) x2 S v_2 S_1 hv) gnm_30 gy_X10_at gi_X10_at ⟨Nat.le_of_ble_eq_true rfl, Nat.le_of_ble_eq_true rfl⟩ ⟨Nat.zero_le _, Nat.zero_le _⟩ rfl hl.1 rfl (Nat.le_of_ble_eq_true rfl) dX7_settle_17 (fun H locs hw hS => ?_)
        refine W.eq (g2 := F0 m 20 ls [.int v_2]) rfl ?_
        refine lv_if_ge (tgt := 50) cx.1 cx.2.1 dX7_settle_20 (by decide) (fun hc => ?_) (fun hc => ?_)
        · rw [if_pos hc] at hf
          obtain ⟨x2_3, ex2_3, hf⟩ := gvi_ex hf
          refine lv_iinc (v := x2_3) (lv' := [(2, .int x2_3), (0, .ref (G.2.1 b)), (1, .int x1)]) cx.1 cx.2.1 dX7_settle_50 hl (k := 2) rfl (by rw [← ex2_3]; rfl) (by decide) rfl (fun ls hl => ?_)
          refine lv_goto (tgt := 4) cx.1 cx.2.1 dX7_settle_53 (by decide) ?_
          exact hK4 S_1 x1 x2_3 _ _ _ hw hS (lv_sub hl [1, 2, 0] rfl) hf
        · rw [if_neg hc] at hf
          refine lv_aload_n cx.1 cx.2.1 dX7_settle_23 rfl (lv_at hl 0 rfl) ?_
          refine g_get (C := RX7) (T := TX7) (N := 9) (v := .ref (G.2.1 (b + 3))) cx hw inlX7 b (Nat.lt_of_lt_of_le hb.lt0 hN) (he_s0 hb) rfl 2 (by decide) gw_51 rfl rfl dX7_settle_24 ?_
          refine lv_iload_n cx.1 cx.2.1 dX7_settle_27 rfl (lv_at hl 2 rfl) ?_
          obtain ⟨S_4, hv, hf⟩ := gbv_some hf
          refine g_V (As := [.int x2]) (rest := []) cx hw hS (c_X0_goBankrupt l G hb x2 S_1 S_4 hv) (Nat.lt_of_lt_of_le (hb.lt (j := 3) (by omega)) hN) (he_s3 hb) rfl rfl gw_656 gy_X0_goBankrupt gi_X0_goBankrupt ⟨Nat.le_of_ble_eq_true rfl, Nat.le_of_ble_eq_true rfl⟩ ⟨Nat.zero_le _, Nat.zero_le _⟩ rfl hl.1 rfl (Nat.le_of_ble_eq_true rfl) dX7_settle_28 (fun H locs hw hS => ?_)
          refine W.eq (g2 := F0 m 31 ls []) rfl ?_
          refine lv_aload_n cx.1 cx.2.1 dX7_settle_31 rfl (lv_at hl 0 rfl) ?_
          refine g_get (C := RX7) (T := TX7) (N := 9) (v := .ref (G.2.1 (b + 1))) cx hw inlX7 b (Nat.lt_of_lt_of_le hb.lt0 hN) (he_s0 hb) rfl 0 (by decide) gw_43 rfl rfl dX7_settle_32 ?_
          refine lv_iload_n cx.1 cx.2.1 dX7_settle_35 rfl (lv_at hl 2 rfl) ?_
          obtain ⟨S_5, hv, hf⟩ := gbv_some hf
          refine g_V (As := [.int x2]) (rest := []) cx hw hS (c_X8_returnToBank l G hb x2 S_4 S_5 hv) (Nat.lt_of_lt_of_le (hb.lt (j := 1) (by omega)) hN) (he_s1 hb) rfl rfl gw_660 gy_X8_returnToBank gi_X8_returnToBank ⟨Nat.le_of_ble_eq_true rfl, Nat.le_of_ble_eq_true rfl⟩ ⟨Nat.zero_le _, Nat.zero_le _⟩ rfl hl.1 rfl (Nat.le_of_ble_eq_true rfl) dX7_settle_36 (fun H locs hw hS => ?_)
          refine W.eq (g2 := F0 m 39 ls []) rfl ?_
          refine lv_aload_n cx.1 cx.2.1 dX7_settle_39 rfl (lv_at hl 0 rfl) ?_
          refine g_get (C := RX7) (T := TX7) (N := 9) (v := .ref (G.2.1 (b + 2))) cx hw inlX7 b (Nat.lt_of_lt_of_le hb.lt0 hN) (he_s0 hb) rfl 1 (by decide) gw_47 rfl rfl dX7_settle_40 ?_
          refine lv_iload_n cx.1 cx.2.1 dX7_settle_43 rfl (lv_at hl 2 rfl) ?_
          obtain ⟨S_6, hv, hf⟩ := gbv_some hf
          refine g_V (As := [.int x2]) (rest := []) cx hw hS (c_X1_leaveHolder l G hb x2 S_5 S_6 hv) (Nat.lt_of_lt_of_le (hb.lt (j := 2) (by omega)) hN) (he_s2 hb) rfl rfl gw_664 gy_X1_leaveHolder gi_X1_leaveHolder ⟨Nat.le_of_ble_eq_true rfl, Nat.le_of_ble_eq_true rfl⟩ ⟨Nat.zero_le _, Nat.zero_le _⟩ rfl hl.1 rfl (Nat.le_of_ble_eq_true rfl) dX7_settle_44 (fun H locs hw hS => ?_)
          refine W.eq (g2 := F0 m 47 ls []) rfl ?_
          obtain ⟨x1_7, ex1_7, hf⟩ := gvi_ex hf
          refine lv_iinc (v := x1_7) (lv' := [(1, .int x1_7), (0, .ref (G.2.1 b)), (2, .int x2)]) cx.1 cx.2.1 dX7_settle_47 hl (k := 1) rfl (by rw [← ex1_7]; rfl) (by decide) rfl (fun ls hl => ?_)
          obtain ⟨x2_8, ex2_8, hf⟩ := gvi_ex hf
          refine lv_iinc (v := x2_8) (lv' := [(2, .int x2_8), (1, .int x1_7), (0, .ref (G.2.1 b))]) cx.1 cx.2.1 dX7_settle_50 hl (k := 2) rfl (by rw [← ex2_8]; rfl) (by decide) rfl (fun ls hl => ?_)
          refine lv_goto (tgt := 4) cx.1 cx.2.1 dX7_settle_53 (by decide) ?_
          exact hK4 S_6 x1_7 x2_8 _ _ _ hw hS (lv_sub hl [2, 1, 0] rfl) hf
  have hl : lv_has ls 3 [(0, .ref (G.2.1 b))] := hl
  unfold f_X7_settle at hf
  refine lv_iconst (v := (0 : Int32)) cx.1 cx.2.1 dX7_settle_0 (by decide) ?_
  refine lv_istore_n (lv' := [(1, .int (0 : Int32)), (0, .ref (G.2.1 b))]) cx.1 cx.2.1 dX7_settle_1 rfl hl (by decide) rfl (fun ls hl => ?_)
  refine lv_iconst (v := (0 : Int32)) cx.1 cx.2.1 dX7_settle_2 (by decide) ?_
  refine lv_istore_n (lv' := [(2, .int (0 : Int32)), (1, .int (0 : Int32)), (0, .ref (G.2.1 b))]) cx.1 cx.2.1 dX7_settle_3 rfl hl (by decide) rfl (fun ls hl => ?_)
  exact hL_4 gFu S (0 : Int32) (0 : Int32) _ _ _ hw hS (lv_sub hl [2, 1, 0] rfl) hf
set_option maxHeartbeats 4000000 in
set_option maxRecDepth 100000 in
theorem c_X7_closeRound (l : Launch) (G : gG) {b : Nat} (hb : IsSt b) (S : Sg) (r : Int32) (S' : Sg) (hf : f_X7_closeRound b S = some (r, S')) : Ct l yX7_closeRound [Cond.code yX7_closeRound cX7_closeRound 2 (some .int)] (gR 4 88) G [.ref (G.2.1 b)] S (some (.int r)) S' := by
  refine Ct_of (by decide) (Nat.le_of_ble_eq_true rfl) ?_
  intro p e s m below meth c ls cx hr hlk hw hS hl
  have hN := cx.2.2.2.2.hN
  have hl : lv_has ls 2 [(0, .ref (G.2.1 b))] := hl
  unfold f_X7_closeRound at hf
  refine lv_aload_n cx.1 cx.2.1 dX7_closeRound_0 rfl (lv_at hl 0 rfl) ?_
  obtain ⟨S_1, hv, hf⟩ := gbv_some hf
  refine g_V (As := []) (rest := []) cx hw hS (c_X7_serveContracts l G hb S S_1 hv) (Nat.lt_of_lt_of_le hb.lt0 hN) (he_s0 hb) rfl rfl gw_628 gy_X7_serveContracts gi_X7_serveContracts ⟨Nat.le_of_ble_eq_true rfl, Nat.le_of_ble_eq_true rfl⟩ ⟨Nat.zero_le _, Nat.zero_le _⟩ rfl hl.1 rfl (Nat.le_of_ble_eq_true rfl) dX7_closeRound_1 (fun H locs hw hS => ?_)
  refine W.eq (g2 := F0 m 4 ls []) rfl ?_
  refine lv_aload_n cx.1 cx.2.1 dX7_closeRound_4 rfl (lv_at hl 0 rfl) ?_
  obtain ⟨S_2, hv, hf⟩ := gbv_some hf
  refine g_V (As := []) (rest := []) cx hw hS (c_X7_payUpkeep l G hb S_1 S_2 hv) (Nat.lt_of_lt_of_le hb.lt0 hN) (he_s0 hb) rfl rfl gw_643 gy_X7_payUpkeep gi_X7_payUpkeep ⟨Nat.le_of_ble_eq_true rfl, Nat.le_of_ble_eq_true rfl⟩ ⟨Nat.zero_le _, Nat.zero_le _⟩ rfl hl.1 rfl (Nat.le_of_ble_eq_true rfl) dX7_closeRound_5 (fun H locs hw hS => ?_)
  refine W.eq (g2 := F0 m 8 ls []) rfl ?_
  refine lv_aload_n cx.1 cx.2.1 dX7_closeRound_8 rfl (lv_at hl 0 rfl) ?_
  obtain ⟨v_4, S_3, hv, hf⟩ := gbi_some hf
  refine g_V (As := []) (rest := []) cx hw hS (c_X7_settle l G hb S_2 v_4 S_3 hv) (Nat.lt_of_lt_of_le hb.lt0 hN) (he_s0 hb) rfl rfl gw_652 gy_X7_settle gi_X7_settle ⟨Nat.le_of_ble_eq_true rfl, Nat.le_of_ble_eq_true rfl⟩ ⟨Nat.zero_le _, Nat.zero_le _⟩ rfl hl.1 rfl (Nat.le_of_ble_eq_true rfl) dX7_closeRound_9 (fun H locs hw hS => ?_)
  refine W.eq (g2 := F0 m 12 ls [.int v_4]) rfl ?_
  refine lv_istore_n (lv' := [(1, .int v_4), (0, .ref (G.2.1 b))]) cx.1 cx.2.1 dX7_closeRound_12 rfl hl (by decide) rfl (fun ls hl => ?_)
  refine lv_aload_n cx.1 cx.2.1 dX7_closeRound_13 rfl (lv_at hl 1 rfl) ?_
  refine lv_dup cx.1 cx.2.1 dX7_closeRound_14 rfl ?_
  refine g_get (C := RX7) (T := TX7) (N := 9) (v := .int (S_3 b 5)) cx hw inlX7 b (Nat.lt_of_lt_of_le hb.lt0 hN) (he_s0 hb) rfl 5 (by decide) gw_113 rfl rfl dX7_closeRound_15 ?_
  refine lv_iconst (v := (1 : Int32)) cx.1 cx.2.1 dX7_closeRound_18 (by decide) ?_
  refine lv_iadd cx.1 cx.2.1 dX7_closeRound_19 ?_
  obtain ⟨S_5, eS_5, hf⟩ := gst_ex hf
  refine g_put (C := RX7) (T := TX7) (N := 9) cx hw hS inlX7 tyX7 tyX7_ok nmX7 b (Nat.lt_of_lt_of_le hb.lt0 hN) (he_s0 hb) rfl 5 (by decide) gw_113 rfl rfl (by decide +kernel) (Nat.le_of_ble_eq_true rfl) (by rw [u2_s, (he_s0 hb)]; rfl) dX7_closeRound_20 (fun H locs hw hS => ?_)
  rw [eS_5] at hw
  refine lv_aload_n cx.1 cx.2.1 dX7_closeRound_23 rfl (lv_at hl 1 rfl) ?_
  refine g_get (C := RX7) (T := TX7) (N := 9) (v := .ref (G.2.1 (b + 2))) cx hw inlX7 b (Nat.lt_of_lt_of_le hb.lt0 hN) (he_s0 hb) rfl 1 (by decide) gw_47 rfl rfl dX7_closeRound_24 ?_
  refine g_get (C := RX1) (T := TX1) (N := 7) (v := .ref (G.2.1 (b + 13))) cx hw inlX1 (b + 2) (Nat.lt_of_lt_of_le (hb.lt (j := 2) (by omega)) hN) (he_s2 hb) rfl 5 (by decide) gw_626 rfl rfl dX7_closeRound_27 ?_
  refine lv_iconst (v := (0 : Int32)) cx.1 cx.2.1 dX7_closeRound_30 (by decide) ?_
  obtain ⟨S_6, hv, hf⟩ := gbv_some hf
  refine g_N (As := [.ref (G.2.1 (b + 13)), .int (0 : Int32)]) (rest := []) cx hw hS (c_X10_fill l G (ia_s13 hN hb) (0 : Int32) S_5 S_6 hv) gnm_34 gy_X10_fill gi_X10_fill ⟨Nat.le_of_ble_eq_true rfl, Nat.le_of_ble_eq_true rfl⟩ ⟨Nat.zero_le _, Nat.zero_le _⟩ rfl hl.1 rfl (Nat.le_of_ble_eq_true rfl) dX7_closeRound_31 (fun H locs hw hS => ?_)
  refine W.eq (g2 := F0 m 34 ls []) rfl ?_
  refine lv_aload_n cx.1 cx.2.1 dX7_closeRound_34 rfl (lv_at hl 1 rfl) ?_
  refine g_get (C := RX7) (T := TX7) (N := 9) (v := .ref (G.2.1 (b + 3))) cx hw inlX7 b (Nat.lt_of_lt_of_le hb.lt0 hN) (he_s0 hb) rfl 2 (by decide) gw_51 rfl rfl dX7_closeRound_35 ?_
  refine g_get (C := RX0) (T := TX0) (N := 7) (v := .ref (G.2.1 (b + 20))) cx hw inlX0 (b + 3) (Nat.lt_of_lt_of_le (hb.lt (j := 3) (by omega)) hN) (he_s3 hb) rfl 6 (by decide) gw_627 rfl rfl dX7_closeRound_38 ?_
  refine lv_iconst (v := (0 : Int32)) cx.1 cx.2.1 dX7_closeRound_41 (by decide) ?_
  obtain ⟨S_7, hv, hf⟩ := gbv_some hf
  refine g_N (As := [.ref (G.2.1 (b + 20)), .int (0 : Int32)]) (rest := []) cx hw hS (c_X10_fill l G (ia_s20 hN hb) (0 : Int32) S_6 S_7 hv) gnm_34 gy_X10_fill gi_X10_fill ⟨Nat.le_of_ble_eq_true rfl, Nat.le_of_ble_eq_true rfl⟩ ⟨Nat.zero_le _, Nat.zero_le _⟩ rfl hl.1 rfl (Nat.le_of_ble_eq_true rfl) dX7_closeRound_42 (fun H locs hw hS => ?_)
  refine W.eq (g2 := F0 m 45 ls []) rfl ?_
  refine lv_iload_n cx.1 cx.2.1 dX7_closeRound_45 rfl (lv_at hl 0 rfl) ?_
  exact g_ireti cx hr hlk hw hS hf dX7_closeRound_46
set_option maxHeartbeats 4000000 in
set_option maxRecDepth 100000 in
theorem c_X10_endRound (l : Launch) (G : gG) (S : Sg) (r : Int32) (S' : Sg) (hf : f_X10_endRound S = some (r, S')) : Ct l yX10_endRound [Cond.code yX10_endRound cX10_endRound 1 (some .int)] (gR 6 165) G [.ref (G.2.1 0)] S (some (.int r)) S' := by
  refine Ct_of (by decide) (Nat.le_of_ble_eq_true rfl) ?_
  intro p e s m below meth c ls cx hr hlk hw hS hl
  have hN := cx.2.2.2.2.hN
  have hl : lv_has ls 1 [(0, .ref (G.2.1 0))] := hl
  unfold f_X10_endRound at hf
  refine lv_aload_n cx.1 cx.2.1 dX10_endRound_0 rfl (lv_at hl 0 rfl) ?_
  refine g_get (C := RX10) (T := TX10) (N := 6) (v := .ref (G.2.1 3)) cx hw inlX10 0 (by omega) he_c0 rfl 3 (by decide) gw_22 rfl rfl dX10_endRound_1 ?_
  refine lv_aload_n cx.1 cx.2.1 dX10_endRound_4 rfl (lv_at hl 0 rfl) ?_
  refine g_get (C := RX10) (T := TX10) (N := 6) (v := .ref (G.2.1 14)) cx hw inlX10 0 (by omega) he_c0 rfl 1 (by decide) gw_17 rfl rfl dX10_endRound_5 ?_
  obtain ⟨S_1, hv, hf⟩ := gbv_some hf
  refine g_V (As := [.ref (G.2.1 14)]) (rest := []) cx hw hS (c_X3_remember l G st_14 S S_1 hv) (by omega) he_c3 rfl rfl gw_455 gy_X3_remember gi_X3_remember ⟨Nat.le_of_ble_eq_true rfl, Nat.le_of_ble_eq_true rfl⟩ ⟨Nat.zero_le _, Nat.zero_le _⟩ rfl hl.1 rfl (Nat.le_of_ble_eq_true rfl) dX10_endRound_8 (fun H locs hw hS => ?_)
  refine W.eq (g2 := F0 m 11 ls []) rfl ?_
  refine lv_aload_n cx.1 cx.2.1 dX10_endRound_11 rfl (lv_at hl 0 rfl) ?_
  refine g_get (C := RX10) (T := TX10) (N := 6) (v := .ref (G.2.1 14)) cx hw inlX10 0 (by omega) he_c0 rfl 1 (by decide) gw_17 rfl rfl dX10_endRound_12 ?_
  obtain ⟨v_3, S_2, hv, hf⟩ := gbi_some hf
  refine g_V (As := []) (rest := []) cx hw hS (c_X7_closeRound l G st_14 S_1 v_3 S_2 hv) (Nat.lt_of_lt_of_le st_14.lt0 hN) (he_s0 st_14) rfl rfl gw_622 gy_X7_closeRound gi_X7_closeRound ⟨Nat.le_of_ble_eq_true rfl, Nat.le_of_ble_eq_true rfl⟩ ⟨Nat.zero_le _, Nat.zero_le _⟩ rfl hl.1 rfl (Nat.le_of_ble_eq_true rfl) dX10_endRound_15 (fun H locs hw hS => ?_)
  refine W.eq (g2 := F0 m 18 ls [.int v_3]) rfl ?_
  exact g_ireti cx hr hlk hw hS hf dX10_endRound_18
set_option maxHeartbeats 4000000 in
set_option maxRecDepth 100000 in
theorem c_X2_holds (l : Launch) (G : gG) (a1 : Int32) (a2 : Int32) (S : Sg) (r : Int32) (S' : Sg) (hf : f_X2_holds a1 a2 S = some (r, S')) : Ct l yX2_holds [Cond.code yX2_holds cX2_holds 3 (some .boolean)] (gR 1 21) G [.ref (G.2.1 1), .int a1, .int a2] S (some (.int r)) S' := by
  refine Ct_of (by decide) (Nat.le_of_ble_eq_true rfl) ?_
  intro p e s m below meth c ls cx hr hlk hw hS hl
  have hN := cx.2.2.2.2.hN
  have hl : lv_has ls 3 [(0, .ref (G.2.1 1)), (1, .int a1), (2, .int a2)] := hl
  unfold f_X2_holds at hf
  refine lv_iload_n cx.1 cx.2.1 dX2_holds_0 rfl (lv_at hl 1 rfl) ?_
  refine lv_if_lt (tgt := 28) cx.1 cx.2.1 dX2_holds_1 (by decide) (fun hc => ?_) (fun hc => ?_)
  · rw [if_pos hc] at hf
    refine lv_iconst (v := (0 : Int32)) cx.1 cx.2.1 dX2_holds_28 (by decide) ?_
    exact g_zreti cx hr hlk hw hS (by decide) hf dX2_holds_29
  · rw [if_neg hc] at hf
    refine lv_iload_n cx.1 cx.2.1 dX2_holds_4 rfl (lv_at hl 1 rfl) ?_
    refine lv_aload_n cx.1 cx.2.1 dX2_holds_5 rfl (lv_at hl 0 rfl) ?_
    refine g_get (C := RX2) (T := TX2) (N := 2) (v := .int (S 1 1)) cx hw inlX2 1 (by omega) he_c1 rfl 1 (by decide) gw_142 rfl rfl dX2_holds_6 ?_
    refine lv_icmp_ge (tgt := 28) cx.1 cx.2.1 dX2_holds_9 (by decide) (fun hc => ?_) (fun hc => ?_)
    · rw [if_pos hc] at hf
      refine lv_iconst (v := (0 : Int32)) cx.1 cx.2.1 dX2_holds_28 (by decide) ?_
      exact g_zreti cx hr hlk hw hS (by decide) hf dX2_holds_29
    · rw [if_neg hc] at hf
      refine lv_aload_n cx.1 cx.2.1 dX2_holds_12 rfl (lv_at hl 0 rfl) ?_
      refine g_get (C := RX2) (T := TX2) (N := 2) (v := .ref (G.2.1 2)) cx hw inlX2 1 (by omega) he_c1 rfl 0 (by decide) gw_36 rfl rfl dX2_holds_13 ?_
      refine lv_iload_n cx.1 cx.2.1 dX2_holds_16 rfl (lv_at hl 1 rfl) ?_
      obtain ⟨v_2, S_1, hv, hf⟩ := gbi_some hf
      refine g_N (As := [.ref (G.2.1 2), .int a1]) (rest := []) cx hw hS (c_X10_at l G (ia_c2 hN) a1 S v_2 S_1 hv) gnm_12 gy_X10_at gi_X10_at ⟨Nat.le_of_ble_eq_true rfl, Nat.le_of_ble_eq_true rfl⟩ ⟨Nat.zero_le _, Nat.zero_le _⟩ rfl hl.1 rfl (Nat.le_of_ble_eq_true rfl) dX2_holds_17 (fun H locs hw hS => ?_)
      refine W.eq (g2 := F0 m 20 ls [.int v_2]) rfl ?_
      refine lv_iload_n cx.1 cx.2.1 dX2_holds_20 rfl (lv_at hl 2 rfl) ?_
      refine lv_icmp_ne (tgt := 28) cx.1 cx.2.1 dX2_holds_21 (by decide) (fun hc => ?_) (fun hc => ?_)
      · rw [if_neg hc] at hf
        refine lv_iconst (v := (0 : Int32)) cx.1 cx.2.1 dX2_holds_28 (by decide) ?_
        exact g_zreti cx hr hlk hw hS (by decide) hf dX2_holds_29
      · rw [if_pos hc] at hf
        refine lv_iconst (v := (1 : Int32)) cx.1 cx.2.1 dX2_holds_24 (by decide) ?_
        refine lv_goto (tgt := 29) cx.1 cx.2.1 dX2_holds_25 (by decide) ?_
        exact g_zreti cx hr hlk hw hS (by decide) hf dX2_holds_29
set_option maxHeartbeats 4000000 in
set_option maxRecDepth 100000 in
theorem c_X2_digitAt (l : Launch) (G : gG) (a1 : Int32) (S : Sg) (r : Int32) (S' : Sg) (hf : f_X2_digitAt a1 S = some (r, S')) : Ct l yX2_digitAt [Cond.code yX2_digitAt cX2_digitAt 3 (some .int)] (gR 1 21) G [.ref (G.2.1 1), .int a1] S (some (.int r)) S' := by
  refine Ct_of (by decide) (Nat.le_of_ble_eq_true rfl) ?_
  intro p e s m below meth c ls cx hr hlk hw hS hl
  have hN := cx.2.2.2.2.hN
  have hl : lv_has ls 3 [(0, .ref (G.2.1 1)), (1, .int a1)] := hl
  unfold f_X2_digitAt at hf
  refine lv_iload_n cx.1 cx.2.1 dX2_digitAt_0 rfl (lv_at hl 1 rfl) ?_
  refine lv_if_lt (tgt := 12) cx.1 cx.2.1 dX2_digitAt_1 (by decide) (fun hc => ?_) (fun hc => ?_)
  · rw [if_pos hc] at hf
    refine lv_iconst (v := (-1 : Int32)) cx.1 cx.2.1 dX2_digitAt_12 (by decide) ?_
    exact g_ireti cx hr hlk hw hS hf dX2_digitAt_13
  · rw [if_neg hc] at hf
    refine lv_iload_n cx.1 cx.2.1 dX2_digitAt_4 rfl (lv_at hl 1 rfl) ?_
    refine lv_aload_n cx.1 cx.2.1 dX2_digitAt_5 rfl (lv_at hl 0 rfl) ?_
    refine g_get (C := RX2) (T := TX2) (N := 2) (v := .int (S 1 1)) cx hw inlX2 1 (by omega) he_c1 rfl 1 (by decide) gw_142 rfl rfl dX2_digitAt_6 ?_
    refine lv_icmp_lt (tgt := 14) cx.1 cx.2.1 dX2_digitAt_9 (by decide) (fun hc => ?_) (fun hc => ?_)
    · rw [if_pos hc] at hf
      refine lv_aload_n cx.1 cx.2.1 dX2_digitAt_14 rfl (lv_at hl 0 rfl) ?_
      refine g_get (C := RX2) (T := TX2) (N := 2) (v := .ref (G.2.1 2)) cx hw inlX2 1 (by omega) he_c1 rfl 0 (by decide) gw_36 rfl rfl dX2_digitAt_15 ?_
      refine lv_iload_n cx.1 cx.2.1 dX2_digitAt_18 rfl (lv_at hl 1 rfl) ?_
      obtain ⟨v_2, S_1, hv, hf⟩ := gbi_some hf
      refine g_N (As := [.ref (G.2.1 2), .int a1]) (rest := []) cx hw hS (c_X10_at l G (ia_c2 hN) a1 S v_2 S_1 hv) gnm_12 gy_X10_at gi_X10_at ⟨Nat.le_of_ble_eq_true rfl, Nat.le_of_ble_eq_true rfl⟩ ⟨Nat.zero_le _, Nat.zero_le _⟩ rfl hl.1 rfl (Nat.le_of_ble_eq_true rfl) dX2_digitAt_19 (fun H locs hw hS => ?_)
      refine W.eq (g2 := F0 m 22 ls [.int v_2]) rfl ?_
      refine lv_istore_n (lv' := [(2, .int v_2), (0, .ref (G.2.1 1)), (1, .int a1)]) cx.1 cx.2.1 dX2_digitAt_22 rfl hl (by decide) rfl (fun ls hl => ?_)
      refine lv_iload_n cx.1 cx.2.1 dX2_digitAt_23 rfl (lv_at hl 0 rfl) ?_
      refine lv_bipush (v := (48 : Int32)) cx.1 cx.2.1 dX2_digitAt_24 (by decide) ?_
      refine lv_icmp_lt (tgt := 42) cx.1 cx.2.1 dX2_digitAt_26 (by decide) (fun hc => ?_) (fun hc => ?_)
      · rw [if_pos hc] at hf
        refine lv_iconst (v := (-1 : Int32)) cx.1 cx.2.1 dX2_digitAt_42 (by decide) ?_
        exact g_ireti cx hr hlk hw hS hf dX2_digitAt_43
      · rw [if_neg hc] at hf
        refine lv_iload_n cx.1 cx.2.1 dX2_digitAt_29 rfl (lv_at hl 0 rfl) ?_
        refine lv_bipush (v := (57 : Int32)) cx.1 cx.2.1 dX2_digitAt_30 (by decide) ?_
        refine lv_icmp_gt (tgt := 42) cx.1 cx.2.1 dX2_digitAt_32 (by decide) (fun hc => ?_) (fun hc => ?_)
        · rw [if_pos hc] at hf
          refine lv_iconst (v := (-1 : Int32)) cx.1 cx.2.1 dX2_digitAt_42 (by decide) ?_
          exact g_ireti cx hr hlk hw hS hf dX2_digitAt_43
        · rw [if_neg hc] at hf
          refine lv_iload_n cx.1 cx.2.1 dX2_digitAt_35 rfl (lv_at hl 0 rfl) ?_
          refine lv_bipush (v := (48 : Int32)) cx.1 cx.2.1 dX2_digitAt_36 (by decide) ?_
          refine lv_isub cx.1 cx.2.1 dX2_digitAt_38 ?_
          refine lv_goto (tgt := 43) cx.1 cx.2.1 dX2_digitAt_39 (by decide) ?_
          exact g_ireti cx hr hlk hw hS hf dX2_digitAt_43
    · rw [if_neg hc] at hf
      refine lv_iconst (v := (-1 : Int32)) cx.1 cx.2.1 dX2_digitAt_12 (by decide) ?_
      exact g_ireti cx hr hlk hw hS hf dX2_digitAt_13
set_option maxHeartbeats 4000000 in
set_option maxRecDepth 100000 in
theorem c_X7_begin (l : Launch) (G : gG) {b : Nat} (hb : IsSt b) (a1 : Int32) (S : Sg) (S' : Sg) (hf : f_X7_begin b a1 S = some S') : Ct l yX7_begin [Cond.code yX7_begin cX7_begin 2 none] (gR 2 42) G [.ref (G.2.1 b), .int a1] S none S' := by
  refine Ct_of (by decide) (Nat.le_of_ble_eq_true rfl) ?_
  intro p e s m below meth c ls cx hr hlk hw hS hl
  have hN := cx.2.2.2.2.hN
  have hl : lv_has ls 2 [(0, .ref (G.2.1 b)), (1, .int a1)] := hl
  unfold f_X7_begin at hf
  refine lv_aload_n cx.1 cx.2.1 dX7_begin_0 rfl (lv_at hl 0 rfl) ?_
  refine g_get (C := RX7) (T := TX7) (N := 9) (v := .ref (G.2.1 (b + 1))) cx hw inlX7 b (Nat.lt_of_lt_of_le hb.lt0 hN) (he_s0 hb) rfl 0 (by decide) gw_43 rfl rfl dX7_begin_1 ?_
  refine lv_iconst (v := (0 : Int32)) cx.1 cx.2.1 dX7_begin_4 (by decide) ?_
  obtain ⟨S_1, eS_1, hf⟩ := gst_ex hf
  refine g_put (C := RX8) (T := TX8) (N := 5) cx hw hS inlX8 tyX8 tyX8_ok nmX8 (b + 1) (Nat.lt_of_lt_of_le (hb.lt (j := 1) (by omega)) hN) (he_s1 hb) rfl 4 (by decide) gw_109 rfl rfl (by decide +kernel) (Nat.le_of_ble_eq_true rfl) (by rw [u2_s, (he_s1 hb)]; rfl) dX7_begin_5 (fun H locs hw hS => ?_)
  rw [eS_1] at hw
  refine lv_aload_n cx.1 cx.2.1 dX7_begin_8 rfl (lv_at hl 0 rfl) ?_
  refine g_get (C := RX7) (T := TX7) (N := 9) (v := .ref (G.2.1 (b + 2))) cx hw inlX7 b (Nat.lt_of_lt_of_le hb.lt0 hN) (he_s0 hb) rfl 1 (by decide) gw_47 rfl rfl dX7_begin_9 ?_
  refine lv_iconst (v := (0 : Int32)) cx.1 cx.2.1 dX7_begin_12 (by decide) ?_
  obtain ⟨S_2, eS_2, hf⟩ := gst_ex hf
  refine g_put (C := RX1) (T := TX1) (N := 7) cx hw hS inlX1 tyX1 tyX1_ok nmX1 (b + 2) (Nat.lt_of_lt_of_le (hb.lt (j := 2) (by omega)) hN) (he_s2 hb) rfl 6 (by decide) gw_110 rfl rfl (by decide +kernel) (Nat.le_of_ble_eq_true rfl) (by rw [u2_s, (he_s2 hb)]; rfl) dX7_begin_13 (fun H locs hw hS => ?_)
  rw [eS_2] at hw
  refine lv_aload_n cx.1 cx.2.1 dX7_begin_16 rfl (lv_at hl 0 rfl) ?_
  refine g_get (C := RX7) (T := TX7) (N := 9) (v := .ref (G.2.1 (b + 3))) cx hw inlX7 b (Nat.lt_of_lt_of_le hb.lt0 hN) (he_s0 hb) rfl 2 (by decide) gw_51 rfl rfl dX7_begin_17 ?_
  obtain ⟨S_3, hv, hf⟩ := gbv_some hf
  refine g_V (As := []) (rest := []) cx hw hS (c_X0_begin l G hb S_2 S_3 hv) (Nat.lt_of_lt_of_le (hb.lt (j := 3) (by omega)) hN) (he_s3 hb) rfl rfl gw_117 gy_X0_begin gi_X0_begin ⟨Nat.le_of_ble_eq_true rfl, Nat.le_of_ble_eq_true rfl⟩ ⟨Nat.zero_le _, Nat.zero_le _⟩ rfl hl.1 rfl (Nat.le_of_ble_eq_true rfl) dX7_begin_20 (fun H locs hw hS => ?_)
  refine W.eq (g2 := F0 m 23 ls []) rfl ?_
  refine lv_aload_n cx.1 cx.2.1 dX7_begin_23 rfl (lv_at hl 0 rfl) ?_
  refine lv_iload_n cx.1 cx.2.1 dX7_begin_24 rfl (lv_at hl 1 rfl) ?_
  obtain ⟨S_4, eS_4, hf⟩ := gst_ex hf
  refine g_put (C := RX7) (T := TX7) (N := 9) cx hw hS inlX7 tyX7 tyX7_ok nmX7 b (Nat.lt_of_lt_of_le hb.lt0 hN) (he_s0 hb) rfl 3 (by decide) gw_111 rfl rfl (by decide +kernel) (Nat.le_of_ble_eq_true rfl) (by rw [u2_s, (he_s0 hb)]; rfl) dX7_begin_25 (fun H locs hw hS => ?_)
  rw [eS_4] at hw
  refine lv_aload_n cx.1 cx.2.1 dX7_begin_28 rfl (lv_at hl 0 rfl) ?_
  refine lv_iconst (v := (1 : Int32)) cx.1 cx.2.1 dX7_begin_29 (by decide) ?_
  obtain ⟨S_5, eS_5, hf⟩ := gst_ex hf
  refine g_put (C := RX7) (T := TX7) (N := 9) cx hw hS inlX7 tyX7 tyX7_ok nmX7 b (Nat.lt_of_lt_of_le hb.lt0 hN) (he_s0 hb) rfl 4 (by decide) gw_112 rfl rfl (by decide +kernel) (Nat.le_of_ble_eq_true rfl) (by rw [u2_s, (he_s0 hb)]; rfl) dX7_begin_30 (fun H locs hw hS => ?_)
  rw [eS_5] at hw
  refine lv_aload_n cx.1 cx.2.1 dX7_begin_33 rfl (lv_at hl 0 rfl) ?_
  refine lv_iconst (v := (0 : Int32)) cx.1 cx.2.1 dX7_begin_34 (by decide) ?_
  obtain ⟨S_6, eS_6, hf⟩ := gst_ex hf
  refine g_put (C := RX7) (T := TX7) (N := 9) cx hw hS inlX7 tyX7 tyX7_ok nmX7 b (Nat.lt_of_lt_of_le hb.lt0 hN) (he_s0 hb) rfl 5 (by decide) gw_113 rfl rfl (by decide +kernel) (Nat.le_of_ble_eq_true rfl) (by rw [u2_s, (he_s0 hb)]; rfl) dX7_begin_35 (fun H locs hw hS => ?_)
  rw [eS_6] at hw
  refine lv_aload_n cx.1 cx.2.1 dX7_begin_38 rfl (lv_at hl 0 rfl) ?_
  refine lv_iconst (v := (0 : Int32)) cx.1 cx.2.1 dX7_begin_39 (by decide) ?_
  obtain ⟨S_7, eS_7, hf⟩ := gst_ex hf
  refine g_put (C := RX7) (T := TX7) (N := 9) cx hw hS inlX7 tyX7 tyX7_ok nmX7 b (Nat.lt_of_lt_of_le hb.lt0 hN) (he_s0 hb) rfl 6 (by decide) gw_114 rfl rfl (by decide +kernel) (Nat.le_of_ble_eq_true rfl) (by rw [u2_s, (he_s0 hb)]; rfl) dX7_begin_40 (fun H locs hw hS => ?_)
  rw [eS_7] at hw
  refine lv_aload_n cx.1 cx.2.1 dX7_begin_43 rfl (lv_at hl 0 rfl) ?_
  refine lv_iconst (v := (0 : Int32)) cx.1 cx.2.1 dX7_begin_44 (by decide) ?_
  obtain ⟨S_8, eS_8, hf⟩ := gst_ex hf
  refine g_put (C := RX7) (T := TX7) (N := 9) cx hw hS inlX7 tyX7 tyX7_ok nmX7 b (Nat.lt_of_lt_of_le hb.lt0 hN) (he_s0 hb) rfl 7 (by decide) gw_115 rfl rfl (by decide +kernel) (Nat.le_of_ble_eq_true rfl) (by rw [u2_s, (he_s0 hb)]; rfl) dX7_begin_45 (fun H locs hw hS => ?_)
  rw [eS_8] at hw
  refine lv_aload_n cx.1 cx.2.1 dX7_begin_48 rfl (lv_at hl 0 rfl) ?_
  refine lv_iconst (v := (0 : Int32)) cx.1 cx.2.1 dX7_begin_49 (by decide) ?_
  obtain ⟨S_9, eS_9, hf⟩ := gst_ex hf
  refine g_put (C := RX7) (T := TX7) (N := 9) cx hw hS inlX7 tyX7 tyX7_ok nmX7 b (Nat.lt_of_lt_of_le hb.lt0 hN) (he_s0 hb) rfl 8 (by decide) gw_116 rfl rfl (by decide +kernel) (Nat.le_of_ble_eq_true rfl) (by rw [u2_s, (he_s0 hb)]; rfl) dX7_begin_50 (fun H locs hw hS => ?_)
  rw [eS_9] at hw
  exact g_vreti cx hr hlk hw hS hf dX7_begin_53
set_option maxHeartbeats 4000000 in
set_option maxRecDepth 100000 in
theorem c_X8_areFull (l : Launch) (G : gG) {b : Nat} (hb : IsSt b) (S : Sg) (r : Int32) (S' : Sg) (hf : f_X8_areFull b S = some (r, S')) : Ct l yX8_areFull [Cond.code yX8_areFull cX8_areFull 1 (some .boolean)] (gR 0 0) G [.ref (G.2.1 (b + 1))] S (some (.int r)) S' := by
  refine Ct_of (by decide) (Nat.le_of_ble_eq_true rfl) ?_
  intro p e s m below meth c ls cx hr hlk hw hS hl
  have hN := cx.2.2.2.2.hN
  have hl : lv_has ls 1 [(0, .ref (G.2.1 (b + 1)))] := hl
  unfold f_X8_areFull at hf
  refine lv_aload_n cx.1 cx.2.1 dX8_areFull_0 rfl (lv_at hl 0 rfl) ?_
  refine g_get (C := RX8) (T := TX8) (N := 5) (v := .int (S (b + 1) 4)) cx hw inlX8 (b + 1) (Nat.lt_of_lt_of_le (hb.lt (j := 1) (by omega)) hN) (he_s1 hb) rfl 4 (by decide) gw_129 rfl rfl dX8_areFull_1 ?_
  refine lv_bipush (v := (16 : Int32)) cx.1 cx.2.1 dX8_areFull_4 (by decide) ?_
  refine lv_icmp_lt (tgt := 13) cx.1 cx.2.1 dX8_areFull_6 (by decide) (fun hc => ?_) (fun hc => ?_)
  · rw [if_pos hc] at hf
    refine lv_iconst (v := (0 : Int32)) cx.1 cx.2.1 dX8_areFull_13 (by decide) ?_
    exact g_zreti cx hr hlk hw hS (by decide) hf dX8_areFull_14
  · rw [if_neg hc] at hf
    refine lv_iconst (v := (1 : Int32)) cx.1 cx.2.1 dX8_areFull_9 (by decide) ?_
    refine lv_goto (tgt := 14) cx.1 cx.2.1 dX8_areFull_10 (by decide) ?_
    exact g_zreti cx hr hlk hw hS (by decide) hf dX8_areFull_14
set_option maxHeartbeats 4000000 in
set_option maxRecDepth 100000 in
theorem c_X2_errorOfCities (l : Launch) (G : gG) (a1 : Int32) (a2 : Int32) (S : Sg) (r : Int32) (S' : Sg) (hf : f_X2_errorOfCities a1 a2 S = some (r, S')) : Ct l yX2_errorOfCities [Cond.code yX2_errorOfCities cX2_errorOfCities 5 (some .int)] (gR 2 43) G [.ref (G.2.1 1), .int a1, .int a2] S (some (.int r)) S' := by
  refine Ct_of (by decide) (Nat.le_of_ble_eq_true rfl) ?_
  intro p e s m below meth c ls cx hr hlk hw hS hl
  have hN := cx.2.2.2.2.hN
  have hl : lv_has ls 5 [(0, .ref (G.2.1 1)), (1, .int a1), (2, .int a2)] := hl
  unfold f_X2_errorOfCities at hf
  refine lv_aload_n cx.1 cx.2.1 dX2_errorOfCities_0 rfl (lv_at hl 0 rfl) ?_
  refine lv_iload_n cx.1 cx.2.1 dX2_errorOfCities_1 rfl (lv_at hl 2 rfl) ?_
  obtain ⟨v_2, S_1, hv, hf⟩ := gbi_some hf
  refine g_V (As := [.int a2]) (rest := []) cx hw hS (c_X2_digitAt l G a2 S v_2 S_1 hv) (by omega) he_c1 rfl rfl gw_149 gy_X2_digitAt gi_X2_digitAt ⟨Nat.le_of_ble_eq_true rfl, Nat.le_of_ble_eq_true rfl⟩ ⟨Nat.zero_le _, Nat.zero_le _⟩ rfl hl.1 rfl (Nat.le_of_ble_eq_true rfl) dX2_errorOfCities_2 (fun H locs hw hS => ?_)
  refine W.eq (g2 := F0 m 5 ls [.int v_2]) rfl ?_
  refine lv_istore_n (lv' := [(3, .int v_2), (0, .ref (G.2.1 1)), (1, .int a1), (2, .int a2)]) cx.1 cx.2.1 dX2_errorOfCities_5 rfl hl (by decide) rfl (fun ls hl => ?_)
  refine lv_iload_n cx.1 cx.2.1 dX2_errorOfCities_6 rfl (lv_at hl 0 rfl) ?_
  refine lv_if_lt (tgt := 15) cx.1 cx.2.1 dX2_errorOfCities_7 (by decide) (fun hc => ?_) (fun hc => ?_)
  · rw [if_pos hc] at hf
    refine lv_iload_n cx.1 cx.2.1 dX2_errorOfCities_15 rfl (lv_at hl 3 rfl) ?_
    exact g_ireti cx hr hlk hw hS hf dX2_errorOfCities_16
  · rw [if_neg hc] at hf
    refine lv_iload_n cx.1 cx.2.1 dX2_errorOfCities_10 rfl (lv_at hl 0 rfl) ?_
    refine lv_iload_n cx.1 cx.2.1 dX2_errorOfCities_11 rfl (lv_at hl 2 rfl) ?_
    refine lv_icmp_lt (tgt := 17) cx.1 cx.2.1 dX2_errorOfCities_12 (by decide) (fun hc => ?_) (fun hc => ?_)
    · rw [if_pos hc] at hf
      refine lv_aload_n cx.1 cx.2.1 dX2_errorOfCities_17 rfl (lv_at hl 1 rfl) ?_
      refine lv_iload_n cx.1 cx.2.1 dX2_errorOfCities_18 rfl (lv_at hl 3 rfl) ?_
      refine lv_iconst (v := (1 : Int32)) cx.1 cx.2.1 dX2_errorOfCities_19 (by decide) ?_
      refine lv_iadd cx.1 cx.2.1 dX2_errorOfCities_20 ?_
      obtain ⟨v_4, S_3, hv, hf⟩ := gbi_some hf
      refine g_V (As := [.int (a2 + (1 : Int32))]) (rest := []) cx hw hS (c_X2_digitAt l G (a2 + (1 : Int32)) S_1 v_4 S_3 hv) (by omega) he_c1 rfl rfl gw_149 gy_X2_digitAt gi_X2_digitAt ⟨Nat.le_of_ble_eq_true rfl, Nat.le_of_ble_eq_true rfl⟩ ⟨Nat.zero_le _, Nat.zero_le _⟩ rfl hl.1 rfl (Nat.le_of_ble_eq_true rfl) dX2_errorOfCities_21 (fun H locs hw hS => ?_)
      refine W.eq (g2 := F0 m 24 ls [.int v_4]) rfl ?_
      refine lv_istore (lv' := [(4, .int v_4), (3, .int v_2), (0, .ref (G.2.1 1)), (1, .int a1), (2, .int a2)]) cx.1 cx.2.1 dX2_errorOfCities_24 hl (by decide) rfl (fun ls hl => ?_)
      refine lv_iload cx.1 cx.2.1 dX2_errorOfCities_26 (lv_at hl 0 rfl) ?_
      refine lv_if_lt (tgt := 43) cx.1 cx.2.1 dX2_errorOfCities_28 (by decide) (fun hc => ?_) (fun hc => ?_)
      · rw [if_pos hc] at hf
        refine lv_iload_n cx.1 cx.2.1 dX2_errorOfCities_43 rfl (lv_at hl 4 rfl) ?_
        refine lv_iconst (v := (1 : Int32)) cx.1 cx.2.1 dX2_errorOfCities_44 (by decide) ?_
        refine lv_iadd cx.1 cx.2.1 dX2_errorOfCities_45 ?_
        refine lv_goto (tgt := 51) cx.1 cx.2.1 dX2_errorOfCities_46 (by decide) ?_
        exact g_ireti cx hr hlk hw hS hf dX2_errorOfCities_51
      · rw [if_neg hc] at hf
        refine lv_iload cx.1 cx.2.1 dX2_errorOfCities_31 (lv_at hl 0 rfl) ?_
        refine lv_iload_n cx.1 cx.2.1 dX2_errorOfCities_33 rfl (lv_at hl 3 rfl) ?_
        refine lv_icmp_ge (tgt := 43) cx.1 cx.2.1 dX2_errorOfCities_34 (by decide) (fun hc => ?_) (fun hc => ?_)
        · rw [if_pos hc] at hf
          refine lv_iload_n cx.1 cx.2.1 dX2_errorOfCities_43 rfl (lv_at hl 4 rfl) ?_
          refine lv_iconst (v := (1 : Int32)) cx.1 cx.2.1 dX2_errorOfCities_44 (by decide) ?_
          refine lv_iadd cx.1 cx.2.1 dX2_errorOfCities_45 ?_
          refine lv_goto (tgt := 51) cx.1 cx.2.1 dX2_errorOfCities_46 (by decide) ?_
          exact g_ireti cx hr hlk hw hS hf dX2_errorOfCities_51
        · rw [if_neg hc] at hf
          refine lv_iload cx.1 cx.2.1 dX2_errorOfCities_37 (lv_at hl 0 rfl) ?_
          refine lv_iload_n cx.1 cx.2.1 dX2_errorOfCities_39 rfl (lv_at hl 1 rfl) ?_
          refine lv_icmp_ne (tgt := 49) cx.1 cx.2.1 dX2_errorOfCities_40 (by decide) (fun hc => ?_) (fun hc => ?_)
          · rw [if_neg hc] at hf
            refine lv_bipush (v := (-9 : Int32)) cx.1 cx.2.1 dX2_errorOfCities_49 (by decide) ?_
            exact g_ireti cx hr hlk hw hS hf dX2_errorOfCities_51
          · rw [if_pos hc] at hf
            refine lv_iload_n cx.1 cx.2.1 dX2_errorOfCities_43 rfl (lv_at hl 4 rfl) ?_
            refine lv_iconst (v := (1 : Int32)) cx.1 cx.2.1 dX2_errorOfCities_44 (by decide) ?_
            refine lv_iadd cx.1 cx.2.1 dX2_errorOfCities_45 ?_
            refine lv_goto (tgt := 51) cx.1 cx.2.1 dX2_errorOfCities_46 (by decide) ?_
            exact g_ireti cx hr hlk hw hS hf dX2_errorOfCities_51
    · rw [if_neg hc] at hf
      refine lv_iload_n cx.1 cx.2.1 dX2_errorOfCities_15 rfl (lv_at hl 3 rfl) ?_
      exact g_ireti cx hr hlk hw hS hf dX2_errorOfCities_16
set_option maxHeartbeats 4000000 in
set_option maxRecDepth 100000 in
theorem c_X8_add (l : Launch) (G : gG) {b : Nat} (hb : IsSt b) (a1 : Int32) (a2 : Int32) (a3 : Int32) (S : Sg) (S' : Sg) (hf : f_X8_add b a1 a2 a3 S = some S') : Ct l yX8_add [Cond.code yX8_add cX8_add 4 none] (gR 1 22) G [.ref (G.2.1 (b + 1)), .int a1, .int a2, .int a3] S none S' := by
  refine Ct_of (by decide) (Nat.le_of_ble_eq_true rfl) ?_
  intro p e s m below meth c ls cx hr hlk hw hS hl
  have hN := cx.2.2.2.2.hN
  have hl : lv_has ls 4 [(0, .ref (G.2.1 (b + 1))), (1, .int a1), (2, .int a2), (3, .int a3)] := hl
  unfold f_X8_add at hf
  refine lv_aload_n cx.1 cx.2.1 dX8_add_0 rfl (lv_at hl 0 rfl) ?_
  obtain ⟨v_2, S_1, hv, hf⟩ := gbi_some hf
  refine g_V (As := []) (rest := []) cx hw hS (c_X8_areFull l G hb S v_2 S_1 hv) (Nat.lt_of_lt_of_le (hb.lt (j := 1) (by omega)) hN) (he_s1 hb) rfl rfl gw_130 gy_X8_areFull gi_X8_areFull ⟨Nat.le_of_ble_eq_true rfl, Nat.le_of_ble_eq_true rfl⟩ ⟨Nat.zero_le _, Nat.zero_le _⟩ rfl hl.1 rfl (Nat.le_of_ble_eq_true rfl) dX8_add_1 (fun H locs hw hS => ?_)
  refine W.eq (g2 := F0 m 4 ls [.int v_2]) rfl ?_
  refine lv_if_ne (tgt := 65) cx.1 cx.2.1 dX8_add_4 (by decide) (fun hc => ?_) (fun hc => ?_)
  · rw [if_neg hc] at hf
    exact g_vreti cx hr hlk hw hS hf dX8_add_65
  · rw [if_pos hc] at hf
    refine lv_aload_n cx.1 cx.2.1 dX8_add_7 rfl (lv_at hl 0 rfl) ?_
    refine g_get (C := RX8) (T := TX8) (N := 5) (v := .ref (G.2.1 (b + 4))) cx hw inlX8 (b + 1) (Nat.lt_of_lt_of_le (hb.lt (j := 1) (by omega)) hN) (he_s1 hb) rfl 0 (by decide) gw_55 rfl rfl dX8_add_8 ?_
    refine lv_aload_n cx.1 cx.2.1 dX8_add_11 rfl (lv_at hl 0 rfl) ?_
    refine g_get (C := RX8) (T := TX8) (N := 5) (v := .int (S_1 (b + 1) 4)) cx hw inlX8 (b + 1) (Nat.lt_of_lt_of_le (hb.lt (j := 1) (by omega)) hN) (he_s1 hb) rfl 4 (by decide) gw_129 rfl rfl dX8_add_12 ?_
    refine lv_iload_n cx.1 cx.2.1 dX8_add_15 rfl (lv_at hl 1 rfl) ?_
    obtain ⟨S_3, hv, hf⟩ := gbv_some hf
    refine g_N (As := [.ref (G.2.1 (b + 4)), .int (S_1 (b + 1) 4), .int a1]) (rest := []) cx hw hS (c_X10_put l G (ia_s4 hN hb) (S_1 (b + 1) 4) a1 S_1 S_3 hv) gnm_11 gy_X10_put gi_X10_put ⟨Nat.le_of_ble_eq_true rfl, Nat.le_of_ble_eq_true rfl⟩ ⟨Nat.zero_le _, Nat.zero_le _⟩ rfl hl.1 rfl (Nat.le_of_ble_eq_true rfl) dX8_add_16 (fun H locs hw hS => ?_)
    refine W.eq (g2 := F0 m 19 ls []) rfl ?_
    refine lv_aload_n cx.1 cx.2.1 dX8_add_19 rfl (lv_at hl 0 rfl) ?_
    refine g_get (C := RX8) (T := TX8) (N := 5) (v := .ref (G.2.1 (b + 5))) cx hw inlX8 (b + 1) (Nat.lt_of_lt_of_le (hb.lt (j := 1) (by omega)) hN) (he_s1 hb) rfl 1 (by decide) gw_56 rfl rfl dX8_add_20 ?_
    refine lv_aload_n cx.1 cx.2.1 dX8_add_23 rfl (lv_at hl 0 rfl) ?_
    refine g_get (C := RX8) (T := TX8) (N := 5) (v := .int (S_3 (b + 1) 4)) cx hw inlX8 (b + 1) (Nat.lt_of_lt_of_le (hb.lt (j := 1) (by omega)) hN) (he_s1 hb) rfl 4 (by decide) gw_129 rfl rfl dX8_add_24 ?_
    refine lv_iload_n cx.1 cx.2.1 dX8_add_27 rfl (lv_at hl 2 rfl) ?_
    obtain ⟨S_4, hv, hf⟩ := gbv_some hf
    refine g_N (As := [.ref (G.2.1 (b + 5)), .int (S_3 (b + 1) 4), .int a2]) (rest := []) cx hw hS (c_X10_put l G (ia_s5 hN hb) (S_3 (b + 1) 4) a2 S_3 S_4 hv) gnm_11 gy_X10_put gi_X10_put ⟨Nat.le_of_ble_eq_true rfl, Nat.le_of_ble_eq_true rfl⟩ ⟨Nat.zero_le _, Nat.zero_le _⟩ rfl hl.1 rfl (Nat.le_of_ble_eq_true rfl) dX8_add_28 (fun H locs hw hS => ?_)
    refine W.eq (g2 := F0 m 31 ls []) rfl ?_
    refine lv_aload_n cx.1 cx.2.1 dX8_add_31 rfl (lv_at hl 0 rfl) ?_
    refine g_get (C := RX8) (T := TX8) (N := 5) (v := .ref (G.2.1 (b + 6))) cx hw inlX8 (b + 1) (Nat.lt_of_lt_of_le (hb.lt (j := 1) (by omega)) hN) (he_s1 hb) rfl 2 (by decide) gw_57 rfl rfl dX8_add_32 ?_
    refine lv_aload_n cx.1 cx.2.1 dX8_add_35 rfl (lv_at hl 0 rfl) ?_
    refine g_get (C := RX8) (T := TX8) (N := 5) (v := .int (S_4 (b + 1) 4)) cx hw inlX8 (b + 1) (Nat.lt_of_lt_of_le (hb.lt (j := 1) (by omega)) hN) (he_s1 hb) rfl 4 (by decide) gw_129 rfl rfl dX8_add_36 ?_
    refine lv_iload_n cx.1 cx.2.1 dX8_add_39 rfl (lv_at hl 3 rfl) ?_
    obtain ⟨S_5, hv, hf⟩ := gbv_some hf
    refine g_N (As := [.ref (G.2.1 (b + 6)), .int (S_4 (b + 1) 4), .int a3]) (rest := []) cx hw hS (c_X10_put l G (ia_s6 hN hb) (S_4 (b + 1) 4) a3 S_4 S_5 hv) gnm_11 gy_X10_put gi_X10_put ⟨Nat.le_of_ble_eq_true rfl, Nat.le_of_ble_eq_true rfl⟩ ⟨Nat.zero_le _, Nat.zero_le _⟩ rfl hl.1 rfl (Nat.le_of_ble_eq_true rfl) dX8_add_40 (fun H locs hw hS => ?_)
    refine W.eq (g2 := F0 m 43 ls []) rfl ?_
    refine lv_aload_n cx.1 cx.2.1 dX8_add_43 rfl (lv_at hl 0 rfl) ?_
    refine g_get (C := RX8) (T := TX8) (N := 5) (v := .ref (G.2.1 (b + 7))) cx hw inlX8 (b + 1) (Nat.lt_of_lt_of_le (hb.lt (j := 1) (by omega)) hN) (he_s1 hb) rfl 3 (by decide) gw_58 rfl rfl dX8_add_44 ?_
    refine lv_aload_n cx.1 cx.2.1 dX8_add_47 rfl (lv_at hl 0 rfl) ?_
    refine g_get (C := RX8) (T := TX8) (N := 5) (v := .int (S_5 (b + 1) 4)) cx hw inlX8 (b + 1) (Nat.lt_of_lt_of_le (hb.lt (j := 1) (by omega)) hN) (he_s1 hb) rfl 4 (by decide) gw_129 rfl rfl dX8_add_48 ?_
    refine lv_iconst (v := (4 : Int32)) cx.1 cx.2.1 dX8_add_51 (by decide) ?_
    obtain ⟨S_6, hv, hf⟩ := gbv_some hf
    refine g_N (As := [.ref (G.2.1 (b + 7)), .int (S_5 (b + 1) 4), .int (4 : Int32)]) (rest := []) cx hw hS (c_X10_put l G (ia_s7 hN hb) (S_5 (b + 1) 4) (4 : Int32) S_5 S_6 hv) gnm_11 gy_X10_put gi_X10_put ⟨Nat.le_of_ble_eq_true rfl, Nat.le_of_ble_eq_true rfl⟩ ⟨Nat.zero_le _, Nat.zero_le _⟩ rfl hl.1 rfl (Nat.le_of_ble_eq_true rfl) dX8_add_52 (fun H locs hw hS => ?_)
    refine W.eq (g2 := F0 m 55 ls []) rfl ?_
    refine lv_aload_n cx.1 cx.2.1 dX8_add_55 rfl (lv_at hl 0 rfl) ?_
    refine lv_dup cx.1 cx.2.1 dX8_add_56 rfl ?_
    refine g_get (C := RX8) (T := TX8) (N := 5) (v := .int (S_6 (b + 1) 4)) cx hw inlX8 (b + 1) (Nat.lt_of_lt_of_le (hb.lt (j := 1) (by omega)) hN) (he_s1 hb) rfl 4 (by decide) gw_129 rfl rfl dX8_add_57 ?_
    refine lv_iconst (v := (1 : Int32)) cx.1 cx.2.1 dX8_add_60 (by decide) ?_
    refine lv_iadd cx.1 cx.2.1 dX8_add_61 ?_
    obtain ⟨S_7, eS_7, hf⟩ := gst_ex hf
    refine g_put (C := RX8) (T := TX8) (N := 5) cx hw hS inlX8 tyX8 tyX8_ok nmX8 (b + 1) (Nat.lt_of_lt_of_le (hb.lt (j := 1) (by omega)) hN) (he_s1 hb) rfl 4 (by decide) gw_129 rfl rfl (by decide +kernel) (Nat.le_of_ble_eq_true rfl) (by rw [u2_s, (he_s1 hb)]; rfl) dX8_add_62 (fun H locs hw hS => ?_)
    rw [eS_7] at hw
    exact g_vreti cx hr hlk hw hS hf dX8_add_65
set_option maxHeartbeats 4000000 in
set_option maxRecDepth 100000 in
theorem c_X2_readTrack (l : Launch) (G : gG) {b1 : Nat} (hb1 : IsSt b1) (a2 : Int32) (S : Sg) (r : Int32) (S' : Sg) (hf : f_X2_readTrack b1 a2 S = some (r, S')) : Ct l yX2_readTrack [Cond.code yX2_readTrack cX2_readTrack 5 (some .int)] (gR 3 67) G [.ref (G.2.1 1), .ref (G.2.1 b1), .int a2] S (some (.int r)) S' := by
  refine Ct_of (by decide) (Nat.le_of_ble_eq_true rfl) ?_
  intro p e s m below meth c ls cx hr hlk hw hS hl
  have hN := cx.2.2.2.2.hN
  have hl : lv_has ls 5 [(0, .ref (G.2.1 1)), (1, .ref (G.2.1 b1)), (2, .int a2)] := hl
  unfold f_X2_readTrack at hf
  refine lv_aload_n cx.1 cx.2.1 dX2_readTrack_0 rfl (lv_at hl 0 rfl) ?_
  refine lv_aload_n cx.1 cx.2.1 dX2_readTrack_1 rfl (lv_at hl 1 rfl) ?_
  refine g_get (C := RX7) (T := TX7) (N := 9) (v := .int (S b1 3)) cx hw inlX7 b1 (Nat.lt_of_lt_of_le hb1.lt0 hN) (he_s0 hb1) rfl 3 (by decide) gw_165 rfl rfl dX2_readTrack_2 ?_
  refine lv_iload_n cx.1 cx.2.1 dX2_readTrack_5 rfl (lv_at hl 2 rfl) ?_
  refine lv_iconst (v := (1 : Int32)) cx.1 cx.2.1 dX2_readTrack_6 (by decide) ?_
  refine lv_iadd cx.1 cx.2.1 dX2_readTrack_7 ?_
  obtain ⟨v_2, S_1, hv, hf⟩ := gbi_some hf
  refine g_V (As := [.int (S b1 3), .int (a2 + (1 : Int32))]) (rest := []) cx hw hS (c_X2_errorOfCities l G (S b1 3) (a2 + (1 : Int32)) S v_2 S_1 hv) (by omega) he_c1 rfl rfl gw_166 gy_X2_errorOfCities gi_X2_errorOfCities ⟨Nat.le_of_ble_eq_true rfl, Nat.le_of_ble_eq_true rfl⟩ ⟨Nat.zero_le _, Nat.zero_le _⟩ rfl hl.1 rfl (Nat.le_of_ble_eq_true rfl) dX2_readTrack_8 (fun H locs hw hS => ?_)
  refine W.eq (g2 := F0 m 11 ls [.int v_2]) rfl ?_
  refine lv_istore_n (lv' := [(3, .int v_2), (0, .ref (G.2.1 1)), (1, .ref (G.2.1 b1)), (2, .int a2)]) cx.1 cx.2.1 dX2_readTrack_11 rfl hl (by decide) rfl (fun ls hl => ?_)
  refine lv_iload_n cx.1 cx.2.1 dX2_readTrack_12 rfl (lv_at hl 0 rfl) ?_
  refine lv_bipush (v := (-9 : Int32)) cx.1 cx.2.1 dX2_readTrack_13 (by decide) ?_
  refine lv_icmp_eq (tgt := 20) cx.1 cx.2.1 dX2_readTrack_15 (by decide) (fun hc => ?_) (fun hc => ?_)
  · rw [if_pos hc] at hf
    refine lv_aload_n cx.1 cx.2.1 dX2_readTrack_20 rfl (lv_at hl 1 rfl) ?_
    refine lv_iload_n cx.1 cx.2.1 dX2_readTrack_21 rfl (lv_at hl 3 rfl) ?_
    refine lv_iconst (v := (3 : Int32)) cx.1 cx.2.1 dX2_readTrack_22 (by decide) ?_
    refine lv_iadd cx.1 cx.2.1 dX2_readTrack_23 ?_
    obtain ⟨v_4, S_3, hv, hf⟩ := gbi_some hf
    refine g_V (As := [.int (a2 + (3 : Int32))]) (rest := []) cx hw hS (c_X2_digitAt l G (a2 + (3 : Int32)) S_1 v_4 S_3 hv) (by omega) he_c1 rfl rfl gw_149 gy_X2_digitAt gi_X2_digitAt ⟨Nat.le_of_ble_eq_true rfl, Nat.le_of_ble_eq_true rfl⟩ ⟨Nat.zero_le _, Nat.zero_le _⟩ rfl hl.1 rfl (Nat.le_of_ble_eq_true rfl) dX2_readTrack_24 (fun H locs hw hS => ?_)
    refine W.eq (g2 := F0 m 27 ls [.int v_4]) rfl ?_
    refine lv_istore (lv' := [(4, .int v_4), (3, .int v_2), (0, .ref (G.2.1 1)), (1, .ref (G.2.1 b1)), (2, .int a2)]) cx.1 cx.2.1 dX2_readTrack_27 hl (by decide) rfl (fun ls hl => ?_)
    refine lv_iload cx.1 cx.2.1 dX2_readTrack_29 (lv_at hl 0 rfl) ?_
    refine lv_iconst (v := (1 : Int32)) cx.1 cx.2.1 dX2_readTrack_31 (by decide) ?_
    refine lv_icmp_ge (tgt := 39) cx.1 cx.2.1 dX2_readTrack_32 (by decide) (fun hc => ?_) (fun hc => ?_)
    · rw [if_pos hc] at hf
      refine lv_aload_n cx.1 cx.2.1 dX2_readTrack_39 rfl (lv_at hl 3 rfl) ?_
      refine g_get (C := RX7) (T := TX7) (N := 9) (v := .ref (G.2.1 (b1 + 1))) cx hw inlX7 b1 (Nat.lt_of_lt_of_le hb1.lt0 hN) (he_s0 hb1) rfl 0 (by decide) gw_158 rfl rfl dX2_readTrack_40 ?_
      refine lv_aload_n cx.1 cx.2.1 dX2_readTrack_43 rfl (lv_at hl 2 rfl) ?_
      refine lv_iload_n cx.1 cx.2.1 dX2_readTrack_44 rfl (lv_at hl 4 rfl) ?_
      refine lv_iconst (v := (1 : Int32)) cx.1 cx.2.1 dX2_readTrack_45 (by decide) ?_
      refine lv_iadd cx.1 cx.2.1 dX2_readTrack_46 ?_
      obtain ⟨v_6, S_5, hv, hf⟩ := gbi_some hf
      refine g_V (As := [.int (a2 + (1 : Int32))]) (rest := [.ref (G.2.1 (b1 + 1))]) cx hw hS (c_X2_digitAt l G (a2 + (1 : Int32)) S_3 v_6 S_5 hv) (by omega) he_c1 rfl rfl gw_149 gy_X2_digitAt gi_X2_digitAt ⟨Nat.le_of_ble_eq_true rfl, Nat.le_of_ble_eq_true rfl⟩ ⟨Nat.zero_le _, Nat.zero_le _⟩ rfl hl.1 rfl (Nat.le_of_ble_eq_true rfl) dX2_readTrack_47 (fun H locs hw hS => ?_)
      refine W.eq (g2 := F0 m 50 ls [.int v_6, .ref (G.2.1 (b1 + 1))]) rfl ?_
      refine lv_aload_n cx.1 cx.2.1 dX2_readTrack_50 rfl (lv_at hl 2 rfl) ?_
      refine lv_iload_n cx.1 cx.2.1 dX2_readTrack_51 rfl (lv_at hl 4 rfl) ?_
      refine lv_iconst (v := (2 : Int32)) cx.1 cx.2.1 dX2_readTrack_52 (by decide) ?_
      refine lv_iadd cx.1 cx.2.1 dX2_readTrack_53 ?_
      obtain ⟨v_8, S_7, hv, hf⟩ := gbi_some hf
      refine g_V (As := [.int (a2 + (2 : Int32))]) (rest := [.int v_6, .ref (G.2.1 (b1 + 1))]) cx hw hS (c_X2_digitAt l G (a2 + (2 : Int32)) S_5 v_8 S_7 hv) (by omega) he_c1 rfl rfl gw_149 gy_X2_digitAt gi_X2_digitAt ⟨Nat.le_of_ble_eq_true rfl, Nat.le_of_ble_eq_true rfl⟩ ⟨Nat.zero_le _, Nat.zero_le _⟩ rfl hl.1 rfl (Nat.le_of_ble_eq_true rfl) dX2_readTrack_54 (fun H locs hw hS => ?_)
      refine W.eq (g2 := F0 m 57 ls [.int v_8, .int v_6, .ref (G.2.1 (b1 + 1))]) rfl ?_
      refine lv_iload cx.1 cx.2.1 dX2_readTrack_57 (lv_at hl 0 rfl) ?_
      obtain ⟨S_9, hv, hf⟩ := gbv_some hf
      refine g_V (As := [.int v_6, .int v_8, .int v_4]) (rest := []) cx hw hS (c_X8_add l G hb1 v_6 v_8 v_4 S_7 S_9 hv) (Nat.lt_of_lt_of_le (hb1.lt (j := 1) (by omega)) hN) (he_s1 hb1) rfl rfl gw_170 gy_X8_add gi_X8_add ⟨Nat.le_of_ble_eq_true rfl, Nat.le_of_ble_eq_true rfl⟩ ⟨Nat.zero_le _, Nat.zero_le _⟩ rfl hl.1 rfl (Nat.le_of_ble_eq_true rfl) dX2_readTrack_59 (fun H locs hw hS => ?_)
      refine W.eq (g2 := F0 m 62 ls []) rfl ?_
      refine lv_bipush (v := (-9 : Int32)) cx.1 cx.2.1 dX2_readTrack_62 (by decide) ?_
      exact g_ireti cx hr hlk hw hS hf dX2_readTrack_64
    · rw [if_neg hc] at hf
      refine lv_iload_n cx.1 cx.2.1 dX2_readTrack_35 rfl (lv_at hl 4 rfl) ?_
      refine lv_iconst (v := (3 : Int32)) cx.1 cx.2.1 dX2_readTrack_36 (by decide) ?_
      refine lv_iadd cx.1 cx.2.1 dX2_readTrack_37 ?_
      exact g_ireti cx hr hlk hw hS hf dX2_readTrack_38
  · rw [if_neg hc] at hf
    refine lv_iload_n cx.1 cx.2.1 dX2_readTrack_18 rfl (lv_at hl 0 rfl) ?_
    exact g_ireti cx hr hlk hw hS hf dX2_readTrack_19
set_option maxHeartbeats 4000000 in
set_option maxRecDepth 100000 in
theorem c_X1_areFull (l : Launch) (G : gG) {b : Nat} (hb : IsSt b) (S : Sg) (r : Int32) (S' : Sg) (hf : f_X1_areFull b S = some (r, S')) : Ct l yX1_areFull [Cond.code yX1_areFull cX1_areFull 1 (some .boolean)] (gR 0 0) G [.ref (G.2.1 (b + 2))] S (some (.int r)) S' := by
  refine Ct_of (by decide) (Nat.le_of_ble_eq_true rfl) ?_
  intro p e s m below meth c ls cx hr hlk hw hS hl
  have hN := cx.2.2.2.2.hN
  have hl : lv_has ls 1 [(0, .ref (G.2.1 (b + 2)))] := hl
  unfold f_X1_areFull at hf
  refine lv_aload_n cx.1 cx.2.1 dX1_areFull_0 rfl (lv_at hl 0 rfl) ?_
  refine g_get (C := RX1) (T := TX1) (N := 7) (v := .int (S (b + 2) 6)) cx hw inlX1 (b + 2) (Nat.lt_of_lt_of_le (hb.lt (j := 2) (by omega)) hN) (he_s2 hb) rfl 6 (by decide) gw_175 rfl rfl dX1_areFull_1 ?_
  refine lv_bipush (v := (8 : Int32)) cx.1 cx.2.1 dX1_areFull_4 (by decide) ?_
  refine lv_icmp_lt (tgt := 13) cx.1 cx.2.1 dX1_areFull_6 (by decide) (fun hc => ?_) (fun hc => ?_)
  · rw [if_pos hc] at hf
    refine lv_iconst (v := (0 : Int32)) cx.1 cx.2.1 dX1_areFull_13 (by decide) ?_
    exact g_zreti cx hr hlk hw hS (by decide) hf dX1_areFull_14
  · rw [if_neg hc] at hf
    refine lv_iconst (v := (1 : Int32)) cx.1 cx.2.1 dX1_areFull_9 (by decide) ?_
    refine lv_goto (tgt := 14) cx.1 cx.2.1 dX1_areFull_10 (by decide) ?_
    exact g_zreti cx hr hlk hw hS (by decide) hf dX1_areFull_14
set_option maxHeartbeats 4000000 in
set_option maxRecDepth 100000 in
theorem c_X1_add (l : Launch) (G : gG) {b : Nat} (hb : IsSt b) (a1 : Int32) (a2 : Int32) (a3 : Int32) (a4 : Int32) (S : Sg) (S' : Sg) (hf : f_X1_add b a1 a2 a3 a4 S = some S') : Ct l yX1_add [Cond.code yX1_add cX1_add 5 none] (gR 1 22) G [.ref (G.2.1 (b + 2)), .int a1, .int a2, .int a3, .int a4] S none S' := by
  refine Ct_of (by decide) (Nat.le_of_ble_eq_true rfl) ?_
  intro p e s m below meth c ls cx hr hlk hw hS hl
  have hN := cx.2.2.2.2.hN
  have hl : lv_has ls 5 [(0, .ref (G.2.1 (b + 2))), (1, .int a1), (2, .int a2), (3, .int a3), (4, .int a4)] := hl
  unfold f_X1_add at hf
  refine lv_aload_n cx.1 cx.2.1 dX1_add_0 rfl (lv_at hl 0 rfl) ?_
  obtain ⟨v_2, S_1, hv, hf⟩ := gbi_some hf
  refine g_V (As := []) (rest := []) cx hw hS (c_X1_areFull l G hb S v_2 S_1 hv) (Nat.lt_of_lt_of_le (hb.lt (j := 2) (by omega)) hN) (he_s2 hb) rfl rfl gw_184 gy_X1_areFull gi_X1_areFull ⟨Nat.le_of_ble_eq_true rfl, Nat.le_of_ble_eq_true rfl⟩ ⟨Nat.zero_le _, Nat.zero_le _⟩ rfl hl.1 rfl (Nat.le_of_ble_eq_true rfl) dX1_add_1 (fun H locs hw hS => ?_)
  refine W.eq (g2 := F0 m 4 ls [.int v_2]) rfl ?_
  refine lv_if_ne (tgt := 91) cx.1 cx.2.1 dX1_add_4 (by decide) (fun hc => ?_) (fun hc => ?_)
  · rw [if_neg hc] at hf
    exact g_vreti cx hr hlk hw hS hf dX1_add_91
  · rw [if_pos hc] at hf
    refine lv_aload_n cx.1 cx.2.1 dX1_add_7 rfl (lv_at hl 0 rfl) ?_
    refine g_get (C := RX1) (T := TX1) (N := 7) (v := .ref (G.2.1 (b + 8))) cx hw inlX1 (b + 2) (Nat.lt_of_lt_of_le (hb.lt (j := 2) (by omega)) hN) (he_s2 hb) rfl 0 (by decide) gw_62 rfl rfl dX1_add_8 ?_
    refine lv_aload_n cx.1 cx.2.1 dX1_add_11 rfl (lv_at hl 0 rfl) ?_
    refine g_get (C := RX1) (T := TX1) (N := 7) (v := .int (S_1 (b + 2) 6)) cx hw inlX1 (b + 2) (Nat.lt_of_lt_of_le (hb.lt (j := 2) (by omega)) hN) (he_s2 hb) rfl 6 (by decide) gw_175 rfl rfl dX1_add_12 ?_
    refine lv_iload_n cx.1 cx.2.1 dX1_add_15 rfl (lv_at hl 1 rfl) ?_
    obtain ⟨S_3, hv, hf⟩ := gbv_some hf
    refine g_N (As := [.ref (G.2.1 (b + 8)), .int (S_1 (b + 2) 6), .int a1]) (rest := []) cx hw hS (c_X10_put l G (ia_s8 hN hb) (S_1 (b + 2) 6) a1 S_1 S_3 hv) gnm_13 gy_X10_put gi_X10_put ⟨Nat.le_of_ble_eq_true rfl, Nat.le_of_ble_eq_true rfl⟩ ⟨Nat.zero_le _, Nat.zero_le _⟩ rfl hl.1 rfl (Nat.le_of_ble_eq_true rfl) dX1_add_16 (fun H locs hw hS => ?_)
    refine W.eq (g2 := F0 m 19 ls []) rfl ?_
    refine lv_aload_n cx.1 cx.2.1 dX1_add_19 rfl (lv_at hl 0 rfl) ?_
    refine g_get (C := RX1) (T := TX1) (N := 7) (v := .ref (G.2.1 (b + 9))) cx hw inlX1 (b + 2) (Nat.lt_of_lt_of_le (hb.lt (j := 2) (by omega)) hN) (he_s2 hb) rfl 1 (by decide) gw_63 rfl rfl dX1_add_20 ?_
    refine lv_aload_n cx.1 cx.2.1 dX1_add_23 rfl (lv_at hl 0 rfl) ?_
    refine g_get (C := RX1) (T := TX1) (N := 7) (v := .int (S_3 (b + 2) 6)) cx hw inlX1 (b + 2) (Nat.lt_of_lt_of_le (hb.lt (j := 2) (by omega)) hN) (he_s2 hb) rfl 6 (by decide) gw_175 rfl rfl dX1_add_24 ?_
    refine lv_iload_n cx.1 cx.2.1 dX1_add_27 rfl (lv_at hl 2 rfl) ?_
    obtain ⟨S_4, hv, hf⟩ := gbv_some hf
    refine g_N (As := [.ref (G.2.1 (b + 9)), .int (S_3 (b + 2) 6), .int a2]) (rest := []) cx hw hS (c_X10_put l G (ia_s9 hN hb) (S_3 (b + 2) 6) a2 S_3 S_4 hv) gnm_13 gy_X10_put gi_X10_put ⟨Nat.le_of_ble_eq_true rfl, Nat.le_of_ble_eq_true rfl⟩ ⟨Nat.zero_le _, Nat.zero_le _⟩ rfl hl.1 rfl (Nat.le_of_ble_eq_true rfl) dX1_add_28 (fun H locs hw hS => ?_)
    refine W.eq (g2 := F0 m 31 ls []) rfl ?_
    refine lv_aload_n cx.1 cx.2.1 dX1_add_31 rfl (lv_at hl 0 rfl) ?_
    refine g_get (C := RX1) (T := TX1) (N := 7) (v := .ref (G.2.1 (b + 10))) cx hw inlX1 (b + 2) (Nat.lt_of_lt_of_le (hb.lt (j := 2) (by omega)) hN) (he_s2 hb) rfl 2 (by decide) gw_64 rfl rfl dX1_add_32 ?_
    refine lv_aload_n cx.1 cx.2.1 dX1_add_35 rfl (lv_at hl 0 rfl) ?_
    refine g_get (C := RX1) (T := TX1) (N := 7) (v := .int (S_4 (b + 2) 6)) cx hw inlX1 (b + 2) (Nat.lt_of_lt_of_le (hb.lt (j := 2) (by omega)) hN) (he_s2 hb) rfl 6 (by decide) gw_175 rfl rfl dX1_add_36 ?_
    refine lv_iload_n cx.1 cx.2.1 dX1_add_39 rfl (lv_at hl 3 rfl) ?_
    obtain ⟨S_5, hv, hf⟩ := gbv_some hf
    refine g_N (As := [.ref (G.2.1 (b + 10)), .int (S_4 (b + 2) 6), .int a3]) (rest := []) cx hw hS (c_X10_put l G (ia_s10 hN hb) (S_4 (b + 2) 6) a3 S_4 S_5 hv) gnm_13 gy_X10_put gi_X10_put ⟨Nat.le_of_ble_eq_true rfl, Nat.le_of_ble_eq_true rfl⟩ ⟨Nat.zero_le _, Nat.zero_le _⟩ rfl hl.1 rfl (Nat.le_of_ble_eq_true rfl) dX1_add_40 (fun H locs hw hS => ?_)
    refine W.eq (g2 := F0 m 43 ls []) rfl ?_
    refine lv_aload_n cx.1 cx.2.1 dX1_add_43 rfl (lv_at hl 0 rfl) ?_
    refine g_get (C := RX1) (T := TX1) (N := 7) (v := .ref (G.2.1 (b + 11))) cx hw inlX1 (b + 2) (Nat.lt_of_lt_of_le (hb.lt (j := 2) (by omega)) hN) (he_s2 hb) rfl 3 (by decide) gw_65 rfl rfl dX1_add_44 ?_
    refine lv_aload_n cx.1 cx.2.1 dX1_add_47 rfl (lv_at hl 0 rfl) ?_
    refine g_get (C := RX1) (T := TX1) (N := 7) (v := .int (S_5 (b + 2) 6)) cx hw inlX1 (b + 2) (Nat.lt_of_lt_of_le (hb.lt (j := 2) (by omega)) hN) (he_s2 hb) rfl 6 (by decide) gw_175 rfl rfl dX1_add_48 ?_
    refine lv_iload cx.1 cx.2.1 dX1_add_51 (lv_at hl 4 rfl) ?_
    obtain ⟨S_6, hv, hf⟩ := gbv_some hf
    refine g_N (As := [.ref (G.2.1 (b + 11)), .int (S_5 (b + 2) 6), .int a4]) (rest := []) cx hw hS (c_X10_put l G (ia_s11 hN hb) (S_5 (b + 2) 6) a4 S_5 S_6 hv) gnm_13 gy_X10_put gi_X10_put ⟨Nat.le_of_ble_eq_true rfl, Nat.le_of_ble_eq_true rfl⟩ ⟨Nat.zero_le _, Nat.zero_le _⟩ rfl hl.1 rfl (Nat.le_of_ble_eq_true rfl) dX1_add_53 (fun H locs hw hS => ?_)
    refine W.eq (g2 := F0 m 56 ls []) rfl ?_
    refine lv_aload_n cx.1 cx.2.1 dX1_add_56 rfl (lv_at hl 0 rfl) ?_
    refine g_get (C := RX1) (T := TX1) (N := 7) (v := .ref (G.2.1 (b + 12))) cx hw inlX1 (b + 2) (Nat.lt_of_lt_of_le (hb.lt (j := 2) (by omega)) hN) (he_s2 hb) rfl 4 (by decide) gw_66 rfl rfl dX1_add_57 ?_
    refine lv_aload_n cx.1 cx.2.1 dX1_add_60 rfl (lv_at hl 0 rfl) ?_
    refine g_get (C := RX1) (T := TX1) (N := 7) (v := .int (S_6 (b + 2) 6)) cx hw inlX1 (b + 2) (Nat.lt_of_lt_of_le (hb.lt (j := 2) (by omega)) hN) (he_s2 hb) rfl 6 (by decide) gw_175 rfl rfl dX1_add_61 ?_
    refine lv_bipush (v := (-9 : Int32)) cx.1 cx.2.1 dX1_add_64 (by decide) ?_
    obtain ⟨S_7, hv, hf⟩ := gbv_some hf
    refine g_N (As := [.ref (G.2.1 (b + 12)), .int (S_6 (b + 2) 6), .int (-9 : Int32)]) (rest := []) cx hw hS (c_X10_put l G (ia_s12 hN hb) (S_6 (b + 2) 6) (-9 : Int32) S_6 S_7 hv) gnm_13 gy_X10_put gi_X10_put ⟨Nat.le_of_ble_eq_true rfl, Nat.le_of_ble_eq_true rfl⟩ ⟨Nat.zero_le _, Nat.zero_le _⟩ rfl hl.1 rfl (Nat.le_of_ble_eq_true rfl) dX1_add_66 (fun H locs hw hS => ?_)
    refine W.eq (g2 := F0 m 69 ls []) rfl ?_
    refine lv_aload_n cx.1 cx.2.1 dX1_add_69 rfl (lv_at hl 0 rfl) ?_
    refine g_get (C := RX1) (T := TX1) (N := 7) (v := .ref (G.2.1 (b + 13))) cx hw inlX1 (b + 2) (Nat.lt_of_lt_of_le (hb.lt (j := 2) (by omega)) hN) (he_s2 hb) rfl 5 (by decide) gw_67 rfl rfl dX1_add_70 ?_
    refine lv_aload_n cx.1 cx.2.1 dX1_add_73 rfl (lv_at hl 0 rfl) ?_
    refine g_get (C := RX1) (T := TX1) (N := 7) (v := .int (S_7 (b + 2) 6)) cx hw inlX1 (b + 2) (Nat.lt_of_lt_of_le (hb.lt (j := 2) (by omega)) hN) (he_s2 hb) rfl 6 (by decide) gw_175 rfl rfl dX1_add_74 ?_
    refine lv_iconst (v := (0 : Int32)) cx.1 cx.2.1 dX1_add_77 (by decide) ?_
    obtain ⟨S_8, hv, hf⟩ := gbv_some hf
    refine g_N (As := [.ref (G.2.1 (b + 13)), .int (S_7 (b + 2) 6), .int (0 : Int32)]) (rest := []) cx hw hS (c_X10_put l G (ia_s13 hN hb) (S_7 (b + 2) 6) (0 : Int32) S_7 S_8 hv) gnm_13 gy_X10_put gi_X10_put ⟨Nat.le_of_ble_eq_true rfl, Nat.le_of_ble_eq_true rfl⟩ ⟨Nat.zero_le _, Nat.zero_le _⟩ rfl hl.1 rfl (Nat.le_of_ble_eq_true rfl) dX1_add_78 (fun H locs hw hS => ?_)
    refine W.eq (g2 := F0 m 81 ls []) rfl ?_
    refine lv_aload_n cx.1 cx.2.1 dX1_add_81 rfl (lv_at hl 0 rfl) ?_
    refine lv_dup cx.1 cx.2.1 dX1_add_82 rfl ?_
    refine g_get (C := RX1) (T := TX1) (N := 7) (v := .int (S_8 (b + 2) 6)) cx hw inlX1 (b + 2) (Nat.lt_of_lt_of_le (hb.lt (j := 2) (by omega)) hN) (he_s2 hb) rfl 6 (by decide) gw_175 rfl rfl dX1_add_83 ?_
    refine lv_iconst (v := (1 : Int32)) cx.1 cx.2.1 dX1_add_86 (by decide) ?_
    refine lv_iadd cx.1 cx.2.1 dX1_add_87 ?_
    obtain ⟨S_9, eS_9, hf⟩ := gst_ex hf
    refine g_put (C := RX1) (T := TX1) (N := 7) cx hw hS inlX1 tyX1 tyX1_ok nmX1 (b + 2) (Nat.lt_of_lt_of_le (hb.lt (j := 2) (by omega)) hN) (he_s2 hb) rfl 6 (by decide) gw_175 rfl rfl (by decide +kernel) (Nat.le_of_ble_eq_true rfl) (by rw [u2_s, (he_s2 hb)]; rfl) dX1_add_88 (fun H locs hw hS => ?_)
    rw [eS_9] at hw
    exact g_vreti cx hr hlk hw hS hf dX1_add_91
set_option maxHeartbeats 4000000 in
set_option maxRecDepth 100000 in
theorem c_X2_readContract (l : Launch) (G : gG) {b1 : Nat} (hb1 : IsSt b1) (a2 : Int32) (S : Sg) (r : Int32) (S' : Sg) (hf : f_X2_readContract b1 a2 S = some (r, S')) : Ct l yX2_readContract [Cond.code yX2_readContract cX2_readContract 7 (some .int)] (gR 3 67) G [.ref (G.2.1 1), .ref (G.2.1 b1), .int a2] S (some (.int r)) S' := by
  refine Ct_of (by decide) (Nat.le_of_ble_eq_true rfl) ?_
  intro p e s m below meth c ls cx hr hlk hw hS hl
  have hN := cx.2.2.2.2.hN
  have hl : lv_has ls 7 [(0, .ref (G.2.1 1)), (1, .ref (G.2.1 b1)), (2, .int a2)] := hl
  unfold f_X2_readContract at hf
  refine lv_aload_n cx.1 cx.2.1 dX2_readContract_0 rfl (lv_at hl 0 rfl) ?_
  refine lv_aload_n cx.1 cx.2.1 dX2_readContract_1 rfl (lv_at hl 1 rfl) ?_
  refine g_get (C := RX7) (T := TX7) (N := 9) (v := .int (S b1 3)) cx hw inlX7 b1 (Nat.lt_of_lt_of_le hb1.lt0 hN) (he_s0 hb1) rfl 3 (by decide) gw_165 rfl rfl dX2_readContract_2 ?_
  refine lv_iload_n cx.1 cx.2.1 dX2_readContract_5 rfl (lv_at hl 2 rfl) ?_
  refine lv_iconst (v := (1 : Int32)) cx.1 cx.2.1 dX2_readContract_6 (by decide) ?_
  refine lv_iadd cx.1 cx.2.1 dX2_readContract_7 ?_
  obtain ⟨v_2, S_1, hv, hf⟩ := gbi_some hf
  refine g_V (As := [.int (S b1 3), .int (a2 + (1 : Int32))]) (rest := []) cx hw hS (c_X2_errorOfCities l G (S b1 3) (a2 + (1 : Int32)) S v_2 S_1 hv) (by omega) he_c1 rfl rfl gw_166 gy_X2_errorOfCities gi_X2_errorOfCities ⟨Nat.le_of_ble_eq_true rfl, Nat.le_of_ble_eq_true rfl⟩ ⟨Nat.zero_le _, Nat.zero_le _⟩ rfl hl.1 rfl (Nat.le_of_ble_eq_true rfl) dX2_readContract_8 (fun H locs hw hS => ?_)
  refine W.eq (g2 := F0 m 11 ls [.int v_2]) rfl ?_
  refine lv_istore_n (lv' := [(3, .int v_2), (0, .ref (G.2.1 1)), (1, .ref (G.2.1 b1)), (2, .int a2)]) cx.1 cx.2.1 dX2_readContract_11 rfl hl (by decide) rfl (fun ls hl => ?_)
  refine lv_iload_n cx.1 cx.2.1 dX2_readContract_12 rfl (lv_at hl 0 rfl) ?_
  refine lv_bipush (v := (-9 : Int32)) cx.1 cx.2.1 dX2_readContract_13 (by decide) ?_
  refine lv_icmp_eq (tgt := 20) cx.1 cx.2.1 dX2_readContract_15 (by decide) (fun hc => ?_) (fun hc => ?_)
  · rw [if_pos hc] at hf
    refine lv_aload_n cx.1 cx.2.1 dX2_readContract_20 rfl (lv_at hl 1 rfl) ?_
    refine lv_iload_n cx.1 cx.2.1 dX2_readContract_21 rfl (lv_at hl 3 rfl) ?_
    refine lv_iconst (v := (3 : Int32)) cx.1 cx.2.1 dX2_readContract_22 (by decide) ?_
    refine lv_iadd cx.1 cx.2.1 dX2_readContract_23 ?_
    obtain ⟨v_4, S_3, hv, hf⟩ := gbi_some hf
    refine g_V (As := [.int (a2 + (3 : Int32))]) (rest := []) cx hw hS (c_X2_digitAt l G (a2 + (3 : Int32)) S_1 v_4 S_3 hv) (by omega) he_c1 rfl rfl gw_149 gy_X2_digitAt gi_X2_digitAt ⟨Nat.le_of_ble_eq_true rfl, Nat.le_of_ble_eq_true rfl⟩ ⟨Nat.zero_le _, Nat.zero_le _⟩ rfl hl.1 rfl (Nat.le_of_ble_eq_true rfl) dX2_readContract_24 (fun H locs hw hS => ?_)
    refine W.eq (g2 := F0 m 27 ls [.int v_4]) rfl ?_
    refine lv_istore (lv' := [(4, .int v_4), (3, .int v_2), (0, .ref (G.2.1 1)), (1, .ref (G.2.1 b1)), (2, .int a2)]) cx.1 cx.2.1 dX2_readContract_27 hl (by decide) rfl (fun ls hl => ?_)
    refine lv_iload cx.1 cx.2.1 dX2_readContract_29 (lv_at hl 0 rfl) ?_
    refine lv_if_ge (tgt := 38) cx.1 cx.2.1 dX2_readContract_31 (by decide) (fun hc => ?_) (fun hc => ?_)
    · rw [if_pos hc] at hf
      refine lv_aload_n cx.1 cx.2.1 dX2_readContract_38 rfl (lv_at hl 2 rfl) ?_
      refine lv_iload_n cx.1 cx.2.1 dX2_readContract_39 rfl (lv_at hl 4 rfl) ?_
      refine lv_iconst (v := (4 : Int32)) cx.1 cx.2.1 dX2_readContract_40 (by decide) ?_
      refine lv_iadd cx.1 cx.2.1 dX2_readContract_41 ?_
      obtain ⟨v_6, S_5, hv, hf⟩ := gbi_some hf
      refine g_V (As := [.int (a2 + (4 : Int32))]) (rest := []) cx hw hS (c_X2_digitAt l G (a2 + (4 : Int32)) S_3 v_6 S_5 hv) (by omega) he_c1 rfl rfl gw_149 gy_X2_digitAt gi_X2_digitAt ⟨Nat.le_of_ble_eq_true rfl, Nat.le_of_ble_eq_true rfl⟩ ⟨Nat.zero_le _, Nat.zero_le _⟩ rfl hl.1 rfl (Nat.le_of_ble_eq_true rfl) dX2_readContract_42 (fun H locs hw hS => ?_)
      refine W.eq (g2 := F0 m 45 ls [.int v_6]) rfl ?_
      refine lv_istore (lv' := [(5, .int v_6), (4, .int v_4), (3, .int v_2), (0, .ref (G.2.1 1)), (1, .ref (G.2.1 b1)), (2, .int a2)]) cx.1 cx.2.1 dX2_readContract_45 hl (by decide) rfl (fun ls hl => ?_)
      refine lv_iload cx.1 cx.2.1 dX2_readContract_47 (lv_at hl 0 rfl) ?_
      refine lv_if_lt (tgt := 60) cx.1 cx.2.1 dX2_readContract_49 (by decide) (fun hc => ?_) (fun hc => ?_)
      · rw [if_pos hc] at hf
        refine lv_iload_n cx.1 cx.2.1 dX2_readContract_60 rfl (lv_at hl 5 rfl) ?_
        refine lv_iconst (v := (4 : Int32)) cx.1 cx.2.1 dX2_readContract_61 (by decide) ?_
        refine lv_iadd cx.1 cx.2.1 dX2_readContract_62 ?_
        exact g_ireti cx hr hlk hw hS hf dX2_readContract_63
      · rw [if_neg hc] at hf
        refine lv_iload cx.1 cx.2.1 dX2_readContract_52 (lv_at hl 1 rfl) ?_
        refine lv_iload cx.1 cx.2.1 dX2_readContract_54 (lv_at hl 0 rfl) ?_
        refine lv_iadd cx.1 cx.2.1 dX2_readContract_56 ?_
        refine lv_if_ne (tgt := 64) cx.1 cx.2.1 dX2_readContract_57 (by decide) (fun hc => ?_) (fun hc => ?_)
        · rw [if_neg hc] at hf
          refine lv_aload_n cx.1 cx.2.1 dX2_readContract_64 rfl (lv_at hl 3 rfl) ?_
          refine lv_iload_n cx.1 cx.2.1 dX2_readContract_65 rfl (lv_at hl 5 rfl) ?_
          refine lv_iconst (v := (5 : Int32)) cx.1 cx.2.1 dX2_readContract_66 (by decide) ?_
          refine lv_iadd cx.1 cx.2.1 dX2_readContract_67 ?_
          obtain ⟨v_8, S_7, hv, hf⟩ := gbi_some hf
          refine g_V (As := [.int (a2 + (5 : Int32))]) (rest := []) cx hw hS (c_X2_digitAt l G (a2 + (5 : Int32)) S_5 v_8 S_7 hv) (by omega) he_c1 rfl rfl gw_149 gy_X2_digitAt gi_X2_digitAt ⟨Nat.le_of_ble_eq_true rfl, Nat.le_of_ble_eq_true rfl⟩ ⟨Nat.zero_le _, Nat.zero_le _⟩ rfl hl.1 rfl (Nat.le_of_ble_eq_true rfl) dX2_readContract_68 (fun H locs hw hS => ?_)
          refine W.eq (g2 := F0 m 71 ls [.int v_8]) rfl ?_
          refine lv_istore (lv' := [(6, .int v_8), (5, .int v_6), (4, .int v_4), (3, .int v_2), (0, .ref (G.2.1 1)), (1, .ref (G.2.1 b1)), (2, .int a2)]) cx.1 cx.2.1 dX2_readContract_71 hl (by decide) rfl (fun ls hl => ?_)
          refine lv_iload cx.1 cx.2.1 dX2_readContract_73 (lv_at hl 0 rfl) ?_
          refine lv_iconst (v := (1 : Int32)) cx.1 cx.2.1 dX2_readContract_75 (by decide) ?_
          refine lv_icmp_ge (tgt := 83) cx.1 cx.2.1 dX2_readContract_76 (by decide) (fun hc => ?_) (fun hc => ?_)
          · rw [if_pos hc] at hf
            refine lv_aload_n cx.1 cx.2.1 dX2_readContract_83 rfl (lv_at hl 5 rfl) ?_
            refine g_get (C := RX7) (T := TX7) (N := 9) (v := .ref (G.2.1 (b1 + 2))) cx hw inlX7 b1 (Nat.lt_of_lt_of_le hb1.lt0 hN) (he_s0 hb1) rfl 1 (by decide) gw_159 rfl rfl dX2_readContract_84 ?_
            refine lv_aload_n cx.1 cx.2.1 dX2_readContract_87 rfl (lv_at hl 4 rfl) ?_
            refine lv_iload_n cx.1 cx.2.1 dX2_readContract_88 rfl (lv_at hl 6 rfl) ?_
            refine lv_iconst (v := (1 : Int32)) cx.1 cx.2.1 dX2_readContract_89 (by decide) ?_
            refine lv_iadd cx.1 cx.2.1 dX2_readContract_90 ?_
            obtain ⟨v_10, S_9, hv, hf⟩ := gbi_some hf
            refine g_V (As := [.int (a2 + (1 : Int32))]) (rest := [.ref (G.2.1 (b1 + 2))]) cx hw hS (c_X2_digitAt l G (a2 + (1 : Int32)) S_7 v_10 S_9 hv) (by omega) he_c1 rfl rfl gw_149 gy_X2_digitAt gi_X2_digitAt ⟨Nat.le_of_ble_eq_true rfl, Nat.le_of_ble_eq_true rfl⟩ ⟨Nat.zero_le _, Nat.zero_le _⟩ rfl hl.1 rfl (Nat.le_of_ble_eq_true rfl) dX2_readContract_91 (fun H locs hw hS => ?_)
            refine W.eq (g2 := F0 m 94 ls [.int v_10, .ref (G.2.1 (b1 + 2))]) rfl ?_
            refine lv_aload_n cx.1 cx.2.1 dX2_readContract_94 rfl (lv_at hl 4 rfl) ?_
            refine lv_iload_n cx.1 cx.2.1 dX2_readContract_95 rfl (lv_at hl 6 rfl) ?_
            refine lv_iconst (v := (2 : Int32)) cx.1 cx.2.1 dX2_readContract_96 (by decide) ?_
            refine lv_iadd cx.1 cx.2.1 dX2_readContract_97 ?_
            obtain ⟨v_12, S_11, hv, hf⟩ := gbi_some hf
            refine g_V (As := [.int (a2 + (2 : Int32))]) (rest := [.int v_10, .ref (G.2.1 (b1 + 2))]) cx hw hS (c_X2_digitAt l G (a2 + (2 : Int32)) S_9 v_12 S_11 hv) (by omega) he_c1 rfl rfl gw_149 gy_X2_digitAt gi_X2_digitAt ⟨Nat.le_of_ble_eq_true rfl, Nat.le_of_ble_eq_true rfl⟩ ⟨Nat.zero_le _, Nat.zero_le _⟩ rfl hl.1 rfl (Nat.le_of_ble_eq_true rfl) dX2_readContract_98 (fun H locs hw hS => ?_)
            refine W.eq (g2 := F0 m 101 ls [.int v_12, .int v_10, .ref (G.2.1 (b1 + 2))]) rfl ?_
            refine lv_bipush (v := (10 : Int32)) cx.1 cx.2.1 dX2_readContract_101 (by decide) ?_
            refine lv_iload cx.1 cx.2.1 dX2_readContract_103 (lv_at hl 2 rfl) ?_
            refine lv_imul cx.1 cx.2.1 dX2_readContract_105 ?_
            refine lv_iload cx.1 cx.2.1 dX2_readContract_106 (lv_at hl 1 rfl) ?_
            refine lv_iadd cx.1 cx.2.1 dX2_readContract_108 ?_
            refine lv_iload cx.1 cx.2.1 dX2_readContract_109 (lv_at hl 0 rfl) ?_
            obtain ⟨S_13, hv, hf⟩ := gbv_some hf
            refine g_V (As := [.int v_10, .int v_12, .int (((10 : Int32) * v_4) + v_6), .int v_8]) (rest := []) cx hw hS (c_X1_add l G hb1 v_10 v_12 (((10 : Int32) * v_4) + v_6) v_8 S_11 S_13 hv) (Nat.lt_of_lt_of_le (hb1.lt (j := 2) (by omega)) hN) (he_s2 hb1) rfl rfl gw_180 gy_X1_add gi_X1_add ⟨Nat.le_of_ble_eq_true rfl, Nat.le_of_ble_eq_true rfl⟩ ⟨Nat.zero_le _, Nat.zero_le _⟩ rfl hl.1 rfl (Nat.le_of_ble_eq_true rfl) dX2_readContract_111 (fun H locs hw hS => ?_)
            refine W.eq (g2 := F0 m 114 ls []) rfl ?_
            refine lv_bipush (v := (-9 : Int32)) cx.1 cx.2.1 dX2_readContract_114 (by decide) ?_
            exact g_ireti cx hr hlk hw hS hf dX2_readContract_116
          · rw [if_neg hc] at hf
            refine lv_iload_n cx.1 cx.2.1 dX2_readContract_79 rfl (lv_at hl 6 rfl) ?_
            refine lv_iconst (v := (5 : Int32)) cx.1 cx.2.1 dX2_readContract_80 (by decide) ?_
            refine lv_iadd cx.1 cx.2.1 dX2_readContract_81 ?_
            exact g_ireti cx hr hlk hw hS hf dX2_readContract_82
        · rw [if_pos hc] at hf
          refine lv_iload_n cx.1 cx.2.1 dX2_readContract_60 rfl (lv_at hl 5 rfl) ?_
          refine lv_iconst (v := (4 : Int32)) cx.1 cx.2.1 dX2_readContract_61 (by decide) ?_
          refine lv_iadd cx.1 cx.2.1 dX2_readContract_62 ?_
          exact g_ireti cx hr hlk hw hS hf dX2_readContract_63
    · rw [if_neg hc] at hf
      refine lv_iload_n cx.1 cx.2.1 dX2_readContract_34 rfl (lv_at hl 4 rfl) ?_
      refine lv_iconst (v := (3 : Int32)) cx.1 cx.2.1 dX2_readContract_35 (by decide) ?_
      refine lv_iadd cx.1 cx.2.1 dX2_readContract_36 ?_
      exact g_ireti cx hr hlk hw hS hf dX2_readContract_37
  · rw [if_neg hc] at hf
    refine lv_iload_n cx.1 cx.2.1 dX2_readContract_18 rfl (lv_at hl 0 rfl) ?_
    exact g_ireti cx hr hlk hw hS hf dX2_readContract_19
set_option maxHeartbeats 4000000 in
set_option maxRecDepth 100000 in
theorem c_X2_readPart (l : Launch) (G : gG) {b1 : Nat} (hb1 : IsSt b1) (a2 : Int32) (S : Sg) (r : Int32) (S' : Sg) (hf : f_X2_readPart b1 a2 S = some (r, S')) : Ct l yX2_readPart [Cond.code yX2_readPart cX2_readPart 3 (some .int)] (gR 4 93) G [.ref (G.2.1 1), .ref (G.2.1 b1), .int a2] S (some (.int r)) S' := by
  refine Ct_of (by decide) (Nat.le_of_ble_eq_true rfl) ?_
  intro p e s m below meth c ls cx hr hlk hw hS hl
  have hN := cx.2.2.2.2.hN
  have hB_27 : ∀ (S : Sg) (x2 : Int32) (H : Heap) (locs : List Loc) (ls : Array Slot), gP G S H → va_S (gA G s.heap.size) s.heap H locs → lv_has ls 3 [(0, .ref (G.2.1 1)), (1, .ref (G.2.1 b1)), (2, .int x2)] → B_X2_readPart_27 b1 S x2 = some (r, S') → W p l e (gR 4 93) s m ([.ref (G.2.1 1), .ref (G.2.1 b1), .int a2] : List Value).toArray below meth c H locs 0 0 (MQ below (gQ G S' (some (.int r)) (gA G s.heap.size)) ([.ref (G.2.1 1), .ref (G.2.1 b1), .int a2] : List Value).toArray s 0 0 (gA G s.heap.size)) (F0 m 27 ls []) := by
    intro S x2 H locs ls hw hS hl hf
    unfold B_X2_readPart_27 at hf
    refine lv_aload_n cx.1 cx.2.1 dX2_readPart_27 rfl (lv_at hl 0 rfl) ?_
    refine lv_iload_n cx.1 cx.2.1 dX2_readPart_28 rfl (lv_at hl 2 rfl) ?_
    refine lv_bipush (v := (99 : Int32)) cx.1 cx.2.1 dX2_readPart_29 (by decide) ?_
    obtain ⟨v_2, S_1, hv, hf⟩ := gbi_some hf
    refine g_V (As := [.int x2, .int (99 : Int32)]) (rest := []) cx hw hS (c_X2_holds l G x2 (99 : Int32) S v_2 S_1 hv) (by omega) he_c1 rfl rfl gw_143 gy_X2_holds gi_X2_holds ⟨Nat.le_of_ble_eq_true rfl, Nat.le_of_ble_eq_true rfl⟩ ⟨Nat.zero_le _, Nat.zero_le _⟩ rfl hl.1 rfl (Nat.le_of_ble_eq_true rfl) dX2_readPart_31 (fun H locs hw hS => ?_)
    refine W.eq (g2 := F0 m 34 ls [.int v_2]) rfl ?_
    refine lv_if_eq (tgt := 54) cx.1 cx.2.1 dX2_readPart_34 (by decide) (fun hc => ?_) (fun hc => ?_)
    · rw [if_pos hc] at hf
      refine lv_iload_n cx.1 cx.2.1 dX2_readPart_54 rfl (lv_at hl 2 rfl) ?_
      exact g_ireti cx hr hlk hw hS hf dX2_readPart_55
    · rw [if_neg hc] at hf
      refine lv_aload_n cx.1 cx.2.1 dX2_readPart_37 rfl (lv_at hl 1 rfl) ?_
      refine g_get (C := RX7) (T := TX7) (N := 9) (v := .ref (G.2.1 (b1 + 2))) cx hw inlX7 b1 (Nat.lt_of_lt_of_le hb1.lt0 hN) (he_s0 hb1) rfl 1 (by decide) gw_159 rfl rfl dX2_readPart_38 ?_
      obtain ⟨v_4, S_3, hv, hf⟩ := gbi_some hf
      refine g_V (As := []) (rest := []) cx hw hS (c_X1_areFull l G hb1 S_1 v_4 S_3 hv) (Nat.lt_of_lt_of_le (hb1.lt (j := 2) (by omega)) hN) (he_s2 hb1) rfl rfl gw_171 gy_X1_areFull gi_X1_areFull ⟨Nat.le_of_ble_eq_true rfl, Nat.le_of_ble_eq_true rfl⟩ ⟨Nat.zero_le _, Nat.zero_le _⟩ rfl hl.1 rfl (Nat.le_of_ble_eq_true rfl) dX2_readPart_41 (fun H locs hw hS => ?_)
      refine W.eq (g2 := F0 m 44 ls [.int v_4]) rfl ?_
      refine lv_if_ne (tgt := 54) cx.1 cx.2.1 dX2_readPart_44 (by decide) (fun hc => ?_) (fun hc => ?_)
      · rw [if_neg hc] at hf
        refine lv_iload_n cx.1 cx.2.1 dX2_readPart_54 rfl (lv_at hl 2 rfl) ?_
        exact g_ireti cx hr hlk hw hS hf dX2_readPart_55
      · rw [if_pos hc] at hf
        refine lv_aload_n cx.1 cx.2.1 dX2_readPart_47 rfl (lv_at hl 0 rfl) ?_
        refine lv_aload_n cx.1 cx.2.1 dX2_readPart_48 rfl (lv_at hl 1 rfl) ?_
        refine lv_iload_n cx.1 cx.2.1 dX2_readPart_49 rfl (lv_at hl 2 rfl) ?_
        obtain ⟨v_6, S_5, hv, hf⟩ := gbi_some hf
        refine g_V (As := [.ref (G.2.1 b1), .int x2]) (rest := []) cx hw hS (c_X2_readContract l G hb1 x2 S_3 v_6 S_5 hv) (by omega) he_c1 rfl rfl gw_176 gy_X2_readContract gi_X2_readContract ⟨Nat.le_of_ble_eq_true rfl, Nat.le_of_ble_eq_true rfl⟩ ⟨Nat.zero_le _, Nat.zero_le _⟩ rfl hl.1 rfl (Nat.le_of_ble_eq_true rfl) dX2_readPart_50 (fun H locs hw hS => ?_)
        refine W.eq (g2 := F0 m 53 ls [.int v_6]) rfl ?_
        exact g_ireti cx hr hlk hw hS hf dX2_readPart_53
  have hl : lv_has ls 3 [(0, .ref (G.2.1 1)), (1, .ref (G.2.1 b1)), (2, .int a2)] := hl
  unfold f_X2_readPart at hf
  refine lv_aload_n cx.1 cx.2.1 dX2_readPart_0 rfl (lv_at hl 0 rfl) ?_
  refine lv_iload_n cx.1 cx.2.1 dX2_readPart_1 rfl (lv_at hl 2 rfl) ?_
  refine lv_bipush (v := (116 : Int32)) cx.1 cx.2.1 dX2_readPart_2 (by decide) ?_
  obtain ⟨v_8, S_7, hv, hf⟩ := gbi_some hf
  refine g_V (As := [.int a2, .int (116 : Int32)]) (rest := []) cx hw hS (c_X2_holds l G a2 (116 : Int32) S v_8 S_7 hv) (by omega) he_c1 rfl rfl gw_143 gy_X2_holds gi_X2_holds ⟨Nat.le_of_ble_eq_true rfl, Nat.le_of_ble_eq_true rfl⟩ ⟨Nat.zero_le _, Nat.zero_le _⟩ rfl hl.1 rfl (Nat.le_of_ble_eq_true rfl) dX2_readPart_4 (fun H locs hw hS => ?_)
  refine W.eq (g2 := F0 m 7 ls [.int v_8]) rfl ?_
  refine lv_if_eq (tgt := 27) cx.1 cx.2.1 dX2_readPart_7 (by decide) (fun hc => ?_) (fun hc => ?_)
  · rw [if_pos hc] at hf
    exact hB_27 S_7 a2 _ _ _ hw hS (lv_sub hl [0, 1, 2] rfl) hf
  · rw [if_neg hc] at hf
    refine lv_aload_n cx.1 cx.2.1 dX2_readPart_10 rfl (lv_at hl 1 rfl) ?_
    refine g_get (C := RX7) (T := TX7) (N := 9) (v := .ref (G.2.1 (b1 + 1))) cx hw inlX7 b1 (Nat.lt_of_lt_of_le hb1.lt0 hN) (he_s0 hb1) rfl 0 (by decide) gw_158 rfl rfl dX2_readPart_11 ?_
    obtain ⟨v_10, S_9, hv, hf⟩ := gbi_some hf
    refine g_V (As := []) (rest := []) cx hw hS (c_X8_areFull l G hb1 S_7 v_10 S_9 hv) (Nat.lt_of_lt_of_le (hb1.lt (j := 1) (by omega)) hN) (he_s1 hb1) rfl rfl gw_160 gy_X8_areFull gi_X8_areFull ⟨Nat.le_of_ble_eq_true rfl, Nat.le_of_ble_eq_true rfl⟩ ⟨Nat.zero_le _, Nat.zero_le _⟩ rfl hl.1 rfl (Nat.le_of_ble_eq_true rfl) dX2_readPart_14 (fun H locs hw hS => ?_)
    refine W.eq (g2 := F0 m 17 ls [.int v_10]) rfl ?_
    refine lv_if_ne (tgt := 27) cx.1 cx.2.1 dX2_readPart_17 (by decide) (fun hc => ?_) (fun hc => ?_)
    · rw [if_neg hc] at hf
      exact hB_27 S_9 a2 _ _ _ hw hS (lv_sub hl [0, 1, 2] rfl) hf
    · rw [if_pos hc] at hf
      refine lv_aload_n cx.1 cx.2.1 dX2_readPart_20 rfl (lv_at hl 0 rfl) ?_
      refine lv_aload_n cx.1 cx.2.1 dX2_readPart_21 rfl (lv_at hl 1 rfl) ?_
      refine lv_iload_n cx.1 cx.2.1 dX2_readPart_22 rfl (lv_at hl 2 rfl) ?_
      obtain ⟨v_12, S_11, hv, hf⟩ := gbi_some hf
      refine g_V (As := [.ref (G.2.1 b1), .int a2]) (rest := []) cx hw hS (c_X2_readTrack l G hb1 a2 S_9 v_12 S_11 hv) (by omega) he_c1 rfl rfl gw_161 gy_X2_readTrack gi_X2_readTrack ⟨Nat.le_of_ble_eq_true rfl, Nat.le_of_ble_eq_true rfl⟩ ⟨Nat.zero_le _, Nat.zero_le _⟩ rfl hl.1 rfl (Nat.le_of_ble_eq_true rfl) dX2_readPart_23 (fun H locs hw hS => ?_)
      refine W.eq (g2 := F0 m 26 ls [.int v_12]) rfl ?_
      exact g_ireti cx hr hlk hw hS hf dX2_readPart_26
set_option maxHeartbeats 4000000 in
set_option maxRecDepth 100000 in
theorem c_X2_readInto (l : Launch) (G : gG) {b1 : Nat} (hb1 : IsSt b1) (S : Sg) (r : Int32) (S' : Sg) (hf : f_X2_readInto b1 S = some (r, S')) : Ct l yX2_readInto [Cond.code yX2_readInto cX2_readInto 5 (some .int)] (gR 5 115) G [.ref (G.2.1 1), .ref (G.2.1 b1)] S (some (.int r)) S' := by
  refine Ct_of (by decide) (Nat.le_of_ble_eq_true rfl) ?_
  intro p e s m below meth c ls cx hr hlk hw hS hl
  have hN := cx.2.2.2.2.hN
  have hL_32 : ∀ (n : Nat), ∀ (S : Sg) (x3 : Int32) (H : Heap) (locs : List Loc) (ls : Array Slot), gP G S H → va_S (gA G s.heap.size) s.heap H locs → lv_has ls 5 [(0, .ref (G.2.1 1)), (1, .ref (G.2.1 b1)), (3, .int x3)] → L_X2_readInto_32 b1 n S x3 = some (r, S') → W p l e (gR 5 115) s m ([.ref (G.2.1 1), .ref (G.2.1 b1)] : List Value).toArray below meth c H locs 0 0 (MQ below (gQ G S' (some (.int r)) (gA G s.heap.size)) ([.ref (G.2.1 1), .ref (G.2.1 b1)] : List Value).toArray s 0 0 (gA G s.heap.size)) (F0 m 32 ls []) := by
    intro n
    induction n with
    | zero => intro S x3 H locs ls hw hS hl hf; cases hf
    | succ n hK32 =>
      intro S x3 H locs ls hw hS hl hf
      have hf : Lb_X2_readInto_32 b1 (L_X2_readInto_32 b1 n) S x3 = some (r, S') := hf
      unfold Lb_X2_readInto_32 at hf
      refine lv_iload_n cx.1 cx.2.1 dX2_readInto_32 rfl (lv_at hl 2 rfl) ?_
      refine lv_aload_n cx.1 cx.2.1 dX2_readInto_33 rfl (lv_at hl 0 rfl) ?_
      refine g_get (C := RX2) (T := TX2) (N := 2) (v := .int (S 1 1)) cx hw inlX2 1 (by omega) he_c1 rfl 1 (by decide) gw_142 rfl rfl dX2_readInto_34 ?_
      refine lv_icmp_ge (tgt := 80) cx.1 cx.2.1 dX2_readInto_37 (by decide) (fun hc => ?_) (fun hc => ?_)
      · rw [if_pos hc] at hf
        refine lv_bipush (v := (-9 : Int32)) cx.1 cx.2.1 dX2_readInto_80 (by decide) ?_
        exact g_ireti cx hr hlk hw hS hf dX2_readInto_82
      · rw [if_neg hc] at hf
        refine lv_aload_n cx.1 cx.2.1 dX2_readInto_40 rfl (lv_at hl 0 rfl) ?_
        refine lv_aload_n cx.1 cx.2.1 dX2_readInto_41 rfl (lv_at hl 1 rfl) ?_
        refine lv_iload_n cx.1 cx.2.1 dX2_readInto_42 rfl (lv_at hl 2 rfl) ?_
        obtain ⟨v_2, S_1, hv, hf⟩ := gbi_some hf
        refine g_V (As := [.ref (G.2.1 b1), .int x3]) (rest := []) cx hw hS (c_X2_readPart l G hb1 x3 S v_2 S_1 hv) (by omega) he_c1 rfl rfl gw_154 gy_X2_readPart gi_X2_readPart ⟨Nat.le_of_ble_eq_true rfl, Nat.le_of_ble_eq_true rfl⟩ ⟨Nat.zero_le _, Nat.zero_le _⟩ rfl hl.1 rfl (Nat.le_of_ble_eq_true rfl) dX2_readInto_43 (fun H locs hw hS => ?_)
        refine W.eq (g2 := F0 m 46 ls [.int v_2]) rfl ?_
        refine lv_istore (lv' := [(4, .int v_2), (0, .ref (G.2.1 1)), (1, .ref (G.2.1 b1)), (3, .int x3)]) cx.1 cx.2.1 dX2_readInto_46 hl (by decide) rfl (fun ls hl => ?_)
        refine lv_iload cx.1 cx.2.1 dX2_readInto_48 (lv_at hl 0 rfl) ?_
        refine lv_bipush (v := (-9 : Int32)) cx.1 cx.2.1 dX2_readInto_50 (by decide) ?_
        refine lv_icmp_eq (tgt := 58) cx.1 cx.2.1 dX2_readInto_52 (by decide) (fun hc => ?_) (fun hc => ?_)
        · rw [if_pos hc] at hf
          refine lv_iload_n cx.1 cx.2.1 dX2_readInto_58 rfl (lv_at hl 3 rfl) ?_
          refine lv_aload_n cx.1 cx.2.1 dX2_readInto_59 rfl (lv_at hl 1 rfl) ?_
          refine lv_iload_n cx.1 cx.2.1 dX2_readInto_60 rfl (lv_at hl 3 rfl) ?_
          refine lv_bipush (v := (116 : Int32)) cx.1 cx.2.1 dX2_readInto_61 (by decide) ?_
          obtain ⟨v_4, S_3, hv, hf⟩ := gbi_some hf
          refine g_V (As := [.int x3, .int (116 : Int32)]) (rest := [.int x3]) cx hw hS (c_X2_holds l G x3 (116 : Int32) S_1 v_4 S_3 hv) (by omega) he_c1 rfl rfl gw_143 gy_X2_holds gi_X2_holds ⟨Nat.le_of_ble_eq_true rfl, Nat.le_of_ble_eq_true rfl⟩ ⟨Nat.zero_le _, Nat.zero_le _⟩ rfl hl.1 rfl (Nat.le_of_ble_eq_true rfl) dX2_readInto_63 (fun H locs hw hS => ?_)
          refine W.eq (g2 := F0 m 66 ls [.int v_4, .int x3]) rfl ?_
          refine lv_if_eq (tgt := 73) cx.1 cx.2.1 dX2_readInto_66 (by decide) (fun hc => ?_) (fun hc => ?_)
          · rw [if_pos hc] at hf
            refine lv_bipush (v := (6 : Int32)) cx.1 cx.2.1 dX2_readInto_73 (by decide) ?_
            refine lv_iadd cx.1 cx.2.1 dX2_readInto_75 ?_
            obtain ⟨x3_5, ex3_5, hf⟩ := gvi_ex hf
            refine W.eq (g2 := F0 m 76 ls [.int x3_5]) (by rw [← ex3_5]) ?_
            refine lv_istore_n (lv' := [(3, .int x3_5), (4, .int v_2), (0, .ref (G.2.1 1)), (1, .ref (G.2.1 b1))]) cx.1 cx.2.1 dX2_readInto_76 rfl hl (by decide) rfl (fun ls hl => ?_)
            refine lv_goto (tgt := 32) cx.1 cx.2.1 dX2_readInto_77 (by decide) ?_
            exact hK32 S_3 x3_5 _ _ _ hw hS (lv_sub hl [2, 3, 0] rfl) hf
          · rw [if_neg hc] at hf
            refine lv_iconst (v := (4 : Int32)) cx.1 cx.2.1 dX2_readInto_69 (by decide) ?_
            refine lv_goto (tgt := 75) cx.1 cx.2.1 dX2_readInto_70 (by decide) ?_
            refine lv_iadd cx.1 cx.2.1 dX2_readInto_75 ?_
            obtain ⟨x3_6, ex3_6, hf⟩ := gvi_ex hf
            refine W.eq (g2 := F0 m 76 ls [.int x3_6]) (by rw [← ex3_6]) ?_
            refine lv_istore_n (lv' := [(3, .int x3_6), (4, .int v_2), (0, .ref (G.2.1 1)), (1, .ref (G.2.1 b1))]) cx.1 cx.2.1 dX2_readInto_76 rfl hl (by decide) rfl (fun ls hl => ?_)
            refine lv_goto (tgt := 32) cx.1 cx.2.1 dX2_readInto_77 (by decide) ?_
            exact hK32 S_3 x3_6 _ _ _ hw hS (lv_sub hl [2, 3, 0] rfl) hf
        · rw [if_neg hc] at hf
          refine lv_iload cx.1 cx.2.1 dX2_readInto_55 (lv_at hl 0 rfl) ?_
          exact g_ireti cx hr hlk hw hS hf dX2_readInto_57
  have hl : lv_has ls 5 [(0, .ref (G.2.1 1)), (1, .ref (G.2.1 b1))] := hl
  unfold f_X2_readInto at hf
  refine lv_aload_n cx.1 cx.2.1 dX2_readInto_0 rfl (lv_at hl 0 rfl) ?_
  refine lv_iconst (v := (0 : Int32)) cx.1 cx.2.1 dX2_readInto_1 (by decide) ?_
  refine lv_bipush (v := (82 : Int32)) cx.1 cx.2.1 dX2_readInto_2 (by decide) ?_
  obtain ⟨v_8, S_7, hv, hf⟩ := gbi_some hf
  refine g_V (As := [.int (0 : Int32), .int (82 : Int32)]) (rest := []) cx hw hS (c_X2_holds l G (0 : Int32) (82 : Int32) S v_8 S_7 hv) (by omega) he_c1 rfl rfl gw_143 gy_X2_holds gi_X2_holds ⟨Nat.le_of_ble_eq_true rfl, Nat.le_of_ble_eq_true rfl⟩ ⟨Nat.zero_le _, Nat.zero_le _⟩ rfl hl.1 rfl (Nat.le_of_ble_eq_true rfl) dX2_readInto_4 (fun H locs hw hS => ?_)
  refine W.eq (g2 := F0 m 7 ls [.int v_8]) rfl ?_
  refine lv_if_ne (tgt := 12) cx.1 cx.2.1 dX2_readInto_7 (by decide) (fun hc => ?_) (fun hc => ?_)
  · rw [if_neg hc] at hf
    refine lv_aload_n cx.1 cx.2.1 dX2_readInto_12 rfl (lv_at hl 0 rfl) ?_
    refine lv_iconst (v := (1 : Int32)) cx.1 cx.2.1 dX2_readInto_13 (by decide) ?_
    obtain ⟨v_10, S_9, hv, hf⟩ := gbi_some hf
    refine g_V (As := [.int (1 : Int32)]) (rest := []) cx hw hS (c_X2_digitAt l G (1 : Int32) S_7 v_10 S_9 hv) (by omega) he_c1 rfl rfl gw_149 gy_X2_digitAt gi_X2_digitAt ⟨Nat.le_of_ble_eq_true rfl, Nat.le_of_ble_eq_true rfl⟩ ⟨Nat.zero_le _, Nat.zero_le _⟩ rfl hl.1 rfl (Nat.le_of_ble_eq_true rfl) dX2_readInto_14 (fun H locs hw hS => ?_)
    refine W.eq (g2 := F0 m 17 ls [.int v_10]) rfl ?_
    refine lv_istore_n (lv' := [(2, .int v_10), (0, .ref (G.2.1 1)), (1, .ref (G.2.1 b1))]) cx.1 cx.2.1 dX2_readInto_17 rfl hl (by decide) rfl (fun ls hl => ?_)
    refine lv_iload_n cx.1 cx.2.1 dX2_readInto_18 rfl (lv_at hl 0 rfl) ?_
    refine lv_iconst (v := (2 : Int32)) cx.1 cx.2.1 dX2_readInto_19 (by decide) ?_
    refine lv_icmp_ge (tgt := 25) cx.1 cx.2.1 dX2_readInto_20 (by decide) (fun hc => ?_) (fun hc => ?_)
    · rw [if_pos hc] at hf
      refine lv_aload_n cx.1 cx.2.1 dX2_readInto_25 rfl (lv_at hl 2 rfl) ?_
      refine lv_iload_n cx.1 cx.2.1 dX2_readInto_26 rfl (lv_at hl 0 rfl) ?_
      obtain ⟨S_11, hv, hf⟩ := gbv_some hf
      refine g_V (As := [.int v_10]) (rest := []) cx hw hS (c_X7_begin l G hb1 v_10 S_9 S_11 hv) (Nat.lt_of_lt_of_le hb1.lt0 hN) (he_s0 hb1) rfl rfl gw_153 gy_X7_begin gi_X7_begin ⟨Nat.le_of_ble_eq_true rfl, Nat.le_of_ble_eq_true rfl⟩ ⟨Nat.zero_le _, Nat.zero_le _⟩ rfl hl.1 rfl (Nat.le_of_ble_eq_true rfl) dX2_readInto_27 (fun H locs hw hS => ?_)
      refine W.eq (g2 := F0 m 30 ls []) rfl ?_
      refine lv_iconst (v := (2 : Int32)) cx.1 cx.2.1 dX2_readInto_30 (by decide) ?_
      refine lv_istore_n (lv' := [(3, .int (2 : Int32)), (2, .int v_10), (0, .ref (G.2.1 1)), (1, .ref (G.2.1 b1))]) cx.1 cx.2.1 dX2_readInto_31 rfl hl (by decide) rfl (fun ls hl => ?_)
      exact hL_32 gFu S_11 (2 : Int32) _ _ _ hw hS (lv_sub hl [2, 3, 0] rfl) hf
    · rw [if_neg hc] at hf
      refine lv_iconst (v := (1 : Int32)) cx.1 cx.2.1 dX2_readInto_23 (by decide) ?_
      exact g_ireti cx hr hlk hw hS hf dX2_readInto_24
  · rw [if_pos hc] at hf
    refine lv_iconst (v := (0 : Int32)) cx.1 cx.2.1 dX2_readInto_10 (by decide) ?_
    exact g_ireti cx hr hlk hw hS hf dX2_readInto_11
set_option maxHeartbeats 4000000 in
set_option maxRecDepth 100000 in
theorem c_X10_errorPosition (l : Launch) (G : gG) (S : Sg) (r : Int32) (S' : Sg) (hf : f_X10_errorPosition S = some (r, S')) : Ct l yX10_errorPosition [Cond.code yX10_errorPosition cX10_errorPosition 1 (some .int)] (gR 6 139) G [.ref (G.2.1 0)] S (some (.int r)) S' := by
  refine Ct_of (by decide) (Nat.le_of_ble_eq_true rfl) ?_
  intro p e s m below meth c ls cx hr hlk hw hS hl
  have hN := cx.2.2.2.2.hN
  have hl : lv_has ls 1 [(0, .ref (G.2.1 0))] := hl
  unfold f_X10_errorPosition at hf
  refine lv_aload_n cx.1 cx.2.1 dX10_errorPosition_0 rfl (lv_at hl 0 rfl) ?_
  refine g_get (C := RX10) (T := TX10) (N := 6) (v := .ref (G.2.1 1)) cx hw inlX10 0 (by omega) he_c0 rfl 0 (by decide) gw_13 rfl rfl dX10_errorPosition_1 ?_
  refine lv_aload_n cx.1 cx.2.1 dX10_errorPosition_4 rfl (lv_at hl 0 rfl) ?_
  refine g_get (C := RX10) (T := TX10) (N := 6) (v := .ref (G.2.1 35)) cx hw inlX10 0 (by omega) he_c0 rfl 2 (by decide) gw_18 rfl rfl dX10_errorPosition_5 ?_
  obtain ⟨v_2, S_1, hv, hf⟩ := gbi_some hf
  refine g_V (As := [.ref (G.2.1 35)]) (rest := []) cx hw hS (c_X2_readInto l G st_35 S v_2 S_1 hv) (by omega) he_c1 rfl rfl gw_138 gy_X2_readInto gi_X2_readInto ⟨Nat.le_of_ble_eq_true rfl, Nat.le_of_ble_eq_true rfl⟩ ⟨Nat.zero_le _, Nat.zero_le _⟩ rfl hl.1 rfl (Nat.le_of_ble_eq_true rfl) dX10_errorPosition_8 (fun H locs hw hS => ?_)
  refine W.eq (g2 := F0 m 11 ls [.int v_2]) rfl ?_
  exact g_ireti cx hr hlk hw hS hf dX10_errorPosition_11
set_option maxHeartbeats 4000000 in
set_option maxRecDepth 100000 in
theorem c_X10_isCompany (l : Launch) (G : gG) (a0 : Int32) (S : Sg) (r : Int32) (S' : Sg) (hf : f_X10_isCompany a0 S = some (r, S')) : Ct l yX10_isCompany [Cond.code yX10_isCompany cX10_isCompany 1 (some .boolean)] (gR 0 0) G [.int a0] S (some (.int r)) S' := by
  refine Ct_of (by decide) (Nat.le_of_ble_eq_true rfl) ?_
  intro p e s m below meth c ls cx hr hlk hw hS hl
  have hN := cx.2.2.2.2.hN
  have hl : lv_has ls 1 [(0, .int a0)] := hl
  unfold f_X10_isCompany at hf
  refine lv_iload_n cx.1 cx.2.1 dX10_isCompany_0 rfl (lv_at hl 0 rfl) ?_
  refine lv_if_lt (tgt := 13) cx.1 cx.2.1 dX10_isCompany_1 (by decide) (fun hc => ?_) (fun hc => ?_)
  · rw [if_pos hc] at hf
    refine lv_iconst (v := (0 : Int32)) cx.1 cx.2.1 dX10_isCompany_13 (by decide) ?_
    exact g_zreti cx hr hlk hw hS (by decide) hf dX10_isCompany_14
  · rw [if_neg hc] at hf
    refine lv_iload_n cx.1 cx.2.1 dX10_isCompany_4 rfl (lv_at hl 0 rfl) ?_
    refine lv_iconst (v := (4 : Int32)) cx.1 cx.2.1 dX10_isCompany_5 (by decide) ?_
    refine lv_icmp_ge (tgt := 13) cx.1 cx.2.1 dX10_isCompany_6 (by decide) (fun hc => ?_) (fun hc => ?_)
    · rw [if_pos hc] at hf
      refine lv_iconst (v := (0 : Int32)) cx.1 cx.2.1 dX10_isCompany_13 (by decide) ?_
      exact g_zreti cx hr hlk hw hS (by decide) hf dX10_isCompany_14
    · rw [if_neg hc] at hf
      refine lv_iconst (v := (1 : Int32)) cx.1 cx.2.1 dX10_isCompany_9 (by decide) ?_
      refine lv_goto (tgt := 14) cx.1 cx.2.1 dX10_isCompany_10 (by decide) ?_
      exact g_zreti cx hr hlk hw hS (by decide) hf dX10_isCompany_14
set_option maxHeartbeats 4000000 in
set_option maxRecDepth 100000 in
theorem c_X10_sum (l : Launch) (G : gG) {k0 : Nat} {n0 : Nat} (hk0 : IA G k0 n0) (S : Sg) (r : Int32) (S' : Sg) (hf : f_X10_sum k0 n0 S = some (r, S')) : Ct l yX10_sum [Cond.code yX10_sum cX10_sum 3 (some .int)] (gR 0 0) G [.ref (G.2.1 k0)] S (some (.int r)) S' := by
  refine Ct_of (by decide) (Nat.le_of_ble_eq_true rfl) ?_
  intro p e s m below meth c ls cx hr hlk hw hS hl
  have hN := cx.2.2.2.2.hN
  have hL_4 : ∀ (n : Nat), ∀ (S : Sg) (x1 : Int32) (x2 : Int32) (H : Heap) (locs : List Loc) (ls : Array Slot), gP G S H → va_S (gA G s.heap.size) s.heap H locs → lv_has ls 3 [(0, .ref (G.2.1 k0)), (1, .int x1), (2, .int x2)] → L_X10_sum_4 k0 n0 n S x1 x2 = some (r, S') → W p l e (gR 0 0) s m ([.ref (G.2.1 k0)] : List Value).toArray below meth c H locs 0 0 (MQ below (gQ G S' (some (.int r)) (gA G s.heap.size)) ([.ref (G.2.1 k0)] : List Value).toArray s 0 0 (gA G s.heap.size)) (F0 m 4 ls []) := by
    intro n
    induction n with
    | zero => intro S x1 x2 H locs ls hw hS hl hf; cases hf
    | succ n hK4 =>
      intro S x1 x2 H locs ls hw hS hl hf
      have hf : Lb_X10_sum_4 k0 n0 (L_X10_sum_4 k0 n0 n) S x1 x2 = some (r, S') := hf
      unfold Lb_X10_sum_4 at hf
      refine lv_iload_n cx.1 cx.2.1 dX10_sum_4 rfl (lv_at hl 2 rfl) ?_
      refine lv_aload_n cx.1 cx.2.1 dX10_sum_5 rfl (lv_at hl 0 rfl) ?_
      refine g_alen cx hw hk0 dX10_sum_6 ?_
      refine lv_icmp_ge (tgt := 22) cx.1 cx.2.1 dX10_sum_7 (by decide) (fun hc => ?_) (fun hc => ?_)
      · rw [if_pos hc] at hf
        refine lv_iload_n cx.1 cx.2.1 dX10_sum_22 rfl (lv_at hl 1 rfl) ?_
        exact g_ireti cx hr hlk hw hS hf dX10_sum_23
      · rw [if_neg hc] at hf
        refine lv_iload_n cx.1 cx.2.1 dX10_sum_10 rfl (lv_at hl 1 rfl) ?_
        refine lv_aload_n cx.1 cx.2.1 dX10_sum_11 rfl (lv_at hl 0 rfl) ?_
        refine lv_iload_n cx.1 cx.2.1 dX10_sum_12 rfl (lv_at hl 2 rfl) ?_
        obtain ⟨hin, hf⟩ := gck_some hf
        refine g_iald cx hw hk0 (vp_of_inb hin) dX10_sum_13 ?_
        refine lv_iadd cx.1 cx.2.1 dX10_sum_14 ?_
        obtain ⟨x1_1, ex1_1, hf⟩ := gvi_ex hf
        refine W.eq (g2 := F0 m 15 ls [.int x1_1]) (by rw [← ex1_1]) ?_
        refine lv_istore_n (lv' := [(1, .int x1_1), (0, .ref (G.2.1 k0)), (2, .int x2)]) cx.1 cx.2.1 dX10_sum_15 rfl hl (by decide) rfl (fun ls hl => ?_)
        obtain ⟨x2_2, ex2_2, hf⟩ := gvi_ex hf
        refine lv_iinc (v := x2_2) (lv' := [(2, .int x2_2), (1, .int x1_1), (0, .ref (G.2.1 k0))]) cx.1 cx.2.1 dX10_sum_16 hl (k := 2) rfl (by rw [← ex2_2]; rfl) (by decide) rfl (fun ls hl => ?_)
        refine lv_goto (tgt := 4) cx.1 cx.2.1 dX10_sum_19 (by decide) ?_
        exact hK4 S x1_1 x2_2 _ _ _ hw hS (lv_sub hl [2, 1, 0] rfl) hf
  have hl : lv_has ls 3 [(0, .ref (G.2.1 k0))] := hl
  unfold f_X10_sum at hf
  refine lv_iconst (v := (0 : Int32)) cx.1 cx.2.1 dX10_sum_0 (by decide) ?_
  refine lv_istore_n (lv' := [(1, .int (0 : Int32)), (0, .ref (G.2.1 k0))]) cx.1 cx.2.1 dX10_sum_1 rfl hl (by decide) rfl (fun ls hl => ?_)
  refine lv_iconst (v := (0 : Int32)) cx.1 cx.2.1 dX10_sum_2 (by decide) ?_
  refine lv_istore_n (lv' := [(2, .int (0 : Int32)), (1, .int (0 : Int32)), (0, .ref (G.2.1 k0))]) cx.1 cx.2.1 dX10_sum_3 rfl hl (by decide) rfl (fun ls hl => ?_)
  exact hL_4 gFu S (0 : Int32) (0 : Int32) _ _ _ hw hS (lv_sub hl [2, 1, 0] rfl) hf
set_option maxHeartbeats 4000000 in
set_option maxRecDepth 100000 in
theorem c_X1_countOf (l : Launch) (G : gG) {b : Nat} (hb : IsSt b) (a1 : Int32) (S : Sg) (r : Int32) (S' : Sg) (hf : f_X1_countOf b a1 S = some (r, S')) : Ct l yX1_countOf [Cond.code yX1_countOf cX1_countOf 4 (some .int)] (gR 1 21) G [.ref (G.2.1 (b + 2)), .int a1] S (some (.int r)) S' := by
  refine Ct_of (by decide) (Nat.le_of_ble_eq_true rfl) ?_
  intro p e s m below meth c ls cx hr hlk hw hS hl
  have hN := cx.2.2.2.2.hN
  have hL_4 : ∀ (n : Nat), ∀ (S : Sg) (x1 : Int32) (x2 : Int32) (x3 : Int32) (H : Heap) (locs : List Loc) (ls : Array Slot), gP G S H → va_S (gA G s.heap.size) s.heap H locs → lv_has ls 4 [(0, .ref (G.2.1 (b + 2))), (1, .int x1), (2, .int x2), (3, .int x3)] → L_X1_countOf_4 b n S x1 x2 x3 = some (r, S') → W p l e (gR 1 21) s m ([.ref (G.2.1 (b + 2)), .int a1] : List Value).toArray below meth c H locs 0 0 (MQ below (gQ G S' (some (.int r)) (gA G s.heap.size)) ([.ref (G.2.1 (b + 2)), .int a1] : List Value).toArray s 0 0 (gA G s.heap.size)) (F0 m 4 ls []) := by
    intro n
    induction n with
    | zero => intro S x1 x2 x3 H locs ls hw hS hl hf; cases hf
    | succ n hK4 =>
      intro S x1 x2 x3 H locs ls hw hS hl hf
      have hf : Lb_X1_countOf_4 b (L_X1_countOf_4 b n) S x1 x2 x3 = some (r, S') := hf
      unfold Lb_X1_countOf_4 at hf
      refine lv_iload_n cx.1 cx.2.1 dX1_countOf_4 rfl (lv_at hl 3 rfl) ?_
      refine lv_aload_n cx.1 cx.2.1 dX1_countOf_5 rfl (lv_at hl 0 rfl) ?_
      refine g_get (C := RX1) (T := TX1) (N := 7) (v := .int (S (b + 2) 6)) cx hw inlX1 (b + 2) (Nat.lt_of_lt_of_le (hb.lt (j := 2) (by omega)) hN) (he_s2 hb) rfl 6 (by decide) gw_175 rfl rfl dX1_countOf_6 ?_
      refine lv_icmp_ge (tgt := 38) cx.1 cx.2.1 dX1_countOf_9 (by decide) (fun hc => ?_) (fun hc => ?_)
      · rw [if_pos hc] at hf
        refine lv_iload_n cx.1 cx.2.1 dX1_countOf_38 rfl (lv_at hl 2 rfl) ?_
        exact g_ireti cx hr hlk hw hS hf dX1_countOf_39
      · rw [if_neg hc] at hf
        refine lv_iload_n cx.1 cx.2.1 dX1_countOf_12 rfl (lv_at hl 2 rfl) ?_
        refine lv_aload_n cx.1 cx.2.1 dX1_countOf_13 rfl (lv_at hl 0 rfl) ?_
        refine g_get (C := RX1) (T := TX1) (N := 7) (v := .ref (G.2.1 (b + 12))) cx hw inlX1 (b + 2) (Nat.lt_of_lt_of_le (hb.lt (j := 2) (by omega)) hN) (he_s2 hb) rfl 4 (by decide) gw_66 rfl rfl dX1_countOf_14 ?_
        refine lv_iload_n cx.1 cx.2.1 dX1_countOf_17 rfl (lv_at hl 3 rfl) ?_
        obtain ⟨v_2, S_1, hv, hf⟩ := gbi_some hf
        refine g_N (As := [.ref (G.2.1 (b + 12)), .int x3]) (rest := [.int x2]) cx hw hS (c_X10_at l G (ia_s12 hN hb) x3 S v_2 S_1 hv) gnm_28 gy_X10_at gi_X10_at ⟨Nat.le_of_ble_eq_true rfl, Nat.le_of_ble_eq_true rfl⟩ ⟨Nat.zero_le _, Nat.zero_le _⟩ rfl hl.1 rfl (Nat.le_of_ble_eq_true rfl) dX1_countOf_18 (fun H locs hw hS => ?_)
        refine W.eq (g2 := F0 m 21 ls [.int v_2, .int x2]) rfl ?_
        refine lv_iload_n cx.1 cx.2.1 dX1_countOf_21 rfl (lv_at hl 1 rfl) ?_
        refine lv_icmp_ne (tgt := 29) cx.1 cx.2.1 dX1_countOf_22 (by decide) (fun hc => ?_) (fun hc => ?_)
        · rw [if_neg hc] at hf
          refine lv_iconst (v := (0 : Int32)) cx.1 cx.2.1 dX1_countOf_29 (by decide) ?_
          refine lv_iadd cx.1 cx.2.1 dX1_countOf_30 ?_
          obtain ⟨x2_3, ex2_3, hf⟩ := gvi_ex hf
          refine W.eq (g2 := F0 m 31 ls [.int x2_3]) (by rw [← ex2_3]) ?_
          refine lv_istore_n (lv' := [(2, .int x2_3), (0, .ref (G.2.1 (b + 2))), (1, .int x1), (3, .int x3)]) cx.1 cx.2.1 dX1_countOf_31 rfl hl (by decide) rfl (fun ls hl => ?_)
          obtain ⟨x3_4, ex3_4, hf⟩ := gvi_ex hf
          refine lv_iinc (v := x3_4) (lv' := [(3, .int x3_4), (2, .int x2_3), (0, .ref (G.2.1 (b + 2))), (1, .int x1)]) cx.1 cx.2.1 dX1_countOf_32 hl (k := 3) rfl (by rw [← ex3_4]; rfl) (by decide) rfl (fun ls hl => ?_)
          refine lv_goto (tgt := 4) cx.1 cx.2.1 dX1_countOf_35 (by decide) ?_
          exact hK4 S_1 x1 x2_3 x3_4 _ _ _ hw hS (lv_sub hl [2, 3, 1, 0] rfl) hf
        · rw [if_pos hc] at hf
          refine lv_iconst (v := (1 : Int32)) cx.1 cx.2.1 dX1_countOf_25 (by decide) ?_
          refine lv_goto (tgt := 30) cx.1 cx.2.1 dX1_countOf_26 (by decide) ?_
          refine lv_iadd cx.1 cx.2.1 dX1_countOf_30 ?_
          obtain ⟨x2_5, ex2_5, hf⟩ := gvi_ex hf
          refine W.eq (g2 := F0 m 31 ls [.int x2_5]) (by rw [← ex2_5]) ?_
          refine lv_istore_n (lv' := [(2, .int x2_5), (0, .ref (G.2.1 (b + 2))), (1, .int x1), (3, .int x3)]) cx.1 cx.2.1 dX1_countOf_31 rfl hl (by decide) rfl (fun ls hl => ?_)
          obtain ⟨x3_6, ex3_6, hf⟩ := gvi_ex hf
          refine lv_iinc (v := x3_6) (lv' := [(3, .int x3_6), (2, .int x2_5), (0, .ref (G.2.1 (b + 2))), (1, .int x1)]) cx.1 cx.2.1 dX1_countOf_32 hl (k := 3) rfl (by rw [← ex3_6]; rfl) (by decide) rfl (fun ls hl => ?_)
          refine lv_goto (tgt := 4) cx.1 cx.2.1 dX1_countOf_35 (by decide) ?_
          exact hK4 S_1 x1 x2_5 x3_6 _ _ _ hw hS (lv_sub hl [2, 3, 1, 0] rfl) hf
  have hl : lv_has ls 4 [(0, .ref (G.2.1 (b + 2))), (1, .int a1)] := hl
  unfold f_X1_countOf at hf
  refine lv_iconst (v := (0 : Int32)) cx.1 cx.2.1 dX1_countOf_0 (by decide) ?_
  refine lv_istore_n (lv' := [(2, .int (0 : Int32)), (0, .ref (G.2.1 (b + 2))), (1, .int a1)]) cx.1 cx.2.1 dX1_countOf_1 rfl hl (by decide) rfl (fun ls hl => ?_)
  refine lv_iconst (v := (0 : Int32)) cx.1 cx.2.1 dX1_countOf_2 (by decide) ?_
  refine lv_istore_n (lv' := [(3, .int (0 : Int32)), (2, .int (0 : Int32)), (0, .ref (G.2.1 (b + 2))), (1, .int a1)]) cx.1 cx.2.1 dX1_countOf_3 rfl hl (by decide) rfl (fun ls hl => ?_)
  exact hL_4 gFu S a1 (0 : Int32) (0 : Int32) _ _ _ hw hS (lv_sub hl [2, 3, 1, 0] rfl) hf
set_option maxHeartbeats 4000000 in
set_option maxRecDepth 100000 in
theorem c_X1_give (l : Launch) (G : gG) {b : Nat} (hb : IsSt b) (a1 : Int32) (a2 : Int32) (S : Sg) (S' : Sg) (hf : f_X1_give b a1 a2 S = some S') : Ct l yX1_give [Cond.code yX1_give cX1_give 3 none] (gR 1 22) G [.ref (G.2.1 (b + 2)), .int a1, .int a2] S none S' := by
  refine Ct_of (by decide) (Nat.le_of_ble_eq_true rfl) ?_
  intro p e s m below meth c ls cx hr hlk hw hS hl
  have hN := cx.2.2.2.2.hN
  have hl : lv_has ls 3 [(0, .ref (G.2.1 (b + 2))), (1, .int a1), (2, .int a2)] := hl
  unfold f_X1_give at hf
  refine lv_aload_n cx.1 cx.2.1 dX1_give_0 rfl (lv_at hl 0 rfl) ?_
  refine g_get (C := RX1) (T := TX1) (N := 7) (v := .ref (G.2.1 (b + 12))) cx hw inlX1 (b + 2) (Nat.lt_of_lt_of_le (hb.lt (j := 2) (by omega)) hN) (he_s2 hb) rfl 4 (by decide) gw_66 rfl rfl dX1_give_1 ?_
  refine lv_iload_n cx.1 cx.2.1 dX1_give_4 rfl (lv_at hl 1 rfl) ?_
  refine lv_iload_n cx.1 cx.2.1 dX1_give_5 rfl (lv_at hl 2 rfl) ?_
  obtain ⟨S_1, hv, hf⟩ := gbv_some hf
  refine g_N (As := [.ref (G.2.1 (b + 12)), .int a1, .int a2]) (rest := []) cx hw hS (c_X10_put l G (ia_s12 hN hb) a1 a2 S S_1 hv) gnm_13 gy_X10_put gi_X10_put ⟨Nat.le_of_ble_eq_true rfl, Nat.le_of_ble_eq_true rfl⟩ ⟨Nat.zero_le _, Nat.zero_le _⟩ rfl hl.1 rfl (Nat.le_of_ble_eq_true rfl) dX1_give_6 (fun H locs hw hS => ?_)
  refine W.eq (g2 := F0 m 9 ls []) rfl ?_
  exact g_vreti cx hr hlk hw hS hf dX1_give_9
set_option maxHeartbeats 4000000 in
set_option maxRecDepth 100000 in
theorem c_X2_isFull (l : Launch) (G : gG) (S : Sg) (r : Int32) (S' : Sg) (hf : f_X2_isFull S = some (r, S')) : Ct l yX2_isFull [Cond.code yX2_isFull cX2_isFull 1 (some .boolean)] (gR 0 0) G [.ref (G.2.1 1)] S (some (.int r)) S' := by
  refine Ct_of (by decide) (Nat.le_of_ble_eq_true rfl) ?_
  intro p e s m below meth c ls cx hr hlk hw hS hl
  have hN := cx.2.2.2.2.hN
  have hl : lv_has ls 1 [(0, .ref (G.2.1 1))] := hl
  unfold f_X2_isFull at hf
  refine lv_aload_n cx.1 cx.2.1 dX2_isFull_0 rfl (lv_at hl 0 rfl) ?_
  refine g_get (C := RX2) (T := TX2) (N := 2) (v := .int (S 1 1)) cx hw inlX2 1 (by omega) he_c1 rfl 1 (by decide) gw_142 rfl rfl dX2_isFull_1 ?_
  refine lv_bipush (v := (100 : Int32)) cx.1 cx.2.1 dX2_isFull_4 (by decide) ?_
  refine lv_icmp_lt (tgt := 13) cx.1 cx.2.1 dX2_isFull_6 (by decide) (fun hc => ?_) (fun hc => ?_)
  · rw [if_pos hc] at hf
    refine lv_iconst (v := (0 : Int32)) cx.1 cx.2.1 dX2_isFull_13 (by decide) ?_
    exact g_zreti cx hr hlk hw hS (by decide) hf dX2_isFull_14
  · rw [if_neg hc] at hf
    refine lv_iconst (v := (1 : Int32)) cx.1 cx.2.1 dX2_isFull_9 (by decide) ?_
    refine lv_goto (tgt := 14) cx.1 cx.2.1 dX2_isFull_10 (by decide) ?_
    exact g_zreti cx hr hlk hw hS (by decide) hf dX2_isFull_14
set_option maxHeartbeats 4000000 in
set_option maxRecDepth 100000 in
theorem c_X2_add (l : Launch) (G : gG) (a1 : Int32) (S : Sg) (r : Int32) (S' : Sg) (hf : f_X2_add a1 S = some (r, S')) : Ct l yX2_add [Cond.code yX2_add cX2_add 2 (some .int)] (gR 1 22) G [.ref (G.2.1 1), .int a1] S (some (.int r)) S' := by
  refine Ct_of (by decide) (Nat.le_of_ble_eq_true rfl) ?_
  intro p e s m below meth c ls cx hr hlk hw hS hl
  have hN := cx.2.2.2.2.hN
  have hl : lv_has ls 2 [(0, .ref (G.2.1 1)), (1, .int a1)] := hl
  unfold f_X2_add at hf
  refine lv_aload_n cx.1 cx.2.1 dX2_add_0 rfl (lv_at hl 0 rfl) ?_
  obtain ⟨v_2, S_1, hv, hf⟩ := gbi_some hf
  refine g_V (As := []) (rest := []) cx hw hS (c_X2_isFull l G S v_2 S_1 hv) (by omega) he_c1 rfl rfl gw_826 gy_X2_isFull gi_X2_isFull ⟨Nat.le_of_ble_eq_true rfl, Nat.le_of_ble_eq_true rfl⟩ ⟨Nat.zero_le _, Nat.zero_le _⟩ rfl hl.1 rfl (Nat.le_of_ble_eq_true rfl) dX2_add_1 (fun H locs hw hS => ?_)
  refine W.eq (g2 := F0 m 4 ls [.int v_2]) rfl ?_
  refine lv_if_ne (tgt := 29) cx.1 cx.2.1 dX2_add_4 (by decide) (fun hc => ?_) (fun hc => ?_)
  · rw [if_neg hc] at hf
    refine lv_aload_n cx.1 cx.2.1 dX2_add_29 rfl (lv_at hl 0 rfl) ?_
    refine g_get (C := RX2) (T := TX2) (N := 2) (v := .int (S_1 1 1)) cx hw inlX2 1 (by omega) he_c1 rfl 1 (by decide) gw_142 rfl rfl dX2_add_30 ?_
    exact g_ireti cx hr hlk hw hS hf dX2_add_33
  · rw [if_pos hc] at hf
    refine lv_aload_n cx.1 cx.2.1 dX2_add_7 rfl (lv_at hl 0 rfl) ?_
    refine g_get (C := RX2) (T := TX2) (N := 2) (v := .ref (G.2.1 2)) cx hw inlX2 1 (by omega) he_c1 rfl 0 (by decide) gw_36 rfl rfl dX2_add_8 ?_
    refine lv_aload_n cx.1 cx.2.1 dX2_add_11 rfl (lv_at hl 0 rfl) ?_
    refine g_get (C := RX2) (T := TX2) (N := 2) (v := .int (S_1 1 1)) cx hw inlX2 1 (by omega) he_c1 rfl 1 (by decide) gw_142 rfl rfl dX2_add_12 ?_
    refine lv_iload_n cx.1 cx.2.1 dX2_add_15 rfl (lv_at hl 1 rfl) ?_
    obtain ⟨S_3, hv, hf⟩ := gbv_some hf
    refine g_N (As := [.ref (G.2.1 2), .int (S_1 1 1), .int a1]) (rest := []) cx hw hS (c_X10_put l G (ia_c2 hN) (S_1 1 1) a1 S_1 S_3 hv) gnm_26 gy_X10_put gi_X10_put ⟨Nat.le_of_ble_eq_true rfl, Nat.le_of_ble_eq_true rfl⟩ ⟨Nat.zero_le _, Nat.zero_le _⟩ rfl hl.1 rfl (Nat.le_of_ble_eq_true rfl) dX2_add_16 (fun H locs hw hS => ?_)
    refine W.eq (g2 := F0 m 19 ls []) rfl ?_
    refine lv_aload_n cx.1 cx.2.1 dX2_add_19 rfl (lv_at hl 0 rfl) ?_
    refine lv_dup cx.1 cx.2.1 dX2_add_20 rfl ?_
    refine g_get (C := RX2) (T := TX2) (N := 2) (v := .int (S_3 1 1)) cx hw inlX2 1 (by omega) he_c1 rfl 1 (by decide) gw_142 rfl rfl dX2_add_21 ?_
    refine lv_iconst (v := (1 : Int32)) cx.1 cx.2.1 dX2_add_24 (by decide) ?_
    refine lv_iadd cx.1 cx.2.1 dX2_add_25 ?_
    obtain ⟨S_4, eS_4, hf⟩ := gst_ex hf
    refine g_put (C := RX2) (T := TX2) (N := 2) cx hw hS inlX2 tyX2 tyX2_ok nmX2 1 (by omega) he_c1 rfl 1 (by decide) gw_142 rfl rfl (by decide +kernel) (Nat.le_of_ble_eq_true rfl) (by rw [u2_s, he_c1]; rfl) dX2_add_26 (fun H locs hw hS => ?_)
    rw [eS_4] at hw
    refine lv_aload_n cx.1 cx.2.1 dX2_add_29 rfl (lv_at hl 0 rfl) ?_
    refine g_get (C := RX2) (T := TX2) (N := 2) (v := .int (S_4 1 1)) cx hw inlX2 1 (by omega) he_c1 rfl 1 (by decide) gw_142 rfl rfl dX2_add_30 ?_
    exact g_ireti cx hr hlk hw hS hf dX2_add_33
set_option maxHeartbeats 4000000 in
set_option maxRecDepth 100000 in
theorem c_X3_forget (l : Launch) (G : gG) (S : Sg) (S' : Sg) (hf : f_X3_forget S = some S') : Ct l yX3_forget [Cond.code yX3_forget cX3_forget 1 none] (gR 0 0) G [.ref (G.2.1 3)] S none S' := by
  refine Ct_of (by decide) (Nat.le_of_ble_eq_true rfl) ?_
  intro p e s m below meth c ls cx hr hlk hw hS hl
  have hN := cx.2.2.2.2.hN
  have hl : lv_has ls 1 [(0, .ref (G.2.1 3))] := hl
  unfold f_X3_forget at hf
  refine lv_aload_n cx.1 cx.2.1 dX3_forget_0 rfl (lv_at hl 0 rfl) ?_
  refine lv_iconst (v := (0 : Int32)) cx.1 cx.2.1 dX3_forget_1 (by decide) ?_
  obtain ⟨S_1, eS_1, hf⟩ := gst_ex hf
  refine g_put (C := RX3) (T := TX3) (N := 3) cx hw hS inlX3 tyX3 tyX3_ok nmX3 3 (by omega) he_c3 rfl 2 (by decide) gw_311 rfl rfl (by decide +kernel) (Nat.le_of_ble_eq_true rfl) (by rw [u2_s, he_c3]; rfl) dX3_forget_2 (fun H locs hw hS => ?_)
  rw [eS_1] at hw
  exact g_vreti cx hr hlk hw hS hf dX3_forget_5
set_option maxHeartbeats 4000000 in
set_option maxRecDepth 100000 in
theorem c_X3_takeBackInto (l : Launch) (G : gG) {b1 : Nat} (hb1 : IsSt b1) (S : Sg) (S' : Sg) (hf : f_X3_takeBackInto b1 S = some S') : Ct l yX3_takeBackInto [Cond.code yX3_takeBackInto cX3_takeBackInto 2 none] (gR 5 144) G [.ref (G.2.1 3), .ref (G.2.1 b1)] S none S' := by
  refine Ct_of (by decide) (Nat.le_of_ble_eq_true rfl) ?_
  intro p e s m below meth c ls cx hr hlk hw hS hl
  have hN := cx.2.2.2.2.hN
  have hl : lv_has ls 2 [(0, .ref (G.2.1 3)), (1, .ref (G.2.1 b1))] := hl
  unfold f_X3_takeBackInto at hf
  refine lv_aload_n cx.1 cx.2.1 dX3_takeBackInto_0 rfl (lv_at hl 0 rfl) ?_
  refine g_get (C := RX3) (T := TX3) (N := 3) (v := .int (S 3 2)) cx hw inlX3 3 (by omega) he_c3 rfl 2 (by decide) gw_311 rfl rfl dX3_takeBackInto_1 ?_
  refine lv_if_le (tgt := 29) cx.1 cx.2.1 dX3_takeBackInto_4 (by decide) (fun hc => ?_) (fun hc => ?_)
  · rw [if_pos hc] at hf
    exact g_vreti cx hr hlk hw hS hf dX3_takeBackInto_29
  · rw [if_neg hc] at hf
    refine lv_aload_n cx.1 cx.2.1 dX3_takeBackInto_7 rfl (lv_at hl 0 rfl) ?_
    refine lv_dup cx.1 cx.2.1 dX3_takeBackInto_8 rfl ?_
    refine g_get (C := RX3) (T := TX3) (N := 3) (v := .int (S 3 2)) cx hw inlX3 3 (by omega) he_c3 rfl 2 (by decide) gw_311 rfl rfl dX3_takeBackInto_9 ?_
    refine lv_iconst (v := (1 : Int32)) cx.1 cx.2.1 dX3_takeBackInto_12 (by decide) ?_
    refine lv_isub cx.1 cx.2.1 dX3_takeBackInto_13 ?_
    obtain ⟨S_1, eS_1, hf⟩ := gst_ex hf
    refine g_put (C := RX3) (T := TX3) (N := 3) cx hw hS inlX3 tyX3 tyX3_ok nmX3 3 (by omega) he_c3 rfl 2 (by decide) gw_311 rfl rfl (by decide +kernel) (Nat.le_of_ble_eq_true rfl) (by rw [u2_s, he_c3]; rfl) dX3_takeBackInto_14 (fun H locs hw hS => ?_)
    rw [eS_1] at hw
    refine lv_aload_n cx.1 cx.2.1 dX3_takeBackInto_17 rfl (lv_at hl 0 rfl) ?_
    refine lv_aload_n cx.1 cx.2.1 dX3_takeBackInto_18 rfl (lv_at hl 0 rfl) ?_
    refine g_get (C := RX3) (T := TX3) (N := 3) (v := .int (S_1 3 2)) cx hw inlX3 3 (by omega) he_c3 rfl 2 (by decide) gw_311 rfl rfl dX3_takeBackInto_19 ?_
    obtain ⟨v_3, S_2, hv, hf⟩ := gbn_some hf
    have hbv_3 := st_of_X3_stateAt hv
    refine g_V (As := [.int (S_1 3 2)]) (rest := []) cx hw hS (c_X3_stateAt l G (S_1 3 2) S_1 v_3 S_2 hv) (by omega) he_c3 rfl rfl gw_312 gy_X3_stateAt gi_X3_stateAt ⟨Nat.le_of_ble_eq_true rfl, Nat.le_of_ble_eq_true rfl⟩ ⟨Nat.zero_le _, Nat.zero_le _⟩ rfl hl.1 rfl (Nat.le_of_ble_eq_true rfl) dX3_takeBackInto_22 (fun H locs hw hS => ?_)
    refine W.eq (g2 := F0 m 25 ls [.ref (G.2.1 v_3)]) rfl ?_
    refine lv_aload_n cx.1 cx.2.1 dX3_takeBackInto_25 rfl (lv_at hl 1 rfl) ?_
    obtain ⟨S_4, hv, hf⟩ := gbv_some hf
    refine g_N (As := [.ref (G.2.1 v_3), .ref (G.2.1 b1)]) (rest := []) cx hw hS (c_X10_copyState l G hbv_3 hb1 S_2 S_4 hv) gnm_14 gy_X10_copyState gi_X10_copyState ⟨Nat.le_of_ble_eq_true rfl, Nat.le_of_ble_eq_true rfl⟩ ⟨Nat.zero_le _, Nat.zero_le _⟩ rfl hl.1 rfl (Nat.le_of_ble_eq_true rfl) dX3_takeBackInto_26 (fun H locs hw hS => ?_)
    refine W.eq (g2 := F0 m 29 ls []) rfl ?_
    exact g_vreti cx hr hlk hw hS hf dX3_takeBackInto_29
set_option maxHeartbeats 4000000 in
set_option maxRecDepth 100000 in
theorem c_X9_setPrices (l : Launch) (G : gG) {b1 : Nat} (hb1 : IsSt b1) (a2 : Int32) (S : Sg) (S' : Sg) (hf : f_X9_setPrices b1 a2 S = some S') : Ct l yX9_setPrices [Cond.code yX9_setPrices cX9_setPrices 5 none] (gR 2 43) G [.ref (G.2.1 9), .ref (G.2.1 b1), .int a2] S none S' := by
  refine Ct_of (by decide) (Nat.le_of_ble_eq_true rfl) ?_
  intro p e s m below meth c ls cx hr hlk hw hS hl
  have hN := cx.2.2.2.2.hN
  have hL_8 : ∀ (n : Nat), ∀ (S : Sg) (x2 : Int32) (x4 : Int32) (H : Heap) (locs : List Loc) (ls : Array Slot), gP G S H → va_S (gA G s.heap.size) s.heap H locs → lv_has ls 5 [(0, .ref (G.2.1 9)), (1, .ref (G.2.1 b1)), (2, .int x2), (3, .ref (G.2.1 (b1 + 1))), (4, .int x4)] → L_X9_setPrices_8 b1 n S x2 x4 = some S' → W p l e (gR 2 43) s m ([.ref (G.2.1 9), .ref (G.2.1 b1), .int a2] : List Value).toArray below meth c H locs 0 0 (MQ below (gQ G S' none (gA G s.heap.size)) ([.ref (G.2.1 9), .ref (G.2.1 b1), .int a2] : List Value).toArray s 0 0 (gA G s.heap.size)) (F0 m 8 ls []) := by
    intro n
    induction n with
    | zero => intro S x2 x4 H locs ls hw hS hl hf; cases hf
    | succ n hK8 =>
      intro S x2 x4 H locs ls hw hS hl hf
      have hf : Lb_X9_setPrices_8 b1 (L_X9_setPrices_8 b1 n) S x2 x4 = some S' := hf
      unfold Lb_X9_setPrices_8 at hf
      refine lv_iload cx.1 cx.2.1 dX9_setPrices_8 (lv_at hl 4 rfl) ?_
      refine lv_aload_n cx.1 cx.2.1 dX9_setPrices_10 rfl (lv_at hl 3 rfl) ?_
      refine g_get (C := RX8) (T := TX8) (N := 5) (v := .int (S (b1 + 1) 4)) cx hw inlX8 (b1 + 1) (Nat.lt_of_lt_of_le (hb1.lt (j := 1) (by omega)) hN) (he_s1 hb1) rfl 4 (by decide) gw_255 rfl rfl dX9_setPrices_11 ?_
      refine lv_icmp_ge (tgt := 59) cx.1 cx.2.1 dX9_setPrices_14 (by decide) (fun hc => ?_) (fun hc => ?_)
      · rw [if_pos hc] at hf
        exact g_vreti cx hr hlk hw hS hf dX9_setPrices_59
      · rw [if_neg hc] at hf
        refine lv_aload_n cx.1 cx.2.1 dX9_setPrices_17 rfl (lv_at hl 0 rfl) ?_
        refine g_get (C := RX9) (T := TX9) (N := 7) (v := .ref (G.2.1 12)) cx hw inlX9 9 (by omega) he_c9 rfl 2 (by decide) gw_103 rfl rfl dX9_setPrices_18 ?_
        refine lv_iload cx.1 cx.2.1 dX9_setPrices_21 (lv_at hl 4 rfl) ?_
        refine lv_aload_n cx.1 cx.2.1 dX9_setPrices_23 rfl (lv_at hl 3 rfl) ?_
        refine g_get (C := RX8) (T := TX8) (N := 5) (v := .ref (G.2.1 (b1 + 6))) cx hw inlX8 (b1 + 1) (Nat.lt_of_lt_of_le (hb1.lt (j := 1) (by omega)) hN) (he_s1 hb1) rfl 2 (by decide) gw_256 rfl rfl dX9_setPrices_24 ?_
        refine lv_iload cx.1 cx.2.1 dX9_setPrices_27 (lv_at hl 4 rfl) ?_
        obtain ⟨v_2, S_1, hv, hf⟩ := gbi_some hf
        refine g_N (As := [.ref (G.2.1 (b1 + 6)), .int x4]) (rest := [.int x4, .ref (G.2.1 12)]) cx hw hS (c_X10_at l G (ia_s6 hN hb1) x4 S v_2 S_1 hv) gnm_21 gy_X10_at gi_X10_at ⟨Nat.le_of_ble_eq_true rfl, Nat.le_of_ble_eq_true rfl⟩ ⟨Nat.zero_le _, Nat.zero_le _⟩ rfl hl.1 rfl (Nat.le_of_ble_eq_true rfl) dX9_setPrices_29 (fun H locs hw hS => ?_)
        refine W.eq (g2 := F0 m 32 ls [.int v_2, .int x4, .ref (G.2.1 12)]) rfl ?_
        refine lv_aload_n cx.1 cx.2.1 dX9_setPrices_32 rfl (lv_at hl 1 rfl) ?_
        refine g_get (C := RX7) (T := TX7) (N := 9) (v := .ref (G.2.1 (b1 + 3))) cx hw inlX7 b1 (Nat.lt_of_lt_of_le hb1.lt0 hN) (he_s0 hb1) rfl 2 (by decide) gw_257 rfl rfl dX9_setPrices_33 ?_
        refine lv_iload_n cx.1 cx.2.1 dX9_setPrices_36 rfl (lv_at hl 2 rfl) ?_
        refine lv_aload_n cx.1 cx.2.1 dX9_setPrices_37 rfl (lv_at hl 3 rfl) ?_
        refine g_get (C := RX8) (T := TX8) (N := 5) (v := .ref (G.2.1 (b1 + 7))) cx hw inlX8 (b1 + 1) (Nat.lt_of_lt_of_le (hb1.lt (j := 1) (by omega)) hN) (he_s1 hb1) rfl 3 (by decide) gw_258 rfl rfl dX9_setPrices_38 ?_
        refine lv_iload cx.1 cx.2.1 dX9_setPrices_41 (lv_at hl 4 rfl) ?_
        obtain ⟨v_4, S_3, hv, hf⟩ := gbi_some hf
        refine g_N (As := [.ref (G.2.1 (b1 + 7)), .int x4]) (rest := [.int x2, .ref (G.2.1 (b1 + 3)), .int v_2, .int x4, .ref (G.2.1 12)]) cx hw hS (c_X10_at l G (ia_s7 hN hb1) x4 S_1 v_4 S_3 hv) gnm_21 gy_X10_at gi_X10_at ⟨Nat.le_of_ble_eq_true rfl, Nat.le_of_ble_eq_true rfl⟩ ⟨Nat.zero_le _, Nat.zero_le _⟩ rfl hl.1 rfl (Nat.le_of_ble_eq_true rfl) dX9_setPrices_43 (fun H locs hw hS => ?_)
        refine W.eq (g2 := F0 m 46 ls [.int v_4, .int x2, .ref (G.2.1 (b1 + 3)), .int v_2, .int x4, .ref (G.2.1 12)]) rfl ?_
        obtain ⟨v_6, S_5, hv, hf⟩ := gbi_some hf
        refine g_V (As := [.int x2, .int v_4]) (rest := [.int v_2, .int x4, .ref (G.2.1 12)]) cx hw hS (c_X0_rentFor l G hb1 x2 v_4 S_3 v_6 S_5 hv) (Nat.lt_of_lt_of_le (hb1.lt (j := 3) (by omega)) hN) (he_s3 hb1) rfl rfl gw_259 gy_X0_rentFor gi_X0_rentFor ⟨Nat.le_of_ble_eq_true rfl, Nat.le_of_ble_eq_true rfl⟩ ⟨Nat.zero_le _, Nat.zero_le _⟩ rfl hl.1 rfl (Nat.le_of_ble_eq_true rfl) dX9_setPrices_46 (fun H locs hw hS => ?_)
        refine W.eq (g2 := F0 m 49 ls [.int v_6, .int v_2, .int x4, .ref (G.2.1 12)]) rfl ?_
        refine lv_imul cx.1 cx.2.1 dX9_setPrices_49 ?_
        obtain ⟨S_7, hv, hf⟩ := gbv_some hf
        refine g_N (As := [.ref (G.2.1 12), .int x4, .int (v_2 * v_6)]) (rest := []) cx hw hS (c_X10_put l G (ia_c12 hN) x4 (v_2 * v_6) S_5 S_7 hv) gnm_23 gy_X10_put gi_X10_put ⟨Nat.le_of_ble_eq_true rfl, Nat.le_of_ble_eq_true rfl⟩ ⟨Nat.zero_le _, Nat.zero_le _⟩ rfl hl.1 rfl (Nat.le_of_ble_eq_true rfl) dX9_setPrices_50 (fun H locs hw hS => ?_)
        refine W.eq (g2 := F0 m 53 ls []) rfl ?_
        obtain ⟨x4_8, ex4_8, hf⟩ := gvi_ex hf
        refine lv_iinc (v := x4_8) (lv' := [(4, .int x4_8), (0, .ref (G.2.1 9)), (1, .ref (G.2.1 b1)), (2, .int x2), (3, .ref (G.2.1 (b1 + 1)))]) cx.1 cx.2.1 dX9_setPrices_53 hl (k := 4) rfl (by rw [← ex4_8]; rfl) (by decide) rfl (fun ls hl => ?_)
        refine lv_goto (tgt := 8) cx.1 cx.2.1 dX9_setPrices_56 (by decide) ?_
        exact hK8 S_7 x2 x4_8 _ _ _ hw hS (lv_sub hl [1, 2, 3, 4, 0] rfl) hf
  have hl : lv_has ls 5 [(0, .ref (G.2.1 9)), (1, .ref (G.2.1 b1)), (2, .int a2)] := hl
  unfold f_X9_setPrices at hf
  refine lv_aload_n cx.1 cx.2.1 dX9_setPrices_0 rfl (lv_at hl 1 rfl) ?_
  refine g_get (C := RX7) (T := TX7) (N := 9) (v := .ref (G.2.1 (b1 + 1))) cx hw inlX7 b1 (Nat.lt_of_lt_of_le hb1.lt0 hN) (he_s0 hb1) rfl 0 (by decide) gw_248 rfl rfl dX9_setPrices_1 ?_
  refine lv_astore_n (lv' := [(3, .ref (G.2.1 (b1 + 1))), (0, .ref (G.2.1 9)), (1, .ref (G.2.1 b1)), (2, .int a2)]) cx.1 cx.2.1 dX9_setPrices_4 rfl hl (by decide) rfl (fun ls hl => ?_)
  refine lv_iconst (v := (0 : Int32)) cx.1 cx.2.1 dX9_setPrices_5 (by decide) ?_
  refine lv_istore (lv' := [(4, .int (0 : Int32)), (3, .ref (G.2.1 (b1 + 1))), (0, .ref (G.2.1 9)), (1, .ref (G.2.1 b1)), (2, .int a2)]) cx.1 cx.2.1 dX9_setPrices_6 hl (by decide) rfl (fun ls hl => ?_)
  exact hL_8 gFu S a2 (0 : Int32) _ _ _ hw hS (lv_sub hl [2, 3, 4, 1, 0] rfl) hf
set_option maxHeartbeats 4000000 in
set_option maxRecDepth 100000 in
theorem c_X9_place (l : Launch) (G : gG) (a0 : Int32) (a1 : Int32) (S : Sg) (r : Int32) (S' : Sg) (hf : f_X9_place a0 a1 S = some (r, S')) : Ct l yX9_place [Cond.code yX9_place cX9_place 2 (some .int)] (gR 0 0) G [.int a0, .int a1] S (some (.int r)) S' := by
  refine Ct_of (by decide) (Nat.le_of_ble_eq_true rfl) ?_
  intro p e s m below meth c ls cx hr hlk hw hS hl
  have hN := cx.2.2.2.2.hN
  have hl : lv_has ls 2 [(0, .int a0), (1, .int a1)] := hl
  unfold f_X9_place at hf
  refine lv_iload_n cx.1 cx.2.1 dX9_place_0 rfl (lv_at hl 0 rfl) ?_
  refine lv_bipush (v := (9 : Int32)) cx.1 cx.2.1 dX9_place_1 (by decide) ?_
  refine lv_imul cx.1 cx.2.1 dX9_place_3 ?_
  refine lv_iload_n cx.1 cx.2.1 dX9_place_4 rfl (lv_at hl 1 rfl) ?_
  refine lv_iadd cx.1 cx.2.1 dX9_place_5 ?_
  exact g_ireti cx hr hlk hw hS hf dX9_place_6
set_option maxHeartbeats 4000000 in
set_option maxRecDepth 100000 in
theorem c_X9_leastAt (l : Launch) (G : gG) (a1 : Int32) (S : Sg) (r : Int32) (S' : Sg) (hf : f_X9_leastAt a1 S = some (r, S')) : Ct l yX9_leastAt [Cond.code yX9_leastAt cX9_leastAt 2 (some .int)] (gR 0 0) G [.ref (G.2.1 9), .int a1] S (some (.int r)) S' := by
  refine Ct_of (by decide) (Nat.le_of_ble_eq_true rfl) ?_
  intro p e s m below meth c ls cx hr hlk hw hS hl
  have hN := cx.2.2.2.2.hN
  have hl : lv_has ls 2 [(0, .ref (G.2.1 9)), (1, .int a1)] := hl
  unfold f_X9_leastAt at hf
  refine lv_iload_n cx.1 cx.2.1 dX9_leastAt_0 rfl (lv_at hl 1 rfl) ?_
  refine lv_if_lt (tgt := 22) cx.1 cx.2.1 dX9_leastAt_1 (by decide) (fun hc => ?_) (fun hc => ?_)
  · rw [if_pos hc] at hf
    refine lv_ldc cx.1 cx.2.1 cx.2.2.2.1 (cx.2.2.2.2.ts _ gw_250) dX9_leastAt_22 ?_
    exact g_ireti cx hr hlk hw hS hf dX9_leastAt_24
  · rw [if_neg hc] at hf
    refine lv_iload_n cx.1 cx.2.1 dX9_leastAt_4 rfl (lv_at hl 1 rfl) ?_
    refine lv_aload_n cx.1 cx.2.1 dX9_leastAt_5 rfl (lv_at hl 0 rfl) ?_
    refine g_get (C := RX9) (T := TX9) (N := 7) (v := .ref (G.2.1 10)) cx hw inlX9 9 (by omega) he_c9 rfl 0 (by decide) gw_101 rfl rfl dX9_leastAt_6 ?_
    refine g_alen cx hw (ia_c10 hN) dX9_leastAt_9 ?_
    refine lv_icmp_ge (tgt := 22) cx.1 cx.2.1 dX9_leastAt_10 (by decide) (fun hc => ?_) (fun hc => ?_)
    · rw [if_pos hc] at hf
      refine lv_ldc cx.1 cx.2.1 cx.2.2.2.1 (cx.2.2.2.2.ts _ gw_250) dX9_leastAt_22 ?_
      exact g_ireti cx hr hlk hw hS hf dX9_leastAt_24
    · rw [if_neg hc] at hf
      refine lv_aload_n cx.1 cx.2.1 dX9_leastAt_13 rfl (lv_at hl 0 rfl) ?_
      refine g_get (C := RX9) (T := TX9) (N := 7) (v := .ref (G.2.1 10)) cx hw inlX9 9 (by omega) he_c9 rfl 0 (by decide) gw_101 rfl rfl dX9_leastAt_14 ?_
      refine lv_iload_n cx.1 cx.2.1 dX9_leastAt_17 rfl (lv_at hl 1 rfl) ?_
      obtain ⟨hin, hf⟩ := gck_some hf
      refine g_iald cx hw (ia_c10 hN) (vp_of_inb hin) dX9_leastAt_18 ?_
      refine lv_goto (tgt := 24) cx.1 cx.2.1 dX9_leastAt_19 (by decide) ?_
      exact g_ireti cx hr hlk hw hS hf dX9_leastAt_24
set_option maxHeartbeats 4000000 in
set_option maxRecDepth 100000 in
theorem c_X9_beginWith (l : Launch) (G : gG) (a1 : Int32) (a2 : Int32) (a3 : Int32) (S : Sg) (S' : Sg) (hf : f_X9_beginWith a1 a2 a3 S = some S') : Ct l yX9_beginWith [Cond.code yX9_beginWith cX9_beginWith 5 none] (gR 1 22) G [.ref (G.2.1 9), .int a1, .int a2, .int a3] S none S' := by
  refine Ct_of (by decide) (Nat.le_of_ble_eq_true rfl) ?_
  intro p e s m below meth c ls cx hr hlk hw hS hl
  have hN := cx.2.2.2.2.hN
  have hl : lv_has ls 5 [(0, .ref (G.2.1 9)), (1, .int a1), (2, .int a2), (3, .int a3)] := hl
  unfold f_X9_beginWith at hf
  refine lv_aload_n cx.1 cx.2.1 dX9_beginWith_0 rfl (lv_at hl 0 rfl) ?_
  refine lv_iload_n cx.1 cx.2.1 dX9_beginWith_1 rfl (lv_at hl 3 rfl) ?_
  obtain ⟨v_2, S_1, hv, hf⟩ := gbi_some hf
  refine g_V (As := [.int a3]) (rest := []) cx hw hS (c_X9_leastAt l G a3 S v_2 S_1 hv) (by omega) he_c9 rfl rfl gw_276 gy_X9_leastAt gi_X9_leastAt ⟨Nat.le_of_ble_eq_true rfl, Nat.le_of_ble_eq_true rfl⟩ ⟨Nat.zero_le _, Nat.zero_le _⟩ rfl hl.1 rfl (Nat.le_of_ble_eq_true rfl) dX9_beginWith_2 (fun H locs hw hS => ?_)
  refine W.eq (g2 := F0 m 5 ls [.int v_2]) rfl ?_
  refine lv_aload_n cx.1 cx.2.1 dX9_beginWith_5 rfl (lv_at hl 0 rfl) ?_
  refine g_get (C := RX9) (T := TX9) (N := 7) (v := .ref (G.2.1 12)) cx hw inlX9 9 (by omega) he_c9 rfl 2 (by decide) gw_103 rfl rfl dX9_beginWith_6 ?_
  refine lv_iload_n cx.1 cx.2.1 dX9_beginWith_9 rfl (lv_at hl 1 rfl) ?_
  obtain ⟨v_4, S_3, hv, hf⟩ := gbi_some hf
  refine g_N (As := [.ref (G.2.1 12), .int a1]) (rest := [.int v_2]) cx hw hS (c_X10_at l G (ia_c12 hN) a1 S_1 v_4 S_3 hv) gnm_21 gy_X10_at gi_X10_at ⟨Nat.le_of_ble_eq_true rfl, Nat.le_of_ble_eq_true rfl⟩ ⟨Nat.zero_le _, Nat.zero_le _⟩ rfl hl.1 rfl (Nat.le_of_ble_eq_true rfl) dX9_beginWith_10 (fun H locs hw hS => ?_)
  refine W.eq (g2 := F0 m 13 ls [.int v_4, .int v_2]) rfl ?_
  refine lv_iadd cx.1 cx.2.1 dX9_beginWith_13 ?_
  obtain ⟨x4_5, ex4_5, hf⟩ := gvi_ex hf
  refine W.eq (g2 := F0 m 14 ls [.int x4_5]) (by rw [← ex4_5]) ?_
  refine lv_istore (lv' := [(4, .int x4_5), (0, .ref (G.2.1 9)), (1, .int a1), (2, .int a2), (3, .int a3)]) cx.1 cx.2.1 dX9_beginWith_14 hl (by decide) rfl (fun ls hl => ?_)
  refine lv_iload cx.1 cx.2.1 dX9_beginWith_16 (lv_at hl 0 rfl) ?_
  refine lv_aload_n cx.1 cx.2.1 dX9_beginWith_18 rfl (lv_at hl 1 rfl) ?_
  refine lv_iload_n cx.1 cx.2.1 dX9_beginWith_19 rfl (lv_at hl 3 rfl) ?_
  obtain ⟨v_7, S_6, hv, hf⟩ := gbi_some hf
  refine g_V (As := [.int a2]) (rest := [.int x4_5]) cx hw hS (c_X9_leastAt l G a2 S_3 v_7 S_6 hv) (by omega) he_c9 rfl rfl gw_276 gy_X9_leastAt gi_X9_leastAt ⟨Nat.le_of_ble_eq_true rfl, Nat.le_of_ble_eq_true rfl⟩ ⟨Nat.zero_le _, Nat.zero_le _⟩ rfl hl.1 rfl (Nat.le_of_ble_eq_true rfl) dX9_beginWith_20 (fun H locs hw hS => ?_)
  refine W.eq (g2 := F0 m 23 ls [.int v_7, .int x4_5]) rfl ?_
  refine lv_icmp_ge (tgt := 45) cx.1 cx.2.1 dX9_beginWith_23 (by decide) (fun hc => ?_) (fun hc => ?_)
  · rw [if_pos hc] at hf
    exact g_vreti cx hr hlk hw hS hf dX9_beginWith_45
  · rw [if_neg hc] at hf
    refine lv_aload_n cx.1 cx.2.1 dX9_beginWith_26 rfl (lv_at hl 1 rfl) ?_
    refine g_get (C := RX9) (T := TX9) (N := 7) (v := .ref (G.2.1 10)) cx hw inlX9 9 (by omega) he_c9 rfl 0 (by decide) gw_101 rfl rfl dX9_beginWith_27 ?_
    refine lv_iload_n cx.1 cx.2.1 dX9_beginWith_30 rfl (lv_at hl 3 rfl) ?_
    refine lv_iload cx.1 cx.2.1 dX9_beginWith_31 (lv_at hl 0 rfl) ?_
    obtain ⟨S_8, hv, hf⟩ := gbv_some hf
    refine g_N (As := [.ref (G.2.1 10), .int a2, .int x4_5]) (rest := []) cx hw hS (c_X10_put l G (ia_c10 hN) a2 x4_5 S_6 S_8 hv) gnm_23 gy_X10_put gi_X10_put ⟨Nat.le_of_ble_eq_true rfl, Nat.le_of_ble_eq_true rfl⟩ ⟨Nat.zero_le _, Nat.zero_le _⟩ rfl hl.1 rfl (Nat.le_of_ble_eq_true rfl) dX9_beginWith_33 (fun H locs hw hS => ?_)
    refine W.eq (g2 := F0 m 36 ls []) rfl ?_
    refine lv_aload_n cx.1 cx.2.1 dX9_beginWith_36 rfl (lv_at hl 1 rfl) ?_
    refine g_get (C := RX9) (T := TX9) (N := 7) (v := .ref (G.2.1 11)) cx hw inlX9 9 (by omega) he_c9 rfl 1 (by decide) gw_102 rfl rfl dX9_beginWith_37 ?_
    refine lv_iload_n cx.1 cx.2.1 dX9_beginWith_40 rfl (lv_at hl 3 rfl) ?_
    refine lv_iload_n cx.1 cx.2.1 dX9_beginWith_41 rfl (lv_at hl 2 rfl) ?_
    obtain ⟨S_9, hv, hf⟩ := gbv_some hf
    refine g_N (As := [.ref (G.2.1 11), .int a2, .int a1]) (rest := []) cx hw hS (c_X10_put l G (ia_c11 hN) a2 a1 S_8 S_9 hv) gnm_23 gy_X10_put gi_X10_put ⟨Nat.le_of_ble_eq_true rfl, Nat.le_of_ble_eq_true rfl⟩ ⟨Nat.zero_le _, Nat.zero_le _⟩ rfl hl.1 rfl (Nat.le_of_ble_eq_true rfl) dX9_beginWith_42 (fun H locs hw hS => ?_)
    refine W.eq (g2 := F0 m 45 ls []) rfl ?_
    exact g_vreti cx hr hlk hw hS hf dX9_beginWith_45
set_option maxHeartbeats 4000000 in
set_option maxRecDepth 100000 in
theorem c_X9_measure (l : Launch) (G : gG) {b1 : Nat} (hb1 : IsSt b1) (a2 : Int32) (a3 : Int32) (S : Sg) (S' : Sg) (hf : f_X9_measure b1 a2 a3 S = some S') : Ct l yX9_measure [Cond.code yX9_measure cX9_measure 7 none] (gR 2 46) G [.ref (G.2.1 9), .ref (G.2.1 (b1 + 1)), .int a2, .int a3] S none S' := by
  refine Ct_of (by decide) (Nat.le_of_ble_eq_true rfl) ?_
  intro p e s m below meth c ls cx hr hlk hw hS hl
  have hN := cx.2.2.2.2.hN
  have hL_34 : ∀ (K25 : Sg → Int32 → Int32 → Option Sg) (hK25 : ∀ (S : Sg) (x3 : Int32) (x4 : Int32) (H : Heap) (locs : List Loc) (ls : Array Slot), gP G S H → va_S (gA G s.heap.size) s.heap H locs → lv_has ls 7 [(0, .ref (G.2.1 9)), (1, .ref (G.2.1 (b1 + 1))), (3, .int x3), (4, .int x4)] → K25 S x3 x4 = some S' → W p l e (gR 2 46) s m ([.ref (G.2.1 9), .ref (G.2.1 (b1 + 1)), .int a2, .int a3] : List Value).toArray below meth c H locs 0 0 (MQ below (gQ G S' none (gA G s.heap.size)) ([.ref (G.2.1 9), .ref (G.2.1 (b1 + 1)), .int a2, .int a3] : List Value).toArray s 0 0 (gA G s.heap.size)) (F0 m 25 ls [])), ∀ (n : Nat), ∀ (S : Sg) (x3 : Int32) (x4 : Int32) (x5 : Int32) (H : Heap) (locs : List Loc) (ls : Array Slot), gP G S H → va_S (gA G s.heap.size) s.heap H locs → lv_has ls 7 [(0, .ref (G.2.1 9)), (1, .ref (G.2.1 (b1 + 1))), (3, .int x3), (4, .int x4), (5, .int x5)] → L_X9_measure_34 b1 K25 n S x3 x4 x5 = some S' → W p l e (gR 2 46) s m ([.ref (G.2.1 9), .ref (G.2.1 (b1 + 1)), .int a2, .int a3] : List Value).toArray below meth c H locs 0 0 (MQ below (gQ G S' none (gA G s.heap.size)) ([.ref (G.2.1 9), .ref (G.2.1 (b1 + 1)), .int a2, .int a3] : List Value).toArray s 0 0 (gA G s.heap.size)) (F0 m 34 ls []) := by
    intro K25 hK25 n
    induction n with
    | zero => intro S x3 x4 x5 H locs ls hw hS hl hf; cases hf
    | succ n hK34 =>
      intro S x3 x4 x5 H locs ls hw hS hl hf
      have hf : Lb_X9_measure_34 b1 K25 (L_X9_measure_34 b1 K25 n) S x3 x4 x5 = some S' := hf
      unfold Lb_X9_measure_34 at hf
      refine lv_iload cx.1 cx.2.1 dX9_measure_34 (lv_at hl 4 rfl) ?_
      refine lv_aload_n cx.1 cx.2.1 dX9_measure_36 rfl (lv_at hl 1 rfl) ?_
      refine g_get (C := RX8) (T := TX8) (N := 5) (v := .int (S (b1 + 1) 4)) cx hw inlX8 (b1 + 1) (Nat.lt_of_lt_of_le (hb1.lt (j := 1) (by omega)) hN) (he_s1 hb1) rfl 4 (by decide) gw_255 rfl rfl dX9_measure_37 ?_
      refine lv_icmp_ge (tgt := 131) cx.1 cx.2.1 dX9_measure_40 (by decide) (fun hc => ?_) (fun hc => ?_)
      · rw [if_pos hc] at hf
        obtain ⟨x4_1, ex4_1, hf⟩ := gvi_ex hf
        refine lv_iinc (v := x4_1) (lv' := [(4, .int x4_1), (0, .ref (G.2.1 9)), (1, .ref (G.2.1 (b1 + 1))), (3, .int x3), (5, .int x5)]) cx.1 cx.2.1 dX9_measure_131 hl (k := 3) rfl (by rw [← ex4_1]; rfl) (by decide) rfl (fun ls hl => ?_)
        refine lv_goto (tgt := 25) cx.1 cx.2.1 dX9_measure_134 (by decide) ?_
        exact hK25 S x3 x4_1 _ _ _ hw hS (lv_sub hl [1, 2, 3, 0] rfl) hf
      · rw [if_neg hc] at hf
        refine lv_iload cx.1 cx.2.1 dX9_measure_43 (lv_at hl 3 rfl) ?_
        refine lv_aload_n cx.1 cx.2.1 dX9_measure_45 rfl (lv_at hl 1 rfl) ?_
        refine g_get (C := RX8) (T := TX8) (N := 5) (v := .ref (G.2.1 (b1 + 6))) cx hw inlX8 (b1 + 1) (Nat.lt_of_lt_of_le (hb1.lt (j := 1) (by omega)) hN) (he_s1 hb1) rfl 2 (by decide) gw_256 rfl rfl dX9_measure_46 ?_
        refine lv_iload cx.1 cx.2.1 dX9_measure_49 (lv_at hl 4 rfl) ?_
        obtain ⟨v_3, S_2, hv, hf⟩ := gbi_some hf
        refine g_N (As := [.ref (G.2.1 (b1 + 6)), .int x5]) (rest := [.int x4]) cx hw hS (c_X10_at l G (ia_s6 hN hb1) x5 S v_3 S_2 hv) gnm_21 gy_X10_at gi_X10_at ⟨Nat.le_of_ble_eq_true rfl, Nat.le_of_ble_eq_true rfl⟩ ⟨Nat.zero_le _, Nat.zero_le _⟩ rfl hl.1 rfl (Nat.le_of_ble_eq_true rfl) dX9_measure_51 (fun H locs hw hS => ?_)
        refine W.eq (g2 := F0 m 54 ls [.int v_3, .int x4]) rfl ?_
        refine lv_isub cx.1 cx.2.1 dX9_measure_54 ?_
        obtain ⟨x6_4, ex6_4, hf⟩ := gvi_ex hf
        refine W.eq (g2 := F0 m 55 ls [.int x6_4]) (by rw [← ex6_4]) ?_
        refine lv_istore (lv' := [(6, .int x6_4), (0, .ref (G.2.1 9)), (1, .ref (G.2.1 (b1 + 1))), (3, .int x3), (4, .int x4), (5, .int x5)]) cx.1 cx.2.1 dX9_measure_55 hl (by decide) rfl (fun ls hl => ?_)
        refine lv_aload_n cx.1 cx.2.1 dX9_measure_57 rfl (lv_at hl 1 rfl) ?_
        refine lv_iload cx.1 cx.2.1 dX9_measure_58 (lv_at hl 5 rfl) ?_
        refine lv_iload cx.1 cx.2.1 dX9_measure_60 (lv_at hl 4 rfl) ?_
        refine lv_aload_n cx.1 cx.2.1 dX9_measure_62 rfl (lv_at hl 2 rfl) ?_
        refine g_get (C := RX8) (T := TX8) (N := 5) (v := .ref (G.2.1 (b1 + 4))) cx hw inlX8 (b1 + 1) (Nat.lt_of_lt_of_le (hb1.lt (j := 1) (by omega)) hN) (he_s1 hb1) rfl 0 (by decide) gw_267 rfl rfl dX9_measure_63 ?_
        refine lv_iload cx.1 cx.2.1 dX9_measure_66 (lv_at hl 5 rfl) ?_
        obtain ⟨v_6, S_5, hv, hf⟩ := gbi_some hf
        refine g_N (As := [.ref (G.2.1 (b1 + 4)), .int x5]) (rest := [.int x4, .int x5, .ref (G.2.1 9)]) cx hw hS (c_X10_at l G (ia_s4 hN hb1) x5 S_2 v_6 S_5 hv) gnm_21 gy_X10_at gi_X10_at ⟨Nat.le_of_ble_eq_true rfl, Nat.le_of_ble_eq_true rfl⟩ ⟨Nat.zero_le _, Nat.zero_le _⟩ rfl hl.1 rfl (Nat.le_of_ble_eq_true rfl) dX9_measure_68 (fun H locs hw hS => ?_)
        refine W.eq (g2 := F0 m 71 ls [.int v_6, .int x4, .int x5, .ref (G.2.1 9)]) rfl ?_
        obtain ⟨v_8, S_7, hv, hf⟩ := gbi_some hf
        refine g_S (As := [.int x4, .int v_6]) (rest := [.int x5, .ref (G.2.1 9)]) cx hw hS (c_X9_place l G x4 v_6 S_5 v_8 S_7 hv) gw_269 gy_X9_place gi_X9_place ⟨Nat.le_of_ble_eq_true rfl, Nat.le_of_ble_eq_true rfl⟩ ⟨Nat.zero_le _, Nat.zero_le _⟩ rfl hl.1 rfl (Nat.le_of_ble_eq_true rfl) dX9_measure_71 (fun H locs hw hS => ?_)
        refine W.eq (g2 := F0 m 74 ls [.int v_8, .int x5, .ref (G.2.1 9)]) rfl ?_
        refine lv_iload cx.1 cx.2.1 dX9_measure_74 (lv_at hl 0 rfl) ?_
        refine lv_aload_n cx.1 cx.2.1 dX9_measure_76 rfl (lv_at hl 2 rfl) ?_
        refine g_get (C := RX8) (T := TX8) (N := 5) (v := .ref (G.2.1 (b1 + 5))) cx hw inlX8 (b1 + 1) (Nat.lt_of_lt_of_le (hb1.lt (j := 1) (by omega)) hN) (he_s1 hb1) rfl 1 (by decide) gw_268 rfl rfl dX9_measure_77 ?_
        refine lv_iload cx.1 cx.2.1 dX9_measure_80 (lv_at hl 5 rfl) ?_
        obtain ⟨v_10, S_9, hv, hf⟩ := gbi_some hf
        refine g_N (As := [.ref (G.2.1 (b1 + 5)), .int x5]) (rest := [.int x6_4, .int v_8, .int x5, .ref (G.2.1 9)]) cx hw hS (c_X10_at l G (ia_s5 hN hb1) x5 S_7 v_10 S_9 hv) gnm_21 gy_X10_at gi_X10_at ⟨Nat.le_of_ble_eq_true rfl, Nat.le_of_ble_eq_true rfl⟩ ⟨Nat.zero_le _, Nat.zero_le _⟩ rfl hl.1 rfl (Nat.le_of_ble_eq_true rfl) dX9_measure_82 (fun H locs hw hS => ?_)
        refine W.eq (g2 := F0 m 85 ls [.int v_10, .int x6_4, .int v_8, .int x5, .ref (G.2.1 9)]) rfl ?_
        obtain ⟨v_12, S_11, hv, hf⟩ := gbi_some hf
        refine g_S (As := [.int x6_4, .int v_10]) (rest := [.int v_8, .int x5, .ref (G.2.1 9)]) cx hw hS (c_X9_place l G x6_4 v_10 S_9 v_12 S_11 hv) gw_269 gy_X9_place gi_X9_place ⟨Nat.le_of_ble_eq_true rfl, Nat.le_of_ble_eq_true rfl⟩ ⟨Nat.zero_le _, Nat.zero_le _⟩ rfl hl.1 rfl (Nat.le_of_ble_eq_true rfl) dX9_measure_85 (fun H locs hw hS => ?_)
        refine W.eq (g2 := F0 m 88 ls [.int v_12, .int v_8, .int x5, .ref (G.2.1 9)]) rfl ?_
        obtain ⟨S_13, hv, hf⟩ := gbv_some hf
        refine g_V (As := [.int x5, .int v_8, .int v_12]) (rest := []) cx hw hS (c_X9_beginWith l G x5 v_8 v_12 S_11 S_13 hv) (by omega) he_c9 rfl rfl gw_272 gy_X9_beginWith gi_X9_beginWith ⟨Nat.le_of_ble_eq_true rfl, Nat.le_of_ble_eq_true rfl⟩ ⟨Nat.zero_le _, Nat.zero_le _⟩ rfl hl.1 rfl (Nat.le_of_ble_eq_true rfl) dX9_measure_88 (fun H locs hw hS => ?_)
        refine W.eq (g2 := F0 m 91 ls []) rfl ?_
        refine lv_aload_n cx.1 cx.2.1 dX9_measure_91 rfl (lv_at hl 1 rfl) ?_
        refine lv_iload cx.1 cx.2.1 dX9_measure_92 (lv_at hl 5 rfl) ?_
        refine lv_iload cx.1 cx.2.1 dX9_measure_94 (lv_at hl 4 rfl) ?_
        refine lv_aload_n cx.1 cx.2.1 dX9_measure_96 rfl (lv_at hl 2 rfl) ?_
        refine g_get (C := RX8) (T := TX8) (N := 5) (v := .ref (G.2.1 (b1 + 5))) cx hw inlX8 (b1 + 1) (Nat.lt_of_lt_of_le (hb1.lt (j := 1) (by omega)) hN) (he_s1 hb1) rfl 1 (by decide) gw_268 rfl rfl dX9_measure_97 ?_
        refine lv_iload cx.1 cx.2.1 dX9_measure_100 (lv_at hl 5 rfl) ?_
        obtain ⟨v_15, S_14, hv, hf⟩ := gbi_some hf
        refine g_N (As := [.ref (G.2.1 (b1 + 5)), .int x5]) (rest := [.int x4, .int x5, .ref (G.2.1 9)]) cx hw hS (c_X10_at l G (ia_s5 hN hb1) x5 S_13 v_15 S_14 hv) gnm_21 gy_X10_at gi_X10_at ⟨Nat.le_of_ble_eq_true rfl, Nat.le_of_ble_eq_true rfl⟩ ⟨Nat.zero_le _, Nat.zero_le _⟩ rfl hl.1 rfl (Nat.le_of_ble_eq_true rfl) dX9_measure_102 (fun H locs hw hS => ?_)
        refine W.eq (g2 := F0 m 105 ls [.int v_15, .int x4, .int x5, .ref (G.2.1 9)]) rfl ?_
        obtain ⟨v_17, S_16, hv, hf⟩ := gbi_some hf
        refine g_S (As := [.int x4, .int v_15]) (rest := [.int x5, .ref (G.2.1 9)]) cx hw hS (c_X9_place l G x4 v_15 S_14 v_17 S_16 hv) gw_269 gy_X9_place gi_X9_place ⟨Nat.le_of_ble_eq_true rfl, Nat.le_of_ble_eq_true rfl⟩ ⟨Nat.zero_le _, Nat.zero_le _⟩ rfl hl.1 rfl (Nat.le_of_ble_eq_true rfl) dX9_measure_105 (fun H locs hw hS => ?_)
        refine W.eq (g2 := F0 m 108 ls [.int v_17, .int x5, .ref (G.2.1 9)]) rfl ?_
        refine lv_iload cx.1 cx.2.1 dX9_measure_108 (lv_at hl 0 rfl) ?_
        refine lv_aload_n cx.1 cx.2.1 dX9_measure_110 rfl (lv_at hl 2 rfl) ?_
        refine g_get (C := RX8) (T := TX8) (N := 5) (v := .ref (G.2.1 (b1 + 4))) cx hw inlX8 (b1 + 1) (Nat.lt_of_lt_of_le (hb1.lt (j := 1) (by omega)) hN) (he_s1 hb1) rfl 0 (by decide) gw_267 rfl rfl dX9_measure_111 ?_
        refine lv_iload cx.1 cx.2.1 dX9_measure_114 (lv_at hl 5 rfl) ?_
        obtain ⟨v_19, S_18, hv, hf⟩ := gbi_some hf
        refine g_N (As := [.ref (G.2.1 (b1 + 4)), .int x5]) (rest := [.int x6_4, .int v_17, .int x5, .ref (G.2.1 9)]) cx hw hS (c_X10_at l G (ia_s4 hN hb1) x5 S_16 v_19 S_18 hv) gnm_21 gy_X10_at gi_X10_at ⟨Nat.le_of_ble_eq_true rfl, Nat.le_of_ble_eq_true rfl⟩ ⟨Nat.zero_le _, Nat.zero_le _⟩ rfl hl.1 rfl (Nat.le_of_ble_eq_true rfl) dX9_measure_116 (fun H locs hw hS => ?_)
        refine W.eq (g2 := F0 m 119 ls [.int v_19, .int x6_4, .int v_17, .int x5, .ref (G.2.1 9)]) rfl ?_
        obtain ⟨v_21, S_20, hv, hf⟩ := gbi_some hf
        refine g_S (As := [.int x6_4, .int v_19]) (rest := [.int v_17, .int x5, .ref (G.2.1 9)]) cx hw hS (c_X9_place l G x6_4 v_19 S_18 v_21 S_20 hv) gw_269 gy_X9_place gi_X9_place ⟨Nat.le_of_ble_eq_true rfl, Nat.le_of_ble_eq_true rfl⟩ ⟨Nat.zero_le _, Nat.zero_le _⟩ rfl hl.1 rfl (Nat.le_of_ble_eq_true rfl) dX9_measure_119 (fun H locs hw hS => ?_)
        refine W.eq (g2 := F0 m 122 ls [.int v_21, .int v_17, .int x5, .ref (G.2.1 9)]) rfl ?_
        obtain ⟨S_22, hv, hf⟩ := gbv_some hf
        refine g_V (As := [.int x5, .int v_17, .int v_21]) (rest := []) cx hw hS (c_X9_beginWith l G x5 v_17 v_21 S_20 S_22 hv) (by omega) he_c9 rfl rfl gw_272 gy_X9_beginWith gi_X9_beginWith ⟨Nat.le_of_ble_eq_true rfl, Nat.le_of_ble_eq_true rfl⟩ ⟨Nat.zero_le _, Nat.zero_le _⟩ rfl hl.1 rfl (Nat.le_of_ble_eq_true rfl) dX9_measure_122 (fun H locs hw hS => ?_)
        refine W.eq (g2 := F0 m 125 ls []) rfl ?_
        obtain ⟨x5_23, ex5_23, hf⟩ := gvi_ex hf
        refine lv_iinc (v := x5_23) (lv' := [(5, .int x5_23), (6, .int x6_4), (0, .ref (G.2.1 9)), (1, .ref (G.2.1 (b1 + 1))), (3, .int x3), (4, .int x4)]) cx.1 cx.2.1 dX9_measure_125 hl (k := 5) rfl (by rw [← ex5_23]; rfl) (by decide) rfl (fun ls hl => ?_)
        refine lv_goto (tgt := 34) cx.1 cx.2.1 dX9_measure_128 (by decide) ?_
        exact hK34 S_22 x3 x4 x5_23 _ _ _ hw hS (lv_sub hl [2, 3, 4, 5, 0] rfl) hf
  have hL_25 : ∀ (n : Nat), ∀ (S : Sg) (x3 : Int32) (x4 : Int32) (H : Heap) (locs : List Loc) (ls : Array Slot), gP G S H → va_S (gA G s.heap.size) s.heap H locs → lv_has ls 7 [(0, .ref (G.2.1 9)), (1, .ref (G.2.1 (b1 + 1))), (3, .int x3), (4, .int x4)] → L_X9_measure_25 b1 n S x3 x4 = some S' → W p l e (gR 2 46) s m ([.ref (G.2.1 9), .ref (G.2.1 (b1 + 1)), .int a2, .int a3] : List Value).toArray below meth c H locs 0 0 (MQ below (gQ G S' none (gA G s.heap.size)) ([.ref (G.2.1 9), .ref (G.2.1 (b1 + 1)), .int a2, .int a3] : List Value).toArray s 0 0 (gA G s.heap.size)) (F0 m 25 ls []) := by
    intro n
    induction n with
    | zero => intro S x3 x4 H locs ls hw hS hl hf; cases hf
    | succ n hK25 =>
      intro S x3 x4 H locs ls hw hS hl hf
      have hf : Lb_X9_measure_25 b1 (L_X9_measure_25 b1 n) S x3 x4 = some S' := hf
      unfold Lb_X9_measure_25 at hf
      refine lv_iload cx.1 cx.2.1 dX9_measure_25 (lv_at hl 3 rfl) ?_
      refine lv_iload_n cx.1 cx.2.1 dX9_measure_27 rfl (lv_at hl 2 rfl) ?_
      refine lv_icmp_gt (tgt := 137) cx.1 cx.2.1 dX9_measure_28 (by decide) (fun hc => ?_) (fun hc => ?_)
      · rw [if_pos hc] at hf
        exact g_vreti cx hr hlk hw hS hf dX9_measure_137
      · rw [if_neg hc] at hf
        refine lv_iconst (v := (0 : Int32)) cx.1 cx.2.1 dX9_measure_31 (by decide) ?_
        refine lv_istore (lv' := [(5, .int (0 : Int32)), (0, .ref (G.2.1 9)), (1, .ref (G.2.1 (b1 + 1))), (3, .int x3), (4, .int x4)]) cx.1 cx.2.1 dX9_measure_32 hl (by decide) rfl (fun ls hl => ?_)
        exact hL_34 (L_X9_measure_25 b1 n) hK25 gFu S x3 x4 (0 : Int32) _ _ _ hw hS (lv_sub hl [1, 2, 3, 4, 0] rfl) hf
  have hl : lv_has ls 7 [(0, .ref (G.2.1 9)), (1, .ref (G.2.1 (b1 + 1))), (2, .int a2), (3, .int a3)] := hl
  unfold f_X9_measure at hf
  refine lv_aload_n cx.1 cx.2.1 dX9_measure_0 rfl (lv_at hl 0 rfl) ?_
  refine g_get (C := RX9) (T := TX9) (N := 7) (v := .ref (G.2.1 10)) cx hw inlX9 9 (by omega) he_c9 rfl 0 (by decide) gw_101 rfl rfl dX9_measure_1 ?_
  refine lv_ldc cx.1 cx.2.1 cx.2.2.2.1 (cx.2.2.2.2.ts _ gw_250) dX9_measure_4 ?_
  obtain ⟨S_24, hv, hf⟩ := gbv_some hf
  refine g_N (As := [.ref (G.2.1 10), .int (1000000 : Int32)]) (rest := []) cx hw hS (c_X10_fill l G (ia_c10 hN) (1000000 : Int32) S S_24 hv) gnm_24 gy_X10_fill gi_X10_fill ⟨Nat.le_of_ble_eq_true rfl, Nat.le_of_ble_eq_true rfl⟩ ⟨Nat.zero_le _, Nat.zero_le _⟩ rfl hl.1 rfl (Nat.le_of_ble_eq_true rfl) dX9_measure_6 (fun H locs hw hS => ?_)
  refine W.eq (g2 := F0 m 9 ls []) rfl ?_
  refine lv_aload_n cx.1 cx.2.1 dX9_measure_9 rfl (lv_at hl 0 rfl) ?_
  refine g_get (C := RX9) (T := TX9) (N := 7) (v := .ref (G.2.1 10)) cx hw inlX9 9 (by omega) he_c9 rfl 0 (by decide) gw_101 rfl rfl dX9_measure_10 ?_
  refine lv_iconst (v := (0 : Int32)) cx.1 cx.2.1 dX9_measure_13 (by decide) ?_
  refine lv_iload_n cx.1 cx.2.1 dX9_measure_14 rfl (lv_at hl 2 rfl) ?_
  obtain ⟨v_26, S_25, hv, hf⟩ := gbi_some hf
  refine g_S (As := [.int (0 : Int32), .int a2]) (rest := [.ref (G.2.1 10)]) cx hw hS (c_X9_place l G (0 : Int32) a2 S_24 v_26 S_25 hv) gw_269 gy_X9_place gi_X9_place ⟨Nat.le_of_ble_eq_true rfl, Nat.le_of_ble_eq_true rfl⟩ ⟨Nat.zero_le _, Nat.zero_le _⟩ rfl hl.1 rfl (Nat.le_of_ble_eq_true rfl) dX9_measure_15 (fun H locs hw hS => ?_)
  refine W.eq (g2 := F0 m 18 ls [.int v_26, .ref (G.2.1 10)]) rfl ?_
  refine lv_iconst (v := (0 : Int32)) cx.1 cx.2.1 dX9_measure_18 (by decide) ?_
  obtain ⟨S_27, hv, hf⟩ := gbv_some hf
  refine g_N (As := [.ref (G.2.1 10), .int v_26, .int (0 : Int32)]) (rest := []) cx hw hS (c_X10_put l G (ia_c10 hN) v_26 (0 : Int32) S_25 S_27 hv) gnm_23 gy_X10_put gi_X10_put ⟨Nat.le_of_ble_eq_true rfl, Nat.le_of_ble_eq_true rfl⟩ ⟨Nat.zero_le _, Nat.zero_le _⟩ rfl hl.1 rfl (Nat.le_of_ble_eq_true rfl) dX9_measure_19 (fun H locs hw hS => ?_)
  refine W.eq (g2 := F0 m 22 ls []) rfl ?_
  refine lv_iconst (v := (1 : Int32)) cx.1 cx.2.1 dX9_measure_22 (by decide) ?_
  refine lv_istore (lv' := [(4, .int (1 : Int32)), (0, .ref (G.2.1 9)), (1, .ref (G.2.1 (b1 + 1))), (2, .int a2), (3, .int a3)]) cx.1 cx.2.1 dX9_measure_23 hl (by decide) rfl (fun ls hl => ?_)
  exact hL_25 gFu S_27 a3 (1 : Int32) _ _ _ hw hS (lv_sub hl [1, 2, 4, 0] rfl) hf
set_option maxHeartbeats 4000000 in
set_option maxRecDepth 100000 in
theorem c_X9_chooseLength (l : Launch) (G : gG) (a1 : Int32) (a2 : Int32) (S : Sg) (S' : Sg) (hf : f_X9_chooseLength a1 a2 S = some S') : Ct l yX9_chooseLength [Cond.code yX9_chooseLength cX9_chooseLength 4 none] (gR 1 21) G [.ref (G.2.1 9), .int a1, .int a2] S none S' := by
  refine Ct_of (by decide) (Nat.le_of_ble_eq_true rfl) ?_
  intro p e s m below meth c ls cx hr hlk hw hS hl
  have hN := cx.2.2.2.2.hN
  have hL_13 : ∀ (n : Nat), ∀ (S : Sg) (x1 : Int32) (x2 : Int32) (x3 : Int32) (H : Heap) (locs : List Loc) (ls : Array Slot), gP G S H → va_S (gA G s.heap.size) s.heap H locs → lv_has ls 4 [(0, .ref (G.2.1 9)), (1, .int x1), (2, .int x2), (3, .int x3)] → L_X9_chooseLength_13 n S x1 x2 x3 = some S' → W p l e (gR 1 21) s m ([.ref (G.2.1 9), .int a1, .int a2] : List Value).toArray below meth c H locs 0 0 (MQ below (gQ G S' none (gA G s.heap.size)) ([.ref (G.2.1 9), .int a1, .int a2] : List Value).toArray s 0 0 (gA G s.heap.size)) (F0 m 13 ls []) := by
    intro n
    induction n with
    | zero => intro S x1 x2 x3 H locs ls hw hS hl hf; cases hf
    | succ n hK13 =>
      intro S x1 x2 x3 H locs ls hw hS hl hf
      have hf : Lb_X9_chooseLength_13 (L_X9_chooseLength_13 n) S x1 x2 x3 = some S' := hf
      unfold Lb_X9_chooseLength_13 at hf
      refine lv_iload_n cx.1 cx.2.1 dX9_chooseLength_13 rfl (lv_at hl 3 rfl) ?_
      refine lv_iload_n cx.1 cx.2.1 dX9_chooseLength_14 rfl (lv_at hl 2 rfl) ?_
      refine lv_icmp_gt (tgt := 58) cx.1 cx.2.1 dX9_chooseLength_15 (by decide) (fun hc => ?_) (fun hc => ?_)
      · rw [if_pos hc] at hf
        exact g_vreti cx hr hlk hw hS hf dX9_chooseLength_58
      · rw [if_neg hc] at hf
        refine lv_aload_n cx.1 cx.2.1 dX9_chooseLength_18 rfl (lv_at hl 0 rfl) ?_
        refine lv_iload_n cx.1 cx.2.1 dX9_chooseLength_19 rfl (lv_at hl 3 rfl) ?_
        refine lv_iload_n cx.1 cx.2.1 dX9_chooseLength_20 rfl (lv_at hl 1 rfl) ?_
        obtain ⟨v_2, S_1, hv, hf⟩ := gbi_some hf
        refine g_S (As := [.int x3, .int x1]) (rest := [.ref (G.2.1 9)]) cx hw hS (c_X9_place l G x3 x1 S v_2 S_1 hv) gw_269 gy_X9_place gi_X9_place ⟨Nat.le_of_ble_eq_true rfl, Nat.le_of_ble_eq_true rfl⟩ ⟨Nat.zero_le _, Nat.zero_le _⟩ rfl hl.1 rfl (Nat.le_of_ble_eq_true rfl) dX9_chooseLength_21 (fun H locs hw hS => ?_)
        refine W.eq (g2 := F0 m 24 ls [.int v_2, .ref (G.2.1 9)]) rfl ?_
        obtain ⟨v_4, S_3, hv, hf⟩ := gbi_some hf
        refine g_V (As := [.int v_2]) (rest := []) cx hw hS (c_X9_leastAt l G v_2 S_1 v_4 S_3 hv) (by omega) he_c9 rfl rfl gw_276 gy_X9_leastAt gi_X9_leastAt ⟨Nat.le_of_ble_eq_true rfl, Nat.le_of_ble_eq_true rfl⟩ ⟨Nat.zero_le _, Nat.zero_le _⟩ rfl hl.1 rfl (Nat.le_of_ble_eq_true rfl) dX9_chooseLength_24 (fun H locs hw hS => ?_)
        refine W.eq (g2 := F0 m 27 ls [.int v_4]) rfl ?_
        refine lv_aload_n cx.1 cx.2.1 dX9_chooseLength_27 rfl (lv_at hl 0 rfl) ?_
        refine g_get (C := RX9) (T := TX9) (N := 7) (v := .int (S_3 9 5)) cx hw inlX9 9 (by omega) he_c9 rfl 5 (by decide) gw_249 rfl rfl dX9_chooseLength_28 ?_
        refine lv_icmp_ge (tgt := 52) cx.1 cx.2.1 dX9_chooseLength_31 (by decide) (fun hc => ?_) (fun hc => ?_)
        · rw [if_pos hc] at hf
          obtain ⟨x3_5, ex3_5, hf⟩ := gvi_ex hf
          refine lv_iinc (v := x3_5) (lv' := [(3, .int x3_5), (0, .ref (G.2.1 9)), (1, .int x1), (2, .int x2)]) cx.1 cx.2.1 dX9_chooseLength_52 hl (k := 3) rfl (by rw [← ex3_5]; rfl) (by decide) rfl (fun ls hl => ?_)
          refine lv_goto (tgt := 13) cx.1 cx.2.1 dX9_chooseLength_55 (by decide) ?_
          exact hK13 S_3 x1 x2 x3_5 _ _ _ hw hS (lv_sub hl [1, 2, 3, 0] rfl) hf
        · rw [if_neg hc] at hf
          refine lv_aload_n cx.1 cx.2.1 dX9_chooseLength_34 rfl (lv_at hl 0 rfl) ?_
          refine lv_aload_n cx.1 cx.2.1 dX9_chooseLength_35 rfl (lv_at hl 0 rfl) ?_
          refine lv_iload_n cx.1 cx.2.1 dX9_chooseLength_36 rfl (lv_at hl 3 rfl) ?_
          refine lv_iload_n cx.1 cx.2.1 dX9_chooseLength_37 rfl (lv_at hl 1 rfl) ?_
          obtain ⟨v_7, S_6, hv, hf⟩ := gbi_some hf
          refine g_S (As := [.int x3, .int x1]) (rest := [.ref (G.2.1 9), .ref (G.2.1 9)]) cx hw hS (c_X9_place l G x3 x1 S_3 v_7 S_6 hv) gw_269 gy_X9_place gi_X9_place ⟨Nat.le_of_ble_eq_true rfl, Nat.le_of_ble_eq_true rfl⟩ ⟨Nat.zero_le _, Nat.zero_le _⟩ rfl hl.1 rfl (Nat.le_of_ble_eq_true rfl) dX9_chooseLength_38 (fun H locs hw hS => ?_)
          refine W.eq (g2 := F0 m 41 ls [.int v_7, .ref (G.2.1 9), .ref (G.2.1 9)]) rfl ?_
          obtain ⟨v_9, S_8, hv, hf⟩ := gbi_some hf
          refine g_V (As := [.int v_7]) (rest := [.ref (G.2.1 9)]) cx hw hS (c_X9_leastAt l G v_7 S_6 v_9 S_8 hv) (by omega) he_c9 rfl rfl gw_276 gy_X9_leastAt gi_X9_leastAt ⟨Nat.le_of_ble_eq_true rfl, Nat.le_of_ble_eq_true rfl⟩ ⟨Nat.zero_le _, Nat.zero_le _⟩ rfl hl.1 rfl (Nat.le_of_ble_eq_true rfl) dX9_chooseLength_41 (fun H locs hw hS => ?_)
          refine W.eq (g2 := F0 m 44 ls [.int v_9, .ref (G.2.1 9)]) rfl ?_
          obtain ⟨S_10, eS_10, hf⟩ := gst_ex hf
          refine g_put (C := RX9) (T := TX9) (N := 7) cx hw hS inlX9 tyX9 tyX9_ok nmX9 9 (by omega) he_c9 rfl 5 (by decide) gw_249 rfl rfl (by decide +kernel) (Nat.le_of_ble_eq_true rfl) (by rw [u2_s, he_c9]; rfl) dX9_chooseLength_44 (fun H locs hw hS => ?_)
          rw [eS_10] at hw
          refine lv_aload_n cx.1 cx.2.1 dX9_chooseLength_47 rfl (lv_at hl 0 rfl) ?_
          refine lv_iload_n cx.1 cx.2.1 dX9_chooseLength_48 rfl (lv_at hl 3 rfl) ?_
          obtain ⟨S_11, eS_11, hf⟩ := gst_ex hf
          refine g_put (C := RX9) (T := TX9) (N := 7) cx hw hS inlX9 tyX9 tyX9_ok nmX9 9 (by omega) he_c9 rfl 6 (by decide) gw_284 rfl rfl (by decide +kernel) (Nat.le_of_ble_eq_true rfl) (by rw [u2_s, he_c9]; rfl) dX9_chooseLength_49 (fun H locs hw hS => ?_)
          rw [eS_11] at hw
          obtain ⟨x3_12, ex3_12, hf⟩ := gvi_ex hf
          refine lv_iinc (v := x3_12) (lv' := [(3, .int x3_12), (0, .ref (G.2.1 9)), (1, .int x1), (2, .int x2)]) cx.1 cx.2.1 dX9_chooseLength_52 hl (k := 3) rfl (by rw [← ex3_12]; rfl) (by decide) rfl (fun ls hl => ?_)
          refine lv_goto (tgt := 13) cx.1 cx.2.1 dX9_chooseLength_55 (by decide) ?_
          exact hK13 S_11 x1 x2 x3_12 _ _ _ hw hS (lv_sub hl [1, 2, 3, 0] rfl) hf
  have hl : lv_has ls 4 [(0, .ref (G.2.1 9)), (1, .int a1), (2, .int a2)] := hl
  unfold f_X9_chooseLength at hf
  refine lv_aload_n cx.1 cx.2.1 dX9_chooseLength_0 rfl (lv_at hl 0 rfl) ?_
  refine lv_ldc cx.1 cx.2.1 cx.2.2.2.1 (cx.2.2.2.2.ts _ gw_250) dX9_chooseLength_1 ?_
  obtain ⟨S_13, eS_13, hf⟩ := gst_ex hf
  refine g_put (C := RX9) (T := TX9) (N := 7) cx hw hS inlX9 tyX9 tyX9_ok nmX9 9 (by omega) he_c9 rfl 5 (by decide) gw_249 rfl rfl (by decide +kernel) (Nat.le_of_ble_eq_true rfl) (by rw [u2_s, he_c9]; rfl) dX9_chooseLength_3 (fun H locs hw hS => ?_)
  rw [eS_13] at hw
  refine lv_aload_n cx.1 cx.2.1 dX9_chooseLength_6 rfl (lv_at hl 0 rfl) ?_
  refine lv_iconst (v := (0 : Int32)) cx.1 cx.2.1 dX9_chooseLength_7 (by decide) ?_
  obtain ⟨S_14, eS_14, hf⟩ := gst_ex hf
  refine g_put (C := RX9) (T := TX9) (N := 7) cx hw hS inlX9 tyX9 tyX9_ok nmX9 9 (by omega) he_c9 rfl 6 (by decide) gw_284 rfl rfl (by decide +kernel) (Nat.le_of_ble_eq_true rfl) (by rw [u2_s, he_c9]; rfl) dX9_chooseLength_8 (fun H locs hw hS => ?_)
  rw [eS_14] at hw
  refine lv_iconst (v := (1 : Int32)) cx.1 cx.2.1 dX9_chooseLength_11 (by decide) ?_
  refine lv_istore_n (lv' := [(3, .int (1 : Int32)), (0, .ref (G.2.1 9)), (1, .int a1), (2, .int a2)]) cx.1 cx.2.1 dX9_chooseLength_12 rfl hl (by decide) rfl (fun ls hl => ?_)
  exact hL_13 gFu S_14 a1 a2 (1 : Int32) _ _ _ hw hS (lv_sub hl [1, 2, 3, 0] rfl) hf
set_option maxHeartbeats 4000000 in
set_option maxRecDepth 100000 in
theorem c_X8_farEnd (l : Launch) (G : gG) {b : Nat} (hb : IsSt b) (a1 : Int32) (a2 : Int32) (S : Sg) (r : Int32) (S' : Sg) (hf : f_X8_farEnd b a1 a2 S = some (r, S')) : Ct l yX8_farEnd [Cond.code yX8_farEnd cX8_farEnd 3 (some .int)] (gR 1 21) G [.ref (G.2.1 (b + 1)), .int a1, .int a2] S (some (.int r)) S' := by
  refine Ct_of (by decide) (Nat.le_of_ble_eq_true rfl) ?_
  intro p e s m below meth c ls cx hr hlk hw hS hl
  have hN := cx.2.2.2.2.hN
  have hl : lv_has ls 3 [(0, .ref (G.2.1 (b + 1))), (1, .int a1), (2, .int a2)] := hl
  unfold f_X8_farEnd at hf
  refine lv_aload_n cx.1 cx.2.1 dX8_farEnd_0 rfl (lv_at hl 0 rfl) ?_
  refine g_get (C := RX8) (T := TX8) (N := 5) (v := .ref (G.2.1 (b + 4))) cx hw inlX8 (b + 1) (Nat.lt_of_lt_of_le (hb.lt (j := 1) (by omega)) hN) (he_s1 hb) rfl 0 (by decide) gw_55 rfl rfl dX8_farEnd_1 ?_
  refine lv_iload_n cx.1 cx.2.1 dX8_farEnd_4 rfl (lv_at hl 1 rfl) ?_
  obtain ⟨v_2, S_1, hv, hf⟩ := gbi_some hf
  refine g_N (As := [.ref (G.2.1 (b + 4)), .int a1]) (rest := []) cx hw hS (c_X10_at l G (ia_s4 hN hb) a1 S v_2 S_1 hv) gnm_25 gy_X10_at gi_X10_at ⟨Nat.le_of_ble_eq_true rfl, Nat.le_of_ble_eq_true rfl⟩ ⟨Nat.zero_le _, Nat.zero_le _⟩ rfl hl.1 rfl (Nat.le_of_ble_eq_true rfl) dX8_farEnd_5 (fun H locs hw hS => ?_)
  refine W.eq (g2 := F0 m 8 ls [.int v_2]) rfl ?_
  refine lv_iload_n cx.1 cx.2.1 dX8_farEnd_8 rfl (lv_at hl 2 rfl) ?_
  refine lv_icmp_ne (tgt := 21) cx.1 cx.2.1 dX8_farEnd_9 (by decide) (fun hc => ?_) (fun hc => ?_)
  · rw [if_neg hc] at hf
    refine lv_aload_n cx.1 cx.2.1 dX8_farEnd_21 rfl (lv_at hl 0 rfl) ?_
    refine g_get (C := RX8) (T := TX8) (N := 5) (v := .ref (G.2.1 (b + 5))) cx hw inlX8 (b + 1) (Nat.lt_of_lt_of_le (hb.lt (j := 1) (by omega)) hN) (he_s1 hb) rfl 1 (by decide) gw_56 rfl rfl dX8_farEnd_22 ?_
    refine lv_iload_n cx.1 cx.2.1 dX8_farEnd_25 rfl (lv_at hl 1 rfl) ?_
    obtain ⟨v_4, S_3, hv, hf⟩ := gbi_some hf
    refine g_N (As := [.ref (G.2.1 (b + 5)), .int a1]) (rest := []) cx hw hS (c_X10_at l G (ia_s5 hN hb) a1 S_1 v_4 S_3 hv) gnm_25 gy_X10_at gi_X10_at ⟨Nat.le_of_ble_eq_true rfl, Nat.le_of_ble_eq_true rfl⟩ ⟨Nat.zero_le _, Nat.zero_le _⟩ rfl hl.1 rfl (Nat.le_of_ble_eq_true rfl) dX8_farEnd_26 (fun H locs hw hS => ?_)
    refine W.eq (g2 := F0 m 29 ls [.int v_4]) rfl ?_
    refine lv_iload_n cx.1 cx.2.1 dX8_farEnd_29 rfl (lv_at hl 2 rfl) ?_
    refine lv_icmp_ne (tgt := 44) cx.1 cx.2.1 dX8_farEnd_30 (by decide) (fun hc => ?_) (fun hc => ?_)
    · rw [if_neg hc] at hf
      refine lv_bipush (v := (-9 : Int32)) cx.1 cx.2.1 dX8_farEnd_44 (by decide) ?_
      exact g_ireti cx hr hlk hw hS hf dX8_farEnd_46
    · rw [if_pos hc] at hf
      refine lv_aload_n cx.1 cx.2.1 dX8_farEnd_33 rfl (lv_at hl 0 rfl) ?_
      refine g_get (C := RX8) (T := TX8) (N := 5) (v := .ref (G.2.1 (b + 4))) cx hw inlX8 (b + 1) (Nat.lt_of_lt_of_le (hb.lt (j := 1) (by omega)) hN) (he_s1 hb) rfl 0 (by decide) gw_55 rfl rfl dX8_farEnd_34 ?_
      refine lv_iload_n cx.1 cx.2.1 dX8_farEnd_37 rfl (lv_at hl 1 rfl) ?_
      obtain ⟨v_6, S_5, hv, hf⟩ := gbi_some hf
      refine g_N (As := [.ref (G.2.1 (b + 4)), .int a1]) (rest := []) cx hw hS (c_X10_at l G (ia_s4 hN hb) a1 S_3 v_6 S_5 hv) gnm_25 gy_X10_at gi_X10_at ⟨Nat.le_of_ble_eq_true rfl, Nat.le_of_ble_eq_true rfl⟩ ⟨Nat.zero_le _, Nat.zero_le _⟩ rfl hl.1 rfl (Nat.le_of_ble_eq_true rfl) dX8_farEnd_38 (fun H locs hw hS => ?_)
      refine W.eq (g2 := F0 m 41 ls [.int v_6]) rfl ?_
      refine lv_goto (tgt := 46) cx.1 cx.2.1 dX8_farEnd_41 (by decide) ?_
      exact g_ireti cx hr hlk hw hS hf dX8_farEnd_46
  · rw [if_pos hc] at hf
    refine lv_aload_n cx.1 cx.2.1 dX8_farEnd_12 rfl (lv_at hl 0 rfl) ?_
    refine g_get (C := RX8) (T := TX8) (N := 5) (v := .ref (G.2.1 (b + 5))) cx hw inlX8 (b + 1) (Nat.lt_of_lt_of_le (hb.lt (j := 1) (by omega)) hN) (he_s1 hb) rfl 1 (by decide) gw_56 rfl rfl dX8_farEnd_13 ?_
    refine lv_iload_n cx.1 cx.2.1 dX8_farEnd_16 rfl (lv_at hl 1 rfl) ?_
    obtain ⟨v_8, S_7, hv, hf⟩ := gbi_some hf
    refine g_N (As := [.ref (G.2.1 (b + 5)), .int a1]) (rest := []) cx hw hS (c_X10_at l G (ia_s5 hN hb) a1 S_1 v_8 S_7 hv) gnm_25 gy_X10_at gi_X10_at ⟨Nat.le_of_ble_eq_true rfl, Nat.le_of_ble_eq_true rfl⟩ ⟨Nat.zero_le _, Nat.zero_le _⟩ rfl hl.1 rfl (Nat.le_of_ble_eq_true rfl) dX8_farEnd_17 (fun H locs hw hS => ?_)
    refine W.eq (g2 := F0 m 20 ls [.int v_8]) rfl ?_
    exact g_ireti cx hr hlk hw hS hf dX8_farEnd_20
