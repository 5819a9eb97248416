/-! ===== each call does what its function says ===== -/
theorem rf_buyTrack {n : Nat} {s : St} (i t : Int32) (hv : IV n s) : RF (fun S => gwr (-9999001) 0 (-9999003) (f_X10_buyTrack i t S)) (n, s) (aBuyTrack i t (n, s)) := by
  obtain ⟨c, hV⟩ := hv.1
  have hvl := V.vl hV
  have hl := hvl.1
  cases hi : below 4 i with
  | false =>
    refine tR 1 hv ?_ (fun _ => rfl) (fun S hS => ?_)
    · simp (disch := omega) [-List.getElem?_eq_getElem, -getElem?_pos, aBuyTrack, ixO, rgB, nCit, aAct, nI_c, hi]
    · unfold f_X10_buyTrack
      rw [nCo, hi, nd_f]
  | true =>
    obtain ⟨i, hi4, rfl⟩ := below_of (by omega) hi
    cases ht : below s.1.2.1.length t with
    | false =>
      refine tR 1 hv ?_ (fun _ => rfl) (fun S hS => ?_)
      · simp (disch := omega) [-List.getElem?_eq_getElem, -getElem?_pos, aBuyTrack, ixO, rgB, nCit, aAct, nI_c, hi, ht]
      · unfold f_X10_buyTrack
        rw [nCo, hi, nd_t, nTr hS.1 hvl, ht, nd_f]
    | true =>
      obtain ⟨j, hj, rfl⟩ := below_of (by omega) ht
      obtain ⟨a, ha⟩ := some_of_lt hj
      cases hm : mayT s.1 i a with
      | false =>
        refine tR 3 hv ?_ (fun _ => rfl) (fun S hS => ?_)
        · simp (disch := omega) [-List.getElem?_eq_getElem, -getElem?_pos, aBuyTrack, ixO, rgB, nCit, aAct, nI_c, hi, ht, ha, hm]
        · unfold f_X10_buyTrack
          rw [nCo, hi, nd_t, nTr hS.1 hvl, ht, nd_t, C_mayT hS.1 hvl hi4 ha, gbiN, nAl, hm, nd_f]
      | true =>
        refine mR ((gSellT s.1 i j a).2.2.1 i 0) (_) hv (V_mono (V_sellT hV hi4 ha) (Nat.le_succ n)) ?_ (fun S hS => ?_)
        · simp (disch := omega) [-List.getElem?_eq_getElem, -getElem?_pos, aBuyTrack, ixO, rgB, nCit, aAct, nI_c, hi, ht, ha, hm]
        · unfold f_X10_buyTrack
          rw [nCo, hi, nd_t, nTr hS.1 hvl, ht, nd_t, C_mayT hS.1 hvl hi4 ha, gbiN, nAl, hm, nd_t]
          refine C_act (mk := fun S1 => (0, (gSellT s.1 i j a).2.2.1 i 0, S1)) hv hS (fun S0 h0 => ?_)
          obtain ⟨S1, e1, c1, f1⟩ := C_sellT h0 hvl hi4 ha
          refine ⟨S1, ?_, c1, Fb.f f1⟩
          rw [e1, gbvN, at_ok (by omega) (by omega), gbiN, (c1.2.2.1 i hi4).1]
theorem rf_buyTrain {n : Nat} {s : St} (i x : Int32) (hv : IV n s) : RF (fun S => gwr (-9999001) (-9999002) (-9999003) (f_X10_buyTrain i x S)) (n, s) (aBuyTrain i x (n, s)) := by
  obtain ⟨c, hV⟩ := hv.1
  have hvl := V.vl hV
  cases hi : below 4 i with
  | false =>
    refine tR 1 hv ?_ (fun _ => rfl) (fun S hS => ?_)
    · simp (disch := omega) [-List.getElem?_eq_getElem, -getElem?_pos, aBuyTrain, ixO, rgB, nCit, aAct, nI_c, hi]
    · unfold f_X10_buyTrain
      rw [nCo, hi, nd_f]
  | true =>
    obtain ⟨i, hi4, rfl⟩ := below_of (by omega) hi
    cases hx : (decide ((1 : Int32) ≤ x) && decide (x ≤ (6 : Int32))) with
    | false =>
      refine tR 2 hv ?_ (fun _ => rfl) (fun S hS => ?_)
      · simp (disch := omega) [-List.getElem?_eq_getElem, -getElem?_pos, aBuyTrain, ixO, rgB, nCit, aAct, nI_c, hi, hx]
      · unfold f_X10_buyTrain
        rw [nCo, hi, nd_t, nRa, hx, nd_f]
    | true =>
      obtain ⟨l, hl1, hl6, rfl⟩ := rg_of (a := 1) (b := 6) (by omega) (by omega) hx
      have n1 : ¬ nI l < 1 := by rw [show (1 : Int32) = nI 1 from rfl, nIlt (by omega) (by omega)]; omega
      have n6 : ¬ 6 < nI l := by rw [show (6 : Int32) = nI 6 from rfl, nIlt (by omega) (by omega)]; omega
      cases hm : mayN s.1 i (nI l) with
      | false =>
        refine tR 3 hv ?_ (fun _ => rfl) (fun S hS => ?_)
        · simp (disch := omega) [-List.getElem?_eq_getElem, -getElem?_pos, aBuyTrain, ixO, rgB, nCit, aAct, nI_c, hi, hx, hm]
        · unfold f_X10_buyTrain
          rw [nCo, hi, nd_t, nRa, hx, nd_t, C_mayN hS.1 hvl hi4 n1 n6, gbiN, nAl, hm, nd_f]
      | true =>
        have hl4 := mayN_len hm
        obtain ⟨ph, hp1, hp6, ep⟩ := hV.2.1
        refine mR (rSellN s.1 i (nI l)) (gSellN s.1 i (nI l)) hv (V_mono (V_sellN hV hi4 hl4 ⟨l, hl1, hl6, rfl⟩) (Nat.le_succ n)) ?_ (fun S hS => ?_)
        · simp (disch := omega) [-List.getElem?_eq_getElem, -getElem?_pos, aBuyTrain, ixO, rgB, nCit, aAct, nI_c, hi, hx, hm]
        · unfold f_X10_buyTrain
          rw [nCo, hi, nd_t, nRa, hx, nd_t, C_mayN hS.1 hvl hi4 n1 n6, gbiN, nAl, hm, nd_t]
          refine C_act (mk := fun S1 => (0, rSellN s.1 i (nI l), S1)) hv hS (fun S0 h0 => ?_)
          obtain ⟨S1, e1, c1, f1⟩ := C_sellN (lv := nI l) h0 hvl hi4 hl4
          refine ⟨S1, ?_, c1, Fb.f f1⟩
          rw [e1, gbiN]
theorem rf_setRent {n : Nat} {s : St} (i x : Int32) (hv : IV n s) : RF (fun S => gwr (-9999001) (-9999002) 0 (f_X10_setRent i x S)) (n, s) (aSetRent i x (n, s)) := by
  obtain ⟨c, hV⟩ := hv.1
  have hvl := V.vl hV
  cases hi : below 4 i with
  | false =>
    refine tR 1 hv ?_ (fun _ => rfl) (fun S hS => ?_)
    · simp (disch := omega) [-List.getElem?_eq_getElem, -getElem?_pos, aSetRent, ixO, rgB, nCit, aAct, nI_c, hi]
    · unfold f_X10_setRent
      rw [nCo, hi, nd_f]
  | true =>
    obtain ⟨i, hi4, rfl⟩ := below_of (by omega) hi
    cases hx : (decide ((0 : Int32) ≤ x) && decide (x ≤ (9 : Int32))) with
    | false =>
      refine tR 2 hv ?_ (fun _ => rfl) (fun S hS => ?_)
      · simp (disch := omega) [-List.getElem?_eq_getElem, -getElem?_pos, aSetRent, ixO, rgB, nCit, aAct, nI_c, hi, hx]
      · unfold f_X10_setRent
        rw [nCo, hi, nd_t, nRa, hx, nd_f]
    | true =>
      obtain ⟨l, hl1, hl6, rfl⟩ := rg_of (a := 0) (b := 9) (by omega) (by omega) hx
      refine mR (s.1.2.2.1 i 1) (gCo s.1 i 1 (nI l)) hv (V_mono (V_rent hV ⟨l, hl1, hl6, rfl⟩) (Nat.le_succ n)) ?_ (fun S hS => ?_)
      · simp (disch := omega) [-List.getElem?_eq_getElem, -getElem?_pos, aSetRent, ixO, rgB, nCit, aAct, nI_c, hi, hx]
      · unfold f_X10_setRent
        rw [nCo, hi, nd_t, nRa, hx, nd_t]
        refine C_act (mk := fun S1 => (0, s.1.2.2.1 i 1, S1)) hv hS (fun S0 h0 => ?_)
        obtain ⟨e1, c1, f1⟩ := C_rent (v := nI l) h0 hi4
        refine ⟨_, ?_, c1, Fb.f f1⟩
        rw [at_ok (by omega) (by omega), gbiN, e1, gbvN, (h0.2.2.1 i hi4).2.1]
theorem rf_take {n : Nat} {s : St} (i t : Int32) (hv : IV n s) : RF (fun S => gwr (-9999001) 0 (-9999003) (f_X10_take i t S)) (n, s) (aTake i t (n, s)) := by
  obtain ⟨c, hV⟩ := hv.1
  have hvl := V.vl hV
  have hl := hvl.2.2.1
  cases hi : below 4 i with
  | false =>
    refine tR 1 hv ?_ (fun _ => rfl) (fun S hS => ?_)
    · first | (simp (disch := omega) [-List.getElem?_eq_getElem, -getElem?_pos, aTake, ixO, rgB, nCit, aAct, nI_c, hi]; done) | (simp (disch := omega) [-List.getElem?_eq_getElem, -getElem?_pos, aTake, ixO, rgB, nCit, aAct, nI_c, hi, of_decide_eq_true hm]; done) | (simp (disch := omega) [-List.getElem?_eq_getElem, -getElem?_pos, aTake, ixO, rgB, nCit, aAct, nI_c, hi, of_decide_eq_false hm]; done) | simp (disch := omega) [-List.getElem?_eq_getElem, -getElem?_pos, aTake, ixO, rgB, nCit, aAct, nI_c, hi]
    · unfold f_X10_take
      rw [nCo, hi, nd_f]
  | true =>
    obtain ⟨i, hi4, rfl⟩ := below_of (by omega) hi
    cases ht : below s.1.2.2.2.2.length t with
    | false =>
      refine tR 1 hv ?_ (fun _ => rfl) (fun S hS => ?_)
      · first | (simp (disch := omega) [-List.getElem?_eq_getElem, -getElem?_pos, aTake, ixO, rgB, nCit, aAct, nI_c, hi, ht]; done) | (simp (disch := omega) [-List.getElem?_eq_getElem, -getElem?_pos, aTake, ixO, rgB, nCit, aAct, nI_c, hi, ht, of_decide_eq_true hm]; done) | (simp (disch := omega) [-List.getElem?_eq_getElem, -getElem?_pos, aTake, ixO, rgB, nCit, aAct, nI_c, hi, ht, of_decide_eq_false hm]; done) | simp (disch := omega) [-List.getElem?_eq_getElem, -getElem?_pos, aTake, ixO, rgB, nCit, aAct, nI_c, hi, ht]
      · unfold f_X10_take
        rw [nCo, hi, nd_t, nCt hS.1 hvl, ht, nd_f]
    | true =>
      obtain ⟨j, hj, rfl⟩ := below_of (by omega) ht
      obtain ⟨a, ha⟩ := some_of_lt hj
      cases hm : decide (a.2.2.2.2.1 = -9) with
      | false =>
        refine tR 3 hv ?_ (fun _ => rfl) (fun S hS => ?_)
        · first | (simp (disch := omega) [-List.getElem?_eq_getElem, -getElem?_pos, aTake, ixO, rgB, nCit, aAct, nI_c, hi, ht, ha, hm]; done) | (simp (disch := omega) [-List.getElem?_eq_getElem, -getElem?_pos, aTake, ixO, rgB, nCit, aAct, nI_c, hi, ht, ha, hm, of_decide_eq_true hm]; done) | (simp (disch := omega) [-List.getElem?_eq_getElem, -getElem?_pos, aTake, ixO, rgB, nCit, aAct, nI_c, hi, ht, ha, hm, of_decide_eq_false hm]; done) | simp (disch := omega) [-List.getElem?_eq_getElem, -getElem?_pos, aTake, ixO, rgB, nCit, aAct, nI_c, hi, ht, ha, hm]
        · unfold f_X10_take
          rw [nCo, hi, nd_t, nCt hS.1 hvl, ht, nd_t, C_isFree hS.1 hvl ha, gbiN, nAl, hm, nd_f]
      | true =>
        have hV2 := V_take hV hi4 ha
        refine mR (cntC (gTake s.1 i j a) i) (_) hv (V_mono hV2 (Nat.le_succ n)) ?_ (fun S hS => ?_)
        · first | (simp (disch := omega) [-List.getElem?_eq_getElem, -getElem?_pos, aTake, ixO, rgB, nCit, aAct, nI_c, hi, ht, ha, hm]; done) | (simp (disch := omega) [-List.getElem?_eq_getElem, -getElem?_pos, aTake, ixO, rgB, nCit, aAct, nI_c, hi, ht, ha, hm, of_decide_eq_true hm]; done) | (simp (disch := omega) [-List.getElem?_eq_getElem, -getElem?_pos, aTake, ixO, rgB, nCit, aAct, nI_c, hi, ht, ha, hm, of_decide_eq_false hm]; done) | simp (disch := omega) [-List.getElem?_eq_getElem, -getElem?_pos, aTake, ixO, rgB, nCit, aAct, nI_c, hi, ht, ha, hm]
        · unfold f_X10_take
          rw [nCo, hi, nd_t, nCt hS.1 hvl, ht, nd_t, C_isFree hS.1 hvl ha, gbiN, nAl, hm, nd_t]
          refine C_act (mk := fun S1 => (0, cntC (gTake s.1 i j a) i, S1)) hv hS (fun S0 h0 => ?_)
          obtain ⟨S1, e1, c1, f1⟩ := C_give h0 hvl hi4 ha
          refine ⟨S1, ?_, c1, Fb.f f1⟩
          rw [e1, gbvN, C_ccountOf c1 (V.vl hV2), gbiN]
theorem rf_worth {n : Nat} {s : St} (i : Int32) (hv : IV n s) : RF (fun S => gwr (-9999001) 0 0 (f_X10_worth i S)) (n, s) ((nWorth s.1 i, (n, s))) := by
  obtain ⟨c, hV⟩ := hv.1
  have hvl := V.vl hV
  cases hi : below 4 i with
  | false =>
    refine tR 1 hv ?_ (fun _ => rfl) (fun S hS => ?_)
    · simp (disch := omega) [-List.getElem?_eq_getElem, -getElem?_pos, nWorth, ixO, rgB, nCit, aAct, nI_c, hi]
    · unfold f_X10_worth
      rw [nCo, hi, nd_f]
  | true =>
    obtain ⟨i, hi4, rfl⟩ := below_of (by omega) hi
    refine qR (gWorth s.1 i) hv ?_ (fun S hS => ⟨S, ?_, Fb.rf S⟩)
    · simp (disch := omega) [-List.getElem?_eq_getElem, -getElem?_pos, nWorth, ixO, rgB, nCit, aAct, nI_c, hi]
    · unfold f_X10_worth
      rw [nCo, hi, nd_t, C_worth hS.1 hvl hi4, gbiN]
theorem rf_levelFor {n : Nat} {s : St} (i t : Int32) (hv : IV n s) : RF (fun S => gwr (-9999001) 0 0 (f_X10_levelFor i t S)) (n, s) ((nLev s.1 i t, (n, s))) := by
  obtain ⟨c, hV⟩ := hv.1
  have hvl := V.vl hV
  have hl := hvl.2.2.1
  cases hi : below 4 i with
  | false =>
    refine tR 1 hv ?_ (fun _ => rfl) (fun S hS => ?_)
    · simp (disch := omega) [-List.getElem?_eq_getElem, -getElem?_pos, nLev, ixO, rgB, nCit, aAct, nI_c, hi]
    · unfold f_X10_levelFor
      rw [nCo, hi, nd_f]
  | true =>
    obtain ⟨i, hi4, rfl⟩ := below_of (by omega) hi
    cases ht : below s.1.2.2.2.2.length t with
    | false =>
      refine tR 1 hv ?_ (fun _ => rfl) (fun S hS => ?_)
      · simp (disch := omega) [-List.getElem?_eq_getElem, -getElem?_pos, nLev, ixO, rgB, nCit, aAct, nI_c, hi, ht]
      · unfold f_X10_levelFor
        rw [nCo, hi, nd_t, nCt hS.1 hvl, ht, nd_f]
    | true =>
      obtain ⟨k, hk, rfl⟩ := below_of (by omega) ht
      obtain ⟨a, ha⟩ := some_of_lt hk
      have hc9 := hV.1.2.1
      obtain ⟨⟨x, hx, ex⟩, ⟨y, hy, ey⟩, -⟩ := hV.2.2.2.2.2.2 a (mem_get ha)
      refine qR (smL s.1 i x y 1 6) hv ?_ (fun S hS => ?_)
      · simp (disch := omega) [-List.getElem?_eq_getElem, -getElem?_pos, nLev, ixO, rgB, nCit, aAct, nI_c, hi, ht, ha, ex, ey]
      · obtain ⟨S1, e1, f1⟩ := C_small_loop (b := 14) (by omega) hV hi4 ha ex ey (by omega) (by omega) 6 1 S gFu rfl (by unfold gFu; omega) hS.1
        refine ⟨S1, ?_, Fb.w f1⟩
        unfold f_X10_levelFor f_X4_smallestLevel
        rw [nCo, hi, nd_t, nCt hS.1 hvl, ht, nd_t, show (1 : Int32) = nI 1 from rfl, e1, gbiN]
theorem rf_bestContract {n : Nat} {s : St} (i : Int32) (hv : IV n s) : RF (fun S => gwr (-9999001) 0 0 (f_X10_bestContract i S)) (n, s) ((nBest s.1 i, (n, s))) := by
  obtain ⟨c, hV⟩ := hv.1
  have hvl := V.vl hV
  have hl := hvl.2.2.1
  cases hi : below 4 i with
  | false =>
    refine tR 1 hv ?_ (fun _ => rfl) (fun S hS => ?_)
    · simp (disch := omega) [-List.getElem?_eq_getElem, -getElem?_pos, nBest, ixO, rgB, nCit, aAct, nI_c, hi]
    · unfold f_X10_bestContract
      rw [nCo, hi, nd_f]
  | true =>
    obtain ⟨i, hi4, rfl⟩ := below_of (by omega) hi
    have hl4 := hvl.2.1 i hi4
    obtain ⟨lv, hlv, elv⟩ := grL_v (s.1.2.2.2.1 i) 0 (by omega) (fun x hx => ((hV.2.2.2.2.1 i hi4).2 x hx).1)
    rw [nI_0] at elv
    refine qR (bsC s.1 i lv s.1.2.2.2.2 0 (-9) 0) hv ?_ (fun S hS => ?_)
    · simp (disch := omega) [-List.getElem?_eq_getElem, -getElem?_pos, nBest, ixO, rgB, nCit, aAct, nI_c, hi, elv]
    · have e0 := C_grL_loop (b := 14) (S := S) hi4 (s.1.2.2.2.1 i) 0 0 gFu (by rw [Nat.zero_add]; exact (hS.1.2.2.2.1 i hi4).1) (by omega) (hS.1.2.2.2.1 i hi4).2 (by unfold gFu; omega)
      obtain ⟨S1, e1, f1⟩ := C_best_loop (b := 14) (by omega) hV hi4 hlv s.1.2.2.2.2 0 (-9) 0 S gFu List.drop_zero (Nat.zero_add _) (by unfold gFu; omega) hS.1
      rw [nI_0] at e0 e1
      refine ⟨S1, ?_, Fb.w f1⟩
      unfold f_X10_bestContract f_X4_bestFree f_X0_greatestLevel
      rw [nCo, hi, nd_t, e0, gbiN, gviN, elv, nI4, e1, gbiN]
theorem rf_coinsAfter {n : Nat} {s : St} (i x : Int32) (hv : IV n s) : RF (fun S => gwr (-9999001) (-9999002) 0 (f_X10_coinsAfter i x S)) (n, s) ((nCoins s.1 i x, (n, s))) := by
  obtain ⟨c, hV⟩ := hv.1
  have hvl := V.vl hV
  cases hi : below 4 i with
  | false =>
    refine tR 1 hv ?_ (fun _ => rfl) (fun S hS => ?_)
    · simp (disch := omega) [-List.getElem?_eq_getElem, -getElem?_pos, nCoins, ixO, rgB, nCit, aAct, nI_c, hi]
    · unfold f_X10_coinsAfter
      rw [nCo, hi, nd_f]
  | true =>
    obtain ⟨i, hi4, rfl⟩ := below_of (by omega) hi
    cases hx : (decide ((0 : Int32) ≤ x) && decide (x ≤ (50 : Int32))) with
    | false =>
      refine tR 2 hv ?_ (fun _ => rfl) (fun S hS => ?_)
      · simp (disch := omega) [-List.getElem?_eq_getElem, -getElem?_pos, nCoins, ixO, rgB, nCit, aAct, nI_c, hi, hx]
      · unfold f_X10_coinsAfter
        rw [nCo, hi, nd_t, nRa, hx, nd_f]
    | true =>
      obtain ⟨m, -, hm, rfl⟩ := rg_of (a := 0) (b := 50) (by omega) (by omega) hx
      refine qR ((gEnds s.1 m).2.2.1 i 0) hv ?_ (fun S hS => ?_)
      · simp (disch := omega) [-List.getElem?_eq_getElem, -getElem?_pos, nCoins, ixO, rgB, nCit, aAct, nI_c, hi, hx]
      · obtain ⟨S1, e1, c1, -, f1⟩ := C_tri hv hS
        obtain ⟨S2, e2, f2⟩ := C_coins_loop hi4 m 0 n s.1 S1 gFu (Nat.zero_add _) hm (by unfold gFu; omega) c1 hV
        rw [nI_0] at e2
        refine ⟨S2, ?_, f1.tr f2⟩
        unfold f_X10_coinsAfter
        rw [nCo, hi, nd_t, nRa, hx, nd_t, e1, gbvN, e2]
theorem rf_bankruptAfter {n : Nat} {s : St} (hn : n < 90000) (i : Int32) (hv : IV n s) : RF (fun S => gwr (-9999001) 0 0 (f_X10_bankruptAfter i S)) (n, s) ((nBk s.1 i, (n, s))) := by
  obtain ⟨c, hV⟩ := hv.1
  have hvl := V.vl hV
  cases hi : below 4 i with
  | false =>
    refine tR 1 hv ?_ (fun _ => rfl) (fun S hS => ?_)
    · simp (disch := omega) [-List.getElem?_eq_getElem, -getElem?_pos, nBk, ixO, rgB, nCit, aAct, nI_c, hi]
    · unfold f_X10_bankruptAfter
      rw [nCo, hi, nd_f]
  | true =>
    obtain ⟨i, hi4, rfl⟩ := below_of (by omega) hi
    obtain ⟨q, -, hq, eq⟩ := (hV.2.2.2.1 i hi4).2
    refine qR (bkA s.1 i 1 50) hv ?_ (fun S hS => ?_)
    · simp (disch := omega) [-List.getElem?_eq_getElem, -getElem?_pos, nBk, ixO, rgB, nCit, aAct, nI_c, hi]
    · obtain ⟨S1, e1, c1, c2, f1⟩ := C_tri hv hS
      obtain ⟨S2, e2, f2⟩ := C_bk_loop (q := q) hi4 (by omega) 50 1 n s.1 S1 gFu rfl (by unfold gFu; omega) c1 hV eq
      refine ⟨S2, ?_, f1.tr f2⟩
      unfold f_X10_bankruptAfter
      rw [nCo, hi, nd_t, e1, gbvN, at_ok (by omega) (by omega), gbiN, (c2.2.2.1 i hi4).2.2.2, eq, show (1 : Int32) = nI 1 from rfl, e2]
theorem rf_simulate {n : Nat} {s : St} (y : Int64) (x : Int32) (hv : IV n s) : RF (fun S => gwr 0 (-9999002) 0 (f_X10_simulate y x S)) (n, s) ((nSim s.1 y x, (n, s))) := by
  obtain ⟨c, hV⟩ := hv.1
  have hvl := V.vl hV
  cases hx : (decide ((1 : Int32) ≤ x) && decide (x ≤ (50 : Int32))) with
  | false =>
    refine tR 2 hv ?_ (fun _ => rfl) (fun S hS => ?_)
    · simp (disch := omega) [-List.getElem?_eq_getElem, -getElem?_pos, nSim, ixO, rgB, nCit, aAct, nI_c, hx]
    · unfold f_X10_simulate
      rw [nRa, hx, nd_f]
  | true =>
    obtain ⟨m, -, hm, rfl⟩ := rg_of (a := 1) (b := 50) (by omega) (by omega) hx
    refine qR (gwM (gSims s.1 y m) 1 3 (gWorth (gSims s.1 y m) 0) + 10000 * (gSims s.1 y m).1 3) hv ?_ (fun S hS => ?_)
    · simp (disch := omega) [-List.getElem?_eq_getElem, -getElem?_pos, nSim, ixO, rgB, nCit, aAct, nI_c, hx]
    · obtain ⟨S1, e1, c1, -, f1⟩ := C_tri hv hS
      obtain ⟨S2, e2, f2⟩ := C_sim_loop m 0 n s.1 y S1 gFu (Nat.zero_add _) hm (by unfold gFu; omega) c1 hV
      rw [nI_0] at e2
      refine ⟨S2, ?_, f1.tr f2⟩
      unfold f_X10_simulate
      rw [nRa, hx, nd_t, e1, gbvN, e2]
theorem rf_whyNot {n : Nat} {s : St} (t x : Int32) (hv : IV n s) : RF (fun S => gwr (-9999001) 0 0 (f_X10_whyNot t x S)) (n, s) ((nWhy s.1 t x, (n, s))) := by
  obtain ⟨c, hV⟩ := hv.1
  have hvl := V.vl hV
  have hl := hvl.2.2.1
  cases ht : below s.1.2.2.2.2.length t with
  | false =>
    refine tR 1 hv ?_ (fun _ => rfl) (fun S hS => ?_)
    · first | (simp (disch := omega) [-List.getElem?_eq_getElem, -getElem?_pos, nWhy, ixO, rgB, nCit, aAct, nI_c, ht]; done) | (simp (disch := omega) [-List.getElem?_eq_getElem, -getElem?_pos, nWhy, ixO, rgB, nCit, aAct, nI_c, ht, h9]; done) | (simp (disch := omega) [-List.getElem?_eq_getElem, -getElem?_pos, nWhy, ixO, rgB, nCit, aAct, nI_c, ht, ho, (nI_m9 (by omega) : nI i ≠ -9)]; done) | (obtain ⟨-, -, -, -, r5, r6, r7, r8, r9, r10⟩ := hr; simp (disch := omega) [-List.getElem?_eq_getElem, -getElem?_pos, nWhy, ixO, rgB, nCit, aAct, nI_c, ht, ho, (nI_m9 (by omega) : nI i ≠ -9), r5, r6, r7]; done) | (obtain ⟨-, -, -, -, r5, r6, r7, r8, r9, r10⟩ := hr; simp (disch := omega) [-List.getElem?_eq_getElem, -getElem?_pos, nWhy, ixO, rgB, nCit, aAct, nI_c, ht, ho, (nI_m9 (by omega) : nI i ≠ -9), r5, r6, r7, h0]; done) | simp (disch := omega) [-List.getElem?_eq_getElem, -getElem?_pos, nWhy, ixO, rgB, nCit, aAct, nI_c, ht]
    · unfold f_X10_whyNot
      rw [nCt hS.1 hvl, ht, nd_f]
  | true =>
    obtain ⟨k, hk, rfl⟩ := below_of (by omega) ht
    obtain ⟨a, ha⟩ := some_of_lt hk
    rcases (hV.2.2.2.2.2.2 a (mem_get ha)).2.2.2.2.2.1 with h9 | ⟨i, hi4, ho⟩
    · refine qR 1 hv ?_ (fun S hS => ⟨S, ?_, Fb.rf S⟩)
      · first | (simp (disch := omega) [-List.getElem?_eq_getElem, -getElem?_pos, nWhy, ixO, rgB, nCit, aAct, nI_c, ht, ha]; done) | (simp (disch := omega) [-List.getElem?_eq_getElem, -getElem?_pos, nWhy, ixO, rgB, nCit, aAct, nI_c, ht, ha, h9]; done) | (simp (disch := omega) [-List.getElem?_eq_getElem, -getElem?_pos, nWhy, ixO, rgB, nCit, aAct, nI_c, ht, ha, ho, (nI_m9 (by omega) : nI i ≠ -9)]; done) | (obtain ⟨-, -, -, -, r5, r6, r7, r8, r9, r10⟩ := hr; simp (disch := omega) [-List.getElem?_eq_getElem, -getElem?_pos, nWhy, ixO, rgB, nCit, aAct, nI_c, ht, ha, ho, (nI_m9 (by omega) : nI i ≠ -9), r5, r6, r7]; done) | (obtain ⟨-, -, -, -, r5, r6, r7, r8, r9, r10⟩ := hr; simp (disch := omega) [-List.getElem?_eq_getElem, -getElem?_pos, nWhy, ixO, rgB, nCit, aAct, nI_c, ht, ha, ho, (nI_m9 (by omega) : nI i ≠ -9), r5, r6, r7, h0]; done) | simp (disch := omega) [-List.getElem?_eq_getElem, -getElem?_pos, nWhy, ixO, rgB, nCit, aAct, nI_c, ht, ha]
      · unfold f_X10_whyNot
        rw [nCt hS.1 hvl, ht, nd_t, nHo0 hS.1 hvl ha h9, nd_t, C_reason0 hS.1 hvl ha h9, gbiN]
    · have hl4 := hvl.2.1 i hi4
      cases hx : below (s.1.2.2.2.1 i).length x with
      | false =>
        refine tR 1 hv ?_ (fun _ => rfl) (fun S hS => ?_)
        · first | (simp (disch := omega) [-List.getElem?_eq_getElem, -getElem?_pos, nWhy, ixO, rgB, nCit, aAct, nI_c, ht, ha, hx]; done) | (simp (disch := omega) [-List.getElem?_eq_getElem, -getElem?_pos, nWhy, ixO, rgB, nCit, aAct, nI_c, ht, ha, hx, h9]; done) | (simp (disch := omega) [-List.getElem?_eq_getElem, -getElem?_pos, nWhy, ixO, rgB, nCit, aAct, nI_c, ht, ha, hx, ho, (nI_m9 (by omega) : nI i ≠ -9)]; done) | (obtain ⟨-, -, -, -, r5, r6, r7, r8, r9, r10⟩ := hr; simp (disch := omega) [-List.getElem?_eq_getElem, -getElem?_pos, nWhy, ixO, rgB, nCit, aAct, nI_c, ht, ha, hx, ho, (nI_m9 (by omega) : nI i ≠ -9), r5, r6, r7]; done) | (obtain ⟨-, -, -, -, r5, r6, r7, r8, r9, r10⟩ := hr; simp (disch := omega) [-List.getElem?_eq_getElem, -getElem?_pos, nWhy, ixO, rgB, nCit, aAct, nI_c, ht, ha, hx, ho, (nI_m9 (by omega) : nI i ≠ -9), r5, r6, r7, h0]; done) | simp (disch := omega) [-List.getElem?_eq_getElem, -getElem?_pos, nWhy, ixO, rgB, nCit, aAct, nI_c, ht, ha, hx]
        · unfold f_X10_whyNot
          rw [nCt hS.1 hvl, ht, nd_t, nHo hS.1 hvl ha hi4 ho, hx, nd_f]
      | true =>
        obtain ⟨j, hj, rfl⟩ := below_of (by omega) hx
        obtain ⟨b, hb⟩ := some_of_lt hj
        obtain ⟨x, y, lv, hr, hxc, -⟩ := Runs.of hV hi4 ha hb ho
        refine qR (rsn s.1 i a b x y lv) hv ?_ (fun S hS => ?_)
        · first | (simp (disch := omega) [-List.getElem?_eq_getElem, -getElem?_pos, nWhy, ixO, rgB, nCit, aAct, nI_c, ht, ha, hx, hb]; done) | (simp (disch := omega) [-List.getElem?_eq_getElem, -getElem?_pos, nWhy, ixO, rgB, nCit, aAct, nI_c, ht, ha, hx, hb, h9]; done) | (simp (disch := omega) [-List.getElem?_eq_getElem, -getElem?_pos, nWhy, ixO, rgB, nCit, aAct, nI_c, ht, ha, hx, hb, ho, (nI_m9 (by omega) : nI i ≠ -9)]; done) | (obtain ⟨-, -, -, -, r5, r6, r7, r8, r9, r10⟩ := hr; simp (disch := omega) [-List.getElem?_eq_getElem, -getElem?_pos, nWhy, ixO, rgB, nCit, aAct, nI_c, ht, ha, hx, hb, ho, (nI_m9 (by omega) : nI i ≠ -9), r5, r6, r7]; done) | (obtain ⟨-, -, -, -, r5, r6, r7, r8, r9, r10⟩ := hr; simp (disch := omega) [-List.getElem?_eq_getElem, -getElem?_pos, nWhy, ixO, rgB, nCit, aAct, nI_c, ht, ha, hx, hb, ho, (nI_m9 (by omega) : nI i ≠ -9), r5, r6, r7, h0]; done) | simp (disch := omega) [-List.getElem?_eq_getElem, -getElem?_pos, nWhy, ixO, rgB, nCit, aAct, nI_c, ht, ha, hx, hb]
        · obtain ⟨S1, e1, f1⟩ := C_reason (b := 14) (by omega) hS.1 hV hr
          refine ⟨S1, ?_, Fb.w f1⟩
          unfold f_X10_whyNot
          rw [nCt hS.1 hvl, ht, nd_t, nHo hS.1 hvl ha hi4 ho, hx, nd_t, e1, gbiN]
theorem rf_run {n : Nat} {s : St} (t x : Int32) (hv : IV n s) : RF (fun S => gwr (-9999001) 0 (-9999003) (f_X10_run t x S)) (n, s) (aRun t x (n, s)) := by
  obtain ⟨c, hV⟩ := hv.1
  have hvl := V.vl hV
  have hl := hvl.2.2.1
  cases ht : below s.1.2.2.2.2.length t with
  | false =>
    refine tR 1 hv ?_ (fun _ => rfl) (fun S hS => ?_)
    · first | (simp (disch := omega) [-List.getElem?_eq_getElem, -getElem?_pos, aRun, ixO, rgB, nCit, aAct, nI_c, ht]; done) | (simp (disch := omega) [-List.getElem?_eq_getElem, -getElem?_pos, aRun, ixO, rgB, nCit, aAct, nI_c, ht, h9]; done) | (simp (disch := omega) [-List.getElem?_eq_getElem, -getElem?_pos, aRun, ixO, rgB, nCit, aAct, nI_c, ht, ho, (nI_m9 (by omega) : nI i ≠ -9)]; done) | (obtain ⟨-, -, -, -, r5, r6, r7, r8, r9, r10⟩ := hr; simp (disch := omega) [-List.getElem?_eq_getElem, -getElem?_pos, aRun, ixO, rgB, nCit, aAct, nI_c, ht, ho, (nI_m9 (by omega) : nI i ≠ -9), r5, r6, r7]; done) | (obtain ⟨-, -, -, -, r5, r6, r7, r8, r9, r10⟩ := hr; simp (disch := omega) [-List.getElem?_eq_getElem, -getElem?_pos, aRun, ixO, rgB, nCit, aAct, nI_c, ht, ho, (nI_m9 (by omega) : nI i ≠ -9), r5, r6, r7, h0]; done) | simp (disch := omega) [-List.getElem?_eq_getElem, -getElem?_pos, aRun, ixO, rgB, nCit, aAct, nI_c, ht]
    · unfold f_X10_run
      rw [nCt hS.1 hvl, ht, nd_f]
  | true =>
    obtain ⟨k, hk, rfl⟩ := below_of (by omega) ht
    obtain ⟨a, ha⟩ := some_of_lt hk
    rcases (hV.2.2.2.2.2.2 a (mem_get ha)).2.2.2.2.2.1 with h9 | ⟨i, hi4, ho⟩
    · refine tR 3 hv ?_ (fun _ => rfl) (fun S hS => ?_)
      · first | (simp (disch := omega) [-List.getElem?_eq_getElem, -getElem?_pos, aRun, ixO, rgB, nCit, aAct, nI_c, ht, ha]; done) | (simp (disch := omega) [-List.getElem?_eq_getElem, -getElem?_pos, aRun, ixO, rgB, nCit, aAct, nI_c, ht, ha, h9]; done) | (simp (disch := omega) [-List.getElem?_eq_getElem, -getElem?_pos, aRun, ixO, rgB, nCit, aAct, nI_c, ht, ha, ho, (nI_m9 (by omega) : nI i ≠ -9)]; done) | (obtain ⟨-, -, -, -, r5, r6, r7, r8, r9, r10⟩ := hr; simp (disch := omega) [-List.getElem?_eq_getElem, -getElem?_pos, aRun, ixO, rgB, nCit, aAct, nI_c, ht, ha, ho, (nI_m9 (by omega) : nI i ≠ -9), r5, r6, r7]; done) | (obtain ⟨-, -, -, -, r5, r6, r7, r8, r9, r10⟩ := hr; simp (disch := omega) [-List.getElem?_eq_getElem, -getElem?_pos, aRun, ixO, rgB, nCit, aAct, nI_c, ht, ha, ho, (nI_m9 (by omega) : nI i ≠ -9), r5, r6, r7, h0]; done) | simp (disch := omega) [-List.getElem?_eq_getElem, -getElem?_pos, aRun, ixO, rgB, nCit, aAct, nI_c, ht, ha]
      · unfold f_X10_run B_X10_run_32
        rw [nCt hS.1 hvl, ht, nd_t, nHo0 hS.1 hvl ha h9, nd_t, C_reason0 hS.1 hvl ha h9, gbiN, if_neg (by decide), show (0 : Int32) = bI false from rfl, nAl, nd_f]
        rfl
    · have hl4 := hvl.2.1 i hi4
      cases hx : below (s.1.2.2.2.1 i).length x with
      | false =>
        refine tR 1 hv ?_ (fun _ => rfl) (fun S hS => ?_)
        · first | (simp (disch := omega) [-List.getElem?_eq_getElem, -getElem?_pos, aRun, ixO, rgB, nCit, aAct, nI_c, ht, ha, hx]; done) | (simp (disch := omega) [-List.getElem?_eq_getElem, -getElem?_pos, aRun, ixO, rgB, nCit, aAct, nI_c, ht, ha, hx, h9]; done) | (simp (disch := omega) [-List.getElem?_eq_getElem, -getElem?_pos, aRun, ixO, rgB, nCit, aAct, nI_c, ht, ha, hx, ho, (nI_m9 (by omega) : nI i ≠ -9)]; done) | (obtain ⟨-, -, -, -, r5, r6, r7, r8, r9, r10⟩ := hr; simp (disch := omega) [-List.getElem?_eq_getElem, -getElem?_pos, aRun, ixO, rgB, nCit, aAct, nI_c, ht, ha, hx, ho, (nI_m9 (by omega) : nI i ≠ -9), r5, r6, r7]; done) | (obtain ⟨-, -, -, -, r5, r6, r7, r8, r9, r10⟩ := hr; simp (disch := omega) [-List.getElem?_eq_getElem, -getElem?_pos, aRun, ixO, rgB, nCit, aAct, nI_c, ht, ha, hx, ho, (nI_m9 (by omega) : nI i ≠ -9), r5, r6, r7, h0]; done) | simp (disch := omega) [-List.getElem?_eq_getElem, -getElem?_pos, aRun, ixO, rgB, nCit, aAct, nI_c, ht, ha, hx]
        · unfold f_X10_run
          rw [nCt hS.1 hvl, ht, nd_t, nHo hS.1 hvl ha hi4 ho, hx, nd_f]
      | true =>
        obtain ⟨j, hj, rfl⟩ := below_of (by omega) hx
        obtain ⟨b, hb⟩ := some_of_lt hj
        obtain ⟨x, y, lv, hr, hxc, -⟩ := Runs.of hV hi4 ha hb ho
        by_cases h0 : rsn s.1 i a b x y lv = 0
        · refine mR (nI (wC (wks s.1 i) y x (4 * lv))) (gCar s.1 i k j a b (wP (wks s.1 i) y x (4 * lv))) hv (V_mono (V_car hV hi4 ha hb) (Nat.le_succ n)) ?_ (fun S hS => ?_)
          · first | (simp (disch := omega) [-List.getElem?_eq_getElem, -getElem?_pos, aRun, ixO, rgB, nCit, aAct, nI_c, ht, ha, hx, hb, h0]; done) | (simp (disch := omega) [-List.getElem?_eq_getElem, -getElem?_pos, aRun, ixO, rgB, nCit, aAct, nI_c, ht, ha, hx, hb, h0, h9]; done) | (simp (disch := omega) [-List.getElem?_eq_getElem, -getElem?_pos, aRun, ixO, rgB, nCit, aAct, nI_c, ht, ha, hx, hb, h0, ho, (nI_m9 (by omega) : nI i ≠ -9)]; done) | (obtain ⟨-, -, -, -, r5, r6, r7, r8, r9, r10⟩ := hr; simp (disch := omega) [-List.getElem?_eq_getElem, -getElem?_pos, aRun, ixO, rgB, nCit, aAct, nI_c, ht, ha, hx, hb, h0, ho, (nI_m9 (by omega) : nI i ≠ -9), r5, r6, r7]; done) | (obtain ⟨-, -, -, -, r5, r6, r7, r8, r9, r10⟩ := hr; simp (disch := omega) [-List.getElem?_eq_getElem, -getElem?_pos, aRun, ixO, rgB, nCit, aAct, nI_c, ht, ha, hx, hb, h0, ho, (nI_m9 (by omega) : nI i ≠ -9), r5, r6, r7, h0]; done) | simp (disch := omega) [-List.getElem?_eq_getElem, -getElem?_pos, aRun, ixO, rgB, nCit, aAct, nI_c, ht, ha, hx, hb, h0]
          · obtain ⟨S1, e1, f1⟩ := C_reason (b := 14) (by omega) hS.1 hV hr
            have hS1 := IC_fr hS (fun k a b c => (Fb.w (b := 35) f1) k a b)
            unfold f_X10_run B_X10_run_32
            rw [nCt hS.1 hvl, ht, nd_t, nHo hS.1 hvl ha hi4 ho, hx, nd_t, e1, gbiN, if_pos h0, show (1 : Int32) = bI true from rfl, nAl, nd_t]
            obtain ⟨S2, q1, q2, q3⟩ := C_act (K := fun S_3 => gbi (f_X4_carry 14 (nI k) (nI j) S_3) (fun v_5 S_4 => some (0, v_5, S_4))) (mk := fun S1 => (0, nI (wC (wks s.1 i) y x (4 * lv)), S1)) (g := gCar s.1 i k j a b (wP (wks s.1 i) y x (4 * lv))) hv hS1 (fun S0 h0 => by
              obtain ⟨S3, e3, c3, f3⟩ := C_carry (b := 14) (by omega) h0 hV hr
              exact ⟨S3, by rw [e3, gbiN], c3, f3⟩)
            exact ⟨S2, q1, q2, fun k hk => by rw [q3 k hk, f1 k (by omega)]⟩
        · refine tQ (k := 3) hv ?_ (fun _ => rfl) (fun S hS => ?_)
          · first | (simp (disch := omega) [-List.getElem?_eq_getElem, -getElem?_pos, aRun, ixO, rgB, nCit, aAct, nI_c, ht, ha, hx, hb, h0]; done) | (simp (disch := omega) [-List.getElem?_eq_getElem, -getElem?_pos, aRun, ixO, rgB, nCit, aAct, nI_c, ht, ha, hx, hb, h0, h9]; done) | (simp (disch := omega) [-List.getElem?_eq_getElem, -getElem?_pos, aRun, ixO, rgB, nCit, aAct, nI_c, ht, ha, hx, hb, h0, ho, (nI_m9 (by omega) : nI i ≠ -9)]; done) | (obtain ⟨-, -, -, -, r5, r6, r7, r8, r9, r10⟩ := hr; simp (disch := omega) [-List.getElem?_eq_getElem, -getElem?_pos, aRun, ixO, rgB, nCit, aAct, nI_c, ht, ha, hx, hb, h0, ho, (nI_m9 (by omega) : nI i ≠ -9), r5, r6, r7]; done) | (obtain ⟨-, -, -, -, r5, r6, r7, r8, r9, r10⟩ := hr; simp (disch := omega) [-List.getElem?_eq_getElem, -getElem?_pos, aRun, ixO, rgB, nCit, aAct, nI_c, ht, ha, hx, hb, h0, ho, (nI_m9 (by omega) : nI i ≠ -9), r5, r6, r7, h0]; done) | simp (disch := omega) [-List.getElem?_eq_getElem, -getElem?_pos, aRun, ixO, rgB, nCit, aAct, nI_c, ht, ha, hx, hb, h0]
          · obtain ⟨S1, e1, f1⟩ := C_reason (b := 14) (by omega) hS.1 hV hr
            refine ⟨S1, ?_, Fb.w f1⟩
            unfold f_X10_run B_X10_run_32
            rw [nCt hS.1 hvl, ht, nd_t, nHo hS.1 hvl ha hi4 ho, hx, nd_t, e1, gbiN, if_neg h0, show (0 : Int32) = bI false from rfl, nAl, nd_f]
            rfl
theorem rf_offer {n : Nat} {s : St} (x y p r : Int32) (hv : IV n s) : RF (fun S => gwr (-9999001) (-9999002) (-9999003) (f_X10_offer x y p r S)) (n, s) (aOffer x y p r (n, s)) := by
  obtain ⟨c, hV⟩ := hv.1
  have hvl := V.vl hV
  have hl := hvl.2.2.1
  obtain ⟨-, hc9, hc⟩ := hV.1
  cases hx : below c x with
  | false =>
    refine tR 1 hv ?_ (fun _ => rfl) (fun S hS => ?_)
    · first | (simp (disch := omega) [-List.getElem?_eq_getElem, -getElem?_pos, aOffer, ixO, rgB, nCit, aAct, nI_c, hc, hx, hA]; done) | (simp (disch := omega) [-List.getElem?_eq_getElem, -getElem?_pos, aOffer, ixO, rgB, nCit, aAct, nI_c, hc, hx]; done) | simp (disch := omega) [-List.getElem?_eq_getElem, -getElem?_pos, aOffer, ixO, rgB, nCit, aAct, nI_c, hc, hx]
    · unfold f_X10_offer
      rw [nCi hS.1 hc hc9, hx, nd_f]
  | true =>
    cases hy : below c y with
    | false =>
      refine tR 1 hv ?_ (fun _ => rfl) (fun S hS => ?_)
      · first | (simp (disch := omega) [-List.getElem?_eq_getElem, -getElem?_pos, aOffer, ixO, rgB, nCit, aAct, nI_c, hc, hx, hy, hA]; done) | (simp (disch := omega) [-List.getElem?_eq_getElem, -getElem?_pos, aOffer, ixO, rgB, nCit, aAct, nI_c, hc, hx, hy]; done) | simp (disch := omega) [-List.getElem?_eq_getElem, -getElem?_pos, aOffer, ixO, rgB, nCit, aAct, nI_c, hc, hx, hy]
      · unfold f_X10_offer
        rw [nCi hS.1 hc hc9, hx, nd_t, nCi hS.1 hc hc9, hy, nd_f]
    | true =>
      cases hA : (!decide (x = y) && ((decide ((1 : Int32) ≤ p) && decide (p ≤ (99 : Int32))) && (decide ((1 : Int32) ≤ r) && decide (r ≤ (9 : Int32))))) with
      | false =>
        refine tR 2 hv ?_ (fun _ => rfl) (fun S hS => ?_)
        · first | (simp (disch := omega) [-List.getElem?_eq_getElem, -getElem?_pos, aOffer, ixO, rgB, nCit, aAct, nI_c, hc, hx, hy, hA]; done) | (simp (disch := omega) [-List.getElem?_eq_getElem, -getElem?_pos, aOffer, ixO, rgB, nCit, aAct, nI_c, hc, hx, hy]; done) | simp (disch := omega) [-List.getElem?_eq_getElem, -getElem?_pos, aOffer, ixO, rgB, nCit, aAct, nI_c, hc, hx, hy]
        · unfold f_X10_offer
          rw [nCi hS.1 hc hc9, hx, nd_t, nCi hS.1 hc hc9, hy, nd_t, nDi]
          cases h1 : !decide (x = y) with
          | false => rw [nd_f]
          | true =>
            rw [h1, Bool.true_and] at hA
            rw [nd_t, nRa]
            cases h2 : (decide ((1 : Int32) ≤ p) && decide (p ≤ (99 : Int32))) with
            | false => rw [nd_f]
            | true =>
              rw [h2, Bool.true_and] at hA
              rw [nd_t, nRa, hA, nd_f]
      | true =>
        rw [Bool.and_eq_true, Bool.and_eq_true] at hA
        obtain ⟨h1, h2, h3⟩ := hA
        have hne : x ≠ y := fun e => by rw [decide_eq_true e] at h1; cases h1
        have hfull : ∀ S, CP 14 s.1 S → f_X1_areFull 14 S = some (bI (decide (s.1.2.2.2.2.length = 8)), S) := fun S hS => by
          unfold f_X1_areFull
          rw [hS.2.2.2.2.1, show (8 : Int32) = nI 8 from rfl]
          by_cases h8 : s.1.2.2.2.2.length = 8
          · rw [decide_eq_true h8, if_neg (by rw [nIlt (by omega) (by omega)]; omega)]; rfl
          · rw [decide_eq_false h8, if_pos (by rw [nIlt (by omega) (by omega)]; omega)]; rfl
        by_cases h8 : s.1.2.2.2.2.length = 8
        · refine tR 3 hv ?_ (fun _ => rfl) (fun S hS => ?_)
          · first | (simp (disch := omega) [-List.getElem?_eq_getElem, -getElem?_pos, aOffer, ixO, rgB, nCit, aAct, nI_c, hc, hx, hy, h1, h2, h3, h1, h8, hA]; done) | (simp (disch := omega) [-List.getElem?_eq_getElem, -getElem?_pos, aOffer, ixO, rgB, nCit, aAct, nI_c, hc, hx, hy, h1, h2, h3, h1, h8]; done) | simp (disch := omega) [-List.getElem?_eq_getElem, -getElem?_pos, aOffer, ixO, rgB, nCit, aAct, nI_c, hc, hx, hy, h1, h2, h3, h1, h8]
          · unfold f_X10_offer B_X10_offer_48
            rw [nCi hS.1 hc hc9, hx, nd_t, nCi hS.1 hc hc9, hy, nd_t, nDi, h1, nd_t, nRa, h2, nd_t, nRa, h3, nd_t, hfull S hS.1, gbiN, decide_eq_true h8, if_neg (by decide), show (0 : Int32) = bI false from rfl, nAl, nd_f]
            rfl
        · obtain ⟨xa, hxa, rfl⟩ := below_of (by omega) hx
          obtain ⟨ya, hya, rfl⟩ := below_of (by omega) hy
          obtain ⟨pa, hp1, hp2, rfl⟩ := rg_of (a := 1) (b := 99) (by omega) (by omega) h2
          obtain ⟨ra, hr1, hr2, rfl⟩ := rg_of (a := 1) (b := 9) (by omega) (by omega) h3
          have hV2 : V c n (gOffer s.1 (nI xa, nI ya, nI pa, nI ra, -9, 0)) := V_offer hV (by omega) ⟨⟨xa, hxa, rfl⟩, ⟨ya, hya, rfl⟩, hne, ⟨pa, hp1, hp2, rfl⟩, ⟨ra, hr1, hr2, rfl⟩, Or.inl rfl, ⟨0, by omega, by omega, nI_0.symm⟩⟩
          refine mR (nI (gOffer s.1 (nI xa, nI ya, nI pa, nI ra, -9, 0)).2.2.2.2.length - 1) (gOffer s.1 (nI xa, nI ya, nI pa, nI ra, -9, 0)) hv (V_mono hV2 (Nat.le_succ n)) ?_ (fun S hS => ?_)
          · first | (simp (disch := omega) [-List.getElem?_eq_getElem, -getElem?_pos, aOffer, ixO, rgB, nCit, aAct, nI_c, hc, hx, hy, h1, h2, h3, h1, h8, h2, h3, hA]; done) | (simp (disch := omega) [-List.getElem?_eq_getElem, -getElem?_pos, aOffer, ixO, rgB, nCit, aAct, nI_c, hc, hx, hy, h1, h2, h3, h1, h8, h2, h3]; done) | simp (disch := omega) [-List.getElem?_eq_getElem, -getElem?_pos, aOffer, ixO, rgB, nCit, aAct, nI_c, hc, hx, hy, h1, h2, h3, h1, h8, h2, h3]
          · unfold f_X10_offer B_X10_offer_48
            rw [nCi hS.1 hc hc9, hx, nd_t, nCi hS.1 hc hc9, hy, nd_t, nDi, h1, nd_t, nRa, h2, nd_t, nRa, h3, nd_t, hfull S hS.1, gbiN, decide_eq_false h8, if_pos (by decide)]
            rw [show f_X10_needAllowed 1 S = nd 3 true S from nAl true S, nd_t]
            refine C_act (mk := fun S1 => (0, nI (gOffer s.1 (nI xa, nI ya, nI pa, nI ra, -9, 0)).2.2.2.2.length - 1, S1)) hv hS (fun S0 h0 => ?_)
            obtain ⟨S1, e1, c1, f1⟩ := C_offer (a1 := nI xa) (a2 := nI ya) (a3 := nI pa) (a4 := nI ra) h0 (by omega)
            exact ⟨S1, by rw [e1, gbvN, c1.2.2.2.2.1], c1, Fb.f f1⟩

theorem rf_way {n : Nat} {s : St} (i x y r w : Int32) (hv : IV n s) : RF (fun S => gwr (-9999001) (-9999002) 0 (f_X10_way i x y r w S)) (n, s) ((nWay s.1 i x y r w, (n, s))) := by
  obtain ⟨c, hV⟩ := hv.1
  have hvl := V.vl hV
  obtain ⟨-, hc9, hc⟩ := hV.1
  cases hi : below 4 i with
  | false =>
    refine tR 1 hv ?_ (fun _ => rfl) (fun S hS => ?_)
    · first | (simp (disch := omega) [-List.getElem?_eq_getElem, -getElem?_pos, nWay, ixO, rgB, nCit, aAct, nI_c, hc, hi, hA]; done) | (simp (disch := omega) [-List.getElem?_eq_getElem, -getElem?_pos, nWay, ixO, rgB, nCit, aAct, nI_c, hc, hi]; done) | (simp (disch := omega) [-List.getElem?_eq_getElem, -getElem?_pos, nWay, ixO, rgB, nCit, aAct, nI_c, hc, hi, h1, h2, h3, (show (nI 0 : Int32) = 0 from rfl), (show (nI 1 : Int32) = 1 from rfl), (show (nI 2 : Int32) = 2 from rfl), (show ¬ (nI 3 : Int32) = 0 by decide), (show ¬ (nI 3 : Int32) = 1 by decide), (show ¬ (nI 3 : Int32) = 2 by decide)]; done) | simp (disch := omega) [-List.getElem?_eq_getElem, -getElem?_pos, nWay, ixO, rgB, nCit, aAct, nI_c, hc, hi]
    · unfold f_X10_way
      rw [nCo, hi, nd_f]
  | true =>
    cases hx : below c x with
    | false =>
      refine tR 1 hv ?_ (fun _ => rfl) (fun S hS => ?_)
      · first | (simp (disch := omega) [-List.getElem?_eq_getElem, -getElem?_pos, nWay, ixO, rgB, nCit, aAct, nI_c, hc, hi, hx, hA]; done) | (simp (disch := omega) [-List.getElem?_eq_getElem, -getElem?_pos, nWay, ixO, rgB, nCit, aAct, nI_c, hc, hi, hx]; done) | (simp (disch := omega) [-List.getElem?_eq_getElem, -getElem?_pos, nWay, ixO, rgB, nCit, aAct, nI_c, hc, hi, hx, h1, h2, h3, (show (nI 0 : Int32) = 0 from rfl), (show (nI 1 : Int32) = 1 from rfl), (show (nI 2 : Int32) = 2 from rfl), (show ¬ (nI 3 : Int32) = 0 by decide), (show ¬ (nI 3 : Int32) = 1 by decide), (show ¬ (nI 3 : Int32) = 2 by decide)]; done) | simp (disch := omega) [-List.getElem?_eq_getElem, -getElem?_pos, nWay, ixO, rgB, nCit, aAct, nI_c, hc, hi, hx]
      · unfold f_X10_way
        rw [nCo, hi, nd_t, nCi hS.1 hc hc9, hx, nd_f]
    | true =>
      cases hy : below c y with
      | false =>
        refine tR 1 hv ?_ (fun _ => rfl) (fun S hS => ?_)
        · first | (simp (disch := omega) [-List.getElem?_eq_getElem, -getElem?_pos, nWay, ixO, rgB, nCit, aAct, nI_c, hc, hi, hx, hy, hA]; done) | (simp (disch := omega) [-List.getElem?_eq_getElem, -getElem?_pos, nWay, ixO, rgB, nCit, aAct, nI_c, hc, hi, hx, hy]; done) | (simp (disch := omega) [-List.getElem?_eq_getElem, -getElem?_pos, nWay, ixO, rgB, nCit, aAct, nI_c, hc, hi, hx, hy, h1, h2, h3, (show (nI 0 : Int32) = 0 from rfl), (show (nI 1 : Int32) = 1 from rfl), (show (nI 2 : Int32) = 2 from rfl), (show ¬ (nI 3 : Int32) = 0 by decide), (show ¬ (nI 3 : Int32) = 1 by decide), (show ¬ (nI 3 : Int32) = 2 by decide)]; done) | simp (disch := omega) [-List.getElem?_eq_getElem, -getElem?_pos, nWay, ixO, rgB, nCit, aAct, nI_c, hc, hi, hx, hy]
        · unfold f_X10_way
          rw [nCo, hi, nd_t, nCi hS.1 hc hc9, hx, nd_t, nCi hS.1 hc hc9, hy, nd_f]
      | true =>
        cases hA : (!decide (x = y) && ((decide ((1 : Int32) ≤ r) && decide (r ≤ (24 : Int32))) && (decide ((0 : Int32) ≤ w) && decide (w ≤ (3 : Int32))))) with
        | false =>
          refine tR 2 hv ?_ (fun _ => rfl) (fun S hS => ?_)
          · first | (simp (disch := omega) [-List.getElem?_eq_getElem, -getElem?_pos, nWay, ixO, rgB, nCit, aAct, nI_c, hc, hi, hx, hy, hA]; done) | (simp (disch := omega) [-List.getElem?_eq_getElem, -getElem?_pos, nWay, ixO, rgB, nCit, aAct, nI_c, hc, hi, hx, hy]; done) | (simp (disch := omega) [-List.getElem?_eq_getElem, -getElem?_pos, nWay, ixO, rgB, nCit, aAct, nI_c, hc, hi, hx, hy, h1, h2, h3, (show (nI 0 : Int32) = 0 from rfl), (show (nI 1 : Int32) = 1 from rfl), (show (nI 2 : Int32) = 2 from rfl), (show ¬ (nI 3 : Int32) = 0 by decide), (show ¬ (nI 3 : Int32) = 1 by decide), (show ¬ (nI 3 : Int32) = 2 by decide)]; done) | simp (disch := omega) [-List.getElem?_eq_getElem, -getElem?_pos, nWay, ixO, rgB, nCit, aAct, nI_c, hc, hi, hx, hy]
          · unfold f_X10_way
            rw [nCo, hi, nd_t, nCi hS.1 hc hc9, hx, nd_t, nCi hS.1 hc hc9, hy, nd_t, nDi]
            cases h1 : !decide (x = y) with
            | false => rw [nd_f]
            | true =>
              rw [h1, Bool.true_and] at hA
              rw [nd_t, nRa]
              cases h2 : (decide ((1 : Int32) ≤ r) && decide (r ≤ (24 : Int32))) with
              | false => rw [nd_f]
              | true =>
                rw [h2, Bool.true_and] at hA
                rw [nd_t, nRa, hA, nd_f]
        | true =>
          rw [Bool.and_eq_true, Bool.and_eq_true] at hA
          obtain ⟨h1, h2, h3⟩ := hA
          obtain ⟨i, hi4, rfl⟩ := below_of (by omega) hi
          obtain ⟨a, ha, rfl⟩ := below_of (by omega) hx
          obtain ⟨b, hb, rfl⟩ := below_of (by omega) hy
          obtain ⟨q, -, hq, rfl⟩ := rg_of (a := 1) (b := 24) (by omega) (by omega) h2
          obtain ⟨u, -, hu, rfl⟩ := rg_of (a := 0) (b := 3) (by omega) (by omega) h3
          have hks : ∀ t ∈ wks s.1 i, 1 ≤ t.2.2.1 := fun t ht => ((wks_ok (i := i) hV).1.2 t ht).2.2.2.1
          have hcf : ∀ S, IC s S → ∃ S1, f_X10_way (nI i) (nI a) (nI b) (nI q) (nI u) S = (if bI (wIs (wks s.1 i) b a q) = 0 then some (0, -9, S1) else if nI u = 0 then some (0, S1 9 5, S1) else if nI u = 1 then some (0, S1 9 6, S1) else if nI u = 2 then some (0, S1 9 4, S1) else gbi (f_X10_at 13 24 0 S1) (fun v s => some (0, v, s))) ∧ S1 9 5 = nI (wC (wks s.1 i) b a q) ∧ S1 9 6 = nI (wL (wks s.1 i) b a q) ∧ S1 9 4 = nI (wP (wks s.1 i) b a q).length ∧ Rp (S1 13) 0 ((wP (wks s.1 i) b a q).map nI) ∧ Fb 35 S S1 := fun S hS => by
            obtain ⟨S1, q1, q2, q3, q4, q5, -, q6⟩ := C_find (b := 14) (goal := b) (rr := q) (by omega) hS.1 hV hi4 (a := a) (by omega) (by omega) hq
            refine ⟨S1, ?_, q2, q3, q4, q5, Fb.w q6⟩
            unfold f_X10_way
            rw [nCo, hi, nd_t, nCi hS.1 hc hc9, hx, nd_t, nCi hS.1 hc hc9, hy, nd_t, nDi, h1, nd_t, nRa, h2, nd_t, nRa, h3, nd_t, q1, gbiN]
          cases hw : wIs (wks s.1 i) b a q with
          | false =>
            rw [hw] at hcf
            refine qR (-9) hv ?_ (fun S hS => ?_)
            · first | (simp (disch := omega) [-List.getElem?_eq_getElem, -getElem?_pos, nWay, ixO, rgB, nCit, aAct, nI_c, hc, hi, hx, hy, hw, hA]; done) | (simp (disch := omega) [-List.getElem?_eq_getElem, -getElem?_pos, nWay, ixO, rgB, nCit, aAct, nI_c, hc, hi, hx, hy, hw]; done) | (simp (disch := omega) [-List.getElem?_eq_getElem, -getElem?_pos, nWay, ixO, rgB, nCit, aAct, nI_c, hc, hi, hx, hy, hw, h1, h2, h3, (show (nI 0 : Int32) = 0 from rfl), (show (nI 1 : Int32) = 1 from rfl), (show (nI 2 : Int32) = 2 from rfl), (show ¬ (nI 3 : Int32) = 0 by decide), (show ¬ (nI 3 : Int32) = 1 by decide), (show ¬ (nI 3 : Int32) = 2 by decide)]; done) | simp (disch := omega) [-List.getElem?_eq_getElem, -getElem?_pos, nWay, ixO, rgB, nCit, aAct, nI_c, hc, hi, hx, hy, hw]
            · obtain ⟨S1, q1, -, -, -, -, q6⟩ := hcf S hS
              exact ⟨S1, by rw [q1, if_pos (by decide)], q6⟩
          | true =>
            obtain ⟨t, l, hp⟩ := wP_ne hks hw
            rw [hw] at hcf
            have hu4 : u = 0 ∨ u = 1 ∨ u = 2 ∨ u = 3 := by omega
            rcases hu4 with rfl | rfl | rfl | rfl
            · refine qR (nI (wC (wks s.1 i) b a q)) hv ?_ (fun S hS => ?_)
              · first | (simp (disch := omega) [-List.getElem?_eq_getElem, -getElem?_pos, nWay, ixO, rgB, nCit, aAct, nI_c, hc, hi, hx, hy, hw, hp, hA]; done) | (simp (disch := omega) [-List.getElem?_eq_getElem, -getElem?_pos, nWay, ixO, rgB, nCit, aAct, nI_c, hc, hi, hx, hy, hw, hp]; done) | (simp (disch := omega) [-List.getElem?_eq_getElem, -getElem?_pos, nWay, ixO, rgB, nCit, aAct, nI_c, hc, hi, hx, hy, hw, hp, h1, h2, h3, (show (nI 0 : Int32) = 0 from rfl), (show (nI 1 : Int32) = 1 from rfl), (show (nI 2 : Int32) = 2 from rfl), (show ¬ (nI 3 : Int32) = 0 by decide), (show ¬ (nI 3 : Int32) = 1 by decide), (show ¬ (nI 3 : Int32) = 2 by decide)]; done) | simp (disch := omega) [-List.getElem?_eq_getElem, -getElem?_pos, nWay, ixO, rgB, nCit, aAct, nI_c, hc, hi, hx, hy, hw, hp]
              · obtain ⟨S1, q1, q2, q3, q4, q5, q6⟩ := hcf S hS
                exact ⟨S1, by rw [q1, if_neg (by decide), if_pos (by decide), q2], q6⟩
            · refine qR (nI (wL (wks s.1 i) b a q)) hv ?_ (fun S hS => ?_)
              · first | (simp (disch := omega) [-List.getElem?_eq_getElem, -getElem?_pos, nWay, ixO, rgB, nCit, aAct, nI_c, hc, hi, hx, hy, hw, hp, hA]; done) | (simp (disch := omega) [-List.getElem?_eq_getElem, -getElem?_pos, nWay, ixO, rgB, nCit, aAct, nI_c, hc, hi, hx, hy, hw, hp]; done) | (simp (disch := omega) [-List.getElem?_eq_getElem, -getElem?_pos, nWay, ixO, rgB, nCit, aAct, nI_c, hc, hi, hx, hy, hw, hp, h1, h2, h3, (show (nI 0 : Int32) = 0 from rfl), (show (nI 1 : Int32) = 1 from rfl), (show (nI 2 : Int32) = 2 from rfl), (show ¬ (nI 3 : Int32) = 0 by decide), (show ¬ (nI 3 : Int32) = 1 by decide), (show ¬ (nI 3 : Int32) = 2 by decide)]; done) | simp (disch := omega) [-List.getElem?_eq_getElem, -getElem?_pos, nWay, ixO, rgB, nCit, aAct, nI_c, hc, hi, hx, hy, hw, hp]
              · obtain ⟨S1, q1, q2, q3, q4, q5, q6⟩ := hcf S hS
                exact ⟨S1, by rw [q1, if_neg (by decide), if_neg (by decide), if_pos (by decide), q3], q6⟩
            · refine qR (nI (wP (wks s.1 i) b a q).length) hv ?_ (fun S hS => ?_)
              · first | (simp (disch := omega) [-List.getElem?_eq_getElem, -getElem?_pos, nWay, ixO, rgB, nCit, aAct, nI_c, hc, hi, hx, hy, hw, hp, hA]; done) | (simp (disch := omega) [-List.getElem?_eq_getElem, -getElem?_pos, nWay, ixO, rgB, nCit, aAct, nI_c, hc, hi, hx, hy, hw, hp]; done) | (simp (disch := omega) [-List.getElem?_eq_getElem, -getElem?_pos, nWay, ixO, rgB, nCit, aAct, nI_c, hc, hi, hx, hy, hw, hp, h1, h2, h3, (show (nI 0 : Int32) = 0 from rfl), (show (nI 1 : Int32) = 1 from rfl), (show (nI 2 : Int32) = 2 from rfl), (show ¬ (nI 3 : Int32) = 0 by decide), (show ¬ (nI 3 : Int32) = 1 by decide), (show ¬ (nI 3 : Int32) = 2 by decide)]; done) | simp (disch := omega) [-List.getElem?_eq_getElem, -getElem?_pos, nWay, ixO, rgB, nCit, aAct, nI_c, hc, hi, hx, hy, hw, hp]
              · obtain ⟨S1, q1, q2, q3, q4, q5, q6⟩ := hcf S hS
                exact ⟨S1, by rw [q1, if_neg (by decide), if_neg (by decide), if_neg (by decide), if_pos (by decide), q4], q6⟩
            · refine qR (nI t) hv ?_ (fun S hS => ?_)
              · first | (simp (disch := omega) [-List.getElem?_eq_getElem, -getElem?_pos, nWay, ixO, rgB, nCit, aAct, nI_c, hc, hi, hx, hy, hw, hp, hA]; done) | (simp (disch := omega) [-List.getElem?_eq_getElem, -getElem?_pos, nWay, ixO, rgB, nCit, aAct, nI_c, hc, hi, hx, hy, hw, hp]; done) | (simp (disch := omega) [-List.getElem?_eq_getElem, -getElem?_pos, nWay, ixO, rgB, nCit, aAct, nI_c, hc, hi, hx, hy, hw, hp, h1, h2, h3, (show (nI 0 : Int32) = 0 from rfl), (show (nI 1 : Int32) = 1 from rfl), (show (nI 2 : Int32) = 2 from rfl), (show ¬ (nI 3 : Int32) = 0 by decide), (show ¬ (nI 3 : Int32) = 1 by decide), (show ¬ (nI 3 : Int32) = 2 by decide)]; done) | simp (disch := omega) [-List.getElem?_eq_getElem, -getElem?_pos, nWay, ixO, rgB, nCit, aAct, nI_c, hc, hi, hx, hy, hw, hp]
              · obtain ⟨S1, q1, q2, q3, q4, q5, q6⟩ := hcf S hS
                rw [hp] at q5
                exact ⟨S1, by rw [q1, if_neg (by decide), if_neg (by decide), if_neg (by decide), if_neg (by decide), at_0 (by omega) (by omega), gbiN, q5.1], q6⟩
theorem rf_runScript {n : Nat} {s : St} (x : Int32) (y : Int64) (hv : IV n s) : RF (fun S => gwr 0 (-9999002) 0 (f_X10_runScript x y S)) (n, s) ((nScr s.1 x y, (n, s))) := by
  obtain ⟨c, hV⟩ := hv.1
  have hvl := V.vl hV
  cases hx : (decide ((1 : Int32) ≤ x) && decide (x ≤ (3 : Int32))) with
  | false =>
    refine tR 2 hv ?_ (fun _ => rfl) (fun S hS => ?_)
    · first | (simp (disch := omega) [-List.getElem?_eq_getElem, -getElem?_pos, nScr, ixO, rgB, nCit, aAct, nI_c, hx]; done) | (simp (disch := omega) [-List.getElem?_eq_getElem, -getElem?_pos, nScr, ixO, rgB, nCit, aAct, nI_c, hx, hneg]; done) | (simp (disch := omega) [-List.getElem?_eq_getElem, -getElem?_pos, nScr, ixO, rgB, nCit, aAct, nI_c, hx, l_c hq, Int64.not_lt.mpr n0]; done) | simp (disch := omega) [-List.getElem?_eq_getElem, -getElem?_pos, nScr, ixO, rgB, nCit, aAct, nI_c, hx]
    · unfold f_X10_runScript
      rw [nRa, hx, nd_f]
  | true =>
    obtain ⟨N, h1, h3, rfl⟩ := rg_of (a := 1) (b := 3) (by omega) (by omega) hx
    have hp := pow_lt3 h3
    rcases l_neg (x := y) with hneg | ⟨q, hq, rfl⟩
    · refine tR 2 hv ?_ (fun _ => rfl) (fun S hS => ?_)
      · first | (simp (disch := omega) [-List.getElem?_eq_getElem, -getElem?_pos, nScr, ixO, rgB, nCit, aAct, nI_c, hx, h1]; done) | (simp (disch := omega) [-List.getElem?_eq_getElem, -getElem?_pos, nScr, ixO, rgB, nCit, aAct, nI_c, hx, h1, hneg]; done) | (simp (disch := omega) [-List.getElem?_eq_getElem, -getElem?_pos, nScr, ixO, rgB, nCit, aAct, nI_c, hx, h1, l_c hq, Int64.not_lt.mpr n0]; done) | simp (disch := omega) [-List.getElem?_eq_getElem, -getElem?_pos, nScr, ixO, rgB, nCit, aAct, nI_c, hx, h1]
      · unfold f_X10_runScript
        rw [nRa, hx, nd_t, if_pos (cmp_lt.mpr hneg)]
        rfl
    · have n0 : (0 : Int64) ≤ lN q := by
        rw [show (0 : Int64) = lN 0 from rfl, l_le (by omega) hq]; omega
      have c0 : ¬ lg_cmp (lN q) 0 < 0 := by
        rw [cmp_lt]; exact Int64.not_lt.mpr n0
      have hwl := wlo_le N q
      have c1 : lg_cmp (lN (wlo q N)) 0 ≤ 0 ↔ q < 100000 ^ N := by
        rw [lg_cmp_le, show (0 : Int64) = lN 0 from rfl, l_le (by omega) (by omega), wlo_pow]
        constructor
        · intro h
          have h5 : q / 100000 ^ N = 0 := Nat.le_zero.mp h
          exact (Nat.div_eq_zero_iff_lt hp.1).mp h5
        · intro h
          rw [Nat.div_eq_of_lt h]
          exact Nat.le_refl _
      by_cases hlt : q < 100000 ^ N
      · refine qR (gScr s.1 (fun j => wlo q (N - 1 - j) % 100000) 0 N) hv ?_ (fun S hS => ?_)
        · first | (simp (disch := omega) [-List.getElem?_eq_getElem, -getElem?_pos, nScr, ixO, rgB, nCit, aAct, nI_c, hx, h1, hlt]; done) | (simp (disch := omega) [-List.getElem?_eq_getElem, -getElem?_pos, nScr, ixO, rgB, nCit, aAct, nI_c, hx, h1, hlt, hneg]; done) | (simp (disch := omega) [-List.getElem?_eq_getElem, -getElem?_pos, nScr, ixO, rgB, nCit, aAct, nI_c, hx, h1, hlt, l_c hq, Int64.not_lt.mpr n0]; done) | simp (disch := omega) [-List.getElem?_eq_getElem, -getElem?_pos, nScr, ixO, rgB, nCit, aAct, nI_c, hx, h1, hlt]
        · obtain ⟨S1, b1, d1, -, f1⟩ := C_tri hv hS
          obtain ⟨S2, b2, f2⟩ := C_scr_loop h3 hq N 0 n s.1 S1 gFu (Nat.zero_add _) (by unfold gFu; omega) d1 hV
          rw [nI_0] at b2
          refine ⟨S2, ?_, f1.tr f2⟩
          unfold f_X10_runScript
          rw [nRa, hx, nd_t, if_neg c0, C_wlo (by omega) hq]
          show (if lg_cmp (lN (wlo q N)) 0 ≤ 0 then _ else _) = _
          rw [if_pos (c1.mpr hlt), b1, gbvN, b2]
      · refine tR 2 hv ?_ (fun _ => rfl) (fun S hS => ?_)
        · first | (simp (disch := omega) [-List.getElem?_eq_getElem, -getElem?_pos, nScr, ixO, rgB, nCit, aAct, nI_c, hx, h1, hlt]; done) | (simp (disch := omega) [-List.getElem?_eq_getElem, -getElem?_pos, nScr, ixO, rgB, nCit, aAct, nI_c, hx, h1, hlt, hneg]; done) | (simp (disch := omega) [-List.getElem?_eq_getElem, -getElem?_pos, nScr, ixO, rgB, nCit, aAct, nI_c, hx, h1, hlt, l_c hq, Int64.not_lt.mpr n0]; done) | simp (disch := omega) [-List.getElem?_eq_getElem, -getElem?_pos, nScr, ixO, rgB, nCit, aAct, nI_c, hx, h1, hlt]
        · unfold f_X10_runScript
          rw [nRa, hx, nd_t, if_neg c0, C_wlo (by omega) hq]
          show (if lg_cmp (lN (wlo q N)) 0 ≤ 0 then _ else _) = _
          rw [if_neg (fun h => hlt (c1.mp h))]
          rfl

theorem rf_save {n : Nat} {s : St} (x : Int32) (hv : IV n s) : RF (fun S => gwr (-9999001) 0 0 (f_X10_save x S)) (n, s) (aSave x (n, s)) := by
  obtain ⟨c, hV⟩ := hv.1
  have hvl := V.vl hV
  cases hx : below 2 x with
  | false =>
    refine tR 1 hv ?_ (fun _ => rfl) (fun S hS => ?_)
    · simp (disch := omega) [-List.getElem?_eq_getElem, -getElem?_pos, aSave, ixO, rgB, nCit, aAct, nI_c, hx]
    · unfold f_X10_save
      rw [nSl, hx, nd_f]
  | true =>
    obtain ⟨k, hk, rfl⟩ := below_of (by omega) hx
    refine oR' (s.1.1 4) (((s.1, s.2.1, s.2.2.1, s.2.2.2.1, fun j => if j = k then some s.1 else s.2.2.2.2 j) : St)) ?_ (fun S hS => ?_) ?_
    · simp (disch := omega) [-List.getElem?_eq_getElem, -getElem?_pos, aSave, ixO, rgB, nCit, aAct, nI_c, hx]
    · obtain ⟨h1, h2, ⟨o, ho⟩, h4⟩ := hS
      obtain ⟨S1, e1, b1, b2, b3⟩ := C_keep h4 h1 hvl hk
      refine ⟨S1, ?_, ⟨b2, ⟨by rw [b3 1 (by omega) (by omega)]; exact h2.1, fun x hx => by rw [b3 2 (by omega) (by omega)]; exact h2.2 x hx⟩, ⟨o, ?_⟩, b1⟩, fun k hk => b3 k (by omega) (by omega)⟩
      · unfold f_X10_save
        rw [nSl, hx, nd_t, e1, gbvN, b2.1.2.2.1]
      · obtain ⟨a1, a2, a3, a4, a5⟩ := ho
        exact ⟨a1, a2, by rw [b3 3 (by omega) (by omega)]; exact a3, by rw [b3 3 (by omega) (by omega)]; exact a4, fun k g hg => CP_o (a5 k g hg) (fun j p1 p2 => b3 j (by omega) (by omega))⟩
    · obtain ⟨v1, v2, v3, v4⟩ := IV_mono hv (Nat.le_succ n)
      refine ⟨v1, v2, v3, fun j x hj => ?_⟩
      have hj2 : (if j = k then some s.1 else s.2.2.2.2 j) = some x := hj
      by_cases e : j = k
      · rw [if_pos e] at hj2
        rw [← Option.some.inj hj2]
        exact v1
      · rw [if_neg e] at hj2
        exact v4 j x hj2
theorem rf_restore {n : Nat} {s : St} (x : Int32) (hv : IV n s) : RF (fun S => gwr (-9999001) 0 (-9999003) (f_X10_restore x S)) (n, s) (aRestore x (n, s)) := by
  cases hx : below 2 x with
  | false =>
    refine tR 1 hv ?_ (fun _ => rfl) (fun S hS => ?_)
    · simp (disch := omega) [-List.getElem?_eq_getElem, -getElem?_pos, aRestore, ixO, rgB, nCit, aAct, nI_c, hx]
    · unfold f_X10_restore
      rw [nSl, hx, nd_f]
  | true =>
    obtain ⟨k, hk, rfl⟩ := below_of (by omega) hx
    have hfil : ∀ S, IC s S → f_X6_isFilled (nI k) S = some (bI (s.2.2.2.2 k).isSome, S) := fun S hS => by
      unfold f_X6_isFilled
      rw [at_ok hk (by omega), gbiN, (hS.2.2.2 k hk).1]
      cases (s.2.2.2.2 k).isSome <;> rfl
    cases hs : s.2.2.2.2 k with
    | none =>
      refine tR 3 hv ?_ (fun _ => rfl) (fun S hS => ?_)
      · simp (disch := omega) [-List.getElem?_eq_getElem, -getElem?_pos, aRestore, ixO, rgB, nCit, aAct, nI_c, hx, hs]
      · unfold f_X10_restore
        rw [nSl, hx, nd_t, hfil S hS, gbiN, hs, nAl]
        rfl
    | some g =>
      obtain ⟨c, hVg⟩ := hv.2.2.2 k g hs
      have hvl := V.vl hVg
      refine oR' (g.1 4) (((g, s.2.1, s.2.2.1, [], s.2.2.2.2) : St)) ?_ (fun S hS => ?_) ?_
      · simp (disch := omega) [-List.getElem?_eq_getElem, -getElem?_pos, aRestore, ixO, rgB, nCit, aAct, nI_c, hx, hs]
      · have hf := hfil S hS
        obtain ⟨h1, h2, ⟨o, ho⟩, h4⟩ := hS
        obtain ⟨S1, e1, b1, b3⟩ := C_fetch h4 hs hvl hk
        have hb : ∀ c, c ≠ 3 → (c < 14 ∨ 35 ≤ c) → u2 S1 3 2 0 c = S c := fun c y z => by rw [u2_n y, b3 c z]
        refine ⟨u2 S1 3 2 0, ?_, ⟨CP_o b1 (fun k p1 p2 => by rw [u2_n (by omega)]), ⟨by rw [hb 1 (by omega) (by omega)]; exact h2.1, fun x hx => by rw [hb 2 (by omega) (by omega)]; exact h2.2 x hx⟩, ⟨o, Nat.zero_le _, ho.2.1, by rw [u2_eq]; rfl, by rw [u2_ni (by omega), b3 3 (by omega)]; exact ho.2.2.2.1, fun k g hg => by simp at hg⟩, fun j hj => ⟨by rw [hb 7 (by omega) (by omega)]; exact (h4 j hj).1, fun g hg => CP_o ((h4 j hj).2 g hg) (fun j p1 p2 => hb j (by omega) (by omega))⟩⟩, fun k hk => hb k (by omega) (by omega)⟩
        unfold f_X10_restore f_X3_forget
        rw [nSl, hx, nd_t, hf, gbiN, hs, nAl, show (some g).isSome = true from rfl, nd_t, e1, gbvN, gstN, gbvN, u2_n (by omega), b1.1.2.2.1]
      · obtain ⟨v1, v2, v3, v4⟩ := IV_mono hv (Nat.le_succ n)
        exact ⟨v4 k g hs, v2, ⟨Nat.zero_le _, fun x hx => by simp at hx⟩, v4⟩
theorem rf_append {n : Nat} {s : St} (x : Int32) (hv : IV n s) : RF (fun S => gwr 0 (-9999002) (-9999003) (f_X10_append x S)) (n, s) (aAppend x (n, s)) := by
  have h100 := hv.2.1.1
  cases hx : (decide ((0 : Int32) ≤ x) && decide (x ≤ (255 : Int32))) with
  | false =>
    refine tR 2 hv ?_ (fun _ => rfl) (fun S hS => ?_)
    · simp (disch := omega) [-List.getElem?_eq_getElem, -getElem?_pos, aAppend, ixO, rgB, nCit, aAct, nI_c, hx]
    · unfold f_X10_append
      rw [nRa, hx, nd_f]
  | true =>
    obtain ⟨q, -, hq, rfl⟩ := rg_of (a := 0) (b := 255) (by omega) (by omega) hx
    have hfull : ∀ S, TXs s.2.1 s.2.2.1 S → f_X2_isFull S = some (bI (decide (s.2.2.1 = 100)), S) := fun S hS => by
      unfold f_X2_isFull
      rw [hS.1, show (100 : Int32) = nI 100 from rfl]
      by_cases h8 : s.2.2.1 = 100
      · rw [decide_eq_true h8, if_neg (by rw [nIlt (by omega) (by omega)]; omega)]; rfl
      · rw [decide_eq_false h8, if_pos (by rw [nIlt (by omega) (by omega)]; omega)]; rfl
    by_cases h8 : s.2.2.1 = 100
    · refine tR 3 hv ?_ (fun _ => rfl) (fun S hS => ?_)
      · simp (disch := omega) [-List.getElem?_eq_getElem, -getElem?_pos, aAppend, ixO, rgB, nCit, aAct, nI_c, hx, h8]
      · unfold f_X10_append
        rw [nRa, hx, nd_t, hfull S hS.2.1, gbiN, decide_eq_true h8, if_neg (by decide)]
    · refine oR' (nI (s.2.2.1 + 1)) (((s.1, fun j => if j = s.2.2.1 then q else s.2.1 j, s.2.2.1 + 1, s.2.2.2) : St)) ?_ (fun S hS => ?_) ?_
      · simp (disch := omega) [-List.getElem?_eq_getElem, -getElem?_pos, aAppend, ixO, rgB, nCit, aAct, nI_c, hx, h8]
      · have hf := hfull S hS.2.1
        obtain ⟨h1, h2, ⟨o, ho⟩, h4⟩ := hS
        have hb : ∀ a, a ≠ 1 → a ≠ 2 → u2 (u2 S 2 s.2.2.1 (nI q)) 1 1 (nI (s.2.2.1 + 1)) a = S a := fun a x y => by rw [u2_n x, u2_n y]
        refine ⟨u2 (u2 S 2 s.2.2.1 (nI q)) 1 1 (nI (s.2.2.1 + 1)), ?_, ⟨CP_o h1 (fun k p1 p2 => hb k (by omega) (by omega)), ⟨u2_eq, fun x hx => ?_⟩, ⟨o, ?_⟩, fun j hj => ⟨by rw [hb 7 (by omega) (by omega)]; exact (h4 j hj).1, fun g hg => CP_o ((h4 j hj).2 g hg) (fun j p1 p2 => hb j (by omega) (by omega))⟩⟩, fun k hk => hb k (by omega) (by omega)⟩
        · unfold f_X10_append f_X2_add
          rw [nRa, hx, nd_t, hf, gbiN, decide_eq_false h8, if_pos (by decide), hf, gbiN, decide_eq_false h8, if_pos (by decide), h2.1, put_ok (by omega) (by omega), gbvN, u2_nr (by omega), h2.1, nI_s, gstN, u2_eq, gbiN]
        · show u2 (u2 S 2 s.2.2.1 (nI q)) 1 1 (nI (s.2.2.1 + 1)) 2 x = nI (if x = s.2.2.1 then q else s.2.1 x)
          rw [u2_n (by omega)]
          by_cases e : x = s.2.2.1
          · rw [if_pos e, e, u2_eq]
          · rw [if_neg e, u2_ni e, h2.2 x (by have : x < s.2.2.1 + 1 := hx; omega)]
        · obtain ⟨a1, a2, a3, a4, a5⟩ := ho
          exact ⟨a1, a2, by rw [hb 3 (by omega) (by omega)]; exact a3, by rw [hb 3 (by omega) (by omega)]; exact a4, fun k g hg => CP_o (a5 k g hg) (fun j p1 p2 => hb j (by omega) (by omega))⟩
      · obtain ⟨v1, v2, v3, v4⟩ := IV_mono hv (Nat.le_succ n)
        refine ⟨v1, ⟨by show s.2.2.1 + 1 ≤ 100; omega, fun x hx => ?_⟩, v3, v4⟩
        show (if x = s.2.2.1 then q else s.2.1 x) ≤ 255
        by_cases e : x = s.2.2.1
        · rw [if_pos e]; exact hq
        · rw [if_neg e]; exact v2.2 x (by have : x < s.2.2.1 + 1 := hx; omega)

theorem rf_load {n : Nat} {s : St} (hv : IV n s) : RF (fun S => gwr 0 0 (-9999003) (f_X10_load S)) (n, s) (aLoad (n, s)) := by
  cases hp : pAll s.2.1 s.2.2.1 with
  | error e =>
    have hne : ¬ nI e = -9 := by
      have hb : e ≤ 205 := by
        have h100 := hv.2.1.1
        unfold pAll at hp
        split at hp
        · cases h1 : pD s.2.1 s.2.2.1 2 9 10 1 with
          | error e' =>
            rw [h1, eBd_e] at hp
            have := (pD_no h1).1
            have := Except.error.inj hp
            omega
          | ok c =>
            rw [h1, eBd_o] at hp
            have key : ∀ (m i : Nat) (g : Game), i ≤ 200 → pGo s.2.1 s.2.2.1 c m g i = .error e → e ≤ 205 := by
              intro m
              induction m with
              | zero => intro i g hi hx; cases hx
              | succ m ih =>
                intro i g hi hx
                unfold pGo at hx
                split at hx
                · cases hx
                · rename_i hlt
                  cases h2 : pPart s.2.1 s.2.2.1 c g i with
                  | error e' =>
                    rw [h2, eBd_e] at hx
                    have := pPart_e h2
                    have := Except.error.inj hx
                    omega
                  | ok y =>
                    rw [h2, eBd_o] at hx
                    refine ih y.2 y.1 ?_ hx
                    unfold pPart at h2
                    split at h2
                    · cases h3 : pTr s.2.1 s.2.2.1 c i with
                      | error e' => rw [h3, eBd_e] at h2; cases h2
                      | ok x => rw [h3, eBd_o] at h2; rw [← Except.ok.inj h2]; show i + 4 ≤ 200; omega
                    · split at h2
                      · cases h3 : pCt s.2.1 s.2.2.1 c i with
                        | error e' => rw [h3, eBd_e] at h2; cases h2
                        | ok x => rw [h3, eBd_o] at h2; rw [← Except.ok.inj h2]; show i + 6 ≤ 200; omega
                      · cases h2
            exact key 100 2 _ (by omega) hp
        · have := Except.error.inj hp
          omega
      exact nI_m9 (by omega)
    refine tQ (k := 3) hv ?_ (fun _ => rfl) (fun S hS => ?_)
    · simp (disch := omega) [-List.getElem?_eq_getElem, -getElem?_pos, aLoad, ixO, rgB, nCit, aAct, nI_c, hp]
    · obtain ⟨S1, e1, -, f1⟩ := C_read hS.2.1 hv.2.1.1 hv.2.1.2
      refine ⟨S1, ?_, Fb.f f1⟩
      unfold f_X10_load
      rw [e1, gbiN, hp, eI_e, if_neg hne]
  | ok g =>
    obtain ⟨c, hVg⟩ := V_all hp
    have hvl := V.vl hVg
    refine oR' (nI g.2.1.length) (((g, s.2.1, s.2.2.1, [], fun _ => none) : St)) ?_ (fun S hS => ?_) ?_
    · simp (disch := omega) [-List.getElem?_eq_getElem, -getElem?_pos, aLoad, ixO, rgB, nCit, aAct, nI_c, hp]
    · obtain ⟨S1, e1, c1, f1⟩ := C_read hS.2.1 hv.2.1.1 hv.2.1.2
      obtain ⟨h1, h2, ⟨o, ho⟩, h4⟩ := hS
      obtain ⟨S2, e2, c2, f2⟩ := C_copy (b := 14) (b1 := 35) (c1 g hp) hvl (Or.inl (by omega))
      obtain ⟨S3, e3, f3, z3⟩ := empty_ok (S := u2 S2 3 2 0)
      have hb : ∀ a, a ≠ 3 → a ≠ 7 → (a < 14 ∨ 56 ≤ a) → S3 a = S a := fun a x y z => by rw [f3 a y, u2_n x, f2 a (by omega), f1 a (by omega)]
      have h33 : S3 3 = u2 S2 3 2 0 3 := f3 3 (by omega)
      refine ⟨S3, ?_, ⟨CP_o c2 (fun k p1 p2 => by rw [f3 k (by omega), u2_n (by omega)]), ⟨by rw [hb 1 (by omega) (by omega) (by omega)]; exact h2.1, fun x hx => by rw [hb 2 (by omega) (by omega) (by omega)]; exact h2.2 x hx⟩, ⟨o, Nat.zero_le _, ho.2.1, by rw [h33, u2_eq]; rfl, by rw [h33, u2_ni (by omega), f2 3 (by omega), f1 3 (by omega)]; exact ho.2.2.2.1, fun k g hg => by simp at hg⟩, fun j hj => ⟨by rw [z3 j hj]; rfl, fun g hg => (by cases hg)⟩⟩, fun k hk => hb k (by omega) (by omega) (by omega)⟩
      unfold f_X10_load f_X3_forget
      rw [e1, gbiN, hp, eI_o, if_pos rfl, e2, gbvN, gstN, gbvN, e3, gbvN, f3 _ (by omega), u2_n (by omega), c2.2.1.1]
    · obtain ⟨-, v2, -, -⟩ := IV_mono hv (Nat.le_succ n)
      exact ⟨⟨c, V_mono hVg (Nat.zero_le _)⟩, v2, ⟨Nat.zero_le _, fun x hx => by simp at hx⟩, fun k x hx => (by cases hx)⟩
