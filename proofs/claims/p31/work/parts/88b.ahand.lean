/-! ===== the rest of the calls ===== -/
theorem rf_about {n : Nat} {s : St} (x : Int32) (hv : IV n s) : RF (fun S => gwr 0 (-9999002) 0 (f_X10_about x S)) (n, s) (nAbout s.1 x, (n, s)) := by
  cases hx : below 11 x with
  | false =>
    refine tR 2 hv ?_ (fun _ => rfl) (fun S hS => ?_)
    · unfold nAbout
      rw [if_neg (ne_of_below hx 0 (by decide)), if_neg (ne_of_below hx 1 (by decide)), if_neg (ne_of_below hx 2 (by decide)), if_neg (ne_of_below hx 3 (by decide)), if_neg (ne_of_below hx 4 (by decide)), if_neg (ne_of_below hx 5 (by decide)), if_neg (ne_of_below hx 6 (by decide)), if_neg (ne_of_below hx 7 (by decide)), if_neg (ne_of_below hx 8 (by decide)), if_neg (ne_of_below hx 9 (by decide)), if_neg (ne_of_below hx 10 (by decide))]
    · unfold f_X10_about
      rw [if_neg (ne_of_below hx 0 (by decide)), if_neg (ne_of_below hx 1 (by decide)), if_neg (ne_of_below hx 2 (by decide)), if_neg (ne_of_below hx 3 (by decide)), if_neg (ne_of_below hx 4 (by decide)), if_neg (ne_of_below hx 5 (by decide)), if_neg (ne_of_below hx 6 (by decide)), if_neg (ne_of_below hx 7 (by decide)), if_neg (ne_of_below hx 8 (by decide)), if_neg (ne_of_below hx 9 (by decide)), if_neg (ne_of_below hx 10 (by decide))]
  | true =>
    obtain ⟨j, hj, rfl⟩ := below_of (by omega) hx
    have hc : j = 0 ∨ j = 1 ∨ j = 2 ∨ j = 3 ∨ j = 4 ∨ j = 5 ∨ j = 6 ∨ j = 7 ∨ j = 8 ∨ j = 9 ∨ j = 10 := by omega
    rcases hc with rfl | rfl | rfl | rfl | rfl | rfl | rfl | rfl | rfl | rfl | rfl
    · refine q0R (s.1.1 0) hv ?_ (fun S hS => ?_)
      · unfold nAbout
        rw [if_pos (by decide)]
      · unfold f_X10_about
        rw [if_pos (by decide), hS.1.1.1]
    · refine q0R (nI s.1.2.1.length) hv ?_ (fun S hS => ?_)
      · unfold nAbout
        rw [if_neg (by decide), if_pos (by decide)]
      · unfold f_X10_about
        rw [if_neg (by decide), if_pos (by decide), hS.1.2.1.1]
    · refine q0R (nI s.1.2.2.2.2.length) hv ?_ (fun S hS => ?_)
      · unfold nAbout
        rw [if_neg (by decide), if_neg (by decide), if_pos (by decide)]
      · unfold f_X10_about
        rw [if_neg (by decide), if_neg (by decide), if_pos (by decide), hS.1.2.2.2.2.1]
    · refine q0R (s.1.1 3) hv ?_ (fun S hS => ?_)
      · unfold nAbout
        rw [if_neg (by decide), if_neg (by decide), if_neg (by decide), if_pos (by decide)]
      · unfold f_X10_about
        rw [if_neg (by decide), if_neg (by decide), if_neg (by decide), if_pos (by decide), hS.1.1.2.1]
    · refine q0R (s.1.1 4) hv ?_ (fun S hS => ?_)
      · unfold nAbout
        rw [if_neg (by decide), if_neg (by decide), if_neg (by decide), if_neg (by decide), if_pos (by decide)]
      · unfold f_X10_about
        rw [if_neg (by decide), if_neg (by decide), if_neg (by decide), if_neg (by decide), if_pos (by decide), hS.1.1.2.2.1]
    · refine q0R (s.1.1 5) hv ?_ (fun S hS => ?_)
      · unfold nAbout
        rw [if_neg (by decide), if_neg (by decide), if_neg (by decide), if_neg (by decide), if_neg (by decide), if_pos (by decide)]
      · unfold f_X10_about
        rw [if_neg (by decide), if_neg (by decide), if_neg (by decide), if_neg (by decide), if_neg (by decide), if_pos (by decide), at_4 (by omega) (by omega), gbiN, hS.1.1.2.2.2.1]
    · refine q0R (s.1.1 6) hv ?_ (fun S hS => ?_)
      · unfold nAbout
        rw [if_neg (by decide), if_neg (by decide), if_neg (by decide), if_neg (by decide), if_neg (by decide), if_neg (by decide), if_pos (by decide)]
      · unfold f_X10_about
        rw [if_neg (by decide), if_neg (by decide), if_neg (by decide), if_neg (by decide), if_neg (by decide), if_neg (by decide), if_pos (by decide), sum_5, gbiN, hS.1.1.2.2.2.2.1]
    · refine q0R (s.1.1 7) hv ?_ (fun S hS => ?_)
      · unfold nAbout
        rw [if_neg (by decide), if_neg (by decide), if_neg (by decide), if_neg (by decide), if_neg (by decide), if_neg (by decide), if_neg (by decide), if_pos (by decide)]
      · unfold f_X10_about
        rw [if_neg (by decide), if_neg (by decide), if_neg (by decide), if_neg (by decide), if_neg (by decide), if_neg (by decide), if_neg (by decide), if_pos (by decide), hS.1.1.2.2.2.2.2.1]
    · refine q0R (s.1.1 8) hv ?_ (fun S hS => ?_)
      · unfold nAbout
        rw [if_neg (by decide), if_neg (by decide), if_neg (by decide), if_neg (by decide), if_neg (by decide), if_neg (by decide), if_neg (by decide), if_neg (by decide), if_pos (by decide)]
      · unfold f_X10_about
        rw [if_neg (by decide), if_neg (by decide), if_neg (by decide), if_neg (by decide), if_neg (by decide), if_neg (by decide), if_neg (by decide), if_neg (by decide), if_pos (by decide), hS.1.1.2.2.2.2.2.2.1]
    · refine q0R (s.1.1 9) hv ?_ (fun S hS => ?_)
      · unfold nAbout
        rw [if_neg (by decide), if_neg (by decide), if_neg (by decide), if_neg (by decide), if_neg (by decide), if_neg (by decide), if_neg (by decide), if_neg (by decide), if_neg (by decide), if_pos (by decide)]
      · unfold f_X10_about
        rw [if_neg (by decide), if_neg (by decide), if_neg (by decide), if_neg (by decide), if_neg (by decide), if_neg (by decide), if_neg (by decide), if_neg (by decide), if_neg (by decide), if_pos (by decide), sum_4, gbiN, hS.1.1.2.2.2.2.2.2.2.1]
    · refine q0R (s.1.1 10) hv ?_ (fun S hS => ?_)
      · unfold nAbout
        rw [if_neg (by decide), if_neg (by decide), if_neg (by decide), if_neg (by decide), if_neg (by decide), if_neg (by decide), if_neg (by decide), if_neg (by decide), if_neg (by decide), if_neg (by decide), if_pos (by decide)]
      · unfold f_X10_about
        rw [if_neg (by decide), if_neg (by decide), if_neg (by decide), if_neg (by decide), if_neg (by decide), if_neg (by decide), if_neg (by decide), if_neg (by decide), if_neg (by decide), if_neg (by decide), if_pos (by decide), hS.1.1.2.2.2.2.2.2.2.2.1]
theorem rf_track {n : Nat} {s : St} (t x : Int32) (hv : IV n s) : RF (fun S => gwr (-9999001) (-9999002) 0 (f_X10_track t x S)) (n, s) (nTrack s.1 t x, (n, s)) := by
  obtain ⟨c, hV⟩ := hv.1
  have hvl := V.vl hV
  have hl := hvl.1
  cases ht : below s.1.2.1.length t with
  | false =>
    refine tR 1 hv ?_ (fun _ => rfl) (fun S hS => ?_)
    · simp [nTrack, ixO, ht]
    · unfold f_X10_track
      rw [nTr hS.1 hvl, ht, nd_f]
  | true =>
    obtain ⟨j, hj, rfl⟩ := below_of (by omega) ht
    obtain ⟨a, ha⟩ := some_of_lt hj
    cases hx : below 4 x with
    | false =>
      refine tR 2 hv ?_ (fun _ => rfl) (fun S hS => ?_)
      · have e0 := ne_of_below hx 0 (by decide)
        have e1 := ne_of_below hx 1 (by decide)
        have e2 := ne_of_below hx 2 (by decide)
        have e3 := ne_of_below hx 3 (by decide)
        simp (disch := omega) [nTrack, ixO, ht, ha, nI_c, e0, e1, e2, e3]
      · unfold f_X10_track
        rw [nTr hS.1 hvl, ht, nd_t, if_neg (ne_of_below hx 0 (by decide)), if_neg (ne_of_below hx 1 (by decide)), if_neg (ne_of_below hx 2 (by decide)), if_neg (ne_of_below hx 3 (by decide))]
    | true =>
      obtain ⟨w, hw, rfl⟩ := below_of (by omega) hx
      have hc : w = 0 ∨ w = 1 ∨ w = 2 ∨ w = 3 := by omega
      rcases hc with rfl | rfl | rfl | rfl
      · refine q0R (a.1) hv ?_ (fun S hS => ?_)
        · unfold nTrack
          rw [ixO_t hj (by omega)]
          show ((match s.1.2.1[j]? with | none => _ | some a => _), _) = _
          rw [ha]
          rfl
        · unfold f_X10_track
          rw [nTr hS.1 hvl, ht, nd_t, if_pos (by decide), at_ok (by omega) (by omega), gbiN, (hS.1.tr ha).1]
      · refine q0R (a.2.1) hv ?_ (fun S hS => ?_)
        · unfold nTrack
          rw [ixO_t hj (by omega)]
          show ((match s.1.2.1[j]? with | none => _ | some a => _), _) = _
          rw [ha]
          rfl
        · unfold f_X10_track
          rw [nTr hS.1 hvl, ht, nd_t, if_neg (by decide), if_pos (by decide), at_ok (by omega) (by omega), gbiN, (hS.1.tr ha).2.1]
      · refine q0R (a.2.2.1) hv ?_ (fun S hS => ?_)
        · unfold nTrack
          rw [ixO_t hj (by omega)]
          show ((match s.1.2.1[j]? with | none => _ | some a => _), _) = _
          rw [ha]
          rfl
        · unfold f_X10_track
          rw [nTr hS.1 hvl, ht, nd_t, if_neg (by decide), if_neg (by decide), if_pos (by decide), at_ok (by omega) (by omega), gbiN, (hS.1.tr ha).2.2.1]
      · refine q0R (a.2.2.2) hv ?_ (fun S hS => ?_)
        · unfold nTrack
          rw [ixO_t hj (by omega)]
          show ((match s.1.2.1[j]? with | none => _ | some a => _), _) = _
          rw [ha]
          rfl
        · unfold f_X10_track
          rw [nTr hS.1 hvl, ht, nd_t, if_neg (by decide), if_neg (by decide), if_neg (by decide), if_pos (by decide), C_bank hS.1 hvl ha, gbiN]
          by_cases e : a.2.2.2 = -9
          · rw [if_pos e, if_neg (by decide), e]
          · rw [if_neg e, if_pos rfl, at_ok (by omega) (by omega), gbiN, (hS.1.tr ha).2.2.2]
            simp only [eo, if_neg e]
theorem rf_contract {n : Nat} {s : St} (t x : Int32) (hv : IV n s) : RF (fun S => gwr (-9999001) (-9999002) 0 (f_X10_contract t x S)) (n, s) (nContract s.1 t x, (n, s)) := by
  obtain ⟨c, hV⟩ := hv.1
  have hvl := V.vl hV
  have hl := hvl.2.2.1
  cases ht : below s.1.2.2.2.2.length t with
  | false =>
    refine tR 1 hv ?_ (fun _ => rfl) (fun S hS => ?_)
    · simp [nContract, ixO, ht]
    · unfold f_X10_contract
      rw [nCt hS.1 hvl, ht, nd_f]
  | true =>
    obtain ⟨j, hj, rfl⟩ := below_of (by omega) ht
    obtain ⟨a, ha⟩ := some_of_lt hj
    cases hx : below 6 x with
    | false =>
      refine tR 2 hv ?_ (fun _ => rfl) (fun S hS => ?_)
      · have e0 := ne_of_below hx 0 (by decide)
        have e1 := ne_of_below hx 1 (by decide)
        have e2 := ne_of_below hx 2 (by decide)
        have e3 := ne_of_below hx 3 (by decide)
        have e4 := ne_of_below hx 4 (by decide)
        have e5 := ne_of_below hx 5 (by decide)
        simp (disch := omega) [nContract, ixO, ht, ha, nI_c, e0, e1, e2, e3, e4, e5]
      · unfold f_X10_contract
        rw [nCt hS.1 hvl, ht, nd_t, if_neg (ne_of_below hx 0 (by decide)), if_neg (ne_of_below hx 1 (by decide)), if_neg (ne_of_below hx 2 (by decide)), if_neg (ne_of_below hx 3 (by decide)), if_neg (ne_of_below hx 4 (by decide)), if_neg (ne_of_below hx 5 (by decide))]
    | true =>
      obtain ⟨w, hw, rfl⟩ := below_of (by omega) hx
      have hc : w = 0 ∨ w = 1 ∨ w = 2 ∨ w = 3 ∨ w = 4 ∨ w = 5 := by omega
      rcases hc with rfl | rfl | rfl | rfl | rfl | rfl
      · refine q0R (a.1) hv ?_ (fun S hS => ?_)
        · unfold nContract
          rw [ixO_t hj (by omega)]
          show ((match s.1.2.2.2.2[j]? with | none => _ | some a => _), _) = _
          rw [ha]
          rfl
        · unfold f_X10_contract
          rw [nCt hS.1 hvl, ht, nd_t, if_pos (by decide), at_ok (by omega) (by omega), gbiN, (hS.1.ct ha).1]
      · refine q0R (a.2.1) hv ?_ (fun S hS => ?_)
        · unfold nContract
          rw [ixO_t hj (by omega)]
          show ((match s.1.2.2.2.2[j]? with | none => _ | some a => _), _) = _
          rw [ha]
          rfl
        · unfold f_X10_contract
          rw [nCt hS.1 hvl, ht, nd_t, if_neg (by decide), if_pos (by decide), at_ok (by omega) (by omega), gbiN, (hS.1.ct ha).2.1]
      · refine q0R (a.2.2.1) hv ?_ (fun S hS => ?_)
        · unfold nContract
          rw [ixO_t hj (by omega)]
          show ((match s.1.2.2.2.2[j]? with | none => _ | some a => _), _) = _
          rw [ha]
          rfl
        · unfold f_X10_contract
          rw [nCt hS.1 hvl, ht, nd_t, if_neg (by decide), if_neg (by decide), if_pos (by decide), at_ok (by omega) (by omega), gbiN, (hS.1.ct ha).2.2.1]
      · refine q0R (a.2.2.2.1) hv ?_ (fun S hS => ?_)
        · unfold nContract
          rw [ixO_t hj (by omega)]
          show ((match s.1.2.2.2.2[j]? with | none => _ | some a => _), _) = _
          rw [ha]
          rfl
        · unfold f_X10_contract
          rw [nCt hS.1 hvl, ht, nd_t, if_neg (by decide), if_neg (by decide), if_neg (by decide), if_pos (by decide), at_ok (by omega) (by omega), gbiN, (hS.1.ct ha).2.2.2.1]
      · refine q0R (a.2.2.2.2.1) hv ?_ (fun S hS => ?_)
        · unfold nContract
          rw [ixO_t hj (by omega)]
          show ((match s.1.2.2.2.2[j]? with | none => _ | some a => _), _) = _
          rw [ha]
          rfl
        · unfold f_X10_contract
          rw [nCt hS.1 hvl, ht, nd_t, if_neg (by decide), if_neg (by decide), if_neg (by decide), if_neg (by decide), if_pos (by decide), at_ok (by omega) (by omega), gbiN, (hS.1.ct ha).2.2.2.2.1]
      · refine q0R (a.2.2.2.2.2) hv ?_ (fun S hS => ?_)
        · unfold nContract
          rw [ixO_t hj (by omega)]
          show ((match s.1.2.2.2.2[j]? with | none => _ | some a => _), _) = _
          rw [ha]
          rfl
        · unfold f_X10_contract
          rw [nCt hS.1 hvl, ht, nd_t, if_neg (by decide), if_neg (by decide), if_neg (by decide), if_neg (by decide), if_neg (by decide), if_pos (by decide), at_ok (by omega) (by omega), gbiN, (hS.1.ct ha).2.2.2.2.2]
theorem rf_train {n : Nat} {s : St} (i y x : Int32) (hv : IV n s) : RF (fun S => gwr (-9999001) (-9999002) 0 (f_X10_train i y x S)) (n, s) (nTrain s.1 i y x, (n, s)) := by
  obtain ⟨c, hV⟩ := hv.1
  have hvl := V.vl hV
  cases hi : below 4 i with
  | false =>
    refine tR 1 hv ?_ (fun _ => rfl) (fun S hS => ?_)
    · simp [nTrain, ixO, hi]
    · unfold f_X10_train
      rw [nCo, hi, nd_f]
  | true =>
    obtain ⟨i, hi4, rfl⟩ := below_of (by omega) hi
    have hl := hvl.2.1 i hi4
    cases ht : below (s.1.2.2.2.1 i).length y with
    | false =>
      refine tR 1 hv ?_ (fun _ => rfl) (fun S hS => ?_)
      · unfold nTrain
        rw [ixO_t hi4 (by omega)]
        show ((match ixO (s.1.2.2.2.1 i).length y with | none => _ | some j => _), _) = _
        rw [ixO_f ht]
      · unfold f_X10_train
        rw [nCo, hi, nd_t, nTn hS.1 hvl hi4, ht, nd_f]
    | true =>
      obtain ⟨j, hj, rfl⟩ := below_of (by omega) ht
      obtain ⟨a, ha⟩ := some_of_lt hj
      have e9 : nTrain s.1 (nI i) (nI j) x = if x = 0 then a.1 else if x = 1 then a.2 else -9999002 := by
        unfold nTrain
        rw [ixO_t hi4 (by omega)]
        show (match ixO (s.1.2.2.2.1 i).length (nI j) with | none => _ | some j => _) = _
        rw [ixO_t hj (by omega)]
        show (match (s.1.2.2.2.1 i)[j]? with | none => _ | some a => _) = _
        rw [ha]
      cases hx : below 2 x with
      | false =>
        refine tR 2 hv ?_ (fun _ => rfl) (fun S hS => ?_)
        · rw [e9, if_neg (ne_of_below hx 0 (by decide)), if_neg (ne_of_below hx 1 (by decide))]
        · unfold f_X10_train
          rw [nCo, hi, nd_t, nTn hS.1 hvl hi4, ht, nd_t, if_neg (ne_of_below hx 0 (by decide)), if_neg (ne_of_below hx 1 (by decide))]
      | true =>
        obtain ⟨w, hw, rfl⟩ := below_of (by omega) hx
        have hc : w = 0 ∨ w = 1 := by omega
        rcases hc with rfl | rfl
        · refine q0R a.1 hv ?_ (fun S hS => ?_)
          · rw [e9]; rfl
          · unfold f_X10_train
            rw [nCo, hi, nd_t, nTn hS.1 hvl hi4, ht, nd_t, if_pos (by decide), C_levelOf hS.1 hvl hi4 ha, gbiN]
        · refine q0R a.2 hv ?_ (fun S hS => ?_)
          · rw [e9]; rfl
          · unfold f_X10_train
            rw [nCo, hi, nd_t, nTn hS.1 hvl hi4, ht, nd_t, if_neg (by decide), if_pos (by decide), C_hasRun hS.1 hvl hi4 ha, gbiN]
            obtain ⟨q, -, q1, q2⟩ := ((hV.2.2.2.2.1 i hi4).2 a (mem_get ha)).2
            rw [q2]
            have hq : q = 0 ∨ q = 1 := by omega
            rcases hq with rfl | rfl <;> rfl
theorem rf_company {n : Nat} {s : St} (i x : Int32) (hv : IV n s) : RF (fun S => gwr (-9999001) (-9999002) 0 (f_X10_company i x S)) (n, s) (nCompany s.1 i x, (n, s)) := by
  obtain ⟨c, hV⟩ := hv.1
  have hvl := V.vl hV
  cases hi : below 4 i with
  | false =>
    refine tR 1 hv ?_ (fun _ => rfl) (fun S hS => ?_)
    · simp [nCompany, ixO, hi]
    · unfold f_X10_company
      rw [nCo, hi, nd_f]
  | true =>
    obtain ⟨i, hi4, rfl⟩ := below_of (by omega) hi
    have e9 : nCompany s.1 (nI i) x = if x = 0 then s.1.2.2.1 i 0 else if x = 1 then s.1.2.2.1 i 1 else if x = 2 then nI (s.1.2.2.2.1 i).length else if x = 3 then cntT s.1 i else if x = 4 then cntC s.1 i else if x = 5 then s.1.2.2.1 i 3 else if x = 6 then s.1.2.2.1 i 4 else -9999002 := by
      unfold nCompany
      rw [ixO_t hi4 (by omega)]
    cases hx : below 7 x with
    | false =>
      refine tR 2 hv ?_ (fun _ => rfl) (fun S hS => ?_)
      · rw [e9, if_neg (ne_of_below hx 0 (by decide)), if_neg (ne_of_below hx 1 (by decide)), if_neg (ne_of_below hx 2 (by decide)), if_neg (ne_of_below hx 3 (by decide)), if_neg (ne_of_below hx 4 (by decide)), if_neg (ne_of_below hx 5 (by decide)), if_neg (ne_of_below hx 6 (by decide))]
      · unfold f_X10_company
        rw [nCo, hi, nd_t, if_neg (ne_of_below hx 0 (by decide)), if_neg (ne_of_below hx 1 (by decide)), if_neg (ne_of_below hx 2 (by decide)), if_neg (ne_of_below hx 3 (by decide)), if_neg (ne_of_below hx 4 (by decide)), if_neg (ne_of_below hx 5 (by decide)), if_neg (ne_of_below hx 6 (by decide))]
    | true =>
      obtain ⟨w, hw, rfl⟩ := below_of (by omega) hx
      have hc : w = 0 ∨ w = 1 ∨ w = 2 ∨ w = 3 ∨ w = 4 ∨ w = 5 ∨ w = 6 := by omega
      rcases hc with rfl | rfl | rfl | rfl | rfl | rfl | rfl
      · refine q0R (s.1.2.2.1 i 0) hv ?_ (fun S hS => ?_)
        · rw [e9]; rfl
        · unfold f_X10_company
          rw [nCo, hi, nd_t, if_pos (by decide), at_ok (by omega) (by omega), gbiN, (hS.1.2.2.1 i hi4).1]
      · refine q0R (s.1.2.2.1 i 1) hv ?_ (fun S hS => ?_)
        · rw [e9]; rfl
        · unfold f_X10_company
          rw [nCo, hi, nd_t, if_neg (by decide), if_pos (by decide), at_ok (by omega) (by omega), gbiN, (hS.1.2.2.1 i hi4).2.1]
      · refine q0R (nI (s.1.2.2.2.1 i).length) hv ?_ (fun S hS => ?_)
        · rw [e9]; rfl
        · unfold f_X10_company
          rw [nCo, hi, nd_t, if_neg (by decide), if_neg (by decide), if_pos (by decide), at_ok (by omega) (by omega), gbiN, (hS.1.2.2.2.1 i hi4).1]
      · refine q0R (cntT s.1 i) hv ?_ (fun S hS => ?_)
        · rw [e9]; rfl
        · unfold f_X10_company
          rw [nCo, hi, nd_t, if_neg (by decide), if_neg (by decide), if_neg (by decide), if_pos (by decide), C_countOf hS.1 hvl hi4, gbiN]
      · refine q0R (cntC s.1 i) hv ?_ (fun S hS => ?_)
        · rw [e9]; rfl
        · unfold f_X10_company
          rw [nCo, hi, nd_t, if_neg (by decide), if_neg (by decide), if_neg (by decide), if_neg (by decide), if_pos (by decide), C_ccountOf hS.1 hvl, gbiN]
      · refine q0R (s.1.2.2.1 i 3) hv ?_ (fun S hS => ?_)
        · rw [e9]; rfl
        · unfold f_X10_company
          rw [nCo, hi, nd_t, if_neg (by decide), if_neg (by decide), if_neg (by decide), if_neg (by decide), if_neg (by decide), if_pos (by decide), at_ok (by omega) (by omega), gbiN, (hS.1.2.2.1 i hi4).2.2.1]
      · refine q0R (s.1.2.2.1 i 4) hv ?_ (fun S hS => ?_)
        · rw [e9]; rfl
        · unfold f_X10_company
          rw [nCo, hi, nd_t, if_neg (by decide), if_neg (by decide), if_neg (by decide), if_neg (by decide), if_neg (by decide), if_neg (by decide), if_pos (by decide), at_ok (by omega) (by omega), gbiN, (hS.1.2.2.1 i hi4).2.2.2]
theorem rf_undo {n : Nat} {s : St} (hv : IV n s) : RF (fun S => gwr 0 0 (-9999003) (f_X10_undo S)) (n, s) (aUndo (n, s)) := by
  obtain ⟨g0, tx, sz, hs, sl⟩ := s
  rcases List.eq_nil_or_concat hs with rfl | ⟨l, g, rfl⟩
  · refine tR 3 hv rfl (fun _ => rfl) (fun S hS => ?_)
    obtain ⟨-, -, ⟨o, ho⟩, -⟩ := hS
    have h0 : S 3 2 = nI 0 := ho.2.2.1
    unfold f_X10_undo B_X10_undo_15
    rw [h0, if_pos (by decide), show (0 : Int32) = bI false from rfl, nAl, nd_f]
    rfl
  · rw [List.concat_eq_append] at hv ⊢
    have hlen : (l ++ [g]).length = l.length + 1 := by simp
    have hl14 : (l ++ [g]).length ≤ 14 := hv.2.2.1.1
    have hmem : g ∈ l ++ [g] := by simp
    obtain ⟨cg, hVg⟩ := hv.2.2.1.2 g hmem
    have hvl := V.vl hVg
    have hget : (l ++ [g])[l.length]? = some g := by simp
    refine oR' (nI l.length) ((g, tx, sz, l, sl) : St) ?_ (fun S hS => ?_) ?_
    · simp [aUndo]
    · obtain ⟨h1, h2, ⟨o, ho⟩, h4⟩ := hS
      obtain ⟨S1, e1, b1, b2, b3⟩ := C_takeBack ho hvl
      refine ⟨S1, ?_, ⟨b2, ⟨by rw [b3 1 (by omega) (by omega)]; exact h2.1, fun x hx => by rw [b3 2 (by omega) (by omega)]; exact h2.2 x hx⟩, ⟨o, b1⟩, fun k hk => ⟨by rw [b3 7 (by omega) (by omega)]; exact (h4 k hk).1, fun g hg => CP_o ((h4 k hk).2 g hg) (fun j p1 p2 => b3 j (by omega) (by omega))⟩⟩, fun k hk => b3 k (by omega) (by omega)⟩
      have h0 : S 3 2 = nI (l ++ [g]).length := ho.2.2.1
      have h01 : S1 3 2 = nI l.length := b1.2.2.1
      rw [hlen] at h0
      unfold f_X10_undo B_X10_undo_15
      rw [h0, if_neg (by rw [show (0 : Int32) = nI 0 from rfl, nIle (by omega) (by omega)]; omega), show (1 : Int32) = bI true from rfl, nAl, nd_t, e1, gbvN, h01]
    · obtain ⟨-, v2, v3, v4⟩ := IV_mono hv (Nat.le_succ n)
      exact ⟨⟨cg, V_mono hVg (Nat.le_succ n)⟩, v2, ⟨by show l.length ≤ 14; omega, fun x hx => v3.2 x (List.mem_append_left _ hx)⟩, v4⟩
theorem rf_endRound {n : Nat} {s : St} (hv : IV n s) : RF f_X10_endRound (n, s) (aEnd (n, s)) := by
  obtain ⟨c, hV⟩ := hv.1
  have hvl := V.vl hV
  refine bR (cSt (gMid s.1) 0 4 0) (act s (gEnd s.1)) rfl (fun S hS => ?_) (IV_act hv (V_end hV))
  unfold f_X10_endRound
  refine C_act (mk := fun S1 => (cSt (gMid s.1) 0 4 0, S1)) hv hS (fun S0 h0 => ?_)
  obtain ⟨S1, e1, c1, f1⟩ := C_close h0 hvl
  refine ⟨S1, ?_, c1, Fb.f f1⟩
  rw [e1, gbiN]
theorem rf_errorPosition {n : Nat} {s : St} (hv : IV n s) : RF f_X10_errorPosition (n, s) (nErr s, (n, s)) := by
  refine bR (nErr s) s rfl (fun S hS => ?_) hv
  obtain ⟨S1, e1, -, f1⟩ := C_read hS.2.1 hv.2.1.1 hv.2.1.2
  refine ⟨S1, ?_, IC_35 hS (Fb.f f1), fun k hk => f1 k (by omega)⟩
  unfold f_X10_errorPosition
  rw [e1, gbiN]
  rfl
theorem empty_ok {S : Sg} : ∃ S', f_X6_empty S = some S' ∧ (∀ a, a ≠ 7 → S' a = S a) ∧ ∀ x, x < 2 → S' 7 x = 0 := by
  obtain ⟨S1, e1, e2, e3⟩ := fill_ok (k := 7) (n := 2) (by omega) 0 S
  exact ⟨S1, by unfold f_X6_empty; rw [e1, gbvN], e2, e3⟩
theorem rf_clearText {n : Nat} {s : St} (hv : IV n s) : RF f_X10_clearText (n, s) (aClear (n, s)) := by
  refine bR (nI s.2.2.1) ((s.1, s.2.1, 0, s.2.2.2) : St) rfl (fun S hS => ?_) ?_
  · obtain ⟨h1, h2, ⟨o, ho⟩, h4⟩ := hS
    have hb : ∀ a, a ≠ 1 → u2 S 1 1 0 a = S a := fun a x => u2_n x
    refine ⟨u2 S 1 1 0, ?_, ⟨CP_o h1 (fun k p1 p2 => hb k (by omega)), ⟨u2_eq, fun x hx => absurd hx (Nat.not_lt_zero _)⟩, ⟨o, ?_⟩, fun j hj => ⟨by rw [hb 7 (by omega)]; exact (h4 j hj).1, fun g hg => CP_o ((h4 j hj).2 g hg) (fun j p1 p2 => hb j (by omega))⟩⟩, fun k hk => hb k (by omega)⟩
    · unfold f_X10_clearText f_X2_empty
      rw [gviN, gstN, h2.1, gbiN]
    · obtain ⟨a1, a2, a3, a4, a5⟩ := ho
      exact ⟨a1, a2, by rw [hb 3 (by omega)]; exact a3, by rw [hb 3 (by omega)]; exact a4, fun k g hg => CP_o (a5 k g hg) (fun j p1 p2 => hb j (by omega))⟩
  · obtain ⟨v1, v2, v3, v4⟩ := IV_mono hv (Nat.le_succ n)
    exact ⟨v1, ⟨Nat.zero_le _, fun x hx => absurd hx (Nat.not_lt_zero _)⟩, v3, v4⟩
theorem l_c {q : Nat} (h : q < 9223372036854775808) : (lN q).toNatClampNeg = q := by
  show (lN q).toInt.toNat = q
  rw [l_toInt h]
  rfl
