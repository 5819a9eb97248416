/-! ===== the class obeys ===== -/
theorem C_ob {c n grp h w r : Nat} {g : Game} {S : Sg} (hc : CP 35 g S) (hV : V c n g) (hx : nI grp / (10000 : Int32) = nI h) (hh : h < 10) (hw : w < 10) (hr : r < 1000) : ∃ S', B_X5_obey_28 35 S (nI grp) (nI w) (nI r) (bI (decide (r < 10))) = some (bI (gOb g h w r).isSome, S') ∧ (∀ g', gOb g h w r = some g' → CP 35 g' S') ∧ Fb 35 S S' := by
  have hv := hV.vl
  have h16 := hv.1
  have h8 := hv.2.2.1
  have no : ∀ (S1 : Sg), gOb g h w r = none → Fb 35 S S1 → ∃ S', some ((0 : Int32), S1) = some (bI (gOb g h w r).isSome, S') ∧ (∀ g', gOb g h w r = some g' → CP 35 g' S') ∧ Fb 35 S S' := by
    intro S1 e f
    refine ⟨S1, by rw [e]; rfl, fun g' q => ?_, f⟩
    rw [e] at q; cases q
  have yes : ∀ (S1 : Sg) (g1 : Game), gOb g h w r = some g1 → CP 35 g1 S1 → Fb 35 S S1 → ∃ S', some ((1 : Int32), S1) = some (bI (gOb g h w r).isSome, S') ∧ (∀ g', gOb g h w r = some g' → CP 35 g' S') ∧ Fb 35 S S' := by
    intro S1 g1 e c1 f
    refine ⟨S1, by rw [e]; rfl, fun g' q => ?_, f⟩
    rw [e] at q; cases q; exact c1
  have hne : ∀ k : Nat, k < 10 → h ≠ k → ¬ nI h = nI k := fun k hk e q => e ((nI_inj (by omega) (by omega)).mp q)
  unfold B_X5_obey_28
  rw [hx]
  by_cases e1 : h = 1
  · subst e1
    rw [if_pos (show nI 1 = (1 : Int32) from rfl)]
    by_cases a1 : r < 100
    · rw [if_neg (by rw [show (100 : Int32) = nI 100 from rfl, nIle (by omega) (by omega)]; omega)]
      by_cases a2 : w < 4
      · by_cases a3 : r < g.2.1.length
        · obtain ⟨a, ha⟩ := some_of_lt a3
          obtain ⟨S1, q1, c1, f1⟩ := C_tryT hc hv a2 ha
          rw [q1, gbiN]
          have eg : gOb g 1 w r = if mayT g w a = true then some (gSellT g w r a) else none := by
            unfold gOb; rw [if_pos rfl, if_pos ⟨a2, a1⟩, ha]
          unfold gDealT at c1
          rw [ha] at c1
          simp only at c1
          by_cases a4 : mayT g w a = true
          · rw [if_pos a4] at eg c1
            rw [if_neg (by rw [a4]; decide)]
            exact yes S1 _ eg c1 (Fb.f f1)
          · rw [if_neg a4] at eg
            rw [if_pos (by rw [Bool.not_eq_true] at a4; rw [a4]; decide)]
            exact no S1 eg (Fb.f f1)
        · have eq : f_X7_tryTrack 35 (nI w) (nI r) S = some (0, S) := by
            unfold f_X7_tryTrack
            rw [C_mayT_not a2 (C_hasT_no hc hv (by omega) (by omega)), gbiN, if_pos rfl, gck_ok (by decide)]
          rw [eq, gbiN, if_pos rfl]
          refine no S ?_ (Fb.rf S)
          unfold gOb
          rw [if_pos rfl, if_pos ⟨a2, a1⟩, List.getElem?_eq_none (by omega)]
      · have eq : f_X7_tryTrack 35 (nI w) (nI r) S = some (0, S) := by
          unfold f_X7_tryTrack
          rw [C_mayT_noi (by omega) (by omega), gbiN, if_pos rfl, gck_ok (by decide)]
        rw [eq, gbiN, if_pos rfl]
        refine no S ?_ (Fb.rf S)
        unfold gOb
        rw [if_pos rfl, if_neg (fun q => a2 q.1)]
    · rw [if_pos (by rw [show (100 : Int32) = nI 100 from rfl, nIle (by omega) (by omega)]; omega)]
      refine no S ?_ (Fb.rf S)
      unfold gOb
      rw [if_pos rfl, if_neg (fun q => a1 q.2)]
  · rw [if_neg (show ¬ nI h = (1 : Int32) from hne 1 (by omega) e1)]
    by_cases e2 : h = 2
    · subst e2
      rw [if_pos (show nI 2 = (2 : Int32) from rfl)]
      by_cases a1 : r < 10
      · rw [if_neg (by rw [decide_eq_true a1]; decide)]
        by_cases a2 : w < 4 ∧ 1 ≤ r ∧ r ≤ 6
        · obtain ⟨b1, b2, b3⟩ := a2
          obtain ⟨S1, q1, c1, f1⟩ := C_tryN (lv := r) hc hv b1 b2 b3
          rw [q1, gbiN]
          unfold gDealN at c1
          by_cases a4 : mayN g w (nI r) = true
          · rw [if_pos a4] at c1
            rw [if_neg (by rw [a4]; decide)]
            refine yes S1 _ ?_ c1 (Fb.f f1)
            unfold gOb
            rw [if_neg (by omega), if_pos rfl, if_pos ⟨b1, b2, b3, a4⟩]
          · rw [if_pos (by rw [Bool.not_eq_true] at a4; rw [a4]; decide)]
            refine no S1 ?_ (Fb.f f1)
            unfold gOb
            rw [if_neg (by omega), if_pos rfl, if_neg (fun q => a4 q.2.2.2)]
        · have eq : f_X7_tryTrain 35 (nI w) (nI r) S = some (0, S) := by
            unfold f_X7_tryTrain
            rw [C_mayN_no (by
              by_cases z : w < 4
              · by_cases z2 : 1 ≤ r
                · exact Or.inr (Or.inr (by rw [show (6 : Int32) = nI 6 from rfl, nIlt (by omega) (by omega)]; omega))
                · exact Or.inr (Or.inl (by rw [show (1 : Int32) = nI 1 from rfl, nIlt (by omega) (by omega)]; omega))
              · exact Or.inl (by rw [below_nI (by omega) (by omega)]; exact decide_eq_false z)), gbiN, if_pos rfl, gck_ok (by decide)]
          rw [eq, gbiN, if_pos rfl]
          refine no S ?_ (Fb.rf S)
          unfold gOb
          rw [if_neg (by omega), if_pos rfl, if_neg (fun q => a2 ⟨q.1, q.2.1, q.2.2.1⟩)]
      · rw [if_pos (by rw [decide_eq_false a1]; decide)]
        refine no S ?_ (Fb.rf S)
        unfold gOb
        rw [if_neg (by omega), if_pos rfl, if_neg (fun q => a1 (by omega))]
    · rw [if_neg (show ¬ nI h = (2 : Int32) from hne 2 (by omega) e2)]
      by_cases e3 : h = 3
      · subst e3
        rw [if_pos (show nI 3 = (3 : Int32) from rfl)]
        by_cases a1 : r < 10
        · rw [if_neg (by rw [decide_eq_true a1]; decide)]
          unfold f_X5_changeRent
          rw [C_isCo, below_nI (by omega) (by omega), gbiN]
          by_cases a2 : w < 4
          · obtain ⟨q1, c1, f1⟩ := C_rent (v := nI r) hc a2
            rw [decide_eq_true a2, if_neg (by decide), q1, gbvN, gck_ok (by decide), gbiN, if_neg (by decide)]
            refine yes _ _ ?_ c1 (Fb.f f1)
            unfold gOb
            rw [if_neg (by omega), if_neg (by omega), if_pos rfl, if_pos ⟨a2, a1⟩]
          · rw [decide_eq_false a2, if_pos (by decide), gck_ok (by decide), gbiN, if_pos (by decide)]
            refine no S ?_ (Fb.rf S)
            unfold gOb
            rw [if_neg (by omega), if_neg (by omega), if_pos rfl, if_neg (fun q => a2 q.1)]
        · rw [if_pos (by rw [decide_eq_false a1]; decide)]
          refine no S ?_ (Fb.rf S)
          unfold gOb
          rw [if_neg (by omega), if_neg (by omega), if_pos rfl, if_neg (fun q => a1 q.2)]
      · rw [if_neg (show ¬ nI h = (3 : Int32) from hne 3 (by omega) e3)]
        by_cases e4 : h = 4
        · subst e4
          rw [if_pos (show nI 4 = (4 : Int32) from rfl)]
          have eg : gOb g 4 w r = if w < 4 ∧ r < 10 then (match g.2.2.2.2[r]? with
            | none => none
            | some a => if a.2.2.2.2.1 = -9 then some (gTake g w r a) else none) else none := by
            unfold gOb
            rw [if_neg (by omega), if_neg (by omega), if_neg (by omega), if_pos rfl]
            rfl
          by_cases a1 : r < 10
          · rw [if_neg (by rw [decide_eq_true a1]; decide)]
            by_cases a2 : w < 4
            · rw [if_pos ⟨a2, a1⟩] at eg
              by_cases a3 : r < g.2.2.2.2.length
              · obtain ⟨a, ha⟩ := some_of_lt a3
                obtain ⟨S1, q1, c1, f1⟩ := C_tryC hc hv a2 ha
                rw [q1, gbiN]
                unfold gDealC at c1
                rw [ha] at c1 eg
                simp only at c1 eg
                by_cases a4 : a.2.2.2.2.1 = -9
                · rw [if_pos a4] at c1 eg
                  rw [if_neg (by rw [decide_eq_true a4]; decide)]
                  exact yes S1 _ eg c1 (Fb.f f1)
                · rw [if_neg a4] at eg
                  rw [if_pos (by rw [decide_eq_false a4]; decide)]
                  exact no S1 eg (Fb.f f1)
              · have eq : f_X7_tryContract 35 (nI w) (nI r) S = some (0, S) := by
                  unfold f_X7_tryContract
                  rw [C_mayG_not a2 (C_hasC_no hc hv (by omega) (by omega)), gbiN, if_pos rfl, gck_ok (by decide)]
                rw [eq, gbiN, if_pos rfl]
                rw [List.getElem?_eq_none (by omega)] at eg
                exact no S eg (Fb.rf S)
            · have eq : f_X7_tryContract 35 (nI w) (nI r) S = some (0, S) := by
                unfold f_X7_tryContract
                rw [C_mayG_noi (by omega) (by omega), gbiN, if_pos rfl, gck_ok (by decide)]
              rw [eq, gbiN, if_pos rfl]
              rw [if_neg (fun q => a2 q.1)] at eg
              exact no S eg (Fb.rf S)
          · rw [if_pos (by rw [decide_eq_false a1]; decide)]
            rw [if_neg (fun q => a1 q.2)] at eg
            exact no S eg (Fb.rf S)
        · rw [if_neg (show ¬ nI h = (4 : Int32) from hne 4 (by omega) e4)]
          by_cases e5 : h = 5
          · subst e5
            rw [if_pos (show nI 5 = (5 : Int32) from rfl)]
            have eh : ∀ x : Option Game, (if r < 10 then (match g.2.2.2.2[w]? with
              | none => none
              | some a => if a.2.2.2.2.1 = -9 then none else match (g.2.2.2.1 a.2.2.2.2.1.toNatClampNeg)[r]? with
                | none => none
                | some t => if rsn g a.2.2.2.2.1.toNatClampNeg a t a.1.toNatClampNeg a.2.1.toNatClampNeg t.1.toNatClampNeg = 0 then some (gCar g a.2.2.2.2.1.toNatClampNeg w r a t (wP (wks g a.2.2.2.2.1.toNatClampNeg) a.2.1.toNatClampNeg a.1.toNatClampNeg (4 * t.1.toNatClampNeg))) else none) else none) = x → gOb g 5 w r = x := by
              intro x hx'
              rw [← hx']
              unfold gOb
              rw [if_neg (by omega), if_neg (by omega), if_neg (by omega), if_neg (by omega), if_pos rfl]
              rfl
            by_cases a1 : r < 10
            · rw [if_neg (by rw [decide_eq_true a1]; decide)]
              rw [if_pos a1] at eh
              by_cases a2 : w < g.2.2.2.2.length
              · obtain ⟨a, ha⟩ := some_of_lt a2
                rw [ha] at eh
                simp only at eh
                by_cases a3 : a.2.2.2.2.1 = -9
                · rw [if_pos a3] at eh
                  rw [C_try_free hc hv ha a3 (by omega), gbiN, if_pos rfl]
                  exact no S (eh _ rfl) (Fb.rf S)
                · rw [if_neg a3] at eh
                  obtain ⟨i, hi, ei⟩ : ∃ i : Nat, i < 4 ∧ a.2.2.2.2.1 = nI i := (hv.2.2.2.2 a (mem_get ha)).resolve_left a3
                  rw [ei, nI_c (by omega)] at eh
                  by_cases a4 : r < (g.2.2.2.1 i).length
                  · obtain ⟨t, ht⟩ := some_of_lt a4
                    rw [ht] at eh
                    simp only at eh
                    obtain ⟨x, y, lv, hrn, -, -⟩ := Runs.of hV hi ha ht ei
                    obtain ⟨q1, q2, q3⟩ := hrn.cl
                    rw [q1, q2, q3] at eh
                    obtain ⟨S1, t1, t2, t3⟩ := C_try (by omega) hc hV hrn
                    rw [t1, gbiN]
                    unfold gTry at t2
                    by_cases a5 : rsn g i a t x y lv = 0
                    · rw [if_pos a5] at eh t2
                      rw [if_neg (by rw [decide_eq_true a5]; decide)]
                      exact yes S1 _ (eh _ rfl) t2 t3
                    · rw [if_neg a5] at eh
                      rw [if_pos (by rw [decide_eq_false a5]; decide)]
                      exact no S1 (eh _ rfl) t3
                  · rw [List.getElem?_eq_none (by omega)] at eh
                    rw [C_try_no hc hv hi ha ei (by omega) (by omega), gbiN, if_pos rfl]
                    exact no S (eh _ rfl) (Fb.rf S)
              · rw [List.getElem?_eq_none (by omega)] at eh
                have eq : f_X4_tryCarry 35 (nI w) (nI r) S = some (0, S) := by
                  unfold f_X4_tryCarry B_X4_tryCarry_34 f_X0_hasTrain
                  rw [C_holder_no (C_hasC_no hc hv (by omega) (by omega)), gbiN, if_neg (nI_ng (by omega)), at_neg m9_neg, gbiN, if_pos (nI_pos' (by omega)), gbiN, if_pos rfl, if_pos rfl, gck_ok (by decide)]
                rw [eq, gbiN, if_pos rfl]
                exact no S (eh _ rfl) (Fb.rf S)
            · rw [if_pos (by rw [decide_eq_false a1]; decide)]
              rw [if_neg a1] at eh
              exact no S (eh _ rfl) (Fb.rf S)
          · rw [if_neg (show ¬ nI h = (5 : Int32) from hne 5 (by omega) e5)]
            by_cases e6 : h = 6
            · subst e6
              rw [if_pos (show nI 6 = (6 : Int32) from rfl)]
              have eg : gOb g 6 w r = if w = 0 ∧ r = 0 then some (gEnd g) else none := by
                unfold gOb
                rw [if_neg (by omega), if_neg (by omega), if_neg (by omega), if_neg (by omega), if_neg (by omega), if_pos rfl]
              by_cases a1 : w = 0
              · rw [if_pos (by rw [a1]; rfl)]
                by_cases a2 : r = 0
                · rw [if_pos (by rw [a2]; rfl)]
                  rw [if_pos ⟨a1, a2⟩] at eg
                  obtain ⟨S1, q1, c1, f1⟩ := C_close hc hv
                  unfold f_X5_endOfRound
                  rw [q1, gbiN, gbiN, if_neg (by decide)]
                  exact yes S1 _ eg c1 (Fb.f f1)
                · rw [if_neg (by rw [show (0 : Int32) = nI 0 from rfl, nI_inj (by omega) (by omega)]; exact a2)]
                  rw [if_neg (fun q => a2 q.2)] at eg
                  exact no S eg (Fb.rf S)
              · rw [if_neg (by rw [show (0 : Int32) = nI 0 from rfl, nI_inj (by omega) (by omega)]; exact a1)]
                rw [if_neg (fun q => a1 q.1)] at eg
                exact no S eg (Fb.rf S)
            · rw [if_neg (show ¬ nI h = (6 : Int32) from hne 6 (by omega) e6)]
              by_cases e7 : h = 7
              · subst e7
                rw [if_pos (show nI 7 = (7 : Int32) from rfl)]
                have eg : gOb g 7 w r = if w < 4 ∧ ¬ g.2.2.1 w 0 < nI r then some g else none := by
                  unfold gOb
                  rw [if_neg (by omega), if_neg (by omega), if_neg (by omega), if_neg (by omega), if_neg (by omega), if_neg (by omega), if_pos rfl]
                rw [C_isCo, below_nI (by omega) (by omega), gbiN]
                by_cases a1 : w < 4
                · rw [decide_eq_true a1, if_neg (by decide), at_ok (by omega) (by omega), gbiN, (hc.2.2.1 w a1).1]
                  by_cases a2 : g.2.2.1 w 0 < nI r
                  · rw [if_pos a2]
                    rw [if_neg (fun q => q.2 a2)] at eg
                    exact no S eg (Fb.rf S)
                  · rw [if_neg a2]
                    rw [if_pos ⟨a1, a2⟩] at eg
                    exact yes S _ eg hc (Fb.rf S)
                · rw [decide_eq_false a1, if_pos (by decide)]
                  rw [if_neg (fun q => a1 q.1)] at eg
                  exact no S eg (Fb.rf S)
              · rw [if_neg (show ¬ nI h = (7 : Int32) from hne 7 (by omega) e7)]
                by_cases e8 : h = 8
                · subst e8
                  rw [if_pos (show nI 8 = (8 : Int32) from rfl)]
                  have eg : gOb g 8 w r = if w = 0 ∧ r < 10 ∧ g.1 3 = nI r then some g else none := by
                    unfold gOb
                    rw [if_neg (by omega), if_neg (by omega), if_neg (by omega), if_neg (by omega), if_neg (by omega), if_neg (by omega), if_neg (by omega), if_pos rfl]
                  by_cases a1 : w = 0
                  · rw [if_pos (by rw [a1]; rfl)]
                    by_cases a2 : r < 10
                    · rw [if_neg (by rw [decide_eq_true a2]; decide), hc.1.2.1]
                      by_cases a3 : g.1 3 = nI r
                      · rw [if_pos a3]
                        rw [if_pos ⟨a1, a2, a3⟩] at eg
                        exact yes S _ eg hc (Fb.rf S)
                      · rw [if_neg a3]
                        rw [if_neg (fun q => a3 q.2.2)] at eg
                        exact no S eg (Fb.rf S)
                    · rw [if_pos (by rw [decide_eq_false a2]; decide)]
                      rw [if_neg (fun q => a2 q.2.1)] at eg
                      exact no S eg (Fb.rf S)
                  · rw [if_neg (by rw [show (0 : Int32) = nI 0 from rfl, nI_inj (by omega) (by omega)]; exact a1)]
                    rw [if_neg (fun q => a1 q.1)] at eg
                    exact no S eg (Fb.rf S)
                · rw [if_neg (show ¬ nI h = (8 : Int32) from hne 8 (by omega) e8)]
                  by_cases e9 : h = 9
                  · subst e9
                    rw [if_pos (show nI 9 = (9 : Int32) from rfl)]
                    have eg : gOb g 9 w r = if w < 4 ∧ r < 10 ∧ (g.2.2.2.1 w).length = r then some g else none := by
                      unfold gOb
                      rw [if_neg (by omega), if_neg (by omega), if_neg (by omega), if_neg (by omega), if_neg (by omega), if_neg (by omega), if_neg (by omega), if_neg (by omega), if_pos rfl]
                    rw [C_isCo, below_nI (by omega) (by omega), gbiN]
                    by_cases a1 : w < 4
                    · have h4 := hv.2.1 w a1
                      rw [decide_eq_true a1, if_neg (by decide)]
                      by_cases a2 : r < 10
                      · rw [if_neg (by rw [decide_eq_true a2]; decide), at_ok (by omega) (by omega), gbiN, (hc.2.2.2.1 w a1).1]
                        by_cases a3 : (g.2.2.2.1 w).length = r
                        · rw [if_pos (by rw [a3])]
                          rw [if_pos ⟨a1, a2, a3⟩] at eg
                          exact yes S _ eg hc (Fb.rf S)
                        · rw [if_neg (by rw [nI_inj (by omega) (by omega)]; exact a3)]
                          rw [if_neg (fun q => a3 q.2.2)] at eg
                          exact no S eg (Fb.rf S)
                      · rw [if_pos (by rw [decide_eq_false a2]; decide)]
                        rw [if_neg (fun q => a2 q.2.1)] at eg
                        exact no S eg (Fb.rf S)
                    · rw [decide_eq_false a1, if_pos (by decide)]
                      rw [if_neg (fun q => a1 q.1)] at eg
                      exact no S eg (Fb.rf S)
                  · rw [if_neg (show ¬ nI h = (9 : Int32) from hne 9 (by omega) e9)]
                    refine no S ?_ (Fb.rf S)
                    unfold gOb
                    rw [if_neg e1, if_neg e2, if_neg e3, if_neg e4, if_neg e5, if_neg e6, if_neg e7, if_neg e8, if_neg e9]
theorem C_obey {c n grp : Nat} {g : Game} {S : Sg} (hc : CP 35 g S) (hV : V c n g) (hg : grp < 100000) : ∃ S', f_X5_obey 35 (nI grp) S = some (bI (gOb g (grp / 10000) (grp / 1000 % 10) (grp % 1000)).isSome, S') ∧ (∀ g', gOb g (grp / 10000) (grp / 1000 % 10) (grp % 1000) = some g' → CP 35 g' S') ∧ Fb 35 S S' := by
  have hk : nI grp - nI (grp / 1000) * nI 1000 = nI (grp % 1000) := by
    have q := rem_nI (a := grp) (d := 1000) (by omega) (by omega) (by omega)
    rw [div_nI (by omega) (by omega) (by omega)] at q
    exact q
  have hm : grp % 1000 < 1000 := Nat.mod_lt _ (by omega)
  have key := C_ob (grp := grp) (h := grp / 10000) (w := grp / 1000 % 10) (r := grp % 1000) hc hV (div_nI (a := grp) (d := 10000) (by omega) (by omega) (by omega)) (by omega) (Nat.mod_lt _ (by omega)) hm
  unfold f_X5_obey
  rw [show (1000 : Int32) = nI 1000 from rfl, div_nI (by omega) (by omega) (by omega), show (10 : Int32) = nI 10 from rfl, rem_nI (by omega) (by omega) (by omega), gviN, hk, gviN]
  by_cases e : grp % 1000 < 10
  · rw [if_neg (by rw [nIle (by omega) (by omega)]; omega)]
    rw [decide_eq_true e] at key
    exact key
  · rw [if_pos (by rw [nIle (by omega) (by omega)]; omega)]
    rw [decide_eq_false e] at key
    exact key

