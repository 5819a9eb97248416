/-! ===== the reference does a command ===== -/
theorem M_ob {c n h w r : Nat} {g : Game} {S : Sg} (hc : MP g (S 396)) (hV : V c n g) (hh : h < 10) (hw : w < 10) (hr : r < 1000) : ∃ S', B_X11_does_11 S (nI h) (nI w) (nI r) (bI (decide (r < 100))) = some (bI (gOb g h w r).isSome, S') ∧ (∀ g', gOb g h w r = some g' → MP g' (S' 396)) ∧ FrP 396 S S' := by
  have hv := hV.vl
  have h16 := hv.1
  have h8 := hv.2.2.1
  have no : ∀ (S1 : Sg), gOb g h w r = none → FrP 396 S S1 → ∃ S', some ((0 : Int32), S1) = some (bI (gOb g h w r).isSome, S') ∧ (∀ g', gOb g h w r = some g' → MP g' (S' 396)) ∧ FrP 396 S S' := by
    intro S1 e f
    refine ⟨S1, by rw [e]; rfl, fun g' q => ?_, f⟩
    rw [e] at q; cases q
  have yes : ∀ (S1 : Sg) (g1 : Game), gOb g h w r = some g1 → MP g1 (S1 396) → FrP 396 S S1 → ∃ S', some ((1 : Int32), S1) = some (bI (gOb g h w r).isSome, S') ∧ (∀ g', gOb g h w r = some g' → MP g' (S' 396)) ∧ FrP 396 S S' := by
    intro S1 g1 e c1 f
    refine ⟨S1, by rw [e]; rfl, fun g' q => ?_, f⟩
    rw [e] at q; cases q; exact c1
  have hne : ∀ k : Nat, k < 10 → h ≠ k → ¬ nI h = nI k := fun k hk e q => e ((nI_inj (by omega) (by omega)).mp q)
  unfold B_X11_does_11
  rw [M_isCo', below_nI (by omega) (by omega), gbiN]
  by_cases e1 : h = 1
  · subst e1
    rw [if_pos (show nI 1 = (1 : Int32) from rfl)]
    by_cases a2 : w < 4
    · rw [decide_eq_true a2, if_neg (by decide)]
      by_cases a1 : r < 100
      · rw [decide_eq_true a1, if_neg (by decide), M_isTrack hc hv, below_nI (by omega) (by omega), gbiN]
        by_cases a3 : r < g.2.1.length
        · obtain ⟨a, ha⟩ := some_of_lt a3
          have eg : gOb g 1 w r = if mayT g w a = true then some (gSellT g w r a) else none := by
            unfold gOb; rw [if_pos rfl, if_pos ⟨a2, a1⟩, ha]
          rw [decide_eq_true a3, if_neg (by decide), M_mayT hc hv a2 ha, gbiN]
          by_cases a4 : mayT g w a = true
          · rw [if_pos a4] at eg
            obtain ⟨S1, q1, c1, f1⟩ := M_sellT hc hv a2 ha
            rw [if_neg (by rw [a4]; decide), q1, gbiN]
            exact yes S1 _ eg c1 (FrP.o (Or.inr rfl) f1)
          · rw [if_neg a4] at eg
            rw [if_pos (by rw [Bool.not_eq_true] at a4; rw [a4]; decide)]
            exact no S eg (FrP.rf S)
        · rw [decide_eq_false a3, if_pos (by decide)]
          refine no S ?_ (FrP.rf S)
          unfold gOb
          rw [if_pos rfl, if_pos ⟨a2, a1⟩, List.getElem?_eq_none (by omega)]
      · rw [decide_eq_false a1, if_pos (by decide)]
        refine no S ?_ (FrP.rf S)
        unfold gOb
        rw [if_pos rfl, if_neg (fun q => a1 q.2)]
    · rw [decide_eq_false a2, if_pos (by decide)]
      refine no S ?_ (FrP.rf S)
      unfold gOb
      rw [if_pos rfl, if_neg (fun q => a2 q.1)]
  · rw [if_neg (show ¬ nI h = (1 : Int32) from hne 1 (by omega) e1)]
    by_cases e2 : h = 2
    · subst e2
      rw [if_pos (show nI 2 = (2 : Int32) from rfl)]
      have eg : gOb g 2 w r = if w < 4 ∧ 1 ≤ r ∧ r ≤ 6 ∧ mayN g w (nI r) = true then some (gSellN g w (nI r)) else none := by
        unfold gOb; rw [if_neg (by omega), if_pos rfl]
      by_cases a2 : w < 4
      · rw [decide_eq_true a2, if_neg (by decide), show (1 : Int64) = (1 : Int32).toInt64 from rfl, show (6 : Int64) = (6 : Int32).toInt64 from rfl, in_ok3, gbiN]
        by_cases a3 : 1 ≤ r ∧ r ≤ 6
        · rw [if_neg (by rw [show (1 : Int32) = nI 1 from rfl, show (6 : Int32) = nI 6 from rfl, decide_eq_true ((nIle (by omega) (by omega)).mpr a3.1), decide_eq_true ((nIle (by omega) (by omega)).mpr a3.2)]; decide), M_mayN hc hv a2, gbiN]
          by_cases a4 : mayN g w (nI r) = true
          · rw [if_pos ⟨a2, a3.1, a3.2, a4⟩] at eg
            obtain ⟨ph, p1, p6, hp⟩ := hV.2.1
            obtain ⟨S1, q1, c1, f1⟩ := M_sellN (lv := nI r) hc hv a2 (mayN_len a4) (mayN_up hp p6 a3.2 a4)
            obtain ⟨z, hz, ez⟩ := rSellN_nn (lv := nI r) hv (mayN_len a4)
            rw [if_neg (by rw [a4]; decide), q1, gbiN, ez, if_neg (nI_ng (by omega))]
            exact yes S1 _ eg c1 (FrP.o (Or.inr rfl) f1)
          · rw [if_neg (fun q => a4 q.2.2.2)] at eg
            rw [if_pos (by rw [Bool.not_eq_true] at a4; rw [a4]; decide)]
            exact no S eg (FrP.rf S)
        · rw [if_neg (fun q => a3 ⟨q.2.1, q.2.2.1⟩)] at eg
          rw [if_pos (by
            rw [bI_0, show (1 : Int32) = nI 1 from rfl, show (6 : Int32) = nI 6 from rfl]
            by_cases z : 1 ≤ r
            · rw [decide_eq_false (p := nI r ≤ nI 6) (by rw [nIle (by omega) (by omega)]; omega)]; simp
            · rw [decide_eq_false (p := nI 1 ≤ nI r) (by rw [nIle (by omega) (by omega)]; omega)]; simp)]
          exact no S eg (FrP.rf S)
      · rw [decide_eq_false a2, if_pos (by decide)]
        rw [if_neg (fun q => a2 q.1)] at eg
        exact no S eg (FrP.rf S)
    · rw [if_neg (show ¬ nI h = (2 : Int32) from hne 2 (by omega) e2)]
      by_cases e3 : h = 3
      · subst e3
        rw [if_pos (show nI 3 = (3 : Int32) from rfl)]
        have eg : gOb g 3 w r = if w < 4 ∧ r < 10 then some (gCo g w 1 (nI r)) else none := by
          unfold gOb; rw [if_neg (by omega), if_neg (by omega), if_pos rfl]
        by_cases a2 : w < 4
        · rw [decide_eq_true a2, if_neg (by decide)]
          by_cases a1 : r < 10
          · rw [if_pos ⟨a2, a1⟩] at eg
            rw [if_pos (by rw [show (9 : Int32) = nI 9 from rfl, nIle (by omega) (by omega)]; omega), companyAt_ok, gbiN, nIp1, gck_nI (by omega) (by omega), nI_c (by omega), gstN]
            refine yes _ _ eg ?_ (FrP.o (Or.inr rfl) (fun q hq => u2_n hq))
            rw [u2_s]
            exact M_rent hc hv a2
          · rw [if_neg (fun q => a1 q.2)] at eg
            rw [if_neg (by rw [show (9 : Int32) = nI 9 from rfl, nIle (by omega) (by omega)]; omega)]
            exact no S eg (FrP.rf S)
        · rw [if_neg (fun q => a2 q.1)] at eg
          rw [decide_eq_false a2, if_pos (by decide)]
          exact no S eg (FrP.rf S)
      · rw [if_neg (show ¬ nI h = (3 : Int32) from hne 3 (by omega) e3)]
        by_cases e4 : h = 4
        · subst e4
          rw [if_pos (show nI 4 = (4 : Int32) from rfl)]
          have eg : gOb g 4 w r = if w < 4 ∧ r < 10 then (match g.2.2.2.2[r]? with
            | none => none
            | some a => if a.2.2.2.2.1 = -9 then some (gTake g w r a) else none) else none := by
            unfold gOb
            rw [if_neg (by omega), if_neg (by omega), if_neg (by omega), if_pos rfl]
            rfl
          by_cases a2 : w < 4
          · rw [decide_eq_true a2, if_neg (by decide), M_isContract hc hv, below_nI (by omega) (by omega), gbiN]
            by_cases a3 : r < g.2.2.2.2.length
            · obtain ⟨a, ha⟩ := some_of_lt a3
              rw [if_pos ⟨a2, by omega⟩, ha] at eg
              simp only at eg
              rw [decide_eq_true a3, if_neg (by decide), M_canTake hc hv ha, gbiN]
              by_cases a4 : a.2.2.2.2.1 = -9
              · rw [if_pos a4] at eg
                obtain ⟨S1, q1, c1, f1⟩ := M_take hc hv a2 ha
                obtain ⟨z, z1, z8, ez⟩ := cntC_take (i := w) hv ha
                rw [if_neg (by rw [decide_eq_true a4]; decide), q1, gbiN, ez, if_neg (by rw [show (0 : Int32) = nI 0 from rfl, nIle (by omega) (by omega)]; omega)]
                exact yes S1 _ eg c1 (FrP.o (Or.inr rfl) f1)
              · rw [if_neg a4] at eg
                rw [if_pos (by rw [decide_eq_false a4]; decide)]
                exact no S eg (FrP.rf S)
            · rw [decide_eq_false a3, if_pos (by decide)]
              refine no S ?_ (FrP.rf S)
              rw [eg]
              split
              · rw [List.getElem?_eq_none (by omega)]
              · rfl
          · rw [if_neg (fun q => a2 q.1)] at eg
            rw [decide_eq_false a2, if_pos (by decide)]
            exact no S eg (FrP.rf S)
        · rw [if_neg (show ¬ nI h = (4 : Int32) from hne 4 (by omega) e4)]
          by_cases e5 : h = 5
          · subst e5
            rw [if_pos (show nI 5 = (5 : Int32) from rfl)]
            have eh : ∀ x : Option Game, (if r < 10 then (match g.2.2.2.2[w]? with
              | none => none
              | some a => if a.2.2.2.2.1 = -9 then none else match (g.2.2.2.1 a.2.2.2.2.1.toNatClampNeg)[r]? with
                | none => none
                | some t => if rsn g a.2.2.2.2.1.toNatClampNeg a t a.1.toNatClampNeg a.2.1.toNatClampNeg t.1.toNatClampNeg = 0 then some (gCar g a.2.2.2.2.1.toNatClampNeg w r a t (wP (wks g a.2.2.2.2.1.toNatClampNeg) a.2.1.toNatClampNeg a.1.toNatClampNeg (4 * t.1.toNatClampNeg))) else none) else none) = x → gOb g 5 w r = x := by
              intro x hx'
              rw [← hx']
              unfold gOb
              rw [if_neg (by omega), if_neg (by omega), if_neg (by omega), if_neg (by omega), if_pos rfl]
              rfl
            by_cases a1 : r < 10
            · rw [if_neg (by rw [show (10 : Int32) = nI 10 from rfl, nIle (by omega) (by omega)]; omega)]
              rw [if_pos a1] at eh
              by_cases a2 : w < g.2.2.2.2.length
              · obtain ⟨a, ha⟩ := some_of_lt a2
                rw [ha] at eh
                simp only at eh
                have hct := hc.ct ha
                have eR : f_X11_isRun 396 (nI w) (nI r) S = if a.2.2.2.2.1 = -9 then some (1, S) else gbi (f_X11_isTrain 396 a.2.2.2.2.1 (nI r) S) (fun v_8 S_7 => if v_8 = 0 then some (0, S_7) else some (1, S_7)) := by
                  unfold f_X11_isRun
                  rw [M_isContract hc hv, below_nI (by omega) (by omega), gbiN, decide_eq_true a2, if_neg (by decide), contractAt_ok, gbiN, nIp4, gck_nI (by omega) (by omega), nI_c (by omega), hct.2.2.2.2.1]
                  by_cases z : a.2.2.2.2.1 = -9
                  · rw [if_pos z, if_pos z]
                  · rw [if_neg z, if_neg z, contractAt_ok, gbiN, nIp4, gck_nI (by omega) (by omega), nI_c (by omega), hct.2.2.2.2.1]
                rw [eR]
                by_cases a3 : a.2.2.2.2.1 = -9
                · rw [if_pos a3] at eh
                  rw [if_pos a3, gbiN, if_neg (by decide), M_why0 hc hv ha a3, gbiN, if_neg (by decide)]
                  exact no S (eh _ rfl) (FrP.rf S)
                · rw [if_neg a3] at eh
                  obtain ⟨i, hi, ei⟩ : ∃ i : Nat, i < 4 ∧ a.2.2.2.2.1 = nI i := (hv.2.2.2.2 a (mem_get ha)).resolve_left a3
                  have h4 := hv.2.1 i hi
                  rw [if_neg a3, ei, M_isTrain hc hv hi, below_nI (by omega) (by omega), gbiN]
                  rw [ei, nI_c (by omega)] at eh
                  by_cases a4 : r < (g.2.2.2.1 i).length
                  · obtain ⟨t, ht⟩ := some_of_lt a4
                    rw [ht] at eh
                    simp only at eh
                    obtain ⟨x, y, lv, hrn, hxc, -⟩ := Runs.of hV hi ha ht ei
                    obtain ⟨q1, q2, q3⟩ := hrn.cl
                    rw [q1, q2, q3] at eh
                    obtain ⟨S1, t1, t2⟩ := M_why (Or.inr rfl) hc hV hrn hxc
                    rw [decide_eq_true a4, if_neg (by decide), gbiN, if_neg (by decide), t1, gbiN]
                    by_cases a5 : rsn g i a t x y lv = 0
                    · rw [if_pos a5] at eh
                      rw [if_pos a5]
                      obtain ⟨S2, u1, u2', u3⟩ := M_runOn (Or.inr rfl) (MP_m hc (Or.inr rfl) t2) hV hrn hxc (rsn_0 a5)
                      have hU : UN = 1000000 := rfl
                      have hcl : wC (wks g i) y x (4 * lv) ≤ UN := (wch_v (4 * lv)).1
                      rw [u1, gbiN, if_neg (nI_ng (by omega))]
                      exact yes S2 _ (eh _ rfl) u2' ((FrP.m t2).tr u3)
                    · rw [if_neg a5] at eh
                      rw [if_neg a5]
                      exact no S1 (eh _ rfl) (FrP.m t2)
                  · rw [List.getElem?_eq_none (by omega)] at eh
                    rw [decide_eq_false a4, if_pos (by decide), gbiN, if_pos rfl]
                    exact no S (eh _ rfl) (FrP.rf S)
              · rw [List.getElem?_eq_none (by omega)] at eh
                have eR : f_X11_isRun 396 (nI w) (nI r) S = some (0, S) := by
                  unfold f_X11_isRun
                  rw [M_isContract hc hv, below_nI (by omega) (by omega), gbiN, decide_eq_false a2, if_pos (by decide)]
                rw [eR, gbiN, if_pos rfl]
                exact no S (eh _ rfl) (FrP.rf S)
            · rw [if_pos (by rw [show (10 : Int32) = nI 10 from rfl, nIle (by omega) (by omega)]; omega)]
              rw [if_neg a1] at eh
              exact no S (eh _ rfl) (FrP.rf S)
          · rw [if_neg (show ¬ nI h = (5 : Int32) from hne 5 (by omega) e5)]
            by_cases e6 : h = 6
            · subst e6
              rw [if_pos (show nI 6 = (6 : Int32) from rfl)]
              have eg : gOb g 6 w r = if w = 0 ∧ r = 0 then some (gEnd g) else none := by
                unfold gOb
                rw [if_neg (by omega), if_neg (by omega), if_neg (by omega), if_neg (by omega), if_neg (by omega), if_pos rfl]
              by_cases a1 : w = 0
              · rw [if_pos (by rw [a1]; rfl)]
                by_cases a2 : r = 0
                · rw [if_pos (by rw [a2]; rfl)]
                  rw [if_pos ⟨a1, a2⟩] at eg
                  obtain ⟨S1, q1, c1, f1⟩ := M_end hc hv (V_rounds hV)
                  obtain ⟨z, hz, ez, -⟩ := bits_v (gMid g)
                  rw [q1, gbiN, ez, if_neg (nI_ng (by omega))]
                  exact yes S1 _ eg c1 (FrP.o (Or.inr rfl) f1)
                · rw [if_neg (by rw [show (0 : Int32) = nI 0 from rfl, nI_inj (by omega) (by omega)]; exact a2)]
                  rw [if_neg (fun q => a2 q.2)] at eg
                  exact no S eg (FrP.rf S)
              · rw [if_neg (by rw [show (0 : Int32) = nI 0 from rfl, nI_inj (by omega) (by omega)]; exact a1)]
                rw [if_neg (fun q => a1 q.1)] at eg
                exact no S eg (FrP.rf S)
            · rw [if_neg (show ¬ nI h = (6 : Int32) from hne 6 (by omega) e6)]
              by_cases e7 : h = 7
              · subst e7
                rw [if_pos (show nI 7 = (7 : Int32) from rfl)]
                have eg : gOb g 7 w r = if w < 4 ∧ ¬ g.2.2.1 w 0 < nI r then some g else none := by
                  unfold gOb
                  rw [if_neg (by omega), if_neg (by omega), if_neg (by omega), if_neg (by omega), if_neg (by omega), if_neg (by omega), if_pos rfl]
                by_cases a1 : w < 4
                · rw [decide_eq_true a1, if_neg (by decide), companyAt_ok, gbiN, gck_nI (by omega) (by omega), nI_c (by omega), (hc.2.2.1 w a1).1]
                  by_cases a2 : g.2.2.1 w 0 < nI r
                  · rw [if_pos a2]
                    rw [if_neg (fun q => q.2 a2)] at eg
                    exact no S eg (FrP.rf S)
                  · rw [if_neg a2]
                    rw [if_pos ⟨a1, a2⟩] at eg
                    exact yes S _ eg hc (FrP.rf S)
                · rw [decide_eq_false a1, if_pos (by decide)]
                  rw [if_neg (fun q => a1 q.1)] at eg
                  exact no S eg (FrP.rf S)
              · rw [if_neg (show ¬ nI h = (7 : Int32) from hne 7 (by omega) e7)]
                by_cases e8 : h = 8
                · subst e8
                  rw [if_pos (show nI 8 = (8 : Int32) from rfl)]
                  have eg : gOb g 8 w r = if w = 0 ∧ r < 10 ∧ g.1 3 = nI r then some g else none := by
                    unfold gOb
                    rw [if_neg (by omega), if_neg (by omega), if_neg (by omega), if_neg (by omega), if_neg (by omega), if_neg (by omega), if_neg (by omega), if_pos rfl]
                  by_cases a1 : w = 0
                  · rw [if_pos (by rw [a1]; rfl)]
                    by_cases a2 : r < 10
                    · rw [if_neg (by rw [show (10 : Int32) = nI 10 from rfl, nIle (by omega) (by omega)]; omega), gck_c3, ix_c3, hc.1.2.1]
                      by_cases a3 : g.1 3 = nI r
                      · rw [if_pos a3]
                        rw [if_pos ⟨a1, a2, a3⟩] at eg
                        exact yes S _ eg hc (FrP.rf S)
                      · rw [if_neg a3]
                        rw [if_neg (fun q => a3 q.2.2)] at eg
                        exact no S eg (FrP.rf S)
                    · rw [if_pos (by rw [show (10 : Int32) = nI 10 from rfl, nIle (by omega) (by omega)]; omega)]
                      rw [if_neg (fun q => a2 q.2.1)] at eg
                      exact no S eg (FrP.rf S)
                  · rw [if_neg (by rw [show (0 : Int32) = nI 0 from rfl, nI_inj (by omega) (by omega)]; exact a1)]
                    rw [if_neg (fun q => a1 q.1)] at eg
                    exact no S eg (FrP.rf S)
                · rw [if_neg (show ¬ nI h = (8 : Int32) from hne 8 (by omega) e8)]
                  by_cases e9 : h = 9
                  · subst e9
                    rw [if_pos (show nI 9 = (9 : Int32) from rfl)]
                    have eg : gOb g 9 w r = if w < 4 ∧ r < 10 ∧ (g.2.2.2.1 w).length = r then some g else none := by
                      unfold gOb
                      rw [if_neg (by omega), if_neg (by omega), if_neg (by omega), if_neg (by omega), if_neg (by omega), if_neg (by omega), if_neg (by omega), if_neg (by omega), if_pos rfl]
                    by_cases a1 : w < 4
                    · have h4 := hv.2.1 w a1
                      rw [decide_eq_true a1, if_neg (by decide)]
                      by_cases a2 : r < 10
                      · rw [if_neg (by rw [show (10 : Int32) = nI 10 from rfl, nIle (by omega) (by omega)]; omega), trainsOf_ok a1, gbiN, (hc.2.2.2.1 w a1).1]
                        by_cases a3 : (g.2.2.2.1 w).length = r
                        · rw [if_pos (by rw [a3])]
                          rw [if_pos ⟨a1, a2, a3⟩] at eg
                          exact yes S _ eg hc (FrP.rf S)
                        · rw [if_neg (by rw [nI_inj (by omega) (by omega)]; exact a3)]
                          rw [if_neg (fun q => a3 q.2.2)] at eg
                          exact no S eg (FrP.rf S)
                      · rw [if_pos (by rw [show (10 : Int32) = nI 10 from rfl, nIle (by omega) (by omega)]; omega)]
                        rw [if_neg (fun q => a2 q.2.1)] at eg
                        exact no S eg (FrP.rf S)
                    · rw [decide_eq_false a1, if_pos (by decide)]
                      rw [if_neg (fun q => a1 q.1)] at eg
                      exact no S eg (FrP.rf S)
                  · rw [if_neg (show ¬ nI h = (9 : Int32) from hne 9 (by omega) e9)]
                    refine no S ?_ (FrP.rf S)
                    unfold gOb
                    rw [if_neg e1, if_neg e2, if_neg e3, if_neg e4, if_neg e5, if_neg e6, if_neg e7, if_neg e8, if_neg e9]
theorem M_does {c n h w r : Nat} {g : Game} {S : Sg} (hc : MP g (S 396)) (hV : V c n g) (hh : h < 10) (hw : w < 10) (hr : r < 1000) : ∃ S', f_X11_does (nI h) (nI w) (nI r) S = some (bI (gOb g h w r).isSome, S') ∧ (∀ g', gOb g h w r = some g' → MP g' (S' 396)) ∧ FrP 396 S S' := by
  have key := M_ob hc hV hh hw hr
  unfold f_X11_does
  by_cases e : r < 100
  · rw [if_neg (by rw [show (100 : Int32) = nI 100 from rfl, nIle (by omega) (by omega)]; omega)]
    rw [decide_eq_true e] at key
    exact key
  · rw [if_pos (by rw [show (100 : Int32) = nI 100 from rfl, nIle (by omega) (by omega)]; omega)]
    rw [decide_eq_false e] at key
    exact key
