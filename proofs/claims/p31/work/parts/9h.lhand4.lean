section HND4
variable {c m N : Nat} {w : At}
theorem cntC_set {i : Nat} : ∀ (l : List T6) (k : Nat) (a : T6), l[k]? = some a → a.2.2.2.2.1 ≠ nI i → sm (fun (x : T6) => if x.2.2.2.2.1 = nI i then (1 : Int32) else 0) (l.set k (setH a (nI i))) = sm (fun (x : T6) => if x.2.2.2.2.1 = nI i then (1 : Int32) else 0) l + 1 := by
  intro l
  induction l with
  | nil => intro k a h; cases h
  | cons x l ih =>
    intro k a h h9
    cases k with
    | zero =>
      obtain rfl : x = a := by simpa using h
      show (if nI i = nI i then (1 : Int32) else 0) + sm (fun (x : T6) => if x.2.2.2.2.1 = nI i then (1 : Int32) else 0) l = ((if x.2.2.2.2.1 = nI i then (1 : Int32) else 0) + sm (fun (x : T6) => if x.2.2.2.2.1 = nI i then (1 : Int32) else 0) l) + 1
      rw [if_pos rfl, if_neg h9]
      grind
    | succ k =>
      have := ih k a (by simpa using h) h9
      show (if x.2.2.2.2.1 = nI i then (1 : Int32) else 0) + sm (fun (x : T6) => if x.2.2.2.2.1 = nI i then (1 : Int32) else 0) (l.set k (setH a (nI i))) = ((if x.2.2.2.2.1 = nI i then (1 : Int32) else 0) + sm (fun (x : T6) => if x.2.2.2.2.1 = nI i then (1 : Int32) else 0) l) + 1
      rw [this]
      grind
theorem hd_784 {i X k : Nat} {b : T6} (hi : i < 4) (hX : X < 2147483648) (hH : Ho c m N w) (hn : w.1 < 88000) (hb : w.2.1.2.2.2.2[k]? = some b) : ∃ w', B_hands_784 w (nI X) (w.2.1.1 4) (nI i) (nI (w.2.1.2.2.2.1 i).length) (nI k) b.2.2.2.2.1 b.1 b.2.1 1 = some (1, w') ∧ Fin9 w w' 15 := by
  have hV := hH.1
  have hk8 := hV.2.2.2.2.2.1
  unfold B_hands_784
  rcases (hV.2.2.2.2.2.2 b (mem_get hb)).2.2.2.2.2.1 with h9 | ⟨h, hh, ho⟩
  · rw [if_pos h9]
    unfold B_hands_804
    rw [if_neg (by decide), if_pos h9]
    unfold B_hands_836
    rw [if_pos (by decide)]
    obtain ⟨w', e', f'⟩ := hd_best (X := X) hi hX hH (by omega) hb
    exact ⟨w', e', f'.le (by omega)⟩
  · have hne9 : b.2.2.2.2.1 ≠ -9 := by rw [ho]; exact nI_m9 (by omega)
    have hl := (hV.2.2.2.2.1 h hh).1
    have e2 : h_tryCompany b.2.2.2.2.1 2 w = some (nI (w.2.1.2.2.2.1 h).length, w) := by rw [ho]; exact tCo2 hh
    have e3 : h_tryWhyNot (nI k) (nI (w.2.1.2.2.2.1 h).length) w = some (-9999001, w) := by unfold h_tryWhyNot; rw [nWhy_x hk8 hb ho hh hl]
    rw [if_neg hne9, e2, gbsN]
    unfold B_hands_804
    rw [if_neg (by decide), if_neg hne9, e3, gbsN, if_pos rfl]
    exact hd_run hi hX hH (by omega) hb hh ho
theorem hd_684 {i X k : Nat} {b : T6} (hi : i < 4) (hX : X < 2147483648) (hH : Ho c m N w) (hn : w.1 < 87000) (hb : w.2.1.2.2.2.2[k]? = some b) : ∃ w', B_hands_684 w (nI X) (w.2.1.1 4) (nI i) (nI (w.2.1.2.2.2.1 i).length) (nI k) b.2.2.2.2.1 (cntC w.2.1 i) b.1 b.2.1 = some (1, w') ∧ Fin9 w w' 17 := by
  have hH0 := hH
  obtain ⟨hV, hW, hN, hs⟩ := hH
  have hk8 := hV.2.2.2.2.2.1
  have hkl := lt_len hb
  have hT : aTake (nI i) (nI k) w = if b.2.2.2.2.1 = -9 then aAct w (cntC (gTake w.2.1 i k b) i) (gTake w.2.1 i k b) else (-9999003, w) := by
    unfold aTake
    rw [ixO_t hi (by omega)]
    show (match ixO w.2.1.2.2.2.2.length (nI k) with | none => _ | some j => _) = _
    rw [ixO_t hkl (by omega)]
    show (match w.2.1.2.2.2.2[k]? with | none => _ | some a => _) = _
    rw [hb]
  unfold B_hands_684 h_tryTake
  rw [hT]
  by_cases h9 : b.2.2.2.2.1 = -9
  · rw [if_pos h9]
    obtain ⟨w1, hw1⟩ : ∃ w1 : At, w1 = (aAct w (cntC (gTake w.2.1 i k b) i) (gTake w.2.1 i k b)).2 := ⟨_, rfl⟩
    have hA : aAct w (cntC (gTake w.2.1 i k b) i) (gTake w.2.1 i k b) = (cntC (gTake w.2.1 i k b) i, w1) := by rw [hw1]; rfl
    have hg : w1.2.1 = gTake w.2.1 i k b := by rw [hw1]; rfl
    have hV1 : V c m w1.2.1 := by rw [hg]; exact V_take hV hi hb
    have hW1 : Wf (N + 5000) w1.2.1 := by rw [hg]; exact Wf_take hV hW hi hb
    have hcn : cntC (gTake w.2.1 i k b) i = cntC w.2.1 i + 1 := cntC_set _ k b hb (by rw [h9]; exact fun e => nI_m9 (j := i) (by omega) e.symm)
    have hb1 : w1.2.1.2.2.2.2[k]? = some (setH b (nI i)) := by
      rw [hg]
      exact List.getElem?_set_self hkl
    obtain ⟨w2, e2, n2, g2, hH2, hF⟩ := hH0.back (w1 := w1) (by rw [hw1]; rfl) (by rw [hw1]; rfl) (by rw [hw1]; rfl)
    have hn1 : w1.1 = w.1 + 1 := by rw [hw1]; rfl
    have hb2 : w2.2.1.2.2.2.2[k]? = some b := by rw [g2]; exact hb
    have hk82 : w2.2.1.2.2.2.2.length ≤ 8 := by rw [g2]; exact hk8
    have e76 : h_tryWhyNot (nI k) 0 w2 = some (1, w2) := by unfold h_tryWhyNot; rw [nWhy_1 hk82 hb2 h9]
    have e78 : h_tryRun (nI k) 0 w2 = some (-9999003, w2) := by unfold h_tryRun; rw [aRun_1 hk82 hb2 h9]
    obtain ⟨w', e', f'⟩ := hd_784 (w := w2) (X := X) hi hX hH2 (by omega) hb2
    rw [g2] at e'
    refine ⟨w', ?_, (hF w' _ f').le (by omega)⟩
    rw [hA, gbsN, if_pos h9]
    unfold B_hands_707
    rw [if_pos hcn, tCt4 hb1 hV1.2.2.2.2.2.1, gbsN, if_pos h9]
    unfold B_hands_730
    rw [if_pos (show (setH b (nI i)).2.2.2.2.1 = nI i from rfl), sound_ok hV1 hW1 (by omega), gbsN, if_neg (by decide), e2, gbsN, if_pos rfl, if_pos h9, e76, gbsN, if_pos rfl, e78, gbsN, if_pos rfl]
    exact e'
  · rw [if_neg h9]
    obtain ⟨w2, e2, n2, g2, hH2, hF⟩ := hH0.back (w1 := w) rfl rfl rfl
    have hb2 : w2.2.1.2.2.2.2[k]? = some b := by rw [g2]; exact hb
    obtain ⟨w', e', f'⟩ := hd_784 (w := w2) (X := X) hi hX hH2 (by omega) hb2
    rw [g2] at e'
    refine ⟨w', ?_, (hF w' _ f').le (by omega)⟩
    rw [gbsN, if_neg h9]
    unfold B_hands_707
    rw [if_pos rfl, tCt4 hb hk8, gbsN, if_neg h9]
    unfold B_hands_730
    rw [if_pos rfl, sound_ok hV hW (by omega), gbsN, if_neg (by decide), e2, gbsN, if_pos rfl, if_neg h9]
    exact e'
theorem hd_539 {i X : Nat} (hi : i < 4) (hX : X < 2147483648) (hH : Ho c m N w) (hn : w.1 < 87000) : ∃ w', B_hands_539 w (nI X) (w.2.1.1 4) (nI i) (nI (w.2.1.2.2.2.1 i).length) 1 = some (1, w') ∧ Fin9 w w' 17 := by
  have hV := hH.1
  have hk8 := hV.2.2.2.2.2.1
  have hc9 := hV.1.2.1
  have e2 : h_tryAbout 2 w = some (nI w.2.1.2.2.2.2.length, w) := by simp [h_tryAbout, nAbout]
  unfold B_hands_539
  rw [e2, gbsN]
  by_cases h0 : w.2.1.2.2.2.2.length = 0
  · rw [if_pos (by rw [h0]; decide)]
    obtain ⟨w', e', f'⟩ := hd_1346 hi hX hH (by omega)
    exact ⟨w', e', f'.le (by omega)⟩
  · obtain ⟨k, hk⟩ : ∃ k, k = X / 16 % w.2.1.2.2.2.2.length := ⟨_, rfl⟩
    have hkl : k < w.2.1.2.2.2.2.length := by rw [hk]; exact Nat.mod_lt _ (by omega)
    have q : nI X / 16 - nI X / 16 / nI w.2.1.2.2.2.2.length * nI w.2.1.2.2.2.2.length = nI k := by
      rw [show (16 : Int32) = nI 16 from rfl, div_nI hX (by omega) (by omega), hk]
      exact rem_nI (by omega) (by omega) (by omega)
    obtain ⟨b, hb⟩ := some_of_lt hkl
    obtain ⟨x, y, hx, hy, hne, ex, ey⟩ := ct_xy hV hb
    have cx : b.1.toNatClampNeg = x := by rw [ex, nI_c (by omega)]
    have cy : b.2.1.toNatClampNeg = y := by rw [ey, nI_c (by omega)]
    have eL : h_tryLevelFor (nI i) (nI k) w = some (smL w.2.1 i x y 1 6, w) := by
      unfold h_tryLevelFor nLev
      rw [ixO_t hi (by omega)]
      show some (match ixO w.2.1.2.2.2.2.length (nI k) with | none => _ | some j => _, w) = _
      rw [ixO_t hkl (by omega)]
      show some (match w.2.1.2.2.2.2[k]? with | none => _ | some a => _, w) = _
      rw [hb]
      show some (smL w.2.1 i b.1.toNatClampNeg b.2.1.toNatClampNeg 1 6, w) = _
      rw [cx, cy]
    have fin := hd_684 (X := X) hi hX hH hn hb
    rw [if_neg (by rw [show (0 : Int32) = nI 0 from rfl, nIle (by omega) (by omega)]; omega), if_neg (by decide), gck_ok (ck_ne h0 (by omega)), q, gviN, tCt4 hb hk8, gbsN, tCo4 hi, gbsN, eL, gbsN, tCt0 hb hk8, gbsN, tCt1 hb hk8, gbsN, ex, ey]
    rw [ex, ey] at fin
    rcases smL_v (g := w.2.1) (i := i) (x := x) (y := y) 6 1 with ⟨h1, h2⟩ | ⟨j, h1, h2, h3, h4⟩
    · have h5 : cw9 w.2.1 i x y 24 = -9 := if_neg (h2 5 (by omega))
      rw [h1, if_pos rfl, show (24 : Int32) = nI 24 from rfl, tWay0 hV hi hx hy hne (by omega) (by omega), gbsN, h5, if_pos rfl]
      exact fin
    · have h5 : cw9 w.2.1 i x y (4 * (1 + j)) = nI (wC (wks w.2.1 i) y x (4 * (1 + j))) := if_pos h3
      have hlt : wC (wks w.2.1 i) y x (4 * (1 + j)) < 1000000 := wIs_of.mp h3
      rw [h2, if_neg (nI_m9 (by omega)), nI4, tWay0 hV hi hx hy hne (by omega) (by omega), gbsN, h5, if_neg (nI_m9 (by omega))]
      by_cases hj : j = 0
      · rw [if_pos (by rw [hj]; rfl)]
        exact fin
      · have h6 : cw9 w.2.1 i x y (4 * j) = -9 := if_neg (by have := h4 (j - 1) (by omega); rw [show 1 + (j - 1) = j by omega] at this; exact this)
        rw [if_neg (by rw [show (1 : Int32) = nI 1 from rfl, nI_inj (by omega) (by omega)]; omega), show (4 : Int32) = nI 4 from rfl, pk_sub (by omega), show 4 * (1 + j) - 4 = 4 * j by omega, tWay0 hV hi hx hy hne (by omega) (by omega), gbsN, h6, if_pos rfl]
        exact fin
end HND4
