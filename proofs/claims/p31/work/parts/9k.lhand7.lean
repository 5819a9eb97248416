section HND7
variable {c m N : Nat} {w : At}
theorem mayT_if {α : Type} {g : Game} {i : Nat} {a : T4} {F : Int32 → α} : (if a.2.2.2 = -9 then (if g.2.2.1 i 0 < 3 * a.2.2.1 then F 0 else F 1) else F 0) = F (bI (mayT g i a)) := by
  unfold mayT
  by_cases h1 : a.2.2.2 = -9
  · rw [if_pos h1, decide_eq_true h1]
    by_cases h2 : g.2.2.1 i 0 < 3 * a.2.2.1
    · rw [if_pos h2, decide_eq_true h2]; rfl
    · rw [if_neg h2, decide_eq_false h2]; rfl
  · rw [if_neg h1, decide_eq_false h1]; rfl
theorem hd_47 {i X : Nat} (hi : i < 4) (hX : X < 2147483648) (hH : Ho c m N w) (hT : 2 ≤ w.2.1.2.1.length) (hn : w.1 < 85000) : ∃ w', B_hands_47 w (nI X) (w.2.1.1 4) (nI i) (w.2.1.2.2.1 i 0) (w.2.1.1 5) 1 = some (1, w') ∧ Fin9 w w' 21 := by
  have hH0 := hH
  obtain ⟨hV, hW, hN, hs⟩ := hH
  have hl16 := hV.2.2.1.1
  obtain ⟨t, ht⟩ : ∃ t, t = X / 4 % w.2.1.2.1.length := ⟨_, rfl⟩
  have htl : t < w.2.1.2.1.length := by rw [ht]; exact Nat.mod_lt _ (by omega)
  have q : nI X / 4 - nI X / 4 / nI w.2.1.2.1.length * nI w.2.1.2.1.length = nI t := by
    rw [show (4 : Int32) = nI 4 from rfl, div_nI hX (by omega) (by omega), ht]
    exact rem_nI (by omega) (by omega) (by omega)
  obtain ⟨a, ha⟩ := some_of_lt htl
  have e1 : h_tryAbout 1 w = some (nI w.2.1.2.1.length, w) := by simp [h_tryAbout, nAbout]
  have e5 : h_tryAbout 5 w = some (w.2.1.1 5, w) := by simp [h_tryAbout, nAbout]
  have hB : aBuyTrack (nI i) (nI t) w = if mayT w.2.1 i a = true then aAct w ((gSellT w.2.1 i t a).2.2.1 i 0) (gSellT w.2.1 i t a) else (-9999003, w) := by
    unfold aBuyTrack
    rw [ixO_t hi (by omega)]
    show (match ixO w.2.1.2.1.length (nI t) with | none => _ | some j => _) = _
    rw [ixO_t htl (by omega)]
    show (match w.2.1.2.1[t]? with | none => _ | some a => _) = _
    rw [ha]
  unfold B_hands_47
  rw [e1, gbsN, gck_ok (ck_ne (by omega) (by omega)), q, gviN, tTr2 ha hl16, gbsN, gviN, tTr3 ha hl16, gbsN, mayT_if (F := fun t0 => B_hands_103 w (nI X) (w.2.1.1 4) (nI i) (w.2.1.2.2.1 i 0) (w.2.1.1 5) 1 (nI t) (3 * a.2.2.1) a.2.2.2 t0)]
  unfold B_hands_103 h_tryBuyTrack
  rw [if_neg (by decide), hB]
  cases hm : mayT w.2.1 i a with
  | false =>
    obtain ⟨w2, e2, n2, g2, hH2, hF⟩ := hH0.back (w1 := w) rfl rfl rfl
    obtain ⟨w', e', f'⟩ := hd_199 (w := w2) (X := X) hi hX hH2 (by omega)
    rw [g2] at e'
    refine ⟨w', ?_, (hF w' _ f').le (by omega)⟩
    rw [if_neg (show ¬ false = true by decide), gbsN, if_pos (show bI false = 0 from rfl)]
    unfold B_hands_132
    rw [if_pos rfl, e5, gbsN, if_pos (show bI false = 0 from rfl)]
    unfold B_hands_153
    rw [if_pos (Int32.add_zero _).symm, tTr3 ha hl16, gbsN, if_pos (show bI false = 0 from rfl)]
    unfold B_hands_175
    rw [if_pos rfl, sound_ok hV hW (by omega), gbsN, if_neg (by decide), e2, gbsN, if_pos rfl]
    exact e'
  | true =>
    obtain ⟨w1, hw1⟩ : ∃ w1 : At, w1 = (aAct w ((gSellT w.2.1 i t a).2.2.1 i 0) (gSellT w.2.1 i t a)).2 := ⟨_, rfl⟩
    have hA : aAct w ((gSellT w.2.1 i t a).2.2.1 i 0) (gSellT w.2.1 i t a) = ((gSellT w.2.1 i t a).2.2.1 i 0, w1) := by rw [hw1]; rfl
    have hg : w1.2.1 = gSellT w.2.1 i t a := by rw [hw1]; rfl
    have hV1 : V c m w1.2.1 := by rw [hg]; exact V_sellT hV hi ha
    have hW1 : Wf (N + 5000) w1.2.1 := by rw [hg]; exact Wf_sellT hV hW hi ha (by omega)
    have hco : (gSellT w.2.1 i t a).2.2.1 i 0 = w.2.1.2.2.1 i 0 - 3 * a.2.2.1 := bank_me.1
    have hbk : (gSellT w.2.1 i t a).1 5 = w.2.1.1 5 + 3 * a.2.2.1 := rfl
    have ha1 : w1.2.1.2.1[t]? = some (setO a (nI i)) := by
      rw [hg]
      exact List.getElem?_set_self htl
    have e51 : h_tryAbout 5 w1 = some (w1.2.1.1 5, w1) := by simp [h_tryAbout, nAbout]
    rw [← hg] at hbk
    obtain ⟨w2, e2, n2, g2, hH2, hF⟩ := hH0.back (w1 := w1) (by rw [hw1]; rfl) (by rw [hw1]; rfl) (by rw [hw1]; rfl)
    have hn1 : w1.1 = w.1 + 1 := by rw [hw1]; rfl
    obtain ⟨w', e', f'⟩ := hd_199 (w := w2) (X := X) hi hX hH2 (by omega)
    rw [g2] at e'
    refine ⟨w', ?_, (hF w' _ f').le (by omega)⟩
    rw [if_pos rfl, hA, gbsN, if_neg (show ¬ bI true = 0 by decide)]
    unfold B_hands_132
    rw [if_pos hco, e51, gbsN, if_neg (show ¬ bI true = 0 by decide)]
    unfold B_hands_153
    rw [if_pos hbk, tTr3 ha1 hV1.2.2.1.1, gbsN, if_neg (show ¬ bI true = 0 by decide)]
    unfold B_hands_175
    rw [if_pos (show (setO a (nI i)).2.2.2 = nI i from rfl), sound_ok hV1 hW1 (by omega), gbsN, if_neg (by decide), e2, gbsN, if_pos rfl]
    exact e'
theorem hands_ok {X : Nat} (hX : X < 2147483648) (hV : V c m w.2.1) (hW : Wf N w.2.1) (hN : N ≤ 30000000) (hT : 2 ≤ w.2.1.2.1.length) (hn : w.1 < 84000) : ∃ w', h_hands (nI X) w = some (1, w') ∧ w'.1 ≤ w.1 + 22 ∧ w'.2 = (w.2.1, w.2.2.1, w.2.2.2.1, [], fun j => if j = 0 then some w.2.1 else w.2.2.2.2.2 j) := by
  have e4 : h_tryAbout 4 w = some (w.2.1.1 4, w) := by simp [h_tryAbout, nAbout]
  have e5 : h_tryAbout 5 w = some (w.2.1.1 5, w) := by simp [h_tryAbout, nAbout]
  have q3 : nI X - nI X / 4 * 4 = nI (X % 4) := by rw [show (4 : Int32) = nI 4 from rfl]; exact rem_nI hX (by omega) (by omega)
  have hi : X % 4 < 4 := Nat.mod_lt _ (by omega)
  obtain ⟨w1, hw1⟩ : ∃ w1 : At, w1 = (w.1 + 1, (w.2.1, w.2.2.1, w.2.2.2.1, w.2.2.2.2.1, fun j => if j = 0 then some w.2.1 else w.2.2.2.2.2 j)) := ⟨_, rfl⟩
  have es : h_trySave 0 w = some (w.2.1.1 4, w1) := by
    unfold h_trySave aSave
    rw [ix20, hw1]
  have hg : w1.2.1 = w.2.1 := by rw [hw1]
  have hH : Ho c m N w1 := by
    rw [hw1]
    exact ⟨hV, hW, hN, by show (if (0 : Nat) = 0 then some w.2.1 else w.2.2.2.2.2 0) = some w.2.1; rw [if_pos rfl]⟩
  obtain ⟨w', e', f1, f2⟩ := hd_47 (w := w1) (X := X) hi hX hH (by rw [hg]; exact hT) (by rw [hw1]; show w.1 + 1 < _; omega)
  rw [hg] at e'
  refine ⟨w', ?_, ?_, ?_⟩
  · unfold h_hands
    rw [e4, gbsN, q3, gviN, tCo0 hi, gbsN, e5, gbsN, es, gbsN, if_pos rfl, ways_ok (c := c) (m := m) (by rw [hg]; exact hV) hX, gbsN, if_neg (by decide)]
    exact e'
  · have : w'.1 ≤ w1.1 + 21 := f1
    rw [hw1] at this
    have this : w'.1 ≤ w.1 + 1 + 21 := this
    omega
  · rw [f2, hw1]
end HND7
