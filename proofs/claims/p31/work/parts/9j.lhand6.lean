section HND6
variable {c m N : Nat} {w : At}
theorem mayN_if {α : Type} {g : Game} {i : Nat} {lv : Int32} {F : Int32 → α} (hl : (g.2.2.2.1 i).length ≤ 4) : (if lv < g.1 3 - 1 then F 0 else if g.1 3 + 1 < lv then F 0 else if (4 : Int32) ≤ nI (g.2.2.2.1 i).length then F 0 else if g.2.2.1 i 0 < 20 * lv then F 0 else F 1) = F (bI (mayN g i lv)) := by
  have e3 : ((4 : Int32) ≤ nI (g.2.2.2.1 i).length) ↔ ¬ (g.2.2.2.1 i).length < 4 := by
    rw [show (4 : Int32) = nI 4 from rfl, nIle (by omega) (by omega)]
    omega
  have e1 : (g.1 3 - 1 ≤ lv) ↔ ¬ lv < g.1 3 - 1 := by rw [i32_le, i32_lt]; omega
  have e2 : (lv ≤ g.1 3 + 1) ↔ ¬ g.1 3 + 1 < lv := by rw [i32_le, i32_lt]; omega
  unfold mayN
  by_cases h1 : lv < g.1 3 - 1
  · rw [if_pos h1, decide_eq_false (p := g.1 3 - 1 ≤ lv) (fun q => e1.mp q h1)]; rfl
  · rw [if_neg h1, decide_eq_true (p := g.1 3 - 1 ≤ lv) (e1.mpr h1)]
    by_cases h2 : g.1 3 + 1 < lv
    · rw [if_pos h2, decide_eq_false (p := lv ≤ g.1 3 + 1) (fun q => e2.mp q h2)]; rfl
    · rw [if_neg h2, decide_eq_true (p := lv ≤ g.1 3 + 1) (e2.mpr h2)]
      by_cases h3 : (g.2.2.2.1 i).length < 4
      · rw [if_neg (fun q => e3.mp q h3), decide_eq_true h3]
        by_cases h4 : g.2.2.1 i 0 < 20 * lv
        · rw [if_pos h4, decide_eq_true h4]; rfl
        · rw [if_neg h4, decide_eq_false h4]; rfl
      · rw [if_pos (e3.mpr h3), decide_eq_false h3]; rfl
theorem bank_me {g : Game} {i : Nat} {x : Int32} : (gBank g i x).2.2.1 i 0 = g.2.2.1 i 0 - x ∧ (gBank g i x).1 5 = g.1 5 + x := by
  refine ⟨?_, rfl⟩
  show (if i = i ∧ 0 = 0 then _ else _) = _
  rw [if_pos ⟨rfl, rfl⟩]
theorem sellN_v {g : Game} {i lv p : Nat} (hi : i < 4) (hm : mayN g i (nI lv) = true) (hp : g.1 3 = nI p) (hp6 : p ≤ 6) (hl1 : 1 ≤ lv) (hl6 : lv ≤ 6) : rSellN g i (nI lv) = nI (if nI lv ≤ g.1 3 then 0 else oS (g.1 3) g.2.2.2.1 0 4) ∧ (gSellN g i (nI lv)).1 3 = (if nI lv ≤ g.1 3 then g.1 3 else nI lv) ∧ (gSellN g i (nI lv)).1 10 = g.1 10 + nI (if nI lv ≤ g.1 3 then 0 else oS (g.1 3) g.2.2.2.1 0 4) ∧ (gSellN g i (nI lv)).2.2.1 i 0 = g.2.2.1 i 0 - 20 * nI lv ∧ aS (gSellN g i (nI lv)).2.2.2.1 0 4 + (if nI lv ≤ g.1 3 then 0 else oS (g.1 3) g.2.2.2.1 0 4) = aS g.2.2.2.1 0 4 + 1 := by
  have hle : nI lv ≤ g.1 3 ↔ lv ≤ p := by rw [hp, nIle (by omega) (by omega)]
  have hlt : g.1 3 < nI lv ↔ p < lv := by rw [hp, nIlt (by omega) (by omega)]
  have hadd : aS (fun a => if a = i then g.2.2.2.1 i ++ [(nI lv, 0)] else g.2.2.2.1 a) 0 4 = aS g.2.2.2.1 0 4 + 1 := aS_add hi (by simp)
  unfold rSellN gSellN
  by_cases h : p < lv
  · have hlp : lv ≤ p + 1 := by
      unfold mayN at hm
      rw [Bool.and_eq_true, Bool.and_eq_true, Bool.and_eq_true] at hm
      have m2 := of_decide_eq_true hm.1.1.2
      rw [hp, nIp1, nIle (by omega) (by omega)] at m2
      exact m2
    have e1 : nI lv - 1 = nI p := by rw [show (1 : Int32) = nI 1 from rfl, pk_sub (by omega)]; congr 1; omega
    have hos : oS (nI p) (fun a => if a = i then g.2.2.2.1 i ++ [(nI lv, 0)] else g.2.2.2.1 a) 0 4 = oS (nI p) g.2.2.2.1 0 4 := oS_add hi (od9_app _ (by show nI p ≤ nI lv; rw [nIle (by omega) (by omega)]; omega))
    have hdr : drs (gAddN g i (nI lv)).2.2.2.1 (nI lv - 1) 0 4 0 = nI (oS (nI p) g.2.2.2.1 0 4) := by
      have := drs_oS (P := nI p) (tn := fun a => if a = i then g.2.2.2.1 i ++ [(nI lv, 0)] else g.2.2.2.1 a) 4 0 0
      rw [nI_0, Nat.zero_add, hos] at this
      rw [e1]
      exact this
    have hf := aS_fil (P := nI p) (tn := fun a => if a = i then g.2.2.2.1 i ++ [(nI lv, 0)] else g.2.2.2.1 a) 4 0
    rw [hadd, hos] at hf
    rw [if_pos (hlt.mpr h), if_neg (fun q => absurd (hle.mp q) (by omega)), if_pos (hlt.mpr h), if_neg (fun q => absurd (hle.mp q) (by omega)), hdr, hp]
    refine ⟨rfl, rfl, rfl, bank_me.1, ?_⟩
    rw [e1]
    exact hf
  · rw [if_neg (fun q => h (hlt.mp q)), if_pos (hle.mpr (by omega)), if_neg (fun q => h (hlt.mp q)), if_pos (hle.mpr (by omega))]
    refine ⟨nI_0.symm, rfl, ?_, bank_me.1, hadd⟩
    rw [nI_0, Int32.add_zero]
    rfl
theorem hd_521 {i X A B : Nat} {t0 : Int32} {w1 : At} (hi : i < 4) (hX : X < 2147483648) (hH : Ho c m N w) (hn : w.1 < 86000) (hn1 : w1.1 ≤ w.1 + 1) (h : w1.2.2.2.2.2 = w.2.2.2.2.2) (ht : w1.2.2.1 = w.2.2.1) (hz : w1.2.2.2.1 = w.2.2.2.1) (hA : nI B = nI A + t0) : ∃ w', B_hands_521 w1 (nI X) (w.2.1.1 4) (nI i) (nI (w.2.1.2.2.2.1 i).length) t0 (nI A) (nI B) = some (1, w') ∧ Fin9 w w' 19 := by
  obtain ⟨w2, e2, n2, g2, hH2, hF⟩ := hH.back h ht hz
  obtain ⟨w', e', f'⟩ := hd_539 (w := w2) (X := X) hi hX hH2 (by omega)
  rw [g2] at e'
  refine ⟨w', ?_, (hF w' _ f').le (by omega)⟩
  unfold B_hands_521
  rw [if_pos hA, e2, gbsN, if_pos rfl]
  exact e'
theorem hd_199 {i X : Nat} (hi : i < 4) (hX : X < 2147483648) (hH : Ho c m N w) (hn : w.1 < 86000) : ∃ w', B_hands_199 w (nI X) (w.2.1.1 4) (nI i) (w.2.1.2.2.1 i 0) 1 = some (1, w') ∧ Fin9 w w' 19 := by
  have hH0 := hH
  obtain ⟨hV, hW, hN, hs⟩ := hH
  obtain ⟨p, p1, p6, hp⟩ := hV.2.1
  have hl4 : ∀ k, k < 4 → (w.2.1.2.2.2.1 k).length ≤ 4 := fun k hk => (hV.2.2.2.2.1 k hk).1
  obtain ⟨lv, hlv⟩ : ∃ lv, lv = 1 + X / 64 % 6 := ⟨_, rfl⟩
  have q13 : 1 + (nI X / 64 - nI X / 64 / 6 * 6) = nI lv := by rw [hlv, show (64 : Int32) = nI 64 from rfl, show (6 : Int32) = nI 6 from rfl, div_nI hX (by omega) (by omega), rem_nI (by omega) (by omega) (by omega), show (1 : Int32) = nI 1 from rfl, nI_add]
  have e3 : h_tryAbout 3 w = some (w.2.1.1 3, w) := by simp [h_tryAbout, nAbout]
  have e10 : h_tryAbout 10 w = some (w.2.1.1 10, w) := by simp [h_tryAbout, nAbout]
  have hB : aBuyTrain (nI i) (nI lv) w = if mayN w.2.1 i (nI lv) = true then aAct w (rSellN w.2.1 i (nI lv)) (gSellN w.2.1 i (nI lv)) else (-9999003, w) := by
    unfold aBuyTrain
    rw [ixO_t hi (by omega)]
    show (if rgB 1 6 (nI lv) = true then _ else _) = _
    rw [if_pos (show rgB 1 6 (nI lv) = true from rgB_in (a := 1) (b := 6) (by omega) (by omega) (by omega))]
  have h285 := hd_285 (w := w) (x1 := nI X) (x2 := w.2.1.1 4) (x3 := nI i) (x4 := w.2.1.2.2.1 i 0) (P := w.2.1.1 3) (lv := nI lv) (x14 := nI (w.2.1.2.2.2.1 i).length) (x15 := w.2.1.1 10) (may := mayN w.2.1 i (nI lv)) hl4 4 0 5 0 0 rfl (by omega)
  rw [nI_0, Nat.zero_add, Nat.zero_add] at h285
  unfold B_hands_199
  rw [e3, gbsN, q13, gviN, tCo2 hi, gbsN, e10, gbsN, mayN_if (F := fun t => B_hands_274 w (nI X) (w.2.1.1 4) (nI i) (w.2.1.2.2.1 i 0) 1 (w.2.1.1 3) (nI lv) (nI (w.2.1.2.2.2.1 i).length) (w.2.1.1 10) t) (hl4 i hi)]
  unfold B_hands_274
  rw [h285]
  unfold h_tryBuyTrain
  rw [hB]
  have hA20 := aS_le (tn := w.2.1.2.2.2.1) 4 0 (fun a _ h => Nat.le_succ_of_le (hl4 a (by omega)))
  obtain ⟨O, hO⟩ : ∃ O, O = (if nI lv ≤ w.2.1.1 3 then 0 else oS (w.2.1.1 3) w.2.1.2.2.2.1 0 4) := ⟨_, rfl⟩
  rw [← hO]
  cases hm : mayN w.2.1 i (nI lv) with
  | false =>
    have h475 := hd_475 (w1 := w) (x1 := nI X) (x2 := w.2.1.1 4) (x3 := nI i) (x14 := nI (w.2.1.2.2.2.1 i).length) (x16 := bI false) (x17 := nI (aS w.2.1.2.2.2.1 0 4)) (x18 := nI O) hl4 4 0 5 0 rfl (by omega)
    rw [nI_0, Nat.zero_add, if_pos (show bI false = 0 from rfl)] at h475
    obtain ⟨w', e', f'⟩ := hd_521 (w1 := w) (A := aS w.2.1.2.2.2.1 0 4) (B := aS w.2.1.2.2.2.1 0 4) (t0 := 0) hi hX hH0 hn (by omega) rfl rfl rfl (Int32.add_zero _).symm
    refine ⟨w', ?_, f'⟩
    rw [if_neg (show ¬ false = true by decide), gbsN, if_neg (show ¬ false = true by decide)]
    unfold B_hands_376
    rw [if_pos rfl, e3, gbsN, if_pos (show bI false = 0 from rfl)]
    unfold B_hands_403
    rw [if_pos rfl, e10, gbsN, if_pos (show bI false = 0 from rfl)]
    unfold B_hands_425
    rw [if_pos (Int32.add_zero _).symm, tCo0 hi, gbsN, if_pos (show bI false = 0 from rfl)]
    unfold B_hands_451
    rw [if_pos (Int32.sub_zero _).symm, sound_ok hV hW (by omega), gbsN, if_neg (by decide)]
    unfold B_hands_467
    rw [h475]
    exact e'
  | true =>
    obtain ⟨s1, s2, s3, s4, s5⟩ := sellN_v hi hm hp p6 (by omega) (by omega)
    obtain ⟨w1, hw1⟩ : ∃ w1 : At, w1 = (aAct w (rSellN w.2.1 i (nI lv)) (gSellN w.2.1 i (nI lv))).2 := ⟨_, rfl⟩
    have hA : aAct w (rSellN w.2.1 i (nI lv)) (gSellN w.2.1 i (nI lv)) = (rSellN w.2.1 i (nI lv), w1) := by rw [hw1]; rfl
    have hg : w1.2.1 = gSellN w.2.1 i (nI lv) := by rw [hw1]; rfl
    have hV1 : V c m w1.2.1 := by rw [hg]; exact V_sellN hV hi (mayN_len4 hm) ⟨lv, by omega, by omega, rfl⟩
    have hW1 : Wf (N + 5000) w1.2.1 := by rw [hg]; exact Wf_sellN hV hW hi hm (by omega) (by omega) (by omega)
    rw [← hg] at s2 s3 s4 s5
    rw [← hO] at s1 s3 s5
    have e31 : h_tryAbout 3 w1 = some (w1.2.1.1 3, w1) := by simp [h_tryAbout, nAbout]
    have e101 : h_tryAbout 10 w1 = some (w1.2.1.1 10, w1) := by simp [h_tryAbout, nAbout]
    have h475 := hd_475 (w1 := w1) (x1 := nI X) (x2 := w.2.1.1 4) (x3 := nI i) (x14 := nI (w.2.1.2.2.2.1 i).length) (x16 := bI true) (x17 := nI (aS w.2.1.2.2.2.1 0 4)) (x18 := nI O) (fun k hk => (hV1.2.2.2.2.1 k hk).1) 4 0 5 0 rfl (by omega)
    rw [nI_0, Nat.zero_add, if_neg (show ¬ bI true = 0 by decide)] at h475
    have hAB : nI (aS w1.2.1.2.2.2.1 0 4) = nI (aS w.2.1.2.2.2.1 0 4) + (1 - nI O) := by
      rw [Int32.sub_eq_add_neg, ← Int32.add_assoc, nIp1, ← Int32.sub_eq_add_neg, pk_sub (by omega)]
      congr 1
      omega
    obtain ⟨w', e', f'⟩ := hd_521 (w1 := w1) (A := aS w.2.1.2.2.2.1 0 4) (B := aS w1.2.1.2.2.2.1 0 4) (t0 := 1 - nI O) hi hX hH0 hn (by rw [hw1]; exact Nat.le_refl _) (by rw [hw1]; rfl) (by rw [hw1]; rfl) (by rw [hw1]; rfl) hAB
    refine ⟨w', ?_, f'⟩
    rw [if_pos rfl, hA, gbsN, if_pos rfl]
    unfold B_hands_376
    rw [if_pos s1, e31, gbsN, if_neg (show ¬ bI true = 0 by decide)]
    have h403 : B_hands_403 w1 (nI X) (w.2.1.1 4) (nI i) (w.2.1.2.2.1 i 0) (nI lv) (nI (w.2.1.2.2.2.1 i).length) (w.2.1.1 10) (bI true) (nI (aS w.2.1.2.2.2.1 0 4)) (nI O) (w1.2.1.1 3) (w1.2.1.1 3) = some (1, w') := by
      unfold B_hands_403
      rw [if_pos rfl, e101, gbsN, if_neg (show ¬ bI true = 0 by decide)]
      unfold B_hands_425
      rw [if_pos s3, tCo0 hi, gbsN, if_neg (show ¬ bI true = 0 by decide)]
      unfold B_hands_451
      rw [if_pos s4, sound_ok hV1 hW1 (by omega), gbsN, if_neg (by decide)]
      unfold B_hands_467
      rw [h475]
      exact e'
    by_cases hle : nI lv ≤ w.2.1.1 3
    · rw [if_pos hle] at s2
      rw [if_pos hle]
      rw [s2] at h403 ⊢
      exact h403
    · rw [if_neg hle] at s2
      rw [if_neg hle]
      rw [s2] at h403 ⊢
      exact h403
end HND6
