section HND
variable {c m N : Nat} {w : At}
theorem hd_1346 {i X : Nat} (hi : i < 4) (hX : X < 2147483648) (hH : Ho c m N w) (hn : w.1 < 90000) : ∃ w', B_hands_1346 w (nI X) (w.2.1.1 4) (nI i) 1 = some (1, w') ∧ Fin9 w w' 13 := by
  obtain ⟨hV, hW, hN, hs⟩ := hH
  obtain ⟨w1, e1, q1, q2, q3, q4⟩ := rounds_ok hi hX hV hW (by omega) hn
  have e2 := tRes (w := w1) (g := w.2.1) (by rw [q4]; exact hs)
  obtain ⟨w2, h2⟩ : ∃ w2 : At, w2 = (w1.1 + 1, (w.2.1, w1.2.2.1, w1.2.2.2.1, [], w1.2.2.2.2.2)) := ⟨_, rfl⟩
  rw [← h2] at e2
  have e3 : h_tryUndo w2 = some (-9999003, w2) := by
    unfold h_tryUndo aUndo
    rw [h2]
    rfl
  refine ⟨w2, ?_, ?_, ?_⟩
  · unfold B_hands_1346
    rw [if_neg (by decide), e1, gbsN, if_neg (by decide), e2, gbsN, if_pos rfl, e3, gbsN, if_pos rfl]
  · rw [h2]
    show w1.1 + 1 ≤ _
    omega
  · rw [h2, ← q2, ← q3, ← q4]
theorem grL_le {l : List T2} {t : T2} {a : Int32} : grL (t :: l) a = grL l (if t.1 ≤ a then a else t.1) := by
  show grL l (if a < t.1 then t.1 else a) = _
  congr 1
  by_cases e : t.1 ≤ a
  · rw [if_pos e, if_neg (by rw [i32_le] at e; rw [i32_lt]; omega)]
  · rw [if_neg e, if_pos (by rw [i32_le] at e; rw [i32_lt]; omega)]
theorem hd_1119 {x1 x2 x6 x21 x22 x25 x26 x28 : Int32} {i : Nat} (hi : i < 4) (hl : (w.2.1.2.2.2.1 i).length ≤ 4) : ∀ (d j fu : Nat) (a : Int32), j + d = (w.2.1.2.2.2.1 i).length → d < fu → L_hands_1119 fu w x1 x2 (nI i) x6 (nI (w.2.1.2.2.2.1 i).length) x21 x22 x25 x26 x28 a (nI j) = if grL ((w.2.1.2.2.2.1 i).drop j) a = 0 then B_hands_1184 w x1 x2 (nI i) x6 x21 x22 x28 (grL ((w.2.1.2.2.2.1 i).drop j) a) (-9) else gbs (h_tryWay (nI i) x25 x26 (4 * grL ((w.2.1.2.2.2.1 i).drop j) a) 0 w) (fun v S => B_hands_1184 S x1 x2 (nI i) x6 x21 x22 x28 (grL ((w.2.1.2.2.2.1 i).drop j) a) v) := by
  intro d
  induction d with
  | zero =>
    intro j fu a hj hf
    obtain ⟨fu, rfl⟩ : ∃ f, fu = f + 1 := ⟨fu - 1, by omega⟩
    show Lb_hands_1119 _ w x1 x2 (nI i) x6 (nI (w.2.1.2.2.2.1 i).length) x21 x22 x25 x26 x28 a (nI j) = _
    unfold Lb_hands_1119
    rw [if_pos (by rw [nIle (by omega) (by omega)]; omega), List.drop_eq_nil_of_le (by omega)]
    rfl
  | succ d ih =>
    intro j fu a hj hf
    obtain ⟨fu, rfl⟩ : ∃ f, fu = f + 1 := ⟨fu - 1, by omega⟩
    obtain ⟨x, hx⟩ := some_of_lt (show j < (w.2.1.2.2.2.1 i).length by omega)
    show Lb_hands_1119 _ w x1 x2 (nI i) x6 (nI (w.2.1.2.2.2.1 i).length) x21 x22 x25 x26 x28 a (nI j) = _
    unfold Lb_hands_1119
    rw [if_neg (by rw [nIle (by omega) (by omega)]; omega), tTn0 hi hx hl, gbsN, drop_g9 hx, grL_le]
    by_cases e : x.1 ≤ a
    · rw [if_pos e, if_pos e, gviN, nI_s]
      exact ih (j + 1) fu _ (by omega) (by omega)
    · rw [if_neg e, if_neg e, tTn0 hi hx hl, gbsN, gviN, nI_s]
      exact ih (j + 1) fu _ (by omega) (by omega)
/-- the contract named -/
theorem ct_xy (hV : V c m w.2.1) {k : Nat} {b : T6} (hb : w.2.1.2.2.2.2[k]? = some b) : ∃ x y, x < c ∧ y < c ∧ x ≠ y ∧ b.1 = nI x ∧ b.2.1 = nI y := by
  obtain ⟨⟨x, hx, ex⟩, ⟨y, hy, ey⟩, hne, -⟩ := hV.2.2.2.2.2.2 b (mem_get hb)
  exact ⟨x, y, hx, hy, fun e => hne (by rw [ex, ey, e]), ex, ey⟩
theorem hd_1253 {i X k lv : Nat} {b : T6} {x30 best : Int32} (hi : i < 4) (hV : V c m w.2.1) (hb : w.2.1.2.2.2.2[k]? = some b) (hlv1 : 1 ≤ lv) (hlv : lv ≤ 6) (hbs : best = bsC w.2.1 i lv w.2.1.2.2.2.2 0 (-9) 0) (is : Bool) (his : is = true → pr9 w.2.1 i lv b ∧ x30 = nI (wC (wks w.2.1 i) b.2.1.toNatClampNeg b.1.toNatClampNeg (4 * lv))) : B_hands_1253 w (nI X) (w.2.1.1 4) (nI i) (nI k) best (nI lv) x30 (bI is) 1 = B_hands_1346 w (nI X) (w.2.1.1 4) (nI i) 1 := by
  have hk8 := hV.2.2.2.2.2.1
  have hc9 := hV.1.2.1
  unfold B_hands_1253
  cases is with
  | false => rw [if_pos (show bI false = 0 from rfl)]
  | true =>
    obtain ⟨hp, hx30⟩ := his rfl
    rw [if_neg (show ¬ bI true = 0 by decide)]
    rcases bsC_v (g := w.2.1) (i := i) (lv := lv) w.2.1.2.2.2.2 0 (-9) 0 (by omega) with ⟨h1, h2⟩ | ⟨j, a, h1, h2, h3, h4, h5⟩
    · rw [if_pos (by rw [hbs, h1])]
    · have hj := lt_len h1
      rw [h3, Nat.zero_add] at hbs
      rw [hbs, if_neg (nI_m9 (by omega)), if_neg (by decide)]
      obtain ⟨x, y, hx, hy, hne, ex, ey⟩ := ct_xy hV h1
      have e0 : h_tryContract (nI j) 0 w = some (nI x, w) := by rw [← ex]; exact tCt0 h1 hk8
      have e1 : h_tryContract (nI j) 1 w = some (nI y, w) := by rw [← ey]; exact tCt1 h1 hk8
      have cx : a.1.toNatClampNeg = x := by rw [ex, nI_c (by omega)]
      have cy : a.2.1.toNatClampNeg = y := by rw [ey, nI_c (by omega)]
      have hw : wIs (wks w.2.1 i) y x (4 * lv) = true := by have := h2.2; rw [cx, cy] at this; exact this
      have hg : a.2.2.1 - nI (wC (wks w.2.1 i) y x (4 * lv)) = gn9 w.2.1 i lv a := by unfold gn9; rw [cx, cy]
      have hg2 : b.2.2.1 - x30 = gn9 w.2.1 i lv b := by unfold gn9; rw [hx30]
      obtain ⟨g1, g2⟩ := h5 k b hb hp
      rw [tCt2 h1 hk8, gbsN, e0, gbsN, e1, gbsN, nI4, tWay0 hV hi hx hy hne (by omega) (by omega), gbsN]
      unfold cw9
      rw [if_pos hw, gviN, tCt2 hb hk8, gbsN, gviN, hg, hg2]
      by_cases q : gn9 w.2.1 i lv b < gn9 w.2.1 i lv a
      · rw [if_pos q]
      · have qe : gn9 w.2.1 i lv a = gn9 w.2.1 i lv b := by
          rw [i32_lt] at q g1
          exact Int32.toInt_inj.mp (by omega)
        rw [if_neg q, if_pos qe, if_neg (by
          rw [nIlt (by have := lt_len hb; omega) (by omega)]
          intro z
          exact q (g2 z))]
theorem hd_1224 {i X k lv : Nat} {b : T6} {x30 best : Int32} (hi : i < 4) (hV : V c m w.2.1) (hb : w.2.1.2.2.2.2[k]? = some b) (hlv : lv ≤ 6) (hbs : best = bsC w.2.1 i lv w.2.1.2.2.2.2 0 (-9) 0) (is : Bool) (his : is = true → pr9 w.2.1 i lv b ∧ x30 = nI (wC (wks w.2.1 i) b.2.1.toNatClampNeg b.1.toNatClampNeg (4 * lv))) : B_hands_1224 w (nI X) (w.2.1.1 4) (nI i) (nI k) best (nI lv) x30 (bI is) = B_hands_1346 w (nI X) (w.2.1.1 4) (nI i) 1 := by
  have hk8 := hV.2.2.2.2.2.1
  unfold B_hands_1224
  rcases bsC_v (g := w.2.1) (i := i) (lv := lv) w.2.1.2.2.2.2 0 (-9) 0 (by omega) with ⟨h1, h2⟩ | ⟨j, a, h1, h2, h3, h4, h5⟩
  · have h9 : best = -9 := by rw [hbs, h1]
    rw [if_pos h9]
    unfold B_hands_1253
    split
    · rfl
    · first | rfl | rw [if_pos h9]
  · have hj := lt_len h1
    have hb9 : best = nI j := by rw [hbs, h3, Nat.zero_add]
    have hl0 : 1 ≤ lv := by
      rcases Nat.eq_zero_or_pos lv with q | q
      · rw [q, bsC_0] at h3
        exact absurd h3.symm (nI_m9 (by omega))
      · exact q
    rw [if_neg (by rw [hb9]; exact nI_m9 (by omega)), hb9, tCt4 h1 hk8, gbsN, if_pos h2.1, if_neg (by rw [show (0 : Int32) = nI 0 from rfl, nIle (by omega) (by omega)]; omega)]
    exact hd_1253 hi hV hb hl0 hlv (by rw [← hb9]; exact hbs) is his
theorem hd_1106 {i X k : Nat} {b : T6} (hi : i < 4) (hV : V c m w.2.1) (hb : w.2.1.2.2.2.2[k]? = some b) : B_hands_1106 w (nI X) (w.2.1.1 4) (nI i) 1 (nI (w.2.1.2.2.2.1 i).length) (nI k) b.2.2.2.2.1 b.1 b.2.1 = B_hands_1346 w (nI X) (w.2.1.1 4) (nI i) 1 := by
  have hk8 := hV.2.2.2.2.2.1
  have hc9 := hV.1.2.1
  obtain ⟨hl, ht⟩ := hV.2.2.2.2.1 i hi
  obtain ⟨lv, hlv, hgr⟩ := grL_v (w.2.1.2.2.2.1 i) 0 (by omega) (fun x hx => (ht x hx).1)
  rw [nI_0] at hgr
  have hbe : h_tryBestContract (nI i) w = some (bsC w.2.1 i lv w.2.1.2.2.2.2 0 (-9) 0, w) := by
    unfold h_tryBestContract nBest
    rw [ixO_t hi (by omega)]
    show some (bsC w.2.1 i (grL (w.2.1.2.2.2.1 i) 0).toNatClampNeg w.2.1.2.2.2.2 0 (-9) 0, w) = _
    rw [hgr, nI_c (by omega)]
  obtain ⟨best, hbs⟩ : ∃ best, best = bsC w.2.1 i lv w.2.1.2.2.2.2 0 (-9) 0 := ⟨_, rfl⟩
  rw [← hbs] at hbe
  have hL := hd_1119 (x1 := nI X) (x2 := w.2.1.1 4) (x6 := 1) (x21 := nI k) (x22 := b.2.2.2.2.1) (x25 := b.1) (x26 := b.2.1) (x28 := best) hi hl (w.2.1.2.2.2.1 i).length 0 5 0 (Nat.zero_add _) (by omega)
  rw [nI_0, List.drop_zero, hgr] at hL
  obtain ⟨x, y, hx, hy, hne, ex, ey⟩ := ct_xy hV hb
  have cx : b.1.toNatClampNeg = x := by rw [ex, nI_c (by omega)]
  have cy : b.2.1.toNatClampNeg = y := by rw [ey, nI_c (by omega)]
  have fin : ∀ (x30 : Int32) (is : Bool), (is = true → pr9 w.2.1 i lv b ∧ x30 = nI (wC (wks w.2.1 i) b.2.1.toNatClampNeg b.1.toNatClampNeg (4 * lv))) → B_hands_1205 w (nI X) (w.2.1.1 4) (nI i) 1 (nI k) best (nI lv) x30 (bI is) = B_hands_1346 w (nI X) (w.2.1.1 4) (nI i) 1 := by
    intro x30 is his
    have h4 := hd_1224 (X := X) hi hV hb hlv hbs is his
    unfold B_hands_1205
    rw [if_neg (by decide)]
    cases is with
    | false => rw [if_pos (show bI false = 0 from rfl)]; exact h4
    | true =>
      rw [if_neg (show ¬ bI true = 0 by decide), if_neg ?_]
      · exact h4
      · intro q
        rcases bsC_v (g := w.2.1) (i := i) (lv := lv) w.2.1.2.2.2.2 0 (-9) 0 (by omega) with ⟨h1, h2⟩ | ⟨j, a, h1, h2, h3, h4, h5⟩
        · exact (h2 k b hb (his rfl).1).1 rfl
        · have := lt_len h1
          rw [hbs, h3] at q
          exact nI_m9 (by omega) q
  unfold B_hands_1106
  rw [hbe, gbsN, hL]
  by_cases h0 : lv = 0
  · rw [if_pos (by rw [h0]; rfl)]
    unfold B_hands_1184
    have := fin (-9) false (fun q => by cases q)
    split
    · rw [if_pos rfl]; exact this
    · exact this
  · rw [if_neg (by rw [show (0 : Int32) = nI 0 from rfl, nI_inj (by omega) (by omega)]; exact h0), ex, ey, nI4, tWay0 hV hi hx hy hne (by omega) (by omega), gbsN]
    unfold B_hands_1184
    by_cases h9 : b.2.2.2.2.1 = -9
    · rw [if_pos h9]
      by_cases hw : wIs (wks w.2.1 i) y x (4 * lv) = true
      · have hcw : cw9 w.2.1 i x y (4 * lv) = nI (wC (wks w.2.1 i) y x (4 * lv)) := if_pos hw
        have hlt : wC (wks w.2.1 i) y x (4 * lv) < 1000000 := wIs_of.mp hw
        rw [hcw, if_neg (nI_m9 (by omega))]
        exact fin _ true (fun _ => ⟨⟨h9, by rw [cx, cy]; exact hw⟩, by rw [cx, cy]⟩)
      · have hcw : cw9 w.2.1 i x y (4 * lv) = -9 := if_neg hw
        rw [hcw, if_pos rfl]
        exact fin (-9) false (fun q => by cases q)
    · rw [if_neg h9]
      exact fin _ false (fun q => by cases q)
end HND
