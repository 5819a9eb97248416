theorem pth_head {ks : List TK} {goal f L a : Nat} {t : TK} (hL : L ≠ 0) (ht : ks[wO ks goal L a]? = some t) : (pth ks goal (f + 1) L a).headD 0 = wO ks goal L a := by
  rw [pth_s hL ht]
  rfl
theorem ck_ne {x : Nat} (h0 : x ≠ 0) (h : x < 2147483648) : (!decide (nI x = 0)) = true := by
  rw [decide_eq_false (by rw [show (0 : Int32) = nI 0 from rfl, nI_inj h (by omega)]; exact h0)]
  rfl
theorem ne_city {c a z : Nat} (ha : a < c) (hz : z < c - 1) : a ≠ (a + 1 + z) % c := by
  intro e
  by_cases h : a + 1 + z < c
  · rw [Nat.mod_eq_of_lt h] at e; omega
  · rw [Nat.mod_eq_sub_mod (by omega), Nat.mod_eq_of_lt (by omega)] at e
    omega
section WAY2
variable {c m : Nat} {u : At}
theorem w_237 {i a b r : Nat} (hV : V c m u.2.1) (hi : i < 4) (ha : a < c) (hb : b < c) (hab : a ≠ b) (hr1 : 1 ≤ r) (hr : r ≤ 24) : B_ways_237 u (nI i) (nI a) (nI b) (nI r) (cw9 u.2.1 i a b r) (if wIs (wks u.2.1 i) b a r = true then nI ((wP (wks u.2.1 i) b a r).headD 0) else -9) 1 = some (1, u) := by
  have hT := hV.2.2.1.1
  have hks := wks_T (i := i) hV
  unfold B_ways_237
  rw [show (0 : Int32) = nI 0 from rfl, show (-9 : Int32) = eo9 none from rfl]
  refine w_loop hV hi ha hb hab hr1 hr ?_ u.2.1.2.1.length 0 17 none (Nat.zero_add _) (by omega) (fun k hk => by cases hk) (fun _ h => absurd h (Nat.not_lt_zero _))
  by_cases his : wIs (wks u.2.1 i) b a r = true
  · rw [if_pos his, if_pos his]
    have hw := wIs_of.mp his
    obtain ⟨h1, h2, h3, -⟩ := wch_v (ks := wks u.2.1 i) (goal := b) (a := a) r
    obtain ⟨h4, h5⟩ := h3 hw
    have h4 : 1 ≤ wL (wks u.2.1 i) b a r := h4
    have h6 : wA (wks u.2.1 i) b (wL (wks u.2.1 i) b a r) a = wC (wks u.2.1 i) b a r := h5
    obtain ⟨tk, ht, -⟩ := wO_ok hks.h1 h4 (by rw [h6]; exact hw)
    unfold wP
    obtain ⟨f, hf⟩ : ∃ f, wL (wks u.2.1 i) b a r = f + 1 := ⟨wL (wks u.2.1 i) b a r - 1, by omega⟩
    rw [hf] at ht ⊢
    rw [pth_head (by omega) ht]
  · rw [if_neg his, if_neg his]
    rfl
theorem w_180 {i a b r : Nat} (hV : V c m u.2.1) (hi : i < 4) (ha : a < c) (hb : b < c) (hab : a ≠ b) (hr1 : 1 ≤ r) (hr : r ≤ 24) : B_ways_180 u (nI i) (nI a) (nI b) (nI r) (cw9 u.2.1 i a b r) (if wIs (wks u.2.1 i) b a r = true then nI ((wP (wks u.2.1 i) b a r).headD 0) else -9) 1 = some (1, u) := by
  have hks := wks_T (i := i) hV
  have hend := w_237 hV hi ha hb hab hr1 hr
  unfold B_ways_180
  by_cases h1 : r ≤ 1
  · rw [if_pos (show nI r ≤ 1 by rw [show (1 : Int32) = nI 1 from rfl, nIle (by omega) (by omega)]; exact h1)]
    exact hend
  · rw [if_neg (show ¬ nI r ≤ 1 by rw [show (1 : Int32) = nI 1 from rfl, nIle (by omega) (by omega)]; exact h1), if_neg (by decide), show (1 : Int32) = nI 1 from rfl, pk_sub (by omega), tWay0 hV hi ha hb hab (show 1 ≤ r - 1 by omega) (by omega), gbsN]
    unfold cw9
    by_cases h2 : wIs (wks u.2.1 i) b a (r - 1) = true
    · have h3 := wIs_of.mp h2
      have h4 := (wC_le (a := a) (b := b) hks hab (show r - 1 ≤ r by omega)).1
      have h5 : wIs (wks u.2.1 i) b a r = true := wIs_of.mpr (by omega)
      unfold UN at h3
      unfold cw9 at hend
      rw [if_pos h5] at hend
      rw [if_pos h2, if_pos h5, if_neg (nI_m9 (by omega)), if_neg (nI_m9 (by omega)), if_neg (show ¬ nI (wC (wks u.2.1 i) b a (r - 1)) < nI (wC (wks u.2.1 i) b a r) by rw [nIlt (by omega) (by omega)]; omega)]
      exact hend
    · rw [if_neg h2, if_pos rfl]
      exact hend
theorem ways_ok {X : Nat} (hV : V c m u.2.1) (hX : X < 2147483648) : h_ways (nI X) u = some (1, u) := by
  obtain ⟨hc2, hc9, hc⟩ := hV.1
  have e0 : h_tryAbout 0 u = some (nI c, u) := by simp [h_tryAbout, nAbout, hc]
  have hX4 : X / 4 < 2147483648 := by omega
  have hX64 : X / 64 < 2147483648 := by omega
  have hX1024 : X / 1024 < 2147483648 := by omega
  have q3 : nI X - nI X / 4 * 4 = nI (X % 4) := by rw [show (4 : Int32) = nI 4 from rfl]; exact rem_nI hX (by omega) (by omega)
  have q4 : nI X / 4 - nI X / 4 / nI c * nI c = nI (X / 4 % c) := by rw [show (4 : Int32) = nI 4 from rfl, div_nI hX (by omega) (by omega)]; exact rem_nI hX4 (by omega) (by omega)
  have q6 : 1 + (nI X / 1024 - nI X / 1024 / 24 * 24) = nI (1 + X / 1024 % 24) := by rw [show (1024 : Int32) = nI 1024 from rfl, show (24 : Int32) = nI 24 from rfl, div_nI hX (by omega) (by omega), rem_nI hX1024 (by omega) (by omega), show (1 : Int32) = nI 1 from rfl, nI_add]
  have hac : X / 4 % c < c := Nat.mod_lt _ (by omega)
  have hcc : X / 64 % (c - 1) < c - 1 := Nat.mod_lt _ (by omega)
  have q5 : (nI (X / 4 % c) + 1 + (nI X / 64 - nI X / 64 / (nI c - 1) * (nI c - 1))) - (nI (X / 4 % c) + 1 + (nI X / 64 - nI X / 64 / (nI c - 1) * (nI c - 1))) / nI c * nI c = nI ((X / 4 % c + 1 + X / 64 % (c - 1)) % c) := by
    rw [show (1 : Int32) = nI 1 from rfl, pk_sub (by omega), show (64 : Int32) = nI 64 from rfl, div_nI hX (by omega) (by omega), rem_nI hX64 (by omega) (by omega), nI_add, nI_add]
    exact rem_nI (by omega) (by omega) (by omega)
  have hne := ne_city hac hcc
  obtain ⟨i, hi⟩ : ∃ i, i = X % 4 := ⟨_, rfl⟩
  obtain ⟨a, ha⟩ : ∃ a, a = X / 4 % c := ⟨_, rfl⟩
  obtain ⟨b, hb⟩ : ∃ b, b = (X / 4 % c + 1 + X / 64 % (c - 1)) % c := ⟨_, rfl⟩
  obtain ⟨r, hr⟩ : ∃ r, r = 1 + X / 1024 % 24 := ⟨_, rfl⟩
  have hbc : b < c := by rw [hb]; exact Nat.mod_lt _ (by omega)
  have hi4 : i < 4 := by omega
  have hr1 : 1 ≤ r := by omega
  have hr24 : r ≤ 24 := by omega
  rw [← hi] at q3
  rw [← ha] at q4 hac hb hne q5
  rw [← hb] at hne q5
  rw [← hr] at q6
  have hks := wks_T (i := i) hV
  have hne2 : b ≠ a := fun e => hne e.symm
  unfold h_ways
  rw [e0, gbsN, q3, gviN, gck_ok (ck_ne (by omega) (by omega)), q4, gviN, gck_ok (show (!decide (nI c - 1 = 0)) = true by rw [show (1 : Int32) = nI 1 from rfl, pk_sub (by omega)]; exact ck_ne (by omega) (by omega)), gck_ok (ck_ne (by omega) (by omega)), q5, gviN, q6, gviN, tWay0 hV hi4 hac hbc hne hr1 hr24, gbsN, tWay1 hV hi4 hac hbc hne hr1 hr24, gbsN, tWay3 hV hi4 hac hbc hne hr1 hr24, gbsN, tWay0 hV hi4 hbc hac hne2 hr1 hr24, gbsN]
  have hend := w_180 hV hi4 hac hbc hne hr1 hr24
  have hsC : cw9 u.2.1 i a b r = cw9 u.2.1 i b a r := by
    unfold cw9
    rw [wIs_sym hks hne, wC_sym hks hne]
  rw [if_pos hsC, tWay1 hV hi4 hbc hac hne2 hr1 hr24, gbsN]
  by_cases his : wIs (wks u.2.1 i) b a r = true
  · have hw := wIs_of.mp his
    have hw2 := hw
    unfold UN at hw2
    have his2 : wIs (wks u.2.1 i) a b r = true := by rw [← wIs_sym hks hne]; exact his
    obtain ⟨hWy, hL1⟩ := Wy.C2 hks hw
    have hL24 : wL (wks u.2.1 i) b a r ≤ r := by obtain ⟨_, _, _, _, h, _⟩ := hWy; exact h
    have hP : (wP (wks u.2.1 i) b a r).length ≤ wL (wks u.2.1 i) b a r := pth_len hks.h1 _ _ _ (Nat.le_refl _)
    have hcl := wC_len hks hne hw
    unfold cw9 at hend ⊢
    rw [if_pos his] at hend ⊢
    rw [if_pos his] at hend ⊢
    rw [if_pos his, if_pos his2, if_pos (show nI (wL (wks u.2.1 i) b a r) = nI (wL (wks u.2.1 i) a b r) by rw [wL_sym hks hne hw]), if_neg (nI_m9 (by omega)), if_neg (show ¬ nI r < nI (wL (wks u.2.1 i) b a r) by rw [nIlt (by omega) (by omega)]; omega), if_neg (nI_ng (by omega)), tWay2 hV hi4 hac hbc hne hr1 hr24, gbsN, if_pos his, if_neg (show ¬ nI (wL (wks u.2.1 i) b a r) < nI (wP (wks u.2.1 i) b a r).length by rw [nIlt (by omega) (by omega)]; omega), tWay0 hV hi4 hac hbc hne hL1 (by omega), gbsN]
    unfold cw9
    rw [if_pos (show wIs (wks u.2.1 i) b a (wL (wks u.2.1 i) b a r) = true from wIs_of.mpr (by rw [hcl]; exact hw)), if_pos (show nI (wC (wks u.2.1 i) b a (wL (wks u.2.1 i) b a r)) = nI (wC (wks u.2.1 i) b a r) by rw [hcl])]
    exact hend
  · have his2 : ¬ wIs (wks u.2.1 i) a b r = true := by rw [← wIs_sym hks hne]; exact his
    unfold cw9 at hend ⊢
    rw [if_neg his] at hend ⊢
    rw [if_neg his] at hend ⊢
    rw [if_neg his, if_neg his2, if_pos rfl, if_pos rfl]
    exact hend
end WAY2
