/-! ===== scripts, ways, slots ===== -/
theorem wP_ne {ks : List TK} {goal a rr : Nat} (hk : ∀ t ∈ ks, 1 ≤ t.2.2.1) (h : wIs ks goal a rr = true) : ∃ t l, wP ks goal a rr = t :: l := by
  have h1 : (wch ks goal a rr).1 < UN := of_decide_eq_true h
  obtain ⟨h2, h3⟩ := (wch_v (ks := ks) (goal := goal) (a := a) rr).2.2.1 h1
  have hL : 1 ≤ wL ks goal a rr := h2
  have hA : wA ks goal (wL ks goal a rr) a < UN := by
    have : wA ks goal (wL ks goal a rr) a = (wch ks goal a rr).1 := h3
    omega
  obtain ⟨t, ht, -⟩ := wO_ok hk hL hA
  obtain ⟨f, hf⟩ : ∃ f, wL ks goal a rr = f + 1 := ⟨wL ks goal a rr - 1, by omega⟩
  unfold wP
  rw [hf] at ht ⊢
  exact ⟨_, _, pth_s (by omega) ht⟩
theorem ok_way {n : Nat} {S : Sg} (i x y r w : Int32) (h : Inv n S) : OkA (f_L_way i x y r w) (f_X11_way i x y r w) (Inv (n + 1)) S := by
  obtain ⟨s, hC, hM, hv⟩ := h
  obtain ⟨c, hV⟩ := hv.1
  have hvl := V.vl hV
  obtain ⟨-, hc9, hc⟩ := hV.1
  have e1 : ∀ S, f_X11_way i x y r w S = B_X11_way_36 S i x y r w (bI (!decide (x = y) && ((decide ((1 : Int32) ≤ r) && decide (r ≤ (24 : Int32))) && (decide ((0 : Int32) ≤ w) && decide (w ≤ (3 : Int32)))))) := by
    intro S
    unfold f_X11_way
    by_cases hxy : x = y
    · rw [if_pos hxy, decide_eq_true hxy]; rfl
    · rw [if_neg hxy, decide_eq_false hxy, in_r (a := 1) (b := 24) (by decide) (by decide), gbiN]
      cases (decide ((1 : Int32) ≤ r) && decide (r ≤ (24 : Int32))) with
      | false => rfl
      | true =>
        rw [if_neg (by decide), in_r (a := 0) (b := 3) (by decide) (by decide), gbiN]
        cases (decide ((0 : Int32) ≤ w) && decide (w ≤ (3 : Int32))) <;> rfl
  show OkA (fun S => gwr 1 2 0 (f_X10_way i x y r w S)) _ _ _
  cases hi : below 4 i with
  | false =>
    refine tA 1 1 hC hM hv (by decide) (fun _ => rfl) (fun S hS => ?_) (fun S hS => ?_)
    · unfold f_X10_way
      rw [nCo, hi, nd_f]
    · rw [e1]
      unfold B_X11_way_36 B_X11_way_76
      rw [M_isCo', gbiN, hi, if_pos (by decide), ref_1, gbiN]
      rfl
  | true =>
    cases hx : below c x with
    | false =>
      refine tA 1 1 hC hM hv (by decide) (fun _ => rfl) (fun S hS => ?_) (fun S hS => ?_)
      · unfold f_X10_way
        rw [nCo, hi, nd_t, nCi hS.1 hc hc9, hx, nd_f]
      · rw [e1]
        unfold B_X11_way_36 B_X11_way_76
        rw [M_isCo', gbiN, hi, if_neg (by decide), M_isCity hS.1 hc hc9, gbiN, hx, if_pos (by decide), ref_1, gbiN]
        rfl
    | true =>
      cases hy : below c y with
      | false =>
        refine tA 1 1 hC hM hv (by decide) (fun _ => rfl) (fun S hS => ?_) (fun S hS => ?_)
        · unfold f_X10_way
          rw [nCo, hi, nd_t, nCi hS.1 hc hc9, hx, nd_t, nCi hS.1 hc hc9, hy, nd_f]
        · rw [e1]
          unfold B_X11_way_36 B_X11_way_76
          rw [M_isCo', gbiN, hi, if_neg (by decide), M_isCity hS.1 hc hc9, gbiN, hx, if_neg (by decide), M_isCity hS.1 hc hc9, gbiN, hy, if_pos (by decide), ref_1, gbiN]
          rfl
      | true =>
        cases hA : (!decide (x = y) && ((decide ((1 : Int32) ≤ r) && decide (r ≤ (24 : Int32))) && (decide ((0 : Int32) ≤ w) && decide (w ≤ (3 : Int32))))) with
        | false =>
          rw [hA] at e1
          refine tA 2 2 hC hM hv (by decide) (fun _ => rfl) (fun S hS => ?_) (fun S hS => ?_)
          · unfold f_X10_way
            rw [nCo, hi, nd_t, nCi hS.1 hc hc9, hx, nd_t, nCi hS.1 hc hc9, hy, nd_t, nDi]
            cases h1 : !decide (x = y) with
            | false => rw [nd_f]
            | true =>
              rw [h1, Bool.true_and] at hA
              rw [nd_t, nRa]
              cases h2 : (decide ((1 : Int32) ≤ r) && decide (r ≤ (24 : Int32))) with
              | false => rw [nd_f]
              | true =>
                rw [h2, Bool.true_and] at hA
                rw [nd_t, nRa, hA, nd_f]
          · rw [e1]
            unfold B_X11_way_36 B_X11_way_76
            rw [M_isCo', gbiN, hi, if_neg (by decide), M_isCity hS.1 hc hc9, gbiN, hx, if_neg (by decide), M_isCity hS.1 hc hc9, gbiN, hy, if_neg (by decide), if_pos (by decide), ref_2, gbiN]
            rfl
        | true =>
          rw [hA] at e1
          rw [Bool.and_eq_true, Bool.and_eq_true] at hA
          obtain ⟨h1, h2, h3⟩ := hA
          obtain ⟨i, hi4, rfl⟩ := below_of (by omega) hi
          obtain ⟨a, ha, rfl⟩ := below_of (by omega) hx
          obtain ⟨b, hb, rfl⟩ := below_of (by omega) hy
          obtain ⟨q, -, hq, rfl⟩ := rg_of (a := 1) (b := 24) (by omega) (by omega) h2
          obtain ⟨u, -, hu, rfl⟩ := rg_of (a := 0) (b := 3) (by omega) (by omega) h3
          have hks : ∀ t ∈ wks s.1 i, 1 ≤ t.2.2.1 := fun t ht => ((wks_ok (i := i) hV).1.2 t ht).2.2.2.1
          have hcf : ∀ S, IC s S → ∃ S1, f_X10_way (nI i) (nI a) (nI b) (nI q) (nI u) S = (if bI (wIs (wks s.1 i) b a q) = 0 then some (0, -9, S1) else if nI u = 0 then some (0, S1 9 5, S1) else if nI u = 1 then some (0, S1 9 6, S1) else if nI u = 2 then some (0, S1 9 4, S1) else gbi (f_X10_at 13 24 0 S1) (fun v s => some (0, v, s))) ∧ S1 9 5 = nI (wC (wks s.1 i) b a q) ∧ S1 9 6 = nI (wL (wks s.1 i) b a q) ∧ S1 9 4 = nI (wP (wks s.1 i) b a q).length ∧ Rp (S1 13) 0 ((wP (wks s.1 i) b a q).map nI) ∧ Fb 35 S S1 := fun S hS => by
            obtain ⟨S1, q1, q2, q3, q4, q5, -, q6⟩ := C_find (b := 14) (goal := b) (rr := q) (by omega) hS.1 hV hi4 (a := a) (by omega) (by omega) hq
            refine ⟨S1, ?_, q2, q3, q4, q5, Fb.w q6⟩
            unfold f_X10_way
            rw [nCo, hi, nd_t, nCi hS.1 hc hc9, hx, nd_t, nCi hS.1 hc hc9, hy, nd_t, nDi, h1, nd_t, nRa, h2, nd_t, nRa, h3, nd_t, q1, gbiN]
          have hmf : ∀ S, IM s S → ∃ S1, f_X11_way (nI i) (nI a) (nI b) (nI q) (nI u) S = (if bI (wIs (wks s.1 i) b a q) = 0 then some (-9, S1) else if nI u = 0 then some (S1 392 12, S1) else if nI u = 1 then some (S1 392 13, S1) else if nI u = 2 then some (S1 392 15, S1) else gck (inb (0 : Int32) 24) (some (S1 401 (0 : Int32).toNatClampNeg, S1))) ∧ S1 392 12 = nI (wC (wks s.1 i) b a q) ∧ (wIs (wks s.1 i) b a q = true → S1 392 13 = nI (wL (wks s.1 i) b a q) ∧ S1 392 15 = nI (wP (wks s.1 i) b a q).length ∧ Rp (S1 401) 0 ((wP (wks s.1 i) b a q).map nI)) ∧ FrP 396 (u2 S 392 0 0) S1 := fun S hS => by
            obtain ⟨S1, q1, q2, q3, q6⟩ := M_find (p := 395) (i := i) (goal := b) (rr := q) (Or.inl rfl) (IM_0 hS) hV ha (by omega) hq
            refine ⟨S1, ?_, q2, q3, FrP.m q6⟩
            rw [e1]
            unfold B_X11_way_36 B_X11_way_76
            rw [M_isCo', gbiN, hi, if_neg (by decide), M_isCity hS.1 hc hc9, gbiN, hx, if_neg (by decide), M_isCity hS.1 hc hc9, gbiN, hy, if_neg (by decide), if_neg (by decide), ref_0, gbiN, if_pos rfl, q1, gbiN]
          cases hw : wIs (wks s.1 i) b a q with
          | false =>
            rw [hw] at hcf hmf
            refine qF (-9) hC hM hv (fun S hS => ?_) (fun S hS => ?_)
            · obtain ⟨S1, q1, -, -, -, -, q6⟩ := hcf S hS
              exact ⟨S1, by rw [q1, if_pos (by decide)], q6⟩
            · obtain ⟨S1, q1, -, -, q6⟩ := hmf S hS
              exact ⟨S1, by rw [q1, if_pos (by decide)], q6⟩
          | true =>
            obtain ⟨t, l, hp⟩ := wP_ne hks hw
            rw [hw] at hcf hmf
            have hu4 : u = 0 ∨ u = 1 ∨ u = 2 ∨ u = 3 := by omega
            rcases hu4 with rfl | rfl | rfl | rfl
            · refine qF (nI (wC (wks s.1 i) b a q)) hC hM hv (fun S hS => ?_) (fun S hS => ?_)
              · obtain ⟨S1, q1, q2, q3, q4, q5, q6⟩ := hcf S hS
                exact ⟨S1, by rw [q1, if_neg (by decide), if_pos (by decide), q2], q6⟩
              · obtain ⟨S1, q1, q2, q3, q6⟩ := hmf S hS
                exact ⟨S1, by rw [q1, if_neg (by decide), if_pos (by decide), q2], q6⟩
            · refine qF (nI (wL (wks s.1 i) b a q)) hC hM hv (fun S hS => ?_) (fun S hS => ?_)
              · obtain ⟨S1, q1, q2, q3, q4, q5, q6⟩ := hcf S hS
                exact ⟨S1, by rw [q1, if_neg (by decide), if_neg (by decide), if_pos (by decide), q3], q6⟩
              · obtain ⟨S1, q1, q2, q3, q6⟩ := hmf S hS
                exact ⟨S1, by rw [q1, if_neg (by decide), if_neg (by decide), if_pos (by decide), (q3 rfl).1], q6⟩
            · refine qF (nI (wP (wks s.1 i) b a q).length) hC hM hv (fun S hS => ?_) (fun S hS => ?_)
              · obtain ⟨S1, q1, q2, q3, q4, q5, q6⟩ := hcf S hS
                exact ⟨S1, by rw [q1, if_neg (by decide), if_neg (by decide), if_neg (by decide), if_pos (by decide), q4], q6⟩
              · obtain ⟨S1, q1, q2, q3, q6⟩ := hmf S hS
                exact ⟨S1, by rw [q1, if_neg (by decide), if_neg (by decide), if_neg (by decide), if_pos (by decide), (q3 rfl).2.1], q6⟩
            · refine qF (nI t) hC hM hv (fun S hS => ?_) (fun S hS => ?_)
              · obtain ⟨S1, q1, q2, q3, q4, q5, q6⟩ := hcf S hS
                rw [hp] at q5
                exact ⟨S1, by rw [q1, if_neg (by decide), if_neg (by decide), if_neg (by decide), if_neg (by decide), at_0 (by omega) (by omega), gbiN, q5.1], q6⟩
              · obtain ⟨S1, q1, q2, q3, q6⟩ := hmf S hS
                have q5 := (q3 rfl).2.2
                rw [hp] at q5
                exact ⟨S1, by rw [q1, if_neg (by decide), if_neg (by decide), if_neg (by decide), if_neg (by decide), gck_ok (by decide), ix_c0, q5.1], q6⟩
theorem l_neg {x : Int64} : x < 0 ∨ ∃ n : Nat, n < 9223372036854775808 ∧ x = lN n := by
  by_cases h : 0 ≤ x
  · exact Or.inr (l_of h)
  · exact Or.inl (Int64.not_le.mp h)
theorem cmp_lt {a b : Int64} : lg_cmp a b < 0 ↔ a < b := by
  rw [← Int64.not_le, ← lg_cmp_ge]; exact Int32.not_le.symm
theorem B25_no {N x t : Int64} {n : Int32} {S : Sg} (h : (decide ((1 : Int32) ≤ n) && decide (n ≤ (3 : Int32))) = false) : B_X11_runScript_25 S n x t = some (0, u2 S 392 0 1) := by
  unfold B_X11_runScript_25 B_X11_runScript_57
  rw [in_r (a := 1) (b := 3) (by decide) (by decide), gbiN, h, if_pos (by decide), ref_1, gbiN]
  rfl
theorem ok_runScript {n : Nat} {S : Sg} (x : Int32) (y : Int64) (h : Inv n S) : OkA (f_L_runScript x y) (f_X11_runScript x y) (Inv (n + 1)) S := by
  obtain ⟨s, hC, hM, hv⟩ := h
  obtain ⟨c, hV⟩ := hv.1
  have hvl := V.vl hV
  show OkA (fun S => gwr 0 1 0 (f_X10_runScript x y S)) _ _ _
  cases hx : (decide ((1 : Int32) ≤ x) && decide (x ≤ (3 : Int32))) with
  | false =>
    refine tA 2 1 hC hM hv (by decide) (fun _ => rfl) (fun S hS => ?_) (fun S hS => ?_)
    · unfold f_X10_runScript
      rw [nRa, hx, nd_f]
    · unfold f_X11_runScript
      split
      · exact B25_no (N := 0) hx
      · split
        · exact B25_no (N := 0) hx
        · exact B25_no (N := 0) hx
  | true =>
    obtain ⟨N, h1, h3, rfl⟩ := rg_of (a := 1) (b := 3) (by omega) (by omega) hx
    have hp := pow_lt3 h3
    have e1 : ∀ S, f_X11_runScript (nI N) y S = B_X11_runScript_25 S (nI N) y (lN (100000 ^ N)) := by
      intro S
      unfold f_X11_runScript
      have hN : N = 1 ∨ N = 2 ∨ N = 3 := by omega
      rcases hN with rfl | rfl | rfl
      · rw [if_pos (by decide)]; rfl
      · rw [if_neg (by decide), if_pos (by decide)]; rfl
      · rw [if_neg (by decide), if_neg (by decide)]; rfl
    have e2 : ∀ S, f_X11_runScript (nI N) y S = if (decide ((0 : Int64) ≤ y) && decide (y ≤ lN (100000 ^ N - 1))) = true then B_X11_runScript_57 S (nI N) y (lN (100000 ^ N)) 0 else B_X11_runScript_57 S (nI N) y (lN (100000 ^ N)) 1 := by
      intro S
      rw [e1]
      unfold B_X11_runScript_25
      rw [in_r (a := 1) (b := 3) (by decide) (by decide), gbiN, hx, if_neg (by decide), show (1 : Int64) = lN 1 from rfl, lN_sub (by omega), in_ok, gbiN]
      cases (decide ((0 : Int64) ≤ y) && decide (y ≤ lN (100000 ^ N - 1))) with
      | false => rw [if_pos (by decide), if_neg (by decide)]
      | true => rw [if_neg (by decide), if_pos rfl]
    rcases l_neg (x := y) with hneg | ⟨q, hq, rfl⟩
    · refine tA 2 1 hC hM hv (by decide) (fun _ => rfl) (fun S hS => ?_) (fun S hS => ?_)
      · unfold f_X10_runScript
        rw [nRa, hx, nd_t, if_pos (cmp_lt.mpr hneg)]
        rfl
      · rw [e2, decide_eq_false (Int64.not_le.mpr hneg), Bool.false_and, if_neg (by decide)]
        unfold B_X11_runScript_57
        rw [ref_1, gbiN]
        rfl
    · have n0 : (0 : Int64) ≤ lN q := by
        rw [show (0 : Int64) = lN 0 from rfl, l_le (by omega) hq]; omega
      have c0 : ¬ lg_cmp (lN q) 0 < 0 := by
        rw [cmp_lt]; exact Int64.not_lt.mpr n0
      have hwl := wlo_le N q
      have c1 : lg_cmp (lN (wlo q N)) 0 ≤ 0 ↔ q < 100000 ^ N := by
        rw [lg_cmp_le, show (0 : Int64) = lN 0 from rfl, l_le (by omega) (by omega), wlo_pow]
        constructor
        · intro h
          have h5 : q / 100000 ^ N = 0 := Nat.le_zero.mp h
          exact (Nat.div_eq_zero_iff_lt hp.1).mp h5
        · intro h
          rw [Nat.div_eq_of_lt h]
          exact Nat.le_refl _
      by_cases hlt : q < 100000 ^ N
      · refine qF (gScr s.1 (fun j => wlo q (N - 1 - j) % 100000) 0 N) hC hM hv (fun S hS => ?_) (fun S hS => ?_)
        · obtain ⟨S1, b1, d1, -, f1⟩ := C_tri hv hS
          obtain ⟨S2, b2, f2⟩ := C_scr_loop h3 hq N 0 n s.1 S1 gFu (Nat.zero_add _) (by unfold gFu; omega) d1 hV
          rw [nI_0] at b2
          refine ⟨S2, ?_, f1.tr f2⟩
          unfold f_X10_runScript
          rw [nRa, hx, nd_t, if_neg c0, C_wlo (by omega) hq]
          show (if lg_cmp (lN (wlo q N)) 0 ≤ 0 then _ else _) = _
          rw [if_pos (c1.mpr hlt), b1, gbvN, b2]
        · obtain ⟨S1, b1, d1, f1⟩ := M_tri hv (IM_0 hS)
          obtain ⟨S2, b2, f2⟩ := M_scr_loop h3 hq N 0 n s.1 S1 gFu (Nat.zero_add _) (by unfold gFu; omega) d1 hV
          rw [nI_0, Nat.mod_eq_of_lt hlt] at b2
          refine ⟨S2, ?_, f1.tr f2⟩
          rw [e2, decide_eq_true n0, Bool.true_and, if_pos (decide_eq_true (by rw [l_le hq (by omega)]; omega))]
          unfold B_X11_runScript_57
          rw [ref_0, gbiN, if_pos rfl, b1, gbvN, b2]
      · refine tA 2 1 hC hM hv (by decide) (fun _ => rfl) (fun S hS => ?_) (fun S hS => ?_)
        · unfold f_X10_runScript
          rw [nRa, hx, nd_t, if_neg c0, C_wlo (by omega) hq]
          show (if lg_cmp (lN (wlo q N)) 0 ≤ 0 then _ else _) = _
          rw [if_neg (fun h => hlt (c1.mp h))]
          rfl
        · rw [e2, if_neg (by rw [decide_eq_false (p := lN q ≤ lN (100000 ^ N - 1)) (by rw [l_le hq (by omega)]; omega), Bool.and_false]; decide)]
          unfold B_X11_runScript_57
          rw [ref_1, gbiN]
          rfl
