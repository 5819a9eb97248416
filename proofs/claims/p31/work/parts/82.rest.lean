/-! ===== scripts, ways, slots ===== -/
theorem wP_ne {ks : List TK} {goal a rr : Nat} (hk : ∀ t ∈ ks, 1 ≤ t.2.2.1) (h : wIs ks goal a rr = true) : ∃ t l, wP ks goal a rr = t :: l := by
  have h1 : (wch ks goal a rr).1 < UN := of_decide_eq_true h
  obtain ⟨h2, h3⟩ := (wch_v (ks := ks) (goal := goal) (a := a) rr).2.2.1 h1
  have hL : 1 ≤ wL ks goal a rr := h2
  have hA : wA ks goal (wL ks goal a rr) a < UN := by
    have : wA ks goal (wL ks goal a rr) a = (wch ks goal a rr).1 := h3
    omega
  obtain ⟨t, ht, -⟩ := wO_ok hk hL hA
  obtain ⟨f, hf⟩ : ∃ f, wL ks goal a rr = f + 1 := ⟨wL ks goal a rr - 1, by omega⟩
  unfold wP
  rw [hf] at ht ⊢
  exact ⟨_, _, pth_s (by omega) ht⟩
theorem l_neg {x : Int64} : x < 0 ∨ ∃ n : Nat, n < 9223372036854775808 ∧ x = lN n := by
  by_cases h : 0 ≤ x
  · exact Or.inr (l_of h)
  · exact Or.inl (Int64.not_le.mp h)
theorem cmp_lt {a b : Int64} : lg_cmp a b < 0 ↔ a < b := by
  rw [← Int64.not_le, ← lg_cmp_ge]; exact Int32.not_le.symm
