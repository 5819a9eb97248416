theorem rg_of {a b : Nat} {x : Int32} (hb : b < 2147483648) (hab : a ≤ b) (h : (decide (nI a ≤ x) && decide (x ≤ nI b)) = true) : ∃ l : Nat, a ≤ l ∧ l ≤ b ∧ x = nI l := by
  rw [Bool.and_eq_true] at h
  have h1 := of_decide_eq_true h.1
  have h2 := of_decide_eq_true h.2
  rcases ix_of x with h0 | ⟨j, hj, rfl⟩
  · exfalso
    have h3 : (0 : Int32) ≤ nI a := nI_pos' (by omega)
    exact Int32.lt_irrefl (Int32.lt_of_lt_of_le h0 (Int32.le_trans h3 h1))
  · rw [nIle (by omega) hj] at h1
    rw [nIle hj (by omega)] at h2
    exact ⟨j, h1, h2, rfl⟩
