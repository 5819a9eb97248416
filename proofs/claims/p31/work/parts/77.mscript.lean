/-! ===== scripts of the reference ===== -/
theorem wlo_pow : ∀ (n s : Nat), wlo s n = s / 100000 ^ n := by
  intro n
  induction n with
  | zero => intro s; rw [Nat.pow_zero, Nat.div_one]; rfl
  | succ n ih => intro s; rw [wlo_eq, ih, Nat.div_div_eq_div_mul, ← Nat.pow_succ]
theorem pow_lt3 {m : Nat} (h : m ≤ 3) : 0 < 100000 ^ m ∧ 100000 ^ m ≤ 1000000000000000 :=
  ⟨Nat.pow_pos (by omega), Nat.le_trans (Nat.pow_le_pow_right (by omega) h) (by decide)⟩
theorem lN_ne0 {n : Nat} (h0 : 0 < n) (h : n < 9223372036854775808) : (!decide (lN n = 0)) = true := by
  have : lN n ≠ 0 := by
    intro e
    have h1 := congrArg Int64.toInt e
    rw [l_toInt h] at h1
    have h2 : (0 : Int64).toInt = 0 := by decide
    omega
  rw [decide_eq_false this]
  rfl
