/-! ===== long numbers of a script ===== -/
theorem l_toInt {n : Nat} (h : n < 9223372036854775808) : (lN n).toInt = (n : Int) := Int64.toInt_ofNat_of_lt (by omega)
theorem l_inj {x : Int64} {n : Nat} (h : n < 9223372036854775808) (e : x.toInt = (n : Int)) : x = lN n := Int64.toInt_inj.mp (by rw [e, l_toInt h])
theorem l_of {x : Int64} (h : 0 ≤ x) : ∃ n : Nat, n < 9223372036854775808 ∧ x = lN n := by
  have h0 : 0 ≤ x.toInt := by
    have := Int64.le_iff_toInt_le.mp h
    simpa using this
  have h1 := x.toInt_lt
  refine ⟨x.toInt.toNat, by omega, l_inj (by omega) (by omega)⟩
theorem l_div {a d : Nat} (ha : a < 9223372036854775808) (h0 : 0 < d) (hd : d < 9223372036854775808) : lN a / lN d = lN (a / d) := by
  have hle : a / d ≤ a := Nat.div_le_self a d
  refine l_inj (by omega) ?_
  rw [Int64.toInt_div_of_ne_left _ _ (by
    intro e
    have := congrArg Int64.toInt e
    rw [l_toInt ha] at this
    have e2 : Int64.minValue.toInt = -9223372036854775808 := by decide
    omega), l_toInt ha, l_toInt hd]
  rfl
