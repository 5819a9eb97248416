/-! ===== long numbers of a script ===== -/
theorem l_toInt {n : Nat} (h : n < 9223372036854775808) : (lN n).toInt = (n : Int) := Int64.toInt_ofNat_of_lt (by omega)
theorem l_inj {x : Int64} {n : Nat} (h : n < 9223372036854775808) (e : x.toInt = (n : Int)) : x = lN n := Int64.toInt_inj.mp (by rw [e, l_toInt h])
theorem l_of {x : Int64} (h : 0 ≤ x) : ∃ n : Nat, n < 9223372036854775808 ∧ x = lN n := by
  have h0 : 0 ≤ x.toInt := by
    have := Int64.le_iff_toInt_le.mp h
    simpa using this
  have h1 := x.toInt_lt
  refine ⟨x.toInt.toNat, by omega, l_inj (by omega) (by omega)⟩
theorem l_div {a d : Nat} (ha : a < 9223372036854775808) (h0 : 0 < d) (hd : d < 9223372036854775808) : lN a / lN d = lN (a / d) := by
  have hle : a / d ≤ a := Nat.div_le_self a d
  refine l_inj (by omega) ?_
  rw [Int64.toInt_div_of_ne_left _ _ (by
    intro e
    have := congrArg Int64.toInt e
    rw [l_toInt ha] at this
    have e2 : Int64.minValue.toInt = -9223372036854775808 := by decide
    omega), l_toInt ha, l_toInt hd]
  rfl
theorem l_rem {a d : Nat} (ha : a < 9223372036854775808) (h0 : 0 < d) (hd : d < 9223372036854775808) : lN a - lN a / lN d * lN d = lN (a % d) := by
  rw [l_div ha h0 hd, lN_mul, lN_sub (Nat.div_mul_le_self a d)]
  congr 1
  have := Nat.mod_add_div a d
  rw [Nat.mul_comm] at this
  omega
theorem l_le {a b : Nat} (ha : a < 9223372036854775808) (hb : b < 9223372036854775808) : lN a ≤ lN b ↔ a ≤ b := by
  rw [Int64.le_iff_toInt_le, l_toInt ha, l_toInt hb]
  omega
def wlo (s : Nat) : Nat → Nat
  | 0 => s
  | n + 1 => wlo (s / 100000) n
theorem wlo_le : ∀ (n s : Nat), wlo s n ≤ s := by
  intro n
  induction n with
  | zero => intro s; exact Nat.le_refl _
  | succ n ih => intro s; exact Nat.le_trans (ih _) (Nat.div_le_self _ _)
theorem C_wlo_loop {N : Nat} : ∀ (m k s : Nat) (S : Sg) (fu : Nat), k + m = N → N ≤ 100 → m < fu → s < 9223372036854775808 → L_X5_withoutLowest_5 fu S (nI N) (lN s) (nI k) = some (lN (wlo s m), S) := by
  intro m
  induction m with
  | zero =>
    intro k s S fu hk hN hf hs
    obtain ⟨f, rfl, -⟩ := fuS hf
    show Lb_X5_withoutLowest_5 _ S (nI N) (lN s) (nI k) = _
    unfold Lb_X5_withoutLowest_5
    rw [if_pos (by rw [nIle (by omega) (by omega)]; omega)]
    rfl
  | succ m ih =>
    intro k s S fu hk hN hf hs
    obtain ⟨f, rfl, hf⟩ := fuS hf
    have hle : s / 100000 ≤ s := Nat.div_le_self _ _
    show Lb_X5_withoutLowest_5 _ S (nI N) (lN s) (nI k) = _
    unfold Lb_X5_withoutLowest_5
    rw [if_neg (by rw [nIle (by omega) (by omega)]; omega), gvlN, gviN, nI_s, show (100000 : Int64) = lN 100000 from rfl, l_div hs (by omega) (by omega)]
    exact ih (k + 1) (s / 100000) S f (by omega) hN (by omega) (by omega)
theorem C_wlo {n s : Nat} {S : Sg} (hn : n ≤ 100) (hs : s < 9223372036854775808) : f_X5_withoutLowest (lN s) (nI n) S = some (lN (wlo s n), S) := by
  unfold f_X5_withoutLowest
  rw [← nI_0]
  exact C_wlo_loop n 0 s S gFu (Nat.zero_add _) hn (by unfold gFu; omega) hs

