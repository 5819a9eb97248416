/-! ===== runs: the reference ===== -/
theorem VL_pay {g : Game} {i : Nat} {o x : Int32} (h : VL g) : VL (gPay g i o x) := VL_of h gPay_l.1 gPay_l.2
theorem prc_congr {g0 g : Game} {i : Nat} {a : T4} (h : ∀ b, g.2.2.1 b 1 = g0.2.2.1 b 1) : prc g i a = prc g0 i a := by
  unfold prc
  rw [h]
def FrP (p : Nat) (S S' : Sg) : Prop := (∀ k, k ≠ p → k ≠ 392 → k ≠ 400 → k ≠ 401 → S' k = S k) ∧ ∀ x, x ≠ 12 → x ≠ 13 → x ≠ 15 → S' 392 x = S 392 x
theorem FrP.rf {p : Nat} (S : Sg) : FrP p S S := ⟨fun _ _ _ _ _ => rfl, fun _ _ _ _ => rfl⟩
theorem FrP.tr {p : Nat} {S S1 S2 : Sg} (h1 : FrP p S S1) (h2 : FrP p S1 S2) : FrP p S S2 := ⟨fun k z a b c => (h2.1 k z a b c).trans (h1.1 k z a b c), fun x a b c => (h2.2 x a b c).trans (h1.2 x a b c)⟩
theorem FrP.m {p : Nat} {S S' : Sg} (h : FrM S S') : FrP p S S' := ⟨fun k _ a b c => h.1 k a b c, h.2⟩
theorem FrP.o {p : Nat} {S S' : Sg} (hp : p = 395 ∨ p = 396) (h : ∀ a, a ≠ p → S' a = S a) : FrP p S S' := ⟨fun k z _ _ _ => h k z, fun x _ _ _ => by rw [h 392 (by omega)]⟩
