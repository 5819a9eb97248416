/-! ===== the text, read by the reference ===== -/
theorem u2_self {S : Sg} {k j : Nat} {v : Int32} (h : S k j = v) : u2 S k j v = S := by
  funext a x
  rw [u2_ap]
  split
  · rename_i q
    rw [q.1, q.2, h]
  · rfl
def FrT (S S' : Sg) : Prop := (∀ k, k ≠ 392 → k ≠ 394 → S' k = S k) ∧ ∀ x, x ≠ 3 → S' 392 x = S 392 x
theorem FrT.rf (S : Sg) : FrT S S := ⟨fun _ _ _ => rfl, fun _ _ => rfl⟩
theorem FrT.tr {S S1 S2 : Sg} (h1 : FrT S S1) (h2 : FrT S1 S2) : FrT S S2 := ⟨fun k a b => (h2.1 k a b).trans (h1.1 k a b), fun x a => (h2.2 x a).trans (h1.2 x a)⟩
theorem FrT.s {S : Sg} {v : Int32} : FrT S (u2 S 392 3 v) := ⟨fun k a _ => by rw [u2_n a], fun x a => by rw [u2_ni a]⟩
theorem FrT.p {S S' : Sg} (h : ∀ x, x ≠ 394 → S' x = S x) : FrT S S' := ⟨fun k _ b => h k b, fun x _ => by rw [h 392 (by omega)]⟩
theorem TXm_fr {tx : Nat → Nat} {sz : Nat} {S S' : Sg} (h : TXm tx sz S) (f : FrT S S') : TXm tx sz S' := ⟨by rw [f.2 2 (by omega)]; exact h.1, fun x hx => by rw [f.1 393 (by omega) (by omega)]; exact h.2 x hx⟩
theorem pC2_cases {tx : Nat → Nat} {sz c i : Nat} : (pC2 tx sz c i = .error i ∧ pD tx sz 0 (c - 1) 10 i = .error i) ∨ (∃ a, pD tx sz 0 (c - 1) 10 i = .ok a ∧ ((pC2 tx sz c i = .error (i + 1) ∧ pD tx sz 0 (c - 1) a (i + 1) = .error (i + 1)) ∨ ∃ b, pD tx sz 0 (c - 1) a (i + 1) = .ok b ∧ pC2 tx sz c i = .ok (a, b))) := by
  unfold pC2
  cases h1 : pD tx sz 0 (c - 1) 10 i with
  | error e =>
    obtain ⟨rfl, -⟩ := pD_no h1
    exact Or.inl ⟨rfl, rfl⟩
  | ok a =>
    refine Or.inr ⟨a, rfl, ?_⟩
    rw [eBd_o]
    cases h2 : pD tx sz 0 (c - 1) a (i + 1) with
    | error e =>
      obtain ⟨rfl, -⟩ := pD_no h2
      exact Or.inl ⟨rfl, rfl⟩
    | ok b => exact Or.inr ⟨b, rfl, rfl⟩
