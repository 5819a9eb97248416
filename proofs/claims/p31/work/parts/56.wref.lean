/-! ===== ways: the reference ===== -/
def FrM (S S' : Sg) : Prop := (∀ k, k ≠ 392 → k ≠ 400 → k ≠ 401 → S' k = S k) ∧ ∀ x, x ≠ 12 → x ≠ 13 → x ≠ 15 → S' 392 x = S 392 x
theorem FrM.rf (S : Sg) : FrM S S := ⟨fun _ _ _ _ => rfl, fun _ _ _ _ => rfl⟩
theorem FrM.tr {S S1 S2 : Sg} (h1 : FrM S S1) (h2 : FrM S1 S2) : FrM S S2 := ⟨fun k a b c => (h2.1 k a b c).trans (h1.1 k a b c), fun x a b c => (h2.2 x a b c).trans (h1.2 x a b c)⟩
theorem FrM.u400 {S S1 : Sg} {x : Nat} {v : Int32} (h : FrM S S1) : FrM S (u2 S1 400 x v) := ⟨fun k a b c => by rw [u2_n b]; exact h.1 k a b c, fun x a b c => by rw [u2_nr (by omega)]; exact h.2 x a b c⟩
theorem FrM.u401 {S S1 : Sg} {x : Nat} {v : Int32} (h : FrM S S1) : FrM S (u2 S1 401 x v) := ⟨fun k a b c => by rw [u2_n c]; exact h.1 k a b c, fun x a b c => by rw [u2_nr (by omega)]; exact h.2 x a b c⟩
theorem FrM.u392 {S S1 : Sg} {y : Nat} {v : Int32} (h : FrM S S1) (hy : y = 12 ∨ y = 13 ∨ y = 15) : FrM S (u2 S1 392 y v) := ⟨fun k a b c => by rw [u2_n a]; exact h.1 k a b c, fun x a b c => by rw [u2_ni (by omega)]; exact h.2 x a b c⟩
theorem rf_0 {T : Nat → Nat → Nat} {c : Nat} : ∀ (l : List TK) (k : Nat) (s : Nat × Nat), (∀ t ∈ l, 1 ≤ t.2.2.1) → s.1 ≤ UN → rf T 0 c l k s = s := by
  intro l
  induction l with
  | nil => intro k s _ _; rfl
  | cons t l ih =>
    intro k s hl hs
    have e : thr T 0 c t = UN := by
      unfold thr
      rw [if_neg (by have := hl t List.mem_cons_self; omega)]
    unfold rf wst
    rw [e, if_neg (by omega)]
    exact ih _ s (fun x hx => hl x (List.mem_cons_of_mem _ hx)) hs
