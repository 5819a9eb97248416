/-! ===== what the constructor makes of zeros ===== -/
theorem start_ok {S : Sg} (hz : ∀ k, k < 392 → ∀ j, S k j = 0) : ∃ Sa Sb Sc, f_X7_begin 14 3 S = some Sa ∧ f_X8_add 14 0 1 2 Sa = some Sb ∧ f_X8_add 14 1 2 2 Sb = some Sc ∧ IAt u00 Sc := by
  obtain ⟨Sa, ea, ca, fa⟩ := C_begin (b := 14) (x := 3) (S := S)
  obtain ⟨Sb, eb, cb, fb⟩ := C_addT (a1 := 0) (a2 := 1) (a3 := 2) ca (by decide)
  obtain ⟨Sc, ec, cc, fc⟩ := C_addT (a1 := 1) (a2 := 2) (a3 := 2) cb (by decide)
  have hA : ∀ k, k < 14 → ∀ j, Sc k j = 0 := fun k hk j => by rw [fc k (by omega), fb k (by omega), fa k (by omega)]; exact hz k (by omega) j
  refine ⟨Sa, Sb, Sc, ea, eb, ec, ⟨cc, ⟨hA 1 (by omega) 1, fun x hx => absurd hx (Nat.not_lt_zero _)⟩, ⟨0, Nat.zero_le _, by omega, hA 3 (by omega) 2, hA 3 (by omega) 1, fun k g hg => ?_⟩, fun k hk => ⟨hA 7 (by omega) k, fun g hg => by cases hg⟩⟩, ⟨3, V_00⟩, ⟨Nat.zero_le _, fun x hx => absurd hx (Nat.not_lt_zero _)⟩, ⟨Nat.zero_le _, fun x hx => by cases hx⟩, fun k x hx => by cases hx⟩
  have hg : ([] : List Game)[k]? = some g := hg
  cases hg
