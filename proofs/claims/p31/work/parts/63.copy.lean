/-! ===== copies of games ===== -/
theorem cp_in {S : Sg} {k0 k1 n x : Nat} (h : x < n) : uR S k1 (va_cpy (S k0) (S k1) 0 0 n) k1 x = S k0 x := by
  rw [uR_s, pk_cpy_in (Nat.zero_le _) (by omega)]
  simp
theorem cp_nr {S : Sg} {k0 k1 n a : Nat} (h : a ≠ k1) : uR S k1 (va_cpy (S k0) (S k1) 0 0 n) a = S a := uR_n h
theorem row_ok {S : Sg} {k0 k1 n : Nat} : ∃ S', f_X10_copyRow k0 n k1 n S = some S' ∧ (∀ x, x < n → S' k1 x = S k0 x) ∧ ∀ a, a ≠ k1 → S' a = S a := by
  refine ⟨_, rfl, fun x hx => ?_, fun a ha => cp_nr ha⟩
  rw [Nat.min_self, cp_in hx]
theorem cp8 {b b1 : Nat} {S : Sg} (hd : b + 21 ≤ b1 ∨ b1 + 21 ≤ b) : ∃ S', f_X8_copyFrom b b1 S = some S' ∧ (∀ x, x < 16 → S' (b + 4) x = S (b1 + 4) x ∧ S' (b + 5) x = S (b1 + 5) x ∧ S' (b + 6) x = S (b1 + 6) x ∧ S' (b + 7) x = S (b1 + 7) x) ∧ S' (b + 1) 4 = S (b1 + 1) 4 ∧ ∀ a, a ≠ b + 1 → (a < b + 4 ∨ b + 7 < a) → S' a = S a := by
  obtain ⟨S1, e1, r1, o1⟩ := row_ok (S := S) (k0 := b1 + 4) (k1 := b + 4) (n := 16)
  obtain ⟨S2, e2, r2, o2⟩ := row_ok (S := S1) (k0 := b1 + 5) (k1 := b + 5) (n := 16)
  obtain ⟨S3, e3, r3, o3⟩ := row_ok (S := S2) (k0 := b1 + 6) (k1 := b + 6) (n := 16)
  obtain ⟨S4, e4, r4, o4⟩ := row_ok (S := S3) (k0 := b1 + 7) (k1 := b + 7) (n := 16)
  refine ⟨u2 S4 (b + 1) 4 (S4 (b1 + 1) 4), ?_, fun x hx => ⟨?_, ?_, ?_, ?_⟩, ?_, fun a h1 h2 => ?_⟩
  · unfold f_X8_copyFrom
    rw [e1, gbvN, e2, gbvN, e3, gbvN, e4, gbvN, gstN]
  · rw [u2_nr (by omega), o4 _ (by omega), o3 _ (by omega), o2 _ (by omega), r1 x hx]
  · rw [u2_nr (by omega), o4 _ (by omega), o3 _ (by omega), r2 x hx, o1 _ (by omega)]
  · rw [u2_nr (by omega), o4 _ (by omega), r3 x hx, o2 _ (by omega), o1 _ (by omega)]
  · rw [u2_nr (by omega), r4 x hx, o3 _ (by omega), o2 _ (by omega), o1 _ (by omega)]
  · rw [u2_eq, o4 _ (by omega), o3 _ (by omega), o2 _ (by omega), o1 _ (by omega)]
  · rw [u2_n h1, o4 _ (by omega), o3 _ (by omega), o2 _ (by omega), o1 _ (by omega)]
theorem cp1 {b b1 : Nat} {S : Sg} (hd : b + 21 ≤ b1 ∨ b1 + 21 ≤ b) : ∃ S', f_X1_copyFrom b b1 S = some S' ∧ (∀ x, x < 8 → S' (b + 8) x = S (b1 + 8) x ∧ S' (b + 9) x = S (b1 + 9) x ∧ S' (b + 10) x = S (b1 + 10) x ∧ S' (b + 11) x = S (b1 + 11) x ∧ S' (b + 12) x = S (b1 + 12) x ∧ S' (b + 13) x = S (b1 + 13) x) ∧ S' (b + 2) 6 = S (b1 + 2) 6 ∧ ∀ a, a ≠ b + 2 → (a < b + 8 ∨ b + 13 < a) → S' a = S a := by
  obtain ⟨S1, e1, r1, o1⟩ := row_ok (S := S) (k0 := b1 + 8) (k1 := b + 8) (n := 8)
  obtain ⟨S2, e2, r2, o2⟩ := row_ok (S := S1) (k0 := b1 + 9) (k1 := b + 9) (n := 8)
  obtain ⟨S3, e3, r3, o3⟩ := row_ok (S := S2) (k0 := b1 + 10) (k1 := b + 10) (n := 8)
  obtain ⟨S4, e4, r4, o4⟩ := row_ok (S := S3) (k0 := b1 + 11) (k1 := b + 11) (n := 8)
  obtain ⟨S5, e5, r5, o5⟩ := row_ok (S := S4) (k0 := b1 + 12) (k1 := b + 12) (n := 8)
  obtain ⟨S6, e6, r6, o6⟩ := row_ok (S := S5) (k0 := b1 + 13) (k1 := b + 13) (n := 8)
  refine ⟨u2 S6 (b + 2) 6 (S6 (b1 + 2) 6), ?_, fun x hx => ⟨?_, ?_, ?_, ?_, ?_, ?_⟩, ?_, fun a h1 h2 => ?_⟩
  · unfold f_X1_copyFrom
    rw [e1, gbvN, e2, gbvN, e3, gbvN, e4, gbvN, e5, gbvN, e6, gbvN, gstN]
  · rw [u2_nr (by omega), o6 _ (by omega), o5 _ (by omega), o4 _ (by omega), o3 _ (by omega), o2 _ (by omega), r1 x hx]
  · rw [u2_nr (by omega), o6 _ (by omega), o5 _ (by omega), o4 _ (by omega), o3 _ (by omega), r2 x hx, o1 _ (by omega)]
  · rw [u2_nr (by omega), o6 _ (by omega), o5 _ (by omega), o4 _ (by omega), r3 x hx, o2 _ (by omega), o1 _ (by omega)]
  · rw [u2_nr (by omega), o6 _ (by omega), o5 _ (by omega), r4 x hx, o3 _ (by omega), o2 _ (by omega), o1 _ (by omega)]
  · rw [u2_nr (by omega), o6 _ (by omega), r5 x hx, o4 _ (by omega), o3 _ (by omega), o2 _ (by omega), o1 _ (by omega)]
  · rw [u2_nr (by omega), r6 x hx, o5 _ (by omega), o4 _ (by omega), o3 _ (by omega), o2 _ (by omega), o1 _ (by omega)]
  · rw [u2_eq, o6 _ (by omega), o5 _ (by omega), o4 _ (by omega), o3 _ (by omega), o2 _ (by omega), o1 _ (by omega)]
  · rw [u2_n h1, o6 _ (by omega), o5 _ (by omega), o4 _ (by omega), o3 _ (by omega), o2 _ (by omega), o1 _ (by omega)]
theorem cp0 {b b1 : Nat} {S : Sg} (hd : b + 21 ≤ b1 ∨ b1 + 21 ≤ b) : ∃ S', f_X0_copyFrom b b1 S = some S' ∧ (∀ x, x < 5 → S' (b + 14) x = S (b1 + 14) x ∧ S' (b + 15) x = S (b1 + 15) x ∧ S' (b + 16) x = S (b1 + 16) x) ∧ (∀ x, x < 4 → S' (b + 17) x = S (b1 + 17) x ∧ S' (b + 18) x = S (b1 + 18) x) ∧ (∀ x, x < 16 → S' (b + 19) x = S (b1 + 19) x ∧ S' (b + 20) x = S (b1 + 20) x) ∧ ∀ a, (a < b + 14 ∨ b + 20 < a) → S' a = S a := by
  obtain ⟨S1, e1, r1, o1⟩ := row_ok (S := S) (k0 := b1 + 14) (k1 := b + 14) (n := 5)
  obtain ⟨S2, e2, r2, o2⟩ := row_ok (S := S1) (k0 := b1 + 15) (k1 := b + 15) (n := 5)
  obtain ⟨S3, e3, r3, o3⟩ := row_ok (S := S2) (k0 := b1 + 16) (k1 := b + 16) (n := 5)
  obtain ⟨S4, e4, r4, o4⟩ := row_ok (S := S3) (k0 := b1 + 17) (k1 := b + 17) (n := 4)
  obtain ⟨S5, e5, r5, o5⟩ := row_ok (S := S4) (k0 := b1 + 18) (k1 := b + 18) (n := 4)
  obtain ⟨S6, e6, r6, o6⟩ := row_ok (S := S5) (k0 := b1 + 19) (k1 := b + 19) (n := 16)
  obtain ⟨S7, e7, r7, o7⟩ := row_ok (S := S6) (k0 := b1 + 20) (k1 := b + 20) (n := 16)
  refine ⟨S7, ?_, fun x hx => ⟨?_, ?_, ?_⟩, fun x hx => ⟨?_, ?_⟩, fun x hx => ⟨?_, ?_⟩, fun a h2 => ?_⟩
  · unfold f_X0_copyFrom
    rw [e1, gbvN, e2, gbvN, e3, gbvN, e4, gbvN, e5, gbvN, e6, gbvN, e7, gbvN]
  · rw [o7 _ (by omega), o6 _ (by omega), o5 _ (by omega), o4 _ (by omega), o3 _ (by omega), o2 _ (by omega), r1 x hx]
  · rw [o7 _ (by omega), o6 _ (by omega), o5 _ (by omega), o4 _ (by omega), o3 _ (by omega), r2 x hx, o1 _ (by omega)]
  · rw [o7 _ (by omega), o6 _ (by omega), o5 _ (by omega), o4 _ (by omega), r3 x hx, o2 _ (by omega), o1 _ (by omega)]
  · rw [o7 _ (by omega), o6 _ (by omega), o5 _ (by omega), r4 x hx, o3 _ (by omega), o2 _ (by omega), o1 _ (by omega)]
  · rw [o7 _ (by omega), o6 _ (by omega), r5 x hx, o4 _ (by omega), o3 _ (by omega), o2 _ (by omega), o1 _ (by omega)]
  · rw [o7 _ (by omega), r6 x hx, o5 _ (by omega), o4 _ (by omega), o3 _ (by omega), o2 _ (by omega), o1 _ (by omega)]
  · rw [r7 x hx, o6 _ (by omega), o5 _ (by omega), o4 _ (by omega), o3 _ (by omega), o2 _ (by omega), o1 _ (by omega)]
  · rw [o7 _ (by omega), o6 _ (by omega), o5 _ (by omega), o4 _ (by omega), o3 _ (by omega), o2 _ (by omega), o1 _ (by omega)]
theorem C_copy {b b1 : Nat} {g : Game} {S : Sg} (h : CP b1 g S) (hv : VL g) (hd : b + 21 ≤ b1 ∨ b1 + 21 ≤ b) : ∃ S', f_X7_copyFrom b b1 S = some S' ∧ CP b g S' ∧ Fr b S S' := by
  obtain ⟨S1, e1, a1, a2, o1⟩ := cp8 (S := S) hd
  obtain ⟨S2, e2, b1', b2, o2⟩ := cp1 (S := S1) hd
  obtain ⟨S3, e3, c1, c2, c3, o3⟩ := cp0 (S := S2) hd
  obtain ⟨hSc, hTr, hCo, hTn, hCt⟩ := h
  have hl1 := hv.1
  have hl2 := hv.2.1
  have hl3 := hv.2.2.1
  refine ⟨u2 (u2 (u2 (u2 (u2 (u2 S3 b 3 (S b1 3)) b 4 (S b1 4)) b 5 (S b1 5)) b 6 (S b1 6)) b 7 (S b1 7)) b 8 (S b1 8), ?_, ?_, ?_⟩
  · have q : S3 b1 = S b1 := by rw [o3 _ (by omega), o2 _ (by omega) (by omega), o1 _ (by omega) (by omega)]
    unfold f_X7_copyFrom
    rw [e1, gbvN, e2, gbvN, e3, gbvN]
    simp only [gstN]
    simp (disch := omega) only [u2_nr, q]
  · generalize hS4 : u2 (u2 (u2 (u2 (u2 (u2 S3 b 3 (S b1 3)) b 4 (S b1 4)) b 5 (S b1 5)) b 6 (S b1 6)) b 7 (S b1 7)) b 8 (S b1 8) = S4
    have o4 : ∀ a, a ≠ b → S4 a = S3 a := fun a ha => by rw [← hS4]; simp only [u2_n ha]
    have s3 : S4 b 3 = S b1 3 := by rw [← hS4]; simp (disch := omega) only [u2_eq, u2_ni, u2_nr]
    have s4 : S4 b 4 = S b1 4 := by rw [← hS4]; simp (disch := omega) only [u2_eq, u2_ni, u2_nr]
    have s5 : S4 b 5 = S b1 5 := by rw [← hS4]; simp (disch := omega) only [u2_eq, u2_ni, u2_nr]
    have s6 : S4 b 6 = S b1 6 := by rw [← hS4]; simp (disch := omega) only [u2_eq, u2_ni, u2_nr]
    have s7 : S4 b 7 = S b1 7 := by rw [← hS4]; simp (disch := omega) only [u2_eq, u2_ni, u2_nr]
    have s8 : S4 b 8 = S b1 8 := by rw [← hS4]; simp (disch := omega) only [u2_eq, u2_ni, u2_nr]
    have q0 : ∀ x, x < 5 → S4 (b + 14) x = S (b1 + 14) x ∧ S4 (b + 15) x = S (b1 + 15) x ∧ S4 (b + 16) x = S (b1 + 16) x := fun x hx => by
      have h1 := c1 x hx
      rw [o4 _ (by omega), o4 _ (by omega), o4 _ (by omega), h1.1, h1.2.1, h1.2.2, o2 _ (by omega) (by omega), o2 _ (by omega) (by omega), o2 _ (by omega) (by omega), o1 _ (by omega) (by omega), o1 _ (by omega) (by omega), o1 _ (by omega) (by omega)]
      exact ⟨rfl, rfl, rfl⟩
    have q1 : ∀ x, x < 4 → S4 (b + 17) x = S (b1 + 17) x ∧ S4 (b + 18) x = S (b1 + 18) x := fun x hx => by
      have h1 := c2 x hx
      rw [o4 _ (by omega), o4 _ (by omega), h1.1, h1.2, o2 _ (by omega) (by omega), o2 _ (by omega) (by omega), o1 _ (by omega) (by omega), o1 _ (by omega) (by omega)]
      exact ⟨rfl, rfl⟩
    have q2 : ∀ x, x < 16 → S4 (b + 19) x = S (b1 + 19) x ∧ S4 (b + 20) x = S (b1 + 20) x := fun x hx => by
      have h1 := c3 x hx
      rw [o4 _ (by omega), o4 _ (by omega), h1.1, h1.2, o2 _ (by omega) (by omega), o2 _ (by omega) (by omega), o1 _ (by omega) (by omega), o1 _ (by omega) (by omega)]
      exact ⟨rfl, rfl⟩
    refine ⟨?_, ⟨?_, ?_⟩, ?_, ?_, ⟨?_, ?_⟩⟩
    · unfold CSc at hSc ⊢
      rw [s3, s4, s5, s6, s7, s8, (q0 4 (by omega)).1, (q0 4 (by omega)).2.1, (q0 0 (by omega)).2.2, (q0 1 (by omega)).2.2, (q0 2 (by omega)).2.2, (q0 3 (by omega)).2.2, (q0 4 (by omega)).2.2, (q1 0 (by omega)).1, (q1 1 (by omega)).1, (q1 2 (by omega)).1, (q1 3 (by omega)).1]
      exact hSc
    · rw [o4 _ (by omega), o3 _ (by omega), o2 _ (by omega) (by omega), a2]
      exact hTr.1
    · refine Rp_congr (fun x _ hx => ?_) hTr.2
      rw [List.length_map] at hx
      have h1 := a1 x (by omega)
      simp only [ctr]
      rw [o4 _ (by omega), o4 _ (by omega), o4 _ (by omega), o4 _ (by omega), o3 _ (by omega), o3 _ (by omega), o3 _ (by omega), o3 _ (by omega), o2 _ (by omega) (by omega), o2 _ (by omega) (by omega), o2 _ (by omega) (by omega), o2 _ (by omega) (by omega), h1.1, h1.2.1, h1.2.2.1, h1.2.2.2]
    · intro i hi
      rw [(q0 i (by omega)).1, (q0 i (by omega)).2.1, (q0 i (by omega)).2.2, (q1 i hi).1]
      exact hCo i hi
    · intro i hi
      have hl := hl2 i hi
      refine ⟨by rw [(q1 i hi).2]; exact (hTn i hi).1, Rp_congr (fun x _ hx => ?_) (hTn i hi).2⟩
      simp only [ctn]
      rw [(q2 _ (by omega)).1, (q2 _ (by omega)).2]
    · rw [o4 _ (by omega), o3 _ (by omega), b2, o1 _ (by omega) (by omega)]
      exact hCt.1
    · refine Rp_congr (fun x _ hx => ?_) hCt.2
      have h1 := b1' x (by omega)
      simp only [cct]
      rw [o4 _ (by omega), o4 _ (by omega), o4 _ (by omega), o4 _ (by omega), o4 _ (by omega), o4 _ (by omega), o3 _ (by omega), o3 _ (by omega), o3 _ (by omega), o3 _ (by omega), o3 _ (by omega), o3 _ (by omega), h1.1, h1.2.1, h1.2.2.1, h1.2.2.2.1, h1.2.2.2.2.1, h1.2.2.2.2.2, o1 _ (by omega) (by omega), o1 _ (by omega) (by omega), o1 _ (by omega) (by omega), o1 _ (by omega) (by omega), o1 _ (by omega) (by omega), o1 _ (by omega) (by omega)]
  · intro k hk
    rw [u2_n (by omega), u2_n (by omega), u2_n (by omega), u2_n (by omega), u2_n (by omega), u2_n (by omega), o3 _ (by omega), o2 _ (by omega) (by omega), o1 _ (by omega) (by omega)]
