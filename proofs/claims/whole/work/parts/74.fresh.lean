/-! ===== a game begins ===== -/
def gNew (x : Int32) : Game := (fun j => if j = 0 then x else if j = 3 then 1 else if j = 5 then -400 else 0, [], fun _ f => if f = 0 then 100 else if f = 1 then 1 else 0, fun _ => [], [])
theorem C_begin {b : Nat} {x : Int32} {S : Sg} : ∃ S', f_X7_begin b x S = some S' ∧ CP b (gNew x) S' ∧ Fr b S S' := by
  obtain ⟨S1, e1, o1, r1⟩ := fill_ok (k := b + 14) (n := 5) (by omega) 100 (u2 (u2 S (b + 1) 4 0) (b + 2) 6 0)
  obtain ⟨S3, e3, o3, r3⟩ := fill_ok (k := b + 15) (n := 5) (by omega) 1 (u2 S1 (b + 14) 4 (-400))
  obtain ⟨S4, e4, o4, r4⟩ := fill_ok (k := b + 16) (n := 5) (by omega) 0 S3
  obtain ⟨S5, e5, o5, r5⟩ := fill_ok (k := b + 17) (n := 4) (by omega) 0 S4
  obtain ⟨S6, e6, o6, r6⟩ := fill_ok (k := b + 18) (n := 4) (by omega) 0 S5
  refine ⟨u2 (u2 (u2 (u2 (u2 (u2 S6 b 3 x) b 4 1) b 5 0) b 6 0) b 7 0) b 8 0, ?_, ?_, fun k hk => ?_⟩
  · unfold f_X7_begin f_X0_begin
    rw [gstN, gstN, e1, gbvN, put_4 (by omega) (by omega), gbvN, e3, gbvN, e4, gbvN, e5, gbvN, e6, gbvN, gbvN, gstN, gstN, gstN, gstN, gstN, gstN]
  · have k14 : ∀ y, y < 4 → S6 (b + 14) y = 100 := fun y hy => by rw [o6 _ (by omega), o5 _ (by omega), o4 _ (by omega), o3 _ (by omega), u2_ni (by omega), r1 y (by omega)]
    have k144 : S6 (b + 14) 4 = -400 := by rw [o6 _ (by omega), o5 _ (by omega), o4 _ (by omega), o3 _ (by omega), u2_eq]
    have k15 : ∀ y, y < 5 → S6 (b + 15) y = 1 := fun y hy => by rw [o6 _ (by omega), o5 _ (by omega), o4 _ (by omega), r3 y hy]
    have k16 : ∀ y, y < 5 → S6 (b + 16) y = 0 := fun y hy => by rw [o6 _ (by omega), o5 _ (by omega), r4 y hy]
    have k17 : ∀ y, y < 4 → S6 (b + 17) y = 0 := fun y hy => by rw [o6 _ (by omega), r5 y hy]
    have k1 : S6 (b + 1) 4 = 0 := by rw [o6 _ (by omega), o5 _ (by omega), o4 _ (by omega), o3 _ (by omega), u2_n (by omega), o1 _ (by omega), u2_nr (by omega), u2_eq]
    have k2 : S6 (b + 2) 6 = 0 := by rw [o6 _ (by omega), o5 _ (by omega), o4 _ (by omega), o3 _ (by omega), u2_n (by omega), o1 _ (by omega), u2_eq]
    refine ⟨?_, ⟨?_, trivial⟩, ?_, ?_, ⟨?_, trivial⟩⟩
    · unfold CSc
      simp (disch := omega) only [u2_eq, u2_ni, u2_nr, k144, k15 4 (by omega), k16 0 (by omega), k16 1 (by omega), k16 2 (by omega), k16 3 (by omega), k16 4 (by omega), k17 0 (by omega), k17 1 (by omega), k17 2 (by omega), k17 3 (by omega)]
      simp [gNew]
    · simp (disch := omega) only [u2_eq, u2_ni, u2_nr, k1]
      rfl
    · intro i hi
      simp (disch := omega) only [u2_eq, u2_ni, u2_nr, k14 i hi, k15 i (by omega), k16 i (by omega), k17 i hi]
      simp [gNew]
    · intro i hi
      refine ⟨?_, trivial⟩
      simp (disch := omega) only [u2_eq, u2_ni, u2_nr]
      rw [r6 i hi]
      rfl
    · simp (disch := omega) only [u2_eq, u2_ni, u2_nr, k2]
      rfl
  · rw [u2_n (by omega), u2_n (by omega), u2_n (by omega), u2_n (by omega), u2_n (by omega), u2_n (by omega), o6 _ (by omega), o5 _ (by omega), o4 _ (by omega), o3 _ (by omega), u2_n (by omega), o1 _ (by omega), u2_n (by omega), u2_n (by omega)]
theorem zero_loop {p : Nat} : ∀ (m x : Nat) (S : Sg) (fu : Nat), x + m = 175 → m < fu → (∀ y, y < x → S p y = 0) → ∃ S', L_X11_begin_2 p fu S (nI x) = L_X11_begin_31 p gFu (u2 (u2 S' p 3 1) p 5 (-400)) 0 ∧ (∀ y, y < 175 → S' p y = 0) ∧ ∀ a, a ≠ p → S' a = S a := by
  intro m
  induction m with
  | zero =>
    intro x S fu hx hf hz
    obtain ⟨f, rfl, -⟩ := fuS hf
    refine ⟨S, ?_, fun y hy => hz y (by omega), fun _ _ => rfl⟩
    show Lb_X11_begin_2 p _ S (nI x) = _
    unfold Lb_X11_begin_2
    rw [if_pos (by rw [show (175 : Int32) = nI 175 from rfl, nIle (by omega) (by omega)]; omega), gck_c3, ix_c3, gstN, gck_c5, ix_c5, gstN]
  | succ m ih =>
    intro x S fu hx hf hz
    obtain ⟨f, rfl, hf⟩ := fuS hf
    obtain ⟨S', e1, e2, e3⟩ := ih (x + 1) (u2 S p x 0) f (by omega) (by omega) (fun y hy => by
      by_cases q : y = x
      · subst q; rw [u2_eq]
      · rw [u2_ni q]; exact hz y (by omega))
    refine ⟨S', ?_, e2, fun a ha => by rw [e3 a ha, u2_n ha]⟩
    show Lb_X11_begin_2 p _ S (nI x) = _
    unfold Lb_X11_begin_2
    rw [if_neg (by rw [show (175 : Int32) = nI 175 from rfl, nIle (by omega) (by omega)]; omega), gck_nI (by omega) (by omega), nI_c (by omega), gstN, gviN, nI_s]
    exact e1
theorem four_loop {p : Nat} {S0 : Sg} : ∃ S', L_X11_begin_31 p gFu S0 0 = some S' ∧ (∀ i, i < 4 → S' p (75 + 5 * i) = 100 ∧ S' p (75 + 5 * i + 1) = 1 ∧ S' p (75 + 5 * i + 2) = S0 p (75 + 5 * i + 2) ∧ S' p (75 + 5 * i + 3) = S0 p (75 + 5 * i + 3) ∧ S' p (75 + 5 * i + 4) = S0 p (75 + 5 * i + 4)) ∧ (∀ y, (y < 75 ∨ 95 ≤ y) → S' p y = S0 p y) ∧ ∀ a, a ≠ p → S' a = S0 a := by
  have loop : ∀ (m i : Nat) (S : Sg) (fu : Nat), i + m = 4 → m < fu → ∃ S', L_X11_begin_31 p fu S (nI i) = some S' ∧ (∀ j, i ≤ j → j < 4 → S' p (75 + 5 * j) = 100 ∧ S' p (75 + 5 * j + 1) = 1) ∧ (∀ y, (∀ j, i ≤ j → j < 4 → y ≠ 75 + 5 * j ∧ y ≠ 75 + 5 * j + 1) → S' p y = S p y) ∧ ∀ a, a ≠ p → S' a = S a := by
    intro m
    induction m with
    | zero =>
      intro i S fu hi hf
      obtain ⟨f, rfl, -⟩ := fuS hf
      refine ⟨S, ?_, fun j h1 h2 => by omega, fun _ _ => rfl, fun _ _ => rfl⟩
      show Lb_X11_begin_31 p _ S (nI i) = _
      unfold Lb_X11_begin_31
      rw [if_pos (by rw [show (4 : Int32) = nI 4 from rfl, nIle (by omega) (by omega)]; omega)]
    | succ m ih =>
      intro i S fu hi hf
      obtain ⟨f, rfl, hf⟩ := fuS hf
      obtain ⟨S', e1, e2, e3, e4⟩ := ih (i + 1) (u2 (u2 S p (75 + 5 * i) 100) p (75 + 5 * i + 1) 1) f (by omega) (by omega)
      refine ⟨S', ?_, fun j h1 h2 => ?_, fun y hy => ?_, fun a ha => by rw [e4 a ha, u2_n ha, u2_n ha]⟩
      · show Lb_X11_begin_31 p _ S (nI i) = _
        unfold Lb_X11_begin_31
        rw [if_neg (by rw [show (4 : Int32) = nI 4 from rfl, nIle (by omega) (by omega)]; omega), companyAt_ok, gbiN, gck_nI (by omega) (by omega), nI_c (by omega), gstN, companyAt_ok, gbiN, nIp1, gck_nI (by omega) (by omega), nI_c (by omega), gstN, gviN, nI_s]
        exact e1
      · by_cases q : j = i
        · subst q
          rw [e3 _ (fun z z1 z2 => by omega), e3 _ (fun z z1 z2 => by omega), u2_ni (by omega), u2_eq, u2_eq]
          exact ⟨rfl, rfl⟩
        · exact e2 j (by omega) h2
      · have h0 := hy i (Nat.le_refl _) (by omega)
        rw [e3 y (fun j h1 h2 => hy j (by omega) h2), u2_ni h0.2, u2_ni h0.1]
  obtain ⟨S', e1, e2, e3, e4⟩ := loop 4 0 S0 gFu rfl (by unfold gFu; omega)
  rw [nI_0] at e1
  refine ⟨S', e1, fun i hi => ⟨(e2 i (Nat.zero_le _) hi).1, (e2 i (Nat.zero_le _) hi).2, ?_, ?_, ?_⟩, fun y hy => e3 y (fun j _ h2 => by omega), e4⟩
  · exact e3 _ (fun j _ h2 => by omega)
  · exact e3 _ (fun j _ h2 => by omega)
  · exact e3 _ (fun j _ h2 => by omega)
theorem M_begin {p : Nat} {S : Sg} : ∃ S', f_X11_begin p S = some S' ∧ MP (gNew 0) (S' p) ∧ ∀ a, a ≠ p → S' a = S a := by
  obtain ⟨S1, e1, z1, o1⟩ := zero_loop (p := p) 175 0 S gFu rfl (by unfold gFu; omega) (fun y hy => by omega)
  obtain ⟨S2, e2, c2, r2, o2⟩ := four_loop (p := p) (S0 := u2 (u2 S1 p 3 1) p 5 (-400))
  refine ⟨S2, ?_, ?_, fun a ha => by rw [o2 a ha, u2_n ha, u2_n ha, o1 a ha]⟩
  · unfold f_X11_begin
    rw [nI_0] at e1
    rw [e1, e2]
  · have rr : ∀ y, (y < 75 ∨ 95 ≤ y) → y ≠ 3 → y ≠ 5 → y < 175 → S2 p y = 0 := fun y hy h3 h5 h1 => by rw [r2 y hy, u2_ni h5, u2_ni h3, z1 y h1]
    have r3 : S2 p 3 = 1 := by rw [r2 3 (by omega), u2_ni (by omega), u2_eq]
    have r5 : S2 p 5 = -400 := by rw [r2 5 (by omega), u2_eq]
    refine ⟨?_, ⟨?_, trivial⟩, ?_, ?_, ⟨?_, trivial⟩⟩
    · unfold MSc
      rw [r3, r5, rr 0 (by omega) (by omega) (by omega) (by omega), rr 4 (by omega) (by omega) (by omega) (by omega), rr 6 (by omega) (by omega) (by omega) (by omega), rr 7 (by omega) (by omega) (by omega) (by omega), rr 8 (by omega) (by omega) (by omega) (by omega), rr 9 (by omega) (by omega) (by omega) (by omega), rr 10 (by omega) (by omega) (by omega) (by omega)]
      simp [gNew]
    · rw [rr 1 (by omega) (by omega) (by omega) (by omega)]; rfl
    · intro i hi
      have q := c2 i hi
      rw [q.1, q.2.1, q.2.2.2.1, q.2.2.2.2, u2_ni (by omega), u2_ni (by omega), u2_ni (by omega), u2_ni (by omega), z1 _ (by omega), z1 _ (by omega)]
      simp [gNew]
    · intro i hi
      have q := c2 i hi
      refine ⟨?_, trivial⟩
      rw [q.2.2.1, u2_ni (by omega), u2_ni (by omega), z1 _ (by omega)]
      rfl
    · rw [rr 2 (by omega) (by omega) (by omega) (by omega)]; rfl
