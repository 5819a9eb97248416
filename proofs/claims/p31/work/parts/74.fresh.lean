/-! ===== a game begins ===== -/
def gNew (x : Int32) : Game := (fun j => if j = 0 then x else if j = 3 then 1 else if j = 5 then -400 else 0, [], fun _ f => if f = 0 then 100 else if f = 1 then 1 else 0, fun _ => [], [])
theorem C_begin {b : Nat} {x : Int32} {S : Sg} : ∃ S', f_X7_begin b x S = some S' ∧ CP b (gNew x) S' ∧ Fr b S S' := by
  obtain ⟨S1, e1, o1, r1⟩ := fill_ok (k := b + 14) (n := 5) (by omega) 100 (u2 (u2 S (b + 1) 4 0) (b + 2) 6 0)
  obtain ⟨S3, e3, o3, r3⟩ := fill_ok (k := b + 15) (n := 5) (by omega) 1 (u2 S1 (b + 14) 4 (-400))
  obtain ⟨S4, e4, o4, r4⟩ := fill_ok (k := b + 16) (n := 5) (by omega) 0 S3
  obtain ⟨S5, e5, o5, r5⟩ := fill_ok (k := b + 17) (n := 4) (by omega) 0 S4
  obtain ⟨S6, e6, o6, r6⟩ := fill_ok (k := b + 18) (n := 4) (by omega) 0 S5
  refine ⟨u2 (u2 (u2 (u2 (u2 (u2 S6 b 3 x) b 4 1) b 5 0) b 6 0) b 7 0) b 8 0, ?_, ?_, fun k hk => ?_⟩
  · unfold f_X7_begin f_X0_begin
    rw [gstN, gstN, e1, gbvN, put_4 (by omega) (by omega), gbvN, e3, gbvN, e4, gbvN, e5, gbvN, e6, gbvN, gbvN, gstN, gstN, gstN, gstN, gstN, gstN]
  · have k14 : ∀ y, y < 4 → S6 (b + 14) y = 100 := fun y hy => by rw [o6 _ (by omega), o5 _ (by omega), o4 _ (by omega), o3 _ (by omega), u2_ni (by omega), r1 y (by omega)]
    have k144 : S6 (b + 14) 4 = -400 := by rw [o6 _ (by omega), o5 _ (by omega), o4 _ (by omega), o3 _ (by omega), u2_eq]
    have k15 : ∀ y, y < 5 → S6 (b + 15) y = 1 := fun y hy => by rw [o6 _ (by omega), o5 _ (by omega), o4 _ (by omega), r3 y hy]
    have k16 : ∀ y, y < 5 → S6 (b + 16) y = 0 := fun y hy => by rw [o6 _ (by omega), o5 _ (by omega), r4 y hy]
    have k17 : ∀ y, y < 4 → S6 (b + 17) y = 0 := fun y hy => by rw [o6 _ (by omega), r5 y hy]
    have k1 : S6 (b + 1) 4 = 0 := by rw [o6 _ (by omega), o5 _ (by omega), o4 _ (by omega), o3 _ (by omega), u2_n (by omega), o1 _ (by omega), u2_nr (by omega), u2_eq]
    have k2 : S6 (b + 2) 6 = 0 := by rw [o6 _ (by omega), o5 _ (by omega), o4 _ (by omega), o3 _ (by omega), u2_n (by omega), o1 _ (by omega), u2_eq]
    refine ⟨?_, ⟨?_, trivial⟩, ?_, ?_, ⟨?_, trivial⟩⟩
    · unfold CSc
      simp (disch := omega) only [u2_eq, u2_ni, u2_nr, k144, k15 4 (by omega), k16 0 (by omega), k16 1 (by omega), k16 2 (by omega), k16 3 (by omega), k16 4 (by omega), k17 0 (by omega), k17 1 (by omega), k17 2 (by omega), k17 3 (by omega)]
      simp [gNew]
    · simp (disch := omega) only [u2_eq, u2_ni, u2_nr, k1]
      rfl
    · intro i hi
      simp (disch := omega) only [u2_eq, u2_ni, u2_nr, k14 i hi, k15 i (by omega), k16 i (by omega), k17 i hi]
      simp [gNew]
    · intro i hi
      refine ⟨?_, trivial⟩
      simp (disch := omega) only [u2_eq, u2_ni, u2_nr]
      rw [r6 i hi]
      rfl
    · simp (disch := omega) only [u2_eq, u2_ni, u2_nr, k2]
      rfl
  · rw [u2_n (by omega), u2_n (by omega), u2_n (by omega), u2_n (by omega), u2_n (by omega), u2_n (by omega), o6 _ (by omega), o5 _ (by omega), o4 _ (by omega), o3 _ (by omega), u2_n (by omega), o1 _ (by omega), u2_n (by omega), u2_n (by omega)]
