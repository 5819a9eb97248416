def gZs (g : Game) (i : Nat) : Game := (g.1, g.2.1, g.2.2.1, fun a => if a < i then (g.2.2.2.1 a).map zr else g.2.2.2.1 a, g.2.2.2.2.map end0)
theorem VL_gZs {g : Game} {i : Nat} (h : VL g) : VL (gZs g i) := by
  obtain ⟨h1, h2, h3, h4, h5⟩ := h
  refine ⟨h1, fun a ha => ?_, by simp only [gZs, List.length_map]; exact h3, h4, fun x hx => ?_⟩
  · simp only [gZs]
    split
    · rw [List.length_map]; exact h2 a ha
    · exact h2 a ha
  · simp only [gZs, List.mem_map] at hx
    obtain ⟨y, hy, rfl⟩ := hx
    exact h5 y hy
theorem gSet_eq (g : Game) : gSt (gMid g) 0 4 = gSet g := rfl
