theorem C_tri {s : St} {n : Nat} {S : Sg} (hv : IV n s) (h : IC s S) : ∃ S1, f_X7_copyFrom 35 14 S = some S1 ∧ CP 35 s.1 S1 ∧ CP 14 s.1 S1 ∧ Fb 35 S S1 := by
  obtain ⟨⟨c, hV⟩, -, -, -⟩ := hv
  obtain ⟨S1, e1, c1, f1⟩ := C_copy (b := 35) (b1 := 14) h.1 (V.vl hV) (Or.inr (by omega))
  exact ⟨S1, e1, c1, CP_o h.1 (fun k a b => f1 k (by omega)), Fb.f f1⟩
