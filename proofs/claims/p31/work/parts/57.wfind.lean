/-! ===== ways: the reference finds them ===== -/
def MD (ks : List TK) (goal cc L : Nat) (S : Sg) : Prop := ∀ L' c', L' < L → c' < cc → S 400 (9 * L' + c') = nI (wA ks goal L' c')
theorem e9i {L c : Nat} : (9 : Int32) * nI L + nI c = nI (9 * L + c) := by rw [show (9 : Int32) = nI 9 from rfl, pk_mul, nI_add]
