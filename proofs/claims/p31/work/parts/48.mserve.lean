theorem get_after {α : Type} {x : α} {l1 l2 : List α} {k : Nat} (h : l1.length ≤ k) : (l1 ++ l2)[k]? = (l1 ++ x :: l2)[k + 1]? := by
  rw [List.getElem?_append_right h, List.getElem?_append_right (by omega)]
  rw [show k + 1 - l1.length = (k - l1.length) + 1 by omega, List.getElem?_cons_succ]
theorem get_before {α : Type} {l1 l2 l3 : List α} {k : Nat} (h : k < l1.length) : (l1 ++ l2)[k]? = (l1 ++ l3)[k]? := by
  rw [List.getElem?_append_left h, List.getElem?_append_left h]
def srvE (x : T6) : T6 := end0 (srvC x)
theorem int_pred0 {k : Nat} (h : k ≤ 9) : (nI (k + 1) - 1 = 0) ↔ nI (k + 1) - 1 ≤ 0 := by
  rw [nI_pred]
  rw [show (0 : Int32) = nI 0 from rfl, nI_inj (by omega) (by omega), nIle (by omega) (by omega)]
  omega
