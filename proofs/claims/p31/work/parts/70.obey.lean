/-! ===== commands of a script ===== -/
theorem ite_bI {b : Bool} {S : Sg} : (if bI b = 0 then some ((0 : Int32), S) else some ((1 : Int32), S)) = some (bI b, S) := by cases b <;> rfl
/-- a command: none if it fails -/
def gOb (g : Game) (h w r : Nat) : Option Game :=
  if h = 1 then (if w < 4 ∧ r < 100 then (match g.2.1[r]? with
    | none => none
    | some a => if mayT g w a = true then some (gSellT g w r a) else none) else none)
  else if h = 2 then (if w < 4 ∧ 1 ≤ r ∧ r ≤ 6 ∧ mayN g w (nI r) = true then some (gSellN g w (nI r)) else none)
  else if h = 3 then (if w < 4 ∧ r < 10 then some (gCo g w 1 (nI r)) else none)
  else if h = 4 then (if w < 4 ∧ r < 10 then (match g.2.2.2.2[r]? with
    | none => none
    | some a => if a.2.2.2.2.1 = -9 then some (gTake g w r a) else none) else none)
  else if h = 5 then (if r < 10 then (match g.2.2.2.2[w]? with
    | none => none
    | some a => if a.2.2.2.2.1 = -9 then none else match (g.2.2.2.1 a.2.2.2.2.1.toNatClampNeg)[r]? with
      | none => none
      | some t => if rsn g a.2.2.2.2.1.toNatClampNeg a t a.1.toNatClampNeg a.2.1.toNatClampNeg t.1.toNatClampNeg = 0 then some (gCar g a.2.2.2.2.1.toNatClampNeg w r a t (wP (wks g a.2.2.2.2.1.toNatClampNeg) a.2.1.toNatClampNeg a.1.toNatClampNeg (4 * t.1.toNatClampNeg))) else none) else none)
  else if h = 6 then (if w = 0 ∧ r = 0 then some (gEnd g) else none)
  else if h = 7 then (if w < 4 ∧ ¬ g.2.2.1 w 0 < nI r then some g else none)
  else if h = 8 then (if w = 0 ∧ r < 10 ∧ g.1 3 = nI r then some g else none)
  else if h = 9 then (if w < 4 ∧ r < 10 ∧ (g.2.2.2.1 w).length = r then some g else none)
  else none
theorem V_ob {c n h w r : Nat} {g g' : Game} (hV : V c n g) (he : gOb g h w r = some g') : V c (n + 1) g' := by
  have hm : V c (n + 1) g := V_mono hV (by omega)
  unfold gOb at he
  split at he
  · split at he
    · rename_i q
      split at he
      · cases he
      · rename_i a ha
        split at he
        · cases he; exact V_sellT hm q.1 ha
        · cases he
    · cases he
  · split at he
    · split at he
      · rename_i q
        cases he
        exact V_sellN hm q.1 (mayN_len q.2.2.2) ⟨r, q.2.1, q.2.2.1, rfl⟩
      · cases he
    · split at he
      · split at he
        · rename_i q
          cases he
          exact V_rent hm ⟨r, Nat.zero_le _, by omega, rfl⟩
        · cases he
      · split at he
        · split at he
          · rename_i q
            split at he
            · cases he
            · rename_i a ha
              split at he
              · cases he; exact V_take hm q.1 ha
              · cases he
          · cases he
        · split at he
          · split at he
            · split at he
              · cases he
              · rename_i a ha
                split at he
                · cases he
                · rename_i hne
                  obtain ⟨i, hi, ei⟩ : ∃ i : Nat, i < 4 ∧ a.2.2.2.2.1 = nI i := (hV.vl.2.2.2.2 a (mem_get ha)).resolve_left hne
                  rw [ei, nI_c (by omega)] at he
                  split at he
                  · cases he
                  · rename_i t ht
                    split at he
                    · cases he; exact V_car hm hi ha ht
                    · cases he
            · cases he
          · split at he
            · split at he
              · cases he; exact V_end hV
              · cases he
            · split at he
              · split at he
                · cases he; exact hm
                · cases he
              · split at he
                · split at he
                  · cases he; exact hm
                  · cases he
                · split at he
                  · split at he
                    · cases he; exact hm
                    · cases he
                  · cases he

