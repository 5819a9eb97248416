/-! ===== rents are paid on the way ===== -/
def gPay1 (g : Game) (o x : Int32) : Game := if o = -9 then gSc g 5 (g.1 5 + x) else gCo (gCo g o.toNatClampNeg 0 (g.2.2.1 o.toNatClampNeg 0 + x)) o.toNatClampNeg 3 (g.2.2.1 o.toNatClampNeg 3 + x)
def gPay (g : Game) (i : Nat) (o x : Int32) : Game := gSc (gCo (gPay1 g o x) i 0 ((gPay1 g o x).2.2.1 i 0 - x)) 6 (g.1 6 + x)
theorem gPay1_sc {g : Game} {o x : Int32} {j : Nat} (h : j ≠ 5) : (gPay1 g o x).1 j = g.1 j := by
  unfold gPay1
  split
  · simp [gSc, h]
  · rfl
theorem gPay1_co {g : Game} {o x : Int32} {a f : Nat} (h0 : f ≠ 0) (h3 : f ≠ 3) : (gPay1 g o x).2.2.1 a f = g.2.2.1 a f := by
  unfold gPay1
  split
  · rfl
  · simp [gCo, h0, h3]
theorem gPay_l {g : Game} {i : Nat} {o x : Int32} : (gPay g i o x).2.1 = g.2.1 ∧ (gPay g i o x).2.2.2 = g.2.2.2 := by
  unfold gPay gPay1
  split <;> exact ⟨rfl, rfl⟩
theorem gPay_co1 {g : Game} {i a f : Nat} {o x : Int32} (h0 : f ≠ 0) (h3 : f ≠ 3) : (gPay g i o x).2.2.1 a f = g.2.2.1 a f := by
  unfold gPay
  simp only [gSc, gCo]
  rw [if_neg (fun q => h0 q.2)]
  exact gPay1_co h0 h3
theorem gPay_sc {g : Game} {i j : Nat} {o x : Int32} (h5 : j ≠ 5) (h6 : j ≠ 6) : (gPay g i o x).1 j = g.1 j := by
  unfold gPay
  simp only [gSc, gCo]
  rw [if_neg h6]
  exact gPay1_sc h5
theorem V_pay {c n i : Nat} {o x : Int32} {g : Game} (h : V c n g) : V c n (gPay g i o x) := by
  obtain ⟨h1, h2, h3, h4, h5, h6⟩ := h
  have e1 := gPay_l (g := g) (i := i) (o := o) (x := x)
  refine ⟨by rw [gPay_sc (by omega) (by omega)]; exact h1, by rw [gPay_sc (by omega) (by omega)]; exact h2, by rw [e1.1]; exact h3, fun a ha => by rw [gPay_co1 (by omega) (by omega), gPay_co1 (by omega) (by omega)]; exact h4 a ha, by rw [e1.2]; exact h5, by rw [e1.2]; exact h6⟩
theorem sum5 {m : Nat} {f : Nat → Int32} {x s : Int32} (hm : m < 5) (h : f 0 + f 1 + f 2 + f 3 + f 4 = s) : (if m = 0 then f m + x else f 0) + (if m = 1 then f m + x else f 1) + (if m = 2 then f m + x else f 2) + (if m = 3 then f m + x else f 3) + (if m = 4 then f m + x else f 4) = s + x := by
  rw [← h]
  have hm5 : m = 0 ∨ m = 1 ∨ m = 2 ∨ m = 3 ∨ m = 4 := by omega
  rcases hm5 with rfl | rfl | rfl | rfl | rfl <;> simp <;> simp only [Int32.add_assoc, add_lc, Int32.add_comm]
theorem addsub (a x : Int32) : a - x + x = a := by rw [Int32.sub_eq_add_neg, Int32.add_assoc, Int32.add_left_neg, Int32.add_zero]
theorem subadd (a x : Int32) : a + x - x = a := by rw [Int32.sub_eq_add_neg, Int32.add_assoc, Int32.add_right_neg, Int32.add_zero]
theorem add_sub_c (a x y : Int32) : a + x - y = a - y + x := by rw [Int32.sub_eq_add_neg, Int32.sub_eq_add_neg, Int32.add_assoc, Int32.add_comm x, Int32.add_assoc]
/-- the class pays the rent -/
theorem C_pay {b i : Nat} {g : Game} {S : Sg} {o x : Int32} (h : CP b g S) (hi : i < 4) (ho : oR o) : ∃ S', f_X0_payRent b (nI i) (if o = -9 then 4 else o) x S = some S' ∧ CP b (gPay g i o x) S' ∧ Fr b S S' := by
  -- m: the payee's place
  obtain ⟨m, hm, em, hmo⟩ : ∃ m : Nat, m < 5 ∧ (if o = -9 then (4 : Int32) else o) = nI m ∧ ((m = 4 ∧ o = -9) ∨ (m < 4 ∧ o = nI m)) := by
    rcases ho with e | ⟨j, hj, e⟩
    · exact ⟨4, by omega, by rw [if_pos e]; rfl, Or.inl ⟨rfl, e⟩⟩
    · exact ⟨j, by omega, by rw [if_neg (by rw [e]; exact nI_m9 (by omega)), e], Or.inr ⟨hj, e⟩⟩
  obtain ⟨hSc, hTr, hCo, hTn, hCt⟩ := h
  obtain ⟨s1, s2, s3, s5, s6, s7, s8, s9, s10, s11⟩ := hSc
  -- the coins after the transfer
  have ht : ∃ S1, f_X0_transfer b (nI i) (nI m) x S = some S1 ∧ (∀ a, a ≠ b + 14 → S1 a = S a) ∧ ∀ y, S1 (b + 14) y = if i = m then S (b + 14) y else if y = m then S (b + 14) m + x else if y = i then S (b + 14) i - x else S (b + 14) y := by
    by_cases e : i = m
    · subst e
      refine ⟨_, transfer_self (by omega), fun a ha => by rw [u2_n ha, u2_n ha], fun y => ?_⟩
      rw [if_pos rfl]
      by_cases ey : y = i
      · subst ey; rw [u2_eq, addsub]
      · rw [u2_ni ey, u2_ni ey]
    · refine ⟨_, transfer_ok (by omega) (by omega) e, fun a ha => by rw [u2_n ha, u2_n ha], fun y => ?_⟩
      rw [if_neg e]
      by_cases ey : y = m
      · subst ey; rw [u2_eq, if_pos rfl]
      · rw [u2_ni ey, if_neg ey]
        by_cases ei : y = i
        · subst ei; rw [u2_eq, if_pos rfl]
        · rw [u2_ni ei, if_neg ei]
  obtain ⟨S1, t1, t2, t3⟩ := ht
  refine ⟨u2 S1 (b + 16) m (S (b + 16) m + x), ?_, ?_, ((show Fr b S S1 from fun k hk => t2 k (by omega))).ux (by omega)⟩
  · rw [em]
    unfold f_X0_payRent
    rw [t1, gbvN, at_ok (by omega) (by omega), gbiN, put_ok (by omega) (by omega), gbvN, t2 (b + 16) (by omega)]
  · have hco1 : ∀ a f, f ≠ 0 → f ≠ 3 → (gPay g i o x).2.2.1 a f = g.2.2.1 a f := fun a f h0 h3 => gPay_co1 h0 h3
    have el := gPay_l (g := g) (i := i) (o := o) (x := x)
    have hsc : ∀ j, j ≠ 5 → j ≠ 6 → (gPay g i o x).1 j = g.1 j := fun j h5 h6 => gPay_sc h5 h6
    have hs6 : (gPay g i o x).1 6 = g.1 6 + x := by unfold gPay; simp [gSc]
    have hs5 : (gPay g i o x).1 5 = if m = 4 then g.1 5 + x else g.1 5 := by
      rcases hmo with ⟨e1, e2⟩ | ⟨e1, e2⟩
      · subst e1; subst e2
        simp [gPay, gPay1, gSc, gCo]
      · have h9 : o ≠ -9 := by rw [e2]; exact nI_m9 (by omega)
        have h4 : m ≠ 4 := by omega
        simp [gPay, gPay1, gSc, gCo, h9, h4]
    have hc0 : ∀ a, a < 4 → (gPay g i o x).2.2.1 a 0 = if i = m then g.2.2.1 a 0 else if a = m then g.2.2.1 m 0 + x else if a = i then g.2.2.1 i 0 - x else g.2.2.1 a 0 := by
      intro a ha
      rcases hmo with ⟨e1, e2⟩ | ⟨e1, e2⟩
      · subst e1; subst e2
        have n1 : i ≠ 4 := by omega
        have n2 : a ≠ 4 := by omega
        simp [gPay, gPay1, gSc, gCo, n1, n2]
      · have h9 : o ≠ -9 := by rw [e2]; exact nI_m9 (by omega)
        have hcl : o.toNatClampNeg = m := by rw [e2, nI_c (by omega)]
        by_cases e : i = m
        · subst e
          simp only [gPay, gPay1, gSc, gCo, if_neg h9, hcl]
          by_cases ea : a = i
          · subst ea; simp [subadd]
          · simp [ea]
        · have e' : ¬ m = i := fun q => e q.symm
          simp only [gPay, gPay1, gSc, gCo, if_neg h9, hcl]
          by_cases ea : a = m
          · subst ea; simp [e, e']
          · by_cases ei : a = i
            · subst ei; simp [ea, e]
            · simp [ea, ei, e]
    have hc3 : ∀ a, a < 4 → (gPay g i o x).2.2.1 a 3 = if a = m then g.2.2.1 m 3 + x else g.2.2.1 a 3 := by
      intro a ha
      rcases hmo with ⟨e1, e2⟩ | ⟨e1, e2⟩
      · subst e1; subst e2
        have n2 : a ≠ 4 := by omega
        simp [gPay, gPay1, gSc, gCo, n2]
      · have h9 : o ≠ -9 := by rw [e2]; exact nI_m9 (by omega)
        have hcl : o.toNatClampNeg = m := by rw [e2, nI_c (by omega)]
        simp only [gPay, gPay1, gSc, gCo, if_neg h9, hcl]
        by_cases ea : a = m
        · subst ea; simp
        · simp [ea]
    have k14 : ∀ y, u2 S1 (b + 16) m (S (b + 16) m + x) (b + 14) y = S1 (b + 14) y := fun y => by rw [u2_nr (by omega)]
    have kot : ∀ a, a ≠ b + 14 → a ≠ b + 16 → u2 S1 (b + 16) m (S (b + 16) m + x) a = S a := fun a h1 h2 => by rw [u2_n h2, t2 a h1]
    have k16 : ∀ y, u2 S1 (b + 16) m (S (b + 16) m + x) (b + 16) y = if m = y then S (b + 16) m + x else S (b + 16) y := fun y => by
      by_cases e : m = y
      · subst e; rw [u2_eq, if_pos rfl]
      · rw [u2_ni (fun q => e q.symm), if_neg e, t2 _ (by omega)]
    refine ⟨?_, ?_, ?_, ?_, ?_⟩
    · unfold CSc
      rw [kot b (by omega) (by omega), kot (b + 17) (by omega) (by omega), kot (b + 15) (by omega) (by omega), k14, k16, k16, k16, k16, k16, hs6, hs5]
      simp (disch := omega) only [hsc]
      refine ⟨s1, s2, s3, ?_, sum5 (f := S (b + 16)) hm s6, s7, s8, s9, s10, s11⟩
      rw [t3]
      by_cases e : m = 4
      · subst e
        rw [if_neg (by omega), if_pos rfl, if_pos rfl, s5]
      · rw [if_neg e]
        by_cases e2 : i = m
        · rw [if_pos e2, s5]
        · rw [if_neg e2, if_neg (fun q => e q.symm), if_neg (by omega), s5]
    · rw [el.1]
      apply CTr_fr hTr <;> (apply kot <;> omega)
    · intro a ha
      have q := hCo a ha
      rw [k14, k16, kot (b + 15) (by omega) (by omega), kot (b + 17) (by omega) (by omega), t3, hc0 a ha, hc3 a ha, hco1 a 1 (by omega) (by omega), hco1 a 4 (by omega) (by omega)]
      refine ⟨?_, q.2.1, ?_, q.2.2.2⟩
      · by_cases e : i = m
        · rw [if_pos e, if_pos e]; exact q.1
        · rw [if_neg e, if_neg e]
          by_cases ea : a = m
          · subst ea; rw [if_pos rfl, if_pos rfl, q.1]
          · rw [if_neg ea, if_neg ea]
            by_cases ei : a = i
            · subst ei; rw [if_pos rfl, if_pos rfl, q.1]
            · rw [if_neg ei, if_neg ei]; exact q.1
      · by_cases ea : a = m
        · subst ea; rw [if_pos rfl, if_pos rfl, q.2.2.1]
        · rw [if_neg (fun q => ea q.symm), if_neg ea]; exact q.2.2.1
    · rw [el.2]
      apply CTn_fr hTn <;> (apply kot <;> omega)
    · rw [el.2]
      apply CCt_fr hCt <;> (apply kot <;> omega)
