/-! ===== what holds of the games that the law plays ===== -/
def cs (g : Game) : Int32 := g.1 5 + g.2.2.1 0 0 + g.2.2.1 1 0 + g.2.2.1 2 0 + g.2.2.1 3 0
def bs (g : Game) : Int32 := g.2.2.1 0 4 + g.2.2.1 1 4 + g.2.2.1 2 4 + g.2.2.1 3 4 - g.1 9
def RB (n : Nat) (g : Game) : Prop := (∀ i, i < 4 → iR 0 n (g.2.2.1 i 3)) ∧ ∃ b : Nat, b ≤ n ∧ g.1 6 = g.2.2.1 0 3 + g.2.2.1 1 3 + g.2.2.1 2 3 + g.2.2.1 3 3 + nI b
def FB (n : Nat) (g : Game) : Prop := ∃ f : Nat, f ≤ n ∧ g.1 8 = nI (5 * f)
def TL (g : Game) : Prop := ∀ i, i < 4 → ∀ x ∈ g.2.2.2.1 i, ∃ p l : Nat, g.1 3 = nI p ∧ p ≤ 6 ∧ x.1 = nI l ∧ 1 ≤ l ∧ l ≤ p ∧ p ≤ l + 1
def RH (g : Game) : Prop := ∀ x ∈ g.2.2.2.2, x.2.2.2.2.2 = 0 ∨ x.2.2.2.2.1 ≠ -9
def CBd (n : Nat) (g : Game) : Prop := ∀ i, i < 4 → -(n : Int) ≤ (g.2.2.1 i 0).toInt ∧ (g.2.2.1 i 0).toInt ≤ n
def Wf (n : Nat) (g : Game) : Prop := cs g = 0 ∧ bs g = 0 ∧ RB n g ∧ FB n g ∧ TL g ∧ RH g ∧ CBd n g
theorem i4 {i : Nat} (h : i < 4) : i = 0 ∨ i = 1 ∨ i = 2 ∨ i = 3 := by omega
/-! coins -/
theorem cs_co {g g' : Game} (h5 : g'.1 5 = g.1 5) (h : ∀ i, g'.2.2.1 i 0 = g.2.2.1 i 0) : cs g' = cs g := by
  unfold cs
  rw [h5, h, h, h, h]
theorem cs_bank {g : Game} {i : Nat} {x : Int32} (hi : i < 4) : cs (gBank g i x) = cs g := by
  rcases i4 hi with rfl | rfl | rfl | rfl <;> simp [cs, gBank, gSc, gCo] <;> grind
theorem cs_pay {g : Game} {i : Nat} {o x : Int32} (hi : i < 4) (ho : oR o) : cs (gPay g i o x) = cs g := by
  rcases ho with rfl | ⟨j, hj, rfl⟩
  · rcases i4 hi with rfl | rfl | rfl | rfl <;> simp [cs, gPay, gPay1, gSc, gCo] <;> grind
  · have h9 : nI j ≠ -9 := nI_m9 (by omega)
    have e : (nI j).toNatClampNeg = j := nI_c (by omega)
    rcases i4 hi with rfl | rfl | rfl | rfl <;> rcases i4 hj with rfl | rfl | rfl | rfl <;> simp [cs, gPay, gPay1, gSc, gCo, h9, e] <;> grind
theorem cs_mail {g : Game} {i : Nat} {x : Int32} (hi : i < 4) : cs (gMail g i x) = cs g := by
  rcases i4 hi with rfl | rfl | rfl | rfl <;> simp [cs, gMail, gSc, gCo] <;> grind
theorem cs_path {g0 : Game} {i : Nat} (hi : i < 4) (ho : ∀ a ∈ g0.2.1, oR a.2.2.2) : ∀ (l : List Nat) (g : Game), cs (gPath g0 i l g) = cs g := by
  intro l
  induction l with
  | nil => intro g; rfl
  | cons t l ih =>
    intro g
    unfold gPath
    cases h : g0.2.1[t]? with
    | none => exact ih g
    | some a => exact (ih _).trans (cs_pay hi (ho a (mem_get h)))
theorem cs_br2 {g : Game} {i : Nat} (hi : i < 4) : cs (gBr2 g i) = cs g := by
  have h : cs (gBr2 g i) = cs (gBank g i (g.2.2.1 i 0)) := cs_co rfl (fun j => by
    show (if j = i ∧ 0 = 4 then _ else _) = _
    rw [if_neg (by omega)]; rfl)
  rw [h, cs_bank hi]
theorem cs_st : ∀ (m i : Nat) (g : Game), i + m ≤ 4 → cs (gSt g i m) = cs g := by
  intro m
  induction m with
  | zero => intro i g _; rfl
  | succ m ih =>
    intro i g h
    show cs (gSt (if 0 ≤ g.2.2.1 i 0 then g else gBr2 g i) (i + 1) m) = _
    rw [ih _ _ (by omega)]
    split
    · rfl
    · exact cs_br2 (by omega)
theorem cs_ups : ∀ (m i : Nat) (g : Game), i + m ≤ 4 → cs (ups g i m) = cs g := by
  intro m
  induction m with
  | zero => intro i g _; rfl
  | succ m ih =>
    intro i g h
    show cs (ups (gUp g i) (i + 1) m) = _
    rw [ih _ _ (by omega)]
    exact cs_bank (by omega)
theorem cs_fine {g : Game} {x : T6} (ho : oR x.2.2.2.2.1) : cs (gFine g x) = cs g := by
  unfold gFine
  rcases ho with h | ⟨j, hj, h⟩
  · rw [if_pos h]
  · rw [if_neg (by rw [h]; exact nI_m9 (by omega))]
    split
    · rw [h, nI_c (by omega)]
      exact (cs_co (g := gBank g j 5) rfl (fun _ => rfl)).trans (cs_bank hj)
    · rfl
theorem cs_fold : ∀ (l : List T6) (g : Game), (∀ x ∈ l, oR x.2.2.2.2.1) → cs (l.foldl gFine g) = cs g := by
  intro l
  induction l with
  | nil => intro g _; rfl
  | cons x l ih =>
    intro g h
    exact (ih (gFine g x) (fun y hy => h y (List.mem_cons_of_mem _ hy))).trans (cs_fine (h x List.mem_cons_self))
theorem cs_ct {g : Game} {l : List T6} : cs (gCt g l) = cs g := cs_co rfl (fun _ => rfl)
theorem cs_serve {g : Game} (hv : VL g) : cs (gServe g) = cs g := by
  unfold gServe
  rw [cs_ct, cs_fold _ _ hv.2.2.2.2]
theorem cs_mid {g : Game} (hv : VL g) : cs (gMid g) = cs g := by
  unfold gMid
  rw [cs_ups 4 0 _ (by omega), cs_serve hv]
theorem cs_zr {g : Game} {v : Int32} : cs (gZr (gSc g 4 v)) = cs g := cs_co rfl (fun _ => rfl)
theorem cs_end {g : Game} (hv : VL g) : cs (gEnd g) = cs g := by
  unfold gEnd gSet
  rw [cs_zr, cs_st 4 0 _ (by omega), cs_mid hv]
/-! bankruptcies -/
theorem bs_co {g g' : Game} (h9 : g'.1 9 = g.1 9) (h : ∀ i, g'.2.2.1 i 4 = g.2.2.1 i 4) : bs g' = bs g := by
  unfold bs
  rw [h9, h, h, h, h]
theorem bs_bank {g : Game} {i : Nat} {x : Int32} : bs (gBank g i x) = bs g := bs_co rfl (fun j => by
  show (if j = i ∧ 4 = 0 then _ else _) = _
  rw [if_neg (by omega)])
theorem bs_pay {g : Game} {i : Nat} {o x : Int32} : bs (gPay g i o x) = bs g := bs_co (gPay_sc (by omega) (by omega)) (fun j => gPay_co1 (by omega) (by omega))
theorem bs_path {g0 : Game} {i : Nat} : ∀ (l : List Nat) (g : Game), bs (gPath g0 i l g) = bs g := by
  intro l
  induction l with
  | nil => intro g; rfl
  | cons t l ih =>
    intro g
    unfold gPath
    cases h : g0.2.1[t]? with
    | none => exact ih g
    | some a => exact (ih _).trans bs_pay
theorem bs_mail {g : Game} {i : Nat} {x : Int32} : bs (gMail g i x) = bs g := bs_co rfl (fun j => by
  show (if j = i ∧ 4 = 0 then _ else _) = _
  rw [if_neg (by omega)]
  rfl)
theorem bs_br2 {g : Game} {i : Nat} (hi : i < 4) : bs (gBr2 g i) = bs g := by
  rcases i4 hi with rfl | rfl | rfl | rfl <;> simp [bs, gBr2, gBr1, gCt, gTr, gTn, gBank, gSc, gCo] <;> grind
theorem bs_st : ∀ (m i : Nat) (g : Game), i + m ≤ 4 → bs (gSt g i m) = bs g := by
  intro m
  induction m with
  | zero => intro i g _; rfl
  | succ m ih =>
    intro i g h
    show bs (gSt (if 0 ≤ g.2.2.1 i 0 then g else gBr2 g i) (i + 1) m) = _
    rw [ih _ _ (by omega)]
    split
    · rfl
    · exact bs_br2 (by omega)
theorem bs_ups : ∀ (m i : Nat) (g : Game), bs (ups g i m) = bs g := by
  intro m
  induction m with
  | zero => intro i g; rfl
  | succ m ih => intro i g; exact (ih (i + 1) (gUp g i)).trans bs_bank
theorem bs_fine {g : Game} {x : T6} : bs (gFine g x) = bs g := by
  unfold gFine
  split
  · rfl
  · split
    · exact (bs_co (g := gBank g x.2.2.2.2.1.toNatClampNeg 5) rfl (fun _ => rfl)).trans bs_bank
    · rfl
theorem bs_fold : ∀ (l : List T6) (g : Game), bs (l.foldl gFine g) = bs g := by
  intro l
  induction l with
  | nil => intro g; rfl
  | cons x l ih => intro g; exact (ih (gFine g x)).trans bs_fine
theorem bs_ct {g : Game} {l : List T6} : bs (gCt g l) = bs g := bs_co rfl (fun _ => rfl)
theorem bs_mid {g : Game} : bs (gMid g) = bs g := by
  unfold gMid gServe
  rw [bs_ups 4 0, bs_ct, bs_fold]
theorem bs_zr {g : Game} {v : Int32} : bs (gZr (gSc g 4 v)) = bs g := bs_co rfl (fun _ => rfl)
theorem bs_end {g : Game} : bs (gEnd g) = bs g := by
  unfold gEnd gSet
  rw [bs_zr, bs_st 4 0 _ (by omega), bs_mid]
/-! rents -/
theorem RB_co {n : Nat} {g g' : Game} (h : RB n g) (h6 : g'.1 6 = g.1 6) (h3 : ∀ i, g'.2.2.1 i 3 = g.2.2.1 i 3) : RB n g' := by
  obtain ⟨h1, b, h2, e⟩ := h
  exact ⟨fun i hi => by rw [h3]; exact h1 i hi, b, h2, by rw [h6, h3, h3, h3, h3]; exact e⟩
theorem RB_mono {n n' : Nat} {g : Game} (h : RB n g) (hn : n ≤ n') : RB n' g := by
  obtain ⟨h1, b, h2, e⟩ := h
  refine ⟨fun i hi => ?_, b, by omega, e⟩
  obtain ⟨k, a1, a2, a3⟩ := h1 i hi
  exact ⟨k, a1, by omega, a3⟩
theorem RB_pay {n p i : Nat} {o : Int32} {g : Game} (h : RB n g) (hi : i < 4) (ho : oR o) : RB (n + p) (gPay g i o (nI p)) := by
  obtain ⟨h1, b, h2, e⟩ := h
  rcases ho with rfl | ⟨j, hj, rfl⟩
  · refine ⟨fun a ha => ?_, b + p, by omega, ?_⟩
    · obtain ⟨k, a1, a2, a3⟩ := h1 a ha
      exact ⟨k, a1, by omega, by simpa [gPay, gPay1, gSc, gCo] using a3⟩
    · simp [gPay, gPay1, gSc, gCo]
      rw [e, ← nI_add]
      grind
  · have h9 : nI j ≠ -9 := nI_m9 (by omega)
    have ej : (nI j).toNatClampNeg = j := nI_c (by omega)
    have key : ∀ a, a < 4 → (gPay g i (nI j) (nI p)).2.2.1 a 3 = if a = j then g.2.2.1 a 3 + nI p else g.2.2.1 a 3 := by
      intro a ha
      simp only [gPay, gPay1, gSc, gCo, if_neg h9, ej]
      by_cases e1 : a = j
      · subst e1
        simp
      · simp [e1]
    have k6 : (gPay g i (nI j) (nI p)).1 6 = g.1 6 + nI p := by
      simp [gPay, gPay1, gSc, gCo, h9]
    refine ⟨fun a ha => ?_, b, by omega, ?_⟩
    · obtain ⟨k, a1, a2, a3⟩ := h1 a ha
      rw [key a ha]
      split
      · exact ⟨k + p, by omega, by omega, by rw [a3, nI_add]⟩
      · exact ⟨k, a1, by omega, a3⟩
    · rw [k6, key 0 (by omega), key 1 (by omega), key 2 (by omega), key 3 (by omega), e]
      rcases i4 hj with rfl | rfl | rfl | rfl <;> simp <;> grind
theorem RB_path {c m i : Nat} {g0 : Game} (hV : V c m g0) (hi : i < 4) : ∀ (l : List Nat) (g : Game) (n : Nat), RB n g → RB (n + 81 * l.length) (gPath g0 i l g) := by
  intro l
  induction l with
  | nil => intro g n h; exact h
  | cons t l ih =>
    intro g n h
    unfold gPath
    cases ha : g0.2.1[t]? with
    | none => exact RB_mono (ih g n h) (by simp only [List.length_cons]; omega)
    | some a =>
      obtain ⟨p, hp, ep⟩ := prc_v (i := i) hV (mem_get ha)
      show RB _ (gPath g0 i l (gPay g i a.2.2.2 (prc g0 i a)))
      rw [ep]
      exact RB_mono (ih _ _ (RB_pay h hi ((hV.2.2.1.2 a (mem_get ha)).2.2.2.2))) (by simp only [List.length_cons]; omega)
