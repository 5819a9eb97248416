/-! ===== small facts for scripts, rounds, forecasts ===== -/
theorem drs_nn {tn : Nat → List T2} {least : Int32} : ∀ (m i k : Nat), ∃ q, drs tn least i m (nI k) = nI (k + q) := by
  intro m
  induction m with
  | zero => intro i k; exact ⟨0, rfl⟩
  | succ m ih =>
    intro i k
    unfold drs
    have hle : ((tn i).filter (kpf least)).length ≤ (tn i).length := List.length_filter_le _ _
    rw [pk_sub hle, nI_add]
    obtain ⟨q, hq⟩ := ih (i + 1) (k + ((tn i).length - ((tn i).filter (kpf least)).length))
    exact ⟨(tn i).length - ((tn i).filter (kpf least)).length + q, by rw [hq, Nat.add_assoc]⟩
theorem drs_le {tn : Nat → List T2} {least : Int32} : ∀ (m i k : Nat), (∀ a, i ≤ a → a < i + m → (tn a).length ≤ 4) → ∃ q, q ≤ 4 * m ∧ drs tn least i m (nI k) = nI (k + q) := by
  intro m
  induction m with
  | zero => intro i k _; exact ⟨0, by omega, rfl⟩
  | succ m ih =>
    intro i k h
    unfold drs
    have hle : ((tn i).filter (kpf least)).length ≤ (tn i).length := List.length_filter_le _ _
    have h4 := h i (Nat.le_refl _) (by omega)
    rw [pk_sub hle, nI_add]
    obtain ⟨q, hq0, hq⟩ := ih (i + 1) (k + ((tn i).length - ((tn i).filter (kpf least)).length)) (fun a h1 h2 => h a (by omega) (by omega))
    exact ⟨(tn i).length - ((tn i).filter (kpf least)).length + q, by omega, by rw [hq, Nat.add_assoc]⟩
theorem rSellN_nn {g : Game} {i : Nat} {lv : Int32} (hv : VL g) (hl : (g.2.2.2.1 i).length < 4) : ∃ q, q ≤ 16 ∧ rSellN g i lv = nI q := by
  unfold rSellN
  split
  · obtain ⟨q, h1, h2⟩ := drs_le (tn := (gAddN g i lv).2.2.2.1) (least := lv - 1) 4 0 0 (fun a _ ha => (VL_addN (lv := lv) hv hl).2.1 a (by omega))
    refine ⟨q, by omega, ?_⟩
    rw [nI_0] at h2
    rw [h2, Nat.zero_add]
  · exact ⟨0, by omega, nI_0.symm⟩
theorem sm_cnt {α : Type} {P : α → Prop} [DecidablePred P] : ∀ (l : List α), ∃ q, q ≤ l.length ∧ sm (fun x => if P x then 1 else 0) l = nI q ∧ ((∃ x, x ∈ l ∧ P x) → 1 ≤ q) := by
  intro l
  induction l with
  | nil => exact ⟨0, Nat.le_refl _, nI_0.symm, fun ⟨x, hx, _⟩ => by cases hx⟩
  | cons a l ih =>
    obtain ⟨q, h1, h2, h3⟩ := ih
    by_cases e : P a
    · refine ⟨q + 1, by simp; omega, ?_, fun _ => by omega⟩
      show (if P a then 1 else 0) + sm (fun x => if P x then 1 else 0) l = _
      rw [if_pos e, h2, show (1 : Int32) = nI 1 from rfl, nI_add, Nat.add_comm]
    · refine ⟨q, by simp; omega, ?_, fun ⟨x, hx, hP⟩ => ?_⟩
      · show (if P a then 1 else 0) + sm (fun x => if P x then 1 else 0) l = _
        rw [if_neg e, h2, Int32.zero_add]
      · rcases List.mem_cons.mp hx with rfl | hx
        · exact absurd hP e
        · exact h3 ⟨x, hx, hP⟩
theorem cntC_take {g : Game} {i k : Nat} {a : T6} (hv : VL g) (hk : g.2.2.2.2[k]? = some a) : ∃ q, 1 ≤ q ∧ q ≤ 8 ∧ cntC (gTake g i k a) i = nI q := by
  obtain ⟨q, h1, h2, h3⟩ := sm_cnt (P := fun x : T6 => x.2.2.2.2.1 = nI i) (gTake g i k a).2.2.2.2
  have hl : (gTake g i k a).2.2.2.2.length = g.2.2.2.2.length := by simp [gTake, gCt]
  have h8 := hv.2.2.1
  refine ⟨q, h3 ⟨setH a (nI i), ?_, rfl⟩, by omega, h2⟩
  simp only [gTake, gCt]
  exact List.mem_set (lt_len hk) _
/-- who is bankrupt, as bits and as a number -/
def bad (g : Game) (i : Nat) : Bool := !decide (0 ≤ g.2.2.1 i 0)
theorem bits_v (g : Game) : ∃ q, q < 16 ∧ bSt g 0 4 0 = nI q ∧ q = (if bad g 0 then 1 else 0) + (if bad g 1 then 2 else 0) + (if bad g 2 then 4 else 0) + (if bad g 3 then 8 else 0) := by
  unfold bad
  by_cases h0 : 0 ≤ g.2.2.1 0 0 <;> by_cases h1 : 0 ≤ g.2.2.1 1 0 <;> by_cases h2 : 0 ≤ g.2.2.1 2 0 <;> by_cases h3 : 0 ≤ g.2.2.1 3 0 <;> refine ⟨_, ?_, ?_, rfl⟩ <;> simp [bSt, h0, h1, h2, h3] <;> decide
theorem cnt_v (g : Game) : cSt g 0 4 0 = nI ((if bad g 0 then 1 else 0) + (if bad g 1 then 1 else 0) + (if bad g 2 then 1 else 0) + (if bad g 3 then 1 else 0)) := by
  unfold bad
  by_cases h0 : 0 ≤ g.2.2.1 0 0 <;> by_cases h1 : 0 ≤ g.2.2.1 1 0 <;> by_cases h2 : 0 ≤ g.2.2.1 2 0 <;> by_cases h3 : 0 ≤ g.2.2.1 3 0 <;> simp [cSt, h0, h1, h2, h3] <;> decide
/-! what a round's end does to the count of bankruptcies -/
theorem gFine_co4 {g : Game} {x : T6} {a : Nat} : (gFine g x).2.2.1 a 4 = g.2.2.1 a 4 := by
  unfold gFine
  split
  · rfl
  · split
    · simp [gSc, gBank, gCo]
    · rfl
theorem fold_co4 {a : Nat} : ∀ (l : List T6) (g : Game), (l.foldl gFine g).2.2.1 a 4 = g.2.2.1 a 4 := by
  intro l
  induction l with
  | nil => intro g; rfl
  | cons x l ih => intro g; exact (ih (gFine g x)).trans gFine_co4
theorem ups_co4 {a : Nat} : ∀ (m i : Nat) (g : Game), (ups g i m).2.2.1 a 4 = g.2.2.1 a 4 := by
  intro m
  induction m with
  | zero => intro i g; rfl
  | succ m ih =>
    intro i g
    refine (ih (i + 1) (gUp g i)).trans ?_
    simp [gUp, gBank, gSc, gCo]
theorem mid_co4 {g : Game} {a : Nat} : (gMid g).2.2.1 a 4 = g.2.2.1 a 4 := by
  unfold gMid
  rw [ups_co4]
  exact fold_co4 _ _
theorem gBr2_co4e {g : Game} {i : Nat} : (gBr2 g i).2.2.1 i 4 = g.2.2.1 i 4 + 1 := by
  simp [gBr2, gCt, gTr, gBr1, gSc, gCo]
theorem gSt_co4 {a : Nat} : ∀ (m i : Nat) (g : Game), (gSt g i m).2.2.1 a 4 = if i ≤ a ∧ a < i + m ∧ ¬ 0 ≤ g.2.2.1 a 0 then g.2.2.1 a 4 + 1 else g.2.2.1 a 4 := by
  intro m
  induction m with
  | zero => intro i g; rw [if_neg (by omega)]; rfl
  | succ m ih =>
    intro i g
    show (gSt (if 0 ≤ g.2.2.1 i 0 then g else gBr2 g i) (i + 1) m).2.2.1 a 4 = _
    rw [ih]
    by_cases e : 0 ≤ g.2.2.1 i 0
    · rw [if_pos e]
      by_cases ea : a = i
      · subst ea
        rw [if_neg (by omega), if_neg (fun q => q.2.2 e)]
      · by_cases q : i + 1 ≤ a ∧ a < i + 1 + m ∧ ¬ 0 ≤ g.2.2.1 a 0
        · rw [if_pos q, if_pos ⟨by omega, by omega, q.2.2⟩]
        · rw [if_neg q, if_neg (fun z => q ⟨by omega, by omega, z.2.2⟩)]
    · rw [if_neg e]
      by_cases ea : a = i
      · subst ea
        rw [if_neg (by omega), if_pos ⟨Nat.le_refl _, by omega, e⟩, gBr2_co4e]
      · rw [gBr2_co ea, gBr2_co4 ea]
        by_cases q : i + 1 ≤ a ∧ a < i + 1 + m ∧ ¬ 0 ≤ g.2.2.1 a 0
        · rw [if_pos q, if_pos ⟨by omega, by omega, q.2.2⟩]
        · rw [if_neg q, if_neg (fun z => q ⟨by omega, by omega, z.2.2⟩)]
theorem gZr_co {g : Game} {v : Int32} : (gZr (gSc g 4 v)).2.2.1 = g.2.2.1 := rfl
theorem end_co4 {g : Game} {a : Nat} (ha : a < 4) : (gEnd g).2.2.1 a 4 = if bad (gMid g) a = true then g.2.2.1 a 4 + 1 else g.2.2.1 a 4 := by
  have h := gSt_co4 (a := a) 4 0 (gMid g)
  rw [gSet_eq] at h
  unfold gEnd
  rw [gZr_co, h, mid_co4]
  unfold bad
  by_cases e : 0 ≤ (gMid g).2.2.1 a 0
  · rw [if_neg (fun q => q.2.2 e), decide_eq_true e]
    rfl
  · rw [if_pos ⟨Nat.zero_le _, by omega, e⟩, decide_eq_false e]
    rfl

