/-! ===== rounds: what is forecast comes ===== -/
def fi9 (i : Nat) (x : T6) : Int32 := if x.2.2.2.2.1 = nI i then (if x.2.2.2.2.2 = 0 then 5 else 0) else 0
theorem fine_co0 {g : Game} {x : T6} {i : Nat} (hi : i < 4) (ho : oR x.2.2.2.2.1) : (gFine g x).2.2.1 i 0 = g.2.2.1 i 0 - fi9 i x := by
  unfold gFine fi9
  rcases ho with h | ⟨j, hj, h⟩
  · rw [if_pos h, if_neg (by rw [h]; exact fun e => nI_m9 (j := i) (by omega) e.symm), Int32.sub_zero]
  · rw [if_neg (by rw [h]; exact nI_m9 (by omega)), h, nI_c (by omega)]
    by_cases h5 : x.2.2.2.2.2 = 0
    · rw [if_pos h5]
      show (if i = j ∧ 0 = 0 then g.2.2.1 j 0 - 5 else g.2.2.1 i 0) = _
      by_cases e : i = j
      · subst e
        rw [if_pos ⟨rfl, rfl⟩, if_pos rfl, if_pos h5]
      · rw [if_neg (fun q => e q.1), if_neg (by rw [nI_inj (by omega) (by omega)]; exact fun q => e q.symm), Int32.sub_zero]
    · rw [if_neg h5]
      split <;> rw [Int32.sub_zero]
theorem fold_co0 {i : Nat} (hi : i < 4) : ∀ (l : List T6) (g : Game), (∀ x ∈ l, oR x.2.2.2.2.1) → (l.foldl gFine g).2.2.1 i 0 = g.2.2.1 i 0 - sm (fi9 i) l := by
  intro l
  induction l with
  | nil => intro g _; show g.2.2.1 i 0 = g.2.2.1 i 0 - 0; rw [Int32.sub_zero]
  | cons x l ih =>
    intro g h
    show (l.foldl gFine (gFine g x)).2.2.1 i 0 = g.2.2.1 i 0 - (fi9 i x + sm (fi9 i) l)
    rw [ih _ (fun y hy => h y (List.mem_cons_of_mem _ hy)), fine_co0 hi (h x List.mem_cons_self)]
    grind
theorem up_cnt {g : Game} {a i : Nat} : cntT (gUp g a) i = cntT g i ∧ lvl (gUp g a) i = lvl g i := ⟨rfl, rfl⟩
theorem ups_co0 {i : Nat} : ∀ (m k : Nat) (g : Game), (ups g k m).2.2.1 i 0 = if k ≤ i ∧ i < k + m then g.2.2.1 i 0 - (cntT g i + lvl g i) else g.2.2.1 i 0 := by
  intro m
  induction m with
  | zero => intro k g; show g.2.2.1 i 0 = _; rw [if_neg (by omega)]
  | succ m ih =>
    intro k g
    show (ups (gUp g k) (k + 1) m).2.2.1 i 0 = _
    rw [ih, up_cnt.1, up_cnt.2]
    have e : (gUp g k).2.2.1 i 0 = if i = k then g.2.2.1 k 0 - (cntT g k + lvl g k) else g.2.2.1 i 0 := by
      show (if i = k ∧ 0 = 0 then _ else _) = _
      by_cases q : i = k
      · rw [if_pos ⟨q, rfl⟩, if_pos q]
      · rw [if_neg (fun z => q z.1), if_neg q]
    rw [e]
    by_cases q : i = k
    · subst q
      rw [if_neg (by omega), if_pos rfl, if_pos ⟨Nat.le_refl _, by omega⟩]
    · rw [if_neg q]
      by_cases h : k + 1 ≤ i ∧ i < k + 1 + m
      · rw [if_pos h, if_pos ⟨by omega, by omega⟩]
      · rw [if_neg h, if_neg (fun z => h ⟨by omega, by omega⟩)]
theorem cnt_eq {g g' : Game} {i : Nat} (h1 : g'.2.1 = g.2.1) (h2 : g'.2.2.2.1 = g.2.2.2.1) : cntT g' i = cntT g i ∧ lvl g' i = lvl g i := by
  unfold cntT lvl
  rw [h1, h2]
  exact ⟨rfl, rfl⟩
theorem ct_co {g : Game} {l : List T6} : (gCt g l).2.2.1 = g.2.2.1 := rfl
theorem mid_co0 {g : Game} {i : Nat} (hi : i < 4) (hv : VL g) : (gMid g).2.2.1 i 0 = g.2.2.1 i 0 - (cntT g i + lvl g i) - sm (fi9 i) g.2.2.2.2 := by
  obtain ⟨-, b2, b3, -⟩ := serve_fr (g := g)
  obtain ⟨c1, c2⟩ := cnt_eq (i := i) b2 b3
  unfold gMid
  rw [ups_co0, if_pos ⟨by omega, by omega⟩, c1, c2]
  unfold gServe
  rw [ct_co, fold_co0 hi _ _ hv.2.2.2.2]
  grind
theorem fine_sc {g : Game} {x : T6} {j : Nat} (h5 : j ≠ 5) (h8 : j ≠ 8) : (gFine g x).1 j = g.1 j := by
  unfold gFine
  split
  · rfl
  · split
    · show (if j = 8 then _ else if j = 5 then _ else g.1 j) = _
      rw [if_neg h8, if_neg h5]
    · rfl
theorem fold_sc {j : Nat} (h5 : j ≠ 5) (h8 : j ≠ 8) : ∀ (l : List T6) (g : Game), (l.foldl gFine g).1 j = g.1 j := by
  intro l
  induction l with
  | nil => intro g; rfl
  | cons x l ih => intro g; exact (ih (gFine g x)).trans (fine_sc h5 h8)
theorem ups_sc {j : Nat} (h5 : j ≠ 5) : ∀ (m k : Nat) (g : Game), (ups g k m).1 j = g.1 j := by
  intro m
  induction m with
  | zero => intro k g; rfl
  | succ m ih =>
    intro k g
    refine (ih (k + 1) (gUp g k)).trans ?_
    show (if j = 5 then _ else g.1 j) = _
    rw [if_neg h5]
theorem ct_sc {g : Game} {l : List T6} : (gCt g l).1 = g.1 := rfl
theorem mid_sc {g : Game} {j : Nat} (h5 : j ≠ 5) (h8 : j ≠ 8) : (gMid g).1 j = g.1 j := by
  unfold gMid
  rw [ups_sc h5]
  unfold gServe
  rw [ct_sc, fold_sc h5 h8]
theorem end_4 {g : Game} : (gEnd g).1 4 = g.1 4 + 1 := by
  unfold gEnd
  rw [zr_4]
  unfold gSet
  rw [st_sc (by omega) (by omega), mid_sc (by omega) (by omega)]
theorem br2_9 {g : Game} {i : Nat} : (gBr2 g i).1 9 = g.1 9 + 1 := rfl
theorem cSt_br {g : Game} {a i m : Nat} {t : Int32} (h : a < i) : cSt (gBr2 g a) i m t = cSt g i m t := by
  induction m generalizing i t with
  | zero => rfl
  | succ m ih =>
    show cSt (gBr2 g a) (i + 1) m (if 0 ≤ (gBr2 g a).2.2.1 i 0 then t else t + 1) = cSt g (i + 1) m (if 0 ≤ g.2.2.1 i 0 then t else t + 1)
    rw [ih (by omega), br2_co0, if_neg (show ¬ i = a by omega)]
theorem cSt_t : ∀ (m i : Nat) (g : Game) (t : Int32), cSt g i m t = t + cSt g i m 0 := by
  intro m
  induction m with
  | zero => intro i g t; show t = t + 0; rw [Int32.add_zero]
  | succ m ih =>
    intro i g t
    show cSt g (i + 1) m (if 0 ≤ g.2.2.1 i 0 then t else t + 1) = t + cSt g (i + 1) m (if 0 ≤ g.2.2.1 i 0 then 0 else 0 + 1)
    rw [ih, ih (i + 1) g (if 0 ≤ g.2.2.1 i 0 then 0 else 0 + 1)]
    split <;> grind
theorem st_9 : ∀ (m i : Nat) (g : Game), (gSt g i m).1 9 = g.1 9 + cSt g i m 0 := by
  intro m
  induction m with
  | zero => intro i g; show g.1 9 = g.1 9 + 0; rw [Int32.add_zero]
  | succ m ih =>
    intro i g
    show (gSt (if 0 ≤ g.2.2.1 i 0 then g else gBr2 g i) (i + 1) m).1 9 = g.1 9 + cSt g (i + 1) m (if 0 ≤ g.2.2.1 i 0 then 0 else 0 + 1)
    rw [ih]
    split
    · rfl
    · rw [cSt_br (by omega), br2_9, cSt_t (m := m) (i := i + 1) (g := g) (t := 0 + 1)]
      grind
theorem end_9 {g : Game} : (gEnd g).1 9 = g.1 9 + cSt (gMid g) 0 4 0 := by
  unfold gEnd
  rw [zr_sc (by omega)]
  unfold gSet
  rw [st_9, mid_sc (by omega) (by omega)]
/-- nothing of a company is left -/
def Cl9 (i : Nat) (g : Game) : Prop := g.2.2.2.1 i = [] ∧ (∀ x ∈ g.2.1, x.2.2.2 ≠ nI i) ∧ ∀ x ∈ g.2.2.2.2, x.2.2.2.2.1 ≠ nI i
theorem Cl_br {g : Game} {i : Nat} (hi : i < 4) : Cl9 i (gBr2 g i) := by
  have h9 : (-9 : Int32) ≠ nI i := fun e => nI_m9 (j := i) (by omega) e.symm
  refine ⟨show (if i = i then [] else _) = [] by rw [if_pos rfl], fun x hx => ?_, fun x hx => ?_⟩
  · have hx : x ∈ g.2.1.map (retT i) := hx
    obtain ⟨y, hy, e⟩ := List.mem_map.mp hx
    rw [← e]
    show (if y.2.2.2 = nI i then -9 else y.2.2.2) ≠ nI i
    split
    · exact h9
    · assumption
  · have hx : x ∈ g.2.2.2.2.map (levC i) := hx
    obtain ⟨y, hy, e⟩ := List.mem_map.mp hx
    rw [← e]
    show (if y.2.2.2.2.1 = nI i then -9 else y.2.2.2.2.1) ≠ nI i
    split
    · exact h9
    · assumption
theorem Cl_br2 {g : Game} {i j : Nat} (hi : i < 4) (h : Cl9 i g) : Cl9 i (gBr2 g j) := by
  have h9 : (-9 : Int32) ≠ nI i := fun e => nI_m9 (j := i) (by omega) e.symm
  obtain ⟨h1, h2, h3⟩ := h
  refine ⟨?_, fun x hx => ?_, fun x hx => ?_⟩
  · show (if i = j then [] else g.2.2.2.1 i) = []
    split
    · rfl
    · exact h1
  · have hx : x ∈ g.2.1.map (retT j) := hx
    obtain ⟨y, hy, e⟩ := List.mem_map.mp hx
    rw [← e]
    show (if y.2.2.2 = nI j then -9 else y.2.2.2) ≠ nI i
    split
    · exact h9
    · exact h2 y hy
  · have hx : x ∈ g.2.2.2.2.map (levC j) := hx
    obtain ⟨y, hy, e⟩ := List.mem_map.mp hx
    rw [← e]
    show (if y.2.2.2.2.1 = nI j then -9 else y.2.2.2.2.1) ≠ nI i
    split
    · exact h9
    · exact h3 y hy
theorem Cl_st0 {i : Nat} (hi : i < 4) : ∀ (m k : Nat) (g : Game), Cl9 i g → Cl9 i (gSt g k m) := by
  intro m
  induction m with
  | zero => intro k g h; exact h
  | succ m ih =>
    intro k g h
    show Cl9 i (gSt (if 0 ≤ g.2.2.1 k 0 then g else gBr2 g k) (k + 1) m)
    split
    · exact ih _ _ h
    · exact ih _ _ (Cl_br2 hi h)
theorem Cl_st {i : Nat} (hi : i < 4) : ∀ (m k : Nat) (g : Game), k ≤ i → i < k + m → ¬ 0 ≤ g.2.2.1 i 0 → Cl9 i (gSt g k m) := by
  intro m
  induction m with
  | zero => intro k g h1 h2; omega
  | succ m ih =>
    intro k g h1 h2 h
    show Cl9 i (gSt (if 0 ≤ g.2.2.1 k 0 then g else gBr2 g k) (k + 1) m)
    by_cases e : k = i
    · subst e
      rw [if_neg h]
      exact Cl_st0 hi _ _ _ (Cl_br hi)
    · split
      · exact ih _ _ (by omega) (by omega) h
      · exact ih _ _ (by omega) (by omega) (by rw [br2_co0, if_neg (by omega)]; exact h)
theorem Cl_zr {i : Nat} {g : Game} {v : Int32} (h : Cl9 i g) : Cl9 i (gZr (gSc g 4 v)) := by
  obtain ⟨h1, h2, h3⟩ := h
  refine ⟨?_, h2, fun x hx => ?_⟩
  · show (g.2.2.2.1 i).map zr = []
    rw [h1]
    rfl
  · have hx : x ∈ g.2.2.2.2.map end0 := hx
    obtain ⟨y, hy, e⟩ := List.mem_map.mp hx
    rw [← e]
    exact h3 y hy
theorem Cl_end {i : Nat} {g : Game} (hi : i < 4) (h : ¬ 0 ≤ (gMid g).2.2.1 i 0) : Cl9 i (gEnd g) := by
  unfold gEnd gSet
  exact Cl_zr (Cl_st hi 4 0 _ (by omega) (by omega) h)
theorem sm_no {α : Type} {P : α → Prop} [DecidablePred P] : ∀ (l : List α), (∀ x ∈ l, ¬ P x) → sm (fun x => if P x then (1 : Int32) else 0) l = 0 := by
  intro l
  induction l with
  | nil => intro _; rfl
  | cons x l ih =>
    intro h
    show (if P x then (1 : Int32) else 0) + sm _ l = 0
    rw [if_neg (h x List.mem_cons_self), ih (fun y hy => h y (List.mem_cons_of_mem _ hy)), Int32.add_zero]
theorem Cl_cnt {i : Nat} {g : Game} (h : Cl9 i g) : cntT g i = 0 ∧ cntC g i = 0 ∧ (g.2.2.2.1 i).length = 0 := by
  refine ⟨sm_no _ h.2.1, sm_no _ h.2.2, by rw [h.1]; rfl⟩
theorem zr_tn {g : Game} {v : Int32} {i : Nat} : (gZr (gSc g 4 v)).2.2.2.1 i = (g.2.2.2.1 i).map zr := rfl
theorem end_ran {g : Game} {i : Nat} : ∀ x ∈ (gEnd g).2.2.2.1 i, x.2 = 0 := by
  intro x hx
  unfold gEnd at hx
  rw [zr_tn] at hx
  obtain ⟨y, hy, e⟩ := List.mem_map.mp hx
  rw [← e]
  rfl
theorem gEnds_s {g : Game} {m : Nat} : gEnds g (m + 1) = gEnds (gEnd g) m := rfl
theorem gEnds_e {m : Nat} : ∀ g : Game, gEnds g (m + 1) = gEnd (gEnds g m) := by
  induction m with
  | zero => intro g; rfl
  | succ m ih => intro g; rw [gEnds_s, ih (gEnd g), gEnds_s]
/-- when a company is bankrupt first -/
theorem bkA_v {i : Nat} : ∀ (d k : Nat) (g : Game), (bkA g i k d = -9 ∧ ∀ j, j < d → bad (gMid (gEnds g j)) i = false) ∨ ∃ j, j < d ∧ bkA g i k d = nI (k + j) ∧ bad (gMid (gEnds g j)) i = true ∧ ∀ j', j' < j → bad (gMid (gEnds g j')) i = false := by
  intro d
  induction d with
  | zero => intro k g; exact Or.inl ⟨rfl, fun j hj => absurd hj (Nat.not_lt_zero _)⟩
  | succ d ih =>
    intro k g
    cases hb : bad (gMid g) i with
    | true =>
      refine Or.inr ⟨0, by omega, ?_, hb, fun j' hj' => absurd hj' (Nat.not_lt_zero _)⟩
      show (if bad (gMid g) i = true then nI k else _) = _
      rw [if_pos hb]
      rfl
    | false =>
      have e : bkA g i k (d + 1) = bkA (gEnd g) i (k + 1) d := by
        show (if bad (gMid g) i = true then nI k else bkA (gEnd g) i (k + 1) d) = _
        rw [hb]
        rfl
      rw [e]
      rcases ih (k + 1) (gEnd g) with ⟨h1, h2⟩ | ⟨j, h1, h2, h3, h4⟩
      · refine Or.inl ⟨h1, fun j hj => ?_⟩
        cases j with
        | zero => exact hb
        | succ j => rw [gEnds_s]; exact h2 j (by omega)
      · refine Or.inr ⟨j + 1, by omega, by rw [h2]; congr 1; omega, by rw [gEnds_s]; exact h3, fun j' hj' => ?_⟩
        cases j' with
        | zero => exact hb
        | succ j' => rw [gEnds_s]; exact h4 j' (by omega)
/-- what rounds leave as it was -/
def Sam (w w' : At) (k : Nat) : Prop := w'.1 ≤ w.1 + k ∧ w'.2.2.1 = w.2.2.1 ∧ w'.2.2.2.1 = w.2.2.2.1 ∧ w'.2.2.2.2.2 = w.2.2.2.2.2
section RND
variable {c m N : Nat} {w : At}
theorem rd_360 {K52 : At → Int32 → Int32 → Int32 → Int32 → Int32 → Int32 → Int32 → Option (Int32 × At)} {x3 x4 x5 x6 x8 : Int32} {i : Nat} (hi : i < 4) (hl : (w.2.1.2.2.2.1 i).length ≤ 4) (hz : ∀ x ∈ w.2.1.2.2.2.1 i, x.2 = 0) : ∀ (d j fu : Nat), j + d = (w.2.1.2.2.2.1 i).length → d < fu → L_rounds_360 K52 fu w (nI i) x3 x4 x5 x6 1 x8 (nI j) = K52 w (nI i) x3 x4 x5 x6 1 (x8 + 1) := by
  intro d
  induction d with
  | zero =>
    intro j fu hj hf
    obtain ⟨fu, rfl⟩ : ∃ f, fu = f + 1 := ⟨fu - 1, by omega⟩
    show Lb_rounds_360 K52 _ w (nI i) x3 x4 x5 x6 1 x8 (nI j) = _
    unfold Lb_rounds_360
    rw [tCo2 hi, gbsN, if_pos (by rw [nIle (by omega) (by omega)]; omega), gviN]
  | succ d ih =>
    intro j fu hj hf
    obtain ⟨fu, rfl⟩ : ∃ f, fu = f + 1 := ⟨fu - 1, by omega⟩
    obtain ⟨x, hx⟩ := some_of_lt (show j < (w.2.1.2.2.2.1 i).length by omega)
    show Lb_rounds_360 K52 _ w (nI i) x3 x4 x5 x6 1 x8 (nI j) = _
    unfold Lb_rounds_360
    rw [tCo2 hi, gbsN, if_neg (by rw [nIle (by omega) (by omega)]; omega), if_neg (by decide), tTn1 hi hx hl, gbsN, if_pos (hz x (mem_get hx)), gviN, nI_s]
    exact ih (j + 1) fu (by omega) (by omega)
theorem rd_343 {K52 : At → Int32 → Int32 → Int32 → Int32 → Int32 → Int32 → Int32 → Option (Int32 × At)} {x3 x4 x5 x6 x8 : Int32} {i : Nat} (hi : i < 4) (hV : V c m w.2.1) (hW : Wf N w.2.1) (hN : N ≤ 100000000) (hz : ∀ x ∈ w.2.1.2.2.2.1 i, x.2 = 0) : B_rounds_343 K52 w (nI i) x3 x4 x5 x6 x8 = K52 w (nI i) x3 x4 x5 x6 1 (x8 + 1) := by
  have hl := (hV.2.2.2.2.1 i hi).1
  have := rd_360 (K52 := K52) (x3 := x3) (x4 := x4) (x5 := x5) (x6 := x6) (x8 := x8) hi hl hz (w.2.1.2.2.2.1 i).length 0 5 (Nat.zero_add _) (by omega)
  rw [nI_0] at this
  unfold B_rounds_343
  rw [sound_ok hV hW hN, gbsN, if_neg (by decide), this]
theorem rd_312 {K52 : At → Int32 → Int32 → Int32 → Int32 → Int32 → Int32 → Int32 → Option (Int32 × At)} {x3 x4 x5 x6 : Int32} {i t : Nat} {is : Bool} (hi : i < 4) (hV : V c m w.2.1) (hW : Wf N w.2.1) (hN : N ≤ 100000000) (hz : ∀ x ∈ w.2.1.2.2.2.1 i, x.2 = 0) (ht : t < 1000) (hb : (x6 = -9 ∧ is = false) ∨ ∃ b, b < 1000 ∧ x6 = nI b ∧ (b < t ∨ (b = t ∧ is = true) ∨ (t < b ∧ is = false))) : B_rounds_312 K52 w (nI i) x3 x4 x5 x6 (nI t) (bI is) = K52 w (nI i) x3 x4 x5 x6 1 (nI t + 1) := by
  have hend := rd_343 (K52 := K52) (x3 := x3) (x4 := x4) (x5 := x5) (x6 := x6) (x8 := nI t) hi hV hW hN hz
  unfold B_rounds_312
  rcases hb with ⟨rfl, rfl⟩ | ⟨b, hb9, rfl, h⟩
  · rw [if_pos rfl]
    unfold B_rounds_326
    rw [if_neg (fun e => nI_m9 (j := t) (by omega) e.symm)]
    unfold B_rounds_338
    rw [if_pos (show (0 : Int32) = bI false from rfl)]
    exact hend
  · rw [if_neg (nI_m9 (by omega))]
    by_cases hlt : b < t
    · rw [if_pos (show nI b < nI t by rw [nIlt (by omega) (by omega)]; exact hlt)]
      exact hend
    · rw [if_neg (show ¬ nI b < nI t by rw [nIlt (by omega) (by omega)]; exact hlt)]
      unfold B_rounds_326
      rcases h with h | ⟨rfl, rfl⟩ | ⟨h, rfl⟩
      · exact absurd h hlt
      · rw [if_pos rfl]
        unfold B_rounds_338
        rw [if_pos (show (1 : Int32) = bI true from rfl)]
        exact hend
      · rw [if_neg (show ¬ nI b = nI t by rw [nI_inj (by omega) (by omega)]; omega)]
        unfold B_rounds_338
        rw [if_pos (show (0 : Int32) = bI false from rfl)]
        exact hend
theorem rd_92 {K52 : At → Int32 → Int32 → Int32 → Int32 → Int32 → Int32 → Int32 → Option (Int32 × At)} {x3 x4 x5 x6 x8 x9 x10 : Int32} {i : Nat} (hi : i < 4) (hl : (w.2.1.2.2.2.1 i).length ≤ 4) : ∀ (d j fu : Nat) (a : Int32), j + d = (w.2.1.2.2.2.1 i).length → d < fu → L_rounds_92 K52 fu w (nI i) x3 x4 x5 x6 x8 x9 x10 a (nI j) = L_rounds_128 K52 9 w (nI i) x3 x4 x5 x6 x8 x9 x10 (a + sm (fun (x : T2) => x.1) ((w.2.1.2.2.2.1 i).drop j)) 0 0 := by
  intro d
  induction d with
  | zero =>
    intro j fu a hj hf
    obtain ⟨fu, rfl⟩ : ∃ f, fu = f + 1 := ⟨fu - 1, by omega⟩
    show Lb_rounds_92 K52 _ w (nI i) x3 x4 x5 x6 x8 x9 x10 a (nI j) = _
    unfold Lb_rounds_92
    rw [tCo2 hi, gbsN, if_pos (by rw [nIle (by omega) (by omega)]; omega), List.drop_eq_nil_of_le (by omega)]
    show _ = L_rounds_128 K52 9 w (nI i) x3 x4 x5 x6 x8 x9 x10 (a + 0) 0 0
    rw [Int32.add_zero]
  | succ d ih =>
    intro j fu a hj hf
    obtain ⟨fu, rfl⟩ : ∃ f, fu = f + 1 := ⟨fu - 1, by omega⟩
    obtain ⟨x, hx⟩ := some_of_lt (show j < (w.2.1.2.2.2.1 i).length by omega)
    show Lb_rounds_92 K52 _ w (nI i) x3 x4 x5 x6 x8 x9 x10 a (nI j) = _
    unfold Lb_rounds_92
    rw [tCo2 hi, gbsN, if_neg (by rw [nIle (by omega) (by omega)]; omega), tTn0 hi hx hl, gbsN, gviN, gviN, nI_s, ih (j + 1) fu _ (by omega) (by omega), drop_g9 hx]
    show _ = L_rounds_128 K52 9 w (nI i) x3 x4 x5 x6 x8 x9 x10 (a + (x.1 + _)) 0 0
    rw [Int32.add_assoc]
theorem rd_128 {K52 : At → Int32 → Int32 → Int32 → Int32 → Int32 → Int32 → Int32 → Option (Int32 × At)} {x3 x4 x5 x6 x8 x9 x10 x11 R : Int32} {i : Nat} (hk8 : w.2.1.2.2.2.2.length ≤ 8) : ∀ (d k fu : Nat) (a : Int32), k + d = w.2.1.2.2.2.2.length → d < fu → x9 - x11 - (a + sm (fi9 i) (w.2.1.2.2.2.2.drop k)) = R → L_rounds_128 K52 fu w (nI i) x3 x4 x5 x6 x8 x9 x10 x11 a (nI k) = if 0 ≤ R then B_rounds_209 K52 (aEnd w).2 (nI i) x3 x4 x5 x6 x8 x10 R (w.2.1.1 9) (aEnd w).1 0 else B_rounds_209 K52 (aEnd w).2 (nI i) x3 x4 x5 x6 x8 x10 R (w.2.1.1 9) (aEnd w).1 1 := by
  have e2 : h_tryAbout 2 w = some (nI w.2.1.2.2.2.2.length, w) := by simp [h_tryAbout, nAbout]
  have e9 : h_tryAbout 9 w = some (w.2.1.1 9, w) := by simp [h_tryAbout, nAbout]
  have ee : h_X10_endRound w = some ((aEnd w).1, (aEnd w).2) := rfl
  intro d
  induction d with
  | zero =>
    intro k fu a hk hf ha
    obtain ⟨fu, rfl⟩ : ∃ f, fu = f + 1 := ⟨fu - 1, by omega⟩
    rw [List.drop_eq_nil_of_le (by omega)] at ha
    have ha : x9 - x11 - (a + 0) = R := ha
    rw [Int32.add_zero] at ha
    show Lb_rounds_128 K52 _ w (nI i) x3 x4 x5 x6 x8 x9 x10 x11 a (nI k) = _
    unfold Lb_rounds_128
    rw [e2, gbsN, if_pos (by rw [nIle (by omega) (by omega)]; omega), gviN, ha, e9, gbsN, ee, gbsN]
  | succ d ih =>
    intro k fu a hk hf ha
    obtain ⟨fu, rfl⟩ : ∃ f, fu = f + 1 := ⟨fu - 1, by omega⟩
    obtain ⟨b, hb⟩ := some_of_lt (show k < w.2.1.2.2.2.2.length by omega)
    rw [drop_g9 hb] at ha
    have ha : x9 - x11 - (a + (fi9 i b + sm (fi9 i) (w.2.1.2.2.2.2.drop (k + 1)))) = R := ha
    rw [← Int32.add_assoc] at ha
    unfold fi9 at ha
    show Lb_rounds_128 K52 _ w (nI i) x3 x4 x5 x6 x8 x9 x10 x11 a (nI k) = _
    unfold Lb_rounds_128
    rw [e2, gbsN, if_neg (by rw [nIle (by omega) (by omega)]; omega), tCt4 hb hk8, gbsN]
    by_cases h1 : b.2.2.2.2.1 = nI i
    · rw [if_pos h1] at ha
      rw [if_pos h1, tCt5 hb hk8, gbsN]
      by_cases h2 : b.2.2.2.2.2 = 0
      · rw [if_pos h2] at ha
        rw [if_pos h2]
        unfold B_rounds_166
        rw [gviN, gviN, nI_s]
        exact ih (k + 1) fu _ (by omega) (by omega) ha
      · rw [if_neg h2] at ha
        rw [if_neg h2]
        unfold B_rounds_166
        rw [gviN, gviN, nI_s]
        exact ih (k + 1) fu _ (by omega) (by omega) ha
    · rw [if_neg h1] at ha
      rw [if_neg h1]
      unfold B_rounds_166
      rw [gviN, gviN, nI_s]
      exact ih (k + 1) fu _ (by omega) (by omega) ha
theorem rd_it {K52 : At → Int32 → Int32 → Int32 → Int32 → Int32 → Int32 → Int32 → Option (Int32 × At)} {x3 x4 x5 x6 : Int32} {i s : Nat} (hi : i < 4) (hV : V c m w.2.1) (hW : Wf N w.2.1) (hN : N ≤ 50000000) (h4 : w.2.1.1 4 = x3 + nI s) (hs : s < 500) (hx4 : ¬ x4 < nI (s + 1)) (hb : (x6 = -9 ∧ bad (gMid w.2.1) i = false) ∨ ∃ b, b < 1000 ∧ x6 = nI b ∧ (b < s + 1 ∨ (b = s + 1 ∧ bad (gMid w.2.1) i = true) ∨ (s + 1 < b ∧ bad (gMid w.2.1) i = false))) : Lb_rounds_52 K52 w (nI i) x3 x4 x5 x6 1 (nI (s + 1)) = K52 (aEnd w).2 (nI i) x3 x4 x5 x6 1 (nI (s + 1 + 1)) := by
  have hl := (hV.2.2.2.2.1 i hi).1
  have hk8 := hV.2.2.2.2.2.1
  have hvl := V.vl hV
  have hg : (aEnd w).2.2.1 = gEnd w.2.1 := rfl
  have hv : (aEnd w).1 = cSt (gMid w.2.1) 0 4 0 := rfl
  obtain ⟨w', hw'⟩ : ∃ w', w' = (aEnd w).2 := ⟨_, rfl⟩
  rw [← hw'] at hg
  have hV' : V c (m + 1) w'.2.1 := by rw [hg]; exact V_end hV
  have hW' : Wf (N + 5000) w'.2.1 := by rw [hg]; exact Wf_end hV hW (by omega)
  have hz : ∀ x ∈ w'.2.1.2.2.2.1 i, x.2 = 0 := by rw [hg]; exact end_ran
  have hR := mid_co0 (g := w.2.1) hi hvl
  have e4 : h_tryAbout 4 w' = some (w'.2.1.1 4, w') := by simp [h_tryAbout, nAbout]
  have e9 : h_tryAbout 9 w' = some (w'.2.1.1 9, w') := by simp [h_tryAbout, nAbout]
  have k4 : w'.2.1.1 4 = x3 + nI (s + 1) := by rw [hg, end_4, h4, Int32.add_assoc, nI_s]
  have k9 : w'.2.1.1 9 = w.2.1.1 9 + (aEnd w).1 := by rw [hg, end_9, hv]
  have h92 := rd_92 (K52 := K52) (x3 := x3) (x4 := x4) (x5 := x5) (x6 := x6) (x8 := nI (s + 1)) (x9 := w.2.1.2.2.1 i 0) (x10 := w.2.1.2.2.1 i 4) hi hl (w.2.1.2.2.2.1 i).length 0 5 (cntT w.2.1 i) (Nat.zero_add _) (by omega)
  rw [nI_0, List.drop_zero] at h92
  have h128 := rd_128 (K52 := K52) (x3 := x3) (x4 := x4) (x5 := x5) (x6 := x6) (x8 := nI (s + 1)) (x9 := w.2.1.2.2.1 i 0) (x10 := w.2.1.2.2.1 i 4) (x11 := cntT w.2.1 i + sm (fun (x : T2) => x.1) (w.2.1.2.2.2.1 i)) (i := i) (R := (gMid w.2.1).2.2.1 i 0) hk8 w.2.1.2.2.2.2.length 0 9 0 (Nat.zero_add _) (by omega) (by rw [List.drop_zero, hR, Int32.zero_add]; rfl)
  rw [nI_0] at h128
  unfold Lb_rounds_52
  rw [if_neg hx4, if_neg (by decide), tCo0 hi, gbsN, tCo6 hi, gbsN, tCo3 hi, gbsN, h92, h128, ← hw']
  have h312 := rd_312 (K52 := K52) (x3 := x3) (x4 := x4) (x5 := x5) (x6 := x6) (t := s + 1) (is := bad (gMid w.2.1) i) hi hV' hW' (by omega) hz (by omega) hb
  rw [nI_s] at h312
  have k6 := end_co4 (g := w.2.1) hi
  rw [← hg] at k6
  have k0 := end_co0 (g := w.2.1) hi
  rw [← hg] at k0
  by_cases h0 : 0 ≤ (gMid w.2.1).2.2.1 i 0
  · have hbad : bad (gMid w.2.1) i = false := by unfold bad; rw [decide_eq_true h0]; rfl
    rw [hbad] at h312 k6
    rw [if_pos h0] at k0
    rw [if_pos h0]
    unfold B_rounds_209
    rw [e4, gbsN, if_pos k4, e9, gbsN, if_pos k9, tCo0 hi, gbsN, if_pos rfl]
    unfold B_rounds_254
    rw [if_pos k0, tCo6 hi, gbsN, if_pos rfl]
    unfold B_rounds_276
    rw [if_pos (show w'.2.1.2.2.1 i 4 = w.2.1.2.2.1 i 4 + 0 by rw [k6, if_neg (by decide), Int32.add_zero]), if_pos rfl]
    exact h312
  · have hbad : bad (gMid w.2.1) i = true := by unfold bad; rw [decide_eq_false h0]; rfl
    rw [hbad] at h312 k6
    rw [if_neg h0] at k0
    rw [if_neg h0]
    have hcl := Cl_end hi h0
    rw [← hg] at hcl
    obtain ⟨c1, c2, c3⟩ := Cl_cnt hcl
    unfold B_rounds_209
    rw [e4, gbsN, if_pos k4, e9, gbsN, if_pos k9, tCo0 hi, gbsN, if_neg (by decide)]
    unfold B_rounds_254
    rw [if_pos k0, tCo6 hi, gbsN, if_neg (by decide)]
    unfold B_rounds_276
    rw [if_pos (show w'.2.1.2.2.1 i 4 = w.2.1.2.2.1 i 4 + 1 by rw [k6, if_pos rfl]), if_neg (by decide), tCo2 hi, gbsN, if_pos (by rw [c3]; rfl), tCo3 hi, gbsN, if_pos c1, tCo4 hi, gbsN, if_pos c2]
    exact h312
theorem rd_loop {x3 x6 : Int32} {i M : Nat} {g : Game} (hi : i < 4) (hM : M ≤ 40) (h4 : g.1 4 = x3) (hb : (x6 = -9 ∧ ∀ j, j < 50 → bad (gMid (gEnds g j)) i = false) ∨ ∃ j, j < 50 ∧ x6 = nI (1 + j) ∧ bad (gMid (gEnds g j)) i = true ∧ ∀ j', j' < j → bad (gMid (gEnds g j')) i = false) : ∀ (d s fu m N : Nat) (w : At), s + d = M → d < fu → w.2.1 = gEnds g s → w.2.1.1 4 = x3 + nI s → V c m w.2.1 → Wf N w.2.1 → N + 5000 * d ≤ 50000000 → ∃ w', L_rounds_52 fu w (nI i) x3 (nI M) ((gEnds g M).2.2.1 i 0) x6 1 (nI (s + 1)) = some (1, w') ∧ Sam w w' d := by
  intro d
  induction d with
  | zero =>
    intro s fu m N w hs hf hw h4 hV hW hN
    obtain ⟨fu, rfl⟩ : ∃ f, fu = f + 1 := ⟨fu - 1, by omega⟩
    refine ⟨w, ?_, Nat.le_refl _, rfl, rfl, rfl⟩
    show Lb_rounds_52 _ w (nI i) x3 (nI M) _ x6 1 (nI (s + 1)) = _
    unfold Lb_rounds_52
    rw [if_pos (by rw [nIlt (by omega) (by omega)]; omega)]
    unfold B_rounds_406
    rw [if_neg (by decide), tCo0 hi, gbsN, if_pos (by rw [hw, show s = M by omega])]
  | succ d ih =>
    intro s fu m N w hs hf hw h4 hV hW hN
    obtain ⟨fu, rfl⟩ : ∃ f, fu = f + 1 := ⟨fu - 1, by omega⟩
    have hb2 : (x6 = -9 ∧ bad (gMid w.2.1) i = false) ∨ ∃ b, b < 1000 ∧ x6 = nI b ∧ (b < s + 1 ∨ (b = s + 1 ∧ bad (gMid w.2.1) i = true) ∨ (s + 1 < b ∧ bad (gMid w.2.1) i = false)) := by
      rw [hw]
      rcases hb with ⟨h1, h2⟩ | ⟨j, h1, h2, h3, h5⟩
      · exact Or.inl ⟨h1, h2 s (by omega)⟩
      · refine Or.inr ⟨1 + j, by omega, h2, ?_⟩
        by_cases q1 : j < s
        · exact Or.inl (by omega)
        · by_cases q2 : j = s
          · subst q2
            exact Or.inr (Or.inl ⟨by omega, h3⟩)
          · exact Or.inr (Or.inr ⟨by omega, h5 s (by omega)⟩)
    have hit := rd_it (K52 := L_rounds_52 fu) (x4 := nI M) (x5 := (gEnds g M).2.2.1 i 0) hi hV hW (by omega) h4 (by omega) (by rw [nIlt (by omega) (by omega)]; omega) hb2
    have hg : (aEnd w).2.2.1 = gEnd w.2.1 := rfl
    obtain ⟨w', e1, e2⟩ := ih (s + 1) fu (m + 1) (N + 5000) (aEnd w).2 (by omega) (by omega) (by rw [hg, hw, gEnds_e]) (by rw [hg, end_4, h4, Int32.add_assoc, nI_s]) (by rw [hg]; exact V_end hV) (by rw [hg]; exact Wf_end hV hW (by omega)) (by omega)
    refine ⟨w', hit.trans e1, ?_⟩
    obtain ⟨q1, q2, q3, q4⟩ := e2
    have q1 : w'.1 ≤ w.1 + 1 + d := q1
    exact ⟨by omega, q2, q3, q4⟩
theorem rounds_ok {i X : Nat} (hi : i < 4) (hX : X < 2147483648) (hV : V c m w.2.1) (hW : Wf N w.2.1) (hN : N ≤ 40000000) (hn : w.1 < 90000) : ∃ w', h_rounds (nI i) (nI X) (w.2.1.1 4) w = some (1, w') ∧ Sam w w' 12 := by
  obtain ⟨M, hM⟩ : ∃ M, M = 1 + X / 32 % 12 := ⟨_, rfl⟩
  have hX32 : X / 32 < 2147483648 := by omega
  have q : 1 + (nI X / 32 - nI X / 32 / 12 * 12) = nI M := by rw [hM, show (32 : Int32) = nI 32 from rfl, show (12 : Int32) = nI 12 from rfl, div_nI hX (by omega) (by omega), rem_nI hX32 (by omega) (by omega), show (1 : Int32) = nI 1 from rfl, nI_add]
  have hc : ∀ k, k ≤ 50 → h_tryCoinsAfter (nI i) (nI k) w = some ((gEnds w.2.1 k).2.2.1 i 0, w) := fun k hk => by
    unfold h_tryCoinsAfter nCoins
    rw [ixO_t hi (by omega)]
    show some ((if rgB 0 50 (nI k) = true then (gEnds w.2.1 (nI k).toNatClampNeg).2.2.1 i 0 else -9999002), w) = _
    rw [show (0 : Int32) = nI 0 from rfl, show (50 : Int32) = nI 50 from rfl, if_pos (rgB_in (Nat.zero_le _) hk (by omega)), nI_c (by omega)]
  have hb : h_tryBankruptAfter (nI i) w = some (bkA w.2.1 i 1 50, w) := by
    unfold h_tryBankruptAfter nBk
    rw [if_pos hn, ixO_t hi (by omega)]
  have hl := rd_loop (c := c) (M := M) hi (by omega) rfl (bkA_v 50 1 w.2.1) M 0 13 m N w (Nat.zero_add _) (by omega) rfl (by rw [nI_0, Int32.add_zero]) hV hW (by omega)
  obtain ⟨w', e1, e2, e3⟩ := hl
  refine ⟨w', ?_, by omega, e3⟩
  unfold h_rounds
  have hc0 := hc 0 (by omega)
  rw [nI_0] at hc0
  rw [q, gviN, hc M (by omega), gbsN, hb, gbsN, hc0, gbsN, tCo0 hi, gbsN, if_pos (show (gEnds w.2.1 0).2.2.1 i 0 = w.2.1.2.2.1 i 0 from rfl)]
  exact e1
end RND
