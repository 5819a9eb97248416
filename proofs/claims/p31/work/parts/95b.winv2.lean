/-! fines -/
theorem RB_mail {n i : Nat} {x : Int32} {g : Game} (h : RB n g) : RB n (gMail g i x) := RB_co h rfl (fun j => by
  show (if j = i ∧ 3 = 0 then _ else _) = _
  rw [if_neg (by omega)]
  rfl)
theorem RB_bank {n i : Nat} {x : Int32} {g : Game} (h : RB n g) : RB n (gBank g i x) := RB_co h rfl (fun j => by
  show (if j = i ∧ 3 = 0 then _ else _) = _
  rw [if_neg (by omega)])
theorem RB_br2 {n i : Nat} {g : Game} (h : RB n g) : RB n (gBr2 g i) := RB_co h rfl (fun j => by
  show (if j = i ∧ 3 = 4 then _ else if j = i ∧ 3 = 0 then _ else _) = _
  rw [if_neg (by omega), if_neg (by omega)])
theorem RB_st {n : Nat} : ∀ (m i : Nat) (g : Game), RB n g → RB n (gSt g i m) := by
  intro m
  induction m with
  | zero => intro i g h; exact h
  | succ m ih =>
    intro i g h
    show RB n (gSt (if 0 ≤ g.2.2.1 i 0 then g else gBr2 g i) (i + 1) m)
    split
    · exact ih _ _ h
    · exact ih _ _ (RB_br2 h)
theorem RB_ups {n : Nat} : ∀ (m i : Nat) (g : Game), RB n g → RB n (ups g i m) := by
  intro m
  induction m with
  | zero => intro i g h; exact h
  | succ m ih => intro i g h; exact ih (i + 1) (gUp g i) (RB_bank h)
theorem RB_fine {n : Nat} {g : Game} {x : T6} (h : RB n g) : RB n (gFine g x) := by
  unfold gFine
  split
  · exact h
  · split
    · exact RB_co (RB_bank h) rfl (fun _ => rfl)
    · exact h
theorem RB_fold {n : Nat} : ∀ (l : List T6) (g : Game), RB n g → RB n (l.foldl gFine g) := by
  intro l
  induction l with
  | nil => intro g h; exact h
  | cons x l ih => intro g h; exact ih (gFine g x) (RB_fine h)
theorem RB_ct {n : Nat} {g : Game} {l : List T6} (h : RB n g) : RB n (gCt g l) := RB_co h rfl (fun _ => rfl)
theorem RB_mid {n : Nat} {g : Game} (h : RB n g) : RB n (gMid g) := by
  unfold gMid gServe
  exact RB_ups 4 0 _ (RB_ct (RB_fold g.2.2.2.2 g h))
theorem RB_zr {n : Nat} {g : Game} {v : Int32} (h : RB n g) : RB n (gZr (gSc g 4 v)) := RB_co h rfl (fun _ => rfl)
theorem RB_end {n : Nat} {g : Game} (h : RB n g) : RB n (gEnd g) := by
  unfold gEnd gSet
  exact RB_zr (RB_st 4 0 _ (RB_mid h))
theorem FB_8 {n : Nat} {g g' : Game} (h : FB n g) (e : g'.1 8 = g.1 8) : FB n g' := by
  obtain ⟨f, h1, h2⟩ := h
  exact ⟨f, h1, by rw [e]; exact h2⟩
theorem FB_mono {n n' : Nat} {g : Game} (h : FB n g) (hn : n ≤ n') : FB n' g := by
  obtain ⟨f, h1, h2⟩ := h
  exact ⟨f, by omega, h2⟩
theorem FB_fine {n : Nat} {g : Game} {x : T6} (h : FB n g) : FB (n + 1) (gFine g x) := by
  unfold gFine
  split
  · exact FB_mono h (by omega)
  · split
    · obtain ⟨f, h1, h2⟩ := h
      refine ⟨f + 1, by omega, ?_⟩
      show g.1 8 + 5 = _
      rw [h2, nIp5]
      congr 1
    · exact FB_mono h (by omega)
theorem FB_fold : ∀ (l : List T6) (n : Nat) (g : Game), FB n g → FB (n + l.length) (l.foldl gFine g) := by
  intro l
  induction l with
  | nil => intro n g h; exact h
  | cons x l ih =>
    intro n g h
    have := ih (n + 1) (gFine g x) (FB_fine h)
    simp only [List.length_cons]
    rw [show n + (l.length + 1) = n + 1 + l.length by omega]
    exact this
theorem FB_ups {n : Nat} : ∀ (m i : Nat) (g : Game), FB n g → FB n (ups g i m) := by
  intro m
  induction m with
  | zero => intro i g h; exact h
  | succ m ih => intro i g h; exact ih (i + 1) (gUp g i) (FB_8 h rfl)
theorem FB_st {n : Nat} : ∀ (m i : Nat) (g : Game), FB n g → FB n (gSt g i m) := by
  intro m
  induction m with
  | zero => intro i g h; exact h
  | succ m ih =>
    intro i g h
    show FB n (gSt (if 0 ≤ g.2.2.1 i 0 then g else gBr2 g i) (i + 1) m)
    split
    · exact ih _ _ h
    · exact ih _ _ (FB_8 h rfl)
theorem FB_ct {n : Nat} {g : Game} {l : List T6} (h : FB n g) : FB n (gCt g l) := FB_8 h rfl
theorem FB_zr {n : Nat} {g : Game} {v : Int32} (h : FB n g) : FB n (gZr (gSc g 4 v)) := FB_8 h rfl
theorem FB_end {n : Nat} {g : Game} (hv : VL g) (h : FB n g) : FB (n + 8) (gEnd g) := by
  have h1 : FB (n + g.2.2.2.2.length) (gMid g) := by
    unfold gMid gServe
    exact FB_ups 4 0 _ (FB_ct (FB_fold g.2.2.2.2 n g h))
  unfold gEnd gSet
  exact FB_zr (FB_st 4 0 _ (FB_mono h1 (by have := hv.2.2.1; omega)))
theorem FB_path {n i : Nat} {g0 : Game} : ∀ (l : List Nat) (g : Game), FB n g → FB n (gPath g0 i l g) := by
  intro l
  induction l with
  | nil => intro g h; exact h
  | cons t l ih =>
    intro g h
    unfold gPath
    cases ha : g0.2.1[t]? with
    | none => exact ih g h
    | some a => exact ih _ (FB_8 h (gPay_sc (by omega) (by omega)))
/-! trains -/
theorem TL_tn {g g' : Game} (h : TL g) (h3 : g'.1 3 = g.1 3) (hs : ∀ i, i < 4 → ∀ x ∈ g'.2.2.2.1 i, ∃ y ∈ g.2.2.2.1 i, y.1 = x.1) : TL g' := by
  intro i hi x hx
  obtain ⟨y, hy, e⟩ := hs i hi x hx
  obtain ⟨p, l, a1, a2, a3, a4⟩ := h i hi y hy
  exact ⟨p, l, by rw [h3]; exact a1, a2, by rw [← e]; exact a3, a4⟩
theorem TL_eq {g g' : Game} (h : TL g) (h3 : g'.1 3 = g.1 3) (hs : g'.2.2.2.1 = g.2.2.2.1) : TL g' := TL_tn h h3 (fun i _ x hx => ⟨x, by rw [← hs]; exact hx, rfl⟩)
theorem TL_br2 {i : Nat} {g : Game} (h : TL g) : TL (gBr2 g i) := TL_tn h rfl (fun j hj x hx => by
  have hx : x ∈ (if j = i then ([] : List T2) else g.2.2.2.1 j) := hx
  split at hx
  · cases hx
  · exact ⟨x, hx, rfl⟩)
theorem TL_st : ∀ (m i : Nat) (g : Game), TL g → TL (gSt g i m) := by
  intro m
  induction m with
  | zero => intro i g h; exact h
  | succ m ih =>
    intro i g h
    show TL (gSt (if 0 ≤ g.2.2.1 i 0 then g else gBr2 g i) (i + 1) m)
    split
    · exact ih _ _ h
    · exact ih _ _ (TL_br2 h)
theorem ups_fr : ∀ (m i : Nat) (g : Game), (ups g i m).1 3 = g.1 3 ∧ (ups g i m).2.1 = g.2.1 ∧ (ups g i m).2.2.2 = g.2.2.2 := by
  intro m
  induction m with
  | zero => intro i g; exact ⟨rfl, rfl, rfl⟩
  | succ m ih => intro i g; exact ih (i + 1) (gUp g i)
theorem fine_fr {g : Game} {x : T6} : (gFine g x).1 3 = g.1 3 ∧ (gFine g x).2.1 = g.2.1 ∧ (gFine g x).2.2.2 = g.2.2.2 := by
  unfold gFine
  split
  · exact ⟨rfl, rfl, rfl⟩
  · split <;> exact ⟨rfl, rfl, rfl⟩
theorem fold_fr : ∀ (l : List T6) (g : Game), (l.foldl gFine g).1 3 = g.1 3 ∧ (l.foldl gFine g).2.1 = g.2.1 ∧ (l.foldl gFine g).2.2.2 = g.2.2.2 := by
  intro l
  induction l with
  | nil => intro g; exact ⟨rfl, rfl, rfl⟩
  | cons x l ih =>
    intro g
    obtain ⟨a1, a2, a3⟩ := ih (gFine g x)
    obtain ⟨b1, b2, b3⟩ := fine_fr (g := g) (x := x)
    exact ⟨a1.trans b1, a2.trans b2, a3.trans b3⟩
theorem serve_fr {g : Game} : (gServe g).1 3 = g.1 3 ∧ (gServe g).2.1 = g.2.1 ∧ (gServe g).2.2.2.1 = g.2.2.2.1 ∧ (gServe g).2.2.2.2 = (g.2.2.2.2.map srvC).filter kpc := by
  obtain ⟨b1, b2, b3⟩ := fold_fr g.2.2.2.2 g
  have b4 : (g.2.2.2.2.foldl gFine g).2.2.2.1 = g.2.2.2.1 := congrArg Prod.fst b3
  unfold gServe
  exact ⟨b1, b2, b4, rfl⟩
theorem mid_fr {g : Game} : (gMid g).1 3 = g.1 3 ∧ (gMid g).2.1 = g.2.1 ∧ (gMid g).2.2.2.1 = g.2.2.2.1 ∧ (gMid g).2.2.2.2 = (g.2.2.2.2.map srvC).filter kpc := by
  unfold gMid
  obtain ⟨a1, a2, a3⟩ := ups_fr 4 0 (gServe g)
  obtain ⟨b1, b2, b3, b4⟩ := serve_fr (g := g)
  exact ⟨a1.trans b1, a2.trans b2, (congrArg Prod.fst a3).trans b3, (congrArg Prod.snd a3).trans b4⟩
theorem TL_mid {g : Game} (h : TL g) : TL (gMid g) := TL_eq h mid_fr.1 mid_fr.2.2.1
theorem TL_zr {g : Game} {v : Int32} (h : TL g) : TL (gZr (gSc g 4 v)) := by
  refine TL_tn h rfl (fun i hi x hx => ?_)
  have hx : x ∈ (g.2.2.2.1 i).map zr := hx
  obtain ⟨y, hy, e⟩ := List.mem_map.mp hx
  exact ⟨y, hy, by rw [← e]; rfl⟩
theorem TL_end {g : Game} (h : TL g) : TL (gEnd g) := by
  unfold gEnd gSet
  exact TL_zr (TL_st 4 0 _ (TL_mid h))
theorem path_fr {g0 : Game} {i : Nat} : ∀ (l : List Nat) (g : Game), (gPath g0 i l g).1 3 = g.1 3 ∧ (gPath g0 i l g).1 0 = g.1 0 ∧ (gPath g0 i l g).1 4 = g.1 4 := by
  intro l
  induction l with
  | nil => intro g; exact ⟨rfl, rfl, rfl⟩
  | cons t l ih =>
    intro g
    unfold gPath
    cases ha : g0.2.1[t]? with
    | none => exact ih g
    | some a =>
      obtain ⟨a1, a2, a3⟩ := ih (gPay g i a.2.2.2 (prc g0 i a))
      exact ⟨a1.trans (gPay_sc (by omega) (by omega)), a2.trans (gPay_sc (by omega) (by omega)), a3.trans (gPay_sc (by omega) (by omega))⟩
theorem TL_car {i k j : Nat} {a : T6} {t : T2} {ps : List Nat} {g : Game} (h : TL g) (hj : (g.2.2.2.1 i)[j]? = some t) : TL (gCar g i k j a t ps) := by
  have hl : (gPath g i ps g).2.2.2 = g.2.2.2 := (gPath_l ps g).2
  refine TL_tn h (path_fr ps g).1 (fun z hz x hx => ?_)
  have hx : x ∈ (if z = i then ((gPath g i ps g).2.2.2.1 i).set j (t.1, 1) else (gPath g i ps g).2.2.2.1 z) := hx
  rw [hl] at hx
  split at hx
  · rename_i e
    subst e
    rcases mem_set' hx with q | q
    · exact ⟨x, q, rfl⟩
    · exact ⟨t, mem_get hj, by rw [q]⟩
  · exact ⟨x, hx, rfl⟩
theorem TL_sellN {c m i l : Nat} {g : Game} (hV : V c m g) (h : TL g) (hm : mayN g i (nI l) = true) (h1 : 1 ≤ l) (h6 : l ≤ 6) : TL (gSellN g i (nI l)) := by
  obtain ⟨p, p1, p6, ep⟩ := hV.2.1
  unfold mayN at hm
  rw [Bool.and_eq_true, Bool.and_eq_true, Bool.and_eq_true] at hm
  obtain ⟨⟨⟨m1, m2⟩, m3⟩, m4⟩ := hm
  have m1 := of_decide_eq_true m1
  have m2 := of_decide_eq_true m2
  rw [ep, show (1 : Int32) = nI 1 from rfl, pk_sub (by omega), nIle (by omega) (by omega)] at m1
  rw [ep, nIp1, nIle (by omega) (by omega)] at m2
  have key : ∀ z, z < 4 → ∀ x ∈ (if z = i then g.2.2.2.1 i ++ [(nI l, 0)] else g.2.2.2.1 z), ∃ q : Nat, x.1 = nI q ∧ 1 ≤ q ∧ ((q ≤ p ∧ p ≤ q + 1) ∨ q = l) := by
    intro z hz x hx
    split at hx
    · rename_i e
      subst e
      rcases List.mem_append.mp hx with q | q
      · obtain ⟨p', l', a1, a2, a3, a4, a5, a6⟩ := h z hz x q
        rw [ep] at a1
        have : p = p' := (nI_inj (by omega) (by omega)).mp a1
        exact ⟨l', a3, a4, Or.inl ⟨by omega, by omega⟩⟩
      · rw [List.mem_singleton.mp q]
        exact ⟨l, rfl, h1, Or.inr rfl⟩
    · obtain ⟨p', l', a1, a2, a3, a4, a5, a6⟩ := h z hz x hx
      rw [ep] at a1
      have : p = p' := (nI_inj (by omega) (by omega)).mp a1
      exact ⟨l', a3, a4, Or.inl ⟨by omega, by omega⟩⟩
  unfold gSellN
  by_cases hlt : g.1 3 < nI l
  · rw [if_pos hlt]
    rw [ep, nIlt (by omega) (by omega)] at hlt
    have hlp : l = p + 1 := by omega
    intro z hz x hx
    have hx : x ∈ (if z = i then g.2.2.2.1 i ++ [(nI l, 0)] else g.2.2.2.1 z).filter (kpf (nI l - 1)) := hx
    obtain ⟨hx1, hx2⟩ := List.mem_filter.mp hx
    obtain ⟨q, e1, e2, e3⟩ := key z hz x hx1
    unfold kpf at hx2
    rw [e1, show (1 : Int32) = nI 1 from rfl, pk_sub (by omega)] at hx2
    have hx3 : ¬ nI q < nI (l - 1) := by simpa using hx2
    have hq6 : q ≤ 7 := by omega
    rw [nIlt (by omega) (by omega)] at hx3
    exact ⟨l, q, rfl, h6, e1, e2, by omega, by omega⟩
  · rw [if_neg hlt]
    rw [ep, nIlt (by omega) (by omega)] at hlt
    intro z hz x hx
    have hx : x ∈ (if z = i then g.2.2.2.1 i ++ [(nI l, 0)] else g.2.2.2.1 z) := hx
    obtain ⟨q, e1, e2, e3⟩ := key z hz x hx
    exact ⟨p, q, ep, p6, e1, e2, by omega, by omega⟩
/-! contracts that ran have a holder -/
theorem RH_ct {g g' : Game} (h : RH g) (hs : g'.2.2.2.2 = g.2.2.2.2) : RH g' := fun x hx => h x (by rw [← hs]; exact hx)
theorem RH_zr {g : Game} {v : Int32} : RH (gZr (gSc g 4 v)) := by
  intro x hx
  have hx : x ∈ g.2.2.2.2.map end0 := hx
  obtain ⟨y, hy, e⟩ := List.mem_map.mp hx
  exact Or.inl (by rw [← e]; rfl)
theorem RH_end {g : Game} : RH (gEnd g) := by
  unfold gEnd
  exact RH_zr
theorem RH_set {g : Game} {k : Nat} {a : T6} (h : RH g) (ha : a.2.2.2.2.2 = 0 ∨ a.2.2.2.2.1 ≠ -9) : RH (gCt g (g.2.2.2.2.set k a)) := by
  intro x hx
  rcases mem_set' hx with q | q
  · exact h x q
  · rw [q]; exact ha
/-! bounds of the coins -/
theorem ti_add {a b : Int32} {x y : Int} (ha : a.toInt = x) (hb : b.toInt = y) (h1 : -2147483648 ≤ x + y) (h2 : x + y < 2147483648) : (a + b).toInt = x + y := by
  rw [Int32.toInt_add, ha, hb]
  apply Int.bmod_eq_of_le <;> omega
theorem ti_sub {a b : Int32} {x y : Int} (ha : a.toInt = x) (hb : b.toInt = y) (h1 : -2147483648 ≤ x - y) (h2 : x - y < 2147483648) : (a - b).toInt = x - y := by
  rw [Int32.toInt_sub, ha, hb]
  apply Int.bmod_eq_of_le <;> omega
theorem CB_mono {n n' : Nat} {g : Game} (h : CBd n g) (hn : n ≤ n') : CBd n' g := fun i hi => by
  have := h i hi
  omega
theorem CB_co {n : Nat} {g g' : Game} (h : CBd n g) (e : ∀ i, g'.2.2.1 i 0 = g.2.2.1 i 0) : CBd n g' := fun i hi => by rw [e]; exact h i hi
theorem CB_bank {n k i : Nat} {x : Int32} {g : Game} (h : CBd n g) (hx : -(k : Int) ≤ x.toInt ∧ x.toInt ≤ k) (hn : n + k < 2147483648) : CBd (n + k) (gBank g i x) := by
  intro j hj
  have h1 := h j hj
  show -((n + k : Nat) : Int) ≤ (if j = i ∧ 0 = 0 then g.2.2.1 i 0 - x else g.2.2.1 j 0).toInt ∧ _
  have e : (gBank g i x).2.2.1 j 0 = if j = i ∧ 0 = 0 then g.2.2.1 i 0 - x else g.2.2.1 j 0 := rfl
  rw [e]
  split
  · rename_i q
    obtain ⟨rfl, -⟩ := q
    rw [ti_sub rfl rfl (by omega) (by omega)]
    omega
  · omega
