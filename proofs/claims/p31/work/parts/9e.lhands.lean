/-! ===== hands: what comes back ===== -/
def Fin9 (w w' : At) (k : Nat) : Prop := w'.1 ≤ w.1 + k ∧ w'.2 = (w.2.1, w.2.2.1, w.2.2.2.1, [], w.2.2.2.2.2)
def Ho (c m N : Nat) (w : At) : Prop := V c m w.2.1 ∧ Wf N w.2.1 ∧ N ≤ 30000000 ∧ w.2.2.2.2.2 0 = some w.2.1
theorem tRes {w : At} {g : Game} (h : w.2.2.2.2.2 0 = some g) : h_tryRestore 0 w = some (g.1 4, (w.1 + 1, (g, w.2.2.1, w.2.2.2.1, [], w.2.2.2.2.2))) := by
  unfold h_tryRestore aRestore
  rw [ix20]
  show some (match w.2.2.2.2.2 0 with | none => _ | some g => _) = _
  rw [h]
theorem i32_lt {a b : Int32} : a < b ↔ a.toInt < b.toInt := Int32.lt_iff_toInt_lt
theorem i32_le {a b : Int32} : a ≤ b ↔ a.toInt ≤ b.toInt := Int32.le_iff_toInt_le
/-! the best contract -/
def gn9 (g : Game) (i lv : Nat) (a : T6) : Int32 := a.2.2.1 - nI (wC (wks g i) a.2.1.toNatClampNeg a.1.toNatClampNeg (4 * lv))
abbrev pr9 (g : Game) (i lv : Nat) (a : T6) : Prop := a.2.2.2.2.1 = -9 ∧ wIs (wks g i) a.2.1.toNatClampNeg a.1.toNatClampNeg (4 * lv) = true
theorem bsC_v {g : Game} {i lv : Nat} : ∀ (l : List T6) (k : Nat) (best most : Int32), k + l.length ≤ 1000 → (bsC g i lv l k best most = best ∧ ∀ (j : Nat) (a : T6), l[j]? = some a → pr9 g i lv a → best ≠ -9 ∧ ¬ most < gn9 g i lv a) ∨ ∃ (j : Nat) (a : T6), l[j]? = some a ∧ pr9 g i lv a ∧ bsC g i lv l k best most = nI (k + j) ∧ (best ≠ -9 → most < gn9 g i lv a) ∧ ∀ (j' : Nat) (a' : T6), l[j']? = some a' → pr9 g i lv a' → ¬ gn9 g i lv a < gn9 g i lv a' ∧ (j' < j → gn9 g i lv a' < gn9 g i lv a) := by
  intro l
  induction l with
  | nil => intro k best most _; exact Or.inl ⟨rfl, fun j a h => by cases h⟩
  | cons x l ih =>
    intro k best most hk
    have hk : k + (l.length + 1) ≤ 1000 := hk
    have hd : bsC g i lv (x :: l) k best most = if pr9 g i lv x then (if best = -9 ∨ most < gn9 g i lv x then bsC g i lv l (k + 1) (nI k) (gn9 g i lv x) else bsC g i lv l (k + 1) best most) else bsC g i lv l (k + 1) best most := rfl
    rw [hd]
    have keep : (pr9 g i lv x → best ≠ -9 ∧ ¬ most < gn9 g i lv x) → (bsC g i lv l (k + 1) best most = best ∧ ∀ (j : Nat) (a : T6), (x :: l)[j]? = some a → pr9 g i lv a → best ≠ -9 ∧ ¬ most < gn9 g i lv a) ∨ ∃ (j : Nat) (a : T6), (x :: l)[j]? = some a ∧ pr9 g i lv a ∧ bsC g i lv l (k + 1) best most = nI (k + j) ∧ (best ≠ -9 → most < gn9 g i lv a) ∧ ∀ (j' : Nat) (a' : T6), (x :: l)[j']? = some a' → pr9 g i lv a' → ¬ gn9 g i lv a < gn9 g i lv a' ∧ (j' < j → gn9 g i lv a' < gn9 g i lv a) := by
      intro hx
      rcases ih (k + 1) best most (by omega) with ⟨h1, h2⟩ | ⟨j, a, h1, h2, h3, h4, h5⟩
      · refine Or.inl ⟨h1, fun j a hj hp => ?_⟩
        cases j with
        | zero => rw [show (x :: l)[0]? = some x from rfl] at hj; obtain rfl := Option.some.inj hj; exact hx hp
        | succ j => exact h2 j a hj hp
      · refine Or.inr ⟨j + 1, a, h1, h2, by rw [h3]; congr 1; omega, h4, fun j' a' hj hp => ?_⟩
        cases j' with
        | zero =>
          rw [show (x :: l)[0]? = some x from rfl] at hj
          obtain rfl := Option.some.inj hj
          obtain ⟨y1, y2⟩ := hx hp
          have y3 := h4 y1
          rw [i32_lt] at y2 y3 ⊢
          rw [i32_lt]
          exact ⟨by omega, fun _ => by omega⟩
        | succ j' =>
          obtain ⟨z1, z2⟩ := h5 j' a' hj hp
          exact ⟨z1, fun q => z2 (by omega)⟩
    by_cases hp : pr9 g i lv x
    · rw [if_pos hp]
      by_cases hb : best = -9 ∨ most < gn9 g i lv x
      · rw [if_pos hb]
        have hbm : best ≠ -9 → most < gn9 g i lv x := fun q => hb.resolve_left q
        rcases ih (k + 1) (nI k) (gn9 g i lv x) (by omega) with ⟨h1, h2⟩ | ⟨j, a, h1, h2, h3, h4, h5⟩
        · refine Or.inr ⟨0, x, rfl, hp, h1, hbm, fun j' a' hj hp' => ?_⟩
          cases j' with
          | zero =>
            rw [show (x :: l)[0]? = some x from rfl] at hj
            obtain rfl := Option.some.inj hj
            exact ⟨Int32.lt_irrefl, fun q => absurd q (Nat.lt_irrefl _)⟩
          | succ j' => exact ⟨(h2 j' a' hj hp').2, fun q => by omega⟩
        · have h6 := h4 (nI_m9 (by omega))
          refine Or.inr ⟨j + 1, a, h1, h2, by rw [h3]; congr 1; omega, fun q => ?_, fun j' a' hj hp' => ?_⟩
          · have := hbm q
            rw [i32_lt] at this h6 ⊢
            omega
          · cases j' with
            | zero =>
              rw [show (x :: l)[0]? = some x from rfl] at hj
              obtain rfl := Option.some.inj hj
              refine ⟨?_, fun _ => h6⟩
              rw [i32_lt] at h6 ⊢
              omega
            | succ j' =>
              obtain ⟨z1, z2⟩ := h5 j' a' hj hp'
              exact ⟨z1, fun q => z2 (by omega)⟩
      · rw [if_neg hb]
        exact keep (fun _ => ⟨fun e => hb (Or.inl e), fun e => hb (Or.inr e)⟩)
    · rw [if_neg hp]
      exact keep (fun q => absurd q hp)
/-! the smallest level -/
theorem smL_v {g : Game} {i x y : Nat} : ∀ (m lv : Nat), (smL g i x y lv m = -9 ∧ ∀ j, j < m → ¬ wIs (wks g i) y x (4 * (lv + j)) = true) ∨ ∃ j, j < m ∧ smL g i x y lv m = nI (lv + j) ∧ wIs (wks g i) y x (4 * (lv + j)) = true ∧ ∀ j', j' < j → ¬ wIs (wks g i) y x (4 * (lv + j')) = true := by
  intro m
  induction m with
  | zero => intro lv; exact Or.inl ⟨rfl, fun j h => absurd h (Nat.not_lt_zero _)⟩
  | succ m ih =>
    intro lv
    have hd : smL g i x y lv (m + 1) = if wIs (wks g i) y x (4 * lv) = true then nI lv else smL g i x y (lv + 1) m := rfl
    rw [hd]
    by_cases e : wIs (wks g i) y x (4 * lv) = true
    · rw [if_pos e]
      exact Or.inr ⟨0, by omega, rfl, e, fun j' h => absurd h (Nat.not_lt_zero _)⟩
    · rw [if_neg e]
      rcases ih (lv + 1) with ⟨h1, h2⟩ | ⟨j, h1, h2, h3, h4⟩
      · refine Or.inl ⟨h1, fun j hj => ?_⟩
        cases j with
        | zero => exact e
        | succ j => have := h2 j (by omega); rw [show lv + 1 + j = lv + (j + 1) by omega] at this; exact this
      · refine Or.inr ⟨j + 1, by omega, by rw [h2]; congr 1; omega, by rw [show lv + (j + 1) = lv + 1 + j by omega]; exact h3, fun j' hj' => ?_⟩
        cases j' with
        | zero => exact e
        | succ j' => have := h4 j' (by omega); rw [show lv + 1 + j' = lv + (j' + 1) by omega] at this; exact this
/-! what a run pays -/
def csum (ks : List TK) : List Nat → Nat
  | [] => 0
  | k :: l => (match ks[k]? with
    | none => 0
    | some t => t.2.2.2) + csum ks l
theorem pth_cost {ks : List TK} {goal : Nat} (hk : ∀ t ∈ ks, 1 ≤ t.2.2.1) : ∀ (f L c : Nat), L ≤ f → wA ks goal L c < UN → csum ks (pth ks goal f L c) = wA ks goal L c := by
  intro f
  induction f with
  | zero =>
    intro L c hL h
    obtain rfl : L = 0 := by omega
    rw [wA_0] at h ⊢
    split at h
    · rename_i e; rw [if_pos e]; rfl
    · exact absurd h (Nat.lt_irrefl _)
  | succ f ih =>
    intro L c hL h
    by_cases h0 : L = 0
    · subst h0
      rw [pth_0]
      rw [wA_0] at h ⊢
      split at h
      · rename_i e; rw [if_pos e]; rfl
      · exact absurd h (Nat.lt_irrefl _)
    · obtain ⟨t, ht, e, -⟩ := wO_ok hk (by omega) h
      have hin := thr_in (T := wA ks goal) (L := L) (c := c) (t := t) (by rw [e]; exact h)
      have h1 := hk t (mem_get ht)
      rw [pth_s h0 ht]
      show (match ks[wO ks goal L c]? with | none => 0 | some t => t.2.2.2) + csum ks (pth ks goal f (L - t.2.2.1) (wFar t c)) = _
      rw [ht]
      show t.2.2.2 + _ = _
      rw [e] at hin
      obtain ⟨q1, q2⟩ := hin
      have hf : wA ks goal L c = wA ks goal (L - t.2.2.1) (wFar t c) + t.2.2.2 := by
        unfold wFar
        rcases q2 with ⟨a1, a2⟩ | ⟨a0, a1, a2⟩
        · rw [if_pos a1]; exact a2
        · rw [if_neg a0]; exact a2
      rw [ih (L - t.2.2.1) (wFar t c) (by omega) (by omega), hf, Nat.add_comm]
theorem wP_cost {ks : List TK} {goal a rr : Nat} (hk : ∀ t ∈ ks, 1 ≤ t.2.2.1) (h : wIs ks goal a rr = true) : csum ks (wP ks goal a rr) = wC ks goal a rr := by
  have h1 : wC ks goal a rr < UN := of_decide_eq_true h
  have h3 := (wch_v (ks := ks) (goal := goal) (a := a) rr).2.2.1 h1
  have h4 : wA ks goal (wL ks goal a rr) a = wC ks goal a rr := h3.2
  unfold wP
  rw [pth_cost hk _ _ _ (Nat.le_refl _) (by rw [h4]; exact h1), h4]
theorem gPay_me {g g0 : Game} {i : Nat} {a : T4} (hi : i < 4) (ho : oR a.2.2.2) : (gPay g i a.2.2.2 (prc g0 i a)).2.2.1 i 0 = g.2.2.1 i 0 - prc g0 i a ∧ (gPay g i a.2.2.2 (prc g0 i a)).2.2.1 i 3 = g.2.2.1 i 3 ∧ (gPay g i a.2.2.2 (prc g0 i a)).1 6 = g.1 6 + prc g0 i a := by
  have h6 : ∀ o x, (gPay g i o x).1 6 = g.1 6 + x := fun o x => rfl
  refine ⟨?_, ?_, h6 _ _⟩
  · show (if i = i ∧ 0 = 0 then (gPay1 g a.2.2.2 (prc g0 i a)).2.2.1 i 0 - prc g0 i a else _) = _
    rw [if_pos ⟨rfl, rfl⟩]
    congr 1
    unfold gPay1
    rcases ho with h | ⟨j, hj, h⟩
    · rw [if_pos h]; rfl
    · rw [if_neg (by rw [h]; exact nI_m9 (by omega)), h, nI_c (by omega)]
      show (if i = j ∧ 0 = 3 then _ else if i = j ∧ 0 = 0 then g.2.2.1 j 0 + prc g0 i a else g.2.2.1 i 0) = _
      rw [if_neg (fun q => absurd q.2 (by decide))]
      by_cases e : i = j
      · subst e
        rw [if_pos ⟨rfl, rfl⟩]
        have : prc g0 i a = 0 := by unfold prc; rw [if_pos h, Int32.zero_mul]
        rw [this, Int32.add_zero]
      · rw [if_neg (fun q => e q.1)]
  · show (if i = i ∧ 3 = 0 then _ else (gPay1 g a.2.2.2 (prc g0 i a)).2.2.1 i 3) = _
    rw [if_neg (fun q => absurd q.2 (by decide))]
    unfold gPay1
    rcases ho with h | ⟨j, hj, h⟩
    · rw [if_pos h]; rfl
    · rw [if_neg (by rw [h]; exact nI_m9 (by omega)), h, nI_c (by omega)]
      show (if i = j ∧ 3 = 3 then g.2.2.1 j 3 + prc g0 i a else if i = j ∧ 3 = 0 then _ else g.2.2.1 i 3) = _
      by_cases e : i = j
      · subst e
        rw [if_pos ⟨rfl, rfl⟩]
        have : prc g0 i a = 0 := by unfold prc; rw [if_pos h, Int32.zero_mul]
        rw [this, Int32.add_zero]
      · rw [if_neg (fun q => e q.1), if_neg (fun q => e q.1)]
theorem path_me {c m i : Nat} {g0 : Game} (hV : V c m g0) (hi : i < 4) : ∀ (l : List Nat) (g : Game), (gPath g0 i l g).2.2.1 i 0 = g.2.2.1 i 0 - nI (csum (wks g0 i) l) ∧ (gPath g0 i l g).2.2.1 i 3 = g.2.2.1 i 3 ∧ (gPath g0 i l g).1 6 = g.1 6 + nI (csum (wks g0 i) l) := by
  obtain ⟨hK, hT⟩ := wks_ok (i := i) hV
  intro l
  induction l with
  | nil => intro g; exact ⟨by show _ = _ - nI 0; rw [nI_0, Int32.sub_zero]; rfl, rfl, by show _ = _ + nI 0; rw [nI_0, Int32.add_zero]; rfl⟩
  | cons t l ih =>
    intro g
    have hc : csum (wks g0 i) (t :: l) = (match (wks g0 i)[t]? with | none => 0 | some t => t.2.2.2) + csum (wks g0 i) l := rfl
    rw [hc]
    cases hh : (wks g0 i)[t]? with
    | none =>
      have hn : g0.2.1[t]? = none := by
        rw [List.getElem?_eq_none_iff] at hh ⊢
        rw [← hT.1]; exact hh
      have e : gPath g0 i (t :: l) g = gPath g0 i l g := by
        unfold gPath
        rw [hn]
        cases l <;> rfl
      rw [e]
      show _ = _ - nI (0 + _) ∧ _ ∧ _ = _ + nI (0 + _)
      rw [Nat.zero_add]
      exact ih g
    | some tk =>
      obtain ⟨a, ha, -, -, -, hp⟩ := hT.2 t tk hh
      rw [gPath_s ha]
      obtain ⟨z1, z2, z3⟩ := ih (gPay g i a.2.2.2 (prc g0 i a))
      obtain ⟨y1, y2, y3⟩ := gPay_me (g := g) (g0 := g0) (a := a) hi (hV.2.2.1.2 a (mem_get ha)).2.2.2.2
      rw [z1, z2, z3, y1, y2, y3, hp]
      show _ = _ - nI (tk.2.2.2 + _) ∧ _ ∧ _ = _ + nI (tk.2.2.2 + _)
      rw [← nI_add]
      exact ⟨by grind, rfl, by grind⟩
theorem car_me {c m i k j : Nat} {a : T6} {t : T2} {ps : List Nat} {g : Game} (hV : V c m g) (hi : i < 4) (hj : (g.2.2.2.1 i)[j]? = some t) (hk : g.2.2.2.2[k]? = some a) : (gCar g i k j a t ps).2.2.1 i 0 = g.2.2.1 i 0 - nI (csum (wks g i) ps) + a.2.2.1 ∧ (gCar g i k j a t ps).2.2.1 i 3 = g.2.2.1 i 3 ∧ (gCar g i k j a t ps).1 6 = g.1 6 + nI (csum (wks g i) ps) ∧ (gCar g i k j a t ps).2.2.2.2[k]? = some (ran1 a) ∧ ((gCar g i k j a t ps).2.2.2.1 i)[j]? = some (t.1, 1) := by
  obtain ⟨h1, h2, h3⟩ := path_me (i := i) hV hi ps g
  have hl := gPath_l (g0 := g) (i := i) ps g
  refine ⟨?_, ?_, ?_, ?_, ?_⟩
  · show (if i = i ∧ 0 = 0 then (gPath g i ps g).2.2.1 i 0 + a.2.2.1 else _) = _
    rw [if_pos ⟨rfl, rfl⟩, h1]
  · show (if i = i ∧ 3 = 0 then _ else (gPath g i ps g).2.2.1 i 3) = _
    rw [if_neg (fun q => absurd q.2 (by decide)), h2]
  · show (gPath g i ps g).1 6 = _
    exact h3
  · show ((gPath g i ps g).2.2.2.2.set k (ran1 a))[k]? = _
    rw [hl.2]
    exact List.getElem?_set_self (lt_len hk)
  · show (if i = i then ((gPath g i ps g).2.2.2.1 i).set j (t.1, 1) else _)[j]? = _
    rw [if_pos rfl, hl.2]
    exact List.getElem?_set_self (lt_len hj)
