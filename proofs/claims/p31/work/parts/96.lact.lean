/-! ===== actions, in two objects alike ===== -/
def G9 (N : Nat) (g : Game) : Prop := (∃ c, V c N g) ∧ Wf N g ∧ 2 ≤ g.2.1.length
def Ok9 (N : Nat) (s : St) : Prop := G9 N s.1 ∧ (s.2.2.2.1.length ≤ 14 ∧ ∀ x ∈ s.2.2.2.1, G9 N x) ∧ ∀ k x, s.2.2.2.2 k = some x → G9 N x
/-- the same game, text, history and second slot -/
def Eq9 (u w : At) : Prop := w.2.1 = u.2.1 ∧ w.2.2.1 = u.2.2.1 ∧ w.2.2.2.1 = u.2.2.2.1 ∧ w.2.2.2.2.1 = u.2.2.2.2.1 ∧ w.2.2.2.2.2 1 = u.2.2.2.2.2 1
theorem G9_mono {N N' : Nat} {g : Game} (h : G9 N g) (hn : N ≤ N') : G9 N' g := by
  obtain ⟨⟨c, h1⟩, h2, h3⟩ := h
  exact ⟨⟨c, V_mono h1 hn⟩, Wf_mono h2 hn, h3⟩
theorem Ok9_mono {N N' : Nat} {s : St} (h : Ok9 N s) (hn : N ≤ N') : Ok9 N' s := by
  obtain ⟨h1, ⟨h2, h3⟩, h4⟩ := h
  exact ⟨G9_mono h1 hn, ⟨h2, fun x hx => G9_mono (h3 x hx) hn⟩, fun k x hx => G9_mono (h4 k x hx) hn⟩
abbrev RG : Type := Int32 ⊕ (Int32 × Game)
def ap (u : At) (r : RG) : Int32 × At := match r with
  | .inl c => (c, u)
  | .inr x => aAct u x.1 x.2
def StepOK (N : Nat) (u : At) (A : At → Int32 × At) : Prop := ∃ v u', A u = (v, u') ∧ Ok9 (N + 5000) u'.2 ∧ u'.1 ≤ u.1 + 1 ∧ u'.2.2.1 = u.2.2.1 ∧ u'.2.2.2.1 = u.2.2.2.1 ∧ ∀ w, Eq9 u w → ∃ w', A w = (v, w') ∧ Eq9 u' w' ∧ w'.1 ≤ w.1 + 1
theorem act_eq {u w : At} {v : Int32} {g : Game} (h : Eq9 u w) : Eq9 (aAct u v g).2 (aAct w v g).2 := by
  obtain ⟨h1, h2, h3, h4, h5⟩ := h
  exact ⟨rfl, h2, h3, by show hpush w.2.2.2.2.1 w.2.1 = hpush u.2.2.2.2.1 u.2.1; rw [h4, h1], h5⟩
theorem step_ap {N : Nat} {u : At} {A : At → Int32 × At} (hO : Ok9 N u.2) (r : RG) (hr : ∀ v g, r = .inr (v, g) → G9 (N + 5000) g) (hA : ∀ w : At, w.2.1 = u.2.1 → A w = ap w r) : StepOK N u A := by
  match r, hr, hA with
  | .inl c, hr, hA =>
    exact ⟨c, u, hA u rfl, Ok9_mono hO (by omega), by omega, rfl, rfl, fun w hw => ⟨w, hA w hw.1, hw, by omega⟩⟩
  | .inr (v, g), hr, hA =>
    have hO2 := Ok9_mono hO (show N ≤ N + 5000 by omega)
    refine ⟨v, (aAct u v g).2, hA u rfl, ⟨hr v g rfl, ⟨hpush_len hO2.2.1.1, fun x hx => ?_⟩, hO2.2.2⟩, Nat.le_refl _, rfl, rfl, fun w hw => ⟨(aAct w v g).2, hA w hw.1, act_eq hw, Nat.le_refl _⟩⟩
    rcases hpush_mem hx with q | q
    · exact hO2.2.1.2 x q
    · rw [q]; exact hO2.1
theorem step_undo {N : Nat} {u : At} (hO : Ok9 N u.2) : StepOK N u aUndo := by
  obtain ⟨n, g0, tx, sz, hs, sl⟩ := u
  have hO2 := Ok9_mono hO (show N ≤ N + 5000 by omega)
  rcases List.eq_nil_or_concat hs with rfl | ⟨l, g, rfl⟩
  · refine ⟨-9999003, (n, g0, tx, sz, [], sl), rfl, hO2, by omega, rfl, rfl, fun w hw => ⟨w, ?_, hw, by omega⟩⟩
    unfold aUndo
    rw [show w.2.2.2.2.1 = [] from hw.2.2.2.1]
    rfl
  · rw [List.concat_eq_append] at hO2 ⊢
    refine ⟨nI l.length, (n + 1, g, tx, sz, l, sl), by simp [aUndo], ⟨hO2.2.1.2 g (by simp), ⟨by have := hO2.2.1.1; simp at this; show l.length ≤ 14; omega, fun x hx => hO2.2.1.2 x (List.mem_append_left _ hx)⟩, hO2.2.2⟩, Nat.le_refl _, rfl, rfl, fun w hw => ⟨(w.1 + 1, (g, w.2.2.1, w.2.2.2.1, l, w.2.2.2.2.2)), ?_, ⟨rfl, hw.2.1, hw.2.2.1, rfl, hw.2.2.2.2⟩, Nat.le_refl _⟩⟩
    unfold aUndo
    rw [show w.2.2.2.2.1 = l ++ [g] from hw.2.2.2.1]
    simp
theorem ix21 : ixO 2 (1 : Int32) = some 1 := by decide
theorem ix20 : ixO 2 (0 : Int32) = some 0 := by decide
theorem step_save {N : Nat} {u : At} (hO : Ok9 N u.2) : StepOK N u (aSave 1) := by
  have hO2 := Ok9_mono hO (show N ≤ N + 5000 by omega)
  have e : ∀ w : At, aSave 1 w = (w.2.1.1 4, (w.1 + 1, (w.2.1, w.2.2.1, w.2.2.2.1, w.2.2.2.2.1, fun j => if j = 1 then some w.2.1 else w.2.2.2.2.2 j))) := fun w => by
    unfold aSave
    rw [ix21]
  refine ⟨_, _, e u, ⟨hO2.1, hO2.2.1, fun k x hx => ?_⟩, Nat.le_refl _, rfl, rfl, fun w hw => ⟨(w.1 + 1, (w.2.1, w.2.2.1, w.2.2.2.1, w.2.2.2.2.1, fun j => if j = 1 then some w.2.1 else w.2.2.2.2.2 j)), ?_, ⟨hw.1, hw.2.1, hw.2.2.1, hw.2.2.2.1, ?_⟩, Nat.le_refl _⟩⟩
  · have hx : (if k = 1 then some u.2.1 else u.2.2.2.2.2 k) = some x := hx
    split at hx
    · rw [← Option.some.inj hx]; exact hO2.1
    · exact hO2.2.2 k x hx
  · rw [e w, hw.1]
  · show some w.2.1 = some u.2.1
    rw [hw.1]
theorem step_restore {N : Nat} {u : At} (hO : Ok9 N u.2) : StepOK N u (aRestore 1) := by
  have hO2 := Ok9_mono hO (show N ≤ N + 5000 by omega)
  have e : ∀ w : At, aRestore 1 w = match w.2.2.2.2.2 1 with
    | none => (-9999003, w)
    | some g => (g.1 4, (w.1 + 1, (g, w.2.2.1, w.2.2.2.1, [], w.2.2.2.2.2))) := fun w => by
    unfold aRestore
    rw [ix21]
    rfl
  cases h : u.2.2.2.2.2 1 with
  | none =>
    refine ⟨-9999003, u, by rw [e u, h], hO2, by omega, rfl, rfl, fun w hw => ⟨w, by rw [e w, hw.2.2.2.2, h], hw, by omega⟩⟩
  | some g =>
    refine ⟨g.1 4, (u.1 + 1, (g, u.2.2.1, u.2.2.2.1, [], u.2.2.2.2.2)), by rw [e u, h], ⟨hO2.2.2 1 g h, ⟨Nat.zero_le _, fun x hx => by cases hx⟩, hO2.2.2⟩, Nat.le_refl _, rfl, rfl, fun w hw => ⟨(w.1 + 1, (g, w.2.2.1, w.2.2.2.1, [], w.2.2.2.2.2)), by rw [e w, hw.2.2.2.2, h], ⟨rfl, hw.2.1, hw.2.2.1, rfl, hw.2.2.2.2⟩, Nat.le_refl _⟩⟩
/-! what each of them makes of a game -/
theorem st_len : ∀ (m i : Nat) (g : Game), (gSt g i m).2.1.length = g.2.1.length := by
  intro m
  induction m with
  | zero => intro i g; rfl
  | succ m ih =>
    intro i g
    show (gSt (if 0 ≤ g.2.2.1 i 0 then g else gBr2 g i) (i + 1) m).2.1.length = _
    rw [ih]
    split
    · rfl
    · show (g.2.1.map (retT i)).length = _
      rw [List.length_map]
theorem zr_tr {g : Game} {v : Int32} : (gZr (gSc g 4 v)).2.1 = g.2.1 := rfl
theorem end_len {g : Game} : (gEnd g).2.1.length = g.2.1.length := by
  unfold gEnd gSet
  rw [zr_tr, st_len, mid_fr.2.1]
theorem G9_end {N : Nat} {g : Game} (h : G9 N g) (hn : N ≤ 800000000) : G9 (N + 5000) (gEnd g) := by
  obtain ⟨⟨c, h1⟩, h2, h3⟩ := h
  exact ⟨⟨c, V_mono (V_end h1) (by omega)⟩, Wf_end h1 h2 hn, by rw [end_len]; exact h3⟩
theorem wP_len {ks : List TK} {goal a rr : Nat} (hk : ∀ t ∈ ks, 1 ≤ t.2.2.1) : (wP ks goal a rr).length ≤ rr :=
  Nat.le_trans (pth_len hk _ _ _ (Nat.le_refl _)) (wch_v (ks := ks) (goal := goal) (a := a) rr).2.1
def R_bt (i t : Int32) (g : Game) : RG := match ixO 4 i with
  | none => .inl (-9999001)
  | some i => match ixO g.2.1.length t with
    | none => .inl (-9999001)
    | some j => match g.2.1[j]? with
      | none => .inl (-9999001)
      | some a => if mayT g i a = true then .inr ((gSellT g i j a).2.2.1 i 0, gSellT g i j a) else .inl (-9999003)
theorem bt_ap (i t : Int32) (u : At) : aBuyTrack i t u = ap u (R_bt i t u.2.1) := by
  unfold aBuyTrack R_bt
  cases ixO 4 i with
  | none => rfl
  | some i =>
    show (match ixO u.2.1.2.1.length t with | none => _ | some j => _) = ap u (match ixO u.2.1.2.1.length t with | none => _ | some j => _)
    cases ixO u.2.1.2.1.length t with
    | none => rfl
    | some j =>
      show (match u.2.1.2.1[j]? with | none => _ | some a => _) = ap u (match u.2.1.2.1[j]? with | none => _ | some a => _)
      cases u.2.1.2.1[j]? with
      | none => rfl
      | some a =>
        show (if mayT u.2.1 i a = true then _ else _) = ap u (if mayT u.2.1 i a = true then _ else _)
        split <;> rfl
theorem bt_G9 {N : Nat} {i t v : Int32} {g g' : Game} (hG : G9 N g) (hN : N ≤ 800000000) (h : R_bt i t g = .inr (v, g')) : G9 (N + 5000) g' := by
  obtain ⟨⟨c, h1⟩, h2, h3⟩ := hG
  unfold R_bt at h
  split at h
  · cases h
  · rename_i i hi
    split at h
    · cases h
    · rename_i j hj
      split at h
      · cases h
      · rename_i a ha
        split at h
        · cases h
          have hi4 := (ixO_s (by omega) hi).1
          exact ⟨⟨c, V_mono (V_sellT h1 hi4 ha) (by omega)⟩, Wf_sellT h1 h2 hi4 ha hN, by show 2 ≤ (g.2.1.set j _).length; rw [List.length_set]; exact h3⟩
        · cases h
def R_bn (i x : Int32) (g : Game) : RG := match ixO 4 i with
  | none => .inl (-9999001)
  | some i => if rgB 1 6 x = true then (if mayN g i x = true then .inr (rSellN g i x, gSellN g i x) else .inl (-9999003)) else .inl (-9999002)
theorem bn_ap (i x : Int32) (u : At) : aBuyTrain i x u = ap u (R_bn i x u.2.1) := by
  unfold aBuyTrain R_bn
  cases ixO 4 i with
  | none => rfl
  | some i =>
    show (if rgB 1 6 x = true then (if mayN u.2.1 i x = true then _ else _) else _) = ap u (if rgB 1 6 x = true then (if mayN u.2.1 i x = true then _ else _) else _)
    split
    · split <;> rfl
    · rfl
theorem rgB_of {a b : Nat} {x : Int32} (hb : b < 2147483648) (hab : a ≤ b) (h : rgB (nI a) (nI b) x = true) : ∃ l : Nat, a ≤ l ∧ l ≤ b ∧ x = nI l := by
  unfold rgB at h
  rw [Bool.and_eq_true] at h
  have h1 := of_decide_eq_true h.1
  have h2 := of_decide_eq_true h.2
  rcases ix_of x with h0 | ⟨j, hj, rfl⟩
  · exfalso
    have h3 : (0 : Int32) ≤ nI a := nI_pos' (by omega)
    exact Int32.lt_irrefl (Int32.lt_of_lt_of_le h0 (Int32.le_trans h3 h1))
  · rw [nIle (by omega) hj] at h1
    rw [nIle hj (by omega)] at h2
    exact ⟨j, h1, h2, rfl⟩
theorem mayN_len4 {g : Game} {i : Nat} {lv : Int32} (h : mayN g i lv = true) : (g.2.2.2.1 i).length < 4 := by
  unfold mayN at h
  rw [Bool.and_eq_true, Bool.and_eq_true] at h
  exact of_decide_eq_true h.1.2
theorem sellN_len {g : Game} {i : Nat} {lv : Int32} : (gSellN g i lv).2.1 = g.2.1 := by
  unfold gSellN
  split <;> rfl
theorem bn_G9 {N : Nat} {i x v : Int32} {g g' : Game} (hG : G9 N g) (hN : N ≤ 800000000) (h : R_bn i x g = .inr (v, g')) : G9 (N + 5000) g' := by
  obtain ⟨⟨c, h1⟩, h2, h3⟩ := hG
  unfold R_bn at h
  split at h
  · cases h
  · rename_i i hi
    split at h
    · rename_i hr
      obtain ⟨l, l1, l6, rfl⟩ := rgB_of (a := 1) (b := 6) (by omega) (by omega) hr
      split at h
      · rename_i hm
        cases h
        have hi4 := (ixO_s (by omega) hi).1
        exact ⟨⟨c, V_mono (V_sellN h1 hi4 (mayN_len4 hm) ⟨l, l1, l6, rfl⟩) (by omega)⟩, Wf_sellN h1 h2 hi4 hm l1 l6 hN, by rw [sellN_len]; exact h3⟩
      · cases h
    · cases h
def R_sr (i x : Int32) (g : Game) : RG := match ixO 4 i with
  | none => .inl (-9999001)
  | some i => if rgB 0 9 x = true then .inr (g.2.2.1 i 1, gCo g i 1 x) else .inl (-9999002)
theorem sr_ap (i x : Int32) (u : At) : aSetRent i x u = ap u (R_sr i x u.2.1) := by
  unfold aSetRent R_sr
  cases ixO 4 i with
  | none => rfl
  | some i =>
    show (if rgB 0 9 x = true then _ else _) = ap u (if rgB 0 9 x = true then _ else _)
    split <;> rfl
theorem sr_G9 {N : Nat} {i x v : Int32} {g g' : Game} (hG : G9 N g) (h : R_sr i x g = .inr (v, g')) : G9 (N + 5000) g' := by
  obtain ⟨⟨c, h1⟩, h2, h3⟩ := hG
  unfold R_sr at h
  split at h
  · cases h
  · rename_i i hi
    split at h
    · rename_i hr
      obtain ⟨l, l1, l6, rfl⟩ := rgB_of (a := 0) (b := 9) (by omega) (by omega) hr
      cases h
      exact ⟨⟨c, V_mono (V_rent h1 ⟨l, l1, l6, rfl⟩) (by omega)⟩, Wf_rent h2, h3⟩
    · cases h
def R_of (x y p r : Int32) (g : Game) : RG :=
  if below (nCit g) x = true then (if below (nCit g) y = true then (if (!decide (x = y) && (rgB 1 99 p && rgB 1 9 r)) = true then (if g.2.2.2.2.length = 8 then .inl (-9999003) else .inr (nI (gOffer g (x, y, p, r, -9, 0)).2.2.2.2.length - 1, gOffer g (x, y, p, r, -9, 0))) else .inl (-9999002)) else .inl (-9999001)) else .inl (-9999001)
theorem of_ap (x y p r : Int32) (u : At) : aOffer x y p r u = ap u (R_of x y p r u.2.1) := by
  unfold aOffer R_of
  split
  · split
    · split
      · split <;> rfl
      · rfl
    · rfl
  · rfl
theorem of_G9 {N : Nat} {x y p r v : Int32} {g g' : Game} (hG : G9 N g) (h : R_of x y p r g = .inr (v, g')) : G9 (N + 5000) g' := by
  obtain ⟨⟨c, h1⟩, h2, h3⟩ := hG
  obtain ⟨hc2, hc9, hc⟩ := h1.1
  unfold R_of at h
  rw [nCit_of hc hc9] at h
  split at h
  · rename_i hx
    split at h
    · rename_i hy
      split at h
      · rename_i hA
        split at h
        · cases h
        · rename_i h8
          cases h
          rw [Bool.and_eq_true, Bool.and_eq_true] at hA
          obtain ⟨k1, k2, k3⟩ := hA
          have hne : x ≠ y := fun e => by rw [decide_eq_true e] at k1; cases k1
          obtain ⟨xa, hxa, rfl⟩ := below_of (by omega) hx
          obtain ⟨ya, hya, rfl⟩ := below_of (by omega) hy
          obtain ⟨pa, hp1, hp2, rfl⟩ := rgB_of (a := 1) (b := 99) (by omega) (by omega) k2
          obtain ⟨ra, hr1, hr2, rfl⟩ := rgB_of (a := 1) (b := 9) (by omega) (by omega) k3
          have hl := h1.2.2.2.2.2.1
          exact ⟨⟨c, V_mono (V_offer h1 (by omega) ⟨⟨xa, hxa, rfl⟩, ⟨ya, hya, rfl⟩, hne, ⟨pa, hp1, hp2, rfl⟩, ⟨ra, hr1, hr2, rfl⟩, Or.inl rfl, ⟨0, by omega, by omega, nI_0.symm⟩⟩) (by omega)⟩, Wf_offer h2 rfl, h3⟩
      · cases h
    · cases h
  · cases h
def R_tk (i t : Int32) (g : Game) : RG := match ixO 4 i with
  | none => .inl (-9999001)
  | some i => match ixO g.2.2.2.2.length t with
    | none => .inl (-9999001)
    | some j => match g.2.2.2.2[j]? with
      | none => .inl (-9999001)
      | some a => if a.2.2.2.2.1 = -9 then .inr (cntC (gTake g i j a) i, gTake g i j a) else .inl (-9999003)
theorem tk_ap (i t : Int32) (u : At) : aTake i t u = ap u (R_tk i t u.2.1) := by
  unfold aTake R_tk
  cases ixO 4 i with
  | none => rfl
  | some i =>
    show (match ixO u.2.1.2.2.2.2.length t with | none => _ | some j => _) = ap u (match ixO u.2.1.2.2.2.2.length t with | none => _ | some j => _)
    cases ixO u.2.1.2.2.2.2.length t with
    | none => rfl
    | some j =>
      show (match u.2.1.2.2.2.2[j]? with | none => _ | some a => _) = ap u (match u.2.1.2.2.2.2[j]? with | none => _ | some a => _)
      cases u.2.1.2.2.2.2[j]? with
      | none => rfl
      | some a =>
        show (if a.2.2.2.2.1 = -9 then _ else _) = ap u (if a.2.2.2.2.1 = -9 then _ else _)
        split <;> rfl
theorem tk_G9 {N : Nat} {i t v : Int32} {g g' : Game} (hG : G9 N g) (h : R_tk i t g = .inr (v, g')) : G9 (N + 5000) g' := by
  obtain ⟨⟨c, h1⟩, h2, h3⟩ := hG
  unfold R_tk at h
  split at h
  · cases h
  · rename_i i hi
    split at h
    · cases h
    · rename_i j hj
      split at h
      · cases h
      · rename_i a ha
        split at h
        · cases h
          have hi4 := (ixO_s (by omega) hi).1
          exact ⟨⟨c, V_mono (V_take h1 hi4 ha) (by omega)⟩, Wf_take h1 h2 hi4 ha, h3⟩
        · cases h
def R_rn (t x : Int32) (g : Game) : RG := match ixO g.2.2.2.2.length t with
  | none => .inl (-9999001)
  | some k => match g.2.2.2.2[k]? with
    | none => .inl (-9999001)
    | some a => if a.2.2.2.2.1 = -9 then .inl (-9999003) else match ixO (g.2.2.2.1 a.2.2.2.2.1.toNatClampNeg).length x with
      | none => .inl (-9999001)
      | some j => match (g.2.2.2.1 a.2.2.2.2.1.toNatClampNeg)[j]? with
        | none => .inl (-9999001)
        | some b => if rsn g a.2.2.2.2.1.toNatClampNeg a b a.1.toNatClampNeg a.2.1.toNatClampNeg b.1.toNatClampNeg = 0 then .inr (nI (wC (wks g a.2.2.2.2.1.toNatClampNeg) a.2.1.toNatClampNeg a.1.toNatClampNeg (4 * b.1.toNatClampNeg)), gCar g a.2.2.2.2.1.toNatClampNeg k j a b (wP (wks g a.2.2.2.2.1.toNatClampNeg) a.2.1.toNatClampNeg a.1.toNatClampNeg (4 * b.1.toNatClampNeg))) else .inl (-9999003)
theorem rn_ap (t x : Int32) (u : At) : aRun t x u = ap u (R_rn t x u.2.1) := by
  unfold aRun R_rn
  cases ixO u.2.1.2.2.2.2.length t with
  | none => rfl
  | some k =>
    show (match u.2.1.2.2.2.2[k]? with | none => _ | some a => _) = ap u (match u.2.1.2.2.2.2[k]? with | none => _ | some a => _)
    cases u.2.1.2.2.2.2[k]? with
    | none => rfl
    | some a =>
      show (if a.2.2.2.2.1 = -9 then _ else _) = ap u (if a.2.2.2.2.1 = -9 then _ else _)
      split
      · rfl
      · cases ixO (u.2.1.2.2.2.1 a.2.2.2.2.1.toNatClampNeg).length x with
        | none => rfl
        | some j =>
          show (match (u.2.1.2.2.2.1 a.2.2.2.2.1.toNatClampNeg)[j]? with | none => _ | some b => _) = ap u (match (u.2.1.2.2.2.1 a.2.2.2.2.1.toNatClampNeg)[j]? with | none => _ | some b => _)
          cases (u.2.1.2.2.2.1 a.2.2.2.2.1.toNatClampNeg)[j]? with
          | none => rfl
          | some b =>
            show (if rsn u.2.1 a.2.2.2.2.1.toNatClampNeg a b a.1.toNatClampNeg a.2.1.toNatClampNeg b.1.toNatClampNeg = 0 then _ else _) = ap u (if rsn u.2.1 a.2.2.2.2.1.toNatClampNeg a b a.1.toNatClampNeg a.2.1.toNatClampNeg b.1.toNatClampNeg = 0 then _ else _)
            split <;> rfl
theorem car_len {i k j : Nat} {a : T6} {t : T2} {ps : List Nat} {g : Game} : (gCar g i k j a t ps).2.1 = g.2.1 := (gPath_l ps g).1
theorem rn_G9 {N : Nat} {t x v : Int32} {g g' : Game} (hG : G9 N g) (hN : N ≤ 800000000) (h : R_rn t x g = .inr (v, g')) : G9 (N + 5000) g' := by
  obtain ⟨⟨c, h1⟩, h2, h3⟩ := hG
  unfold R_rn at h
  split at h
  · cases h
  · rename_i k hk
    split at h
    · cases h
    · rename_i a ha
      split at h
      · cases h
      · rename_i h9
        rcases (h1.2.2.2.2.2.2 a (mem_get ha)).2.2.2.2.2.1 with q | ⟨i, hi4, ho⟩
        · exact absurd q h9
        · have ei : a.2.2.2.2.1.toNatClampNeg = i := by rw [ho, nI_c (by omega)]
          rw [ei] at h
          split at h
          · cases h
          · rename_i j hj
            split at h
            · cases h
            · rename_i b hb
              split at h
              · cases h
                obtain ⟨q, q1, q6, eq⟩ := ((h1.2.2.2.2.1 i hi4).2 b (mem_get hb)).1
                have hl : (wP (wks g i) a.2.1.toNatClampNeg a.1.toNatClampNeg (4 * b.1.toNatClampNeg)).length ≤ 24 := by
                  have h4 := wP_len (goal := a.2.1.toNatClampNeg) (a := a.1.toNatClampNeg) (rr := 4 * b.1.toNatClampNeg) (fun t ht => ((wks_ok (i := i) h1).1.2 t ht).2.2.2.1)
                  rw [eq, nI_c (by omega)] at h4 ⊢
                  omega
                exact ⟨⟨c, V_mono (V_car h1 hi4 ha hb) (by omega)⟩, Wf_car h1 h2 hi4 ha hb ho hl hN, by rw [car_len]; exact h3⟩
              · cases h
theorem en_ap (u : At) : aEnd u = ap u (.inr (cSt (gMid u.2.1) 0 4 0, gEnd u.2.1)) := rfl
