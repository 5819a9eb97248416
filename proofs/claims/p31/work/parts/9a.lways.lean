/-! ===== ways: by any first track, there and back ===== -/
def eo9 (o : Option Nat) : Int32 := match o with
  | none => -9
  | some k => nI k
def mn9 (B o : Option Nat) : Option Nat := match o with
  | none => B
  | some k => match B with
    | none => some k
    | some j => if j ≤ k then some j else some k
theorem wks_T {c m i : Nat} {g : Game} (hV : V c m g) : TKs (wks g i) := fun t ht => by
  obtain ⟨a1, a2, a3, a4, a5, a6⟩ := (wks_ok (i := i) hV).1.2 t ht
  exact ⟨a3, a4, a6⟩
section WAY
variable {c m : Nat} {u : At}
theorem rgB_in {a b x : Nat} (h1 : a ≤ x) (h2 : x ≤ b) (hb : b < 2147483648) : rgB (nI a) (nI b) (nI x) = true := by
  unfold rgB
  rw [decide_eq_true (p := nI a ≤ nI x) (by rw [nIle (by omega) (by omega)]; exact h1), decide_eq_true (p := nI x ≤ nI b) (by rw [nIle (by omega) (by omega)]; exact h2)]
  rfl
theorem tWay {i a b r w : Nat} (hV : V c m u.2.1) (hi : i < 4) (ha : a < c) (hb : b < c) (hab : a ≠ b) (hr1 : 1 ≤ r) (hr : r ≤ 24) (hw : w ≤ 3) : h_tryWay (nI i) (nI a) (nI b) (nI r) (nI w) u = some (if wIs (wks u.2.1 i) b a r = true then (if w = 0 then nI (wC (wks u.2.1 i) b a r) else if w = 1 then nI (wL (wks u.2.1 i) b a r) else if w = 2 then nI (wP (wks u.2.1 i) b a r).length else nI ((wP (wks u.2.1 i) b a r).headD 0)) else -9, u) := by
  obtain ⟨hc2, hc9, hc⟩ := hV.1
  have hcond : (!decide (nI a = nI b) && (rgB 1 24 (nI r) && rgB 0 3 (nI w))) = true := by
    rw [decide_eq_false (by rw [nI_inj (by omega) (by omega)]; exact hab), show (1 : Int32) = nI 1 from rfl, show (24 : Int32) = nI 24 from rfl, show (0 : Int32) = nI 0 from rfl, show (3 : Int32) = nI 3 from rfl, rgB_in hr1 hr (by omega), rgB_in (Nat.zero_le _) hw (by omega)]
    rfl
  unfold h_tryWay nWay
  rw [nCit_of hc hc9, ixO_t hi (by omega), ixO_t ha (by omega), ixO_t hb (by omega)]
  show some ((if (!decide (nI a = nI b) && (rgB 1 24 (nI r) && rgB 0 3 (nI w))) = true then (if wIs (wks u.2.1 i) b a (nI r).toNatClampNeg = true then (if nI w = 0 then nI (wC (wks u.2.1 i) b a (nI r).toNatClampNeg) else if nI w = 1 then nI (wL (wks u.2.1 i) b a (nI r).toNatClampNeg) else if nI w = 2 then nI (wP (wks u.2.1 i) b a (nI r).toNatClampNeg).length else nI ((wP (wks u.2.1 i) b a (nI r).toNatClampNeg).headD 0)) else -9) else -9999002), u) = _
  rw [if_pos hcond, nI_c (by omega)]
  have hw4 : w = 0 ∨ w = 1 ∨ w = 2 ∨ w = 3 := by omega
  rcases hw4 with rfl | rfl | rfl | rfl <;> rfl
abbrev cw9 (g : Game) (i a b r : Nat) : Int32 := if wIs (wks g i) b a r = true then nI (wC (wks g i) b a r) else -9
theorem tWay0 {i a b r : Nat} (hV : V c m u.2.1) (hi : i < 4) (ha : a < c) (hb : b < c) (hab : a ≠ b) (hr1 : 1 ≤ r) (hr : r ≤ 24) : h_tryWay (nI i) (nI a) (nI b) (nI r) 0 u = some (cw9 u.2.1 i a b r, u) := tWay (w := 0) hV hi ha hb hab hr1 hr (by omega)
theorem tWay1 {i a b r : Nat} (hV : V c m u.2.1) (hi : i < 4) (ha : a < c) (hb : b < c) (hab : a ≠ b) (hr1 : 1 ≤ r) (hr : r ≤ 24) : h_tryWay (nI i) (nI a) (nI b) (nI r) 1 u = some (if wIs (wks u.2.1 i) b a r = true then nI (wL (wks u.2.1 i) b a r) else -9, u) := tWay (w := 1) hV hi ha hb hab hr1 hr (by omega)
theorem tWay2 {i a b r : Nat} (hV : V c m u.2.1) (hi : i < 4) (ha : a < c) (hb : b < c) (hab : a ≠ b) (hr1 : 1 ≤ r) (hr : r ≤ 24) : h_tryWay (nI i) (nI a) (nI b) (nI r) 2 u = some (if wIs (wks u.2.1 i) b a r = true then nI (wP (wks u.2.1 i) b a r).length else -9, u) := tWay (w := 2) hV hi ha hb hab hr1 hr (by omega)
theorem tWay3 {i a b r : Nat} (hV : V c m u.2.1) (hi : i < 4) (ha : a < c) (hb : b < c) (hab : a ≠ b) (hr1 : 1 ≤ r) (hr : r ≤ 24) : h_tryWay (nI i) (nI a) (nI b) (nI r) 3 u = some (if wIs (wks u.2.1 i) b a r = true then nI ((wP (wks u.2.1 i) b a r).headD 0) else -9, u) := tWay (w := 3) hV hi ha hb hab hr1 hr (by omega)
theorem eo9_n {o : Option Nat} (h : ∀ k, o = some k → k < 2147483648) : eo9 o = -9 ↔ o = none := by
  cases o with
  | none => exact ⟨fun _ => rfl, fun _ => rfl⟩
  | some k => exact ⟨fun e => absurd e (nI_m9 (h k rfl)), fun e => by cases e⟩
theorem w519 {K : At → Int32 → Int32 → Int32 → Int32 → Int32 → Int32 → Int32 → Int32 → Int32 → Option (Int32 × At)} {x3 x4 x5 x6 x7 x9 x11 : Int32} {t : Nat} : B_ways_519 K u x3 x4 x5 x6 x7 x9 x11 (nI t) = K u x3 x4 x5 x6 x7 x9 1 x11 (nI (t + 1)) := by
  unfold B_ways_519
  rw [gviN, nI_s]
theorem w447 {K : At → Int32 → Int32 → Int32 → Int32 → Int32 → Int32 → Int32 → Int32 → Int32 → Option (Int32 × At)} {x3 x4 x5 x6 x9 : Int32} {t C : Nat} {is : Bool} {B o : Option Nat} (hC : C < 2147483648) (hB : ∀ k, B = some k → k < 2147483648) (ho : ∀ k, o = some k → k < 2147483648 ∧ is = true ∧ C ≤ k) (hf : nI t = x9 → ∀ k, o = some k → k = C) : B_ways_447 K u x3 x4 x5 x6 (if is = true then nI C else -9) x9 (eo9 B) (nI t) (eo9 o) = K u x3 x4 x5 x6 (if is = true then nI C else -9) x9 1 (eo9 (mn9 B o)) (nI (t + 1)) := by
  have key : ∀ x : Int32, B_ways_482 K u x3 x4 x5 x6 (if is = true then nI C else -9) x9 (nI t) (eo9 o) x = K u x3 x4 x5 x6 (if is = true then nI C else -9) x9 1 x (nI (t + 1)) := by
    intro x
    unfold B_ways_482
    cases o with
    | none => rw [if_pos (show eo9 none = -9 from rfl), w519]
    | some k =>
      obtain ⟨hk, his, hCk⟩ := ho k rfl
      rw [show eo9 (some k) = nI k from rfl, if_neg (show ¬ nI k = -9 from nI_m9 hk), his, if_pos rfl, if_neg (nI_m9 hC), if_neg (show ¬ nI k < nI C by rw [nIlt hk hC]; omega)]
      by_cases e : nI t = x9
      · rw [if_pos e, if_pos (show nI k = nI C by rw [hf e k rfl]), w519]
      · rw [if_neg e, w519]
  unfold B_ways_447
  cases o with
  | none => rw [if_pos (show eo9 none = -9 from rfl), key]; rfl
  | some k =>
    obtain ⟨hk, his, hCk⟩ := ho k rfl
    rw [show eo9 (some k) = nI k from rfl, if_neg (show ¬ nI k = -9 from nI_m9 hk)]
    have key : ∀ x : Int32, B_ways_482 K u x3 x4 x5 x6 (if is = true then nI C else -9) x9 (nI t) (nI k) x = K u x3 x4 x5 x6 (if is = true then nI C else -9) x9 1 x (nI (t + 1)) := key
    cases B with
    | none => rw [if_pos (show eo9 none = -9 from rfl), key]; rfl
    | some j =>
      have hj := hB j rfl
      rw [show eo9 (some j) = nI j from rfl, if_neg (show ¬ nI j = -9 from nI_m9 hj)]
      by_cases e : j ≤ k
      · rw [if_pos (show nI j ≤ nI k by rw [nIle hj hk]; exact e), key]
        show _ = K u x3 x4 x5 x6 _ x9 1 (eo9 (if j ≤ k then some j else some k)) _
        rw [if_pos e]
        rfl
      · rw [if_neg (show ¬ nI j ≤ nI k by rw [nIle hj hk]; exact e), key]
        show _ = K u x3 x4 x5 x6 _ x9 1 (eo9 (if j ≤ k then some j else some k)) _
        rw [if_neg e]
        rfl
/-- what a first track that leads to d makes -/
def byD (ks : List TK) (b r d : Nat) (t : TK) : Option Nat := if t.2.2.1 ≤ r then (if d = b then some t.2.2.2 else if t.2.2.1 < r ∧ wIs ks b d (r - t.2.2.1) = true then some (t.2.2.2 + wC ks b d (r - t.2.2.1)) else none) else none
theorem byT_D {ks : List TK} {a b r : Nat} {t : TK} (h : t.1 = a ∨ t.2.1 = a) : byT ks a b r t = byD ks b r (wFar t a) t := by
  unfold byT byD
  rw [if_pos h]
theorem byT_no {ks : List TK} {a b r : Nat} {t : TK} (h : ¬ (t.1 = a ∨ t.2.1 = a)) : byT ks a b r t = none := by
  unfold byT
  rw [if_neg h]
theorem w356 {K : At → Int32 → Int32 → Int32 → Int32 → Int32 → Int32 → Int32 → Int32 → Int32 → Option (Int32 × At)} {x4 x7 x9 x11 ρ : Int32} {i b r d t : Nat} {tk : TK} {A : T4} (hV : V c m u.2.1) (hi : i < 4) (hb : b < c) (hr1 : 1 ≤ r) (hr : r ≤ 24) (hd : d < c) (hA : u.2.1.2.1[t]? = some A) (hl : A.2.2.1 = nI tk.2.2.1) (hl1 : 1 ≤ tk.2.2.1) (hl9 : tk.2.2.1 ≤ 9) (hp : ρ * A.2.2.1 = nI tk.2.2.2) (hp81 : tk.2.2.2 ≤ 81) : B_ways_356 K u (nI i) x4 (nI b) (nI r) x7 x9 x11 (nI t) (nI d) (nI r - nI tk.2.2.1) ρ = B_ways_447 K u (nI i) x4 (nI b) (nI r) x7 x9 x11 (nI t) (eo9 (byD (wks u.2.1 i) b r d tk)) := by
  have hT := hV.2.2.1.1
  have hc9 := hV.1.2.1
  have hd9 : nI d ≠ -9 := nI_m9 (by omega)
  have hlt : ∀ h : ¬ tk.2.2.1 ≤ r, nI r - nI tk.2.2.1 < 0 := fun h => pk_sneg (by omega) (by omega)
  unfold B_ways_356
  rw [tTr2 hA hT, gbsN, gviN, hp]
  unfold byD
  by_cases e : d = b
  · rw [if_pos (show nI d = nI b by rw [e])]
    by_cases h1 : tk.2.2.1 ≤ r
    · rw [pk_sub h1, if_neg (nI_ng (by omega)), if_pos h1, if_pos e]
      unfold B_ways_416
      rw [if_neg hd9, if_neg (nI_ng (by omega)), if_neg (by decide), Int32.add_zero]
      rfl
    · rw [if_pos (hlt h1), if_neg h1]
      unfold B_ways_386
      rw [if_neg hd9, if_neg (fun q => absurd (Int32.lt_of_lt_of_le (show (0 : Int32) < 1 by decide) q) (Int32.not_lt.mpr (Int32.le_of_lt (hlt h1))))]
      unfold B_ways_416
      rw [if_neg hd9, if_pos (hlt h1)]
      rfl
  · rw [if_neg (show ¬ nI d = nI b by rw [nI_inj (by omega) (by omega)]; exact e)]
    unfold B_ways_386
    rw [if_neg hd9]
    by_cases h1 : tk.2.2.1 ≤ r
    · rw [pk_sub h1, if_pos h1, if_neg e]
      by_cases h2 : tk.2.2.1 < r
      · rw [if_pos (show (1 : Int32) ≤ nI (r - tk.2.2.1) by rw [show (1 : Int32) = nI 1 from rfl, nIle (by omega) (by omega)]; omega), tWay0 hV hi hd hb e (by omega) (by omega), gbsN]
        unfold B_ways_416
        rw [if_neg hd9, if_neg (nI_ng (by omega))]
        unfold cw9
        by_cases h3 : wIs (wks u.2.1 i) b d (r - tk.2.2.1) = true
        · have h4 := wIs_of.mp h3
          unfold UN at h4
          rw [if_pos h3, if_neg (nI_m9 (by omega)), if_pos ⟨h2, h3⟩, nI_add]
          rfl
        · rw [if_neg h3, if_pos rfl, if_neg (fun q => h3 q.2)]
          rfl
      · rw [if_neg (show ¬ (1 : Int32) ≤ nI (r - tk.2.2.1) by rw [show (1 : Int32) = nI 1 from rfl, nIle (by omega) (by omega)]; omega), if_neg (fun q => h2 q.1)]
        unfold B_ways_416
        rw [if_neg hd9, if_neg (nI_ng (by omega)), if_pos rfl]
        rfl
    · rw [if_neg (fun q => absurd (Int32.lt_of_lt_of_le (show (0 : Int32) < 1 by decide) q) (Int32.not_lt.mpr (Int32.le_of_lt (hlt h1)))), if_neg h1]
      unfold B_ways_416
      rw [if_neg hd9, if_pos (hlt h1)]
      rfl
theorem w356n {K : At → Int32 → Int32 → Int32 → Int32 → Int32 → Int32 → Int32 → Int32 → Int32 → Option (Int32 × At)} {x3 x4 x6 x7 x9 x11 x14 ρ : Int32} {b t : Nat} {A : T4} (hV : V c m u.2.1) (hb : b < c) (hA : u.2.1.2.1[t]? = some A) : B_ways_356 K u x3 x4 (nI b) x6 x7 x9 x11 (nI t) (-9) x14 ρ = B_ways_447 K u x3 x4 (nI b) x6 x7 x9 x11 (nI t) (-9) := by
  have hT := hV.2.2.1.1
  have hc9 := hV.1.2.1
  unfold B_ways_356
  rw [tTr2 hA hT, gbsN, gviN, if_neg (show ¬ (-9 : Int32) = nI b from fun e => nI_m9 (j := b) (by omega) e.symm)]
  unfold B_ways_386
  rw [if_pos rfl]
  unfold B_ways_416
  rw [if_pos rfl]
/-- the rent of a track -/
theorem w305 {K : At → Int32 → Int32 → Int32 → Int32 → Int32 → Int32 → Int32 → Int32 → Int32 → Option (Int32 × At)} {x4 x5 x7 x9 x11 t0 : Int32} {i r t : Nat} {A : T4} (hV : V c m u.2.1) (hi : i < 4) (hA : u.2.1.2.1[t]? = some A) : ∃ ρ : Int32, ρ * A.2.2.1 = prc u.2.1 i A ∧ B_ways_305 K u (nI i) x4 x5 (nI r) x7 x9 x11 (nI t) t0 = B_ways_356 K u (nI i) x4 x5 (nI r) x7 x9 x11 (nI t) t0 (nI r - A.2.2.1) ρ := by
  have hT := hV.2.2.1.1
  unfold B_ways_305
  rw [tTr2 hA hT, gbsN, gviN, tTr3 hA hT, gbsN]
  unfold prc
  by_cases e : A.2.2.2 = nI i
  · exact ⟨0, by rw [if_pos e], by rw [if_pos e]⟩
  · rw [if_neg e, if_neg e]
    by_cases e2 : A.2.2.2 = -9
    · exact ⟨1, by rw [if_pos e2], by rw [if_pos e2]⟩
    · rw [if_neg e2, if_neg e2]
      rcases (hV.2.2.1.2 A (mem_get hA)).2.2.2.2 with q | ⟨j, hj, q⟩
      · exact absurd q e2
      · refine ⟨u.2.1.2.2.1 j 1, by rw [q, nI_c (by omega)], by rw [q, tCo1 hj, gbsN]⟩
theorem w_step {x9 : Int32} {i a b r t fu : Nat} {B : Option Nat} {tk : TK} (hV : V c m u.2.1) (hi : i < 4) (ha : a < c) (hb : b < c) (hab : a ≠ b) (hr1 : 1 ≤ r) (hr : r ≤ 24) (htk : (wks u.2.1 i)[t]? = some tk) (hB : ∀ k, B = some k → k < 2147483648) (hf : nI t = x9 → ∀ k, byT (wks u.2.1 i) a b r tk = some k → k = wC (wks u.2.1 i) b a r) : L_ways_244 (fu + 1) u (nI i) (nI a) (nI b) (nI r) (cw9 u.2.1 i a b r) x9 1 (eo9 B) (nI t) = L_ways_244 fu u (nI i) (nI a) (nI b) (nI r) (cw9 u.2.1 i a b r) x9 1 (eo9 (mn9 B (byT (wks u.2.1 i) a b r tk))) (nI (t + 1)) := by
  have hT := hV.2.2.1.1
  have hc9 := hV.1.2.1
  obtain ⟨⟨-, hVK⟩, hKl, hKT⟩ := wks_ok (i := i) hV
  obtain ⟨A, hA, a1, a2, a3, a4⟩ := hKT t tk htk
  obtain ⟨v1, v2, v3, v4, v5, v6⟩ := hVK tk (mem_get htk)
  have hks := wks_T (i := i) hV
  have htl := lt_len hA
  have hCb : wC (wks u.2.1 i) b a r < 2147483648 := by
    have := (wch_v (ks := wks u.2.1 i) (goal := b) (a := a) r).1
    unfold UN at this
    unfold wC
    omega
  have ho : ∀ k, byT (wks u.2.1 i) a b r tk = some k → k < 2147483648 ∧ wIs (wks u.2.1 i) b a r = true ∧ wC (wks u.2.1 i) b a r ≤ k := by
    intro k hk
    obtain ⟨q1, q2⟩ := byT_ge hks (mem_get htk) hab hr hk
    refine ⟨?_, wIs_of.mpr q1, q2⟩
    unfold byT at hk
    split at hk
    · split at hk
      · split at hk
        · have := Option.some.inj hk; omega
        · split at hk
          · rename_i q
            have h4 := wIs_of.mp q.2
            unfold UN at h4
            have := Option.some.inj hk
            omega
          · cases hk
      · cases hk
    · cases hk
  have e1 : h_tryAbout 1 u = some (nI u.2.1.2.1.length, u) := by simp [h_tryAbout, nAbout]
  show Lb_ways_244 _ u (nI i) (nI a) (nI b) (nI r) (cw9 u.2.1 i a b r) x9 1 (eo9 B) (nI t) = _
  unfold Lb_ways_244
  rw [e1, gbsN, if_neg (by rw [nIle (by omega) (by omega)]; omega), if_neg (by decide), tTr0 hA hT, gbsN]
  by_cases q1 : tk.1 = a
  · rw [if_pos (show A.1 = nI a by rw [a1, q1]), tTr1 hA hT, gbsN]
    obtain ⟨ρ, p1, p2⟩ := w305 (K := L_ways_244 fu) (x4 := nI a) (x5 := nI b) (x7 := cw9 u.2.1 i a b r) (x9 := x9) (x11 := eo9 B) (t0 := A.2.1) (r := r) hV hi hA
    have hfar : wFar tk a = tk.2.1 := by unfold wFar; rw [if_pos q1]
    rw [p2, a2, a3, w356 hV hi hb hr1 hr v2 hA a3 v4 v5 (p1.trans a4) v6, ← hfar, ← byT_D (Or.inl q1)]
    exact w447 hCb hB ho hf
  · rw [if_neg (show ¬ A.1 = nI a by rw [a1, nI_inj (by omega) (by omega)]; exact q1), tTr1 hA hT, gbsN]
    by_cases q2 : tk.2.1 = a
    · rw [if_pos (show A.2.1 = nI a by rw [a2, q2]), tTr0 hA hT, gbsN]
      obtain ⟨ρ, p1, p2⟩ := w305 (K := L_ways_244 fu) (x4 := nI a) (x5 := nI b) (x7 := cw9 u.2.1 i a b r) (x9 := x9) (x11 := eo9 B) (t0 := A.1) (r := r) hV hi hA
      have hfar : wFar tk a = tk.1 := by unfold wFar; rw [if_neg q1]
      rw [p2, a1, a3, w356 hV hi hb hr1 hr v1 hA a3 v4 v5 (p1.trans a4) v6, ← hfar, ← byT_D (Or.inr q2)]
      exact w447 hCb hB ho hf
    · rw [if_neg (show ¬ A.2.1 = nI a by rw [a2, nI_inj (by omega) (by omega)]; exact q2)]
      obtain ⟨ρ, p1, p2⟩ := w305 (K := L_ways_244 fu) (x4 := nI a) (x5 := nI b) (x7 := cw9 u.2.1 i a b r) (x9 := x9) (x11 := eo9 B) (t0 := -9) (r := r) hV hi hA
      rw [p2, w356n hV hb hA, byT_no (fun q => q.elim q1 q2)]
      exact w447 (o := none) hCb hB (fun k hk => by cases hk) (fun _ k hk => by cases hk)
theorem w_loop {x9 : Int32} {i a b r : Nat} (hV : V c m u.2.1) (hi : i < 4) (ha : a < c) (hb : b < c) (hab : a ≠ b) (hr1 : 1 ≤ r) (hr : r ≤ 24) (hx9 : x9 = if wIs (wks u.2.1 i) b a r = true then nI (wO (wks u.2.1 i) b (wL (wks u.2.1 i) b a r) a) else -9) : ∀ (d t fu : Nat) (B : Option Nat), t + d = u.2.1.2.1.length → d < fu → (∀ k, B = some k → k < 2147483648 ∧ wIs (wks u.2.1 i) b a r = true ∧ wC (wks u.2.1 i) b a r ≤ k) → (wIs (wks u.2.1 i) b a r = true → wO (wks u.2.1 i) b (wL (wks u.2.1 i) b a r) a < t → B = some (wC (wks u.2.1 i) b a r)) → L_ways_244 fu u (nI i) (nI a) (nI b) (nI r) (cw9 u.2.1 i a b r) x9 1 (eo9 B) (nI t) = some (1, u) := by
  have hT := hV.2.2.1.1
  have hks := wks_T (i := i) hV
  obtain ⟨⟨-, hVK⟩, hKl, hKT⟩ := wks_ok (i := i) hV
  have e1 : h_tryAbout 1 u = some (nI u.2.1.2.1.length, u) := by simp [h_tryAbout, nAbout]
  have hfirst : wIs (wks u.2.1 i) b a r = true → ∃ tk, (wks u.2.1 i)[wO (wks u.2.1 i) b (wL (wks u.2.1 i) b a r) a]? = some tk ∧ byT (wks u.2.1 i) a b r tk = some (wC (wks u.2.1 i) b a r) := by
    intro his
    have hw := wIs_of.mp his
    obtain ⟨h1, h2, h3, -⟩ := wch_v (ks := wks u.2.1 i) (goal := b) (a := a) r
    obtain ⟨h4, h5⟩ := h3 hw
    have h6 : wA (wks u.2.1 i) b (wL (wks u.2.1 i) b a r) a = wC (wks u.2.1 i) b a r := h5
    obtain ⟨tk, ht, -⟩ := wO_ok hks.h1 (show 1 ≤ wL (wks u.2.1 i) b a r from h4) (by rw [h6]; exact hw)
    exact ⟨tk, ht, byT_first hks hab hr hw ht⟩
  intro d
  induction d with
  | zero =>
    intro t fu B ht hf h1 h2
    obtain ⟨fu, rfl⟩ : ∃ f, fu = f + 1 := ⟨fu - 1, by omega⟩
    show Lb_ways_244 _ u (nI i) (nI a) (nI b) (nI r) (cw9 u.2.1 i a b r) x9 1 (eo9 B) (nI t) = _
    unfold Lb_ways_244
    rw [e1, gbsN, if_pos (by rw [nIle (by omega) (by omega)]; omega)]
    have hB : eo9 B = cw9 u.2.1 i a b r := by
      by_cases his : wIs (wks u.2.1 i) b a r = true
      · obtain ⟨tk, q1, -⟩ := hfirst his
        have := lt_len q1
        rw [h2 his (by omega)]
        unfold cw9
        rw [if_pos his]
        rfl
      · unfold cw9
        rw [if_neg his]
        cases B with
        | none => rfl
        | some k => exact absurd (h1 k rfl).2.1 his
    unfold B_ways_532
    rw [if_neg (by decide), if_pos hB]
  | succ d ih =>
    intro t fu B ht hf h1 h2
    obtain ⟨fu, rfl⟩ : ∃ f, fu = f + 1 := ⟨fu - 1, by omega⟩
    obtain ⟨tk, htk⟩ := some_of_lt (show t < (wks u.2.1 i).length by omega)
    have hge : ∀ k, byT (wks u.2.1 i) a b r tk = some k → wIs (wks u.2.1 i) b a r = true ∧ wC (wks u.2.1 i) b a r ≤ k := fun k hk => by
      obtain ⟨q1, q2⟩ := byT_ge hks (mem_get htk) hab hr hk
      exact ⟨wIs_of.mpr q1, q2⟩
    have hlt : ∀ k, byT (wks u.2.1 i) a b r tk = some k → k < 2147483648 := by
      intro k hk
      obtain ⟨-, -, -, -, v5, v6⟩ := hVK tk (mem_get htk)
      unfold byT at hk
      split at hk
      · split at hk
        · split at hk
          · have := Option.some.inj hk; omega
          · split at hk
            · rename_i q
              have h4 := wIs_of.mp q.2
              unfold UN at h4
              have := Option.some.inj hk
              omega
            · cases hk
        · cases hk
      · cases hk
    rw [w_step hV hi ha hb hab hr1 hr htk (fun k hk => (h1 k hk).1) (fun e k hk => ?_)]
    · refine ih (t + 1) fu _ (by omega) (by omega) (fun k hk => ?_) (fun his hlt2 => ?_)
      · unfold mn9 at hk
        split at hk
        · exact h1 k hk
        · rename_i k2 hk2
          split at hk
          · have := Option.some.inj hk
            subst this
            exact ⟨hlt _ hk2, hge _ hk2⟩
          · rename_i j
            split at hk
            · have := Option.some.inj hk
              subst this
              exact h1 _ rfl
            · have := Option.some.inj hk
              subst this
              exact ⟨hlt _ hk2, hge _ hk2⟩
      · by_cases e : wO (wks u.2.1 i) b (wL (wks u.2.1 i) b a r) a = t
        · obtain ⟨tk', q1, q2⟩ := hfirst his
          rw [e, htk] at q1
          obtain rfl := Option.some.inj q1
          rw [q2]
          cases B with
          | none => rfl
          | some j =>
            have := (h1 j rfl).2.2
            show (if j ≤ _ then some j else some _) = _
            split
            · congr 1; omega
            · rfl
        · rw [h2 his (by omega)]
          cases hby : byT (wks u.2.1 i) a b r tk with
          | none => rfl
          | some k =>
            show (if _ ≤ k then some _ else some k) = _
            rw [if_pos (hge k hby).2]
    · obtain ⟨his, -⟩ := hge k hk
      rw [hx9, if_pos his] at e
      obtain ⟨tk', q1, q2⟩ := hfirst his
      have hl := lt_len q1
      have e2 : t = wO (wks u.2.1 i) b (wL (wks u.2.1 i) b a r) a := (nI_inj (by omega) (by omega)).mp e
      rw [← e2, htk] at q1
      obtain rfl := Option.some.inj q1
      rw [hk] at q2
      exact Option.some.inj q2
end WAY
