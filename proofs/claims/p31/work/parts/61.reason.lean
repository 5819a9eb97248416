/-! ===== what is against a run; all runs of a round ===== -/
def rsn (g : Game) (i : Nat) (a : T6) (t : T2) (x y lv : Nat) : Int32 := if a.2.2.2.2.2 = 1 then 2 else if t.2 = 1 then 3 else if wIs (wks g i) y x (4 * lv) = true then 0 else 4
theorem C_reason0 {b k : Nat} {j : Int32} {g : Game} {S : Sg} {a : T6} (h : CP b g S) (hv : VL g) (hk : g.2.2.2.2[k]? = some a) (ha : a.2.2.2.2.1 = -9) : f_X4_reasonAgainst b (nI k) j S = some (1, S) := by
  unfold f_X4_reasonAgainst
  rw [C_holder h hv hk, gbiN, if_pos ha]
theorem C_reason {b i k j x y lv c n : Nat} {g : Game} {S : Sg} {a : T6} {t : T2} (hb : 14 ≤ b) (h : CP b g S) (hV : V c n g) (hr : Runs g i k j a t x y lv) : ∃ S', f_X4_reasonAgainst b (nI k) (nI j) S = some (rsn g i a t x y lv, S') ∧ FrW S S' := by
  obtain ⟨hi, hk, hj, ha, ex, ey, el, hx, hy, hlv⟩ := hr
  have hv := hV.vl
  have hkl := lt_len hk
  have h8 := hv.2.2.1
  have hct := h.ct hk
  unfold f_X4_reasonAgainst rsn
  rw [C_holder h hv hk, gbiN, ha, if_neg (nI_m9 (by omega)), at_ok (by omega) (by omega), gbiN, hct.2.2.2.2.2]
  by_cases e1 : a.2.2.2.2.2 = 1
  · rw [if_pos e1, if_pos e1]; exact ⟨S, rfl, FrW.rf S⟩
  · rw [if_neg e1, if_neg e1, C_hasRun h hv hi hj, gbiN]
    by_cases e2 : t.2 = 1
    · rw [if_neg (by simp [e2, bI]), if_pos e2]; exact ⟨S, rfl, FrW.rf S⟩
    · rw [if_pos (by simp [e2, bI]), if_neg e2, C_levelOf h hv hi hj, gbiN, gviN, at_ok (by omega) (by omega), gbiN, hct.1, at_ok (by omega) (by omega), gbiN, hct.2.1, ex, ey, el, nI4]
      obtain ⟨S1, f1, -, -, -, -, -, a6⟩ := C_find (goal := y) (a := x) (rr := 4 * lv) hb h hV hi hx hy (by omega)
      rw [f1, gbiN]
      cases e3 : wIs (wks g i) y x (4 * lv)
      · exact ⟨S1, rfl, a6⟩
      · exact ⟨S1, rfl, a6⟩
def gTry (g : Game) (i k j : Nat) (a : T6) (t : T2) (x y lv : Nat) : Game := if rsn g i a t x y lv = 0 then gCar g i k j a t (wP (wks g i) y x (4 * lv)) else g
theorem rsn_0 {g : Game} {i : Nat} {a : T6} {t : T2} {x y lv : Nat} (h : rsn g i a t x y lv = 0) : wIs (wks g i) y x (4 * lv) = true := by
  unfold rsn at h
  split at h
  · exact absurd h (by decide)
  · split at h
    · exact absurd h (by decide)
    · split at h
      · assumption
      · exact absurd h (by decide)
theorem C_try {b i k j x y lv c n : Nat} {g : Game} {S : Sg} {a : T6} {t : T2} (hb : 14 ≤ b) (h : CP b g S) (hV : V c n g) (hr : Runs g i k j a t x y lv) : ∃ S', f_X4_tryCarry b (nI k) (nI j) S = some (bI (decide (rsn g i a t x y lv = 0)), S') ∧ CP b (gTry g i k j a t x y lv) S' ∧ Fb b S S' := by
  have hr' := hr
  obtain ⟨hi, hk, hj, ha, ex, ey, el, hx, hy, hlv⟩ := hr'
  have hv := hV.vl
  have hjl := lt_len hj
  have h4 := hv.2.1 i hi
  obtain ⟨S1, r1, r2⟩ := C_reason hb h hV hr
  have c1 := CP_w h hb r2
  unfold f_X4_tryCarry B_X4_tryCarry_34 gTry
  rw [C_holder h hv hk, gbiN, ha, C_hasN h hv hi, gbiN, below_nI (by omega) (by omega), if_neg (by rw [decide_eq_true hjl]; decide), r1, gbiN]
  by_cases e : rsn g i a t x y lv = 0
  · obtain ⟨S2, q1, q2, q3⟩ := C_carry hb c1 hV hr
    rw [if_pos e, if_neg (by decide), q1, gbiN, gck_ok (by decide), if_pos e, decide_eq_true e]
    exact ⟨S2, rfl, q2, (Fb.w r2).tr q3⟩
  · rw [if_neg e, if_pos rfl, gck_ok (by decide), if_neg e, decide_eq_false e]
    exact ⟨S1, rfl, c1, Fb.w r2⟩
theorem C_try_no {b i k j : Nat} {g : Game} {S : Sg} {a : T6} (h : CP b g S) (hv : VL g) (hi : i < 4) (hk : g.2.2.2.2[k]? = some a) (ha : a.2.2.2.2.1 = nI i) (hj : (g.2.2.2.1 i).length ≤ j) (hj2 : j < 2147483648) : f_X4_tryCarry b (nI k) (nI j) S = some (0, S) := by
  have h4 := hv.2.1 i hi
  unfold f_X4_tryCarry B_X4_tryCarry_34
  rw [C_holder h hv hk, gbiN, ha, C_hasN h hv hi, gbiN, below_nI (by omega) hj2, if_pos (by rw [decide_eq_false (by omega)]; decide), if_pos rfl, gck_ok (by decide)]
theorem m9_neg : (-9 : Int32) < 0 := by decide
theorem C_try_free {b k j : Nat} {g : Game} {S : Sg} {a : T6} (h : CP b g S) (hv : VL g) (hk : g.2.2.2.2[k]? = some a) (ha : a.2.2.2.2.1 = -9) (hj2 : j < 2147483648) : f_X4_tryCarry b (nI k) (nI j) S = some (0, S) := by
  unfold f_X4_tryCarry B_X4_tryCarry_34 f_X0_hasTrain
  rw [C_holder h hv hk, gbiN, ha, if_neg (nI_ng hj2), at_neg m9_neg, gbiN, if_pos (nI_pos' hj2), gbiN, if_pos rfl, if_pos rfl, gck_ok (by decide)]
/-- the runs of one contract: the first train that can -/
def rnJ (g : Game) (i k : Nat) (a : T6) : List T2 → Nat → Game
  | [], _ => g
  | t :: l, j => if rsn g i a t a.1.toNatClampNeg a.2.1.toNatClampNeg t.1.toNatClampNeg = 0 then gCar g i k j a t (wP (wks g i) a.2.1.toNatClampNeg a.1.toNatClampNeg (4 * t.1.toNatClampNeg)) else rnJ g i k a l (j + 1)
def rnK (g : Game) (k : Nat) : Game := match g.2.2.2.2[k]? with
  | none => g
  | some a => if a.2.2.2.2.1 = -9 then g else rnJ g a.2.2.2.2.1.toNatClampNeg k a (g.2.2.2.1 a.2.2.2.2.1.toNatClampNeg) 0
def rnA (g : Game) : Nat → Nat → Game
  | _, 0 => g
  | k, m + 1 => rnA (rnK g k) (k + 1) m
theorem Runs.cl {g : Game} {i k j x y lv : Nat} {a : T6} {t : T2} (h : Runs g i k j a t x y lv) : a.1.toNatClampNeg = x ∧ a.2.1.toNatClampNeg = y ∧ t.1.toNatClampNeg = lv := by
  obtain ⟨-, -, -, -, ex, ey, el, hx, hy, hlv⟩ := h
  rw [ex, ey, el]
  exact ⟨nI_c (by omega), nI_c (by omega), nI_c (by omega)⟩
theorem drop_get {α : Type} {l l2 : List α} {t : α} {j : Nat} (h : l.drop j = t :: l2) : l[j]? = some t ∧ l.drop (j + 1) = l2 := by
  constructor
  · have h1 := List.getElem?_drop (xs := l) (i := j) (j := 0)
    rw [h, Nat.add_zero] at h1
    exact h1.symm
  · have h2 : (l.drop j).drop 1 = l.drop (j + 1) := by rw [List.drop_drop]
    rw [h] at h2
    exact h2.symm
theorem gCar_len {g : Game} {i k j : Nat} {a : T6} {t : T2} {ps : List Nat} : (gCar g i k j a t ps).2.2.2.2.length = g.2.2.2.2.length := by
  simp only [gCar, gRanT, gTn, gRanC, gCt, List.length_set]
  show ((gPath g i ps g).2.2.2.2).length = _
  rw [(gPath_l ps g).2]
theorem rnJ_v {c n i k : Nat} {a : T6} {g : Game} (hV : V c n g) (hi : i < 4) (hk : g.2.2.2.2[k]? = some a) (ha : a.2.2.2.2.1 = nI i) : ∀ (l : List T2) (j : Nat), (g.2.2.2.1 i).drop j = l → V c n (rnJ g i k a l j) ∧ (rnJ g i k a l j).2.2.2.2.length = g.2.2.2.2.length := by
  intro l
  induction l with
  | nil => intro j _; exact ⟨hV, rfl⟩
  | cons t l ih =>
    intro j hd
    obtain ⟨h1, h2⟩ := drop_get hd
    unfold rnJ
    split
    · exact ⟨V_car hV hi hk h1, gCar_len⟩
    · exact ih (j + 1) h2
theorem rnK_v {c n k : Nat} {g : Game} (hV : V c n g) : V c n (rnK g k) ∧ (rnK g k).2.2.2.2.length = g.2.2.2.2.length := by
  unfold rnK
  split
  · exact ⟨hV, rfl⟩
  · rename_i a ha
    split
    · exact ⟨hV, rfl⟩
    · rename_i hne
      obtain ⟨i, hi, ei⟩ : ∃ i : Nat, i < 4 ∧ a.2.2.2.2.1 = nI i := (hV.vl.2.2.2.2 a (mem_get ha)).resolve_left hne
      rw [ei, nI_c (by omega)]
      exact rnJ_v hV hi ha ei _ 0 rfl
theorem rnA_v {c n : Nat} : ∀ (m k : Nat) (g : Game), V c n g → V c n (rnA g k m) := by
  intro m
  induction m with
  | zero => intro k g h; exact h
  | succ m ih => intro k g h; exact ih (k + 1) _ (rnK_v h).1
theorem C_runs_free {b k : Nat} {g : Game} {S : Sg} {a : T6} {K2 : Sg → Int32 → Option Sg} (h : CP b g S) (hv : VL g) (hk : g.2.2.2.2[k]? = some a) (ha : a.2.2.2.2.1 = -9) : ∀ (m j fu : Nat), j + m = 4 → m < fu → L_X4_carryAll_15 b K2 fu S (nI k) (nI j) = K2 S (nI (k + 1)) := by
  intro m
  induction m with
  | zero =>
    intro j fu hj hf
    obtain ⟨f, rfl, -⟩ := fuS hf
    show Lb_X4_carryAll_15 b K2 _ S (nI k) (nI j) = _
    unfold Lb_X4_carryAll_15
    rw [if_pos (by rw [show (4 : Int32) = nI 4 from rfl, nIle (by omega) (by omega)]; omega), gviN, nI_s]
  | succ m ih =>
    intro j fu hj hf
    obtain ⟨f, rfl, hf⟩ := fuS hf
    show Lb_X4_carryAll_15 b K2 _ S (nI k) (nI j) = _
    unfold Lb_X4_carryAll_15
    rw [if_neg (by rw [show (4 : Int32) = nI 4 from rfl, nIle (by omega) (by omega)]; omega), C_try_free h hv hk ha (by omega), gbiN, if_pos rfl, gviN, nI_s]
    exact ih (j + 1) f (by omega) (by omega)
theorem C_runs_in {b i k c n : Nat} {g : Game} {a : T6} {K2 : Sg → Int32 → Option Sg} (hb : 14 ≤ b) (hV : V c n g) (hi : i < 4) (hk : g.2.2.2.2[k]? = some a) (ha : a.2.2.2.2.1 = nI i) : ∀ (m j fu : Nat) (S : Sg), j + m = 4 → m < fu → CP b g S → ∃ S', L_X4_carryAll_15 b K2 fu S (nI k) (nI j) = K2 S' (nI (k + 1)) ∧ CP b (rnJ g i k a ((g.2.2.2.1 i).drop j) j) S' ∧ Fb b S S' := by
  have hv := hV.vl
  have h4 := hv.2.1 i hi
  intro m
  induction m with
  | zero =>
    intro j fu S hj hf h
    obtain ⟨f, rfl, -⟩ := fuS hf
    refine ⟨S, ?_, ?_, Fb.rf S⟩
    · show Lb_X4_carryAll_15 b K2 _ S (nI k) (nI j) = _
      unfold Lb_X4_carryAll_15
      rw [if_pos (by rw [show (4 : Int32) = nI 4 from rfl, nIle (by omega) (by omega)]; omega), gviN, nI_s]
    · rw [List.drop_eq_nil_of_le (by omega)]
      exact h
  | succ m ih =>
    intro j fu S hj hf h
    obtain ⟨f, rfl, hf⟩ := fuS hf
    show ∃ S', Lb_X4_carryAll_15 b K2 _ S (nI k) (nI j) = _ ∧ _
    unfold Lb_X4_carryAll_15
    rw [if_neg (by rw [show (4 : Int32) = nI 4 from rfl, nIle (by omega) (by omega)]; omega)]
    cases hd : (g.2.2.2.1 i).drop j with
    | nil =>
      have hle : (g.2.2.2.1 i).length ≤ j := List.drop_eq_nil_iff.mp hd
      rw [C_try_no h hv hi hk ha hle (by omega), gbiN, if_pos rfl, gviN, nI_s]
      have := ih (j + 1) f S (by omega) (by omega) h
      rw [List.drop_eq_nil_of_le (by omega)] at this
      exact this
    | cons t l =>
      obtain ⟨d1, d2⟩ := drop_get hd
      obtain ⟨x, y, lv, hr, -, -⟩ := Runs.of hV hi hk d1 ha
      obtain ⟨q1, q2, q3⟩ := hr.cl
      obtain ⟨S1, t1, t2, t3⟩ := C_try hb h hV hr
      rw [t1, gbiN]
      unfold rnJ
      rw [q1, q2, q3]
      unfold gTry at t2
      by_cases e : rsn g i a t x y lv = 0
      · rw [if_neg (by rw [decide_eq_true e]; decide), gviN, nI_s, if_pos e]
        rw [if_pos e] at t2
        exact ⟨S1, rfl, t2, t3⟩
      · rw [if_pos (by rw [decide_eq_false e]; decide), gviN, nI_s, if_neg e]
        rw [if_neg e] at t2
        obtain ⟨S2, d3, d4, d5⟩ := ih (j + 1) f S1 (by omega) (by omega) t2
        rw [d2] at d4
        exact ⟨S2, d3, d4, t3.tr d5⟩
theorem C_runs_out {b c n : Nat} (hb : 14 ≤ b) : ∀ (m k : Nat) (g : Game) (S : Sg) (fu : Nat), k + m = g.2.2.2.2.length → m < fu → CP b g S → V c n g → ∃ S', L_X4_carryAll_2 b fu S (nI k) = some S' ∧ CP b (rnA g k m) S' ∧ Fb b S S' := by
  intro m
  induction m with
  | zero =>
    intro k g S fu hm hf h hV
    obtain ⟨f, rfl, -⟩ := fuS hf
    refine ⟨S, ?_, h, Fb.rf S⟩
    show Lb_X4_carryAll_2 b _ S (nI k) = _
    unfold Lb_X4_carryAll_2
    rw [h.2.2.2.2.1, ← hm, if_pos (by simp)]
  | succ m ih =>
    intro k g S fu hm hf h hV
    obtain ⟨f, rfl, hf⟩ := fuS hf
    have hv := hV.vl
    have h8 := hv.2.2.1
    obtain ⟨a, hk⟩ := some_of_lt (l := g.2.2.2.2) (k := k) (by omega)
    have hkv := rnK_v (k := k) hV
    have key : ∃ S1, L_X4_carryAll_15 b (L_X4_carryAll_2 b f) gFu S (nI k) (nI 0) = L_X4_carryAll_2 b f S1 (nI (k + 1)) ∧ CP b (rnK g k) S1 ∧ Fb b S S1 := by
      unfold rnK
      rw [hk]
      simp only
      by_cases e : a.2.2.2.2.1 = -9
      · rw [if_pos e]
        exact ⟨S, C_runs_free h hv hk e 4 0 gFu rfl (by unfold gFu; omega), h, Fb.rf S⟩
      · rw [if_neg e]
        obtain ⟨i, hi, ei⟩ : ∃ i : Nat, i < 4 ∧ a.2.2.2.2.1 = nI i := (hv.2.2.2.2 a (mem_get hk)).resolve_left e
        rw [ei, nI_c (by omega)]
        exact C_runs_in hb hV hi hk ei 4 0 gFu S rfl (by unfold gFu; omega) h
    obtain ⟨S1, e1, c1, f1⟩ := key
    obtain ⟨S2, e2, c2, f2⟩ := ih (k + 1) (rnK g k) S1 f (by rw [hkv.2]; omega) (by omega) c1 hkv.1
    refine ⟨S2, ?_, c2, f1.tr f2⟩
    show Lb_X4_carryAll_2 b _ S (nI k) = _
    unfold Lb_X4_carryAll_2
    rw [h.2.2.2.2.1, if_neg (by rw [nIle (by omega) (by omega)]; omega)]
    rw [nI_0] at e1
    rw [e1, e2]
def gRuns (g : Game) : Game := rnA g 0 g.2.2.2.2.length
theorem C_runs {b c n : Nat} {g : Game} {S : Sg} (hb : 14 ≤ b) (h : CP b g S) (hV : V c n g) : ∃ S', f_X4_carryAll b S = some S' ∧ CP b (gRuns g) S' ∧ Fb b S S' := by
  have h8 := hV.vl.2.2.1
  obtain ⟨S', e1, e2, e3⟩ := C_runs_out hb g.2.2.2.2.length 0 g S gFu (Nat.zero_add _) (by unfold gFu; omega) h hV
  exact ⟨S', by unfold f_X4_carryAll; rw [← nI_0]; exact e1, e2, e3⟩
theorem V_runs {c n : Nat} {g : Game} (h : V c n g) : V c n (gRuns g) := rnA_v _ 0 g h

