/-! ===== worth, the smallest level, the best contract ===== -/
def gWorth (g : Game) (i : Nat) : Int32 := (g.2.2.1 i 0 + 3 * lenT g i) + 10 * lvl g i
theorem C_worth {b i : Nat} {g : Game} {S : Sg} (h : CP b g S) (hv : VL g) (hi : i < 4) : f_X7_worthOf b (nI i) S = some (gWorth g i, S) := by
  unfold f_X7_worthOf
  rw [at_ok (by omega) (by omega), gbiN, (h.2.2.1 i hi).1, C_lengthsOf h hv hi, gbiN, C_levelsOf h hv hi, gbiN]
  rfl
def gwM (g : Game) : Nat → Nat → Int32 → Int32
  | _, 0, t => t
  | i, m + 1, t => gwM g (i + 1) m (if t < gWorth g i then gWorth g i else t)
theorem C_gw_loop {b : Nat} {g : Game} {S : Sg} (h : CP b g S) (hv : VL g) : ∀ (m i : Nat) (t : Int32) (fu : Nat), i + m = 4 → m < fu → L_X7_greatestWorth_8 b fu S t (nI i) = some (gwM g i m t, S) := by
  intro m
  induction m with
  | zero =>
    intro i t fu hi hf
    obtain ⟨f, rfl, -⟩ := fuS hf
    show Lb_X7_greatestWorth_8 b _ S t (nI i) = _
    unfold Lb_X7_greatestWorth_8
    rw [if_pos (by rw [show (4 : Int32) = nI 4 from rfl, nIle (by omega) (by omega)]; omega)]
    rfl
  | succ m ih =>
    intro i t fu hi hf
    obtain ⟨f, rfl, hf⟩ := fuS hf
    show Lb_X7_greatestWorth_8 b _ S t (nI i) = _
    unfold Lb_X7_greatestWorth_8
    rw [if_neg (by rw [show (4 : Int32) = nI 4 from rfl, nIle (by omega) (by omega)]; omega), C_worth h hv (by omega), gbiN, gviN, gviN, nI_s]
    exact ih (i + 1) _ f (by omega) (by omega)
theorem C_gw {b : Nat} {g : Game} {S : Sg} (h : CP b g S) (hv : VL g) : f_X7_greatestWorth b S = some (gwM g 1 3 (gWorth g 0), S) := by
  unfold f_X7_greatestWorth
  rw [show (0 : Int32) = nI 0 from rfl, C_worth h hv (by omega), gbiN]
  exact C_gw_loop h hv 3 1 _ gFu rfl (by unfold gFu; omega)
/-! the smallest level -/
def smL (g : Game) (i x y : Nat) : Nat → Nat → Int32
  | _, 0 => -9
  | lv, m + 1 => if wIs (wks g i) y x (4 * lv) = true then nI lv else smL g i x y (lv + 1) m
theorem C_small_loop {b i k x y c n : Nat} {g : Game} {a : T6} (hb : 14 ≤ b) (hV : V c n g) (hi : i < 4) (hk : g.2.2.2.2[k]? = some a) (ex : a.1 = nI x) (ey : a.2.1 = nI y) (hx : x < 9) (hy : y < 9) : ∀ (m lv : Nat) (S : Sg) (fu : Nat), lv + m = 7 → m < fu → CP b g S → ∃ S', L_X4_smallestLevel_9 b fu S (nI i) (nI k) (nI lv) = some (smL g i x y lv m, S') ∧ FrW S S' := by
  have h8 := hV.vl.2.2.1
  have hkl := lt_len hk
  intro m
  induction m with
  | zero =>
    intro lv S fu hm hf h
    obtain ⟨f, rfl, -⟩ := fuS hf
    refine ⟨S, ?_, FrW.rf S⟩
    show Lb_X4_smallestLevel_9 b _ S (nI i) (nI k) (nI lv) = _
    unfold Lb_X4_smallestLevel_9
    rw [if_pos (by rw [show (6 : Int32) = nI 6 from rfl, nIlt (by omega) (by omega)]; omega)]
    rfl
  | succ m ih =>
    intro lv S fu hm hf h
    obtain ⟨f, rfl, hf⟩ := fuS hf
    obtain ⟨S1, f1, -, -, -, -, -, a6⟩ := C_find (goal := y) (a := x) (rr := 4 * lv) hb h hV hi hx hy (by omega)
    show ∃ S', Lb_X4_smallestLevel_9 b _ S (nI i) (nI k) (nI lv) = _ ∧ _
    unfold Lb_X4_smallestLevel_9 smL
    rw [if_neg (by rw [show (6 : Int32) = nI 6 from rfl, nIlt (by omega) (by omega)]; omega), at_ok (by omega) (by omega), gbiN, (h.ct hk).1, at_ok (by omega) (by omega), gbiN, (h.ct hk).2.1, ex, ey, nI4, f1, gbiN]
    by_cases e : wIs (wks g i) y x (4 * lv) = true
    · rw [e, if_neg (by decide), if_pos rfl]
      exact ⟨S1, rfl, a6⟩
    · rw [if_neg e, if_pos (by rw [Bool.not_eq_true] at e; rw [e]; decide), gviN, nI_s]
      obtain ⟨S2, d1, d2⟩ := ih (lv + 1) S1 f (by omega) (by omega) (CP_w h hb a6)
      exact ⟨S2, d1, a6.tr d2⟩
/-! the greatest level -/
def grL : List T2 → Int32 → Int32
  | [], m => m
  | t :: l, m => grL l (if m < t.1 then t.1 else m)
theorem C_grL_loop {b i : Nat} {S : Sg} (hi : i < 4) : ∀ (l : List T2) (t : Nat) (m : Int32) (fu : Nat), S (b + 18) i = nI (t + l.length) → t + l.length ≤ 4 → Rp (ctn b S i) t l → l.length < fu → L_X0_greatestLevel_4 b fu S (nI i) m (nI t) = some (grL l m, S) := by
  intro l
  induction l with
  | nil =>
    intro t m fu hc hl hr hf
    obtain ⟨f, rfl, -⟩ := fuS hf
    show Lb_X0_greatestLevel_4 b _ S (nI i) m (nI t) = _
    unfold Lb_X0_greatestLevel_4
    rw [at_ok (by omega) (by omega), gbiN, hc, if_pos (by simp)]
    rfl
  | cons a l ih =>
    intro t m fu hc hl hr hf
    obtain ⟨f, rfl, hf⟩ := fuS hf
    simp only [List.length_cons] at hc hl hf
    have h7 : S (b + 19) (4 * i + t) = a.1 := congrArg (fun z : T2 => z.1) hr.1
    show Lb_X0_greatestLevel_4 b _ S (nI i) m (nI t) = _
    unfold Lb_X0_greatestLevel_4
    rw [at_ok (by omega) (by omega), gbiN, hc, if_neg (by rw [nIle (by omega) (by omega)]; omega), place_ok, gbiN, at_ok (by omega) (by omega), gbiN, h7, gviN, gviN, nI_s]
    exact ih (t + 1) _ f (by rw [hc]; congr 1; omega) (by omega) hr.2 (by omega)
theorem grL_v : ∀ (l : List T2) (m : Nat), m ≤ 6 → (∀ x ∈ l, iR 1 6 x.1) → ∃ lv : Nat, lv ≤ 6 ∧ grL l (nI m) = nI lv := by
  intro l
  induction l with
  | nil => intro m hm _; exact ⟨m, hm, rfl⟩
  | cons t l ih =>
    intro m hm hl
    obtain ⟨q, q1, q6, eq⟩ := hl t List.mem_cons_self
    unfold grL
    rw [eq]
    by_cases e : nI m < nI q
    · rw [if_pos e]; exact ih q q6 (fun x hx => hl x (List.mem_cons_of_mem _ hx))
    · rw [if_neg e]; exact ih m hm (fun x hx => hl x (List.mem_cons_of_mem _ hx))
/-! the best contract -/
def bsC (g : Game) (i lv : Nat) : List T6 → Nat → Int32 → Int32 → Int32
  | [], _, best, _ => best
  | a :: l, k, best, most => if a.2.2.2.2.1 = -9 ∧ wIs (wks g i) a.2.1.toNatClampNeg a.1.toNatClampNeg (4 * lv) = true then
      (if best = -9 ∨ most < a.2.2.1 - nI (wC (wks g i) a.2.1.toNatClampNeg a.1.toNatClampNeg (4 * lv)) then bsC g i lv l (k + 1) (nI k) (a.2.2.1 - nI (wC (wks g i) a.2.1.toNatClampNeg a.1.toNatClampNeg (4 * lv))) else bsC g i lv l (k + 1) best most)
    else bsC g i lv l (k + 1) best most
theorem C_best_loop {b i lv c n : Nat} {g : Game} (hb : 14 ≤ b) (hV : V c n g) (hi : i < 4) (hlv : lv ≤ 6) : ∀ (l : List T6) (k : Nat) (best most : Int32) (S : Sg) (fu : Nat), g.2.2.2.2.drop k = l → k + l.length = g.2.2.2.2.length → l.length < fu → CP b g S → ∃ S', L_X4_bestFree_27 b fu S (nI i) (nI (4 * lv)) best most (nI k) = some (bsC g i lv l k best most, S') ∧ FrW S S' := by
  have hv := hV.vl
  have h8 := hv.2.2.1
  have hc9 := hV.1.2.1
  intro l
  induction l with
  | nil =>
    intro k best most S fu hd hl hf h
    obtain ⟨f, rfl, -⟩ := fuS hf
    refine ⟨S, ?_, FrW.rf S⟩
    show Lb_X4_bestFree_27 b _ S (nI i) (nI (4 * lv)) best most (nI k) = _
    unfold Lb_X4_bestFree_27
    rw [h.2.2.2.2.1, ← hl, if_pos (by simp)]
    rfl
  | cons a l ih =>
    intro k best most S fu hd hl hf h
    obtain ⟨f, rfl, hf⟩ := fuS hf
    simp only [List.length_cons] at hl hf
    obtain ⟨hk, hd2⟩ := drop_get hd
    obtain ⟨⟨x, hx, ex⟩, ⟨y, hy, ey⟩, -⟩ := hV.2.2.2.2.2.2 a (mem_get hk)
    have ex' : a.1.toNatClampNeg = x := by rw [ex, nI_c (by omega)]
    have ey' : a.2.1.toNatClampNeg = y := by rw [ey, nI_c (by omega)]
    show ∃ S', Lb_X4_bestFree_27 b _ S (nI i) (nI (4 * lv)) best most (nI k) = _ ∧ _
    unfold Lb_X4_bestFree_27 bsC
    rw [h.2.2.2.2.1, if_neg (by rw [nIle (by omega) (by omega)]; omega), C_isFree h hv hk, gbiN, ex', ey']
    by_cases e : a.2.2.2.2.1 = -9
    · rw [if_neg (by rw [decide_eq_true e]; decide), at_ok (by omega) (by omega), gbiN, (h.ct hk).1, at_ok (by omega) (by omega), gbiN, (h.ct hk).2.1, ex, ey]
      obtain ⟨S1, f1, f2, -, -, -, -, a6⟩ := C_find (goal := y) (a := x) (rr := 4 * lv) hb h hV hi (by omega) (by omega) (by omega)
      have h1 := CP_w h hb a6
      rw [f1, gbiN]
      by_cases e2 : wIs (wks g i) y x (4 * lv) = true
      · rw [if_neg (by rw [e2]; decide), if_pos ⟨e, e2⟩, at_ok (by omega) (by omega), gbiN, (h1.ct hk).2.2.1, f2, gviN]
        by_cases e3 : best = -9
        · rw [if_pos e3, gviN, nI_s, if_pos (Or.inl e3)]
          obtain ⟨S2, d1, d2⟩ := ih (k + 1) (nI k) (a.2.2.1 - nI (wC (wks g i) y x (4 * lv))) S1 f hd2 (by omega) (by omega) h1
          exact ⟨S2, d1, a6.tr d2⟩
        · rw [if_neg e3]
          by_cases e4 : a.2.2.1 - nI (wC (wks g i) y x (4 * lv)) ≤ most
          · rw [if_pos e4, gviN, nI_s, if_neg (fun q => q.elim e3 (fun z => Int32.not_lt.mpr e4 z))]
            obtain ⟨S2, d1, d2⟩ := ih (k + 1) best most S1 f hd2 (by omega) (by omega) h1
            exact ⟨S2, d1, a6.tr d2⟩
          · rw [if_neg e4, gviN, nI_s, if_pos (Or.inr (Int32.not_le.mp e4))]
            obtain ⟨S2, d1, d2⟩ := ih (k + 1) (nI k) (a.2.2.1 - nI (wC (wks g i) y x (4 * lv))) S1 f hd2 (by omega) (by omega) h1
            exact ⟨S2, d1, a6.tr d2⟩
      · rw [if_pos (by rw [Bool.not_eq_true] at e2; rw [e2]; decide), if_neg (fun q => e2 q.2), gviN, nI_s]
        obtain ⟨S2, d1, d2⟩ := ih (k + 1) best most S1 f hd2 (by omega) (by omega) h1
        exact ⟨S2, d1, a6.tr d2⟩
    · rw [if_pos (by rw [decide_eq_false e]; decide), if_neg (fun q => e q.1), gviN, nI_s]
      exact ih (k + 1) best most S f hd2 (by omega) (by omega) h
theorem wIs_0 {ks : List TK} {goal a : Nat} : wIs ks goal a 0 = false := by
  unfold wIs wC
  show decide (UN < UN) = false
  simp
theorem bsC_0 {g : Game} {i : Nat} : ∀ (l : List T6) (k : Nat) (best most : Int32), bsC g i 0 l k best most = best := by
  intro l
  induction l with
  | nil => intro k best most; rfl
  | cons a l ih =>
    intro k best most
    unfold bsC
    rw [if_neg (by rw [Nat.mul_zero, wIs_0]; simp)]
    exact ih _ _ _
