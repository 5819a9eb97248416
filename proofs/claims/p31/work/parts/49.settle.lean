def gUp (g : Game) (i : Nat) : Game := gBank g i (cntT g i + lvl g i)
def ups (g : Game) : Nat → Nat → Game
  | _, 0 => g
  | i, m + 1 => ups (gUp g i) (i + 1) m
theorem C_up_loop {b : Nat} : ∀ (m i : Nat) (g : Game) (S : Sg) (fu : Nat), i + m = 4 → m < fu → CP b g S → VL g → ∃ S', L_X7_payUpkeep_2 b fu S (nI i) = some S' ∧ CP b (ups g i m) S' ∧ Fr b S S' := by
  intro m
  induction m with
  | zero =>
    intro i g S fu h hf hc hv
    obtain ⟨f, rfl, -⟩ := fuS hf
    refine ⟨S, ?_, hc, Fr.rf⟩
    show Lb_X7_payUpkeep_2 b _ S (nI i) = _
    unfold Lb_X7_payUpkeep_2
    rw [if_pos (by rw [show (4 : Int32) = nI 4 from rfl, nIle (by omega) (by omega)]; omega)]
  | succ m ih =>
    intro i g S fu h hf hc hv
    obtain ⟨f, rfl, hf⟩ := fuS hf
    obtain ⟨S1, e1, h1, f1⟩ := C_toBank (x := cntT g i + lvl g i) hc (show i < 4 by omega)
    obtain ⟨S2, e2, h2, f2⟩ := ih (i + 1) (gUp g i) S1 f (by omega) (by omega) h1 hv
    refine ⟨S2, ?_, h2, f1.tr f2⟩
    show Lb_X7_payUpkeep_2 b _ S (nI i) = _
    unfold Lb_X7_payUpkeep_2
    rw [if_neg (by rw [show (4 : Int32) = nI 4 from rfl, nIle (by omega) (by omega)]; omega)]
    rw [C_countOf hc hv (by omega), gbiN, C_levelsOf hc hv (by omega), gbiN, e1, gbvN, gviN, nI_s]
    exact e2
theorem ups_v : ∀ (m i : Nat) (g : Game), (ups g i m).2.1 = g.2.1 ∧ (ups g i m).2.2.2 = g.2.2.2 := by
  intro m
  induction m with
  | zero => intro i g; exact ⟨rfl, rfl⟩
  | succ m ih => intro i g; exact ih (i + 1) (gUp g i)
theorem VL_of {g g' : Game} (h : VL g) (e1 : g'.2.1 = g.2.1) (e2 : g'.2.2.2 = g.2.2.2) : VL g' := by
  unfold VL
  rw [e1, e2]
  exact h
def retT (i : Nat) (a : T4) : T4 := setO a (if a.2.2.2 = nI i then -9 else a.2.2.2)
def levC (i : Nat) (a : T6) : T6 := setH a (if a.2.2.2.2.1 = nI i then -9 else a.2.2.2.2.1)
theorem C_ret_loop {b i : Nat} (hi : i < 4) : ∀ (l dn : List T4) (g : Game) (S : Sg) (fu : Nat), CP b (gTr g (dn ++ l)) S → (dn ++ l).length ≤ 16 → (∀ x ∈ l, oR x.2.2.2) → l.length < fu →
    ∃ S', L_X8_returnToBank_2 b fu S (nI i) (nI dn.length) = some S' ∧ CP b (gTr g (dn ++ l.map (retT i))) S' ∧ Fr b S S' := by
  intro l
  induction l with
  | nil =>
    intro dn g S fu h hl ho hf
    obtain ⟨f, rfl, -⟩ := fuS hf
    refine ⟨S, ?_, h, Fr.rf⟩
    show Lb_X8_returnToBank_2 b _ S (nI i) (nI dn.length) = _
    unfold Lb_X8_returnToBank_2
    rw [h.2.1.1]
    simp only [gTr, List.append_nil]
    rw [if_pos (Int32.le_refl _)]
  | cons x l ih =>
    intro dn g S fu h hl ho hf
    obtain ⟨f, rfl, hf⟩ := fuS hf
    have hlen : dn.length + (l.length + 1) ≤ 16 := by
      simp only [List.length_append, List.length_cons] at hl
      exact hl
    have hget : (gTr g (dn ++ x :: l)).2.1[dn.length]? = some x := get_mid
    have hox := ho x List.mem_cons_self
    have hcnt : S (b + 1) 4 = nI (dn.length + (l.length + 1)) := by
      rw [h.2.1.1]
      simp only [gTr, List.length_append, List.length_cons]
    have step : ∀ S1, CP b (gTr g (dn ++ retT i x :: l)) S1 → Fr b S S1 → ∃ S', L_X8_returnToBank_2 b f S1 (nI i) (nI (dn.length + 1)) = some S' ∧ CP b (gTr g (dn ++ (x :: l).map (retT i))) S' ∧ Fr b S S' := by
      intro S1 h1 f1
      obtain ⟨S', e1, e2, e3⟩ := ih (dn ++ [retT i x]) g S1 f (by rw [List.append_assoc]; exact h1) (by simp only [List.length_append, List.length_singleton]; omega) (fun y hy => ho y (List.mem_cons_of_mem _ hy)) (by simp only [List.length_cons] at hf; omega)
      rw [List.length_append, List.length_singleton] at e1
      rw [List.append_assoc] at e2
      exact ⟨S', e1, e2, f1.tr e3⟩
    show ∃ S', Lb_X8_returnToBank_2 b _ S (nI i) (nI dn.length) = _ ∧ _
    unfold Lb_X8_returnToBank_2
    rw [hcnt, if_neg (by rw [nIle (by omega) (by omega)]; omega)]
    have h7 := (h.tr hget).2.2.2
    rw [at_ok (by omega) (by omega), gbiN, h7]
    have e1 : (eo x).2.2.2 = nI i ↔ x.2.2.2 = nI i := eo_iff hi hox
    by_cases e : x.2.2.2 = nI i
    · rw [if_pos (e1.mpr e), put_ok (by omega) (by omega), gbvN, gviN, nI_s]
      refine step _ ?_ (Fr.rf.ux (by omega))
      have t5 := C_setO (o := -9) h hget
      rw [if_pos rfl] at t5
      simp only [gTr, set_mid] at t5
      unfold retT
      rw [if_pos e]
      exact t5
    · rw [if_neg (fun q => e (e1.mp q)), gviN, nI_s]
      refine step _ ?_ Fr.rf
      unfold retT
      rw [if_neg e]
      exact h
theorem C_lev_loop {b i : Nat} : ∀ (l dn : List T6) (g : Game) (S : Sg) (fu : Nat), CP b (gCt g (dn ++ l)) S → (dn ++ l).length ≤ 8 → l.length < fu →
    ∃ S', L_X1_leaveHolder_2 b fu S (nI i) (nI dn.length) = some S' ∧ CP b (gCt g (dn ++ l.map (levC i))) S' ∧ Fr b S S' := by
  intro l
  induction l with
  | nil =>
    intro dn g S fu h hl hf
    obtain ⟨f, rfl, -⟩ := fuS hf
    refine ⟨S, ?_, h, Fr.rf⟩
    show Lb_X1_leaveHolder_2 b _ S (nI i) (nI dn.length) = _
    unfold Lb_X1_leaveHolder_2
    rw [h.2.2.2.2.1]
    simp only [gCt, List.append_nil]
    rw [if_pos (Int32.le_refl _)]
  | cons x l ih =>
    intro dn g S fu h hl hf
    obtain ⟨f, rfl, hf⟩ := fuS hf
    have hlen : dn.length + (l.length + 1) ≤ 8 := by
      simp only [List.length_append, List.length_cons] at hl
      exact hl
    have hget : (gCt g (dn ++ x :: l)).2.2.2.2[dn.length]? = some x := get_mid
    have hcnt : S (b + 2) 6 = nI (dn.length + (l.length + 1)) := by
      rw [h.2.2.2.2.1]
      simp only [gCt, List.length_append, List.length_cons]
    have step : ∀ S1, CP b (gCt g (dn ++ levC i x :: l)) S1 → Fr b S S1 → ∃ S', L_X1_leaveHolder_2 b f S1 (nI i) (nI (dn.length + 1)) = some S' ∧ CP b (gCt g (dn ++ (x :: l).map (levC i))) S' ∧ Fr b S S' := by
      intro S1 h1 f1
      obtain ⟨S', e1, e2, e3⟩ := ih (dn ++ [levC i x]) g S1 f (by rw [List.append_assoc]; exact h1) (by simp only [List.length_append, List.length_singleton]; omega) (by simp only [List.length_cons] at hf; omega)
      rw [List.length_append, List.length_singleton] at e1
      rw [List.append_assoc] at e2
      exact ⟨S', e1, e2, f1.tr e3⟩
    show ∃ S', Lb_X1_leaveHolder_2 b _ S (nI i) (nI dn.length) = _ ∧ _
    unfold Lb_X1_leaveHolder_2
    rw [hcnt, if_neg (by rw [nIle (by omega) (by omega)]; omega)]
    have h7 := (h.ct hget).2.2.2.2.1
    rw [at_ok (by omega) (by omega), gbiN, h7]
    by_cases e : x.2.2.2.2.1 = nI i
    · rw [if_pos e, put_ok (by omega) (by omega), gbvN, gviN, nI_s]
      refine step _ ?_ (Fr.rf.ux (by omega))
      have t5 := C_setH (o := -9) h hget
      simp only [gCt, set_mid] at t5
      unfold levC
      rw [if_pos e]
      exact t5
    · rw [if_neg e, gviN, nI_s]
      refine step _ ?_ Fr.rf
      unfold levC
      rw [if_neg e]
      exact h
/-- the coins, trains and count of one that goes bankrupt -/
def gBr1 (g : Game) (i : Nat) : Game := gSc (gCo (gTn (gBank g i (g.2.2.1 i 0)) i []) i 4 (g.2.2.1 i 4 + 1)) 9 (g.1 9 + 1)
def gBr2 (g : Game) (i : Nat) : Game := gCt (gTr (gBr1 g i) (g.2.1.map (retT i))) (g.2.2.2.2.map (levC i))
theorem add_lc (a b c : Int32) : a + (b + c) = b + (a + c) := by rw [← Int32.add_assoc, Int32.add_comm a b, Int32.add_assoc]
theorem neg_neg1 (a x : Int32) : a - -x = a + x := by rw [Int32.sub_eq_add_neg, Int32.neg_neg]
theorem C_br1 {b i : Nat} {g : Game} {S : Sg} (h : CP b g S) (hi : i < 4) : ∃ S', f_X0_goBankrupt b (nI i) S = some S' ∧ CP b (gBr1 g i) S' ∧ Fr b S S' := by
  have hco := h.2.2.1 i hi
  refine ⟨u2 (u2 (u2 (u2 S (b + 14) 4 (S (b + 14) 4 + g.2.2.1 i 0)) (b + 14) i (g.2.2.1 i 0 - g.2.2.1 i 0)) (b + 18) i 0) (b + 17) i (g.2.2.1 i 4 + 1), ?_, ?_, ((((Fr.rf).ux (by omega)).ux (by omega)).ux (by omega)).ux (by omega)⟩
  · unfold f_X0_goBankrupt
    rw [at_ok (by omega) (by omega), gbiN, show (4 : Int32) = nI 4 from rfl, transfer_ok (by omega) (by omega) (by omega), gbvN]
    simp (disch := omega) only [gbi_ok, gbl_ok, gbn_ok, gbv_ok, gst_ok, gvi_ok, gvl_ok, at_ok, put_ok, at_4, put_4, at_0, place_ok, u2_eq, u2_ni, u2_nr, hco.1, hco.2.2.2, neg_neg1]
    rw [Int32.sub_eq_add_neg]
  · obtain ⟨hSc, hTr, hCo, hTn, hCt⟩ := h
    refine ⟨?_, ?_, ?_, ?_, ?_⟩
    · obtain ⟨h1, h2, h3, h5, h6, h7, h8, h9, h10, h11⟩ := hSc
      have h4 := (hCo i hi).2.2.2
      have e9 : g.1 9 + 1 = (if i = 0 then g.2.2.1 i 4 + 1 else S (b + 17) 0) + (if i = 1 then g.2.2.1 i 4 + 1 else S (b + 17) 1) + (if i = 2 then g.2.2.1 i 4 + 1 else S (b + 17) 2) + (if i = 3 then g.2.2.1 i 4 + 1 else S (b + 17) 3) := by
        rw [← h9, ← h4]
        have hi4 : i = 0 ∨ i = 1 ∨ i = 2 ∨ i = 3 := by omega
        rcases hi4 with rfl | rfl | rfl | rfl <;> simp <;> simp only [Int32.add_assoc, add_lc, Int32.add_comm]
      unfold CSc
      refine ⟨?_, ?_, ?_, ?_, ?_, ?_, ?_, ?_, ?_, ?_⟩
      · simp (disch := omega) only [u2_eq, u2_ni, u2_nr]; simp [gBr1, gSc, gCo, gTn, gBank, h1]
      · simp (disch := omega) only [u2_eq, u2_ni, u2_nr]; simp [gBr1, gSc, gCo, gTn, gBank, h2]
      · simp (disch := omega) only [u2_eq, u2_ni, u2_nr]; simp [gBr1, gSc, gCo, gTn, gBank, h3]
      · simp (disch := omega) only [u2_eq, u2_ni, u2_nr]; simp [gBr1, gSc, gCo, gTn, gBank, h5]
      · simp (disch := omega) only [u2_eq, u2_ni, u2_nr]; simp [gBr1, gSc, gCo, gTn, gBank, h6]
      · simp (disch := omega) only [u2_eq, u2_ni, u2_nr]; simp [gBr1, gSc, gCo, gTn, gBank, h7]
      · simp (disch := omega) only [u2_eq, u2_ni, u2_nr]; simp [gBr1, gSc, gCo, gTn, gBank, h8]
      · have e10 : (gBr1 g i).1 9 = g.1 9 + 1 := by simp [gBr1, gSc]
        rw [e10, e9]
        simp only [u2_ap, true_and, eq_comm (b := i)]
        simp
      · simp (disch := omega) only [u2_eq, u2_ni, u2_nr]; simp [gBr1, gSc, gCo, gTn, gBank, h10]
      · simp (disch := omega) only [u2_eq, u2_ni, u2_nr]; exact h11
    · apply CTr_fr hTr <;> simp (disch := omega) only [u2_n]
    · intro j hj
      have h1 := hCo j hj
      by_cases e : j = i
      · subst e
        simp (disch := omega) only [u2_eq, u2_ni, u2_nr]
        simp [gBr1, gBank, gSc, gCo, gTn, h1]
      · simp (disch := omega) only [u2_eq, u2_ni, u2_nr]
        simp [gBr1, gBank, gSc, gCo, gTn, h1, e]
    · intro j hj
      have h1 := hTn j hj
      by_cases e : j = i
      · subst e
        simp only [gBr1, gSc, gCo, gTn, if_true, List.length_nil]
        exact ⟨by simp (disch := omega) only [u2_eq, u2_ni, u2_nr]; rfl, trivial⟩
      · simp only [gBr1, gSc, gCo, gTn, if_neg e]
        exact ⟨by simp (disch := omega) only [u2_eq, u2_ni, u2_nr]; exact h1.1, Rp_congr (fun x _ _ => by simp (disch := omega) only [ctn, u2_eq, u2_ni, u2_nr]) h1.2⟩
    · apply CCt_fr hCt <;> simp (disch := omega) only [u2_n]
def gSt (g : Game) : Nat → Nat → Game
  | _, 0 => g
  | i, m + 1 => gSt (if 0 ≤ g.2.2.1 i 0 then g else gBr2 g i) (i + 1) m
def cSt (g : Game) : Nat → Nat → Int32 → Int32
  | _, 0, t => t
  | i, m + 1, t => cSt g (i + 1) m (if 0 ≤ g.2.2.1 i 0 then t else t + 1)
def bSt (g : Game) : Nat → Nat → Int32 → Int32
  | _, 0, t => t
  | i, m + 1, t => bSt g (i + 1) m (if 0 ≤ g.2.2.1 i 0 then t else t ||| ((1 : Int32) <<< (nI i &&& 31)))
theorem gBr2_co {g : Game} {i j : Nat} (h : j ≠ i) : (gBr2 g i).2.2.1 j 0 = g.2.2.1 j 0 := by
  simp [gBr2, gCt, gTr, gBr1, gSc, gCo, gTn, gBank, h]
theorem cSt_congr {g g' : Game} : ∀ (m i : Nat) (t : Int32), (∀ j, i ≤ j → g'.2.2.1 j 0 = g.2.2.1 j 0) → cSt g' i m t = cSt g i m t := by
  intro m
  induction m with
  | zero => intro i t _; rfl
  | succ m ih =>
    intro i t h
    unfold cSt
    rw [h i (Nat.le_refl _)]
    exact ih (i + 1) _ (fun j hj => h j (by omega))
theorem bSt_congr {g g' : Game} : ∀ (m i : Nat) (t : Int32), (∀ j, i ≤ j → g'.2.2.1 j 0 = g.2.2.1 j 0) → bSt g' i m t = bSt g i m t := by
  intro m
  induction m with
  | zero => intro i t _; rfl
  | succ m ih =>
    intro i t h
    unfold bSt
    rw [h i (Nat.le_refl _)]
    exact ih (i + 1) _ (fun j hj => h j (by omega))
theorem VL_br2 {g : Game} {i : Nat} (h : VL g) : VL (gBr2 g i) := by
  obtain ⟨h1, h2, h3, h4, h5⟩ := h
  refine ⟨by simpa [gBr2, gCt, gTr] using h1, fun a ha => ?_, by simpa [gBr2, gCt] using h3, fun x hx => ?_, fun x hx => ?_⟩
  · simp only [gBr2, gCt, gTr, gBr1, gSc, gCo, gTn]
    split
    · exact Nat.zero_le _
    · exact h2 a ha
  · simp only [gBr2, gCt, gTr, List.mem_map] at hx
    obtain ⟨y, hy, rfl⟩ := hx
    unfold retT setO
    show oR (if y.2.2.2 = nI i then -9 else y.2.2.2)
    split
    · exact Or.inl rfl
    · exact h4 y hy
  · simp only [gBr2, gCt, gTr, List.mem_map] at hx
    obtain ⟨y, hy, rfl⟩ := hx
    unfold levC setH
    show oR (if y.2.2.2.2.1 = nI i then -9 else y.2.2.2.2.1)
    split
    · exact Or.inl rfl
    · exact h5 y hy
theorem C_settle_loop {b : Nat} : ∀ (m i : Nat) (g : Game) (t : Int32) (S : Sg) (fu : Nat), i + m = 4 → m < fu → CP b g S → VL g → ∃ S', L_X7_settle_4 b fu S t (nI i) = some (cSt g i m t, S') ∧ CP b (gSt g i m) S' ∧ Fr b S S' := by
  intro m
  induction m with
  | zero =>
    intro i g t S fu h hf hc hv
    obtain ⟨f, rfl, -⟩ := fuS hf
    refine ⟨S, ?_, hc, Fr.rf⟩
    show Lb_X7_settle_4 b _ S t (nI i) = _
    unfold Lb_X7_settle_4
    rw [if_pos (by rw [show (4 : Int32) = nI 4 from rfl, nIle (by omega) (by omega)]; omega)]
    rfl
  | succ m ih =>
    intro i g t S fu h hf hc hv
    obtain ⟨f, rfl, hf⟩ := fuS hf
    have hi : i < 4 := by omega
    show ∃ S', Lb_X7_settle_4 b _ S t (nI i) = _ ∧ _
    unfold Lb_X7_settle_4
    rw [if_neg (by rw [show (4 : Int32) = nI 4 from rfl, nIle (by omega) (by omega)]; omega)]
    rw [at_ok (by omega) (by omega), gbiN, (hc.2.2.1 i hi).1]
    unfold cSt gSt
    by_cases e : 0 ≤ g.2.2.1 i 0
    · rw [if_pos e, if_pos e, if_pos e, gviN, nI_s]
      exact ih (i + 1) g t S f (by omega) (by omega) hc hv
    · rw [if_neg e, if_neg e, if_neg e]
      obtain ⟨S1, e1, c1, f1⟩ := C_br1 hc hi
      obtain ⟨S2, e2, c2, f2⟩ := C_ret_loop hi g.2.1 [] (gBr1 g i) S1 gFu c1 hv.1 hv.2.2.2.1 (by have := hv.1; unfold gFu; omega)
      obtain ⟨S3, e3, c3, f3⟩ := C_lev_loop (i := i) g.2.2.2.2 [] (gTr (gBr1 g i) (g.2.1.map (retT i))) S2 gFu c2 hv.2.2.1 (by have := hv.2.2.1; unfold gFu; omega)
      obtain ⟨S4, e4, c4, f4⟩ := ih (i + 1) (gBr2 g i) (t + 1) S3 f (by omega) (by omega) c3 (VL_br2 hv)
      refine ⟨S4, ?_, c4, ((f1.tr f2).tr f3).tr f4⟩
      rw [e1, gbvN]
      unfold f_X8_returnToBank f_X1_leaveHolder
      simp only [List.length_nil, nI_0] at e2 e3
      rw [e2, gbvN, e3, gbvN, gviN, gviN, nI_s, e4]
      rw [cSt_congr (g := g) m (i + 1) (t + 1) (fun j hj => gBr2_co (by omega))]

