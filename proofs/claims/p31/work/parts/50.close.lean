/-! ===== the end of a round, both sides ===== -/
def zr (x : T2) : T2 := (x.1, 0)
def gZr (g : Game) : Game := (g.1, g.2.1, g.2.2.1, fun a => (g.2.2.2.1 a).map zr, g.2.2.2.2.map end0)
def gMid (g : Game) : Game := ups (gServe g) 0 4
def gSet (g : Game) : Game := gSt (gMid g) 0 4
def gEnd (g : Game) : Game := gZr (gSc (gSet g) 4 ((gSet g).1 4 + 1))
theorem fold_l : ∀ (l : List T6) (g : Game), (l.foldl gFine g).2.1 = g.2.1 ∧ (l.foldl gFine g).2.2.2 = g.2.2.2 := by
  intro l
  induction l with
  | nil => intro g; exact ⟨rfl, rfl⟩
  | cons x l ih =>
    intro g
    have h := ih (gFine g x)
    exact ⟨h.1.trans gFine_l.1, h.2.trans gFine_l.2⟩
theorem srvC_o (x : T6) : (srvC x).2.2.2.2.1 = x.2.2.2.2.1 := by
  unfold srvC
  split <;> rfl
theorem VL_serve {g : Game} (h : VL g) : VL (gServe g) := by
  obtain ⟨h1, h2, h3, h4, h5⟩ := h
  have hf := fold_l g.2.2.2.2 g
  refine ⟨by simp only [gServe, gCt, hf.1]; exact h1, fun a ha => by simp only [gServe, gCt, hf.2]; exact h2 a ha, ?_, by simp only [gServe, gCt, hf.1]; exact h4, fun x hx => ?_⟩
  · simp only [gServe, gCt]
    refine Nat.le_trans (List.length_filter_le _ _) ?_
    rw [List.length_map]
    exact h3
  · simp only [gServe, gCt] at hx
    have hx2 := (List.mem_filter.mp hx).1
    rw [List.mem_map] at hx2
    obtain ⟨y, hy, rfl⟩ := hx2
    rw [srvC_o]
    exact h5 y hy
theorem VL_mid {g : Game} (h : VL g) : VL (gMid g) := VL_of (VL_serve h) (ups_v 4 0 (gServe g)).1 (ups_v 4 0 (gServe g)).2
theorem VL_gSt : ∀ (m i : Nat) (g : Game), VL g → VL (gSt g i m) := by
  intro m
  induction m with
  | zero => intro i g h; exact h
  | succ m ih =>
    intro i g h
    unfold gSt
    refine ih (i + 1) _ ?_
    split
    · exact h
    · exact VL_br2 h
theorem VL_gZr {g : Game} (h : VL g) : VL (gZr g) := by
  obtain ⟨h1, h2, h3, h4, h5⟩ := h
  refine ⟨h1, fun a ha => by simp only [gZr, List.length_map]; exact h2 a ha, by simp only [gZr, List.length_map]; exact h3, h4, fun x hx => ?_⟩
  simp only [gZr, List.mem_map] at hx
  obtain ⟨y, hy, rfl⟩ := hx
  exact h5 y hy
theorem VL_gSc {g : Game} {j : Nat} {v : Int32} (h : VL g) : VL (gSc g j v) := h
theorem VL_set {g : Game} (h : VL g) : VL (gSet g) := VL_gSt 4 0 _ (VL_mid h)
theorem VL_end {g : Game} (h : VL g) : VL (gEnd g) := VL_gZr (VL_gSc (VL_set h))
theorem C_setSc4 {b : Nat} {g : Game} {S : Sg} {v : Int32} (h : CP b g S) : CP b (gSc g 4 v) (u2 S b 5 v) := by
  obtain ⟨hSc, hTr, hCo, hTn, hCt⟩ := h
  refine ⟨?_, ?_, ?_, ?_, ?_⟩
  · unfold CSc at hSc ⊢
    simp (disch := omega) only [u2_eq, u2_ni, u2_nr]
    simp [gSc, hSc]
  · apply CTr_fr hTr <;> simp (disch := omega) only [u2_n]
  · apply CCo_fr hCo <;> (try intro _ _) <;> simp (disch := omega) only [u2_n]
  · apply CTn_fr hTn <;> simp (disch := omega) only [u2_n]
  · apply CCt_fr hCt <;> simp (disch := omega) only [u2_n]
/-- clearing who ran -/
theorem C_zr {b : Nat} {G : Game} {S : Sg} (c4 : CP b G S) (hv4 : VL G) : ∃ S5 S6, f_X10_fill (b + 13) 8 0 S = some S5 ∧ f_X10_fill (b + 20) 16 0 S5 = some S6 ∧ CP b (gZr G) S6 ∧ Fr b S S6 := by
  obtain ⟨S5, e5, a5, b5⟩ := fill_ok (k := b + 13) (n := 8) (by omega) 0 S
  obtain ⟨S6, e6, a6, b6⟩ := fill_ok (k := b + 20) (n := 16) (by omega) 0 S5
  refine ⟨S5, S6, e5, e6, ?_, fun k hk => by rw [a6 k (by omega), a5 k (by omega)]⟩
  obtain ⟨hSc, hTr, hCo, hTn, hCt⟩ := c4
  have hl := hv4.2.2.1
  refine ⟨?_, ?_, ?_, ?_, ⟨?_, ?_⟩⟩
  · unfold CSc at hSc ⊢
    simp (disch := omega) only [a5, a6]
    exact hSc
  · apply CTr_fr hTr <;> (rw [a6 _ (by omega), a5 _ (by omega)])
  · apply CCo_fr hCo <;> (try intro _ _) <;> (rw [a6 _ (by omega), a5 _ (by omega)])
  · intro i hi
    have h1 := hTn i hi
    have h2 := hv4.2.1 i hi
    simp only [gZr, List.length_map]
    refine ⟨by rw [a6 _ (by omega), a5 _ (by omega)]; exact h1.1, ?_⟩
    have h3 := Rp_map (f := zr) h1.2
    refine Rp_congr (fun x _ hx => ?_) h3
    simp only [List.length_map] at hx
    simp only [ctn, zr]
    rw [b6 _ (by omega), a6 _ (by omega), a5 _ (by omega)]
  · rw [a6 _ (by omega), a5 _ (by omega), hCt.1]
    simp only [gZr, List.length_map]
  · simp only [gZr]
    have h3 := Rp_map (f := end0) hCt.2
    refine Rp_congr (fun x _ hx => ?_) h3
    simp only [List.length_map] at hx
    simp only [cct, end0]
    rw [a6 (b + 8) (by omega), a6 (b + 9) (by omega), a6 (b + 10) (by omega), a6 (b + 11) (by omega), a6 (b + 12) (by omega), a6 (b + 13) (by omega), a5 (b + 8) (by omega), a5 (b + 9) (by omega), a5 (b + 10) (by omega), a5 (b + 11) (by omega), a5 (b + 12) (by omega), b5 _ (by omega)]
theorem C_close {b : Nat} {g : Game} {S : Sg} (h : CP b g S) (hv : VL g) : ∃ S', f_X7_closeRound b S = some (cSt (gMid g) 0 4 0, S') ∧ CP b (gEnd g) S' ∧ Fr b S S' := by
  obtain ⟨S1, e1, c1, f1⟩ := C_serve h hv
  obtain ⟨S2, e2, c2, f2⟩ := C_up_loop 4 0 (gServe g) S1 gFu rfl (by unfold gFu; omega) c1 (VL_serve hv)
  have c2m : CP b (gMid g) S2 := c2
  obtain ⟨S3, e3, c3s, f3⟩ := C_settle_loop 4 0 (gMid g) 0 S2 gFu rfl (by unfold gFu; omega) c2m (VL_mid hv)
  have c3 : CP b (gSet g) S3 := c3s
  clear c3s
  have h5 : S3 b 5 = (gSet g).1 4 := c3.1.2.2.1
  have c4 := C_setSc4 (v := (gSet g).1 4 + 1) c3
  obtain ⟨S5, S6, e5, e6, c6, f6⟩ := C_zr c4 (VL_gSc (VL_set hv))
  have c7 : CP b (gEnd g) S6 := c6
  refine ⟨S6, ?_, c7, ((f1.tr f2).tr f3).u20.tr f6⟩
  unfold f_X7_closeRound f_X7_payUpkeep f_X7_settle
  rw [nI_0] at e2 e3
  rw [e1, gbvN, e2, gbvN, e3, gbiN, h5, gstN, e5, gbvN, e6, gbvN]
/-! the reference's -/
def gEz (g : Game) : Game := gCt g (g.2.2.2.2.map end0)
theorem kpc_end0 (x : T6) : kpc (end0 x) = kpc x := rfl
theorem fil_end : ∀ (l : List T6), (l.map srvE).filter kpc = ((l.map srvC).filter kpc).map end0 := by
  intro l
  induction l with
  | nil => rfl
  | cons x l ih =>
    simp only [List.map_cons]
    by_cases h : kpc (srvC x) = true
    · rw [List.filter_cons_of_pos h, List.filter_cons_of_pos (show kpc (srvE x) = true from h), List.map_cons, ih]
      rfl
    · rw [List.filter_cons_of_neg h, List.filter_cons_of_neg (show ¬ kpc (srvE x) = true from h), ih]
theorem ups_E0 : ∀ (m i : Nat) (g : Game), ups (gEz g) i m = gEz (ups g i m) := by
  intro m
  induction m with
  | zero => intro i g; rfl
  | succ m ih => intro i g; exact ih (i + 1) (gUp g i)
theorem VL_E0 {g : Game} (h : VL g) : VL (gEz g) := by
  obtain ⟨h1, h2, h3, h4, h5⟩ := h
  refine ⟨h1, h2, by simp only [gEz, gCt, List.length_map]; exact h3, h4, fun x hx => ?_⟩
  simp only [gEz, gCt, List.mem_map] at hx
  obtain ⟨y, hy, rfl⟩ := hx
  exact h5 y hy
