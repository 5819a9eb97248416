/-! ===== runs: the class ===== -/
def Fb (b : Nat) (S S' : Sg) : Prop := ∀ k, (k < 9 ∨ 13 < k) → (k < b ∨ b + 21 ≤ k) → S' k = S k
theorem Fb.rf {b : Nat} (S : Sg) : Fb b S S := fun _ _ _ => rfl
theorem Fb.tr {b : Nat} {S S1 S2 : Sg} (h1 : Fb b S S1) (h2 : Fb b S1 S2) : Fb b S S2 := fun k a c => (h2 k a c).trans (h1 k a c)
theorem Fb.w {b : Nat} {S S' : Sg} (h : FrW S S') : Fb b S S' := fun k a _ => h k a
theorem Fb.f {b : Nat} {S S' : Sg} (h : Fr b S S') : Fb b S S' := fun k _ c => h k c
theorem pth_mem {ks : List TK} {goal : Nat} : ∀ (f L c : Nat), ∀ k ∈ pth ks goal f L c, k < ks.length := by
  intro f
  induction f with
  | zero => intro L c k hk; cases hk
  | succ f ih =>
    intro L c k hk
    unfold pth at hk
    split at hk
    · cases hk
    · split at hk
      · cases hk
      · rename_i t ht
        rcases List.mem_cons.mp hk with rfl | h
        · exact lt_len ht
        · exact ih _ _ k h
def gPath (g0 : Game) (i : Nat) : List Nat → Game → Game
  | [], g => g
  | t :: l, g => match g0.2.1[t]? with
    | none => gPath g0 i l g
    | some a => gPath g0 i l (gPay g i a.2.2.2 (prc g0 i a))
theorem gPath_s {g0 g : Game} {i t : Nat} {l : List Nat} {a : T4} (h : g0.2.1[t]? = some a) : gPath g0 i (t :: l) g = gPath g0 i l (gPay g i a.2.2.2 (prc g0 i a)) := by
  simp [gPath, h]
theorem gPath_l {g0 : Game} {i : Nat} : ∀ (l : List Nat) (g : Game), (gPath g0 i l g).2.1 = g.2.1 ∧ (gPath g0 i l g).2.2.2 = g.2.2.2 := by
  intro l
  induction l with
  | nil => intro g; exact ⟨rfl, rfl⟩
  | cons t l ih =>
    intro g
    unfold gPath
    split
    · exact ih g
    · rename_i a _
      have h := ih (gPay g i a.2.2.2 (prc g0 i a))
      exact ⟨h.1.trans gPay_l.1, h.2.trans gPay_l.2⟩
theorem V_path {c n i : Nat} {g0 : Game} : ∀ (l : List Nat) (g : Game), V c n g → V c n (gPath g0 i l g) := by
  intro l
  induction l with
  | nil => intro g h; exact h
  | cons t l ih =>
    intro g h
    unfold gPath
    split
    · exact ih g h
    · exact ih _ (V_pay h)
def gMail (g : Game) (i : Nat) (x : Int32) : Game := gSc (gCo (gSc g 5 (g.1 5 - x)) i 0 (g.2.2.1 i 0 + x)) 7 (g.1 7 + x)
def ran1 (a : T6) : T6 := (a.1, a.2.1, a.2.2.1, a.2.2.2.1, a.2.2.2.2.1, 1)
def gRanC (g : Game) (k : Nat) (a : T6) : Game := gCt g (g.2.2.2.2.set k (ran1 a))
def gRanT (g : Game) (i j : Nat) (t : T2) : Game := gTn g i ((g.2.2.2.1 i).set j (t.1, 1))
def gCar (g : Game) (i k j : Nat) (a : T6) (t : T2) (ps : List Nat) : Game := gRanT (gRanC (gMail (gPath g i ps g) i a.2.2.1) k a) i j t
theorem V_mail {c n i : Nat} {x : Int32} {g : Game} (h : V c n g) : V c n (gMail g i x) := by
  refine V_gSc ?_ (by omega) (by omega)
  have h1 : V c n (gSc g 5 (g.1 5 - x)) := V_gSc h (by omega) (by omega)
  obtain ⟨w1, w2, w3, w4, w5, w6⟩ := h1
  refine ⟨w1, w2, w3, fun a ha => ?_, w5, w6⟩
  simp only [gCo]
  rw [if_neg (by omega), if_neg (by omega)]
  exact w4 a ha
theorem V_car {c n i k j : Nat} {a : T6} {t : T2} {ps : List Nat} {g : Game} (h : V c n g) (hi : i < 4) (hk : g.2.2.2.2[k]? = some a) (hj : (g.2.2.2.1 i)[j]? = some t) : V c n (gCar g i k j a t ps) := by
  have h1 : V c n (gMail (gPath g i ps g) i a.2.2.1) := V_mail (V_path ps g h)
  have el := gPath_l (g0 := g) (i := i) ps g
  have h2 : V c n (gRanC (gMail (gPath g i ps g) i a.2.2.1) k a) := by
    refine V_gCt h1 (by rw [List.length_set]; exact h1.2.2.2.2.2.1) (fun x hx => ?_)
    rcases mem_set' hx with h3 | rfl
    · exact h1.2.2.2.2.2.2 x h3
    · obtain ⟨w1, w2, w3, w4, w5, w6, w7⟩ := h.2.2.2.2.2.2 a (mem_get hk)
      exact ⟨w1, w2, w3, w4, w5, w6, 1, by omega, by omega, rfl⟩
  refine V_gTn h2 (by rw [List.length_set]; exact (h2.2.2.2.2.1 i hi).1) (fun x hx => ?_)
  rcases mem_set' hx with h3 | rfl
  · exact (h2.2.2.2.2.1 i hi).2 x h3
  · exact ⟨((h.2.2.2.2.1 i hi).2 t (mem_get hj)).1, 1, by omega, by omega, rfl⟩
theorem C_mail {b i : Nat} {x : Int32} {g : Game} {S : Sg} (h : CP b g S) (hi : i < 4) : ∃ S', f_X7_payMail b (nI i) x S = some S' ∧ CP b (gMail g i x) S' ∧ Fr b S S' := by
  obtain ⟨hSc, hTr, hCo, hTn, hCt⟩ := h
  have h6 : S b 6 = g.1 7 := hSc.2.2.2.2.2.1
  refine ⟨u2 (u2 (u2 S (b + 14) 4 (S (b + 14) 4 - x)) (b + 14) i (S (b + 14) i + x)) b 6 (g.1 7 + x), ?_, ⟨?_, ?_, ?_, ?_, ?_⟩, (((Fr.rf).ux (by omega)).ux (by omega)).u20⟩
  · unfold f_X7_payMail
    rw [show (4 : Int32) = nI 4 from rfl, transfer_ok (by omega) (by omega) (by omega), gbvN, gstN, u2_nr (by omega), u2_nr (by omega), h6]
  · unfold CSc at hSc ⊢
    simp (disch := omega) only [u2_eq, u2_ni, u2_nr]
    simp [gMail, gSc, gCo, hSc]
  · apply CTr_fr hTr <;> simp (disch := omega) only [u2_n]
  · intro j hj
    have h1 := hCo j hj
    by_cases e : j = i
    · subst e
      simp (disch := omega) only [u2_eq, u2_ni, u2_nr]
      simp [gMail, gSc, gCo, h1]
    · simp (disch := omega) only [u2_eq, u2_ni, u2_nr]
      simp [gMail, gSc, gCo, h1, e]
  · apply CTn_fr hTn <;> simp (disch := omega) only [u2_n]
  · apply CCt_fr hCt <;> simp (disch := omega) only [u2_n]
theorem C_ranT {b i j : Nat} {g : Game} {S : Sg} {t : T2} (h : CP b g S) (hv : VL g) (hi : i < 4) (hj : (g.2.2.2.1 i)[j]? = some t) : f_X0_markRun b (nI i) (nI j) S = some (u2 S (b + 20) (4 * i + j) 1) ∧ CP b (gRanT g i j t) (u2 S (b + 20) (4 * i + j) 1) := by
  have hl := hv.2.1 i hi
  have hjl := lt_len hj
  have ht := h.tn hi hj
  refine ⟨?_, ?_⟩
  · unfold f_X0_markRun
    rw [C_hasN h hv hi, gbiN, below_nI (by omega) (by omega)]
    rw [if_neg (by rw [decide_eq_true hjl]; decide), place_ok, gbiN, put_ok (by omega) (by omega), gbvN]
  · obtain ⟨hSc, hTr, hCo, hTn, hCt⟩ := h
    refine ⟨?_, ?_, ?_, ?_, ?_⟩
    · unfold CSc at hSc ⊢
      simp (disch := omega) only [u2_eq, u2_ni, u2_nr]
      exact hSc
    · apply CTr_fr hTr <;> simp (disch := omega) only [u2_n]
    · apply CCo_fr hCo <;> (try intro _ _) <;> simp (disch := omega) only [u2_n]
    · intro a ha
      have h1 := hTn a ha
      have hla := hv.2.1 a ha
      by_cases e : a = i
      · subst e
        simp only [gRanT, gTn, if_true, List.length_set]
        refine ⟨by simp (disch := omega) only [u2_eq, u2_ni, u2_nr]; exact h1.1, Rp_set h1.2 ?_ (fun x hx hxj => ?_)⟩
        · simp (disch := omega) only [ctn, u2_eq, u2_ni, u2_nr, ht.1]
        · simp (disch := omega) only [ctn, u2_eq, u2_ni, u2_nr]
      · simp only [gRanT, gTn, if_neg e]
        refine ⟨by simp (disch := omega) only [u2_eq, u2_ni, u2_nr]; exact h1.1, Rp_congr (fun x _ hx => ?_) h1.2⟩
        have : 4 * a + x ≠ 4 * i + j := by omega
        simp (disch := omega) only [ctn, u2_eq, u2_ni, u2_nr]
    · apply CCt_fr hCt <;> simp (disch := omega) only [u2_n]
theorem C_path_loop {b i k j : Nat} {g0 : Game} {cst : Int32} {ps : List Nat} {K : Int32} (hb : 14 ≤ b) (hi : i < 4) (hv0 : VL g0) : ∀ (l : List Nat) (m : Nat) (g : Game) (S : Sg) (fu : Nat), m + l.length = ps.length → ps.length ≤ 24 → l.length < fu → (∀ t ∈ l, t < g0.2.1.length) → CP b g S → g.2.1 = g0.2.1 → S 9 4 = nI ps.length → Rp (S 13) m (l.map nI) → (∀ t a, g0.2.1[t]? = some a → S 12 t = prc g0 i a) →
    ∃ S', L_X4_carry_62 b fu S (nI k) (nI j) (nI i) (nI m) = (gbi (f_X10_at (b + 10) 8 (nI k) S') (fun v_2 S_1 => gbv (f_X7_payMail b (nI i) v_2 S_1) (fun S_3 => gbv (f_X10_put (b + 13) 8 (nI k) (1 : Int32) S_3) (fun S_4 => gbv (f_X0_markRun b (nI i) (nI j) S_4) (fun S_5 => some (S_5 9 5, S_5)))))) ∧ CP b (gPath g0 i l g) S' ∧ Fr b S S' := by
  intro l
  induction l with
  | nil =>
    intro m g S fu hm hps hf hl hc htr h4 hr hp
    obtain ⟨f, rfl, -⟩ := fuS hf
    refine ⟨S, ?_, hc, Fr.rf⟩
    show Lb_X4_carry_62 b _ S (nI k) (nI j) (nI i) (nI m) = _
    unfold Lb_X4_carry_62
    simp only [List.length_nil, Nat.add_zero] at hm
    rw [h4, ← hm, if_pos (Int32.le_refl _)]
  | cons t l ih =>
    intro m g S fu hm hps hf hl hc htr h4 hr hp
    obtain ⟨f, rfl, hf⟩ := fuS hf
    simp only [List.length_cons] at hm hf
    have h16 := hv0.1
    have htl := hl t List.mem_cons_self
    obtain ⟨a, ha⟩ := some_of_lt htl
    have ha' : g.2.1[t]? = some a := by rw [htr]; exact ha
    have h13 : S 13 m = nI t := hr.1
    have ho := hv0.2.2.2.1 a (mem_get ha)
    obtain ⟨S1, e1, c1, f1⟩ := C_pay (x := prc g0 i a) hc hi ho
    have fw : ∀ q, q < 14 → S1 q = S q := fun q hq => f1 q (by omega)
    obtain ⟨S', d1, d2, d3⟩ := ih (m + 1) (gPay g i a.2.2.2 (prc g0 i a)) S1 f (by omega) hps (by omega) (fun x hx => hl x (List.mem_cons_of_mem _ hx)) c1 (gPay_l.1.trans htr) (by rw [fw 9 (by omega)]; exact h4) (by rw [fw 13 (by omega)]; exact hr.2) (fun t a h => by rw [fw 12 (by omega)]; exact hp t a h)
    refine ⟨S', ?_, by rw [gPath_s ha]; exact d2, f1.tr d3⟩
    show Lb_X4_carry_62 b _ S (nI k) (nI j) (nI i) (nI m) = _
    unfold Lb_X4_carry_62
    rw [h4, if_neg (by rw [nIle (by omega) (by omega)]; omega), at_ok (by omega) (by omega), gbiN, h13, at_ok (by omega) (by omega), gbiN, (hc.tr ha').2.2.2, at_ok (by omega) (by omega), gbiN, hp t a ha]
    have e1' : f_X0_payRent b (nI i) (eo a).2.2.2 (prc g0 i a) S = some S1 := e1
    rw [e1', gbvN, gviN, nI_s]
    exact d1
/-- what a run needs to be -/
def Runs (g : Game) (i k j : Nat) (a : T6) (t : T2) (x y lv : Nat) : Prop := i < 4 ∧ g.2.2.2.2[k]? = some a ∧ (g.2.2.2.1 i)[j]? = some t ∧ a.2.2.2.2.1 = nI i ∧ a.1 = nI x ∧ a.2.1 = nI y ∧ t.1 = nI lv ∧ x < 9 ∧ y < 9 ∧ lv ≤ 6
theorem Runs.of {c n i k j : Nat} {g : Game} {a : T6} {t : T2} (h : V c n g) (hi : i < 4) (hk : g.2.2.2.2[k]? = some a) (hj : (g.2.2.2.1 i)[j]? = some t) (ha : a.2.2.2.2.1 = nI i) : ∃ x y lv, Runs g i k j a t x y lv ∧ x < c ∧ y < c := by
  have hc := h.1.2.1
  obtain ⟨⟨x, hx, ex⟩, ⟨y, hy, ey⟩, -⟩ := h.2.2.2.2.2.2 a (mem_get hk)
  obtain ⟨lv, -, h6, el⟩ := ((h.2.2.2.2.1 i hi).2 t (mem_get hj)).1
  exact ⟨x, y, lv, ⟨hi, hk, hj, ha, ex, ey, el, by omega, by omega, h6⟩, hx, hy⟩
theorem C_levelOf {b i j : Nat} {g : Game} {S : Sg} {t : T2} (h : CP b g S) (hv : VL g) (hi : i < 4) (hj : (g.2.2.2.1 i)[j]? = some t) : f_X0_levelOf b (nI i) (nI j) S = some (t.1, S) := by
  have hl := hv.2.1 i hi
  have hjl := lt_len hj
  unfold f_X0_levelOf
  rw [C_hasN h hv hi, gbiN, below_nI (by omega) (by omega), if_neg (by rw [decide_eq_true hjl]; decide), place_ok, gbiN, at_ok (by omega) (by omega), gbiN, (h.tn hi hj).1]
theorem C_hasRun {b i j : Nat} {g : Game} {S : Sg} {t : T2} (h : CP b g S) (hv : VL g) (hi : i < 4) (hj : (g.2.2.2.1 i)[j]? = some t) : f_X0_hasRun b (nI i) (nI j) S = some (bI (decide (t.2 = 1)), S) := by
  have hl := hv.2.1 i hi
  have hjl := lt_len hj
  unfold f_X0_hasRun
  rw [C_hasN h hv hi, gbiN, below_nI (by omega) (by omega), if_neg (by rw [decide_eq_true hjl]; decide), place_ok, gbiN, at_ok (by omega) (by omega), gbiN, (h.tn hi hj).2]
  unfold bI
  by_cases e : t.2 = 1 <;> simp [e]
theorem nI4 (lv : Nat) : (4 : Int32) * nI lv = nI (4 * lv) := by rw [show (4 : Int32) = nI 4 from rfl, pk_mul]
theorem C_carry {b i k j x y lv c n : Nat} {g : Game} {S : Sg} {a : T6} {t : T2} (hb : 14 ≤ b) (h : CP b g S) (hV : V c n g) (hr : Runs g i k j a t x y lv) : ∃ S', f_X4_carry b (nI k) (nI j) S = some (nI (wC (wks g i) y x (4 * lv)), S') ∧ CP b (gCar g i k j a t (wP (wks g i) y x (4 * lv))) S' ∧ Fb b S S' := by
  obtain ⟨hi, hk, hj, ha, ex, ey, el, hx, hy, hlv⟩ := hr
  have hv := hV.vl
  have hkl := lt_len hk
  have h8 := hv.2.2.1
  have hct := h.ct hk
  obtain ⟨S1, e1, a1, a2, a3, a4, a5, a6⟩ := C_find (goal := y) (a := x) (rr := 4 * lv) hb h hV hi hx hy (by omega)
  obtain ⟨hK, hT⟩ := wks_ok (i := i) hV
  have c1 := CP_w h hb a6
  have hkk : ∀ t ∈ wks g i, 1 ≤ t.2.2.1 := fun t ht => (hK.2 t ht).2.2.2.1
  have hplen : (wP (wks g i) y x (4 * lv)).length ≤ 24 := by
    have h1 := pth_len (goal := y) hkk (wL (wks g i) y x (4 * lv)) (wL (wks g i) y x (4 * lv)) x (Nat.le_refl _)
    have h2 := (wch_v (ks := wks g i) (goal := y) (a := x) (4 * lv)).2.1
    unfold wP wL at *
    omega
  obtain ⟨S2, e2, c2, f2⟩ := C_path_loop (k := k) (j := j) (ps := wP (wks g i) y x (4 * lv)) (cst := 0) (K := 0) hb hi hv (wP (wks g i) y x (4 * lv)) 0 g S1 gFu (Nat.zero_add _) hplen (by unfold gFu; omega) (fun q hq => by rw [← hT.1]; exact pth_mem _ _ _ q hq) c1 rfl a3 a4 (fun q z hq => by
    obtain ⟨tk, htk⟩ := some_of_lt (l := wks g i) (k := q) (by rw [hT.1]; exact lt_len hq)
    obtain ⟨z', hz', -, -, -, hp⟩ := hT.2 q tk htk
    rw [hq] at hz'
    cases hz'
    rw [a5 q tk htk, hp])
  have gl := gPath_l (g0 := g) (i := i) (wP (wks g i) y x (4 * lv)) g
  have hk2 : (gPath g i (wP (wks g i) y x (4 * lv)) g).2.2.2.2[k]? = some a := by rw [gl.2]; exact hk
  have v2 : VL (gPath g i (wP (wks g i) y x (4 * lv)) g) := VL_of hv gl.1 gl.2
  obtain ⟨S3, e3, c3, f3⟩ := C_mail (x := a.2.2.1) c2 hi
  have c4 := C_ctW (k := k) (a := ran1 a) (S' := u2 S3 (b + 13) k 1) c3 (fun c hc => u2_n (by omega)) (fun c z hz => u2_xi hz) (by
    have q := c3.ct (k := k) (a := a) hk2
    simp (disch := omega) only [cct, u2_eq, u2_ni, u2_nr, q, ran1])
  have hj4 : ((gRanC (gMail (gPath g i (wP (wks g i) y x (4 * lv)) g) i a.2.2.1) k a).2.2.2.1 i)[j]? = some t := by
    show ((gPath g i (wP (wks g i) y x (4 * lv)) g).2.2.2.1 i)[j]? = some t
    rw [gl.2]; exact hj
  have v4 : VL (gRanC (gMail (gPath g i (wP (wks g i) y x (4 * lv)) g) i a.2.2.1) k a) := by
    obtain ⟨w1, w2, w3, w4, w5⟩ := v2
    refine ⟨w1, w2, by simp only [gRanC, gCt, List.length_set]; exact w3, w4, fun z hz => ?_⟩
    rcases mem_set' hz with h3 | rfl
    · exact w5 z h3
    · exact hv.2.2.2.2 a (mem_get hk)
  obtain ⟨e5, c5⟩ := C_ranT c4 v4 hi hj4
  refine ⟨_, ?_, c5, (((Fb.w a6).tr (Fb.f f2)).tr (Fb.f f3)).tr (Fb.f (((Fr.rf).ux (by omega)).ux (by omega)))⟩
  unfold f_X4_carry
  rw [C_holder h hv hk, gbiN, ha, C_levelOf h hv hi hj, gbiN, gviN, at_ok (by omega) (by omega), gbiN, hct.1, at_ok (by omega) (by omega), gbiN, hct.2.1, ex, ey, el, nI4, e1, gbiN]
  rw [nI_0] at e2
  rw [e2, at_ok (by omega) (by omega), gbiN, (c2.ct hk2).2.2.1, e3, gbvN, put_ok (by omega) (by omega), gbvN, e5, gbvN]
  rw [u2_nr (by omega), u2_nr (by omega), f3 9 (by omega), f2 9 (by omega), a1]

