/-! ===== runs: the reference ===== -/
theorem VL_pay {g : Game} {i : Nat} {o x : Int32} (h : VL g) : VL (gPay g i o x) := VL_of h gPay_l.1 gPay_l.2
theorem prc_congr {g0 g : Game} {i : Nat} {a : T4} (h : ∀ b, g.2.2.1 b 1 = g0.2.2.1 b 1) : prc g i a = prc g0 i a := by
  unfold prc
  rw [h]
theorem B_pay {p i : Nat} {g g1 : Game} {S S1 : Sg} {x x3 x4 : Int32} {m : Nat} {K : Sg → Int32 → Int32 → Int32 → Int32 → Option (Int32 × Sg)} (h : MP g1 (S1 p)) (hv : VL g1) (hi : i < 4) (h6 : g1.1 6 = g.1 6) (ho : ∀ a, a ≠ p → S1 a = S a) :
    ∃ S', B_X11_runOn_129 p K S1 x3 x4 (nI i) (nI m) x = K S' x3 x4 (nI i) (nI (m + 1)) ∧ MP (gSc (gCo g1 i 0 (g1.2.2.1 i 0 - x)) 6 (g.1 6 + x)) (S' p) ∧ ∀ a, a ≠ p → S' a = S a := by
  have hc := (h.2.2.1 i hi).1
  have h6' : S1 p 6 = g1.1 6 := h.1.2.2.2.2.1
  refine ⟨u2 (u2 S1 p (75 + 5 * i) (g1.2.2.1 i 0 - x)) p 6 (g.1 6 + x), ?_, ?_, fun a ha => by rw [u2_n ha, u2_n ha, ho a ha]⟩
  · unfold B_X11_runOn_129
    rw [companyAt_ok, gbiN, gck_nI (by omega) (by omega), gck_nI (by omega) (by omega), nI_c (by omega), hc, gstN, gck_c6, gck_c6, ix_c6, u2_ni (by omega), h6', h6, gstN, gviN, nI_s]
  · rw [u2_s, u2_s]
    have h1 := M_setCo (f := 0) (v := g1.2.2.1 i 0 - x) (w := 75 + 5 * i) h hv hi (Or.inl rfl) rfl
    exact M_setSc (j := 6) h1 hv (by omega) (by omega) (by omega)
theorem M_path_loop {p i k j : Nat} {g0 : Game} {ps : List Nat} (hp : p = 395 ∨ p = 396) (hi : i < 4) (hv0 : VL g0) : ∀ (l : List Nat) (m : Nat) (g : Game) (S : Sg) (fu : Nat), m + l.length = ps.length → ps.length ≤ 24 → l.length < fu → (∀ t ∈ l, t < g0.2.1.length) → MP g (S p) → VL g → g.2.1 = g0.2.1 → (∀ b, g.2.2.1 b 1 = g0.2.2.1 b 1) → S 392 15 = nI ps.length → Rp (S 401) m (l.map nI) →
    ∃ S', L_X11_runOn_45 p fu S (nI j) (nI (127 + 6 * k)) (nI i) (nI m) = Lb_X11_runOn_45 p (fun _ _ _ _ _ => none) S' (nI j) (nI (127 + 6 * k)) (nI i) (nI ps.length) ∧ MP (gPath g0 i l g) (S' p) ∧ ∀ a, a ≠ p → S' a = S a := by
  intro l
  induction l with
  | nil =>
    intro m g S fu hm hps hf hl hc hv htr hco h4 hr
    obtain ⟨f, rfl, -⟩ := fuS hf
    refine ⟨S, ?_, hc, fun _ _ => rfl⟩
    simp only [List.length_nil, Nat.add_zero] at hm
    show Lb_X11_runOn_45 p _ S (nI j) (nI (127 + 6 * k)) (nI i) (nI m) = _
    unfold Lb_X11_runOn_45
    rw [h4, ← hm, if_pos (Int32.le_refl _), if_pos (Int32.le_refl _)]
  | cons t l ih =>
    intro m g S fu hm hps hf hl hc hv htr hco h4 hr
    obtain ⟨f, rfl, hf⟩ := fuS hf
    simp only [List.length_cons] at hm hf
    have h16 := hv0.1
    have htl := hl t List.mem_cons_self
    obtain ⟨a, ha⟩ := some_of_lt htl
    have ha' : g.2.1[t]? = some a := by rw [htr]; exact ha
    have h13 : S 401 m = nI t := hr.1
    have ho := hv0.2.2.2.1 a (mem_get ha)
    have htr' := (hc.tr ha').2.2.2
    have go : ∀ S1, MP (gPay g i a.2.2.2 (prc g0 i a)) (S1 p) → (∀ q, q ≠ p → S1 q = S q) → ∃ S', L_X11_runOn_45 p f S1 (nI j) (nI (127 + 6 * k)) (nI i) (nI (m + 1)) = Lb_X11_runOn_45 p (fun _ _ _ _ _ => none) S' (nI j) (nI (127 + 6 * k)) (nI i) (nI ps.length) ∧ MP (gPath g0 i (t :: l) g) (S' p) ∧ ∀ a, a ≠ p → S' a = S a := by
      intro S1 c1 f1
      obtain ⟨S', d1, d2, d3⟩ := ih (m + 1) (gPay g i a.2.2.2 (prc g0 i a)) S1 f (by omega) hps (by omega) (fun x hx => hl x (List.mem_cons_of_mem _ hx)) c1 (VL_pay hv) (gPay_l.1.trans htr) (fun b => by rw [gPay_co1 (by omega) (by omega)]; exact hco b) (by rw [f1 392 (by omega)]; exact h4) (by rw [f1 401 (by omega)]; exact hr.2)
      exact ⟨S', d1, by rw [gPath_s ha]; exact d2, fun q hq => by rw [d3 q hq, f1 q hq]⟩
    show ∃ S', Lb_X11_runOn_45 p _ S (nI j) (nI (127 + 6 * k)) (nI i) (nI m) = _ ∧ _
    rw [show Lb_X11_runOn_45 p (L_X11_runOn_45 p f) S (nI j) (nI (127 + 6 * k)) (nI i) (nI m) = (gck (inb (nI m) 24) (gbi (f_X11_costOf p (nI i) (S 401 (nI m).toNatClampNeg) S) (fun v_16 S_15 => gck (inb (nI m) 24) (gbi (f_X11_trackAt (S_15 401 (nI m).toNatClampNeg) S_15) (fun v_18 S_17 => gck (inb (v_18 + (3 : Int32)) 175) (gvi (S_17 p (v_18 + (3 : Int32)).toNatClampNeg) (fun x8_19 => if x8_19 = (-9 : Int32) then gck (inb (5 : Int32) 175) (gck (inb (5 : Int32) 175) (gst (u2 S_17 p (5 : Int32).toNatClampNeg ((S_17 p (5 : Int32).toNatClampNeg) + v_16)) (fun S_26 => B_X11_runOn_129 p (L_X11_runOn_45 p f) S_26 (nI j) (nI (127 + 6 * k)) (nI i) (nI m) v_16))) else gbi (f_X11_companyAt x8_19 S_17) (fun v_21 S_20 => gck (inb v_21 175) (gck (inb v_21 175) (gst (u2 S_20 p v_21.toNatClampNeg ((S_20 p v_21.toNatClampNeg) + v_16)) (fun S_22 => gbi (f_X11_companyAt x8_19 S_22) (fun v_24 S_23 => gck (inb (v_24 + (3 : Int32)) 175) (gck (inb (v_24 + (3 : Int32)) 175) (gst (u2 S_23 p (v_24 + (3 : Int32)).toNatClampNeg ((S_23 p (v_24 + (3 : Int32)).toNatClampNeg) + v_16)) (fun S_25 => B_X11_runOn_129 p (L_X11_runOn_45 p f) S_25 (nI j) (nI (127 + 6 * k)) (nI i) (nI m) v_16))))))))))))))) from by
      conv => lhs; unfold Lb_X11_runOn_45
      rw [h4, if_neg (by rw [nIle (by omega) (by omega)]; omega)]]
    rw [gck_nI (by omega) (by omega), nI_c (by omega), h13, M_costOf (i := i) hc hv ha', prc_congr hco, gbiN, gck_nI (by omega) (by omega), h13, trackAt_ok, gbiN, nIp3, gck_nI (by omega) (by omega), nI_c (by omega), htr', gviN]
    by_cases e : a.2.2.2 = -9
    · rw [if_pos e, gck_c5, gck_c5, ix_c5, hc.1.2.2.2.1, gstN]
      have c1 := M_setSc (j := 5) (v := g.1 5 + prc g0 i a) hc hv (by omega) (by omega) (by omega)
      rw [← u2_s] at c1
      obtain ⟨S1, b1, b2, b3⟩ := B_pay (g := g) (S := S) (x := prc g0 i a) (x3 := nI j) (x4 := nI (127 + 6 * k)) (m := m) (K := L_X11_runOn_45 p f) c1 hv hi (by simp [gSc]) (fun q hq => u2_n hq)
      rw [b1]
      refine go S1 ?_ b3
      have : gPay g i a.2.2.2 (prc g0 i a) = gSc (gCo (gSc g 5 (g.1 5 + prc g0 i a)) i 0 ((gSc g 5 (g.1 5 + prc g0 i a)).2.2.1 i 0 - prc g0 i a)) 6 (g.1 6 + prc g0 i a) := by
        unfold gPay gPay1
        rw [if_pos e]
      rw [this]
      exact b2
    · rw [if_neg e]
      obtain ⟨q, hq, eq⟩ : ∃ q : Nat, q < 4 ∧ a.2.2.2 = nI q := ho.resolve_left e
      rw [eq, companyAt_ok, gbiN, gck_nI (by omega) (by omega), gck_nI (by omega) (by omega), nI_c (by omega), (hc.2.2.1 q hq).1, gstN, companyAt_ok, gbiN, nIp3, gck_nI (by omega) (by omega), gck_nI (by omega) (by omega), nI_c (by omega), u2_ni (by omega), (hc.2.2.1 q hq).2.2.1, gstN]
      have c1 := M_setCo (f := 0) (v := g.2.2.1 q 0 + prc g0 i a) (w := 75 + 5 * q) hc hv hq (Or.inl rfl) rfl
      have c2 := M_setCo (f := 3) (v := g.2.2.1 q 3 + prc g0 i a) (w := 75 + 5 * q + 3) c1 hv hq (by omega) rfl
      rw [← u2_s, ← u2_s] at c2
      obtain ⟨S1, b1, b2, b3⟩ := B_pay (g := g) (S := S) (x := prc g0 i a) (x3 := nI j) (x4 := nI (127 + 6 * k)) (m := m) (K := L_X11_runOn_45 p f) c2 hv hi rfl (fun q hq => by rw [u2_n hq, u2_n hq])
      rw [b1]
      refine go S1 ?_ b3
      have : gPay g i a.2.2.2 (prc g0 i a) = gSc (gCo (gCo (gCo g q 0 (g.2.2.1 q 0 + prc g0 i a)) q 3 (g.2.2.1 q 3 + prc g0 i a)) i 0 ((gCo (gCo g q 0 (g.2.2.1 q 0 + prc g0 i a)) q 3 (g.2.2.1 q 3 + prc g0 i a)).2.2.1 i 0 - prc g0 i a)) 6 (g.1 6 + prc g0 i a) := by
        unfold gPay gPay1
        rw [if_neg e, eq, nI_c (by omega)]
      rw [this]
      exact b2
theorem M_ranT {i j : Nat} {g : Game} {r : Nat → Int32} {t : T2} (h : MP g r) (hv : VL g) (hi : i < 4) (hj : (g.2.2.2.1 i)[j]? = some t) : MP (gRanT g i j t) (upd r (95 + 8 * i + 2 * j + 1) 1) := by
  have hl := hv.2.1 i hi
  have hjl := lt_len hj
  have ht := h.tn hi hj
  obtain ⟨hSc, hTr, hCo, hTn, hCt⟩ := h
  refine ⟨?_, ?_, ?_, ?_, ?_⟩
  · unfold MSc at hSc ⊢
    simp (disch := omega) only [upd_ne]
    exact hSc
  · exact MTr_fr hTr hv.1 (by rw [upd_ne (by omega)]) (fun x _ _ => by rw [upd_ne (by omega)])
  · exact MCo_fr hCo (fun a ha => ⟨by rw [upd_ne (by omega)], by rw [upd_ne (by omega)], by rw [upd_ne (by omega)], by rw [upd_ne (by omega)]⟩)
  · intro a ha
    have h1 := hTn a ha
    have hla := hv.2.1 a ha
    by_cases e : a = i
    · subst e
      simp only [gRanT, gTn, if_true, List.length_set]
      refine ⟨by rw [upd_ne (by omega)]; exact h1.1, Rp_set h1.2 ?_ (fun x hx hxj => ?_)⟩
      · simp (disch := omega) only [mtn, upd_eq, upd_ne, ht.1]
      · simp (disch := omega) only [mtn, upd_ne]
    · simp only [gRanT, gTn, if_neg e]
      refine ⟨by rw [upd_ne (by omega)]; exact h1.1, Rp_congr (fun x _ hx => ?_) h1.2⟩
      have : 95 + 8 * a + 2 * x ≠ 95 + 8 * i + 2 * j + 1 ∧ 95 + 8 * a + 2 * x + 1 ≠ 95 + 8 * i + 2 * j + 1 := by omega
      simp (disch := omega) only [mtn, upd_ne]
  · exact MCt_fr hCt hv.2.2.1 (by rw [upd_ne (by omega)]) (fun x _ _ => by rw [upd_ne (by omega)])
def FrP (p : Nat) (S S' : Sg) : Prop := (∀ k, k ≠ p → k ≠ 392 → k ≠ 400 → k ≠ 401 → S' k = S k) ∧ ∀ x, x ≠ 12 → x ≠ 13 → x ≠ 15 → S' 392 x = S 392 x
theorem FrP.rf {p : Nat} (S : Sg) : FrP p S S := ⟨fun _ _ _ _ _ => rfl, fun _ _ _ _ => rfl⟩
theorem FrP.tr {p : Nat} {S S1 S2 : Sg} (h1 : FrP p S S1) (h2 : FrP p S1 S2) : FrP p S S2 := ⟨fun k z a b c => (h2.1 k z a b c).trans (h1.1 k z a b c), fun x a b c => (h2.2 x a b c).trans (h1.2 x a b c)⟩
theorem FrP.m {p : Nat} {S S' : Sg} (h : FrM S S') : FrP p S S' := ⟨fun k _ a b c => h.1 k a b c, h.2⟩
theorem FrP.o {p : Nat} {S S' : Sg} (hp : p = 395 ∨ p = 396) (h : ∀ a, a ≠ p → S' a = S a) : FrP p S S' := ⟨fun k z _ _ _ => h k z, fun x _ _ _ => by rw [h 392 (by omega)]⟩
theorem M_runOn {p i k j x y lv c n : Nat} {g : Game} {S : Sg} {a : T6} {t : T2} (hp : p = 395 ∨ p = 396) (h : MP g (S p)) (hV : V c n g) (hr : Runs g i k j a t x y lv) (hx : x < c) (hw : wIs (wks g i) y x (4 * lv) = true) : ∃ S', f_X11_runOn p (nI k) (nI j) S = some (nI (wC (wks g i) y x (4 * lv)), S') ∧ MP (gCar g i k j a t (wP (wks g i) y x (4 * lv))) (S' p) ∧ FrP p S S' := by
  obtain ⟨hi, hk, hj, ha, ex, ey, el, hx9, hy, hlv⟩ := hr
  have hv := hV.vl
  have hkl := lt_len hk
  have h8 := hv.2.2.1
  have hjl := lt_len hj
  have h4 := hv.2.1 i hi
  have hct := h.ct hk
  obtain ⟨S1, e1, a1, a2, a6⟩ := M_find (i := i) (goal := y) (a := x) (rr := 4 * lv) hp h hV hx hy (by omega)
  obtain ⟨a3, a4, a5⟩ := a2 hw
  obtain ⟨hK, hT⟩ := wks_ok (i := i) hV
  have c1 := MP_m h hp a6
  have hkk : ∀ t ∈ wks g i, 1 ≤ t.2.2.1 := fun t ht => (hK.2 t ht).2.2.2.1
  have hplen : (wP (wks g i) y x (4 * lv)).length ≤ 24 := by
    have h1 := pth_len (goal := y) hkk (wL (wks g i) y x (4 * lv)) (wL (wks g i) y x (4 * lv)) x (Nat.le_refl _)
    have h2 := (wch_v (ks := wks g i) (goal := y) (a := x) (4 * lv)).2.1
    unfold wP wL at *
    omega
  obtain ⟨S2, e2, c2, f2⟩ := M_path_loop (k := k) (j := j) (ps := wP (wks g i) y x (4 * lv)) hp hi hv (wP (wks g i) y x (4 * lv)) 0 g S1 gFu (Nat.zero_add _) hplen (by unfold gFu; omega) (fun q hq => by rw [← hT.1]; exact pth_mem _ _ _ q hq) c1 hv rfl (fun _ => rfl) a4 a5
  have gl := gPath_l (g0 := g) (i := i) (wP (wks g i) y x (4 * lv)) g
  generalize hgq : gPath g i (wP (wks g i) y x (4 * lv)) g = gq at *
  have hk2 : gq.2.2.2.2[k]? = some a := by rw [gl.2]; exact hk
  have v2 : VL gq := VL_of hv gl.1 gl.2
  have hc2 := c2.ct hk2
  -- the mail's pay
  have c3 := M_setSc (j := 5) (v := gq.1 5 - a.2.2.1) c2 v2 (by omega) (by omega) (by omega)
  have c3b := M_setCo (f := 0) (v := gq.2.2.1 i 0 + a.2.2.1) (w := 75 + 5 * i) c3 v2 hi (Or.inl rfl) rfl
  have c3c := M_setSc (j := 7) (v := gq.1 7 + a.2.2.1) c3b v2 (by omega) (by omega) (by omega)
  rw [← u2_s, ← u2_s, ← u2_s] at c3c
  have c3m : MP (gMail gq i a.2.2.1) (u2 (u2 (u2 S2 p 5 (gq.1 5 - a.2.2.1)) p (75 + 5 * i) (gq.2.2.1 i 0 + a.2.2.1)) p 7 (gq.1 7 + a.2.2.1) p) := c3c
  generalize hS3 : u2 (u2 (u2 S2 p 5 (gq.1 5 - a.2.2.1)) p (75 + 5 * i) (gq.2.2.1 i 0 + a.2.2.1)) p 7 (gq.1 7 + a.2.2.1) = S3 at c3m
  have hc3 := c3m.ct (k := k) (a := a) hk2
  have c4 := M_ctW (k := k) (a := ran1 a) (r' := u2 S3 p (127 + 6 * k + 5) 1 p) c3m v2 (fun z hz => u2_ni (by omega)) (by
    simp (disch := omega) only [mct, u2_eq, u2_ni, u2_nr, hc3, ran1])
  have hj4 : ((gRanC (gMail gq i a.2.2.1) k a).2.2.2.1 i)[j]? = some t := by
    show (gq.2.2.2.1 i)[j]? = some t
    rw [gl.2]; exact hj
  have v4 : VL (gRanC (gMail gq i a.2.2.1) k a) := by
    obtain ⟨w1, w2, w3, w4, w5⟩ := v2
    refine ⟨w1, w2, by simp only [gRanC, gCt, List.length_set]; exact w3, w4, fun z hz => ?_⟩
    rcases mem_set' hz with h3 | rfl
    · exact w5 z h3
    · exact hv.2.2.2.2 a (mem_get hk)
  have c5 := M_ranT c4 v4 hi hj4
  rw [← u2_s] at c5
  have o3 : ∀ q, q ≠ p → S3 q = S2 q := fun q hq => by rw [← hS3, u2_n hq, u2_n hq, u2_n hq]
  refine ⟨u2 (u2 S3 p (127 + 6 * k + 5) 1) p (95 + 8 * i + 2 * j + 1) 1, ?_, ?_, (FrP.m a6).tr (FrP.o hp (fun q hq => by rw [u2_n hq, u2_n hq, o3 q hq, f2 q hq]))⟩
  · unfold f_X11_runOn
    rw [contractAt_ok, gbiN, nIp4, gck_nI (by omega) (by omega), nI_c (by omega), hct.2.2.2.2.1, ha, gviN, gck_nI (by omega) (by omega), nI_c (by omega), hct.1, nIp1, gck_nI (by omega) (by omega), nI_c (by omega), hct.2.1, trainAt_ok, gbiN, gck_nI (by omega) (by omega), nI_c (by omega), (h.tn hi hj).1, ex, ey, el, nI4, e1, gbiN]
    rw [nI_0] at e2
    rw [e2]
    unfold Lb_X11_runOn_45
    rw [f2 392 (by omega), a4, if_pos (Int32.le_refl _)]
    rw [gck_c5, ix_c5, nIp2, gck_nI (by omega) (by omega), nI_c (by omega), gck_c5, c2.1.2.2.2.1, hc2.2.2.1, gstN]
    rw [companyAt_ok, gbiN, gck_nI (by omega) (by omega), nI_c (by omega), gck_nI (by omega) (by omega), gck_nI (by omega) (by omega), u2_ni (by omega), u2_ni (by omega), (c2.2.2.1 i hi).1, hc2.2.2.1, gstN]
    rw [gck_c7, ix_c7, gck_nI (by omega) (by omega), gck_c7, u2_ni (by omega), u2_ni (by omega), u2_ni (by omega), u2_ni (by omega), c2.1.2.2.2.2.2.1, hc2.2.2.1, gstN, hS3]
    rw [nIp5, gck_nI (by omega) (by omega), nI_c (by omega), gstN, trainAt_ok, gbiN, nIp1, gck_nI (by omega) (by omega), nI_c (by omega), gstN]
    rw [u2_nr (a := 392) (by omega), u2_nr (a := 392) (by omega), o3 392 (by omega), f2 392 (by omega), a1]
  · unfold gCar
    rw [hgq]
    exact c5
