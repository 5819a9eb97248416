/-! the reference's contracts at the end of a round -/
theorem shift_loop {p : Nat} : ∀ (m c : Nat) (S : Sg) (fu : Nat), 127 ≤ c → c + m = 169 → m < fu → ∃ S', L_X11_dropContract_5 p fu S (nI c) = some S' ∧ S' p 2 = S p 2 - 1 ∧ (∀ x, c ≤ x → x < 169 → S' p x = S p (x + 6)) ∧ (∀ x, x < c → x ≠ 2 → S' p x = S p x) ∧ ∀ a, a ≠ p → S' a = S a := by
  intro m
  induction m with
  | zero =>
    intro c S fu h0 h hf
    obtain ⟨f, rfl, -⟩ := fuS hf
    refine ⟨u2 S p 2 (S p 2 - 1), ?_, u2_eq, fun x h1 h2 => by omega, fun x _ h2 => u2_ni h2, fun a ha => u2_n ha⟩
    show Lb_X11_dropContract_5 p _ S (nI c) = _
    unfold Lb_X11_dropContract_5
    rw [show (6 : Int32) = nI 6 from rfl, nI_add, if_pos (by rw [show (175 : Int32) = nI 175 from rfl, nIle (by omega) (by omega)]; omega)]
    simp only [gbiN, gbvN, gstN, gviN, trackAt_ok, companyAt_ok, trainAt_ok, contractAt_ok, gck_nI, nI_c, nIp1, nIp2, nIp3, nIp4, nIp5, gck_c0, gck_c1, gck_c2, gck_c3, gck_c4, gck_c5, gck_c6, gck_c7, gck_c8, gck_c9, gck_c10, ix_c0, ix_c1, ix_c2, ix_c3, ix_c4, ix_c5, ix_c6, ix_c7, ix_c8, ix_c9, ix_c10]
  | succ m ih =>
    intro c S fu h0 h hf
    obtain ⟨f, rfl, hf⟩ := fuS hf
    obtain ⟨S', e1, e2, e3, e4, e5⟩ := ih (c + 1) (u2 S p c (S p (c + 6))) f (by omega) (by omega) (by omega)
    refine ⟨S', ?_, ?_, fun x h1 h2 => ?_, fun x h1 h2 => ?_, fun a ha => by rw [e5 a ha, u2_n ha]⟩
    · show Lb_X11_dropContract_5 p _ S (nI c) = _
      unfold Lb_X11_dropContract_5
      rw [show (6 : Int32) = nI 6 from rfl, nI_add, if_neg (by rw [show (175 : Int32) = nI 175 from rfl, nIle (by omega) (by omega)]; omega)]
      simp (disch := omega) only [gbiN, gbvN, gstN, gviN, trackAt_ok, companyAt_ok, trainAt_ok, contractAt_ok, gck_nI, nI_c, nIp1, nIp2, nIp3, nIp4, nIp5, gck_c0, gck_c1, gck_c2, gck_c3, gck_c4, gck_c5, gck_c6, gck_c7, gck_c8, gck_c9, gck_c10, ix_c0, ix_c1, ix_c2, ix_c3, ix_c4, ix_c5, ix_c6, ix_c7, ix_c8, ix_c9, ix_c10]
      exact e1
    · rw [e2, u2_ni (by omega)]
    · rcases Nat.lt_or_ge c x with h5 | h5
      · rw [e3 x h5 h2, u2_ni (by omega)]
      · have : x = c := by omega
        subst this
        rw [e4 x (by omega) (by omega), u2_eq]
    · rw [e4 x (by omega) h2, u2_ni (by omega)]
theorem get_after {α : Type} {x : α} {l1 l2 : List α} {k : Nat} (h : l1.length ≤ k) : (l1 ++ l2)[k]? = (l1 ++ x :: l2)[k + 1]? := by
  rw [List.getElem?_append_right h, List.getElem?_append_right (by omega)]
  rw [show k + 1 - l1.length = (k - l1.length) + 1 by omega, List.getElem?_cons_succ]
theorem get_before {α : Type} {l1 l2 l3 : List α} {k : Nat} (h : k < l1.length) : (l1 ++ l2)[k]? = (l1 ++ l3)[k]? := by
  rw [List.getElem?_append_left h, List.getElem?_append_left h]
theorem M_drop {p : Nat} {g : Game} {S : Sg} {x : T6} {dn l : List T6} (h : MP (gCt g (dn ++ x :: l)) (S p)) (hv : VL (gCt g (dn ++ x :: l))) : ∃ S', f_X11_dropContract p (nI dn.length) S = some S' ∧ MP (gCt g (dn ++ l)) (S' p) ∧ ∀ a, a ≠ p → S' a = S a := by
  have hlen : dn.length + (l.length + 1) ≤ 8 := by
    have := hv.2.2.1
    simp only [gCt, List.length_append, List.length_cons] at this
    exact this
  obtain ⟨S', e1, e2, e3, e4, e5⟩ := shift_loop (p := p) (169 - (127 + 6 * dn.length)) (127 + 6 * dn.length) S gFu (by omega) (by omega) (by unfold gFu; omega)
  refine ⟨S', ?_, ?_, e5⟩
  · unfold f_X11_dropContract
    rw [contractAt_ok, gbi_ok]
    exact e1
  · obtain ⟨hSc, hTr, hCo, hTn, hCt⟩ := h
    refine ⟨?_, ?_, ?_, ?_, ⟨?_, ?_⟩⟩
    · unfold MSc at hSc ⊢
      simp (disch := omega) only [e4]
      exact hSc
    · exact MTr_fr hTr hv.1 (by simp (disch := omega) only [e4]) (fun x _ _ => by simp (disch := omega) only [e4])
    · exact MCo_fr hCo (fun i hi => by refine ⟨?_, ?_, ?_, ?_⟩ <;> simp (disch := omega) only [e4])
    · exact MTn_fr hTn hv.2.1 (fun i hi => by simp (disch := omega) only [e4]) (fun x _ _ => by simp (disch := omega) only [e4])
    · rw [e2, hCt.1]
      simp only [gCt, List.length_append, List.length_cons]
      rw [show dn.length + (l.length + 1) = (dn.length + l.length) + 1 by omega, nI_pred]
    · refine Rp_of (fun k a hk => ?_)
      rw [Nat.zero_add]
      have hkl : k < dn.length + l.length := by
        have := lt_len hk
        simp only [gCt, List.length_append] at this
        exact this
      by_cases hkd : k < dn.length
      · have hk2 : (dn ++ x :: l)[k]? = some a := by
          rw [← hk]
          exact get_before hkd
        have h2 := Rp_get0 hCt.2 hk2
        rw [← h2]
        simp (disch := omega) only [mct, e4]
      · have hk2 : (dn ++ x :: l)[k + 1]? = some a := by
          rw [← hk]
          exact (get_after (by omega)).symm
        have h2 := Rp_get0 hCt.2 hk2
        rw [← h2]
        simp (disch := omega) only [mct, e3]
        rfl
def srvE (x : T6) : T6 := end0 (srvC x)
theorem int_pred0 {k : Nat} (h : k ≤ 9) : (nI (k + 1) - 1 = 0) ↔ nI (k + 1) - 1 ≤ 0 := by
  rw [nI_pred]
  rw [show (0 : Int32) = nI 0 from rfl, nI_inj (by omega) (by omega), nIle (by omega) (by omega)]
  omega
theorem M_serve_loop {p : Nat} : ∀ (l dn : List T6) (g : Game) (S : Sg) (fu : Nat), MP (gCt g (dn ++ l)) (S p) → VL (gCt g (dn ++ l)) → (∀ x ∈ l, iR 1 9 x.2.2.2.1) → l.length < fu →
    ∃ S', L_X11_endContracts_2 p fu S (nI dn.length) = some S' ∧ MP (gCt (l.foldl gFine g) (dn ++ (l.map srvE).filter kpc)) (S' p) ∧ ∀ a, a ≠ p → S' a = S a := by
  intro l
  induction l with
  | nil =>
    intro dn g S fu h hv hi hf
    obtain ⟨f, rfl, -⟩ := fuS hf
    refine ⟨S, ?_, h, fun _ _ => rfl⟩
    show Lb_X11_endContracts_2 p _ S (nI dn.length) = _
    unfold Lb_X11_endContracts_2
    simp only [gbiN, gbvN, gstN, gviN, trackAt_ok, companyAt_ok, trainAt_ok, contractAt_ok, gck_nI, nI_c, nIp1, nIp2, nIp3, nIp4, nIp5, gck_c0, gck_c1, gck_c2, gck_c3, gck_c4, gck_c5, gck_c6, gck_c7, gck_c8, gck_c9, gck_c10, ix_c0, ix_c1, ix_c2, ix_c3, ix_c4, ix_c5, ix_c6, ix_c7, ix_c8, ix_c9, ix_c10]
    rw [h.2.2.2.2.1]
    simp only [gCt, List.append_nil]
    rw [if_pos (Int32.le_refl _)]
  | cons x l ih =>
    intro dn g S fu h hv hi hf
    obtain ⟨f, rfl, hf⟩ := fuS hf
    have hlen : dn.length + (l.length + 1) ≤ 8 := by
      have := hv.2.2.1
      simp only [gCt, List.length_append, List.length_cons] at this
      exact this
    have hfl : l.length < f := by simp only [List.length_cons] at hf; omega
    have hget : (gCt g (dn ++ x :: l)).2.2.2.2[dn.length]? = some x := get_mid
    have hx := h.ct hget
    have hox := hv.2.2.2.2 x (mem_get hget)
    have hir := hi x List.mem_cons_self
    have hil : ∀ y ∈ l, iR 1 9 y.2.2.2.1 := fun y hy => hi y (List.mem_cons_of_mem _ hy)
    obtain ⟨kk, hk1, hk2, hk3⟩ := hir
    -- the end of one turn: page S1 with x' (ran still to be cleared) in place
    have step : ∀ (x' : T6) (g' : Game) (S1 : Sg), g'.2.1 = g.2.1 → g'.2.2.2 = g.2.2.2 → oR x'.2.2.2.2.1 → g' = gFine g x → end0 x' = srvE x → (x'.2.2.2.1 = 0 ↔ x'.2.2.2.1 ≤ 0) → MP (gCt g' (dn ++ x' :: l)) (S1 p) → (∀ a, a ≠ p → S1 a = S a) →
        ∃ S', B_X11_endContracts_57 p (L_X11_endContracts_2 p f) S1 (nI dn.length) (nI (127 + 6 * dn.length)) = some S' ∧ MP (gCt ((x :: l).foldl gFine g) (dn ++ ((x :: l).map srvE).filter kpc)) (S' p) ∧ ∀ a, a ≠ p → S' a = S a := by
      intro x' g' S1 e1 e2 ho eg ex hr hc hfr
      have hv1 : ∀ y : T6, oR y.2.2.2.2.1 → VL (gCt g' (dn ++ y :: l)) := by
        intro y hoy
        obtain ⟨v1, v2, v3, v4, v5⟩ := hv
        refine ⟨by simp only [gCt, e1]; exact v1, fun i hi => by simp only [gCt, e2]; exact v2 i hi, by simp only [gCt, List.length_append, List.length_cons]; omega, by simp only [gCt, e1]; exact v4, fun z hz => ?_⟩
        simp only [gCt, List.mem_append, List.mem_cons] at hz
        rcases hz with hz | hz | hz
        · exact v5 z (by simp only [gCt, List.mem_append]; exact Or.inl hz)
        · rw [hz]; exact hoy
        · exact v5 z (by simp only [gCt, List.mem_append, List.mem_cons]; exact Or.inr (Or.inr hz))
      have hget' : (gCt g' (dn ++ x' :: l)).2.2.2.2[dn.length]? = some x' := get_mid
      have hx' := hc.ct hget'
      have hc2 : MP (gCt g' (dn ++ end0 x' :: l)) (u2 S1 p (127 + 6 * dn.length + 5) 0 p) := by
        rw [u2_s]
        have t5 := M_ctW (k := dn.length) (a := end0 x') (r' := upd (S1 p) (127 + 6 * dn.length + 5) 0) hc (hv1 x' ho) (fun y hy => upd_ne (by omega)) (by
          simp (disch := omega) only [mct, upd_eq, upd_ne, hx']
          rfl)
        simp only [gCt, set_mid] at t5
        exact t5
      have hre : (end0 x').2.2.2.1 = x'.2.2.2.1 := rfl
      have hx3 : u2 S1 p (127 + 6 * dn.length + 5) 0 p (127 + 6 * dn.length + 3) = x'.2.2.2.1 := by
        rw [u2_ni (by omega)]; exact hx'.2.2.2.1
      unfold B_X11_endContracts_57
      simp (disch := omega) only [gbiN, gbvN, gstN, gviN, trackAt_ok, companyAt_ok, trainAt_ok, contractAt_ok, gck_nI, nI_c, nIp1, nIp2, nIp3, nIp4, nIp5, gck_c0, gck_c1, gck_c2, gck_c3, gck_c4, gck_c5, gck_c6, gck_c7, gck_c8, gck_c9, gck_c10, ix_c0, ix_c1, ix_c2, ix_c3, ix_c4, ix_c5, ix_c6, ix_c7, ix_c8, ix_c9, ix_c10, hx3]
      by_cases e0 : x'.2.2.2.1 = 0
      · rw [if_pos e0]
        obtain ⟨S2, d1, d2, d3⟩ := M_drop hc2 (hv1 _ ho)
        obtain ⟨S3, i1, i2, i3⟩ := ih dn g' S2 f d2 (by
          obtain ⟨v1, v2, v3, v4, v5⟩ := hv1 x' ho
          refine ⟨v1, v2, by simp only [gCt, List.length_append]; omega, v4, fun z hz => v5 z ?_⟩
          simp only [gCt, List.mem_append, List.mem_cons] at hz ⊢
          rcases hz with hz | hz
          · exact Or.inl hz
          · exact Or.inr (Or.inr hz)) hil hfl
        refine ⟨S3, by rw [d1, gbv_ok, i1], ?_, fun a ha => by rw [i3 a ha, d3 a ha, u2_n ha, hfr a ha]⟩
        have hk : kpc (srvE x) = false := by rw [← ex]; unfold kpc; rw [hre]; simp [hr.mp e0]
        rw [List.map_cons, List.filter_cons_of_neg (by rw [hk]; decide), List.foldl_cons, ← eg]
        exact i2
      · rw [if_neg e0]
        obtain ⟨S3, i1, i2, i3⟩ := ih (dn ++ [end0 x']) g' (u2 S1 p (127 + 6 * dn.length + 5) 0) f (by rw [List.append_assoc]; exact hc2) (by rw [List.append_assoc]; exact hv1 _ ho) hil hfl
        rw [List.length_append, List.length_singleton] at i1
        refine ⟨S3, i1, ?_, fun a ha => by rw [i3 a ha, u2_n ha, hfr a ha]⟩
        have hk : kpc (srvE x) = true := by rw [← ex]; unfold kpc; rw [hre, decide_eq_false (fun q => e0 (hr.mpr q))]; rfl
        rw [List.map_cons, List.filter_cons_of_pos hk, List.foldl_cons, ← eg, ← ex]
        rw [List.append_assoc] at i2
        exact i2
    have hcnt : S p 2 = nI (dn.length + (l.length + 1)) := by
      rw [h.2.2.2.2.1]
      simp only [gCt, List.length_append, List.length_cons]
    show ∃ S', Lb_X11_endContracts_2 p _ S (nI dn.length) = _ ∧ _
    unfold Lb_X11_endContracts_2
    simp (disch := omega) only [gbiN, gbvN, gstN, gviN, trackAt_ok, companyAt_ok, trainAt_ok, contractAt_ok, gck_nI, nI_c, nIp1, nIp2, nIp3, nIp4, nIp5, gck_c0, gck_c1, gck_c2, gck_c3, gck_c4, gck_c5, gck_c6, gck_c7, gck_c8, gck_c9, gck_c10, ix_c0, ix_c1, ix_c2, ix_c3, ix_c4, ix_c5, ix_c6, ix_c7, ix_c8, ix_c9, ix_c10, hcnt, hx.2.2.2.2.1, hx.2.2.2.2.2]
    rw [if_neg (by rw [nIle (by omega) (by omega)]; omega)]
    by_cases e : x.2.2.2.2.1 = -9
    · rw [if_pos e]
      refine step x g S rfl rfl hox (by unfold gFine; rw [if_pos e]) (by unfold srvE srvC; rw [if_pos e]) ?_ h (fun _ _ => rfl)
      rw [hk3, show (0 : Int32) = nI 0 from rfl, nI_inj (by omega) (by omega), nIle (by omega) (by omega)]
      omega
    · rw [if_neg e]
      obtain ⟨i, hi4, ei⟩ : ∃ i : Nat, i < 4 ∧ x.2.2.2.2.1 = nI i := by
        rcases hox with h9 | h9
        · exact absurd h9 e
        · exact h9
      have hr3 : (x.2.2.2.1 - 1 = 0 ↔ x.2.2.2.1 - 1 ≤ 0) := by
        rw [hk3]
        obtain ⟨k1, rfl⟩ : ∃ k1, kk = k1 + 1 := ⟨kk - 1, by omega⟩
        exact int_pred0 (by omega)
      by_cases e2 : x.2.2.2.2.2 = 0
      · rw [if_pos e2, ei]
        obtain ⟨S1, t1, t2, t3⟩ := M_toBank (x := 5) hv.1 hv.2.1 hv.2.2.1 h hi4
        have t4 := M_setSc (j := 8) (v := g.1 8 + 5) t2 (VL_bank hv) (by omega) (by omega) (by omega)
        rw [← u2_s] at t4
        have h7 : S1 p 8 = g.1 8 := t2.1.2.2.2.2.2.2.1
        have hq := t2.ct hget
        simp only [t1, gbvN, gstN, h7, gck_c8, ix_c8]
        unfold B_X11_endContracts_48
        simp (disch := omega) only [gbiN, gbvN, gstN, gviN, trackAt_ok, companyAt_ok, trainAt_ok, contractAt_ok, gck_nI, nI_c, nIp1, nIp2, nIp3, nIp4, nIp5, gck_c0, gck_c1, gck_c2, gck_c3, gck_c4, gck_c5, gck_c6, gck_c7, gck_c8, gck_c9, gck_c10, ix_c0, ix_c1, ix_c2, ix_c3, ix_c4, ix_c5, ix_c6, ix_c7, ix_c8, ix_c9, ix_c10, u2_eq, u2_ni, u2_nr, hq.2.2.2.1]
        refine step (srvC x) (gSc (gBank g i 5) 8 (g.1 8 + 5)) _ rfl rfl ?_ ?_ rfl ?_ ?_ (fun a ha => by simp only [u2_n ha]; exact t3 a ha)
        · unfold srvC
          rw [if_neg e]
          exact hox
        · unfold gFine
          rw [if_neg e, if_pos e2, ei, nI_c (by omega)]
        · unfold srvC
          rw [if_neg e]
          exact hr3
        · have t5 := M_ctW (k := dn.length) (a := srvC x) (r' := (u2 (u2 S1 p 8 (g.1 8 + 5)) p (127 + 6 * dn.length + 3) (x.2.2.2.1 - 1)) p) t4 hv (fun y hy => u2_ni (by omega)) (by
            simp (disch := omega) only [mct, u2_eq, u2_ni, u2_nr, hq]
            unfold srvC
            rw [if_neg e])
          simp only [gSc, gCt, gBank, gCo, set_mid] at t5 ⊢
          exact t5
      · rw [if_neg e2]
        unfold B_X11_endContracts_48
        simp (disch := omega) only [gbiN, gbvN, gstN, gviN, trackAt_ok, companyAt_ok, trainAt_ok, contractAt_ok, gck_nI, nI_c, nIp1, nIp2, nIp3, nIp4, nIp5, gck_c0, gck_c1, gck_c2, gck_c3, gck_c4, gck_c5, gck_c6, gck_c7, gck_c8, gck_c9, gck_c10, ix_c0, ix_c1, ix_c2, ix_c3, ix_c4, ix_c5, ix_c6, ix_c7, ix_c8, ix_c9, ix_c10, u2_eq, u2_ni, u2_nr, hx.2.2.2.1]
        refine step (srvC x) g _ rfl rfl ?_ ?_ rfl ?_ ?_ (fun a ha => u2_n ha)
        · unfold srvC
          rw [if_neg e]
          exact hox
        · unfold gFine
          rw [if_neg e, if_neg e2]
        · unfold srvC
          rw [if_neg e]
          exact hr3
        · have t5 := M_ctW (k := dn.length) (a := srvC x) (r' := (u2 S p (127 + 6 * dn.length + 3) (x.2.2.2.1 - 1)) p) h hv (fun y hy => u2_ni (by omega)) (by
            simp (disch := omega) only [mct, u2_eq, u2_ni, u2_nr, hx]
            unfold srvC
            rw [if_neg e])
          simp only [gCt, set_mid] at t5
          exact t5
