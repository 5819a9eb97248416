/-! ===== the reference's end of a round ===== -/
theorem M_br1 {p i : Nat} {g : Game} {S : Sg} (h : MP g (S p)) (hv : VL g) (hi : i < 4) : ∃ S1, f_X11_goBroke p (nI i) S = L_X11_goBroke_42 p gFu S1 (nI i) 0 ∧ MP (gBr1 g i) (S1 p) ∧ ∀ a, a ≠ p → S1 a = S a := by
  obtain ⟨S1, e1, h1, f1⟩ := M_toBank (x := g.2.2.1 i 0) hv.1 hv.2.1 hv.2.2.1 h hi
  have hc4 : S1 p (75 + 5 * i + 4) = g.2.2.1 i 4 := by
    have := (h1.2.2.1 i hi).2.2.2
    simpa [gBank, gSc, gCo] using this
  have h9 : S1 p 9 = g.1 9 := by
    have := h1.1.2.2.2.2.2.2.2.1
    simpa [gBank, gSc, gCo] using this
  refine ⟨u2 (u2 (u2 S1 p (75 + 5 * i + 2) 0) p (75 + 5 * i + 4) (g.2.2.1 i 4 + 1)) p 9 (g.1 9 + 1), ?_, ?_, fun a ha => by simp only [u2_n ha]; exact f1 a ha⟩
  · unfold f_X11_goBroke
    generalize hL : L_X11_goBroke_42 p gFu = LL
    simp (disch := omega) only [gbiN, gbvN, gstN, gviN, trackAt_ok, companyAt_ok, trainAt_ok, contractAt_ok, gck_nI, nI_c, nIp1, nIp2, nIp3, nIp4, nIp5, gck_c0, gck_c1, gck_c2, gck_c3, gck_c4, gck_c5, gck_c6, gck_c7, gck_c8, gck_c9, gck_c10, ix_c0, ix_c1, ix_c2, ix_c3, ix_c4, ix_c5, ix_c6, ix_c7, ix_c8, ix_c9, ix_c10, (h.2.2.1 i hi).1, e1, u2_eq, u2_ni, u2_nr, hc4, h9]
  · obtain ⟨hSc, hTr, hCo, hTn, hCt⟩ := h1
    simp only [u2_s]
    refine ⟨?_, ?_, ?_, ?_, ?_⟩
    · unfold MSc at hSc ⊢
      simp (disch := omega) only [upd_eq, upd_ne]
      simp [gBr1, gBank, gSc, gCo, gTn] at hSc ⊢
      simp [hSc]
    · exact MTr_fr hTr hv.1 (by simp (disch := omega) only [upd_ne]) (fun x _ _ => by simp (disch := omega) only [upd_ne])
    · intro j hj
      have h2 := hCo j hj
      by_cases e : j = i
      · subst e
        simp (disch := omega) only [upd_eq, upd_ne]
        simp [gBr1, gBank, gSc, gCo, gTn] at h2 ⊢
        simp [h2]
      · simp (disch := omega) only [upd_eq, upd_ne]
        simp [gBr1, gBank, gSc, gCo, gTn, e] at h2 ⊢
        simp [h2]
    · intro j hj
      have h2 := hTn j hj
      by_cases e : j = i
      · subst e
        simp only [gBr1, gSc, gCo, gTn, if_true, List.length_nil]
        exact ⟨by simp (disch := omega) only [upd_eq, upd_ne]; rfl, trivial⟩
      · simp only [gBr1, gSc, gCo, gTn, if_neg e]
        have h3 := hv.2.1 j hj
        exact ⟨by simp (disch := omega) only [upd_ne]; exact h2.1, Rp_congr (fun x _ hx => by
          have hx2 : x < 4 := by
            have : 0 + (g.2.2.2.1 j).length ≤ 4 := by omega
            exact Nat.lt_of_lt_of_le hx this
          simp (disch := omega) only [mtn, upd_ne]) h2.2⟩
    · exact MCt_fr hCt hv.2.2.1 (by simp (disch := omega) only [upd_ne]) (fun x _ _ => by simp (disch := omega) only [upd_ne])
theorem M_br {p i : Nat} {g : Game} {S : Sg} (h : MP g (S p)) (hv : VL g) (hi : i < 4) : ∃ S', f_X11_goBroke p (nI i) S = some S' ∧ MP (gBr2 g i) (S' p) ∧ ∀ a, a ≠ p → S' a = S a := by
  obtain ⟨S1, e1, c1, f1⟩ := M_br1 h hv hi
  have v1 : VL (gBr1 g i) := by
    obtain ⟨w1, w2, w3, w4, w5⟩ := hv
    refine ⟨w1, fun a ha => ?_, w3, w4, w5⟩
    simp only [gBr1, gSc, gCo, gTn]
    split
    · exact Nat.zero_le _
    · exact w2 a ha
  obtain ⟨S2, e2, c2, f2⟩ := M_brT_loop (i := i) g.2.1 [] (gBr1 g i) S1 gFu c1 v1 (by have := hv.1; unfold gFu; omega)
  have v2 : VL (gTr (gBr1 g i) (g.2.1.map (retT i))) := by
    obtain ⟨w1, w2, w3, w4, w5⟩ := v1
    refine ⟨by simp only [gTr, List.length_map]; exact w1, w2, w3, fun x hx => ?_, w5⟩
    simp only [gTr, List.mem_map] at hx
    obtain ⟨y, hy, rfl⟩ := hx
    show oR (if y.2.2.2 = nI i then -9 else y.2.2.2)
    split
    · exact Or.inl rfl
    · exact w4 y hy
  obtain ⟨S3, e3, c3, f3⟩ := M_brC_loop (i := i) g.2.2.2.2 [] (gTr (gBr1 g i) (g.2.1.map (retT i))) S2 gFu c2 v2 (by have := hv.2.2.1; unfold gFu; omega)
  simp only [List.length_nil, nI_0] at e2 e3
  exact ⟨S3, by rw [e1, e2, e3], c3, fun a ha => by rw [f3 a ha, f2 a ha, f1 a ha]⟩
theorem M_zr_loop {p i : Nat} {K : Sg → Int32 → Int32 → Option (Int32 × Sg)} {t : Int32} (hi : i < 4) : ∀ (l dn : List T2) (g : Game) (S : Sg) (fu : Nat), MP (gTn g i (dn ++ l)) (S p) → VL (gTn g i (dn ++ l)) → l.length < fu →
    ∃ S', L_X11_endOn_65 p K fu S t (nI i) (nI dn.length) = K S' t (nI (i + 1)) ∧ MP (gTn g i (dn ++ l.map zr)) (S' p) ∧ ∀ a, a ≠ p → S' a = S a := by
  intro l
  induction l with
  | nil =>
    intro dn g S fu h hv hf
    obtain ⟨f, rfl, -⟩ := fuS hf
    refine ⟨S, ?_, h, fun _ _ => rfl⟩
    show Lb_X11_endOn_65 p K _ S t (nI i) (nI dn.length) = _
    unfold Lb_X11_endOn_65
    have h1 := (h.2.2.2.1 i hi).1
    simp only [gTn, if_true, List.append_nil] at h1
    rw [trainsOf_ok hi, gbiN, h1, if_pos (Int32.le_refl _), gviN, nI_s]
  | cons x l ih =>
    intro dn g S fu h hv hf
    obtain ⟨f, rfl, hf⟩ := fuS hf
    have hlen : dn.length + (l.length + 1) ≤ 4 := by
      have := hv.2.1 i hi
      simp only [gTn, if_true, List.length_append, List.length_cons] at this
      exact this
    have h1 := h.2.2.2.1 i hi
    simp only [gTn, if_true, List.length_append, List.length_cons] at h1
    have hget : (dn ++ x :: l)[dn.length]? = some x := get_mid
    have hx := Rp_get0 h1.2 hget
    have hx1 : S p (95 + 8 * i + 2 * dn.length) = x.1 := congrArg (fun z : T2 => z.1) hx
    have c1 : MP (gTn g i (dn ++ zr x :: l)) (u2 S p (95 + 8 * i + 2 * dn.length + 1) 0 p) := by
      rw [u2_s]
      obtain ⟨hSc, hTr, hCo, hTn, hCt⟩ := h
      refine ⟨?_, ?_, ?_, ?_, ?_⟩
      · unfold MSc at hSc ⊢
        simp (disch := omega) only [upd_ne]
        exact hSc
      · exact MTr_fr hTr hv.1 (by simp (disch := omega) only [upd_ne]) (fun x _ _ => by simp (disch := omega) only [upd_ne])
      · exact MCo_fr hCo (fun i hi => by refine ⟨?_, ?_, ?_, ?_⟩ <;> simp (disch := omega) only [upd_ne])
      · intro a ha
        have h3 := hTn a ha
        have h4 := hv.2.1 a ha
        by_cases e : a = i
        · subst e
          simp only [gTn, if_true, List.length_append, List.length_cons] at h3 ⊢
          refine ⟨by simp (disch := omega) only [upd_ne]; exact h3.1, ?_⟩
          rw [← set_mid (x := x)]
          refine Rp_set h3.2 ?_ (fun y _ hy => ?_)
          · simp (disch := omega) only [mtn, upd_eq, upd_ne, hx1]
            rfl
          · simp (disch := omega) only [mtn, upd_ne]
        · simp only [gTn, if_neg e] at h3 h4 ⊢
          refine ⟨by simp (disch := omega) only [upd_ne]; exact h3.1, Rp_congr (fun y _ hy => ?_) h3.2⟩
          have h5 : 95 + 8 * a + 2 * y + 1 ≠ 95 + 8 * i + 2 * dn.length + 1 ∧ 95 + 8 * a + 2 * y ≠ 95 + 8 * i + 2 * dn.length + 1 := by omega
          simp (disch := omega) only [mtn, upd_ne]
      · exact MCt_fr hCt hv.2.2.1 (by simp (disch := omega) only [upd_ne]) (fun x _ _ => by simp (disch := omega) only [upd_ne])
    obtain ⟨S', e1, e2, e3⟩ := ih (dn ++ [zr x]) g (u2 S p (95 + 8 * i + 2 * dn.length + 1) 0) f (by rw [List.append_assoc]; exact c1) (VL_gTn (g := gTn g i (dn ++ x :: l)) (i := i) hv (by simp only [List.length_append, List.length_singleton]; omega) |> fun w => by
        obtain ⟨w1, w2, w3, w4, w5⟩ := w
        refine ⟨w1, fun a ha => ?_, w3, w4, w5⟩
        have := w2 a ha
        simp only [gTn] at this ⊢
        split at this
        · rename_i e; rw [if_pos e]; exact this
        · rename_i e; rw [if_neg e]; exact this) (by simp only [List.length_cons] at hf; omega)
    rw [List.length_append, List.length_singleton] at e1
    rw [List.append_assoc] at e2
    refine ⟨S', ?_, e2, fun a ha => by rw [e3 a ha, u2_n ha]⟩
    show Lb_X11_endOn_65 p K _ S t (nI i) (nI dn.length) = _
    unfold Lb_X11_endOn_65
    rw [trainsOf_ok hi, gbiN, h1.1, if_neg (by rw [nIle (by omega) (by omega)]; omega)]
    simp (disch := omega) only [gbiN, gbvN, gstN, gviN, trackAt_ok, companyAt_ok, trainAt_ok, contractAt_ok, gck_nI, nI_c, nIp1, nIp2, nIp3, nIp4, nIp5, gck_c0, gck_c1, gck_c2, gck_c3, gck_c4, gck_c5, gck_c6, gck_c7, gck_c8, gck_c9, gck_c10, ix_c0, ix_c1, ix_c2, ix_c3, ix_c4, ix_c5, ix_c6, ix_c7, ix_c8, ix_c9, ix_c10]
    exact e1
def gZs (g : Game) (i : Nat) : Game := (g.1, g.2.1, g.2.2.1, fun a => if a < i then (g.2.2.2.1 a).map zr else g.2.2.2.1 a, g.2.2.2.2.map end0)
theorem VL_gZs {g : Game} {i : Nat} (h : VL g) : VL (gZs g i) := by
  obtain ⟨h1, h2, h3, h4, h5⟩ := h
  refine ⟨h1, fun a ha => ?_, by simp only [gZs, List.length_map]; exact h3, h4, fun x hx => ?_⟩
  · simp only [gZs]
    split
    · rw [List.length_map]; exact h2 a ha
    · exact h2 a ha
  · simp only [gZs, List.mem_map] at hx
    obtain ⟨y, hy, rfl⟩ := hx
    exact h5 y hy
theorem MP_congr {g g' : Game} {r : Nat → Int32} (h : MP g r) (e1 : g'.1 = g.1) (e2 : g'.2.1 = g.2.1) (e3 : g'.2.2.1 = g.2.2.1) (e4 : ∀ a, a < 4 → g'.2.2.2.1 a = g.2.2.2.1 a) (e5 : g'.2.2.2.2 = g.2.2.2.2) : MP g' r := by
  obtain ⟨hSc, hTr, hCo, hTn, hCt⟩ := h
  exact ⟨by rw [e1]; exact hSc, by rw [e2]; exact hTr, by rw [e3]; exact hCo, MTn_congr hTn e4, by rw [e5]; exact hCt⟩
theorem M_settle_loop {p : Nat} : ∀ (m i : Nat) (g : Game) (t : Int32) (S : Sg) (fu : Nat), i + m = 4 → m < fu → MP (gZs g i) (S p) → VL g → ∃ S', L_X11_endOn_38 p fu S t (nI i) = some (bSt g i m t, S') ∧ MP (gZr (gSc (gSt g i m) 4 ((gSt g i m).1 4 + 1))) (S' p) ∧ ∀ a, a ≠ p → S' a = S a := by
  intro m
  induction m with
  | zero =>
    intro i g t S fu h hf hc hv
    obtain ⟨f, rfl, -⟩ := fuS hf
    have h4 : S p 4 = g.1 4 := hc.1.2.2.1
    refine ⟨u2 S p 4 (g.1 4 + 1), ?_, ?_, fun a ha => u2_n ha⟩
    · show Lb_X11_endOn_38 p _ S t (nI i) = _
      unfold Lb_X11_endOn_38
      rw [if_pos (by rw [show (4 : Int32) = nI 4 from rfl, nIle (by omega) (by omega)]; omega)]
      simp only [gck_c4, ix_c4, gstN, h4]
      rfl
    · rw [u2_s]
      refine MP_congr (M_setSc (j := 4) (v := g.1 4 + 1) hc (VL_gZs hv) (by omega) (by omega) (by omega)) rfl rfl rfl (fun a ha => ?_) rfl
      simp only [gZr, gSc, gZs, gSt]
      rw [if_pos (by omega)]
  | succ m ih =>
    intro i g t S fu h hf hc hv
    obtain ⟨f, rfl, hf⟩ := fuS hf
    have hi : i < 4 := by omega
    have hcoin : S p (75 + 5 * i) = g.2.2.1 i 0 := (hc.2.2.1 i hi).1
    -- clearing the trains, then the rest
    have step : ∀ (G : Game) (t' : Int32) (S1 : Sg), MP (gZs G i) (S1 p) → VL G → (∀ a, a ≠ p → S1 a = S a) → ∃ S', L_X11_endOn_65 p (L_X11_endOn_38 p f) gFu S1 t' (nI i) 0 = some (bSt G (i + 1) m t', S') ∧ MP (gZr (gSc (gSt G (i + 1) m) 4 ((gSt G (i + 1) m).1 4 + 1))) (S' p) ∧ ∀ a, a ≠ p → S' a = S a := by
      intro G t' S1 c1 v1 f1
      have c2 : MP (gTn (gZs G i) i ([] ++ G.2.2.2.1 i)) (S1 p) := MP_congr c1 rfl rfl rfl (fun a ha => by
        simp only [gTn, gZs, List.nil_append]
        split
        · rename_i e; subst e; rw [if_neg (by omega)]
        · rfl) rfl
      have v2 : VL (gTn (gZs G i) i ([] ++ G.2.2.2.1 i)) := VL_gTn (VL_gZs v1) (v1.2.1 i hi)
      obtain ⟨S2, e2, c3, f2⟩ := M_zr_loop (K := L_X11_endOn_38 p f) (t := t') hi (G.2.2.2.1 i) [] (gZs G i) S1 gFu c2 v2 (by have := v1.2.1 i hi; unfold gFu; omega)
      have c4 : MP (gZs G (i + 1)) (S2 p) := MP_congr c3 rfl rfl rfl (fun a ha => by
        simp only [gTn, gZs, List.nil_append]
        by_cases e : a = i
        · subst e; rw [if_pos (by omega), if_pos rfl]
        · rw [if_neg e]
          by_cases e2 : a < i
          · rw [if_pos e2, if_pos (by omega)]
          · rw [if_neg e2, if_neg (by omega)]) rfl
      obtain ⟨S3, e3, c5, f3⟩ := ih (i + 1) G t' S2 f (by omega) (by omega) c4 v1
      simp only [List.length_nil, nI_0] at e2
      exact ⟨S3, by rw [e2, e3], c5, fun a ha => by rw [f3 a ha, f2 a ha, f1 a ha]⟩
    show ∃ S', Lb_X11_endOn_38 p _ S t (nI i) = _ ∧ _
    unfold Lb_X11_endOn_38
    rw [if_neg (by rw [show (4 : Int32) = nI 4 from rfl, nIle (by omega) (by omega)]; omega)]
    rw [companyAt_ok, gbiN, gck_nI (by omega) (by omega), nI_c (by omega), hcoin]
    unfold bSt gSt
    by_cases e : 0 ≤ g.2.2.1 i 0
    · rw [if_pos e, if_pos e, if_pos e]
      exact step g t S hc hv (fun _ _ => rfl)
    · rw [if_neg e, if_neg e, if_neg e]
      obtain ⟨S1, e1, c1, f1⟩ := M_br hc (VL_gZs hv) hi
      have c2 : MP (gZs (gBr2 g i) i) (S1 p) := MP_congr c1 rfl rfl rfl (fun a ha => by
        simp only [gBr2, gCt, gTr, gBr1, gSc, gCo, gTn, gZs]
        by_cases e : a = i
        · subst e; simp
        · simp [e, gBank, gSc, gCo]) (by
        simp only [gBr2, gCt, gTr, gBr1, gSc, gCo, gTn, gZs, List.map_map]
        rfl)
      obtain ⟨S2, e2, c3, f2⟩ := step (gBr2 g i) (t ||| ((1 : Int32) <<< (nI i &&& 31))) S1 c2 (VL_br2 hv) f1
      rw [e1, gbvN, gviN, e2]
      refine ⟨S2, ?_, c3, f2⟩
      rw [bSt_congr (g := g) m (i + 1) _ (fun j hj => gBr2_co (by omega))]
theorem Zs0 {g : Game} {r : Nat → Int32} (h : MP (gEz g) r) : MP (gZs g 0) r := MP_congr h rfl rfl rfl (fun a _ => by simp only [gZs, gEz, gCt]; rw [if_neg (by omega)]) rfl
theorem gSet_eq (g : Game) : gSt (gMid g) 0 4 = gSet g := rfl
theorem M_end {p : Nat} {g : Game} {S : Sg} (h : MP g (S p)) (hv : VL g) (hi : ∀ x ∈ g.2.2.2.2, iR 1 9 x.2.2.2.1) : ∃ S', f_X11_endOn p S = some (bSt (gMid g) 0 4 0, S') ∧ MP (gEnd g) (S' p) ∧ ∀ a, a ≠ p → S' a = S a := by
  obtain ⟨S1, e1, c1, f1⟩ := M_serve h hv hi
  rw [fil_end] at c1
  have c1m : MP (gEz (gServe g)) (S1 p) := c1
  obtain ⟨S2, e2, c2, f2⟩ := M_up_loop 4 0 (gEz (gServe g)) S1 gFu rfl (by unfold gFu; omega) c1m (VL_E0 (VL_serve hv))
  rw [ups_E0] at c2
  have c2m : MP (gEz (gMid g)) (S2 p) := c2
  have c2z : MP (gZs (gMid g) 0) (S2 p) := Zs0 c2m
  obtain ⟨S3, e3, c3, f3⟩ := M_settle_loop 4 0 (gMid g) 0 S2 gFu rfl (by unfold gFu; omega) c2z (VL_mid hv)
  rw [gSet_eq] at c3
  have c3m : MP (gEnd g) (S3 p) := c3
  refine ⟨S3, ?_, c3m, fun a ha => by rw [f3 a ha, f2 a ha, f1 a ha]⟩
  unfold f_X11_endOn
  rw [nI_0] at e2 e3
  rw [e1, gbvN, e2, e3]
