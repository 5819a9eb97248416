/-! ===== the reference's purchase of a train ===== -/
theorem MTn_congr {tn tn' : Nat → List T2} {r : Nat → Int32} (h : MTn tn r) (e : ∀ i, i < 4 → tn' i = tn i) : MTn tn' r := fun i hi => by rw [e i hi]; exact h i hi
theorem M_rust1 {p i : Nat} {g : Game} {S : Sg} {least : Int32} (h : MP g (S p)) (hv : VL g) (hi : i < 4) : ∃ S', f_X11_rust p (nI i) least S = some (nI (g.2.2.2.1 i).length - nI ((g.2.2.2.1 i).filter (kpf least)).length, S') ∧ MP (gTn g i ((g.2.2.2.1 i).filter (kpf least))) (S' p) ∧ ∀ a, a ≠ p → S' a = S a := by
  have h1 := h.2.2.2.1 i hi
  have h2 := hv.2.1 i hi
  obtain ⟨S', e1, e2, e3, e4, e5⟩ := rust_in (p := p) (i := i) (least := least) hi (g.2.2.2.1 i) [] 0 (g.2.2.2.1 i).length S gFu (Nat.zero_add _) h2 (Nat.zero_le _) trivial h1.2 (by unfold gFu; omega)
  simp only [List.nil_append, List.length_nil] at e1 e2 e3
  refine ⟨S', ?_, ?_, e5⟩
  · unfold f_X11_rust
    rw [trainsOf_ok hi, gbi_ok, h1.1]
    exact e1
  · obtain ⟨hSc, hTr, hCo, hTn, hCt⟩ := h
    unfold OthM at e4
    refine ⟨?_, ?_, ?_, ?_, ?_⟩
    · unfold MSc at hSc ⊢
      simp (disch := omega) only [e4]
      exact hSc
    · exact MTr_fr hTr hv.1 (by simp (disch := omega) only [e4]) (fun x _ _ => by simp (disch := omega) only [e4])
    · exact MCo_fr hCo (fun i hi => by refine ⟨?_, ?_, ?_, ?_⟩ <;> simp (disch := omega) only [e4])
    · intro a ha
      have h3 := hTn a ha
      by_cases e : a = i
      · subst e
        simp only [gTn, if_true]
        exact ⟨e2, e3⟩
      · simp only [gTn, if_neg e]
        have h4 := hv.2.1 a ha
        refine ⟨by simp (disch := omega) only [e4]; exact h3.1, Rp_congr (fun x _ hx => ?_) h3.2⟩
        have h2 : (95 + 8 * a + 2 * x < 95 + 8 * i ∨ 95 + 8 * i + 8 ≤ 95 + 8 * a + 2 * x) ∧ (95 + 8 * a + 2 * x + 1 < 95 + 8 * i ∨ 95 + 8 * i + 8 ≤ 95 + 8 * a + 2 * x + 1) := by omega
        simp (disch := omega) only [mtn, e4]
    · exact MCt_fr hCt hv.2.2.1 (by simp (disch := omega) only [e4]) (fun x _ _ => by simp (disch := omega) only [e4])
theorem drs_congr {tn tn' : Nat → List T2} {least : Int32} : ∀ (m i : Nat) (t : Int32), (∀ a, i ≤ a → a < i + m → tn' a = tn a) → drs tn' least i m t = drs tn least i m t := by
  intro m
  induction m with
  | zero => intro i t _; rfl
  | succ m ih =>
    intro i t h
    unfold drs
    rw [h i (Nat.le_refl _) (by omega)]
    exact ih (i + 1) _ (fun a h1 h2 => h a (by omega) (by omega))
def gRf (g : Game) (least : Int32) (i : Nat) : Game := (g.1, g.2.1, g.2.2.1, fun a => if i ≤ a then (g.2.2.2.1 a).filter (kpf least) else g.2.2.2.1 a, g.2.2.2.2)
theorem VL_gTn {g : Game} {i : Nat} {l : List T2} (h : VL g) (hl : l.length ≤ 4) : VL (gTn g i l) := by
  obtain ⟨h1, h2, h3, h4, h5⟩ := h
  refine ⟨h1, fun a ha => ?_, h3, h4, h5⟩
  by_cases e : a = i
  · simp only [gTn, if_pos e]; exact hl
  · simp only [gTn, if_neg e]; exact h2 a ha
theorem M_rust_loop {p : Nat} : ∀ (m i : Nat) (g : Game) (tot : Int32) (S : Sg) (fu : Nat), i + m = 4 → m < fu → MP g (S p) → VL g →
    ∃ S', L_X11_buyTrainOn_63 p fu S tot (nI i) = some (drs g.2.2.2.1 (g.1 3 - 1) i m tot, S') ∧ MP (gSc (gRf g (g.1 3 - 1) i) 10 (g.1 10 + drs g.2.2.2.1 (g.1 3 - 1) i m tot)) (S' p) ∧ ∀ a, a ≠ p → S' a = S a := by
  intro m
  induction m with
  | zero =>
    intro i g tot S fu h hf hm hv
    obtain ⟨f, rfl, -⟩ := fuS hf
    refine ⟨u2 S p 10 (g.1 10 + tot), ?_, ?_, fun a ha => u2_n ha⟩
    · show Lb_X11_buyTrainOn_63 p _ S tot (nI i) = _
      unfold Lb_X11_buyTrainOn_63
      rw [if_pos (by rw [show (4 : Int32) = nI 4 from rfl, nIle (by omega) (by omega)]; omega)]
      simp only [gbi_ok, gbl_ok, gbn_ok, gbv_ok, gst_ok, gvi_ok, gvl_ok, trackAt_ok, companyAt_ok, trainAt_ok, contractAt_ok, gck_nI, nI_c, nIp1, nIp2, nIp3, nIp4, nIp5, gck_c0, gck_c1, gck_c2, gck_c3, gck_c4, gck_c5, gck_c6, gck_c7, gck_c8, gck_c9, gck_c10, ix_c0, ix_c1, ix_c2, ix_c3, ix_c4, ix_c5, ix_c6, ix_c7, ix_c8, ix_c9, ix_c10, hm.1.2.2.2.2.2.2.2.2]
      rfl
    · rw [u2_s]
      refine M_setSc (g := gRf g (g.1 3 - 1) i) (j := 10) ?_ ?_ (by omega) (by omega) (by omega)
      · obtain ⟨hSc, hTr, hCo, hTn, hCt⟩ := hm
        refine ⟨hSc, hTr, hCo, MTn_congr hTn (fun a ha => ?_), hCt⟩
        simp only [gRf]
        rw [if_neg (by omega)]
      · obtain ⟨h1, h2, h3, h4, h5⟩ := hv
        refine ⟨h1, fun a ha => ?_, h3, h4, h5⟩
        simp only [gRf]
        rw [if_neg (by omega)]
        exact h2 a ha
  | succ m ih =>
    intro i g tot S fu h hf hm hv
    obtain ⟨f, rfl, hf⟩ := fuS hf
    obtain ⟨S1, e1, m1, f1⟩ := M_rust1 (i := i) (least := g.1 3 - 1) hm hv (by omega)
    obtain ⟨S2, e2, m2, f2⟩ := ih (i + 1) (gTn g i ((g.2.2.2.1 i).filter (kpf (g.1 3 - 1)))) (tot + (nI (g.2.2.2.1 i).length - nI ((g.2.2.2.1 i).filter (kpf (g.1 3 - 1))).length)) S1 f (by omega) (by omega) m1 (VL_gTn hv (Nat.le_trans (List.length_filter_le _ _) (hv.2.1 i (by omega))))
    have ed : drs (gTn g i ((g.2.2.2.1 i).filter (kpf (g.1 3 - 1)))).2.2.2.1 (g.1 3 - 1) (i + 1) m (tot + (nI (g.2.2.2.1 i).length - nI ((g.2.2.2.1 i).filter (kpf (g.1 3 - 1))).length)) = drs g.2.2.2.1 (g.1 3 - 1) i (m + 1) tot := by
      rw [drs_congr (tn := g.2.2.2.1) m (i + 1) _ (fun a h1 _ => by simp only [gTn]; rw [if_neg (by omega)])]
      rfl
    have e3 : (gTn g i ((g.2.2.2.1 i).filter (kpf (g.1 3 - 1)))).1 = g.1 := rfl
    rw [e3, ed] at e2 m2
    refine ⟨S2, ?_, ?_, fun a ha => by rw [f2 a ha, f1 a ha]⟩
    · show Lb_X11_buyTrainOn_63 p _ S tot (nI i) = _
      unfold Lb_X11_buyTrainOn_63
      rw [if_neg (by rw [show (4 : Int32) = nI 4 from rfl, nIle (by omega) (by omega)]; omega)]
      simp only [gbi_ok, gbl_ok, gbn_ok, gbv_ok, gst_ok, gvi_ok, gvl_ok, trackAt_ok, companyAt_ok, trainAt_ok, contractAt_ok, gck_nI, nI_c, nIp1, nIp2, nIp3, nIp4, nIp5, gck_c0, gck_c1, gck_c2, gck_c3, gck_c4, gck_c5, gck_c6, gck_c7, gck_c8, gck_c9, gck_c10, ix_c0, ix_c1, ix_c2, ix_c3, ix_c4, ix_c5, ix_c6, ix_c7, ix_c8, ix_c9, ix_c10, hm.1.2.1, e1]
      exact e2
    · obtain ⟨hSc, hTr, hCo, hTn, hCt⟩ := m2
      refine ⟨hSc, hTr, hCo, MTn_congr hTn (fun a ha => ?_), hCt⟩
      simp only [gSc, gRf, gTn]
      by_cases h1 : a = i
      · subst h1
        rw [if_pos (Nat.le_refl _), if_neg (by omega), if_pos rfl]
      · by_cases h2 : i ≤ a
        · rw [if_pos h2, if_pos (by omega), if_neg h1]
        · rw [if_neg h2, if_neg (by omega), if_neg h1]
theorem gbiN {α : Type} {v : Int32} {s : Sg} {k : Int32 → Sg → Option α} : gbi (some (v, s)) k = k v s := Eq.trans gbi_ok (Eq.refl _)
theorem gbvN {α : Type} {s : Sg} {k : Sg → Option α} : gbv (some s) k = k s := Eq.trans gbv_ok (Eq.refl _)
theorem gstN {α : Type} {x : Sg} {k : Sg → Option α} : gst x k = k x := Eq.trans gst_ok (Eq.refl _)
theorem gviN {α : Type} {x : Int32} {k : Int32 → Option α} : gvi x k = k x := Eq.trans gvi_ok (Eq.refl _)
theorem M_sellN {p i : Nat} {g : Game} {S : Sg} {lv : Int32} (h : MP g (S p)) (hv : VL g) (hi : i < 4) (hl : (g.2.2.2.1 i).length < 4) (hlv : g.1 3 < lv → g.1 3 + 1 = lv) : ∃ S', f_X11_buyTrainOn p (nI i) lv S = some (rSellN g i lv, S') ∧ MP (gSellN g i lv) (S' p) ∧ ∀ a, a ≠ p → S' a = S a := by
  obtain ⟨S1, e1, h1, f1⟩ := M_toBank (x := 20 * lv) hv.1 hv.2.1 hv.2.2.1 h hi
  have hv2 : VL (gAddN (gBank g i (20 * lv)) i lv) := VL_addN (VL_bank hv) hl
  have h2 := M_addN (lv := lv) h1 (VL_bank hv) hi hl
  have hc : S1 p (75 + 5 * i + 2) = nI (g.2.2.2.1 i).length := (h1.2.2.2.1 i hi).1
  have hph : S1 p 3 = g.1 3 := h1.1.2.1
  rw [← u2_s, ← u2_s, ← u2_s] at h2
  have hb : (gBank g i (20 * lv)).2.2.2.1 = g.2.2.2.1 := rfl
  rw [hb] at h2
  unfold f_X11_buyTrainOn
  generalize hL : L_X11_buyTrainOn_63 p gFu = LL
  simp (disch := omega) only [gbiN, gbvN, gstN, gviN, trackAt_ok, companyAt_ok, trainAt_ok, contractAt_ok, gck_nI, nI_c, nIp1, nIp2, nIp3, nIp4, nIp5, gck_c0, gck_c1, gck_c2, gck_c3, gck_c4, gck_c5, gck_c6, gck_c7, gck_c8, gck_c9, gck_c10, ix_c0, ix_c1, ix_c2, ix_c3, ix_c4, ix_c5, ix_c6, ix_c7, ix_c8, ix_c9, ix_c10, u2_eq, u2_ni, u2_nr, e1, trainsOf_ok hi, hc, hph]
  unfold gSellN rSellN
  by_cases e : g.1 3 < lv
  · simp only [if_pos e]
    have h3 := M_setSc (j := 3) (v := lv) h2 hv2 (by omega) (by omega) (by omega)
    rw [← u2_s] at h3
    obtain ⟨S4, e4, h4, f4⟩ := M_rust_loop (p := p) 4 0 (gSc (gAddN (gBank g i (20 * lv)) i lv) 3 lv) 0 _ gFu rfl (by unfold gFu; omega) h3 hv2
    refine ⟨S4, ?_, ?_, fun a ha => by rw [f4 a ha]; simp only [u2_n ha]; exact f1 a ha⟩
    · rw [nI_0] at e4
      rw [hL] at e4
      rw [hlv e, e4]
      rfl
    · obtain ⟨hSc, hTr, hCo, hTn, hCt⟩ := h4
      exact ⟨hSc, hTr, hCo, MTn_congr hTn (fun a ha => rfl), hCt⟩
  · simp only [if_neg e]
    refine ⟨_, rfl, h2, fun a ha => by simp only [u2_n ha]; exact f1 a ha⟩
