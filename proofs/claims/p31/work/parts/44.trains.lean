/-! ===== buying trains: older ones rust ===== -/
def kpf (least : Int32) (x : T2) : Bool := !decide (x.1 < least)
def Oth (b i : Nat) (S S' : Sg) : Prop := (∀ a, a ≠ b + 18 → a ≠ b + 19 → a ≠ b + 20 → S' a = S a) ∧ (∀ x, x ≠ i → S' (b + 18) x = S (b + 18) x) ∧ ∀ x, (x < 4 * i ∨ 4 * i + 4 ≤ x) → S' (b + 19) x = S (b + 19) x ∧ S' (b + 20) x = S (b + 20) x
theorem Oth.tr {b i : Nat} {S S1 S2 : Sg} (h1 : Oth b i S S1) (h2 : Oth b i S1 S2) : Oth b i S S2 :=
  ⟨fun a x y z => (h2.1 a x y z).trans (h1.1 a x y z), fun x hx => (h2.2.1 x hx).trans (h1.2.1 x hx), fun x hx => ⟨(h2.2.2 x hx).1.trans (h1.2.2 x hx).1, (h2.2.2 x hx).2.trans (h1.2.2 x hx).2⟩⟩
theorem drop_in {b i : Nat} {least : Int32} (hi : i < 4) : ∀ (l kp : List T2) (j : Nat) (tot : Int32) (S : Sg) (K : Sg → Int32 → Int32 → Int32 → Option (Int32 × Sg)) (fu : Nat), S (b + 18) i = nI (j + l.length) → j + l.length ≤ 4 → kp.length ≤ j → Rp (ctn b S i) 0 kp → Rp (ctn b S i) j l → l.length < fu →
    ∃ S', L_X0_dropBelow_15 b K fu S least tot (nI i) (nI kp.length) (nI j) = K S' least (tot + (nI (j + l.length) - nI (kp ++ l.filter (kpf least)).length)) (nI (i + 1)) ∧ S' (b + 18) i = nI (kp ++ l.filter (kpf least)).length ∧ Rp (ctn b S' i) 0 (kp ++ l.filter (kpf least)) ∧ Oth b i S S' := by
  intro l
  induction l with
  | nil =>
    intro kp j tot S K fu hc hn hk hr1 hr2 hf
    obtain ⟨f, rfl, -⟩ := fuS hf
    refine ⟨u2 S (b + 18) i (nI kp.length), ?_, ?_, ?_, ?_⟩
    · show Lb_X0_dropBelow_15 b K _ S least tot (nI i) (nI kp.length) (nI j) = _
      unfold Lb_X0_dropBelow_15
      simp (disch := omega) only [gbi_ok, gbl_ok, gbn_ok, gbv_ok, gst_ok, gvi_ok, gvl_ok, at_ok, put_ok, at_4, put_4, at_0, place_ok, hc]
      rw [if_pos (by simp)]
      simp (disch := omega) only [nI_s, List.filter_nil, List.append_nil]
    · simp only [u2_eq, List.filter_nil, List.append_nil]
    · simp only [List.filter_nil, List.append_nil]
      exact Rp_congr (fun x _ _ => by simp (disch := omega) only [ctn, u2_eq, u2_ni, u2_nr]) hr1
    · exact ⟨fun a x y z => u2_n x, fun x hx => u2_ni hx, fun x _ => ⟨by simp (disch := omega) only [u2_eq, u2_ni, u2_nr], by simp (disch := omega) only [u2_eq, u2_ni, u2_nr]⟩⟩
  | cons a l ih =>
    intro kp j tot S K fu hc hn hk hr1 hr2 hf
    obtain ⟨f, rfl, hf⟩ := fuS hf
    simp only [List.length_cons] at hc hn hf
    have h9 : S (b + 19) (4 * i + j) = a.1 := congrArg (fun z : T2 => z.1) hr2.1
    have h0 : S (b + 20) (4 * i + j) = a.2 := congrArg (fun z : T2 => z.2) hr2.1
    by_cases ha : a.1 < least
    · obtain ⟨S', e1, e2, e3, e4⟩ := ih kp (j + 1) tot S K f (by rw [hc]; congr 1; omega) (by omega) (by omega) hr1 hr2.2 (by omega)
      have hfl : (a :: l).filter (kpf least) = l.filter (kpf least) := by simp [kpf, ha]
      refine ⟨S', ?_, by rw [hfl]; exact e2, by rw [hfl]; exact e3, e4⟩
      show Lb_X0_dropBelow_15 b K _ S least tot (nI i) (nI kp.length) (nI j) = _
      unfold Lb_X0_dropBelow_15
      simp (disch := omega) only [gbi_ok, gbl_ok, gbn_ok, gbv_ok, gst_ok, gvi_ok, gvl_ok, at_ok, put_ok, at_4, put_4, at_0, place_ok, hc, h9]
      rw [if_neg (by rw [nIle (by omega) (by omega)]; omega), if_pos ha, nI_s, e1, hfl]
      simp only [List.length_cons]
      rw [show j + 1 + l.length = j + (l.length + 1) by omega]
    · have r1 : Rp (ctn b (u2 (u2 S (b + 19) (4 * i + kp.length) a.1) (b + 20) (4 * i + kp.length) a.2) i) 0 (kp ++ [a]) := by
        refine Rp_push hr1 ?_ (fun x hx => ?_)
        · simp (disch := omega) only [ctn, u2_eq, u2_ni, u2_nr]
        · simp (disch := omega) only [ctn, u2_eq, u2_ni, u2_nr]
      have r2 : Rp (ctn b (u2 (u2 S (b + 19) (4 * i + kp.length) a.1) (b + 20) (4 * i + kp.length) a.2) i) (j + 1) l :=
        Rp_congr (fun x h1 _ => by simp (disch := omega) only [ctn, u2_eq, u2_ni, u2_nr]) hr2.2
      obtain ⟨S', e1, e2, e3, e4⟩ := ih (kp ++ [a]) (j + 1) tot (u2 (u2 S (b + 19) (4 * i + kp.length) a.1) (b + 20) (4 * i + kp.length) a.2) K f (by simp (disch := omega) only [u2_eq, u2_ni, u2_nr]; rw [hc]; congr 1; omega) (by omega) (by simp; omega) r1 r2 (by omega)
      have hfl : kp ++ (a :: l).filter (kpf least) = kp ++ [a] ++ l.filter (kpf least) := by simp [kpf, ha]
      refine ⟨S', ?_, by rw [hfl]; exact e2, by rw [hfl]; exact e3, Oth.tr ⟨fun x h1 h2 h3 => by simp (disch := omega) only [u2_n], fun x _ => by simp (disch := omega) only [u2_eq, u2_ni, u2_nr], fun x hx => ⟨by simp (disch := omega) only [u2_eq, u2_ni, u2_nr], by simp (disch := omega) only [u2_eq, u2_ni, u2_nr]⟩⟩ e4⟩
      show Lb_X0_dropBelow_15 b K _ S least tot (nI i) (nI kp.length) (nI j) = _
      unfold Lb_X0_dropBelow_15
      simp (disch := omega) only [gbi_ok, gbl_ok, gbn_ok, gbv_ok, gst_ok, gvi_ok, gvl_ok, at_ok, put_ok, at_4, put_4, at_0, place_ok, u2_eq, u2_ni, u2_nr, hc, h9, h0]
      rw [if_neg (by rw [nIle (by omega) (by omega)]; omega), if_neg ha, nI_s, nI_s]
      have hlen : (kp ++ [a]).length = kp.length + 1 := by simp
      rw [hlen] at e1
      rw [e1, hfl]
      simp only [List.length_cons]
      rw [show j + 1 + l.length = j + (l.length + 1) by omega]
def drs (tn : Nat → List T2) (least : Int32) : Nat → Nat → Int32 → Int32
  | _, 0, t => t
  | i, m + 1, t => drs tn least (i + 1) m (t + (nI (tn i).length - nI ((tn i).filter (kpf least)).length))
theorem drop_out {b : Nat} {least : Int32} {tn : Nat → List T2} (hl : ∀ a, a < 4 → (tn a).length ≤ 4) : ∀ (m i : Nat) (tot : Int32) (S : Sg) (fu : Nat), i + m = 4 → m < fu → (∀ a, i ≤ a → a < 4 → S (b + 18) a = nI (tn a).length ∧ Rp (ctn b S a) 0 (tn a)) →
    ∃ S', L_X0_dropBelow_4 b fu S least tot (nI i) = some (drs tn least i m tot, S') ∧ (∀ a, i ≤ a → a < 4 → S' (b + 18) a = nI ((tn a).filter (kpf least)).length ∧ Rp (ctn b S' a) 0 ((tn a).filter (kpf least))) ∧ (∀ a, a ≠ b + 18 → a ≠ b + 19 → a ≠ b + 20 → S' a = S a) ∧ (∀ x, x < i → S' (b + 18) x = S (b + 18) x) ∧ ∀ x, x < 4 * i → S' (b + 19) x = S (b + 19) x ∧ S' (b + 20) x = S (b + 20) x := by
  intro m
  induction m with
  | zero =>
    intro i tot S fu h hf ht
    obtain ⟨f, rfl, -⟩ := fuS hf
    refine ⟨S, ?_, fun a h1 h2 => by omega, fun _ _ _ _ => rfl, fun _ _ => rfl, fun _ _ => ⟨rfl, rfl⟩⟩
    show Lb_X0_dropBelow_4 b _ S least tot (nI i) = _
    unfold Lb_X0_dropBelow_4
    rw [if_pos (by rw [show (4 : Int32) = nI 4 from rfl, nIle (by omega) (by omega)]; omega)]
    rfl
  | succ m ih =>
    intro i tot S fu h hf ht
    obtain ⟨f, rfl, hf⟩ := fuS hf
    have h1 := ht i (Nat.le_refl _) (by omega)
    have h2 := hl i (by omega)
    obtain ⟨S1, e1, e2, e3, e4⟩ := drop_in (b := b) (i := i) (least := least) (by omega) (tn i) [] 0 tot S (L_X0_dropBelow_4 b f) gFu (by rw [Nat.zero_add]; exact h1.1) (by omega) (Nat.zero_le _) trivial h1.2 (by unfold gFu; omega)
    simp only [List.nil_append, Nat.zero_add, List.length_nil] at e1 e2 e3
    obtain ⟨S2, d1, d2, d3, d4, d5⟩ := ih (i + 1) (tot + (nI (tn i).length - nI ((tn i).filter (kpf least)).length)) S1 f (by omega) (by omega) (fun a ha1 ha2 => by
      have h3 := ht a (by omega) ha2
      refine ⟨by rw [e4.2.1 a (by omega)]; exact h3.1, Rp_congr (fun x _ hx => ?_) h3.2⟩
      have := hl a ha2
      have h5 := e4.2.2 (4 * a + x) (by omega)
      simp only [ctn, h5.1, h5.2])
    refine ⟨S2, ?_, fun a ha1 ha2 => ?_, fun a x y z => by rw [d3 a x y z, e4.1 a x y z], fun x hx => by rw [d4 x (by omega), e4.2.1 x (by omega)], fun x hx => ?_⟩
    · show Lb_X0_dropBelow_4 b _ S least tot (nI i) = _
      unfold Lb_X0_dropBelow_4
      rw [if_neg (by rw [show (4 : Int32) = nI 4 from rfl, nIle (by omega) (by omega)]; omega)]
      rw [show (0 : Int32) = nI 0 from rfl, e1, d1]
      rfl
    · rcases Nat.lt_or_ge i a with h3 | h3
      · exact d2 a h3 ha2
      · have : a = i := by omega
        subst this
        refine ⟨by rw [d4 a (by omega)]; exact e2, Rp_congr (fun x _ hx => ?_) e3⟩
        have hle : ((tn a).filter (kpf least)).length ≤ (tn a).length := List.length_filter_le _ _
        have h5 := d5 (4 * a + x) (by omega)
        simp only [ctn, h5.1, h5.2]
    · have h5 := d5 x (by omega)
      have h6 := e4.2.2 x (by omega)
      exact ⟨h5.1.trans h6.1, h5.2.trans h6.2⟩
def gRust (g : Game) (least : Int32) : Game := (g.1, g.2.1, g.2.2.1, fun a => (g.2.2.2.1 a).filter (kpf least), g.2.2.2.2)
theorem C_drop {b : Nat} {g : Game} {S : Sg} {least : Int32} (h : CP b g S) (hv : VL g) : ∃ S', f_X0_dropBelow b least S = some (drs g.2.2.2.1 least 0 4 0, S') ∧ CP b (gRust g least) S' ∧ Fr b S S' := by
  obtain ⟨S', e1, e2, e3, -, -⟩ := drop_out (b := b) (least := least) hv.2.1 4 0 0 S gFu rfl (by unfold gFu; omega) (fun a _ ha => h.2.2.2.1 a ha)
  obtain ⟨hSc, hTr, hCo, hTn, hCt⟩ := h
  refine ⟨S', e1, ⟨?_, ?_, ?_, ?_, ?_⟩, fun k hk => e3 k (by omega) (by omega) (by omega)⟩
  · unfold CSc at hSc ⊢
    simp (disch := omega) only [e3]
    exact hSc
  · apply CTr_fr hTr <;> (apply e3 <;> omega)
  · exact CCo_fr hCo (fun i _ => by rw [e3 (b + 14) (by omega) (by omega) (by omega)]) (e3 _ (by omega) (by omega) (by omega)) (e3 _ (by omega) (by omega) (by omega)) (e3 _ (by omega) (by omega) (by omega))
  · exact fun i hi => e2 i (Nat.zero_le _) hi
  · apply CCt_fr hCt <;> (apply e3 <;> omega)
/-! the reference's -/
def OthM (i : Nat) (r r' : Nat → Int32) : Prop := ∀ x, x ≠ 75 + 5 * i + 2 → (x < 95 + 8 * i ∨ 95 + 8 * i + 8 ≤ x) → r' x = r x
