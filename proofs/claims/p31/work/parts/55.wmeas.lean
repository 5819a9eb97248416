/-! ===== ways: the class's table, choice and path ===== -/
/-- the rows while length L is worked on, the tracks dn done -/
def WI (ks : List TK) (goal L : Nat) (dn : List TK) (S : Sg) : Prop :=
  (∀ L' c, L' < L → c < 9 → S 10 (9 * L' + c) = nI (wA ks goal L' c) ∧ (1 ≤ L' → wA ks goal L' c < UN → S 11 (9 * L' + c) = nI (wO ks goal L' c))) ∧
  (∀ c, c < 9 → S 10 (9 * L + c) = nI (rf (wA ks goal) L c dn 0 (UN, 0)).1 ∧ ((rf (wA ks goal) L c dn 0 (UN, 0)).1 < UN → S 11 (9 * L + c) = nI (rf (wA ks goal) L c dn 0 (UN, 0)).2)) ∧
  (∀ L' c, L < L' → L' ≤ 24 → c < 9 → S 10 (9 * L' + c) = nI UN)
def PR (ks : List TK) (S : Sg) : Prop := ∀ (k : Nat) (t : TK), ks[k]? = some t → S 12 k = nI t.2.2.2
theorem ix9 {L L' c c' : Nat} (hc : c < 9) (hc' : c' < 9) : 9 * L + c = 9 * L' + c' ↔ L = L' ∧ c = c' := by omega
theorem wst_un {T : Nat → Nat → Nat} {L c k : Nat} {s : Nat × Nat} {t : TK} (h1 : t.1 ≠ c) (h2 : t.2.1 ≠ c) (hs : s.1 ≤ UN) : wst T L c s k t = s := by
  have e : thr T L c t = UN := by
    unfold thr
    rw [if_neg h1, if_neg h2]
    split <;> rfl
  unfold wst
  rw [e, if_neg (by omega)]
/-- one of the two ways over a track -/
theorem half {b goal L : Nat} {ks : List TK} {cc : Nat} {S : Sg} {k x y len p : Nat} {s : Nat × Nat} {th : Nat} (hk : k < 16) (hx : x < 9) (hy : y < 9) (h1 : 1 ≤ len) (h9 : len ≤ 9) (hp : S 12 k = nI p) (hpp : p ≤ 81) (hL : L ≤ 24) (hL1 : 1 ≤ L)
    (hlow : len ≤ L → S 10 (9 * (L - len) + y) = nI (wA ks goal (L - len) y)) (hle : ∀ L' c', wA ks goal L' c' ≤ UN)
    (hcell : S 10 (9 * L + x) = nI s.1) (hs : s.1 ≤ UN) (hO : s.1 < UN → S 11 (9 * L + x) = nI s.2)
    (hth : th = if len ≤ L then wA ks goal (L - len) y + p else UN) :
    ∃ x6 S', f_X9_place (nI L - nI len) (nI y) S = some (x6, S) ∧ f_X9_beginWith (nI k) (nI (9 * L + x)) x6 S = some S' ∧ S' 10 (9 * L + x) = nI (if th < s.1 then (th, k) else s).1 ∧ ((if th < s.1 then (th, k) else s).1 < UN → S' 11 (9 * L + x) = nI (if th < s.1 then (th, k) else s).2) ∧ (∀ z, z ≠ 9 * L + x → S' 10 z = S 10 z ∧ S' 11 z = S 11 z) ∧ ∀ a, a ≠ 10 → a ≠ 11 → S' a = S a := by
  by_cases e : len ≤ L
  · rw [if_pos e] at hth
    obtain ⟨S', b1, b2, b3, b4, b5⟩ := bw (k := k) (w := 9 * L + x) (v := wA ks goal (L - len) y) (p := p) (th := th) (R := nI (9 * (L - len) + y)) (S := S) (s := s) (by rw [la_ok (by omega), hlow e]) hp hk (by omega) hcell hs (hle _ _) hpp hO (by rw [hth]) (fun _ => hth)
    exact ⟨nI (9 * (L - len) + y), S', by rw [pk_sub e]; exact wplace, b1, b2, b3, b4, b5⟩
  · rw [if_neg e] at hth
    obtain ⟨x6, hx6, hpl⟩ := wplace_neg (L := L) (l := len) (c := y) (S := S) (by omega) h9 hy
    obtain ⟨S', b1, b2, b3, b4, b5⟩ := bw (k := k) (w := 9 * L + x) (v := UN) (p := p) (th := th) (R := x6) (S := S) (s := s) (la_neg hx6) hp hk (by omega) hcell hs (Nat.le_refl _) hpp hO (by rw [hth]; omega) (fun q => by rw [hth] at q; omega)
    exact ⟨x6, S', hpl, b1, b2, b3, b4, b5⟩
theorem track_step {b goal L cc k : Nat} {ks dn : List TK} {t : TK} {S : Sg} (hk : k < 16) (hkd : dn.length = k) (hcc : cc ≤ 9) (ht : t.1 < cc ∧ t.2.1 < cc ∧ t.1 ≠ t.2.1 ∧ 1 ≤ t.2.2.1 ∧ t.2.2.1 ≤ 9 ∧ t.2.2.2 ≤ 81) (hL : L ≤ 24) (hL1 : 1 ≤ L) (hw : WI ks goal L dn S) (hp : S 12 k = nI t.2.2.2) (hle : ∀ L' c', wA ks goal L' c' ≤ UN) :
    ∃ x6 S1 x7 S2, f_X9_place (nI L - nI t.2.2.1) (nI t.2.1) S = some (x6, S) ∧ f_X9_beginWith (nI k) (nI (9 * L + t.1)) x6 S = some S1 ∧ f_X9_place (nI L - nI t.2.2.1) (nI t.1) S1 = some (x7, S1) ∧ f_X9_beginWith (nI k) (nI (9 * L + t.2.1)) x7 S1 = some S2 ∧ WI ks goal L (dn ++ [t]) S2 ∧ (∀ a, a ≠ 10 → a ≠ 11 → S1 a = S a) ∧ ∀ a, a ≠ 10 → a ≠ 11 → S2 a = S a := by
  obtain ⟨ha, hb, hab, hl1, hl9, hpp⟩ := ht
  obtain ⟨w1, w2, w3⟩ := hw
  have hsle : ∀ c, (rf (wA ks goal) L c dn 0 (UN, 0)).1 ≤ UN := fun c => rf_le dn 0 (UN, 0)
  have hlow : ∀ y, y < 9 → t.2.2.1 ≤ L → S 10 (9 * (L - t.2.2.1) + y) = nI (wA ks goal (L - t.2.2.1) y) := fun y hy _ => (w1 _ y (by omega) hy).1
  have th1 : thr (wA ks goal) L t.1 t = if t.2.2.1 ≤ L then wA ks goal (L - t.2.2.1) t.2.1 + t.2.2.2 else UN := by
    unfold thr; simp
  have th2 : thr (wA ks goal) L t.2.1 t = if t.2.2.1 ≤ L then wA ks goal (L - t.2.2.1) t.1 + t.2.2.2 else UN := by
    unfold thr; simp [hab]
  obtain ⟨x6, S1, a1, a2, a3, a4, a5, a6⟩ := half (b := b) (cc := cc) (ks := ks) (goal := goal) (x := t.1) (y := t.2.1) (s := rf (wA ks goal) L t.1 dn 0 (UN, 0)) (th := thr (wA ks goal) L t.1 t) hk (by omega) (by omega) hl1 hl9 hp hpp hL hL1 (hlow _ (by omega)) hle (w2 _ (by omega)).1 (hsle _) (w2 _ (by omega)).2 th1
  have hne : 9 * L + t.2.1 ≠ 9 * L + t.1 := by omega
  obtain ⟨x7, S2, b1, b2, b3, b4, b5, b6⟩ := half (b := b) (cc := cc) (ks := ks) (goal := goal) (S := S1) (x := t.2.1) (y := t.1) (s := rf (wA ks goal) L t.2.1 dn 0 (UN, 0)) (th := thr (wA ks goal) L t.2.1 t) hk (by omega) (by omega) hl1 hl9 (by rw [a6 12 (by omega) (by omega)]; exact hp) hpp hL hL1 (fun h => by rw [(a5 _ (by omega)).1]; exact hlow _ (by omega) h) hle (by rw [(a5 _ hne).1]; exact (w2 _ (by omega)).1) (hsle _) (fun h => by rw [(a5 _ hne).2]; exact (w2 _ (by omega)).2 h) th2
  refine ⟨x6, S1, x7, S2, a1, a2, b1, b2, ⟨fun L' c hL' hc => ?_, fun c hc => ?_, fun L' c hL' h24 hc => ?_⟩, a6, fun a h1 h2 => by rw [b6 a h1 h2, a6 a h1 h2]⟩
  · have n1 : 9 * L' + c ≠ 9 * L + t.1 := by omega
    have n2 : 9 * L' + c ≠ 9 * L + t.2.1 := by omega
    rw [(b5 _ n2).1, (a5 _ n1).1, (b5 _ n2).2, (a5 _ n1).2]
    exact w1 L' c hL' hc
  · rw [rf_snoc, hkd]
    by_cases e1 : c = t.1
    · subst e1
      rw [(b5 _ (Ne.symm hne)).1, (b5 _ (Ne.symm hne)).2]
      exact ⟨a3, a4⟩
    · by_cases e2 : c = t.2.1
      · subst e2
        exact ⟨b3, b4⟩
      · rw [wst_un (Ne.symm e1) (Ne.symm e2) (hsle _)]
        have n1 : 9 * L + c ≠ 9 * L + t.1 := by omega
        have n2 : 9 * L + c ≠ 9 * L + t.2.1 := by omega
        rw [(b5 _ n2).1, (a5 _ n1).1, (b5 _ n2).2, (a5 _ n1).2]
        exact w2 c hc
  · have n1 : 9 * L' + c ≠ 9 * L + t.1 := by omega
    have n2 : 9 * L' + c ≠ 9 * L + t.2.1 := by omega
    rw [(b5 _ n2).1, (a5 _ n1).1]
    exact w3 L' c hL' h24 hc
theorem meas_in {b goal L cc i : Nat} {ks : List TK} {g : Game} {rc : Int32} {K : Sg → Int32 → Int32 → Option Sg} (hb : 14 ≤ b) (hcc : cc ≤ 9) (hK : VK cc ks) (hT : KT g i ks) (hL : L ≤ 24) (hL1 : 1 ≤ L) (hle : ∀ L' c', wA ks goal L' c' ≤ UN) : ∀ (l dn : List TK) (S : Sg) (fu : Nat), ks = dn ++ l → CP b g S → WI ks goal L dn S → PR ks S → l.length < fu →
    ∃ S', L_X9_measure_34 b K fu S rc (nI L) (nI dn.length) = K S' rc (nI (L + 1)) ∧ WI ks goal L ks S' ∧ ∀ a, a ≠ 10 → a ≠ 11 → S' a = S a := by
  intro l
  induction l with
  | nil =>
    intro dn S fu hks h hw hpr hf
    obtain ⟨f, rfl, -⟩ := fuS hf
    rw [List.append_nil] at hks
    refine ⟨S, ?_, by rw [hks] at hw ⊢; exact hw, fun _ _ _ => rfl⟩
    show Lb_X9_measure_34 b K _ S rc (nI L) (nI dn.length) = _
    unfold Lb_X9_measure_34
    rw [h.2.1.1, ← hT.1, hks, if_pos (Int32.le_refl _), gviN, nI_s]
  | cons t l ih =>
    intro dn S fu hks h hw hpr hf
    obtain ⟨f, rfl, hf⟩ := fuS hf
    have hlen : dn.length + (l.length + 1) ≤ 16 := by
      have := hK.1
      rw [hks] at this
      simp only [List.length_append, List.length_cons] at this
      exact this
    have hget : ks[dn.length]? = some t := by rw [hks]; exact get_mid
    obtain ⟨a, ha, r1, r2, r3, -⟩ := hT.2 _ t hget
    have h1 := h.tr ha
    obtain ⟨x6, S1, x7, S2, p1, p2, p3, p4, p5, p6, p7⟩ := track_step (b := b) (by omega) rfl hcc (hK.2 t (mem_get hget)) hL hL1 hw (hpr _ t hget) hle
    have fw : FrW S S2 := fun k hk => p7 k (by omega) (by omega)
    have fw1 : FrW S S1 := fun k hk => p6 k (by omega) (by omega)
    have h1' := (CP_w h hb fw1).tr ha
    obtain ⟨S', e1, e2, e3⟩ := ih (dn ++ [t]) S2 f (by rw [List.append_assoc]; exact hks) (CP_w h hb fw) p5 (fun k t' hk => by rw [p7 12 (by omega) (by omega)]; exact hpr k t' hk) (by simp only [List.length_cons] at hf; omega)
    refine ⟨S', ?_, e2, fun c h1 h2 => by rw [e3 c h1 h2, p7 c h1 h2]⟩
    rw [List.length_append, List.length_singleton] at e1
    show Lb_X9_measure_34 b K _ S rc (nI L) (nI dn.length) = _
    unfold Lb_X9_measure_34
    have hcnt : g.2.1.length = dn.length + (l.length + 1) := by
      rw [← hT.1, hks]
      simp only [List.length_append, List.length_cons]
    rw [h.2.1.1, hcnt, if_neg (by rw [nIle (by omega) (by omega)]; omega)]
    rw [at_ok (by omega) (by omega), gbiN, h1.2.2.1, r3, gviN, at_ok (by omega) (by omega), gbiN, h1.1, r1, wplace, gbiN, at_ok (by omega) (by omega), gbiN, h1.2.1, r2, p1, gbiN, p2, gbvN]
    rw [at_ok (by omega) (by omega), gbiN, h1'.2.1, r2, wplace, gbiN, at_ok (by omega) (by omega), gbiN, h1'.1, r1, p3, gbiN, p4, gbvN, gviN, nI_s]
    exact e1
theorem WI_next {ks : List TK} {goal L : Nat} {S : Sg} (hk : ∀ t ∈ ks, 1 ≤ t.2.2.1) (hL : L + 1 ≤ 24) (hL1 : 1 ≤ L) (h : WI ks goal L ks S) : WI ks goal (L + 1) [] S := by
  obtain ⟨w1, w2, w3⟩ := h
  refine ⟨fun L' c hL' hc => ?_, fun c hc => ⟨w3 (L + 1) c (by omega) hL hc, fun q => absurd q (Nat.lt_irrefl _)⟩, fun L' c h1 h2 h3 => w3 L' c (by omega) h2 h3⟩
  by_cases e : L' = L
  · subst e
    have := w2 c hc
    rw [← wA_p hk hL1] at this
    exact ⟨this.1, fun _ q => this.2 q⟩
  · exact w1 L' c (by omega) hc
/-- the finished table, up to length L -/
def WD (ks : List TK) (goal L : Nat) (S : Sg) : Prop := ∀ L' c, L' ≤ L → c < 9 → S 10 (9 * L' + c) = nI (wA ks goal L' c) ∧ (1 ≤ L' → wA ks goal L' c < UN → S 11 (9 * L' + c) = nI (wO ks goal L' c))
theorem WI_done {ks : List TK} {goal L : Nat} {S : Sg} (hk : ∀ t ∈ ks, 1 ≤ t.2.2.1) (hL1 : 1 ≤ L) (h : WI ks goal L ks S) : WD ks goal L S := by
  obtain ⟨w1, w2, w3⟩ := h
  intro L' c hL' hc
  by_cases e : L' = L
  · subst e
    have := w2 c hc
    rw [← wA_p hk hL1] at this
    exact ⟨this.1, fun _ q => this.2 q⟩
  · exact w1 L' c (by omega) hc
theorem meas_out {b goal cc i rr : Nat} {ks : List TK} {g : Game} (hb : 14 ≤ b) (hcc : cc ≤ 9) (hK : VK cc ks) (hT : KT g i ks) (hrr : rr ≤ 24) (hle : ∀ L' c', wA ks goal L' c' ≤ UN) : ∀ (m L : Nat) (S : Sg) (fu : Nat), L + m = rr + 1 → m < fu → 1 ≤ L → CP b g S → (L ≤ rr → WI ks goal L [] S) → (rr < L → WD ks goal rr S) → PR ks S →
    ∃ S', L_X9_measure_25 b fu S (nI rr) (nI L) = some S' ∧ WD ks goal rr S' ∧ ∀ a, a ≠ 10 → a ≠ 11 → S' a = S a := by
  intro m
  induction m with
  | zero =>
    intro L S fu h hf hL hc hw hd hp
    obtain ⟨f, rfl, -⟩ := fuS hf
    refine ⟨S, ?_, hd (by omega), fun _ _ _ => rfl⟩
    show Lb_X9_measure_25 b _ S (nI rr) (nI L) = _
    unfold Lb_X9_measure_25
    rw [if_pos (by rw [nIlt (by omega) (by omega)]; omega)]
  | succ m ih =>
    intro L S fu h hf hL hc hw hd hp
    obtain ⟨f, rfl, hf⟩ := fuS hf
    obtain ⟨S1, e1, e2, e3⟩ := meas_in (b := b) (rc := nI rr) (K := L_X9_measure_25 b f) hb hcc hK hT (show L ≤ 24 by omega) hL hle ks [] S gFu rfl hc (hw (by omega)) hp (by have := hK.1; unfold gFu; omega)
    have hk : ∀ t ∈ ks, 1 ≤ t.2.2.1 := fun t ht => (hK.2 t ht).2.2.2.1
    obtain ⟨S2, d1, d2, d3⟩ := ih (L + 1) S1 f (by omega) (by omega) (by omega) (CP_w hc hb (fun k hk => e3 k (by omega) (by omega))) (fun q => WI_next hk (by omega) hL e2) (fun q => by
      have : L = rr := by omega
      subst this
      exact WI_done hk hL e2) (fun k t hk => by rw [e3 12 (by omega) (by omega)]; exact hp k t hk)
    refine ⟨S2, ?_, d2, fun a h1 h2 => by rw [d3 a h1 h2, e3 a h1 h2]⟩
    show Lb_X9_measure_25 b _ S (nI rr) (nI L) = _
    unfold Lb_X9_measure_25
    rw [if_neg (by rw [nIlt (by omega) (by omega)]; omega)]
    rw [List.length_nil, nI_0] at e1
    rw [e1, d1]
theorem C_measure {b goal cc i rr : Nat} {ks : List TK} {g : Game} {S : Sg} (hb : 14 ≤ b) (hcc : cc ≤ 9) (hK : VK cc ks) (hT : KT g i ks) (hrr : rr ≤ 24) (hg : goal < 9) (h : CP b g S) (hp : PR ks S) :
    ∃ S', f_X9_measure b (nI goal) (nI rr) S = some S' ∧ WD ks goal rr S' ∧ ∀ a, a ≠ 10 → a ≠ 11 → S' a = S a := by
  have hk : ∀ t ∈ ks, 1 ≤ t.2.2.1 := fun t ht => (hK.2 t ht).2.2.2.1
  obtain ⟨S1, e1, e2, e3⟩ := fill_ok (k := 10) (n := 225) (by omega) 1000000 S
  have hrow0 : ∀ c, c < 9 → u2 S1 10 goal 0 10 (9 * 0 + c) = nI (wA ks goal 0 c) := by
    intro c hc
    rw [wA_0]
    by_cases e : c = goal
    · rw [if_pos e, e, show 9 * 0 + goal = goal by omega, u2_eq]; rfl
    · rw [if_neg e, u2_ni (by omega), e3 _ (by omega)]; rfl
  have hrow : ∀ L' c, 1 ≤ L' → L' ≤ 24 → c < 9 → u2 S1 10 goal 0 10 (9 * L' + c) = nI UN := by
    intro L' c h1 h2 h3
    rw [u2_ni (by omega), e3 _ (by omega)]; rfl
  have fr : ∀ a, a ≠ 10 → u2 S1 10 goal 0 a = S a := fun a ha => by rw [u2_n ha, e2 a ha]
  obtain ⟨S2, d1, d2, d3⟩ := meas_out (goal := goal) hb hcc hK hT hrr (fun L' c' => wA_le hk) rr 1 (u2 S1 10 goal 0) gFu (by omega) (by unfold gFu; omega) (Nat.le_refl _) (CP_w h hb (fun k hk => fr k (by omega))) (fun q => by
    refine ⟨fun L' c hL' hc => ?_, fun c hc => ⟨hrow 1 c (Nat.le_refl _) (by omega) hc, fun q => absurd q (Nat.lt_irrefl _)⟩, fun L' c h1 h2 h3 => hrow L' c (by omega) h2 h3⟩
    have : L' = 0 := by omega
    subst this
    exact ⟨hrow0 c hc, fun q => by omega⟩) (fun q L' c hL' hc => by
    have : L' = 0 := by omega
    subst this
    exact ⟨hrow0 c hc, fun q => by omega⟩) (fun k t hk => by rw [fr 12 (by omega)]; exact hp k t hk)
  refine ⟨S2, ?_, d2, fun a h1 h2 => by rw [d3 a h1 h2, fr a h1]⟩
  unfold f_X9_measure
  rw [e1, gbvN, show (0 : Int32) = nI 0 from rfl, wplace, gbiN, put_ok (by omega) (by omega), gbvN]
  rw [show 9 * 0 + goal = goal by omega, show (1 : Int32) = nI 1 from rfl]
  exact d1
theorem choose_loop {a rr goal : Nat} {ks : List TK} (ha : a < 9) (hrr : rr ≤ 24) (hk : ∀ t ∈ ks, 1 ≤ t.2.2.1) : ∀ (m L : Nat) (S : Sg) (fu : Nat), L + m = rr → m < fu → WD ks goal rr S → S 9 5 = nI (wch ks goal a L).1 → S 9 6 = nI (wch ks goal a L).2 →
    ∃ S', L_X9_chooseLength_13 fu S (nI a) (nI rr) (nI (L + 1)) = some S' ∧ S' 9 5 = nI (wch ks goal a rr).1 ∧ S' 9 6 = nI (wch ks goal a rr).2 ∧ ∀ c, c ≠ 9 → S' c = S c := by
  intro m
  induction m with
  | zero =>
    intro L S fu h hf hw h5 h6
    obtain ⟨f, rfl, -⟩ := fuS hf
    have : L = rr := by omega
    subst this
    refine ⟨S, ?_, h5, h6, fun _ _ => rfl⟩
    show Lb_X9_chooseLength_13 _ S (nI a) (nI L) (nI (L + 1)) = _
    unfold Lb_X9_chooseLength_13
    rw [if_pos (by rw [nIlt (by omega) (by omega)]; omega)]
  | succ m ih =>
    intro L S fu h hf hw h5 h6
    obtain ⟨f, rfl, hf⟩ := fuS hf
    have hc := (hw (L + 1) a (by omega) ha).1
    have hle := wA_le (ks := ks) (goal := goal) (L := L + 1) (c := a) hk
    have hU : UN = 1000000 := rfl
    have hv := (wch_v (ks := ks) (goal := goal) (a := a) L).1
    show ∃ S', Lb_X9_chooseLength_13 _ S (nI a) (nI rr) (nI (L + 1)) = _ ∧ _
    unfold Lb_X9_chooseLength_13
    rw [if_neg (by rw [nIlt (by omega) (by omega)]; omega), wplace, gbiN, la_ok (by omega), gbiN, hc, h5]
    by_cases e : wA ks goal (L + 1) a < (wch ks goal a L).1
    · have ew : wch ks goal a (L + 1) = (wA ks goal (L + 1) a, L + 1) := by
        show (if _ then _ else _) = _
        rw [if_pos e]
      rw [if_neg (by rw [nIle (by omega) (by omega)]; omega), wplace, gbiN, la_ok (by omega), gbiN, hc, gstN, gstN, gviN, nI_s]
      obtain ⟨S', d1, d2, d3, d4⟩ := ih (L + 1) (u2 (u2 S 9 5 (nI (wA ks goal (L + 1) a))) 9 6 (nI (L + 1))) f (by omega) (by omega) (fun L' c h1 h2 => by rw [u2_nr (by omega), u2_nr (by omega), u2_nr (by omega), u2_nr (by omega)]; exact hw L' c h1 h2) (by rw [u2_ni (by omega), u2_eq, ew]) (by rw [u2_eq, ew])
      exact ⟨S', d1, d2, d3, fun c hc => by rw [d4 c hc, u2_n hc, u2_n hc]⟩
    · have ew : wch ks goal a (L + 1) = wch ks goal a L := by
        show (if _ then _ else _) = _
        rw [if_neg e]
      rw [if_pos (by rw [nIle (by omega) (by omega)]; omega), gviN, nI_s]
      exact ih (L + 1) S f (by omega) (by omega) hw (by rw [ew]; exact h5) (by rw [ew]; exact h6)
theorem C_far {b k : Nat} {c cc i : Nat} {g : Game} {ks : List TK} {t : TK} {S : Sg} (h : CP b g S) (hcc : cc ≤ 9) (hK : VK cc ks) (hT : KT g i ks) (ht : ks[k]? = some t) (hc : t.1 = c ∨ t.2.1 = c) : f_X8_farEnd b (nI k) (nI c) S = some (nI (wFar t c), S) := by
  obtain ⟨a, ha, r1, r2, r3, -⟩ := hT.2 k t ht
  have h1 := h.tr ha
  have hv := hK.2 t (mem_get ht)
  have hk := lt_len ht
  have h16 := hK.1
  have hcl : c < 9 := by rcases hc with e | e <;> omega
  unfold f_X8_farEnd wFar
  rw [at_ok (by omega) (by omega), gbiN, h1.1, r1]
  by_cases e : t.1 = c
  · rw [if_pos e, if_pos (by rw [e]), at_ok (by omega) (by omega), gbiN, h1.2.1, r2]
  · have e2 : t.2.1 = c := hc.resolve_left e
    rw [if_neg e, if_neg (by rw [nI_inj (by omega) (by omega)]; exact e), at_ok (by omega) (by omega), gbiN, h1.2.1, r2, if_pos (by rw [e2]), at_ok (by omega) (by omega), gbiN, h1.1, r1]
theorem follow_loop {b cc i goal rr : Nat} {g : Game} {ks : List TK} (hb : 14 ≤ b) (hcc : cc ≤ 9) (hK : VK cc ks) (hT : KT g i ks) (hrr : rr ≤ 24) : ∀ (f0 L c n : Nat) (dn : List Int32) (S : Sg) (fu : Nat), L ≤ f0 → f0 < fu → L ≤ rr → c < 9 → n + L ≤ 24 → dn.length = n → (L = 0 ∨ wA ks goal L c < UN) → CP b g S → WD ks goal rr S → S 9 4 = nI n → Rp (S 13) 0 dn →
    ∃ S', L_X9_follow_13 b fu S (nI c) (nI L) = some S' ∧ S' 9 4 = nI (n + (pth ks goal f0 L c).length) ∧ Rp (S' 13) 0 (dn ++ (pth ks goal f0 L c).map nI) ∧ S' 9 5 = S 9 5 ∧ S' 9 6 = S 9 6 ∧ ∀ a, a ≠ 9 → a ≠ 13 → S' a = S a := by
  intro f0
  induction f0 with
  | zero =>
    intro L c n dn S fu hL hf hLr hc hn hd hA h hw h4 hr
    obtain ⟨f, rfl, -⟩ := fuS hf
    have : L = 0 := by omega
    subst this
    refine ⟨S, ?_, by rw [pth_0]; exact h4, by rw [pth_0]; simpa using hr, rfl, rfl, fun _ _ _ => rfl⟩
    show Lb_X9_follow_13 b _ S (nI c) (nI 0) = _
    unfold Lb_X9_follow_13
    rw [if_pos (by rw [nI_0]; exact Int32.le_refl _)]
  | succ f0 ih =>
    intro L c n dn S fu hL hf hLr hc hn hd hA h hw h4 hr
    obtain ⟨f, rfl, hf⟩ := fuS hf
    by_cases e0 : L = 0
    · subst e0
      refine ⟨S, ?_, by rw [pth_0]; exact h4, by rw [pth_0]; simpa using hr, rfl, rfl, fun _ _ _ => rfl⟩
      show Lb_X9_follow_13 b _ S (nI c) (nI 0) = _
      unfold Lb_X9_follow_13
      rw [if_pos (by rw [nI_0]; exact Int32.le_refl _)]
    · have hA' : wA ks goal L c < UN := hA.resolve_left e0
      have hk : ∀ t ∈ ks, 1 ≤ t.2.2.1 := fun t ht => (hK.2 t ht).2.2.2.1
      obtain ⟨t, ht, hth, -⟩ := wO_ok hk (by omega) hA'
      have hv := hK.2 t (mem_get ht)
      have hkl := lt_len ht
      have h16 := hK.1
      obtain ⟨hlen, htouch⟩ := thr_in (T := wA ks goal) (L := L) (c := c) (t := t) (by rw [hth]; exact hA')
      have hto : t.1 = c ∨ t.2.1 = c := by
        rcases htouch with ⟨q, -⟩ | ⟨-, q, -⟩
        · exact Or.inl q
        · exact Or.inr q
      have hfar : wFar t c < 9 := by unfold wFar; split <;> omega
      have hAn : wA ks goal (L - t.2.2.1) (wFar t c) < UN := by
        unfold wFar
        rcases htouch with ⟨q, hq⟩ | ⟨q0, q, hq⟩
        · rw [if_pos q]; omega
        · rw [if_neg q0]; omega
      have hop := (hw L c hLr hc).2 (by omega) hA'
      have hfw : FrW S (u2 (u2 S 13 n (nI (wO ks goal L c))) 9 4 (nI (n + 1))) := fun k hk => by rw [u2_n (by omega), u2_n (by omega)]
      obtain ⟨a, ha, -, -, r3, -⟩ := hT.2 _ t ht
      have h' := CP_w h hb hfw
      obtain ⟨S', d1, d2, d3, d4, d5, d6⟩ := ih (L - t.2.2.1) (wFar t c) (n + 1) (dn ++ [nI (wO ks goal L c)]) (u2 (u2 S 13 n (nI (wO ks goal L c))) 9 4 (nI (n + 1))) f (by omega) (by omega) (by omega) hfar (by omega) (by rw [List.length_append, List.length_singleton, hd]) (Or.inr hAn) h' (fun L' c' h1 h2 => by rw [u2_nr (by omega), u2_nr (by omega), u2_nr (by omega), u2_nr (by omega)]; exact hw L' c' h1 h2) u2_eq (by
        refine Rp_push hr ?_ (fun x hx => ?_)
        · rw [u2_nr (by omega), hd, u2_eq]
        · rw [u2_nr (by omega), u2_ni (by omega)])
      rw [pth_s e0 ht]
      refine ⟨S', ?_, ?_, ?_, ?_, ?_, fun c' h1 h2 => by rw [d6 c' h1 h2, u2_n h1, u2_n h2]⟩
      · show Lb_X9_follow_13 b _ S (nI c) (nI L) = _
        unfold Lb_X9_follow_13
        rw [if_neg (by rw [show (0 : Int32) = nI 0 from rfl, nIle (by omega) (by omega)]; omega), h4, if_neg (by rw [show (24 : Int32) = nI 24 from rfl, nIle (by omega) (by omega)]; omega)]
        rw [wplace, gbiN, at_ok (by omega) (by omega), gbiN, hop, h4, put_ok (by omega) (by omega), gbvN]
        rw [u2_nr (a := 9) (by omega), h4, gstN, nI_s, C_far h' hcc hK hT ht hto, gbiN, at_ok (by omega) (by omega), gbiN, (h'.tr ha).2.2.1, r3, pk_sub hlen, gviN]
        exact d1
      · rw [d2]
        simp only [List.length_cons]
        congr 1
        omega
      · simp only [List.map_cons]
        rw [List.append_assoc] at d3
        exact d3
      · rw [d4, u2_ni (by omega), u2_nr (by omega)]
      · rw [d5, u2_ni (by omega), u2_nr (by omega)]
/-- the way found: cost, length, tracks -/
def wC (ks : List TK) (goal a rr : Nat) : Nat := (wch ks goal a rr).1
def wL (ks : List TK) (goal a rr : Nat) : Nat := (wch ks goal a rr).2
def wP (ks : List TK) (goal a rr : Nat) : List Nat := pth ks goal (wL ks goal a rr) (wL ks goal a rr) a
def wIs (ks : List TK) (goal a rr : Nat) : Bool := decide (wC ks goal a rr < UN)
theorem C_find {b i a goal rr c n : Nat} {g : Game} {S : Sg} (hb : 14 ≤ b) (h : CP b g S) (hV : V c n g) (hi : i < 4) (ha : a < 9) (hg : goal < 9) (hrr : rr ≤ 24) :
    ∃ S', f_X9_find b (nI i) (nI a) (nI goal) (nI rr) S = some (bI (wIs (wks g i) goal a rr), S') ∧ S' 9 5 = nI (wC (wks g i) goal a rr) ∧ S' 9 6 = nI (wL (wks g i) goal a rr) ∧ S' 9 4 = nI (wP (wks g i) goal a rr).length ∧ Rp (S' 13) 0 ((wP (wks g i) goal a rr).map nI) ∧ PR (wks g i) S' ∧ FrW S S' := by
  obtain ⟨hK, hT⟩ := wks_ok (i := i) hV
  have hcc : c ≤ 9 := hV.1.2.1
  have hk : ∀ t ∈ wks g i, 1 ≤ t.2.2.1 := fun t ht => (hK.2 t ht).2.2.2.1
  obtain ⟨S1, e1, p1, f1⟩ := C_prices h hV hb hi
  have c1 := CP_w h hb (fun k hk => f1 k (by omega))
  obtain ⟨S2, e2, w2, f2⟩ := C_measure (goal := goal) hb hcc hK hT hrr hg c1 p1
  have c2 := CP_w c1 hb (fun k hk => f2 k (by omega) (by omega))
  obtain ⟨S3, e3, h5, h6, f3⟩ := choose_loop (a := a) ha hrr hk rr 0 (u2 (u2 S2 9 5 1000000) 9 6 0) gFu (Nat.zero_add _) (by unfold gFu; omega) (fun L' c' h1 h2 => by rw [u2_nr (by omega), u2_nr (by omega), u2_nr (by omega), u2_nr (by omega)]; exact w2 L' c' h1 h2) (by rw [u2_ni (by omega), u2_eq]; rfl) (by rw [u2_eq]; rfl)
  have f3' : ∀ q, q ≠ 9 → S3 q = S2 q := fun q hq => by rw [f3 q hq, u2_n hq, u2_n hq]
  have c3 := CP_w c2 hb (fun k hk => f3' k (by omega))
  have hv := wch_v (ks := wks g i) (goal := goal) (a := a) rr
  have hor : wL (wks g i) goal a rr = 0 ∨ wA (wks g i) goal (wL (wks g i) goal a rr) a < UN := by
    by_cases q : wC (wks g i) goal a rr < UN
    · refine Or.inr ?_
      have := (hv.2.2.1 q).2
      unfold wL
      rw [this]
      exact q
    · refine Or.inl ?_
      have hle := hv.1
      unfold wC at q
      exact hv.2.2.2 (by omega)
  have hwl : wL (wks g i) goal a rr ≤ rr := hv.2.1
  obtain ⟨S4, e4, k4, r4, k5, k6, f4⟩ := follow_loop (goal := goal) (rr := rr) hb hcc hK hT hrr (wL (wks g i) goal a rr) (wL (wks g i) goal a rr) a 0 [] (u2 S3 9 4 0) gFu (Nat.le_refl _) (by unfold gFu; omega) hwl ha (by omega) rfl hor (CP_w c3 hb (fun k hk => u2_n (by omega))) (fun L' c' h1 h2 => by rw [u2_nr (by omega), u2_nr (by omega), f3' 10 (by omega), f3' 11 (by omega)]; exact w2 L' c' h1 h2) u2_eq trivial
  have h5' : S4 9 5 = nI (wC (wks g i) goal a rr) := by rw [k5, u2_ni (by omega)]; exact h5
  have hcle : wC (wks g i) goal a rr ≤ UN := hv.1
  have hU : UN = 1000000 := rfl
  refine ⟨S4, ?_, h5', by rw [k6, u2_ni (by omega)]; exact h6, by rw [k4, Nat.zero_add]; rfl, r4, fun k t hk => ?_, fun k hk => ?_⟩
  · unfold f_X9_find
    rw [e1, gbvN, e2, gbvN]
    unfold f_X9_chooseLength
    rw [gstN, gstN, show (1 : Int32) = nI (0 + 1) from rfl, e3, gbvN]
    unfold f_X9_follow
    rw [gviN, gstN, h6]
    have e4' : L_X9_follow_13 b gFu (u2 S3 9 4 0) (nI a) (nI (wch (wks g i) goal a rr).2) = some S4 := e4
    rw [e4', gbvN, h5']
    unfold wIs
    by_cases q : wC (wks g i) goal a rr < UN
    · rw [if_neg (by rw [show (1000000 : Int32) = nI 1000000 from rfl, nIle (by omega) (by omega)]; omega)]
      simp [q, bI]
      rfl
    · rw [if_pos (by rw [show (1000000 : Int32) = nI 1000000 from rfl, nIle (by omega) (by omega)]; omega)]
      simp [q, bI]
  · rw [f4 12 (by omega) (by omega), u2_n (by omega), f3' 12 (by omega), f2 12 (by omega) (by omega)]
    exact p1 k t hk
  · rw [f4 k (by omega) (by omega), u2_n (by omega), f3' k (by omega), f2 k (by omega) (by omega), f1 k (by omega)]

