/-! ===== ways: the reference finds them ===== -/
def MD (ks : List TK) (goal cc L : Nat) (S : Sg) : Prop := ∀ L' c', L' < L → c' < cc → S 400 (9 * L' + c') = nI (wA ks goal L' c')
theorem MP_m {p : Nat} {g : Game} {S S' : Sg} (h : MP g (S p)) (hp : p = 395 ∨ p = 396) (hf : FrM S S') : MP g (S' p) := by
  rw [hf.1 p (by omega) (by omega) (by omega)]
  exact h
theorem lay_cities {p i L cc goal : Nat} {x4 : Int32} {g : Game} {ks : List TK} {K3 : Sg → Int32 → Int32 → Int32 → Int32 → Option Sg} (hp : p = 395 ∨ p = 396) (hsc : g.1 0 = nI cc) (hv : VL g) (hcc : cc ≤ 9) (hK : VK cc ks) (hT : KT g i ks) (hL : L ≤ 24) (hg : goal < 9) : ∀ (m c : Nat) (S : Sg) (fu : Nat), c + m = cc → m < fu → MP g (S p) → MD ks goal cc L S → (∀ c', c' < c → S 400 (9 * L + c') = nI (wA ks goal L c')) →
    ∃ S', L_X11_layLeast_13 p K3 fu S (nI i) (nI goal) x4 (nI L) (nI c) = K3 S' (nI i) (nI goal) x4 (nI (L + 1)) ∧ MD ks goal cc (L + 1) S' ∧ FrM S S' := by
  intro m
  have hk : ∀ t ∈ ks, 1 ≤ t.2.2.1 := fun t ht => (hK.2 t ht).2.2.2.1
  induction m with
  | zero =>
    intro c S fu h hf hm hd hr
    obtain ⟨f, rfl, -⟩ := fuS hf
    refine ⟨S, ?_, fun L' c' h1 h2 => ?_, FrM.rf S⟩
    · show Lb_X11_layLeast_13 p K3 _ S (nI i) (nI goal) x4 (nI L) (nI c) = _
      unfold Lb_X11_layLeast_13
      rw [gck_c0, ix_c0, hm.1.1, hsc, if_pos (by rw [nIle (by omega) (by omega)]; omega), gviN, nI_s]
    · by_cases e : L' = L
      · subst e; exact hr c' (by omega)
      · exact hd L' c' (by omega) h2
  | succ m ih =>
    intro c S fu h hf hm hd hr
    obtain ⟨f, rfl, hf⟩ := fuS hf
    have key : ∀ s : Nat × Nat, s.1 ≤ UN → (rf (wA ks goal) L c ks 0 s).1 = wA ks goal L c → ∃ S', L_X11_layLeast_43 p K3 (L_X11_layLeast_13 p K3 f) gFu S (nI i) (nI goal) x4 (nI L) (nI c) (nI s.1) (nI 0) = K3 S' (nI i) (nI goal) x4 (nI (L + 1)) ∧ MD ks goal cc (L + 1) S' ∧ FrM S S' := by
      intro s hs he
      have e1 := lay_in (p := p) (goal := goal) (x4 := x4) (K3 := K3) (K13 := L_X11_layLeast_13 p K3 f) hm hv hcc hK hT (show c < 9 by omega) hL (T := wA ks goal) hd (fun L' c' => wA_le hk) ks [] s gFu rfl hs (by have := hK.1; unfold gFu; omega)
      rw [List.length_nil, he] at e1
      have hfr : FrM S (u2 S 400 (9 * L + c) (nI (wA ks goal L c))) := (FrM.rf S).u400
      obtain ⟨S', d1, d2, d3⟩ := ih (c + 1) (u2 S 400 (9 * L + c) (nI (wA ks goal L c))) f (by omega) (by omega) (MP_m hm hp hfr) (fun L' c' h1 h2 => by rw [u2_ni (by omega)]; exact hd L' c' h1 h2) (fun c' hc' => by
        by_cases q : c' = c
        · subst q; rw [u2_eq]
        · rw [u2_ni (by omega)]; exact hr c' (by omega))
      exact ⟨S', by rw [e1, d1], d2, hfr.tr d3⟩
    show ∃ S', Lb_X11_layLeast_13 p K3 _ S (nI i) (nI goal) x4 (nI L) (nI c) = _ ∧ _
    unfold Lb_X11_layLeast_13
    rw [gck_c0, ix_c0, hm.1.1, hsc, if_neg (by rw [nIle (by omega) (by omega)]; omega)]
    rw [nI_0] at key
    by_cases e0 : L = 0
    · subst e0
      rw [if_pos nI_0]
      by_cases e1 : c = goal
      · rw [if_pos (by rw [e1])]
        exact key (0, 0) (Nat.zero_le _) (by rw [rf_0 ks 0 (0, 0) hk (Nat.zero_le _), wA_0, if_pos e1])
      · rw [if_neg (by rw [nI_inj (by omega) (by omega)]; exact e1)]
        exact key (UN, 0) (Nat.le_refl _) (by rw [rf_0 ks 0 (UN, 0) hk (Nat.le_refl _), wA_0, if_neg e1])
    · rw [if_neg (by rw [show (0 : Int32) = nI 0 from rfl, nI_inj (by omega) (by omega)]; exact e0)]
      exact key (UN, 0) (Nat.le_refl _) (wA_p hk (by omega)).symm
theorem lay_out {p i cc goal rr : Nat} {g : Game} {ks : List TK} (hp : p = 395 ∨ p = 396) (hsc : g.1 0 = nI cc) (hv : VL g) (hcc : cc ≤ 9) (hK : VK cc ks) (hT : KT g i ks) (hrr : rr ≤ 24) (hg : goal < 9) : ∀ (m L : Nat) (S : Sg) (fu : Nat), L + m = rr + 1 → m < fu → MP g (S p) → MD ks goal cc L S →
    ∃ S', L_X11_layLeast_3 p fu S (nI i) (nI goal) (nI rr) (nI L) = some S' ∧ MD ks goal cc (rr + 1) S' ∧ FrM S S' := by
  intro m
  induction m with
  | zero =>
    intro L S fu h hf hm hd
    obtain ⟨f, rfl, -⟩ := fuS hf
    have : L = rr + 1 := by omega
    subst this
    refine ⟨S, ?_, hd, FrM.rf S⟩
    show Lb_X11_layLeast_3 p _ S (nI i) (nI goal) (nI rr) (nI (rr + 1)) = _
    unfold Lb_X11_layLeast_3
    rw [if_pos (by rw [nIlt (by omega) (by omega)]; omega)]
  | succ m ih =>
    intro L S fu h hf hm hd
    obtain ⟨f, rfl, hf⟩ := fuS hf
    obtain ⟨S1, e1, e2, e3⟩ := lay_cities (x4 := nI rr) (K3 := L_X11_layLeast_3 p f) hp hsc hv hcc hK hT (show L ≤ 24 by omega) hg cc 0 S gFu (Nat.zero_add _) (by unfold gFu; omega) hm hd (fun c' hc' => by omega)
    obtain ⟨S2, d1, d2, d3⟩ := ih (L + 1) S1 f (by omega) (by omega) (MP_m hm hp e3) e2
    refine ⟨S2, ?_, d2, e3.tr d3⟩
    show Lb_X11_layLeast_3 p _ S (nI i) (nI goal) (nI rr) (nI L) = _
    unfold Lb_X11_layLeast_3
    rw [if_neg (by rw [nIlt (by omega) (by omega)]; omega)]
    rw [nI_0] at e1
    rw [e1, d1]
theorem e9i {L c : Nat} : (9 : Int32) * nI L + nI c = nI (9 * L + c) := by rw [show (9 : Int32) = nI 9 from rfl, pk_mul, nI_add]
/-- the first track that does it -/
theorem search {p i c L cc goal : Nat} {g : Game} {ks : List TK} {S : Sg} {t : TK} {K98 : Sg → Int32 → Int32 → Int32 → Option (Int32 × Sg)} {n : Nat} (h : MP g (S p)) (hv : VL g) (hcc : cc ≤ 9) (hK : VK cc ks) (hT : KT g i ks) (hc : c < cc) (hL : L ≤ 24) (hp : p = 395 ∨ p = 396) (hd : MD ks goal cc (L + 1) S) (ht : ks[wO ks goal L c]? = some t) (hth : thr (wA ks goal) L c t = wA ks goal L c) (hA : wA ks goal L c < UN)
    (hmin : ∀ j' t', j' < wO ks goal L c → ks[j']? = some t' → thr (wA ks goal) L c t' ≠ wA ks goal L c) (hn : n < 24) (h15 : S 392 15 = nI n) : ∀ (m j fu : Nat), j + m = wO ks goal L c → m < fu →
    L_X11_findWay_106 p K98 fu S (nI i) (nI c) (nI L) (nI j) = K98 (u2 (u2 S 401 n (nI (wO ks goal L c))) 392 15 (nI (n + 1))) (nI i) (nI (wFar t c)) (nI (L - t.2.2.1)) := by
  have h16 := hK.1
  have hol := lt_len ht
  have hU : UN = 1000000 := rfl
  have hk : ∀ t ∈ ks, 1 ≤ t.2.2.1 := fun t ht => (hK.2 t ht).2.2.2.1
  have hlow : ∀ L' c', L' < L → c' < cc → S 400 (9 * L' + c') = nI (wA ks goal L' c') := fun L' c' h1 h2 => hd L' c' (by omega) h2
  intro m
  induction m with
  | zero =>
    intro j fu hj hf
    obtain ⟨f, rfl, -⟩ := fuS hf
    have hj' : j = wO ks goal L c := by omega
    subst hj'
    obtain ⟨a, ha, r1, r2, r3, -⟩ := hT.2 _ t ht
    have hfr : FrM S (u2 (u2 S 401 n (nI (wO ks goal L c))) 392 15 (nI (n + 1))) := ((FrM.rf S).u401).u392 (by omega)
    have hm' := MP_m h hp hfr
    obtain ⟨hlen, htouch⟩ := thr_in (T := wA ks goal) (L := L) (c := c) (t := t) (by rw [hth]; exact hA)
    show Lb_X11_findWay_106 p K98 _ S (nI i) (nI c) (nI L) (nI (wO ks goal L c)) = _
    unfold Lb_X11_findWay_106
    rw [goneBy_ok h hv hcc hK hT ht (by omega) hL hlow, gbiN, e9i, gck_nI (by omega) (by omega), nI_c (by omega), hd L c (by omega) hc, if_pos (by rw [hth]), h15, gck_nI (by omega) (by omega), nI_c (by omega), gstN, u2_nr (a := 392) (by omega), h15, gstN, nI_s]
    rw [trackAt_ok, gbiN, nIp2, gck_nI (by omega) (by omega), nI_c (by omega), (hm'.tr ha).2.2.1, r3, pk_sub hlen, gviN, M_across hm' hcc hK hT ht (by omega), gbiN]
    unfold wFar
    rcases htouch with ⟨q, -⟩ | ⟨q0, q, -⟩
    · rw [if_pos q, if_pos q]
    · rw [if_neg q0, if_neg q0, if_pos q]
  | succ m ih =>
    intro j fu hj hf
    obtain ⟨f, rfl, hf⟩ := fuS hf
    obtain ⟨t', ht'⟩ := some_of_lt (l := ks) (k := j) (by omega)
    have hne := hmin j t' (by omega) ht'
    have hle := wA_le (ks := ks) (goal := goal) (L := L) (c := c) hk
    have hthr : thr (wA ks goal) L c t' ≤ UN + 81 := by
      have hvt := hK.2 t' (mem_get ht')
      unfold thr
      split
      · split
        · have := wA_le (ks := ks) (goal := goal) (L := L - t'.2.2.1) (c := t'.2.1) hk; omega
        · split
          · have := wA_le (ks := ks) (goal := goal) (L := L - t'.2.2.1) (c := t'.1) hk; omega
          · omega
      · omega
    show Lb_X11_findWay_106 p K98 _ S (nI i) (nI c) (nI L) (nI j) = _
    unfold Lb_X11_findWay_106
    rw [goneBy_ok h hv hcc hK hT ht' (by omega) hL hlow, gbiN, e9i, gck_nI (by omega) (by omega), nI_c (by omega), hd L c (by omega) hc, if_neg (by rw [nI_inj (by omega) (by omega)]; exact hne), gviN, nI_s]
    exact ih (j + 1) f (by omega) (by omega)
theorem mfollow {p i cc goal rr : Nat} {g : Game} {ks : List TK} (hp : p = 395 ∨ p = 396) (hv : VL g) (hcc : cc ≤ 9) (hK : VK cc ks) (hT : KT g i ks) (hrr : rr ≤ 24) : ∀ (f0 L c n : Nat) (dn : List Int32) (S : Sg) (fu : Nat), L ≤ f0 → f0 < fu → L ≤ rr → c < cc → n + L ≤ 24 → dn.length = n → (L = 0 ∨ wA ks goal L c < UN) → MP g (S p) → MD ks goal cc (rr + 1) S → S 392 15 = nI n → Rp (S 401) 0 dn →
    ∃ S', L_X11_findWay_98 p fu S (nI i) (nI c) (nI L) = some (1, S') ∧ S' 392 15 = nI (n + (pth ks goal f0 L c).length) ∧ Rp (S' 401) 0 (dn ++ (pth ks goal f0 L c).map nI) ∧ S' 392 12 = S 392 12 ∧ S' 392 13 = S 392 13 ∧ FrM S S' := by
  intro f0
  induction f0 with
  | zero =>
    intro L c n dn S fu hL hf hLr hc hn hd hA h hw h4 hr
    obtain ⟨f, rfl, -⟩ := fuS hf
    have : L = 0 := by omega
    subst this
    refine ⟨S, ?_, by rw [pth_0]; exact h4, by rw [pth_0]; simpa using hr, rfl, rfl, FrM.rf S⟩
    show Lb_X11_findWay_98 p _ S (nI i) (nI c) (nI 0) = _
    unfold Lb_X11_findWay_98
    rw [if_pos (by rw [nI_0]; exact Int32.le_refl _)]
  | succ f0 ih =>
    intro L c n dn S fu hL hf hLr hc hn hd hA h hw h4 hr
    obtain ⟨f, rfl, hf⟩ := fuS hf
    by_cases e0 : L = 0
    · subst e0
      refine ⟨S, ?_, by rw [pth_0]; exact h4, by rw [pth_0]; simpa using hr, rfl, rfl, FrM.rf S⟩
      show Lb_X11_findWay_98 p _ S (nI i) (nI c) (nI 0) = _
      unfold Lb_X11_findWay_98
      rw [if_pos (by rw [nI_0]; exact Int32.le_refl _)]
    · have hA' : wA ks goal L c < UN := hA.resolve_left e0
      have hk : ∀ t ∈ ks, 1 ≤ t.2.2.1 := fun t ht => (hK.2 t ht).2.2.2.1
      obtain ⟨t, ht, hth, hmin⟩ := wO_ok hk (by omega) hA'
      have hv' := hK.2 t (mem_get ht)
      have hkl := lt_len ht
      have h16 := hK.1
      obtain ⟨hlen, htouch⟩ := thr_in (T := wA ks goal) (L := L) (c := c) (t := t) (by rw [hth]; exact hA')
      have hfar : wFar t c < cc := by unfold wFar; split <;> omega
      have hAn : wA ks goal (L - t.2.2.1) (wFar t c) < UN := by
        unfold wFar
        rcases htouch with ⟨q, hq⟩ | ⟨q0, q, hq⟩
        · rw [if_pos q]; omega
        · rw [if_neg q0]; omega
      have hse := search (K98 := L_X11_findWay_98 p f) (n := n) h hv hcc hK hT hc (show L ≤ 24 by omega) hp (fun L' c' h1 h2 => hw L' c' (by omega) h2) ht hth hA' hmin (by omega) h4 (wO ks goal L c) 0 gFu (Nat.zero_add _) (by unfold gFu; omega)
      have hfr : FrM S (u2 (u2 S 401 n (nI (wO ks goal L c))) 392 15 (nI (n + 1))) := ((FrM.rf S).u401).u392 (by omega)
      obtain ⟨S', d1, d2, d3, d4, d5, d6⟩ := ih (L - t.2.2.1) (wFar t c) (n + 1) (dn ++ [nI (wO ks goal L c)]) (u2 (u2 S 401 n (nI (wO ks goal L c))) 392 15 (nI (n + 1))) f (by omega) (by omega) (by omega) hfar (by omega) (by rw [List.length_append, List.length_singleton, hd]) (Or.inr hAn) (MP_m h hp hfr) (fun L' c' h1 h2 => by rw [u2_nr (by omega), u2_nr (by omega)]; exact hw L' c' h1 h2) u2_eq (by
        refine Rp_push hr ?_ (fun x hx => ?_)
        · rw [u2_nr (by omega), hd, u2_eq]
        · rw [u2_nr (by omega), u2_ni (by omega)])
      rw [pth_s e0 ht]
      refine ⟨S', ?_, ?_, ?_, ?_, ?_, hfr.tr d6⟩
      · show Lb_X11_findWay_98 p _ S (nI i) (nI c) (nI L) = _
        unfold Lb_X11_findWay_98
        rw [if_neg (by rw [show (0 : Int32) = nI 0 from rfl, nIle (by omega) (by omega)]; omega)]
        rw [nI_0] at hse
        rw [hse]
        exact d1
      · rw [d2]
        simp only [List.length_cons]
        congr 1
        omega
      · simp only [List.map_cons]
        rw [List.append_assoc] at d3
        exact d3
      · rw [d4, u2_ni (by omega), u2_nr (by omega)]
      · rw [d5, u2_ni (by omega), u2_nr (by omega)]
theorem mchoose {p i a cc rr goal : Nat} {ks : List TK} {g : Game} (hp : p = 395 ∨ p = 396) (hv : VL g) (hcc : cc ≤ 9) (hK : VK cc ks) (hT : KT g i ks) (ha : a < cc) (hrr : rr ≤ 24) : ∀ (m L : Nat) (S : Sg) (fu : Nat), L + m = rr → m < fu → MP g (S p) → MD ks goal cc (rr + 1) S → S 392 12 = nI (wch ks goal a L).1 → ((wch ks goal a L).1 < UN → S 392 13 = nI (wch ks goal a L).2) →
    ∃ S', L_X11_findWay_19 p fu S (nI i) (nI a) (nI rr) (nI (L + 1)) = some (bI (wIs ks goal a rr), S') ∧ S' 392 12 = nI (wC ks goal a rr) ∧ (wIs ks goal a rr = true → S' 392 13 = nI (wL ks goal a rr) ∧ S' 392 15 = nI (wP ks goal a rr).length ∧ Rp (S' 401) 0 ((wP ks goal a rr).map nI)) ∧ FrM S S' := by
  have hU : UN = 1000000 := rfl
  have hk : ∀ t ∈ ks, 1 ≤ t.2.2.1 := fun t ht => (hK.2 t ht).2.2.2.1
  intro m
  induction m with
  | zero =>
    intro L S fu h hf hm hd h12 h13
    obtain ⟨f, rfl, -⟩ := fuS hf
    have : L = rr := by omega
    subst this
    have hv1 := wch_v (ks := ks) (goal := goal) (a := a) L
    show ∃ S', Lb_X11_findWay_19 p _ S (nI i) (nI a) (nI L) (nI (L + 1)) = _ ∧ _
    unfold Lb_X11_findWay_19
    rw [if_pos (by rw [nIlt (by omega) (by omega)]; omega), h12]
    by_cases e : (wch ks goal a L).1 = UN
    · refine ⟨S, ?_, h12, fun q => ?_, FrM.rf S⟩
      · rw [if_pos (by rw [e]; rfl)]
        unfold wIs wC
        rw [e]
        rfl
      · unfold wIs wC at q
        rw [e] at q
        simp at q
    · have hlt : (wch ks goal a L).1 < UN := by have := hv1.1; omega
      have hfr : FrM S (u2 S 392 15 0) := (FrM.rf S).u392 (by omega)
      obtain ⟨S', d1, d2, d3, d4, d5, d6⟩ := mfollow (goal := goal) (rr := L) hp hv hcc hK hT hrr (wL ks goal a L) (wL ks goal a L) a 0 [] (u2 S 392 15 0) gFu (Nat.le_refl _) (by have := hv1.2.1; unfold wL gFu; omega) hv1.2.1 ha (by have := hv1.2.1; unfold wL; omega) rfl (Or.inr (by unfold wL; rw [(hv1.2.2.1 hlt).2]; exact hlt)) (MP_m hm hp hfr) (fun L' c' h1 h2 => by rw [u2_nr (by omega)]; exact hd L' c' h1 h2) u2_eq trivial
      have h13' := h13 hlt
      refine ⟨S', ?_, by rw [d4, u2_ni (by omega), h12]; rfl, fun _ => ⟨by rw [d5, u2_ni (by omega), h13']; rfl, by rw [d2, Nat.zero_add]; rfl, d3⟩, hfr.tr d6⟩
      rw [if_neg (by rw [show (1000000 : Int32) = nI 1000000 from rfl, nI_inj (by omega) (by omega)]; omega), gstN, u2_ni (by omega), h13', gviN]
      have d1' : L_X11_findWay_98 p gFu (u2 S 392 15 0) (nI i) (nI a) (nI (wch ks goal a L).2) = some (1, S') := d1
      rw [d1']
      have : wIs ks goal a L = true := by unfold wIs wC; simp [hlt]
      rw [this]
      rfl
  | succ m ih =>
    intro L S fu h hf hm hd h12 h13
    obtain ⟨f, rfl, hf⟩ := fuS hf
    have hc := hd (L + 1) a (by omega) ha
    have hle := wA_le (ks := ks) (goal := goal) (L := L + 1) (c := a) hk
    have hv1 := (wch_v (ks := ks) (goal := goal) (a := a) L).1
    show ∃ S', Lb_X11_findWay_19 p _ S (nI i) (nI a) (nI rr) (nI (L + 1)) = _ ∧ _
    unfold Lb_X11_findWay_19
    rw [if_neg (by rw [nIlt (by omega) (by omega)]; omega), e9i, gck_nI (by omega) (by omega), nI_c (by omega), hc, h12]
    by_cases e : wA ks goal (L + 1) a < (wch ks goal a L).1
    · have ew : wch ks goal a (L + 1) = (wA ks goal (L + 1) a, L + 1) := by
        show (if _ then _ else _) = _
        rw [if_pos e]
      rw [if_neg (by rw [nIle (by omega) (by omega)]; omega), gck_nI (by omega) (by omega), gstN, gstN, gviN, nI_s]
      have hfr : FrM S (u2 (u2 S 392 12 (nI (wA ks goal (L + 1) a))) 392 13 (nI (L + 1))) := ((FrM.rf S).u392 (by omega)).u392 (by omega)
      obtain ⟨S', d1, d2, d3, d4⟩ := ih (L + 1) (u2 (u2 S 392 12 (nI (wA ks goal (L + 1) a))) 392 13 (nI (L + 1))) f (by omega) (by omega) (MP_m hm hp hfr) (fun L' c h1 h2 => by rw [u2_nr (by omega), u2_nr (by omega)]; exact hd L' c h1 h2) (by rw [u2_ni (by omega), u2_eq, ew]) (fun _ => by rw [u2_eq, ew])
      exact ⟨S', d1, d2, d3, hfr.tr d4⟩
    · have ew : wch ks goal a (L + 1) = wch ks goal a L := by
        show (if _ then _ else _) = _
        rw [if_neg e]
      rw [if_pos (by rw [nIle (by omega) (by omega)]; omega), gviN, nI_s]
      exact ih (L + 1) S f (by omega) (by omega) hm hd (by rw [ew]; exact h12) (by rw [ew]; exact h13)
theorem M_find {p i a goal rr c n : Nat} {g : Game} {S : Sg} (hp : p = 395 ∨ p = 396) (h : MP g (S p)) (hV : V c n g) (ha : a < c) (hg : goal < 9) (hrr : rr ≤ 24) :
    ∃ S', f_X11_findWay p (nI i) (nI a) (nI goal) (nI rr) S = some (bI (wIs (wks g i) goal a rr), S') ∧ S' 392 12 = nI (wC (wks g i) goal a rr) ∧ (wIs (wks g i) goal a rr = true → S' 392 13 = nI (wL (wks g i) goal a rr) ∧ S' 392 15 = nI (wP (wks g i) goal a rr).length ∧ Rp (S' 401) 0 ((wP (wks g i) goal a rr).map nI)) ∧ FrM S S' := by
  obtain ⟨hK, hT⟩ := wks_ok (i := i) hV
  have hcc : c ≤ 9 := hV.1.2.1
  have hU : UN = 1000000 := rfl
  obtain ⟨S1, e1, d1, f1⟩ := lay_out (goal := goal) hp hV.1.2.2 hV.vl hcc hK hT hrr hg (rr + 1) 0 S gFu (Nat.zero_add _) (by unfold gFu; omega) h (fun L' c' h1 h2 => by omega)
  have hfr : FrM S1 (u2 S1 392 12 1000000) := (FrM.rf S1).u392 (by omega)
  obtain ⟨S2, e2, d2, d3, f2⟩ := mchoose (goal := goal) (a := a) hp hV.vl hcc hK hT ha hrr rr 0 (u2 S1 392 12 1000000) gFu (Nat.zero_add _) (by unfold gFu; omega) (MP_m (MP_m h hp f1) hp hfr) (fun L' c' h1 h2 => by rw [u2_nr (by omega)]; exact d1 L' c' h1 h2) (by rw [u2_eq]; rfl) (fun q => absurd q (Nat.lt_irrefl _))
  refine ⟨S2, ?_, d2, d3, (f1.tr hfr).tr f2⟩
  unfold f_X11_findWay f_X11_layLeast
  rw [nI_0] at e1
  rw [e1, gbvN, gstN]
  exact e2
