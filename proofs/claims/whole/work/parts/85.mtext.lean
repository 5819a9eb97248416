/-! ===== the text, read by the reference ===== -/
theorem u2_self {S : Sg} {k j : Nat} {v : Int32} (h : S k j = v) : u2 S k j v = S := by
  funext a x
  rw [u2_ap]
  split
  · rename_i q
    rw [q.1, q.2, h]
  · rfl
def FrT (S S' : Sg) : Prop := (∀ k, k ≠ 392 → k ≠ 394 → S' k = S k) ∧ ∀ x, x ≠ 3 → S' 392 x = S 392 x
theorem FrT.rf (S : Sg) : FrT S S := ⟨fun _ _ _ => rfl, fun _ _ => rfl⟩
theorem FrT.tr {S S1 S2 : Sg} (h1 : FrT S S1) (h2 : FrT S1 S2) : FrT S S2 := ⟨fun k a b => (h2.1 k a b).trans (h1.1 k a b), fun x a => (h2.2 x a).trans (h1.2 x a)⟩
theorem FrT.s {S : Sg} {v : Int32} : FrT S (u2 S 392 3 v) := ⟨fun k a _ => by rw [u2_n a], fun x a => by rw [u2_ni a]⟩
theorem FrT.p {S S' : Sg} (h : ∀ x, x ≠ 394 → S' x = S x) : FrT S S' := ⟨fun k _ b => h k b, fun x _ => by rw [h 392 (by omega)]⟩
theorem TXm_fr {tx : Nat → Nat} {sz : Nat} {S S' : Sg} (h : TXm tx sz S) (f : FrT S S') : TXm tx sz S' := ⟨by rw [f.2 2 (by omega)]; exact h.1, fun x hx => by rw [f.1 393 (by omega) (by omega)]; exact h.2 x hx⟩
theorem B53_0 {S : Sg} {x : Int32} : B_X11_digit_53 S x 0 = some (-9, S) := by
  unfold B_X11_digit_53 B_X11_digit_70
  rw [if_pos rfl, gstN, if_pos rfl, Int32.add_zero, u2_self rfl]
theorem B53_1 {S : Sg} {x : Int32} {i : Nat} (h : S 392 3 = nI i) : B_X11_digit_53 S x 1 = some (x, u2 S 392 3 (nI (i + 1))) := by
  unfold B_X11_digit_53 B_X11_digit_70
  rw [if_neg (by decide), gstN, if_neg (by decide), h, nI_s]
theorem M_dig_no {tx : Nat → Nat} {sz lo hi nt i e : Nat} {ntI : Int32} {S : Sg} (h : TXm tx sz S) (h100 : sz ≤ 100) (hch : ∀ x, x < sz → tx x ≤ 255) (hi9 : i < 1000) (hs : S 392 3 = nI i) (hlo : lo ≤ 9) (hhi : hi ≤ 9) (hnt : (nt = 10 ∧ ntI = -9) ∨ (nt ≤ 9 ∧ ntI = nI nt)) (hp : pD tx sz lo hi nt i = .error e) : f_X11_digit (nI lo) (nI hi) ntI S = some (-9, S) := by
  obtain ⟨-, hn⟩ := pD_no hp
  have hneg : ∀ x : Int32, x < 0 → (decide (nI lo ≤ x) && decide (x ≤ nI hi)) = false := fun x hx => by
    have h3 : (0 : Int32) ≤ nI lo := nI_pos' (by omega)
    rw [decide_eq_false (fun q => Int32.lt_irrefl (Int32.lt_of_lt_of_le hx (Int32.le_trans h3 q))), Bool.false_and]
  unfold f_X11_digit B_X11_digit_27
  rw [h.1, hs]
  by_cases h1 : i < sz
  · have h2 := hch i h1
    rw [if_neg (by rw [nIle (by omega) (by omega)]; omega), gck_nI (by omega) (by omega), nI_c (by omega), h.2 i h1, in_ok3, gbiN, show (48 : Int32) = nI 48 from rfl]
    by_cases h3 : tx i < 48
    · have q : nI (tx i) - nI 48 < 0 := by
        rw [Int32.lt_iff_toInt_lt, pk_sub_toInt (by omega) (by omega), show (0 : Int32).toInt = 0 from rfl]
        omega
      rw [hneg _ q, if_pos (by decide), B53_0]
    · rw [pk_sub (by omega)]
      by_cases h4 : 57 < tx i
      · rw [decide_eq_false (p := nI (tx i - 48) ≤ nI hi) (by rw [nIle (by omega) (by omega)]; omega), Bool.and_false, if_pos (by decide), B53_0]
      · have hd : dg tx sz i = some (tx i - 48) := by unfold dg; rw [if_pos (by omega)]
        have h5 := hn _ hd
        by_cases h6 : lo ≤ tx i - 48 ∧ tx i - 48 ≤ hi
        · have h7 : tx i - 48 = nt := by omega
          have h8 : nI (tx i - 48) = ntI := by
            rcases hnt with q | q
            · omega
            · rw [q.2, h7]
          rw [decide_eq_true (p := nI lo ≤ nI (tx i - 48)) (by rw [nIle (by omega) (by omega)]; omega), decide_eq_true (p := nI (tx i - 48) ≤ nI hi) (by rw [nIle (by omega) (by omega)]; omega), if_neg (by decide), if_pos h8, B53_0]
        · have h9 : (decide (nI lo ≤ nI (tx i - 48)) && decide (nI (tx i - 48) ≤ nI hi)) = false := by
            rw [Bool.and_eq_false_iff]
            by_cases q : lo ≤ tx i - 48
            · exact Or.inr (decide_eq_false (by rw [nIle (by omega) (by omega)]; omega))
            · exact Or.inl (decide_eq_false (by rw [nIle (by omega) (by omega)]; omega))
          rw [h9, if_pos (by decide), B53_0]
  · rw [if_pos (by rw [nIle (by omega) (by omega)]; omega), in_ok3, gbiN, hneg (-1) (by decide), if_pos (by decide), B53_0]
theorem M_dig_ok {tx : Nat → Nat} {sz lo hi nt i d : Nat} {ntI : Int32} {S : Sg} (h : TXm tx sz S) (h100 : sz ≤ 100) (hch : ∀ x, x < sz → tx x ≤ 255) (hi9 : i < 1000) (hs : S 392 3 = nI i) (hlo : lo ≤ 9) (hhi : hi ≤ 9) (hnt : (nt = 10 ∧ ntI = -9) ∨ (nt ≤ 9 ∧ ntI = nI nt)) (hp : pD tx sz lo hi nt i = .ok d) : f_X11_digit (nI lo) (nI hi) ntI S = some (nI d, u2 S 392 3 (nI (i + 1))) := by
  obtain ⟨hd, h2, h3, h4⟩ := pD_ok hp
  obtain ⟨h5, h6, h7⟩ := dg_v hd
  have h8 : nI d ≠ ntI := by
    rcases hnt with q | q
    · rw [q.2]; exact nI_m9 (by omega)
    · rw [q.2]
      exact fun e => h4 ((nI_inj (by omega) (by omega)).mp e)
  unfold f_X11_digit B_X11_digit_27
  rw [h.1, hs, if_neg (by rw [nIle (by omega) (by omega)]; omega), gck_nI (by omega) (by omega), nI_c (by omega), h.2 i h6, in_ok3, gbiN, show (48 : Int32) = nI 48 from rfl, pk_sub (by omega), show tx i - 48 = d by omega, decide_eq_true (p := nI lo ≤ nI d) (by rw [nIle (by omega) (by omega)]; omega), decide_eq_true (p := nI d ≤ nI hi) (by rw [nIle (by omega) (by omega)]; omega), if_neg (by decide), if_neg h8, B53_1 hs]
theorem M_eat_no {tx : Nat → Nat} {sz i c : Nat} {S : Sg} (h : TXm tx sz S) (h100 : sz ≤ 100) (hch : ∀ x, x < sz → tx x ≤ 255) (hi9 : i < 1000) (hs : S 392 3 = nI i) (hc : c ≤ 255) (hn : ¬ (i < sz ∧ tx i = c)) : f_X11_eat (nI c) S = some (0, S) := by
  have hB : B_X11_eat_29 S 0 = some (0, S) := by
    unfold B_X11_eat_29 B_X11_eat_44
    rw [if_pos rfl, gstN, Int32.add_zero, u2_self rfl]
    exact gck_ok (isb_bI false)
  unfold f_X11_eat
  rw [h.1, hs]
  by_cases h1 : i < sz
  · have h2 := hch i h1
    rw [if_neg (by rw [nIle (by omega) (by omega)]; omega), gck_nI (by omega) (by omega), nI_c (by omega), h.2 i h1, if_neg (by rw [nI_inj (by omega) (by omega)]; exact fun q => hn ⟨h1, q⟩), hB]
  · rw [if_pos (by rw [nIle (by omega) (by omega)]; omega), hB]
theorem M_eat_ok {tx : Nat → Nat} {sz i c : Nat} {S : Sg} (h : TXm tx sz S) (h100 : sz ≤ 100) (hi9 : i < 1000) (hs : S 392 3 = nI i) (hn : i < sz ∧ tx i = c) : f_X11_eat (nI c) S = some (1, u2 S 392 3 (nI (i + 1))) := by
  have hB : B_X11_eat_29 S 1 = some (1, u2 S 392 3 (nI (i + 1))) := by
    unfold B_X11_eat_29 B_X11_eat_44
    rw [if_neg (by decide), gstN, hs, nI_s]
    exact gck_ok (isb_bI true)
  unfold f_X11_eat
  rw [h.1, hs, if_neg (by rw [nIle (by omega) (by omega)]; omega), gck_nI (by omega) (by omega), nI_c (by omega), h.2 i hn.1, hn.2, if_pos rfl, hB]
theorem pC2_cases {tx : Nat → Nat} {sz c i : Nat} : (pC2 tx sz c i = .error i ∧ pD tx sz 0 (c - 1) 10 i = .error i) ∨ (∃ a, pD tx sz 0 (c - 1) 10 i = .ok a ∧ ((pC2 tx sz c i = .error (i + 1) ∧ pD tx sz 0 (c - 1) a (i + 1) = .error (i + 1)) ∨ ∃ b, pD tx sz 0 (c - 1) a (i + 1) = .ok b ∧ pC2 tx sz c i = .ok (a, b))) := by
  unfold pC2
  cases h1 : pD tx sz 0 (c - 1) 10 i with
  | error e =>
    obtain ⟨rfl, -⟩ := pD_no h1
    exact Or.inl ⟨rfl, rfl⟩
  | ok a =>
    refine Or.inr ⟨a, rfl, ?_⟩
    rw [eBd_o]
    cases h2 : pD tx sz 0 (c - 1) a (i + 1) with
    | error e =>
      obtain ⟨rfl, -⟩ := pD_no h2
      exact Or.inl ⟨rfl, rfl⟩
    | ok b => exact Or.inr ⟨b, rfl, rfl⟩
theorem M_rTr {tx : Nat → Nat} {sz i c : Nat} {g : Game} {S : Sg} (h : TXm tx sz S) (h100 : sz ≤ 100) (hch : ∀ x, x < sz → tx x ≤ 255) (hi : i < 200) (hs : S 392 3 = nI (i + 1)) (hc : c ≤ 9) (hc2 : 2 ≤ c) (hg : MP g (S 394)) (hv : VL g) (hgc : g.1 0 = nI c) (hl : g.2.1.length < 16) : ∃ S', f_X11_readTrack S = some (bI (eB (pTr tx sz c i)), S') ∧ (∀ x, pTr tx sz c i = .ok x → MP (gAddT g (nI x.1, nI x.2.1, nI x.2.2, -9)) (S' 394) ∧ S' 392 3 = nI (i + 4)) ∧ (∀ e, pTr tx sz c i = .error e → S' 392 3 = nI e) ∧ FrT S S' := by
  have hc0 : S 394 0 = nI c := hg.1.1.trans hgc
  have hcm : nI c - (1 : Int32) = nI (c - 1) := pk_sub (a := c) (b := 1) (by omega)
  unfold f_X11_readTrack pTr
  have z0 : ∀ (x : Int32) (S : Sg), f_X11_digit 0 (nI (c - 1)) x S = f_X11_digit (nI 0) (nI (c - 1)) x S := fun _ _ => rfl
  have z1 : ∀ (x : Int32) (S : Sg), f_X11_digit 1 9 x S = f_X11_digit (nI 1) (nI 9) x S := fun _ _ => rfl
  have z9 : ∀ (x : Int32) (S : Sg), f_X11_digit 0 9 x S = f_X11_digit (nI 0) (nI 9) x S := fun _ _ => rfl
  have zn : ∀ (y : Nat) (x : Int32) (S : Sg), f_X11_digit (nI y) 9 x S = f_X11_digit (nI y) (nI 9) x S := fun _ _ _ => rfl
  rw [gck_c0, ix_c0, hc0, hcm, z0]
  rcases pC2_cases (tx := tx) (sz := sz) (c := c) (i := i + 1) with ⟨h1, h2⟩ | ⟨a, h2, h1⟩
  · rw [M_dig_no h h100 hch (by omega) hs (by omega) (by omega) (Or.inl ⟨rfl, rfl⟩) h2, gbiN, if_pos rfl, h1, eBd_e]
    unfold B_X11_readTrack_41 B_X11_readTrack_62
    rw [if_pos rfl, if_pos rfl]
    exact ⟨S, rfl, fun x hx => (by cases hx), fun e he => (by rw [← Except.error.inj he]; exact hs), FrT.rf S⟩
  · have ha := (dg_v (pD_ok h2).1).1
    rw [M_dig_ok h h100 hch (by omega) hs (by omega) (by omega) (Or.inl ⟨rfl, rfl⟩) h2, gbiN, if_neg (nI_m9 (by omega)), gck_c0, u2_n (by omega), hc0, hcm, z0]
    have t1 := TXm_fr h (FrT.s (v := nI (i + 1 + 1)))
    rcases h1 with ⟨h1, h3⟩ | ⟨b, h3, h1⟩
    · rw [M_dig_no t1 h100 hch (i := i + 1 + 1) (by omega) u2_eq (by omega) (by omega) (Or.inr ⟨by omega, rfl⟩) h3, gbiN, h1, eBd_e]
      unfold B_X11_readTrack_41 B_X11_readTrack_62
      rw [if_pos rfl, if_pos rfl]
      exact ⟨_, rfl, fun x hx => (by cases hx), fun e he => (by rw [← Except.error.inj he]; exact u2_eq), FrT.s⟩
    · have hb := (dg_v (pD_ok h3).1).1
      have f2 : FrT S (u2 (u2 S 392 3 (nI (i + 1 + 1))) 392 3 (nI (i + 1 + 1 + 1))) := FrT.tr FrT.s FrT.s
      have t2 := TXm_fr h f2
      rw [M_dig_ok t1 h100 hch (i := i + 1 + 1) (by omega) u2_eq (by omega) (by omega) (Or.inr ⟨by omega, rfl⟩) h3, gbiN, h1, eBd_o]
      unfold B_X11_readTrack_41
      rw [if_neg (nI_m9 (by omega)), z1]
      unfold B_X11_readTrack_62
      cases h5 : pD tx sz 1 9 10 (i + 3) with
      | error e =>
        obtain ⟨rfl, -⟩ := pD_no h5
        rw [M_dig_no t2 h100 hch (i := i + 1 + 1 + 1) (by omega) u2_eq (by omega) (by omega) (Or.inl ⟨rfl, rfl⟩) h5, gbiN, if_pos rfl, eBd_e]
        exact ⟨_, rfl, fun x hx => (by cases hx), fun e he => (by rw [← Except.error.inj he]; exact u2_eq), f2⟩
      | ok l =>
        have hl9 := (dg_v (pD_ok h5).1).1
        have f3 : FrT S (u2 (u2 (u2 S 392 3 (nI (i + 1 + 1))) 392 3 (nI (i + 1 + 1 + 1))) 392 3 (nI (i + 1 + 1 + 1 + 1))) := f2.tr FrT.s
        rw [M_dig_ok t2 h100 hch (i := i + 1 + 1 + 1) (by omega) u2_eq (by omega) (by omega) (Or.inl ⟨rfl, rfl⟩) h5, gbiN, if_neg (nI_m9 (by omega)), eBd_o]
        obtain ⟨S1, e1, c1, f1⟩ := M_addT (p := 394) (S := u2 (u2 (u2 S 392 3 (nI (i + 1 + 1))) 392 3 (nI (i + 1 + 1 + 1))) 392 3 (nI (i + 1 + 1 + 1 + 1))) (a1 := nI a) (a2 := nI b) (a3 := nI l) (by rw [u2_n (by omega), u2_n (by omega), u2_n (by omega)]; exact hg) hv hl
        refine ⟨S1, by rw [e1, gbvN]; rfl, fun x hx => ?_, fun e he => (by cases he), f3.tr (FrT.p f1)⟩
        rw [← Except.ok.inj hx]
        exact ⟨c1, by rw [f1 392 (by omega), u2_eq]⟩
theorem M_rCt {tx : Nat → Nat} {sz i c : Nat} {g : Game} {S : Sg} (h : TXm tx sz S) (h100 : sz ≤ 100) (hch : ∀ x, x < sz → tx x ≤ 255) (hi : i < 200) (hs : S 392 3 = nI (i + 1)) (hc : c ≤ 9) (hc2 : 2 ≤ c) (hg : MP g (S 394)) (hv : VL g) (hgc : g.1 0 = nI c) (hl : g.2.2.2.2.length < 8) : ∃ S', f_X11_readContract S = some (bI (eB (pCt tx sz c i)), S') ∧ (∀ x, pCt tx sz c i = .ok x → MP (gOffer g (nI x.1, nI x.2.1, nI x.2.2.1, nI x.2.2.2, -9, 0)) (S' 394) ∧ S' 392 3 = nI (i + 6)) ∧ (∀ e, pCt tx sz c i = .error e → S' 392 3 = nI e) ∧ FrT S S' := by
  have hc0 : S 394 0 = nI c := hg.1.1.trans hgc
  have hcm : nI c - (1 : Int32) = nI (c - 1) := pk_sub (a := c) (b := 1) (by omega)
  unfold f_X11_readContract pCt
  have z0 : ∀ (x : Int32) (S : Sg), f_X11_digit 0 (nI (c - 1)) x S = f_X11_digit (nI 0) (nI (c - 1)) x S := fun _ _ => rfl
  have z1 : ∀ (x : Int32) (S : Sg), f_X11_digit 1 9 x S = f_X11_digit (nI 1) (nI 9) x S := fun _ _ => rfl
  have z9 : ∀ (x : Int32) (S : Sg), f_X11_digit 0 9 x S = f_X11_digit (nI 0) (nI 9) x S := fun _ _ => rfl
  have zn : ∀ (y : Nat) (x : Int32) (S : Sg), f_X11_digit (nI y) 9 x S = f_X11_digit (nI y) (nI 9) x S := fun _ _ _ => rfl
  rw [gck_c0, ix_c0, hc0, hcm, z0]
  rcases pC2_cases (tx := tx) (sz := sz) (c := c) (i := i + 1) with ⟨h1, h2⟩ | ⟨a, h2, h1⟩
  · rw [M_dig_no h h100 hch (by omega) hs (by omega) (by omega) (Or.inl ⟨rfl, rfl⟩) h2, gbiN, if_pos rfl, h1, eBd_e]
    unfold B_X11_readContract_41 B_X11_readContract_62 B_X11_readContract_91 B_X11_readContract_114
    rw [if_pos rfl, if_pos rfl, if_pos rfl, if_pos rfl]
    exact ⟨S, rfl, fun x hx => (by cases hx), fun e he => (by rw [← Except.error.inj he]; exact hs), FrT.rf S⟩
  · have ha := (dg_v (pD_ok h2).1).1
    rw [M_dig_ok h h100 hch (by omega) hs (by omega) (by omega) (Or.inl ⟨rfl, rfl⟩) h2, gbiN, if_neg (nI_m9 (by omega)), gck_c0, u2_n (by omega), hc0, hcm, z0]
    have t1 := TXm_fr h (FrT.s (v := nI (i + 1 + 1)))
    rcases h1 with ⟨h1, h3⟩ | ⟨b, h3, h1⟩
    · rw [M_dig_no t1 h100 hch (i := i + 1 + 1) (by omega) u2_eq (by omega) (by omega) (Or.inr ⟨by omega, rfl⟩) h3, gbiN, h1, eBd_e]
      unfold B_X11_readContract_41 B_X11_readContract_62 B_X11_readContract_91 B_X11_readContract_114
      rw [if_pos rfl, if_pos rfl, if_pos rfl, if_pos rfl]
      exact ⟨_, rfl, fun x hx => (by cases hx), fun e he => (by rw [← Except.error.inj he]; exact u2_eq), FrT.s⟩
    · have hb := (dg_v (pD_ok h3).1).1
      obtain ⟨S2, hS2⟩ : ∃ S2, S2 = u2 (u2 S 392 3 (nI (i + 1 + 1))) 392 3 (nI (i + 3)) := ⟨_, rfl⟩
      have f2 : FrT S S2 := by rw [hS2]; exact FrT.tr FrT.s FrT.s
      have t2 := TXm_fr h f2
      have p2 : S2 392 3 = nI (i + 3) := by rw [hS2, u2_eq]
      have m2 : MP g (S2 394) := by rw [hS2, u2_n (by omega), u2_n (by omega)]; exact hg
      rw [M_dig_ok t1 h100 hch (i := i + 1 + 1) (by omega) u2_eq (by omega) (by omega) (Or.inr ⟨by omega, rfl⟩) h3, gbiN, h1, eBd_o, show i + 1 + 1 + 1 = i + 3 from rfl, ← hS2]
      clear hS2
      unfold B_X11_readContract_41
      rw [if_neg (nI_m9 (by omega)), z9]
      unfold B_X11_readContract_62
      cases h5 : pD tx sz 0 9 10 (i + 3) with
      | error e =>
        obtain ⟨rfl, -⟩ := pD_no h5
        rw [M_dig_no t2 h100 hch (by omega) p2 (by omega) (by omega) (Or.inl ⟨rfl, rfl⟩) h5, gbiN, if_pos rfl, eBd_e]
        unfold B_X11_readContract_91 B_X11_readContract_114
        rw [if_pos rfl, if_pos rfl]
        exact ⟨_, rfl, fun x hx => (by cases hx), fun e he => (by rw [← Except.error.inj he]; exact p2), f2⟩
      | ok t =>
        have ht9 := (dg_v (pD_ok h5).1).1
        rw [M_dig_ok t2 h100 hch (by omega) p2 (by omega) (by omega) (Or.inl ⟨rfl, rfl⟩) h5, gbiN, if_neg (nI_m9 (by omega)), eBd_o]
        obtain ⟨S3, hS3⟩ : ∃ S3, S3 = u2 S2 392 3 (nI (i + 4)) := ⟨_, rfl⟩
        have f3 : FrT S S3 := by rw [hS3]; exact f2.tr FrT.s
        have t3 := TXm_fr h f3
        have p3 : S3 392 3 = nI (i + 4) := by rw [hS3, u2_eq]
        have m3 : MP g (S3 394) := by rw [hS3, u2_n (by omega)]; exact m2
        rw [show i + 3 + 1 = i + 4 from rfl, ← hS3]
        clear hS3
        have e3 : (if nI t = 0 then B_X11_readContract_84 S3 (nI a) (nI b) (nI t) 1 else B_X11_readContract_84 S3 (nI a) (nI b) (nI t) 0) = B_X11_readContract_84 S3 (nI a) (nI b) (nI t) (nI (if t = 0 then 1 else 0)) := by
          by_cases q : t = 0
          · rw [if_pos (by rw [q]; rfl), if_pos q]; rfl
          · rw [if_neg (by rw [show (0 : Int32) = nI 0 from rfl, nI_inj (by omega) (by omega)]; exact q), if_neg q]; rfl
        show ∃ S', (if nI t = 0 then B_X11_readContract_84 S3 (nI a) (nI b) (nI t) 1 else B_X11_readContract_84 S3 (nI a) (nI b) (nI t) 0) = _ ∧ _
        rw [e3]
        obtain ⟨lo, hlo⟩ : ∃ lo, lo = (if t = 0 then 1 else 0) := ⟨_, rfl⟩
        have hlo9 : lo ≤ 9 := by rw [hlo]; split <;> omega
        rw [← hlo]
        unfold B_X11_readContract_84
        rw [zn]
        cases h6 : pD tx sz lo 9 10 (i + 4) with
        | error e =>
          obtain ⟨rfl, -⟩ := pD_no h6
          rw [M_dig_no t3 h100 hch (by omega) p3 hlo9 (by omega) (Or.inl ⟨rfl, rfl⟩) h6, gbiN, eBd_e]
          unfold B_X11_readContract_91 B_X11_readContract_114
          rw [if_pos rfl, if_pos rfl]
          exact ⟨_, rfl, fun x hx => (by cases hx), fun e he => (by rw [← Except.error.inj he]; exact p3), f3⟩
        | ok o =>
          have ho9 := (dg_v (pD_ok h6).1).1
          rw [M_dig_ok t3 h100 hch (by omega) p3 hlo9 (by omega) (Or.inl ⟨rfl, rfl⟩) h6, gbiN, eBd_o]
          obtain ⟨S4, hS4⟩ : ∃ S4, S4 = u2 S3 392 3 (nI (i + 5)) := ⟨_, rfl⟩
          have f4 : FrT S S4 := by rw [hS4]; exact f3.tr FrT.s
          have t4 := TXm_fr h f4
          have p4 : S4 392 3 = nI (i + 5) := by rw [hS4, u2_eq]
          have m4 : MP g (S4 394) := by rw [hS4, u2_n (by omega)]; exact m3
          rw [show i + 4 + 1 = i + 5 from rfl, ← hS4]
          clear hS4
          unfold B_X11_readContract_91
          rw [if_neg (nI_m9 (by omega)), z1]
          unfold B_X11_readContract_114
          cases h7 : pD tx sz 1 9 10 (i + 5) with
          | error e =>
            obtain ⟨rfl, -⟩ := pD_no h7
            rw [M_dig_no t4 h100 hch (by omega) p4 (by omega) (by omega) (Or.inl ⟨rfl, rfl⟩) h7, gbiN, if_pos rfl, eBd_e]
            exact ⟨_, rfl, fun x hx => (by cases hx), fun e he => (by rw [← Except.error.inj he]; exact p4), f4⟩
          | ok r =>
            have hr9 := (dg_v (pD_ok h7).1).1
            rw [M_dig_ok t4 h100 hch (by omega) p4 (by omega) (by omega) (Or.inl ⟨rfl, rfl⟩) h7, gbiN, if_neg (nI_m9 (by omega)), eBd_o, show (10 : Int32) = nI 10 from rfl, pk_mul, nI_add]
            obtain ⟨S1, e1, c1, f1⟩ := M_offer (p := 394) (S := u2 S4 392 3 (nI (i + 5 + 1))) (a1 := nI a) (a2 := nI b) (a3 := nI (10 * t + o)) (a4 := nI r) (by rw [u2_n (by omega)]; exact m4) hv hl
            refine ⟨S1, by rw [e1, gbvN]; rfl, fun x hx => ?_, fun e he => (by cases he), (f4.tr FrT.s).tr (FrT.p f1)⟩
            rw [← Except.ok.inj hx]
            exact ⟨c1, by rw [f1 392 (by omega), u2_eq]⟩
