/-! ===== the text: its parts ===== -/
def dg (tx : Nat → Nat) (sz i : Nat) : Option Nat := if i < sz ∧ 48 ≤ tx i ∧ tx i ≤ 57 then some (tx i - 48) else none
def dI (o : Option Nat) : Int32 := match o with
  | some d => nI d
  | none => -1
def eI {α : Type} (o : Except Nat α) : Int32 := match o with
  | .ok _ => -9
  | .error e => nI e
def eB {α : Type} (o : Except Nat α) : Bool := match o with
  | .ok _ => true
  | .error _ => false
def eBd {α β : Type} (o : Except Nat α) (k : α → Except Nat β) : Except Nat β := match o with
  | .ok a => k a
  | .error e => .error e
theorem eBd_o {α β : Type} {a : α} {k : α → Except Nat β} : eBd (.ok a) k = k a := rfl
theorem eBd_e {α β : Type} {e : Nat} {k : α → Except Nat β} : eBd (.error e) k = .error e := rfl
theorem eI_o {α : Type} {a : α} : eI (.ok a) = -9 := rfl
theorem eI_e {α : Type} {e : Nat} : eI (.error e : Except Nat α) = nI e := rfl
theorem dg_v {tx : Nat → Nat} {sz i d : Nat} (h : dg tx sz i = some d) : d ≤ 9 ∧ i < sz ∧ tx i = 48 + d := by
  unfold dg at h
  split at h
  · rename_i q
    have := Option.some.inj h
    omega
  · cases h
theorem C_dig {tx : Nat → Nat} {sz i : Nat} {S : Sg} (h : TXs tx sz S) (h100 : sz ≤ 100) (hch : ∀ x, x < sz → tx x ≤ 255) (hi : i < 1000) : f_X2_digitAt (nI i) S = some (dI (dg tx sz i), S) := by
  unfold f_X2_digitAt dg
  rw [if_neg (nI_ng (by omega)), h.1]
  by_cases h1 : i < sz
  · have h2 := hch i h1
    rw [if_pos (by rw [nIlt (by omega) (by omega)]; exact h1), at_ok (by omega) (by omega), gbiN, h.2 i h1, show (48 : Int32) = nI 48 from rfl, show (57 : Int32) = nI 57 from rfl]
    by_cases h3 : tx i < 48
    · rw [if_pos (by rw [nIlt (by omega) (by omega)]; exact h3), if_neg (by omega)]
      rfl
    · rw [if_neg (by rw [nIlt (by omega) (by omega)]; exact h3)]
      by_cases h4 : 57 < tx i
      · rw [if_pos (by rw [nIlt (by omega) (by omega)]; exact h4), if_neg (by omega)]
        rfl
      · rw [if_neg (by rw [nIlt (by omega) (by omega)]; exact h4), if_pos (by omega), pk_sub (by omega)]
        rfl
  · rw [if_neg (by rw [nIlt (by omega) (by omega)]; exact h1), if_neg (by omega)]
    rfl
theorem C_hold {tx : Nat → Nat} {sz i c : Nat} {S : Sg} (h : TXs tx sz S) (h100 : sz ≤ 100) (hch : ∀ x, x < sz → tx x ≤ 255) (hi : i < 1000) (hc : c ≤ 255) : f_X2_holds (nI i) (nI c) S = some (bI (decide (i < sz ∧ tx i = c)), S) := by
  unfold f_X2_holds
  rw [if_neg (nI_ng (by omega)), h.1]
  by_cases h1 : i < sz
  · have h2 := hch i h1
    rw [if_neg (by rw [nIle (by omega) (by omega)]; omega), at_ok (by omega) (by omega), gbiN, h.2 i h1]
    by_cases h3 : tx i = c
    · rw [if_pos (by rw [h3]), decide_eq_true ⟨h1, h3⟩]
      rfl
    · rw [if_neg (by rw [nI_inj (by omega) (by omega)]; exact h3), decide_eq_false (fun q => h3 q.2)]
      rfl
  · rw [if_pos (by rw [nIle (by omega) (by omega)]; omega), decide_eq_false (fun q => h1 q.1)]
    rfl
/-- a digit within bounds, and not a certain one -/
def pD (tx : Nat → Nat) (sz lo hi nt i : Nat) : Except Nat Nat := match dg tx sz i with
  | some d => if lo ≤ d ∧ d ≤ hi ∧ d ≠ nt then .ok d else .error i
  | none => .error i
theorem pD_ok {tx : Nat → Nat} {sz lo hi nt i d : Nat} (h : pD tx sz lo hi nt i = .ok d) : dg tx sz i = some d ∧ lo ≤ d ∧ d ≤ hi ∧ d ≠ nt := by
  unfold pD at h
  split at h
  · rename_i e q
    split at h
    · rename_i q2
      have := Except.ok.inj h
      subst this
      exact ⟨q, q2⟩
    · cases h
  · cases h
theorem pD_no {tx : Nat → Nat} {sz lo hi nt i e : Nat} (h : pD tx sz lo hi nt i = .error e) : e = i ∧ ∀ d, dg tx sz i = some d → ¬ (lo ≤ d ∧ d ≤ hi ∧ d ≠ nt) := by
  unfold pD at h
  split at h
  · rename_i d q
    split at h
    · cases h
    · rename_i q2
      exact ⟨(Except.error.inj h).symm, fun d' hd => by rw [q] at hd; rw [← Option.some.inj hd]; exact q2⟩
  · rename_i q
    exact ⟨(Except.error.inj h).symm, fun d' hd => by rw [q] at hd; cases hd⟩
/-- two cities -/
def pC2 (tx : Nat → Nat) (sz c i : Nat) : Except Nat (Nat × Nat) := eBd (pD tx sz 0 (c - 1) 10 i) fun a => eBd (pD tx sz 0 (c - 1) a (i + 1)) fun b => .ok (a, b)
theorem C_cit {tx : Nat → Nat} {sz i c : Nat} {S : Sg} (h : TXs tx sz S) (h100 : sz ≤ 100) (hch : ∀ x, x < sz → tx x ≤ 255) (hi : i < 900) (hc : c ≤ 9) (hc2 : 2 ≤ c) : f_X2_errorOfCities (nI c) (nI i) S = some (eI (pC2 tx sz c i), S) := by
  unfold f_X2_errorOfCities pC2
  rw [C_dig h h100 hch (by omega), gbiN]
  cases h1 : pD tx sz 0 (c - 1) 10 i with
  | error e =>
    obtain ⟨rfl, hn⟩ := pD_no h1
    rw [eBd_e, eI_e]
    cases h2 : dg tx sz e with
    | none => rw [if_pos (by decide)]
    | some d =>
      have h3 := dg_v h2
      have h4 := hn d h2
      show (if nI d < 0 then _ else if nI d < nI c then _ else _) = _
      rw [if_neg (nI_ng (by omega)), if_neg (by rw [nIlt (by omega) (by omega)]; omega)]
  | ok a =>
    obtain ⟨h2, -, h3, -⟩ := pD_ok h1
    have h4 := dg_v h2
    rw [h2, eBd_o]
    show (if nI a < 0 then _ else if nI a < nI c then _ else _) = _
    rw [if_neg (nI_ng (by omega)), if_pos (by rw [nIlt (by omega) (by omega)]; omega), nI_s, C_dig h h100 hch (by omega), gbiN]
    cases h5 : pD tx sz 0 (c - 1) a (i + 1) with
    | error e =>
      obtain ⟨rfl, hn⟩ := pD_no h5
      rw [eBd_e, eI_e]
      cases h6 : dg tx sz (i + 1) with
      | none => rw [if_pos (by decide)]
      | some d =>
        have h7 := dg_v h6
        have h8 := hn d h6
        show (if nI d < 0 then _ else if nI c ≤ nI d then _ else if nI d = nI a then _ else _) = _
        rw [if_neg (nI_ng (by omega))]
        by_cases h9 : c ≤ d
        · rw [if_pos (by rw [nIle (by omega) (by omega)]; exact h9)]
        · rw [if_neg (by rw [nIle (by omega) (by omega)]; exact h9), if_pos (by rw [nI_inj (by omega) (by omega)]; omega)]
    | ok b =>
      obtain ⟨h6, -, h7, h8⟩ := pD_ok h5
      have h9 := dg_v h6
      rw [h6, eBd_o, eI_o]
      show (if nI b < 0 then _ else if nI c ≤ nI b then _ else if nI b = nI a then _ else _) = _
      rw [if_neg (nI_ng (by omega)), if_neg (by rw [nIle (by omega) (by omega)]; omega), if_neg (by rw [nI_inj (by omega) (by omega)]; exact h8)]
/-- a track -/
def pTr (tx : Nat → Nat) (sz c i : Nat) : Except Nat (Nat × Nat × Nat) := eBd (pC2 tx sz c (i + 1)) fun x => eBd (pD tx sz 1 9 10 (i + 3)) fun l => .ok (x.1, x.2, l)
theorem pC2_ok {tx : Nat → Nat} {sz c i : Nat} {x : Nat × Nat} (h : pC2 tx sz c i = .ok x) : dg tx sz i = some x.1 ∧ dg tx sz (i + 1) = some x.2 ∧ x.1 ≤ c - 1 ∧ x.2 ≤ c - 1 ∧ x.2 ≠ x.1 := by
  unfold pC2 at h
  cases h1 : pD tx sz 0 (c - 1) 10 i with
  | error e => rw [h1, eBd_e] at h; cases h
  | ok a =>
    rw [h1, eBd_o] at h
    cases h2 : pD tx sz 0 (c - 1) a (i + 1) with
    | error e => rw [h2, eBd_e] at h; cases h
    | ok b =>
      rw [h2, eBd_o] at h
      rw [← Except.ok.inj h]
      have q1 := pD_ok h1
      have q2 := pD_ok h2
      exact ⟨q1.1, q2.1, q1.2.2.1, q2.2.2.1, q2.2.2.2⟩
theorem eI_m9 {α : Type} {o : Except Nat α} (h : ∀ e, o = .error e → e < 2000) : eI o = -9 ↔ eB o = true := by
  cases o with
  | ok a => exact ⟨fun _ => rfl, fun _ => rfl⟩
  | error e => exact ⟨fun q => absurd q (nI_m9 (by have := h e rfl; omega)), fun q => by cases q⟩
theorem pC2_e {tx : Nat → Nat} {sz c i e : Nat} (h : pC2 tx sz c i = .error e) : e ≤ i + 1 := by
  unfold pC2 at h
  cases h1 : pD tx sz 0 (c - 1) 10 i with
  | error e' =>
    rw [h1, eBd_e] at h
    have := (pD_no h1).1
    have := Except.error.inj h
    omega
  | ok a =>
    rw [h1, eBd_o] at h
    cases h2 : pD tx sz 0 (c - 1) a (i + 1) with
    | error e' =>
      rw [h2, eBd_e] at h
      have := (pD_no h2).1
      have := Except.error.inj h
      omega
    | ok b => rw [h2, eBd_o] at h; cases h
theorem C_rTr {tx : Nat → Nat} {sz i c : Nat} {g : Game} {S : Sg} (h : TXs tx sz S) (h100 : sz ≤ 100) (hch : ∀ x, x < sz → tx x ≤ 255) (hi : i < 200) (hc : c ≤ 9) (hc2 : 2 ≤ c) (hg : CP 35 g S) (hgc : g.1 0 = nI c) (hl : g.2.1.length < 16) : ∃ S', f_X2_readTrack 35 (nI i) S = some (eI (pTr tx sz c i), S') ∧ (∀ x, pTr tx sz c i = .ok x → CP 35 (gAddT g (nI x.1, nI x.2.1, nI x.2.2, -9)) S') ∧ Fr 35 S S' := by
  unfold f_X2_readTrack pTr
  rw [hg.1.1, hgc, nI_s, C_cit h h100 hch (by omega) hc hc2, gbiN]
  cases h1 : pC2 tx sz c (i + 1) with
  | error e =>
    have h2 := pC2_e h1
    rw [eBd_e, eI_e, eI_e]
    exact ⟨S, by rw [if_neg (nI_m9 (by omega))], fun x hx => (by cases hx), Fr.rf⟩
  | ok x =>
    obtain ⟨d1, d2, -⟩ := pC2_ok h1
    rw [eBd_o, eI_o, if_pos rfl, nIp3, C_dig h h100 hch (by omega), gbiN]
    cases h3 : pD tx sz 1 9 10 (i + 3) with
    | error e =>
      obtain ⟨rfl, hn⟩ := pD_no h3
      rw [eBd_e, eI_e]
      refine ⟨S, ?_, fun x hx => (by cases hx), Fr.rf⟩
      cases h6 : dg tx sz (i + 3) with
      | none => rw [if_neg (by decide)]
      | some d =>
        have h7 := dg_v h6
        have h8 := hn d h6
        show (if (1 : Int32) ≤ nI d then _ else _) = _
        rw [if_neg (by rw [show (1 : Int32) = nI 1 from rfl, nIle (by omega) (by omega)]; omega)]
    | ok l =>
      obtain ⟨h6, h7, h8, -⟩ := pD_ok h3
      obtain ⟨S1, e1, c1, f1⟩ := C_addT (a1 := nI x.1) (a2 := nI x.2) (a3 := nI l) hg hl
      rw [eBd_o, eI_o]
      refine ⟨S1, ?_, fun y hy => by rw [← Except.ok.inj hy]; exact c1, f1⟩
      rw [h6]
      show (if (1 : Int32) ≤ nI l then _ else _) = _
      rw [if_pos (by rw [show (1 : Int32) = nI 1 from rfl, nIle (by omega) (by omega)]; omega), C_dig h h100 hch (by omega), gbiN, d1, nIp2, C_dig h h100 hch (by omega), gbiN, show i + 2 = i + 1 + 1 from rfl, d2]
      show gbv (f_X8_add 35 (nI x.1) (nI x.2) (nI l) S) _ = _
      rw [e1, gbvN]
/-- a contract: its cities, its pay, its rounds -/
def pCt (tx : Nat → Nat) (sz c i : Nat) : Except Nat (Nat × Nat × Nat × Nat) := eBd (pC2 tx sz c (i + 1)) fun x => eBd (pD tx sz 0 9 10 (i + 3)) fun t => eBd (pD tx sz (if t = 0 then 1 else 0) 9 10 (i + 4)) fun o => eBd (pD tx sz 1 9 10 (i + 5)) fun r => .ok (x.1, x.2, 10 * t + o, r)
theorem C_rCt {tx : Nat → Nat} {sz i c : Nat} {g : Game} {S : Sg} (h : TXs tx sz S) (h100 : sz ≤ 100) (hch : ∀ x, x < sz → tx x ≤ 255) (hi : i < 200) (hc : c ≤ 9) (hc2 : 2 ≤ c) (hg : CP 35 g S) (hgc : g.1 0 = nI c) (hl : g.2.2.2.2.length < 8) : ∃ S', f_X2_readContract 35 (nI i) S = some (eI (pCt tx sz c i), S') ∧ (∀ x, pCt tx sz c i = .ok x → CP 35 (gOffer g (nI x.1, nI x.2.1, nI x.2.2.1, nI x.2.2.2, -9, 0)) S') ∧ Fr 35 S S' := by
  unfold f_X2_readContract pCt
  rw [hg.1.1, hgc, nI_s, C_cit h h100 hch (by omega) hc hc2, gbiN]
  cases h1 : pC2 tx sz c (i + 1) with
  | error e =>
    have h2 := pC2_e h1
    rw [eBd_e, eI_e, eI_e]
    exact ⟨S, by rw [if_neg (nI_m9 (by omega))], fun x hx => (by cases hx), Fr.rf⟩
  | ok x =>
    obtain ⟨d1, d2, -⟩ := pC2_ok h1
    rw [eBd_o, eI_o, if_pos rfl, nIp3, C_dig h h100 hch (by omega), gbiN]
    cases h3 : pD tx sz 0 9 10 (i + 3) with
    | error e =>
      obtain ⟨rfl, hn⟩ := pD_no h3
      rw [eBd_e, eI_e]
      refine ⟨S, ?_, fun x hx => (by cases hx), Fr.rf⟩
      cases h6 : dg tx sz (i + 3) with
      | none => rw [if_neg (by decide)]
      | some d =>
        have h7 := dg_v h6
        have h8 := hn d h6
        omega
    | ok t =>
      obtain ⟨h6, h7, h8, -⟩ := pD_ok h3
      rw [h6, eBd_o]
      show ∃ S', (if (0 : Int32) ≤ nI t then _ else _) = _ ∧ _
      rw [if_pos (nI_pos' (by omega)), nIp4, C_dig h h100 hch (by omega), gbiN]
      cases g3 : pD tx sz (if t = 0 then 1 else 0) 9 10 (i + 4) with
      | error e =>
        obtain ⟨rfl, hn⟩ := pD_no g3
        rw [eBd_e, eI_e]
        refine ⟨S, ?_, fun x hx => (by cases hx), Fr.rf⟩
        cases g6 : dg tx sz (i + 4) with
        | none => rw [if_pos (by decide)]
        | some d =>
          have g7 := dg_v g6
          have g8 := hn d g6
          show (if nI d < 0 then _ else if nI t + nI d = 0 then _ else _) = _
          have ht0 : t = 0 := by
            by_cases q : t = 0
            · exact q
            · rw [if_neg q] at g8; omega
          rw [if_pos ht0] at g8
          rw [if_neg (nI_ng (by omega)), if_pos (by rw [nI_add, show (0 : Int32) = nI 0 from rfl, nI_inj (by omega) (by omega)]; omega)]
      | ok o =>
        obtain ⟨g6, g7, g8, -⟩ := pD_ok g3
        have hto : ¬ t + o = 0 := by
          intro q
          rw [if_pos (by omega)] at g7
          omega
        rw [g6, eBd_o]
        show ∃ S', (if nI o < 0 then _ else if nI t + nI o = 0 then _ else _) = _ ∧ _
        rw [if_neg (nI_ng (by omega)), if_neg (by rw [nI_add, show (0 : Int32) = nI 0 from rfl, nI_inj (by omega) (by omega)]; exact hto), nIp5, C_dig h h100 hch (by omega), gbiN]
        cases k3 : pD tx sz 1 9 10 (i + 5) with
        | error e =>
          obtain ⟨rfl, hn⟩ := pD_no k3
          rw [eBd_e, eI_e]
          refine ⟨S, ?_, fun x hx => (by cases hx), Fr.rf⟩
          cases k6 : dg tx sz (i + 5) with
          | none => rw [if_neg (by decide)]
          | some d =>
            have k7 := dg_v k6
            have k8 := hn d k6
            show (if (1 : Int32) ≤ nI d then _ else _) = _
            rw [if_neg (by rw [show (1 : Int32) = nI 1 from rfl, nIle (by omega) (by omega)]; omega)]
        | ok r =>
          obtain ⟨k6, k7, k8, -⟩ := pD_ok k3
          obtain ⟨S1, e1, c1, f1⟩ := C_offer (a1 := nI x.1) (a2 := nI x.2) (a3 := nI (10 * t + o)) (a4 := nI r) hg hl
          rw [eBd_o, eI_o]
          refine ⟨S1, ?_, fun y hy => by rw [← Except.ok.inj hy]; exact c1, f1⟩
          rw [k6]
          show (if (1 : Int32) ≤ nI r then _ else _) = _
          rw [if_pos (by rw [show (1 : Int32) = nI 1 from rfl, nIle (by omega) (by omega)]; omega), C_dig h h100 hch (by omega), gbiN, d1, nIp2, C_dig h h100 hch (by omega), gbiN, show i + 2 = i + 1 + 1 from rfl, d2, show (10 : Int32) = nI 10 from rfl]
          have q10 : nI 10 * nI t + nI o = nI (10 * t + o) := by rw [pk_mul, nI_add]
          show gbv (f_X1_add 35 (nI x.1) (nI x.2) (nI 10 * nI t + nI o) (nI r) S) _ = _
          rw [q10, e1, gbvN]

