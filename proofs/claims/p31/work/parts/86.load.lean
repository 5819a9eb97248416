/-! ===== the text, read to its end ===== -/
def pPart (tx : Nat → Nat) (sz c : Nat) (g : Game) (i : Nat) : Except Nat (Game × Nat) :=
  if tx i = 116 ∧ g.2.1.length < 16 then eBd (pTr tx sz c i) fun x => .ok (gAddT g (nI x.1, nI x.2.1, nI x.2.2, -9), i + 4)
  else if tx i = 99 ∧ g.2.2.2.2.length < 8 then eBd (pCt tx sz c i) fun x => .ok (gOffer g (nI x.1, nI x.2.1, nI x.2.2.1, nI x.2.2.2, -9, 0), i + 6)
  else .error i
def pGo (tx : Nat → Nat) (sz c : Nat) : Nat → Game → Nat → Except Nat Game
  | 0, g, _ => .ok g
  | f + 1, g, i => if sz ≤ i then .ok g else eBd (pPart tx sz c g i) fun y => pGo tx sz c f y.1 y.2
def pAll (tx : Nat → Nat) (sz : Nat) : Except Nat Game :=
  if 0 < sz ∧ tx 0 = 82 then eBd (pD tx sz 2 9 10 1) fun c => pGo tx sz c 100 (gNew (nI c)) 2 else .error 0
theorem pTr_v {tx : Nat → Nat} {sz c i : Nat} {x : Nat × Nat × Nat} (h : pTr tx sz c i = .ok x) : x.1 ≤ c - 1 ∧ x.2.1 ≤ c - 1 ∧ x.2.1 ≠ x.1 ∧ 1 ≤ x.2.2 ∧ x.2.2 ≤ 9 ∧ x.1 ≤ 9 ∧ x.2.1 ≤ 9 := by
  unfold pTr at h
  cases h1 : pC2 tx sz c (i + 1) with
  | error e => rw [h1, eBd_e] at h; cases h
  | ok y =>
    rw [h1, eBd_o] at h
    cases h2 : pD tx sz 1 9 10 (i + 3) with
    | error e => rw [h2, eBd_e] at h; cases h
    | ok l =>
      rw [h2, eBd_o] at h
      rw [← Except.ok.inj h]
      obtain ⟨q1, q2, q3, q4, q5⟩ := pC2_ok h1
      obtain ⟨-, r2, r3, -⟩ := pD_ok h2
      exact ⟨q3, q4, q5, r2, r3, (dg_v q1).1, (dg_v q2).1⟩
theorem pTr_e {tx : Nat → Nat} {sz c i e : Nat} (h : pTr tx sz c i = .error e) : e ≤ i + 3 := by
  unfold pTr at h
  cases h1 : pC2 tx sz c (i + 1) with
  | error e' =>
    rw [h1, eBd_e] at h
    have q := pC2_e h1
    have := Except.error.inj h
    omega
  | ok y =>
    rw [h1, eBd_o] at h
    cases h2 : pD tx sz 1 9 10 (i + 3) with
    | error e' =>
      rw [h2, eBd_e] at h
      have q := (pD_no h2).1
      have := Except.error.inj h
      omega
    | ok l => rw [h2, eBd_o] at h; cases h
theorem pCt_v {tx : Nat → Nat} {sz c i : Nat} {x : Nat × Nat × Nat × Nat} (h : pCt tx sz c i = .ok x) : x.1 ≤ c - 1 ∧ x.2.1 ≤ c - 1 ∧ x.2.1 ≠ x.1 ∧ 1 ≤ x.2.2.1 ∧ x.2.2.1 ≤ 99 ∧ 1 ≤ x.2.2.2 ∧ x.2.2.2 ≤ 9 ∧ x.1 ≤ 9 ∧ x.2.1 ≤ 9 := by
  unfold pCt at h
  cases h1 : pC2 tx sz c (i + 1) with
  | error e => rw [h1, eBd_e] at h; cases h
  | ok y =>
    rw [h1, eBd_o] at h
    cases h2 : pD tx sz 0 9 10 (i + 3) with
    | error e => rw [h2, eBd_e] at h; cases h
    | ok t =>
      rw [h2, eBd_o] at h
      cases h3 : pD tx sz (if t = 0 then 1 else 0) 9 10 (i + 4) with
      | error e => rw [h3, eBd_e] at h; cases h
      | ok o =>
        rw [h3, eBd_o] at h
        cases h4 : pD tx sz 1 9 10 (i + 5) with
        | error e => rw [h4, eBd_e] at h; cases h
        | ok r =>
          rw [h4, eBd_o] at h
          rw [← Except.ok.inj h]
          obtain ⟨q1, q2, q3, q4, q5⟩ := pC2_ok h1
          obtain ⟨-, r2, r3, -⟩ := pD_ok h2
          obtain ⟨-, s2, s3, -⟩ := pD_ok h3
          obtain ⟨-, u2, u3, -⟩ := pD_ok h4
          have ht : 1 ≤ 10 * t + o := by
            by_cases q : t = 0
            · rw [if_pos q] at s2; omega
            · omega
          exact ⟨q3, q4, q5, ht, by show 10 * t + o ≤ 99; omega, u2, u3, (dg_v q1).1, (dg_v q2).1⟩
theorem pCt_e {tx : Nat → Nat} {sz c i e : Nat} (h : pCt tx sz c i = .error e) : e ≤ i + 5 := by
  unfold pCt at h
  cases h1 : pC2 tx sz c (i + 1) with
  | error e' =>
    rw [h1, eBd_e] at h
    have q := pC2_e h1
    have := Except.error.inj h
    omega
  | ok y =>
    rw [h1, eBd_o] at h
    cases h2 : pD tx sz 0 9 10 (i + 3) with
    | error e' =>
      rw [h2, eBd_e] at h
      have q := (pD_no h2).1
      have := Except.error.inj h
      omega
    | ok t =>
      rw [h2, eBd_o] at h
      cases h3 : pD tx sz (if t = 0 then 1 else 0) 9 10 (i + 4) with
      | error e' =>
        rw [h3, eBd_e] at h
        have q := (pD_no h3).1
        have := Except.error.inj h
        omega
      | ok o =>
        rw [h3, eBd_o] at h
        cases h4 : pD tx sz 1 9 10 (i + 5) with
        | error e' =>
          rw [h4, eBd_e] at h
          have q := (pD_no h4).1
          have := Except.error.inj h
          omega
        | ok r => rw [h4, eBd_o] at h; cases h
theorem eB_ne {α : Type} {x : α} : ¬ bI (eB (.ok x : Except Nat α)) = 0 := by
  show ¬ bI true = 0
  decide
theorem V_part {tx : Nat → Nat} {sz c n i : Nat} {g : Game} {y : Game × Nat} (hV : V c n g) (h : pPart tx sz c g i = .ok y) : V c n y.1 ∧ y.2 = if tx i = 116 then i + 4 else i + 6 := by
  have hc := hV.1
  unfold pPart at h
  split at h
  · rename_i q
    cases h1 : pTr tx sz c i with
    | error e => rw [h1, eBd_e] at h; cases h
    | ok x =>
      rw [h1, eBd_o] at h
      rw [← Except.ok.inj h]
      obtain ⟨a1, a2, a3, a4, a5, a6, a7⟩ := pTr_v h1
      refine ⟨V_gTr hV (by rw [List.length_append, List.length_singleton]; omega) (fun t ht => ?_), by rw [if_pos q.1]⟩
      rcases List.mem_append.mp ht with r | r
      · exact hV.2.2.1.2 t r
      · rw [List.mem_singleton.mp r]
        exact ⟨⟨x.1, by omega, rfl⟩, ⟨x.2.1, by omega, rfl⟩, fun e => a3 ((nI_inj (by omega) (by omega)).mp e).symm, ⟨x.2.2, a4, a5, rfl⟩, Or.inl rfl⟩
  · split at h
    · rename_i q1 q
      cases h1 : pCt tx sz c i with
      | error e => rw [h1, eBd_e] at h; cases h
      | ok x =>
        rw [h1, eBd_o] at h
        rw [← Except.ok.inj h]
        obtain ⟨a1, a2, a3, a4, a5, a6, a7, a8, a9⟩ := pCt_v h1
        exact ⟨V_offer hV q.2 ⟨⟨x.1, by omega, rfl⟩, ⟨x.2.1, by omega, rfl⟩, fun e => a3 ((nI_inj (by omega) (by omega)).mp e).symm, ⟨x.2.2.1, a4, a5, rfl⟩, ⟨x.2.2.2, a6, a7, rfl⟩, Or.inl rfl, ⟨0, by omega, by omega, nI_0.symm⟩⟩, by rw [if_neg (by omega)]⟩
    · cases h
theorem pPart_e {tx : Nat → Nat} {sz c i e : Nat} {g : Game} (h : pPart tx sz c g i = .error e) : e ≤ i + 5 := by
  unfold pPart at h
  split at h
  · cases h1 : pTr tx sz c i with
    | error e' =>
      rw [h1, eBd_e] at h
      have q := pTr_e h1
      have := Except.error.inj h
      omega
    | ok x => rw [h1, eBd_o] at h; cases h
  · split at h
    · cases h1 : pCt tx sz c i with
      | error e' =>
        rw [h1, eBd_e] at h
        have q := pCt_e h1
        have := Except.error.inj h
        omega
      | ok x => rw [h1, eBd_o] at h; cases h
    · have := Except.error.inj h
      omega
theorem V_new {c : Nat} (h2 : 2 ≤ c) (h9 : c ≤ 9) : V c 0 (gNew (nI c)) :=
  ⟨⟨h2, h9, rfl⟩, ⟨1, by omega, by omega, rfl⟩, ⟨Nat.zero_le _, fun t ht => by simp [gNew] at ht⟩, fun i _ => ⟨⟨1, by omega, by omega, rfl⟩, ⟨0, by omega, by omega, rfl⟩⟩, fun i _ => ⟨Nat.zero_le _, fun x hx => by simp [gNew] at hx⟩, Nat.zero_le _, fun x hx => by simp [gNew] at hx⟩
theorem V_go {tx : Nat → Nat} {sz c n : Nat} : ∀ (m : Nat) (g g' : Game) (i : Nat), V c n g → pGo tx sz c m g i = .ok g' → V c n g' := by
  intro m
  induction m with
  | zero => intro g g' i hV h; rw [← Except.ok.inj h]; exact hV
  | succ m ih =>
    intro g g' i hV h
    unfold pGo at h
    split at h
    · rw [← Except.ok.inj h]; exact hV
    · cases h1 : pPart tx sz c g i with
      | error e => rw [h1, eBd_e] at h; cases h
      | ok y =>
        rw [h1, eBd_o] at h
        exact ih y.1 g' y.2 (V_part hV h1).1 h
theorem V_all {tx : Nat → Nat} {sz : Nat} {g : Game} (h : pAll tx sz = .ok g) : ∃ c, V c 0 g := by
  unfold pAll at h
  split at h
  · cases h1 : pD tx sz 2 9 10 1 with
    | error e => rw [h1, eBd_e] at h; cases h
    | ok c =>
      rw [h1, eBd_o] at h
      obtain ⟨-, h2, h9, -⟩ := pD_ok h1
      exact ⟨c, V_go _ _ _ _ (V_new h2 h9) h⟩
  · cases h
theorem TXs_fr {tx : Nat → Nat} {sz : Nat} {S S' : Sg} (h : TXs tx sz S) (f : Fr 35 S S') : TXs tx sz S' := ⟨by rw [f 1 (by omega)]; exact h.1, fun x hx => by rw [f 2 (by omega)]; exact h.2 x hx⟩
theorem C_part {tx : Nat → Nat} {sz i c n : Nat} {g : Game} {S : Sg} (h : TXs tx sz S) (h100 : sz ≤ 100) (hch : ∀ x, x < sz → tx x ≤ 255) (hi : i < sz) (hg : CP 35 g S) (hV : V c n g) : ∃ S', f_X2_readPart 35 (nI i) S = some (eI (pPart tx sz c g i), S') ∧ (∀ y, pPart tx sz c g i = .ok y → CP 35 y.1 S') ∧ Fr 35 S S' := by
  have hvl := V.vl hV
  obtain ⟨hc2, hc9, hgc⟩ := hV.1
  have hl16 := hvl.1
  have hl8 := hvl.2.2.1
  unfold f_X2_readPart B_X2_readPart_27 pPart
  rw [show (116 : Int32) = nI 116 from rfl, show (99 : Int32) = nI 99 from rfl, C_hold h h100 hch (by omega) (by omega), gbiN]
  have ht : ∀ S, CP 35 g S → f_X8_areFull 35 S = some (bI (decide (¬ g.2.1.length < 16)), S) := fun S hS => by
    unfold f_X8_areFull
    rw [hS.2.1.1, show (16 : Int32) = nI 16 from rfl]
    by_cases q : g.2.1.length < 16
    · rw [if_pos (by rw [nIlt (by omega) (by omega)]; exact q), decide_eq_false (fun k => k q)]; rfl
    · rw [if_neg (by rw [nIlt (by omega) (by omega)]; exact q), decide_eq_true q]; rfl
  have hct : ∀ S, CP 35 g S → f_X1_areFull 35 S = some (bI (decide (¬ g.2.2.2.2.length < 8)), S) := fun S hS => by
    unfold f_X1_areFull
    rw [hS.2.2.2.2.1, show (8 : Int32) = nI 8 from rfl]
    by_cases q : g.2.2.2.2.length < 8
    · rw [if_pos (by rw [nIlt (by omega) (by omega)]; exact q), decide_eq_false (fun k => k q)]; rfl
    · rw [if_neg (by rw [nIlt (by omega) (by omega)]; exact q), decide_eq_true q]; rfl
  by_cases q1 : tx i = 116
  · rw [decide_eq_true (p := i < sz ∧ tx i = 116) ⟨hi, q1⟩, if_neg (by decide), ht S hg, gbiN]
    by_cases q2 : g.2.1.length < 16
    · rw [decide_eq_false (p := ¬ g.2.1.length < 16) (fun k => k q2), if_pos (by decide), if_pos ⟨q1, q2⟩]
      obtain ⟨S1, e1, c1, f1⟩ := C_rTr h h100 hch (i := i) (by omega) hc9 hc2 hg hgc q2
      rw [e1, gbiN]
      refine ⟨S1, ?_, fun y hy => ?_, f1⟩
      · cases pTr tx sz c i <;> rfl
      · cases hx : pTr tx sz c i with
        | error e => rw [hx, eBd_e] at hy; cases hy
        | ok x =>
          rw [hx, eBd_o] at hy
          rw [← Except.ok.inj hy]
          exact c1 x hx
    · rw [decide_eq_true (p := ¬ g.2.1.length < 16) q2, if_neg (by decide), C_hold h h100 hch (by omega) (by omega), gbiN, decide_eq_false (p := i < sz ∧ tx i = 99) (by omega), if_pos (by decide), if_neg (by omega), if_neg (by omega)]
      exact ⟨S, rfl, fun y hy => (by cases hy), Fr.rf⟩
  · rw [decide_eq_false (p := i < sz ∧ tx i = 116) (fun k => q1 k.2), if_pos (by decide), C_hold h h100 hch (by omega) (by omega), gbiN, if_neg (c := tx i = 116 ∧ g.2.1.length < 16) (fun k => q1 k.1)]
    by_cases q3 : tx i = 99
    · rw [decide_eq_true (p := i < sz ∧ tx i = 99) ⟨hi, q3⟩, if_neg (by decide), hct S hg, gbiN]
      by_cases q4 : g.2.2.2.2.length < 8
      · rw [decide_eq_false (p := ¬ g.2.2.2.2.length < 8) (fun k => k q4), if_pos (by decide), if_pos ⟨q3, q4⟩]
        obtain ⟨S1, e1, c1, f1⟩ := C_rCt h h100 hch (i := i) (by omega) hc9 hc2 hg hgc q4
        rw [e1, gbiN]
        refine ⟨S1, ?_, fun y hy => ?_, f1⟩
        · cases pCt tx sz c i <;> rfl
        · cases hx : pCt tx sz c i with
          | error e => rw [hx, eBd_e] at hy; cases hy
          | ok x =>
            rw [hx, eBd_o] at hy
            rw [← Except.ok.inj hy]
            exact c1 x hx
      · rw [decide_eq_true (p := ¬ g.2.2.2.2.length < 8) q4, if_neg (by decide), if_neg (fun k => q4 k.2)]
        exact ⟨S, rfl, fun y hy => (by cases hy), Fr.rf⟩
    · rw [decide_eq_false (p := i < sz ∧ tx i = 99) (fun k => q3 k.2), if_pos (by decide), if_neg (fun k => q3 k.1)]
      exact ⟨S, rfl, fun y hy => (by cases hy), Fr.rf⟩
theorem C_go {tx : Nat → Nat} {sz c n : Nat} (h100 : sz ≤ 100) (hch : ∀ x, x < sz → tx x ≤ 255) : ∀ (m i : Nat) (g : Game) (S : Sg) (fu : Nat), sz ≤ i + m → i < 200 → m < fu → TXs tx sz S → CP 35 g S → V c n g → ∃ S', L_X2_readInto_32 35 fu S (nI i) = some (eI (pGo tx sz c m g i), S') ∧ (∀ g', pGo tx sz c m g i = .ok g' → CP 35 g' S') ∧ Fr 35 S S' := by
  intro m
  induction m with
  | zero =>
    intro i g S fu hm hi hf h hg hV
    obtain ⟨f, rfl, -⟩ := fuS hf
    refine ⟨S, ?_, fun g' hg' => by rw [← Except.ok.inj hg']; exact hg, Fr.rf⟩
    show Lb_X2_readInto_32 35 _ S (nI i) = _
    unfold Lb_X2_readInto_32
    rw [h.1, if_pos (by rw [nIle (by omega) (by omega)]; omega)]
    rfl
  | succ m ih =>
    intro i g S fu hm hi hf h hg hV
    obtain ⟨f, rfl, hf⟩ := fuS hf
    show ∃ S', Lb_X2_readInto_32 35 _ S (nI i) = _ ∧ _
    unfold Lb_X2_readInto_32 pGo
    rw [h.1]
    by_cases h1 : sz ≤ i
    · rw [if_pos (by rw [nIle (by omega) (by omega)]; omega), if_pos h1]
      exact ⟨S, rfl, fun g' hg' => by rw [← Except.ok.inj hg']; exact hg, Fr.rf⟩
    · rw [if_neg (by rw [nIle (by omega) (by omega)]; omega), if_neg h1]
      obtain ⟨S1, e1, c1, f1⟩ := C_part (i := i) h h100 hch (by omega) hg hV
      rw [e1, gbiN]
      cases hp : pPart tx sz c g i with
      | error e =>
        have he := pPart_e hp
        rw [eBd_e, eI_e, eI_e, if_neg (nI_m9 (by omega))]
        exact ⟨S1, rfl, fun g' hg' => (by cases hg'), f1⟩
      | ok y =>
        obtain ⟨hV2, hy⟩ := V_part hV hp
        have t1 := TXs_fr h f1
        rw [eBd_o, eI_o, if_pos rfl, show (116 : Int32) = nI 116 from rfl, C_hold t1 h100 hch (by omega) (by omega), gbiN]
        obtain ⟨S2, e2, c2, f2⟩ := ih y.2 y.1 S1 f (by rw [hy]; split <;> omega) (by rw [hy]; split <;> omega) (by omega) t1 (c1 y hp) hV2
        refine ⟨S2, ?_, c2, f1.tr f2⟩
        rw [← e2, hy]
        by_cases q : tx i = 116
        · rw [if_pos q, decide_eq_true (p := i < sz ∧ tx i = 116) ⟨by omega, q⟩, if_neg (by decide), gviN, nIp4]
        · rw [if_neg q, decide_eq_false (p := i < sz ∧ tx i = 116) (fun k => q k.2), if_pos (by decide), gviN, show (6 : Int32) = nI 6 from rfl, nI_add]
theorem C_read {tx : Nat → Nat} {sz : Nat} {S : Sg} (h : TXs tx sz S) (h100 : sz ≤ 100) (hch : ∀ x, x < sz → tx x ≤ 255) : ∃ S', f_X2_readInto 35 S = some (eI (pAll tx sz), S') ∧ (∀ g, pAll tx sz = .ok g → CP 35 g S') ∧ Fr 35 S S' := by
  unfold f_X2_readInto pAll
  have a0 : f_X2_holds 0 82 S = some (bI (decide (0 < sz ∧ tx 0 = 82)), S) := C_hold (i := 0) (c := 82) h h100 hch (by omega) (by omega)
  have a1 : f_X2_digitAt 1 S = some (dI (dg tx sz 1), S) := C_dig (i := 1) h h100 hch (by omega)
  rw [a0, gbiN]
  by_cases q : 0 < sz ∧ tx 0 = 82
  · rw [decide_eq_true q, if_neg (by decide), a1, gbiN, if_pos q]
    cases h1 : pD tx sz 2 9 10 1 with
    | error e =>
      obtain ⟨rfl, hn⟩ := pD_no h1
      rw [eBd_e, eI_e]
      refine ⟨S, ?_, fun x hx => (by cases hx), Fr.rf⟩
      cases h6 : dg tx sz 1 with
      | none => rw [if_neg (by decide)]; rfl
      | some d =>
        have h7 := dg_v h6
        have h8 := hn d h6
        show (if (2 : Int32) ≤ nI d then _ else _) = _
        rw [if_neg (by rw [show (2 : Int32) = nI 2 from rfl, nIle (by omega) (by omega)]; omega)]
        rfl
    | ok c =>
      obtain ⟨h6, h2, h9, -⟩ := pD_ok h1
      rw [eBd_o, h6]
      show ∃ S', (if (2 : Int32) ≤ nI c then gbv (f_X7_begin 35 (nI c) S) _ else _) = _ ∧ _
      rw [if_pos (by rw [show (2 : Int32) = nI 2 from rfl, nIle (by omega) (by omega)]; omega)]
      obtain ⟨S1, e1, c1, f1⟩ := C_begin (b := 35) (x := nI c) (S := S)
      obtain ⟨S2, e2, c2, f2⟩ := C_go h100 hch 100 2 (gNew (nI c)) S1 gFu (by omega) (by omega) (by unfold gFu; omega) (TXs_fr h f1) c1 (V_new h2 h9)
      refine ⟨S2, ?_, c2, f1.tr f2⟩
      rw [e1, gbvN]
      exact e2
  · rw [decide_eq_false q, if_pos (by decide), if_neg q]
    exact ⟨S, rfl, fun x hx => (by cases hx), Fr.rf⟩
