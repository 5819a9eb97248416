/-! ===== told: a text put together and read ===== -/
theorem num_v (xs : Nat → Int32) (L : Nat) (k : Int32) : ∃ Y : Nat, Y < 2147483648 ∧ gNum xs L k = nI Y := pk_andE _ (m := 2147483647) 31 (by decide)
def tset (tx : Nat → Nat) (sz ch : Nat) : Nat → Nat := fun j => if j = sz then ch else tx j
def mkT (S0 : At2) (n1 n2 : Nat) (tx : Nat → Nat) (sz : Nat) : At2 := ((n1, (S0.1.2.1, tx, sz, S0.1.2.2.2.2)), (n2, (S0.2.2.1, tx, sz, S0.2.2.2.2.2)))
theorem app_ok {w : At} {ch sz : Nat} {tx : Nat → Nat} (hc : ch ≤ 255) (hsz : sz < 100) (h1 : w.2.2.2.1 = sz) (h2 : w.2.2.1 = tx) : h_tryAppend (nI ch) w = some (nI (sz + 1), (w.1 + 1, (w.2.1, tset tx sz ch, sz + 1, w.2.2.2.2))) := by
  unfold h_tryAppend aAppend
  rw [if_pos (show rgB 0 255 (nI ch) = true from rgB_in (a := 0) (b := 255) (by omega) hc (by omega)), h1, if_neg (by omega), h2, nI_c (by omega)]
  rfl
theorem hput_ok {S0 : At2} {n1 n2 sz ch : Nat} {tx : Nat → Nat} (hc : ch ≤ 255) (hsz : sz < 100) : h_put (nI ch) (mkT S0 n1 n2 tx sz) = some (1, mkT S0 (n1 + 1) (n2 + 1) (tset tx sz ch) (sz + 1)) := by
  have hp : ¬ nI (sz + 1) ≤ 0 := by rw [show (0 : Int32) = nI 0 from rfl, nIle (by omega) (by omega)]; omega
  unfold h_put
  rw [app_ok (w := (mkT S0 n1 n2 tx sz).1) (sz := sz) (tx := tx) hc hsz rfl rfl, gp1N, gbsN, if_neg hp]
  rw [app_ok (sz := sz) (tx := tx) hc hsz rfl rfl, gq1N, gbsN, if_neg hp]
  rfl
theorem err_ok {S0 : At2} {n1 n2 sz : Nat} {tx : Nat → Nat} {k : Int32 → At2 → Option (Int32 × At2)} : gbs (gp1 (mkT S0 n1 n2 tx sz) (h_X10_errorPosition (mkT S0 n1 n2 tx sz).1)) k = k (eI (pAll tx sz)) (mkT S0 n1 n2 tx sz) := by
  unfold h_X10_errorPosition
  rw [gp1N, gbsN]
  rfl
theorem dg_i {tx : Nat → Nat} {sz i d : Nat} (h : i < sz) (ht : tx i = 48 + d) (hd : d ≤ 9) : dg tx sz i = some d := by
  unfold dg
  rw [if_pos ⟨h, by omega, by omega⟩, ht]
  congr 1
  omega
theorem pD_i {tx : Nat → Nat} {sz lo hi nt i d : Nat} (h : i < sz) (ht : tx i = 48 + d) (hd : d ≤ 9) (h1 : lo ≤ d) (h2 : d ≤ hi) (h3 : d ≠ nt) : pD tx sz lo hi nt i = .ok d := by
  unfold pD
  rw [dg_i h ht hd]
  show (if lo ≤ d ∧ d ≤ hi ∧ d ≠ nt then _ else _) = _
  rw [if_pos ⟨h1, h2, h3⟩]
theorem pD_n {tx : Nat → Nat} {sz lo hi nt i : Nat} (h : sz ≤ i) : pD tx sz lo hi nt i = .error i := by
  unfold pD dg
  rw [if_neg (by omega)]
theorem pC2_i {tx : Nat → Nat} {sz c i a b : Nat} (hc : c ≤ 9) (h : i + 1 < sz) (ha : tx i = 48 + a) (hb : tx (i + 1) = 48 + b) (hac : a < c) (hbc : b < c) (hab : a ≠ b) : pC2 tx sz c i = .ok (a, b) := by
  unfold pC2
  rw [pD_i (by omega) ha (by omega) (Nat.zero_le _) (by omega) (by omega), eBd_o, pD_i h hb (by omega) (Nat.zero_le _) (by omega) (fun e => hab e.symm), eBd_o]
def Pre (tx : Nat → Nat) (sz c : Nat) (g : Game) (n : Nat) : Prop := ∀ (tx' : Nat → Nat) (sz' : Nat), (∀ x, x < sz → tx' x = tx x) → sz ≤ sz' → pAll tx' sz' = pGo tx' sz' c (100 - n) g sz
section PRE
variable {tx : Nat → Nat} {sz c n : Nat} {g : Game}
theorem Pre.ok (h : Pre tx sz c g n) (hn : n < 100) : pAll tx sz = .ok g := by
  rw [h tx sz (fun _ _ => rfl) (Nat.le_refl _)]
  obtain ⟨k, hk⟩ : ∃ k, 100 - n = k + 1 := ⟨99 - n, by omega⟩
  rw [hk]
  show (if sz ≤ sz then _ else _) = _
  rw [if_pos (Nat.le_refl _)]
theorem Pre.go (h : Pre tx sz c g n) (hn : n < 100) {tx' : Nat → Nat} {sz' : Nat} (he : ∀ x, x < sz → tx' x = tx x) (hz : sz < sz') : pAll tx' sz' = eBd (pPart tx' sz' c g sz) (fun y => pGo tx' sz' c (99 - n) y.1 y.2) := by
  rw [h tx' sz' he (by omega)]
  obtain ⟨k, hk, hk2⟩ : ∃ k, 100 - n = k + 1 ∧ 99 - n = k := ⟨99 - n, by omega, rfl⟩
  rw [hk, hk2]
  show (if sz' ≤ sz then _ else _) = _
  rw [if_neg (by omega)]
theorem Pre.next (h : Pre tx sz c g n) (hn : n < 100) {tx2 : Nat → Nat} {sz2 : Nat} {g2 : Game} (he : ∀ x, x < sz → tx2 x = tx x) (hz : sz < sz2) (hp : ∀ (tx' : Nat → Nat) (sz' : Nat), (∀ x, x < sz2 → tx' x = tx2 x) → sz2 ≤ sz' → pPart tx' sz' c g sz = .ok (g2, sz2)) : Pre tx2 sz2 c g2 (n + 1) := by
  intro tx' sz' h1 h2
  rw [h.go hn (tx' := tx') (sz' := sz') (fun x hx => (h1 x (by omega)).trans (he x hx)) (by omega), hp tx' sz' h1 h2, eBd_o, show 100 - (n + 1) = 99 - n by omega]
theorem Pre.tr {a b l : Nat} (h : Pre tx sz c g n) (hn : n < 100) (hc9 : c ≤ 9) (ha : a < c) (hb : b < c) (hab : a ≠ b) (hl1 : 1 ≤ l) (hl9 : l ≤ 9) (hT : g.2.1.length < 16) : Pre (tset (tset (tset (tset tx sz 116) (sz + 1) (48 + a)) (sz + 2) (48 + b)) (sz + 3) (48 + l)) (sz + 4) c (gAddT g (nI a, nI b, nI l, -9)) (n + 1) := by
  refine h.next hn (fun x hx => ?_) (by omega) (fun tx' sz' h1 h2 => ?_)
  · unfold tset
    rw [if_neg (by omega), if_neg (by omega), if_neg (by omega), if_neg (by omega)]
  · have e0 : tx' sz = 116 := by rw [h1 sz (by omega)]; unfold tset; rw [if_neg (by omega), if_neg (by omega), if_neg (by omega), if_pos rfl]
    have e1 : tx' (sz + 1) = 48 + a := by rw [h1 _ (by omega)]; unfold tset; rw [if_neg (by omega), if_neg (by omega), if_pos rfl]
    have e2 : tx' (sz + 1 + 1) = 48 + b := by rw [h1 _ (by omega)]; unfold tset; rw [if_neg (by omega), if_pos rfl]
    have e3 : tx' (sz + 3) = 48 + l := by rw [h1 _ (by omega)]; unfold tset; rw [if_pos rfl]
    unfold pPart
    rw [if_pos ⟨e0, hT⟩]
    unfold pTr
    rw [pC2_i hc9 (by omega) e1 e2 ha hb hab, eBd_o, pD_i (by omega) e3 hl9 hl1 hl9 (by omega), eBd_o, eBd_o]
theorem Pre.tr2 {a : Nat} (h : Pre tx sz c g n) (hn : n < 100) (hc9 : c ≤ 9) (ha : a < c) (hT : g.2.1.length < 16) : pAll (tset (tset tx sz 116) (sz + 1) (48 + a)) (sz + 2) = .error (sz + 2) := by
  rw [h.go hn (fun x hx => ?_) (by omega)]
  · have e0 : tset (tset tx sz 116) (sz + 1) (48 + a) sz = 116 := by unfold tset; rw [if_neg (by omega), if_pos rfl]
    have e1 : tset (tset tx sz 116) (sz + 1) (48 + a) (sz + 1) = 48 + a := by unfold tset; rw [if_pos rfl]
    unfold pPart
    rw [if_pos ⟨e0, hT⟩]
    unfold pTr pC2
    rw [pD_i (by omega) e1 (by omega) (Nat.zero_le _) (by omega) (by omega), eBd_o, pD_n (by omega), eBd_e, eBd_e, eBd_e, eBd_e]
  · unfold tset
    rw [if_neg (by omega), if_neg (by omega)]
theorem Pre.cp {a b t o r : Nat} (h : Pre tx sz c g n) (hn : n < 100) (hc9 : c ≤ 9) (ha : a < c) (hb : b < c) (hab : a ≠ b) (ht : t ≤ 9) (ho : o ≤ 9) (hto : 1 ≤ 10 * t + o) (hr1 : 1 ≤ r) (hr9 : r ≤ 9) (hK : g.2.2.2.2.length < 8) : Pre (tset (tset (tset (tset (tset (tset tx sz 99) (sz + 1) (48 + a)) (sz + 2) (48 + b)) (sz + 3) (48 + t)) (sz + 4) (48 + o)) (sz + 5) (48 + r)) (sz + 6) c (gOffer g (nI a, nI b, nI (10 * t + o), nI r, -9, 0)) (n + 1) := by
  refine h.next hn (fun x hx => ?_) (by omega) (fun tx' sz' h1 h2 => ?_)
  · unfold tset
    rw [if_neg (by omega), if_neg (by omega), if_neg (by omega), if_neg (by omega), if_neg (by omega), if_neg (by omega)]
  · have e0 : tx' sz = 99 := by rw [h1 sz (by omega)]; unfold tset; rw [if_neg (by omega), if_neg (by omega), if_neg (by omega), if_neg (by omega), if_neg (by omega), if_pos rfl]
    have e1 : tx' (sz + 1) = 48 + a := by rw [h1 _ (by omega)]; unfold tset; rw [if_neg (by omega), if_neg (by omega), if_neg (by omega), if_neg (by omega), if_pos rfl]
    have e2 : tx' (sz + 1 + 1) = 48 + b := by rw [h1 _ (by omega)]; unfold tset; rw [if_neg (by omega), if_neg (by omega), if_neg (by omega), if_pos rfl]
    have e3 : tx' (sz + 3) = 48 + t := by rw [h1 _ (by omega)]; unfold tset; rw [if_neg (by omega), if_neg (by omega), if_pos rfl]
    have e4 : tx' (sz + 4) = 48 + o := by rw [h1 _ (by omega)]; unfold tset; rw [if_neg (by omega), if_pos rfl]
    have e5 : tx' (sz + 5) = 48 + r := by rw [h1 _ (by omega)]; unfold tset; rw [if_pos rfl]
    have hot : (if t = 0 then 1 else 0) ≤ o := by split <;> omega
    unfold pPart
    rw [if_neg (fun q => by have := q.1; omega), if_pos ⟨e0, hK⟩]
    unfold pCt
    rw [pC2_i hc9 (by omega) e1 e2 ha hb hab, eBd_o, pD_i (by omega) e3 ht (Nat.zero_le _) ht (by omega), eBd_o, pD_i (by omega) e4 ho hot ho (by omega), eBd_o, pD_i (by omega) e5 hr9 hr1 hr9 (by omega), eBd_o, eBd_o]
theorem Pre.cp4 {a b t : Nat} (h : Pre tx sz c g n) (hn : n < 100) (hc9 : c ≤ 9) (ha : a < c) (hb : b < c) (hab : a ≠ b) (ht : t ≤ 9) (hK : g.2.2.2.2.length < 8) : pAll (tset (tset (tset (tset tx sz 99) (sz + 1) (48 + a)) (sz + 2) (48 + b)) (sz + 3) (48 + t)) (sz + 4) = .error (sz + 4) := by
  obtain ⟨tx', htx⟩ : ∃ tx', tx' = tset (tset (tset (tset tx sz 99) (sz + 1) (48 + a)) (sz + 2) (48 + b)) (sz + 3) (48 + t) := ⟨_, rfl⟩
  rw [← htx, h.go (tx' := tx') hn (fun x hx => ?_) (by omega)]
  · have e0 : tx' sz = 99 := by rw [htx]; unfold tset; rw [if_neg (by omega), if_neg (by omega), if_neg (by omega), if_pos rfl]
    have e1 : tx' (sz + 1) = 48 + a := by rw [htx]; unfold tset; rw [if_neg (by omega), if_neg (by omega), if_pos rfl]
    have e2 : tx' (sz + 1 + 1) = 48 + b := by rw [htx]; unfold tset; rw [if_neg (by omega), if_pos rfl]
    have e3 : tx' (sz + 3) = 48 + t := by rw [htx]; unfold tset; rw [if_pos rfl]
    unfold pPart
    rw [if_neg (fun q => by have := q.1; omega), if_pos ⟨e0, hK⟩]
    unfold pCt
    rw [pC2_i hc9 (by omega) e1 e2 ha hb hab, eBd_o, pD_i (by omega) e3 ht (Nat.zero_le _) ht (by omega), eBd_o, pD_n (by omega), eBd_e, eBd_e, eBd_e]
  · rw [htx]
    unfold tset
    rw [if_neg (by omega), if_neg (by omega), if_neg (by omega), if_neg (by omega)]
theorem Pre.cp5 {a b t o : Nat} (h : Pre tx sz c g n) (hn : n < 100) (hc9 : c ≤ 9) (ha : a < c) (hb : b < c) (hab : a ≠ b) (ht : t ≤ 9) (ho : o ≤ 9) (hto : 1 ≤ 10 * t + o) (hK : g.2.2.2.2.length < 8) : pAll (tset (tset (tset (tset (tset tx sz 99) (sz + 1) (48 + a)) (sz + 2) (48 + b)) (sz + 3) (48 + t)) (sz + 4) (48 + o)) (sz + 5) = .error (sz + 5) := by
  obtain ⟨tx', htx⟩ : ∃ tx', tx' = tset (tset (tset (tset (tset tx sz 99) (sz + 1) (48 + a)) (sz + 2) (48 + b)) (sz + 3) (48 + t)) (sz + 4) (48 + o) := ⟨_, rfl⟩
  rw [← htx, h.go (tx' := tx') hn (fun x hx => ?_) (by omega)]
  · have e0 : tx' sz = 99 := by rw [htx]; unfold tset; rw [if_neg (by omega), if_neg (by omega), if_neg (by omega), if_neg (by omega), if_pos rfl]
    have e1 : tx' (sz + 1) = 48 + a := by rw [htx]; unfold tset; rw [if_neg (by omega), if_neg (by omega), if_neg (by omega), if_pos rfl]
    have e2 : tx' (sz + 1 + 1) = 48 + b := by rw [htx]; unfold tset; rw [if_neg (by omega), if_neg (by omega), if_pos rfl]
    have e3 : tx' (sz + 3) = 48 + t := by rw [htx]; unfold tset; rw [if_neg (by omega), if_pos rfl]
    have e4 : tx' (sz + 4) = 48 + o := by rw [htx]; unfold tset; rw [if_pos rfl]
    have hot : (if t = 0 then 1 else 0) ≤ o := by split <;> omega
    unfold pPart
    rw [if_neg (fun q => by have := q.1; omega), if_pos ⟨e0, hK⟩]
    unfold pCt
    rw [pC2_i hc9 (by omega) e1 e2 ha hb hab, eBd_o, pD_i (by omega) e3 ht (Nat.zero_le _) ht (by omega), eBd_o, pD_i (by omega) e4 ho hot ho (by omega), eBd_o, pD_n (by omega), eBd_e, eBd_e, eBd_e]
  · rw [htx]
    unfold tset
    rw [if_neg (by omega), if_neg (by omega), if_neg (by omega), if_neg (by omega), if_neg (by omega)]
theorem Pre.bad (h : Pre tx sz c g n) (hn : n < 100) : pAll (tset tx sz 82) (sz + 1) = .error sz := by
  rw [h.go hn (fun x hx => ?_) (by omega)]
  · have e0 : tset tx sz 82 sz = 82 := by unfold tset; rw [if_pos rfl]
    unfold pPart
    rw [if_neg (fun q => by have := q.1; omega), if_neg (fun q => by have := q.1; omega), eBd_e]
  · unfold tset
    rw [if_neg (by omega)]
end PRE
theorem pre_1 {tx : Nat → Nat} : pAll (tset tx 0 82) 1 = .error 1 := by
  unfold pAll
  rw [if_pos ⟨by omega, by unfold tset; rw [if_pos rfl]⟩, pD_n (by omega), eBd_e]
theorem pre_2 {tx : Nat → Nat} {c : Nat} (h2 : 2 ≤ c) (h9 : c ≤ 9) : Pre (tset (tset tx 0 82) 1 (48 + c)) 2 c (gNew (nI c)) 0 := by
  intro tx' sz' h1 h3
  have e0 : tx' 0 = 82 := by rw [h1 0 (by omega)]; unfold tset; rw [if_neg (by omega), if_pos rfl]
  have e1 : tx' 1 = 48 + c := by rw [h1 1 (by omega)]; unfold tset; rw [if_pos rfl]
  unfold pAll
  rw [if_pos ⟨by omega, e0⟩, pD_i (by omega) e1 h9 h2 h9 (by omega), eBd_o]
/-- what is known of the game told so far -/
def Tg (c : Nat) (tx : Nat → Nat) (sz : Nat) (g : Game) (t k : Nat) : Prop := Pre tx sz c g (t + k) ∧ V c 0 g ∧ Wf (100 + 5000 * k) g ∧ g.2.1.length = t ∧ g.2.2.2.2.length = k ∧ g.1 5 = -400 ∧ g.2.2.1 3 0 = 100
theorem Tg.tr {c sz t k a b l : Nat} {tx : Nat → Nat} {g : Game} (h : Tg c tx sz g t k) (ht : t < 16) (hk : k ≤ 8) (ha : a < c) (hb : b < c) (hab : a ≠ b) (hl1 : 1 ≤ l) (hl9 : l ≤ 9) : Tg c (tset (tset (tset (tset tx sz 116) (sz + 1) (48 + a)) (sz + 2) (48 + b)) (sz + 3) (48 + l)) (sz + 4) (gAddT g (nI a, nI b, nI l, -9)) (t + 1) k := by
  obtain ⟨h1, h2, h3, h4, h5, h6, h7⟩ := h
  have hc9 := h2.1.2.1
  refine ⟨?_, V_gTr h2 (by rw [List.length_append, List.length_singleton]; omega) (fun x hx => ?_), Wf_addT h3, ?_, h5, h6, h7⟩
  · have := h1.tr (by omega) hc9 ha hb hab hl1 hl9 (by omega)
    rw [show t + 1 + k = t + k + 1 by omega]
    exact this
  · rcases List.mem_append.mp hx with r | r
    · exact h2.2.2.1.2 x r
    · rw [List.mem_singleton.mp r]
      exact ⟨⟨a, ha, rfl⟩, ⟨b, hb, rfl⟩, fun e => hab ((nI_inj (by omega) (by omega)).mp e), ⟨l, hl1, hl9, rfl⟩, Or.inl rfl⟩
  · show (g.2.1 ++ [_]).length = _
    rw [List.length_append, List.length_singleton, h4]
theorem Tg.cp {c sz t k a b e o r : Nat} {tx : Nat → Nat} {g : Game} (h : Tg c tx sz g t k) (ht : t ≤ 16) (hk : k < 8) (ha : a < c) (hb : b < c) (hab : a ≠ b) (he : e ≤ 9) (ho : o ≤ 9) (heo : 1 ≤ 10 * e + o) (hr1 : 1 ≤ r) (hr9 : r ≤ 9) : Tg c (tset (tset (tset (tset (tset (tset tx sz 99) (sz + 1) (48 + a)) (sz + 2) (48 + b)) (sz + 3) (48 + e)) (sz + 4) (48 + o)) (sz + 5) (48 + r)) (sz + 6) (gOffer g (nI a, nI b, nI (10 * e + o), nI r, -9, 0)) t (k + 1) := by
  obtain ⟨h1, h2, h3, h4, h5, h6, h7⟩ := h
  have hc9 := h2.1.2.1
  refine ⟨?_, V_offer h2 (by omega) ⟨⟨a, ha, rfl⟩, ⟨b, hb, rfl⟩, fun e => hab ((nI_inj (by omega) (by omega)).mp e), ⟨10 * e + o, heo, by omega, rfl⟩, ⟨r, hr1, hr9, rfl⟩, Or.inl rfl, ⟨0, by omega, by omega, nI_0.symm⟩⟩, ?_, h4, ?_, h6, h7⟩
  · exact h1.cp (by omega) hc9 ha hb hab he ho heo hr1 hr9 (by omega)
  · rw [show 100 + 5000 * (k + 1) = 100 + 5000 * k + 5000 by omega]
    exact Wf_offer h3 rfl
  · show (g.2.2.2.2 ++ [_]).length = _
    rw [List.length_append, List.length_singleton, h5]
