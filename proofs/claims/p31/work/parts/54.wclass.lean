/-! ===== ways: the class ===== -/
def prc (g : Game) (i : Nat) (a : T4) : Int32 := (if a.2.2.2 = nI i then 0 else if a.2.2.2 = -9 then 1 else g.2.2.1 a.2.2.2.toNatClampNeg 1) * a.2.2.1
def wks (g : Game) (i : Nat) : List TK := g.2.1.map (fun a => (a.1.toNatClampNeg, a.2.1.toNatClampNeg, a.2.2.1.toNatClampNeg, (prc g i a).toNatClampNeg))
def VK (c : Nat) (ks : List TK) : Prop := ks.length ≤ 16 ∧ ∀ t ∈ ks, t.1 < c ∧ t.2.1 < c ∧ t.1 ≠ t.2.1 ∧ 1 ≤ t.2.2.1 ∧ t.2.2.1 ≤ 9 ∧ t.2.2.2 ≤ 81
def KT (g : Game) (i : Nat) (ks : List TK) : Prop := ks.length = g.2.1.length ∧ ∀ (k : Nat) (t : TK), ks[k]? = some t → ∃ a : T4, g.2.1[k]? = some a ∧ a.1 = nI t.1 ∧ a.2.1 = nI t.2.1 ∧ a.2.2.1 = nI t.2.2.1 ∧ prc g i a = nI t.2.2.2
theorem prc_v {c n i : Nat} {g : Game} {a : T4} (h : V c n g) (ha : a ∈ g.2.1) : ∃ p, p ≤ 81 ∧ prc g i a = nI p := by
  obtain ⟨-, -, -, ⟨l, l1, l9, hl⟩, ho⟩ := h.2.2.1.2 a ha
  unfold prc
  rw [hl]
  split
  · exact ⟨0, by omega, by rw [Int32.zero_mul]; rfl⟩
  · split
    · exact ⟨l, by omega, by rw [Int32.one_mul]⟩
    · rcases ho with e | ⟨j, hj, e⟩
      · rename_i q; exact absurd e q
      · rw [e, nI_c (by omega)]
        obtain ⟨r, -, r9, hr⟩ := (h.2.2.2.1 j hj).1
        rw [hr, pk_mul]
        refine ⟨r * l, ?_, rfl⟩
        calc r * l ≤ 9 * 9 := Nat.mul_le_mul r9 l9
          _ = 81 := rfl
theorem wks_ok {c n i : Nat} {g : Game} (h : V c n g) : VK c (wks g i) ∧ KT g i (wks g i) := by
  have hc9 : c ≤ 9 := h.1.2.1
  refine ⟨⟨by unfold wks; rw [List.length_map]; exact h.2.2.1.1, fun t ht => ?_⟩, by unfold wks; rw [List.length_map], fun k t ht => ?_⟩
  · obtain ⟨a, ha, rfl⟩ := List.mem_map.mp ht
    obtain ⟨⟨x, hx, ex⟩, ⟨y, hy, ey⟩, hne, ⟨l, l1, l9, hl⟩, -⟩ := h.2.2.1.2 a ha
    obtain ⟨p, hp, ep⟩ := prc_v (i := i) h ha
    simp only [ex, ey, hl, ep]
    rw [nI_c (by omega), nI_c (by omega), nI_c (by omega), nI_c (by omega)]
    refine ⟨hx, hy, fun e => hne ?_, l1, l9, hp⟩
    rw [ex, ey, e]
  · unfold wks at ht
    rw [List.getElem?_map] at ht
    cases hg : g.2.1[k]? with
    | none => rw [hg] at ht; cases ht
    | some a =>
      rw [hg] at ht
      simp only [Option.map_some, Option.some.injEq] at ht
      subst ht
      have ha := mem_get hg
      obtain ⟨⟨x, hx, ex⟩, ⟨y, hy, ey⟩, hne, ⟨l, l1, l9, hl⟩, -⟩ := h.2.2.1.2 a ha
      obtain ⟨p, hp, ep⟩ := prc_v (i := i) h ha
      refine ⟨a, rfl, ?_, ?_, ?_, ?_⟩
      · simp only [ex]; rw [nI_c (by omega)]
      · simp only [ey]; rw [nI_c (by omega)]
      · simp only [hl]; rw [nI_c (by omega)]
      · simp only [ep]; rw [nI_c (by omega)]
def FrW (S S' : Sg) : Prop := ∀ k, (k < 9 ∨ 13 < k) → S' k = S k
theorem FrW.rf (S : Sg) : FrW S S := fun _ _ => rfl
theorem FrW.tr {S S1 S2 : Sg} (h1 : FrW S S1) (h2 : FrW S1 S2) : FrW S S2 := fun k hk => (h2 k hk).trans (h1 k hk)
theorem CP_w {b : Nat} {g : Game} {S S' : Sg} (h : CP b g S) (hb : 14 ≤ b) (hf : FrW S S') : CP b g S' := by
  unfold FrW at hf
  obtain ⟨hSc, hTr, hCo, hTn, hCt⟩ := h
  refine ⟨?_, ?_, ?_, ?_, ?_⟩
  · unfold CSc at hSc ⊢
    simp (disch := omega) only [hf]
    exact hSc
  · apply CTr_fr hTr <;> (apply hf; omega)
  · apply CCo_fr hCo <;> (try intro _ _) <;> simp (disch := omega) only [hf]
  · apply CTn_fr hTn <;> (apply hf; omega)
  · apply CCt_fr hCt <;> (apply hf; omega)
theorem C_rentFor {b i : Nat} {g : Game} {S : Sg} {a : T4} (h : CP b g S) (hi : i < 4) (ho : oR a.2.2.2) : f_X0_rentFor b (nI i) (eo a).2.2.2 S = some (if a.2.2.2 = nI i then 0 else if a.2.2.2 = -9 then 1 else g.2.2.1 a.2.2.2.toNatClampNeg 1, S) := by
  unfold f_X0_rentFor
  have e1 : (eo a).2.2.2 = nI i ↔ a.2.2.2 = nI i := eo_iff hi ho
  by_cases e : a.2.2.2 = nI i
  · rw [if_pos (e1.mpr e).symm, if_pos e]
  · rw [if_neg (fun q => e (e1.mp q.symm)), if_neg e]
    rcases ho with h9 | ⟨j, hj, h9⟩
    · rw [if_pos h9]
      have : (eo a).2.2.2 = 4 := by simp only [eo]; rw [if_pos h9]
      rw [this, at_4 (by omega) (by omega), gbiN, h.1.2.2.2.2.2.2.2.2.2]
    · have h10 : a.2.2.2 ≠ -9 := by rw [h9]; exact nI_m9 (by omega)
      rw [if_neg h10]
      have : (eo a).2.2.2 = nI j := by simp only [eo]; rw [if_neg h10, h9]
      rw [this, at_ok (by omega) (by omega), gbiN, (h.2.2.1 j hj).2.1, h9, nI_c (by omega)]
theorem prices_loop {b i : Nat} {g : Game} (hb : 14 ≤ b) (hi : i < 4) : ∀ (l : List T4) (t : Nat) (S : Sg) (fu : Nat), CP b g S → (∀ k a, l[k]? = some a → g.2.1[t + k]? = some a) → t + l.length = g.2.1.length → VL g → l.length < fu →
    ∃ S', L_X9_setPrices_8 b fu S (nI i) (nI t) = some S' ∧ (∀ k a, l[k]? = some a → S' 12 (t + k) = prc g i a) ∧ (∀ x, x < t → S' 12 x = S 12 x) ∧ ∀ a, a ≠ 12 → S' a = S a := by
  intro l
  induction l with
  | nil =>
    intro t S fu h hg hl hv hf
    obtain ⟨f, rfl, -⟩ := fuS hf
    refine ⟨S, ?_, fun k a hk => by simp at hk, fun _ _ => rfl, fun _ _ => rfl⟩
    show Lb_X9_setPrices_8 b _ S (nI i) (nI t) = _
    unfold Lb_X9_setPrices_8
    rw [h.2.1.1, ← hl]
    rw [if_pos (by simp)]
  | cons a l ih =>
    intro t S fu h hg hl hv hf
    obtain ⟨f, rfl, hf⟩ := fuS hf
    simp only [List.length_cons] at hl hf
    have h16 := hv.1
    have ha : g.2.1[t]? = some a := by have := hg 0 a rfl; rwa [Nat.add_zero] at this
    have h1 := h.tr ha
    have ho := hv.2.2.2.1 a (mem_get ha)
    have hfr : FrW S (u2 S 12 t (prc g i a)) := fun k hk => u2_n (by omega)
    obtain ⟨S', e1, e2, e3, e4⟩ := ih (t + 1) (u2 S 12 t (prc g i a)) f (CP_w h hb hfr) (fun k x hk => by
      have := hg (k + 1) x (by simpa using hk)
      rwa [show t + (k + 1) = t + 1 + k by omega] at this) (by omega) hv (by omega)
    refine ⟨S', ?_, fun k x hk => ?_, fun x hx => by rw [e3 x (by omega), u2_ni (by omega)], fun c hc => by rw [e4 c hc, u2_n hc]⟩
    · show Lb_X9_setPrices_8 b _ S (nI i) (nI t) = _
      unfold Lb_X9_setPrices_8
      rw [h.2.1.1, if_neg (by rw [nIle (by omega) (by omega)]; omega)]
      rw [at_ok (by omega) (by omega), gbiN, at_ok (by omega) (by omega), gbiN, h1.2.2.2, C_rentFor h hi ho, gbiN, put_ok (by omega) (by omega), gbvN, gviN, nI_s, h1.2.2.1, Int32.mul_comm]
      exact e1
    · cases k with
      | zero =>
        simp at hk
        subst hk
        rw [Nat.add_zero, e3 t (by omega), u2_eq]
      | succ k =>
        have := e2 k x (by simpa using hk)
        rw [show t + (k + 1) = t + 1 + k by omega]
        exact this
theorem C_prices {b i c n : Nat} {g : Game} {S : Sg} (h : CP b g S) (hV : V c n g) (hb : 14 ≤ b) (hi : i < 4) : ∃ S', f_X9_setPrices b (nI i) S = some S' ∧ (∀ (k : Nat) (t : TK), (wks g i)[k]? = some t → S' 12 k = nI t.2.2.2) ∧ ∀ a, a ≠ 12 → S' a = S a := by
  have hl := hV.vl.1
  obtain ⟨S', e1, e2, -, e4⟩ := prices_loop hb hi g.2.1 0 S gFu h (fun k a hk => by rw [Nat.zero_add]; exact hk) (Nat.zero_add _) hV.vl (by unfold gFu; omega)
  refine ⟨S', ?_, fun k t ht => ?_, e4⟩
  · unfold f_X9_setPrices
    rw [← nI_0]; exact e1
  · obtain ⟨a, ha, -, -, -, hp⟩ := (wks_ok (i := i) hV).2.2 k t ht
    have := e2 k a ha
    rw [Nat.zero_add] at this
    rw [this, hp]
theorem la_ok {w : Nat} {S : Sg} (h : w < 225) : f_X9_leastAt (nI w) S = some (S 10 w, S) := by
  unfold f_X9_leastAt
  rw [if_neg (nI_ng (by omega)), if_neg (by rw [nIle (by omega) (by omega)]; omega), gck_nI h (by omega), nI_c (by omega)]
theorem la_neg {x : Int32} {S : Sg} (h : x < 0) : f_X9_leastAt x S = some (nI UN, S) := by
  unfold f_X9_leastAt
  rw [if_pos h]
  rfl
theorem wplace {L c : Nat} {S : Sg} : f_X9_place (nI L) (nI c) S = some (nI (9 * L + c), S) := by
  unfold f_X9_place
  rw [show (9 : Int32) = nI 9 from rfl, pk_mul, nI_add, Nat.mul_comm]
theorem wplace_neg {L l c : Nat} {S : Sg} (h : L < l) (hl : l ≤ 9) (hc : c < 9) : ∃ x, x < 0 ∧ f_X9_place (nI L - nI l) (nI c) S = some (x, S) := by
  refine ⟨nI (9 * L + c) - nI (9 * l), pk_sneg (by omega) (by omega), ?_⟩
  unfold f_X9_place
  have e : (nI L - nI l) * 9 + nI c = nI (9 * L + c) - nI (9 * l) := by
    rw [← nI_add, ← pk_mul, ← pk_mul, show nI 9 = (9 : Int32) from rfl]
    grind
  rw [e]
theorem bw {k w v p th : Nat} {R : Int32} {S : Sg} {s : Nat × Nat} (hR : f_X9_leastAt R S = some (nI v, S)) (hp : S 12 k = nI p) (hk : k < 16) (hw : w < 225) (hx : S 10 w = nI s.1) (hs : s.1 ≤ UN) (hv : v ≤ UN) (hpp : p ≤ 81) (hO : s.1 < UN → S 11 w = nI s.2) (hth : th < s.1 ↔ v + p < s.1) (hth2 : th < s.1 → th = v + p) :
    ∃ S', f_X9_beginWith (nI k) (nI w) R S = some S' ∧ S' 10 w = nI (if th < s.1 then (th, k) else s).1 ∧ ((if th < s.1 then (th, k) else s).1 < UN → S' 11 w = nI (if th < s.1 then (th, k) else s).2) ∧ (∀ x, x ≠ w → S' 10 x = S 10 x ∧ S' 11 x = S 11 x) ∧ ∀ a, a ≠ 10 → a ≠ 11 → S' a = S a := by
  have hU : UN = 1000000 := rfl
  have e0 : f_X9_beginWith (nI k) (nI w) R S = if nI s.1 ≤ nI (v + p) then some S else some (u2 (u2 S 10 w (nI (v + p))) 11 w (nI k)) := by
    unfold f_X9_beginWith
    rw [hR, gbiN, at_ok (by omega) (by omega), gbiN, gviN, la_ok hw, gbiN, hx, hp, nI_add]
    by_cases e : nI s.1 ≤ nI (v + p)
    · rw [if_pos e, if_pos e]
    · rw [if_neg e, if_neg e, put_ok (by omega) (by omega), gbvN, put_ok (by omega) (by omega), gbvN]
  by_cases e : th < s.1
  · refine ⟨_, by rw [e0, if_neg (by rw [nIle (by omega) (by omega)]; have := hth.mp e; omega)], ?_, ?_, fun x hx => ⟨?_, ?_⟩, fun a h1 h2 => ?_⟩
    · rw [if_pos e, u2_nr (by omega), u2_eq, hth2 e]
    · intro _; rw [if_pos e, u2_eq]
    · rw [u2_nr (by omega), u2_ni hx]
    · rw [u2_ni hx, u2_nr (by omega)]
    · rw [u2_n h2, u2_n h1]
  · refine ⟨S, by rw [e0, if_pos (by rw [nIle (by omega) (by omega)]; have := mt hth.mpr e; omega)], ?_, ?_, fun x _ => ⟨rfl, rfl⟩, fun a _ _ => rfl⟩
    · rw [if_neg e]; exact hx
    · rw [if_neg e]; exact hO

