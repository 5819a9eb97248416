/-! ===== games stay well formed ===== -/
theorem V_mono {c n n' : Nat} {g : Game} (h : V c n g) (hn : n ≤ n') : V c n' g := by
  obtain ⟨h1, h2, h3, h4, h5, h6⟩ := h
  refine ⟨h1, h2, h3, fun i hi => ⟨(h4 i hi).1, ?_⟩, h5, h6⟩
  obtain ⟨k, a, b, e⟩ := (h4 i hi).2
  exact ⟨k, a, by omega, e⟩
theorem V_gSc {c n j : Nat} {v : Int32} {g : Game} (h : V c n g) (h0 : j ≠ 0) (h3 : j ≠ 3) : V c n (gSc g j v) := by
  obtain ⟨h1, h2, h3', h4, h5, h6⟩ := h
  refine ⟨?_, ?_, h3', h4, h5, h6⟩
  · simpa [gSc, Ne.symm h0] using h1
  · simpa [gSc, Ne.symm h3] using h2
theorem V_gCt {c n : Nat} {l : List T6} {g : Game} (h : V c n g) (hl : l.length ≤ 8) (hx : ∀ x ∈ l, VC c x) : V c n (gCt g l) := by
  obtain ⟨h1, h2, h3, h4, h5, h6⟩ := h
  exact ⟨h1, h2, h3, h4, h5, hl, hx⟩
theorem V_gTr {c n : Nat} {l : List T4} {g : Game} (h : V c n g) (hl : l.length ≤ 16) (hx : ∀ x ∈ l, VT c x) : V c n (gTr g l) := by
  obtain ⟨h1, h2, h3, h4, h5, h6⟩ := h
  exact ⟨h1, h2, ⟨hl, hx⟩, h4, h5, h6⟩
theorem V_gTn {c n i : Nat} {l : List T2} {g : Game} (h : V c n g) (hl : l.length ≤ 4) (hx : ∀ x ∈ l, iR 1 6 x.1 ∧ iR 0 1 x.2) : V c n (gTn g i l) := by
  obtain ⟨h1, h2, h3, h4, h5, h6⟩ := h
  refine ⟨h1, h2, h3, h4, fun a ha => ?_, h6⟩
  simp only [gTn]
  split
  · exact ⟨hl, hx⟩
  · exact h5 a ha
theorem V_gFine {c n : Nat} {x : T6} {g : Game} (h : V c n g) : V c n (gFine g x) := by
  unfold gFine
  split
  · exact h
  · split
    · exact V_gSc (V_bank h) (by omega) (by omega)
    · exact h
theorem V_fold {c n : Nat} : ∀ (l : List T6) (g : Game), V c n g → V c n (l.foldl gFine g) := by
  intro l
  induction l with
  | nil => intro g h; exact h
  | cons x l ih => intro g h; exact ih _ (V_gFine h)
theorem V_ups {c n : Nat} : ∀ (m i : Nat) (g : Game), V c n g → V c n (ups g i m) := by
  intro m
  induction m with
  | zero => intro i g h; exact h
  | succ m ih => intro i g h; exact ih (i + 1) _ (V_bank h)
theorem VC_srv {c : Nat} {x : T6} (h : VC c x) (hk : kpc (srvC x) = true) : VC c (srvC x) := by
  unfold srvC at hk ⊢
  split
  · exact h
  · rename_i e
    rw [if_neg e] at hk
    obtain ⟨h1, h2, h3, h4, ⟨k, a, b, h5⟩, h6, h7⟩ := h
    refine ⟨h1, h2, h3, h4, ?_, h6, h7⟩
    simp only [kpc, h5] at hk
    obtain ⟨k1, rfl⟩ : ∃ k1, k = k1 + 1 := ⟨k - 1, by omega⟩
    rw [nI_pred] at hk
    refine ⟨k1, ?_, by omega, by simp only [h5, nI_pred]⟩
    rcases Nat.eq_zero_or_pos k1 with h0 | h0
    · subst h0
      simp [nI_0] at hk
    · exact h0
theorem V_serve {c n : Nat} {g : Game} (h : V c n g) : V c n (gServe g) := by
  refine V_gCt (V_fold _ _ h) ?_ (fun x hx => ?_)
  · refine Nat.le_trans (List.length_filter_le _ _) ?_
    rw [List.length_map]
    exact h.2.2.2.2.2.1
  · have h1 := List.mem_filter.mp hx
    obtain ⟨y, hy, rfl⟩ := List.mem_map.mp h1.1
    exact VC_srv (h.2.2.2.2.2.2 y hy) h1.2
theorem V_mid {c n : Nat} {g : Game} (h : V c n g) : V c n (gMid g) := V_ups 4 0 _ (V_serve h)
theorem oR_m9 : oR (-9) := Or.inl rfl
theorem V_br2 {c n i : Nat} {g : Game} (h : V c (n + 1) g) (hi : i < 4) (hb : iR 0 n (g.2.2.1 i 4)) : V c (n + 1) (gBr2 g i) := by
  have h0 : V c (n + 1) (gBr1 g i) := by
    have h1 : V c (n + 1) (gTn (gBank g i (g.2.2.1 i 0)) i []) := V_gTn (V_bank h) (Nat.zero_le _) (fun x hx => by cases hx)
    refine V_gSc ?_ (by omega) (by omega)
    obtain ⟨w1, w2, w3, w4, w5, w6⟩ := h1
    refine ⟨w1, w2, w3, fun a ha => ?_, w5, w6⟩
    have w := w4 a ha
    simp only [gCo]
    refine ⟨by rw [if_neg (by omega)]; exact w.1, ?_⟩
    by_cases e : a = i
    · rw [if_pos ⟨e, trivial⟩]
      obtain ⟨k, k1, k2, k3⟩ := hb
      exact ⟨k + 1, by omega, by omega, by rw [k3, nI_s]⟩
    · rw [if_neg (fun q => e q.1)]
      exact w.2
  refine V_gCt (V_gTr h0 ?_ ?_) ?_ ?_
  · rw [List.length_map]; exact h.2.2.1.1
  · intro x hx
    obtain ⟨y, hy, rfl⟩ := List.mem_map.mp hx
    obtain ⟨w1, w2, w3, w4, w5⟩ := h.2.2.1.2 y hy
    refine ⟨w1, w2, w3, w4, ?_⟩
    show oR (if y.2.2.2 = nI i then -9 else y.2.2.2)
    split
    · exact oR_m9
    · exact w5
  · rw [List.length_map]; exact h.2.2.2.2.2.1
  · intro x hx
    obtain ⟨y, hy, rfl⟩ := List.mem_map.mp hx
    obtain ⟨w1, w2, w3, w4, w5, w6, w7⟩ := h.2.2.2.2.2.2 y hy
    refine ⟨w1, w2, w3, w4, w5, ?_, w7⟩
    show oR (if y.2.2.2.2.1 = nI i then -9 else y.2.2.2.2.1)
    split
    · exact oR_m9
    · exact w6
theorem gBr2_co4 {g : Game} {i j : Nat} (h : j ≠ i) : (gBr2 g i).2.2.1 j 4 = g.2.2.1 j 4 := by
  simp [gBr2, gCt, gTr, gBr1, gSc, gCo, gTn, gBank, h]
theorem V_gSt {c n : Nat} : ∀ (m i : Nat) (g : Game), i + m ≤ 4 → V c (n + 1) g → (∀ a, i ≤ a → a < 4 → iR 0 n (g.2.2.1 a 4)) → V c (n + 1) (gSt g i m) := by
  intro m
  induction m with
  | zero => intro i g _ h _; exact h
  | succ m ih =>
    intro i g hm h hb
    unfold gSt
    refine ih (i + 1) _ (by omega) ?_ (fun a h1 h2 => ?_)
    · split
      · exact h
      · exact V_br2 h (by omega) (hb i (Nat.le_refl _) (by omega))
    · split
      · exact hb a (by omega) h2
      · rw [gBr2_co4 (by omega)]
        exact hb a (by omega) h2
theorem V_gZr {c n : Nat} {g : Game} (h : V c n g) : V c n (gZr g) := by
  obtain ⟨h1, h2, h3, h4, h5, h6⟩ := h
  refine ⟨h1, h2, h3, h4, fun a ha => ?_, ?_, fun x hx => ?_⟩
  · simp only [gZr, List.length_map]
    refine ⟨(h5 a ha).1, fun x hx => ?_⟩
    obtain ⟨y, hy, rfl⟩ := List.mem_map.mp hx
    exact ⟨((h5 a ha).2 y hy).1, 0, Nat.le_refl _, by omega, nI_0.symm⟩
  · simp only [gZr, List.length_map]; exact h6.1
  · simp only [gZr] at hx
    obtain ⟨y, hy, rfl⟩ := List.mem_map.mp hx
    obtain ⟨w1, w2, w3, w4, w5, w6, w7⟩ := h6.2 y hy
    exact ⟨w1, w2, w3, w4, w5, w6, 0, Nat.le_refl _, by omega, nI_0.symm⟩
theorem V_set {c n : Nat} {g : Game} (h : V c n g) : V c (n + 1) (gSet g) := by
  have h1 := V_mid h
  exact V_gSt 4 0 (gMid g) (by omega) (V_mono h1 (by omega)) (fun a _ ha => (h1.2.2.2.1 a ha).2)
theorem V_end {c n : Nat} {g : Game} (h : V c n g) : V c (n + 1) (gEnd g) := V_gZr (V_gSc (V_set h) (by omega) (by omega))
theorem mem_set' {α : Type} {l : List α} {k : Nat} {a x : α} (h : x ∈ l.set k a) : x ∈ l ∨ x = a := List.mem_or_eq_of_mem_set h
theorem V_sellT {c n i t : Nat} {a : T4} {g : Game} (h : V c n g) (hi : i < 4) (ht : g.2.1[t]? = some a) : V c n (gSellT g i t a) := by
  refine V_gTr (V_bank h) (by rw [List.length_set]; exact h.2.2.1.1) (fun x hx => ?_)
  rcases mem_set' hx with h1 | rfl
  · exact h.2.2.1.2 x h1
  · obtain ⟨w1, w2, w3, w4, w5⟩ := h.2.2.1.2 a (mem_get ht)
    exact ⟨w1, w2, w3, w4, oR_nI hi⟩
theorem V_take {c n i k : Nat} {a : T6} {g : Game} (h : V c n g) (hi : i < 4) (ht : g.2.2.2.2[k]? = some a) : V c n (gTake g i k a) := by
  refine V_gCt h (by rw [List.length_set]; exact h.2.2.2.2.2.1) (fun x hx => ?_)
  rcases mem_set' hx with h1 | rfl
  · exact h.2.2.2.2.2.2 x h1
  · obtain ⟨w1, w2, w3, w4, w5, w6, w7⟩ := h.2.2.2.2.2.2 a (mem_get ht)
    exact ⟨w1, w2, w3, w4, w5, oR_nI hi, w7⟩
theorem V_offer {c n : Nat} {x : T6} {g : Game} (h : V c n g) (hl : g.2.2.2.2.length < 8) (hx : VC c x) : V c n (gOffer g x) := by
  refine V_gCt h (by rw [List.length_append, List.length_singleton]; omega) (fun y hy => ?_)
  rcases List.mem_append.mp hy with h1 | h1
  · exact h.2.2.2.2.2.2 y h1
  · rw [List.mem_singleton.mp h1]; exact hx
theorem V_addN {c n i : Nat} {lv : Int32} {g : Game} (h : V c n g) (hi : i < 4) (hl : (g.2.2.2.1 i).length < 4) (hlv : iR 1 6 lv) : V c n (gAddN g i lv) := by
  refine V_gTn h (by rw [List.length_append, List.length_singleton]; omega) (fun y hy => ?_)
  rcases List.mem_append.mp hy with h1 | h1
  · exact (h.2.2.2.2.1 i hi).2 y h1
  · rw [List.mem_singleton.mp h1]; exact ⟨hlv, 0, Nat.le_refl _, by omega, nI_0.symm⟩
theorem V_rust {c n : Nat} {least : Int32} {g : Game} (h : V c n g) : V c n (gRust g least) := by
  obtain ⟨h1, h2, h3, h4, h5, h6⟩ := h
  exact ⟨h1, h2, h3, h4, fun a ha => ⟨Nat.le_trans (List.length_filter_le _ _) (h5 a ha).1, fun x hx => (h5 a ha).2 x (List.mem_filter.mp hx).1⟩, h6⟩
theorem V_gSc3 {c n : Nat} {lv : Int32} {g : Game} (h : V c n g) (hlv : iR 1 6 lv) : V c n (gSc g 3 lv) := by
  obtain ⟨h1, h2, h3, h4, h5, h6⟩ := h
  refine ⟨by simpa [gSc] using h1, by simpa [gSc] using hlv, h3, h4, h5, h6⟩
theorem V_sellN {c n i : Nat} {lv : Int32} {g : Game} (h : V c n g) (hi : i < 4) (hl : (g.2.2.2.1 i).length < 4) (hlv : iR 1 6 lv) : V c n (gSellN g i lv) := by
  unfold gSellN
  split
  · exact V_gSc (V_rust (V_gSc3 (V_addN (V_bank h) hi hl hlv) hlv)) (by omega) (by omega)
  · exact V_addN (V_bank h) hi hl hlv
theorem V_rent {c n i : Nat} {v : Int32} {g : Game} (h : V c n g) (hv : iR 0 9 v) : V c n (gCo g i 1 v) := by
  obtain ⟨h1, h2, h3, h4, h5, h6⟩ := h
  refine ⟨h1, h2, h3, fun a ha => ?_, h5, h6⟩
  simp only [gCo]
  refine ⟨?_, by rw [if_neg (by omega)]; exact (h4 a ha).2⟩
  split
  · exact hv
  · exact (h4 a ha).1
/-! rents changed -/
theorem C_rent {b i : Nat} {v : Int32} {g : Game} {S : Sg} (h : CP b g S) (hi : i < 4) : f_X0_changeRent b (nI i) v S = some (u2 S (b + 15) i v) ∧ CP b (gCo g i 1 v) (u2 S (b + 15) i v) ∧ Fr b S (u2 S (b + 15) i v) := by
  refine ⟨?_, ?_, (Fr.rf).ux (by omega)⟩
  · unfold f_X0_changeRent
    rw [put_ok (by omega) (by omega), gbvN]
  · obtain ⟨hSc, hTr, hCo, hTn, hCt⟩ := h
    refine ⟨?_, ?_, ?_, ?_, ?_⟩
    · unfold CSc at hSc ⊢
      simp (disch := omega) only [u2_eq, u2_ni, u2_nr]
      exact hSc
    · apply CTr_fr hTr <;> simp (disch := omega) only [u2_n]
    · intro j hj
      have h1 := hCo j hj
      by_cases e : j = i
      · subst e
        simp (disch := omega) only [u2_eq, u2_ni, u2_nr]
        simp [gCo, h1]
      · simp (disch := omega) only [u2_eq, u2_ni, u2_nr]
        simp [gCo, h1, e]
    · apply CTn_fr hTn <;> simp (disch := omega) only [u2_n]
    · apply CCt_fr hCt <;> simp (disch := omega) only [u2_n]
