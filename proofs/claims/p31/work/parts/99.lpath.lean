/-! ===== ways as rows of tracks ===== -/
def wend (c : Nat) : List TK → Option Nat
  | [] => some c
  | t :: l => if t.1 = c then wend t.2.1 l else if t.2.1 = c then wend t.1 l else none
def wlen : List TK → Nat
  | [] => 0
  | t :: l => t.2.2.1 + wlen l
def wcst : List TK → Nat
  | [] => 0
  | t :: l => t.2.2.2 + wcst l
def TKs (ks : List TK) : Prop := ∀ t ∈ ks, t.1 ≠ t.2.1 ∧ 1 ≤ t.2.2.1 ∧ t.2.2.2 ≤ 81
section PTH
variable {ks : List TK}
theorem TKs.h1 (h : TKs ks) : ∀ t ∈ ks, 1 ≤ t.2.2.1 := fun t ht => (h t ht).2.1
theorem rf_min {T : Nat → Nat → Nat} {L c : Nat} : ∀ (l : List TK) (k : Nat) (s : Nat × Nat) (t : TK), t ∈ l → (rf T L c l k s).1 ≤ thr T L c t := by
  intro l
  induction l with
  | nil => intro k s t ht; cases ht
  | cons x l ih =>
    intro k s t ht
    show (rf T L c l (k + 1) (wst T L c s k x)).1 ≤ _
    rcases List.mem_cons.mp ht with rfl | q
    · refine Nat.le_trans (rf_le l _ _) ?_
      unfold wst
      split
      · exact Nat.le_refl _
      · omega
    · exact ih _ _ t q
theorem wA_way (hk : TKs ks) {goal : Nat} : ∀ (l : List TK) (c : Nat), (∀ t ∈ l, t ∈ ks) → wend c l = some goal → wA ks goal (wlen l) c ≤ wcst l := by
  intro l
  induction l with
  | nil =>
    intro c _ h
    have h : c = goal := Option.some.inj h
    show wA ks goal 0 c ≤ 0
    rw [wA_0, if_pos h]
    exact Nat.le_refl _
  | cons t l ih =>
    intro c hm h
    have ht := hm t List.mem_cons_self
    obtain ⟨h1, h2, h3⟩ := hk t ht
    have hm2 : ∀ x ∈ l, x ∈ ks := fun x hx => hm x (List.mem_cons_of_mem _ hx)
    show wA ks goal (t.2.2.1 + wlen l) c ≤ t.2.2.2 + wcst l
    rw [wA_p hk.h1 (by omega)]
    refine Nat.le_trans (rf_min _ _ _ t ht) ?_
    have h : (if t.1 = c then wend t.2.1 l else if t.2.1 = c then wend t.1 l else none) = some goal := h
    unfold thr
    rw [if_pos (by omega), Nat.add_sub_cancel_left]
    by_cases e1 : t.1 = c
    · rw [if_pos e1] at h ⊢
      have := ih t.2.1 hm2 h
      omega
    · rw [if_neg e1] at h ⊢
      by_cases e2 : t.2.1 = c
      · rw [if_pos e2] at h ⊢
        have := ih t.1 hm2 h
        omega
      · rw [if_neg e2] at h
        cases h
theorem wA_ex (hk : TKs ks) {goal : Nat} : ∀ (n L c : Nat), L ≤ n → wA ks goal L c < UN → ∃ l, (∀ t ∈ l, t ∈ ks) ∧ wend c l = some goal ∧ wlen l = L ∧ wcst l = wA ks goal L c := by
  intro n
  induction n with
  | zero =>
    intro L c hL h
    have : L = 0 := by omega
    subst this
    rw [wA_0] at h ⊢
    split at h
    · rename_i e
      exact ⟨[], fun t ht => (by cases ht), by rw [e]; rfl, rfl, by rw [if_pos e]; rfl⟩
    · exact absurd h (Nat.lt_irrefl _)
  | succ n ih =>
    intro L c hL h
    by_cases h0 : L = 0
    · exact ih L c (by omega) h
    · obtain ⟨t, ht, e, -⟩ := wO_ok hk.h1 (by omega) h
      have htk := mem_get ht
      obtain ⟨k1, k2, k3⟩ := hk t htk
      obtain ⟨q1, q2⟩ := thr_in (by rw [e]; exact h)
      rcases q2 with ⟨a1, a2⟩ | ⟨a0, a1, a2⟩
      · rw [e] at a2
        obtain ⟨l, b1, b2, b3, b4⟩ := ih (L - t.2.2.1) t.2.1 (by omega) (by omega)
        refine ⟨t :: l, fun x hx => ?_, ?_, ?_, ?_⟩
        · rcases List.mem_cons.mp hx with rfl | q
          · exact htk
          · exact b1 x q
        · show (if t.1 = c then wend t.2.1 l else _) = _
          rw [if_pos a1, b2]
        · show t.2.2.1 + wlen l = L
          omega
        · show t.2.2.2 + wcst l = _
          omega
      · rw [e] at a2
        obtain ⟨l, b1, b2, b3, b4⟩ := ih (L - t.2.2.1) t.1 (by omega) (by omega)
        refine ⟨t :: l, fun x hx => ?_, ?_, ?_, ?_⟩
        · rcases List.mem_cons.mp hx with rfl | q
          · exact htk
          · exact b1 x q
        · show (if t.1 = c then _ else if t.2.1 = c then wend t.1 l else none) = _
          rw [if_neg a0, if_pos a1, b2]
        · show t.2.2.1 + wlen l = L
          omega
        · show t.2.2.2 + wcst l = _
          omega
theorem wch_min {goal a : Nat} : ∀ (n L : Nat), 1 ≤ L → L ≤ n → (wch ks goal a n).1 ≤ wA ks goal L a := by
  intro n
  induction n with
  | zero => intro L h1 h2; omega
  | succ n ih =>
    intro L h1 h2
    unfold wch
    split
    · rename_i h
      by_cases e : L = n + 1
      · rw [e]; exact Nat.le_refl _
      · have := ih L h1 (by omega)
        simp only
        omega
    · rename_i h
      by_cases e : L = n + 1
      · rw [e]; omega
      · exact ih L h1 (by omega)
theorem wch_first {goal a : Nat} : ∀ (n L : Nat), 1 ≤ L → L < (wch ks goal a n).2 → (wch ks goal a n).1 < wA ks goal L a := by
  intro n
  induction n with
  | zero => intro L h1 h2; exact absurd h2 (Nat.not_lt_zero _)
  | succ n ih =>
    intro L h1 h2
    unfold wch at h2 ⊢
    split at h2
    · rename_i h
      rw [if_pos h]
      have := wch_min (ks := ks) (goal := goal) (a := a) n L h1 (by simp only at h2; omega)
      simp only
      omega
    · rename_i h
      rw [if_neg h]
      exact ih L h1 h2
/-- a way within a reach -/
def Wy (ks : List TK) (a b r k n : Nat) : Prop := ∃ l, (∀ t ∈ l, t ∈ ks) ∧ wend a l = some b ∧ wlen l = n ∧ n ≤ r ∧ wcst l = k
theorem cst_len (hk : TKs ks) : ∀ l : List TK, (∀ t ∈ l, t ∈ ks) → wcst l ≤ 81 * wlen l := by
  intro l
  induction l with
  | nil => intro _; exact Nat.le_refl _
  | cons t l ih =>
    intro h
    have h1 := ih (fun x hx => h x (List.mem_cons_of_mem _ hx))
    obtain ⟨-, a1, a2⟩ := hk t (h t List.mem_cons_self)
    show t.2.2.2 + wcst l ≤ 81 * (t.2.2.1 + wlen l)
    omega
theorem len_pos (hk : TKs ks) {a b : Nat} (hab : a ≠ b) : ∀ l : List TK, (∀ t ∈ l, t ∈ ks) → wend a l = some b → 1 ≤ wlen l := by
  intro l h1 h2
  cases l with
  | nil => exact absurd (Option.some.inj h2) hab
  | cons t l =>
    have := (hk t (h1 t List.mem_cons_self)).2.1
    show 1 ≤ t.2.2.1 + wlen l
    omega
theorem Wy.C1 (hk : TKs ks) {a b r k n : Nat} (hab : a ≠ b) (h : Wy ks a b r k n) : wC ks b a r ≤ k ∧ 1 ≤ n ∧ k ≤ 81 * n := by
  obtain ⟨l, h1, h2, h3, h4, h5⟩ := h
  have hp := len_pos hk hab l h1 h2
  have hw := wA_way hk l a h1 h2
  have hm := wch_min (ks := ks) (goal := b) (a := a) r (wlen l) hp (by omega)
  have hc := cst_len hk l h1
  unfold wC
  omega
theorem wIs_of {a b r : Nat} : wIs ks b a r = true ↔ wC ks b a r < UN := by
  unfold wIs
  exact decide_eq_true_iff
theorem Wy.C2 (hk : TKs ks) {a b r : Nat} (h : wC ks b a r < UN) : Wy ks a b r (wC ks b a r) (wL ks b a r) ∧ 1 ≤ wL ks b a r := by
  obtain ⟨h1, h2, h3, -⟩ := wch_v (ks := ks) (goal := b) (a := a) r
  obtain ⟨h4, h5⟩ := h3 h
  have h6 : wA ks b (wL ks b a r) a = wC ks b a r := h5
  obtain ⟨l, b1, b2, b3, b4⟩ := wA_ex hk (wL ks b a r) (wL ks b a r) a (Nat.le_refl _) (by rw [h6]; exact h)
  exact ⟨⟨l, b1, b2, b3, h2, by rw [b4, h6]⟩, h4⟩
theorem Wy.is (hk : TKs ks) {a b r k n : Nat} (hab : a ≠ b) (hr : r ≤ 24) (h : Wy ks a b r k n) : wC ks b a r < UN := by
  have h1 := h.C1 hk hab
  obtain ⟨l, -, -, -, h4, -⟩ := h
  unfold UN
  omega
theorem wend_app {c : Nat} : ∀ (l1 l2 : List TK), wend c (l1 ++ l2) = (wend c l1).bind (fun d => wend d l2) := by
  intro l1
  induction l1 generalizing c with
  | nil => intro l2; rfl
  | cons t l ih =>
    intro l2
    show (if t.1 = c then wend t.2.1 (l ++ l2) else if t.2.1 = c then wend t.1 (l ++ l2) else none) = (if t.1 = c then wend t.2.1 l else if t.2.1 = c then wend t.1 l else none).bind _
    split
    · exact ih l2
    · split
      · exact ih l2
      · rfl
theorem wlen_app : ∀ (l1 l2 : List TK), wlen (l1 ++ l2) = wlen l1 + wlen l2 := by
  intro l1
  induction l1 with
  | nil => intro l2; exact (Nat.zero_add _).symm
  | cons t l ih => intro l2; show t.2.2.1 + wlen (l ++ l2) = t.2.2.1 + wlen l + wlen l2; rw [ih]; omega
theorem wcst_app : ∀ (l1 l2 : List TK), wcst (l1 ++ l2) = wcst l1 + wcst l2 := by
  intro l1
  induction l1 with
  | nil => intro l2; exact (Nat.zero_add _).symm
  | cons t l ih => intro l2; show t.2.2.2 + wcst (l ++ l2) = t.2.2.2 + wcst l + wcst l2; rw [ih]; omega
theorem wend_rev (hk : TKs ks) : ∀ (l : List TK) (c d : Nat), (∀ t ∈ l, t ∈ ks) → wend c l = some d → wend d l.reverse = some c ∧ wlen l.reverse = wlen l ∧ wcst l.reverse = wcst l := by
  intro l
  induction l with
  | nil => intro c d _ h; exact ⟨by rw [← Option.some.inj h]; rfl, rfl, rfl⟩
  | cons t l ih =>
    intro c d hm h
    have hne := (hk t (hm t List.mem_cons_self)).1
    have hm2 : ∀ x ∈ l, x ∈ ks := fun x hx => hm x (List.mem_cons_of_mem _ hx)
    have h : (if t.1 = c then wend t.2.1 l else if t.2.1 = c then wend t.1 l else none) = some d := h
    have hlen : ∀ (e1 : wlen l.reverse = wlen l) (e2 : wcst l.reverse = wcst l), wlen (t :: l).reverse = wlen (t :: l) ∧ wcst (t :: l).reverse = wcst (t :: l) := fun e1 e2 => by
      rw [List.reverse_cons, wlen_app, wcst_app, e1, e2]
      exact ⟨by show wlen l + (t.2.2.1 + 0) = t.2.2.1 + wlen l; omega, by show wcst l + (t.2.2.2 + 0) = t.2.2.2 + wcst l; omega⟩
    by_cases e1 : t.1 = c
    · rw [if_pos e1] at h
      obtain ⟨b1, b2, b3⟩ := ih _ _ hm2 h
      refine ⟨?_, hlen b2 b3⟩
      rw [List.reverse_cons, wend_app, b1]
      show (if t.1 = t.2.1 then _ else if t.2.1 = t.2.1 then some t.1 else none) = some c
      rw [if_neg hne, if_pos rfl, e1]
    · rw [if_neg e1] at h
      by_cases e2 : t.2.1 = c
      · rw [if_pos e2] at h
        obtain ⟨b1, b2, b3⟩ := ih _ _ hm2 h
        refine ⟨?_, hlen b2 b3⟩
        rw [List.reverse_cons, wend_app, b1]
        show (if t.1 = t.1 then some t.2.1 else _) = some c
        rw [if_pos rfl, e2]
      · rw [if_neg e2] at h
        cases h
theorem Wy.rev (hk : TKs ks) {a b r k n : Nat} (h : Wy ks a b r k n) : Wy ks b a r k n := by
  obtain ⟨l, h1, h2, h3, h4, h5⟩ := h
  obtain ⟨b1, b2, b3⟩ := wend_rev hk l a b h1 h2
  exact ⟨l.reverse, fun t ht => h1 t (List.mem_reverse.mp ht), b1, by rw [b2, h3], h4, by rw [b3, h5]⟩
theorem wC_le (hk : TKs ks) {a b r r' : Nat} (hab : a ≠ b) (hr : r' ≤ r) : wC ks b a r ≤ wC ks b a r' ∧ wC ks b a r ≤ wC ks a b r' := by
  constructor
  · by_cases h : wC ks b a r' < UN
    · obtain ⟨⟨l, h1, h2, h3, h4, h5⟩, -⟩ := Wy.C2 hk h
      exact (Wy.C1 hk hab ⟨l, h1, h2, h3, by omega, h5⟩).1
    · have h1 := (wch_v (ks := ks) (goal := b) (a := a) r).1
      unfold wC at h ⊢
      omega
  · by_cases h : wC ks a b r' < UN
    · obtain ⟨l, h1, h2, h3, h4, h5⟩ := Wy.rev hk (Wy.C2 hk h).1
      exact (Wy.C1 hk hab ⟨l, h1, h2, h3, by omega, h5⟩).1
    · have h1 := (wch_v (ks := ks) (goal := b) (a := a) r).1
      unfold wC at h ⊢
      omega
theorem wC_sym (hk : TKs ks) {a b r : Nat} (hab : a ≠ b) : wC ks b a r = wC ks a b r :=
  Nat.le_antisymm (wC_le hk hab (Nat.le_refl _)).2 (wC_le hk (fun e => hab e.symm) (Nat.le_refl _)).2
theorem wIs_sym (hk : TKs ks) {a b r : Nat} (hab : a ≠ b) : wIs ks b a r = wIs ks a b r := by
  unfold wIs
  rw [wC_sym hk hab]
theorem wL_le (hk : TKs ks) {a b r : Nat} (hab : a ≠ b) (h : wC ks b a r < UN) : wL ks b a r ≤ wL ks a b r := by
  have hs := wC_sym (r := r) hk hab
  obtain ⟨h2, h3⟩ := Wy.C2 hk (show wC ks a b r < UN by omega)
  obtain ⟨l, b1, b2, b3, b4, b5⟩ := Wy.rev hk h2
  by_cases hlt : wL ks a b r < wL ks b a r
  · have h4 := wch_first (ks := ks) (goal := b) (a := a) r (wL ks a b r) h3 hlt
    have h5 := wA_way hk l a b1 b2
    rw [b3, b5] at h5
    have h6 : (wch ks b a r).1 = wC ks b a r := rfl
    omega
  · omega
theorem wL_sym (hk : TKs ks) {a b r : Nat} (hab : a ≠ b) (h : wC ks b a r < UN) : wL ks b a r = wL ks a b r :=
  Nat.le_antisymm (wL_le hk hab h) (wL_le hk (fun e => hab e.symm) (by rw [← wC_sym hk hab]; exact h))
theorem wC_len (hk : TKs ks) {a b r : Nat} (hab : a ≠ b) (h : wC ks b a r < UN) : wC ks b a (wL ks b a r) = wC ks b a r := by
  have h2 := (wch_v (ks := ks) (goal := b) (a := a) r).2.1
  obtain ⟨⟨l, b1, b2, b3, b4, b5⟩, -⟩ := Wy.C2 hk h
  exact Nat.le_antisymm (Wy.C1 hk hab ⟨l, b1, b2, b3, Nat.le_refl _, b5⟩).1 (wC_le hk hab h2).1
/-- by a first track -/
def byT (ks : List TK) (a b r : Nat) (t : TK) : Option Nat :=
  if t.1 = a ∨ t.2.1 = a then (if t.2.2.1 ≤ r then (if wFar t a = b then some t.2.2.2 else if t.2.2.1 < r ∧ wIs ks b (wFar t a) (r - t.2.2.1) = true then some (t.2.2.2 + wC ks b (wFar t a) (r - t.2.2.1)) else none) else none) else none
theorem wend_far {t : TK} {a : Nat} {l : List TK} (h : t.1 = a ∨ t.2.1 = a) : wend a (t :: l) = wend (wFar t a) l := by
  show (if t.1 = a then wend t.2.1 l else if t.2.1 = a then wend t.1 l else none) = _
  unfold wFar
  by_cases e : t.1 = a
  · rw [if_pos e, if_pos e]
  · rw [if_neg e, if_neg e, if_pos (h.resolve_left e)]
theorem byT_ge (hk : TKs ks) {a b r k : Nat} {t : TK} (ht : t ∈ ks) (hab : a ≠ b) (hr : r ≤ 24) (h : byT ks a b r t = some k) : wC ks b a r < UN ∧ wC ks b a r ≤ k := by
  have hw : ∃ n, Wy ks a b r k n := by
    unfold byT at h
    split at h
    · rename_i e1
      split at h
      · rename_i e2
        split at h
        · rename_i e3
          refine ⟨_, [t], fun x hx => by rw [List.mem_singleton.mp hx]; exact ht, by rw [wend_far e1, e3]; rfl, rfl, by show t.2.2.1 + 0 ≤ r; omega, by rw [← Option.some.inj h]; rfl⟩
        · split at h
          · rename_i e4
            obtain ⟨⟨l, b1, b2, b3, b4, b5⟩, -⟩ := Wy.C2 hk (wIs_of.mp e4.2)
            refine ⟨_, t :: l, fun x hx => ?_, by rw [wend_far e1, b2], rfl, by show t.2.2.1 + wlen l ≤ r; omega, by rw [← Option.some.inj h, ← b5]; rfl⟩
            rcases List.mem_cons.mp hx with q | q
            · rw [q]; exact ht
            · exact b1 x q
          · cases h
      · cases h
    · cases h
  obtain ⟨n, hw⟩ := hw
  exact ⟨hw.is hk hab hr, (hw.C1 hk hab).1⟩
theorem byT_first (hk : TKs ks) {a b r : Nat} {t : TK} (hab : a ≠ b) (hr : r ≤ 24) (hw : wC ks b a r < UN) (ht : ks[wO ks b (wL ks b a r) a]? = some t) : byT ks a b r t = some (wC ks b a r) := by
  obtain ⟨h1, h2, h3, -⟩ := wch_v (ks := ks) (goal := b) (a := a) r
  obtain ⟨h4, h5⟩ := h3 hw
  have h6 : wA ks b (wL ks b a r) a = wC ks b a r := h5
  have hL : wL ks b a r ≤ r := h2
  have htk := mem_get ht
  obtain ⟨k1, k2, k3⟩ := hk t htk
  obtain ⟨t', ht', e, -⟩ := wO_ok hk.h1 (show 1 ≤ wL ks b a r from h4) (by rw [h6]; exact hw)
  rw [ht] at ht'
  obtain rfl := Option.some.inj ht'
  obtain ⟨q1, q2⟩ := thr_in (by rw [e, h6]; exact hw)
  rw [e, h6] at q2
  have hf : (t.1 = a ∨ t.2.1 = a) ∧ wC ks b a r = wA ks b (wL ks b a r - t.2.2.1) (wFar t a) + t.2.2.2 := by
    unfold wFar
    rcases q2 with ⟨a1, a2⟩ | ⟨a0, a1, a2⟩
    · exact ⟨Or.inl a1, by rw [if_pos a1]; exact a2⟩
    · exact ⟨Or.inr a1, by rw [if_neg a0]; exact a2⟩
  obtain ⟨e1, e2⟩ := hf
  unfold byT
  rw [if_pos e1, if_pos (by omega)]
  by_cases e3 : wFar t a = b
  · rw [if_pos e3]
    have h7 : Wy ks a b r t.2.2.2 (t.2.2.1 + 0) := ⟨[t], fun x hx => by rw [List.mem_singleton.mp hx]; exact htk, by rw [wend_far e1, e3]; rfl, rfl, by omega, rfl⟩
    have := (h7.C1 hk hab).1
    congr 1
    omega
  · rw [if_neg e3]
    have hA : wA ks b (wL ks b a r - t.2.2.1) (wFar t a) < UN := by omega
    have hpos : 1 ≤ wL ks b a r - t.2.2.1 := by
      by_cases q : wL ks b a r - t.2.2.1 = 0
      · rw [q, wA_0, if_neg e3] at hA
        exact absurd hA (Nat.lt_irrefl _)
      · omega
    have hm := wch_min (ks := ks) (goal := b) (a := wFar t a) (r - t.2.2.1) (wL ks b a r - t.2.2.1) hpos (by omega)
    have hm2 : wC ks b (wFar t a) (r - t.2.2.1) ≤ wA ks b (wL ks b a r - t.2.2.1) (wFar t a) := hm
    have his : wC ks b (wFar t a) (r - t.2.2.1) < UN := by omega
    rw [if_pos ⟨by omega, wIs_of.mpr his⟩]
    have hge := (byT_ge (k := t.2.2.2 + wC ks b (wFar t a) (r - t.2.2.1)) hk htk hab hr (by
      unfold byT
      rw [if_pos e1, if_pos (by omega), if_neg e3, if_pos ⟨by omega, wIs_of.mpr his⟩])).2
    congr 1
    omega
end PTH
