/-! ===== ways: the table ===== -/
abbrev TK : Type := Nat × Nat × Nat × Nat
def UN : Nat := 1000000
def thr (T : Nat → Nat → Nat) (L c : Nat) (t : TK) : Nat := if t.2.2.1 ≤ L then (if t.1 = c then T (L - t.2.2.1) t.2.1 + t.2.2.2 else if t.2.1 = c then T (L - t.2.2.1) t.1 + t.2.2.2 else UN) else UN
def wst (T : Nat → Nat → Nat) (L c : Nat) (s : Nat × Nat) (k : Nat) (t : TK) : Nat × Nat := if thr T L c t < s.1 then (thr T L c t, k) else s
def rf (T : Nat → Nat → Nat) (L c : Nat) : List TK → Nat → Nat × Nat → Nat × Nat
  | [], _, s => s
  | t :: l, k, s => rf T L c l (k + 1) (wst T L c s k t)
def w0 (goal L c : Nat) : Nat := if L = 0 then (if c = goal then 0 else UN) else UN
def Tb (ks : List TK) (goal : Nat) : Nat → Nat → Nat → Nat
  | 0 => fun L c => w0 goal L c
  | n + 1 => fun L c => if L = n + 1 then (rf (Tb ks goal n) L c ks 0 (UN, 0)).1 else Tb ks goal n L c
def wA (ks : List TK) (goal L c : Nat) : Nat := Tb ks goal L L c
def wO (ks : List TK) (goal L c : Nat) : Nat := (rf (wA ks goal) L c ks 0 (UN, 0)).2
theorem rf_app {T : Nat → Nat → Nat} {L c : Nat} {l2 : List TK} : ∀ (l1 : List TK) (k : Nat) (s : Nat × Nat), rf T L c (l1 ++ l2) k s = rf T L c l2 (k + l1.length) (rf T L c l1 k s) := by
  intro l1
  induction l1 with
  | nil => intro k s; rfl
  | cons t l ih =>
    intro k s
    simp only [List.cons_append, rf, ih, List.length_cons]
    rw [show k + 1 + l.length = k + (l.length + 1) by omega]
theorem rf_snoc {T : Nat → Nat → Nat} {L c : Nat} {l1 : List TK} {t : TK} {s : Nat × Nat} : rf T L c (l1 ++ [t]) 0 s = wst T L c (rf T L c l1 0 s) l1.length t := by
  rw [rf_app, Nat.zero_add]
  rfl
theorem rf_le {T : Nat → Nat → Nat} {L c : Nat} : ∀ (l : List TK) (k : Nat) (s : Nat × Nat), (rf T L c l k s).1 ≤ s.1 := by
  intro l
  induction l with
  | nil => intro k s; exact Nat.le_refl _
  | cons t l ih =>
    intro k s
    refine Nat.le_trans (ih (k + 1) _) ?_
    unfold wst
    split
    · rename_i h; exact Nat.le_of_lt h
    · exact Nat.le_refl _
theorem thr_congr {T T' : Nat → Nat → Nat} {L c : Nat} {t : TK} (h1 : 1 ≤ t.2.2.1) (h : ∀ L' c', L' < L → T' L' c' = T L' c') : thr T' L c t = thr T L c t := by
  unfold thr
  by_cases e : t.2.2.1 ≤ L
  · rw [if_pos e, if_pos e, h _ _ (by omega), h _ _ (by omega)]
  · rw [if_neg e, if_neg e]
theorem rf_congr {T T' : Nat → Nat → Nat} {L c : Nat} (h : ∀ L' c', L' < L → T' L' c' = T L' c') : ∀ (l : List TK) (k : Nat) (s : Nat × Nat), (∀ t ∈ l, 1 ≤ t.2.2.1) → rf T' L c l k s = rf T L c l k s := by
  intro l
  induction l with
  | nil => intro k s _; rfl
  | cons t l ih =>
    intro k s hl
    unfold rf wst
    rw [thr_congr (hl t List.mem_cons_self) h]
    exact ih _ _ (fun x hx => hl x (List.mem_cons_of_mem _ hx))
theorem Tb_st {ks : List TK} {goal : Nat} : ∀ (n L c : Nat), L ≤ n → Tb ks goal n L c = wA ks goal L c := by
  intro n
  induction n with
  | zero => intro L c h; obtain rfl : L = 0 := by omega
            rfl
  | succ n ih =>
    intro L c h
    by_cases e : L = n + 1
    · subst e; rfl
    · show (if L = n + 1 then _ else Tb ks goal n L c) = _
      rw [if_neg e]
      exact ih L c (by omega)
theorem wA_0 {ks : List TK} {goal c : Nat} : wA ks goal 0 c = if c = goal then 0 else UN := rfl
theorem wA_s {ks : List TK} {goal n c : Nat} (hk : ∀ t ∈ ks, 1 ≤ t.2.2.1) : wA ks goal (n + 1) c = (rf (wA ks goal) (n + 1) c ks 0 (UN, 0)).1 := by
  have h1 : wA ks goal (n + 1) c = (rf (Tb ks goal n) (n + 1) c ks 0 (UN, 0)).1 := by
    show (if n + 1 = n + 1 then _ else _) = _
    rw [if_pos rfl]
  rw [h1, rf_congr (T := wA ks goal) (fun L' c' h => Tb_st n L' c' (by omega)) ks 0 _ hk]
theorem wA_p {ks : List TK} {goal L c : Nat} (hk : ∀ t ∈ ks, 1 ≤ t.2.2.1) (hL : 1 ≤ L) : wA ks goal L c = (rf (wA ks goal) L c ks 0 (UN, 0)).1 := by
  obtain ⟨n, rfl⟩ : ∃ n, L = n + 1 := ⟨L - 1, by omega⟩
  exact wA_s hk
theorem wA_le {ks : List TK} {goal L c : Nat} (hk : ∀ t ∈ ks, 1 ≤ t.2.2.1) : wA ks goal L c ≤ UN := by
  rcases Nat.eq_zero_or_pos L with rfl | h
  · rw [wA_0]; split
    · exact Nat.zero_le _
    · exact Nat.le_refl _
  · rw [wA_p hk h]
    exact rf_le ks 0 (UN, 0)
/-- what the fold finds: the first track with the least value, and none before it has it -/
theorem rf_find {T : Nat → Nat → Nat} {L c : Nat} : ∀ (l : List TK) (k : Nat) (s : Nat × Nat), rf T L c l k s = s ∨ ∃ j t, l[j]? = some t ∧ rf T L c l k s = (thr T L c t, k + j) ∧ thr T L c t < s.1 ∧ ∀ j' t', j' < j → l[j']? = some t' → thr T L c t < thr T L c t' := by
  intro l
  induction l with
  | nil => intro k s; exact Or.inl rfl
  | cons t l ih =>
    intro k s
    unfold rf
    rcases ih (k + 1) (wst T L c s k t) with h | ⟨j, t1, h1, h2, h3, h4⟩
    · rw [h]
      unfold wst
      by_cases e : thr T L c t < s.1
      · rw [if_pos e]
        exact Or.inr ⟨0, t, rfl, by rw [Nat.add_zero], e, fun j' t' hj _ => by omega⟩
      · rw [if_neg e]
        exact Or.inl rfl
    · refine Or.inr ⟨j + 1, t1, by simpa using h1, by rw [h2]; rw [show k + 1 + j = k + (j + 1) by omega], ?_, fun j' t' hj ht => ?_⟩
      · unfold wst at h3
        split at h3
        · rename_i e; exact Nat.lt_trans h3 e
        · exact h3
      · cases j' with
        | zero =>
          simp at ht
          subst ht
          unfold wst at h3
          split at h3
          · exact h3
          · rename_i e; omega
        | succ j' => exact h4 j' t' (by omega) (by simpa using ht)
/-- the opening track of a place that is reached -/
theorem wO_ok {ks : List TK} {goal L c : Nat} (hk : ∀ t ∈ ks, 1 ≤ t.2.2.1) (hL : 1 ≤ L) (h : wA ks goal L c < UN) : ∃ t, ks[wO ks goal L c]? = some t ∧ thr (wA ks goal) L c t = wA ks goal L c ∧ ∀ j' t', j' < wO ks goal L c → ks[j']? = some t' → thr (wA ks goal) L c t' ≠ wA ks goal L c := by
  have h1 := wA_p (c := c) (goal := goal) hk hL
  rcases rf_find (T := wA ks goal) (L := L) (c := c) ks 0 (UN, 0) with h2 | ⟨j, t, e1, e2, e3, e4⟩
  · rw [h2] at h1
    rw [h1] at h
    exact absurd h (Nat.lt_irrefl _)
  · have hO : wO ks goal L c = j := by unfold wO; rw [e2]; exact Nat.zero_add j
    have hA : wA ks goal L c = thr (wA ks goal) L c t := by rw [h1, e2]
    refine ⟨t, by rw [hO]; exact e1, hA.symm, fun j' t' hj ht => ?_⟩
    rw [hO] at hj
    have := e4 j' t' hj ht
    omega
/-- it touches the city, and the rest is reached -/
theorem thr_in {T : Nat → Nat → Nat} {L c : Nat} {t : TK} (h : thr T L c t < UN) : t.2.2.1 ≤ L ∧ ((t.1 = c ∧ thr T L c t = T (L - t.2.2.1) t.2.1 + t.2.2.2) ∨ (t.1 ≠ c ∧ t.2.1 = c ∧ thr T L c t = T (L - t.2.2.1) t.1 + t.2.2.2)) := by
  unfold thr at h ⊢
  by_cases e : t.2.2.1 ≤ L
  · rw [if_pos e] at h ⊢
    refine ⟨e, ?_⟩
    by_cases e1 : t.1 = c
    · rw [if_pos e1]; exact Or.inl ⟨e1, rfl⟩
    · rw [if_neg e1] at h ⊢
      by_cases e2 : t.2.1 = c
      · rw [if_pos e2]; exact Or.inr ⟨e1, e2, rfl⟩
      · rw [if_neg e2] at h; exact absurd h (Nat.lt_irrefl _)
  · rw [if_neg e] at h; exact absurd h (Nat.lt_irrefl _)
def wFar (t : TK) (c : Nat) : Nat := if t.1 = c then t.2.1 else t.1
/-- the way from a place -/
def pth (ks : List TK) (goal : Nat) : Nat → Nat → Nat → List Nat
  | 0, _, _ => []
  | f + 1, L, c => if L = 0 then [] else match ks[wO ks goal L c]? with
    | none => []
    | some t => wO ks goal L c :: pth ks goal f (L - t.2.2.1) (wFar t c)
theorem pth_0 {ks : List TK} {goal f c : Nat} : pth ks goal f 0 c = [] := by
  cases f with
  | zero => rfl
  | succ f => simp [pth]
theorem pth_s {ks : List TK} {goal f L c : Nat} {t : TK} (hL : L ≠ 0) (ht : ks[wO ks goal L c]? = some t) : pth ks goal (f + 1) L c = wO ks goal L c :: pth ks goal f (L - t.2.2.1) (wFar t c) := by
  simp [pth, hL, ht]
/-- the length chosen -/
def wch (ks : List TK) (goal a : Nat) : Nat → Nat × Nat
  | 0 => (UN, 0)
  | n + 1 => if wA ks goal (n + 1) a < (wch ks goal a n).1 then (wA ks goal (n + 1) a, n + 1) else wch ks goal a n
theorem wch_v {ks : List TK} {goal a : Nat} : ∀ n, (wch ks goal a n).1 ≤ UN ∧ (wch ks goal a n).2 ≤ n ∧ ((wch ks goal a n).1 < UN → 1 ≤ (wch ks goal a n).2 ∧ wA ks goal (wch ks goal a n).2 a = (wch ks goal a n).1) ∧ ((wch ks goal a n).1 = UN → (wch ks goal a n).2 = 0) := by
  intro n
  induction n with
  | zero => exact ⟨Nat.le_refl _, Nat.le_refl _, fun h => absurd h (Nat.lt_irrefl _), fun _ => rfl⟩
  | succ n ih =>
    unfold wch
    split
    · rename_i h
      exact ⟨by have := ih.1; simp only; omega, Nat.le_refl _, fun _ => ⟨by simp only; omega, rfl⟩, fun q => by simp only at q; have := ih.1; omega⟩
    · exact ⟨ih.1, by have := ih.2.1; omega, ih.2.2.1, ih.2.2.2⟩
theorem pth_len {ks : List TK} {goal : Nat} (hk : ∀ t ∈ ks, 1 ≤ t.2.2.1) : ∀ (f L c : Nat), L ≤ f → (pth ks goal f L c).length ≤ L := by
  intro f
  induction f with
  | zero => intro L c h; exact Nat.zero_le _
  | succ f ih =>
    intro L c h
    unfold pth
    split
    · exact Nat.zero_le _
    · split
      · exact Nat.zero_le _
      · rename_i e t ht
        have h1 := hk t (mem_get ht)
        have h2 := ih (L - t.2.2.1) (wFar t c) (by omega)
        simp only [List.length_cons]
        omega

