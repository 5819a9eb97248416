/-! ===== the invariant of the world ===== -/
/-- the game now, the text and its size, the games before, the slots -/
abbrev St : Type := Game × (Nat → Nat) × Nat × List Game × (Nat → Option Game)
def TXs (tx : Nat → Nat) (sz : Nat) (S : Sg) : Prop := S 1 1 = nI sz ∧ ∀ x, x < sz → S 2 x = nI (tx x)
def TXm (tx : Nat → Nat) (sz : Nat) (S : Sg) : Prop := S 392 2 = nI sz ∧ ∀ x, x < sz → S 393 x = nI (tx x)
def IC (s : St) (S : Sg) : Prop := CP 14 s.1 S ∧ TXs s.2.1 s.2.2.1 S ∧ (∃ o, HIs s.2.2.2.1 o S) ∧ SLs s.2.2.2.2 S
def IV (n : Nat) (s : St) : Prop := (∃ c, V c n s.1) ∧ (s.2.2.1 ≤ 100 ∧ ∀ x, x < s.2.2.1 → s.2.1 x ≤ 255) ∧ (s.2.2.2.1.length ≤ 14 ∧ ∀ x ∈ s.2.2.2.1, ∃ c, V c n x) ∧ ∀ k x, s.2.2.2.2 k = some x → ∃ c, V c n x
theorem V_L {c n : Nat} {g : Game} (h : V c n g) : VL g := V.vl h
theorem IV_mono {n n' : Nat} {s : St} (h : IV n s) (hn : n ≤ n') : IV n' s := by
  obtain ⟨⟨c, h1⟩, h2, ⟨h3, h4⟩, h5⟩ := h
  refine ⟨⟨c, V_mono h1 hn⟩, h2, ⟨h3, fun x hx => ?_⟩, fun k x hx => ?_⟩
  · obtain ⟨c', q⟩ := h4 x hx
    exact ⟨c', V_mono q hn⟩
  · obtain ⟨c', q⟩ := h5 k x hx
    exact ⟨c', V_mono q hn⟩
/-- what calls that only ask leave as it was -/
def QM (S S' : Sg) : Prop := (∀ k, k ≠ 392 → k ≠ 394 → k ≠ 396 → k ≠ 400 → k ≠ 401 → S' k = S k) ∧ ∀ x, x ≠ 0 → x ≠ 3 → x ≠ 12 → x ≠ 13 → x ≠ 15 → S' 392 x = S 392 x
theorem QM.rf (S : Sg) : QM S S := ⟨fun _ _ _ _ _ _ => rfl, fun _ _ _ _ _ _ => rfl⟩
theorem QM.tr {S S1 S2 : Sg} (h1 : QM S S1) (h2 : QM S1 S2) : QM S S2 := ⟨fun k a b c d e => (h2.1 k a b c d e).trans (h1.1 k a b c d e), fun x z a b c d => (h2.2 x z a b c d).trans (h1.2 x z a b c d)⟩
theorem QM.m {S S' : Sg} (h : FrM S S') : QM S S' := ⟨fun k a _ _ d e => h.1 k a d e, fun x _ _ b c d => h.2 x b c d⟩
theorem QM.p {S S' : Sg} (h : FrP 396 S S') : QM S S' := ⟨fun k a _ c d e => h.1 k c a d e, fun x _ _ b c d => h.2 x b c d⟩
theorem QM.o {S S' : Sg} (h : ∀ k, k ≠ 396 → S' k = S k) : QM S S' := ⟨fun k _ _ c _ _ => h k c, fun x _ _ _ _ _ => by rw [h 392 (by omega)]⟩
theorem QM.r {S : Sg} {v : Int32} : QM S (u2 S 392 0 v) := ⟨fun k a _ _ _ _ => by rw [u2_n a], fun x z _ _ _ _ => by rw [u2_ni z]⟩
theorem IC_fr {s : St} {S S' : Sg} (h : IC s S) (e : ∀ k, (k < 9 ∨ 13 < k) → (k < 35 ∨ 56 ≤ k) → k < 392 → S' k = S k) : IC s S' := by
  obtain ⟨h1, h2, ⟨o, h3⟩, h4⟩ := h
  refine ⟨CP_o h1 (fun k a b => e k (by omega) (by omega) (by omega)), ⟨by rw [e 1 (by omega) (by omega) (by omega)]; exact h2.1, fun x hx => by rw [e 2 (by omega) (by omega) (by omega)]; exact h2.2 x hx⟩, ⟨o, ?_⟩, fun k hk => ?_⟩
  · obtain ⟨a1, a2, a3, a4, a5⟩ := h3
    refine ⟨a1, a2, by rw [e 3 (by omega) (by omega) (by omega)]; exact a3, by rw [e 3 (by omega) (by omega) (by omega)]; exact a4, fun k g hg => CP_o (a5 k g hg) (fun j b1 b2 => e j (by omega) (by omega) (by omega))⟩
  · obtain ⟨a1, a2⟩ := h4 k hk
    exact ⟨by rw [e 7 (by omega) (by omega) (by omega)]; exact a1, fun g hg => CP_o (a2 g hg) (fun j b1 b2 => e j (by omega) (by omega) (by omega))⟩
/-- what the class's calls leave to the reference, and the other way round -/
def FC (S S' : Sg) : Prop := ∀ k, 392 ≤ k → S' k = S k
def FM (S S' : Sg) : Prop := (∀ k, k < 392 → S' k = S k) ∧ S' 402 = S 402
theorem QM.fm {S S' : Sg} (h : QM S S') : FM S S' := ⟨fun k hk => h.1 k (by omega) (by omega) (by omega) (by omega) (by omega), h.1 402 (by omega) (by omega) (by omega) (by omega) (by omega)⟩
def CSp (f : Sg → Option (Nat × Int32 × Sg)) (s : St) (k : Nat) (v : Int32) (s' : St) : Prop := ∀ S, IC s S → ∃ S1, f S = some (k, v, S1) ∧ IC s' S1 ∧ FC S S1
def CSb (f : Sg → Option (Int32 × Sg)) (s : St) (v : Int32) (s' : St) : Prop := ∀ S, IC s S → ∃ S1, f S = some (v, S1) ∧ IC s' S1 ∧ FC S S1
theorem CSp_q {f : Sg → Option (Nat × Int32 × Sg)} {s : St} {k : Nat} {v : Int32} (h : ∀ S, IC s S → ∃ S1, f S = some (k, v, S1) ∧ Fb 35 S S1) : CSp f s k v s := by
  intro S hS
  obtain ⟨S1, e1, e2⟩ := h S hS
  exact ⟨S1, e1, IC_fr hS (fun k a b _ => e2 k a b), fun k hk => e2 k (by omega) (by omega)⟩
theorem CSb_q {f : Sg → Option (Int32 × Sg)} {s : St} {v : Int32} (h : ∀ S, IC s S → ∃ S1, f S = some (v, S1) ∧ Fb 35 S S1) : CSb f s v s := by
  intro S hS
  obtain ⟨S1, e1, e2⟩ := h S hS
  exact ⟨S1, e1, IC_fr hS (fun k a b _ => e2 k a b), fun k hk => e2 k (by omega) (by omega)⟩
/-- an action: the game before is remembered -/
def act (s : St) (g : Game) : St := (g, s.2.1, s.2.2.1, hpush s.2.2.2.1 s.1, s.2.2.2.2)
theorem hpush_mem {hs : List Game} {g x : Game} (h : x ∈ hpush hs g) : x ∈ hs ∨ x = g := by
  unfold hpush at h
  split at h
  · rcases List.mem_append.mp h with q | q
    · exact Or.inl q
    · exact Or.inr (List.mem_singleton.mp q)
  · rcases List.mem_append.mp h with q | q
    · exact Or.inl (List.mem_of_mem_tail q)
    · exact Or.inr (List.mem_singleton.mp q)
theorem hpush_len {hs : List Game} {g : Game} (h : hs.length ≤ 14) : (hpush hs g).length ≤ 14 := by
  unfold hpush
  split
  · simp only [List.length_append, List.length_singleton]; omega
  · simp only [List.length_append, List.length_singleton, List.length_tail]; omega
theorem IV_act {n c : Nat} {s : St} {g : Game} (h : IV n s) (hg : V c (n + 1) g) : IV (n + 1) (act s g) := by
  obtain ⟨⟨c0, h1⟩, h2, ⟨h3, h4⟩, h5⟩ := IV_mono h (Nat.le_succ n)
  refine ⟨⟨c, hg⟩, h2, ⟨hpush_len h3, fun x hx => ?_⟩, h5⟩
  rcases hpush_mem hx with q | q
  · exact h4 x q
  · rw [q]; exact ⟨c0, h1⟩
theorem C_act {α : Type} {s : St} {S : Sg} {K : Sg → Option α} {mk : Sg → α} {g : Game} {n : Nat} (hI : IV n s) (h : IC s S) (hK : ∀ S0, CP 14 s.1 S0 → ∃ S1, K S0 = some (mk S1) ∧ CP 14 g S1 ∧ Fb 14 S0 S1) : ∃ S1, gbv (f_X3_remember 14 S) K = some (mk S1) ∧ IC (act s g) S1 ∧ FC S S1 := by
  obtain ⟨⟨c, hV⟩, -, -, -⟩ := hI
  obtain ⟨h1, h2, ⟨o, h3⟩, h4⟩ := h
  obtain ⟨S0, o', a1, a2, a3, a4⟩ := C_remember h3 h1 (V.vl hV)
  obtain ⟨S1, b1, b2, b3⟩ := hK S0 a3
  have e : ∀ k, k ≠ 3 → (k < 9 ∨ 34 < k) → (k < 56 ∨ 350 ≤ k) → S1 k = S k := fun k x1 x2 x3 => by rw [b3 k (by omega) (by omega), a4 k x1 x3]
  refine ⟨S1, by rw [a1, gbvN]; exact b1, ⟨b2, ⟨by rw [e 1 (by omega) (by omega) (by omega)]; exact h2.1, fun x hx => by rw [e 2 (by omega) (by omega) (by omega)]; exact h2.2 x hx⟩, ⟨o', ?_⟩, fun k hk => ?_⟩, fun k hk => e k (by omega) (by omega) (by omega)⟩
  · obtain ⟨q1, q2, q3, q4, q5⟩ := a2
    exact ⟨q1, q2, by rw [b3 3 (by omega) (by omega)]; exact q3, by rw [b3 3 (by omega) (by omega)]; exact q4, fun k g hg => CP_o (q5 k g hg) (fun j p1 p2 => b3 j (by omega) (by omega))⟩
  · obtain ⟨q1, q2⟩ := h4 k hk
    exact ⟨by rw [e 7 (by omega) (by omega) (by omega)]; exact q1, fun g hg => CP_o (q2 g hg) (fun j p1 p2 => e j (by omega) (by omega) (by omega))⟩
/-! what a call needs -/
def nd (j : Nat) (b : Bool) (S : Sg) : Option (Nat × Int32 × Sg) := if b = true then some (0, 0, S) else some (j, 0, S)
theorem nd_t {j : Nat} {S : Sg} {k : Int32 → Sg → Option (Nat × Int32 × Sg)} : gbx (nd j true S) k = k 0 S := rfl
theorem nd_f {j : Nat} {S : Sg} {k : Int32 → Sg → Option (Nat × Int32 × Sg)} : gbx (nd (j + 1) false S) k = some (j + 1, 0, S) := rfl
theorem gbxN {v : Int32} {s : Sg} {k : Int32 → Sg → Option (Nat × Int32 × Sg)} : gbx (some (0, v, s)) k = k v s := Eq.trans gbx_ok (Eq.refl _)
theorem gbxE {j : Nat} {v : Int32} {s : Sg} {k : Int32 → Sg → Option (Nat × Int32 × Sg)} : gbx (some (j + 1, v, s)) k = some (j + 1, 0, s) := Eq.trans gbx_er (Eq.refl _)
theorem nIx (b : Bool) (S : Sg) : f_X10_needIndex (bI b) S = nd 1 b S := by cases b <;> rfl
theorem nAl (b : Bool) (S : Sg) : f_X10_needAllowed (bI b) S = nd 3 b S := by cases b <;> rfl
theorem nd_w {j : Nat} {b : Bool} {S : Sg} : gbx (nd (j + 1) b S) (fun _ S => some (0, 0, S)) = nd (j + 1) b S := by cases b <;> rfl
theorem nCo (i : Int32) (S : Sg) : f_X10_needCompany i S = nd 1 (below 4 i) S := by
  unfold f_X10_needCompany
  rw [C_isCo, gbiN, nIx]
  exact nd_w
theorem nRa (x a b : Int32) (S : Sg) : f_X10_needRange x a b S = nd 2 (decide (a ≤ x) && decide (x ≤ b)) S := by
  unfold f_X10_needRange B_X10_needRange_10 nd
  by_cases h1 : x < a
  · rw [if_pos h1, decide_eq_false (Int32.not_le.mpr h1), Bool.false_and, if_neg (by decide)]
  · rw [if_neg h1, decide_eq_true (Int32.not_lt.mp h1), Bool.true_and]
    by_cases h2 : x ≤ b
    · rw [if_pos h2, if_pos (decide_eq_true h2)]
    · rw [if_neg h2, if_neg (by rw [decide_eq_false h2]; decide)]
theorem nDi (a b : Int32) (S : Sg) : f_X10_needDifferent a b S = nd 2 (!decide (a = b)) S := by
  unfold f_X10_needDifferent nd
  by_cases h : a = b
  · rw [if_pos h, decide_eq_true h, if_neg (by decide)]
  · rw [if_neg h, decide_eq_false h, if_pos (by decide)]
