/-! ===== what undo needs ===== -/
theorem CP_o {b : Nat} {g : Game} {S S' : Sg} (h : CP b g S) (hf : ∀ k, b ≤ k → k < b + 21 → S' k = S k) : CP b g S' := by
  obtain ⟨hSc, hTr, hCo, hTn, hCt⟩ := h
  refine ⟨?_, ?_, ?_, ?_, ?_⟩
  · unfold CSc at hSc ⊢
    simp (disch := omega) only [hf]
    exact hSc
  · apply CTr_fr hTr <;> (apply hf <;> omega)
  · apply CCo_fr hCo <;> (try intro _ _) <;> simp (disch := omega) only [hf]
  · apply CTn_fr hTn <;> (apply hf <;> omega)
  · apply CCt_fr hCt <;> (apply hf <;> omega)
def HIs (hs : List Game) (o : Nat) (S : Sg) : Prop := hs.length ≤ 14 ∧ o < 14 ∧ S 3 2 = nI hs.length ∧ S 3 1 = nI o ∧ ∀ (k : Nat) (g : Game), hs[k]? = some g → CP (56 + 21 * ((o + k) % 14)) g S
def hpush (hs : List Game) (g : Game) : List Game := if hs.length < 14 then hs ++ [g] else hs.tail ++ [g]
theorem rem14 {a : Nat} (h : a < 1000) : nI a - nI a / (14 : Int32) * (14 : Int32) = nI (a % 14) := by
  rw [show (14 : Int32) = nI 14 from rfl]
  exact pk_rem (by omega) (by omega) (by omega)
theorem stateAt_ok {o a : Nat} {S : Sg} (ho : o < 14) (ha : a ≤ 14) (h : S 3 1 = nI o) : f_X3_stateAt (nI a) S = some (56 + 21 * ((o + a) % 14), S) := by
  unfold f_X3_stateAt
  have hm : (o + a) % 14 < 14 := Nat.mod_lt _ (by omega)
  rw [h, nI_add, rem14 (by omega), gviN, if_neg (nI_ng (by omega)), if_neg (by rw [nIle (by omega) (by omega)]; omega), gck_nI hm (by omega), nI_c (by omega)]
theorem gbnN {α : Type} {v : Nat} {s : Sg} {k : Nat → Sg → Option α} : gbn (some (v, s)) k = k v s := Eq.trans gbn_ok (Eq.refl _)
theorem hslot_ne {o k a : Nat} (ho : o < 14) (hk : k < 14) (ha : a < 14) (h : k ≠ a) : (o + k) % 14 ≠ (o + a) % 14 := by omega
theorem C_remember {hs : List Game} {o : Nat} {g : Game} {S : Sg} (hh : HIs hs o S) (hg : CP 14 g S) (hv : VL g) : ∃ S' o', f_X3_remember 14 S = some S' ∧ HIs (hpush hs g) o' S' ∧ CP 14 g S' ∧ ∀ k, k ≠ 3 → (k < 56 ∨ 350 ≤ k) → S' k = S k := by
  obtain ⟨h1, h2, h3, h4, h5⟩ := hh
  have hm : (o + hs.length) % 14 < 14 := Nat.mod_lt _ (by omega)
  obtain ⟨S1, e1, c1, f1⟩ := C_copy (b := 56 + 21 * ((o + hs.length) % 14)) (b1 := 14) hg hv (by omega)
  have e0 : f_X3_remember 14 S = if (14 : Int32) ≤ nI hs.length then some (u2 S1 3 1 (nI ((o + 1) % 14))) else some (u2 S1 3 2 (nI (hs.length + 1))) := by
    unfold f_X3_remember f_X10_copyState
    rw [h3, stateAt_ok h2 h1 h4, gbnN, e1, gbvN, gbvN, f1 3 (by omega), h3, h4, nI_s, nI_s, rem14 (by omega), gstN, gstN]
  have keep : ∀ S' : Sg, (∀ k, k ≠ 3 → S' k = S1 k) → (∀ k, k ≠ 3 → (k < 56 ∨ 350 ≤ k) → S' k = S k) := fun S' q k k1 k2 => by rw [q k k1, f1 k (by omega)]
  have present : ∀ S' : Sg, (∀ k, k ≠ 3 → S' k = S1 k) → CP 14 g S' := fun S' q => CP_o hg (fun k k1 k2 => by rw [q k (by omega), f1 k (by omega)])
  have newst : ∀ S' : Sg, (∀ k, k ≠ 3 → S' k = S1 k) → CP (56 + 21 * ((o + hs.length) % 14)) g S' := fun S' q => CP_o c1 (fun k k1 k2 => q k (by omega))
  have old : ∀ S' : Sg, (∀ k, k ≠ 3 → S' k = S1 k) → ∀ (k : Nat) (g' : Game), k < 14 → (o + k) % 14 ≠ (o + hs.length) % 14 → hs[k]? = some g' → CP (56 + 21 * ((o + k) % 14)) g' S' := fun S' q k g' k1 k2 k3 => CP_o (h5 k g' k3) (fun z z1 z2 => by
    have hm2 : (o + k) % 14 < 14 := Nat.mod_lt _ (by omega)
    rw [q z (by omega), f1 z (by omega)])
  by_cases e : hs.length < 14
  · have q : ∀ k, k ≠ 3 → u2 S1 3 2 (nI (hs.length + 1)) k = S1 k := fun k hk => u2_n hk
    refine ⟨u2 S1 3 2 (nI (hs.length + 1)), o, by rw [e0, if_neg (by rw [show (14 : Int32) = nI 14 from rfl, nIle (by omega) (by omega)]; omega)], ?_, present _ q, keep _ q⟩
    unfold hpush
    rw [if_pos e]
    refine ⟨by simp; omega, h2, by rw [u2_eq]; simp, by rw [u2_ni (by omega), f1 3 (by omega), h4], fun k g' hk => ?_⟩
    by_cases ek : k < hs.length
    · rw [List.getElem?_append_left ek] at hk
      exact old _ q k g' (by omega) (hslot_ne h2 (by omega) e (by omega)) hk
    · have hkl := lt_len hk
      simp only [List.length_append, List.length_singleton] at hkl
      have : k = hs.length := by omega
      subst this
      have hk' : (hs ++ g :: [])[hs.length]? = some g := get_mid
      rw [hk'] at hk
      cases hk
      exact newst _ q
  · have hl : hs.length = 14 := by omega
    have q : ∀ k, k ≠ 3 → u2 S1 3 1 (nI ((o + 1) % 14)) k = S1 k := fun k hk => u2_n hk
    refine ⟨u2 S1 3 1 (nI ((o + 1) % 14)), (o + 1) % 14, by rw [e0, if_pos (by rw [show (14 : Int32) = nI 14 from rfl, nIle (by omega) (by omega)]; omega)], ?_, present _ q, keep _ q⟩
    unfold hpush
    rw [if_neg e]
    refine ⟨by simp; omega, Nat.mod_lt _ (by omega), by rw [u2_ni (by omega), f1 3 (by omega), h3]; simp; congr 1; omega, u2_eq, fun k g' hk => ?_⟩
    have hkl := lt_len hk
    simp only [List.length_append, List.length_singleton, List.length_tail] at hkl
    by_cases ek : k < 13
    · rw [List.getElem?_append_left (by rw [List.length_tail]; omega), List.getElem?_tail] at hk
      have := old _ q (k + 1) g' (by omega) (by rw [hl]; omega) hk
      rw [show ((o + 1) % 14 + k) % 14 = (o + (k + 1)) % 14 by omega]
      exact this
    · have ek' : k = 13 := by omega
      subst ek'
      rw [List.getElem?_append_right (by rw [List.length_tail]; omega), List.length_tail, hl] at hk
      simp at hk
      subst hk
      have := newst _ q
      rw [hl] at this
      rw [show ((o + 1) % 14 + 13) % 14 = (o + 14) % 14 by omega]
      exact this
theorem C_takeBack {hs : List Game} {o : Nat} {g : Game} {S : Sg} (hh : HIs (hs ++ [g]) o S) (hv : VL g) : ∃ S', f_X3_takeBackInto 14 S = some S' ∧ HIs hs o S' ∧ CP 14 g S' ∧ ∀ k, k ≠ 3 → (k < 14 ∨ 35 ≤ k) → S' k = S k := by
  obtain ⟨h1, h2, h3, h4, h5⟩ := hh
  simp only [List.length_append, List.length_singleton] at h1 h3
  have hm : (o + hs.length) % 14 < 14 := Nat.mod_lt _ (by omega)
  have hg := h5 hs.length g get_mid
  have hg1 : CP (56 + 21 * ((o + hs.length) % 14)) g (u2 S 3 2 (nI hs.length)) := CP_o hg (fun k k1 k2 => u2_n (by omega))
  obtain ⟨S1, e1, c1, f1⟩ := C_copy (b := 14) (b1 := 56 + 21 * ((o + hs.length) % 14)) hg1 hv (by omega)
  refine ⟨S1, ?_, ⟨by omega, h2, by rw [f1 3 (by omega), u2_eq], by rw [f1 3 (by omega), u2_ni (by omega), h4], fun k g' hk => ?_⟩, c1, fun k k1 k2 => by rw [f1 k (by omega), u2_n k1]⟩
  · unfold f_X3_takeBackInto f_X10_copyState
    rw [h3, if_neg (by rw [show (0 : Int32) = nI 0 from rfl, nIle (by omega) (by omega)]; omega), nI_pred, gstN, u2_eq, stateAt_ok (o := o) h2 (by omega) (by rw [u2_ni (by omega), h4]), gbnN, e1, gbvN, gbvN]
  · have hkl := lt_len hk
    have hm2 : (o + k) % 14 < 14 := Nat.mod_lt _ (by omega)
    refine CP_o (h5 k g' (by rw [List.getElem?_append_left hkl]; exact hk)) (fun z z1 z2 => by rw [f1 z (by omega), u2_n (by omega)])
