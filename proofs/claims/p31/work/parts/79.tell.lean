/-! ===== what a call needs; calls that tell numbers ===== -/
theorem nTr {g : Game} {S : Sg} (h : CP 14 g S) (hv : VL g) (x : Int32) : f_X10_needTrack x S = nd 1 (below g.2.1.length x) S := by
  unfold f_X10_needTrack
  rw [C_hasT' h hv, gbiN, nIx]
  exact nd_w
theorem nCt {g : Game} {S : Sg} (h : CP 14 g S) (hv : VL g) (x : Int32) : f_X10_needContract x S = nd 1 (below g.2.2.2.2.length x) S := by
  unfold f_X10_needContract
  rw [C_hasC' h hv, gbiN, nIx]
  exact nd_w
theorem nTn {g : Game} {S : Sg} {i : Nat} (h : CP 14 g S) (hv : VL g) (hi : i < 4) (x : Int32) : f_X10_needTrain (nI i) x S = nd 1 (below (g.2.2.2.1 i).length x) S := by
  unfold f_X10_needTrain
  rw [C_hasN h hv hi, gbiN, nIx]
  exact nd_w
theorem nHo0 {g : Game} {S : Sg} {k : Nat} {a : T6} (h : CP 14 g S) (hv : VL g) (hk : g.2.2.2.2[k]? = some a) (ha : a.2.2.2.2.1 = -9) (x : Int32) : f_X10_needTrainOfHolder (nI k) x S = nd 1 true S := by
  unfold f_X10_needTrainOfHolder
  rw [C_isFree h hv hk, gbiN, decide_eq_true ha, if_neg (by decide)]
  rfl
theorem nHo {g : Game} {S : Sg} {k i : Nat} {a : T6} (h : CP 14 g S) (hv : VL g) (hk : g.2.2.2.2[k]? = some a) (hi : i < 4) (ha : a.2.2.2.2.1 = nI i) (x : Int32) : f_X10_needTrainOfHolder (nI k) x S = nd 1 (below (g.2.2.2.1 i).length x) S := by
  have h9 : nI i ≠ -9 := nI_m9 (by omega)
  unfold f_X10_needTrainOfHolder
  rw [C_isFree h hv hk, gbiN, ha, decide_eq_false h9, if_pos (by decide), C_holder h hv hk, gbiN, ha, nTn h hv hi]
  exact nd_w
theorem nCi {g : Game} {S : Sg} {c : Nat} (h : CP 14 g S) (hc : g.1 0 = nI c) (h9 : c ≤ 9) (x : Int32) : f_X10_needCity x S = nd 1 (below c x) S := by
  unfold f_X10_needCity B_X10_needCity_20
  rw [h.1.1, hc]
  rcases ix_of x with h0 | ⟨j, hj, rfl⟩
  · rw [below_neg h0, if_pos h0]; rfl
  · rw [below_nI (by omega) hj, if_neg (nI_ng hj)]
    by_cases h1 : j < c
    · rw [if_neg (by rw [nIle (by omega) hj]; omega), decide_eq_true h1]; rfl
    · rw [if_pos (by rw [nIle (by omega) hj]; omega), decide_eq_false h1]; rfl
theorem nSl (x : Int32) (S : Sg) : f_X10_needSlot x S = nd 1 (below 2 x) S := by
  unfold f_X10_needSlot B_X10_needSlot_14
  rw [show (2 : Int32) = nI 2 from rfl]
  rcases ix_of x with h0 | ⟨j, hj, rfl⟩
  · rw [below_neg h0, if_pos h0]; rfl
  · rw [below_nI (by omega) hj, if_neg (nI_ng hj)]
    by_cases h1 : j < 2
    · rw [if_neg (by rw [nIle (by omega) hj]; omega), decide_eq_true h1]; rfl
    · rw [if_pos (by rw [nIle (by omega) hj]; omega), decide_eq_false h1]; rfl
theorem sum_step {k n x f : Nat} {t : Int32} {S : Sg} (hx : x < n) (hn : n < 1000) : L_X10_sum_4 k n (f + 1) S t (nI x) = L_X10_sum_4 k n f S (t + S k x) (nI (x + 1)) := by
  show Lb_X10_sum_4 k n _ S t (nI x) = _
  unfold Lb_X10_sum_4
  rw [if_neg (by rw [nIle (by omega) (by omega)]; omega), gck_nI hx (by omega), gviN, gviN, nI_c (by omega), nI_s]
theorem sum_end {k n f : Nat} {t : Int32} {S : Sg} (hn : n < 1000) : L_X10_sum_4 k n (f + 1) S t (nI n) = some (t, S) := by
  show Lb_X10_sum_4 k n _ S t (nI n) = _
  unfold Lb_X10_sum_4
  rw [if_pos (by rw [nIle (by omega) (by omega)]; omega)]
theorem sum_5 {k : Nat} {S : Sg} : f_X10_sum k 5 S = some (S k 0 + S k 1 + S k 2 + S k 3 + S k 4, S) := by
  obtain ⟨f, hf⟩ : ∃ f, gFu = f + 6 := ⟨4090, by unfold gFu; rfl⟩
  unfold f_X10_sum
  rw [hf, show (L_X10_sum_4 k 5 (f + 6) S 0 0 = L_X10_sum_4 k 5 (f + 6) S 0 (nI 0)) by rw [nI_0], sum_step (by omega) (by omega), sum_step (by omega) (by omega), sum_step (by omega) (by omega), sum_step (by omega) (by omega), sum_step (by omega) (by omega), sum_end (by omega), Int32.zero_add]
theorem sum_4 {k : Nat} {S : Sg} : f_X10_sum k 4 S = some (S k 0 + S k 1 + S k 2 + S k 3, S) := by
  obtain ⟨f, hf⟩ : ∃ f, gFu = f + 5 := ⟨4091, by unfold gFu; rfl⟩
  unfold f_X10_sum
  rw [hf, show (L_X10_sum_4 k 4 (f + 5) S 0 0 = L_X10_sum_4 k 4 (f + 5) S 0 (nI 0)) by rw [nI_0], sum_step (by omega) (by omega), sum_step (by omega) (by omega), sum_step (by omega) (by omega), sum_step (by omega) (by omega), sum_end (by omega), Int32.zero_add]
theorem ne_of_below {n : Nat} {x : Int32} (hx : below n x = false) (k : Int32) (hk : below n k = true) : x ≠ k := fun e => by
  rw [e, hk] at hx
  cases hx
