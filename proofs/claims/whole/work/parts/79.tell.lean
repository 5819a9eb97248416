/-! ===== what a call needs; calls that tell numbers ===== -/
theorem nTr {g : Game} {S : Sg} (h : CP 14 g S) (hv : VL g) (x : Int32) : f_X10_needTrack x S = nd 1 (below g.2.1.length x) S := by
  unfold f_X10_needTrack
  rw [C_hasT' h hv, gbiN, nIx]
  exact nd_w
theorem nCt {g : Game} {S : Sg} (h : CP 14 g S) (hv : VL g) (x : Int32) : f_X10_needContract x S = nd 1 (below g.2.2.2.2.length x) S := by
  unfold f_X10_needContract
  rw [C_hasC' h hv, gbiN, nIx]
  exact nd_w
theorem nTn {g : Game} {S : Sg} {i : Nat} (h : CP 14 g S) (hv : VL g) (hi : i < 4) (x : Int32) : f_X10_needTrain (nI i) x S = nd 1 (below (g.2.2.2.1 i).length x) S := by
  unfold f_X10_needTrain
  rw [C_hasN h hv hi, gbiN, nIx]
  exact nd_w
theorem nHo0 {g : Game} {S : Sg} {k : Nat} {a : T6} (h : CP 14 g S) (hv : VL g) (hk : g.2.2.2.2[k]? = some a) (ha : a.2.2.2.2.1 = -9) (x : Int32) : f_X10_needTrainOfHolder (nI k) x S = nd 1 true S := by
  unfold f_X10_needTrainOfHolder
  rw [C_isFree h hv hk, gbiN, decide_eq_true ha, if_neg (by decide)]
  rfl
theorem nHo {g : Game} {S : Sg} {k i : Nat} {a : T6} (h : CP 14 g S) (hv : VL g) (hk : g.2.2.2.2[k]? = some a) (hi : i < 4) (ha : a.2.2.2.2.1 = nI i) (x : Int32) : f_X10_needTrainOfHolder (nI k) x S = nd 1 (below (g.2.2.2.1 i).length x) S := by
  have h9 : nI i ≠ -9 := nI_m9 (by omega)
  unfold f_X10_needTrainOfHolder
  rw [C_isFree h hv hk, gbiN, ha, decide_eq_false h9, if_pos (by decide), C_holder h hv hk, gbiN, ha, nTn h hv hi]
  exact nd_w
theorem nCi {g : Game} {S : Sg} {c : Nat} (h : CP 14 g S) (hc : g.1 0 = nI c) (h9 : c ≤ 9) (x : Int32) : f_X10_needCity x S = nd 1 (below c x) S := by
  unfold f_X10_needCity B_X10_needCity_20
  rw [h.1.1, hc]
  rcases ix_of x with h0 | ⟨j, hj, rfl⟩
  · rw [below_neg h0, if_pos h0]; rfl
  · rw [below_nI (by omega) hj, if_neg (nI_ng hj)]
    by_cases h1 : j < c
    · rw [if_neg (by rw [nIle (by omega) hj]; omega), decide_eq_true h1]; rfl
    · rw [if_pos (by rw [nIle (by omega) hj]; omega), decide_eq_false h1]; rfl
theorem nSl (x : Int32) (S : Sg) : f_X10_needSlot x S = nd 1 (below 2 x) S := by
  unfold f_X10_needSlot B_X10_needSlot_14
  rw [show (2 : Int32) = nI 2 from rfl]
  rcases ix_of x with h0 | ⟨j, hj, rfl⟩
  · rw [below_neg h0, if_pos h0]; rfl
  · rw [below_nI (by omega) hj, if_neg (nI_ng hj)]
    by_cases h1 : j < 2
    · rw [if_neg (by rw [nIle (by omega) hj]; omega), decide_eq_true h1]; rfl
    · rw [if_pos (by rw [nIle (by omega) hj]; omega), decide_eq_false h1]; rfl
theorem in_b {n : Nat} (hn : n < 2147483647) {hi : Int64} (e : hi = (nI n - 1).toInt64) (x : Int32) (S : Sg) : f_X11_in x.toInt64 0 hi S = some (bI (below n x), S) := by
  rw [e, show (0 : Int64) = (0 : Int32).toInt64 from rfl, in_ok3, below_in hn]
theorem M_isCity {g : Game} {S : Sg} {c : Nat} (h : MP g (S 395)) (hc : g.1 0 = nI c) (h9 : c ≤ 9) (x : Int32) : f_X11_isCity x S = some (bI (below c x), S) := by
  unfold f_X11_isCity
  rw [gck_c0, ix_c0, h.1.1, hc, in_b (n := c) (by omega) rfl, gbiN, gck_ok (isb_bI _)]
theorem sum_step {k n x f : Nat} {t : Int32} {S : Sg} (hx : x < n) (hn : n < 1000) : L_X10_sum_4 k n (f + 1) S t (nI x) = L_X10_sum_4 k n f S (t + S k x) (nI (x + 1)) := by
  show Lb_X10_sum_4 k n _ S t (nI x) = _
  unfold Lb_X10_sum_4
  rw [if_neg (by rw [nIle (by omega) (by omega)]; omega), gck_nI hx (by omega), gviN, gviN, nI_c (by omega), nI_s]
theorem sum_end {k n f : Nat} {t : Int32} {S : Sg} (hn : n < 1000) : L_X10_sum_4 k n (f + 1) S t (nI n) = some (t, S) := by
  show Lb_X10_sum_4 k n _ S t (nI n) = _
  unfold Lb_X10_sum_4
  rw [if_pos (by rw [nIle (by omega) (by omega)]; omega)]
theorem sum_5 {k : Nat} {S : Sg} : f_X10_sum k 5 S = some (S k 0 + S k 1 + S k 2 + S k 3 + S k 4, S) := by
  obtain ⟨f, hf⟩ : ∃ f, gFu = f + 6 := ⟨4090, by unfold gFu; rfl⟩
  unfold f_X10_sum
  rw [hf, show (L_X10_sum_4 k 5 (f + 6) S 0 0 = L_X10_sum_4 k 5 (f + 6) S 0 (nI 0)) by rw [nI_0], sum_step (by omega) (by omega), sum_step (by omega) (by omega), sum_step (by omega) (by omega), sum_step (by omega) (by omega), sum_step (by omega) (by omega), sum_end (by omega), Int32.zero_add]
theorem sum_4 {k : Nat} {S : Sg} : f_X10_sum k 4 S = some (S k 0 + S k 1 + S k 2 + S k 3, S) := by
  obtain ⟨f, hf⟩ : ∃ f, gFu = f + 5 := ⟨4091, by unfold gFu; rfl⟩
  unfold f_X10_sum
  rw [hf, show (L_X10_sum_4 k 4 (f + 5) S 0 0 = L_X10_sum_4 k 4 (f + 5) S 0 (nI 0)) by rw [nI_0], sum_step (by omega) (by omega), sum_step (by omega) (by omega), sum_step (by omega) (by omega), sum_step (by omega) (by omega), sum_end (by omega), Int32.zero_add]
theorem tA {f : Sg → Option (Nat × Int32 × Sg)} {fm : Sg → Option (Int32 × Sg)} {s : St} {c1 c2 c3 : Int32} {n : Nat} {S : Sg} (k : Nat) (j : Int32) (hC : IC s S) (hM : IM s S) (hv : IV n s) (hj : j ≠ 0) (hg : ∀ S, gwr c1 c2 c3 (some (k, 0, S)) = some (j, S)) (hc : ∀ S, IC s S → f S = some (k, 0, S)) (hm : ∀ S, IM s S → fm S = some (0, u2 S 392 0 j)) : OkA (fun S => gwr c1 c2 c3 (f S)) fm (Inv (n + 1)) S :=
  okAt hC hM (CSp_q fun S hS => ⟨S, hc S hS, Fb.rf S⟩) (MSp_t hm) (IV_mono hv (Nat.le_succ n)) hj hg
theorem qA {f : Sg → Option (Nat × Int32 × Sg)} {fm : Sg → Option (Int32 × Sg)} {s : St} {c1 c2 c3 : Int32} {n : Nat} {S : Sg} {v : Int32} (hC : IC s S) (hM : IM s S) (hv : IV n s) (hc : ∀ S, IC s S → f S = some (0, v, S)) (hm : ∀ S, IM s S → fm S = some (v, u2 S 392 0 0)) : OkA (fun S => gwr c1 c2 c3 (f S)) fm (Inv (n + 1)) S :=
  okA0 hC hM (CSp_q fun S hS => ⟨S, hc S hS, Fb.rf S⟩) (MSp_q fun S hS => ⟨_, hm S hS, u2_eq, QM.r⟩) (IV_mono hv (Nat.le_succ n))
theorem ne_of_below {n : Nat} {x : Int32} (hx : below n x = false) (k : Int32) (hk : below n k = true) : x ≠ k := fun e => by
  rw [e, hk] at hx
  cases hx
theorem ok_about {n : Nat} {S : Sg} (x : Int32) (h : Inv n S) : OkA (f_L_about x) (f_X11_about x) (Inv (n + 1)) S := by
  obtain ⟨s, hC, hM, hv⟩ := h
  show OkA (fun S => gwr 0 1 0 (f_X10_about x S)) _ _ _
  cases hx : below 11 x with
  | false =>
    refine tA 2 1 hC hM hv (by decide) (fun _ => rfl) (fun S hS => ?_) (fun S hS => ?_)
    · unfold f_X10_about
      rw [if_neg (ne_of_below hx 0 (by decide)), if_neg (ne_of_below hx 1 (by decide)), if_neg (ne_of_below hx 2 (by decide)), if_neg (ne_of_below hx 3 (by decide)), if_neg (ne_of_below hx 4 (by decide)), if_neg (ne_of_below hx 5 (by decide)), if_neg (ne_of_below hx 6 (by decide)), if_neg (ne_of_below hx 7 (by decide)), if_neg (ne_of_below hx 8 (by decide)), if_neg (ne_of_below hx 9 (by decide)), if_neg (ne_of_below hx 10 (by decide))]
    · unfold f_X11_about B_X11_about_18
      rw [in_b (n := 11) (by omega) (by decide), gbiN, hx, if_pos (by decide), ref_1, gbiN]
      rfl
  | true =>
    obtain ⟨j, hj, rfl⟩ := below_of (by omega) hx
    have key : ∃ v, (∀ S, IC s S → f_X10_about (nI j) S = some (0, v, S)) ∧ ∀ S, IM s S → S 395 j = v := by
      have hc : j = 0 ∨ j = 1 ∨ j = 2 ∨ j = 3 ∨ j = 4 ∨ j = 5 ∨ j = 6 ∨ j = 7 ∨ j = 8 ∨ j = 9 ∨ j = 10 := by omega
      rcases hc with rfl | rfl | rfl | rfl | rfl | rfl | rfl | rfl | rfl | rfl | rfl
      · refine ⟨s.1.1 0, fun S hS => ?_, fun S hS => hS.1.1.1⟩
        unfold f_X10_about
        rw [if_pos (by decide), hS.1.1.1]
      · refine ⟨nI s.1.2.1.length, fun S hS => ?_, fun S hS => hS.1.2.1.1⟩
        unfold f_X10_about
        rw [if_neg (by decide), if_pos (by decide), hS.1.2.1.1]
      · refine ⟨nI s.1.2.2.2.2.length, fun S hS => ?_, fun S hS => hS.1.2.2.2.2.1⟩
        unfold f_X10_about
        rw [if_neg (by decide), if_neg (by decide), if_pos (by decide), hS.1.2.2.2.2.1]
      · refine ⟨s.1.1 3, fun S hS => ?_, fun S hS => hS.1.1.2.1⟩
        unfold f_X10_about
        rw [if_neg (by decide), if_neg (by decide), if_neg (by decide), if_pos (by decide), hS.1.1.2.1]
      · refine ⟨s.1.1 4, fun S hS => ?_, fun S hS => hS.1.1.2.2.1⟩
        unfold f_X10_about
        rw [if_neg (by decide), if_neg (by decide), if_neg (by decide), if_neg (by decide), if_pos (by decide), hS.1.1.2.2.1]
      · refine ⟨s.1.1 5, fun S hS => ?_, fun S hS => hS.1.1.2.2.2.1⟩
        unfold f_X10_about
        rw [if_neg (by decide), if_neg (by decide), if_neg (by decide), if_neg (by decide), if_neg (by decide), if_pos (by decide), at_4 (by omega) (by omega), gbiN, hS.1.1.2.2.2.1]
      · refine ⟨s.1.1 6, fun S hS => ?_, fun S hS => hS.1.1.2.2.2.2.1⟩
        unfold f_X10_about
        rw [if_neg (by decide), if_neg (by decide), if_neg (by decide), if_neg (by decide), if_neg (by decide), if_neg (by decide), if_pos (by decide), sum_5, gbiN, hS.1.1.2.2.2.2.1]
      · refine ⟨s.1.1 7, fun S hS => ?_, fun S hS => hS.1.1.2.2.2.2.2.1⟩
        unfold f_X10_about
        rw [if_neg (by decide), if_neg (by decide), if_neg (by decide), if_neg (by decide), if_neg (by decide), if_neg (by decide), if_neg (by decide), if_pos (by decide), hS.1.1.2.2.2.2.2.1]
      · refine ⟨s.1.1 8, fun S hS => ?_, fun S hS => hS.1.1.2.2.2.2.2.2.1⟩
        unfold f_X10_about
        rw [if_neg (by decide), if_neg (by decide), if_neg (by decide), if_neg (by decide), if_neg (by decide), if_neg (by decide), if_neg (by decide), if_neg (by decide), if_pos (by decide), hS.1.1.2.2.2.2.2.2.1]
      · refine ⟨s.1.1 9, fun S hS => ?_, fun S hS => hS.1.1.2.2.2.2.2.2.2.1⟩
        unfold f_X10_about
        rw [if_neg (by decide), if_neg (by decide), if_neg (by decide), if_neg (by decide), if_neg (by decide), if_neg (by decide), if_neg (by decide), if_neg (by decide), if_neg (by decide), if_pos (by decide), sum_4, gbiN, hS.1.1.2.2.2.2.2.2.2.1]
      · refine ⟨s.1.1 10, fun S hS => ?_, fun S hS => hS.1.1.2.2.2.2.2.2.2.2⟩
        unfold f_X10_about
        rw [if_neg (by decide), if_neg (by decide), if_neg (by decide), if_neg (by decide), if_neg (by decide), if_neg (by decide), if_neg (by decide), if_neg (by decide), if_neg (by decide), if_neg (by decide), if_pos (by decide), hS.1.1.2.2.2.2.2.2.2.2.1]
    obtain ⟨v, k1, k2⟩ := key
    refine qA hC hM hv k1 (fun S hS => ?_)
    unfold f_X11_about B_X11_about_18
    rw [in_b (n := 11) (by omega) (by decide), gbiN, hx, if_neg (by decide), ref_0, gbiN, if_pos rfl, gck_nI (by omega) (by omega), nI_c (by omega), u2_nr (by omega), k2 S hS]
theorem ok_track {n : Nat} {S : Sg} (t x : Int32) (h : Inv n S) : OkA (f_L_track t x) (f_X11_track t x) (Inv (n + 1)) S := by
  obtain ⟨s, hC, hM, hv⟩ := h
  obtain ⟨c, hV⟩ := hv.1
  have hvl := V.vl hV
  have hl := hvl.1
  show OkA (fun S => gwr 1 2 0 (f_X10_track t x S)) _ _ _
  cases ht : below s.1.2.1.length t with
  | false =>
    refine tA 1 1 hC hM hv (by decide) (fun _ => rfl) (fun S hS => ?_) (fun S hS => ?_)
    · unfold f_X10_track
      rw [nTr hS.1 hvl, ht, nd_f]
    · unfold f_X11_track B_X11_track_33
      rw [M_isTrack hS.1 hvl, gbiN, ht, if_pos (by decide), ref_1, gbiN]
      rfl
  | true =>
    obtain ⟨j, hj, rfl⟩ := below_of (by omega) ht
    obtain ⟨a, ha⟩ := some_of_lt hj
    cases hx : below 4 x with
    | false =>
      refine tA 2 2 hC hM hv (by decide) (fun _ => rfl) (fun S hS => ?_) (fun S hS => ?_)
      · unfold f_X10_track
        rw [nTr hS.1 hvl, ht, nd_t, if_neg (ne_of_below hx 0 (by decide)), if_neg (ne_of_below hx 1 (by decide)), if_neg (ne_of_below hx 2 (by decide)), if_neg (ne_of_below hx 3 (by decide))]
      · unfold f_X11_track B_X11_track_33
        rw [M_isTrack hS.1 hvl, gbiN, ht, if_neg (by decide), in_b (n := 4) (by omega) (by decide), gbiN, hx, if_pos (by decide), ref_2, gbiN]
        rfl
    | true =>
      obtain ⟨w, hw, rfl⟩ := below_of (by omega) hx
      have key : ∃ v, (∀ S, IC s S → f_X10_track (nI j) (nI w) S = some (0, v, S)) ∧ ∀ S, IM s S → S 395 (11 + 4 * j + w) = v := by
        have hc : w = 0 ∨ w = 1 ∨ w = 2 ∨ w = 3 := by omega
        rcases hc with rfl | rfl | rfl | rfl
        · refine ⟨a.1, fun S hS => ?_, fun S hS => (hS.1.tr ha).1⟩
          unfold f_X10_track
          rw [nTr hS.1 hvl, ht, nd_t, if_pos (by decide), at_ok (by omega) (by omega), gbiN, (hS.1.tr ha).1]
        · refine ⟨a.2.1, fun S hS => ?_, fun S hS => (hS.1.tr ha).2.1⟩
          unfold f_X10_track
          rw [nTr hS.1 hvl, ht, nd_t, if_neg (by decide), if_pos (by decide), at_ok (by omega) (by omega), gbiN, (hS.1.tr ha).2.1]
        · refine ⟨a.2.2.1, fun S hS => ?_, fun S hS => (hS.1.tr ha).2.2.1⟩
          unfold f_X10_track
          rw [nTr hS.1 hvl, ht, nd_t, if_neg (by decide), if_neg (by decide), if_pos (by decide), at_ok (by omega) (by omega), gbiN, (hS.1.tr ha).2.2.1]
        · refine ⟨a.2.2.2, fun S hS => ?_, fun S hS => (hS.1.tr ha).2.2.2⟩
          unfold f_X10_track
          rw [nTr hS.1 hvl, ht, nd_t, if_neg (by decide), if_neg (by decide), if_neg (by decide), if_pos (by decide), C_bank hS.1 hvl ha, gbiN]
          by_cases e : a.2.2.2 = -9
          · rw [if_pos e, if_neg (by decide), e]
          · rw [if_neg e, if_pos rfl, at_ok (by omega) (by omega), gbiN, (hS.1.tr ha).2.2.2]
            simp only [eo, if_neg e]
      obtain ⟨v, k1, k2⟩ := key
      refine qA hC hM hv k1 (fun S hS => ?_)
      unfold f_X11_track B_X11_track_33
      rw [M_isTrack hS.1 hvl, gbiN, ht, if_neg (by decide), in_b (n := 4) (by omega) (by decide), gbiN, hx, if_neg (by decide), ref_0, gbiN, if_pos rfl, trackAt_ok, gbiN, nI_add, gck_nI (by omega) (by omega), nI_c (by omega), u2_nr (by omega), k2 S hS]
theorem ok_contract {n : Nat} {S : Sg} (t x : Int32) (h : Inv n S) : OkA (f_L_contract t x) (f_X11_contract t x) (Inv (n + 1)) S := by
  obtain ⟨s, hC, hM, hv⟩ := h
  obtain ⟨c, hV⟩ := hv.1
  have hvl := V.vl hV
  have hl := hvl.2.2.1
  show OkA (fun S => gwr 1 2 0 (f_X10_contract t x S)) _ _ _
  cases ht : below s.1.2.2.2.2.length t with
  | false =>
    refine tA 1 1 hC hM hv (by decide) (fun _ => rfl) (fun S hS => ?_) (fun S hS => ?_)
    · unfold f_X10_contract
      rw [nCt hS.1 hvl, ht, nd_f]
    · unfold f_X11_contract B_X11_contract_33
      rw [M_isContract hS.1 hvl, gbiN, ht, if_pos (by decide), ref_1, gbiN]
      rfl
  | true =>
    obtain ⟨j, hj, rfl⟩ := below_of (by omega) ht
    obtain ⟨a, ha⟩ := some_of_lt hj
    cases hx : below 6 x with
    | false =>
      refine tA 2 2 hC hM hv (by decide) (fun _ => rfl) (fun S hS => ?_) (fun S hS => ?_)
      · unfold f_X10_contract
        rw [nCt hS.1 hvl, ht, nd_t, if_neg (ne_of_below hx 0 (by decide)), if_neg (ne_of_below hx 1 (by decide)), if_neg (ne_of_below hx 2 (by decide)), if_neg (ne_of_below hx 3 (by decide)), if_neg (ne_of_below hx 4 (by decide)), if_neg (ne_of_below hx 5 (by decide))]
      · unfold f_X11_contract B_X11_contract_33
        rw [M_isContract hS.1 hvl, gbiN, ht, if_neg (by decide), in_b (n := 6) (by omega) (by decide), gbiN, hx, if_pos (by decide), ref_2, gbiN]
        rfl
    | true =>
      obtain ⟨w, hw, rfl⟩ := below_of (by omega) hx
      have key : ∃ v, (∀ S, IC s S → f_X10_contract (nI j) (nI w) S = some (0, v, S)) ∧ ∀ S, IM s S → S 395 (127 + 6 * j + w) = v := by
        have hc : w = 0 ∨ w = 1 ∨ w = 2 ∨ w = 3 ∨ w = 4 ∨ w = 5 := by omega
        rcases hc with rfl | rfl | rfl | rfl | rfl | rfl
        · refine ⟨a.1, fun S hS => ?_, fun S hS => (hS.1.ct ha).1⟩
          unfold f_X10_contract
          rw [nCt hS.1 hvl, ht, nd_t, if_pos (by decide), at_ok (by omega) (by omega), gbiN, (hS.1.ct ha).1]
        · refine ⟨a.2.1, fun S hS => ?_, fun S hS => (hS.1.ct ha).2.1⟩
          unfold f_X10_contract
          rw [nCt hS.1 hvl, ht, nd_t, if_neg (by decide), if_pos (by decide), at_ok (by omega) (by omega), gbiN, (hS.1.ct ha).2.1]
        · refine ⟨a.2.2.1, fun S hS => ?_, fun S hS => (hS.1.ct ha).2.2.1⟩
          unfold f_X10_contract
          rw [nCt hS.1 hvl, ht, nd_t, if_neg (by decide), if_neg (by decide), if_pos (by decide), at_ok (by omega) (by omega), gbiN, (hS.1.ct ha).2.2.1]
        · refine ⟨a.2.2.2.1, fun S hS => ?_, fun S hS => (hS.1.ct ha).2.2.2.1⟩
          unfold f_X10_contract
          rw [nCt hS.1 hvl, ht, nd_t, if_neg (by decide), if_neg (by decide), if_neg (by decide), if_pos (by decide), at_ok (by omega) (by omega), gbiN, (hS.1.ct ha).2.2.2.1]
        · refine ⟨a.2.2.2.2.1, fun S hS => ?_, fun S hS => (hS.1.ct ha).2.2.2.2.1⟩
          unfold f_X10_contract
          rw [nCt hS.1 hvl, ht, nd_t, if_neg (by decide), if_neg (by decide), if_neg (by decide), if_neg (by decide), if_pos (by decide), at_ok (by omega) (by omega), gbiN, (hS.1.ct ha).2.2.2.2.1]
        · refine ⟨a.2.2.2.2.2, fun S hS => ?_, fun S hS => (hS.1.ct ha).2.2.2.2.2⟩
          unfold f_X10_contract
          rw [nCt hS.1 hvl, ht, nd_t, if_neg (by decide), if_neg (by decide), if_neg (by decide), if_neg (by decide), if_neg (by decide), if_pos (by decide), at_ok (by omega) (by omega), gbiN, (hS.1.ct ha).2.2.2.2.2]
      obtain ⟨v, k1, k2⟩ := key
      refine qA hC hM hv k1 (fun S hS => ?_)
      unfold f_X11_contract B_X11_contract_33
      rw [M_isContract hS.1 hvl, gbiN, ht, if_neg (by decide), in_b (n := 6) (by omega) (by decide), gbiN, hx, if_neg (by decide), ref_0, gbiN, if_pos rfl, contractAt_ok, gbiN, nI_add, gck_nI (by omega) (by omega), nI_c (by omega), u2_nr (by omega), k2 S hS]
theorem ok_train {n : Nat} {S : Sg} (i y x : Int32) (h : Inv n S) : OkA (f_L_train i y x) (f_X11_train i y x) (Inv (n + 1)) S := by
  obtain ⟨s, hC, hM, hv⟩ := h
  obtain ⟨c, hV⟩ := hv.1
  have hvl := V.vl hV
  show OkA (fun S => gwr 1 2 0 (f_X10_train i y x S)) _ _ _
  cases hi : below 4 i with
  | false =>
    refine tA 1 1 hC hM hv (by decide) (fun _ => rfl) (fun S hS => ?_) (fun S hS => ?_)
    · unfold f_X10_train
      rw [nCo, hi, nd_f]
    · unfold f_X11_train B_X11_train_39
      rw [M_isCo', gbiN, hi, if_pos (by decide), ref_1, gbiN]
      rfl
  | true =>
    obtain ⟨i, hi4, rfl⟩ := below_of (by omega) hi
    have hl := hvl.2.1 i hi4
    cases ht : below (s.1.2.2.2.1 i).length y with
    | false =>
      refine tA 1 1 hC hM hv (by decide) (fun _ => rfl) (fun S hS => ?_) (fun S hS => ?_)
      · unfold f_X10_train
        rw [nCo, hi, nd_t, nTn hS.1 hvl hi4, ht, nd_f]
      · unfold f_X11_train B_X11_train_39
        rw [M_isCo', gbiN, hi, if_neg (by decide), M_isTrain hS.1 hvl hi4, gbiN, ht, if_pos (by decide), ref_1, gbiN]
        rfl
    | true =>
      obtain ⟨j, hj, rfl⟩ := below_of (by omega) ht
      obtain ⟨a, ha⟩ := some_of_lt hj
      cases hx : below 2 x with
      | false =>
        refine tA 2 2 hC hM hv (by decide) (fun _ => rfl) (fun S hS => ?_) (fun S hS => ?_)
        · unfold f_X10_train
          rw [nCo, hi, nd_t, nTn hS.1 hvl hi4, ht, nd_t, if_neg (ne_of_below hx 0 (by decide)), if_neg (ne_of_below hx 1 (by decide))]
        · unfold f_X11_train B_X11_train_39
          rw [M_isCo', gbiN, hi, if_neg (by decide), M_isTrain hS.1 hvl hi4, gbiN, ht, if_neg (by decide), in_b (n := 2) (by omega) (by decide), gbiN, hx, if_pos (by decide), ref_2, gbiN]
          rfl
      | true =>
        obtain ⟨w, hw, rfl⟩ := below_of (by omega) hx
        have key : ∃ v, (∀ S, IC s S → f_X10_train (nI i) (nI j) (nI w) S = some (0, v, S)) ∧ ∀ S, IM s S → S 395 (95 + 8 * i + 2 * j + w) = v := by
          have hc : w = 0 ∨ w = 1 := by omega
          rcases hc with rfl | rfl
          · refine ⟨a.1, fun S hS => ?_, fun S hS => (hS.1.tn hi4 ha).1⟩
            unfold f_X10_train
            rw [nCo, hi, nd_t, nTn hS.1 hvl hi4, ht, nd_t, if_pos (by decide), C_levelOf hS.1 hvl hi4 ha, gbiN]
          · refine ⟨a.2, fun S hS => ?_, fun S hS => (hS.1.tn hi4 ha).2⟩
            unfold f_X10_train
            rw [nCo, hi, nd_t, nTn hS.1 hvl hi4, ht, nd_t, if_neg (by decide), if_pos (by decide), C_hasRun hS.1 hvl hi4 ha, gbiN]
            obtain ⟨q, -, q1, q2⟩ := ((hV.2.2.2.2.1 i hi4).2 a (mem_get ha)).2
            rw [q2]
            have hq : q = 0 ∨ q = 1 := by omega
            rcases hq with rfl | rfl <;> rfl
        obtain ⟨v, k1, k2⟩ := key
        refine qA hC hM hv k1 (fun S hS => ?_)
        unfold f_X11_train B_X11_train_39
        rw [M_isCo', gbiN, hi, if_neg (by decide), M_isTrain hS.1 hvl hi4, gbiN, ht, if_neg (by decide), in_b (n := 2) (by omega) (by decide), gbiN, hx, if_neg (by decide), ref_0, gbiN, if_pos rfl, trainAt_ok, gbiN, nI_add, gck_nI (by omega) (by omega), nI_c (by omega), u2_nr (by omega), k2 S hS]
theorem ok_company {n : Nat} {S : Sg} (i x : Int32) (h : Inv n S) : OkA (f_L_company i x) (f_X11_company i x) (Inv (n + 1)) S := by
  obtain ⟨s, hC, hM, hv⟩ := h
  obtain ⟨c, hV⟩ := hv.1
  have hvl := V.vl hV
  show OkA (fun S => gwr 1 2 0 (f_X10_company i x S)) _ _ _
  cases hi : below 4 i with
  | false =>
    refine tA 1 1 hC hM hv (by decide) (fun _ => rfl) (fun S hS => ?_) (fun S hS => ?_)
    · unfold f_X10_company
      rw [nCo, hi, nd_f]
    · unfold f_X11_company B_X11_company_29
      rw [M_isCo', gbiN, hi, if_pos (by decide), ref_1, gbiN]
      rfl
  | true =>
    obtain ⟨i, hi4, rfl⟩ := below_of (by omega) hi
    cases hx : below 7 x with
    | false =>
      refine tA 2 2 hC hM hv (by decide) (fun _ => rfl) (fun S hS => ?_) (fun S hS => ?_)
      · unfold f_X10_company
        rw [nCo, hi, nd_t, if_neg (ne_of_below hx 0 (by decide)), if_neg (ne_of_below hx 1 (by decide)), if_neg (ne_of_below hx 2 (by decide)), if_neg (ne_of_below hx 3 (by decide)), if_neg (ne_of_below hx 4 (by decide)), if_neg (ne_of_below hx 5 (by decide)), if_neg (ne_of_below hx 6 (by decide))]
      · unfold f_X11_company B_X11_company_29
        rw [M_isCo', gbiN, hi, if_neg (by decide), in_b (n := 7) (by omega) (by decide), gbiN, hx, if_pos (by decide), ref_2, gbiN]
        rfl
    | true =>
      have hr : ∀ S : Sg, MP s.1 (S 395) → MP s.1 ((u2 S 392 0 0) 395) := fun S h => by rw [u2_n (by omega)]; exact h
      obtain ⟨w, hw, rfl⟩ := below_of (by omega) hx
      have hc : w = 0 ∨ w = 1 ∨ w = 2 ∨ w = 3 ∨ w = 4 ∨ w = 5 ∨ w = 6 := by omega
      rcases hc with rfl | rfl | rfl | rfl | rfl | rfl | rfl
      · refine qA (v := s.1.2.2.1 i 0) hC hM hv (fun S hS => ?_) (fun S hS => ?_)
        · unfold f_X10_company
          rw [nCo, hi, nd_t, if_pos (by decide), at_ok (by omega) (by omega), gbiN, (hS.1.2.2.1 i hi4).1]
        · unfold f_X11_company B_X11_company_29
          rw [M_isCo', gbiN, hi, if_neg (by decide), in_b (n := 7) (by omega) (by decide), gbiN, hx, if_neg (by decide), ref_0, gbiN, if_pos rfl, companyAt_ok, gbiN, if_neg (by decide), nI_add, gck_nI (by omega) (by omega), nI_c (by omega), u2_nr (by omega), Nat.add_zero, (hS.1.2.2.1 i hi4).1]
      · refine qA (v := s.1.2.2.1 i 1) hC hM hv (fun S hS => ?_) (fun S hS => ?_)
        · unfold f_X10_company
          rw [nCo, hi, nd_t, if_neg (by decide), if_pos (by decide), at_ok (by omega) (by omega), gbiN, (hS.1.2.2.1 i hi4).2.1]
        · unfold f_X11_company B_X11_company_29
          rw [M_isCo', gbiN, hi, if_neg (by decide), in_b (n := 7) (by omega) (by decide), gbiN, hx, if_neg (by decide), ref_0, gbiN, if_pos rfl, companyAt_ok, gbiN, if_neg (by decide), nI_add, gck_nI (by omega) (by omega), nI_c (by omega), u2_nr (by omega), (hS.1.2.2.1 i hi4).2.1]
      · refine qA (v := nI (s.1.2.2.2.1 i).length) hC hM hv (fun S hS => ?_) (fun S hS => ?_)
        · unfold f_X10_company
          rw [nCo, hi, nd_t, if_neg (by decide), if_neg (by decide), if_pos (by decide), at_ok (by omega) (by omega), gbiN, (hS.1.2.2.2.1 i hi4).1]
        · unfold f_X11_company B_X11_company_29
          rw [M_isCo', gbiN, hi, if_neg (by decide), in_b (n := 7) (by omega) (by decide), gbiN, hx, if_neg (by decide), ref_0, gbiN, if_pos rfl, companyAt_ok, gbiN, if_neg (by decide), nI_add, gck_nI (by omega) (by omega), nI_c (by omega), u2_nr (by omega), (hS.1.2.2.2.1 i hi4).1]
      · refine qA (v := cntT s.1 i) hC hM hv (fun S hS => ?_) (fun S hS => ?_)
        · unfold f_X10_company
          rw [nCo, hi, nd_t, if_neg (by decide), if_neg (by decide), if_neg (by decide), if_pos (by decide), C_countOf hS.1 hvl hi4, gbiN]
        · unfold f_X11_company B_X11_company_29
          rw [M_isCo', gbiN, hi, if_neg (by decide), in_b (n := 7) (by omega) (by decide), gbiN, hx, if_neg (by decide), ref_0, gbiN, if_pos rfl, companyAt_ok, gbiN, if_pos (by decide), if_pos (by decide), M_tracksOf0 (hr S hS.1) hvl, gbiN]
      · refine qA (v := cntC s.1 i) hC hM hv (fun S hS => ?_) (fun S hS => ?_)
        · unfold f_X10_company
          rw [nCo, hi, nd_t, if_neg (by decide), if_neg (by decide), if_neg (by decide), if_neg (by decide), if_pos (by decide), C_ccountOf hS.1 hvl, gbiN]
        · unfold f_X11_company B_X11_company_29
          rw [M_isCo', gbiN, hi, if_neg (by decide), in_b (n := 7) (by omega) (by decide), gbiN, hx, if_neg (by decide), ref_0, gbiN, if_pos rfl, companyAt_ok, gbiN, if_pos (by decide), if_neg (by decide), if_pos (by decide), M_contractsOf (hr S hS.1) hvl, gbiN]
      · refine qA (v := s.1.2.2.1 i 3) hC hM hv (fun S hS => ?_) (fun S hS => ?_)
        · unfold f_X10_company
          rw [nCo, hi, nd_t, if_neg (by decide), if_neg (by decide), if_neg (by decide), if_neg (by decide), if_neg (by decide), if_pos (by decide), at_ok (by omega) (by omega), gbiN, (hS.1.2.2.1 i hi4).2.2.1]
        · unfold f_X11_company B_X11_company_29
          rw [M_isCo', gbiN, hi, if_neg (by decide), in_b (n := 7) (by omega) (by decide), gbiN, hx, if_neg (by decide), ref_0, gbiN, if_pos rfl, companyAt_ok, gbiN, if_pos (by decide), if_neg (by decide), if_neg (by decide), nI_add, show (2 : Int32) = nI 2 from rfl, pk_sub (by omega), gck_nI (by omega) (by omega), nI_c (by omega), u2_nr (by omega), show 75 + 5 * i + 5 - 2 = 75 + 5 * i + 3 from by omega, (hS.1.2.2.1 i hi4).2.2.1]
      · refine qA (v := s.1.2.2.1 i 4) hC hM hv (fun S hS => ?_) (fun S hS => ?_)
        · unfold f_X10_company
          rw [nCo, hi, nd_t, if_neg (by decide), if_neg (by decide), if_neg (by decide), if_neg (by decide), if_neg (by decide), if_neg (by decide), if_pos (by decide), at_ok (by omega) (by omega), gbiN, (hS.1.2.2.1 i hi4).2.2.2]
        · unfold f_X11_company B_X11_company_29
          rw [M_isCo', gbiN, hi, if_neg (by decide), in_b (n := 7) (by omega) (by decide), gbiN, hx, if_neg (by decide), ref_0, gbiN, if_pos rfl, companyAt_ok, gbiN, if_pos (by decide), if_neg (by decide), if_neg (by decide), nI_add, show (2 : Int32) = nI 2 from rfl, pk_sub (by omega), gck_nI (by omega) (by omega), nI_c (by omega), u2_nr (by omega), show 75 + 5 * i + 6 - 2 = 75 + 5 * i + 4 from by omega, (hS.1.2.2.1 i hi4).2.2.2]
