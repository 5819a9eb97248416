/-! ===== buying a train ===== -/
theorem i64_le (x y : Int32) : x.toInt64 ≤ y.toInt64 ↔ x ≤ y := by
  rw [Int64.le_iff_toInt_le, Int32.le_iff_toInt_le]
  simp
theorem isb_bI (b : Bool) : isb (bI b) = true := by cases b <;> decide
theorem bI_0 {b : Bool} : bI b = 0 ↔ b = false := by cases b <;> decide
theorem bI_1 {b : Bool} : bI b = 1 ↔ b = true := by cases b <;> decide
theorem ix_of (x : Int32) : x < 0 ∨ ∃ j : Nat, j < 2147483648 ∧ x = nI j := by
  by_cases h : x < 0
  · exact Or.inl h
  · exact Or.inr (nI_of h)
theorem bI_and (a b : Bool) : (if bI a = 0 then (0 : Int32) else bI b) = bI (a && b) := by cases a <;> cases b <;> decide
/-- is x a place below n -/
def below (n : Nat) (x : Int32) : Bool := decide (0 ≤ x) && decide (x < nI n)
theorem below_nI {n j : Nat} (hn : n < 2147483648) (hj : j < 2147483648) : below n (nI j) = decide (j < n) := by
  unfold below
  have h0 : (0 : Int32) ≤ nI j := nI_pos' hj
  simp only [h0, decide_true, Bool.true_and]
  exact decide_eq_decide.mpr (nIlt hj hn)
theorem below_neg {n : Nat} {x : Int32} (h : x < 0) : below n x = false := by
  unfold below
  have : ¬ (0 : Int32) ≤ x := Int32.not_le.mpr h
  simp [this]
theorem below_of {n : Nat} {x : Int32} (hn : n < 2147483648) (h : below n x = true) : ∃ j : Nat, j < n ∧ x = nI j := by
  rcases ix_of x with h0 | ⟨j, hj, rfl⟩
  · rw [below_neg h0] at h; cases h
  · rw [below_nI hn hj] at h
    exact ⟨j, of_decide_eq_true h, rfl⟩
theorem below_in {n : Nat} (hn : n < 2147483647) (x : Int32) : (decide ((0 : Int32) ≤ x) && decide (x ≤ nI n - 1)) = below n x := by
  rcases ix_of x with h0 | ⟨j, hj, rfl⟩
  · rw [below_neg h0]
    have : ¬ (0 : Int32) ≤ x := Int32.not_le.mpr h0
    simp [this]
  · rw [below_nI (by omega) hj]
    have h0 : (0 : Int32) ≤ nI j := nI_pos' hj
    simp only [h0, decide_true, Bool.true_and]
    refine decide_eq_decide.mpr ?_
    cases n with
    | zero =>
      rw [show nI 0 - 1 = (-1 : Int32) from by decide]
      constructor
      · intro h
        have h2 := Int32.le_iff_toInt_le.mp h
        rw [nI_toInt hj] at h2
        have : (-1 : Int32).toInt = -1 := by decide
        omega
      · intro h; omega
    | succ n =>
      rw [nI_pred, nIle hj (by omega)]
      omega
theorem C_isCo (x : Int32) (S : Sg) : f_X10_isCompany x S = some (bI (below 4 x), S) := by
  rcases ix_of x with h0 | ⟨j, hj, rfl⟩
  · rw [below_neg h0]
    unfold f_X10_isCompany
    rw [if_pos h0]
    rfl
  · rw [below_nI (by omega) hj]
    by_cases h : j < 4
    · rw [isCo_ok h]; simp [h, bI]
    · rw [isCo_no (by omega) hj]; simp [h, bI]
theorem C_hasT' {b : Nat} {g : Game} {S : Sg} (h : CP b g S) (hv : VL g) (x : Int32) : f_X8_has b x S = some (bI (below g.2.1.length x), S) := by
  have := hv.1
  rcases ix_of x with h0 | ⟨j, hj, rfl⟩
  · rw [below_neg h0, C_hasT_neg h0]; rfl
  · rw [below_nI (by omega) hj]
    by_cases h1 : j < g.2.1.length
    · rw [C_hasT h hv h1]; simp [h1, bI]
    · rw [C_hasT_no h hv (by omega) hj]; simp [h1, bI]
theorem C_hasC' {b : Nat} {g : Game} {S : Sg} (h : CP b g S) (hv : VL g) (x : Int32) : f_X1_has b x S = some (bI (below g.2.2.2.2.length x), S) := by
  have := hv.2.2.1
  rcases ix_of x with h0 | ⟨j, hj, rfl⟩
  · rw [below_neg h0, C_hasC_neg h0]; rfl
  · rw [below_nI (by omega) hj]
    by_cases h1 : j < g.2.2.2.2.length
    · rw [C_hasC h hv h1]; simp [h1, bI]
    · rw [C_hasC_no h hv (by omega) hj]; simp [h1, bI]
theorem C_hasN {b i : Nat} {g : Game} {S : Sg} (h : CP b g S) (hv : VL g) (hi : i < 4) (x : Int32) : f_X0_hasTrain b (nI i) x S = some (bI (below (g.2.2.2.1 i).length x), S) := by
  have := hv.2.1 i hi
  unfold f_X0_hasTrain
  rcases ix_of x with h0 | ⟨j, hj, rfl⟩
  · rw [below_neg h0, if_pos h0]; rfl
  · rw [below_nI (by omega) hj, if_neg (nI_ng hj)]
    simp (disch := omega) only [gbi_ok, gbl_ok, gbn_ok, gbv_ok, gst_ok, gvi_ok, gvl_ok, at_ok, put_ok, at_4, put_4, at_0, place_ok, (h.2.2.2.1 i hi).1]
    by_cases h1 : j < (g.2.2.2.1 i).length
    · rw [if_neg (by rw [nIle (by omega) hj]; omega)]; simp [h1, bI]
    · rw [if_pos (by rw [nIle (by omega) hj]; omega)]; simp [h1, bI]
/-! the purchase -/
def mayN (g : Game) (i : Nat) (lv : Int32) : Bool := decide (g.1 3 - 1 ≤ lv) && decide (lv ≤ g.1 3 + 1) && decide ((g.2.2.2.1 i).length < 4) && !decide (g.2.2.1 i 0 < 20 * lv)
theorem dec_n (p : Prop) [Decidable p] : (!decide p) = decide (¬ p) := by simp
theorem C_mayN {b i : Nat} {lv : Int32} {g : Game} {S : Sg} (h : CP b g S) (hv : VL g) (hi : i < 4) (h1 : ¬ lv < 1) (h6 : ¬ 6 < lv) : f_X7_maySellTrain b (nI i) lv S = some (bI (mayN g i lv), S) := by
  have := hv.2.1 i hi
  unfold f_X7_maySellTrain
  simp (disch := omega) only [gbi_ok, gbl_ok, gbn_ok, gbv_ok, gst_ok, gvi_ok, gvl_ok, at_ok, put_ok, at_4, put_4, at_0, place_ok, isCo_ok hi, (h.2.2.1 i hi).1, (h.2.2.2.1 i hi).1, h.1.2.1]
  rw [if_neg (by decide), if_neg h1, if_neg h6]
  unfold mayN bI
  have e3 : ((4 : Int32) ≤ nI (g.2.2.2.1 i).length) ↔ ¬ (g.2.2.2.1 i).length < 4 := by
    rw [show (4 : Int32) = nI 4 from rfl, nIle (by omega) (by omega)]; omega
  by_cases a1 : lv < g.1 3 - 1
  · rw [if_pos a1]; simp [Int32.not_le.mpr a1]
  · rw [if_neg a1]
    by_cases a2 : g.1 3 + 1 < lv
    · rw [if_pos a2]; simp [Int32.not_le.mpr a2]
    · rw [if_neg a2]
      by_cases a3 : (g.2.2.2.1 i).length < 4
      · rw [if_neg (fun h => e3.mp h a3)]
        by_cases a4 : g.2.2.1 i 0 < 20 * lv
        · rw [if_pos a4]; simp [a4]
        · rw [if_neg a4]; simp [a4, a3, Int32.not_lt.mp a1, Int32.not_lt.mp a2]
      · rw [if_pos (e3.mpr a3)]; simp [a3]
theorem C_mayN_no {b : Nat} {x lv : Int32} {S : Sg} (h : below 4 x = false ∨ lv < 1 ∨ 6 < lv) : f_X7_maySellTrain b x lv S = some (0, S) := by
  unfold f_X7_maySellTrain
  rw [C_isCo, gbi_ok]
  by_cases h0 : below 4 x = true
  · rw [if_neg (by rw [h0]; decide)]
    by_cases h1 : lv < 1
    · rw [if_pos h1]
    · have h6 : 6 < lv := by
        rcases h with h | h | h
        · rw [h0] at h; cases h
        · exact absurd h h1
        · exact h
      rw [if_neg h1, if_pos h6]
  · rw [if_pos (by rw [Bool.not_eq_true] at h0; rw [h0]; decide)]
theorem C_setSc3 {b : Nat} {g : Game} {S : Sg} {v : Int32} (h : CP b g S) : CP b (gSc g 3 v) (u2 S b 4 v) := by
  obtain ⟨hSc, hTr, hCo, hTn, hCt⟩ := h
  refine ⟨?_, ?_, ?_, ?_, ?_⟩
  · unfold CSc at hSc ⊢
    simp (disch := omega) only [u2_eq, u2_ni, u2_nr]
    simp [gSc, hSc]
  · apply CTr_fr hTr <;> simp (disch := omega) only [u2_n]
  · apply CCo_fr hCo <;> (try intro _ _) <;> simp (disch := omega) only [u2_n]
  · apply CTn_fr hTn <;> simp (disch := omega) only [u2_n]
  · apply CCt_fr hCt <;> simp (disch := omega) only [u2_n]
theorem C_setSc10 {b : Nat} {g : Game} {S : Sg} {v : Int32} (h : CP b g S) : CP b (gSc g 10 v) (u2 S b 8 v) := by
  obtain ⟨hSc, hTr, hCo, hTn, hCt⟩ := h
  refine ⟨?_, ?_, ?_, ?_, ?_⟩
  · unfold CSc at hSc ⊢
    simp (disch := omega) only [u2_eq, u2_ni, u2_nr]
    simp [gSc, hSc]
  · apply CTr_fr hTr <;> simp (disch := omega) only [u2_n]
  · apply CCo_fr hCo <;> (try intro _ _) <;> simp (disch := omega) only [u2_n]
  · apply CTn_fr hTn <;> simp (disch := omega) only [u2_n]
  · apply CCt_fr hCt <;> simp (disch := omega) only [u2_n]
def gAddN (g : Game) (i : Nat) (lv : Int32) : Game := gTn g i (g.2.2.2.1 i ++ [(lv, 0)])
theorem C_addN {b i : Nat} {g : Game} {S : Sg} {lv : Int32} (h : CP b g S) (hv : VL g) (hi : i < 4) (hl : (g.2.2.2.1 i).length < 4) : ∃ S', f_X0_addTrain b (nI i) lv S = some S' ∧ CP b (gAddN g i lv) S' ∧ Fr b S S' := by
  have hc := (h.2.2.2.1 i hi).1
  refine ⟨u2 (u2 (u2 S (b + 19) (4 * i + (g.2.2.2.1 i).length) lv) (b + 20) (4 * i + (g.2.2.2.1 i).length) 0) (b + 18) i (nI ((g.2.2.2.1 i).length + 1)), ?_, ?_, (((Fr.rf).ux (by omega)).ux (by omega)).ux (by omega)⟩
  · unfold f_X0_addTrain
    simp (disch := omega) only [gbi_ok, gbl_ok, gbn_ok, gbv_ok, gst_ok, gvi_ok, gvl_ok, at_ok, put_ok, at_4, put_4, at_0, place_ok, hc]
    rw [if_neg (by rw [show (4 : Int32) = nI 4 from rfl, nIle (by omega) (by omega)]; omega)]
    simp only [nI_s]
  · obtain ⟨hSc, hTr, hCo, hTn, hCt⟩ := h
    refine ⟨?_, ?_, ?_, ?_, ?_⟩
    · unfold CSc at hSc ⊢
      simp (disch := omega) only [u2_eq, u2_ni, u2_nr]
      exact hSc
    · apply CTr_fr hTr <;> simp (disch := omega) only [u2_n]
    · apply CCo_fr hCo <;> (try intro _ _) <;> simp (disch := omega) only [u2_n]
    · intro a ha
      have h1 := hTn a ha
      by_cases e : a = i
      · subst e
        simp only [gAddN, gTn, if_true, List.length_append, List.length_singleton]
        refine ⟨by simp only [u2_eq], Rp_push h1.2 ?_ (fun x hx => ?_)⟩
        · simp (disch := omega) only [ctn, u2_eq, u2_ni, u2_nr]
        · simp (disch := omega) only [ctn, u2_eq, u2_ni, u2_nr]
      · simp only [gAddN, gTn, if_neg e]
        refine ⟨by simp (disch := omega) only [u2_eq, u2_ni, u2_nr]; exact h1.1, Rp_congr (fun x _ hx => ?_) h1.2⟩
        have h3 := hv.2.1 a ha
        have h2 : 4 * a + x ≠ 4 * i + (g.2.2.2.1 i).length := by omega
        simp (disch := omega) only [ctn, u2_eq, u2_ni, u2_nr]
    · apply CCt_fr hCt <;> simp (disch := omega) only [u2_n]
theorem VL_addN {g : Game} {i : Nat} {lv : Int32} (h : VL g) (hl : (g.2.2.2.1 i).length < 4) : VL (gAddN g i lv) := by
  obtain ⟨h1, h2, h3, h4, h5⟩ := h
  refine ⟨h1, fun a ha => ?_, h3, h4, h5⟩
  by_cases e : a = i
  · subst e
    simp only [gAddN, gTn, if_true, List.length_append, List.length_singleton]
    omega
  · simp only [gAddN, gTn, if_neg e]
    exact h2 a ha
theorem VL_rust {g : Game} {least : Int32} (h : VL g) : VL (gRust g least) := by
  obtain ⟨h1, h2, h3, h4, h5⟩ := h
  exact ⟨h1, fun a ha => Nat.le_trans (List.length_filter_le _ _) (h2 a ha), h3, h4, h5⟩
/-- the whole purchase: the game and how many rust -/
def gSellN (g : Game) (i : Nat) (lv : Int32) : Game :=
  if g.1 3 < lv then gSc (gRust (gSc (gAddN (gBank g i (20 * lv)) i lv) 3 lv) (lv - 1)) 10 (g.1 10 + drs (gAddN g i lv).2.2.2.1 (lv - 1) 0 4 0)
  else gAddN (gBank g i (20 * lv)) i lv
def rSellN (g : Game) (i : Nat) (lv : Int32) : Int32 := if g.1 3 < lv then drs (gAddN g i lv).2.2.2.1 (lv - 1) 0 4 0 else 0
theorem VL_sellN {g : Game} {i : Nat} {lv : Int32} (h : VL g) (hl : (g.2.2.2.1 i).length < 4) : VL (gSellN g i lv) := by
  unfold gSellN
  split
  · exact VL_rust (g := gSc (gAddN (gBank g i (20 * lv)) i lv) 3 lv) (VL_addN (VL_bank h) hl)
  · exact VL_addN (VL_bank h) hl
theorem C_sellN {b i : Nat} {g : Game} {S : Sg} {lv : Int32} (h : CP b g S) (hv : VL g) (hi : i < 4) (hl : (g.2.2.2.1 i).length < 4) : ∃ S', f_X7_sellTrain b (nI i) lv S = some (rSellN g i lv, S') ∧ CP b (gSellN g i lv) S' ∧ Fr b S S' := by
  obtain ⟨S1, e1, h1, f1⟩ := C_toBank (x := 20 * lv) h hi
  obtain ⟨S2, e2, h2, f2⟩ := C_addN (lv := lv) h1 (VL_bank hv) hi hl
  have hv2 : VL (gAddN (gBank g i (20 * lv)) i lv) := VL_addN (VL_bank hv) hl
  have hph : S2 b 4 = g.1 3 := h2.1.2.1
  unfold f_X7_sellTrain
  simp only [e1, e2, gbv_ok, hph]
  unfold gSellN rSellN
  by_cases e : g.1 3 < lv
  · simp only [if_pos e]
    have h3 := C_setSc3 (v := lv) h2
    obtain ⟨S4, e4, h4, f4⟩ := C_drop (least := lv - 1) h3 hv2
    have h5 := C_setSc10 (v := g.1 10 + drs (gAddN g i lv).2.2.2.1 (lv - 1) 0 4 0) h4
    have h10 : S4 b 8 = g.1 10 := h4.1.2.2.2.2.2.2.2.2.1
    refine ⟨_, ?_, h5, (((f1.tr f2).u20).tr f4).u20⟩
    simp only [gst_ok, u2_eq, e4, gbi_ok, h10]
    rfl
  · simp only [if_neg e]
    exact ⟨S2, rfl, h2, f1.tr f2⟩

