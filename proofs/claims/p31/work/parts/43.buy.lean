/-! ===== buying tracks, taking contracts, offers ===== -/
theorem lt_len {α : Type} {l : List α} {k : Nat} {a : α} (h : l[k]? = some a) : k < l.length := (List.getElem?_eq_some_iff.mp h).1
theorem mem_get {α : Type} {l : List α} {k : Nat} {a : α} (h : l[k]? = some a) : a ∈ l := List.mem_of_getElem? h
theorem map_get {α β : Type} {l : List α} {k : Nat} {a : α} {f : α → β} (h : l[k]? = some a) : (l.map f)[k]? = some (f a) := by rw [List.getElem?_map, h]; rfl
theorem CP.tr {b t : Nat} {g : Game} {S : Sg} {a : T4} (h : CP b g S) (ht : g.2.1[t]? = some a) : S (b + 4) t = a.1 ∧ S (b + 5) t = a.2.1 ∧ S (b + 6) t = a.2.2.1 ∧ S (b + 7) t = (eo a).2.2.2 := by
  have := Rp_get0 h.2.1.2 (map_get (f := eo) ht)
  exact ⟨congrArg (fun z : T4 => z.1) this, congrArg (fun z : T4 => z.2.1) this, congrArg (fun z : T4 => z.2.2.1) this, congrArg (fun z : T4 => z.2.2.2) this⟩
theorem CP.ct {b k : Nat} {g : Game} {S : Sg} {a : T6} (h : CP b g S) (ht : g.2.2.2.2[k]? = some a) : S (b + 8) k = a.1 ∧ S (b + 9) k = a.2.1 ∧ S (b + 10) k = a.2.2.1 ∧ S (b + 11) k = a.2.2.2.1 ∧ S (b + 12) k = a.2.2.2.2.1 ∧ S (b + 13) k = a.2.2.2.2.2 := by
  have := Rp_get0 h.2.2.2.2.2 ht
  exact ⟨congrArg (fun z : T6 => z.1) this, congrArg (fun z : T6 => z.2.1) this, congrArg (fun z : T6 => z.2.2.1) this, congrArg (fun z : T6 => z.2.2.2.1) this, congrArg (fun z : T6 => z.2.2.2.2.1) this, congrArg (fun z : T6 => z.2.2.2.2.2) this⟩
theorem CP.tn {b i j : Nat} {g : Game} {S : Sg} {a : T2} (h : CP b g S) (hi : i < 4) (ht : (g.2.2.2.1 i)[j]? = some a) : S (b + 19) (4 * i + j) = a.1 ∧ S (b + 20) (4 * i + j) = a.2 := by
  have := Rp_get0 (h.2.2.2.1 i hi).2 ht
  exact ⟨congrArg (fun z : T2 => z.1) this, congrArg (fun z : T2 => z.2) this⟩
theorem isCo_ok {i : Nat} {S : Sg} (h : i < 4) : f_X10_isCompany (nI i) S = some (1, S) := by
  unfold f_X10_isCompany
  rw [if_neg (nI_ng (by omega)), if_neg (by rw [show (4 : Int32) = nI 4 from rfl, nIle (by omega) (by omega)]; omega)]
theorem isCo_no {i : Nat} {S : Sg} (h : 4 ≤ i) (hi : i < 2147483648) : f_X10_isCompany (nI i) S = some (0, S) := by
  unfold f_X10_isCompany
  rw [if_neg (nI_ng (by omega)), if_pos (by rw [show (4 : Int32) = nI 4 from rfl, nIle (by omega) (by omega)]; omega)]
theorem C_hasT {b t : Nat} {g : Game} {S : Sg} (h : CP b g S) (hv : VL g) (ht : t < g.2.1.length) : f_X8_has b (nI t) S = some (1, S) := by
  have := hv.1
  unfold f_X8_has
  rw [if_neg (nI_ng (by omega)), h.2.1.1, if_neg (by rw [nIle (by omega) (by omega)]; omega)]
theorem C_hasT_no {b t : Nat} {g : Game} {S : Sg} (h : CP b g S) (hv : VL g) (ht : g.2.1.length ≤ t) (h2 : t < 2147483648) : f_X8_has b (nI t) S = some (0, S) := by
  have := hv.1
  unfold f_X8_has
  rw [if_neg (nI_ng (by omega)), h.2.1.1, if_pos (by rw [nIle (by omega) (by omega)]; omega)]
theorem C_hasT_neg {b : Nat} {x : Int32} {S : Sg} (hx : x < 0) : f_X8_has b x S = some (0, S) := by
  unfold f_X8_has
  rw [if_pos hx]
theorem C_hasC {b t : Nat} {g : Game} {S : Sg} (h : CP b g S) (hv : VL g) (ht : t < g.2.2.2.2.length) : f_X1_has b (nI t) S = some (1, S) := by
  have := hv.2.2.1
  unfold f_X1_has
  rw [if_neg (nI_ng (by omega)), h.2.2.2.2.1, if_neg (by rw [nIle (by omega) (by omega)]; omega)]
theorem C_hasC_no {b t : Nat} {g : Game} {S : Sg} (h : CP b g S) (hv : VL g) (ht : g.2.2.2.2.length ≤ t) (h2 : t < 2147483648) : f_X1_has b (nI t) S = some (0, S) := by
  have := hv.2.2.1
  unfold f_X1_has
  rw [if_neg (nI_ng (by omega)), h.2.2.2.2.1, if_pos (by rw [nIle (by omega) (by omega)]; omega)]
theorem C_hasC_neg {b : Nat} {x : Int32} {S : Sg} (hx : x < 0) : f_X1_has b x S = some (0, S) := by
  unfold f_X1_has
  rw [if_pos hx]
theorem C_bank {b t : Nat} {g : Game} {S : Sg} {a : T4} (h : CP b g S) (hv : VL g) (ht : g.2.1[t]? = some a) : f_X8_isOfBank b (nI t) S = some (if a.2.2.2 = -9 then 1 else 0, S) := by
  have h1 := hv.1
  have h2 := lt_len ht
  unfold f_X8_isOfBank
  simp (disch := omega) only [gbi_ok, gbl_ok, gbn_ok, gbv_ok, gst_ok, gvi_ok, gvl_ok, at_ok, put_ok, at_4, put_4, at_0, place_ok, (h.tr ht).2.2.2]
  rcases hv.2.2.2.1 a (mem_get ht) with e | ⟨j, hj, e⟩
  · simp [eo, e]
  · have h9 := nI_m9 (j := j) (by omega)
    have h4 : nI j ≠ 4 := by
      rw [show (4 : Int32) = nI 4 from rfl]
      intro e2
      rw [nI_inj (by omega) (by omega)] at e2
      omega
    simp [eo, e, h9, h4]
theorem C_price {b t : Nat} {g : Game} {S : Sg} {a : T4} (h : CP b g S) (hv : VL g) (ht : g.2.1[t]? = some a) : f_X8_priceOf b (nI t) S = some (3 * a.2.2.1, S) := by
  have h1 := hv.1
  have h2 := lt_len ht
  unfold f_X8_priceOf
  simp (disch := omega) only [gbi_ok, gbl_ok, gbn_ok, gbv_ok, gst_ok, gvi_ok, gvl_ok, at_ok, put_ok, at_4, put_4, at_0, place_ok, (h.tr ht).2.2.1]
def mayT (g : Game) (i : Nat) (a : T4) : Bool := decide (a.2.2.2 = -9) && !decide (g.2.2.1 i 0 < 3 * a.2.2.1)
def bI (b : Bool) : Int32 := if b = true then 1 else 0
theorem C_mayT {b i t : Nat} {g : Game} {S : Sg} {a : T4} (h : CP b g S) (hv : VL g) (hi : i < 4) (ht : g.2.1[t]? = some a) : f_X7_maySellTrack b (nI i) (nI t) S = some (bI (mayT g i a), S) := by
  unfold f_X7_maySellTrack
  simp (disch := omega) only [gbi_ok, gbl_ok, gbn_ok, gbv_ok, gst_ok, gvi_ok, gvl_ok, at_ok, put_ok, at_4, put_4, at_0, place_ok, isCo_ok hi, C_hasT h hv (lt_len ht), C_bank h hv ht, C_price h hv ht, (h.2.2.1 i hi).1]
  rw [if_neg (by decide), if_neg (by decide)]
  unfold mayT bI
  by_cases e : a.2.2.2 = -9
  · rw [if_pos e, if_neg (by decide)]
    by_cases e2 : g.2.2.1 i 0 < 3 * a.2.2.1 <;> simp [e, e2]
  · rw [if_neg e, if_pos rfl]
    simp [e]
theorem C_mayT_noi {b i : Nat} {x : Int32} {S : Sg} (hi : 4 ≤ i) (h2 : i < 2147483648) : f_X7_maySellTrack b (nI i) x S = some (0, S) := by
  unfold f_X7_maySellTrack
  simp only [isCo_no hi h2, gbi_ok]
  rfl
theorem C_mayT_not {b i : Nat} {x : Int32} {S : Sg} (hi : i < 4) (hx : f_X8_has b x S = some (0, S)) : f_X7_maySellTrack b (nI i) x S = some (0, S) := by
  unfold f_X7_maySellTrack
  simp only [isCo_ok hi, hx, gbi_ok]
  rfl
def setO (a : T4) (o : Int32) : T4 := (a.1, a.2.1, a.2.2.1, o)
theorem C_setO {b t : Nat} {g : Game} {S : Sg} {a : T4} {o : Int32} (h : CP b g S) (ht : g.2.1[t]? = some a) : CP b (gTr g (g.2.1.set t (setO a o))) (u2 S (b + 7) t (if o = -9 then 4 else o)) := by
  have h3 := h.tr ht
  obtain ⟨hSc, hTr, hCo, hTn, hCt⟩ := h
  refine ⟨?_, ⟨?_, ?_⟩, ?_, ?_, ?_⟩
  · unfold CSc at hSc ⊢
    simp (disch := omega) only [u2_eq, u2_ni, u2_nr]
    exact hSc
  · simp (disch := omega) only [u2_eq, u2_ni, u2_nr, gTr, List.length_set]
    exact hTr.1
  · simp only [gTr, List.map_set]
    refine Rp_set hTr.2 ?_ (fun x _ hx => ?_)
    · simp (disch := omega) only [ctr, u2_eq, u2_ni, u2_nr, h3.1, h3.2.1, h3.2.2.1, eo, setO]
      rfl
    · simp (disch := omega) only [ctr, u2_eq, u2_ni, u2_nr]
  · apply CCo_fr hCo <;> (try intro _ _) <;> simp (disch := omega) only [u2_n]
  · apply CTn_fr hTn <;> simp (disch := omega) only [u2_n]
  · apply CCt_fr hCt <;> simp (disch := omega) only [u2_n]
def gSellT (g : Game) (i t : Nat) (a : T4) : Game := gTr (gBank g i (3 * a.2.2.1)) (g.2.1.set t (setO a (nI i)))
theorem VL_bank {g : Game} {i : Nat} {x : Int32} (h : VL g) : VL (gBank g i x) := h
theorem C_sellT {b i t : Nat} {g : Game} {S : Sg} {a : T4} (h : CP b g S) (hv : VL g) (hi : i < 4) (ht : g.2.1[t]? = some a) : ∃ S', f_X7_sellTrack b (nI i) (nI t) S = some S' ∧ CP b (gSellT g i t a) S' ∧ Fr b S S' := by
  have l1 := hv.1
  have l2 := lt_len ht
  obtain ⟨S1, e1, h1, f1⟩ := C_toBank (x := 3 * a.2.2.1) h hi
  refine ⟨u2 S1 (b + 7) t (nI i), ?_, ?_, f1.ux (by omega)⟩
  · unfold f_X7_sellTrack
    simp (disch := omega) only [gbi_ok, gbl_ok, gbn_ok, gbv_ok, gst_ok, gvi_ok, gvl_ok, at_ok, put_ok, at_4, put_4, at_0, place_ok, C_price h hv ht, e1]
  · have h2 := C_setO (o := nI i) h1 (show (gBank g i (3 * a.2.2.1)).2.1[t]? = some a from ht)
    rw [if_neg (nI_m9 (by omega))] at h2
    exact h2
/-! contracts: taken, offered -/
theorem C_holder {b k : Nat} {g : Game} {S : Sg} {a : T6} (h : CP b g S) (hv : VL g) (ht : g.2.2.2.2[k]? = some a) : f_X1_holderOf b (nI k) S = some (a.2.2.2.2.1, S) := by
  have h1 := hv.2.2.1
  have h2 := lt_len ht
  unfold f_X1_holderOf
  simp (disch := omega) only [gbi_ok, gbl_ok, gbn_ok, gbv_ok, gst_ok, gvi_ok, gvl_ok, at_ok, put_ok, at_4, put_4, at_0, place_ok, C_hasC h hv h2, (h.ct ht).2.2.2.2.1]
  rw [if_neg (by decide)]
theorem C_holder_no {b : Nat} {x : Int32} {S : Sg} (hx : f_X1_has b x S = some (0, S)) : f_X1_holderOf b x S = some (-9, S) := by
  unfold f_X1_holderOf
  simp only [hx, gbi_ok]
  rfl
theorem C_isFree {b k : Nat} {g : Game} {S : Sg} {a : T6} (h : CP b g S) (hv : VL g) (ht : g.2.2.2.2[k]? = some a) : f_X1_isFree b (nI k) S = some (bI (decide (a.2.2.2.2.1 = -9)), S) := by
  unfold f_X1_isFree
  simp only [C_holder h hv ht, gbi_ok]
  unfold bI
  by_cases e : a.2.2.2.2.1 = -9 <;> simp [e]
theorem C_mayG {b i k : Nat} {g : Game} {S : Sg} {a : T6} (h : CP b g S) (hv : VL g) (hi : i < 4) (ht : g.2.2.2.2[k]? = some a) : f_X7_mayGive b (nI i) (nI k) S = some (bI (decide (a.2.2.2.2.1 = -9)), S) := by
  unfold f_X7_mayGive
  simp (disch := omega) only [gbi_ok, gbl_ok, gbn_ok, gbv_ok, gst_ok, gvi_ok, gvl_ok, at_ok, put_ok, at_4, put_4, at_0, place_ok, isCo_ok hi, C_hasC h hv (lt_len ht), C_isFree h hv ht]
  rw [if_neg (by decide), if_neg (by decide)]
  unfold bI
  by_cases e : a.2.2.2.2.1 = -9 <;> simp [e]
theorem C_mayG_noi {b i : Nat} {x : Int32} {S : Sg} (hi : 4 ≤ i) (h2 : i < 2147483648) : f_X7_mayGive b (nI i) x S = some (0, S) := by
  unfold f_X7_mayGive
  simp only [isCo_no hi h2, gbi_ok]
  rfl
theorem C_mayG_not {b i : Nat} {x : Int32} {S : Sg} (hi : i < 4) (hx : f_X1_has b x S = some (0, S)) : f_X7_mayGive b (nI i) x S = some (0, S) := by
  unfold f_X7_mayGive
  simp only [isCo_ok hi, hx, gbi_ok]
  rfl
def setH (a : T6) (o : Int32) : T6 := (a.1, a.2.1, a.2.2.1, a.2.2.2.1, o, a.2.2.2.2.2)
theorem C_setH {b k : Nat} {g : Game} {S : Sg} {a : T6} {o : Int32} (h : CP b g S) (ht : g.2.2.2.2[k]? = some a) : CP b (gCt g (g.2.2.2.2.set k (setH a o))) (u2 S (b + 12) k o) := by
  have h3 := h.ct ht
  obtain ⟨hSc, hTr, hCo, hTn, hCt⟩ := h
  refine ⟨?_, ?_, ?_, ?_, ⟨?_, ?_⟩⟩
  · unfold CSc at hSc ⊢
    simp (disch := omega) only [u2_eq, u2_ni, u2_nr]
    exact hSc
  · apply CTr_fr hTr <;> simp (disch := omega) only [u2_n]
  · apply CCo_fr hCo <;> (try intro _ _) <;> simp (disch := omega) only [u2_n]
  · apply CTn_fr hTn <;> simp (disch := omega) only [u2_n]
  · simp (disch := omega) only [u2_eq, u2_ni, u2_nr, gCt, List.length_set]
    exact hCt.1
  · simp only [gCt]
    refine Rp_set hCt.2 ?_ (fun x _ hx => ?_)
    · simp (disch := omega) only [cct, u2_eq, u2_ni, u2_nr, h3.1, h3.2.1, h3.2.2.1, h3.2.2.2.1, h3.2.2.2.2.2, setH]
    · simp (disch := omega) only [cct, u2_eq, u2_ni, u2_nr]
def gTake (g : Game) (i k : Nat) (a : T6) : Game := gCt g (g.2.2.2.2.set k (setH a (nI i)))
theorem oR_nI {i : Nat} (h : i < 4) : oR (nI i) := Or.inr ⟨i, h, rfl⟩
theorem mem_set {α : Type} {l : List α} {k : Nat} {a x : α} (h : x ∈ l.set k a) : x ∈ l ∨ x = a := List.mem_or_eq_of_mem_set h
theorem VL_take {g : Game} {i k : Nat} {a : T6} (h : VL g) (hi : i < 4) : VL (gTake g i k a) := by
  obtain ⟨h1, h2, h3, h4, h5⟩ := h
  refine ⟨h1, h2, by simpa [gTake, gCt] using h3, h4, fun x hx => ?_⟩
  rcases mem_set hx with hx | rfl
  · exact h5 x hx
  · exact oR_nI hi
theorem C_give {b i k : Nat} {g : Game} {S : Sg} {a : T6} (h : CP b g S) (hv : VL g) (hi : i < 4) (ht : g.2.2.2.2[k]? = some a) : ∃ S', f_X1_give b (nI k) (nI i) S = some S' ∧ CP b (gTake g i k a) S' ∧ Fr b S S' := by
  have l1 := hv.2.2.1
  have l2 := lt_len ht
  refine ⟨u2 S (b + 12) k (nI i), ?_, C_setH h ht, (Fr.rf).ux (by omega)⟩
  unfold f_X1_give
  simp (disch := omega) only [gbi_ok, gbl_ok, gbn_ok, gbv_ok, gst_ok, gvi_ok, gvl_ok, at_ok, put_ok, at_4, put_4, at_0, place_ok]
def gOffer (g : Game) (x : T6) : Game := gCt g (g.2.2.2.2 ++ [x])
theorem C_offer {b : Nat} {g : Game} {S : Sg} {a1 a2 a3 a4 : Int32} (h : CP b g S) (hl : g.2.2.2.2.length < 8) : ∃ S', f_X1_add b a1 a2 a3 a4 S = some S' ∧ CP b (gOffer g (a1, a2, a3, a4, -9, 0)) S' ∧ Fr b S S' := by
  generalize hn : g.2.2.2.2.length = n at hl
  have hc : S (b + 2) 6 = nI n := by rw [h.2.2.2.2.1, hn]
  refine ⟨u2 (u2 (u2 (u2 (u2 (u2 (u2 S (b + 8) n a1) (b + 9) n a2) (b + 10) n a3) (b + 11) n a4) (b + 12) n (-9)) (b + 13) n 0) (b + 2) 6 (nI n + 1), ?_, ?_, (((((((Fr.rf).ux (by omega)).ux (by omega)).ux (by omega)).ux (by omega)).ux (by omega)).ux (by omega)).ux (by omega)⟩
  · unfold f_X1_add f_X1_areFull
    rw [hc, if_pos (by rw [show (8 : Int32) = nI 8 from rfl, nIlt (by omega) (by omega)]; omega)]
    simp only [gbi_ok, if_true]
    simp (disch := omega) only [gbi_ok, gbl_ok, gbn_ok, gbv_ok, gst_ok, gvi_ok, gvl_ok, at_ok, put_ok, at_4, put_4, at_0, place_ok, u2_eq, u2_ni, u2_nr, hc]
  · obtain ⟨hSc, hTr, hCo, hTn, hCt⟩ := h
    refine ⟨?_, ?_, ?_, ?_, ⟨?_, ?_⟩⟩
    · unfold CSc at hSc ⊢
      simp (disch := omega) only [u2_eq, u2_ni, u2_nr]
      exact hSc
    · apply CTr_fr hTr <;> simp (disch := omega) only [u2_n]
    · apply CCo_fr hCo <;> (try intro _ _) <;> simp (disch := omega) only [u2_n]
    · apply CTn_fr hTn <;> simp (disch := omega) only [u2_n]
    · simp only [u2_eq, gOffer, gCt, List.length_append, hn, nI_s, List.length_singleton]
    · refine Rp_push hCt.2 ?_ (fun x hx => ?_)
      · rw [hn]
        simp (disch := omega) only [cct, u2_eq, u2_ni, u2_nr]
      · rw [hn] at hx
        simp (disch := omega) only [cct, u2_eq, u2_ni, u2_nr]
