/-! ===== actions ===== -/
theorem mA {f : Sg → Option (Nat × Int32 × Sg)} {fm : Sg → Option (Int32 × Sg)} {s : St} {c1 c2 c3 : Int32} {n c : Nat} {S : Sg} {v : Int32} {g : Game} (hC : IC s S) (hM : IM s S) (hv : IV n s) (hg : V c (n + 1) g) (hc : CSp f s 0 v (act s g)) (hm : MSp fm s 0 v (act s g)) : OkA (fun S => gwr c1 c2 c3 (f S)) fm (Inv (n + 1)) S :=
  okA0 hC hM hc hm (IV_act hv hg)
theorem M_act0 {s : St} {S : Sg} {K : Sg → Option (Int32 × Sg)} {v : Int32} {g : Game} {n : Nat} (hI : IV n s) (h : IM s S) (hK : ∀ S0, MP s.1 (S0 395) → ∃ S2, K S0 = some (v, S2) ∧ MP g (S2 395) ∧ FrP 395 S0 S2) : ∃ S2, gbv (f_X11_note (u2 S 392 0 0)) K = some (v, S2) ∧ S2 392 0 = 0 ∧ IM (act s g) S2 ∧ FM S S2 := by
  obtain ⟨S2, e1, e2, e3, e4⟩ := M_act hI (IM_q h (QM.r (v := 0))) hK
  exact ⟨S2, e1, by rw [e2, u2_eq], e3, fun k hk => by rw [e4.1 k hk, u2_n (by omega)], by rw [e4.2, u2_n (by omega)]⟩
theorem in_r {a b : Int32} {a' b' : Int64} (ha : a' = a.toInt64) (hb : b' = b.toInt64) (x : Int32) (S : Sg) : f_X11_in x.toInt64 a' b' S = some (bI (decide (a ≤ x) && decide (x ≤ b)), S) := by
  rw [ha, hb, in_ok3]
theorem rg_of {a b : Nat} {x : Int32} (hb : b < 2147483648) (hab : a ≤ b) (h : (decide (nI a ≤ x) && decide (x ≤ nI b)) = true) : ∃ l : Nat, a ≤ l ∧ l ≤ b ∧ x = nI l := by
  rw [Bool.and_eq_true] at h
  have h1 := of_decide_eq_true h.1
  have h2 := of_decide_eq_true h.2
  rcases ix_of x with h0 | ⟨j, hj, rfl⟩
  · exfalso
    have h3 : (0 : Int32) ≤ nI a := nI_pos' (by omega)
    exact Int32.lt_irrefl (Int32.lt_of_lt_of_le h0 (Int32.le_trans h3 h1))
  · rw [nIle (by omega) hj] at h1
    rw [nIle hj (by omega)] at h2
    exact ⟨j, h1, h2, rfl⟩
theorem ok_buyTrack {n : Nat} {S : Sg} (i t : Int32) (h : Inv n S) : OkA (f_L_buyTrack i t) (f_X11_buyTrack i t) (Inv (n + 1)) S := by
  obtain ⟨s, hC, hM, hv⟩ := h
  obtain ⟨c, hV⟩ := hv.1
  have hvl := V.vl hV
  have hl := hvl.1
  show OkA (fun S => gwr 1 0 2 (f_X10_buyTrack i t S)) _ _ _
  cases hi : below 4 i with
  | false =>
    refine tA 1 1 hC hM hv (by decide) (fun _ => rfl) (fun S hS => ?_) (fun S hS => ?_)
    · unfold f_X10_buyTrack
      rw [nCo, hi, nd_f]
    · unfold f_X11_buyTrack B_X11_buyTrack_40
      rw [M_isCo', gbiN, hi, if_pos (by decide), ref_1, gbiN]
      rfl
  | true =>
    obtain ⟨i, hi4, rfl⟩ := below_of (by omega) hi
    cases ht : below s.1.2.1.length t with
    | false =>
      refine tA 1 1 hC hM hv (by decide) (fun _ => rfl) (fun S hS => ?_) (fun S hS => ?_)
      · unfold f_X10_buyTrack
        rw [nCo, hi, nd_t, nTr hS.1 hvl, ht, nd_f]
      · unfold f_X11_buyTrack B_X11_buyTrack_40
        rw [M_isCo', gbiN, hi, if_neg (by decide), M_isTrack hS.1 hvl, gbiN, ht, if_pos (by decide), ref_1, gbiN]
        rfl
    | true =>
      obtain ⟨j, hj, rfl⟩ := below_of (by omega) ht
      obtain ⟨a, ha⟩ := some_of_lt hj
      cases hm : mayT s.1 i a with
      | false =>
        refine tA 3 2 hC hM hv (by decide) (fun _ => rfl) (fun S hS => ?_) (fun S hS => ?_)
        · unfold f_X10_buyTrack
          rw [nCo, hi, nd_t, nTr hS.1 hvl, ht, nd_t, C_mayT hS.1 hvl hi4 ha, gbiN, nAl, hm, nd_f]
        · unfold f_X11_buyTrack B_X11_buyTrack_40
          rw [M_isCo', gbiN, hi, if_neg (by decide), M_isTrack hS.1 hvl, gbiN, ht, if_neg (by decide), M_mayT hS.1 hvl hi4 ha, gbiN, hm, if_pos (by decide), ref_2, gbiN]
          rfl
      | true =>
        refine mA (v := (gSellT s.1 i j a).2.2.1 i 0) hC hM hv (V_mono (V_sellT hV hi4 ha) (Nat.le_succ n)) (fun S hS => ?_) (fun S hS => ?_)
        · unfold f_X10_buyTrack
          rw [nCo, hi, nd_t, nTr hS.1 hvl, ht, nd_t, C_mayT hS.1 hvl hi4 ha, gbiN, nAl, hm, nd_t]
          refine C_act (mk := fun S1 => (0, (gSellT s.1 i j a).2.2.1 i 0, S1)) hv hS (fun S0 h0 => ?_)
          obtain ⟨S1, e1, c1, f1⟩ := C_sellT h0 hvl hi4 ha
          refine ⟨S1, ?_, c1, Fb.f f1⟩
          rw [e1, gbvN, at_ok (by omega) (by omega), gbiN, (c1.2.2.1 i hi4).1]
        · unfold f_X11_buyTrack B_X11_buyTrack_40
          rw [M_isCo', gbiN, hi, if_neg (by decide), M_isTrack hS.1 hvl, gbiN, ht, if_neg (by decide), M_mayT hS.1 hvl hi4 ha, gbiN, hm, if_neg (by decide), ref_0, gbiN, if_pos rfl]
          refine M_act0 hv hS (fun S0 h0 => ?_)
          obtain ⟨S1, e1, c1, f1⟩ := M_sellT h0 hvl hi4 ha
          exact ⟨S1, by rw [e1, gbiN], c1, FrP.o (Or.inl rfl) f1⟩
theorem ok_buyTrain {n : Nat} {S : Sg} (i x : Int32) (h : Inv n S) : OkA (f_L_buyTrain i x) (f_X11_buyTrain i x) (Inv (n + 1)) S := by
  obtain ⟨s, hC, hM, hv⟩ := h
  obtain ⟨c, hV⟩ := hv.1
  have hvl := V.vl hV
  show OkA (fun S => gwr 1 2 3 (f_X10_buyTrain i x S)) _ _ _
  cases hi : below 4 i with
  | false =>
    refine tA 1 1 hC hM hv (by decide) (fun _ => rfl) (fun S hS => ?_) (fun S hS => ?_)
    · unfold f_X10_buyTrain
      rw [nCo, hi, nd_f]
    · unfold f_X11_buyTrain B_X11_buyTrain_45
      rw [M_isCo', gbiN, hi, if_pos (by decide), ref_1, gbiN]
      rfl
  | true =>
    obtain ⟨i, hi4, rfl⟩ := below_of (by omega) hi
    cases hx : (decide ((1 : Int32) ≤ x) && decide (x ≤ (6 : Int32))) with
    | false =>
      refine tA 2 2 hC hM hv (by decide) (fun _ => rfl) (fun S hS => ?_) (fun S hS => ?_)
      · unfold f_X10_buyTrain
        rw [nCo, hi, nd_t, nRa, hx, nd_f]
      · unfold f_X11_buyTrain B_X11_buyTrain_45
        rw [M_isCo', gbiN, hi, if_neg (by decide), in_r (a := 1) (b := 6) (by decide) (by decide), gbiN, hx, if_pos (by decide), ref_2, gbiN]
        rfl
    | true =>
      obtain ⟨l, hl1, hl6, rfl⟩ := rg_of (a := 1) (b := 6) (by omega) (by omega) hx
      have n1 : ¬ nI l < 1 := by rw [show (1 : Int32) = nI 1 from rfl, nIlt (by omega) (by omega)]; omega
      have n6 : ¬ 6 < nI l := by rw [show (6 : Int32) = nI 6 from rfl, nIlt (by omega) (by omega)]; omega
      cases hm : mayN s.1 i (nI l) with
      | false =>
        refine tA 3 3 hC hM hv (by decide) (fun _ => rfl) (fun S hS => ?_) (fun S hS => ?_)
        · unfold f_X10_buyTrain
          rw [nCo, hi, nd_t, nRa, hx, nd_t, C_mayN hS.1 hvl hi4 n1 n6, gbiN, nAl, hm, nd_f]
        · unfold f_X11_buyTrain B_X11_buyTrain_45
          rw [M_isCo', gbiN, hi, if_neg (by decide), in_r (a := 1) (b := 6) (by decide) (by decide), gbiN, hx, if_neg (by decide), M_mayN hS.1 hvl hi4, gbiN, hm, if_pos (by decide), ref_3, gbiN]
          rfl
      | true =>
        have hl4 := mayN_len hm
        obtain ⟨ph, hp1, hp6, ep⟩ := hV.2.1
        refine mA (v := rSellN s.1 i (nI l)) (g := gSellN s.1 i (nI l)) hC hM hv (V_mono (V_sellN hV hi4 hl4 ⟨l, hl1, hl6, rfl⟩) (Nat.le_succ n)) (fun S hS => ?_) (fun S hS => ?_)
        · unfold f_X10_buyTrain
          rw [nCo, hi, nd_t, nRa, hx, nd_t, C_mayN hS.1 hvl hi4 n1 n6, gbiN, nAl, hm, nd_t]
          refine C_act (mk := fun S1 => (0, rSellN s.1 i (nI l), S1)) hv hS (fun S0 h0 => ?_)
          obtain ⟨S1, e1, c1, f1⟩ := C_sellN (lv := nI l) h0 hvl hi4 hl4
          refine ⟨S1, ?_, c1, Fb.f f1⟩
          rw [e1, gbiN]
        · unfold f_X11_buyTrain B_X11_buyTrain_45
          rw [M_isCo', gbiN, hi, if_neg (by decide), in_r (a := 1) (b := 6) (by decide) (by decide), gbiN, hx, if_neg (by decide), M_mayN hS.1 hvl hi4, gbiN, hm, if_neg (by decide), ref_0, gbiN, if_pos rfl]
          refine M_act0 hv hS (fun S0 h0 => ?_)
          obtain ⟨S1, e1, c1, f1⟩ := M_sellN (lv := nI l) h0 hvl hi4 hl4 (mayN_up ep hp6 hl6 hm)
          exact ⟨S1, by rw [e1, gbiN], c1, FrP.o (Or.inl rfl) f1⟩
theorem ok_setRent {n : Nat} {S : Sg} (i x : Int32) (h : Inv n S) : OkA (f_L_setRent i x) (f_X11_setRent i x) (Inv (n + 1)) S := by
  obtain ⟨s, hC, hM, hv⟩ := h
  obtain ⟨c, hV⟩ := hv.1
  have hvl := V.vl hV
  show OkA (fun S => gwr 1 2 0 (f_X10_setRent i x S)) _ _ _
  cases hi : below 4 i with
  | false =>
    refine tA 1 1 hC hM hv (by decide) (fun _ => rfl) (fun S hS => ?_) (fun S hS => ?_)
    · unfold f_X10_setRent
      rw [nCo, hi, nd_f]
    · unfold f_X11_setRent B_X11_setRent_29
      rw [M_isCo', gbiN, hi, if_pos (by decide), ref_1, gbiN]
      rfl
  | true =>
    obtain ⟨i, hi4, rfl⟩ := below_of (by omega) hi
    cases hx : (decide ((0 : Int32) ≤ x) && decide (x ≤ (9 : Int32))) with
    | false =>
      refine tA 2 2 hC hM hv (by decide) (fun _ => rfl) (fun S hS => ?_) (fun S hS => ?_)
      · unfold f_X10_setRent
        rw [nCo, hi, nd_t, nRa, hx, nd_f]
      · unfold f_X11_setRent B_X11_setRent_29
        rw [M_isCo', gbiN, hi, if_neg (by decide), in_r (a := 0) (b := 9) (by decide) (by decide), gbiN, hx, if_pos (by decide), ref_2, gbiN]
        rfl
    | true =>
      obtain ⟨l, hl1, hl6, rfl⟩ := rg_of (a := 0) (b := 9) (by omega) (by omega) hx
      refine mA (v := s.1.2.2.1 i 1) (g := gCo s.1 i 1 (nI l)) hC hM hv (V_mono (V_rent hV ⟨l, hl1, hl6, rfl⟩) (Nat.le_succ n)) (fun S hS => ?_) (fun S hS => ?_)
      · unfold f_X10_setRent
        rw [nCo, hi, nd_t, nRa, hx, nd_t]
        refine C_act (mk := fun S1 => (0, s.1.2.2.1 i 1, S1)) hv hS (fun S0 h0 => ?_)
        obtain ⟨e1, c1, f1⟩ := C_rent (v := nI l) h0 hi4
        refine ⟨_, ?_, c1, Fb.f f1⟩
        rw [at_ok (by omega) (by omega), gbiN, e1, gbvN, (h0.2.2.1 i hi4).2.1]
      · unfold f_X11_setRent B_X11_setRent_29
        rw [M_isCo', gbiN, hi, if_neg (by decide), in_r (a := 0) (b := 9) (by decide) (by decide), gbiN, hx, if_neg (by decide), ref_0, gbiN, if_pos rfl]
        refine M_act0 hv hS (fun S0 h0 => ?_)
        refine ⟨u2 S0 395 (75 + 5 * i + 1) (nI l), ?_, by rw [u2_s]; exact M_rent h0 hvl hi4, FrP.o (Or.inl rfl) (fun a ha => by rw [u2_n ha])⟩
        rw [companyAt_ok, gbiN, nIp1, gck_nI (by omega) (by omega), nI_c (by omega), gviN, companyAt_ok, gbiN, nIp1, gck_nI (by omega) (by omega), nI_c (by omega), gstN, (h0.2.2.1 i hi4).2.1]
theorem ok_take {n : Nat} {S : Sg} (i t : Int32) (h : Inv n S) : OkA (f_L_take i t) (f_X11_take i t) (Inv (n + 1)) S := by
  obtain ⟨s, hC, hM, hv⟩ := h
  obtain ⟨c, hV⟩ := hv.1
  have hvl := V.vl hV
  have hl := hvl.2.2.1
  show OkA (fun S => gwr 1 0 2 (f_X10_take i t S)) _ _ _
  cases hi : below 4 i with
  | false =>
    refine tA 1 1 hC hM hv (by decide) (fun _ => rfl) (fun S hS => ?_) (fun S hS => ?_)
    · unfold f_X10_take
      rw [nCo, hi, nd_f]
    · unfold f_X11_take B_X11_take_39
      rw [M_isCo', gbiN, hi, if_pos (by decide), ref_1, gbiN]
      rfl
  | true =>
    obtain ⟨i, hi4, rfl⟩ := below_of (by omega) hi
    cases ht : below s.1.2.2.2.2.length t with
    | false =>
      refine tA 1 1 hC hM hv (by decide) (fun _ => rfl) (fun S hS => ?_) (fun S hS => ?_)
      · unfold f_X10_take
        rw [nCo, hi, nd_t, nCt hS.1 hvl, ht, nd_f]
      · unfold f_X11_take B_X11_take_39
        rw [M_isCo', gbiN, hi, if_neg (by decide), M_isContract hS.1 hvl, gbiN, ht, if_pos (by decide), ref_1, gbiN]
        rfl
    | true =>
      obtain ⟨j, hj, rfl⟩ := below_of (by omega) ht
      obtain ⟨a, ha⟩ := some_of_lt hj
      cases hm : decide (a.2.2.2.2.1 = -9) with
      | false =>
        refine tA 3 2 hC hM hv (by decide) (fun _ => rfl) (fun S hS => ?_) (fun S hS => ?_)
        · unfold f_X10_take
          rw [nCo, hi, nd_t, nCt hS.1 hvl, ht, nd_t, C_isFree hS.1 hvl ha, gbiN, nAl, hm, nd_f]
        · unfold f_X11_take B_X11_take_39
          rw [M_isCo', gbiN, hi, if_neg (by decide), M_isContract hS.1 hvl, gbiN, ht, if_neg (by decide), M_canTake hS.1 hvl ha, gbiN, hm, if_pos (by decide), ref_2, gbiN]
          rfl
      | true =>
        have hV2 := V_take hV hi4 ha
        refine mA (v := cntC (gTake s.1 i j a) i) hC hM hv (V_mono hV2 (Nat.le_succ n)) (fun S hS => ?_) (fun S hS => ?_)
        · unfold f_X10_take
          rw [nCo, hi, nd_t, nCt hS.1 hvl, ht, nd_t, C_isFree hS.1 hvl ha, gbiN, nAl, hm, nd_t]
          refine C_act (mk := fun S1 => (0, cntC (gTake s.1 i j a) i, S1)) hv hS (fun S0 h0 => ?_)
          obtain ⟨S1, e1, c1, f1⟩ := C_give h0 hvl hi4 ha
          refine ⟨S1, ?_, c1, Fb.f f1⟩
          rw [e1, gbvN, C_ccountOf c1 (V.vl hV2), gbiN]
        · unfold f_X11_take B_X11_take_39
          rw [M_isCo', gbiN, hi, if_neg (by decide), M_isContract hS.1 hvl, gbiN, ht, if_neg (by decide), M_canTake hS.1 hvl ha, gbiN, hm, if_neg (by decide), ref_0, gbiN, if_pos rfl]
          refine M_act0 hv hS (fun S0 h0 => ?_)
          obtain ⟨S1, e1, c1, f1⟩ := M_take h0 hvl hi4 ha
          exact ⟨S1, by rw [e1, gbiN], c1, FrP.o (Or.inl rfl) f1⟩
theorem ok_endRound {n : Nat} {S : Sg} (h : Inv n S) : OkB f_X10_endRound f_X11_endRound (Inv (n + 1)) S := by
  obtain ⟨s, hC, hM, hv⟩ := h
  obtain ⟨c, hV⟩ := hv.1
  have hvl := V.vl hV
  refine okB0 (v := cSt (gMid s.1) 0 4 0) (s' := act s (gEnd s.1)) hC hM (fun S hS => ?_) (fun S hS => ?_) (IV_act hv (V_end hV))
  · unfold f_X10_endRound
    refine C_act (mk := fun S1 => (cSt (gMid s.1) 0 4 0, S1)) hv hS (fun S0 h0 => ?_)
    obtain ⟨S1, e1, c1, f1⟩ := C_close h0 hvl
    refine ⟨S1, ?_, c1, Fb.f f1⟩
    rw [e1, gbiN]
  · unfold f_X11_endRound
    rw [gstN]
    refine M_act0 hv hS (fun S0 h0 => ?_)
    obtain ⟨S1, e1, c1, f1⟩ := M_end h0 hvl (V_rounds hV)
    refine ⟨S1, ?_, c1, FrP.o (Or.inl rfl) f1⟩
    rw [e1, gbiN, bits_sum]
theorem ok_undo {n : Nat} {S : Sg} (h : Inv n S) : OkA f_L_undo f_X11_undo (Inv (n + 1)) S := by
  obtain ⟨s, hC, hM, hv⟩ := h
  show OkA (fun S => gwr 0 0 1 (f_X10_undo S)) _ _ _
  obtain ⟨g0, tx, sz, hs, sl⟩ := s
  rcases List.eq_nil_or_concat hs with rfl | ⟨l, g, rfl⟩
  · refine tA 3 1 hC hM hv (by decide) (fun _ => rfl) (fun S hS => ?_) (fun S hS => ?_)
    · obtain ⟨-, -, ⟨o, ho⟩, -⟩ := hS
      have h0 : S 3 2 = nI 0 := ho.2.2.1
      unfold f_X10_undo B_X10_undo_15
      rw [h0, if_pos (by decide), show (0 : Int32) = bI false from rfl, nAl, nd_f]
      rfl
    · have h0 : S 392 8 = nI 0 := hS.2.2.1.1
      unfold f_X11_undo B_X11_undo_13
      rw [h0, if_pos (by decide), ref_1, gbiN]
      rfl
  · rw [List.concat_eq_append] at hC hM hv
    have hlen : (l ++ [g]).length = l.length + 1 := by simp
    have hl14 : (l ++ [g]).length ≤ 14 := hv.2.2.1.1
    have hmem : g ∈ l ++ [g] := by simp
    obtain ⟨cg, hVg⟩ := hv.2.2.1.2 g hmem
    have hvl := V.vl hVg
    have hget : (l ++ [g])[l.length]? = some g := by simp
    refine okA0 (v := nI l.length) (s' := ((g, tx, sz, l, sl) : St)) hC hM (fun S hS => ?_) (fun S hS => ?_) ?_
    · obtain ⟨h1, h2, ⟨o, ho⟩, h4⟩ := hS
      obtain ⟨S1, e1, b1, b2, b3⟩ := C_takeBack ho hvl
      refine ⟨S1, ?_, ⟨b2, ⟨by rw [b3 1 (by omega) (by omega)]; exact h2.1, fun x hx => by rw [b3 2 (by omega) (by omega)]; exact h2.2 x hx⟩, ⟨o, b1⟩, fun k hk => ⟨by rw [b3 7 (by omega) (by omega)]; exact (h4 k hk).1, fun g hg => CP_o ((h4 k hk).2 g hg) (fun j p1 p2 => b3 j (by omega) (by omega))⟩⟩, fun k hk => b3 k (by omega) (by omega)⟩
      have h0 : S 3 2 = nI (l ++ [g]).length := ho.2.2.1
      have h01 : S1 3 2 = nI l.length := b1.2.2.1
      rw [hlen] at h0
      unfold f_X10_undo B_X10_undo_15
      rw [h0, if_neg (by rw [show (0 : Int32) = nI 0 from rfl, nIle (by omega) (by omega)]; omega), show (1 : Int32) = bI true from rfl, nAl, nd_t, e1, gbvN, h01]
    · obtain ⟨h1, h2, h3, h4⟩ := hS
      have h8 : u2 (u2 S 392 0 0) 392 8 (nI l.length) 392 8 = nI l.length := u2_eq
      have hpg : PG g 397 (175 * l.length) (u2 (u2 S 392 0 0) 392 8 (nI l.length)) := by
        unfold PG
        rw [u2_n (by omega), u2_n (by omega)]
        exact h3.2 l.length g hget
      obtain ⟨S2, e1, b1, -, b3⟩ := M_copy (q := 0) (n0 := 2450) (k2 := 395) (n2 := 175) hpg hvl (by omega) (by omega) (by omega) (by omega) (by omega)
      have hb : ∀ a, a ≠ 395 → a ≠ 392 → S2 a = S a := fun a x y => by rw [b3 a x, u2_n y, u2_n y]
      have hc : ∀ x, x ≠ 0 → x ≠ 8 → S2 392 x = S 392 x := fun x y z => by rw [b3 392 (by omega), u2_ni z, u2_ni y]
      have hc8 : S2 392 8 = nI l.length := by rw [b3 392 (by omega)]; exact u2_eq
      refine ⟨S2, ?_, by rw [b3 392 (by omega), u2_ni (by omega), u2_eq], ⟨(PG_0 hvl).mp b1, ⟨by rw [hc 2 (by omega) (by omega)]; exact h2.1, fun x hx => by rw [hb 393 (by omega) (by omega)]; exact h2.2 x hx⟩, ⟨hc8, fun k x hx => ?_⟩, fun k hk => ⟨by rw [hb 399 (by omega) (by omega)]; exact (h4 k hk).1, fun x hx => ?_⟩⟩, fun k hk => hb k (by omega) (by omega), hb 402 (by omega) (by omega)⟩
      · have h0 : S 392 8 = nI (l ++ [g]).length := h3.1
        rw [hlen] at h0
        rw [nI_0] at e1
        unfold f_X11_undo B_X11_undo_13
        rw [h0, if_neg (by rw [show (0 : Int32) = nI 0 from rfl, nI_inj (by omega) (by omega)]; omega), ref_0, gbiN, if_pos rfl, u2_ni (by omega), h0, show (1 : Int32) = nI 1 from rfl, pk_sub (by omega), Nat.add_sub_cancel, gstN, h8, show (175 : Int32) = nI 175 from rfl, pk_mul]
        rw [e1, gbvN, hc8]
      · unfold PG
        rw [hb 397 (by omega) (by omega)]
        refine h3.2 k x ?_
        rw [List.getElem?_append_left (lt_len hx)]
        exact hx
      · unfold PG
        rw [hb 398 (by omega) (by omega)]
        exact (h4 k hk).2 x hx
    · obtain ⟨-, v2, v3, v4⟩ := IV_mono hv (Nat.le_succ n)
      exact ⟨⟨cg, V_mono hVg (Nat.le_succ n)⟩, v2, ⟨by show l.length ≤ 14; omega, fun x hx => v3.2 x (List.mem_append_left _ hx)⟩, v4⟩
