/-! ===== offers, runs, advice, forecasts ===== -/
theorem qF {f : Sg → Option (Nat × Int32 × Sg)} {fm : Sg → Option (Int32 × Sg)} {s : St} {c1 c2 c3 : Int32} {n : Nat} {S : Sg} (v : Int32) (hC : IC s S) (hM : IM s S) (hv : IV n s) (hc : ∀ S, IC s S → ∃ S1, f S = some (0, v, S1) ∧ Fb 35 S S1) (hm : ∀ S, IM s S → ∃ S2, fm S = some (v, S2) ∧ FrP 396 (u2 S 392 0 0) S2) : OkA (fun S => gwr c1 c2 c3 (f S)) fm (Inv (n + 1)) S :=
  okA0 hC hM (CSp_q hc) (MSp_q fun S hS => by
    obtain ⟨S2, e1, e2⟩ := hm S hS
    exact ⟨S2, e1, by rw [e2.2 0 (by omega) (by omega) (by omega), u2_eq], (QM.r (v := 0)).tr (QM.p e2)⟩) (IV_mono hv (Nat.le_succ n))
theorem C_tri {s : St} {n : Nat} {S : Sg} (hv : IV n s) (h : IC s S) : ∃ S1, f_X7_copyFrom 35 14 S = some S1 ∧ CP 35 s.1 S1 ∧ CP 14 s.1 S1 ∧ Fb 35 S S1 := by
  obtain ⟨⟨c, hV⟩, -, -, -⟩ := hv
  obtain ⟨S1, e1, c1, f1⟩ := C_copy (b := 35) (b1 := 14) h.1 (V.vl hV) (Or.inr (by omega))
  exact ⟨S1, e1, c1, CP_o h.1 (fun k a b => f1 k (by omega)), Fb.f f1⟩
theorem M_tri {s : St} {n : Nat} {S : Sg} (hv : IV n s) (h : MP s.1 (S 395)) : ∃ S1, f_X11_copyPage 395 175 396 175 0 0 S = some S1 ∧ MP s.1 (S1 396) ∧ FrP 396 S S1 := by
  obtain ⟨⟨c, hV⟩, -, -, -⟩ := hv
  obtain ⟨S1, e1, c1, -, f1⟩ := M_copy (k0 := 395) (n0 := 175) (k2 := 396) (n2 := 175) (o := 0) (q := 0) ((PG_0 (V.vl hV)).mpr h) (V.vl hV) (by omega) (by omega) (by omega) (by omega) (by omega)
  rw [nI_0] at e1
  exact ⟨S1, e1, (PG_0 (V.vl hV)).mp c1, FrP.o (Or.inr rfl) f1⟩
theorem IM_0 {s : St} {S : Sg} (h : IM s S) : MP s.1 ((u2 S 392 0 0) 395) := (IM_q h (QM.r (v := 0))).1
theorem ok_worth {n : Nat} {S : Sg} (i : Int32) (h : Inv n S) : OkA (f_L_worth i) (f_X11_worth i) (Inv (n + 1)) S := by
  obtain ⟨s, hC, hM, hv⟩ := h
  obtain ⟨c, hV⟩ := hv.1
  have hvl := V.vl hV
  show OkA (fun S => gwr 1 0 0 (f_X10_worth i S)) _ _ _
  cases hi : below 4 i with
  | false =>
    refine tA 1 1 hC hM hv (by decide) (fun _ => rfl) (fun S hS => ?_) (fun S hS => ?_)
    · unfold f_X10_worth
      rw [nCo, hi, nd_f]
    · unfold f_X11_worth B_X11_worth_13
      rw [M_isCo', gbiN, hi, if_pos (by decide), ref_1, gbiN]
      rfl
  | true =>
    obtain ⟨i, hi4, rfl⟩ := below_of (by omega) hi
    refine qF (gWorth s.1 i) hC hM hv (fun S hS => ⟨S, ?_, Fb.rf S⟩) (fun S hS => ⟨_, ?_, FrP.rf _⟩)
    · unfold f_X10_worth
      rw [nCo, hi, nd_t, C_worth hS.1 hvl hi4, gbiN]
    · unfold f_X11_worth B_X11_worth_13
      rw [M_isCo', gbiN, hi, if_neg (by decide), ref_0, gbiN, if_pos rfl, M_worth (IM_0 hS) hvl hi4, gbiN]
theorem ok_levelFor {n : Nat} {S : Sg} (i t : Int32) (h : Inv n S) : OkA (f_L_levelFor i t) (f_X11_levelFor i t) (Inv (n + 1)) S := by
  obtain ⟨s, hC, hM, hv⟩ := h
  obtain ⟨c, hV⟩ := hv.1
  have hvl := V.vl hV
  have hl := hvl.2.2.1
  show OkA (fun S => gwr 1 0 0 (f_X10_levelFor i t S)) _ _ _
  cases hi : below 4 i with
  | false =>
    refine tA 1 1 hC hM hv (by decide) (fun _ => rfl) (fun S hS => ?_) (fun S hS => ?_)
    · unfold f_X10_levelFor
      rw [nCo, hi, nd_f]
    · unfold f_X11_levelFor B_X11_levelFor_24
      rw [M_isCo', gbiN, hi, if_pos (by decide), ref_1, gbiN]
      rfl
  | true =>
    obtain ⟨i, hi4, rfl⟩ := below_of (by omega) hi
    cases ht : below s.1.2.2.2.2.length t with
    | false =>
      refine tA 1 1 hC hM hv (by decide) (fun _ => rfl) (fun S hS => ?_) (fun S hS => ?_)
      · unfold f_X10_levelFor
        rw [nCo, hi, nd_t, nCt hS.1 hvl, ht, nd_f]
      · unfold f_X11_levelFor B_X11_levelFor_24
        rw [M_isCo', gbiN, hi, if_neg (by decide), M_isContract hS.1 hvl, gbiN, ht, if_pos (by decide), ref_1, gbiN]
        rfl
    | true =>
      obtain ⟨k, hk, rfl⟩ := below_of (by omega) ht
      obtain ⟨a, ha⟩ := some_of_lt hk
      have hc9 := hV.1.2.1
      obtain ⟨⟨x, hx, ex⟩, ⟨y, hy, ey⟩, -⟩ := hV.2.2.2.2.2.2 a (mem_get ha)
      refine qF (smL s.1 i x y 1 6) hC hM hv (fun S hS => ?_) (fun S hS => ?_)
      · obtain ⟨S1, e1, f1⟩ := C_small_loop (b := 14) (by omega) hV hi4 ha ex ey (by omega) (by omega) 6 1 S gFu rfl (by unfold gFu; omega) hS.1
        refine ⟨S1, ?_, Fb.w f1⟩
        unfold f_X10_levelFor f_X4_smallestLevel
        rw [nCo, hi, nd_t, nCt hS.1 hvl, ht, nd_t, show (1 : Int32) = nI 1 from rfl, e1, gbiN]
      · obtain ⟨S1, e1, f1⟩ := M_small_loop (i := i) hV ha ex ey hx (by omega) 6 1 (u2 S 392 0 0) gFu rfl (by unfold gFu; omega) (IM_0 hS)
        refine ⟨S1, ?_, FrP.m f1⟩
        unfold f_X11_levelFor B_X11_levelFor_24
        rw [M_isCo', gbiN, hi, if_neg (by decide), M_isContract hS.1 hvl, gbiN, ht, if_neg (by decide), ref_0, gbiN, if_pos rfl, show (1 : Int32) = nI 1 from rfl, e1]
theorem ok_bestContract {n : Nat} {S : Sg} (i : Int32) (h : Inv n S) : OkA (f_L_bestContract i) (f_X11_bestContract i) (Inv (n + 1)) S := by
  obtain ⟨s, hC, hM, hv⟩ := h
  obtain ⟨c, hV⟩ := hv.1
  have hvl := V.vl hV
  have hl := hvl.2.2.1
  show OkA (fun S => gwr 1 0 0 (f_X10_bestContract i S)) _ _ _
  cases hi : below 4 i with
  | false =>
    refine tA 1 1 hC hM hv (by decide) (fun _ => rfl) (fun S hS => ?_) (fun S hS => ?_)
    · unfold f_X10_bestContract
      rw [nCo, hi, nd_f]
    · unfold f_X11_bestContract B_X11_bestContract_13
      rw [M_isCo', gbiN, hi, if_pos (by decide), ref_1, gbiN]
      rfl
  | true =>
    obtain ⟨i, hi4, rfl⟩ := below_of (by omega) hi
    have hl4 := hvl.2.1 i hi4
    obtain ⟨lv, hlv, elv⟩ := grL_v (s.1.2.2.2.1 i) 0 (by omega) (fun x hx => ((hV.2.2.2.2.1 i hi4).2 x hx).1)
    rw [nI_0] at elv
    refine qF (bsC s.1 i lv s.1.2.2.2.2 0 (-9) 0) hC hM hv (fun S hS => ?_) (fun S hS => ?_)
    · have e0 := C_grL_loop (b := 14) (S := S) hi4 (s.1.2.2.2.1 i) 0 0 gFu (by rw [Nat.zero_add]; exact (hS.1.2.2.2.1 i hi4).1) (by omega) (hS.1.2.2.2.1 i hi4).2 (by unfold gFu; omega)
      obtain ⟨S1, e1, f1⟩ := C_best_loop (b := 14) (by omega) hV hi4 hlv s.1.2.2.2.2 0 (-9) 0 S gFu List.drop_zero (Nat.zero_add _) (by unfold gFu; omega) hS.1
      rw [nI_0] at e0 e1
      refine ⟨S1, ?_, Fb.w f1⟩
      unfold f_X10_bestContract f_X4_bestFree f_X0_greatestLevel
      rw [nCo, hi, nd_t, e0, gbiN, gviN, elv, nI4, e1, gbiN]
    · have hp := IM_0 hS
      have e0 := M_grL_loop (S := u2 S 392 0 0) hi4 (s.1.2.2.2.1 i) 0 0 gFu (by rw [Nat.zero_add]; exact (hp.2.2.2.1 i hi4).1) (by omega) (hp.2.2.2.1 i hi4).2 (by unfold gFu; omega)
      obtain ⟨S1, e1, f1⟩ := M_best_loop (i := i) hV hlv s.1.2.2.2.2 0 (-9) 0 (u2 S 392 0 0) gFu List.drop_zero (Nat.zero_add _) (by unfold gFu; omega) hp
      rw [nI_0] at e0 e1
      refine ⟨S1, ?_, FrP.m f1⟩
      unfold f_X11_bestContract B_X11_bestContract_13
      rw [M_isCo', gbiN, hi, if_neg (by decide), ref_0, gbiN, if_pos rfl, e0, elv, e1]
theorem ok_coinsAfter {n : Nat} {S : Sg} (i x : Int32) (h : Inv n S) : OkA (f_L_coinsAfter i x) (f_X11_coinsAfter i x) (Inv (n + 1)) S := by
  obtain ⟨s, hC, hM, hv⟩ := h
  obtain ⟨c, hV⟩ := hv.1
  have hvl := V.vl hV
  show OkA (fun S => gwr 1 2 0 (f_X10_coinsAfter i x S)) _ _ _
  cases hi : below 4 i with
  | false =>
    refine tA 1 1 hC hM hv (by decide) (fun _ => rfl) (fun S hS => ?_) (fun S hS => ?_)
    · unfold f_X10_coinsAfter
      rw [nCo, hi, nd_f]
    · unfold f_X11_coinsAfter B_X11_coinsAfter_29
      rw [M_isCo', gbiN, hi, if_pos (by decide), ref_1, gbiN]
      rfl
  | true =>
    obtain ⟨i, hi4, rfl⟩ := below_of (by omega) hi
    cases hx : (decide ((0 : Int32) ≤ x) && decide (x ≤ (50 : Int32))) with
    | false =>
      refine tA 2 2 hC hM hv (by decide) (fun _ => rfl) (fun S hS => ?_) (fun S hS => ?_)
      · unfold f_X10_coinsAfter
        rw [nCo, hi, nd_t, nRa, hx, nd_f]
      · unfold f_X11_coinsAfter B_X11_coinsAfter_29
        rw [M_isCo', gbiN, hi, if_neg (by decide), in_r (a := 0) (b := 50) (by decide) (by decide), gbiN, hx, if_pos (by decide), ref_2, gbiN]
        rfl
    | true =>
      obtain ⟨m, -, hm, rfl⟩ := rg_of (a := 0) (b := 50) (by omega) (by omega) hx
      refine qF ((gEnds s.1 m).2.2.1 i 0) hC hM hv (fun S hS => ?_) (fun S hS => ?_)
      · obtain ⟨S1, e1, c1, -, f1⟩ := C_tri hv hS
        obtain ⟨S2, e2, f2⟩ := C_coins_loop hi4 m 0 n s.1 S1 gFu (Nat.zero_add _) hm (by unfold gFu; omega) c1 hV
        rw [nI_0] at e2
        refine ⟨S2, ?_, f1.tr f2⟩
        unfold f_X10_coinsAfter
        rw [nCo, hi, nd_t, nRa, hx, nd_t, e1, gbvN, e2]
      · obtain ⟨S1, e1, c1, f1⟩ := M_tri hv (IM_0 hS)
        obtain ⟨S2, e2, f2⟩ := M_coins_loop hi4 m 0 n s.1 S1 gFu (Nat.zero_add _) hm (by unfold gFu; omega) c1 hV
        rw [nI_0] at e2
        refine ⟨S2, ?_, f1.tr (FrP.o (Or.inr rfl) f2)⟩
        unfold f_X11_coinsAfter B_X11_coinsAfter_29
        rw [M_isCo', gbiN, hi, if_neg (by decide), in_r (a := 0) (b := 50) (by decide) (by decide), gbiN, hx, if_neg (by decide), ref_0, gbiN, if_pos rfl, e1, gbvN, e2]
theorem ok_bankruptAfter {n : Nat} {S : Sg} (hn : n < 512) (i : Int32) (h : Inv n S) : OkA (f_L_bankruptAfter i) (f_X11_bankruptAfter i) (Inv (n + 1)) S := by
  obtain ⟨s, hC, hM, hv⟩ := h
  obtain ⟨c, hV⟩ := hv.1
  have hvl := V.vl hV
  show OkA (fun S => gwr 1 0 0 (f_X10_bankruptAfter i S)) _ _ _
  cases hi : below 4 i with
  | false =>
    refine tA 1 1 hC hM hv (by decide) (fun _ => rfl) (fun S hS => ?_) (fun S hS => ?_)
    · unfold f_X10_bankruptAfter
      rw [nCo, hi, nd_f]
    · unfold f_X11_bankruptAfter B_X11_bankruptAfter_13
      rw [M_isCo', gbiN, hi, if_pos (by decide), ref_1, gbiN]
      rfl
  | true =>
    obtain ⟨i, hi4, rfl⟩ := below_of (by omega) hi
    obtain ⟨q, -, hq, eq⟩ := (hV.2.2.2.1 i hi4).2
    refine qF (bkA s.1 i 1 50) hC hM hv (fun S hS => ?_) (fun S hS => ?_)
    · obtain ⟨S1, e1, c1, c2, f1⟩ := C_tri hv hS
      obtain ⟨S2, e2, f2⟩ := C_bk_loop (q := q) hi4 (by omega) 50 1 n s.1 S1 gFu rfl (by unfold gFu; omega) c1 hV eq
      refine ⟨S2, ?_, f1.tr f2⟩
      unfold f_X10_bankruptAfter
      rw [nCo, hi, nd_t, e1, gbvN, at_ok (by omega) (by omega), gbiN, (c2.2.2.1 i hi4).2.2.2, eq, show (1 : Int32) = nI 1 from rfl, e2]
    · obtain ⟨S1, e1, c1, f1⟩ := M_tri hv (IM_0 hS)
      obtain ⟨S2, e2, f2⟩ := M_bk_loop hi4 50 1 n s.1 S1 gFu rfl (by unfold gFu; omega) c1 hV
      refine ⟨S2, ?_, f1.tr (FrP.o (Or.inr rfl) f2)⟩
      unfold f_X11_bankruptAfter B_X11_bankruptAfter_13
      rw [M_isCo', gbiN, hi, if_neg (by decide), ref_0, gbiN, if_pos rfl, e1, gbvN, show (1 : Int32) = nI 1 from rfl, e2]
theorem ok_simulate {n : Nat} {S : Sg} (y : Int64) (x : Int32) (h : Inv n S) : OkA (f_L_simulate y x) (f_X11_simulate y x) (Inv (n + 1)) S := by
  obtain ⟨s, hC, hM, hv⟩ := h
  obtain ⟨c, hV⟩ := hv.1
  have hvl := V.vl hV
  show OkA (fun S => gwr 0 1 0 (f_X10_simulate y x S)) _ _ _
  cases hx : (decide ((1 : Int32) ≤ x) && decide (x ≤ (50 : Int32))) with
  | false =>
    refine tA 2 1 hC hM hv (by decide) (fun _ => rfl) (fun S hS => ?_) (fun S hS => ?_)
    · unfold f_X10_simulate
      rw [nRa, hx, nd_f]
    · unfold f_X11_simulate B_X11_simulate_18
      rw [in_r (a := 1) (b := 50) (by decide) (by decide), gbiN, hx, if_pos (by decide), ref_1, gbiN]
      rfl
  | true =>
    obtain ⟨m, -, hm, rfl⟩ := rg_of (a := 1) (b := 50) (by omega) (by omega) hx
    refine qF (gwM (gSims s.1 y m) 1 3 (gWorth (gSims s.1 y m) 0) + 10000 * (gSims s.1 y m).1 3) hC hM hv (fun S hS => ?_) (fun S hS => ?_)
    · obtain ⟨S1, e1, c1, -, f1⟩ := C_tri hv hS
      obtain ⟨S2, e2, f2⟩ := C_sim_loop m 0 n s.1 y S1 gFu (Nat.zero_add _) hm (by unfold gFu; omega) c1 hV
      rw [nI_0] at e2
      refine ⟨S2, ?_, f1.tr f2⟩
      unfold f_X10_simulate
      rw [nRa, hx, nd_t, e1, gbvN, e2]
    · obtain ⟨S1, e1, c1, f1⟩ := M_tri hv (IM_0 hS)
      obtain ⟨S2, e2, f2⟩ := M_sim_loop m 0 n s.1 y S1 gFu (Nat.zero_add _) hm (by unfold gFu; omega) c1 hV
      rw [nI_0] at e2
      refine ⟨S2, ?_, f1.tr f2⟩
      unfold f_X11_simulate B_X11_simulate_18
      rw [in_r (a := 1) (b := 50) (by decide) (by decide), gbiN, hx, if_neg (by decide), ref_0, gbiN, if_pos rfl, e1, gbvN, e2]
theorem M_isRun0 {p k : Nat} {g : Game} {S : Sg} {a : T6} (h : MP g (S p)) (hv : VL g) (hk : g.2.2.2.2[k]? = some a) (ha : a.2.2.2.2.1 = -9) (x : Int32) : f_X11_isRun p (nI k) x S = some (1, S) := by
  have hl := hv.2.2.1
  have hkl := lt_len hk
  unfold f_X11_isRun
  rw [M_isContract h hv, gbiN, below_nI (by omega) (by omega), decide_eq_true hkl, if_neg (by decide), contractAt_ok, gbiN, nIp4, gck_nI (by omega) (by omega), nI_c (by omega), (h.ct hk).2.2.2.2.1, if_pos ha]
theorem M_isRun {p k i : Nat} {g : Game} {S : Sg} {a : T6} (h : MP g (S p)) (hv : VL g) (hk : g.2.2.2.2[k]? = some a) (hi : i < 4) (ha : a.2.2.2.2.1 = nI i) (x : Int32) : f_X11_isRun p (nI k) x S = some (bI (below (g.2.2.2.1 i).length x), S) := by
  have hl := hv.2.2.1
  have hkl := lt_len hk
  have h9 : nI i ≠ -9 := nI_m9 (by omega)
  unfold f_X11_isRun
  rw [M_isContract h hv, gbiN, below_nI (by omega) (by omega), decide_eq_true hkl, if_neg (by decide), contractAt_ok, gbiN, nIp4, gck_nI (by omega) (by omega), nI_c (by omega), (h.ct hk).2.2.2.2.1, ha, if_neg h9, contractAt_ok, gbiN, nIp4, gck_nI (by omega) (by omega), nI_c (by omega), (h.ct hk).2.2.2.2.1, ha, M_isTrain h hv hi, gbiN]
  cases below (g.2.2.2.1 i).length x <;> rfl
theorem ok_whyNot {n : Nat} {S : Sg} (t x : Int32) (h : Inv n S) : OkA (f_L_whyNot t x) (f_X11_whyNot t x) (Inv (n + 1)) S := by
  obtain ⟨s, hC, hM, hv⟩ := h
  obtain ⟨c, hV⟩ := hv.1
  have hvl := V.vl hV
  have hl := hvl.2.2.1
  show OkA (fun S => gwr 1 0 0 (f_X10_whyNot t x S)) _ _ _
  cases ht : below s.1.2.2.2.2.length t with
  | false =>
    refine tA 1 1 hC hM hv (by decide) (fun _ => rfl) (fun S hS => ?_) (fun S hS => ?_)
    · unfold f_X10_whyNot
      rw [nCt hS.1 hvl, ht, nd_f]
    · unfold f_X11_whyNot B_X11_whyNot_18 f_X11_isRun
      rw [M_isContract hS.1 hvl, gbiN, ht, if_pos (by decide), gbiN, if_pos rfl, ref_1, gbiN]
      rfl
  | true =>
    obtain ⟨k, hk, rfl⟩ := below_of (by omega) ht
    obtain ⟨a, ha⟩ := some_of_lt hk
    rcases (hV.2.2.2.2.2.2 a (mem_get ha)).2.2.2.2.2.1 with h9 | ⟨i, hi4, ho⟩
    · refine qF 1 hC hM hv (fun S hS => ⟨S, ?_, Fb.rf S⟩) (fun S hS => ⟨_, ?_, FrP.rf _⟩)
      · unfold f_X10_whyNot
        rw [nCt hS.1 hvl, ht, nd_t, nHo0 hS.1 hvl ha h9, nd_t, C_reason0 hS.1 hvl ha h9, gbiN]
      · unfold f_X11_whyNot B_X11_whyNot_18
        rw [M_isRun0 hS.1 hvl ha h9, gbiN, if_neg (by decide), ref_0, gbiN, if_pos rfl, M_why0 (IM_0 hS) hvl ha h9, gbiN]
    · have hl4 := hvl.2.1 i hi4
      cases hx : below (s.1.2.2.2.1 i).length x with
      | false =>
        refine tA 1 1 hC hM hv (by decide) (fun _ => rfl) (fun S hS => ?_) (fun S hS => ?_)
        · unfold f_X10_whyNot
          rw [nCt hS.1 hvl, ht, nd_t, nHo hS.1 hvl ha hi4 ho, hx, nd_f]
        · unfold f_X11_whyNot B_X11_whyNot_18
          rw [M_isRun hS.1 hvl ha hi4 ho, gbiN, hx, if_pos (by decide), ref_1, gbiN]
          rfl
      | true =>
        obtain ⟨j, hj, rfl⟩ := below_of (by omega) hx
        obtain ⟨b, hb⟩ := some_of_lt hj
        obtain ⟨x, y, lv, hr, hxc, -⟩ := Runs.of hV hi4 ha hb ho
        refine qF (rsn s.1 i a b x y lv) hC hM hv (fun S hS => ?_) (fun S hS => ?_)
        · obtain ⟨S1, e1, f1⟩ := C_reason (b := 14) (by omega) hS.1 hV hr
          refine ⟨S1, ?_, Fb.w f1⟩
          unfold f_X10_whyNot
          rw [nCt hS.1 hvl, ht, nd_t, nHo hS.1 hvl ha hi4 ho, hx, nd_t, e1, gbiN]
        · obtain ⟨S1, e1, f1⟩ := M_why (p := 395) (Or.inl rfl) (IM_0 hS) hV hr hxc
          refine ⟨S1, ?_, FrP.m f1⟩
          unfold f_X11_whyNot B_X11_whyNot_18
          rw [M_isRun hS.1 hvl ha hi4 ho, gbiN, hx, if_neg (by decide), ref_0, gbiN, if_pos rfl, e1, gbiN]
theorem ok_run {n : Nat} {S : Sg} (t x : Int32) (h : Inv n S) : OkA (f_L_run t x) (f_X11_run t x) (Inv (n + 1)) S := by
  obtain ⟨s, hC, hM, hv⟩ := h
  obtain ⟨c, hV⟩ := hv.1
  have hvl := V.vl hV
  have hl := hvl.2.2.1
  show OkA (fun S => gwr 1 0 2 (f_X10_run t x S)) _ _ _
  cases ht : below s.1.2.2.2.2.length t with
  | false =>
    refine tA 1 1 hC hM hv (by decide) (fun _ => rfl) (fun S hS => ?_) (fun S hS => ?_)
    · unfold f_X10_run
      rw [nCt hS.1 hvl, ht, nd_f]
    · unfold f_X11_run B_X11_run_35 f_X11_isRun
      rw [M_isContract hS.1 hvl, gbiN, ht, if_pos (by decide), gbiN, if_pos rfl, ref_1, gbiN]
      rfl
  | true =>
    obtain ⟨k, hk, rfl⟩ := below_of (by omega) ht
    obtain ⟨a, ha⟩ := some_of_lt hk
    rcases (hV.2.2.2.2.2.2 a (mem_get ha)).2.2.2.2.2.1 with h9 | ⟨i, hi4, ho⟩
    · refine tA 3 2 hC hM hv (by decide) (fun _ => rfl) (fun S hS => ?_) (fun S hS => ?_)
      · unfold f_X10_run B_X10_run_32
        rw [nCt hS.1 hvl, ht, nd_t, nHo0 hS.1 hvl ha h9, nd_t, C_reason0 hS.1 hvl ha h9, gbiN, if_neg (by decide), show (0 : Int32) = bI false from rfl, nAl, nd_f]
        rfl
      · unfold f_X11_run B_X11_run_35
        rw [M_isRun0 hS.1 hvl ha h9, gbiN, if_neg (by decide), M_why0 hS.1 hvl ha h9, gbiN, if_neg (by decide), ref_2, gbiN]
        rfl
    · have hl4 := hvl.2.1 i hi4
      cases hx : below (s.1.2.2.2.1 i).length x with
      | false =>
        refine tA 1 1 hC hM hv (by decide) (fun _ => rfl) (fun S hS => ?_) (fun S hS => ?_)
        · unfold f_X10_run
          rw [nCt hS.1 hvl, ht, nd_t, nHo hS.1 hvl ha hi4 ho, hx, nd_f]
        · unfold f_X11_run B_X11_run_35
          rw [M_isRun hS.1 hvl ha hi4 ho, gbiN, hx, if_pos (by decide), ref_1, gbiN]
          rfl
      | true =>
        obtain ⟨j, hj, rfl⟩ := below_of (by omega) hx
        obtain ⟨b, hb⟩ := some_of_lt hj
        obtain ⟨x, y, lv, hr, hxc, -⟩ := Runs.of hV hi4 ha hb ho
        by_cases h0 : rsn s.1 i a b x y lv = 0
        · refine mA (v := nI (wC (wks s.1 i) y x (4 * lv))) (g := gCar s.1 i k j a b (wP (wks s.1 i) y x (4 * lv))) hC hM hv (V_mono (V_car hV hi4 ha hb) (Nat.le_succ n)) (fun S hS => ?_) (fun S hS => ?_)
          · obtain ⟨S1, e1, f1⟩ := C_reason (b := 14) (by omega) hS.1 hV hr
            have hS1 := IC_fr hS (fun k a b c => (Fb.w (b := 35) f1) k a b)
            unfold f_X10_run B_X10_run_32
            rw [nCt hS.1 hvl, ht, nd_t, nHo hS.1 hvl ha hi4 ho, hx, nd_t, e1, gbiN, if_pos h0, show (1 : Int32) = bI true from rfl, nAl, nd_t]
            obtain ⟨S2, q1, q2, q3⟩ := C_act (K := fun S_3 => gbi (f_X4_carry 14 (nI k) (nI j) S_3) (fun v_5 S_4 => some (0, v_5, S_4))) (mk := fun S1 => (0, nI (wC (wks s.1 i) y x (4 * lv)), S1)) (g := gCar s.1 i k j a b (wP (wks s.1 i) y x (4 * lv))) hv hS1 (fun S0 h0 => by
              obtain ⟨S3, e3, c3, f3⟩ := C_carry (b := 14) (by omega) h0 hV hr
              exact ⟨S3, by rw [e3, gbiN], c3, f3⟩)
            exact ⟨S2, q1, q2, fun k hk => by rw [q3 k hk, f1 k (by omega)]⟩
          · obtain ⟨S1, e1, f1⟩ := M_why (p := 395) (Or.inl rfl) hS.1 hV hr hxc
            have hS1 := IM_q hS (QM.m f1)
            unfold f_X11_run B_X11_run_35
            rw [M_isRun hS.1 hvl ha hi4 ho, gbiN, hx, if_neg (by decide), e1, gbiN, if_pos h0, ref_0, gbiN, if_pos rfl]
            obtain ⟨S2, q1, q2, q3, q4⟩ := M_act0 (K := fun S_3 => gbi (f_X11_runOn 395 (nI k) (nI j) S_3) (fun v_5 S_4 => some (v_5, S_4))) (v := nI (wC (wks s.1 i) y x (4 * lv))) (g := gCar s.1 i k j a b (wP (wks s.1 i) y x (4 * lv))) hv hS1 (fun S0 h1 => by
              obtain ⟨S3, e3, c3, f3⟩ := M_runOn (p := 395) (Or.inl rfl) h1 hV hr hxc (rsn_0 h0)
              exact ⟨S3, by rw [e3, gbiN], c3, f3⟩)
            exact ⟨S2, q1, q2, q3, fun k hk => by rw [q4.1 k hk, (QM.m f1).fm.1 k hk], by rw [q4.2, (QM.m f1).fm.2]⟩
        · refine okAt (k := 3) (j := 2) hC hM (CSp_q fun S hS => ?_) (MSp_q fun S hS => ?_) (IV_mono hv (Nat.le_succ n)) (by decide) (fun _ => rfl)
          · obtain ⟨S1, e1, f1⟩ := C_reason (b := 14) (by omega) hS.1 hV hr
            refine ⟨S1, ?_, Fb.w f1⟩
            unfold f_X10_run B_X10_run_32
            rw [nCt hS.1 hvl, ht, nd_t, nHo hS.1 hvl ha hi4 ho, hx, nd_t, e1, gbiN, if_neg h0, show (0 : Int32) = bI false from rfl, nAl, nd_f]
            rfl
          · obtain ⟨S1, e1, f1⟩ := M_why (p := 395) (Or.inl rfl) hS.1 hV hr hxc
            refine ⟨u2 S1 392 0 2, ?_, u2_eq, (QM.m f1).tr QM.r⟩
            unfold f_X11_run B_X11_run_35
            rw [M_isRun hS.1 hvl ha hi4 ho, gbiN, hx, if_neg (by decide), e1, gbiN, if_neg h0, ref_2, gbiN]
            rfl
theorem ok_offer {n : Nat} {S : Sg} (x y p r : Int32) (h : Inv n S) : OkA (f_L_offer x y p r) (f_X11_offer x y p r) (Inv (n + 1)) S := by
  obtain ⟨s, hC, hM, hv⟩ := h
  obtain ⟨c, hV⟩ := hv.1
  have hvl := V.vl hV
  have hl := hvl.2.2.1
  obtain ⟨-, hc9, hc⟩ := hV.1
  have e1 : ∀ S, f_X11_offer x y p r S = B_X11_offer_35 S x y p r (bI (!decide (x = y) && ((decide ((1 : Int32) ≤ p) && decide (p ≤ (99 : Int32))) && (decide ((1 : Int32) ≤ r) && decide (r ≤ (9 : Int32)))))) := by
    intro S
    unfold f_X11_offer
    by_cases hxy : x = y
    · rw [if_pos hxy, decide_eq_true hxy]; rfl
    · rw [if_neg hxy, decide_eq_false hxy, in_r (a := 1) (b := 99) (by decide) (by decide), gbiN]
      cases (decide ((1 : Int32) ≤ p) && decide (p ≤ (99 : Int32))) with
      | false => rfl
      | true =>
        rw [if_neg (by decide), in_r (a := 1) (b := 9) (by decide) (by decide), gbiN]
        cases (decide ((1 : Int32) ≤ r) && decide (r ≤ (9 : Int32))) <;> rfl
  show OkA (fun S => gwr 1 2 3 (f_X10_offer x y p r S)) _ _ _
  cases hx : below c x with
  | false =>
    refine tA 1 1 hC hM hv (by decide) (fun _ => rfl) (fun S hS => ?_) (fun S hS => ?_)
    · unfold f_X10_offer
      rw [nCi hS.1 hc hc9, hx, nd_f]
    · rw [e1]
      unfold B_X11_offer_35 B_X11_offer_83
      rw [M_isCity hS.1 hc hc9, gbiN, hx, if_pos (by decide), ref_1, gbiN]
      rfl
  | true =>
    cases hy : below c y with
    | false =>
      refine tA 1 1 hC hM hv (by decide) (fun _ => rfl) (fun S hS => ?_) (fun S hS => ?_)
      · unfold f_X10_offer
        rw [nCi hS.1 hc hc9, hx, nd_t, nCi hS.1 hc hc9, hy, nd_f]
      · rw [e1]
        unfold B_X11_offer_35 B_X11_offer_83
        rw [M_isCity hS.1 hc hc9, gbiN, hx, if_neg (by decide), M_isCity hS.1 hc hc9, gbiN, hy, if_pos (by decide), ref_1, gbiN]
        rfl
    | true =>
      cases hA : (!decide (x = y) && ((decide ((1 : Int32) ≤ p) && decide (p ≤ (99 : Int32))) && (decide ((1 : Int32) ≤ r) && decide (r ≤ (9 : Int32))))) with
      | false =>
        rw [hA] at e1
        refine tA 2 2 hC hM hv (by decide) (fun _ => rfl) (fun S hS => ?_) (fun S hS => ?_)
        · unfold f_X10_offer
          rw [nCi hS.1 hc hc9, hx, nd_t, nCi hS.1 hc hc9, hy, nd_t, nDi]
          cases h1 : !decide (x = y) with
          | false => rw [nd_f]
          | true =>
            rw [h1, Bool.true_and] at hA
            rw [nd_t, nRa]
            cases h2 : (decide ((1 : Int32) ≤ p) && decide (p ≤ (99 : Int32))) with
            | false => rw [nd_f]
            | true =>
              rw [h2, Bool.true_and] at hA
              rw [nd_t, nRa, hA, nd_f]
        · rw [e1]
          unfold B_X11_offer_35 B_X11_offer_83
          rw [M_isCity hS.1 hc hc9, gbiN, hx, if_neg (by decide), M_isCity hS.1 hc hc9, gbiN, hy, if_neg (by decide), if_pos (by decide), ref_2, gbiN]
          rfl
      | true =>
        rw [hA] at e1
        rw [Bool.and_eq_true, Bool.and_eq_true] at hA
        obtain ⟨h1, h2, h3⟩ := hA
        have hne : x ≠ y := fun e => by rw [decide_eq_true e] at h1; cases h1
        have hfull : ∀ S, CP 14 s.1 S → f_X1_areFull 14 S = some (bI (decide (s.1.2.2.2.2.length = 8)), S) := fun S hS => by
          unfold f_X1_areFull
          rw [hS.2.2.2.2.1, show (8 : Int32) = nI 8 from rfl]
          by_cases h8 : s.1.2.2.2.2.length = 8
          · rw [decide_eq_true h8, if_neg (by rw [nIlt (by omega) (by omega)]; omega)]; rfl
          · rw [decide_eq_false h8, if_pos (by rw [nIlt (by omega) (by omega)]; omega)]; rfl
        by_cases h8 : s.1.2.2.2.2.length = 8
        · refine tA 3 3 hC hM hv (by decide) (fun _ => rfl) (fun S hS => ?_) (fun S hS => ?_)
          · unfold f_X10_offer B_X10_offer_48
            rw [nCi hS.1 hc hc9, hx, nd_t, nCi hS.1 hc hc9, hy, nd_t, nDi, h1, nd_t, nRa, h2, nd_t, nRa, h3, nd_t, hfull S hS.1, gbiN, decide_eq_true h8, if_neg (by decide), show (0 : Int32) = bI false from rfl, nAl, nd_f]
            rfl
          · rw [e1]
            unfold B_X11_offer_35 B_X11_offer_83
            rw [M_isCity hS.1 hc hc9, gbiN, hx, if_neg (by decide), M_isCity hS.1 hc hc9, gbiN, hy, if_neg (by decide), if_neg (by decide), gck_c2, ix_c2, hS.1.2.2.2.2.1, if_pos (by rw [h8]; decide), ref_3, gbiN]
            rfl
        · obtain ⟨xa, hxa, rfl⟩ := below_of (by omega) hx
          obtain ⟨ya, hya, rfl⟩ := below_of (by omega) hy
          obtain ⟨pa, hp1, hp2, rfl⟩ := rg_of (a := 1) (b := 99) (by omega) (by omega) h2
          obtain ⟨ra, hr1, hr2, rfl⟩ := rg_of (a := 1) (b := 9) (by omega) (by omega) h3
          have hV2 : V c n (gOffer s.1 (nI xa, nI ya, nI pa, nI ra, -9, 0)) := V_offer hV (by omega) ⟨⟨xa, hxa, rfl⟩, ⟨ya, hya, rfl⟩, hne, ⟨pa, hp1, hp2, rfl⟩, ⟨ra, hr1, hr2, rfl⟩, Or.inl rfl, ⟨0, by omega, by omega, nI_0.symm⟩⟩
          refine mA (v := nI (gOffer s.1 (nI xa, nI ya, nI pa, nI ra, -9, 0)).2.2.2.2.length - 1) (g := gOffer s.1 (nI xa, nI ya, nI pa, nI ra, -9, 0)) hC hM hv (V_mono hV2 (Nat.le_succ n)) (fun S hS => ?_) (fun S hS => ?_)
          · unfold f_X10_offer B_X10_offer_48
            rw [nCi hS.1 hc hc9, hx, nd_t, nCi hS.1 hc hc9, hy, nd_t, nDi, h1, nd_t, nRa, h2, nd_t, nRa, h3, nd_t, hfull S hS.1, gbiN, decide_eq_false h8, if_pos (by decide)]
            rw [show f_X10_needAllowed 1 S = nd 3 true S from nAl true S, nd_t]
            refine C_act (mk := fun S1 => (0, nI (gOffer s.1 (nI xa, nI ya, nI pa, nI ra, -9, 0)).2.2.2.2.length - 1, S1)) hv hS (fun S0 h0 => ?_)
            obtain ⟨S1, e1, c1, f1⟩ := C_offer (a1 := nI xa) (a2 := nI ya) (a3 := nI pa) (a4 := nI ra) h0 (by omega)
            exact ⟨S1, by rw [e1, gbvN, c1.2.2.2.2.1], c1, Fb.f f1⟩
          · rw [e1]
            unfold B_X11_offer_35 B_X11_offer_83
            rw [M_isCity hS.1 hc hc9, gbiN, hx, if_neg (by decide), M_isCity hS.1 hc hc9, gbiN, hy, if_neg (by decide), if_neg (by decide), gck_c2, ix_c2, hS.1.2.2.2.2.1, if_neg (by rw [show (8 : Int32) = nI 8 from rfl, nI_inj (by omega) (by omega)]; exact h8), ref_0, gbiN, if_pos rfl]
            refine M_act0 hv hS (fun S0 h0 => ?_)
            obtain ⟨S1, e1, c1, f1⟩ := M_offer (a1 := nI xa) (a2 := nI ya) (a3 := nI pa) (a4 := nI ra) h0 hvl (by omega)
            exact ⟨S1, by rw [e1, gbvN, gck_c2, c1.2.2.2.2.1], c1, FrP.o (Or.inl rfl) f1⟩
