/-! ===== simulated rounds ===== -/
def gDealT (g : Game) (i t : Nat) : Game := match g.2.1[t]? with
  | none => g
  | some a => if mayT g i a = true then gSellT g i t a else g
def gDealC (g : Game) (i k : Nat) : Game := match g.2.2.2.2[k]? with
  | none => g
  | some a => if a.2.2.2.2.1 = -9 then gTake g i k a else g
def gDealN (g : Game) (i : Nat) (lv : Int32) : Game := if mayN g i lv = true then gSellN g i lv else g
def gDeal (g : Game) (d : Nat) : Game :=
  if d % 8 = 0 then gDealN g (d / 8 % 4) (nI (1 + d / 32 % 6))
  else if d % 8 = 1 then gDealT g (d / 8 % 4) (d / 32 % g.2.1.length)
  else if d % 8 = 2 then gDealC g (d / 8 % 4) (d / 32 % g.2.2.2.2.length)
  else g
theorem mayN_len {g : Game} {i : Nat} {lv : Int32} (h : mayN g i lv = true) : (g.2.2.2.1 i).length < 4 := by
  unfold mayN at h
  simp only [Bool.and_eq_true, decide_eq_true_eq] at h
  exact h.1.2
theorem mayN_up {g : Game} {i lv ph : Nat} (hp : g.1 3 = nI ph) (hp6 : ph ≤ 6) (hl : lv ≤ 6) (h : mayN g i (nI lv) = true) : g.1 3 < nI lv → g.1 3 + 1 = nI lv := by
  unfold mayN at h
  simp only [Bool.and_eq_true, decide_eq_true_eq] at h
  rw [hp] at h ⊢
  intro q
  have h1 := h.1.1.2
  rw [nI_s, nIle (by omega) (by omega)] at h1
  rw [nIlt (by omega) (by omega)] at q
  rw [nI_s]
  congr 1
  omega
theorem V_dealN {c n i lv : Nat} {g : Game} (h : V c n g) (hi : i < 4) (h1 : 1 ≤ lv) (h6 : lv ≤ 6) : V c n (gDealN g i (nI lv)) := by
  unfold gDealN
  split
  · rename_i e
    exact V_sellN h hi (mayN_len e) ⟨lv, h1, h6, rfl⟩
  · exact h
theorem V_deal {c n d : Nat} {g : Game} (h : V c n g) : V c n (gDeal g d) := by
  have hi : d / 8 % 4 < 4 := Nat.mod_lt _ (by omega)
  unfold gDeal
  split
  · exact V_dealN h hi (by omega) (by have := Nat.mod_lt (d / 32) (show 6 > 0 by omega); omega)
  · split
    · unfold gDealT
      split
      · exact h
      · rename_i a ha
        split
        · exact V_sellT h hi ha
        · exact h
    · split
      · unfold gDealC
        split
        · exact h
        · rename_i a ha
          split
          · exact V_take h hi ha
          · exact h
      · exact h
theorem C_tryN {b i lv : Nat} {g : Game} {S : Sg} (h : CP b g S) (hv : VL g) (hi : i < 4) (h1 : 1 ≤ lv) (h6 : lv ≤ 6) : ∃ S', f_X7_tryTrain b (nI i) (nI lv) S = some (bI (mayN g i (nI lv)), S') ∧ CP b (gDealN g i (nI lv)) S' ∧ Fr b S S' := by
  unfold f_X7_tryTrain gDealN
  rw [C_mayN h hv hi (by rw [show (1 : Int32) = nI 1 from rfl, nIlt (by omega) (by omega)]; omega) (by rw [show (6 : Int32) = nI 6 from rfl, nIlt (by omega) (by omega)]; omega), gbiN]
  by_cases e : mayN g i (nI lv) = true
  · obtain ⟨S1, e1, c1, f1⟩ := C_sellN (lv := nI lv) h hv hi (mayN_len e)
    rw [if_neg (by rw [e]; decide), e1, gbiN, gck_ok (isb_bI _), if_pos e]
    exact ⟨S1, rfl, c1, f1⟩
  · rw [if_pos (by rw [Bool.not_eq_true] at e; rw [e]; decide), gck_ok (isb_bI _), if_neg e]
    exact ⟨S, rfl, h, Fr.rf⟩
theorem C_tryT {b i t : Nat} {g : Game} {S : Sg} {a : T4} (h : CP b g S) (hv : VL g) (hi : i < 4) (ht : g.2.1[t]? = some a) : ∃ S', f_X7_tryTrack b (nI i) (nI t) S = some (bI (mayT g i a), S') ∧ CP b (gDealT g i t) S' ∧ Fr b S S' := by
  unfold f_X7_tryTrack gDealT
  rw [C_mayT h hv hi ht, gbiN, ht]
  simp only
  by_cases e : mayT g i a = true
  · obtain ⟨S1, e1, c1, f1⟩ := C_sellT h hv hi ht
    rw [if_neg (by rw [e]; decide), e1, gbvN, gck_ok (isb_bI _), if_pos e]
    exact ⟨S1, rfl, c1, f1⟩
  · rw [if_pos (by rw [Bool.not_eq_true] at e; rw [e]; decide), gck_ok (isb_bI _), if_neg e]
    exact ⟨S, rfl, h, Fr.rf⟩
theorem C_tryC {b i k : Nat} {g : Game} {S : Sg} {a : T6} (h : CP b g S) (hv : VL g) (hi : i < 4) (hk : g.2.2.2.2[k]? = some a) : ∃ S', f_X7_tryContract b (nI i) (nI k) S = some (bI (decide (a.2.2.2.2.1 = -9)), S') ∧ CP b (gDealC g i k) S' ∧ Fr b S S' := by
  unfold f_X7_tryContract gDealC
  rw [C_mayG h hv hi hk, gbiN, hk]
  simp only
  by_cases e : a.2.2.2.2.1 = -9
  · obtain ⟨S1, e1, c1, f1⟩ := C_give h hv hi hk
    rw [if_neg (by rw [decide_eq_true e]; decide), e1, gbvN, gck_ok (isb_bI _), if_pos e]
    exact ⟨S1, rfl, c1, f1⟩
  · rw [if_pos (by rw [decide_eq_false e]; decide), gck_ok (isb_bI _), if_neg e]
    exact ⟨S, rfl, h, Fr.rf⟩
theorem C_tryT_no {b i : Nat} {S : Sg} (hi : i < 4) : f_X7_tryTrack b (nI i) (-9) S = some (0, S) := by
  unfold f_X7_tryTrack
  rw [C_mayT_not hi (C_hasT_neg m9_neg), gbiN, if_pos rfl, gck_ok (by decide)]
theorem C_tryC_no {b i : Nat} {S : Sg} (hi : i < 4) : f_X7_tryContract b (nI i) (-9) S = some (0, S) := by
  unfold f_X7_tryContract
  rw [C_mayG_not hi (C_hasC_neg m9_neg), gbiN, if_pos rfl, gck_ok (by decide)]
theorem div_nI {a d : Nat} (ha : a < 2147483648) (h0 : 0 < d) (hd : d < 2147483648) : nI a / nI d = nI (a / d) := pk_div ha h0 hd
theorem rem_nI {a d : Nat} (ha : a < 2147483648) (h0 : 0 < d) (hd : d < 2147483648) : nI a - nI a / nI d * nI d = nI (a % d) := pk_rem ha h0 hd
theorem C_deal {b c n d : Nat} {g : Game} {S : Sg} (h : CP b g S) (hV : V c n g) (hd : d < 2147483648) : ∃ S', f_X7_dealByChance b (nI d) S = some S' ∧ CP b (gDeal g d) S' ∧ Fr b S S' := by
  have hv := hV.vl
  have h16 := hv.1
  have h8 := hv.2.2.1
  have hi : d / 8 % 4 < 4 := Nat.mod_lt _ (by omega)
  have hr8 : nI d - nI (d / 8) * nI 8 = nI (d % 8) := by
    have q := rem_nI (a := d) (d := 8) hd (by omega) (by omega)
    rw [div_nI hd (by omega) (by omega)] at q
    exact q
  unfold f_X7_dealByChance B_X7_dealByChance_85 B_X7_dealByChance_118 gDeal
  rw [show (8 : Int32) = nI 8 from rfl, show (4 : Int32) = nI 4 from rfl, show (32 : Int32) = nI 32 from rfl, show (6 : Int32) = nI 6 from rfl, div_nI hd (by omega) (by omega), rem_nI (by omega) (by omega) (by omega), gviN, div_nI hd (by omega) (by omega), gviN, hr8, rem_nI (by omega) (by omega) (by omega)]
  have hm8 : d % 8 < 8 := Nat.mod_lt _ (by omega)
  by_cases e0 : d % 8 = 0
  · rw [if_pos (by rw [e0]; rfl), if_pos e0, show (1 : Int32) = nI 1 from rfl, nI_add]
    obtain ⟨S1, e1, c1, f1⟩ := C_tryN (lv := 1 + d / 32 % 6) h hv hi (by omega) (by have := Nat.mod_lt (d / 32) (show 6 > 0 by omega); omega)
    rw [e1, gbiN]
    exact ⟨S1, rfl, c1, f1⟩
  · rw [if_neg (by rw [show (0 : Int32) = nI 0 from rfl, nI_inj (by omega) (by omega)]; exact e0), if_neg e0]
    by_cases e1 : d % 8 = 1
    · rw [if_pos (by rw [e1]; rfl), if_pos e1, h.2.1.1]
      by_cases el : g.2.1.length = 0
      · rw [if_pos (by rw [el]; exact Int32.le_refl _), C_tryT_no hi, gbiN]
        refine ⟨S, rfl, ?_, Fr.rf⟩
        unfold gDealT
        rw [List.getElem?_eq_none (by omega)]
        exact h
      · rw [if_neg (by rw [show (0 : Int32) = nI 0 from rfl, nIle (by omega) (by omega)]; omega), gck_ok (by rw [decide_eq_false (by rw [show (0 : Int32) = nI 0 from rfl, nI_inj (by omega) (by omega)]; exact el)]; rfl), rem_nI (by omega) (by omega) (by omega)]
        obtain ⟨a, ha⟩ := some_of_lt (l := g.2.1) (k := d / 32 % g.2.1.length) (Nat.mod_lt _ (by omega))
        obtain ⟨S1, q1, c1, f1⟩ := C_tryT h hv hi ha
        rw [q1, gbiN]
        exact ⟨S1, rfl, c1, f1⟩
    · rw [if_neg (by rw [show (1 : Int32) = nI 1 from rfl, nI_inj (by omega) (by omega)]; exact e1), if_neg e1]
      by_cases e2 : d % 8 = 2
      · rw [if_pos (by rw [e2]; rfl), if_pos e2, h.2.2.2.2.1]
        by_cases el : g.2.2.2.2.length = 0
        · rw [if_pos (by rw [el]; exact Int32.le_refl _), C_tryC_no hi, gbiN]
          refine ⟨S, rfl, ?_, Fr.rf⟩
          unfold gDealC
          rw [List.getElem?_eq_none (by omega)]
          exact h
        · rw [if_neg (by rw [show (0 : Int32) = nI 0 from rfl, nIle (by omega) (by omega)]; omega), gck_ok (by rw [decide_eq_false (by rw [show (0 : Int32) = nI 0 from rfl, nI_inj (by omega) (by omega)]; exact el)]; rfl), rem_nI (by omega) (by omega) (by omega)]
          obtain ⟨a, ha⟩ := some_of_lt (l := g.2.2.2.2) (k := d / 32 % g.2.2.2.2.length) (Nat.mod_lt _ (by omega))
          obtain ⟨S1, q1, c1, f1⟩ := C_tryC h hv hi ha
          rw [q1, gbiN]
          exact ⟨S1, rfl, c1, f1⟩
      · rw [if_neg (by rw [show (2 : Int32) = nI 2 from rfl, nI_inj (by omega) (by omega)]; exact e2), if_neg e2]
        exact ⟨S, rfl, h, Fr.rf⟩
/-- a simulated round -/
def gSim (g : Game) (d : Nat) : Game := gEnd (gRuns (gDeal g d))
theorem V_sim {c n d : Nat} {g : Game} (h : V c n g) : V c (n + 1) (gSim g d) := V_end (V_runs (V_deal h))
def nx (x : Int64) : Int64 := x * 6364136223846793005 + 1442695040888963407
def dr (x : Int64) : Nat := (((x.toUInt64 >>> ((33 : Int32).toInt64.toUInt64 &&& Int64.toUInt64 63)).toInt64).toInt32).toNatClampNeg
theorem dr_ok (x : Int64) : dr x < 2147483648 ∧ (((x.toUInt64 >>> ((33 : Int32).toInt64.toUInt64 &&& Int64.toUInt64 63)).toInt64).toInt32) = nI (dr x) := by
  obtain ⟨d, hd, e⟩ := drawn_ok x
  unfold dr
  rw [e, nI_c hd]
  exact ⟨hd, rfl⟩
def gSims (g : Game) (x : Int64) : Nat → Game
  | 0 => g
  | m + 1 => gSims (gSim g (dr (nx x))) (nx x) m
theorem gvlN {α : Type} {x : Int64} {k : Int64 → Option α} : gvl x k = k x := Eq.trans gvl_ok (Eq.refl _)
theorem nx_eq (x : Int64) : x * 6364136223846793005 + 1442695040888963407 = nx x := by unfold nx; rfl
theorem C_sim_loop {c M : Nat} : ∀ (m k n : Nat) (g : Game) (x : Int64) (S : Sg) (fu : Nat), k + m = M → M ≤ 50 → m < fu → CP 35 g S → V c n g → ∃ S', L_X10_simulate_24 fu S (nI M) x (nI k) = some (0, gwM (gSims g x m) 1 3 (gWorth (gSims g x m) 0) + 10000 * (gSims g x m).1 3, S') ∧ Fb 35 S S' := by
  intro m
  induction m with
  | zero =>
    intro k n g x S fu hk hM hf h hV
    obtain ⟨f, rfl, -⟩ := fuS hf
    refine ⟨S, ?_, Fb.rf S⟩
    show Lb_X10_simulate_24 _ S (nI M) x (nI k) = _
    unfold Lb_X10_simulate_24
    rw [if_pos (by rw [nIle (by omega) (by omega)]; omega), C_gw h hV.vl, gbiN, h.1.2.1]
    rfl
  | succ m ih =>
    intro k n g x S fu hk hM hf h hV
    obtain ⟨f, rfl, hf⟩ := fuS hf
    have hd := dr_ok (nx x)
    obtain ⟨S1, e1, c1, f1⟩ := C_deal h hV hd.1
    obtain ⟨S2, e2, c2, f2⟩ := C_runs (by omega) c1 (V_deal hV)
    obtain ⟨S3, e3, c3, f3⟩ := C_close c2 (V_runs (V_deal hV)).vl
    have c3m : CP 35 (gSim g (dr (nx x))) S3 := c3
    obtain ⟨S4, e4, f4⟩ := ih (k + 1) (n + 1) (gSim g (dr (nx x))) (nx x) S3 f (by omega) hM (by omega) c3m (V_sim hV)
    refine ⟨S4, ?_, ((Fb.f f1).tr f2).tr ((Fb.f f3).tr f4)⟩
    show Lb_X10_simulate_24 _ S (nI M) x (nI k) = _
    unfold Lb_X10_simulate_24
    rw [if_neg (by rw [nIle (by omega) (by omega)]; omega)]
    rw [gvlN, nx_eq, hd.2, e1, gbvN, e2, gbvN, e3, gbiN, gviN, nI_s]
    exact e4

