/-! ===== simulated rounds: the reference ===== -/
theorem M_dealC {d i c n : Nat} {g : Game} {S : Sg} {x3 x6 : Int32} {x4 : Int64} {K : Sg → Int32 → Int64 → Int32 → Option (Int32 × Sg)} (h : MP g (S 396)) (hV : V c n g) (hd : d < 2147483648) (hi : i < 4) : ∃ S', B_X11_simulate_195 K S x3 x4 x6 (nI d) (nI i) (nI (d / 32)) = B_X11_simulate_251 K S' x3 x4 x6 ∧ MP (if d % 8 = 2 then gDealC g i (d / 32 % g.2.2.2.2.length) else g) (S' 396) ∧ FrP 396 S S' := by
  have hv := hV.vl
  have h8 := hv.2.2.1
  have hr8 : nI d - nI d / 8 * 8 = nI (d % 8) := rem_nI (a := d) (d := 8) hd (by omega) (by omega)
  have hm8 : d % 8 < 8 := Nat.mod_lt _ (by omega)
  unfold B_X11_simulate_195
  rw [hr8]
  by_cases e2 : d % 8 = 2
  · rw [if_pos (by rw [e2]; rfl), if_pos e2, gck_c2, ix_c2, h.2.2.2.2.1]
    by_cases el : g.2.2.2.2.length = 0
    · rw [if_pos (by rw [el]; exact Int32.le_refl _)]
      refine ⟨S, rfl, ?_, FrP.rf S⟩
      unfold gDealC
      rw [List.getElem?_eq_none (by omega)]
      exact h
    · rw [if_neg (by rw [show (0 : Int32) = nI 0 from rfl, nIle (by omega) (by omega)]; omega), gck_c2, gck_ok (by rw [decide_eq_false (by rw [show (0 : Int32) = nI 0 from rfl, nI_inj (by omega) (by omega)]; exact el)]; rfl), rem_nI (by omega) (by omega) (by omega)]
      obtain ⟨a, ha⟩ := some_of_lt (l := g.2.2.2.2) (k := d / 32 % g.2.2.2.2.length) (Nat.mod_lt _ (by omega))
      rw [M_canTake h hv ha, gbiN]
      unfold gDealC
      rw [ha]
      simp only
      by_cases e : a.2.2.2.2.1 = -9
      · obtain ⟨S1, q1, c1, f1⟩ := M_take h hv hi ha
        rw [if_neg (by rw [decide_eq_true e]; decide), gck_c2, h.2.2.2.2.1, gck_ok (by rw [decide_eq_false (by rw [show (0 : Int32) = nI 0 from rfl, nI_inj (by omega) (by omega)]; exact el)]; rfl), rem_nI (by omega) (by omega) (by omega), q1, gbiN, if_pos e]
        exact ⟨S1, rfl, c1, FrP.o (Or.inr rfl) f1⟩
      · rw [if_pos (by rw [decide_eq_false e]; decide), if_neg e]
        exact ⟨S, rfl, h, FrP.rf S⟩
  · rw [if_neg (by rw [show (2 : Int32) = nI 2 from rfl, nI_inj (by omega) (by omega)]; exact e2), if_neg e2]
    exact ⟨S, rfl, h, FrP.rf S⟩
theorem M_dealT {d i c n : Nat} {g : Game} {S : Sg} {x3 x6 : Int32} {x4 : Int64} {K : Sg → Int32 → Int64 → Int32 → Option (Int32 × Sg)} (h : MP g (S 396)) (hV : V c n g) (hd : d < 2147483648) (hi : i < 4) : ∃ S', B_X11_simulate_134 K S x3 x4 x6 (nI d) (nI i) (nI (d / 32)) = B_X11_simulate_251 K S' x3 x4 x6 ∧ MP (if d % 8 = 1 then gDealT g i (d / 32 % g.2.1.length) else if d % 8 = 2 then gDealC g i (d / 32 % g.2.2.2.2.length) else g) (S' 396) ∧ FrP 396 S S' := by
  have hv := hV.vl
  have h16 := hv.1
  have hr8 : nI d - nI d / 8 * 8 = nI (d % 8) := rem_nI (a := d) (d := 8) hd (by omega) (by omega)
  have hm8 : d % 8 < 8 := Nat.mod_lt _ (by omega)
  have hC := M_dealC (S := S) (x3 := x3) (x6 := x6) (x4 := x4) (K := K) h hV hd hi
  unfold B_X11_simulate_134
  rw [hr8]
  by_cases e1 : d % 8 = 1
  · have e2 : ¬ d % 8 = 2 := by omega
    rw [if_neg e2] at hC
    rw [if_pos (by rw [e1]; rfl), if_pos e1, gck_c1, ix_c1, h.2.1.1]
    by_cases el : g.2.1.length = 0
    · rw [if_pos (by rw [el]; exact Int32.le_refl _)]
      unfold gDealT
      rw [List.getElem?_eq_none (by omega)]
      exact hC
    · rw [if_neg (by rw [show (0 : Int32) = nI 0 from rfl, nIle (by omega) (by omega)]; omega), gck_c1, gck_ok (by rw [decide_eq_false (by rw [show (0 : Int32) = nI 0 from rfl, nI_inj (by omega) (by omega)]; exact el)]; rfl), rem_nI (by omega) (by omega) (by omega)]
      obtain ⟨a, ha⟩ := some_of_lt (l := g.2.1) (k := d / 32 % g.2.1.length) (Nat.mod_lt _ (by omega))
      rw [M_mayT h hv hi ha, gbiN]
      unfold gDealT
      rw [ha]
      simp only
      by_cases e : mayT g i a = true
      · obtain ⟨S1, q1, c1, f1⟩ := M_sellT h hv hi ha
        rw [if_neg (by rw [e]; decide), gck_c1, h.2.1.1, gck_ok (by rw [decide_eq_false (by rw [show (0 : Int32) = nI 0 from rfl, nI_inj (by omega) (by omega)]; exact el)]; rfl), rem_nI (by omega) (by omega) (by omega), q1, gbiN, if_pos e]
        exact ⟨S1, rfl, c1, FrP.o (Or.inr rfl) f1⟩
      · rw [if_pos (by rw [Bool.not_eq_true] at e; rw [e]; decide), if_neg e]
        exact hC
  · rw [if_neg (by rw [show (1 : Int32) = nI 1 from rfl, nI_inj (by omega) (by omega)]; exact e1), if_neg e1]
    exact hC
theorem M_sim_loop {c M : Nat} : ∀ (m k n : Nat) (g : Game) (x : Int64) (S : Sg) (fu : Nat), k + m = M → M ≤ 50 → m < fu → MP g (S 396) → V c n g → ∃ S', L_X11_simulate_45 fu S (nI M) x (nI k) = some (gwM (gSims g x m) 1 3 (gWorth (gSims g x m) 0) + 10000 * (gSims g x m).1 3, S') ∧ FrP 396 S S' := by
  intro m
  induction m with
  | zero =>
    intro k n g x S fu hk hM hf h hV
    obtain ⟨f, rfl, -⟩ := fuS hf
    refine ⟨S, ?_, FrP.rf S⟩
    show Lb_X11_simulate_45 _ S (nI M) x (nI k) = _
    unfold Lb_X11_simulate_45
    rw [if_pos (by rw [nIle (by omega) (by omega)]; omega)]
    have e0 := M_worth (p := 396) (i := 0) h hV.vl (by omega)
    rw [nI_0] at e0
    rw [e0, gbiN]
    exact M_gw_loop h hV.vl 3 1 _ gFu rfl (by unfold gFu; omega)
  | succ m ih =>
    intro k n g x S fu hk hM hf h hV
    obtain ⟨f, rfl, hf⟩ := fuS hf
    have hv := hV.vl
    obtain ⟨hd, hdx⟩ := dr_ok (nx x)
    have hi : dr (nx x) / 8 % 4 < 4 := Nat.mod_lt _ (by omega)
    have hm8 : dr (nx x) % 8 < 8 := Nat.mod_lt _ (by omega)
    have hm6 : dr (nx x) / 32 % 6 < 6 := Nat.mod_lt _ (by omega)
    -- after the deal
    have go : ∀ S1, MP (gDeal g (dr (nx x))) (S1 396) → FrP 396 S S1 → ∃ S', B_X11_simulate_251 (L_X11_simulate_45 f) S1 (nI M) (nx x) (nI k) = some (gwM (gSims g x (m + 1)) 1 3 (gWorth (gSims g x (m + 1)) 0) + 10000 * (gSims g x (m + 1)).1 3, S') ∧ FrP 396 S S' := by
      intro S1 c1 f1
      have v1 := V_deal (d := dr (nx x)) hV
      obtain ⟨S2, e2, c2, f2⟩ := M_runs (Or.inr rfl) c1 v1
      obtain ⟨S3, e3, c3, f3⟩ := M_end c2 (V_runs v1).vl (fun z hz => ((V_runs v1).2.2.2.2.2.2 z hz).2.2.2.2.1)
      have c3m : MP (gSim g (dr (nx x))) (S3 396) := c3
      obtain ⟨S4, e4, f4⟩ := ih (k + 1) (n + 1) (gSim g (dr (nx x))) (nx x) S3 f (by omega) hM (by omega) c3m (V_sim hV)
      refine ⟨S4, ?_, ((f1.tr f2).tr (FrP.o (Or.inr rfl) f3)).tr f4⟩
      unfold B_X11_simulate_251
      rw [e2, gbvN, e3, gbiN, gviN, nI_s]
      exact e4
    have hr4 : nI (dr (nx x) / 8) - nI (dr (nx x) / 8) / 4 * 4 = nI (dr (nx x) / 8 % 4) := rem_nI (a := dr (nx x) / 8) (d := 4) (by omega) (by omega) (by omega)
    have hd8 : nI (dr (nx x)) / 8 = nI (dr (nx x) / 8) := div_nI (d := 8) hd (by omega) (by omega)
    have hd32 : nI (dr (nx x)) / 32 = nI (dr (nx x) / 32) := div_nI (d := 32) hd (by omega) (by omega)
    have hr8 : nI (dr (nx x)) - nI (dr (nx x)) / 8 * 8 = nI (dr (nx x) % 8) := rem_nI (d := 8) hd (by omega) (by omega)
    have hr6 : (1 : Int32) + (nI (dr (nx x) / 32) - nI (dr (nx x) / 32) / 6 * 6) = nI (1 + dr (nx x) / 32 % 6) := by
      have q := rem_nI (a := dr (nx x) / 32) (d := 6) (by omega) (by omega) (by omega)
      rw [show nI 6 = (6 : Int32) from rfl] at q
      rw [q, show (1 : Int32) = nI 1 from rfl, nI_add]
    show ∃ S', Lb_X11_simulate_45 _ S (nI M) x (nI k) = _ ∧ _
    unfold Lb_X11_simulate_45
    rw [if_neg (by rw [nIle (by omega) (by omega)]; omega), gvlN, nx_eq, hdx, gviN, hr8, hd8, hr4, gviN, hd32, gviN, hr6]
    by_cases e0 : dr (nx x) % 8 = 0
    · have hg : gDeal g (dr (nx x)) = gDealN g (dr (nx x) / 8 % 4) (nI (1 + dr (nx x) / 32 % 6)) := by unfold gDeal; rw [if_pos e0]
      rw [if_pos (by rw [e0]; rfl), M_mayN h hv hi, gbiN]
      by_cases e : mayN g (dr (nx x) / 8 % 4) (nI (1 + dr (nx x) / 32 % 6)) = true
      · obtain ⟨ph, p1, p6, hp⟩ := hV.2.1
        obtain ⟨S1, e1, c1, f1⟩ := M_sellN (lv := nI (1 + dr (nx x) / 32 % 6)) h hv hi (mayN_len e) (mayN_up hp p6 (by omega) e)
        rw [if_neg (by rw [e]; decide), e1, gbiN]
        refine go S1 ?_ (FrP.o (Or.inr rfl) f1)
        rw [hg]
        unfold gDealN
        rw [if_pos e]
        exact c1
      · rw [if_pos (by rw [Bool.not_eq_true] at e; rw [e]; decide)]
        obtain ⟨S1, e1, c1, f1⟩ := M_dealT (S := S) (x3 := nI M) (x6 := nI k) (x4 := nx x) (K := L_X11_simulate_45 f) h hV hd hi
        rw [e1]
        refine go S1 ?_ f1
        rw [if_neg (by omega), if_neg (by omega)] at c1
        rw [hg]
        unfold gDealN
        rw [if_neg e]
        exact c1
    · rw [if_neg (by rw [show (0 : Int32) = nI 0 from rfl, nI_inj (by omega) (by omega)]; exact e0)]
      obtain ⟨S1, e1, c1, f1⟩ := M_dealT (S := S) (x3 := nI M) (x6 := nI k) (x4 := nx x) (K := L_X11_simulate_45 f) h hV hd hi
      rw [e1]
      refine go S1 ?_ f1
      unfold gDeal
      rw [if_neg e0]
      exact c1
