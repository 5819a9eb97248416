/-! ===== rounds that are simulated ===== -/
theorem st_co0 {a : Nat} : ∀ (m i : Nat) (g : Game), (gSt g i m).2.2.1 a 0 = if i ≤ a ∧ a < i + m ∧ ¬ 0 ≤ g.2.2.1 a 0 then 0 else g.2.2.1 a 0 := by
  intro m
  induction m with
  | zero => intro i g; show g.2.2.1 a 0 = _; rw [if_neg (by omega)]
  | succ m ih =>
    intro i g
    show (gSt (if 0 ≤ g.2.2.1 i 0 then g else gBr2 g i) (i + 1) m).2.2.1 a 0 = _
    rw [ih]
    by_cases h0 : 0 ≤ g.2.2.1 i 0
    · rw [if_pos h0]
      by_cases e : a = i
      · subst e
        rw [if_neg (by omega), if_neg (fun q => q.2.2 h0)]
      · by_cases h1 : i + 1 ≤ a ∧ a < i + 1 + m ∧ ¬ 0 ≤ g.2.2.1 a 0
        · rw [if_pos h1, if_pos ⟨by omega, by omega, h1.2.2⟩]
        · rw [if_neg h1, if_neg (fun q => h1 ⟨by omega, by omega, q.2.2⟩)]
    · rw [if_neg h0, br2_co0]
      by_cases e : a = i
      · subst e
        rw [if_pos rfl, if_neg (by omega), if_pos ⟨by omega, by omega, h0⟩]
      · rw [if_neg e]
        by_cases h1 : i + 1 ≤ a ∧ a < i + 1 + m ∧ ¬ 0 ≤ g.2.2.1 a 0
        · rw [if_pos h1, if_pos ⟨by omega, by omega, h1.2.2⟩]
        · rw [if_neg h1, if_neg (fun q => h1 ⟨by omega, by omega, q.2.2⟩)]
theorem zr_co {g : Game} {v : Int32} : (gZr (gSc g 4 v)).2.2.1 = g.2.2.1 := rfl
theorem end_co0 {g : Game} {a : Nat} (ha : a < 4) : (gEnd g).2.2.1 a 0 = if 0 ≤ (gMid g).2.2.1 a 0 then (gMid g).2.2.1 a 0 else 0 := by
  unfold gEnd gSet
  rw [zr_co, st_co0]
  by_cases h : 0 ≤ (gMid g).2.2.1 a 0
  · rw [if_pos h, if_neg (fun q => q.2.2 h)]
  · rw [if_neg h, if_pos ⟨by omega, by omega, h⟩]
theorem end_nn {g : Game} {a : Nat} (ha : a < 4) : 0 ≤ (gEnd g).2.2.1 a 0 := by
  rw [end_co0 ha]
  split
  · assumption
  · decide
theorem st_sc {j : Nat} (h5 : j ≠ 5) (h9 : j ≠ 9) : ∀ (m i : Nat) (g : Game), (gSt g i m).1 j = g.1 j := by
  intro m
  induction m with
  | zero => intro i g; rfl
  | succ m ih =>
    intro i g
    show (gSt (if 0 ≤ g.2.2.1 i 0 then g else gBr2 g i) (i + 1) m).1 j = _
    rw [ih]
    split
    · rfl
    · show (if j = 9 then _ else if j = 5 then _ else g.1 j) = _
      rw [if_neg h9, if_neg h5]
theorem zr_sc {g : Game} {v : Int32} {j : Nat} (h4 : j ≠ 4) : (gZr (gSc g 4 v)).1 j = g.1 j := by
  show (if j = 4 then v else g.1 j) = _
  rw [if_neg h4]
theorem zr_4 {g : Game} {v : Int32} : (gZr (gSc g 4 v)).1 4 = v := rfl
theorem end_ph {g : Game} : (gEnd g).1 3 = g.1 3 := by
  unfold gEnd gSet
  rw [zr_sc (by omega), st_sc (by omega) (by omega), mid_fr.1]
theorem Wf_deal {c m N d : Nat} {g : Game} (hV : V c m g) (h : Wf N g) (hN : N ≤ 800000000) : Wf (N + 5000) (gDeal g d) := by
  have h0 : Wf (N + 5000) g := Wf_mono h (by omega)
  have hi : d / 8 % 4 < 4 := Nat.mod_lt _ (by omega)
  unfold gDeal
  split
  · have hl : 1 ≤ 1 + d / 32 % 6 ∧ 1 + d / 32 % 6 ≤ 6 := by omega
    unfold gDealN
    split
    · rename_i hm
      exact Wf_sellN hV h hi hm hl.1 hl.2 hN
    · exact h0
  · split
    · unfold gDealT
      split
      · exact h0
      · rename_i a ha
        split
        · exact Wf_sellT hV h hi ha hN
        · exact h0
    · split
      · unfold gDealC
        split
        · exact h0
        · rename_i a ha
          split
          · exact Wf_take hV h hi ha
          · exact h0
      · exact h0
theorem ph_deal {c m d : Nat} {g : Game} (hV : V c m g) : g.1 3 ≤ (gDeal g d).1 3 := by
  unfold gDeal
  split
  · unfold gDealN
    split
    · unfold gSellN
      split
      · rename_i hm hlt
        exact Int32.le_of_lt hlt
      · exact Int32.le_refl _
    · exact Int32.le_refl _
  · split
    · unfold gDealT
      split
      · exact Int32.le_refl _
      · split <;> exact Int32.le_refl _
    · split
      · unfold gDealC
        split
        · exact Int32.le_refl _
        · split <;> exact Int32.le_refl _
      · exact Int32.le_refl _
theorem Wf_rnJ {c m N k i : Nat} {a : T6} {g : Game} (hV : V c m g) (h : Wf N g) (hi : i < 4) (hk : g.2.2.2.2[k]? = some a) (ha : a.2.2.2.2.1 = nI i) (hN : N ≤ 800000000) : ∀ (l : List T2) (j : Nat), (g.2.2.2.1 i).drop j = l → Wf (N + 5000) (rnJ g i k a l j) ∧ (rnJ g i k a l j).1 3 = g.1 3 := by
  intro l
  induction l with
  | nil => intro j _; exact ⟨Wf_mono h (by omega), rfl⟩
  | cons t l ih =>
    intro j hj
    have ht : (g.2.2.2.1 i)[j]? = some t := by
      have := congrArg (fun l => l[0]?) hj
      simpa using this
    have hl : (g.2.2.2.1 i).drop (j + 1) = l := by
      have := congrArg List.tail hj
      simpa using this
    unfold rnJ
    split
    · obtain ⟨q, q1, q6, eq⟩ := ((hV.2.2.2.2.1 i hi).2 t (mem_get ht)).1
      have hlen : (wP (wks g i) a.2.1.toNatClampNeg a.1.toNatClampNeg (4 * t.1.toNatClampNeg)).length ≤ 24 := by
        have h4 := wP_len (goal := a.2.1.toNatClampNeg) (a := a.1.toNatClampNeg) (rr := 4 * t.1.toNatClampNeg) (fun t ht => ((wks_ok (i := i) hV).1.2 t ht).2.2.2.1)
        rw [eq, nI_c (by omega)] at h4 ⊢
        omega
      exact ⟨Wf_car hV h hi hk ht ha hlen hN, (path_fr _ g).1⟩
    · exact ih (j + 1) hl
theorem Wf_rnK {c m N k : Nat} {g : Game} (hV : V c m g) (h : Wf N g) (hN : N ≤ 800000000) : Wf (N + 5000) (rnK g k) ∧ (rnK g k).1 3 = g.1 3 := by
  unfold rnK
  split
  · exact ⟨Wf_mono h (by omega), rfl⟩
  · rename_i a ha
    split
    · exact ⟨Wf_mono h (by omega), rfl⟩
    · rename_i h9
      rcases (hV.2.2.2.2.2.2 a (mem_get ha)).2.2.2.2.2.1 with q | ⟨i, hi, q⟩
      · exact absurd q h9
      · rw [q, nI_c (by omega)]
        exact Wf_rnJ hV h hi ha q hN _ 0 List.drop_zero
theorem Wf_rnA {c m : Nat} : ∀ (d k N : Nat) (g : Game), V c m g → Wf N g → N + 5000 * d ≤ 800000000 → Wf (N + 5000 * d) (rnA g k d) ∧ (rnA g k d).1 3 = g.1 3 := by
  intro d
  induction d with
  | zero => intro k N g _ h _; exact ⟨h, rfl⟩
  | succ d ih =>
    intro k N g hV h hN
    obtain ⟨h1, h2⟩ := Wf_rnK (k := k) hV h (by omega)
    obtain ⟨h3, h4⟩ := ih (k + 1) (N + 5000) (rnK g k) (rnK_v hV).1 h1 (by omega)
    exact ⟨Wf_mono h3 (by omega), h4.trans h2⟩
theorem Wf_sim {c m N d : Nat} {g : Game} (hV : V c m g) (h : Wf N g) (hN : N ≤ 700000000) : Wf (N + 50000) (gSim g d) ∧ g.1 3 ≤ (gSim g d).1 3 ∧ ∀ i, i < 4 → 0 ≤ (gSim g d).2.2.1 i 0 := by
  have h1 := Wf_deal (d := d) hV h (by omega)
  have v1 : V c m (gDeal g d) := V_deal hV
  have hl := v1.2.2.2.2.2.1
  obtain ⟨h2, h3⟩ := Wf_rnA (gDeal g d).2.2.2.2.length 0 (N + 5000) (gDeal g d) v1 h1 (by omega)
  have v2 : V c m (gRuns (gDeal g d)) := V_runs v1
  have h4 : Wf (N + 45000) (gRuns (gDeal g d)) := Wf_mono h2 (by omega)
  refine ⟨Wf_end v2 h4 (by omega), ?_, fun i hi => end_nn hi⟩
  unfold gSim
  rw [end_ph]
  have h5 : (gRuns (gDeal g d)).1 3 = (gDeal g d).1 3 := h3
  rw [h5]
  exact ph_deal hV
theorem gSims_s {g : Game} {x : Int64} {d : Nat} : gSims g x (d + 1) = gSims (gSim g (dr (nx x))) (nx x) d := rfl
theorem Wf_sims {c K : Nat} (hK : K = 50000) : ∀ (d m N : Nat) (g : Game) (x : Int64), V c m g → Wf N g → N + K * (d + 1) ≤ 700000000 → V c (m + (d + 1)) (gSims g x (d + 1)) ∧ Wf (N + K * (d + 1)) (gSims g x (d + 1)) ∧ g.1 3 ≤ (gSims g x (d + 1)).1 3 ∧ ∀ i, i < 4 → 0 ≤ (gSims g x (d + 1)).2.2.1 i 0 := by
  intro d
  induction d with
  | zero =>
    intro m N g x hV h hN
    obtain ⟨h1, h2, h3⟩ := Wf_sim (d := dr (nx x)) hV h (by omega)
    rw [gSims_s]
    have e0 : gSims (gSim g (dr (nx x))) (nx x) 0 = gSim g (dr (nx x)) := rfl
    rw [e0]
    exact ⟨V_sim hV, Wf_mono h1 (by omega), h2, h3⟩
  | succ d ih =>
    intro m N g x hV h hN
    have e : K * (d + 1 + 1) = K * (d + 1) + K := Nat.mul_succ _ _
    obtain ⟨h1, h2, h3⟩ := Wf_sim (d := dr (nx x)) hV h (by omega)
    have h1' : Wf (N + K) (gSim g (dr (nx x))) := by rw [hK]; exact h1
    obtain ⟨k1, k2, k3, k4⟩ := ih (m + 1) (N + K) (gSim g (dr (nx x))) (nx x) (V_sim hV) h1' (by omega)
    rw [gSims_s]
    exact ⟨V_mono k1 (by omega), Wf_mono k2 (by omega), Int32.le_trans h2 k3, k4⟩
theorem len_v {i : Nat} : ∀ (l : List T4), (∀ x ∈ l, iR 1 9 x.2.2.1) → ∃ q, q ≤ 9 * l.length ∧ sm (fun (x : T4) => if x.2.2.2 = nI i then x.2.2.1 else 0) l = nI q := by
  intro l
  induction l with
  | nil => intro _; exact ⟨0, Nat.le_refl _, nI_0.symm⟩
  | cons x l ih =>
    intro h
    obtain ⟨q, h1, h2⟩ := ih (fun y hy => h y (List.mem_cons_of_mem _ hy))
    obtain ⟨k, k1, k2, k3⟩ := h x List.mem_cons_self
    show ∃ q, q ≤ 9 * (l.length + 1) ∧ (if x.2.2.2 = nI i then x.2.2.1 else 0) + sm _ l = nI q
    by_cases e : x.2.2.2 = nI i
    · rw [if_pos e, h2, k3]
      exact ⟨k + q, by omega, by rw [nI_add]⟩
    · rw [if_neg e, h2]
      exact ⟨q, by omega, by rw [Int32.zero_add]⟩
theorem worth_v {c m N i : Nat} {g : Game} (hV : V c m g) (h : Wf N g) (hN : N ≤ 1000000000) (hi : i < 4) (h0 : 0 ≤ g.2.2.1 i 0) : ∃ q, q ≤ N + 1000 ∧ gWorth g i = nI q := by
  obtain ⟨k, hk, ek⟩ : ∃ k : Nat, k ≤ N ∧ g.2.2.1 i 0 = nI k := by
    rcases ix_of (g.2.2.1 i 0) with q | ⟨j, hj, e⟩
    · exact absurd h0 (Int32.not_le.mpr q)
    · have := (h.2.2.2.2.2.2 i hi).2
      rw [e, nI_ti hj] at this
      exact ⟨j, by omega, e⟩
  obtain ⟨a, a1, a2⟩ := len_v (i := i) g.2.1 (fun x hx => (hV.2.2.1.2 x hx).2.2.2.1)
  obtain ⟨b, b1, b2⟩ := lvl_v (g.2.2.2.1 i) (fun x hx => ((hV.2.2.2.2.1 i hi).2 x hx).1)
  have l1 := hV.2.2.1.1
  have l2 := (hV.2.2.2.2.1 i hi).1
  refine ⟨k + 3 * a + 10 * b, by omega, ?_⟩
  unfold gWorth
  rw [ek, show lenT g i = nI a from a2, show lvl g i = nI b from b2, show (3 : Int32) = nI 3 from rfl, show (10 : Int32) = nI 10 from rfl, pk_mul, pk_mul, nI_add, nI_add]
theorem gwM_v {g : Game} {M : Nat} (hM : M < 2147483648) : ∀ (m i a : Nat), (∀ j, i ≤ j → j < i + m → ∃ q, q ≤ M ∧ gWorth g j = nI q) → a ≤ M → ∃ q, q ≤ M ∧ gwM g i m (nI a) = nI q := by
  intro m
  induction m with
  | zero => intro i a _ ha; exact ⟨a, ha, rfl⟩
  | succ m ih =>
    intro i a h ha
    obtain ⟨q, q1, q2⟩ := h i (Nat.le_refl _) (by omega)
    show ∃ q, q ≤ M ∧ gwM g (i + 1) m (if nI a < gWorth g i then gWorth g i else nI a) = nI q
    rw [q2]
    split
    · exact ih (i + 1) q (fun j h1 h2 => h j (by omega) (by omega)) q1
    · exact ih (i + 1) a (fun j h1 h2 => h j (by omega) (by omega)) ha
theorem sim_v {c m N p : Nat} {g : Game} {y : Int64} (hV : V c m g) (h : Wf N g) (hN : N ≤ 100000000) (hp : g.1 3 = nI p) (hp6 : p ≤ 6) : ∃ q p' : Nat, q ≤ 200000000 ∧ p ≤ p' ∧ p' ≤ 6 ∧ 1 ≤ p' ∧ nSim g y 10 = nI (q + 10000 * p') := by
  obtain ⟨k1, k2, k3, k4⟩ := Wf_sims rfl 9 m N g y hV h (by omega)
  obtain ⟨p', p1, p6, ep⟩ := k1.2.1
  rw [hp, ep, nIle (by omega) (by omega)] at k3
  obtain ⟨a, a1, a2⟩ := worth_v k1 k2 (by omega) (show 0 < 4 by omega) (k4 0 (by omega))
  obtain ⟨q, q1, q2⟩ := gwM_v (g := gSims g y (9 + 1)) (M := N + 50000 * (9 + 1) + 1000) (by omega) 3 1 a (fun j h1 h2 => worth_v k1 k2 (by omega) (by omega) (k4 j (by omega))) a1
  refine ⟨q, p', by omega, k3, p6, p1, ?_⟩
  unfold nSim
  rw [if_pos (by decide), show (10 : Int32).toNatClampNeg = 9 + 1 from by decide, a2, q2, ep, show (10000 : Int32) = nI 10000 from rfl, pk_mul, nI_add]
/-! ===== scripts tell what is so ===== -/
section SCR
variable {c m N : Nat} {u : At}
theorem scr1 {q : Nat} (hq : q < 100000) : h_tryScript 1 (lN q) u = some (match gOb u.2.1 (q / 10000) (q / 1000 % 10) (q % 1000) with
    | none => 0
    | some _ => -9, u) := by
  unfold h_tryScript nScr
  rw [if_pos (by decide), if_neg (Int64.not_lt.mpr (by rw [show (0 : Int64) = lN 0 from rfl, l_le (by omega) (by omega)]; omega)), l_c (by omega), show (1 : Int32).toNatClampNeg = 1 from by decide, if_pos (by omega)]
  have e : wlo q (1 - 1 - 0) % 100000 = q := Nat.mod_eq_of_lt hq
  show some ((match gOb u.2.1 ((fun j => wlo q (1 - 1 - j) % 100000) 0 / 10000) ((fun j => wlo q (1 - 1 - j) % 100000) 0 / 1000 % 10) ((fun j => wlo q (1 - 1 - j) % 100000) 0 % 1000) with
    | none => nI 0
    | some g' => gScr g' (fun j => wlo q (1 - 1 - j) % 100000) (0 + 1) 0), u) = _
  show some ((match gOb u.2.1 (wlo q (1 - 1 - 0) % 100000 / 10000) (wlo q (1 - 1 - 0) % 100000 / 1000 % 10) (wlo q (1 - 1 - 0) % 100000 % 1000) with
    | none => nI 0
    | some g' => gScr g' (fun j => wlo q (1 - 1 - j) % 100000) (0 + 1) 0), u) = _
  rw [e]
  cases gOb u.2.1 (q / 10000) (q / 1000 % 10) (q % 1000) <;> rfl
theorem scrN {q h w r : Nat} (hq : q = 10000 * h + 1000 * w + r) (hw : w < 10) (hr : r < 1000) (hh : h < 10) (e : gOb u.2.1 h w r = none) : h_tryScript 1 (lN q) u = some (0, u) := by
  rw [scr1 (by omega), show q / 10000 = h by omega, show q / 1000 % 10 = w by omega, show q % 1000 = r by omega, e]
theorem scrS {q h w r : Nat} {g : Game} (hq : q = 10000 * h + 1000 * w + r) (hw : w < 10) (hr : r < 1000) (hh : h < 10) (e : gOb u.2.1 h w r = some g) : h_tryScript 1 (lN q) u = some (-9, u) := by
  rw [scr1 (by omega), show q / 10000 = h by omega, show q / 1000 % 10 = w by omega, show q % 1000 = r by omega, e]
theorem s_372 {i : Nat} (hi : i < 4) : B_scripts_372 u (lN (1000 * i)) (u.2.1.2.2.1 i 0) = some (1, u) := by
  unfold B_scripts_372
  by_cases h : 0 ≤ u.2.1.2.2.1 i 0
  · rw [if_pos h]
  · have e : gOb u.2.1 7 i 0 = none := by
      unfold gOb
      simp only [show ¬ (7 : Nat) = 1 by omega, show ¬ (7 : Nat) = 2 by omega, show ¬ (7 : Nat) = 3 by omega, show ¬ (7 : Nat) = 4 by omega, show ¬ (7 : Nat) = 5 by omega, show ¬ (7 : Nat) = 6 by omega, if_false, if_true]
      rw [if_neg (fun q => q.2 (Int32.not_le.mp h))]
    rw [if_neg h, show (70000 : Int64) = lN 70000 from rfl, lN_add, scrN (h := 7) (w := i) (r := 0) (by omega) (by omega) (by omega) (by omega) e, gbsN, if_pos rfl]
theorem s_342 {i : Nat} (hi : i < 4) : B_scripts_342 u (lN (1000 * i)) (u.2.1.2.2.1 i 0) = some (1, u) := by
  unfold B_scripts_342
  by_cases h : u.2.1.2.2.1 i 0 < 0
  · rw [if_pos h]
    exact s_372 hi
  · rw [if_neg h]
    by_cases h2 : 998 < u.2.1.2.2.1 i 0
    · rw [if_pos h2]
      exact s_372 hi
    · rcases ix_of (u.2.1.2.2.1 i 0) with q | ⟨k, hk, ek⟩
      · exact absurd q h
      · have h3 := h2
        rw [ek, show (998 : Int32) = nI 998 from rfl, nIlt (by omega) hk] at h3
        have e : gOb u.2.1 7 i (k + 1) = none := by
          unfold gOb
          simp only [show ¬ (7 : Nat) = 1 by omega, show ¬ (7 : Nat) = 2 by omega, show ¬ (7 : Nat) = 3 by omega, show ¬ (7 : Nat) = 4 by omega, show ¬ (7 : Nat) = 5 by omega, show ¬ (7 : Nat) = 6 by omega, if_false, if_true]
          rw [if_neg (fun q => q.2 (by rw [ek, nIlt (by omega) (by omega)]; omega))]
        have hend := s_372 (u := u) hi
        rw [ek] at hend
        rw [if_neg h2, ek, nI_l (by omega), show (70001 : Int64) = lN 70001 from rfl, lN_add, lN_add, scrN (h := 7) (w := i) (r := k + 1) (by omega) (by omega) (by omega) (by omega) e, gbsN, if_pos rfl]
        exact hend
theorem s_303 {i : Nat} (hi : i < 4) : B_scripts_303 u (lN (1000 * i)) (u.2.1.2.2.1 i 0) 1 = some (1, u) := by
  unfold B_scripts_303
  rw [if_neg (by decide)]
  by_cases h : u.2.1.2.2.1 i 0 < 0
  · rw [if_pos h]
    exact s_342 hi
  · rw [if_neg h]
    by_cases h2 : 999 < u.2.1.2.2.1 i 0
    · rw [if_pos h2]
      exact s_342 hi
    · rcases ix_of (u.2.1.2.2.1 i 0) with q | ⟨k, hk, ek⟩
      · exact absurd q h
      · have h3 := h2
        rw [ek, show (999 : Int32) = nI 999 from rfl, nIlt (by omega) hk] at h3
        have e : gOb u.2.1 7 i k = some u.2.1 := by
          unfold gOb
          simp only [show ¬ (7 : Nat) = 1 by omega, show ¬ (7 : Nat) = 2 by omega, show ¬ (7 : Nat) = 3 by omega, show ¬ (7 : Nat) = 4 by omega, show ¬ (7 : Nat) = 5 by omega, show ¬ (7 : Nat) = 6 by omega, if_false, if_true]
          rw [if_pos ⟨hi, by rw [ek]; exact Int32.lt_irrefl⟩]
        have hend := s_342 (u := u) hi
        rw [ek] at hend
        rw [if_neg h2, ek, nI_l (by omega), show (70000 : Int64) = lN 70000 from rfl, lN_add, lN_add, scrS (h := 7) (w := i) (r := k) (by omega) (by omega) (by omega) (by omega) e, gbsN, if_pos rfl]
        exact hend
theorem scripts_ok {X : Nat} (hV : V c m u.2.1) (hW : Wf N u.2.1) (hN : N ≤ 100000000) (hX : X < 2147483648) : h_scripts (nI X) u = some (1, u) := by
  obtain ⟨p, p1, p6, ep⟩ := hV.2.1
  have hT := hV.2.2.1.1
  have hK := hV.2.2.2.2.2.1
  obtain ⟨i, hi⟩ : ∃ i, i = X % 4 := ⟨_, rfl⟩
  have hi4 : i < 4 := by omega
  have hl4 := (hV.2.2.2.2.1 i hi4).1
  have q3 : nI X - nI X / 4 * 4 = nI i := by rw [hi, show (4 : Int32) = nI 4 from rfl]; exact rem_nI hX (by omega) (by omega)
  have k3 : h_tryAbout 3 u = some (nI p, u) := by simp [h_tryAbout, nAbout, ep]
  have k1 : h_tryAbout 1 u = some (nI u.2.1.2.1.length, u) := by simp [h_tryAbout, nAbout]
  have k2 : h_tryAbout 2 u = some (nI u.2.1.2.2.2.2.length, u) := by simp [h_tryAbout, nAbout]
  obtain ⟨q, p', hq, hpp, hp6', hp1', es⟩ := sim_v (y := (nI X).toInt64 * 197) hV hW hN ep p6
  have ks : h_trySimulate ((nI X).toInt64 * 197) 10 u = some (nI (q + 10000 * p'), u) := by
    unfold h_trySimulate
    rw [es]
  have o1 : gOb u.2.1 8 0 p = some u.2.1 := by simp [gOb, ep]; omega
  have o2 : gOb u.2.1 8 0 7 = none := by
    have : ¬ nI p = nI 7 := by rw [nI_inj (by omega) (by omega)]; omega
    simp [gOb, ep, this]
  have o3 : gOb u.2.1 9 i (u.2.1.2.2.2.1 i).length = some u.2.1 := by simp [gOb]; omega
  have o4 : gOb u.2.1 9 i 5 = none := by simp [gOb]; omega
  have o5 : gOb u.2.1 6 0 0 = some (gEnd u.2.1) := by simp [gOb]
  have o6 : gOb u.2.1 6 0 1 = none := by simp [gOb]
  have o7 : gOb u.2.1 1 i u.2.1.2.1.length = none := by simp [gOb]
  have o8 : gOb u.2.1 1 4 0 = none := by simp [gOb]
  have o9 : gOb u.2.1 2 i 0 = none := by simp [gOb]
  have o10 : gOb u.2.1 2 i 7 = none := by simp [gOb]
  have o11 : gOb u.2.1 3 i 9 = some (gCo u.2.1 i 1 (nI 9)) := by simp [gOb, hi4]
  have o12 : gOb u.2.1 3 i 10 = none := by simp [gOb]
  have o13 : gOb u.2.1 4 i u.2.1.2.2.2.2.length = none := by simp [gOb]
  have o14 : gOb u.2.1 7 4 0 = none := by simp [gOb]
  have o15 : gOb u.2.1 0 0 0 = none := by simp [gOb]
  have hd : nI (q + 10000 * p') / 10000 = nI ((q + 10000 * p') / 10000) := by rw [show (10000 : Int32) = nI 10000 from rfl]; exact div_nI (by omega) (by omega) (by omega)
  unfold h_scripts
  rw [q3, gviN, nI_l (show i < 2 ^ 31 by omega), show (1000 : Int64) = lN 1000 from rfl, lN_mul, gvl_ok, tCo0 hi4, gbsN, k3, gbsN, tCo2 hi4, gbsN, k1, gbsN, k2, gbsN, ks, gbsN, nI_l (show p < 2 ^ 31 by omega), show (80000 : Int64) = lN 80000 from rfl, lN_add, scrS (h := 8) (w := 0) (r := p) (by omega) (by omega) (by omega) (by omega) o1, gbsN, if_pos rfl, show (80007 : Int64) = lN 80007 from rfl, scrN (h := 8) (w := 0) (r := 7) (by omega) (by omega) (by omega) (by omega) o2, gbsN, if_pos rfl]
  rw [show (90000 : Int64) = lN 90000 from rfl, lN_add, nI_l (show (u.2.1.2.2.2.1 i).length < 2 ^ 31 by omega), lN_add, scrS (h := 9) (w := i) (r := (u.2.1.2.2.2.1 i).length) (by omega) (by omega) (by omega) (by omega) o3, gbsN, if_pos rfl, show (90005 : Int64) = lN 90005 from rfl, lN_add, scrN (h := 9) (w := i) (r := 5) (by omega) (by omega) (by omega) (by omega) o4, gbsN, if_pos rfl]
  rw [show (60000 : Int64) = lN 60000 from rfl, scrS (h := 6) (w := 0) (r := 0) (by omega) (by omega) (by omega) (by omega) o5, gbsN, if_pos rfl, show (60001 : Int64) = lN 60001 from rfl, scrN (h := 6) (w := 0) (r := 1) (by omega) (by omega) (by omega) (by omega) o6, gbsN, if_pos rfl]
  rw [show (10000 : Int64) = lN 10000 from rfl, lN_add, nI_l (show u.2.1.2.1.length < 2 ^ 31 by omega), lN_add, scrN (h := 1) (w := i) (r := u.2.1.2.1.length) (by omega) (by omega) (by omega) (by omega) o7, gbsN, if_pos rfl, show (14000 : Int64) = lN 14000 from rfl, scrN (h := 1) (w := 4) (r := 0) (by omega) (by omega) (by omega) (by omega) o8, gbsN, if_pos rfl]
  rw [show (20000 : Int64) = lN 20000 from rfl, lN_add, scrN (h := 2) (w := i) (r := 0) (by omega) (by omega) (by omega) (by omega) o9, gbsN, if_pos rfl, show (20007 : Int64) = lN 20007 from rfl, lN_add, scrN (h := 2) (w := i) (r := 7) (by omega) (by omega) (by omega) (by omega) o10, gbsN, if_pos rfl]
  rw [show (30009 : Int64) = lN 30009 from rfl, lN_add, scrS (h := 3) (w := i) (r := 9) (by omega) (by omega) (by omega) (by omega) o11, gbsN, if_pos rfl, show (30010 : Int64) = lN 30010 from rfl, lN_add, scrN (h := 3) (w := i) (r := 10) (by omega) (by omega) (by omega) (by omega) o12, gbsN, if_pos rfl]
  rw [show (40000 : Int64) = lN 40000 from rfl, lN_add, nI_l (show u.2.1.2.2.2.2.length < 2 ^ 31 by omega), lN_add, scrN (h := 4) (w := i) (r := u.2.1.2.2.2.2.length) (by omega) (by omega) (by omega) (by omega) o13, gbsN, if_pos rfl, show (74000 : Int64) = lN 74000 from rfl, scrN (h := 7) (w := 4) (r := 0) (by omega) (by omega) (by omega) (by omega) o14, gbsN, if_pos rfl, show (0 : Int64) = lN 0 from rfl, scrN (h := 0) (w := 0) (r := 0) (by omega) (by omega) (by omega) (by omega) o15, gbsN, if_pos rfl]
  rw [if_neg (show ¬ nI (q + 10000 * p') ≤ 0 by rw [show (0 : Int32) = nI 0 from rfl, nIle (by omega) (by omega)]; omega), hd, if_neg (show ¬ nI ((q + 10000 * p') / 10000) < nI p by rw [nIlt (by omega) (by omega)]; omega), ks, gbsN, if_pos rfl]
  exact s_303 hi4
end SCR
