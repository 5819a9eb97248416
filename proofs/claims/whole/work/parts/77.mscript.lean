/-! ===== scripts of the reference ===== -/
theorem wlo_pow : ∀ (n s : Nat), wlo s n = s / 100000 ^ n := by
  intro n
  induction n with
  | zero => intro s; rw [Nat.pow_zero, Nat.div_one]; rfl
  | succ n ih => intro s; rw [wlo_eq, ih, Nat.div_div_eq_div_mul, ← Nat.pow_succ]
theorem pow_lt3 {m : Nat} (h : m ≤ 3) : 0 < 100000 ^ m ∧ 100000 ^ m ≤ 1000000000000000 :=
  ⟨Nat.pow_pos (by omega), Nat.le_trans (Nat.pow_le_pow_right (by omega) h) (by decide)⟩
theorem lN_ne0 {n : Nat} (h0 : 0 < n) (h : n < 9223372036854775808) : (!decide (lN n = 0)) = true := by
  have : lN n ≠ 0 := by
    intro e
    have h1 := congrArg Int64.toInt e
    rw [l_toInt h] at h1
    have h2 : (0 : Int64).toInt = 0 := by decide
    omega
  rw [decide_eq_false this]
  rfl
theorem M_scr_loop {c N s : Nat} (hN : N ≤ 3) (hs : s < 9223372036854775808) : ∀ (m k n : Nat) (g : Game) (S : Sg) (fu : Nat), k + m = N → m < fu → MP g (S 396) → V c n g → ∃ S', L_X11_runScript_84 fu S (nI N) (lN (100000 ^ m)) (lN (s % 100000 ^ m)) (nI k) = some (gScr g (fun j => wlo s (N - 1 - j) % 100000) k m, S') ∧ FrP 396 S S' := by
  intro m
  induction m with
  | zero =>
    intro k n g S fu hk hf h hV
    obtain ⟨f, rfl, -⟩ := fuS hf
    refine ⟨S, ?_, FrP.rf S⟩
    show Lb_X11_runScript_84 _ S (nI N) _ _ (nI k) = _
    unfold Lb_X11_runScript_84
    rw [if_pos (by rw [nIle (by omega) (by omega)]; omega)]
    rfl
  | succ m ih =>
    intro k n g S fu hk hf h hV
    obtain ⟨f, rfl, hf⟩ := fuS hf
    have hp := pow_lt3 (m := m) (by omega)
    have hp1 := pow_lt3 (m := m + 1) (by omega)
    have hq : N - 1 - k = m := by omega
    have hle : s % 100000 ^ (m + 1) < 100000 ^ (m + 1) := Nat.mod_lt _ hp1.1
    have e0 : 100000 ^ (m + 1) / 100000 = 100000 ^ m := by rw [Nat.pow_succ, Nat.mul_div_cancel _ (by omega)]
    have e2 : s % 100000 ^ (m + 1) % 100000 ^ m = s % 100000 ^ m := Nat.mod_mod_of_dvd _ ⟨100000, Nat.pow_succ _ _⟩
    obtain ⟨d, hgr⟩ : ∃ d, d = wlo s (N - 1 - k) % 100000 := ⟨_, rfl⟩
    have hd : d < 100000 := by rw [hgr]; exact Nat.mod_lt _ (by omega)
    have e1 : s % 100000 ^ (m + 1) / 100000 ^ m = d := by
      rw [hgr, hq, wlo_pow, Nat.pow_succ, Nat.mod_mul_right_div_self]
    obtain ⟨S1, b1, c1, f1⟩ := M_does (h := d / 10000) (w := d / 1000 % 10) (r := d % 1000) h hV (by omega) (by omega) (by omega)
    have q1 : nI d / (10000 : Int32) = nI (d / 10000) := div_nI (d := 10000) (by omega) (by omega) (by omega)
    have q2 : nI d / (1000 : Int32) = nI (d / 1000) := div_nI (d := 1000) (by omega) (by omega) (by omega)
    have q3 : nI (d / 1000) - nI (d / 1000) / (10 : Int32) * (10 : Int32) = nI (d / 1000 % 10) := rem_nI (d := 10) (by omega) (by omega) (by omega)
    have q4 : nI d - nI (d / 1000) * (1000 : Int32) = nI (d % 1000) := by
      have q := rem_nI (a := d) (d := 1000) (by omega) (by omega) (by omega)
      rw [div_nI (by omega) (by omega) (by omega)] at q
      exact q
    show ∃ S', Lb_X11_runScript_84 _ S (nI N) (lN (100000 ^ (m + 1))) (lN (s % 100000 ^ (m + 1))) (nI k) = _ ∧ _
    unfold Lb_X11_runScript_84 gScr
    rw [if_neg (by rw [nIle (by omega) (by omega)]; omega), show (100000 : Int64) = lN 100000 from rfl, l_div (by omega) (by omega) (by omega), e0, gvlN, gck_ok (lN_ne0 hp.1 (by omega)), l_rem (by omega) hp.1 (by omega), e2, l_div (by omega) hp.1 (by omega), e1, l_i, gviN, gck_ok (lN_ne0 hp.1 (by omega)), gvlN, q1, q2, q3, q4, b1, gbiN]
    rw [← hgr]
    cases hg : gOb g (d / 10000) (d / 1000 % 10) (d % 1000) with
    | none =>
      refine ⟨S1, ?_, f1⟩
      rw [if_pos (by decide)]
    | some g' =>
      obtain ⟨S2, e2, f2⟩ := ih (k + 1) (n + 1) g' S1 f (by omega) (by omega) (c1 g' hg) (V_ob hV hg)
      refine ⟨S2, ?_, f1.tr f2⟩
      rw [if_neg (by rw [Option.isSome_some]; decide), gviN, nI_s]
      exact e2
