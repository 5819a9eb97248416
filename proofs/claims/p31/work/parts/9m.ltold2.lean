section TLD
variable {xs : Nat → Int32} {L c : Nat} {S0 : At2}
theorem hp_c {n1 n2 sz : Nat} {ch : Int32} {tx : Nat → Nat} (k : Nat) (he : ch = nI k) (hk : k ≤ 255) (hsz : sz < 100) : h_put ch (mkT S0 n1 n2 tx sz) = some (1, mkT S0 (n1 + 1) (n2 + 1) (tset tx sz k) (sz + 1)) := by
  rw [he]
  exact hput_ok hk hsz
theorem td_105 {T M at0 : Nat} (hT : T ≤ 9) (hat : at0 < 1000000) (hc2 : 2 ≤ c) (hc9 : c ≤ 9) : ∀ (d t fu n1 n2 sz : Nat) (tx : Nat → Nat) (g : Game), t + d = T → d < fu → sz + 4 * d ≤ 50 → Tg c tx sz g t 0 → ∃ tx' g', L_told_105 xs L fu (mkT S0 n1 n2 tx sz) (nI at0) (nI c) (nI T) (nI M) 1 (nI sz) (nI t) = L_told_262 xs L 7 (mkT S0 (n1 + 4 * d) (n2 + 4 * d) tx' (sz + 4 * d)) (nI at0) (nI c) (nI T) (nI M) 1 (nI (sz + 4 * d)) 0 ∧ Tg c tx' (sz + 4 * d) g' T 0 := by
  intro d
  induction d with
  | zero =>
    intro t fu n1 n2 sz tx g ht hf hz hg
    obtain ⟨fu, rfl⟩ : ∃ f, fu = f + 1 := ⟨fu - 1, by omega⟩
    obtain rfl : t = T := by omega
    refine ⟨tx, g, ?_, hg⟩
    show Lb_told_105 xs L _ (mkT S0 n1 n2 tx sz) (nI at0) (nI c) (nI t) (nI M) 1 (nI sz) (nI t) = _
    unfold Lb_told_105
    rw [if_pos (by rw [nIle (by omega) (by omega)]; omega)]
    rfl
  | succ d ih =>
    intro t fu n1 n2 sz tx g ht hf hz hg
    obtain ⟨fu, rfl⟩ : ∃ f, fu = f + 1 := ⟨fu - 1, by omega⟩
    have q1 : nI at0 + 1 + (nI t - nI t / 3 * 3) = nI (at0 + 1 + t % 3) := by rw [show (3 : Int32) = nI 3 from rfl, rem_nI (by omega) (by omega) (by omega), nIp1, nI_add]
    obtain ⟨Y, hY, eY⟩ := num_v xs L (nI (at0 + 1 + t % 3))
    have q2 : (1 : Int32) + (13 : Int32) * (nI t / 3) = nI (1 + 13 * (t / 3)) := by rw [show (3 : Int32) = nI 3 from rfl, show (13 : Int32) = nI 13 from rfl, show (1 : Int32) = nI 1 from rfl, div_nI (by omega) (by omega) (by omega), pk_mul, nI_add]
    obtain ⟨y, hy⟩ : ∃ y, y = Y / (1 + 13 * (t / 3)) := ⟨_, rfl⟩
    have hyY : y ≤ Y := by rw [hy]; exact Nat.div_le_self _ _
    have q3 : nI Y / nI (1 + 13 * (t / 3)) = nI y := by rw [hy]; exact div_nI hY (by omega) (by omega)
    obtain ⟨a, ha⟩ : ∃ a, a = y % c := ⟨_, rfl⟩
    have hac : a < c := by rw [ha]; exact Nat.mod_lt _ (by omega)
    have q4 : nI y - nI y / nI c * nI c = nI a := by rw [ha]; exact rem_nI (by omega) (by omega) (by omega)
    have q5 : nI c - 1 = nI (c - 1) := by rw [show (1 : Int32) = nI 1 from rfl, pk_sub (by omega)]
    have hcc : y / 16 % (c - 1) < c - 1 := Nat.mod_lt _ (by omega)
    obtain ⟨b, hb⟩ : ∃ b, b = (a + 1 + y / 16 % (c - 1)) % c := ⟨_, rfl⟩
    have hbc : b < c := by rw [hb]; exact Nat.mod_lt _ (by omega)
    have hne : a ≠ b := by rw [hb]; exact ne_city hac hcc
    have q6 : (nI a + 1 + (nI y / 16 - nI y / 16 / nI (c - 1) * nI (c - 1))) - (nI a + 1 + (nI y / 16 - nI y / 16 / nI (c - 1) * nI (c - 1))) / nI c * nI c = nI b := by
      rw [show (16 : Int32) = nI 16 from rfl, div_nI (by omega) (by omega) (by omega), rem_nI (by omega) (by omega) (by omega), nIp1, nI_add, hb]
      exact rem_nI (by omega) (by omega) (by omega)
    obtain ⟨l, hl⟩ : ∃ l, l = 1 + y / 256 % 5 := ⟨_, rfl⟩
    have q7 : (49 : Int32) + (nI y / 256 - nI y / 256 / 5 * 5) = nI (48 + l) := by
      rw [show (256 : Int32) = nI 256 from rfl, show (5 : Int32) = nI 5 from rfl, div_nI (by omega) (by omega) (by omega), rem_nI (by omega) (by omega) (by omega), show (49 : Int32) = nI 49 from rfl, nI_add]
      congr 1
      omega
    have q48 : ∀ z, (48 : Int32) + nI z = nI (48 + z) := fun z => by rw [show (48 : Int32) = nI 48 from rfl, nI_add]
    have hPre := hg.1
    have hlen := hg.2.2.2.1
    have hTg := hg.tr (a := a) (b := b) (l := l) (by omega) (by omega) hac hbc hne (by omega) (by omega)
    obtain ⟨tx', g', e', f'⟩ := ih (t + 1) fu (n1 + 1 + 1 + 1 + 1) (n2 + 1 + 1 + 1 + 1) (sz + 4) _ _ (by omega) (by omega) (by omega) hTg
    refine ⟨tx', g', ?_, ?_⟩
    · show Lb_told_105 xs L _ (mkT S0 n1 n2 tx sz) (nI at0) (nI c) (nI T) (nI M) 1 (nI sz) (nI t) = _
      unfold Lb_told_105
      rw [if_neg (by rw [nIle (by omega) (by omega)]; omega), if_neg (by decide), q1, gck_ok (decide_eq_true (nI_pos' (by omega))), eY, gviN, q2, gck_ok (ck_ne (by omega) (by omega)), q3, gviN, gck_ok (ck_ne (by omega) (by omega)), q4, gviN, q5, gck_ok (ck_ne (by omega) (by omega)), gck_ok (ck_ne (by omega) (by omega)), q6, gviN]
      rw [hp_c (ch := 116) 116 rfl (by omega) (by omega), gbsN, if_neg (by decide), hp_c (48 + a) (q48 a) (by omega) (by omega), gbsN, if_neg (by decide), err_ok, show sz + 1 + 1 = sz + 2 from rfl, hPre.tr2 (by omega) hc9 hac (by omega)]
      rw [if_pos (show eI (.error (sz + 2) : Except Nat Game) = nI sz + 2 by rw [nIp2]; rfl), hp_c (48 + b) (q48 b) (by omega) (by omega), gbsN, if_neg (by decide), hp_c (48 + l) q7 (by omega) (by omega), gbsN, if_neg (by decide), err_ok, show sz + 2 + 1 = sz + 3 from rfl, show sz + 3 + 1 = sz + 4 from rfl, hTg.1.ok (by omega)]
      rw [if_pos (show eI (.ok _ : Except Nat Game) = -9 from rfl)]
      unfold B_told_248
      rw [nIp4, gviN, nI_s, gviN, e', show n1 + 1 + 1 + 1 + 1 + 4 * d = n1 + 4 * (d + 1) by omega, show n2 + 1 + 1 + 1 + 1 + 4 * d = n2 + 4 * (d + 1) by omega, show sz + 4 + 4 * d = sz + 4 * (d + 1) by omega]
    · rw [show sz + 4 * (d + 1) = sz + 4 + 4 * d by omega]
      exact f'
theorem td_262 {T M at0 : Nat} (hT : T ≤ 9) (hM : M ≤ 6) (hat : at0 < 1000000) (hc2 : 2 ≤ c) (hc9 : c ≤ 9) : ∀ (d k fu n1 n2 sz : Nat) (tx : Nat → Nat) (g : Game), k + d = M → d < fu → sz + 6 * d ≤ 90 → Tg c tx sz g T k → ∃ tx' g', L_told_262 xs L fu (mkT S0 n1 n2 tx sz) (nI at0) (nI c) (nI T) (nI M) 1 (nI sz) (nI k) = B_told_466 xs L (mkT S0 (n1 + 6 * d) (n2 + 6 * d) tx' (sz + 6 * d)) (nI c) (nI T) (nI M) 1 (nI (sz + 6 * d)) ∧ Tg c tx' (sz + 6 * d) g' T M := by
  intro d
  induction d with
  | zero =>
    intro k fu n1 n2 sz tx g ht hf hz hg
    obtain ⟨fu, rfl⟩ : ∃ f, fu = f + 1 := ⟨fu - 1, by omega⟩
    obtain rfl : k = M := by omega
    refine ⟨tx, g, ?_, hg⟩
    show Lb_told_262 xs L _ (mkT S0 n1 n2 tx sz) (nI at0) (nI c) (nI T) (nI k) 1 (nI sz) (nI k) = _
    unfold Lb_told_262
    rw [if_pos (by rw [nIle (by omega) (by omega)]; omega)]
    rfl
  | succ d ih =>
    intro k fu n1 n2 sz tx g ht hf hz hg
    obtain ⟨fu, rfl⟩ : ∃ f, fu = f + 1 := ⟨fu - 1, by omega⟩
    have q1 : nI at0 + 4 = nI (at0 + 4) := nIp4 _
    obtain ⟨Y, hY, eY⟩ := num_v xs L (nI (at0 + 4))
    have q2 : (1 : Int32) + (17 : Int32) * nI k = nI (1 + 17 * k) := by rw [show (17 : Int32) = nI 17 from rfl, show (1 : Int32) = nI 1 from rfl, pk_mul, nI_add]
    obtain ⟨y, hy⟩ : ∃ y, y = Y / (1 + 17 * k) := ⟨_, rfl⟩
    have hyY : y ≤ Y := by rw [hy]; exact Nat.div_le_self _ _
    have q3 : nI Y / nI (1 + 17 * k) = nI y := by rw [hy]; exact div_nI hY (by omega) (by omega)
    obtain ⟨a, ha⟩ : ∃ a, a = y % c := ⟨_, rfl⟩
    have hac : a < c := by rw [ha]; exact Nat.mod_lt _ (by omega)
    have q4 : nI y - nI y / nI c * nI c = nI a := by rw [ha]; exact rem_nI (by omega) (by omega) (by omega)
    have q5 : nI c - 1 = nI (c - 1) := by rw [show (1 : Int32) = nI 1 from rfl, pk_sub (by omega)]
    have hcc : y / 16 % (c - 1) < c - 1 := Nat.mod_lt _ (by omega)
    obtain ⟨b, hb⟩ : ∃ b, b = (a + 1 + y / 16 % (c - 1)) % c := ⟨_, rfl⟩
    have hbc : b < c := by rw [hb]; exact Nat.mod_lt _ (by omega)
    have hne : a ≠ b := by rw [hb]; exact ne_city hac hcc
    have q6 : (nI a + 1 + (nI y / 16 - nI y / 16 / nI (c - 1) * nI (c - 1))) - (nI a + 1 + (nI y / 16 - nI y / 16 / nI (c - 1) * nI (c - 1))) / nI c * nI c = nI b := by
      rw [show (16 : Int32) = nI 16 from rfl, div_nI (by omega) (by omega) (by omega), rem_nI (by omega) (by omega) (by omega), nIp1, nI_add, hb]
      exact rem_nI (by omega) (by omega) (by omega)
    obtain ⟨P, hP⟩ : ∃ P, P = 1 + y / 256 % 60 := ⟨_, rfl⟩
    have q7 : (1 : Int32) + (nI y / 256 - nI y / 256 / 60 * 60) = nI P := by
      rw [show (256 : Int32) = nI 256 from rfl, show (60 : Int32) = nI 60 from rfl, div_nI (by omega) (by omega) (by omega), rem_nI (by omega) (by omega) (by omega), show (1 : Int32) = nI 1 from rfl, nI_add, hP]
    have q48 : ∀ z, (48 : Int32) + nI z = nI (48 + z) := fun z => by rw [show (48 : Int32) = nI 48 from rfl, nI_add]
    have q8 : (48 : Int32) + nI P / 10 = nI (48 + P / 10) := by rw [show (10 : Int32) = nI 10 from rfl, div_nI (by omega) (by omega) (by omega), q48]
    have q9 : (48 : Int32) + (nI P - nI P / 10 * 10) = nI (48 + P % 10) := by rw [show (10 : Int32) = nI 10 from rfl, rem_nI (by omega) (by omega) (by omega), q48]
    obtain ⟨r, hr⟩ : ∃ r, r = 1 + y / 16384 % 9 := ⟨_, rfl⟩
    have q10 : (49 : Int32) + (nI y / 16384 - nI y / 16384 / 9 * 9) = nI (48 + r) := by
      rw [show (16384 : Int32) = nI 16384 from rfl, show (9 : Int32) = nI 9 from rfl, div_nI (by omega) (by omega) (by omega), rem_nI (by omega) (by omega) (by omega), show (49 : Int32) = nI 49 from rfl, nI_add]
      congr 1
      omega
    have hPre := hg.1
    have hlen := hg.2.2.2.2.1
    have hTg := hg.cp (a := a) (b := b) (e := P / 10) (o := P % 10) (r := r) (by omega) (by omega) hac hbc hne (by omega) (by omega) (by omega) (by omega) (by omega)
    have h4 := hPre.cp4 (a := a) (b := b) (t := P / 10) (by omega) hc9 hac hbc hne (by omega) (by omega)
    have h5 := hPre.cp5 (a := a) (b := b) (t := P / 10) (o := P % 10) (by omega) hc9 hac hbc hne (by omega) (by omega) (by omega) (by omega)
    obtain ⟨tx', g', e', f'⟩ := ih (k + 1) fu (n1 + 1 + 1 + 1 + 1 + 1 + 1) (n2 + 1 + 1 + 1 + 1 + 1 + 1) (sz + 6) _ _ (by omega) (by omega) (by omega) hTg
    refine ⟨tx', g', ?_, ?_⟩
    · show Lb_told_262 xs L _ (mkT S0 n1 n2 tx sz) (nI at0) (nI c) (nI T) (nI M) 1 (nI sz) (nI k) = _
      unfold Lb_told_262
      rw [if_neg (by rw [nIle (by omega) (by omega)]; omega), if_neg (by decide), q1, gck_ok (decide_eq_true (nI_pos' (by omega))), eY, gviN, q2, gck_ok (ck_ne (by omega) (by omega)), q3, gviN, gck_ok (ck_ne (by omega) (by omega)), q4, gviN, q5, gck_ok (ck_ne (by omega) (by omega)), gck_ok (ck_ne (by omega) (by omega)), q6, gviN, q7, gviN]
      rw [hp_c (ch := 99) 99 rfl (by omega) (by omega), gbsN, if_neg (by decide), hp_c (48 + a) (q48 a) (by omega) (by omega), gbsN, if_neg (by decide), hp_c (48 + b) (q48 b) (by omega) (by omega), gbsN, if_neg (by decide), hp_c (48 + P / 10) q8 (by omega) (by omega), gbsN, if_neg (by decide), err_ok, show sz + 1 + 1 = sz + 2 from rfl, show sz + 2 + 1 = sz + 3 from rfl, show sz + 3 + 1 = sz + 4 from rfl, h4]
      rw [if_pos (show eI (.error (sz + 4) : Except Nat Game) = nI sz + 4 by rw [nIp4]; rfl), hp_c (48 + P % 10) q9 (by omega) (by omega), gbsN, if_neg (by decide), err_ok, show sz + 4 + 1 = sz + 5 from rfl, h5]
      rw [if_pos (show eI (.error (sz + 5) : Except Nat Game) = nI sz + 5 by rw [nIp5]; rfl), hp_c (48 + r) q10 (by omega) (by omega), gbsN, if_neg (by decide), err_ok, show sz + 5 + 1 = sz + 6 from rfl, hTg.1.ok (by omega)]
      rw [if_pos (show eI (.ok _ : Except Nat Game) = -9 from rfl)]
      unfold B_told_455
      rw [show (6 : Int32) = nI 6 from rfl, nI_add, gviN, nI_s, gviN, e', show n1 + 1 + 1 + 1 + 1 + 1 + 1 + 6 * d = n1 + 6 * (d + 1) by omega, show n2 + 1 + 1 + 1 + 1 + 1 + 1 + 6 * d = n2 + 6 * (d + 1) by omega, show sz + 6 + 6 * d = sz + 6 * (d + 1) by omega]
    · rw [show sz + 6 * (d + 1) = sz + 6 + 6 * d by omega]
      exact f'
theorem td_466 {T M n1 n2 sz : Nat} {tx : Nat → Nat} {g : Game} (hT : T ≤ 9) (hM : M ≤ 6) (hz : sz ≤ 90) (hg : Tg c tx sz g T M) : B_told_466 xs L (mkT S0 n1 n2 tx sz) (nI c) (nI T) (nI M) 1 (nI sz) = some (1, ((n1 + 2, (g, tset tx sz 82, sz + 1, [], fun _ => none)), (n2 + 2, (g, tset tx sz 82, sz + 1, [], fun _ => none)))) := by
  obtain ⟨h1, h2, h3, h4, h5, h6, h7⟩ := hg
  have hok := h1.ok (by omega)
  have eL : ∀ w : At, w.2.2.1 = tx → w.2.2.2.1 = sz → h_tryLoad w = some (nI T, (w.1 + 1, (g, tx, sz, [], fun _ => none))) := fun w a b => by
    unfold h_tryLoad aLoad
    rw [a, b, hok]
    show some (nI g.2.1.length, _) = _
    rw [h4]
  obtain ⟨S1, hS1⟩ : ∃ S1 : At2, S1 = ((n1 + 1, (g, tx, sz, [], fun _ => none)), (n2 + 1, (g, tx, sz, [], fun _ => none))) := ⟨_, rfl⟩
  have hmk : S1 = mkT S1 (n1 + 1) (n2 + 1) tx sz := by rw [hS1]; rfl
  have e0 : h_tryAbout 0 S1.1 = some (nI c, S1.1) := by
    rw [hS1]
    show some (nAbout g 0, _) = _
    unfold nAbout
    rw [if_pos rfl, h2.1.2.2]
  have e2 : h_tryAbout 2 S1.1 = some (nI M, S1.1) := by
    rw [hS1]
    show some (nAbout g 2, _) = _
    unfold nAbout
    rw [if_neg (by decide), if_neg (by decide), if_pos rfl, h5]
  have e5 : h_tryAbout 5 S1.1 = some (-400, S1.1) := by
    rw [hS1]
    show some (nAbout g 5, _) = _
    unfold nAbout
    rw [if_neg (by decide), if_neg (by decide), if_neg (by decide), if_neg (by decide), if_neg (by decide), if_pos rfl, h6]
  have ec : h_tryCompany 3 0 S1.1 = some (100, S1.1) := by
    have := tCo0 (u := S1.1) (i := 3) (by omega)
    rw [show (3 : Int32) = nI 3 from rfl, this, hS1]
    show some (g.2.2.1 3 0, _) = _
    rw [h7]
  have eu : h_tryUndo S1.1 = some (-9999003, S1.1) := by rw [hS1]; rfl
  have er : h_tryRestore 1 S1.2 = some (-9999003, S1.2) := by
    rw [hS1]
    unfold h_tryRestore aRestore
    rw [ix21]
  have hL1 : gbs (gp1 (mkT S0 n1 n2 tx sz) (h_tryLoad (mkT S0 n1 n2 tx sz).1)) (fun v_1 S_2 => if v_1 = nI T then gbs (gq1 S_2 (h_tryLoad S_2.2)) (fun v S => if v = nI T then some (v, S) else none) else none) = some (nI T, S1) := by
    rw [eL _ rfl rfl, gp1N, gbsN, if_pos rfl, eL _ rfl rfl, gq1N, gbsN, if_pos rfl, hS1]
    rfl
  have bad := h1.bad (by omega)
  unfold B_told_466
  rw [if_neg (by decide), eL _ rfl rfl, gp1N, gbsN, if_pos rfl, eL _ rfl rfl, gq1N, gbsN, if_pos rfl]
  show gbs (gp1 ((n1 + 1, (g, tx, sz, [], fun _ => none)), (n2 + 1, (g, tx, sz, [], fun _ => none))) (h_tryAbout 0 ((n1 + 1, (g, tx, sz, [], fun _ => none)), (n2 + 1, (g, tx, sz, [], fun _ => none))).1)) _ = _
  rw [← hS1, e0, gp1N, gbsN, if_pos rfl]
  show gbs (gp1 S1 (h_tryAbout 2 S1.1)) _ = _
  rw [e2, gp1N, gbsN, if_pos rfl]
  show gbs (gp1 S1 (h_tryAbout 5 S1.1)) _ = _
  rw [e5, gp1N, gbsN, if_pos rfl]
  show gbs (gp1 S1 (h_tryCompany 3 0 S1.1)) _ = _
  rw [ec, gp1N, gbsN, if_pos rfl]
  show gbs (gp1 S1 (h_tryUndo S1.1)) _ = _
  rw [eu, gp1N, gbsN, if_pos rfl]
  show gbs (gq1 S1 (h_tryRestore 1 S1.2)) _ = _
  rw [er, gq1N, gbsN, if_pos rfl]
  show gbs (h_put 82 S1) _ = _
  rw [hmk, hp_c (ch := 82) 82 rfl (by omega) (by omega), gbsN, if_neg (by decide), err_ok, bad]
  rw [if_pos (show eI (.error sz : Except Nat Game) = nI sz from rfl)]
  have eB : h_tryLoad (mkT S1 (n1 + 1 + 1) (n2 + 1 + 1) (tset tx sz 82) (sz + 1)).1 = some (-9999003, (mkT S1 (n1 + 1 + 1) (n2 + 1 + 1) (tset tx sz 82) (sz + 1)).1) := by
    unfold h_tryLoad aLoad
    rw [show (mkT S1 (n1 + 1 + 1) (n2 + 1 + 1) (tset tx sz 82) (sz + 1)).1.2.2.1 = tset tx sz 82 from rfl, show (mkT S1 (n1 + 1 + 1) (n2 + 1 + 1) (tset tx sz 82) (sz + 1)).1.2.2.2.1 = sz + 1 from rfl, bad]
  rw [eB, gp1N, gbsN, if_pos rfl, hS1]
  rfl
theorem told_ok {at0 : Nat} (hat : at0 < 1000000) (ht : S0.2.2.2.1 = S0.1.2.2.1) (hz : S0.2.2.2.2.1 = S0.1.2.2.2.1) : ∃ c g tx sz n1 n2, h_told xs L (nI at0) S0 = some (1, ((n1, (g, tx, sz, [], fun _ => none)), (n2, (g, tx, sz, [], fun _ => none)))) ∧ V c 0 g ∧ Wf 40000 g ∧ 2 ≤ g.2.1.length ∧ n1 ≤ S0.1.1 + 80 ∧ n2 ≤ S0.2.1 + 80 := by
  obtain ⟨Y, hY, eY⟩ := num_v xs L (nI at0)
  obtain ⟨c, hc⟩ : ∃ c, c = 2 + Y % 6 := ⟨_, rfl⟩
  obtain ⟨T, hT⟩ : ∃ T, T = 2 + Y / 8 % 8 := ⟨_, rfl⟩
  obtain ⟨M, hM⟩ : ∃ M, M = 1 + Y / 128 % 6 := ⟨_, rfl⟩
  have q1 : (2 : Int32) + (nI Y - nI Y / 6 * 6) = nI c := by rw [show (6 : Int32) = nI 6 from rfl, rem_nI hY (by omega) (by omega), show (2 : Int32) = nI 2 from rfl, nI_add, hc]
  have q2 : (2 : Int32) + (nI Y / 8 - nI Y / 8 / 8 * 8) = nI T := by rw [show (8 : Int32) = nI 8 from rfl, div_nI hY (by omega) (by omega), rem_nI (by omega) (by omega) (by omega), show (2 : Int32) = nI 2 from rfl, nI_add, hT]
  have q3 : (1 : Int32) + (nI Y / 128 - nI Y / 128 / 6 * 6) = nI M := by rw [show (6 : Int32) = nI 6 from rfl, show (128 : Int32) = nI 128 from rfl, div_nI hY (by omega) (by omega), rem_nI (by omega) (by omega) (by omega), show (1 : Int32) = nI 1 from rfl, nI_add, hM]
  have hTg : Tg c (tset (tset S0.1.2.2.1 0 82) 1 (48 + c)) 2 (gNew (nI c)) 0 0 := ⟨pre_2 (by omega) (by omega), V_new (by omega) (by omega), Wf_new, rfl, rfl, rfl, rfl⟩
  obtain ⟨tx1, g1, e1, f1⟩ := td_105 (xs := xs) (L := L) (S0 := S0) (T := T) (M := M) (at0 := at0) (c := c) (by omega) hat (by omega) (by omega) T 0 10 (S0.1.1 + 1 + 1 + 1) (S0.2.1 + 1 + 1 + 1) 2 _ _ (Nat.zero_add _) (by omega) (by omega) hTg
  obtain ⟨tx2, g2, e2, f2⟩ := td_262 (xs := xs) (L := L) (S0 := S0) (T := T) (M := M) (at0 := at0) (c := c) (by omega) (by omega) hat (by omega) (by omega) M 0 7 (S0.1.1 + 1 + 1 + 1 + 4 * T) (S0.2.1 + 1 + 1 + 1 + 4 * T) (2 + 4 * T) _ _ (Nat.zero_add _) (by omega) (by omega) f1
  have e3 := td_466 (xs := xs) (L := L) (S0 := S0) (n1 := S0.1.1 + 1 + 1 + 1 + 4 * T + 6 * M) (n2 := S0.2.1 + 1 + 1 + 1 + 4 * T + 6 * M) (by omega) (by omega) (by omega) f2
  rw [nI_0] at e1 e2
  refine ⟨c, g2, tset tx2 (2 + 4 * T + 6 * M) 82, 2 + 4 * T + 6 * M + 1, S0.1.1 + 1 + 1 + 1 + 4 * T + 6 * M + 2, S0.2.1 + 1 + 1 + 1 + 4 * T + 6 * M + 2, ?_, f2.2.1, Wf_mono f2.2.2.1 (by omega), by rw [f2.2.2.2.1]; omega, ?_, ?_⟩
  · unfold h_told
    rw [gck_ok (decide_eq_true (nI_pos' (by omega))), eY, gviN, q1, gviN, q2, gviN, q3, gviN]
    unfold h_X10_clearText
    rw [gp1N, gbsN]
    show gbs (gq1 ((aClear S0.1).2, S0.2) (some (aClear S0.2))) _ = _
    have hcl : aClear S0.2 = (nI S0.1.2.2.2.1, (S0.2.1 + 1, (S0.2.2.1, S0.1.2.2.1, 0, S0.2.2.2.2.2))) := by
      unfold aClear
      rw [hz, ht]
    rw [hcl, gq1N, gbsN]
    rw [if_pos (show (aClear S0.1).1 = nI S0.1.2.2.2.1 from rfl)]
    show gbs (h_put 82 (mkT S0 (S0.1.1 + 1) (S0.2.1 + 1) S0.1.2.2.1 0)) _ = _
    rw [hp_c (ch := 82) 82 rfl (by omega) (by omega), gbsN, if_neg (by decide), err_ok, Nat.zero_add, pre_1, if_pos (show eI (.error 1 : Except Nat Game) = 1 from rfl)]
    rw [hp_c (48 + c) (by rw [show (48 : Int32) = nI 48 from rfl, nI_add]) (by omega) (by omega), gbsN, if_neg (by decide), err_ok, show 1 + 1 = 2 from rfl, hTg.1.ok (by omega), if_pos (show eI (.ok _ : Except Nat Game) = -9 from rfl)]
    unfold B_told_97
    rw [show (2 : Int32) = nI 2 from rfl, e1, e2, e3]
  · omega
  · omega
end TLD
