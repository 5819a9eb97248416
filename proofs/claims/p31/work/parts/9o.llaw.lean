/-! ===== the law's body, played ===== -/
def LI (N n : Nat) (S : At2) : Prop := Ok9 N S.1.2 ∧ Eq9 S.1 S.2 ∧ S.1.1 ≤ n ∧ S.2.1 ≤ n
theorem LI.mono {N N' n n' : Nat} {S : At2} (h : LI N n S) (hN : N ≤ N') (hn : n ≤ n') : LI N' n' S := ⟨Ok9_mono h.1 hN, h.2.1, Nat.le_trans h.2.2.1 hn, Nat.le_trans h.2.2.2 hn⟩
section LAW
variable {xs : Nat → Int32} {L : Nat}
/-- refused, alike and sound -/
theorem lw_three {N n : Nat} {S : At2} (h : LI N n S) (hN : N ≤ 30000000) (hn : n < 90000) : h_refuses S.2 = some (1, S.2) ∧ h_alike S = some (1, S) ∧ h_sound S.1 = some (1, S.1) := by
  obtain ⟨⟨⟨⟨c, hV⟩, hW, hT⟩, -, -⟩, ⟨hg, -⟩, h1, h2⟩ := h
  exact ⟨refuses_ok (c := c) (m := N) (by rw [hg]; exact hV) (by omega), alike_ok hg hV.2.2.2.2.2.1 hV.2.2.1.1, sound_ok hV hW (by omega)⟩
/-- a fourth act: scripts and hands -/
theorem lw_hands {N n X Y : Nat} {S : At2} {K : Int32 → At2 → Option (Int32 × At2)} {K85 : At2 → Nat → Int32 → Int32 → Option (Int32 × At2)} {K140 : At2 → Nat → Int32 → Int32 → Int32 → Option (Int32 × At2)} {tk : Nat} {x4 : Int32} {k : Nat} (h : LI N n S) (hN : N ≤ 30000000) (hn : n < 80000) (hX : X < 2147483648) (hY : Y < 2147483648) (hk : k < 1000) (hk3 : k % 4 = 3) (ht : tk < 6) : ∃ S', B_law_234 xs L K85 K140 S tk x4 (nI k) (nI X) (nI Y) 1 = K140 S' (tk + 1) 1 x4 (nI (k + 1)) ∧ LI N (n + 30) S' := by
  obtain ⟨hO, hE, n1, n2⟩ := h
  obtain ⟨⟨⟨c, hV⟩, hW, hT⟩, -, hsl⟩ := id hO
  obtain ⟨q1, q2, q3, q4, q5⟩ := hE
  obtain ⟨⟨np, g, tx, sz, hp, sp⟩, ⟨nq, gq, tq, zq, hq, sq⟩⟩ := S
  replace q1 : gq = g := q1
  replace q2 : tq = tx := q2
  replace q3 : zq = sz := q3
  replace q4 : hq = hp := q4
  replace q5 : sq 1 = sp 1 := q5
  have n1 : np ≤ n := n1
  have n2 : nq ≤ n := n2
  subst q1
  subst q2
  subst q3
  subst q4
  have hV : V c N gq := hV
  have hW : Wf N gq := hW
  have hT : 2 ≤ gq.2.1.length := hT
  have rk : nI k - nI k / 4 * 4 = 3 := by rw [show (4 : Int32) = nI 4 from rfl, rem_nI (by omega) (by omega) (by omega), hk3]; rfl
  have e4 : h_tryAbout 4 ((np, (gq, tq, zq, hq, sp)) : At) = some (gq.1 4, (np, (gq, tq, zq, hq, sp))) := rfl
  have es := scripts_ok (u := ((np, (gq, tq, zq, hq, sp)) : At)) (X := X) hV hW (by omega) hX
  have sv : ∀ (a : Nat) (b : Nat → Option Game), h_trySave 0 ((a, (gq, tq, zq, hq, b)) : At) = some (gq.1 4, (a + 1, (gq, tq, zq, hq, fun j => if j = 0 then some gq else b j))) := fun a b => by
    unfold h_trySave aSave
    rw [ix20]
  have rs : ∀ (a : Nat) (b : Nat → Option Game) (l : List Game), h_tryRestore 0 ((a, (gq, tq, zq, l, fun j => if j = 0 then some gq else b j)) : At) = some (gq.1 4, (a + 1, (gq, tq, zq, [], fun j => if j = 0 then some gq else b j))) := fun a b l => tRes (w := ((a, (gq, tq, zq, l, fun j => if j = 0 then some gq else b j)) : At)) (g := gq) (by show (if (0 : Nat) = 0 then some gq else b 0) = some gq; rw [if_pos rfl])
  obtain ⟨w', e', f1, f2⟩ := hands_ok (w := ((np + 1 + 1, (gq, tq, zq, [], fun j => if j = 0 then some gq else sp j)) : At)) (X := Y) (c := c) (m := N) (N := N) hY hV hW hN hT (by show np + 1 + 1 < _; omega)
  have f1 : w'.1 ≤ np + 1 + 1 + 22 := f1
  obtain ⟨nw, sw⟩ := w'
  have f2 : sw = (gq, tq, zq, [], fun j => if j = 0 then some gq else (if j = 0 then some gq else sp j)) := f2
  subst f2
  have eu : h_tryUndo ((nw, (gq, tq, zq, [], fun j => if j = 0 then some gq else (if j = 0 then some gq else sp j))) : At) = some (-9999003, (nw, (gq, tq, zq, [], fun j => if j = 0 then some gq else (if j = 0 then some gq else sp j)))) := rfl
  have ea : h_alike (((nw, (gq, tq, zq, [], fun j => if j = 0 then some gq else (if j = 0 then some gq else sp j))), (nq + 1 + 1, (gq, tq, zq, [], fun j => if j = 0 then some gq else sq j))) : At2) = some (1, ((nw, (gq, tq, zq, [], fun j => if j = 0 then some gq else (if j = 0 then some gq else sp j))), (nq + 1 + 1, (gq, tq, zq, [], fun j => if j = 0 then some gq else sq j)))) := alike_ok rfl hV.2.2.2.2.2.1 hV.2.2.1.1
  refine ⟨((nw, (gq, tq, zq, [], fun j => if j = 0 then some gq else (if j = 0 then some gq else sp j))), (nq + 1 + 1, (gq, tq, zq, [], fun j => if j = 0 then some gq else sq j))), ?_, ⟨hO.1, ⟨Nat.zero_le _, fun x hx => by cases hx⟩, fun j x hx => ?_⟩, ⟨rfl, rfl, rfl, rfl, ?_⟩, ?_, ?_⟩
  · unfold B_law_234
    rw [if_pos rk, if_neg (by decide), gck_ok (decide_eq_true ht)]
    rw [e4, gp1N, gbsN, es, gp1N, gbsN, if_neg (by decide), sv, gq1N, gbsN, if_pos rfl, sv, gp1N, gbsN, if_pos rfl, rs, gp1N, gbsN, if_pos rfl, e', gp1N, gbsN, if_neg (by decide), rs, gq1N, gbsN, if_pos rfl, eu, gp1N, gbsN, if_pos rfl, ea, gbsN, if_neg (by decide)]
    unfold B_law_334 B_law_335
    rw [gviN, nI_s]
  · have hx : (if j = 0 then some gq else (if j = 0 then some gq else sp j)) = some x := hx
    by_cases hj : j = 0
    · rw [if_pos hj] at hx
      rw [← Option.some.inj hx]
      exact hO.1
    · rw [if_neg hj, if_neg hj] at hx
      exact hsl j x hx
  · show (if (1 : Nat) = 0 then some gq else sq 1) = (if (1 : Nat) = 0 then some gq else (if (1 : Nat) = 0 then some gq else sp 1))
    rw [if_neg (by decide), if_neg (by decide), if_neg (by decide), q5]
  · show nw ≤ n + 30
    omega
  · show nq + 1 + 1 ≤ n + 30
    omega
set_option maxRecDepth 100000 in
theorem lw_140 {K85 : At2 → Nat → Int32 → Int32 → Option (Int32 × At2)} {j : Nat} (hj : j < 2) : ∀ (d k fu N n tk : Nat) (S : At2), k + d = 15 → d < fu → LI N n S → N + 5000 * d ≤ 20000000 → n + 40 * d ≤ 70000 → tk + (3 - k / 4) ≤ 6 → ∃ S' tk', L_law_140 xs L K85 fu S tk 1 (nI j) (nI k) = K85 S' tk' 1 (nI (j + 1)) ∧ tk' ≤ tk + (3 - k / 4) ∧ LI (N + 5000 * d) (n + 40 * d) S' := by
  intro d
  induction d with
  | zero =>
    intro k fu N n tk S hk hf hL hN hn ht
    obtain ⟨fu, rfl⟩ : ∃ f, fu = f + 1 := ⟨fu - 1, by omega⟩
    refine ⟨S, tk, ?_, by omega, hL⟩
    show Lb_law_140 xs L K85 _ S tk 1 (nI j) (nI k) = _
    unfold Lb_law_140
    rw [if_pos (by rw [show (15 : Int32) = nI 15 from rfl, nIle (by omega) (by omega)]; omega)]
    unfold B_law_341
    rw [gviN, nI_s]
  | succ d ih =>
    intro k fu N n tk S hk hf hL hN hn ht
    obtain ⟨fu, rfl⟩ : ∃ f, fu = f + 1 := ⟨fu - 1, by omega⟩
    have r1 : ((40 : Int32) * nI j + 5) + 2 * nI k = nI (40 * j + 5 + 2 * k) := by rw [show (40 : Int32) = nI 40 from rfl, show (2 : Int32) = nI 2 from rfl, pk_mul, pk_mul, nIp5, nI_add]
    have r2 : ((40 : Int32) * nI j + 6) + 2 * nI k = nI (40 * j + 6 + 2 * k) := by rw [show (40 : Int32) = nI 40 from rfl, show (2 : Int32) = nI 2 from rfl, show (6 : Int32) = nI 6 from rfl, pk_mul, pk_mul, nI_add, nI_add]
    obtain ⟨X, hX, eX⟩ := num_v xs L (nI (40 * j + 5 + 2 * k))
    obtain ⟨Y, hY, eY⟩ := num_v xs L (nI (40 * j + 6 + 2 * k))
    obtain ⟨u1, u2⟩ := S
    obtain ⟨hO, hE, n1, n2⟩ := hL
    obtain ⟨A, hS, hA⟩ := act_ok (N := N) (u := u1) (nI X) (nI Y) hO (by omega)
    obtain ⟨v, p', a1, a2, a3, -, -, a4⟩ := hS
    obtain ⟨q', b1, b2, b3⟩ := a4 u2 hE
    have hL' : LI (N + 5000) (n + 1) (p', q') := ⟨a2, b2, by show p'.1 ≤ n + 1; have : u1.1 ≤ n := n1; omega, by show q'.1 ≤ n + 1; have : u2.1 ≤ n := n2; omega⟩
    obtain ⟨t1, t2, t3⟩ := lw_three hL' (by omega) (by omega)
    have eA : h_act (nI X) (nI Y) u1 = some (v, p') := by rw [hA u1 rfl, a1]
    have eB : h_act (nI X) (nI Y) u2 = some (v, q') := by rw [hA u2 hE.1, b1]
    have hgo : ∃ S' tk', B_law_234 xs L K85 (L_law_140 xs L K85 fu) (p', q') tk (nI j) (nI k) (nI X) (nI Y) 1 = K85 S' tk' 1 (nI (j + 1)) ∧ tk' ≤ tk + (3 - k / 4) ∧ LI (N + 5000 * (d + 1)) (n + 40 * (d + 1)) S' := by
      by_cases h3 : k % 4 = 3
      · obtain ⟨S2, e2, f2⟩ := lw_hands (xs := xs) (L := L) (K := fun _ _ => none) (K85 := K85) (K140 := L_law_140 xs L K85 fu) (tk := tk) (x4 := nI j) (k := k) hL' (by omega) (by omega) hX hY (by omega) h3 (by omega)
        obtain ⟨S', tk', e3, f3, g3⟩ := ih (k + 1) fu (N + 5000) (n + 40) (tk + 1) S2 (by omega) (by omega) (f2.mono (Nat.le_refl _) (by omega)) (by omega) (by omega) (by omega)
        exact ⟨S', tk', e2.trans e3, by omega, g3.mono (by omega) (by omega)⟩
      · obtain ⟨S', tk', e3, f3, g3⟩ := ih (k + 1) fu (N + 5000) (n + 1) tk (p', q') (by omega) (by omega) hL' (by omega) (by omega) (by omega)
        refine ⟨S', tk', ?_, by omega, g3.mono (by omega) (by omega)⟩
        unfold B_law_234
        rw [if_neg ?_]
        · unfold B_law_335
          rw [gviN, nI_s]
          exact e3
        · rw [show (4 : Int32) = nI 4 from rfl, rem_nI (by omega) (by omega) (by omega), show (3 : Int32) = nI 3 from rfl, nI_inj (by omega) (by omega)]
          exact h3
    obtain ⟨S', tk', e3, f3, g3⟩ := hgo
    refine ⟨S', tk', ?_, f3, g3⟩
    show Lb_law_140 xs L K85 _ (u1, u2) tk 1 (nI j) (nI k) = _
    unfold Lb_law_140
    rw [if_neg (by rw [show (15 : Int32) = nI 15 from rfl, nIle (by omega) (by omega)]; omega), if_neg (by decide), r1, gck_ok (decide_eq_true (nI_pos' (by omega))), eX, gviN, r2, gck_ok (decide_eq_true (nI_pos' (by omega))), eY, gviN, eA, gp1N, gbsN, eB, gq1N, gbsN, if_pos rfl]
    show gbs (gq1 (p', q') (h_refuses q')) _ = _
    rw [show h_refuses q' = some (1, q') from t1, gq1N, gbsN, if_neg (by decide)]
    show gbs (h_alike (p', q')) _ = _
    rw [t2, gbsN, if_neg (by decide)]
    show gbs (gp1 (p', q') (h_sound p')) _ = _
    rw [show h_sound p' = some (1, p') from t3, gp1N, gbsN, if_neg (by decide)]
    exact e3
set_option maxRecDepth 100000 in
theorem lw_85 : ∀ (d j fu n tk : Nat) (S : At2), j + d = 2 → d < fu → S.2.2.2.1 = S.1.2.2.1 → S.2.2.2.2.1 = S.1.2.2.2.1 → S.1.1 ≤ n → S.2.1 ≤ n → n + 1000 * d ≤ 10000 → tk + 3 * d ≤ 6 → ∃ S', L_law_85 xs L fu S tk 1 (nI j) = some (1, S') := by
  intro d
  induction d with
  | zero =>
    intro j fu n tk S hj hf h1 h2 n1 n2 hn ht
    obtain ⟨fu, rfl⟩ : ∃ f, fu = f + 1 := ⟨fu - 1, by omega⟩
    refine ⟨S, ?_⟩
    show Lb_law_85 xs L _ S tk 1 (nI j) = _
    unfold Lb_law_85
    rw [if_pos (by rw [show (2 : Int32) = nI 2 from rfl, nIle (by omega) (by omega)]; omega)]
    unfold B_law_347
    rw [gck_ok (by decide)]
  | succ d ih =>
    intro j fu n tk S hj hf h1 h2 n1 n2 hn ht
    obtain ⟨fu, rfl⟩ : ∃ f, fu = f + 1 := ⟨fu - 1, by omega⟩
    have r1 : (40 : Int32) * nI j = nI (40 * j) := by rw [show (40 : Int32) = nI 40 from rfl, pk_mul]
    obtain ⟨c, g, tx, sz, m1, m2, e1, hV, hW, hT, k1, k2⟩ := told_ok (xs := xs) (L := L) (S0 := S) (at0 := 40 * j) (by omega) h1 h2
    have hL : LI 40000 (n + 80) (((m1, (g, tx, sz, [], fun _ => none)), (m2, (g, tx, sz, [], fun _ => none))) : At2) := ⟨⟨⟨⟨c, V_mono hV (by omega)⟩, hW, hT⟩, ⟨Nat.zero_le _, fun x hx => by cases hx⟩, fun k x hx => by cases hx⟩, ⟨rfl, rfl, rfl, rfl, rfl⟩, by show m1 ≤ n + 80; omega, by show m2 ≤ n + 80; omega⟩
    obtain ⟨S1, hS1⟩ : ∃ S1 : At2, S1 = ((m1, (g, tx, sz, [], fun _ => none)), (m2, (g, tx, sz, [], fun _ => none))) := ⟨_, rfl⟩
    rw [← hS1] at hL e1
    obtain ⟨t1, t2, t3⟩ := lw_three hL (by omega) (by omega)
    obtain ⟨S2, tk2, e2, f2, g2⟩ := lw_140 (xs := xs) (L := L) (K85 := L_law_85 xs L fu) (j := j) (by omega) 15 0 16 40000 (n + 80) tk S1 rfl (by omega) hL (by omega) (by omega) (by omega)
    obtain ⟨S', e3⟩ := ih (j + 1) fu (n + 1000) tk2 S2 (by omega) (by omega) g2.2.1.2.1 g2.2.1.2.2.1 (by have := g2.2.2.1; omega) (by have := g2.2.2.2; omega) (by omega) (by omega)
    refine ⟨S', ?_⟩
    show Lb_law_85 xs L _ S tk 1 (nI j) = _
    unfold Lb_law_85
    rw [if_neg (by rw [show (2 : Int32) = nI 2 from rfl, nIle (by omega) (by omega)]; omega), if_neg (by decide), r1, e1, gbsN, if_neg (by decide), al_step2 (F := h_refuses) t1, if_neg (by decide), t2, gbsN, if_neg (by decide), al_step (F := h_sound) t3, if_neg (by decide)]
    unfold B_law_136
    rw [nI_0] at e2
    rw [e2]
    exact e3
def g00 : Game := gAddT (gAddT (gNew 3) (0, 1, 2, -9)) (1, 2, 2, -9)
def s00 : St := (g00, fun _ => 0, 0, [], fun _ => none)
def u00 : At := (0, s00)
theorem V_00 : V 3 0 g00 := by
  refine ⟨⟨by omega, by omega, rfl⟩, ⟨1, by omega, by omega, rfl⟩, ⟨by decide, fun t ht => ?_⟩, fun i hi => ⟨⟨1, by omega, by omega, rfl⟩, ⟨0, by omega, by omega, rfl⟩⟩, fun i hi => ⟨Nat.zero_le _, fun x hx => by cases hx⟩, ⟨Nat.zero_le _, fun x hx => by cases hx⟩⟩
  have ht : t ∈ [((0 : Int32), (1 : Int32), (2 : Int32), (-9 : Int32)), (1, 2, 2, -9)] := ht
  rcases List.mem_cons.mp ht with rfl | ht
  · exact ⟨⟨0, by omega, rfl⟩, ⟨1, by omega, rfl⟩, by decide, ⟨2, by omega, by omega, rfl⟩, Or.inl rfl⟩
  · rw [List.mem_singleton.mp ht]
    exact ⟨⟨1, by omega, rfl⟩, ⟨2, by omega, rfl⟩, by decide, ⟨2, by omega, by omega, rfl⟩, Or.inl rfl⟩
theorem Wf_00 : Wf 100 g00 := Wf_addT (Wf_addT Wf_new)
theorem way_00 : nWay g00 0 0 2 4 0 = 4 := by decide +kernel
theorem law_ok : ∃ S', h_law xs L 0 (u00, u00) = some (1, S') := by
  have hL : LI 100 0 (u00, u00) := ⟨⟨⟨⟨3, V_mono V_00 (by omega)⟩, Wf_00, by decide⟩, ⟨Nat.zero_le _, fun x hx => by cases hx⟩, fun k x hx => by cases hx⟩, ⟨rfl, rfl, rfl, rfl, rfl⟩, Nat.le_refl _, Nat.le_refl _⟩
  obtain ⟨t1, t2, t3⟩ := lw_three hL (by omega) (by omega)
  obtain ⟨S', e'⟩ := lw_85 (xs := xs) (L := L) 2 0 3 0 0 (u00, u00) rfl (by omega) rfl rfl (Nat.le_refl _) (Nat.le_refl _) (by omega) (by omega)
  have e0 : h_X10_errorPosition u00 = some (0, u00) := by
    unfold h_X10_errorPosition nErr
    have : pAll u00.2.2.1 u00.2.2.2.1 = .error 0 := by
      unfold pAll
      rw [if_neg (fun q => absurd q.1 (Nat.lt_irrefl _))]
    rw [this]
    rfl
  have e1 : h_tryAbout 1 u00 = some (2, u00) := rfl
  have e2 : h_tryWay 0 0 2 4 0 u00 = some (4, u00) := by
    unfold h_tryWay
    rw [show nWay u00.2.1 0 0 2 4 0 = 4 from way_00]
  have e3 : h_tryUndo u00 = some (-9999003, u00) := rfl
  refine ⟨S', ?_⟩
  unfold h_law
  rw [al_step (F := h_X10_errorPosition) (u := (u00, u00)) e0, if_pos rfl, al_step (F := h_tryAbout 1) (u := (u00, u00)) e1, if_pos rfl, al_step (F := h_tryWay 0 0 2 4 0) (u := (u00, u00)) e2, if_pos rfl, al_step (F := h_tryUndo) (u := (u00, u00)) e3, if_pos rfl, al_step2 (F := h_refuses) t1, if_neg (by decide), t2, gbsN, if_neg (by decide), al_step (F := h_sound) t3, if_neg (by decide)]
  unfold B_law_81
  rw [nI_0] at e'
  exact e'
end LAW
