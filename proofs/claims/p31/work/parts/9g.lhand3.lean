section HND3
variable {c m N : Nat} {w : At}
theorem Ho.back {w1 : At} (hH : Ho c m N w) (h : w1.2.2.2.2.2 = w.2.2.2.2.2) (ht : w1.2.2.1 = w.2.2.1) (hz : w1.2.2.2.1 = w.2.2.2.1) : ∃ w2 : At, h_tryRestore 0 w1 = some (w.2.1.1 4, w2) ∧ w2.1 = w1.1 + 1 ∧ w2.2.1 = w.2.1 ∧ Ho c m N w2 ∧ ∀ w' k, Fin9 w2 w' k → Fin9 w w' (k + (w1.1 + 1 - w.1)) := by
  obtain ⟨hV, hW, hN, hs⟩ := hH
  refine ⟨(w1.1 + 1, (w.2.1, w1.2.2.1, w1.2.2.2.1, [], w1.2.2.2.2.2)), tRes (by rw [h]; exact hs), rfl, rfl, ⟨hV, hW, hN, by show w1.2.2.2.2.2 0 = _; rw [h]; exact hs⟩, fun w' k hF => ⟨?_, ?_⟩⟩
  · have h1 : w'.1 ≤ w1.1 + 1 + k := hF.1
    omega
  · have h2 : w'.2 = (w.2.1, w1.2.2.1, w1.2.2.2.1, [], w1.2.2.2.2.2) := hF.2
    rw [h2, h, ht, hz]
theorem Fin9.le {w' : At} {k k' : Nat} (h : Fin9 w w' k) (hk : k ≤ k') : Fin9 w w' k' := ⟨Nat.le_trans h.1 (Nat.add_le_add_left hk _), h.2⟩
/-- from the best contract on -/
theorem hd_best {i X k : Nat} {b : T6} (hi : i < 4) (hX : X < 2147483648) (hH : Ho c m N w) (hn : w.1 < 90000) (hb : w.2.1.2.2.2.2[k]? = some b) : ∃ w', B_hands_1106 w (nI X) (w.2.1.1 4) (nI i) 1 (nI (w.2.1.2.2.2.1 i).length) (nI k) b.2.2.2.2.1 b.1 b.2.1 = some (1, w') ∧ Fin9 w w' 13 := by
  rw [hd_1106 hi hH.1 hb]
  exact hd_1346 hi hX hH hn
/-- after the run: sound, restored -/
theorem hd_1083 {i X k : Nat} {b : T6} {w1 : At} {m' N' : Nat} (hi : i < 4) (hX : X < 2147483648) (hH : Ho c m N w) (hn : w.1 < 89000) (hb : w.2.1.2.2.2.2[k]? = some b) (hV1 : V c m' w1.2.1) (hW1 : Wf N' w1.2.1) (hN1 : N' ≤ 100000000) (h0 : w1.1 ≤ w.1 + 1) (h : w1.2.2.2.2.2 = w.2.2.2.2.2) (ht : w1.2.2.1 = w.2.2.1) (hz : w1.2.2.2.1 = w.2.2.2.1) : ∃ w', B_hands_1083 w1 (nI X) (w.2.1.1 4) (nI i) (nI (w.2.1.2.2.2.1 i).length) (nI k) b.2.2.2.2.1 b.1 b.2.1 = some (1, w') ∧ Fin9 w w' 15 := by
  obtain ⟨w2, e2, n2, g2, hH2, hF⟩ := hH.back h ht hz
  unfold B_hands_1083
  rw [sound_ok hV1 hW1 hN1, gbsN, if_neg (by decide), e2, gbsN, if_pos rfl]
  obtain ⟨w', e', f'⟩ := hd_best (w := w2) (X := X) (b := b) (k := k) hi hX hH2 (by omega) (by rw [g2]; exact hb)
  rw [g2] at e'
  exact ⟨w', e', (hF w' 13 f').le (by omega)⟩
theorem nWhy_v {g : Game} {k j h : Nat} {a : T6} {t : T2} (hk8 : g.2.2.2.2.length ≤ 8) (hk : g.2.2.2.2[k]? = some a) (ho : a.2.2.2.2.1 = nI h) (hh : h < 4) (hl : (g.2.2.2.1 h).length ≤ 4) (hj : (g.2.2.2.1 h)[j]? = some t) : nWhy g (nI k) (nI j) = rsn g h a t a.1.toNatClampNeg a.2.1.toNatClampNeg t.1.toNatClampNeg := by
  have := lt_len hk
  have := lt_len hj
  unfold nWhy
  rw [ixO_t (lt_len hk) (by omega)]
  show (match g.2.2.2.2[k]? with | none => _ | some a => _) = _
  rw [hk]
  show (if a.2.2.2.2.1 = -9 then 1 else _) = _
  rw [if_neg (by rw [ho]; exact nI_m9 (by omega)), ho, nI_c (by omega), ixO_t (lt_len hj) (by omega)]
  show (match (g.2.2.2.1 h)[j]? with | none => _ | some b => _) = _
  rw [hj]
theorem nWhy_x {g : Game} {k h : Nat} {a : T6} (hk8 : g.2.2.2.2.length ≤ 8) (hk : g.2.2.2.2[k]? = some a) (ho : a.2.2.2.2.1 = nI h) (hh : h < 4) (hl : (g.2.2.2.1 h).length ≤ 4) : nWhy g (nI k) (nI (g.2.2.2.1 h).length) = -9999001 := by
  have := lt_len hk
  unfold nWhy
  rw [ixO_t (lt_len hk) (by omega)]
  show (match g.2.2.2.2[k]? with | none => _ | some a => _) = _
  rw [hk]
  show (if a.2.2.2.2.1 = -9 then 1 else _) = _
  rw [if_neg (by rw [ho]; exact nI_m9 (by omega)), ho, nI_c (by omega), ixO_self (by omega)]
theorem nWhy_1 {g : Game} {k : Nat} {a : T6} {x : Int32} (hk8 : g.2.2.2.2.length ≤ 8) (hk : g.2.2.2.2[k]? = some a) (ho : a.2.2.2.2.1 = -9) : nWhy g (nI k) x = 1 := by
  have := lt_len hk
  unfold nWhy
  rw [ixO_t (lt_len hk) (by omega)]
  show (match g.2.2.2.2[k]? with | none => _ | some a => _) = _
  rw [hk]
  show (if a.2.2.2.2.1 = -9 then 1 else _) = _
  rw [if_pos ho]
theorem aRun_v {k j h : Nat} {a : T6} {t : T2} (hk8 : w.2.1.2.2.2.2.length ≤ 8) (hk : w.2.1.2.2.2.2[k]? = some a) (ho : a.2.2.2.2.1 = nI h) (hh : h < 4) (hl : (w.2.1.2.2.2.1 h).length ≤ 4) (hj : (w.2.1.2.2.2.1 h)[j]? = some t) : aRun (nI k) (nI j) w = if rsn w.2.1 h a t a.1.toNatClampNeg a.2.1.toNatClampNeg t.1.toNatClampNeg = 0 then aAct w (nI (wC (wks w.2.1 h) a.2.1.toNatClampNeg a.1.toNatClampNeg (4 * t.1.toNatClampNeg))) (gCar w.2.1 h k j a t (wP (wks w.2.1 h) a.2.1.toNatClampNeg a.1.toNatClampNeg (4 * t.1.toNatClampNeg))) else (-9999003, w) := by
  have := lt_len hk
  have := lt_len hj
  unfold aRun
  rw [ixO_t (lt_len hk) (by omega)]
  show (match w.2.1.2.2.2.2[k]? with | none => _ | some a => _) = _
  rw [hk]
  show (if a.2.2.2.2.1 = -9 then _ else _) = _
  rw [if_neg (by rw [ho]; exact nI_m9 (by omega)), ho, nI_c (by omega), ixO_t (lt_len hj) (by omega)]
  show (match (w.2.1.2.2.2.1 h)[j]? with | none => _ | some b => _) = _
  rw [hj]
theorem aRun_1 {k : Nat} {a : T6} {x : Int32} (hk8 : w.2.1.2.2.2.2.length ≤ 8) (hk : w.2.1.2.2.2.2[k]? = some a) (ho : a.2.2.2.2.1 = -9) : aRun (nI k) x w = (-9999003, w) := by
  have := lt_len hk
  unfold aRun
  rw [ixO_t (lt_len hk) (by omega)]
  show (match w.2.1.2.2.2.2[k]? with | none => _ | some a => _) = _
  rw [hk]
  show (if a.2.2.2.2.1 = -9 then _ else _) = _
  rw [if_pos ho]
/-- a contract that has a holder with trains -/
theorem hd_run {i X k h : Nat} {b : T6} (hi : i < 4) (hX : X < 2147483648) (hH : Ho c m N w) (hn : w.1 < 89000) (hb : w.2.1.2.2.2.2[k]? = some b) (hh : h < 4) (ho : b.2.2.2.2.1 = nI h) : ∃ w', B_hands_836 w (nI X) (w.2.1.1 4) (nI i) (nI (w.2.1.2.2.2.1 i).length) (nI k) b.2.2.2.2.1 b.1 b.2.1 (nI (w.2.1.2.2.2.1 h).length) 1 = some (1, w') ∧ Fin9 w w' 15 := by
  have hH0 := hH
  obtain ⟨hV, hW, hN, hs⟩ := hH
  have hk8 := hV.2.2.2.2.2.1
  have hc9 := hV.1.2.1
  obtain ⟨hl, ht⟩ := hV.2.2.2.2.1 h hh
  unfold B_hands_836
  by_cases hz : (w.2.1.2.2.2.1 h).length = 0
  · rw [if_pos (by rw [hz]; decide)]
    obtain ⟨w', e', f'⟩ := hd_best (X := X) hi hX hH0 (by omega) hb
    exact ⟨w', e', f'.le (by omega)⟩
  · rw [if_neg (by rw [show (0 : Int32) = nI 0 from rfl, nIle (by omega) (by omega)]; omega), if_neg (by decide), gck_ok (ck_ne hz (by omega))]
    obtain ⟨j, hj⟩ : ∃ j, j = X / 8 % (w.2.1.2.2.2.1 h).length := ⟨_, rfl⟩
    have hjl : j < (w.2.1.2.2.2.1 h).length := by rw [hj]; exact Nat.mod_lt _ (by omega)
    have q28 : nI X / 8 - nI X / 8 / nI (w.2.1.2.2.2.1 h).length * nI (w.2.1.2.2.2.1 h).length = nI j := by
      rw [show (8 : Int32) = nI 8 from rfl, div_nI hX (by omega) (by omega), hj]
      exact rem_nI (by omega) (by omega) (by omega)
    obtain ⟨t, htj⟩ := some_of_lt hjl
    obtain ⟨⟨lv, l1, l6, elv⟩, -⟩ := ht t (mem_get htj)
    obtain ⟨x, y, hx, hy, hne, ex, ey⟩ := ct_xy hV hb
    have cx : b.1.toNatClampNeg = x := by rw [ex, nI_c (by omega)]
    have cy : b.2.1.toNatClampNeg = y := by rw [ey, nI_c (by omega)]
    have cl : t.1.toNatClampNeg = lv := by rw [elv, nI_c (by omega)]
    have hwy := nWhy_v hk8 hb ho hh hl htj
    rw [cx, cy, cl] at hwy
    have hrn := aRun_v hk8 hb ho hh hl htj
    rw [cx, cy, cl] at hrn
    have e52 : h_tryWhyNot (nI k) (nI j) w = some (rsn w.2.1 h b t x y lv, w) := by unfold h_tryWhyNot; rw [hwy]
    have e66 : h_tryRun (nI k) (nI j) w = some (if rsn w.2.1 h b t x y lv = 0 then aAct w (nI (wC (wks w.2.1 h) y x (4 * lv))) (gCar w.2.1 h k j b t (wP (wks w.2.1 h) y x (4 * lv))) else (-9999003, w)) := by unfold h_tryRun; rw [hrn]
    have e6 : h_tryAbout 6 w = some (w.2.1.1 6, w) := by simp [h_tryAbout, nAbout]
    rw [q28, gviN, e52, gbsN, tCt2 hb hk8, gbsN, ho, tCo0 hh, gbsN, tTn0 hh htj hl, gbsN, elv, nI4, ex, ey, tWay0 hV hh hx hy hne (by omega) (by omega), gbsN, tCo5 hh, gbsN, e6, gbsN, e66]
    by_cases h0 : rsn w.2.1 h b t x y lv = 0
    · have his := rsn_0 h0
      rw [if_pos h0]
      have hcw : cw9 w.2.1 h x y (4 * lv) = nI (wC (wks w.2.1 h) y x (4 * lv)) := if_pos his
      obtain ⟨w1, hw1⟩ : ∃ w1 : At, w1 = (aAct w (nI (wC (wks w.2.1 h) y x (4 * lv))) (gCar w.2.1 h k j b t (wP (wks w.2.1 h) y x (4 * lv)))).2 := ⟨_, rfl⟩
      have hA : aAct w (nI (wC (wks w.2.1 h) y x (4 * lv))) (gCar w.2.1 h k j b t (wP (wks w.2.1 h) y x (4 * lv))) = (nI (wC (wks w.2.1 h) y x (4 * lv)), w1) := by rw [hw1]; rfl
      have hg : w1.2.1 = gCar w.2.1 h k j b t (wP (wks w.2.1 h) y x (4 * lv)) := by rw [hw1]; rfl
      have hk24 : (wP (wks w.2.1 h) y x (4 * lv)).length ≤ 24 := by
        have := wP_len (goal := y) (a := x) (rr := 4 * lv) (wks_T (i := h) hV).h1
        omega
      have hV1 : V c m w1.2.1 := by rw [hg]; exact V_car hV hh hb htj
      have hW1 : Wf (N + 5000) w1.2.1 := by rw [hg]; exact Wf_car hV hW hh hb htj ho hk24 (by omega)
      obtain ⟨m1, m2, m3, m4, m5⟩ := car_me (ps := wP (wks w.2.1 h) y x (4 * lv)) hV hh htj hb
      rw [← hg, wP_cost (wks_T (i := h) hV).h1 his] at m1 m3
      rw [← hg] at m2 m4 m5
      have hk81 := hV1.2.2.2.2.2.1
      have hl1 := (hV1.2.2.2.2.1 h hh).1
      have hwy1 := nWhy_v hk81 m4 ho hh hl1 m5
      have e49 : h_tryWhyNot (nI k) (nI j) w1 = some (2, w1) := by
        unfold h_tryWhyNot
        rw [hwy1]
        unfold rsn
        rw [if_pos (show (ran1 b).2.2.2.2.2 = 1 from rfl)]
      have e61 : h_tryAbout 6 w1 = some (w1.2.1.1 6, w1) := by simp [h_tryAbout, nAbout]
      have hE := hd_1083 (X := X) (w1 := w1) hi hX hH0 hn hb hV1 hW1 (by omega) (by rw [hw1]; exact Nat.le_refl _) (by rw [hw1]; rfl) (by rw [hw1]; rfl) (by rw [hw1]; rfl)
      rw [hA, gbsN, if_pos h0, hcw]
      unfold B_hands_946
      rw [if_pos rfl, if_pos h0, tCo0 hh, gbsN, if_pos m1, tCo5 hh, gbsN, if_pos m2, e61, gbsN, if_pos m3, tCt5 m4 hk81, gbsN, if_pos (show (ran1 b).2.2.2.2.2 = 1 from rfl), tTn1 hh m5 hl1, gbsN, if_pos (show (t.1, (1 : Int32)).2 = 1 from rfl), e49, gbsN, if_pos rfl]
      unfold B_hands_1034
      rw [if_neg (by rw [h0]; decide)]
      unfold B_hands_1047
      rw [if_neg (by rw [h0]; decide)]
      unfold B_hands_1064
      rw [if_neg (by rw [h0]; decide), ← ho, ← ex, ← ey]
      exact hE
    · rw [if_neg h0, gbsN, if_neg h0]
      have hE := hd_1083 (X := X) (w1 := w) hi hX hH0 hn hb hV hW (by omega) (by omega) rfl rfl rfl
      unfold B_hands_946
      rw [if_pos rfl, if_neg h0]
      unfold B_hands_1034 B_hands_1047 B_hands_1064
      unfold rsn at h0 ⊢
      by_cases r2 : b.2.2.2.2.2 = 1
      · rw [if_pos r2, if_neg (by decide), if_pos rfl, tCt5 hb hk8, gbsN, if_pos r2, if_neg (by decide), ← ho, ← ex, ← ey]
        exact hE
      · rw [if_neg r2] at h0 ⊢
        by_cases r3 : t.2 = 1
        · rw [if_pos r3, if_neg (by decide), if_neg (by decide), if_pos rfl, tTn1 hh htj hl, gbsN, if_pos r3, ← ho, ← ex, ← ey]
          exact hE
        · rw [if_neg r3] at h0 ⊢
          by_cases r4 : wIs (wks w.2.1 h) y x (4 * lv) = true
          · rw [if_pos r4] at h0
            exact absurd rfl h0
          · have hcw : cw9 w.2.1 h x y (4 * lv) = -9 := if_neg r4
            rw [if_neg r4, if_pos rfl, hcw, if_pos rfl, if_neg (by decide), if_neg (by decide), ← ho, ← ex, ← ey]
            exact hE
end HND3
