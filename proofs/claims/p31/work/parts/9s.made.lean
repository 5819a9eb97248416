/-! ===== the class's world, made ===== -/
theorem arrV_cg {c : ClassId} {n : Nat} {f f' : Nat → Value} (h : ∀ j, j < n → f j = f' j) : arrV c n f = arrV c n f' := by
  unfold arrV
  congr 1
  congr 1
  funext j
  exact h j.1 j.2
theorem va_at_refs {D : va_G} {cl : List vw_C} {a n : Nat} {c : ClassId} {f f' : Nat → Option Nat} {H : Heap} (h : va_at D cl (a, .inl (c, n, .inr (.inr (.inr (.inr f))))) H) (e : ∀ j, j < n → f j = f' j) : va_at D cl (a, .inl (c, n, .inr (.inr (.inr (.inr f'))))) H := by
  show H[a]? = some (vp_cell c (n, .inr (.inr (.inr (.inr f')))))
  have h2 : H[a]? = some (vp_cell c (n, .inr (.inr (.inr (.inr f))))) := h
  rw [h2, vp_cell_q, vp_cell_q, arrV_cg (fun j hj => by rw [e j hj])]
theorem gEs_cg {G G' : gG} {b b' j : Nat} {R : Nat → Int32} (h : ∀ x, x < 21 → G.2.1 (b + x) = G'.2.1 (b' + x)) (hc : G.2.2.1 = G'.2.2.1) (hj : j < 21) : gEs G b j R = gEs G' b' j R := by
  have h1 := h 1 (by omega)
  have h2 := h 2 (by omega)
  have h3 := h 3 (by omega)
  have h4 := h 4 (by omega)
  have h5 := h 5 (by omega)
  have h6 := h 6 (by omega)
  have h7 := h 7 (by omega)
  have h8 := h 8 (by omega)
  have h9 := h 9 (by omega)
  have h10 := h 10 (by omega)
  have h11 := h 11 (by omega)
  have h12 := h 12 (by omega)
  have h13 := h 13 (by omega)
  have h14 := h 14 (by omega)
  have h15 := h 15 (by omega)
  have h16 := h 16 (by omega)
  have h17 := h 17 (by omega)
  have h18 := h 18 (by omega)
  have h19 := h 19 (by omega)
  have h20 := h 20 (by omega)
  have hx : j = 0 ∨ j = 1 ∨ j = 2 ∨ j = 3 ∨ 4 ≤ j := by omega
  rcases hx with rfl | rfl | rfl | rfl | hx
  · show (Sum.inr (6, [.ref (G.2.1 (b + 1)), .ref (G.2.1 (b + 2)), .ref (G.2.1 (b + 3)), .int (R 3), .int (R 4), .int (R 5), .int (R 6), .int (R 7), .int (R 8)]) : va_E) = Sum.inr (6, [.ref (G'.2.1 (b' + 1)), .ref (G'.2.1 (b' + 2)), .ref (G'.2.1 (b' + 3)), .int (R 3), .int (R 4), .int (R 5), .int (R 6), .int (R 7), .int (R 8)])
    rw [h1, h2, h3]
  · show (Sum.inr (7, [.ref (G.2.1 (b + 4)), .ref (G.2.1 (b + 5)), .ref (G.2.1 (b + 6)), .ref (G.2.1 (b + 7)), .int (R 4)]) : va_E) = Sum.inr (7, [.ref (G'.2.1 (b' + 4)), .ref (G'.2.1 (b' + 5)), .ref (G'.2.1 (b' + 6)), .ref (G'.2.1 (b' + 7)), .int (R 4)])
    rw [h4, h5, h6, h7]
  · show (Sum.inr (1, [.ref (G.2.1 (b + 8)), .ref (G.2.1 (b + 9)), .ref (G.2.1 (b + 10)), .ref (G.2.1 (b + 11)), .ref (G.2.1 (b + 12)), .ref (G.2.1 (b + 13)), .int (R 6)]) : va_E) = Sum.inr (1, [.ref (G'.2.1 (b' + 8)), .ref (G'.2.1 (b' + 9)), .ref (G'.2.1 (b' + 10)), .ref (G'.2.1 (b' + 11)), .ref (G'.2.1 (b' + 12)), .ref (G'.2.1 (b' + 13)), .int (R 6)])
    rw [h8, h9, h10, h11, h12, h13]
  · show (Sum.inr (0, [.ref (G.2.1 (b + 14)), .ref (G.2.1 (b + 15)), .ref (G.2.1 (b + 16)), .ref (G.2.1 (b + 17)), .ref (G.2.1 (b + 18)), .ref (G.2.1 (b + 19)), .ref (G.2.1 (b + 20))]) : va_E) = Sum.inr (0, [.ref (G'.2.1 (b' + 14)), .ref (G'.2.1 (b' + 15)), .ref (G'.2.1 (b' + 16)), .ref (G'.2.1 (b' + 17)), .ref (G'.2.1 (b' + 18)), .ref (G'.2.1 (b' + 19)), .ref (G'.2.1 (b' + 20))])
    rw [h14, h15, h16, h17, h18, h19, h20]
  · have hg : ∀ n, gia G n R = gia G' n R := fun n => by show (Sum.inl (G.2.2.1 0, n, .inl R) : va_E) = Sum.inl (G'.2.2.1 0, n, .inl R); rw [hc]
    have hr : j = 4 ∨ j = 5 ∨ j = 6 ∨ j = 7 ∨ j = 8 ∨ j = 9 ∨ j = 10 ∨ j = 11 ∨ j = 12 ∨ j = 13 ∨ j = 14 ∨ j = 15 ∨ j = 16 ∨ j = 17 ∨ j = 18 ∨ j = 19 ∨ j = 20 := by omega
    rcases hr with rfl | rfl | rfl | rfl | rfl | rfl | rfl | rfl | rfl | rfl | rfl | rfl | rfl | rfl | rfl | rfl | rfl
    · exact hg 16
    · exact hg 16
    · exact hg 16
    · exact hg 16
    · exact hg 8
    · exact hg 8
    · exact hg 8
    · exact hg 8
    · exact hg 8
    · exact hg 8
    · exact hg 5
    · exact hg 5
    · exact hg 5
    · exact hg 4
    · exact hg 4
    · exact hg 16
    · exact hg 16
/-- where the cells of the class's world are -/
def AD (h0 : Nat) (u1 u2 u3 : Nat → Nat) (x4 : Nat × Nat × (Nat → Nat → Nat)) (x5 : Nat × Nat × Nat × (Nat → Nat → Nat)) (u6 : Nat → Nat) : Nat → Nat := fun k =>
  if k < 14 then (match k with
    | 0 => h0
    | 1 => u1 0
    | 2 => u1 1
    | 3 => x4.1
    | 4 => x4.2.1
    | 5 => x5.1
    | 6 => x5.2.1
    | 7 => x5.2.2.1
    | 8 => u6 0
    | 9 => u6 1
    | 10 => u6 2
    | 11 => u6 3
    | 12 => u6 4
    | _ => u6 5)
  else if k < 35 then u2 (k - 14) else if k < 56 then u3 (k - 35) else if k < 350 then x4.2.2 ((k - 56) / 21) ((k - 56) % 21) else x5.2.2.2 ((k - 350) / 21) ((k - 350) % 21)
/-- the world as it was made -/
def WW (K : nK) (h0 : Nat) (u1 u2 u3 : Nat → Nat) (x4 : Nat × Nat × (Nat → Nat → Nat)) (x5 : Nat × Nat × Nat × (Nat → Nat → Nat)) (u6 : Nat → Nat) : va_W :=
  (h0, .inr (9, [.ref (u1 0), .ref (u2 0), .ref (u3 0), .ref x4.1, .ref x5.1, .ref (u6 0)])) :: (LX2 K u1 ++ (LX7 K u2 ++ (LX7 K u3 ++ (LX3 K x4 ++ (LX6 K x5 ++ LX4 K u6)))))
def gpos (k : Nat) : Nat := if k < 3 then k else if k < 5 then k + 42 else if k < 8 then k + 336 else if k < 14 then k + 378 else if k < 56 then k - 11 else if k < 350 then k - 9 else k - 6
theorem gpos_inj {i j : Nat} (hi : i < 392) (hj : j < 392) (h : gpos i = gpos j) : i = j := by
  unfold gpos at h
  repeat' split at h
  all_goals omega
section WWS
variable {K : nK} {h0 : Nat} {u1 u2 u3 u6 : Nat → Nat} {x4 : Nat × Nat × (Nat → Nat → Nat)} {x5 : Nat × Nat × Nat × (Nat → Nat → Nat)}
theorem LX2_len : (LX2 K u1).length = 2 := rfl
theorem LX7_len : (LX7 K u2).length = 21 := rfl
theorem LX3_len : (LX3 K x4).length = 296 := by unfold LX3; simp only [List.length_cons, SL_len]
theorem LX6_len : (LX6 K x5).length = 45 := by unfold LX6; simp only [List.length_cons, SL_len]
theorem WW_a {i : Nat} (h : i < 2) : (WW K h0 u1 u2 u3 x4 x5 u6)[1 + i]? = (LX2 K u1)[i]? := by
  unfold WW
  rw [Nat.add_comm, List.getElem?_cons_succ, List.getElem?_append_left (by rw [LX2_len]; exact h)]
theorem WW_b {i : Nat} (h : i < 21) : (WW K h0 u1 u2 u3 x4 x5 u6)[3 + i]? = (LX7 K u2)[i]? := by
  unfold WW
  rw [show 3 + i = (i + 2) + 1 by omega, List.getElem?_cons_succ, List.getElem?_append_right (by rw [LX2_len]; omega), LX2_len, show i + 2 - 2 = i by omega, List.getElem?_append_left (by rw [LX7_len]; exact h)]
theorem WW_c {i : Nat} (h : i < 21) : (WW K h0 u1 u2 u3 x4 x5 u6)[24 + i]? = (LX7 K u3)[i]? := by
  unfold WW
  rw [show 24 + i = (i + 23) + 1 by omega, List.getElem?_cons_succ, List.getElem?_append_right (by rw [LX2_len]; omega), LX2_len, show i + 23 - 2 = i + 21 by omega, List.getElem?_append_right (by rw [LX7_len]; omega), LX7_len, show i + 21 - 21 = i by omega, List.getElem?_append_left (by rw [LX7_len]; exact h)]
theorem WW_d {i : Nat} (h : i < 296) : (WW K h0 u1 u2 u3 x4 x5 u6)[45 + i]? = (LX3 K x4)[i]? := by
  unfold WW
  rw [show 45 + i = (i + 44) + 1 by omega, List.getElem?_cons_succ, List.getElem?_append_right (by rw [LX2_len]; omega), LX2_len, show i + 44 - 2 = i + 42 by omega, List.getElem?_append_right (by rw [LX7_len]; omega), LX7_len, show i + 42 - 21 = i + 21 by omega, List.getElem?_append_right (by rw [LX7_len]; omega), LX7_len, show i + 21 - 21 = i by omega, List.getElem?_append_left (by rw [LX3_len]; exact h)]
theorem WW_e {i : Nat} (h : i < 45) : (WW K h0 u1 u2 u3 x4 x5 u6)[341 + i]? = (LX6 K x5)[i]? := by
  unfold WW
  rw [show 341 + i = (i + 340) + 1 by omega, List.getElem?_cons_succ, List.getElem?_append_right (by rw [LX2_len]; omega), LX2_len, show i + 340 - 2 = i + 338 by omega, List.getElem?_append_right (by rw [LX7_len]; omega), LX7_len, show i + 338 - 21 = i + 317 by omega, List.getElem?_append_right (by rw [LX7_len]; omega), LX7_len, show i + 317 - 21 = i + 296 by omega, List.getElem?_append_right (by rw [LX3_len]; omega), LX3_len, show i + 296 - 296 = i by omega, List.getElem?_append_left (by rw [LX6_len]; exact h)]
theorem WW_f {i : Nat} : (WW K h0 u1 u2 u3 x4 x5 u6)[386 + i]? = (LX4 K u6)[i]? := by
  unfold WW
  rw [show 386 + i = (i + 385) + 1 by omega, List.getElem?_cons_succ, List.getElem?_append_right (by rw [LX2_len]; omega), LX2_len, show i + 385 - 2 = i + 383 by omega, List.getElem?_append_right (by rw [LX7_len]; omega), LX7_len, show i + 383 - 21 = i + 362 by omega, List.getElem?_append_right (by rw [LX7_len]; omega), LX7_len, show i + 362 - 21 = i + 341 by omega, List.getElem?_append_right (by rw [LX3_len]; omega), LX3_len, show i + 341 - 296 = i + 45 by omega, List.getElem?_append_right (by rw [LX6_len]; omega), LX6_len, show i + 45 - 45 = i by omega]
abbrev gAD (K : nK) (h0 : Nat) (u1 u2 u3 : Nat → Nat) (x4 : Nat × Nat × (Nat → Nat → Nat)) (x5 : Nat × Nat × Nat × (Nat → Nat → Nat)) (u6 : Nat → Nat) : gG := (K.1, AD h0 u1 u2 u3 x4 x5 u6, kc K, 392)
theorem AD_2 {j : Nat} (h : j < 21) : AD h0 u1 u2 u3 x4 x5 u6 (14 + j) = u2 j := by
  unfold AD
  rw [if_neg (by omega), if_pos (by omega), show 14 + j - 14 = j by omega]
theorem AD_3 {j : Nat} (h : j < 21) : AD h0 u1 u2 u3 x4 x5 u6 (35 + j) = u3 j := by
  unfold AD
  rw [if_neg (by omega), if_neg (by omega), if_pos (by omega), show 35 + j - 35 = j by omega]
theorem AD_h {i j : Nat} (hi : i < 14) (h : j < 21) : AD h0 u1 u2 u3 x4 x5 u6 (56 + 21 * i + j) = x4.2.2 i j := by
  unfold AD
  rw [if_neg (by omega), if_neg (by omega), if_neg (by omega), if_pos (by omega), show (56 + 21 * i + j - 56) / 21 = i by omega, show (56 + 21 * i + j - 56) % 21 = j by omega]
theorem AD_s {i j : Nat} (hi : i < 2) (h : j < 21) : AD h0 u1 u2 u3 x4 x5 u6 (350 + 21 * i + j) = x5.2.2.2 i j := by
  unfold AD
  rw [if_neg (by omega), if_neg (by omega), if_neg (by omega), if_neg (by omega), show (350 + 21 * i + j - 350) / 21 = i by omega, show (350 + 21 * i + j - 350) % 21 = j by omega]
theorem eS_of {b j : Nat} {u : Nat → Nat} (hb : IsSt b) (hj : j < 21) (h : ∀ x, x < 21 → AD h0 u1 u2 u3 x4 x5 u6 (b + x) = u x) : gE (gAD K h0 u1 u2 u3 x4 x5 u6) (b + j) zrow = eS K u j := by
  rw [gE_st hb hj]
  exact gEs_cg (G' := (K.1, u, kc K, 0)) (fun x hx => by rw [Nat.zero_add]; exact h x hx) rfl hj
theorem WW_at {k : Nat} (hk : k < 392) (h4 : k ≠ 4) (h6 : k ≠ 6) : (WW K h0 u1 u2 u3 x4 x5 u6)[gpos k]? = some (AD h0 u1 u2 u3 x4 x5 u6 k, gE (gAD K h0 u1 u2 u3 x4 x5 u6) k zrow) := by
  by_cases c14 : k < 14
  · have hc : k = 0 ∨ k = 1 ∨ k = 2 ∨ k = 3 ∨ k = 5 ∨ k = 7 ∨ k = 8 ∨ k = 9 ∨ k = 10 ∨ k = 11 ∨ k = 12 ∨ k = 13 := by omega
    rcases hc with rfl | rfl | rfl | rfl | rfl | rfl | rfl | rfl | rfl | rfl | rfl | rfl
    · rfl
    · exact WW_a (i := 0) (by omega)
    · exact WW_a (i := 1) (by omega)
    · exact WW_d (i := 0) (by omega)
    · exact WW_e (i := 0) (by omega)
    · exact WW_e (i := 2) (by omega)
    · exact WW_f (i := 0)
    · exact WW_f (i := 1)
    · exact WW_f (i := 2)
    · exact WW_f (i := 3)
    · exact WW_f (i := 4)
    · exact WW_f (i := 5)
  · by_cases c35 : k < 35
    · obtain ⟨j, rfl⟩ : ∃ j, k = 14 + j := ⟨k - 14, by omega⟩
      rw [eS_of st_14 (by omega) (fun x hx => AD_2 hx), AD_2 (by omega), show gpos (14 + j) = 3 + j by unfold gpos; rw [if_neg (by omega), if_neg (by omega), if_neg (by omega), if_neg (by omega), if_pos (by omega)]; omega, WW_b (by omega), LX7_eq, List.getElem?_map, List.getElem?_range (by omega)]
      rfl
    · by_cases c56 : k < 56
      · obtain ⟨j, rfl⟩ : ∃ j, k = 35 + j := ⟨k - 35, by omega⟩
        rw [eS_of st_35 (by omega) (fun x hx => AD_3 hx), AD_3 (by omega), show gpos (35 + j) = 24 + j by unfold gpos; rw [if_neg (by omega), if_neg (by omega), if_neg (by omega), if_neg (by omega), if_pos (by omega)]; omega, WW_c (by omega), LX7_eq, List.getElem?_map, List.getElem?_range (by omega)]
        rfl
      · by_cases c350 : k < 350
        · obtain ⟨i, j, hi, hj, rfl⟩ : ∃ i j, i < 14 ∧ j < 21 ∧ k = 56 + 21 * i + j := ⟨(k - 56) / 21, (k - 56) % 21, by omega, by omega, by omega⟩
          rw [eS_of (st_h hi) hj (fun x hx => AD_h hi hx), AD_h hi hj, show gpos (56 + 21 * i + j) = 45 + (21 * i + j + 2) by unfold gpos; rw [if_neg (by omega), if_neg (by omega), if_neg (by omega), if_neg (by omega), if_neg (by omega), if_pos (by omega)]; omega, WW_d (by omega)]
          show (SL K x4.2.2 14)[21 * i + j]? = _
          rw [SL_get (by omega), show (21 * i + j) / 21 = i by omega, show (21 * i + j) % 21 = j by omega]
        · obtain ⟨i, j, hi, hj, rfl⟩ : ∃ i j, i < 2 ∧ j < 21 ∧ k = 350 + 21 * i + j := ⟨(k - 350) / 21, (k - 350) % 21, by omega, by omega, by omega⟩
          rw [eS_of (st_s hi) hj (fun x hx => AD_s hi hx), AD_s hi hj, show gpos (350 + 21 * i + j) = 341 + (21 * i + j + 3) by unfold gpos; rw [if_neg (by omega), if_neg (by omega), if_neg (by omega), if_neg (by omega), if_neg (by omega), if_neg (by omega)]; omega, WW_e (by omega)]
          show (SL K x5.2.2.2 2)[21 * i + j]? = _
          rw [SL_get (by omega), show (21 * i + j) / 21 = i by omega, show (21 * i + j) % 21 = j by omega]
theorem WW_ad {k : Nat} (hk : k < 392) : ∃ en, (WW K h0 u1 u2 u3 x4 x5 u6)[gpos k]? = some (AD h0 u1 u2 u3 x4 x5 u6 k, en) := by
  by_cases h4 : k = 4
  · subst h4
    exact ⟨_, WW_d (i := 1) (by omega)⟩
  · by_cases h6 : k = 6
    · subst h6
      exact ⟨_, WW_e (i := 1) (by omega)⟩
    · exact ⟨_, WW_at hk h4 h6⟩
theorem WW_gP {H : Heap} (h : va_P K.1 gcl (WW K h0 u1 u2 u3 x4 x5 u6) H) : gP (gAD K h0 u1 u2 u3 x4 x5 u6) (fun _ => zrow) H := by
  intro k q hq
  have hk : k < 392 := Decidable.byContradiction fun hn => by rw [gw_no (G := gAD K h0 u1 u2 u3 x4 x5 u6) hn] at hq; cases hq
  rw [gw_at (G := gAD K h0 u1 u2 u3 x4 x5 u6) hk] at hq
  rw [← Option.some.inj hq]
  by_cases h4 : k = 4
  · subst h4
    have h1 := h _ _ (WW_d (K := K) (h0 := h0) (u1 := u1) (u2 := u2) (u3 := u3) (u6 := u6) (x4 := x4) (x5 := x5) (i := 1) (by omega))
    exact va_at_refs (f := fS x4.2.2 14) (f' := fun j => some (AD h0 u1 u2 u3 x4 x5 u6 (56 + 21 * j))) h1 (fun j hj => by
      unfold fS
      rw [if_pos hj]
      exact congrArg some (AD_h (j := 0) hj (by omega)).symm)
  · by_cases h6 : k = 6
    · subst h6
      have h1 := h _ _ (WW_e (K := K) (h0 := h0) (u1 := u1) (u2 := u2) (u3 := u3) (u6 := u6) (x4 := x4) (x5 := x5) (i := 1) (by omega))
      exact va_at_refs (f := fS x5.2.2.2 2) (f' := fun j => some (AD h0 u1 u2 u3 x4 x5 u6 (350 + 21 * j))) h1 (fun j hj => by
        unfold fS
        rw [if_pos hj]
        exact congrArg some (AD_s (j := 0) hj (by omega)).symm)
    · exact h _ _ (WW_at hk h4 h6)
theorem WW_inj {A : Nat → Prop} (h : va_D A (WW K h0 u1 u2 u3 x4 x5 u6)) : gInj (gAD K h0 u1 u2 u3 x4 x5 u6) := by
  intro i j hi hj he
  obtain ⟨e1, h1⟩ := WW_ad (K := K) (h0 := h0) (u1 := u1) (u2 := u2) (u3 := u3) (u6 := u6) (x4 := x4) (x5 := x5) hi
  obtain ⟨e2, h2⟩ := WW_ad (K := K) (h0 := h0) (u1 := u1) (u2 := u2) (u3 := u3) (u6 := u6) (x4 := x4) (x5 := x5) hj
  exact gpos_inj hi hj (h.1 _ _ _ _ h1 h2 he)
theorem WW_A {en : va_E} {sz : Nat} (h : va_D (va_A [(h0, en)] sz) (WW K h0 u1 u2 u3 x4 x5 u6)) : gA (gAD K h0 u1 u2 u3 x4 x5 u6) sz = va_A [(h0, en)] sz := by
  funext q
  refine propext ⟨fun hq => ?_, fun hq => ?_⟩
  · rcases hq with ⟨k, hk, rfl⟩ | hq
    · obtain ⟨e1, h1⟩ := WW_ad (K := K) (h0 := h0) (u1 := u1) (u2 := u2) (u3 := u3) (u6 := u6) (x4 := x4) (x5 := x5) hk
      exact h.2 _ _ h1
    · exact Or.inr hq
  · rcases hq with ⟨k, e1, hq⟩ | hq
    · have hk : k < 1 := (List.getElem?_eq_some_iff.mp hq).1
      rw [show k = 0 by omega] at hq
      have hq2 : h0 = q := congrArg Prod.fst (Option.some.inj hq)
      exact Or.inl ⟨0, by show 0 < 392; omega, hq2.symm⟩
    · exact Or.inr hq
end WWS
set_option maxHeartbeats 4000000 in
set_option maxRecDepth 100000 in
theorem c_X10_init (l : Launch) (K : nK) {Sa Sb Sc : Sg} (ea : f_X7_begin 14 3 (fun _ => zrow) = some Sa) (eb : f_X8_add 14 0 1 2 Sa = some Sb) (ec : f_X8_add 14 1 2 2 Sb = some Sc) : Nc l K yX10_init cX10_init 1 4 73 391 4133 (.inr (9, [.null, .null, .null, .null, .null, .null])) (fun a : Nat → Nat => a 0) (fun a => gw (K.1, a, kc K, 392) Sc) := by
  refine Nc_of (by decide) (by decide) rfl ?_
  intro p e s m below meth c ls h0 cx hr hlk hin hP hD hS hl
  have hA : ∀ q, s.heap.size ≤ q → va_A [(h0, .inr (9, [.null, .null, .null, .null, .null, .null]))] s.heap.size q := fun q h => Or.inr h
  refine lv_aload_n cx.1 cx.2.1 dX10_init_0 rfl (lv_at hl 0 rfl) ?_
  refine n_obj cx gw_7 hl.1 dX10_init_1 (by decide) (by decide) ?_
  refine lv_aload_n cx.1 cx.2.1 dX10_init_4 rfl (lv_at hl 0 rfl) ?_
  refine n_new (C := RX2) (T := TX2) (N := 2) (ci := 2) (fs := [.null, .int 0]) cx inlX2 tyX2 tyX2_ok gw_10 gw_11 gw_12 rfl (fun j hj => by rcases (show j = 0 ∨ j = 1 by omega) with rfl | rfl <;> rfl) hP hD hS hA ⟨(Nat.le_of_ble_eq_true rfl), (Nat.le_of_ble_eq_true rfl)⟩ dX10_init_5 (fun q0 H hP hD hS => ?_)
  refine lv_dup cx.1 cx.2.1 dX10_init_8 rfl ?_
  refine n_callN (rest := [.ref q0, .ref h0]) cx (c_X2_init l K) (List.mem_of_getElem? (i := 0) rfl) gy_X2_init gi_X2_init rfl hP hD hS hA ⟨(Nat.le_of_ble_eq_true rfl), (Nat.le_of_ble_eq_true rfl)⟩ ⟨(Nat.le_of_ble_eq_true rfl), (Nat.le_of_ble_eq_true rfl)⟩ hl.1 (Nat.le_of_ble_eq_true rfl) dX10_init_9 (fun u1 H locs hu hP' hD' hS => ?_)
  subst hu
  have hP : va_P K.1 gcl ((h0, .inr (9, [.null, .null, .null, .null, .null, .null])) :: (LX2 K u1)) H := hP'
  have hD : va_D (va_A [(h0, .inr (9, [.null, .null, .null, .null, .null, .null]))] s.heap.size) ((h0, .inr (9, [.null, .null, .null, .null, .null, .null])) :: (LX2 K u1)) := hD'
  refine n_putF (C := RX10) (T := TX10) (N := 6) (ci := 9) cx inlX10 tyX10 tyX10_ok nmX10 rfl hP hD hS 0 (by decide) gw_13 rfl rfl hin rfl rfl rfl (Nat.le_of_ble_eq_true rfl) dX10_init_12 (fun H locs hP hD hS => ?_)
  have hP : va_P K.1 gcl ((h0, .inr (9, [.ref (u1 0), .null, .null, .null, .null, .null])) :: (LX2 K u1)) H := hP
  have hD : va_D (va_A [(h0, .inr (9, [.null, .null, .null, .null, .null, .null]))] s.heap.size) ((h0, .inr (9, [.ref (u1 0), .null, .null, .null, .null, .null])) :: (LX2 K u1)) := hD
  refine lv_aload_n cx.1 cx.2.1 dX10_init_15 rfl (lv_at hl 0 rfl) ?_
  refine n_new (C := RX7) (T := TX7) (N := 9) (ci := 6) (fs := [.null, .null, .null, .int 0, .int 0, .int 0, .int 0, .int 0, .int 0]) cx inlX7 tyX7 tyX7_ok gw_14 gw_15 gw_16 rfl (fun j hj => by rcases (show j = 0 ∨ j = 1 ∨ j = 2 ∨ j = 3 ∨ j = 4 ∨ j = 5 ∨ j = 6 ∨ j = 7 ∨ j = 8 by omega) with rfl | rfl | rfl | rfl | rfl | rfl | rfl | rfl | rfl <;> rfl) hP hD hS hA ⟨(Nat.le_of_ble_eq_true rfl), (Nat.le_of_ble_eq_true rfl)⟩ dX10_init_16 (fun q1 H hP hD hS => ?_)
  refine lv_dup cx.1 cx.2.1 dX10_init_19 rfl ?_
  refine n_callN (rest := [.ref q1, .ref h0]) cx (c_X7_init l K) (List.mem_of_getElem? (i := 1) rfl) gy_X7_init gi_X7_init rfl hP hD hS hA ⟨(Nat.le_of_ble_eq_true rfl), (Nat.le_of_ble_eq_true rfl)⟩ ⟨(Nat.le_of_ble_eq_true rfl), (Nat.le_of_ble_eq_true rfl)⟩ hl.1 (Nat.le_of_ble_eq_true rfl) dX10_init_20 (fun u2 H locs hu hP' hD' hS => ?_)
  subst hu
  have hP : va_P K.1 gcl ((h0, .inr (9, [.ref (u1 0), .null, .null, .null, .null, .null])) :: (LX2 K u1 ++ LX7 K u2)) H := hP'
  have hD : va_D (va_A [(h0, .inr (9, [.null, .null, .null, .null, .null, .null]))] s.heap.size) ((h0, .inr (9, [.ref (u1 0), .null, .null, .null, .null, .null])) :: (LX2 K u1 ++ LX7 K u2)) := hD'
  refine n_putF (C := RX10) (T := TX10) (N := 6) (ci := 9) cx inlX10 tyX10 tyX10_ok nmX10 rfl hP hD hS 1 (by decide) gw_17 rfl rfl hin rfl rfl rfl (Nat.le_of_ble_eq_true rfl) dX10_init_23 (fun H locs hP hD hS => ?_)
  have hP : va_P K.1 gcl ((h0, .inr (9, [.ref (u1 0), .ref (u2 0), .null, .null, .null, .null])) :: (LX2 K u1 ++ LX7 K u2)) H := hP
  have hD : va_D (va_A [(h0, .inr (9, [.null, .null, .null, .null, .null, .null]))] s.heap.size) ((h0, .inr (9, [.ref (u1 0), .ref (u2 0), .null, .null, .null, .null])) :: (LX2 K u1 ++ LX7 K u2)) := hD
  refine lv_aload_n cx.1 cx.2.1 dX10_init_26 rfl (lv_at hl 0 rfl) ?_
  refine n_new (C := RX7) (T := TX7) (N := 9) (ci := 6) (fs := [.null, .null, .null, .int 0, .int 0, .int 0, .int 0, .int 0, .int 0]) cx inlX7 tyX7 tyX7_ok gw_14 gw_15 gw_16 rfl (fun j hj => by rcases (show j = 0 ∨ j = 1 ∨ j = 2 ∨ j = 3 ∨ j = 4 ∨ j = 5 ∨ j = 6 ∨ j = 7 ∨ j = 8 by omega) with rfl | rfl | rfl | rfl | rfl | rfl | rfl | rfl | rfl <;> rfl) hP hD hS hA ⟨(Nat.le_of_ble_eq_true rfl), (Nat.le_of_ble_eq_true rfl)⟩ dX10_init_27 (fun q2 H hP hD hS => ?_)
  refine lv_dup cx.1 cx.2.1 dX10_init_30 rfl ?_
  refine n_callN (rest := [.ref q2, .ref h0]) cx (c_X7_init l K) (List.mem_of_getElem? (i := 1) rfl) gy_X7_init gi_X7_init rfl hP hD hS hA ⟨(Nat.le_of_ble_eq_true rfl), (Nat.le_of_ble_eq_true rfl)⟩ ⟨(Nat.le_of_ble_eq_true rfl), (Nat.le_of_ble_eq_true rfl)⟩ hl.1 (Nat.le_of_ble_eq_true rfl) dX10_init_31 (fun u3 H locs hu hP' hD' hS => ?_)
  subst hu
  have hP : va_P K.1 gcl ((h0, .inr (9, [.ref (u1 0), .ref (u2 0), .null, .null, .null, .null])) :: (LX2 K u1 ++ LX7 K u2 ++ LX7 K u3)) H := hP'
  have hD : va_D (va_A [(h0, .inr (9, [.null, .null, .null, .null, .null, .null]))] s.heap.size) ((h0, .inr (9, [.ref (u1 0), .ref (u2 0), .null, .null, .null, .null])) :: (LX2 K u1 ++ LX7 K u2 ++ LX7 K u3)) := hD'
  refine n_putF (C := RX10) (T := TX10) (N := 6) (ci := 9) cx inlX10 tyX10 tyX10_ok nmX10 rfl hP hD hS 2 (by decide) gw_18 rfl rfl hin rfl rfl rfl (Nat.le_of_ble_eq_true rfl) dX10_init_34 (fun H locs hP hD hS => ?_)
  have hP : va_P K.1 gcl ((h0, .inr (9, [.ref (u1 0), .ref (u2 0), .ref (u3 0), .null, .null, .null])) :: (LX2 K u1 ++ LX7 K u2 ++ LX7 K u3)) H := hP
  have hD : va_D (va_A [(h0, .inr (9, [.null, .null, .null, .null, .null, .null]))] s.heap.size) ((h0, .inr (9, [.ref (u1 0), .ref (u2 0), .ref (u3 0), .null, .null, .null])) :: (LX2 K u1 ++ LX7 K u2 ++ LX7 K u3)) := hD
  refine lv_aload_n cx.1 cx.2.1 dX10_init_37 rfl (lv_at hl 0 rfl) ?_
  refine n_new (C := RX3) (T := TX3) (N := 3) (ci := 3) (fs := [.null, .int 0, .int 0]) cx inlX3 tyX3 tyX3_ok gw_19 gw_20 gw_21 rfl (fun j hj => by rcases (show j = 0 ∨ j = 1 ∨ j = 2 by omega) with rfl | rfl | rfl <;> rfl) hP hD hS hA ⟨(Nat.le_of_ble_eq_true rfl), (Nat.le_of_ble_eq_true rfl)⟩ dX10_init_38 (fun q3 H hP hD hS => ?_)
  refine lv_dup cx.1 cx.2.1 dX10_init_41 rfl ?_
  refine n_callI (rest := [.ref q3, .ref h0]) cx (c_X3_init l K) gw_78 gy_X3_init gi_X3_init rfl hP hD hS hA ⟨(Nat.le_of_ble_eq_true rfl), (Nat.le_of_ble_eq_true rfl)⟩ ⟨(Nat.le_of_ble_eq_true rfl), (Nat.le_of_ble_eq_true rfl)⟩ hl.1 (Nat.le_of_ble_eq_true rfl) dX10_init_42 (fun x4 H locs hu hP' hD' hS => ?_)
  subst hu
  have hP : va_P K.1 gcl ((h0, .inr (9, [.ref (u1 0), .ref (u2 0), .ref (u3 0), .null, .null, .null])) :: (LX2 K u1 ++ LX7 K u2 ++ LX7 K u3 ++ LX3 K x4)) H := hP'
  have hD : va_D (va_A [(h0, .inr (9, [.null, .null, .null, .null, .null, .null]))] s.heap.size) ((h0, .inr (9, [.ref (u1 0), .ref (u2 0), .ref (u3 0), .null, .null, .null])) :: (LX2 K u1 ++ LX7 K u2 ++ LX7 K u3 ++ LX3 K x4)) := hD'
  refine n_putF (C := RX10) (T := TX10) (N := 6) (ci := 9) cx inlX10 tyX10 tyX10_ok nmX10 rfl hP hD hS 3 (by decide) gw_22 rfl rfl hin rfl rfl rfl (Nat.le_of_ble_eq_true rfl) dX10_init_45 (fun H locs hP hD hS => ?_)
  have hP : va_P K.1 gcl ((h0, .inr (9, [.ref (u1 0), .ref (u2 0), .ref (u3 0), .ref x4.1, .null, .null])) :: (LX2 K u1 ++ LX7 K u2 ++ LX7 K u3 ++ LX3 K x4)) H := hP
  have hD : va_D (va_A [(h0, .inr (9, [.null, .null, .null, .null, .null, .null]))] s.heap.size) ((h0, .inr (9, [.ref (u1 0), .ref (u2 0), .ref (u3 0), .ref x4.1, .null, .null])) :: (LX2 K u1 ++ LX7 K u2 ++ LX7 K u3 ++ LX3 K x4)) := hD
  refine lv_aload_n cx.1 cx.2.1 dX10_init_48 rfl (lv_at hl 0 rfl) ?_
  refine n_new (C := RX6) (T := TX6) (N := 2) (ci := 5) (fs := [.null, .null]) cx inlX6 tyX6 tyX6_ok gw_23 gw_24 gw_25 rfl (fun j hj => by rcases (show j = 0 ∨ j = 1 by omega) with rfl | rfl <;> rfl) hP hD hS hA ⟨(Nat.le_of_ble_eq_true rfl), (Nat.le_of_ble_eq_true rfl)⟩ dX10_init_49 (fun q4 H hP hD hS => ?_)
  refine lv_dup cx.1 cx.2.1 dX10_init_52 rfl ?_
  refine n_callI (rest := [.ref q4, .ref h0]) cx (c_X6_init l K) gw_84 gy_X6_init gi_X6_init rfl hP hD hS hA ⟨(Nat.le_of_ble_eq_true rfl), (Nat.le_of_ble_eq_true rfl)⟩ ⟨(Nat.le_of_ble_eq_true rfl), (Nat.le_of_ble_eq_true rfl)⟩ hl.1 (Nat.le_of_ble_eq_true rfl) dX10_init_53 (fun x5 H locs hu hP' hD' hS => ?_)
  subst hu
  have hP : va_P K.1 gcl ((h0, .inr (9, [.ref (u1 0), .ref (u2 0), .ref (u3 0), .ref x4.1, .null, .null])) :: (LX2 K u1 ++ LX7 K u2 ++ LX7 K u3 ++ LX3 K x4 ++ LX6 K x5)) H := hP'
  have hD : va_D (va_A [(h0, .inr (9, [.null, .null, .null, .null, .null, .null]))] s.heap.size) ((h0, .inr (9, [.ref (u1 0), .ref (u2 0), .ref (u3 0), .ref x4.1, .null, .null])) :: (LX2 K u1 ++ LX7 K u2 ++ LX7 K u3 ++ LX3 K x4 ++ LX6 K x5)) := hD'
  refine n_putF (C := RX10) (T := TX10) (N := 6) (ci := 9) cx inlX10 tyX10 tyX10_ok nmX10 rfl hP hD hS 4 (by decide) gw_26 rfl rfl hin rfl rfl rfl (Nat.le_of_ble_eq_true rfl) dX10_init_56 (fun H locs hP hD hS => ?_)
  have hP : va_P K.1 gcl ((h0, .inr (9, [.ref (u1 0), .ref (u2 0), .ref (u3 0), .ref x4.1, .ref x5.1, .null])) :: (LX2 K u1 ++ LX7 K u2 ++ LX7 K u3 ++ LX3 K x4 ++ LX6 K x5)) H := hP
  have hD : va_D (va_A [(h0, .inr (9, [.null, .null, .null, .null, .null, .null]))] s.heap.size) ((h0, .inr (9, [.ref (u1 0), .ref (u2 0), .ref (u3 0), .ref x4.1, .ref x5.1, .null])) :: (LX2 K u1 ++ LX7 K u2 ++ LX7 K u3 ++ LX3 K x4 ++ LX6 K x5)) := hD
  refine lv_aload_n cx.1 cx.2.1 dX10_init_59 rfl (lv_at hl 0 rfl) ?_
  refine n_new (C := RX4) (T := TX4) (N := 1) (ci := 4) (fs := [.null]) cx inlX4 tyX4 tyX4_ok gw_27 gw_28 gw_29 rfl (fun j hj => by rw [show j = 0 by omega]; rfl) hP hD hS hA ⟨(Nat.le_of_ble_eq_true rfl), (Nat.le_of_ble_eq_true rfl)⟩ dX10_init_60 (fun q5 H hP hD hS => ?_)
  refine lv_dup cx.1 cx.2.1 dX10_init_63 rfl ?_
  refine n_callN (rest := [.ref q5, .ref h0]) cx (c_X4_init l K) (List.mem_of_getElem? (i := 7) rfl) gy_X4_init gi_X4_init rfl hP hD hS hA ⟨(Nat.le_of_ble_eq_true rfl), (Nat.le_of_ble_eq_true rfl)⟩ ⟨(Nat.le_of_ble_eq_true rfl), (Nat.le_of_ble_eq_true rfl)⟩ hl.1 (Nat.le_of_ble_eq_true rfl) dX10_init_64 (fun u6 H locs hu hP' hD' hS => ?_)
  subst hu
  have hP : va_P K.1 gcl ((h0, .inr (9, [.ref (u1 0), .ref (u2 0), .ref (u3 0), .ref x4.1, .ref x5.1, .null])) :: (LX2 K u1 ++ LX7 K u2 ++ LX7 K u3 ++ LX3 K x4 ++ LX6 K x5 ++ LX4 K u6)) H := hP'
  have hD : va_D (va_A [(h0, .inr (9, [.null, .null, .null, .null, .null, .null]))] s.heap.size) ((h0, .inr (9, [.ref (u1 0), .ref (u2 0), .ref (u3 0), .ref x4.1, .ref x5.1, .null])) :: (LX2 K u1 ++ LX7 K u2 ++ LX7 K u3 ++ LX3 K x4 ++ LX6 K x5 ++ LX4 K u6)) := hD'
  refine n_putF (C := RX10) (T := TX10) (N := 6) (ci := 9) cx inlX10 tyX10 tyX10_ok nmX10 rfl hP hD hS 5 (by decide) gw_30 rfl rfl hin rfl rfl rfl (Nat.le_of_ble_eq_true rfl) dX10_init_67 (fun H locs hP hD hS => ?_)
  have hP : va_P K.1 gcl ((h0, .inr (9, [.ref (u1 0), .ref (u2 0), .ref (u3 0), .ref x4.1, .ref x5.1, .ref (u6 0)])) :: (LX2 K u1 ++ LX7 K u2 ++ LX7 K u3 ++ LX3 K x4 ++ LX6 K x5 ++ LX4 K u6)) H := hP
  have hD : va_D (va_A [(h0, .inr (9, [.null, .null, .null, .null, .null, .null]))] s.heap.size) ((h0, .inr (9, [.ref (u1 0), .ref (u2 0), .ref (u3 0), .ref x4.1, .ref x5.1, .ref (u6 0)])) :: (LX2 K u1 ++ LX7 K u2 ++ LX7 K u3 ++ LX3 K x4 ++ LX6 K x5 ++ LX4 K u6)) := hD
  have eW : ((h0, .inr (9, [.ref (u1 0), .ref (u2 0), .ref (u3 0), .ref x4.1, .ref x5.1, .ref (u6 0)])) :: (LX2 K u1 ++ LX7 K u2 ++ LX7 K u3 ++ LX3 K x4 ++ LX6 K x5 ++ LX4 K u6)) = WW K h0 u1 u2 u3 x4 x5 u6 := by unfold WW; simp only [List.append_assoc]
  rw [eW] at hP hD
  obtain ⟨G, hG⟩ : ∃ G : gG, G = gAD K h0 u1 u2 u3 x4 x5 u6 := ⟨_, rfl⟩
  have hw : gP G (fun _ => zrow) H := by rw [hG]; exact WW_gP hP
  have hi : gInj G := by rw [hG]; exact WW_inj hD
  have eA : gA G s.heap.size = va_A [(h0, .inr (9, [.null, .null, .null, .null, .null, .null]))] s.heap.size := by rw [hG]; exact WW_A hD
  have hN0 : gN G = 392 := by rw [hG]; rfl
  have hN : 392 ≤ gN G := by omega
  have cx2 : gCx p s m c cX10_init 1 RX10 G := ⟨cx.1, cx.2.1, cx.2.2.1, cx.2.2.2.1, cx.2.2.2.2.g (by rw [hG]) (by rw [hG]) hi hN0⟩
  have h00 : G.2.1 0 = h0 := by rw [hG]; rfl
  rw [← eA] at hS
  have hl : lv_has ls 1 [(0, .ref (G.2.1 0))] := by rw [h00]; exact hl
  refine lv_aload_n cx.1 cx.2.1 dX10_init_70 rfl (lv_at hl 0 rfl) ?_
  refine g_get (C := RX10) (T := TX10) (N := 6) (v := .ref (G.2.1 14)) cx2 hw inlX10 0 (by omega) he_c0 rfl 1 (by decide) gw_17 rfl rfl dX10_init_71 ?_
  refine lv_iconst (v := (3 : Int32)) cx.1 cx.2.1 dX10_init_74 (by decide) ?_
  refine g_V (As := [.int 3]) (rest := []) cx2 hw hS (c_X7_begin l G st_14 3 _ Sa ea) (Nat.lt_of_lt_of_le st_14.lt0 hN) (he_s0 st_14) rfl rfl gw_105 gy_X7_begin gi_X7_begin ⟨(Nat.le_of_ble_eq_true rfl), (Nat.le_of_ble_eq_true rfl)⟩ ⟨(Nat.le_of_ble_eq_true rfl), (Nat.le_of_ble_eq_true rfl)⟩ rfl hl.1 rfl (Nat.le_of_ble_eq_true rfl) dX10_init_75 (fun H locs hw hS => ?_)
  refine W.eq (g2 := F0 m 78 ls []) rfl ?_
  refine lv_aload_n cx.1 cx.2.1 dX10_init_78 rfl (lv_at hl 0 rfl) ?_
  refine g_get (C := RX10) (T := TX10) (N := 6) (v := .ref (G.2.1 14)) cx2 hw inlX10 0 (by omega) he_c0 rfl 1 (by decide) gw_17 rfl rfl dX10_init_79 ?_
  refine g_get (C := RX7) (T := TX7) (N := 9) (v := .ref (G.2.1 (14 + 1))) cx2 hw inlX7 14 (Nat.lt_of_lt_of_le st_14.lt0 hN) (he_s0 st_14) rfl 0 (by decide) gw_31 rfl rfl dX10_init_82 ?_
  refine lv_iconst (v := (0 : Int32)) cx.1 cx.2.1 dX10_init_85 (by decide) ?_
  refine lv_iconst (v := (1 : Int32)) cx.1 cx.2.1 dX10_init_86 (by decide) ?_
  refine lv_iconst (v := (2 : Int32)) cx.1 cx.2.1 dX10_init_87 (by decide) ?_
  refine g_V (As := [.int 0, .int 1, .int 2]) (rest := []) cx2 hw hS (c_X8_add l G st_14 0 1 2 _ Sb eb) (Nat.lt_of_lt_of_le (st_14.lt (j := 1) (by omega)) hN) (he_s1 st_14) rfl rfl gw_125 gy_X8_add gi_X8_add ⟨(Nat.le_of_ble_eq_true rfl), (Nat.le_of_ble_eq_true rfl)⟩ ⟨(Nat.le_of_ble_eq_true rfl), (Nat.le_of_ble_eq_true rfl)⟩ rfl hl.1 rfl (Nat.le_of_ble_eq_true rfl) dX10_init_88 (fun H locs hw hS => ?_)
  refine W.eq (g2 := F0 m 91 ls []) rfl ?_
  refine lv_aload_n cx.1 cx.2.1 dX10_init_91 rfl (lv_at hl 0 rfl) ?_
  refine g_get (C := RX10) (T := TX10) (N := 6) (v := .ref (G.2.1 14)) cx2 hw inlX10 0 (by omega) he_c0 rfl 1 (by decide) gw_17 rfl rfl dX10_init_92 ?_
  refine g_get (C := RX7) (T := TX7) (N := 9) (v := .ref (G.2.1 (14 + 1))) cx2 hw inlX7 14 (Nat.lt_of_lt_of_le st_14.lt0 hN) (he_s0 st_14) rfl 0 (by decide) gw_31 rfl rfl dX10_init_95 ?_
  refine lv_iconst (v := (1 : Int32)) cx.1 cx.2.1 dX10_init_98 (by decide) ?_
  refine lv_iconst (v := (2 : Int32)) cx.1 cx.2.1 dX10_init_99 (by decide) ?_
  refine lv_iconst (v := (2 : Int32)) cx.1 cx.2.1 dX10_init_100 (by decide) ?_
  refine g_V (As := [.int 1, .int 2, .int 2]) (rest := []) cx2 hw hS (c_X8_add l G st_14 1 2 2 _ Sc ec) (Nat.lt_of_lt_of_le (st_14.lt (j := 1) (by omega)) hN) (he_s1 st_14) rfl rfl gw_125 gy_X8_add gi_X8_add ⟨(Nat.le_of_ble_eq_true rfl), (Nat.le_of_ble_eq_true rfl)⟩ ⟨(Nat.le_of_ble_eq_true rfl), (Nat.le_of_ble_eq_true rfl)⟩ rfl hl.1 rfl (Nat.le_of_ble_eq_true rfl) dX10_init_101 (fun H locs hw hS => ?_)
  refine W.eq (g2 := F0 m 104 ls []) rfl ?_
  have hDg : va_D (va_A [(h0, .inr (9, [.null, .null, .null, .null, .null, .null]))] s.heap.size) (gw G Sc) := by rw [← eA]; exact gD hi
  rw [eA] at hS
  rw [hG] at hDg
  have hw : va_P G.1 gcl (gw G Sc) H := hw
  rw [hG] at hw
  exact n_ret cx hr hlk (AD h0 u1 u2 u3 x4 x5 u6) rfl hw hDg hS ⟨(Nat.le_of_ble_eq_true rfl), (Nat.le_of_ble_eq_true rfl)⟩ dX10_init_104
