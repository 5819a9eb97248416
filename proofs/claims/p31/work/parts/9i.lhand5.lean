section HND5
variable {c m N : Nat} {w : At}
/-- trains, and the old among them -/
def od9 (P : Int32) (l : List T2) : Nat := l.length - (l.filter (kpf P)).length
def aS (tn : Nat → List T2) : Nat → Nat → Nat
  | _, 0 => 0
  | k, d + 1 => (tn k).length + aS tn (k + 1) d
def oS (P : Int32) (tn : Nat → List T2) : Nat → Nat → Nat
  | _, 0 => 0
  | k, d + 1 => od9 P (tn k) + oS P tn (k + 1) d
theorem od9_c {P : Int32} {x : T2} {l : List T2} : od9 P (x :: l) = (if P ≤ x.1 then 0 else 1) + od9 P l := by
  unfold od9
  have hle : (l.filter (kpf P)).length ≤ l.length := List.length_filter_le _ _
  by_cases e : P ≤ x.1
  · have hk : kpf P x = true := by
      unfold kpf
      rw [decide_eq_false (by rw [i32_le] at e; rw [i32_lt]; omega)]
      rfl
    rw [if_pos e, List.filter_cons_of_pos hk]
    simp only [List.length_cons]
    omega
  · have hk : ¬ kpf P x = true := by
      unfold kpf
      rw [decide_eq_true (by rw [i32_le] at e; rw [i32_lt]; omega)]
      decide
    rw [if_neg e, List.filter_cons_of_neg hk]
    simp only [List.length_cons]
    omega
theorem od9_le {P : Int32} {l : List T2} : od9 P l ≤ l.length := Nat.sub_le _ _
theorem oS_le {P : Int32} {tn : Nat → List T2} : ∀ (d k : Nat), oS P tn k d ≤ aS tn k d := by
  intro d
  induction d with
  | zero => intro k; exact Nat.le_refl _
  | succ d ih =>
    intro k
    have h1 := ih (k + 1)
    have h2 := od9_le (P := P) (l := tn k)
    show od9 P (tn k) + oS P tn (k + 1) d ≤ (tn k).length + aS tn (k + 1) d
    omega
theorem aS_le {tn : Nat → List T2} : ∀ (d k : Nat), (∀ a, k ≤ a → a < k + d → (tn a).length ≤ 5) → aS tn k d ≤ 5 * d := by
  intro d
  induction d with
  | zero => intro k _; exact Nat.le_refl _
  | succ d ih =>
    intro k h
    have h1 := ih (k + 1) (fun a h1 h2 => h a (by omega) (by omega))
    have h2 := h k (by omega) (by omega)
    show (tn k).length + aS tn (k + 1) d ≤ _
    omega
theorem drs_oS {P : Int32} {tn : Nat → List T2} : ∀ (d k t : Nat), drs tn P k d (nI t) = nI (t + oS P tn k d) := by
  intro d
  induction d with
  | zero => intro k t; rfl
  | succ d ih =>
    intro k t
    have hle : ((tn k).filter (kpf P)).length ≤ (tn k).length := List.length_filter_le _ _
    show drs tn P (k + 1) d (nI t + (nI (tn k).length - nI ((tn k).filter (kpf P)).length)) = nI (t + (od9 P (tn k) + oS P tn (k + 1) d))
    rw [pk_sub hle, nI_add, ih]
    congr 1
    unfold od9
    omega
theorem hd_294 {K285 : At → Int32 → Int32 → Int32 → Int32 → Int32 → Int32 → Int32 → Int32 → Int32 → Int32 → Int32 → Int32 → Int32 → Option (Int32 × At)} {x1 x2 x3 x4 x6 P lv x14 x15 x16 : Int32} {k : Nat} (hk : k < 4) (hl : (w.2.1.2.2.2.1 k).length ≤ 4) : ∀ (d j fu A O : Nat), j + d = (w.2.1.2.2.2.1 k).length → d < fu → L_hands_294 K285 fu w x1 x2 x3 x4 x6 P lv x14 x15 x16 (nI A) (nI O) (nI k) (nI j) = K285 w x1 x2 x3 x4 x6 P lv x14 x15 x16 (nI (A + d)) (nI (O + if lv ≤ P then 0 else od9 P ((w.2.1.2.2.2.1 k).drop j))) (nI (k + 1)) := by
  intro d
  induction d with
  | zero =>
    intro j fu A O hj hf
    obtain ⟨fu, rfl⟩ : ∃ f, fu = f + 1 := ⟨fu - 1, by omega⟩
    show Lb_hands_294 K285 _ w x1 x2 x3 x4 x6 P lv x14 x15 x16 (nI A) (nI O) (nI k) (nI j) = _
    unfold Lb_hands_294
    rw [tCo2 hk, gbsN, if_pos (by rw [nIle (by omega) (by omega)]; omega), gviN, nI_s, List.drop_eq_nil_of_le (by omega)]
    have : (if lv ≤ P then 0 else od9 P []) = 0 := by split <;> rfl
    rw [this]
    rfl
  | succ d ih =>
    intro j fu A O hj hf
    obtain ⟨fu, rfl⟩ : ∃ f, fu = f + 1 := ⟨fu - 1, by omega⟩
    obtain ⟨x, hx⟩ := some_of_lt (show j < (w.2.1.2.2.2.1 k).length by omega)
    show Lb_hands_294 K285 _ w x1 x2 x3 x4 x6 P lv x14 x15 x16 (nI A) (nI O) (nI k) (nI j) = _
    unfold Lb_hands_294
    rw [tCo2 hk, gbsN, if_neg (by rw [nIle (by omega) (by omega)]; omega), gviN, nI_s, drop_g9 hx, od9_c, show A + (d + 1) = A + 1 + d by omega]
    by_cases e : lv ≤ P
    · rw [if_pos e, if_pos e]
      unfold B_hands_337
      rw [Int32.add_zero, gviN, gviN, nI_s]
      have := ih (j + 1) fu (A + 1) O (by omega) (by omega)
      rw [if_pos e] at this
      exact this
    · rw [if_neg e, if_neg e, tTn0 hk hx hl, gbsN]
      by_cases e2 : P ≤ x.1
      · rw [if_pos e2, if_pos e2]
        unfold B_hands_337
        rw [Int32.add_zero, gviN, gviN, nI_s]
        have := ih (j + 1) fu (A + 1) O (by omega) (by omega)
        rw [if_neg e] at this
        rw [Nat.zero_add]
        exact this
      · rw [if_neg e2, if_neg e2]
        unfold B_hands_337
        rw [nI_s, gviN, gviN, nI_s]
        have := ih (j + 1) fu (A + 1) (O + 1) (by omega) (by omega)
        rw [if_neg e] at this
        rw [← Nat.add_assoc]
        exact this
theorem hd_285 {x1 x2 x3 x4 P lv x14 x15 : Int32} {may : Bool} (hl : ∀ k, k < 4 → (w.2.1.2.2.2.1 k).length ≤ 4) : ∀ (d k fu A O : Nat), k + d = 4 → d < fu → L_hands_285 fu w x1 x2 x3 x4 1 P lv x14 x15 (bI may) (nI A) (nI O) (nI k) = gbs (h_tryBuyTrain x3 lv w) (fun v S => B_hands_376 S x1 x2 x3 x4 P lv x14 x15 (bI may) (nI (A + aS w.2.1.2.2.2.1 k d)) (nI (O + if lv ≤ P then 0 else oS P w.2.1.2.2.2.1 k d)) (if may = true then nI (O + if lv ≤ P then 0 else oS P w.2.1.2.2.2.1 k d) else -9999003) v) := by
  intro d
  induction d with
  | zero =>
    intro k fu A O hk hf
    obtain ⟨fu, rfl⟩ : ∃ f, fu = f + 1 := ⟨fu - 1, by omega⟩
    show Lb_hands_285 _ w x1 x2 x3 x4 1 P lv x14 x15 (bI may) (nI A) (nI O) (nI k) = _
    unfold Lb_hands_285
    rw [if_pos (by rw [show (4 : Int32) = nI 4 from rfl, nIle (by omega) (by omega)]; omega), if_neg (by decide)]
    have e1 : (if lv ≤ P then 0 else oS P w.2.1.2.2.2.1 k 0) = 0 := by split <;> rfl
    rw [e1, Nat.add_zero, show aS w.2.1.2.2.2.1 k 0 = 0 from rfl, Nat.add_zero]
    congr 1
    funext v S
    cases may with
    | false => rw [if_pos (show bI false = 0 from rfl), if_neg (by decide)]
    | true => rw [if_neg (show ¬ bI true = 0 by decide), if_pos rfl]
  | succ d ih =>
    intro k fu A O hk hf
    obtain ⟨fu, rfl⟩ : ∃ f, fu = f + 1 := ⟨fu - 1, by omega⟩
    show Lb_hands_285 _ w x1 x2 x3 x4 1 P lv x14 x15 (bI may) (nI A) (nI O) (nI k) = _
    unfold Lb_hands_285
    have h4 := hl k (by omega)
    have := hd_294 (K285 := L_hands_285 fu) (x1 := x1) (x2 := x2) (x3 := x3) (x4 := x4) (x6 := 1) (P := P) (lv := lv) (x14 := x14) (x15 := x15) (x16 := bI may) (k := k) (by omega) h4 (w.2.1.2.2.2.1 k).length 0 5 A O (Nat.zero_add _) (by omega)
    rw [nI_0, List.drop_zero] at this
    rw [if_neg (by rw [show (4 : Int32) = nI 4 from rfl, nIle (by omega) (by omega)]; omega), this, ih (k + 1) fu _ _ (by omega) (by omega)]
    have e1 : O + (if lv ≤ P then 0 else od9 P (w.2.1.2.2.2.1 k)) + (if lv ≤ P then 0 else oS P w.2.1.2.2.2.1 (k + 1) d) = O + (if lv ≤ P then 0 else oS P w.2.1.2.2.2.1 k (d + 1)) := by
      split
      · rfl
      · show _ = O + (od9 P (w.2.1.2.2.2.1 k) + oS P w.2.1.2.2.2.1 (k + 1) d)
        omega
    have e2 : A + (w.2.1.2.2.2.1 k).length + aS w.2.1.2.2.2.1 (k + 1) d = A + aS w.2.1.2.2.2.1 k (d + 1) := by
      show _ = A + ((w.2.1.2.2.2.1 k).length + aS w.2.1.2.2.2.1 (k + 1) d)
      omega
    rw [e1, e2]
theorem hd_475 {w1 : At} {x1 x2 x3 x14 x16 x17 x18 : Int32} (hl : ∀ k, k < 4 → (w1.2.1.2.2.2.1 k).length ≤ 4) : ∀ (d k fu A : Nat), k + d = 4 → d < fu → L_hands_475 fu w1 x1 x2 x3 1 x14 x16 x17 x18 (nI A) (nI k) = if x16 = 0 then B_hands_521 w1 x1 x2 x3 x14 0 x17 (nI (A + aS w1.2.1.2.2.2.1 k d)) else B_hands_521 w1 x1 x2 x3 x14 (1 - x18) x17 (nI (A + aS w1.2.1.2.2.2.1 k d)) := by
  intro d
  induction d with
  | zero =>
    intro k fu A hk hf
    obtain ⟨fu, rfl⟩ : ∃ f, fu = f + 1 := ⟨fu - 1, by omega⟩
    show Lb_hands_475 _ w1 x1 x2 x3 1 x14 x16 x17 x18 (nI A) (nI k) = _
    unfold Lb_hands_475
    rw [if_pos (by rw [show (4 : Int32) = nI 4 from rfl, nIle (by omega) (by omega)]; omega), if_neg (by decide)]
    rfl
  | succ d ih =>
    intro k fu A hk hf
    obtain ⟨fu, rfl⟩ : ∃ f, fu = f + 1 := ⟨fu - 1, by omega⟩
    show Lb_hands_475 _ w1 x1 x2 x3 1 x14 x16 x17 x18 (nI A) (nI k) = _
    unfold Lb_hands_475
    rw [if_neg (by rw [show (4 : Int32) = nI 4 from rfl, nIle (by omega) (by omega)]; omega), tCo2 (by omega), gbsN, nI_add, gviN, nI_s, gviN, ih (k + 1) fu _ (by omega) (by omega)]
    have e2 : A + (w1.2.1.2.2.2.1 k).length + aS w1.2.1.2.2.2.1 (k + 1) d = A + aS w1.2.1.2.2.2.1 k (d + 1) := by
      show _ = A + ((w1.2.1.2.2.2.1 k).length + aS w1.2.1.2.2.2.1 (k + 1) d)
      omega
    rw [e2]
/-- what is left after a train is bought -/
theorem aS_fil {P : Int32} {tn : Nat → List T2} : ∀ (d k : Nat), aS (fun a => (tn a).filter (kpf P)) k d + oS P tn k d = aS tn k d := by
  intro d
  induction d with
  | zero => intro k; rfl
  | succ d ih =>
    intro k
    have h1 := ih (k + 1)
    have hle : ((tn k).filter (kpf P)).length ≤ (tn k).length := List.length_filter_le _ _
    show ((tn k).filter (kpf P)).length + aS (fun a => (tn a).filter (kpf P)) (k + 1) d + (od9 P (tn k) + oS P tn (k + 1) d) = (tn k).length + aS tn (k + 1) d
    unfold od9
    omega
theorem aS_add {tn : Nat → List T2} {i : Nat} {l : List T2} (hi : i < 4) (h : l.length = (tn i).length + 1) : aS (fun a => if a = i then l else tn a) 0 4 = aS tn 0 4 + 1 := by
  show (if 0 = i then l else tn 0).length + ((if 1 = i then l else tn 1).length + ((if 2 = i then l else tn 2).length + ((if 3 = i then l else tn 3).length + 0))) = (tn 0).length + ((tn 1).length + ((tn 2).length + ((tn 3).length + 0))) + 1
  rcases i4 hi with rfl | rfl | rfl | rfl <;> simp [h] <;> omega
theorem oS_add {tn : Nat → List T2} {i : Nat} {l : List T2} {P : Int32} (hi : i < 4) (h : od9 P l = od9 P (tn i)) : oS P (fun a => if a = i then l else tn a) 0 4 = oS P tn 0 4 := by
  show od9 P (if 0 = i then l else tn 0) + (od9 P (if 1 = i then l else tn 1) + (od9 P (if 2 = i then l else tn 2) + (od9 P (if 3 = i then l else tn 3) + 0))) = od9 P (tn 0) + (od9 P (tn 1) + (od9 P (tn 2) + (od9 P (tn 3) + 0)))
  rcases i4 hi with rfl | rfl | rfl | rfl <;> simp [h]
theorem od9_app {P : Int32} {x : T2} : ∀ (l : List T2), P ≤ x.1 → od9 P (l ++ [x]) = od9 P l := by
  intro l h
  induction l with
  | nil => show od9 P [x] = 0; rw [od9_c, if_pos h]; rfl
  | cons a l ih => rw [List.cons_append, od9_c, od9_c, ih]
end HND5
