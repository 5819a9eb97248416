/-! ===== sound: the numbers told fit together ===== -/
theorem drop_g9 {α : Type} {l : List α} {k : Nat} {a : α} (h : l[k]? = some a) : l.drop k = a :: l.drop (k + 1) := by
  obtain ⟨hk, e⟩ := List.getElem?_eq_some_iff.mp h
  rw [List.drop_eq_getElem_cons hk, e]
section TELL
variable {u : At} {i j k t : Nat} {a : T4} {b : T6} {x : T2}
theorem tAb (y : Int32) : h_tryAbout y u = some (nAbout u.2.1 y, u) := rfl
theorem tCo (hi : i < 4) (y : Int32) : h_tryCompany (nI i) y u = some (if y = 0 then u.2.1.2.2.1 i 0 else if y = 1 then u.2.1.2.2.1 i 1 else if y = 2 then nI (u.2.1.2.2.2.1 i).length else if y = 3 then cntT u.2.1 i else if y = 4 then cntC u.2.1 i else if y = 5 then u.2.1.2.2.1 i 3 else if y = 6 then u.2.1.2.2.1 i 4 else -9999002, u) := by
  unfold h_tryCompany nCompany
  rw [ixO_t hi (by omega)]
theorem tTr (ha : u.2.1.2.1[t]? = some a) (hl : u.2.1.2.1.length ≤ 16) (y : Int32) : h_tryTrack (nI t) y u = some (if y = 0 then a.1 else if y = 1 then a.2.1 else if y = 2 then a.2.2.1 else if y = 3 then a.2.2.2 else -9999002, u) := by
  unfold h_tryTrack nTrack
  rw [ixO_t (lt_len ha) (by omega)]
  show some ((match u.2.1.2.1[t]? with | none => _ | some a => _), u) = _
  rw [ha]
theorem tCt (hb : u.2.1.2.2.2.2[k]? = some b) (hl : u.2.1.2.2.2.2.length ≤ 8) (y : Int32) : h_tryContract (nI k) y u = some (if y = 0 then b.1 else if y = 1 then b.2.1 else if y = 2 then b.2.2.1 else if y = 3 then b.2.2.2.1 else if y = 4 then b.2.2.2.2.1 else if y = 5 then b.2.2.2.2.2 else -9999002, u) := by
  unfold h_tryContract nContract
  rw [ixO_t (lt_len hb) (by omega)]
  show some ((match u.2.1.2.2.2.2[k]? with | none => _ | some a => _), u) = _
  rw [hb]
theorem tTn (hi : i < 4) (hx : (u.2.1.2.2.2.1 i)[j]? = some x) (hl : (u.2.1.2.2.2.1 i).length ≤ 4) (y : Int32) : h_tryTrain (nI i) (nI j) y u = some (if y = 0 then x.1 else if y = 1 then x.2 else -9999002, u) := by
  unfold h_tryTrain nTrain
  rw [ixO_t hi (by omega)]
  show some ((match ixO (u.2.1.2.2.2.1 i).length (nI j) with | none => _ | some j => _), u) = _
  rw [ixO_t (lt_len hx) (by omega)]
  show some ((match (u.2.1.2.2.2.1 i)[j]? with | none => _ | some a => _), u) = _
  rw [hx]
theorem tCo0 (hi : i < 4) : h_tryCompany (nI i) 0 u = some (u.2.1.2.2.1 i 0, u) := tCo hi 0
theorem tCo2 (hi : i < 4) : h_tryCompany (nI i) 2 u = some (nI (u.2.1.2.2.2.1 i).length, u) := tCo hi 2
theorem tCo3 (hi : i < 4) : h_tryCompany (nI i) 3 u = some (cntT u.2.1 i, u) := tCo hi 3
theorem tCo4 (hi : i < 4) : h_tryCompany (nI i) 4 u = some (cntC u.2.1 i, u) := tCo hi 4
theorem tCo5 (hi : i < 4) : h_tryCompany (nI i) 5 u = some (u.2.1.2.2.1 i 3, u) := tCo hi 5
theorem tCo6 (hi : i < 4) : h_tryCompany (nI i) 6 u = some (u.2.1.2.2.1 i 4, u) := tCo hi 6
theorem tCo1 (hi : i < 4) : h_tryCompany (nI i) 1 u = some (u.2.1.2.2.1 i 1, u) := tCo hi 1
theorem tTr0 (ha : u.2.1.2.1[t]? = some a) (hl : u.2.1.2.1.length ≤ 16) : h_tryTrack (nI t) 0 u = some (a.1, u) := tTr ha hl 0
theorem tTr1 (ha : u.2.1.2.1[t]? = some a) (hl : u.2.1.2.1.length ≤ 16) : h_tryTrack (nI t) 1 u = some (a.2.1, u) := tTr ha hl 1
theorem tTr2 (ha : u.2.1.2.1[t]? = some a) (hl : u.2.1.2.1.length ≤ 16) : h_tryTrack (nI t) 2 u = some (a.2.2.1, u) := tTr ha hl 2
theorem tTr3 (ha : u.2.1.2.1[t]? = some a) (hl : u.2.1.2.1.length ≤ 16) : h_tryTrack (nI t) 3 u = some (a.2.2.2, u) := tTr ha hl 3
theorem tCt0 (hb : u.2.1.2.2.2.2[k]? = some b) (hl : u.2.1.2.2.2.2.length ≤ 8) : h_tryContract (nI k) 0 u = some (b.1, u) := tCt hb hl 0
theorem tCt1 (hb : u.2.1.2.2.2.2[k]? = some b) (hl : u.2.1.2.2.2.2.length ≤ 8) : h_tryContract (nI k) 1 u = some (b.2.1, u) := tCt hb hl 1
theorem tCt2 (hb : u.2.1.2.2.2.2[k]? = some b) (hl : u.2.1.2.2.2.2.length ≤ 8) : h_tryContract (nI k) 2 u = some (b.2.2.1, u) := tCt hb hl 2
theorem tCt3 (hb : u.2.1.2.2.2.2[k]? = some b) (hl : u.2.1.2.2.2.2.length ≤ 8) : h_tryContract (nI k) 3 u = some (b.2.2.2.1, u) := tCt hb hl 3
theorem tCt4 (hb : u.2.1.2.2.2.2[k]? = some b) (hl : u.2.1.2.2.2.2.length ≤ 8) : h_tryContract (nI k) 4 u = some (b.2.2.2.2.1, u) := tCt hb hl 4
theorem tCt5 (hb : u.2.1.2.2.2.2[k]? = some b) (hl : u.2.1.2.2.2.2.length ≤ 8) : h_tryContract (nI k) 5 u = some (b.2.2.2.2.2, u) := tCt hb hl 5
theorem tTn0 (hi : i < 4) (hx : (u.2.1.2.2.2.1 i)[j]? = some x) (hl : (u.2.1.2.2.2.1 i).length ≤ 4) : h_tryTrain (nI i) (nI j) 0 u = some (x.1, u) := tTn hi hx hl 0
theorem tTn1 (hi : i < 4) (hx : (u.2.1.2.2.2.1 i)[j]? = some x) (hl : (u.2.1.2.2.2.1 i).length ≤ 4) : h_tryTrain (nI i) (nI j) 1 u = some (x.2, u) := tTn hi hx hl 1
end TELL
section SND
variable {c m N : Nat} {u : At}
theorem snd_465 {x2 : Int32} (hW : Wf N u.2.1) (hN : N ≤ 100000000) : B_sound_465 u 0 (u.2.1.2.2.1 0 3 + u.2.1.2.2.1 1 3 + u.2.1.2.2.1 2 3 + u.2.1.2.2.1 3 3) (u.2.1.2.2.1 0 4 + u.2.1.2.2.1 1 4 + u.2.1.2.2.1 2 4 + u.2.1.2.2.1 3 4) 1 = some (1, u) := by
  obtain ⟨-, h2, ⟨hr, b, hb, e6⟩, ⟨f, hf, e8⟩, -⟩ := hW
  obtain ⟨r0, -, a0, q0⟩ := hr 0 (by omega)
  obtain ⟨r1, -, a1, q1⟩ := hr 1 (by omega)
  obtain ⟨r2, -, a2, q2⟩ := hr 2 (by omega)
  obtain ⟨r3, -, a3, q3⟩ := hr 3 (by omega)
  have e9 : u.2.1.2.2.1 0 4 + u.2.1.2.2.1 1 4 + u.2.1.2.2.1 2 4 + u.2.1.2.2.1 3 4 = u.2.1.1 9 := by
    unfold bs at h2
    grind
  have k6 : h_tryAbout 6 u = some (u.2.1.1 6, u) := by simp [h_tryAbout, nAbout]
  have k9 : h_tryAbout 9 u = some (u.2.1.1 9, u) := by simp [h_tryAbout, nAbout]
  have k8 : h_tryAbout 8 u = some (u.2.1.1 8, u) := by simp [h_tryAbout, nAbout]
  unfold B_sound_465
  rw [if_neg (by decide), if_pos rfl, k6, gbsN, if_neg, k9, gbsN, if_pos e9, k8, gbsN, if_pos]
  · rw [e8, show (5 : Int32) = nI 5 from rfl, rem_nI (by omega) (by omega) (by omega), Nat.mul_mod_right]
    rfl
  · rw [e6, q0, q1, q2, q3]
    simp only [nI_add]
    rw [nIlt (by omega) (by omega)]
    omega
theorem snd_376 {x1 x2 x3 : Int32} (hV : V c m u.2.1) (hR : RH u.2.1) : ∀ (d k fu : Nat), k + d = u.2.1.2.2.2.2.length → d < fu → L_sound_376 fu u x1 x2 x3 1 (nI k) = B_sound_465 u x1 x2 x3 1 := by
  have hk8 := hV.2.2.2.2.2.1
  have e2 : h_tryAbout 2 u = some (nI u.2.1.2.2.2.2.length, u) := by simp [h_tryAbout, nAbout]
  intro d
  induction d with
  | zero =>
    intro k fu hk hf
    obtain ⟨fu, rfl⟩ : ∃ f, fu = f + 1 := ⟨fu - 1, by omega⟩
    show Lb_sound_376 _ u x1 x2 x3 1 (nI k) = _
    unfold Lb_sound_376
    rw [e2, gbsN, if_pos (by rw [nIle (by omega) (by omega)]; omega)]
  | succ d ih =>
    intro k fu hk hf
    obtain ⟨fu, rfl⟩ : ∃ f, fu = f + 1 := ⟨fu - 1, by omega⟩
    obtain ⟨b, hb⟩ := some_of_lt (show k < u.2.1.2.2.2.2.length by omega)
    obtain ⟨-, -, hne, -, ⟨r, r1, r9, er⟩, -⟩ := hV.2.2.2.2.2.2 b (mem_get hb)
    show Lb_sound_376 _ u x1 x2 x3 1 (nI k) = _
    unfold Lb_sound_376
    rw [e2, gbsN, if_neg (by rw [nIle (by omega) (by omega)]; omega), if_neg (by decide), tCt0 hb hk8, gbsN, tCt1 hb hk8, gbsN, if_neg hne, tCt3 hb hk8, gbsN, if_neg (by rw [er, show (0 : Int32) = nI 0 from rfl, nIle (by omega) (by omega)]; omega), tCt3 hb hk8, gbsN, if_neg (by rw [er, show (10 : Int32) = nI 10 from rfl, nIle (by omega) (by omega)]; omega), tCt5 hb hk8, gbsN]
    have hB : B_sound_452 (L_sound_376 fu) u x1 x2 x3 (nI k) = B_sound_465 u x1 x2 x3 1 := by
      unfold B_sound_452
      rw [gviN, nI_s]
      exact ih (k + 1) fu (by omega) (by omega)
    by_cases h5 : b.2.2.2.2.2 = 0
    · rw [if_pos h5]
      exact hB
    · rw [if_neg h5, tCt4 hb hk8, gbsN, if_neg ((hR b (mem_get hb)).resolve_left h5)]
      exact hB
theorem snd_97 {K40 : At → Int32 → Int32 → Int32 → Int32 → Int32 → Int32 → Option (Int32 × At)} {x1 x2 x3 : Int32} {i : Nat} (hV : V c m u.2.1) (hT : TL u.2.1) (hi : i < 4) : ∀ (d j fu : Nat) (a : Int32), j + d = (u.2.1.2.2.2.1 i).length → d < fu → L_sound_97 K40 fu u x1 x2 x3 (u.2.1.1 3) 1 (nI i) a 0 0 0 (nI j) = L_sound_186 K40 17 u x1 x2 x3 (u.2.1.1 3) 1 (nI i) (a + sm (fun (x : T2) => x.1) ((u.2.1.2.2.2.1 i).drop j)) 0 0 0 0 := by
  have hl4 := (hV.2.2.2.2.1 i hi).1
  intro d
  induction d with
  | zero =>
    intro j fu a hk hf
    obtain ⟨fu, rfl⟩ : ∃ f, fu = f + 1 := ⟨fu - 1, by omega⟩
    show Lb_sound_97 K40 _ u x1 x2 x3 (u.2.1.1 3) 1 (nI i) a 0 0 0 (nI j) = _
    unfold Lb_sound_97
    rw [tCo2 hi, gbsN, if_pos (by rw [nIle (by omega) (by omega)]; omega), List.drop_eq_nil_of_le (by omega)]
    show _ = L_sound_186 K40 17 u x1 x2 x3 (u.2.1.1 3) 1 (nI i) (a + 0) 0 0 0 0
    rw [Int32.add_zero]
  | succ d ih =>
    intro j fu a hk hf
    obtain ⟨fu, rfl⟩ : ∃ f, fu = f + 1 := ⟨fu - 1, by omega⟩
    obtain ⟨x, hx⟩ := some_of_lt (show j < (u.2.1.2.2.2.1 i).length by omega)
    obtain ⟨p, l, ep, p6, el, l1, lp, pl⟩ := hT i hi x (mem_get hx)
    have h1 : ¬ x.1 < u.2.1.1 3 - 1 := by
      rw [ep, el, show (1 : Int32) = nI 1 from rfl, pk_sub (by omega), nIlt (by omega) (by omega)]
      omega
    have h2 : ¬ u.2.1.1 3 < x.1 := by
      rw [ep, el, nIlt (by omega) (by omega)]
      omega
    have h3 : ¬ x.1 ≤ 0 := by
      rw [el, show (0 : Int32) = nI 0 from rfl, nIle (by omega) (by omega)]
      omega
    show Lb_sound_97 K40 _ u x1 x2 x3 (u.2.1.1 3) 1 (nI i) a 0 0 0 (nI j) = _
    unfold Lb_sound_97
    rw [tCo2 hi, gbsN, if_neg (by rw [nIle (by omega) (by omega)]; omega), if_neg (by decide), tTn0 hi hx hl4, gbsN, gviN, tTn0 hi hx hl4, gbsN, if_neg h1, tTn0 hi hx hl4, gbsN, if_neg h2, tTn0 hi hx hl4, gbsN, if_neg h3, gviN, nI_s, ih (j + 1) fu _ (by omega) (by omega), drop_g9 hx]
    show _ = L_sound_186 K40 17 u x1 x2 x3 (u.2.1.1 3) 1 (nI i) (a + (x.1 + _)) 0 0 0 0
    rw [Int32.add_assoc]
theorem snd_186 {K40 : At → Int32 → Int32 → Int32 → Int32 → Int32 → Int32 → Option (Int32 × At)} {x1 x2 x3 x4 x7 : Int32} {i : Nat} (hV : V c m u.2.1) (hi : i < 4) : ∀ (d t fu : Nat) (a b : Int32), t + d = u.2.1.2.1.length → d < fu → L_sound_186 K40 fu u x1 x2 x3 x4 1 (nI i) x7 a b 0 (nI t) = L_sound_255 K40 9 u x1 x2 x3 x4 1 (nI i) x7 (a + sm (fun (x : T4) => if x.2.2.2 = nI i then x.2.2.1 else 0) (u.2.1.2.1.drop t)) (b + sm (fun (x : T4) => if x.2.2.2 = nI i then 1 else 0) (u.2.1.2.1.drop t)) 0 0 := by
  have hl := hV.2.2.1.1
  have e1 : h_tryAbout 1 u = some (nI u.2.1.2.1.length, u) := by simp [h_tryAbout, nAbout]
  intro d
  induction d with
  | zero =>
    intro t fu a b hk hf
    obtain ⟨fu, rfl⟩ : ∃ f, fu = f + 1 := ⟨fu - 1, by omega⟩
    show Lb_sound_186 K40 _ u x1 x2 x3 x4 1 (nI i) x7 a b 0 (nI t) = _
    unfold Lb_sound_186
    rw [e1, gbsN, if_pos (by rw [nIle (by omega) (by omega)]; omega), List.drop_eq_nil_of_le (by omega)]
    show _ = L_sound_255 K40 9 u x1 x2 x3 x4 1 (nI i) x7 (a + 0) (b + 0) 0 0
    rw [Int32.add_zero, Int32.add_zero]
  | succ d ih =>
    intro t fu a b hk hf
    obtain ⟨fu, rfl⟩ : ∃ f, fu = f + 1 := ⟨fu - 1, by omega⟩
    obtain ⟨x, hx⟩ := some_of_lt (show t < u.2.1.2.1.length by omega)
    show Lb_sound_186 K40 _ u x1 x2 x3 x4 1 (nI i) x7 a b 0 (nI t) = _
    unfold Lb_sound_186
    rw [e1, gbsN, if_neg (by rw [nIle (by omega) (by omega)]; omega), tTr3 hx hl, gbsN, drop_g9 hx]
    show _ = L_sound_255 K40 9 u x1 x2 x3 x4 1 (nI i) x7 (a + ((if x.2.2.2 = nI i then x.2.2.1 else 0) + _)) (b + ((if x.2.2.2 = nI i then 1 else 0) + _)) 0 0
    by_cases h : x.2.2.2 = nI i
    · rw [if_pos h, if_pos h, if_pos h]
      unfold B_sound_215 B_sound_243
      rw [gviN, tTr3 hx hl, gbsN, if_pos h, tTr2 hx hl, gbsN, gviN, gviN, nI_s, ih (t + 1) fu _ _ (by omega) (by omega), Int32.add_assoc, Int32.add_assoc]
    · rw [if_neg h, if_neg h, if_neg h]
      unfold B_sound_215 B_sound_243
      rw [gviN, tTr3 hx hl, gbsN, if_neg h, gviN, gviN, nI_s, ih (t + 1) fu _ _ (by omega) (by omega), Int32.add_assoc, Int32.add_assoc]
theorem snd_255 {K40 : At → Int32 → Int32 → Int32 → Int32 → Int32 → Int32 → Option (Int32 × At)} {x1 x2 x3 x4 : Int32} {i : Nat} (hV : V c m u.2.1) (hi : i < 4) : ∀ (d k fu : Nat) (a : Int32), k + d = u.2.1.2.2.2.2.length → d < fu → a + sm (fun (x : T6) => if x.2.2.2.2.1 = nI i then 1 else 0) (u.2.1.2.2.2.2.drop k) = cntC u.2.1 i → L_sound_255 K40 fu u x1 x2 x3 x4 1 (nI i) (lvl u.2.1 i) (lenT u.2.1 i) (cntT u.2.1 i) a (nI k) = K40 u x1 x2 x3 x4 1 (nI (i + 1)) := by
  have hk8 := hV.2.2.2.2.2.1
  have hl4 := (hV.2.2.2.2.1 i hi).1
  have e2 : h_tryAbout 2 u = some (nI u.2.1.2.2.2.2.length, u) := by simp [h_tryAbout, nAbout]
  have ew : h_tryWorth (nI i) u = some (gWorth u.2.1 i, u) := by
    unfold h_tryWorth nWorth
    rw [ixO_t hi (by omega)]
  intro d
  induction d with
  | zero =>
    intro k fu a hk hf ha
    obtain ⟨fu, rfl⟩ : ∃ f, fu = f + 1 := ⟨fu - 1, by omega⟩
    rw [List.drop_eq_nil_of_le (by omega)] at ha
    have ha : a + 0 = cntC u.2.1 i := ha
    rw [Int32.add_zero] at ha
    show Lb_sound_255 K40 _ u x1 x2 x3 x4 1 (nI i) (lvl u.2.1 i) (lenT u.2.1 i) (cntT u.2.1 i) a (nI k) = _
    unfold Lb_sound_255
    rw [e2, gbsN, if_pos (by rw [nIle (by omega) (by omega)]; omega), if_neg (by decide), tCo3 hi, gbsN, if_pos rfl, tCo4 hi, gbsN, if_pos ha.symm, tCo2 hi, gbsN, if_neg (by rw [show (4 : Int32) = nI 4 from rfl, nIlt (by omega) (by omega)]; omega), ew, gbsN, tCo0 hi, gbsN, if_pos (show gWorth u.2.1 i = u.2.1.2.2.1 i 0 + 3 * lenT u.2.1 i + 10 * lvl u.2.1 i from rfl), gviN, nI_s]
  | succ d ih =>
    intro k fu a hk hf ha
    obtain ⟨fu, rfl⟩ : ∃ f, fu = f + 1 := ⟨fu - 1, by omega⟩
    obtain ⟨b, hb⟩ := some_of_lt (show k < u.2.1.2.2.2.2.length by omega)
    rw [drop_g9 hb] at ha
    have ha : a + ((if b.2.2.2.2.1 = nI i then 1 else 0) + sm (fun (x : T6) => if x.2.2.2.2.1 = nI i then 1 else 0) (u.2.1.2.2.2.2.drop (k + 1))) = cntC u.2.1 i := ha
    rw [← Int32.add_assoc] at ha
    show Lb_sound_255 K40 _ u x1 x2 x3 x4 1 (nI i) (lvl u.2.1 i) (lenT u.2.1 i) (cntT u.2.1 i) a (nI k) = _
    unfold Lb_sound_255
    rw [e2, gbsN, if_neg (by rw [nIle (by omega) (by omega)]; omega), tCt4 hb hk8, gbsN]
    by_cases h : b.2.2.2.2.1 = nI i
    · rw [if_pos h] at ha ⊢
      unfold B_sound_284
      rw [gviN, gviN, nI_s]
      exact ih (k + 1) fu _ (by omega) (by omega) ha
    · rw [if_neg h] at ha ⊢
      unfold B_sound_284
      rw [gviN, gviN, nI_s]
      exact ih (k + 1) fu _ (by omega) (by omega) ha
theorem snd_it {K40 : At → Int32 → Int32 → Int32 → Int32 → Int32 → Int32 → Option (Int32 × At)} {x1 x2 x3 : Int32} {i : Nat} (hV : V c m u.2.1) (hT : TL u.2.1) (hi : i < 4) : L_sound_97 K40 5 u x1 x2 x3 (u.2.1.1 3) 1 (nI i) 0 0 0 0 0 = K40 u x1 x2 x3 (u.2.1.1 3) 1 (nI (i + 1)) := by
  have hl4 := (hV.2.2.2.2.1 i hi).1
  have hl := hV.2.2.1.1
  have hk8 := hV.2.2.2.2.2.1
  have a1 := snd_97 (K40 := K40) (x1 := x1) (x2 := x2) (x3 := x3) hV hT hi (u.2.1.2.2.2.1 i).length 0 5 0 (Nat.zero_add _) (by omega)
  rw [nI_0, List.drop_zero, Int32.zero_add] at a1
  have a2 := snd_186 (K40 := K40) (x1 := x1) (x2 := x2) (x3 := x3) (x4 := u.2.1.1 3) (x7 := sm (fun (x : T2) => x.1) (u.2.1.2.2.2.1 i)) hV hi u.2.1.2.1.length 0 17 0 0 (Nat.zero_add _) (by omega)
  rw [nI_0, List.drop_zero, Int32.zero_add, Int32.zero_add] at a2
  have a3 := snd_255 (K40 := K40) (x1 := x1) (x2 := x2) (x3 := x3) (x4 := u.2.1.1 3) hV hi u.2.1.2.2.2.2.length 0 9 0 (Nat.zero_add _) (by omega) (by rw [List.drop_zero, Int32.zero_add]; rfl)
  rw [nI_0] at a3
  rw [a1, a2]
  exact a3
theorem snd_40 {x1 x2 x3 : Int32} {i fu : Nat} (hV : V c m u.2.1) (hT : TL u.2.1) (hi : i < 4) : L_sound_40 (fu + 1) u x1 x2 x3 (u.2.1.1 3) 1 (nI i) = L_sound_40 fu u (x1 + u.2.1.2.2.1 i 0) (x2 + u.2.1.2.2.1 i 3) (x3 + u.2.1.2.2.1 i 4) (u.2.1.1 3) 1 (nI (i + 1)) := by
  show Lb_sound_40 (L_sound_40 fu) u x1 x2 x3 (u.2.1.1 3) 1 (nI i) = _
  unfold Lb_sound_40
  rw [if_neg (by rw [show (4 : Int32) = nI 4 from rfl, nIle (by omega) (by omega)]; omega), if_neg (by decide), tCo0 hi, gbsN, gviN, tCo5 hi, gbsN, gviN, tCo6 hi, gbsN, gviN]
  exact snd_it hV hT hi
theorem sound_ok (hV : V c m u.2.1) (hW : Wf N u.2.1) (hN : N ≤ 100000000) : h_sound u = some (1, u) := by
  obtain ⟨hc, -, -, -, hT, hR, -⟩ := id hW
  obtain ⟨p, p1, p6, ep⟩ := hV.2.1
  have hk8 := hV.2.2.2.2.2.1
  have k5 : h_tryAbout 5 u = some (u.2.1.1 5, u) := by simp [h_tryAbout, nAbout]
  have k3 : h_tryAbout 3 u = some (u.2.1.1 3, u) := by simp [h_tryAbout, nAbout]
  unfold h_sound
  rw [k5, gbsN, k3, gbsN, if_neg (by rw [ep, show (1 : Int32) = nI 1 from rfl, nIlt (by omega) (by omega)]; omega), if_neg (by rw [ep, show (6 : Int32) = nI 6 from rfl, nIlt (by omega) (by omega)]; omega)]
  have a0 := snd_40 (x1 := u.2.1.1 5) (x2 := 0) (x3 := 0) (i := 0) (fu := 4) hV hT (by omega)
  rw [nI_0] at a0
  rw [a0, snd_40 (i := 0 + 1) (fu := 3) hV hT (by omega), snd_40 (i := 0 + 1 + 1) (fu := 2) hV hT (by omega), snd_40 (i := 0 + 1 + 1 + 1) (fu := 1) hV hT (by omega)]
  show Lb_sound_40 (L_sound_40 0) u _ _ _ (u.2.1.1 3) 1 (nI 4) = _
  unfold Lb_sound_40
  have e5 := snd_376 (x1 := cs u.2.1) (x2 := u.2.1.2.2.1 0 3 + u.2.1.2.2.1 1 3 + u.2.1.2.2.1 2 3 + u.2.1.2.2.1 3 3) (x3 := u.2.1.2.2.1 0 4 + u.2.1.2.2.1 1 4 + u.2.1.2.2.1 2 4 + u.2.1.2.2.1 3 4) hV hR u.2.1.2.2.2.2.length 0 9 (Nat.zero_add _) (by omega)
  rw [if_pos (by decide), Int32.zero_add, Int32.zero_add]
  rw [nI_0] at e5
  refine Eq.trans e5 ?_
  rw [hc]
  exact snd_465 (x2 := 0) hW hN
end SND
