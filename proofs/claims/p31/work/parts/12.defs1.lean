theorem st_of_X6_stateAt {x1 : Int32} {S S' : Sg} {v : Nat} (h : f_X6_stateAt x1 S = some (v, S')) : IsSt v := by
  unfold f_X6_stateAt at h
  by_cases h1 : x1 < 0
  · rw [if_pos h1] at h; cases h
  · rw [if_neg h1] at h
    by_cases h2 : nI 2 ≤ x1
    · rw [if_pos h2] at h; cases h
    · rw [if_neg h2] at h
      obtain ⟨hin, h⟩ := gck_some h
      cases h
      have h3 := vp_of_inb hin
      unfold vp_in at h3
      exact st_s (by omega)
noncomputable def f_X6_fetchInto (b2 : Nat) (a1 : Int32) (S : Sg) : Option Sg :=
  gbn (f_X6_stateAt a1 S) (fun v_2 S_1 =>
  gbv (f_X10_copyState v_2 b2 S_1) (fun S_3 =>
  some S_3))
noncomputable def f_X6_isFilled (a1 : Int32) (S : Sg) : Option (Int32 × Sg) :=
  gbi (f_X10_at 7 2 a1 S) (fun v_2 S_1 =>
  if v_2 = (1 : Int32) then
    some ((1 : Int32), S_1)
  else
    some ((0 : Int32), S_1))
noncomputable def f_X6_keep (b2 : Nat) (a1 : Int32) (S : Sg) : Option Sg :=
  gbn (f_X6_stateAt a1 S) (fun v_2 S_1 =>
  gbv (f_X10_copyState b2 v_2 S_1) (fun S_3 =>
  gbv (f_X10_put 7 2 a1 (1 : Int32) S_3) (fun S_4 =>
  some S_4)))
noncomputable def B_X7_dealByChance_118 (b : Nat) (S : Sg) (t0 : Int32) (t1 : Int32) : Option Sg :=
  gbi (f_X7_tryContract b t1 t0 S) (fun v_2 S_1 =>
  some S_1)
noncomputable def B_X7_dealByChance_85 (b : Nat) (S : Sg) (t0 : Int32) (t1 : Int32) : Option Sg :=
  gbi (f_X7_tryTrack b t1 t0 S) (fun v_4 S_3 =>
  some S_3)
noncomputable def f_X7_dealByChance (b : Nat) (a1 : Int32) (S : Sg) : Option Sg :=
  gvi ((a1 / (8 : Int32)) - (a1 / (8 : Int32)) / (4 : Int32) * (4 : Int32)) (fun x2_5 =>
  gvi (a1 / (32 : Int32)) (fun x3_6 =>
  if (a1 - a1 / (8 : Int32) * (8 : Int32)) = (0 : Int32) then
    gbi (f_X7_tryTrain b x2_5 ((1 : Int32) + (x3_6 - x3_6 / (6 : Int32) * (6 : Int32))) S) (fun v_8 S_7 =>
    some S_7)
  else
  if (a1 - a1 / (8 : Int32) * (8 : Int32)) = (1 : Int32) then
    if (S (b + 1) 4) ≤ 0 then
      B_X7_dealByChance_85 b S (-9 : Int32) x2_5
    else
      gck (!decide (S (b + 1) 4 = 0)) (
      B_X7_dealByChance_85 b S (x3_6 - x3_6 / (S (b + 1) 4) * (S (b + 1) 4)) x2_5)
  else
  if (a1 - a1 / (8 : Int32) * (8 : Int32)) = (2 : Int32) then
    if (S (b + 2) 6) ≤ 0 then
      B_X7_dealByChance_118 b S (-9 : Int32) x2_5
    else
      gck (!decide (S (b + 2) 6 = 0)) (
      B_X7_dealByChance_118 b S (x3_6 - x3_6 / (S (b + 2) 6) * (S (b + 2) 6)) x2_5)
  else
    some S))
noncomputable def Lb_X8_lengthsOf_4 (b : Nat) (K4 : Sg → Int32 → Int32 → Int32 → Option (Int32 × Sg)) (S : Sg) (x1 : Int32) (x2 : Int32) (x3 : Int32) : Option (Int32 × Sg) :=
  if (S (b + 1) 4) ≤ x3 then
    some (x2, S)
  else
    gbi (f_X10_at (b + 7) 16 x3 S) (fun v_2 S_1 =>
    if v_2 = x1 then
      gbi (f_X10_at (b + 6) 16 x3 S_1) (fun v_6 S_5 =>
      gvi (x2 + v_6) (fun x2_7 =>
      gvi (x3 + (1 : Int32)) (fun x3_8 =>
      K4 S_5 x1 x2_7 x3_8)))
    else
      gvi (x2 + (0 : Int32)) (fun x2_3 =>
      gvi (x3 + (1 : Int32)) (fun x3_4 =>
      K4 S_1 x1 x2_3 x3_4)))
noncomputable def L_X8_lengthsOf_4 (b : Nat) : Nat → Sg → Int32 → Int32 → Int32 → Option (Int32 × Sg)
  | 0 => fun _ _ _ _ => none
  | n + 1 => Lb_X8_lengthsOf_4 b (L_X8_lengthsOf_4 b n)
noncomputable def f_X8_lengthsOf (b : Nat) (a1 : Int32) (S : Sg) : Option (Int32 × Sg) :=
  L_X8_lengthsOf_4 b gFu S a1 (0 : Int32) (0 : Int32)
noncomputable def f_X7_worthOf (b : Nat) (a1 : Int32) (S : Sg) : Option (Int32 × Sg) :=
  gbi (f_X10_at (b + 14) 5 a1 S) (fun v_2 S_1 =>
  gbi (f_X8_lengthsOf b a1 S_1) (fun v_4 S_3 =>
  gbi (f_X0_levelsOf b a1 S_3) (fun v_6 S_5 =>
  some ((v_2 + ((3 : Int32) * v_4)) + ((10 : Int32) * v_6), S_5))))
noncomputable def Lb_X7_greatestWorth_8 (b : Nat) (K8 : Sg → Int32 → Int32 → Option (Int32 × Sg)) (S : Sg) (x1 : Int32) (x2 : Int32) : Option (Int32 × Sg) :=
  if (4 : Int32) ≤ x2 then
    some (x1, S)
  else
    gbi (f_X7_worthOf b x2 S) (fun v_2 S_1 =>
    gvi ((if x1 < v_2 then v_2 else x1)) (fun x1_3 =>
    gvi (x2 + (1 : Int32)) (fun x2_4 =>
    K8 S_1 x1_3 x2_4)))
noncomputable def L_X7_greatestWorth_8 (b : Nat) : Nat → Sg → Int32 → Int32 → Option (Int32 × Sg)
  | 0 => fun _ _ _ => none
  | n + 1 => Lb_X7_greatestWorth_8 b (L_X7_greatestWorth_8 b n)
noncomputable def f_X7_greatestWorth (b : Nat) (S : Sg) : Option (Int32 × Sg) :=
  gbi (f_X7_worthOf b (0 : Int32) S) (fun v_6 S_5 =>
  L_X7_greatestWorth_8 b gFu S_5 v_6 (1 : Int32))
