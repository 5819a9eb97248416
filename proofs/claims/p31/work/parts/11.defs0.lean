noncomputable def f_X10_at (k0 : Nat) (n0 : Nat) (a1 : Int32) (S : Sg) : Option (Int32 × Sg) :=
  if a1 < 0 then
    some ((0 : Int32), S)
  else
    if (nI n0) ≤ a1 then
      some ((0 : Int32), S)
    else
      gck (inb a1 n0) (
      some (S k0 a1.toNatClampNeg, S))
noncomputable def f_X0_place (a0 : Int32) (a1 : Int32) (S : Sg) : Option (Int32 × Sg) :=
  some ((a0 * (4 : Int32)) + a1, S)
noncomputable def f_X10_put (k0 : Nat) (n0 : Nat) (a1 : Int32) (a2 : Int32) (S : Sg) : Option Sg :=
  if a1 < 0 then
    some S
  else
    if (nI n0) ≤ a1 then
      some S
    else
      gck (inb a1 n0) (
      gst (u2 S k0 a1.toNatClampNeg a2) (fun S_1 =>
      some S_1))
noncomputable def f_X0_addTrain (b : Nat) (a1 : Int32) (a2 : Int32) (S : Sg) : Option Sg :=
  gbi (f_X10_at (b + 18) 4 a1 S) (fun v_2 S_1 =>
  if (4 : Int32) ≤ v_2 then
    some S_1
  else
    gbi (f_X0_place a1 v_2 S_1) (fun v_4 S_3 =>
    gbv (f_X10_put (b + 19) 16 v_4 a2 S_3) (fun S_5 =>
    gbi (f_X0_place a1 v_2 S_5) (fun v_7 S_6 =>
    gbv (f_X10_put (b + 20) 16 v_7 (0 : Int32) S_6) (fun S_8 =>
    gbv (f_X10_put (b + 18) 4 a1 (v_2 + (1 : Int32)) S_8) (fun S_9 =>
    some S_9))))))
noncomputable def Lb_X10_fill_2 (k0 : Nat) (n0 : Nat) (K2 : Sg → Int32 → Int32 → Option Sg) (S : Sg) (x1 : Int32) (x2 : Int32) : Option Sg :=
  if (nI n0) ≤ x2 then
    some S
  else
    gck (inb x2 n0) (
    gst (u2 S k0 x2.toNatClampNeg x1) (fun S_1 =>
    gvi (x2 + (1 : Int32)) (fun x2_2 =>
    K2 S_1 x1 x2_2)))
noncomputable def L_X10_fill_2 (k0 : Nat) (n0 : Nat) : Nat → Sg → Int32 → Int32 → Option Sg
  | 0 => fun _ _ _ => none
  | n + 1 => Lb_X10_fill_2 k0 n0 (L_X10_fill_2 k0 n0 n)
noncomputable def f_X10_fill (k0 : Nat) (n0 : Nat) (a1 : Int32) (S : Sg) : Option Sg :=
  L_X10_fill_2 k0 n0 gFu S a1 (0 : Int32)
noncomputable def f_X0_begin (b : Nat) (S : Sg) : Option Sg :=
  gbv (f_X10_fill (b + 14) 5 (100 : Int32) S) (fun S_1 =>
  gbv (f_X10_put (b + 14) 5 (4 : Int32) (-400 : Int32) S_1) (fun S_2 =>
  gbv (f_X10_fill (b + 15) 5 (1 : Int32) S_2) (fun S_3 =>
  gbv (f_X10_fill (b + 16) 5 (0 : Int32) S_3) (fun S_4 =>
  gbv (f_X10_fill (b + 17) 4 (0 : Int32) S_4) (fun S_5 =>
  gbv (f_X10_fill (b + 18) 4 (0 : Int32) S_5) (fun S_6 =>
  some S_6))))))
noncomputable def f_X0_changeRent (b : Nat) (a1 : Int32) (a2 : Int32) (S : Sg) : Option Sg :=
  gbv (f_X10_put (b + 15) 5 a1 a2 S) (fun S_1 =>
  some S_1)
noncomputable def f_X10_copyRow (k0 n0 k1 n1 : Nat) (S : Sg) : Option Sg := some (uR S k1 (va_cpy (S k0) (S k1) 0 0 (min n0 n1)))
noncomputable def f_X0_copyFrom (b : Nat) (b1 : Nat) (S : Sg) : Option Sg :=
  gbv (f_X10_copyRow (b1 + 14) 5 (b + 14) 5 S) (fun S_1 =>
  gbv (f_X10_copyRow (b1 + 15) 5 (b + 15) 5 S_1) (fun S_2 =>
  gbv (f_X10_copyRow (b1 + 16) 5 (b + 16) 5 S_2) (fun S_3 =>
  gbv (f_X10_copyRow (b1 + 17) 4 (b + 17) 4 S_3) (fun S_4 =>
  gbv (f_X10_copyRow (b1 + 18) 4 (b + 18) 4 S_4) (fun S_5 =>
  gbv (f_X10_copyRow (b1 + 19) 16 (b + 19) 16 S_5) (fun S_6 =>
  gbv (f_X10_copyRow (b1 + 20) 16 (b + 20) 16 S_6) (fun S_7 =>
  some S_7)))))))
noncomputable def Lb_X0_dropBelow_15 (b : Nat) (K4 : Sg → Int32 → Int32 → Int32 → Option (Int32 × Sg)) (K15 : Sg → Int32 → Int32 → Int32 → Int32 → Int32 → Option (Int32 × Sg)) (S : Sg) (x1 : Int32) (x2 : Int32) (x3 : Int32) (x4 : Int32) (x5 : Int32) : Option (Int32 × Sg) :=
  gbi (f_X10_at (b + 18) 4 x3 S) (fun v_2 S_1 =>
  if v_2 ≤ x5 then
    gbi (f_X10_at (b + 18) 4 x3 S_1) (fun v_4 S_3 =>
    gvi (x2 + (v_4 - x4)) (fun x2_5 =>
    gbv (f_X10_put (b + 18) 4 x3 x4 S_3) (fun S_6 =>
    gvi (x3 + (1 : Int32)) (fun x3_7 =>
    K4 S_6 x1 x2_5 x3_7))))
  else
    gbi (f_X0_place x3 x5 S_1) (fun v_9 S_8 =>
    gbi (f_X10_at (b + 19) 16 v_9 S_8) (fun v_11 S_10 =>
    if v_11 < x1 then
      gvi (x5 + (1 : Int32)) (fun x5_12 =>
      K15 S_10 x1 x2 x3 x4 x5_12)
    else
      gbi (f_X0_place x3 x4 S_10) (fun v_14 S_13 =>
      gbi (f_X0_place x3 x5 S_13) (fun v_16 S_15 =>
      gbi (f_X10_at (b + 19) 16 v_16 S_15) (fun v_18 S_17 =>
      gbv (f_X10_put (b + 19) 16 v_14 v_18 S_17) (fun S_19 =>
      gbi (f_X0_place x3 x4 S_19) (fun v_21 S_20 =>
      gbi (f_X0_place x3 x5 S_20) (fun v_23 S_22 =>
      gbi (f_X10_at (b + 20) 16 v_23 S_22) (fun v_25 S_24 =>
      gbv (f_X10_put (b + 20) 16 v_21 v_25 S_24) (fun S_26 =>
      gvi (x4 + (1 : Int32)) (fun x4_27 =>
      gvi (x5 + (1 : Int32)) (fun x5_28 =>
      K15 S_26 x1 x2 x3 x4_27 x5_28)))))))))))))
noncomputable def L_X0_dropBelow_15 (b : Nat) (K4 : Sg → Int32 → Int32 → Int32 → Option (Int32 × Sg)) : Nat → Sg → Int32 → Int32 → Int32 → Int32 → Int32 → Option (Int32 × Sg)
  | 0 => fun _ _ _ _ _ _ => none
  | n + 1 => Lb_X0_dropBelow_15 b K4 (L_X0_dropBelow_15 b K4 n)
noncomputable def Lb_X0_dropBelow_4 (b : Nat) (K4 : Sg → Int32 → Int32 → Int32 → Option (Int32 × Sg)) (S : Sg) (x1 : Int32) (x2 : Int32) (x3 : Int32) : Option (Int32 × Sg) :=
  if (4 : Int32) ≤ x3 then
    some (x2, S)
  else
    L_X0_dropBelow_15 b K4 gFu S x1 x2 x3 (0 : Int32) (0 : Int32)
noncomputable def L_X0_dropBelow_4 (b : Nat) : Nat → Sg → Int32 → Int32 → Int32 → Option (Int32 × Sg)
  | 0 => fun _ _ _ _ => none
  | n + 1 => Lb_X0_dropBelow_4 b (L_X0_dropBelow_4 b n)
noncomputable def f_X0_dropBelow (b : Nat) (a1 : Int32) (S : Sg) : Option (Int32 × Sg) :=
  L_X0_dropBelow_4 b gFu S a1 (0 : Int32) (0 : Int32)
noncomputable def f_X0_transfer (b : Nat) (a1 : Int32) (a2 : Int32) (a3 : Int32) (S : Sg) : Option Sg :=
  gbi (f_X10_at (b + 14) 5 a1 S) (fun v_2 S_1 =>
  gbv (f_X10_put (b + 14) 5 a1 (v_2 - a3) S_1) (fun S_3 =>
  gbi (f_X10_at (b + 14) 5 a2 S_3) (fun v_5 S_4 =>
  gbv (f_X10_put (b + 14) 5 a2 (v_5 + a3) S_4) (fun S_6 =>
  some S_6))))
noncomputable def f_X0_goBankrupt (b : Nat) (a1 : Int32) (S : Sg) : Option Sg :=
  gbi (f_X10_at (b + 14) 5 a1 S) (fun v_2 S_1 =>
  gbv (f_X0_transfer b (4 : Int32) a1 (-v_2) S_1) (fun S_3 =>
  gbv (f_X10_put (b + 18) 4 a1 (0 : Int32) S_3) (fun S_4 =>
  gbi (f_X10_at (b + 17) 4 a1 S_4) (fun v_6 S_5 =>
  gbv (f_X10_put (b + 17) 4 a1 (v_6 + (1 : Int32)) S_5) (fun S_7 =>
  some S_7)))))
noncomputable def Lb_X0_greatestLevel_4 (b : Nat) (K4 : Sg → Int32 → Int32 → Int32 → Option (Int32 × Sg)) (S : Sg) (x1 : Int32) (x2 : Int32) (x3 : Int32) : Option (Int32 × Sg) :=
  gbi (f_X10_at (b + 18) 4 x1 S) (fun v_2 S_1 =>
  if v_2 ≤ x3 then
    some (x2, S_1)
  else
    gbi (f_X0_place x1 x3 S_1) (fun v_4 S_3 =>
    gbi (f_X10_at (b + 19) 16 v_4 S_3) (fun v_6 S_5 =>
    gvi ((if x2 < v_6 then v_6 else x2)) (fun x2_7 =>
    gvi (x3 + (1 : Int32)) (fun x3_8 =>
    K4 S_5 x1 x2_7 x3_8)))))
noncomputable def L_X0_greatestLevel_4 (b : Nat) : Nat → Sg → Int32 → Int32 → Int32 → Option (Int32 × Sg)
  | 0 => fun _ _ _ _ => none
  | n + 1 => Lb_X0_greatestLevel_4 b (L_X0_greatestLevel_4 b n)
noncomputable def f_X0_greatestLevel (b : Nat) (a1 : Int32) (S : Sg) : Option (Int32 × Sg) :=
  L_X0_greatestLevel_4 b gFu S a1 (0 : Int32) (0 : Int32)
noncomputable def f_X0_hasTrain (b : Nat) (a1 : Int32) (a2 : Int32) (S : Sg) : Option (Int32 × Sg) :=
  if a2 < 0 then
    some ((0 : Int32), S)
  else
    gbi (f_X10_at (b + 18) 4 a1 S) (fun v_2 S_1 =>
    if v_2 ≤ a2 then
      some ((0 : Int32), S_1)
    else
      some ((1 : Int32), S_1))
noncomputable def f_X0_hasRun (b : Nat) (a1 : Int32) (a2 : Int32) (S : Sg) : Option (Int32 × Sg) :=
  gbi (f_X0_hasTrain b a1 a2 S) (fun v_2 S_1 =>
  if v_2 = 0 then
    some ((0 : Int32), S_1)
  else
    gbi (f_X0_place a1 a2 S_1) (fun v_4 S_3 =>
    gbi (f_X10_at (b + 20) 16 v_4 S_3) (fun v_6 S_5 =>
    if v_6 = (1 : Int32) then
      some ((1 : Int32), S_5)
    else
      some ((0 : Int32), S_5))))
noncomputable def f_X0_levelOf (b : Nat) (a1 : Int32) (a2 : Int32) (S : Sg) : Option (Int32 × Sg) :=
  gbi (f_X0_hasTrain b a1 a2 S) (fun v_2 S_1 =>
  if v_2 = 0 then
    some ((0 : Int32), S_1)
  else
    gbi (f_X0_place a1 a2 S_1) (fun v_4 S_3 =>
    gbi (f_X10_at (b + 19) 16 v_4 S_3) (fun v_6 S_5 =>
    some (v_6, S_5))))
noncomputable def Lb_X0_levelsOf_4 (b : Nat) (K4 : Sg → Int32 → Int32 → Int32 → Option (Int32 × Sg)) (S : Sg) (x1 : Int32) (x2 : Int32) (x3 : Int32) : Option (Int32 × Sg) :=
  gbi (f_X10_at (b + 18) 4 x1 S) (fun v_2 S_1 =>
  if v_2 ≤ x3 then
    some (x2, S_1)
  else
    gbi (f_X0_place x1 x3 S_1) (fun v_4 S_3 =>
    gbi (f_X10_at (b + 19) 16 v_4 S_3) (fun v_6 S_5 =>
    gvi (x2 + v_6) (fun x2_7 =>
    gvi (x3 + (1 : Int32)) (fun x3_8 =>
    K4 S_5 x1 x2_7 x3_8)))))
noncomputable def L_X0_levelsOf_4 (b : Nat) : Nat → Sg → Int32 → Int32 → Int32 → Option (Int32 × Sg)
  | 0 => fun _ _ _ _ => none
  | n + 1 => Lb_X0_levelsOf_4 b (L_X0_levelsOf_4 b n)
noncomputable def f_X0_levelsOf (b : Nat) (a1 : Int32) (S : Sg) : Option (Int32 × Sg) :=
  L_X0_levelsOf_4 b gFu S a1 (0 : Int32) (0 : Int32)
noncomputable def f_X0_markRun (b : Nat) (a1 : Int32) (a2 : Int32) (S : Sg) : Option Sg :=
  gbi (f_X0_hasTrain b a1 a2 S) (fun v_2 S_1 =>
  if v_2 = 0 then
    some S_1
  else
    gbi (f_X0_place a1 a2 S_1) (fun v_4 S_3 =>
    gbv (f_X10_put (b + 20) 16 v_4 (1 : Int32) S_3) (fun S_5 =>
    some S_5)))
noncomputable def f_X0_payRent (b : Nat) (a1 : Int32) (a2 : Int32) (a3 : Int32) (S : Sg) : Option Sg :=
  gbv (f_X0_transfer b a1 a2 a3 S) (fun S_1 =>
  gbi (f_X10_at (b + 16) 5 a2 S_1) (fun v_3 S_2 =>
  gbv (f_X10_put (b + 16) 5 a2 (v_3 + a3) S_2) (fun S_4 =>
  some S_4)))
noncomputable def f_X0_rentFor (b : Nat) (a1 : Int32) (a2 : Int32) (S : Sg) : Option (Int32 × Sg) :=
  if a1 = a2 then
    some ((0 : Int32), S)
  else
    gbi (f_X10_at (b + 15) 5 a2 S) (fun v_2 S_1 =>
    some (v_2, S_1))
noncomputable def f_X2_empty (S : Sg) : Option (Int32 × Sg) :=
  gvi (S 1 1) (fun x1_1 =>
  gst (u2 S 1 1 (0 : Int32)) (fun S_2 =>
  some (x1_1, S_2)))
noncomputable def f_X10_clearText (S : Sg) : Option (Int32 × Sg) :=
  gbi (f_X2_empty S) (fun v_2 S_1 =>
  some (v_2, S_1))
noncomputable def f_X8_copyFrom (b : Nat) (b1 : Nat) (S : Sg) : Option Sg :=
  gbv (f_X10_copyRow (b1 + 4) 16 (b + 4) 16 S) (fun S_1 =>
  gbv (f_X10_copyRow (b1 + 5) 16 (b + 5) 16 S_1) (fun S_2 =>
  gbv (f_X10_copyRow (b1 + 6) 16 (b + 6) 16 S_2) (fun S_3 =>
  gbv (f_X10_copyRow (b1 + 7) 16 (b + 7) 16 S_3) (fun S_4 =>
  gst (u2 S_4 (b + 1) 4 (S_4 (b1 + 1) 4)) (fun S_5 =>
  some S_5)))))
noncomputable def f_X1_copyFrom (b : Nat) (b1 : Nat) (S : Sg) : Option Sg :=
  gbv (f_X10_copyRow (b1 + 8) 8 (b + 8) 8 S) (fun S_1 =>
  gbv (f_X10_copyRow (b1 + 9) 8 (b + 9) 8 S_1) (fun S_2 =>
  gbv (f_X10_copyRow (b1 + 10) 8 (b + 10) 8 S_2) (fun S_3 =>
  gbv (f_X10_copyRow (b1 + 11) 8 (b + 11) 8 S_3) (fun S_4 =>
  gbv (f_X10_copyRow (b1 + 12) 8 (b + 12) 8 S_4) (fun S_5 =>
  gbv (f_X10_copyRow (b1 + 13) 8 (b + 13) 8 S_5) (fun S_6 =>
  gst (u2 S_6 (b + 2) 6 (S_6 (b1 + 2) 6)) (fun S_7 =>
  some S_7)))))))
noncomputable def f_X7_copyFrom (b : Nat) (b1 : Nat) (S : Sg) : Option Sg :=
  gbv (f_X8_copyFrom b b1 S) (fun S_1 =>
  gbv (f_X1_copyFrom b b1 S_1) (fun S_2 =>
  gbv (f_X0_copyFrom b b1 S_2) (fun S_3 =>
  gst (u2 S_3 b 3 (S_3 b1 3)) (fun S_4 =>
  gst (u2 S_4 b 4 (S_4 b1 4)) (fun S_5 =>
  gst (u2 S_5 b 5 (S_5 b1 5)) (fun S_6 =>
  gst (u2 S_6 b 6 (S_6 b1 6)) (fun S_7 =>
  gst (u2 S_7 b 7 (S_7 b1 7)) (fun S_8 =>
  gst (u2 S_8 b 8 (S_8 b1 8)) (fun S_9 =>
  some S_9)))))))))
noncomputable def f_X10_copyState (b0 : Nat) (b1 : Nat) (S : Sg) : Option Sg :=
  gbv (f_X7_copyFrom b1 b0 S) (fun S_1 =>
  some S_1)
noncomputable def f_X3_stateAt (a1 : Int32) (S : Sg) : Option (Nat × Sg) :=
  gvi (((S 3 1) + a1) - ((S 3 1) + a1) / (14 : Int32) * (14 : Int32)) (fun x2_1 =>
  if x2_1 < 0 then
    none
  else
    if (nI 14) ≤ x2_1 then
      none
    else
      gck (inb x2_1 14) (
      some ((56 + 21 * x2_1.toNatClampNeg), S)))
theorem st_of_X3_stateAt {x1 : Int32} {S S' : Sg} {v : Nat} (h : f_X3_stateAt x1 S = some (v, S')) : IsSt v := by
  unfold f_X3_stateAt at h
  obtain ⟨z, hz, h⟩ := gvi_ex h
  by_cases h1 : z < 0
  · rw [if_pos h1] at h; cases h
  · rw [if_neg h1] at h
    by_cases h2 : nI 14 ≤ z
    · rw [if_pos h2] at h; cases h
    · rw [if_neg h2] at h
      obtain ⟨hin, h⟩ := gck_some h
      cases h
      have h3 := vp_of_inb hin
      unfold vp_in at h3
      exact st_h (by omega)
noncomputable def f_X3_remember (b1 : Nat) (S : Sg) : Option Sg :=
  gbn (f_X3_stateAt (S 3 2) S) (fun v_2 S_1 =>
  gbv (f_X10_copyState b1 v_2 S_1) (fun S_3 =>
  if (14 : Int32) ≤ (S_3 3 2) then
    gst (u2 S_3 3 1 (((S_3 3 1) + (1 : Int32)) - ((S_3 3 1) + (1 : Int32)) / (14 : Int32) * (14 : Int32))) (fun S_4 =>
    some S_4)
  else
    gst (u2 S_3 3 2 ((S_3 3 2) + (1 : Int32))) (fun S_5 =>
    some S_5)))
noncomputable def f_X1_has (b : Nat) (a1 : Int32) (S : Sg) : Option (Int32 × Sg) :=
  if a1 < 0 then
    some ((0 : Int32), S)
  else
    if (S (b + 2) 6) ≤ a1 then
      some ((0 : Int32), S)
    else
      some ((1 : Int32), S)
noncomputable def f_X1_holderOf (b : Nat) (a1 : Int32) (S : Sg) : Option (Int32 × Sg) :=
  gbi (f_X1_has b a1 S) (fun v_2 S_1 =>
  if v_2 = 0 then
    some ((-9 : Int32), S_1)
  else
    gbi (f_X10_at (b + 12) 8 a1 S_1) (fun v_4 S_3 =>
    some (v_4, S_3)))
noncomputable def f_X1_isFree (b : Nat) (a1 : Int32) (S : Sg) : Option (Int32 × Sg) :=
  gbi (f_X1_holderOf b a1 S) (fun v_2 S_1 =>
  if v_2 = (-9 : Int32) then
    some ((1 : Int32), S_1)
  else
    some ((0 : Int32), S_1))
noncomputable def f_X1_move (b : Nat) (a1 : Int32) (a2 : Int32) (S : Sg) : Option Sg :=
  gbi (f_X10_at (b + 8) 8 a1 S) (fun v_2 S_1 =>
  gbv (f_X10_put (b + 8) 8 a2 v_2 S_1) (fun S_3 =>
  gbi (f_X10_at (b + 9) 8 a1 S_3) (fun v_5 S_4 =>
  gbv (f_X10_put (b + 9) 8 a2 v_5 S_4) (fun S_6 =>
  gbi (f_X10_at (b + 10) 8 a1 S_6) (fun v_8 S_7 =>
  gbv (f_X10_put (b + 10) 8 a2 v_8 S_7) (fun S_9 =>
  gbi (f_X10_at (b + 11) 8 a1 S_9) (fun v_11 S_10 =>
  gbv (f_X10_put (b + 11) 8 a2 v_11 S_10) (fun S_12 =>
  gbi (f_X10_at (b + 12) 8 a1 S_12) (fun v_14 S_13 =>
  gbv (f_X10_put (b + 12) 8 a2 v_14 S_13) (fun S_15 =>
  gbi (f_X10_at (b + 13) 8 a1 S_15) (fun v_17 S_16 =>
  gbv (f_X10_put (b + 13) 8 a2 v_17 S_16) (fun S_18 =>
  some S_18))))))))))))
noncomputable def Lb_X1_dropEnded_4 (b : Nat) (K4 : Sg → Int32 → Int32 → Option Sg) (S : Sg) (x1 : Int32) (x2 : Int32) : Option Sg :=
  if (S (b + 2) 6) ≤ x2 then
    gst (u2 S (b + 2) 6 x1) (fun S_1 =>
    some S_1)
  else
    gbi (f_X10_at (b + 11) 8 x2 S) (fun v_3 S_2 =>
    if v_3 ≤ 0 then
      gvi (x2 + (1 : Int32)) (fun x2_4 =>
      K4 S_2 x1 x2_4)
    else
      gbv (f_X1_move b x2 x1 S_2) (fun S_5 =>
      gvi (x1 + (1 : Int32)) (fun x1_6 =>
      gvi (x2 + (1 : Int32)) (fun x2_7 =>
      K4 S_5 x1_6 x2_7))))
noncomputable def L_X1_dropEnded_4 (b : Nat) : Nat → Sg → Int32 → Int32 → Option Sg
  | 0 => fun _ _ _ => none
  | n + 1 => Lb_X1_dropEnded_4 b (L_X1_dropEnded_4 b n)
noncomputable def f_X1_dropEnded (b : Nat) (S : Sg) : Option Sg :=
  L_X1_dropEnded_4 b gFu S (0 : Int32) (0 : Int32)
noncomputable def B_X7_serveContracts_65 (b : Nat) (K2 : Sg → Int32 → Option Sg) (S : Sg) (x1 : Int32) : Option Sg :=
  gbi (f_X10_at (b + 11) 8 x1 S) (fun v_2 S_1 =>
  gbv (f_X10_put (b + 11) 8 x1 (v_2 - (1 : Int32)) S_1) (fun S_3 =>
  gvi (x1 + (1 : Int32)) (fun x1_4 =>
  K2 S_3 x1_4)))
noncomputable def Lb_X7_serveContracts_2 (b : Nat) (K2 : Sg → Int32 → Option Sg) (S : Sg) (x1 : Int32) : Option Sg :=
  if (S (b + 2) 6) ≤ x1 then
    gbv (f_X1_dropEnded b S) (fun S_5 =>
    some S_5)
  else
    gbi (f_X1_isFree b x1 S) (fun v_7 S_6 =>
    if v_7 = 0 then
      gbi (f_X10_at (b + 13) 8 x1 S_6) (fun v_10 S_9 =>
      if v_10 = 0 then
        gbi (f_X1_holderOf b x1 S_9) (fun v_12 S_11 =>
        gbv (f_X0_transfer b v_12 (4 : Int32) (5 : Int32) S_11) (fun S_13 =>
        gst (u2 S_13 b 7 ((S_13 b 7) + (5 : Int32))) (fun S_14 =>
        B_X7_serveContracts_65 b K2 S_14 x1)))
      else
        B_X7_serveContracts_65 b K2 S_9 x1)
    else
      gvi (x1 + (1 : Int32)) (fun x1_8 =>
      K2 S_6 x1_8))
noncomputable def L_X7_serveContracts_2 (b : Nat) : Nat → Sg → Int32 → Option Sg
  | 0 => fun _ _ => none
  | n + 1 => Lb_X7_serveContracts_2 b (L_X7_serveContracts_2 b n)
noncomputable def f_X7_serveContracts (b : Nat) (S : Sg) : Option Sg :=
  L_X7_serveContracts_2 b gFu S (0 : Int32)
noncomputable def Lb_X8_countOf_4 (b : Nat) (K4 : Sg → Int32 → Int32 → Int32 → Option (Int32 × Sg)) (S : Sg) (x1 : Int32) (x2 : Int32) (x3 : Int32) : Option (Int32 × Sg) :=
  if (S (b + 1) 4) ≤ x3 then
    some (x2, S)
  else
    gbi (f_X10_at (b + 7) 16 x3 S) (fun v_2 S_1 =>
    if v_2 = x1 then
      gvi (x2 + (1 : Int32)) (fun x2_5 =>
      gvi (x3 + (1 : Int32)) (fun x3_6 =>
      K4 S_1 x1 x2_5 x3_6))
    else
      gvi (x2 + (0 : Int32)) (fun x2_3 =>
      gvi (x3 + (1 : Int32)) (fun x3_4 =>
      K4 S_1 x1 x2_3 x3_4)))
noncomputable def L_X8_countOf_4 (b : Nat) : Nat → Sg → Int32 → Int32 → Int32 → Option (Int32 × Sg)
  | 0 => fun _ _ _ _ => none
  | n + 1 => Lb_X8_countOf_4 b (L_X8_countOf_4 b n)
noncomputable def f_X8_countOf (b : Nat) (a1 : Int32) (S : Sg) : Option (Int32 × Sg) :=
  L_X8_countOf_4 b gFu S a1 (0 : Int32) (0 : Int32)
noncomputable def Lb_X7_payUpkeep_2 (b : Nat) (K2 : Sg → Int32 → Option Sg) (S : Sg) (x1 : Int32) : Option Sg :=
  if (4 : Int32) ≤ x1 then
    some S
  else
    gbi (f_X8_countOf b x1 S) (fun v_2 S_1 =>
    gbi (f_X0_levelsOf b x1 S_1) (fun v_4 S_3 =>
    gbv (f_X0_transfer b x1 (4 : Int32) (v_2 + v_4) S_3) (fun S_5 =>
    gvi (x1 + (1 : Int32)) (fun x1_6 =>
    K2 S_5 x1_6))))
noncomputable def L_X7_payUpkeep_2 (b : Nat) : Nat → Sg → Int32 → Option Sg
  | 0 => fun _ _ => none
  | n + 1 => Lb_X7_payUpkeep_2 b (L_X7_payUpkeep_2 b n)
noncomputable def f_X7_payUpkeep (b : Nat) (S : Sg) : Option Sg :=
  L_X7_payUpkeep_2 b gFu S (0 : Int32)
noncomputable def Lb_X8_returnToBank_2 (b : Nat) (K2 : Sg → Int32 → Int32 → Option Sg) (S : Sg) (x1 : Int32) (x2 : Int32) : Option Sg :=
  if (S (b + 1) 4) ≤ x2 then
    some S
  else
    gbi (f_X10_at (b + 7) 16 x2 S) (fun v_2 S_1 =>
    if v_2 = x1 then
      gbv (f_X10_put (b + 7) 16 x2 (4 : Int32) S_1) (fun S_4 =>
      gvi (x2 + (1 : Int32)) (fun x2_5 =>
      K2 S_4 x1 x2_5))
    else
      gvi (x2 + (1 : Int32)) (fun x2_3 =>
      K2 S_1 x1 x2_3))
noncomputable def L_X8_returnToBank_2 (b : Nat) : Nat → Sg → Int32 → Int32 → Option Sg
  | 0 => fun _ _ _ => none
  | n + 1 => Lb_X8_returnToBank_2 b (L_X8_returnToBank_2 b n)
noncomputable def f_X8_returnToBank (b : Nat) (a1 : Int32) (S : Sg) : Option Sg :=
  L_X8_returnToBank_2 b gFu S a1 (0 : Int32)
noncomputable def Lb_X1_leaveHolder_2 (b : Nat) (K2 : Sg → Int32 → Int32 → Option Sg) (S : Sg) (x1 : Int32) (x2 : Int32) : Option Sg :=
  if (S (b + 2) 6) ≤ x2 then
    some S
  else
    gbi (f_X10_at (b + 12) 8 x2 S) (fun v_2 S_1 =>
    if v_2 = x1 then
      gbv (f_X10_put (b + 12) 8 x2 (-9 : Int32) S_1) (fun S_4 =>
      gvi (x2 + (1 : Int32)) (fun x2_5 =>
      K2 S_4 x1 x2_5))
    else
      gvi (x2 + (1 : Int32)) (fun x2_3 =>
      K2 S_1 x1 x2_3))
noncomputable def L_X1_leaveHolder_2 (b : Nat) : Nat → Sg → Int32 → Int32 → Option Sg
  | 0 => fun _ _ _ => none
  | n + 1 => Lb_X1_leaveHolder_2 b (L_X1_leaveHolder_2 b n)
noncomputable def f_X1_leaveHolder (b : Nat) (a1 : Int32) (S : Sg) : Option Sg :=
  L_X1_leaveHolder_2 b gFu S a1 (0 : Int32)
noncomputable def Lb_X7_settle_4 (b : Nat) (K4 : Sg → Int32 → Int32 → Option (Int32 × Sg)) (S : Sg) (x1 : Int32) (x2 : Int32) : Option (Int32 × Sg) :=
  if (4 : Int32) ≤ x2 then
    some (x1, S)
  else
    gbi (f_X10_at (b + 14) 5 x2 S) (fun v_2 S_1 =>
    if 0 ≤ v_2 then
      gvi (x2 + (1 : Int32)) (fun x2_3 =>
      K4 S_1 x1 x2_3)
    else
      gbv (f_X0_goBankrupt b x2 S_1) (fun S_4 =>
      gbv (f_X8_returnToBank b x2 S_4) (fun S_5 =>
      gbv (f_X1_leaveHolder b x2 S_5) (fun S_6 =>
      gvi (x1 + (1 : Int32)) (fun x1_7 =>
      gvi (x2 + (1 : Int32)) (fun x2_8 =>
      K4 S_6 x1_7 x2_8))))))
noncomputable def L_X7_settle_4 (b : Nat) : Nat → Sg → Int32 → Int32 → Option (Int32 × Sg)
  | 0 => fun _ _ _ => none
  | n + 1 => Lb_X7_settle_4 b (L_X7_settle_4 b n)
noncomputable def f_X7_settle (b : Nat) (S : Sg) : Option (Int32 × Sg) :=
  L_X7_settle_4 b gFu S (0 : Int32) (0 : Int32)
noncomputable def f_X7_closeRound (b : Nat) (S : Sg) : Option (Int32 × Sg) :=
  gbv (f_X7_serveContracts b S) (fun S_1 =>
  gbv (f_X7_payUpkeep b S_1) (fun S_2 =>
  gbi (f_X7_settle b S_2) (fun v_4 S_3 =>
  gst (u2 S_3 b 5 ((S_3 b 5) + (1 : Int32))) (fun S_5 =>
  gbv (f_X10_fill (b + 13) 8 (0 : Int32) S_5) (fun S_6 =>
  gbv (f_X10_fill (b + 20) 16 (0 : Int32) S_6) (fun S_7 =>
  some (v_4, S_7)))))))
noncomputable def f_X10_endRound (S : Sg) : Option (Int32 × Sg) :=
  gbv (f_X3_remember 14 S) (fun S_1 =>
  gbi (f_X7_closeRound 14 S_1) (fun v_3 S_2 =>
  some (v_3, S_2)))
noncomputable def f_X2_holds (a1 : Int32) (a2 : Int32) (S : Sg) : Option (Int32 × Sg) :=
  if a1 < 0 then
    some ((0 : Int32), S)
  else
    if (S 1 1) ≤ a1 then
      some ((0 : Int32), S)
    else
      gbi (f_X10_at 2 100 a1 S) (fun v_2 S_1 =>
      if v_2 = a2 then
        some ((1 : Int32), S_1)
      else
        some ((0 : Int32), S_1))
noncomputable def f_X2_digitAt (a1 : Int32) (S : Sg) : Option (Int32 × Sg) :=
  if a1 < 0 then
    some ((-1 : Int32), S)
  else
    if a1 < (S 1 1) then
      gbi (f_X10_at 2 100 a1 S) (fun v_2 S_1 =>
      if v_2 < (48 : Int32) then
        some ((-1 : Int32), S_1)
      else
        if (57 : Int32) < v_2 then
          some ((-1 : Int32), S_1)
        else
          some (v_2 - (48 : Int32), S_1))
    else
      some ((-1 : Int32), S)
noncomputable def f_X7_begin (b : Nat) (a1 : Int32) (S : Sg) : Option Sg :=
  gst (u2 S (b + 1) 4 (0 : Int32)) (fun S_1 =>
  gst (u2 S_1 (b + 2) 6 (0 : Int32)) (fun S_2 =>
  gbv (f_X0_begin b S_2) (fun S_3 =>
  gst (u2 S_3 b 3 a1) (fun S_4 =>
  gst (u2 S_4 b 4 (1 : Int32)) (fun S_5 =>
  gst (u2 S_5 b 5 (0 : Int32)) (fun S_6 =>
  gst (u2 S_6 b 6 (0 : Int32)) (fun S_7 =>
  gst (u2 S_7 b 7 (0 : Int32)) (fun S_8 =>
  gst (u2 S_8 b 8 (0 : Int32)) (fun S_9 =>
  some S_9)))))))))
noncomputable def f_X8_areFull (b : Nat) (S : Sg) : Option (Int32 × Sg) :=
  if (S (b + 1) 4) < (16 : Int32) then
    some ((0 : Int32), S)
  else
    some ((1 : Int32), S)
noncomputable def f_X2_errorOfCities (a1 : Int32) (a2 : Int32) (S : Sg) : Option (Int32 × Sg) :=
  gbi (f_X2_digitAt a2 S) (fun v_2 S_1 =>
  if v_2 < 0 then
    some (a2, S_1)
  else
    if v_2 < a1 then
      gbi (f_X2_digitAt (a2 + (1 : Int32)) S_1) (fun v_4 S_3 =>
      if v_4 < 0 then
        some (a2 + (1 : Int32), S_3)
      else
        if a1 ≤ v_4 then
          some (a2 + (1 : Int32), S_3)
        else
          if v_4 = v_2 then
            some (a2 + (1 : Int32), S_3)
          else
            some ((-9 : Int32), S_3))
    else
      some (a2, S_1))
noncomputable def f_X8_add (b : Nat) (a1 : Int32) (a2 : Int32) (a3 : Int32) (S : Sg) : Option Sg :=
  gbi (f_X8_areFull b S) (fun v_2 S_1 =>
  if v_2 = 0 then
    gbv (f_X10_put (b + 4) 16 (S_1 (b + 1) 4) a1 S_1) (fun S_3 =>
    gbv (f_X10_put (b + 5) 16 (S_3 (b + 1) 4) a2 S_3) (fun S_4 =>
    gbv (f_X10_put (b + 6) 16 (S_4 (b + 1) 4) a3 S_4) (fun S_5 =>
    gbv (f_X10_put (b + 7) 16 (S_5 (b + 1) 4) (4 : Int32) S_5) (fun S_6 =>
    gst (u2 S_6 (b + 1) 4 ((S_6 (b + 1) 4) + (1 : Int32))) (fun S_7 =>
    some S_7)))))
  else
    some S_1)
noncomputable def f_X2_readTrack (b1 : Nat) (a2 : Int32) (S : Sg) : Option (Int32 × Sg) :=
  gbi (f_X2_errorOfCities (S b1 3) (a2 + (1 : Int32)) S) (fun v_2 S_1 =>
  if v_2 = (-9 : Int32) then
    gbi (f_X2_digitAt (a2 + (3 : Int32)) S_1) (fun v_4 S_3 =>
    if (1 : Int32) ≤ v_4 then
      gbi (f_X2_digitAt (a2 + (1 : Int32)) S_3) (fun v_6 S_5 =>
      gbi (f_X2_digitAt (a2 + (2 : Int32)) S_5) (fun v_8 S_7 =>
      gbv (f_X8_add b1 v_6 v_8 v_4 S_7) (fun S_9 =>
      some ((-9 : Int32), S_9))))
    else
      some (a2 + (3 : Int32), S_3))
  else
    some (v_2, S_1))
noncomputable def f_X1_areFull (b : Nat) (S : Sg) : Option (Int32 × Sg) :=
  if (S (b + 2) 6) < (8 : Int32) then
    some ((0 : Int32), S)
  else
    some ((1 : Int32), S)
noncomputable def f_X1_add (b : Nat) (a1 : Int32) (a2 : Int32) (a3 : Int32) (a4 : Int32) (S : Sg) : Option Sg :=
  gbi (f_X1_areFull b S) (fun v_2 S_1 =>
  if v_2 = 0 then
    gbv (f_X10_put (b + 8) 8 (S_1 (b + 2) 6) a1 S_1) (fun S_3 =>
    gbv (f_X10_put (b + 9) 8 (S_3 (b + 2) 6) a2 S_3) (fun S_4 =>
    gbv (f_X10_put (b + 10) 8 (S_4 (b + 2) 6) a3 S_4) (fun S_5 =>
    gbv (f_X10_put (b + 11) 8 (S_5 (b + 2) 6) a4 S_5) (fun S_6 =>
    gbv (f_X10_put (b + 12) 8 (S_6 (b + 2) 6) (-9 : Int32) S_6) (fun S_7 =>
    gbv (f_X10_put (b + 13) 8 (S_7 (b + 2) 6) (0 : Int32) S_7) (fun S_8 =>
    gst (u2 S_8 (b + 2) 6 ((S_8 (b + 2) 6) + (1 : Int32))) (fun S_9 =>
    some S_9)))))))
  else
    some S_1)
noncomputable def f_X2_readContract (b1 : Nat) (a2 : Int32) (S : Sg) : Option (Int32 × Sg) :=
  gbi (f_X2_errorOfCities (S b1 3) (a2 + (1 : Int32)) S) (fun v_2 S_1 =>
  if v_2 = (-9 : Int32) then
    gbi (f_X2_digitAt (a2 + (3 : Int32)) S_1) (fun v_4 S_3 =>
    if 0 ≤ v_4 then
      gbi (f_X2_digitAt (a2 + (4 : Int32)) S_3) (fun v_6 S_5 =>
      if v_6 < 0 then
        some (a2 + (4 : Int32), S_5)
      else
        if (v_4 + v_6) = 0 then
          some (a2 + (4 : Int32), S_5)
        else
          gbi (f_X2_digitAt (a2 + (5 : Int32)) S_5) (fun v_8 S_7 =>
          if (1 : Int32) ≤ v_8 then
            gbi (f_X2_digitAt (a2 + (1 : Int32)) S_7) (fun v_10 S_9 =>
            gbi (f_X2_digitAt (a2 + (2 : Int32)) S_9) (fun v_12 S_11 =>
            gbv (f_X1_add b1 v_10 v_12 (((10 : Int32) * v_4) + v_6) v_8 S_11) (fun S_13 =>
            some ((-9 : Int32), S_13))))
          else
            some (a2 + (5 : Int32), S_7)))
    else
      some (a2 + (3 : Int32), S_3))
  else
    some (v_2, S_1))
noncomputable def B_X2_readPart_27 (b1 : Nat) (S : Sg) (x2 : Int32) : Option (Int32 × Sg) :=
  gbi (f_X2_holds x2 (99 : Int32) S) (fun v_2 S_1 =>
  if v_2 = 0 then
    some (x2, S_1)
  else
    gbi (f_X1_areFull b1 S_1) (fun v_4 S_3 =>
    if v_4 = 0 then
      gbi (f_X2_readContract b1 x2 S_3) (fun v_6 S_5 =>
      some (v_6, S_5))
    else
      some (x2, S_3)))
noncomputable def f_X2_readPart (b1 : Nat) (a2 : Int32) (S : Sg) : Option (Int32 × Sg) :=
  gbi (f_X2_holds a2 (116 : Int32) S) (fun v_8 S_7 =>
  if v_8 = 0 then
    B_X2_readPart_27 b1 S_7 a2
  else
    gbi (f_X8_areFull b1 S_7) (fun v_10 S_9 =>
    if v_10 = 0 then
      gbi (f_X2_readTrack b1 a2 S_9) (fun v_12 S_11 =>
      some (v_12, S_11))
    else
      B_X2_readPart_27 b1 S_9 a2))
noncomputable def Lb_X2_readInto_32 (b1 : Nat) (K32 : Sg → Int32 → Option (Int32 × Sg)) (S : Sg) (x3 : Int32) : Option (Int32 × Sg) :=
  if (S 1 1) ≤ x3 then
    some ((-9 : Int32), S)
  else
    gbi (f_X2_readPart b1 x3 S) (fun v_2 S_1 =>
    if v_2 = (-9 : Int32) then
      gbi (f_X2_holds x3 (116 : Int32) S_1) (fun v_4 S_3 =>
      if v_4 = 0 then
        gvi (x3 + (6 : Int32)) (fun x3_5 =>
        K32 S_3 x3_5)
      else
        gvi (x3 + (4 : Int32)) (fun x3_6 =>
        K32 S_3 x3_6))
    else
      some (v_2, S_1))
noncomputable def L_X2_readInto_32 (b1 : Nat) : Nat → Sg → Int32 → Option (Int32 × Sg)
  | 0 => fun _ _ => none
  | n + 1 => Lb_X2_readInto_32 b1 (L_X2_readInto_32 b1 n)
noncomputable def f_X2_readInto (b1 : Nat) (S : Sg) : Option (Int32 × Sg) :=
  gbi (f_X2_holds (0 : Int32) (82 : Int32) S) (fun v_8 S_7 =>
  if v_8 = 0 then
    some ((0 : Int32), S_7)
  else
    gbi (f_X2_digitAt (1 : Int32) S_7) (fun v_10 S_9 =>
    if (2 : Int32) ≤ v_10 then
      gbv (f_X7_begin b1 v_10 S_9) (fun S_11 =>
      L_X2_readInto_32 b1 gFu S_11 (2 : Int32))
    else
      some ((1 : Int32), S_9)))
noncomputable def f_X10_errorPosition (S : Sg) : Option (Int32 × Sg) :=
  gbi (f_X2_readInto 35 S) (fun v_2 S_1 =>
  some (v_2, S_1))
noncomputable def f_X10_isCompany (a0 : Int32) (S : Sg) : Option (Int32 × Sg) :=
  if a0 < 0 then
    some ((0 : Int32), S)
  else
    if (4 : Int32) ≤ a0 then
      some ((0 : Int32), S)
    else
      some ((1 : Int32), S)
noncomputable def Lb_X10_sum_4 (k0 : Nat) (n0 : Nat) (K4 : Sg → Int32 → Int32 → Option (Int32 × Sg)) (S : Sg) (x1 : Int32) (x2 : Int32) : Option (Int32 × Sg) :=
  if (nI n0) ≤ x2 then
    some (x1, S)
  else
    gck (inb x2 n0) (
    gvi (x1 + (S k0 x2.toNatClampNeg)) (fun x1_1 =>
    gvi (x2 + (1 : Int32)) (fun x2_2 =>
    K4 S x1_1 x2_2)))
noncomputable def L_X10_sum_4 (k0 : Nat) (n0 : Nat) : Nat → Sg → Int32 → Int32 → Option (Int32 × Sg)
  | 0 => fun _ _ _ => none
  | n + 1 => Lb_X10_sum_4 k0 n0 (L_X10_sum_4 k0 n0 n)
noncomputable def f_X10_sum (k0 : Nat) (n0 : Nat) (S : Sg) : Option (Int32 × Sg) :=
  L_X10_sum_4 k0 n0 gFu S (0 : Int32) (0 : Int32)
noncomputable def Lb_X1_countOf_4 (b : Nat) (K4 : Sg → Int32 → Int32 → Int32 → Option (Int32 × Sg)) (S : Sg) (x1 : Int32) (x2 : Int32) (x3 : Int32) : Option (Int32 × Sg) :=
  if (S (b + 2) 6) ≤ x3 then
    some (x2, S)
  else
    gbi (f_X10_at (b + 12) 8 x3 S) (fun v_2 S_1 =>
    if v_2 = x1 then
      gvi (x2 + (1 : Int32)) (fun x2_5 =>
      gvi (x3 + (1 : Int32)) (fun x3_6 =>
      K4 S_1 x1 x2_5 x3_6))
    else
      gvi (x2 + (0 : Int32)) (fun x2_3 =>
      gvi (x3 + (1 : Int32)) (fun x3_4 =>
      K4 S_1 x1 x2_3 x3_4)))
noncomputable def L_X1_countOf_4 (b : Nat) : Nat → Sg → Int32 → Int32 → Int32 → Option (Int32 × Sg)
  | 0 => fun _ _ _ _ => none
  | n + 1 => Lb_X1_countOf_4 b (L_X1_countOf_4 b n)
noncomputable def f_X1_countOf (b : Nat) (a1 : Int32) (S : Sg) : Option (Int32 × Sg) :=
  L_X1_countOf_4 b gFu S a1 (0 : Int32) (0 : Int32)
noncomputable def f_X1_give (b : Nat) (a1 : Int32) (a2 : Int32) (S : Sg) : Option Sg :=
  gbv (f_X10_put (b + 12) 8 a1 a2 S) (fun S_1 =>
  some S_1)
noncomputable def f_X2_isFull (S : Sg) : Option (Int32 × Sg) :=
  if (S 1 1) < (100 : Int32) then
    some ((0 : Int32), S)
  else
    some ((1 : Int32), S)
noncomputable def f_X2_add (a1 : Int32) (S : Sg) : Option (Int32 × Sg) :=
  gbi (f_X2_isFull S) (fun v_2 S_1 =>
  if v_2 = 0 then
    gbv (f_X10_put 2 100 (S_1 1 1) a1 S_1) (fun S_3 =>
    gst (u2 S_3 1 1 ((S_3 1 1) + (1 : Int32))) (fun S_4 =>
    some (S_4 1 1, S_4)))
  else
    some (S_1 1 1, S_1))
noncomputable def f_X3_forget (S : Sg) : Option Sg :=
  gst (u2 S 3 2 (0 : Int32)) (fun S_1 =>
  some S_1)
noncomputable def f_X3_takeBackInto (b1 : Nat) (S : Sg) : Option Sg :=
  if (S 3 2) ≤ 0 then
    some S
  else
    gst (u2 S 3 2 ((S 3 2) - (1 : Int32))) (fun S_1 =>
    gbn (f_X3_stateAt (S_1 3 2) S_1) (fun v_3 S_2 =>
    gbv (f_X10_copyState v_3 b1 S_2) (fun S_4 =>
    some S_4)))
noncomputable def Lb_X9_setPrices_8 (b1 : Nat) (K8 : Sg → Int32 → Int32 → Option Sg) (S : Sg) (x2 : Int32) (x4 : Int32) : Option Sg :=
  if (S (b1 + 1) 4) ≤ x4 then
    some S
  else
    gbi (f_X10_at (b1 + 6) 16 x4 S) (fun v_2 S_1 =>
    gbi (f_X10_at (b1 + 7) 16 x4 S_1) (fun v_4 S_3 =>
    gbi (f_X0_rentFor b1 x2 v_4 S_3) (fun v_6 S_5 =>
    gbv (f_X10_put 12 16 x4 (v_2 * v_6) S_5) (fun S_7 =>
    gvi (x4 + (1 : Int32)) (fun x4_8 =>
    K8 S_7 x2 x4_8)))))
noncomputable def L_X9_setPrices_8 (b1 : Nat) : Nat → Sg → Int32 → Int32 → Option Sg
  | 0 => fun _ _ _ => none
  | n + 1 => Lb_X9_setPrices_8 b1 (L_X9_setPrices_8 b1 n)
noncomputable def f_X9_setPrices (b1 : Nat) (a2 : Int32) (S : Sg) : Option Sg :=
  L_X9_setPrices_8 b1 gFu S a2 (0 : Int32)
noncomputable def f_X9_place (a0 : Int32) (a1 : Int32) (S : Sg) : Option (Int32 × Sg) :=
  some ((a0 * (9 : Int32)) + a1, S)
noncomputable def f_X9_leastAt (a1 : Int32) (S : Sg) : Option (Int32 × Sg) :=
  if a1 < 0 then
    some ((1000000 : Int32), S)
  else
    if (nI 225) ≤ a1 then
      some ((1000000 : Int32), S)
    else
      gck (inb a1 225) (
      some (S 10 a1.toNatClampNeg, S))
noncomputable def f_X9_beginWith (a1 : Int32) (a2 : Int32) (a3 : Int32) (S : Sg) : Option Sg :=
  gbi (f_X9_leastAt a3 S) (fun v_2 S_1 =>
  gbi (f_X10_at 12 16 a1 S_1) (fun v_4 S_3 =>
  gvi (v_2 + v_4) (fun x4_5 =>
  gbi (f_X9_leastAt a2 S_3) (fun v_7 S_6 =>
  if v_7 ≤ x4_5 then
    some S_6
  else
    gbv (f_X10_put 10 225 a2 x4_5 S_6) (fun S_8 =>
    gbv (f_X10_put 11 225 a2 a1 S_8) (fun S_9 =>
    some S_9))))))
noncomputable def Lb_X9_measure_34 (b1 : Nat) (K25 : Sg → Int32 → Int32 → Option Sg) (K34 : Sg → Int32 → Int32 → Int32 → Option Sg) (S : Sg) (x3 : Int32) (x4 : Int32) (x5 : Int32) : Option Sg :=
  if (S (b1 + 1) 4) ≤ x5 then
    gvi (x4 + (1 : Int32)) (fun x4_1 =>
    K25 S x3 x4_1)
  else
    gbi (f_X10_at (b1 + 6) 16 x5 S) (fun v_3 S_2 =>
    gvi (x4 - v_3) (fun x6_4 =>
    gbi (f_X10_at (b1 + 4) 16 x5 S_2) (fun v_6 S_5 =>
    gbi (f_X9_place x4 v_6 S_5) (fun v_8 S_7 =>
    gbi (f_X10_at (b1 + 5) 16 x5 S_7) (fun v_10 S_9 =>
    gbi (f_X9_place x6_4 v_10 S_9) (fun v_12 S_11 =>
    gbv (f_X9_beginWith x5 v_8 v_12 S_11) (fun S_13 =>
    gbi (f_X10_at (b1 + 5) 16 x5 S_13) (fun v_15 S_14 =>
    gbi (f_X9_place x4 v_15 S_14) (fun v_17 S_16 =>
    gbi (f_X10_at (b1 + 4) 16 x5 S_16) (fun v_19 S_18 =>
    gbi (f_X9_place x6_4 v_19 S_18) (fun v_21 S_20 =>
    gbv (f_X9_beginWith x5 v_17 v_21 S_20) (fun S_22 =>
    gvi (x5 + (1 : Int32)) (fun x5_23 =>
    K34 S_22 x3 x4 x5_23)))))))))))))
noncomputable def L_X9_measure_34 (b1 : Nat) (K25 : Sg → Int32 → Int32 → Option Sg) : Nat → Sg → Int32 → Int32 → Int32 → Option Sg
  | 0 => fun _ _ _ _ => none
  | n + 1 => Lb_X9_measure_34 b1 K25 (L_X9_measure_34 b1 K25 n)
noncomputable def Lb_X9_measure_25 (b1 : Nat) (K25 : Sg → Int32 → Int32 → Option Sg) (S : Sg) (x3 : Int32) (x4 : Int32) : Option Sg :=
  if x3 < x4 then
    some S
  else
    L_X9_measure_34 b1 K25 gFu S x3 x4 (0 : Int32)
noncomputable def L_X9_measure_25 (b1 : Nat) : Nat → Sg → Int32 → Int32 → Option Sg
  | 0 => fun _ _ _ => none
  | n + 1 => Lb_X9_measure_25 b1 (L_X9_measure_25 b1 n)
noncomputable def f_X9_measure (b1 : Nat) (a2 : Int32) (a3 : Int32) (S : Sg) : Option Sg :=
  gbv (f_X10_fill 10 225 (1000000 : Int32) S) (fun S_24 =>
  gbi (f_X9_place (0 : Int32) a2 S_24) (fun v_26 S_25 =>
  gbv (f_X10_put 10 225 v_26 (0 : Int32) S_25) (fun S_27 =>
  L_X9_measure_25 b1 gFu S_27 a3 (1 : Int32))))
noncomputable def Lb_X9_chooseLength_13 (K13 : Sg → Int32 → Int32 → Int32 → Option Sg) (S : Sg) (x1 : Int32) (x2 : Int32) (x3 : Int32) : Option Sg :=
  if x2 < x3 then
    some S
  else
    gbi (f_X9_place x3 x1 S) (fun v_2 S_1 =>
    gbi (f_X9_leastAt v_2 S_1) (fun v_4 S_3 =>
    if (S_3 9 5) ≤ v_4 then
      gvi (x3 + (1 : Int32)) (fun x3_5 =>
      K13 S_3 x1 x2 x3_5)
    else
      gbi (f_X9_place x3 x1 S_3) (fun v_7 S_6 =>
      gbi (f_X9_leastAt v_7 S_6) (fun v_9 S_8 =>
      gst (u2 S_8 9 5 v_9) (fun S_10 =>
      gst (u2 S_10 9 6 x3) (fun S_11 =>
      gvi (x3 + (1 : Int32)) (fun x3_12 =>
      K13 S_11 x1 x2 x3_12)))))))
noncomputable def L_X9_chooseLength_13 : Nat → Sg → Int32 → Int32 → Int32 → Option Sg
  | 0 => fun _ _ _ _ => none
  | n + 1 => Lb_X9_chooseLength_13 (L_X9_chooseLength_13 n)
noncomputable def f_X9_chooseLength (a1 : Int32) (a2 : Int32) (S : Sg) : Option Sg :=
  gst (u2 S 9 5 (1000000 : Int32)) (fun S_13 =>
  gst (u2 S_13 9 6 (0 : Int32)) (fun S_14 =>
  L_X9_chooseLength_13 gFu S_14 a1 a2 (1 : Int32)))
noncomputable def f_X8_farEnd (b : Nat) (a1 : Int32) (a2 : Int32) (S : Sg) : Option (Int32 × Sg) :=
  gbi (f_X10_at (b + 4) 16 a1 S) (fun v_2 S_1 =>
  if v_2 = a2 then
    gbi (f_X10_at (b + 5) 16 a1 S_1) (fun v_8 S_7 =>
    some (v_8, S_7))
  else
    gbi (f_X10_at (b + 5) 16 a1 S_1) (fun v_4 S_3 =>
    if v_4 = a2 then
      gbi (f_X10_at (b + 4) 16 a1 S_3) (fun v_6 S_5 =>
      some (v_6, S_5))
    else
      some ((-9 : Int32), S_3)))
noncomputable def Lb_X9_follow_13 (b1 : Nat) (K13 : Sg → Int32 → Int32 → Option Sg) (S : Sg) (x3 : Int32) (x4 : Int32) : Option Sg :=
  if x4 ≤ 0 then
    some S
  else
    if (24 : Int32) ≤ (S 9 4) then
      some S
    else
      gbi (f_X9_place x4 x3 S) (fun v_2 S_1 =>
      gbi (f_X10_at 11 225 v_2 S_1) (fun v_4 S_3 =>
      gbv (f_X10_put 13 24 (S_3 9 4) v_4 S_3) (fun S_5 =>
      gst (u2 S_5 9 4 ((S_5 9 4) + (1 : Int32))) (fun S_6 =>
      gbi (f_X8_farEnd b1 v_4 x3 S_6) (fun v_8 S_7 =>
      gbi (f_X10_at (b1 + 6) 16 v_4 S_7) (fun v_10 S_9 =>
      gvi (x4 - v_10) (fun x4_11 =>
      K13 S_9 v_8 x4_11)))))))
noncomputable def L_X9_follow_13 (b1 : Nat) : Nat → Sg → Int32 → Int32 → Option Sg
  | 0 => fun _ _ _ => none
  | n + 1 => Lb_X9_follow_13 b1 (L_X9_follow_13 b1 n)
noncomputable def f_X9_follow (b1 : Nat) (a2 : Int32) (S : Sg) : Option Sg :=
  gvi (S 9 6) (fun x4_12 =>
  gst (u2 S 9 4 (0 : Int32)) (fun S_13 =>
  L_X9_follow_13 b1 gFu S_13 a2 x4_12))
noncomputable def f_X9_find (b1 : Nat) (a2 : Int32) (a3 : Int32) (a4 : Int32) (a5 : Int32) (S : Sg) : Option (Int32 × Sg) :=
  gbv (f_X9_setPrices b1 a2 S) (fun S_1 =>
  gbv (f_X9_measure b1 a4 a5 S_1) (fun S_2 =>
  gbv (f_X9_chooseLength a3 a5 S_2) (fun S_3 =>
  gbv (f_X9_follow b1 a3 S_3) (fun S_4 =>
  if (1000000 : Int32) ≤ (S_4 9 5) then
    some ((0 : Int32), S_4)
  else
    some ((1 : Int32), S_4)))))
noncomputable def Lb_X4_bestFree_27 (b1 : Nat) (K27 : Sg → Int32 → Int32 → Int32 → Int32 → Int32 → Option (Int32 × Sg)) (S : Sg) (x2 : Int32) (x4 : Int32) (x5 : Int32) (x6 : Int32) (x7 : Int32) : Option (Int32 × Sg) :=
  if (S (b1 + 2) 6) ≤ x7 then
    some (x5, S)
  else
    gbi (f_X1_isFree b1 x7 S) (fun v_2 S_1 =>
    if v_2 = 0 then
      gvi (x7 + (1 : Int32)) (fun x7_3 =>
      K27 S_1 x2 x4 x5 x6 x7_3)
    else
      gbi (f_X10_at (b1 + 8) 8 x7 S_1) (fun v_5 S_4 =>
      gbi (f_X10_at (b1 + 9) 8 x7 S_4) (fun v_7 S_6 =>
      gbi (f_X9_find b1 x2 v_5 v_7 x4 S_6) (fun v_9 S_8 =>
      if v_9 = 0 then
        gvi (x7 + (1 : Int32)) (fun x7_10 =>
        K27 S_8 x2 x4 x5 x6 x7_10)
      else
        gbi (f_X10_at (b1 + 10) 8 x7 S_8) (fun v_12 S_11 =>
        gvi (v_12 - (S_11 9 5)) (fun x8_13 =>
        if x5 = (-9 : Int32) then
          gvi (x7 + (1 : Int32)) (fun x7_14 =>
          K27 S_11 x2 x4 x7 x8_13 x7_14)
        else
          if x8_13 ≤ x6 then
            gvi (x7 + (1 : Int32)) (fun x7_15 =>
            K27 S_11 x2 x4 x5 x6 x7_15)
          else
            gvi (x7 + (1 : Int32)) (fun x7_16 =>
            K27 S_11 x2 x4 x7 x8_13 x7_16)))))))
noncomputable def L_X4_bestFree_27 (b1 : Nat) : Nat → Sg → Int32 → Int32 → Int32 → Int32 → Int32 → Option (Int32 × Sg)
  | 0 => fun _ _ _ _ _ _ => none
  | n + 1 => Lb_X4_bestFree_27 b1 (L_X4_bestFree_27 b1 n)
noncomputable def f_X4_bestFree (b1 : Nat) (a2 : Int32) (S : Sg) : Option (Int32 × Sg) :=
  gbi (f_X0_greatestLevel b1 a2 S) (fun v_18 S_17 =>
  gvi ((4 : Int32) * v_18) (fun x4_19 =>
  L_X4_bestFree_27 b1 gFu S_17 a2 x4_19 (-9 : Int32) (0 : Int32) (0 : Int32)))
noncomputable def f_X7_payMail (b : Nat) (a1 : Int32) (a2 : Int32) (S : Sg) : Option Sg :=
  gbv (f_X0_transfer b (4 : Int32) a1 a2 S) (fun S_1 =>
  gst (u2 S_1 b 6 ((S_1 b 6) + a2)) (fun S_2 =>
  some S_2))
noncomputable def Lb_X4_carry_62 (b1 : Nat) (K62 : Sg → Int32 → Int32 → Int32 → Int32 → Option (Int32 × Sg)) (S : Sg) (x2 : Int32) (x3 : Int32) (x5 : Int32) (x7 : Int32) : Option (Int32 × Sg) :=
  if (S 9 4) ≤ x7 then
    gbi (f_X10_at (b1 + 10) 8 x2 S) (fun v_2 S_1 =>
    gbv (f_X7_payMail b1 x5 v_2 S_1) (fun S_3 =>
    gbv (f_X10_put (b1 + 13) 8 x2 (1 : Int32) S_3) (fun S_4 =>
    gbv (f_X0_markRun b1 x5 x3 S_4) (fun S_5 =>
    some (S_5 9 5, S_5)))))
  else
    gbi (f_X10_at 13 24 x7 S) (fun v_7 S_6 =>
    gbi (f_X10_at (b1 + 7) 16 v_7 S_6) (fun v_9 S_8 =>
    gbi (f_X10_at 12 16 v_7 S_8) (fun v_11 S_10 =>
    gbv (f_X0_payRent b1 x5 v_9 v_11 S_10) (fun S_12 =>
    gvi (x7 + (1 : Int32)) (fun x7_13 =>
    K62 S_12 x2 x3 x5 x7_13)))))
noncomputable def L_X4_carry_62 (b1 : Nat) : Nat → Sg → Int32 → Int32 → Int32 → Int32 → Option (Int32 × Sg)
  | 0 => fun _ _ _ _ _ => none
  | n + 1 => Lb_X4_carry_62 b1 (L_X4_carry_62 b1 n)
noncomputable def f_X4_carry (b1 : Nat) (a2 : Int32) (a3 : Int32) (S : Sg) : Option (Int32 × Sg) :=
  gbi (f_X1_holderOf b1 a2 S) (fun v_15 S_14 =>
  gbi (f_X0_levelOf b1 v_15 a3 S_14) (fun v_17 S_16 =>
  gvi ((4 : Int32) * v_17) (fun x6_18 =>
  gbi (f_X10_at (b1 + 8) 8 a2 S_16) (fun v_20 S_19 =>
  gbi (f_X10_at (b1 + 9) 8 a2 S_19) (fun v_22 S_21 =>
  gbi (f_X9_find b1 v_15 v_20 v_22 x6_18 S_21) (fun v_24 S_23 =>
  L_X4_carry_62 b1 gFu S_23 a2 a3 v_15 (0 : Int32)))))))
noncomputable def f_X4_reasonAgainst (b1 : Nat) (a2 : Int32) (a3 : Int32) (S : Sg) : Option (Int32 × Sg) :=
  gbi (f_X1_holderOf b1 a2 S) (fun v_2 S_1 =>
  if v_2 = (-9 : Int32) then
    some ((1 : Int32), S_1)
  else
    gbi (f_X10_at (b1 + 13) 8 a2 S_1) (fun v_4 S_3 =>
    if v_4 = (1 : Int32) then
      some ((2 : Int32), S_3)
    else
      gbi (f_X0_hasRun b1 v_2 a3 S_3) (fun v_6 S_5 =>
      if v_6 = 0 then
        gbi (f_X0_levelOf b1 v_2 a3 S_5) (fun v_8 S_7 =>
        gvi ((4 : Int32) * v_8) (fun x6_9 =>
        gbi (f_X10_at (b1 + 8) 8 a2 S_7) (fun v_11 S_10 =>
        gbi (f_X10_at (b1 + 9) 8 a2 S_10) (fun v_13 S_12 =>
        gbi (f_X9_find b1 v_2 v_11 v_13 x6_9 S_12) (fun v_15 S_14 =>
        if v_15 = 0 then
          some ((4 : Int32), S_14)
        else
          some ((0 : Int32), S_14))))))
      else
        some ((3 : Int32), S_5))))
noncomputable def B_X4_tryCarry_34 (b1 : Nat) (S : Sg) (x2 : Int32) (x3 : Int32) (t0 : Int32) : Option (Int32 × Sg) :=
  if t0 = 0 then
    gck (isb t0) (some (t0, S))
  else
    gbi (f_X4_carry b1 x2 x3 S) (fun v_2 S_1 =>
    gck (isb t0) (some (t0, S_1)))
noncomputable def f_X4_tryCarry (b1 : Nat) (a2 : Int32) (a3 : Int32) (S : Sg) : Option (Int32 × Sg) :=
  gbi (f_X1_holderOf b1 a2 S) (fun v_4 S_3 =>
  gbi (f_X0_hasTrain b1 v_4 a3 S_3) (fun v_6 S_5 =>
  if v_6 = 0 then
    B_X4_tryCarry_34 b1 S_5 a2 a3 (0 : Int32)
  else
    gbi (f_X4_reasonAgainst b1 a2 a3 S_5) (fun v_8 S_7 =>
    if v_8 = 0 then
      B_X4_tryCarry_34 b1 S_7 a2 a3 (1 : Int32)
    else
      B_X4_tryCarry_34 b1 S_7 a2 a3 (0 : Int32))))
noncomputable def Lb_X4_carryAll_15 (b1 : Nat) (K2 : Sg → Int32 → Option Sg) (K15 : Sg → Int32 → Int32 → Option Sg) (S : Sg) (x2 : Int32) (x3 : Int32) : Option Sg :=
  if (4 : Int32) ≤ x3 then
    gvi (x2 + (1 : Int32)) (fun x2_1 =>
    K2 S x2_1)
  else
    gbi (f_X4_tryCarry b1 x2 x3 S) (fun v_3 S_2 =>
    if v_3 = 0 then
      gvi (x3 + (1 : Int32)) (fun x3_4 =>
      K15 S_2 x2 x3_4)
    else
      gvi (x2 + (1 : Int32)) (fun x2_5 =>
      K2 S_2 x2_5))
noncomputable def L_X4_carryAll_15 (b1 : Nat) (K2 : Sg → Int32 → Option Sg) : Nat → Sg → Int32 → Int32 → Option Sg
  | 0 => fun _ _ _ => none
  | n + 1 => Lb_X4_carryAll_15 b1 K2 (L_X4_carryAll_15 b1 K2 n)
noncomputable def Lb_X4_carryAll_2 (b1 : Nat) (K2 : Sg → Int32 → Option Sg) (S : Sg) (x2 : Int32) : Option Sg :=
  if (S (b1 + 2) 6) ≤ x2 then
    some S
  else
    L_X4_carryAll_15 b1 K2 gFu S x2 (0 : Int32)
noncomputable def L_X4_carryAll_2 (b1 : Nat) : Nat → Sg → Int32 → Option Sg
  | 0 => fun _ _ => none
  | n + 1 => Lb_X4_carryAll_2 b1 (L_X4_carryAll_2 b1 n)
noncomputable def f_X4_carryAll (b1 : Nat) (S : Sg) : Option Sg :=
  L_X4_carryAll_2 b1 gFu S (0 : Int32)
noncomputable def Lb_X4_smallestLevel_9 (b1 : Nat) (K9 : Sg → Int32 → Int32 → Int32 → Option (Int32 × Sg)) (S : Sg) (x2 : Int32) (x3 : Int32) (x5 : Int32) : Option (Int32 × Sg) :=
  if (6 : Int32) < x5 then
    some ((-9 : Int32), S)
  else
    gbi (f_X10_at (b1 + 8) 8 x3 S) (fun v_2 S_1 =>
    gbi (f_X10_at (b1 + 9) 8 x3 S_1) (fun v_4 S_3 =>
    gbi (f_X9_find b1 x2 v_2 v_4 ((4 : Int32) * x5) S_3) (fun v_6 S_5 =>
    if v_6 = 0 then
      gvi (x5 + (1 : Int32)) (fun x5_7 =>
      K9 S_5 x2 x3 x5_7)
    else
      some (x5, S_5))))
noncomputable def L_X4_smallestLevel_9 (b1 : Nat) : Nat → Sg → Int32 → Int32 → Int32 → Option (Int32 × Sg)
  | 0 => fun _ _ _ _ => none
  | n + 1 => Lb_X4_smallestLevel_9 b1 (L_X4_smallestLevel_9 b1 n)
noncomputable def f_X4_smallestLevel (b1 : Nat) (a2 : Int32) (a3 : Int32) (S : Sg) : Option (Int32 × Sg) :=
  L_X4_smallestLevel_9 b1 gFu S a2 a3 (1 : Int32)
noncomputable def f_X5_changeRent (b0 : Nat) (a1 : Int32) (a2 : Int32) (S : Sg) : Option (Int32 × Sg) :=
  gbi (f_X10_isCompany a1 S) (fun v_2 S_1 =>
  if v_2 = 0 then
    gck (isb v_2) (some (v_2, S_1))
  else
    gbv (f_X0_changeRent b0 a1 a2 S_1) (fun S_3 =>
    gck (isb v_2) (some (v_2, S_3))))
noncomputable def f_X5_endOfRound (b0 : Nat) (S : Sg) : Option (Int32 × Sg) :=
  gbi (f_X7_closeRound b0 S) (fun v_2 S_1 =>
  some ((1 : Int32), S_1))
noncomputable def f_X8_has (b : Nat) (a1 : Int32) (S : Sg) : Option (Int32 × Sg) :=
  if a1 < 0 then
    some ((0 : Int32), S)
  else
    if (S (b + 1) 4) ≤ a1 then
      some ((0 : Int32), S)
    else
      some ((1 : Int32), S)
noncomputable def f_X8_isOfBank (b : Nat) (a1 : Int32) (S : Sg) : Option (Int32 × Sg) :=
  gbi (f_X10_at (b + 7) 16 a1 S) (fun v_2 S_1 =>
  if v_2 = (4 : Int32) then
    some ((1 : Int32), S_1)
  else
    some ((0 : Int32), S_1))
noncomputable def f_X8_priceOf (b : Nat) (a1 : Int32) (S : Sg) : Option (Int32 × Sg) :=
  gbi (f_X10_at (b + 6) 16 a1 S) (fun v_2 S_1 =>
  some ((3 : Int32) * v_2, S_1))
noncomputable def f_X7_maySellTrack (b : Nat) (a1 : Int32) (a2 : Int32) (S : Sg) : Option (Int32 × Sg) :=
  gbi (f_X10_isCompany a1 S) (fun v_2 S_1 =>
  if v_2 = 0 then
    some ((0 : Int32), S_1)
  else
    gbi (f_X8_has b a2 S_1) (fun v_4 S_3 =>
    if v_4 = 0 then
      some ((0 : Int32), S_3)
    else
      gbi (f_X8_isOfBank b a2 S_3) (fun v_6 S_5 =>
      if v_6 = 0 then
        some ((0 : Int32), S_5)
      else
        gbi (f_X10_at (b + 14) 5 a1 S_5) (fun v_8 S_7 =>
        gbi (f_X8_priceOf b a2 S_7) (fun v_10 S_9 =>
        if v_8 < v_10 then
          some ((0 : Int32), S_9)
        else
          some ((1 : Int32), S_9))))))
noncomputable def f_X7_sellTrack (b : Nat) (a1 : Int32) (a2 : Int32) (S : Sg) : Option Sg :=
  gbi (f_X8_priceOf b a2 S) (fun v_2 S_1 =>
  gbv (f_X0_transfer b a1 (4 : Int32) v_2 S_1) (fun S_3 =>
  gbv (f_X10_put (b + 7) 16 a2 a1 S_3) (fun S_4 =>
  some S_4)))
noncomputable def f_X7_tryTrack (b : Nat) (a1 : Int32) (a2 : Int32) (S : Sg) : Option (Int32 × Sg) :=
  gbi (f_X7_maySellTrack b a1 a2 S) (fun v_2 S_1 =>
  if v_2 = 0 then
    gck (isb v_2) (some (v_2, S_1))
  else
    gbv (f_X7_sellTrack b a1 a2 S_1) (fun S_3 =>
    gck (isb v_2) (some (v_2, S_3))))
noncomputable def f_X7_maySellTrain (b : Nat) (a1 : Int32) (a2 : Int32) (S : Sg) : Option (Int32 × Sg) :=
  gbi (f_X10_isCompany a1 S) (fun v_2 S_1 =>
  if v_2 = 0 then
    some ((0 : Int32), S_1)
  else
    if a2 < (1 : Int32) then
      some ((0 : Int32), S_1)
    else
      if (6 : Int32) < a2 then
        some ((0 : Int32), S_1)
      else
        if a2 < ((S_1 b 4) - (1 : Int32)) then
          some ((0 : Int32), S_1)
        else
          if ((S_1 b 4) + (1 : Int32)) < a2 then
            some ((0 : Int32), S_1)
          else
            gbi (f_X10_at (b + 18) 4 a1 S_1) (fun v_4 S_3 =>
            if (4 : Int32) ≤ v_4 then
              some ((0 : Int32), S_3)
            else
              gbi (f_X10_at (b + 14) 5 a1 S_3) (fun v_6 S_5 =>
              if v_6 < ((20 : Int32) * a2) then
                some ((0 : Int32), S_5)
              else
                some ((1 : Int32), S_5))))
noncomputable def f_X7_sellTrain (b : Nat) (a1 : Int32) (a2 : Int32) (S : Sg) : Option (Int32 × Sg) :=
  gbv (f_X0_transfer b a1 (4 : Int32) ((20 : Int32) * a2) S) (fun S_1 =>
  gbv (f_X0_addTrain b a1 a2 S_1) (fun S_2 =>
  if (S_2 b 4) < a2 then
    gst (u2 S_2 b 4 a2) (fun S_3 =>
    gbi (f_X0_dropBelow b ((S_3 b 4) - (1 : Int32)) S_3) (fun v_5 S_4 =>
    gst (u2 S_4 b 8 ((S_4 b 8) + v_5)) (fun S_6 =>
    some (v_5, S_6))))
  else
    some ((0 : Int32), S_2)))
noncomputable def f_X7_tryTrain (b : Nat) (a1 : Int32) (a2 : Int32) (S : Sg) : Option (Int32 × Sg) :=
  gbi (f_X7_maySellTrain b a1 a2 S) (fun v_2 S_1 =>
  if v_2 = 0 then
    gck (isb v_2) (some (v_2, S_1))
  else
    gbi (f_X7_sellTrain b a1 a2 S_1) (fun v_4 S_3 =>
    gck (isb v_2) (some (v_2, S_3))))
noncomputable def f_X7_mayGive (b : Nat) (a1 : Int32) (a2 : Int32) (S : Sg) : Option (Int32 × Sg) :=
  gbi (f_X10_isCompany a1 S) (fun v_2 S_1 =>
  if v_2 = 0 then
    some ((0 : Int32), S_1)
  else
    gbi (f_X1_has b a2 S_1) (fun v_4 S_3 =>
    if v_4 = 0 then
      some ((0 : Int32), S_3)
    else
      gbi (f_X1_isFree b a2 S_3) (fun v_6 S_5 =>
      if v_6 = 0 then
        some ((0 : Int32), S_5)
      else
        some ((1 : Int32), S_5))))
noncomputable def f_X7_tryContract (b : Nat) (a1 : Int32) (a2 : Int32) (S : Sg) : Option (Int32 × Sg) :=
  gbi (f_X7_mayGive b a1 a2 S) (fun v_2 S_1 =>
  if v_2 = 0 then
    gck (isb v_2) (some (v_2, S_1))
  else
    gbv (f_X1_give b a2 a1 S_1) (fun S_3 =>
    gck (isb v_2) (some (v_2, S_3))))
noncomputable def B_X5_obey_28 (b0 : Nat) (S : Sg) (x2 : Int32) (x3 : Int32) (x4 : Int32) (t0 : Int32) : Option (Int32 × Sg) :=
  if (x2 / (10000 : Int32)) = (1 : Int32) then
    if (100 : Int32) ≤ x4 then
      some ((0 : Int32), S)
    else
      gbi (f_X7_tryTrack b0 x3 x4 S) (fun v_2 S_1 =>
      if v_2 = 0 then
        some ((0 : Int32), S_1)
      else
        some ((1 : Int32), S_1))
  else
  if (x2 / (10000 : Int32)) = (2 : Int32) then
    if t0 = 0 then
      some ((0 : Int32), S)
    else
      gbi (f_X7_tryTrain b0 x3 x4 S) (fun v_5 S_4 =>
      if v_5 = 0 then
        some ((0 : Int32), S_4)
      else
        some ((1 : Int32), S_4))
  else
  if (x2 / (10000 : Int32)) = (3 : Int32) then
    if t0 = 0 then
      some ((0 : Int32), S)
    else
      gbi (f_X5_changeRent b0 x3 x4 S) (fun v_8 S_7 =>
      if v_8 = 0 then
        some ((0 : Int32), S_7)
      else
        some ((1 : Int32), S_7))
  else
  if (x2 / (10000 : Int32)) = (4 : Int32) then
    if t0 = 0 then
      some ((0 : Int32), S)
    else
      gbi (f_X7_tryContract b0 x3 x4 S) (fun v_11 S_10 =>
      if v_11 = 0 then
        some ((0 : Int32), S_10)
      else
        some ((1 : Int32), S_10))
  else
  if (x2 / (10000 : Int32)) = (5 : Int32) then
    if t0 = 0 then
      some ((0 : Int32), S)
    else
      gbi (f_X4_tryCarry b0 x3 x4 S) (fun v_14 S_13 =>
      if v_14 = 0 then
        some ((0 : Int32), S_13)
      else
        some ((1 : Int32), S_13))
  else
  if (x2 / (10000 : Int32)) = (6 : Int32) then
    if x3 = 0 then
      if x4 = 0 then
        gbi (f_X5_endOfRound b0 S) (fun v_17 S_16 =>
        if v_17 = 0 then
          some ((0 : Int32), S_16)
        else
          some ((1 : Int32), S_16))
      else
        some ((0 : Int32), S)
    else
      some ((0 : Int32), S)
  else
  if (x2 / (10000 : Int32)) = (7 : Int32) then
    gbi (f_X10_isCompany x3 S) (fun v_20 S_19 =>
    if v_20 = 0 then
      some ((0 : Int32), S_19)
    else
      gbi (f_X10_at (b0 + 14) 5 x3 S_19) (fun v_22 S_21 =>
      if v_22 < x4 then
        some ((0 : Int32), S_21)
      else
        some ((1 : Int32), S_21)))
  else
  if (x2 / (10000 : Int32)) = (8 : Int32) then
    if x3 = 0 then
      if t0 = 0 then
        some ((0 : Int32), S)
      else
        if (S b0 4) = x4 then
          some ((1 : Int32), S)
        else
          some ((0 : Int32), S)
    else
      some ((0 : Int32), S)
  else
  if (x2 / (10000 : Int32)) = (9 : Int32) then
    gbi (f_X10_isCompany x3 S) (fun v_26 S_25 =>
    if v_26 = 0 then
      some ((0 : Int32), S_25)
    else
      if t0 = 0 then
        some ((0 : Int32), S_25)
      else
        gbi (f_X10_at (b0 + 18) 4 x3 S_25) (fun v_28 S_27 =>
        if v_28 = x4 then
          some ((1 : Int32), S_27)
        else
          some ((0 : Int32), S_27)))
  else
    some ((0 : Int32), S)
noncomputable def f_X5_obey (b0 : Nat) (a2 : Int32) (S : Sg) : Option (Int32 × Sg) :=
  gvi ((a2 / (1000 : Int32)) - (a2 / (1000 : Int32)) / (10 : Int32) * (10 : Int32)) (fun x3_30 =>
  gvi (a2 - a2 / (1000 : Int32) * (1000 : Int32)) (fun x4_31 =>
  if (10 : Int32) ≤ x4_31 then
    B_X5_obey_28 b0 S a2 x3_30 x4_31 (0 : Int32)
  else
    B_X5_obey_28 b0 S a2 x3_30 x4_31 (1 : Int32)))
noncomputable def Lb_X5_withoutLowest_5 (K5 : Sg → Int32 → Int64 → Int32 → Option (Int64 × Sg)) (S : Sg) (x2 : Int32) (x3 : Int64) (x5 : Int32) : Option (Int64 × Sg) :=
  if x2 ≤ x5 then
    some (x3, S)
  else
    gvl (x3 / (100000 : Int64)) (fun x3_1 =>
    gvi (x5 + (1 : Int32)) (fun x5_2 =>
    K5 S x2 x3_1 x5_2))
noncomputable def L_X5_withoutLowest_5 : Nat → Sg → Int32 → Int64 → Int32 → Option (Int64 × Sg)
  | 0 => fun _ _ _ _ => none
  | n + 1 => Lb_X5_withoutLowest_5 (L_X5_withoutLowest_5 n)
noncomputable def f_X5_withoutLowest (a0 : Int64) (a2 : Int32) (S : Sg) : Option (Int64 × Sg) :=
  L_X5_withoutLowest_5 gFu S a2 a0 (0 : Int32)
noncomputable def f_X6_empty (S : Sg) : Option Sg :=
  gbv (f_X10_fill 7 2 (0 : Int32) S) (fun S_1 =>
  some S_1)
noncomputable def f_X6_stateAt (a1 : Int32) (S : Sg) : Option (Nat × Sg) :=
  if a1 < 0 then
    none
  else
    if (nI 2) ≤ a1 then
      none
    else
      gck (inb a1 2) (
      some ((350 + 21 * a1.toNatClampNeg), S))
