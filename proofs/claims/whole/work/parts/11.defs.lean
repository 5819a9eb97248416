def f_X10_at (k0 : Nat) (n0 : Nat) (x1 : Int32) (S : Sg) : Option (Int32 × Sg) :=
  if x1 < 0 then
    some ((0 : Int32), S)
  else
    if (nI n0) ≤ x1 then
      some ((0 : Int32), S)
    else
      gck (inb x1 n0) (
      some (S k0 x1.toNatClampNeg, S))
def f_X0_place (x0 : Int32) (x1 : Int32) (S : Sg) : Option (Int32 × Sg) :=
  some ((x0 * (4 : Int32)) + x1, S)
def f_X10_put (k0 : Nat) (n0 : Nat) (x1 : Int32) (x2 : Int32) (S : Sg) : Option Sg :=
  if x1 < 0 then
    some S
  else
    if (nI n0) ≤ x1 then
      some S
    else
      gck (inb x1 n0) (
      gst (u2 S k0 x1.toNatClampNeg x2) (fun S_1 =>
      some S_1))
def f_X0_addTrain (b : Nat) (x1 : Int32) (x2 : Int32) (S : Sg) : Option Sg :=
  gbi (f_X10_at (b + 18) 4 x1 S) (fun v_2 S_1 =>
  if (4 : Int32) ≤ v_2 then
    some S_1
  else
    gbi (f_X0_place x1 v_2 S_1) (fun v_4 S_3 =>
    gbv (f_X10_put (b + 19) 16 v_4 x2 S_3) (fun S_5 =>
    gbi (f_X0_place x1 v_2 S_5) (fun v_7 S_6 =>
    gbv (f_X10_put (b + 20) 16 v_7 (0 : Int32) S_6) (fun S_8 =>
    gbv (f_X10_put (b + 18) 4 x1 (v_2 + (1 : Int32)) S_8) (fun S_9 =>
    some S_9))))))
def Lb_X10_fill_2 (k0 : Nat) (n0 : Nat) (K2 : Sg → Int32 → Int32 → Option Sg) (S : Sg) (x1 : Int32) (x2 : Int32) : Option Sg :=
  if (nI n0) ≤ x2 then
    some S
  else
    gck (inb x2 n0) (
    gst (u2 S k0 x2.toNatClampNeg x1) (fun S_1 =>
    gvi (x2 + (1 : Int32)) (fun x2_2 =>
    K2 S_1 x1 x2_2)))
def L_X10_fill_2 (k0 : Nat) (n0 : Nat) : Nat → Sg → Int32 → Int32 → Option Sg
  | 0 => fun _ _ _ => none
  | n + 1 => Lb_X10_fill_2 k0 n0 (L_X10_fill_2 k0 n0 n)
def f_X10_fill (k0 : Nat) (n0 : Nat) (x1 : Int32) (S : Sg) : Option Sg :=
  L_X10_fill_2 k0 n0 gFu S x1 (0 : Int32)
def f_X0_begin (b : Nat) (S : Sg) : Option Sg :=
  gbv (f_X10_fill (b + 14) 5 (100 : Int32) S) (fun S_1 =>
  gbv (f_X10_put (b + 14) 5 (4 : Int32) (-400 : Int32) S_1) (fun S_2 =>
  gbv (f_X10_fill (b + 15) 5 (1 : Int32) S_2) (fun S_3 =>
  gbv (f_X10_fill (b + 16) 5 (0 : Int32) S_3) (fun S_4 =>
  gbv (f_X10_fill (b + 17) 4 (0 : Int32) S_4) (fun S_5 =>
  gbv (f_X10_fill (b + 18) 4 (0 : Int32) S_5) (fun S_6 =>
  some S_6))))))
def f_X0_changeRent (b : Nat) (x1 : Int32) (x2 : Int32) (S : Sg) : Option Sg :=
  gbv (f_X10_put (b + 15) 5 x1 x2 S) (fun S_1 =>
  some S_1)
def f_X10_copyRow (k0 n0 k1 n1 : Nat) (S : Sg) : Option Sg := some (uR S k1 (va_cpy (S k0) (S k1) 0 0 (min n0 n1)))
def f_X0_copyFrom (b : Nat) (b1 : Nat) (S : Sg) : Option Sg :=
  gbv (f_X10_copyRow (b1 + 14) 5 (b + 14) 5 S) (fun S_1 =>
  gbv (f_X10_copyRow (b1 + 15) 5 (b + 15) 5 S_1) (fun S_2 =>
  gbv (f_X10_copyRow (b1 + 16) 5 (b + 16) 5 S_2) (fun S_3 =>
  gbv (f_X10_copyRow (b1 + 17) 4 (b + 17) 4 S_3) (fun S_4 =>
  gbv (f_X10_copyRow (b1 + 18) 4 (b + 18) 4 S_4) (fun S_5 =>
  gbv (f_X10_copyRow (b1 + 19) 16 (b + 19) 16 S_5) (fun S_6 =>
  gbv (f_X10_copyRow (b1 + 20) 16 (b + 20) 16 S_6) (fun S_7 =>
  some S_7)))))))
def Lb_X0_dropBelow_15 (b : Nat) (K4 : Sg → Int32 → Int32 → Int32 → Option (Int32 × Sg)) (K15 : Sg → Int32 → Int32 → Int32 → Int32 → Int32 → Option (Int32 × Sg)) (S : Sg) (x1 : Int32) (x2 : Int32) (x3 : Int32) (x4 : Int32) (x5 : Int32) : Option (Int32 × Sg) :=
  gbi (f_X10_at (b + 18) 4 x3 S) (fun v_2 S_1 =>
  if v_2 ≤ x5 then
    gbi (f_X10_at (b + 18) 4 x3 S_1) (fun v_4 S_3 =>
    gvi (x2 + (v_4 - x4)) (fun x2_5 =>
    gbv (f_X10_put (b + 18) 4 x3 x4 S_3) (fun S_6 =>
    gvi (x3 + (1 : Int32)) (fun x3_7 =>
    K4 S_6 x1 x2_5 x3_7))))
  else
    gbi (f_X0_place x3 x5 S_1) (fun v_9 S_8 =>
    gbi (f_X10_at (b + 19) 16 v_9 S_8) (fun v_11 S_10 =>
    if v_11 < x1 then
      gvi (x5 + (1 : Int32)) (fun x5_12 =>
      K15 S_10 x1 x2 x3 x4 x5_12)
    else
      gbi (f_X0_place x3 x4 S_10) (fun v_14 S_13 =>
      gbi (f_X0_place x3 x5 S_13) (fun v_16 S_15 =>
      gbi (f_X10_at (b + 19) 16 v_16 S_15) (fun v_18 S_17 =>
      gbv (f_X10_put (b + 19) 16 v_14 v_18 S_17) (fun S_19 =>
      gbi (f_X0_place x3 x4 S_19) (fun v_21 S_20 =>
      gbi (f_X0_place x3 x5 S_20) (fun v_23 S_22 =>
      gbi (f_X10_at (b + 20) 16 v_23 S_22) (fun v_25 S_24 =>
      gbv (f_X10_put (b + 20) 16 v_21 v_25 S_24) (fun S_26 =>
      gvi (x4 + (1 : Int32)) (fun x4_27 =>
      gvi (x5 + (1 : Int32)) (fun x5_28 =>
      K15 S_26 x1 x2 x3 x4_27 x5_28)))))))))))))
def L_X0_dropBelow_15 (b : Nat) (K4 : Sg → Int32 → Int32 → Int32 → Option (Int32 × Sg)) : Nat → Sg → Int32 → Int32 → Int32 → Int32 → Int32 → Option (Int32 × Sg)
  | 0 => fun _ _ _ _ _ _ => none
  | n + 1 => Lb_X0_dropBelow_15 b K4 (L_X0_dropBelow_15 b K4 n)
def Lb_X0_dropBelow_4 (b : Nat) (K4 : Sg → Int32 → Int32 → Int32 → Option (Int32 × Sg)) (S : Sg) (x1 : Int32) (x2 : Int32) (x3 : Int32) : Option (Int32 × Sg) :=
  if (4 : Int32) ≤ x3 then
    some (x2, S)
  else
    L_X0_dropBelow_15 b K4 gFu S x1 x2 x3 (0 : Int32) (0 : Int32)
def L_X0_dropBelow_4 (b : Nat) : Nat → Sg → Int32 → Int32 → Int32 → Option (Int32 × Sg)
  | 0 => fun _ _ _ _ => none
  | n + 1 => Lb_X0_dropBelow_4 b (L_X0_dropBelow_4 b n)
def f_X0_dropBelow (b : Nat) (x1 : Int32) (S : Sg) : Option (Int32 × Sg) :=
  L_X0_dropBelow_4 b gFu S x1 (0 : Int32) (0 : Int32)
def f_X0_transfer (b : Nat) (x1 : Int32) (x2 : Int32) (x3 : Int32) (S : Sg) : Option Sg :=
  gbi (f_X10_at (b + 14) 5 x1 S) (fun v_2 S_1 =>
  gbv (f_X10_put (b + 14) 5 x1 (v_2 - x3) S_1) (fun S_3 =>
  gbi (f_X10_at (b + 14) 5 x2 S_3) (fun v_5 S_4 =>
  gbv (f_X10_put (b + 14) 5 x2 (v_5 + x3) S_4) (fun S_6 =>
  some S_6))))
def f_X0_goBankrupt (b : Nat) (x1 : Int32) (S : Sg) : Option Sg :=
  gbi (f_X10_at (b + 14) 5 x1 S) (fun v_2 S_1 =>
  gbv (f_X0_transfer b (4 : Int32) x1 (-v_2) S_1) (fun S_3 =>
  gbv (f_X10_put (b + 18) 4 x1 (0 : Int32) S_3) (fun S_4 =>
  gbi (f_X10_at (b + 17) 4 x1 S_4) (fun v_6 S_5 =>
  gbv (f_X10_put (b + 17) 4 x1 (v_6 + (1 : Int32)) S_5) (fun S_7 =>
  some S_7)))))
def Lb_X0_greatestLevel_4 (b : Nat) (K4 : Sg → Int32 → Int32 → Int32 → Option (Int32 × Sg)) (S : Sg) (x1 : Int32) (x2 : Int32) (x3 : Int32) : Option (Int32 × Sg) :=
  gbi (f_X10_at (b + 18) 4 x1 S) (fun v_2 S_1 =>
  if v_2 ≤ x3 then
    some (x2, S_1)
  else
    gbi (f_X0_place x1 x3 S_1) (fun v_4 S_3 =>
    gbi (f_X10_at (b + 19) 16 v_4 S_3) (fun v_6 S_5 =>
    gvi ((if x2 < v_6 then v_6 else x2)) (fun x2_7 =>
    gvi (x3 + (1 : Int32)) (fun x3_8 =>
    K4 S_5 x1 x2_7 x3_8)))))
def L_X0_greatestLevel_4 (b : Nat) : Nat → Sg → Int32 → Int32 → Int32 → Option (Int32 × Sg)
  | 0 => fun _ _ _ _ => none
  | n + 1 => Lb_X0_greatestLevel_4 b (L_X0_greatestLevel_4 b n)
def f_X0_greatestLevel (b : Nat) (x1 : Int32) (S : Sg) : Option (Int32 × Sg) :=
  L_X0_greatestLevel_4 b gFu S x1 (0 : Int32) (0 : Int32)
def f_X0_hasTrain (b : Nat) (x1 : Int32) (x2 : Int32) (S : Sg) : Option (Int32 × Sg) :=
  if x2 < 0 then
    some ((0 : Int32), S)
  else
    gbi (f_X10_at (b + 18) 4 x1 S) (fun v_2 S_1 =>
    if v_2 ≤ x2 then
      some ((0 : Int32), S_1)
    else
      some ((1 : Int32), S_1))
def f_X0_hasRun (b : Nat) (x1 : Int32) (x2 : Int32) (S : Sg) : Option (Int32 × Sg) :=
  gbi (f_X0_hasTrain b x1 x2 S) (fun v_2 S_1 =>
  if v_2 = 0 then
    some ((0 : Int32), S_1)
  else
    gbi (f_X0_place x1 x2 S_1) (fun v_4 S_3 =>
    gbi (f_X10_at (b + 20) 16 v_4 S_3) (fun v_6 S_5 =>
    if v_6 = (1 : Int32) then
      some ((1 : Int32), S_5)
    else
      some ((0 : Int32), S_5))))
def f_X0_levelOf (b : Nat) (x1 : Int32) (x2 : Int32) (S : Sg) : Option (Int32 × Sg) :=
  gbi (f_X0_hasTrain b x1 x2 S) (fun v_2 S_1 =>
  if v_2 = 0 then
    some ((0 : Int32), S_1)
  else
    gbi (f_X0_place x1 x2 S_1) (fun v_4 S_3 =>
    gbi (f_X10_at (b + 19) 16 v_4 S_3) (fun v_6 S_5 =>
    some (v_6, S_5))))
def Lb_X0_levelsOf_4 (b : Nat) (K4 : Sg → Int32 → Int32 → Int32 → Option (Int32 × Sg)) (S : Sg) (x1 : Int32) (x2 : Int32) (x3 : Int32) : Option (Int32 × Sg) :=
  gbi (f_X10_at (b + 18) 4 x1 S) (fun v_2 S_1 =>
  if v_2 ≤ x3 then
    some (x2, S_1)
  else
    gbi (f_X0_place x1 x3 S_1) (fun v_4 S_3 =>
    gbi (f_X10_at (b + 19) 16 v_4 S_3) (fun v_6 S_5 =>
    gvi (x2 + v_6) (fun x2_7 =>
    gvi (x3 + (1 : Int32)) (fun x3_8 =>
    K4 S_5 x1 x2_7 x3_8)))))
def L_X0_levelsOf_4 (b : Nat) : Nat → Sg → Int32 → Int32 → Int32 → Option (Int32 × Sg)
  | 0 => fun _ _ _ _ => none
  | n + 1 => Lb_X0_levelsOf_4 b (L_X0_levelsOf_4 b n)
def f_X0_levelsOf (b : Nat) (x1 : Int32) (S : Sg) : Option (Int32 × Sg) :=
  L_X0_levelsOf_4 b gFu S x1 (0 : Int32) (0 : Int32)
def f_X0_markRun (b : Nat) (x1 : Int32) (x2 : Int32) (S : Sg) : Option Sg :=
  gbi (f_X0_hasTrain b x1 x2 S) (fun v_2 S_1 =>
  if v_2 = 0 then
    some S_1
  else
    gbi (f_X0_place x1 x2 S_1) (fun v_4 S_3 =>
    gbv (f_X10_put (b + 20) 16 v_4 (1 : Int32) S_3) (fun S_5 =>
    some S_5)))
def f_X0_payRent (b : Nat) (x1 : Int32) (x2 : Int32) (x3 : Int32) (S : Sg) : Option Sg :=
  gbv (f_X0_transfer b x1 x2 x3 S) (fun S_1 =>
  gbi (f_X10_at (b + 16) 5 x2 S_1) (fun v_3 S_2 =>
  gbv (f_X10_put (b + 16) 5 x2 (v_3 + x3) S_2) (fun S_4 =>
  some S_4)))
def f_X0_rentFor (b : Nat) (x1 : Int32) (x2 : Int32) (S : Sg) : Option (Int32 × Sg) :=
  if x1 = x2 then
    some ((0 : Int32), S)
  else
    gbi (f_X10_at (b + 15) 5 x2 S) (fun v_2 S_1 =>
    some (v_2, S_1))
def f_X2_empty (S : Sg) : Option (Int32 × Sg) :=
  gvi (S 1 1) (fun x1_1 =>
  gst (u2 S 1 1 (0 : Int32)) (fun S_2 =>
  some (x1_1, S_2)))
def f_X10_clearText (S : Sg) : Option (Int32 × Sg) :=
  gbi (f_X2_empty S) (fun v_2 S_1 =>
  some (v_2, S_1))
def f_X8_copyFrom (b : Nat) (b1 : Nat) (S : Sg) : Option Sg :=
  gbv (f_X10_copyRow (b1 + 4) 16 (b + 4) 16 S) (fun S_1 =>
  gbv (f_X10_copyRow (b1 + 5) 16 (b + 5) 16 S_1) (fun S_2 =>
  gbv (f_X10_copyRow (b1 + 6) 16 (b + 6) 16 S_2) (fun S_3 =>
  gbv (f_X10_copyRow (b1 + 7) 16 (b + 7) 16 S_3) (fun S_4 =>
  gst (u2 S_4 (b + 1) 4 (S_4 (b1 + 1) 4)) (fun S_5 =>
  some S_5)))))
def f_X1_copyFrom (b : Nat) (b1 : Nat) (S : Sg) : Option Sg :=
  gbv (f_X10_copyRow (b1 + 8) 8 (b + 8) 8 S) (fun S_1 =>
  gbv (f_X10_copyRow (b1 + 9) 8 (b + 9) 8 S_1) (fun S_2 =>
  gbv (f_X10_copyRow (b1 + 10) 8 (b + 10) 8 S_2) (fun S_3 =>
  gbv (f_X10_copyRow (b1 + 11) 8 (b + 11) 8 S_3) (fun S_4 =>
  gbv (f_X10_copyRow (b1 + 12) 8 (b + 12) 8 S_4) (fun S_5 =>
  gbv (f_X10_copyRow (b1 + 13) 8 (b + 13) 8 S_5) (fun S_6 =>
  gst (u2 S_6 (b + 2) 6 (S_6 (b1 + 2) 6)) (fun S_7 =>
  some S_7)))))))
def f_X7_copyFrom (b : Nat) (b1 : Nat) (S : Sg) : Option Sg :=
  gbv (f_X8_copyFrom b b1 S) (fun S_1 =>
  gbv (f_X1_copyFrom b b1 S_1) (fun S_2 =>
  gbv (f_X0_copyFrom b b1 S_2) (fun S_3 =>
  gst (u2 S_3 b 3 (S_3 b1 3)) (fun S_4 =>
  gst (u2 S_4 b 4 (S_4 b1 4)) (fun S_5 =>
  gst (u2 S_5 b 5 (S_5 b1 5)) (fun S_6 =>
  gst (u2 S_6 b 6 (S_6 b1 6)) (fun S_7 =>
  gst (u2 S_7 b 7 (S_7 b1 7)) (fun S_8 =>
  gst (u2 S_8 b 8 (S_8 b1 8)) (fun S_9 =>
  some S_9)))))))))
def f_X10_copyState (b0 : Nat) (b1 : Nat) (S : Sg) : Option Sg :=
  gbv (f_X7_copyFrom b1 b0 S) (fun S_1 =>
  some S_1)
def f_X3_stateAt (x1 : Int32) (S : Sg) : Option (Nat × Sg) :=
  gvi (((S 3 1) + x1) - ((S 3 1) + x1) / (14 : Int32) * (14 : Int32)) (fun x2_1 =>
  if x2_1 < 0 then
    none
  else
    if (nI 14) ≤ x2_1 then
      none
    else
      gck (inb x2_1 14) (
      some ((67 + 21 * x2_1.toNatClampNeg), S)))
theorem st_of_X3_stateAt {x1 : Int32} {S S' : Sg} {v : Nat} (h : f_X3_stateAt x1 S = some (v, S')) : IsSt v := by
  unfold f_X3_stateAt at h
  repeat' first
    | (obtain ⟨_, _, h⟩ := gck_some h)
    | (obtain ⟨hin, h⟩ := gck_some h)
    | (obtain ⟨_, _, h⟩ := gvi_ex h)
    | (split at h)
    | (cases h; done)
    | (have := vp_of_inb hin; unfold vp_in at this; cases h; exact st_h (by omega))
def f_X3_remember (b1 : Nat) (S : Sg) : Option Sg :=
  gbn (f_X3_stateAt (S 3 2) S) (fun v_2 S_1 =>
  gbv (f_X10_copyState b1 v_2 S_1) (fun S_3 =>
  if (14 : Int32) ≤ (S_3 3 2) then
    gst (u2 S_3 3 1 (((S_3 3 1) + (1 : Int32)) - ((S_3 3 1) + (1 : Int32)) / (14 : Int32) * (14 : Int32))) (fun S_4 =>
    some S_4)
  else
    gst (u2 S_3 3 2 ((S_3 3 2) + (1 : Int32))) (fun S_5 =>
    some S_5)))
def f_X1_has (b : Nat) (x1 : Int32) (S : Sg) : Option (Int32 × Sg) :=
  if x1 < 0 then
    some ((0 : Int32), S)
  else
    if (S (b + 2) 6) ≤ x1 then
      some ((0 : Int32), S)
    else
      some ((1 : Int32), S)
def f_X1_holderOf (b : Nat) (x1 : Int32) (S : Sg) : Option (Int32 × Sg) :=
  gbi (f_X1_has b x1 S) (fun v_2 S_1 =>
  if v_2 = 0 then
    some ((-9 : Int32), S_1)
  else
    gbi (f_X10_at (b + 12) 8 x1 S_1) (fun v_4 S_3 =>
    some (v_4, S_3)))
def f_X1_isFree (b : Nat) (x1 : Int32) (S : Sg) : Option (Int32 × Sg) :=
  gbi (f_X1_holderOf b x1 S) (fun v_2 S_1 =>
  if v_2 = (-9 : Int32) then
    some ((1 : Int32), S_1)
  else
    some ((0 : Int32), S_1))
def f_X1_move (b : Nat) (x1 : Int32) (x2 : Int32) (S : Sg) : Option Sg :=
  gbi (f_X10_at (b + 8) 8 x1 S) (fun v_2 S_1 =>
  gbv (f_X10_put (b + 8) 8 x2 v_2 S_1) (fun S_3 =>
  gbi (f_X10_at (b + 9) 8 x1 S_3) (fun v_5 S_4 =>
  gbv (f_X10_put (b + 9) 8 x2 v_5 S_4) (fun S_6 =>
  gbi (f_X10_at (b + 10) 8 x1 S_6) (fun v_8 S_7 =>
  gbv (f_X10_put (b + 10) 8 x2 v_8 S_7) (fun S_9 =>
  gbi (f_X10_at (b + 11) 8 x1 S_9) (fun v_11 S_10 =>
  gbv (f_X10_put (b + 11) 8 x2 v_11 S_10) (fun S_12 =>
  gbi (f_X10_at (b + 12) 8 x1 S_12) (fun v_14 S_13 =>
  gbv (f_X10_put (b + 12) 8 x2 v_14 S_13) (fun S_15 =>
  gbi (f_X10_at (b + 13) 8 x1 S_15) (fun v_17 S_16 =>
  gbv (f_X10_put (b + 13) 8 x2 v_17 S_16) (fun S_18 =>
  some S_18))))))))))))
def Lb_X1_dropEnded_4 (b : Nat) (K4 : Sg → Int32 → Int32 → Option Sg) (S : Sg) (x1 : Int32) (x2 : Int32) : Option Sg :=
  if (S (b + 2) 6) ≤ x2 then
    gst (u2 S (b + 2) 6 x1) (fun S_1 =>
    some S_1)
  else
    gbi (f_X10_at (b + 11) 8 x2 S) (fun v_3 S_2 =>
    if v_3 ≤ 0 then
      gvi (x2 + (1 : Int32)) (fun x2_4 =>
      K4 S_2 x1 x2_4)
    else
      gbv (f_X1_move b x2 x1 S_2) (fun S_5 =>
      gvi (x1 + (1 : Int32)) (fun x1_6 =>
      gvi (x2 + (1 : Int32)) (fun x2_7 =>
      K4 S_5 x1_6 x2_7))))
def L_X1_dropEnded_4 (b : Nat) : Nat → Sg → Int32 → Int32 → Option Sg
  | 0 => fun _ _ _ => none
  | n + 1 => Lb_X1_dropEnded_4 b (L_X1_dropEnded_4 b n)
def f_X1_dropEnded (b : Nat) (S : Sg) : Option Sg :=
  L_X1_dropEnded_4 b gFu S (0 : Int32) (0 : Int32)
def B_X7_serveContracts_65 (b : Nat) (K2 : Sg → Int32 → Option Sg) (S : Sg) (x1 : Int32) : Option Sg :=
  gbi (f_X10_at (b + 11) 8 x1 S) (fun v_2 S_1 =>
  gbv (f_X10_put (b + 11) 8 x1 (v_2 - (1 : Int32)) S_1) (fun S_3 =>
  gvi (x1 + (1 : Int32)) (fun x1_4 =>
  K2 S_3 x1_4)))
def Lb_X7_serveContracts_2 (b : Nat) (K2 : Sg → Int32 → Option Sg) (S : Sg) (x1 : Int32) : Option Sg :=
  if (S (b + 2) 6) ≤ x1 then
    gbv (f_X1_dropEnded b S) (fun S_5 =>
    some S_5)
  else
    gbi (f_X1_isFree b x1 S) (fun v_7 S_6 =>
    if v_7 = 0 then
      gbi (f_X10_at (b + 13) 8 x1 S_6) (fun v_10 S_9 =>
      if v_10 = 0 then
        gbi (f_X1_holderOf b x1 S_9) (fun v_12 S_11 =>
        gbv (f_X0_transfer b v_12 (4 : Int32) (5 : Int32) S_11) (fun S_13 =>
        gst (u2 S_13 b 7 ((S_13 b 7) + (5 : Int32))) (fun S_14 =>
        B_X7_serveContracts_65 b K2 S_14 x1)))
      else
        B_X7_serveContracts_65 b K2 S_9 x1)
    else
      gvi (x1 + (1 : Int32)) (fun x1_8 =>
      K2 S_6 x1_8))
def L_X7_serveContracts_2 (b : Nat) : Nat → Sg → Int32 → Option Sg
  | 0 => fun _ _ => none
  | n + 1 => Lb_X7_serveContracts_2 b (L_X7_serveContracts_2 b n)
def f_X7_serveContracts (b : Nat) (S : Sg) : Option Sg :=
  L_X7_serveContracts_2 b gFu S (0 : Int32)
def Lb_X8_countOf_4 (b : Nat) (K4 : Sg → Int32 → Int32 → Int32 → Option (Int32 × Sg)) (S : Sg) (x1 : Int32) (x2 : Int32) (x3 : Int32) : Option (Int32 × Sg) :=
  if (S (b + 1) 4) ≤ x3 then
    some (x2, S)
  else
    gbi (f_X10_at (b + 7) 16 x3 S) (fun v_2 S_1 =>
    if v_2 = x1 then
      gvi (x2 + (1 : Int32)) (fun x2_5 =>
      gvi (x3 + (1 : Int32)) (fun x3_6 =>
      K4 S_1 x1 x2_5 x3_6))
    else
      gvi (x2 + (0 : Int32)) (fun x2_3 =>
      gvi (x3 + (1 : Int32)) (fun x3_4 =>
      K4 S_1 x1 x2_3 x3_4)))
def L_X8_countOf_4 (b : Nat) : Nat → Sg → Int32 → Int32 → Int32 → Option (Int32 × Sg)
  | 0 => fun _ _ _ _ => none
  | n + 1 => Lb_X8_countOf_4 b (L_X8_countOf_4 b n)
def f_X8_countOf (b : Nat) (x1 : Int32) (S : Sg) : Option (Int32 × Sg) :=
  L_X8_countOf_4 b gFu S x1 (0 : Int32) (0 : Int32)
def Lb_X7_payUpkeep_2 (b : Nat) (K2 : Sg → Int32 → Option Sg) (S : Sg) (x1 : Int32) : Option Sg :=
  if (4 : Int32) ≤ x1 then
    some S
  else
    gbi (f_X8_countOf b x1 S) (fun v_2 S_1 =>
    gbi (f_X0_levelsOf b x1 S_1) (fun v_4 S_3 =>
    gbv (f_X0_transfer b x1 (4 : Int32) (v_2 + v_4) S_3) (fun S_5 =>
    gvi (x1 + (1 : Int32)) (fun x1_6 =>
    K2 S_5 x1_6))))
def L_X7_payUpkeep_2 (b : Nat) : Nat → Sg → Int32 → Option Sg
  | 0 => fun _ _ => none
  | n + 1 => Lb_X7_payUpkeep_2 b (L_X7_payUpkeep_2 b n)
def f_X7_payUpkeep (b : Nat) (S : Sg) : Option Sg :=
  L_X7_payUpkeep_2 b gFu S (0 : Int32)
def Lb_X8_returnToBank_2 (b : Nat) (K2 : Sg → Int32 → Int32 → Option Sg) (S : Sg) (x1 : Int32) (x2 : Int32) : Option Sg :=
  if (S (b + 1) 4) ≤ x2 then
    some S
  else
    gbi (f_X10_at (b + 7) 16 x2 S) (fun v_2 S_1 =>
    if v_2 = x1 then
      gbv (f_X10_put (b + 7) 16 x2 (4 : Int32) S_1) (fun S_4 =>
      gvi (x2 + (1 : Int32)) (fun x2_5 =>
      K2 S_4 x1 x2_5))
    else
      gvi (x2 + (1 : Int32)) (fun x2_3 =>
      K2 S_1 x1 x2_3))
def L_X8_returnToBank_2 (b : Nat) : Nat → Sg → Int32 → Int32 → Option Sg
  | 0 => fun _ _ _ => none
  | n + 1 => Lb_X8_returnToBank_2 b (L_X8_returnToBank_2 b n)
def f_X8_returnToBank (b : Nat) (x1 : Int32) (S : Sg) : Option Sg :=
  L_X8_returnToBank_2 b gFu S x1 (0 : Int32)
def Lb_X1_leaveHolder_2 (b : Nat) (K2 : Sg → Int32 → Int32 → Option Sg) (S : Sg) (x1 : Int32) (x2 : Int32) : Option Sg :=
  if (S (b + 2) 6) ≤ x2 then
    some S
  else
    gbi (f_X10_at (b + 12) 8 x2 S) (fun v_2 S_1 =>
    if v_2 = x1 then
      gbv (f_X10_put (b + 12) 8 x2 (-9 : Int32) S_1) (fun S_4 =>
      gvi (x2 + (1 : Int32)) (fun x2_5 =>
      K2 S_4 x1 x2_5))
    else
      gvi (x2 + (1 : Int32)) (fun x2_3 =>
      K2 S_1 x1 x2_3))
def L_X1_leaveHolder_2 (b : Nat) : Nat → Sg → Int32 → Int32 → Option Sg
  | 0 => fun _ _ _ => none
  | n + 1 => Lb_X1_leaveHolder_2 b (L_X1_leaveHolder_2 b n)
def f_X1_leaveHolder (b : Nat) (x1 : Int32) (S : Sg) : Option Sg :=
  L_X1_leaveHolder_2 b gFu S x1 (0 : Int32)
def Lb_X7_settle_4 (b : Nat) (K4 : Sg → Int32 → Int32 → Option (Int32 × Sg)) (S : Sg) (x1 : Int32) (x2 : Int32) : Option (Int32 × Sg) :=
  if (4 : Int32) ≤ x2 then
    some (x1, S)
  else
    gbi (f_X10_at (b + 14) 5 x2 S) (fun v_2 S_1 =>
    if 0 ≤ v_2 then
      gvi (x2 + (1 : Int32)) (fun x2_3 =>
      K4 S_1 x1 x2_3)
    else
      gbv (f_X0_goBankrupt b x2 S_1) (fun S_4 =>
      gbv (f_X8_returnToBank b x2 S_4) (fun S_5 =>
      gbv (f_X1_leaveHolder b x2 S_5) (fun S_6 =>
      gvi (x1 + (1 : Int32)) (fun x1_7 =>
      gvi (x2 + (1 : Int32)) (fun x2_8 =>
      K4 S_6 x1_7 x2_8))))))
def L_X7_settle_4 (b : Nat) : Nat → Sg → Int32 → Int32 → Option (Int32 × Sg)
  | 0 => fun _ _ _ => none
  | n + 1 => Lb_X7_settle_4 b (L_X7_settle_4 b n)
def f_X7_settle (b : Nat) (S : Sg) : Option (Int32 × Sg) :=
  L_X7_settle_4 b gFu S (0 : Int32) (0 : Int32)
def f_X7_closeRound (b : Nat) (S : Sg) : Option (Int32 × Sg) :=
  gbv (f_X7_serveContracts b S) (fun S_1 =>
  gbv (f_X7_payUpkeep b S_1) (fun S_2 =>
  gbi (f_X7_settle b S_2) (fun v_4 S_3 =>
  gst (u2 S_3 b 5 ((S_3 b 5) + (1 : Int32))) (fun S_5 =>
  gbv (f_X10_fill (b + 13) 8 (0 : Int32) S_5) (fun S_6 =>
  gbv (f_X10_fill (b + 20) 16 (0 : Int32) S_6) (fun S_7 =>
  some (v_4, S_7)))))))
def f_X10_endRound (S : Sg) : Option (Int32 × Sg) :=
  gbv (f_X3_remember 25 S) (fun S_1 =>
  gbi (f_X7_closeRound 25 S_1) (fun v_3 S_2 =>
  some (v_3, S_2)))
def f_X2_holds (x1 : Int32) (x2 : Int32) (S : Sg) : Option (Int32 × Sg) :=
  if x1 < 0 then
    some ((0 : Int32), S)
  else
    if (S 1 1) ≤ x1 then
      some ((0 : Int32), S)
    else
      gbi (f_X10_at 2 100 x1 S) (fun v_2 S_1 =>
      if v_2 = x2 then
        some ((1 : Int32), S_1)
      else
        some ((0 : Int32), S_1))
def f_X2_digitAt (x1 : Int32) (S : Sg) : Option (Int32 × Sg) :=
  if x1 < 0 then
    some ((-1 : Int32), S)
  else
    if x1 < (S 1 1) then
      gbi (f_X10_at 2 100 x1 S) (fun v_2 S_1 =>
      if v_2 < (48 : Int32) then
        some ((-1 : Int32), S_1)
      else
        if (57 : Int32) < v_2 then
          some ((-1 : Int32), S_1)
        else
          some (v_2 - (48 : Int32), S_1))
    else
      some ((-1 : Int32), S)
def f_X7_begin (b : Nat) (x1 : Int32) (S : Sg) : Option Sg :=
  gst (u2 S (b + 1) 4 (0 : Int32)) (fun S_1 =>
  gst (u2 S_1 (b + 2) 6 (0 : Int32)) (fun S_2 =>
  gbv (f_X0_begin b S_2) (fun S_3 =>
  gst (u2 S_3 b 3 x1) (fun S_4 =>
  gst (u2 S_4 b 4 (1 : Int32)) (fun S_5 =>
  gst (u2 S_5 b 5 (0 : Int32)) (fun S_6 =>
  gst (u2 S_6 b 6 (0 : Int32)) (fun S_7 =>
  gst (u2 S_7 b 7 (0 : Int32)) (fun S_8 =>
  gst (u2 S_8 b 8 (0 : Int32)) (fun S_9 =>
  some S_9)))))))))
def f_X8_areFull (b : Nat) (S : Sg) : Option (Int32 × Sg) :=
  if (S (b + 1) 4) < (16 : Int32) then
    some ((0 : Int32), S)
  else
    some ((1 : Int32), S)
def f_X2_errorOfCities (x1 : Int32) (x2 : Int32) (S : Sg) : Option (Int32 × Sg) :=
  gbi (f_X2_digitAt x2 S) (fun v_2 S_1 =>
  if v_2 < 0 then
    some (x2, S_1)
  else
    if v_2 < x1 then
      gbi (f_X2_digitAt (x2 + (1 : Int32)) S_1) (fun v_4 S_3 =>
      if v_4 < 0 then
        some (x2 + (1 : Int32), S_3)
      else
        if x1 ≤ v_4 then
          some (x2 + (1 : Int32), S_3)
        else
          if v_4 = v_2 then
            some (x2 + (1 : Int32), S_3)
          else
            some ((-9 : Int32), S_3))
    else
      some (x2, S_1))
def f_X8_add (b : Nat) (x1 : Int32) (x2 : Int32) (x3 : Int32) (S : Sg) : Option Sg :=
  gbi (f_X8_areFull b S) (fun v_2 S_1 =>
  if v_2 = 0 then
    gbv (f_X10_put (b + 4) 16 (S_1 (b + 1) 4) x1 S_1) (fun S_3 =>
    gbv (f_X10_put (b + 5) 16 (S_3 (b + 1) 4) x2 S_3) (fun S_4 =>
    gbv (f_X10_put (b + 6) 16 (S_4 (b + 1) 4) x3 S_4) (fun S_5 =>
    gbv (f_X10_put (b + 7) 16 (S_5 (b + 1) 4) (4 : Int32) S_5) (fun S_6 =>
    gst (u2 S_6 (b + 1) 4 ((S_6 (b + 1) 4) + (1 : Int32))) (fun S_7 =>
    some S_7)))))
  else
    some S_1)
def f_X2_readTrack (b1 : Nat) (x2 : Int32) (S : Sg) : Option (Int32 × Sg) :=
  gbi (f_X2_errorOfCities (S b1 3) (x2 + (1 : Int32)) S) (fun v_2 S_1 =>
  if v_2 = (-9 : Int32) then
    gbi (f_X2_digitAt (x2 + (3 : Int32)) S_1) (fun v_4 S_3 =>
    if (1 : Int32) ≤ v_4 then
      gbi (f_X2_digitAt (x2 + (1 : Int32)) S_3) (fun v_6 S_5 =>
      gbi (f_X2_digitAt (x2 + (2 : Int32)) S_5) (fun v_8 S_7 =>
      gbv (f_X8_add b1 v_6 v_8 v_4 S_7) (fun S_9 =>
      some ((-9 : Int32), S_9))))
    else
      some (x2 + (3 : Int32), S_3))
  else
    some (v_2, S_1))
def f_X1_areFull (b : Nat) (S : Sg) : Option (Int32 × Sg) :=
  if (S (b + 2) 6) < (8 : Int32) then
    some ((0 : Int32), S)
  else
    some ((1 : Int32), S)
def f_X1_add (b : Nat) (x1 : Int32) (x2 : Int32) (x3 : Int32) (x4 : Int32) (S : Sg) : Option Sg :=
  gbi (f_X1_areFull b S) (fun v_2 S_1 =>
  if v_2 = 0 then
    gbv (f_X10_put (b + 8) 8 (S_1 (b + 2) 6) x1 S_1) (fun S_3 =>
    gbv (f_X10_put (b + 9) 8 (S_3 (b + 2) 6) x2 S_3) (fun S_4 =>
    gbv (f_X10_put (b + 10) 8 (S_4 (b + 2) 6) x3 S_4) (fun S_5 =>
    gbv (f_X10_put (b + 11) 8 (S_5 (b + 2) 6) x4 S_5) (fun S_6 =>
    gbv (f_X10_put (b + 12) 8 (S_6 (b + 2) 6) (-9 : Int32) S_6) (fun S_7 =>
    gbv (f_X10_put (b + 13) 8 (S_7 (b + 2) 6) (0 : Int32) S_7) (fun S_8 =>
    gst (u2 S_8 (b + 2) 6 ((S_8 (b + 2) 6) + (1 : Int32))) (fun S_9 =>
    some S_9)))))))
  else
    some S_1)
def f_X2_readContract (b1 : Nat) (x2 : Int32) (S : Sg) : Option (Int32 × Sg) :=
  gbi (f_X2_errorOfCities (S b1 3) (x2 + (1 : Int32)) S) (fun v_2 S_1 =>
  if v_2 = (-9 : Int32) then
    gbi (f_X2_digitAt (x2 + (3 : Int32)) S_1) (fun v_4 S_3 =>
    if 0 ≤ v_4 then
      gbi (f_X2_digitAt (x2 + (4 : Int32)) S_3) (fun v_6 S_5 =>
      if v_6 < 0 then
        some (x2 + (4 : Int32), S_5)
      else
        if (v_4 + v_6) = 0 then
          some (x2 + (4 : Int32), S_5)
        else
          gbi (f_X2_digitAt (x2 + (5 : Int32)) S_5) (fun v_8 S_7 =>
          if (1 : Int32) ≤ v_8 then
            gbi (f_X2_digitAt (x2 + (1 : Int32)) S_7) (fun v_10 S_9 =>
            gbi (f_X2_digitAt (x2 + (2 : Int32)) S_9) (fun v_12 S_11 =>
            gbv (f_X1_add b1 v_10 v_12 (((10 : Int32) * v_4) + v_6) v_8 S_11) (fun S_13 =>
            some ((-9 : Int32), S_13))))
          else
            some (x2 + (5 : Int32), S_7)))
    else
      some (x2 + (3 : Int32), S_3))
  else
    some (v_2, S_1))
def B_X2_readPart_27 (b1 : Nat) (S : Sg) (x2 : Int32) : Option (Int32 × Sg) :=
  gbi (f_X2_holds x2 (99 : Int32) S) (fun v_2 S_1 =>
  if v_2 = 0 then
    some (x2, S_1)
  else
    gbi (f_X1_areFull b1 S_1) (fun v_4 S_3 =>
    if v_4 = 0 then
      gbi (f_X2_readContract b1 x2 S_3) (fun v_6 S_5 =>
      some (v_6, S_5))
    else
      some (x2, S_3)))
def f_X2_readPart (b1 : Nat) (x2 : Int32) (S : Sg) : Option (Int32 × Sg) :=
  gbi (f_X2_holds x2 (116 : Int32) S) (fun v_8 S_7 =>
  if v_8 = 0 then
    B_X2_readPart_27 b1 S_7 x2
  else
    gbi (f_X8_areFull b1 S_7) (fun v_10 S_9 =>
    if v_10 = 0 then
      gbi (f_X2_readTrack b1 x2 S_9) (fun v_12 S_11 =>
      some (v_12, S_11))
    else
      B_X2_readPart_27 b1 S_9 x2))
def Lb_X2_readInto_32 (b1 : Nat) (K32 : Sg → Int32 → Option (Int32 × Sg)) (S : Sg) (x3 : Int32) : Option (Int32 × Sg) :=
  if (S 1 1) ≤ x3 then
    some ((-9 : Int32), S)
  else
    gbi (f_X2_readPart b1 x3 S) (fun v_2 S_1 =>
    if v_2 = (-9 : Int32) then
      gbi (f_X2_holds x3 (116 : Int32) S_1) (fun v_4 S_3 =>
      if v_4 = 0 then
        gvi (x3 + (6 : Int32)) (fun x3_5 =>
        K32 S_3 x3_5)
      else
        gvi (x3 + (4 : Int32)) (fun x3_6 =>
        K32 S_3 x3_6))
    else
      some (v_2, S_1))
def L_X2_readInto_32 (b1 : Nat) : Nat → Sg → Int32 → Option (Int32 × Sg)
  | 0 => fun _ _ => none
  | n + 1 => Lb_X2_readInto_32 b1 (L_X2_readInto_32 b1 n)
def f_X2_readInto (b1 : Nat) (S : Sg) : Option (Int32 × Sg) :=
  gbi (f_X2_holds (0 : Int32) (82 : Int32) S) (fun v_8 S_7 =>
  if v_8 = 0 then
    some ((0 : Int32), S_7)
  else
    gbi (f_X2_digitAt (1 : Int32) S_7) (fun v_10 S_9 =>
    if (2 : Int32) ≤ v_10 then
      gbv (f_X7_begin b1 v_10 S_9) (fun S_11 =>
      L_X2_readInto_32 b1 gFu S_11 (2 : Int32))
    else
      some ((1 : Int32), S_9)))
def f_X10_errorPosition (S : Sg) : Option (Int32 × Sg) :=
  gbi (f_X2_readInto 46 S) (fun v_2 S_1 =>
  some (v_2, S_1))
def f_X10_isCompany (x0 : Int32) (S : Sg) : Option (Int32 × Sg) :=
  if x0 < 0 then
    some ((0 : Int32), S)
  else
    if (4 : Int32) ≤ x0 then
      some ((0 : Int32), S)
    else
      some ((1 : Int32), S)
def Lb_X10_sum_4 (k0 : Nat) (n0 : Nat) (K4 : Sg → Int32 → Int32 → Option (Int32 × Sg)) (S : Sg) (x1 : Int32) (x2 : Int32) : Option (Int32 × Sg) :=
  if (nI n0) ≤ x2 then
    some (x1, S)
  else
    gck (inb x2 n0) (
    gvi (x1 + (S k0 x2.toNatClampNeg)) (fun x1_1 =>
    gvi (x2 + (1 : Int32)) (fun x2_2 =>
    K4 S x1_1 x2_2)))
def L_X10_sum_4 (k0 : Nat) (n0 : Nat) : Nat → Sg → Int32 → Int32 → Option (Int32 × Sg)
  | 0 => fun _ _ _ => none
  | n + 1 => Lb_X10_sum_4 k0 n0 (L_X10_sum_4 k0 n0 n)
def f_X10_sum (k0 : Nat) (n0 : Nat) (S : Sg) : Option (Int32 × Sg) :=
  L_X10_sum_4 k0 n0 gFu S (0 : Int32) (0 : Int32)
def Lb_X1_countOf_4 (b : Nat) (K4 : Sg → Int32 → Int32 → Int32 → Option (Int32 × Sg)) (S : Sg) (x1 : Int32) (x2 : Int32) (x3 : Int32) : Option (Int32 × Sg) :=
  if (S (b + 2) 6) ≤ x3 then
    some (x2, S)
  else
    gbi (f_X10_at (b + 12) 8 x3 S) (fun v_2 S_1 =>
    if v_2 = x1 then
      gvi (x2 + (1 : Int32)) (fun x2_5 =>
      gvi (x3 + (1 : Int32)) (fun x3_6 =>
      K4 S_1 x1 x2_5 x3_6))
    else
      gvi (x2 + (0 : Int32)) (fun x2_3 =>
      gvi (x3 + (1 : Int32)) (fun x3_4 =>
      K4 S_1 x1 x2_3 x3_4)))
def L_X1_countOf_4 (b : Nat) : Nat → Sg → Int32 → Int32 → Int32 → Option (Int32 × Sg)
  | 0 => fun _ _ _ _ => none
  | n + 1 => Lb_X1_countOf_4 b (L_X1_countOf_4 b n)
def f_X1_countOf (b : Nat) (x1 : Int32) (S : Sg) : Option (Int32 × Sg) :=
  L_X1_countOf_4 b gFu S x1 (0 : Int32) (0 : Int32)
def f_X1_give (b : Nat) (x1 : Int32) (x2 : Int32) (S : Sg) : Option Sg :=
  gbv (f_X10_put (b + 12) 8 x1 x2 S) (fun S_1 =>
  some S_1)
def f_X2_isFull (S : Sg) : Option (Int32 × Sg) :=
  if (S 1 1) < (100 : Int32) then
    some ((0 : Int32), S)
  else
    some ((1 : Int32), S)
def f_X2_add (x1 : Int32) (S : Sg) : Option (Int32 × Sg) :=
  gbi (f_X2_isFull S) (fun v_2 S_1 =>
  if v_2 = 0 then
    gbv (f_X10_put 2 100 (S_1 1 1) x1 S_1) (fun S_3 =>
    gst (u2 S_3 1 1 ((S_3 1 1) + (1 : Int32))) (fun S_4 =>
    some (S_4 1 1, S_4)))
  else
    some (S_1 1 1, S_1))
def f_X3_forget (S : Sg) : Option Sg :=
  gst (u2 S 3 2 (0 : Int32)) (fun S_1 =>
  some S_1)
def f_X3_takeBackInto (b1 : Nat) (S : Sg) : Option Sg :=
  if (S 3 2) ≤ 0 then
    some S
  else
    gst (u2 S 3 2 ((S 3 2) - (1 : Int32))) (fun S_1 =>
    gbn (f_X3_stateAt (S_1 3 2) S_1) (fun v_3 S_2 =>
    gbv (f_X10_copyState v_3 b1 S_2) (fun S_4 =>
    some S_4)))
def Lb_X9_setPrices_8 (b1 : Nat) (K8 : Sg → Int32 → Int32 → Option Sg) (S : Sg) (x2 : Int32) (x4 : Int32) : Option Sg :=
  if (S (b1 + 1) 4) ≤ x4 then
    some S
  else
    gbi (f_X10_at (b1 + 6) 16 x4 S) (fun v_2 S_1 =>
    gbi (f_X10_at (b1 + 7) 16 x4 S_1) (fun v_4 S_3 =>
    gbi (f_X0_rentFor b1 x2 v_4 S_3) (fun v_6 S_5 =>
    gbv (f_X10_put 12 16 x4 (v_2 * v_6) S_5) (fun S_7 =>
    gvi (x4 + (1 : Int32)) (fun x4_8 =>
    K8 S_7 x2 x4_8)))))
def L_X9_setPrices_8 (b1 : Nat) : Nat → Sg → Int32 → Int32 → Option Sg
  | 0 => fun _ _ _ => none
  | n + 1 => Lb_X9_setPrices_8 b1 (L_X9_setPrices_8 b1 n)
def f_X9_setPrices (b1 : Nat) (x2 : Int32) (S : Sg) : Option Sg :=
  L_X9_setPrices_8 b1 gFu S x2 (0 : Int32)
def f_X9_place (x0 : Int32) (x1 : Int32) (S : Sg) : Option (Int32 × Sg) :=
  some ((x0 * (9 : Int32)) + x1, S)
def f_X9_leastAt (x1 : Int32) (S : Sg) : Option (Int32 × Sg) :=
  if x1 < 0 then
    some ((1000000 : Int32), S)
  else
    if (nI 225) ≤ x1 then
      some ((1000000 : Int32), S)
    else
      gck (inb x1 225) (
      some (S 10 x1.toNatClampNeg, S))
def f_X9_beginWith (x1 : Int32) (x2 : Int32) (x3 : Int32) (S : Sg) : Option Sg :=
  gbi (f_X9_leastAt x3 S) (fun v_2 S_1 =>
  gbi (f_X10_at 12 16 x1 S_1) (fun v_4 S_3 =>
  gvi (v_2 + v_4) (fun x4_5 =>
  gbi (f_X9_leastAt x2 S_3) (fun v_7 S_6 =>
  if v_7 ≤ x4_5 then
    some S_6
  else
    gbv (f_X10_put 10 225 x2 x4_5 S_6) (fun S_8 =>
    gbv (f_X10_put 11 225 x2 x1 S_8) (fun S_9 =>
    some S_9))))))
def Lb_X9_measure_34 (b1 : Nat) (K25 : Sg → Int32 → Int32 → Option Sg) (K34 : Sg → Int32 → Int32 → Int32 → Option Sg) (S : Sg) (x3 : Int32) (x4 : Int32) (x5 : Int32) : Option Sg :=
  if (S (b1 + 1) 4) ≤ x5 then
    gvi (x4 + (1 : Int32)) (fun x4_1 =>
    K25 S x3 x4_1)
  else
    gbi (f_X10_at (b1 + 6) 16 x5 S) (fun v_3 S_2 =>
    gvi (x4 - v_3) (fun x6_4 =>
    gbi (f_X10_at (b1 + 4) 16 x5 S_2) (fun v_6 S_5 =>
    gbi (f_X9_place x4 v_6 S_5) (fun v_8 S_7 =>
    gbi (f_X10_at (b1 + 5) 16 x5 S_7) (fun v_10 S_9 =>
    gbi (f_X9_place x6_4 v_10 S_9) (fun v_12 S_11 =>
    gbv (f_X9_beginWith x5 v_8 v_12 S_11) (fun S_13 =>
    gbi (f_X10_at (b1 + 5) 16 x5 S_13) (fun v_15 S_14 =>
    gbi (f_X9_place x4 v_15 S_14) (fun v_17 S_16 =>
    gbi (f_X10_at (b1 + 4) 16 x5 S_16) (fun v_19 S_18 =>
    gbi (f_X9_place x6_4 v_19 S_18) (fun v_21 S_20 =>
    gbv (f_X9_beginWith x5 v_17 v_21 S_20) (fun S_22 =>
    gvi (x5 + (1 : Int32)) (fun x5_23 =>
    K34 S_22 x3 x4 x5_23)))))))))))))
def L_X9_measure_34 (b1 : Nat) (K25 : Sg → Int32 → Int32 → Option Sg) : Nat → Sg → Int32 → Int32 → Int32 → Option Sg
  | 0 => fun _ _ _ _ => none
  | n + 1 => Lb_X9_measure_34 b1 K25 (L_X9_measure_34 b1 K25 n)
def Lb_X9_measure_25 (b1 : Nat) (K25 : Sg → Int32 → Int32 → Option Sg) (S : Sg) (x3 : Int32) (x4 : Int32) : Option Sg :=
  if x3 < x4 then
    some S
  else
    L_X9_measure_34 b1 K25 gFu S x3 x4 (0 : Int32)
def L_X9_measure_25 (b1 : Nat) : Nat → Sg → Int32 → Int32 → Option Sg
  | 0 => fun _ _ _ => none
  | n + 1 => Lb_X9_measure_25 b1 (L_X9_measure_25 b1 n)
def f_X9_measure (b1 : Nat) (x2 : Int32) (x3 : Int32) (S : Sg) : Option Sg :=
  gbv (f_X10_fill 10 225 (1000000 : Int32) S) (fun S_24 =>
  gbi (f_X9_place (0 : Int32) x2 S_24) (fun v_26 S_25 =>
  gbv (f_X10_put 10 225 v_26 (0 : Int32) S_25) (fun S_27 =>
  L_X9_measure_25 b1 gFu S_27 x3 (1 : Int32))))
def Lb_X9_chooseLength_13 (K13 : Sg → Int32 → Int32 → Int32 → Option Sg) (S : Sg) (x1 : Int32) (x2 : Int32) (x3 : Int32) : Option Sg :=
  if x2 < x3 then
    some S
  else
    gbi (f_X9_place x3 x1 S) (fun v_2 S_1 =>
    gbi (f_X9_leastAt v_2 S_1) (fun v_4 S_3 =>
    if (S_3 9 5) ≤ v_4 then
      gvi (x3 + (1 : Int32)) (fun x3_5 =>
      K13 S_3 x1 x2 x3_5)
    else
      gbi (f_X9_place x3 x1 S_3) (fun v_7 S_6 =>
      gbi (f_X9_leastAt v_7 S_6) (fun v_9 S_8 =>
      gst (u2 S_8 9 5 v_9) (fun S_10 =>
      gst (u2 S_10 9 6 x3) (fun S_11 =>
      gvi (x3 + (1 : Int32)) (fun x3_12 =>
      K13 S_11 x1 x2 x3_12)))))))
def L_X9_chooseLength_13 : Nat → Sg → Int32 → Int32 → Int32 → Option Sg
  | 0 => fun _ _ _ _ => none
  | n + 1 => Lb_X9_chooseLength_13 (L_X9_chooseLength_13 n)
def f_X9_chooseLength (x1 : Int32) (x2 : Int32) (S : Sg) : Option Sg :=
  gst (u2 S 9 5 (1000000 : Int32)) (fun S_13 =>
  gst (u2 S_13 9 6 (0 : Int32)) (fun S_14 =>
  L_X9_chooseLength_13 gFu S_14 x1 x2 (1 : Int32)))
def f_X8_farEnd (b : Nat) (x1 : Int32) (x2 : Int32) (S : Sg) : Option (Int32 × Sg) :=
  gbi (f_X10_at (b + 4) 16 x1 S) (fun v_2 S_1 =>
  if v_2 = x2 then
    gbi (f_X10_at (b + 5) 16 x1 S_1) (fun v_8 S_7 =>
    some (v_8, S_7))
  else
    gbi (f_X10_at (b + 5) 16 x1 S_1) (fun v_4 S_3 =>
    if v_4 = x2 then
      gbi (f_X10_at (b + 4) 16 x1 S_3) (fun v_6 S_5 =>
      some (v_6, S_5))
    else
      some ((-9 : Int32), S_3)))
def Lb_X9_follow_13 (b1 : Nat) (K13 : Sg → Int32 → Int32 → Option Sg) (S : Sg) (x3 : Int32) (x4 : Int32) : Option Sg :=
  if x4 ≤ 0 then
    some S
  else
    if (24 : Int32) ≤ (S 9 4) then
      some S
    else
      gbi (f_X9_place x4 x3 S) (fun v_2 S_1 =>
      gbi (f_X10_at 11 225 v_2 S_1) (fun v_4 S_3 =>
      gbv (f_X10_put 13 24 (S_3 9 4) v_4 S_3) (fun S_5 =>
      gst (u2 S_5 9 4 ((S_5 9 4) + (1 : Int32))) (fun S_6 =>
      gbi (f_X8_farEnd b1 v_4 x3 S_6) (fun v_8 S_7 =>
      gbi (f_X10_at (b1 + 6) 16 v_4 S_7) (fun v_10 S_9 =>
      gvi (x4 - v_10) (fun x4_11 =>
      K13 S_9 v_8 x4_11)))))))
def L_X9_follow_13 (b1 : Nat) : Nat → Sg → Int32 → Int32 → Option Sg
  | 0 => fun _ _ _ => none
  | n + 1 => Lb_X9_follow_13 b1 (L_X9_follow_13 b1 n)
def f_X9_follow (b1 : Nat) (x2 : Int32) (S : Sg) : Option Sg :=
  gvi (S 9 6) (fun x4_12 =>
  gst (u2 S 9 4 (0 : Int32)) (fun S_13 =>
  L_X9_follow_13 b1 gFu S_13 x2 x4_12))
def f_X9_find (b1 : Nat) (x2 : Int32) (x3 : Int32) (x4 : Int32) (x5 : Int32) (S : Sg) : Option (Int32 × Sg) :=
  gbv (f_X9_setPrices b1 x2 S) (fun S_1 =>
  gbv (f_X9_measure b1 x4 x5 S_1) (fun S_2 =>
  gbv (f_X9_chooseLength x3 x5 S_2) (fun S_3 =>
  gbv (f_X9_follow b1 x3 S_3) (fun S_4 =>
  if (1000000 : Int32) ≤ (S_4 9 5) then
    some ((0 : Int32), S_4)
  else
    some ((1 : Int32), S_4)))))
def Lb_X4_bestFree_27 (b1 : Nat) (K27 : Sg → Int32 → Int32 → Int32 → Int32 → Int32 → Option (Int32 × Sg)) (S : Sg) (x2 : Int32) (x4 : Int32) (x5 : Int32) (x6 : Int32) (x7 : Int32) : Option (Int32 × Sg) :=
  if (S (b1 + 2) 6) ≤ x7 then
    some (x5, S)
  else
    gbi (f_X1_isFree b1 x7 S) (fun v_2 S_1 =>
    if v_2 = 0 then
      gvi (x7 + (1 : Int32)) (fun x7_3 =>
      K27 S_1 x2 x4 x5 x6 x7_3)
    else
      gbi (f_X10_at (b1 + 8) 8 x7 S_1) (fun v_5 S_4 =>
      gbi (f_X10_at (b1 + 9) 8 x7 S_4) (fun v_7 S_6 =>
      gbi (f_X9_find b1 x2 v_5 v_7 x4 S_6) (fun v_9 S_8 =>
      if v_9 = 0 then
        gvi (x7 + (1 : Int32)) (fun x7_10 =>
        K27 S_8 x2 x4 x5 x6 x7_10)
      else
        gbi (f_X10_at (b1 + 10) 8 x7 S_8) (fun v_12 S_11 =>
        gvi (v_12 - (S_11 9 5)) (fun x8_13 =>
        if x5 = (-9 : Int32) then
          gvi (x7 + (1 : Int32)) (fun x7_14 =>
          K27 S_11 x2 x4 x7 x8_13 x7_14)
        else
          if x8_13 ≤ x6 then
            gvi (x7 + (1 : Int32)) (fun x7_15 =>
            K27 S_11 x2 x4 x5 x6 x7_15)
          else
            gvi (x7 + (1 : Int32)) (fun x7_16 =>
            K27 S_11 x2 x4 x7 x8_13 x7_16)))))))
def L_X4_bestFree_27 (b1 : Nat) : Nat → Sg → Int32 → Int32 → Int32 → Int32 → Int32 → Option (Int32 × Sg)
  | 0 => fun _ _ _ _ _ _ => none
  | n + 1 => Lb_X4_bestFree_27 b1 (L_X4_bestFree_27 b1 n)
def f_X4_bestFree (b1 : Nat) (x2 : Int32) (S : Sg) : Option (Int32 × Sg) :=
  gbi (f_X0_greatestLevel b1 x2 S) (fun v_18 S_17 =>
  gvi ((4 : Int32) * v_18) (fun x4_19 =>
  L_X4_bestFree_27 b1 gFu S_17 x2 x4_19 (-9 : Int32) (0 : Int32) (0 : Int32)))
def f_X7_payMail (b : Nat) (x1 : Int32) (x2 : Int32) (S : Sg) : Option Sg :=
  gbv (f_X0_transfer b (4 : Int32) x1 x2 S) (fun S_1 =>
  gst (u2 S_1 b 6 ((S_1 b 6) + x2)) (fun S_2 =>
  some S_2))
def Lb_X4_carry_62 (b1 : Nat) (K62 : Sg → Int32 → Int32 → Int32 → Int32 → Option (Int32 × Sg)) (S : Sg) (x2 : Int32) (x3 : Int32) (x5 : Int32) (x7 : Int32) : Option (Int32 × Sg) :=
  if (S 9 4) ≤ x7 then
    gbi (f_X10_at (b1 + 10) 8 x2 S) (fun v_2 S_1 =>
    gbv (f_X7_payMail b1 x5 v_2 S_1) (fun S_3 =>
    gbv (f_X10_put (b1 + 13) 8 x2 (1 : Int32) S_3) (fun S_4 =>
    gbv (f_X0_markRun b1 x5 x3 S_4) (fun S_5 =>
    some (S_5 9 5, S_5)))))
  else
    gbi (f_X10_at 13 24 x7 S) (fun v_7 S_6 =>
    gbi (f_X10_at (b1 + 7) 16 v_7 S_6) (fun v_9 S_8 =>
    gbi (f_X10_at 12 16 v_7 S_8) (fun v_11 S_10 =>
    gbv (f_X0_payRent b1 x5 v_9 v_11 S_10) (fun S_12 =>
    gvi (x7 + (1 : Int32)) (fun x7_13 =>
    K62 S_12 x2 x3 x5 x7_13)))))
def L_X4_carry_62 (b1 : Nat) : Nat → Sg → Int32 → Int32 → Int32 → Int32 → Option (Int32 × Sg)
  | 0 => fun _ _ _ _ _ => none
  | n + 1 => Lb_X4_carry_62 b1 (L_X4_carry_62 b1 n)
def f_X4_carry (b1 : Nat) (x2 : Int32) (x3 : Int32) (S : Sg) : Option (Int32 × Sg) :=
  gbi (f_X1_holderOf b1 x2 S) (fun v_15 S_14 =>
  gbi (f_X0_levelOf b1 v_15 x3 S_14) (fun v_17 S_16 =>
  gvi ((4 : Int32) * v_17) (fun x6_18 =>
  gbi (f_X10_at (b1 + 8) 8 x2 S_16) (fun v_20 S_19 =>
  gbi (f_X10_at (b1 + 9) 8 x2 S_19) (fun v_22 S_21 =>
  gbi (f_X9_find b1 v_15 v_20 v_22 x6_18 S_21) (fun v_24 S_23 =>
  L_X4_carry_62 b1 gFu S_23 x2 x3 v_15 (0 : Int32)))))))
def f_X4_reasonAgainst (b1 : Nat) (x2 : Int32) (x3 : Int32) (S : Sg) : Option (Int32 × Sg) :=
  gbi (f_X1_holderOf b1 x2 S) (fun v_2 S_1 =>
  if v_2 = (-9 : Int32) then
    some ((1 : Int32), S_1)
  else
    gbi (f_X10_at (b1 + 13) 8 x2 S_1) (fun v_4 S_3 =>
    if v_4 = (1 : Int32) then
      some ((2 : Int32), S_3)
    else
      gbi (f_X0_hasRun b1 v_2 x3 S_3) (fun v_6 S_5 =>
      if v_6 = 0 then
        gbi (f_X0_levelOf b1 v_2 x3 S_5) (fun v_8 S_7 =>
        gvi ((4 : Int32) * v_8) (fun x6_9 =>
        gbi (f_X10_at (b1 + 8) 8 x2 S_7) (fun v_11 S_10 =>
        gbi (f_X10_at (b1 + 9) 8 x2 S_10) (fun v_13 S_12 =>
        gbi (f_X9_find b1 v_2 v_11 v_13 x6_9 S_12) (fun v_15 S_14 =>
        if v_15 = 0 then
          some ((4 : Int32), S_14)
        else
          some ((0 : Int32), S_14))))))
      else
        some ((3 : Int32), S_5))))
def B_X4_tryCarry_34 (b1 : Nat) (S : Sg) (x2 : Int32) (x3 : Int32) (t0 : Int32) : Option (Int32 × Sg) :=
  if t0 = 0 then
    gck (isb t0) (some (t0, S))
  else
    gbi (f_X4_carry b1 x2 x3 S) (fun v_2 S_1 =>
    gck (isb t0) (some (t0, S_1)))
def f_X4_tryCarry (b1 : Nat) (x2 : Int32) (x3 : Int32) (S : Sg) : Option (Int32 × Sg) :=
  gbi (f_X1_holderOf b1 x2 S) (fun v_4 S_3 =>
  gbi (f_X0_hasTrain b1 v_4 x3 S_3) (fun v_6 S_5 =>
  if v_6 = 0 then
    B_X4_tryCarry_34 b1 S_5 x2 x3 (0 : Int32)
  else
    gbi (f_X4_reasonAgainst b1 x2 x3 S_5) (fun v_8 S_7 =>
    if v_8 = 0 then
      B_X4_tryCarry_34 b1 S_7 x2 x3 (1 : Int32)
    else
      B_X4_tryCarry_34 b1 S_7 x2 x3 (0 : Int32))))
def Lb_X4_carryAll_15 (b1 : Nat) (K2 : Sg → Int32 → Option Sg) (K15 : Sg → Int32 → Int32 → Option Sg) (S : Sg) (x2 : Int32) (x3 : Int32) : Option Sg :=
  if (4 : Int32) ≤ x3 then
    gvi (x2 + (1 : Int32)) (fun x2_1 =>
    K2 S x2_1)
  else
    gbi (f_X4_tryCarry b1 x2 x3 S) (fun v_3 S_2 =>
    if v_3 = 0 then
      gvi (x3 + (1 : Int32)) (fun x3_4 =>
      K15 S_2 x2 x3_4)
    else
      gvi (x2 + (1 : Int32)) (fun x2_5 =>
      K2 S_2 x2_5))
def L_X4_carryAll_15 (b1 : Nat) (K2 : Sg → Int32 → Option Sg) : Nat → Sg → Int32 → Int32 → Option Sg
  | 0 => fun _ _ _ => none
  | n + 1 => Lb_X4_carryAll_15 b1 K2 (L_X4_carryAll_15 b1 K2 n)
def Lb_X4_carryAll_2 (b1 : Nat) (K2 : Sg → Int32 → Option Sg) (S : Sg) (x2 : Int32) : Option Sg :=
  if (S (b1 + 2) 6) ≤ x2 then
    some S
  else
    L_X4_carryAll_15 b1 K2 gFu S x2 (0 : Int32)
def L_X4_carryAll_2 (b1 : Nat) : Nat → Sg → Int32 → Option Sg
  | 0 => fun _ _ => none
  | n + 1 => Lb_X4_carryAll_2 b1 (L_X4_carryAll_2 b1 n)
def f_X4_carryAll (b1 : Nat) (S : Sg) : Option Sg :=
  L_X4_carryAll_2 b1 gFu S (0 : Int32)
def Lb_X4_smallestLevel_9 (b1 : Nat) (K9 : Sg → Int32 → Int32 → Int32 → Option (Int32 × Sg)) (S : Sg) (x2 : Int32) (x3 : Int32) (x5 : Int32) : Option (Int32 × Sg) :=
  if (6 : Int32) < x5 then
    some ((-9 : Int32), S)
  else
    gbi (f_X10_at (b1 + 8) 8 x3 S) (fun v_2 S_1 =>
    gbi (f_X10_at (b1 + 9) 8 x3 S_1) (fun v_4 S_3 =>
    gbi (f_X9_find b1 x2 v_2 v_4 ((4 : Int32) * x5) S_3) (fun v_6 S_5 =>
    if v_6 = 0 then
      gvi (x5 + (1 : Int32)) (fun x5_7 =>
      K9 S_5 x2 x3 x5_7)
    else
      some (x5, S_5))))
def L_X4_smallestLevel_9 (b1 : Nat) : Nat → Sg → Int32 → Int32 → Int32 → Option (Int32 × Sg)
  | 0 => fun _ _ _ _ => none
  | n + 1 => Lb_X4_smallestLevel_9 b1 (L_X4_smallestLevel_9 b1 n)
def f_X4_smallestLevel (b1 : Nat) (x2 : Int32) (x3 : Int32) (S : Sg) : Option (Int32 × Sg) :=
  L_X4_smallestLevel_9 b1 gFu S x2 x3 (1 : Int32)
def f_X5_changeRent (b0 : Nat) (x1 : Int32) (x2 : Int32) (S : Sg) : Option (Int32 × Sg) :=
  gbi (f_X10_isCompany x1 S) (fun v_2 S_1 =>
  if v_2 = 0 then
    gck (isb v_2) (some (v_2, S_1))
  else
    gbv (f_X0_changeRent b0 x1 x2 S_1) (fun S_3 =>
    gck (isb v_2) (some (v_2, S_3))))
def f_X5_endOfRound (b0 : Nat) (S : Sg) : Option (Int32 × Sg) :=
  gbi (f_X7_closeRound b0 S) (fun v_2 S_1 =>
  some ((1 : Int32), S_1))
def f_X8_has (b : Nat) (x1 : Int32) (S : Sg) : Option (Int32 × Sg) :=
  if x1 < 0 then
    some ((0 : Int32), S)
  else
    if (S (b + 1) 4) ≤ x1 then
      some ((0 : Int32), S)
    else
      some ((1 : Int32), S)
def f_X8_isOfBank (b : Nat) (x1 : Int32) (S : Sg) : Option (Int32 × Sg) :=
  gbi (f_X10_at (b + 7) 16 x1 S) (fun v_2 S_1 =>
  if v_2 = (4 : Int32) then
    some ((1 : Int32), S_1)
  else
    some ((0 : Int32), S_1))
def f_X8_priceOf (b : Nat) (x1 : Int32) (S : Sg) : Option (Int32 × Sg) :=
  gbi (f_X10_at (b + 6) 16 x1 S) (fun v_2 S_1 =>
  some ((3 : Int32) * v_2, S_1))
def f_X7_maySellTrack (b : Nat) (x1 : Int32) (x2 : Int32) (S : Sg) : Option (Int32 × Sg) :=
  gbi (f_X10_isCompany x1 S) (fun v_2 S_1 =>
  if v_2 = 0 then
    some ((0 : Int32), S_1)
  else
    gbi (f_X8_has b x2 S_1) (fun v_4 S_3 =>
    if v_4 = 0 then
      some ((0 : Int32), S_3)
    else
      gbi (f_X8_isOfBank b x2 S_3) (fun v_6 S_5 =>
      if v_6 = 0 then
        some ((0 : Int32), S_5)
      else
        gbi (f_X10_at (b + 14) 5 x1 S_5) (fun v_8 S_7 =>
        gbi (f_X8_priceOf b x2 S_7) (fun v_10 S_9 =>
        if v_8 < v_10 then
          some ((0 : Int32), S_9)
        else
          some ((1 : Int32), S_9))))))
def f_X7_sellTrack (b : Nat) (x1 : Int32) (x2 : Int32) (S : Sg) : Option Sg :=
  gbi (f_X8_priceOf b x2 S) (fun v_2 S_1 =>
  gbv (f_X0_transfer b x1 (4 : Int32) v_2 S_1) (fun S_3 =>
  gbv (f_X10_put (b + 7) 16 x2 x1 S_3) (fun S_4 =>
  some S_4)))
def f_X7_tryTrack (b : Nat) (x1 : Int32) (x2 : Int32) (S : Sg) : Option (Int32 × Sg) :=
  gbi (f_X7_maySellTrack b x1 x2 S) (fun v_2 S_1 =>
  if v_2 = 0 then
    gck (isb v_2) (some (v_2, S_1))
  else
    gbv (f_X7_sellTrack b x1 x2 S_1) (fun S_3 =>
    gck (isb v_2) (some (v_2, S_3))))
def f_X7_maySellTrain (b : Nat) (x1 : Int32) (x2 : Int32) (S : Sg) : Option (Int32 × Sg) :=
  gbi (f_X10_isCompany x1 S) (fun v_2 S_1 =>
  if v_2 = 0 then
    some ((0 : Int32), S_1)
  else
    if x2 < (1 : Int32) then
      some ((0 : Int32), S_1)
    else
      if (6 : Int32) < x2 then
        some ((0 : Int32), S_1)
      else
        if x2 < ((S_1 b 4) - (1 : Int32)) then
          some ((0 : Int32), S_1)
        else
          if ((S_1 b 4) + (1 : Int32)) < x2 then
            some ((0 : Int32), S_1)
          else
            gbi (f_X10_at (b + 18) 4 x1 S_1) (fun v_4 S_3 =>
            if (4 : Int32) ≤ v_4 then
              some ((0 : Int32), S_3)
            else
              gbi (f_X10_at (b + 14) 5 x1 S_3) (fun v_6 S_5 =>
              if v_6 < ((20 : Int32) * x2) then
                some ((0 : Int32), S_5)
              else
                some ((1 : Int32), S_5))))
def f_X7_sellTrain (b : Nat) (x1 : Int32) (x2 : Int32) (S : Sg) : Option (Int32 × Sg) :=
  gbv (f_X0_transfer b x1 (4 : Int32) ((20 : Int32) * x2) S) (fun S_1 =>
  gbv (f_X0_addTrain b x1 x2 S_1) (fun S_2 =>
  if (S_2 b 4) < x2 then
    gst (u2 S_2 b 4 x2) (fun S_3 =>
    gbi (f_X0_dropBelow b ((S_3 b 4) - (1 : Int32)) S_3) (fun v_5 S_4 =>
    gst (u2 S_4 b 8 ((S_4 b 8) + v_5)) (fun S_6 =>
    some (v_5, S_6))))
  else
    some ((0 : Int32), S_2)))
def f_X7_tryTrain (b : Nat) (x1 : Int32) (x2 : Int32) (S : Sg) : Option (Int32 × Sg) :=
  gbi (f_X7_maySellTrain b x1 x2 S) (fun v_2 S_1 =>
  if v_2 = 0 then
    gck (isb v_2) (some (v_2, S_1))
  else
    gbi (f_X7_sellTrain b x1 x2 S_1) (fun v_4 S_3 =>
    gck (isb v_2) (some (v_2, S_3))))
def f_X7_mayGive (b : Nat) (x1 : Int32) (x2 : Int32) (S : Sg) : Option (Int32 × Sg) :=
  gbi (f_X10_isCompany x1 S) (fun v_2 S_1 =>
  if v_2 = 0 then
    some ((0 : Int32), S_1)
  else
    gbi (f_X1_has b x2 S_1) (fun v_4 S_3 =>
    if v_4 = 0 then
      some ((0 : Int32), S_3)
    else
      gbi (f_X1_isFree b x2 S_3) (fun v_6 S_5 =>
      if v_6 = 0 then
        some ((0 : Int32), S_5)
      else
        some ((1 : Int32), S_5))))
def f_X7_tryContract (b : Nat) (x1 : Int32) (x2 : Int32) (S : Sg) : Option (Int32 × Sg) :=
  gbi (f_X7_mayGive b x1 x2 S) (fun v_2 S_1 =>
  if v_2 = 0 then
    gck (isb v_2) (some (v_2, S_1))
  else
    gbv (f_X1_give b x2 x1 S_1) (fun S_3 =>
    gck (isb v_2) (some (v_2, S_3))))
def B_X5_obey_28 (b0 : Nat) (S : Sg) (x2 : Int32) (x3 : Int32) (x4 : Int32) (t0 : Int32) : Option (Int32 × Sg) :=
  if (x2 / (10000 : Int32)) = (1 : Int32) then
    if (100 : Int32) ≤ x4 then
      some ((0 : Int32), S)
    else
      gbi (f_X7_tryTrack b0 x3 x4 S) (fun v_2 S_1 =>
      if v_2 = 0 then
        some ((0 : Int32), S_1)
      else
        some ((1 : Int32), S_1))
  else
  if (x2 / (10000 : Int32)) = (2 : Int32) then
    if t0 = 0 then
      some ((0 : Int32), S)
    else
      gbi (f_X7_tryTrain b0 x3 x4 S) (fun v_5 S_4 =>
      if v_5 = 0 then
        some ((0 : Int32), S_4)
      else
        some ((1 : Int32), S_4))
  else
  if (x2 / (10000 : Int32)) = (3 : Int32) then
    if t0 = 0 then
      some ((0 : Int32), S)
    else
      gbi (f_X5_changeRent b0 x3 x4 S) (fun v_8 S_7 =>
      if v_8 = 0 then
        some ((0 : Int32), S_7)
      else
        some ((1 : Int32), S_7))
  else
  if (x2 / (10000 : Int32)) = (4 : Int32) then
    if t0 = 0 then
      some ((0 : Int32), S)
    else
      gbi (f_X7_tryContract b0 x3 x4 S) (fun v_11 S_10 =>
      if v_11 = 0 then
        some ((0 : Int32), S_10)
      else
        some ((1 : Int32), S_10))
  else
  if (x2 / (10000 : Int32)) = (5 : Int32) then
    if t0 = 0 then
      some ((0 : Int32), S)
    else
      gbi (f_X4_tryCarry b0 x3 x4 S) (fun v_14 S_13 =>
      if v_14 = 0 then
        some ((0 : Int32), S_13)
      else
        some ((1 : Int32), S_13))
  else
  if (x2 / (10000 : Int32)) = (6 : Int32) then
    if x3 = 0 then
      if x4 = 0 then
        gbi (f_X5_endOfRound b0 S) (fun v_17 S_16 =>
        if v_17 = 0 then
          some ((0 : Int32), S_16)
        else
          some ((1 : Int32), S_16))
      else
        some ((0 : Int32), S)
    else
      some ((0 : Int32), S)
  else
  if (x2 / (10000 : Int32)) = (7 : Int32) then
    gbi (f_X10_isCompany x3 S) (fun v_20 S_19 =>
    if v_20 = 0 then
      some ((0 : Int32), S_19)
    else
      gbi (f_X10_at (b0 + 14) 5 x3 S_19) (fun v_22 S_21 =>
      if v_22 < x4 then
        some ((0 : Int32), S_21)
      else
        some ((1 : Int32), S_21)))
  else
  if (x2 / (10000 : Int32)) = (8 : Int32) then
    if x3 = 0 then
      if t0 = 0 then
        some ((0 : Int32), S)
      else
        if (S b0 4) = x4 then
          some ((1 : Int32), S)
        else
          some ((0 : Int32), S)
    else
      some ((0 : Int32), S)
  else
  if (x2 / (10000 : Int32)) = (9 : Int32) then
    gbi (f_X10_isCompany x3 S) (fun v_26 S_25 =>
    if v_26 = 0 then
      some ((0 : Int32), S_25)
    else
      if t0 = 0 then
        some ((0 : Int32), S_25)
      else
        gbi (f_X10_at (b0 + 18) 4 x3 S_25) (fun v_28 S_27 =>
        if v_28 = x4 then
          some ((1 : Int32), S_27)
        else
          some ((0 : Int32), S_27)))
  else
    some ((0 : Int32), S)
def f_X5_obey (b0 : Nat) (x2 : Int32) (S : Sg) : Option (Int32 × Sg) :=
  gvi ((x2 / (1000 : Int32)) - (x2 / (1000 : Int32)) / (10 : Int32) * (10 : Int32)) (fun x3_30 =>
  gvi (x2 - x2 / (1000 : Int32) * (1000 : Int32)) (fun x4_31 =>
  if (10 : Int32) ≤ x4_31 then
    B_X5_obey_28 b0 S x2 x3_30 x4_31 (0 : Int32)
  else
    B_X5_obey_28 b0 S x2 x3_30 x4_31 (1 : Int32)))
def Lb_X5_withoutLowest_5 (K5 : Sg → Int32 → Int64 → Int32 → Option (Int64 × Sg)) (S : Sg) (x2 : Int32) (x3 : Int64) (x5 : Int32) : Option (Int64 × Sg) :=
  if x2 ≤ x5 then
    some (x3, S)
  else
    gvl (x3 / (100000 : Int64)) (fun x3_1 =>
    gvi (x5 + (1 : Int32)) (fun x5_2 =>
    K5 S x2 x3_1 x5_2))
def L_X5_withoutLowest_5 : Nat → Sg → Int32 → Int64 → Int32 → Option (Int64 × Sg)
  | 0 => fun _ _ _ _ => none
  | n + 1 => Lb_X5_withoutLowest_5 (L_X5_withoutLowest_5 n)
def f_X5_withoutLowest (x0 : Int64) (x2 : Int32) (S : Sg) : Option (Int64 × Sg) :=
  L_X5_withoutLowest_5 gFu S x2 x0 (0 : Int32)
def f_X6_empty (S : Sg) : Option Sg :=
  gbv (f_X10_fill 7 2 (0 : Int32) S) (fun S_1 =>
  some S_1)
def f_X6_stateAt (x1 : Int32) (S : Sg) : Option (Nat × Sg) :=
  if x1 < 0 then
    none
  else
    if (nI 2) ≤ x1 then
      none
    else
      gck (inb x1 2) (
      some ((361 + 21 * x1.toNatClampNeg), S))
theorem st_of_X6_stateAt {x1 : Int32} {S S' : Sg} {v : Nat} (h : f_X6_stateAt x1 S = some (v, S')) : IsSt v := by
  unfold f_X6_stateAt at h
  repeat' first
    | (obtain ⟨_, _, h⟩ := gck_some h)
    | (obtain ⟨hin, h⟩ := gck_some h)
    | (obtain ⟨_, _, h⟩ := gvi_ex h)
    | (split at h)
    | (cases h; done)
    | (have := vp_of_inb hin; unfold vp_in at this; cases h; exact st_s (by omega))
def f_X6_fetchInto (b2 : Nat) (x1 : Int32) (S : Sg) : Option Sg :=
  gbn (f_X6_stateAt x1 S) (fun v_2 S_1 =>
  gbv (f_X10_copyState v_2 b2 S_1) (fun S_3 =>
  some S_3))
def f_X6_isFilled (x1 : Int32) (S : Sg) : Option (Int32 × Sg) :=
  gbi (f_X10_at 7 2 x1 S) (fun v_2 S_1 =>
  if v_2 = (1 : Int32) then
    some ((1 : Int32), S_1)
  else
    some ((0 : Int32), S_1))
def f_X6_keep (b2 : Nat) (x1 : Int32) (S : Sg) : Option Sg :=
  gbn (f_X6_stateAt x1 S) (fun v_2 S_1 =>
  gbv (f_X10_copyState b2 v_2 S_1) (fun S_3 =>
  gbv (f_X10_put 7 2 x1 (1 : Int32) S_3) (fun S_4 =>
  some S_4)))
def B_X7_dealByChance_118 (b : Nat) (S : Sg) (t0 : Int32) (t1 : Int32) : Option Sg :=
  gbi (f_X7_tryContract b t1 t0 S) (fun v_2 S_1 =>
  some S_1)
def B_X7_dealByChance_85 (b : Nat) (S : Sg) (t0 : Int32) (t1 : Int32) : Option Sg :=
  gbi (f_X7_tryTrack b t1 t0 S) (fun v_4 S_3 =>
  some S_3)
def f_X7_dealByChance (b : Nat) (x1 : Int32) (S : Sg) : Option Sg :=
  gvi ((x1 / (8 : Int32)) - (x1 / (8 : Int32)) / (4 : Int32) * (4 : Int32)) (fun x2_5 =>
  gvi (x1 / (32 : Int32)) (fun x3_6 =>
  if (x1 - x1 / (8 : Int32) * (8 : Int32)) = (0 : Int32) then
    gbi (f_X7_tryTrain b x2_5 ((1 : Int32) + (x3_6 - x3_6 / (6 : Int32) * (6 : Int32))) S) (fun v_8 S_7 =>
    some S_7)
  else
  if (x1 - x1 / (8 : Int32) * (8 : Int32)) = (1 : Int32) then
    if (S (b + 1) 4) ≤ 0 then
      B_X7_dealByChance_85 b S (-9 : Int32) x2_5
    else
      gck (!decide (S (b + 1) 4 = 0)) (
      B_X7_dealByChance_85 b S (x3_6 - x3_6 / (S (b + 1) 4) * (S (b + 1) 4)) x2_5)
  else
  if (x1 - x1 / (8 : Int32) * (8 : Int32)) = (2 : Int32) then
    if (S (b + 2) 6) ≤ 0 then
      B_X7_dealByChance_118 b S (-9 : Int32) x2_5
    else
      gck (!decide (S (b + 2) 6 = 0)) (
      B_X7_dealByChance_118 b S (x3_6 - x3_6 / (S (b + 2) 6) * (S (b + 2) 6)) x2_5)
  else
    some S))
def Lb_X8_lengthsOf_4 (b : Nat) (K4 : Sg → Int32 → Int32 → Int32 → Option (Int32 × Sg)) (S : Sg) (x1 : Int32) (x2 : Int32) (x3 : Int32) : Option (Int32 × Sg) :=
  if (S (b + 1) 4) ≤ x3 then
    some (x2, S)
  else
    gbi (f_X10_at (b + 7) 16 x3 S) (fun v_2 S_1 =>
    if v_2 = x1 then
      gbi (f_X10_at (b + 6) 16 x3 S_1) (fun v_6 S_5 =>
      gvi (x2 + v_6) (fun x2_7 =>
      gvi (x3 + (1 : Int32)) (fun x3_8 =>
      K4 S_5 x1 x2_7 x3_8)))
    else
      gvi (x2 + (0 : Int32)) (fun x2_3 =>
      gvi (x3 + (1 : Int32)) (fun x3_4 =>
      K4 S_1 x1 x2_3 x3_4)))
def L_X8_lengthsOf_4 (b : Nat) : Nat → Sg → Int32 → Int32 → Int32 → Option (Int32 × Sg)
  | 0 => fun _ _ _ _ => none
  | n + 1 => Lb_X8_lengthsOf_4 b (L_X8_lengthsOf_4 b n)
def f_X8_lengthsOf (b : Nat) (x1 : Int32) (S : Sg) : Option (Int32 × Sg) :=
  L_X8_lengthsOf_4 b gFu S x1 (0 : Int32) (0 : Int32)
def f_X7_worthOf (b : Nat) (x1 : Int32) (S : Sg) : Option (Int32 × Sg) :=
  gbi (f_X10_at (b + 14) 5 x1 S) (fun v_2 S_1 =>
  gbi (f_X8_lengthsOf b x1 S_1) (fun v_4 S_3 =>
  gbi (f_X0_levelsOf b x1 S_3) (fun v_6 S_5 =>
  some ((v_2 + ((3 : Int32) * v_4)) + ((10 : Int32) * v_6), S_5))))
def Lb_X7_greatestWorth_8 (b : Nat) (K8 : Sg → Int32 → Int32 → Option (Int32 × Sg)) (S : Sg) (x1 : Int32) (x2 : Int32) : Option (Int32 × Sg) :=
  if (4 : Int32) ≤ x2 then
    some (x1, S)
  else
    gbi (f_X7_worthOf b x2 S) (fun v_2 S_1 =>
    gvi ((if x1 < v_2 then v_2 else x1)) (fun x1_3 =>
    gvi (x2 + (1 : Int32)) (fun x2_4 =>
    K8 S_1 x1_3 x2_4)))
def L_X7_greatestWorth_8 (b : Nat) : Nat → Sg → Int32 → Int32 → Option (Int32 × Sg)
  | 0 => fun _ _ _ => none
  | n + 1 => Lb_X7_greatestWorth_8 b (L_X7_greatestWorth_8 b n)
def f_X7_greatestWorth (b : Nat) (S : Sg) : Option (Int32 × Sg) :=
  gbi (f_X7_worthOf b (0 : Int32) S) (fun v_6 S_5 =>
  L_X7_greatestWorth_8 b gFu S_5 v_6 (1 : Int32))
def f_X11_in (x0 : Int64) (x2 : Int64) (x4 : Int64) (S : Sg) : Option (Int32 × Sg) :=
  if (lg_cmp x0 x2) < 0 then
    some ((0 : Int32), S)
  else
    if 0 < (lg_cmp x0 x4) then
      some ((0 : Int32), S)
    else
      some ((1 : Int32), S)
def f_X11_refused (x1 : Int32) (S : Sg) : Option (Int32 × Sg) :=
  gst (u2 S 14 0 x1) (fun S_1 =>
  if x1 ≤ 0 then
    some ((0 : Int32), S_1)
  else
    some ((1 : Int32), S_1))
def B_X11_about_18 (S : Sg) (x1 : Int32) (t0 : Int32) : Option (Int32 × Sg) :=
  gbi (f_X11_refused t0 S) (fun v_2 S_1 =>
  if v_2 = 0 then
    gck (inb x1 175) (
    some (S_1 17 x1.toNatClampNeg, S_1))
  else
    some ((0 : Int32), S_1))
def f_X11_about (x1 : Int32) (S : Sg) : Option (Int32 × Sg) :=
  gbi (f_X11_in x1.toInt64 (0 : Int64) (10 : Int64) S) (fun v_4 S_3 =>
  if v_4 = 0 then
    B_X11_about_18 S_3 x1 (1 : Int32)
  else
    B_X11_about_18 S_3 x1 (0 : Int32))
def f_X11_trackAt (x0 : Int32) (S : Sg) : Option (Int32 × Sg) :=
  some ((11 : Int32) + ((4 : Int32) * x0), S)
def f_X11_across (k0 : Nat) (x1 : Int32) (x2 : Int32) (S : Sg) : Option (Int32 × Sg) :=
  gbi (f_X11_trackAt x1 S) (fun v_2 S_1 =>
  gck (inb v_2 175) (
  if (S_1 k0 v_2.toNatClampNeg) = x2 then
    gck (inb (v_2 + (1 : Int32)) 175) (
    some (S_1 k0 (v_2 + (1 : Int32)).toNatClampNeg, S_1))
  else
    gck (inb (v_2 + (1 : Int32)) 175) (
    if (S_1 k0 (v_2 + (1 : Int32)).toNatClampNeg) = x2 then
      gck (inb v_2 175) (
      some (S_1 k0 v_2.toNatClampNeg, S_1))
    else
      some ((-9 : Int32), S_1))))
def f_X11_contractAt (x0 : Int32) (S : Sg) : Option (Int32 × Sg) :=
  some ((127 : Int32) + ((6 : Int32) * x0), S)
def f_X11_addContract (k0 : Nat) (x1 : Int32) (x2 : Int32) (x3 : Int32) (x4 : Int32) (S : Sg) : Option Sg :=
  gck (inb (2 : Int32) 175) (
  gbi (f_X11_contractAt (S k0 (2 : Int32).toNatClampNeg) S) (fun v_2 S_1 =>
  gck (inb v_2 175) (
  gst (u2 S_1 k0 v_2.toNatClampNeg x1) (fun S_3 =>
  gck (inb (v_2 + (1 : Int32)) 175) (
  gst (u2 S_3 k0 (v_2 + (1 : Int32)).toNatClampNeg x2) (fun S_4 =>
  gck (inb (v_2 + (2 : Int32)) 175) (
  gst (u2 S_4 k0 (v_2 + (2 : Int32)).toNatClampNeg x3) (fun S_5 =>
  gck (inb (v_2 + (3 : Int32)) 175) (
  gst (u2 S_5 k0 (v_2 + (3 : Int32)).toNatClampNeg x4) (fun S_6 =>
  gck (inb (v_2 + (4 : Int32)) 175) (
  gst (u2 S_6 k0 (v_2 + (4 : Int32)).toNatClampNeg (-9 : Int32)) (fun S_7 =>
  gck (inb (v_2 + (5 : Int32)) 175) (
  gst (u2 S_7 k0 (v_2 + (5 : Int32)).toNatClampNeg (0 : Int32)) (fun S_8 =>
  gck (inb (2 : Int32) 175) (
  gck (inb (2 : Int32) 175) (
  gst (u2 S_8 k0 (2 : Int32).toNatClampNeg ((S_8 k0 (2 : Int32).toNatClampNeg) + (1 : Int32))) (fun S_9 =>
  some S_9)))))))))))))))))
def f_X11_addTrack (k0 : Nat) (x1 : Int32) (x2 : Int32) (x3 : Int32) (S : Sg) : Option Sg :=
  gck (inb (1 : Int32) 175) (
  gbi (f_X11_trackAt (S k0 (1 : Int32).toNatClampNeg) S) (fun v_2 S_1 =>
  gck (inb v_2 175) (
  gst (u2 S_1 k0 v_2.toNatClampNeg x1) (fun S_3 =>
  gck (inb (v_2 + (1 : Int32)) 175) (
  gst (u2 S_3 k0 (v_2 + (1 : Int32)).toNatClampNeg x2) (fun S_4 =>
  gck (inb (v_2 + (2 : Int32)) 175) (
  gst (u2 S_4 k0 (v_2 + (2 : Int32)).toNatClampNeg x3) (fun S_5 =>
  gck (inb (v_2 + (3 : Int32)) 175) (
  gst (u2 S_5 k0 (v_2 + (3 : Int32)).toNatClampNeg (-9 : Int32)) (fun S_6 =>
  gck (inb (1 : Int32) 175) (
  gck (inb (1 : Int32) 175) (
  gst (u2 S_6 k0 (1 : Int32).toNatClampNeg ((S_6 k0 (1 : Int32).toNatClampNeg) + (1 : Int32))) (fun S_7 =>
  some S_7)))))))))))))
def B_X11_append_31 (S : Sg) (x1 : Int32) (t0 : Int32) : Option (Int32 × Sg) :=
  gbi (f_X11_refused t0 S) (fun v_2 S_1 =>
  if v_2 = 0 then
    gck (inb (S_1 14 2) 100) (
    gst (u2 S_1 15 (S_1 14 2).toNatClampNeg x1) (fun S_3 =>
    gst (u2 S_3 14 2 ((S_3 14 2) + (1 : Int32))) (fun S_4 =>
    some (S_4 14 2, S_4))))
  else
    some ((0 : Int32), S_1))
def f_X11_append (x1 : Int32) (S : Sg) : Option (Int32 × Sg) :=
  gbi (f_X11_in x1.toInt64 (0 : Int64) (255 : Int64) S) (fun v_6 S_5 =>
  if v_6 = 0 then
    B_X11_append_31 S_5 x1 (1 : Int32)
  else
    if (S_5 14 2) = (100 : Int32) then
      B_X11_append_31 S_5 x1 (2 : Int32)
    else
      B_X11_append_31 S_5 x1 (0 : Int32))
def f_X11_isCompany (x0 : Int32) (S : Sg) : Option (Int32 × Sg) :=
  gbi (f_X11_in x0.toInt64 (0 : Int64) (3 : Int64) S) (fun v_2 S_1 =>
  gck (isb v_2) (some (v_2, S_1)))
def Lb_X11_copyPage_3 (k0 : Nat) (n0 : Nat) (k2 : Nat) (n2 : Nat) (K3 : Sg → Int32 → Int32 → Int32 → Option Sg) (S : Sg) (x1 : Int32) (x3 : Int32) (x4 : Int32) : Option Sg :=
  if (175 : Int32) ≤ x4 then
    some S
  else
    gck (inb (x1 + x4) n0) (
    gck (inb (x3 + x4) n2) (
    gst (u2 S k2 (x3 + x4).toNatClampNeg (S k0 (x1 + x4).toNatClampNeg)) (fun S_1 =>
    gvi (x4 + (1 : Int32)) (fun x4_2 =>
    K3 S_1 x1 x3 x4_2))))
def L_X11_copyPage_3 (k0 : Nat) (n0 : Nat) (k2 : Nat) (n2 : Nat) : Nat → Sg → Int32 → Int32 → Int32 → Option Sg
  | 0 => fun _ _ _ _ => none
  | n + 1 => Lb_X11_copyPage_3 k0 n0 k2 n2 (L_X11_copyPage_3 k0 n0 k2 n2 n)
def f_X11_copyPage (k0 : Nat) (n0 : Nat) (k2 : Nat) (n2 : Nat) (x1 : Int32) (x3 : Int32) (S : Sg) : Option Sg :=
  L_X11_copyPage_3 k0 n0 k2 n2 gFu S x1 x3 (0 : Int32)
def f_X11_companyAt (x0 : Int32) (S : Sg) : Option (Int32 × Sg) :=
  some ((75 : Int32) + ((5 : Int32) * x0), S)
def f_X11_toBank (k0 : Nat) (x1 : Int32) (x2 : Int32) (S : Sg) : Option Sg :=
  gbi (f_X11_companyAt x1 S) (fun v_2 S_1 =>
  gck (inb v_2 175) (
  gck (inb v_2 175) (
  gst (u2 S_1 k0 v_2.toNatClampNeg ((S_1 k0 v_2.toNatClampNeg) - x2)) (fun S_3 =>
  gck (inb (5 : Int32) 175) (
  gck (inb (5 : Int32) 175) (
  gst (u2 S_3 k0 (5 : Int32).toNatClampNeg ((S_3 k0 (5 : Int32).toNatClampNeg) + x2)) (fun S_4 =>
  some S_4)))))))
def Lb_X11_dropContract_5 (k0 : Nat) (K5 : Sg → Int32 → Option Sg) (S : Sg) (x2 : Int32) : Option Sg :=
  if (175 : Int32) ≤ (x2 + (6 : Int32)) then
    gck (inb (2 : Int32) 175) (
    gck (inb (2 : Int32) 175) (
    gst (u2 S k0 (2 : Int32).toNatClampNeg ((S k0 (2 : Int32).toNatClampNeg) - (1 : Int32))) (fun S_1 =>
    some S_1)))
  else
    gck (inb (x2 + (6 : Int32)) 175) (
    gck (inb x2 175) (
    gst (u2 S k0 x2.toNatClampNeg (S k0 (x2 + (6 : Int32)).toNatClampNeg)) (fun S_2 =>
    gvi (x2 + (1 : Int32)) (fun x2_3 =>
    K5 S_2 x2_3))))
def L_X11_dropContract_5 (k0 : Nat) : Nat → Sg → Int32 → Option Sg
  | 0 => fun _ _ => none
  | n + 1 => Lb_X11_dropContract_5 k0 (L_X11_dropContract_5 k0 n)
def f_X11_dropContract (k0 : Nat) (x1 : Int32) (S : Sg) : Option Sg :=
  gbi (f_X11_contractAt x1 S) (fun v_5 S_4 =>
  L_X11_dropContract_5 k0 gFu S_4 v_5)
def B_X11_endContracts_57 (k0 : Nat) (K2 : Sg → Int32 → Option Sg) (S : Sg) (x1 : Int32) (x2 : Int32) : Option Sg :=
  gck (inb (x2 + (5 : Int32)) 175) (
  gst (u2 S k0 (x2 + (5 : Int32)).toNatClampNeg (0 : Int32)) (fun S_1 =>
  gck (inb (x2 + (3 : Int32)) 175) (
  if (S_1 k0 (x2 + (3 : Int32)).toNatClampNeg) = 0 then
    gbv (f_X11_dropContract k0 x1 S_1) (fun S_3 =>
    K2 S_3 x1)
  else
    gvi (x1 + (1 : Int32)) (fun x1_2 =>
    K2 S_1 x1_2))))
def B_X11_endContracts_48 (k0 : Nat) (K2 : Sg → Int32 → Option Sg) (S : Sg) (x1 : Int32) (x2 : Int32) : Option Sg :=
  gck (inb (x2 + (3 : Int32)) 175) (
  gck (inb (x2 + (3 : Int32)) 175) (
  gst (u2 S k0 (x2 + (3 : Int32)).toNatClampNeg ((S k0 (x2 + (3 : Int32)).toNatClampNeg) - (1 : Int32))) (fun S_4 =>
  B_X11_endContracts_57 k0 K2 S_4 x1 x2)))
def Lb_X11_endContracts_2 (k0 : Nat) (K2 : Sg → Int32 → Option Sg) (S : Sg) (x1 : Int32) : Option Sg :=
  gck (inb (2 : Int32) 175) (
  if (S k0 (2 : Int32).toNatClampNeg) ≤ x1 then
    some S
  else
    gbi (f_X11_contractAt x1 S) (fun v_6 S_5 =>
    gck (inb (v_6 + (4 : Int32)) 175) (
    gvi (S_5 k0 (v_6 + (4 : Int32)).toNatClampNeg) (fun x3_7 =>
    if x3_7 = (-9 : Int32) then
      B_X11_endContracts_57 k0 K2 S_5 x1 v_6
    else
      gck (inb (v_6 + (5 : Int32)) 175) (
      if (S_5 k0 (v_6 + (5 : Int32)).toNatClampNeg) = 0 then
        gbv (f_X11_toBank k0 x3_7 (5 : Int32) S_5) (fun S_8 =>
        gck (inb (8 : Int32) 175) (
        gck (inb (8 : Int32) 175) (
        gst (u2 S_8 k0 (8 : Int32).toNatClampNeg ((S_8 k0 (8 : Int32).toNatClampNeg) + (5 : Int32))) (fun S_9 =>
        B_X11_endContracts_48 k0 K2 S_9 x1 v_6))))
      else
        B_X11_endContracts_48 k0 K2 S_5 x1 v_6)))))
def L_X11_endContracts_2 (k0 : Nat) : Nat → Sg → Int32 → Option Sg
  | 0 => fun _ _ => none
  | n + 1 => Lb_X11_endContracts_2 k0 (L_X11_endContracts_2 k0 n)
def f_X11_endContracts (k0 : Nat) (S : Sg) : Option Sg :=
  L_X11_endContracts_2 k0 gFu S (0 : Int32)
def Lb_X11_tracksOf_5 (k0 : Nat) (K5 : Sg → Int32 → Int32 → Int32 → Int32 → Option (Int32 × Sg)) (S : Sg) (x1 : Int32) (x2 : Int32) (x3 : Int32) (x4 : Int32) : Option (Int32 × Sg) :=
  gck (inb (1 : Int32) 175) (
  if (S k0 (1 : Int32).toNatClampNeg) ≤ x4 then
    some (x3, S)
  else
    gbi (f_X11_trackAt x4 S) (fun v_2 S_1 =>
    gck (inb (v_2 + (3 : Int32)) 175) (
    if (S_1 k0 (v_2 + (3 : Int32)).toNatClampNeg) = x1 then
      if x2 = 0 then
        gvi (x3 + (1 : Int32)) (fun x3_5 =>
        gvi (x4 + (1 : Int32)) (fun x4_6 =>
        K5 S_1 x1 x2 x3_5 x4_6))
      else
        gbi (f_X11_trackAt x4 S_1) (fun v_8 S_7 =>
        gck (inb (v_8 + (2 : Int32)) 175) (
        gvi (x3 + (S_7 k0 (v_8 + (2 : Int32)).toNatClampNeg)) (fun x3_9 =>
        gvi (x4 + (1 : Int32)) (fun x4_10 =>
        K5 S_7 x1 x2 x3_9 x4_10))))
    else
      gvi (x3 + (0 : Int32)) (fun x3_3 =>
      gvi (x4 + (1 : Int32)) (fun x4_4 =>
      K5 S_1 x1 x2 x3_3 x4_4)))))
def L_X11_tracksOf_5 (k0 : Nat) : Nat → Sg → Int32 → Int32 → Int32 → Int32 → Option (Int32 × Sg)
  | 0 => fun _ _ _ _ _ => none
  | n + 1 => Lb_X11_tracksOf_5 k0 (L_X11_tracksOf_5 k0 n)
def f_X11_tracksOf (k0 : Nat) (x1 : Int32) (x2 : Int32) (S : Sg) : Option (Int32 × Sg) :=
  L_X11_tracksOf_5 k0 gFu S x1 x2 (0 : Int32) (0 : Int32)
def f_X11_trainsOf (k0 : Nat) (x1 : Int32) (S : Sg) : Option (Int32 × Sg) :=
  gbi (f_X11_companyAt x1 S) (fun v_2 S_1 =>
  gck (inb (v_2 + (2 : Int32)) 175) (
  some (S_1 k0 (v_2 + (2 : Int32)).toNatClampNeg, S_1)))
def f_X11_trainAt (x0 : Int32) (x1 : Int32) (S : Sg) : Option (Int32 × Sg) :=
  some (((95 : Int32) + ((8 : Int32) * x0)) + ((2 : Int32) * x1), S)
def Lb_X11_levelsOf_4 (k0 : Nat) (K4 : Sg → Int32 → Int32 → Int32 → Option (Int32 × Sg)) (S : Sg) (x1 : Int32) (x2 : Int32) (x3 : Int32) : Option (Int32 × Sg) :=
  gbi (f_X11_trainsOf k0 x1 S) (fun v_2 S_1 =>
  if v_2 ≤ x3 then
    some (x2, S_1)
  else
    gbi (f_X11_trainAt x1 x3 S_1) (fun v_4 S_3 =>
    gck (inb v_4 175) (
    gvi (x2 + (S_3 k0 v_4.toNatClampNeg)) (fun x2_5 =>
    gvi (x3 + (1 : Int32)) (fun x3_6 =>
    K4 S_3 x1 x2_5 x3_6)))))
def L_X11_levelsOf_4 (k0 : Nat) : Nat → Sg → Int32 → Int32 → Int32 → Option (Int32 × Sg)
  | 0 => fun _ _ _ _ => none
  | n + 1 => Lb_X11_levelsOf_4 k0 (L_X11_levelsOf_4 k0 n)
def f_X11_levelsOf (k0 : Nat) (x1 : Int32) (S : Sg) : Option (Int32 × Sg) :=
  L_X11_levelsOf_4 k0 gFu S x1 (0 : Int32) (0 : Int32)
def B_X11_goBroke_129 (k0 : Nat) (K90 : Sg → Int32 → Int32 → Option Sg) (S : Sg) (x1 : Int32) (x2 : Int32) (t0 : Int32) (t1 : Int32) : Option Sg :=
  gck (inb t1 175) (
  gst (u2 S k0 t1.toNatClampNeg t0) (fun S_1 =>
  gvi (x2 + (1 : Int32)) (fun x2_2 =>
  K90 S_1 x1 x2_2)))
def Lb_X11_goBroke_90 (k0 : Nat) (K90 : Sg → Int32 → Int32 → Option Sg) (S : Sg) (x1 : Int32) (x2 : Int32) : Option Sg :=
  gck (inb (2 : Int32) 175) (
  if (S k0 (2 : Int32).toNatClampNeg) ≤ x2 then
    some S
  else
    gbi (f_X11_contractAt x2 S) (fun v_4 S_3 =>
    gbi (f_X11_contractAt x2 S_3) (fun v_6 S_5 =>
    gck (inb (v_6 + (4 : Int32)) 175) (
    if (S_5 k0 (v_6 + (4 : Int32)).toNatClampNeg) = x1 then
      B_X11_goBroke_129 k0 K90 S_5 x1 x2 (-9 : Int32) (v_4 + (4 : Int32))
    else
      gbi (f_X11_contractAt x2 S_5) (fun v_8 S_7 =>
      gck (inb (v_8 + (4 : Int32)) 175) (
      B_X11_goBroke_129 k0 K90 S_7 x1 x2 (S_7 k0 (v_8 + (4 : Int32)).toNatClampNeg) (v_4 + (4 : Int32))))))))
def L_X11_goBroke_90 (k0 : Nat) : Nat → Sg → Int32 → Int32 → Option Sg
  | 0 => fun _ _ _ => none
  | n + 1 => Lb_X11_goBroke_90 k0 (L_X11_goBroke_90 k0 n)
def B_X11_goBroke_81 (k0 : Nat) (K42 : Sg → Int32 → Int32 → Option Sg) (S : Sg) (x1 : Int32) (x2 : Int32) (t0 : Int32) (t1 : Int32) : Option Sg :=
  gck (inb t1 175) (
  gst (u2 S k0 t1.toNatClampNeg t0) (fun S_9 =>
  gvi (x2 + (1 : Int32)) (fun x2_10 =>
  K42 S_9 x1 x2_10)))
def Lb_X11_goBroke_42 (k0 : Nat) (K42 : Sg → Int32 → Int32 → Option Sg) (S : Sg) (x1 : Int32) (x2 : Int32) : Option Sg :=
  gck (inb (1 : Int32) 175) (
  if (S k0 (1 : Int32).toNatClampNeg) ≤ x2 then
    L_X11_goBroke_90 k0 gFu S x1 (0 : Int32)
  else
    gbi (f_X11_trackAt x2 S) (fun v_12 S_11 =>
    gbi (f_X11_trackAt x2 S_11) (fun v_14 S_13 =>
    gck (inb (v_14 + (3 : Int32)) 175) (
    if (S_13 k0 (v_14 + (3 : Int32)).toNatClampNeg) = x1 then
      B_X11_goBroke_81 k0 K42 S_13 x1 x2 (-9 : Int32) (v_12 + (3 : Int32))
    else
      gbi (f_X11_trackAt x2 S_13) (fun v_16 S_15 =>
      gck (inb (v_16 + (3 : Int32)) 175) (
      B_X11_goBroke_81 k0 K42 S_15 x1 x2 (S_15 k0 (v_16 + (3 : Int32)).toNatClampNeg) (v_12 + (3 : Int32))))))))
def L_X11_goBroke_42 (k0 : Nat) : Nat → Sg → Int32 → Int32 → Option Sg
  | 0 => fun _ _ _ => none
  | n + 1 => Lb_X11_goBroke_42 k0 (L_X11_goBroke_42 k0 n)
def f_X11_goBroke (k0 : Nat) (x1 : Int32) (S : Sg) : Option Sg :=
  gbi (f_X11_companyAt x1 S) (fun v_18 S_17 =>
  gck (inb v_18 175) (
  gbv (f_X11_toBank k0 x1 (S_17 k0 v_18.toNatClampNeg) S_17) (fun S_19 =>
  gbi (f_X11_companyAt x1 S_19) (fun v_21 S_20 =>
  gck (inb (v_21 + (2 : Int32)) 175) (
  gst (u2 S_20 k0 (v_21 + (2 : Int32)).toNatClampNeg (0 : Int32)) (fun S_22 =>
  gbi (f_X11_companyAt x1 S_22) (fun v_24 S_23 =>
  gck (inb (v_24 + (4 : Int32)) 175) (
  gck (inb (v_24 + (4 : Int32)) 175) (
  gst (u2 S_23 k0 (v_24 + (4 : Int32)).toNatClampNeg ((S_23 k0 (v_24 + (4 : Int32)).toNatClampNeg) + (1 : Int32))) (fun S_25 =>
  gck (inb (9 : Int32) 175) (
  gck (inb (9 : Int32) 175) (
  gst (u2 S_25 k0 (9 : Int32).toNatClampNeg ((S_25 k0 (9 : Int32).toNatClampNeg) + (1 : Int32))) (fun S_26 =>
  L_X11_goBroke_42 k0 gFu S_26 x1 (0 : Int32))))))))))))))
def Lb_X11_endOn_65 (k0 : Nat) (K38 : Sg → Int32 → Int32 → Option (Int32 × Sg)) (K65 : Sg → Int32 → Int32 → Int32 → Option (Int32 × Sg)) (S : Sg) (x1 : Int32) (x2 : Int32) (x3 : Int32) : Option (Int32 × Sg) :=
  gbi (f_X11_trainsOf k0 x2 S) (fun v_2 S_1 =>
  if v_2 ≤ x3 then
    gvi (x2 + (1 : Int32)) (fun x2_3 =>
    K38 S_1 x1 x2_3)
  else
    gbi (f_X11_trainAt x2 x3 S_1) (fun v_5 S_4 =>
    gck (inb (v_5 + (1 : Int32)) 175) (
    gst (u2 S_4 k0 (v_5 + (1 : Int32)).toNatClampNeg (0 : Int32)) (fun S_6 =>
    gvi (x3 + (1 : Int32)) (fun x3_7 =>
    K65 S_6 x1 x2 x3_7)))))
def L_X11_endOn_65 (k0 : Nat) (K38 : Sg → Int32 → Int32 → Option (Int32 × Sg)) : Nat → Sg → Int32 → Int32 → Int32 → Option (Int32 × Sg)
  | 0 => fun _ _ _ _ => none
  | n + 1 => Lb_X11_endOn_65 k0 K38 (L_X11_endOn_65 k0 K38 n)
def Lb_X11_endOn_38 (k0 : Nat) (K38 : Sg → Int32 → Int32 → Option (Int32 × Sg)) (S : Sg) (x1 : Int32) (x2 : Int32) : Option (Int32 × Sg) :=
  if (4 : Int32) ≤ x2 then
    gck (inb (4 : Int32) 175) (
    gck (inb (4 : Int32) 175) (
    gst (u2 S k0 (4 : Int32).toNatClampNeg ((S k0 (4 : Int32).toNatClampNeg) + (1 : Int32))) (fun S_8 =>
    some (x1, S_8))))
  else
    gbi (f_X11_companyAt x2 S) (fun v_10 S_9 =>
    gck (inb v_10 175) (
    if 0 ≤ (S_9 k0 v_10.toNatClampNeg) then
      L_X11_endOn_65 k0 K38 gFu S_9 x1 x2 (0 : Int32)
    else
      gbv (f_X11_goBroke k0 x2 S_9) (fun S_11 =>
      gvi (x1 ||| ((1 : Int32) <<< (x2 &&& 31))) (fun x1_12 =>
      L_X11_endOn_65 k0 K38 gFu S_11 x1_12 x2 (0 : Int32)))))
def L_X11_endOn_38 (k0 : Nat) : Nat → Sg → Int32 → Int32 → Option (Int32 × Sg)
  | 0 => fun _ _ _ => none
  | n + 1 => Lb_X11_endOn_38 k0 (L_X11_endOn_38 k0 n)
def Lb_X11_endOn_6 (k0 : Nat) (K6 : Sg → Int32 → Option (Int32 × Sg)) (S : Sg) (x1 : Int32) : Option (Int32 × Sg) :=
  if (4 : Int32) ≤ x1 then
    L_X11_endOn_38 k0 gFu S (0 : Int32) (0 : Int32)
  else
    gbi (f_X11_tracksOf k0 x1 (0 : Int32) S) (fun v_14 S_13 =>
    gbi (f_X11_levelsOf k0 x1 S_13) (fun v_16 S_15 =>
    gbv (f_X11_toBank k0 x1 (v_14 + v_16) S_15) (fun S_17 =>
    gvi (x1 + (1 : Int32)) (fun x1_18 =>
    K6 S_17 x1_18))))
def L_X11_endOn_6 (k0 : Nat) : Nat → Sg → Int32 → Option (Int32 × Sg)
  | 0 => fun _ _ => none
  | n + 1 => Lb_X11_endOn_6 k0 (L_X11_endOn_6 k0 n)
def f_X11_endOn (k0 : Nat) (S : Sg) : Option (Int32 × Sg) :=
  gbv (f_X11_endContracts k0 S) (fun S_19 =>
  L_X11_endOn_6 k0 gFu S_19 (0 : Int32))
def Lb_X11_bankruptAfter_36 (K36 : Sg → Int32 → Int32 → Option (Int32 × Sg)) (S : Sg) (x1 : Int32) (x2 : Int32) : Option (Int32 × Sg) :=
  if (50 : Int32) < x2 then
    some ((-9 : Int32), S)
  else
    gbi (f_X11_endOn 18 S) (fun v_2 S_1 =>
    if ((v_2 >>> (x1 &&& 31)) &&& (1 : Int32)) = (1 : Int32) then
      some (x2, S_1)
    else
      gvi (x2 + (1 : Int32)) (fun x2_3 =>
      K36 S_1 x1 x2_3))
def L_X11_bankruptAfter_36 : Nat → Sg → Int32 → Int32 → Option (Int32 × Sg)
  | 0 => fun _ _ _ => none
  | n + 1 => Lb_X11_bankruptAfter_36 (L_X11_bankruptAfter_36 n)
def B_X11_bankruptAfter_13 (S : Sg) (x1 : Int32) (t0 : Int32) : Option (Int32 × Sg) :=
  gbi (f_X11_refused t0 S) (fun v_5 S_4 =>
  if v_5 = 0 then
    gbv (f_X11_copyPage 17 175 18 175 (0 : Int32) (0 : Int32) S_4) (fun S_6 =>
    L_X11_bankruptAfter_36 gFu S_6 x1 (1 : Int32))
  else
    some ((0 : Int32), S_4))
def f_X11_bankruptAfter (x1 : Int32) (S : Sg) : Option (Int32 × Sg) :=
  gbi (f_X11_isCompany x1 S) (fun v_8 S_7 =>
  if v_8 = 0 then
    B_X11_bankruptAfter_13 S_7 x1 (1 : Int32)
  else
    B_X11_bankruptAfter_13 S_7 x1 (0 : Int32))
def Lb_X11_begin_31 (k0 : Nat) (K31 : Sg → Int32 → Option Sg) (S : Sg) (x1 : Int32) : Option Sg :=
  if (4 : Int32) ≤ x1 then
    some S
  else
    gbi (f_X11_companyAt x1 S) (fun v_2 S_1 =>
    gck (inb v_2 175) (
    gst (u2 S_1 k0 v_2.toNatClampNeg (100 : Int32)) (fun S_3 =>
    gbi (f_X11_companyAt x1 S_3) (fun v_5 S_4 =>
    gck (inb (v_5 + (1 : Int32)) 175) (
    gst (u2 S_4 k0 (v_5 + (1 : Int32)).toNatClampNeg (1 : Int32)) (fun S_6 =>
    gvi (x1 + (1 : Int32)) (fun x1_7 =>
    K31 S_6 x1_7)))))))
def L_X11_begin_31 (k0 : Nat) : Nat → Sg → Int32 → Option Sg
  | 0 => fun _ _ => none
  | n + 1 => Lb_X11_begin_31 k0 (L_X11_begin_31 k0 n)
def Lb_X11_begin_2 (k0 : Nat) (K2 : Sg → Int32 → Option Sg) (S : Sg) (x1 : Int32) : Option Sg :=
  if (175 : Int32) ≤ x1 then
    gck (inb (3 : Int32) 175) (
    gst (u2 S k0 (3 : Int32).toNatClampNeg (1 : Int32)) (fun S_8 =>
    gck (inb (5 : Int32) 175) (
    gst (u2 S_8 k0 (5 : Int32).toNatClampNeg (-400 : Int32)) (fun S_9 =>
    L_X11_begin_31 k0 gFu S_9 (0 : Int32)))))
  else
    gck (inb x1 175) (
    gst (u2 S k0 x1.toNatClampNeg (0 : Int32)) (fun S_10 =>
    gvi (x1 + (1 : Int32)) (fun x1_11 =>
    K2 S_10 x1_11)))
def L_X11_begin_2 (k0 : Nat) : Nat → Sg → Int32 → Option Sg
  | 0 => fun _ _ => none
  | n + 1 => Lb_X11_begin_2 k0 (L_X11_begin_2 k0 n)
def f_X11_begin (k0 : Nat) (S : Sg) : Option Sg :=
  L_X11_begin_2 k0 gFu S (0 : Int32)
def B_X11_costOf_36 (k0 : Nat) (S : Sg) (x2 : Int32) (t0 : Int32) : Option (Int32 × Sg) :=
  gbi (f_X11_trackAt x2 S) (fun v_2 S_1 =>
  gck (inb (v_2 + (2 : Int32)) 175) (
  some (t0 * (S_1 k0 (v_2 + (2 : Int32)).toNatClampNeg), S_1)))
def f_X11_costOf (k0 : Nat) (x1 : Int32) (x2 : Int32) (S : Sg) : Option (Int32 × Sg) :=
  gbi (f_X11_trackAt x2 S) (fun v_4 S_3 =>
  gck (inb (v_4 + (3 : Int32)) 175) (
  gvi (S_3 k0 (v_4 + (3 : Int32)).toNatClampNeg) (fun x3_5 =>
  if x3_5 = x1 then
    B_X11_costOf_36 k0 S_3 x2 (0 : Int32)
  else
    if x3_5 = (-9 : Int32) then
      B_X11_costOf_36 k0 S_3 x2 (1 : Int32)
    else
      gbi (f_X11_companyAt x3_5 S_3) (fun v_7 S_6 =>
      gck (inb (v_7 + (1 : Int32)) 175) (
      B_X11_costOf_36 k0 S_6 x2 (S_6 k0 (v_7 + (1 : Int32)).toNatClampNeg))))))
def f_X11_goneBy (k1 : Nat) (x2 : Int32) (x3 : Int32) (x4 : Int32) (x5 : Int32) (S : Sg) : Option (Int32 × Sg) :=
  gbi (f_X11_across k1 x3 x4 S) (fun v_2 S_1 =>
  gbi (f_X11_trackAt x3 S_1) (fun v_4 S_3 =>
  gck (inb (v_4 + (2 : Int32)) 175) (
  gvi (x5 - (S_3 k1 (v_4 + (2 : Int32)).toNatClampNeg)) (fun x7_5 =>
  if v_2 = (-9 : Int32) then
    some ((1000000 : Int32), S_3)
  else
    if 0 ≤ x7_5 then
      gck (inb (((9 : Int32) * x7_5) + v_2) 225) (
      gbi (f_X11_costOf k1 x2 x3 S_3) (fun v_7 S_6 =>
      some ((S_3 22 (((9 : Int32) * x7_5) + v_2).toNatClampNeg) + v_7, S_6)))
    else
      some ((1000000 : Int32), S_3)))))
def B_X11_layLeast_113 (k1 : Nat) (K3 : Sg → Int32 → Int32 → Int32 → Int32 → Option Sg) (K13 : Sg → Int32 → Int32 → Int32 → Int32 → Int32 → Option Sg) (S : Sg) (x2 : Int32) (x3 : Int32) (x4 : Int32) (x5 : Int32) (x6 : Int32) (t0 : Int32) (t1 : Int32) : Option Sg :=
  gck (inb t1 225) (
  gst (u2 S 22 t1.toNatClampNeg t0) (fun S_1 =>
  gvi (x6 + (1 : Int32)) (fun x6_2 =>
  K13 S_1 x2 x3 x4 x5 x6_2)))
def Lb_X11_layLeast_43 (k1 : Nat) (K3 : Sg → Int32 → Int32 → Int32 → Int32 → Option Sg) (K13 : Sg → Int32 → Int32 → Int32 → Int32 → Int32 → Option Sg) (K43 : Sg → Int32 → Int32 → Int32 → Int32 → Int32 → Int32 → Int32 → Option Sg) (S : Sg) (x2 : Int32) (x3 : Int32) (x4 : Int32) (x5 : Int32) (x6 : Int32) (x7 : Int32) (x8 : Int32) : Option Sg :=
  gck (inb (1 : Int32) 175) (
  if (S k1 (1 : Int32).toNatClampNeg) ≤ x8 then
    if (1000000 : Int32) ≤ x7 then
      B_X11_layLeast_113 k1 K3 K13 S x2 x3 x4 x5 x6 (1000000 : Int32) (((9 : Int32) * x5) + x6)
    else
      B_X11_layLeast_113 k1 K3 K13 S x2 x3 x4 x5 x6 x7 (((9 : Int32) * x5) + x6)
  else
    gbi (f_X11_goneBy k1 x2 x8 x6 x5 S) (fun v_4 S_3 =>
    if x7 ≤ v_4 then
      gvi (x8 + (1 : Int32)) (fun x8_5 =>
      K43 S_3 x2 x3 x4 x5 x6 x7 x8_5)
    else
      gvi (x8 + (1 : Int32)) (fun x8_6 =>
      K43 S_3 x2 x3 x4 x5 x6 v_4 x8_6)))
def L_X11_layLeast_43 (k1 : Nat) (K3 : Sg → Int32 → Int32 → Int32 → Int32 → Option Sg) (K13 : Sg → Int32 → Int32 → Int32 → Int32 → Int32 → Option Sg) : Nat → Sg → Int32 → Int32 → Int32 → Int32 → Int32 → Int32 → Int32 → Option Sg
  | 0 => fun _ _ _ _ _ _ _ _ => none
  | n + 1 => Lb_X11_layLeast_43 k1 K3 K13 (L_X11_layLeast_43 k1 K3 K13 n)
def Lb_X11_layLeast_13 (k1 : Nat) (K3 : Sg → Int32 → Int32 → Int32 → Int32 → Option Sg) (K13 : Sg → Int32 → Int32 → Int32 → Int32 → Int32 → Option Sg) (S : Sg) (x2 : Int32) (x3 : Int32) (x4 : Int32) (x5 : Int32) (x6 : Int32) : Option Sg :=
  gck (inb (0 : Int32) 175) (
  if (S k1 (0 : Int32).toNatClampNeg) ≤ x6 then
    gvi (x5 + (1 : Int32)) (fun x5_7 =>
    K3 S x2 x3 x4 x5_7)
  else
    if x5 = 0 then
      if x6 = x3 then
        L_X11_layLeast_43 k1 K3 K13 gFu S x2 x3 x4 x5 x6 (0 : Int32) (0 : Int32)
      else
        L_X11_layLeast_43 k1 K3 K13 gFu S x2 x3 x4 x5 x6 (1000000 : Int32) (0 : Int32)
    else
      L_X11_layLeast_43 k1 K3 K13 gFu S x2 x3 x4 x5 x6 (1000000 : Int32) (0 : Int32))
def L_X11_layLeast_13 (k1 : Nat) (K3 : Sg → Int32 → Int32 → Int32 → Int32 → Option Sg) : Nat → Sg → Int32 → Int32 → Int32 → Int32 → Int32 → Option Sg
  | 0 => fun _ _ _ _ _ _ => none
  | n + 1 => Lb_X11_layLeast_13 k1 K3 (L_X11_layLeast_13 k1 K3 n)
def Lb_X11_layLeast_3 (k1 : Nat) (K3 : Sg → Int32 → Int32 → Int32 → Int32 → Option Sg) (S : Sg) (x2 : Int32) (x3 : Int32) (x4 : Int32) (x5 : Int32) : Option Sg :=
  if x4 < x5 then
    some S
  else
    L_X11_layLeast_13 k1 K3 gFu S x2 x3 x4 x5 (0 : Int32)
def L_X11_layLeast_3 (k1 : Nat) : Nat → Sg → Int32 → Int32 → Int32 → Int32 → Option Sg
  | 0 => fun _ _ _ _ _ => none
  | n + 1 => Lb_X11_layLeast_3 k1 (L_X11_layLeast_3 k1 n)
def f_X11_layLeast (k1 : Nat) (x2 : Int32) (x3 : Int32) (x4 : Int32) (S : Sg) : Option Sg :=
  L_X11_layLeast_3 k1 gFu S x2 x3 x4 (0 : Int32)
def Lb_X11_findWay_106 (k1 : Nat) (K98 : Sg → Int32 → Int32 → Int32 → Option (Int32 × Sg)) (K106 : Sg → Int32 → Int32 → Int32 → Int32 → Option (Int32 × Sg)) (S : Sg) (x2 : Int32) (x6 : Int32) (x7 : Int32) (x8 : Int32) : Option (Int32 × Sg) :=
  gbi (f_X11_goneBy k1 x2 x8 x6 x7 S) (fun v_2 S_1 =>
  gck (inb (((9 : Int32) * x7) + x6) 225) (
  if v_2 = (S_1 22 (((9 : Int32) * x7) + x6).toNatClampNeg) then
    gck (inb (S_1 14 15) 24) (
    gst (u2 S_1 23 (S_1 14 15).toNatClampNeg x8) (fun S_3 =>
    gst (u2 S_3 14 15 ((S_3 14 15) + (1 : Int32))) (fun S_4 =>
    gbi (f_X11_trackAt x8 S_4) (fun v_6 S_5 =>
    gck (inb (v_6 + (2 : Int32)) 175) (
    gvi (x7 - (S_5 k1 (v_6 + (2 : Int32)).toNatClampNeg)) (fun x7_7 =>
    gbi (f_X11_across k1 x8 x6 S_5) (fun v_9 S_8 =>
    K98 S_8 x2 v_9 x7_7)))))))
  else
    gvi (x8 + (1 : Int32)) (fun x8_10 =>
    K106 S_1 x2 x6 x7 x8_10)))
def L_X11_findWay_106 (k1 : Nat) (K98 : Sg → Int32 → Int32 → Int32 → Option (Int32 × Sg)) : Nat → Sg → Int32 → Int32 → Int32 → Int32 → Option (Int32 × Sg)
  | 0 => fun _ _ _ _ _ => none
  | n + 1 => Lb_X11_findWay_106 k1 K98 (L_X11_findWay_106 k1 K98 n)
def Lb_X11_findWay_98 (k1 : Nat) (K98 : Sg → Int32 → Int32 → Int32 → Option (Int32 × Sg)) (S : Sg) (x2 : Int32) (x6 : Int32) (x7 : Int32) : Option (Int32 × Sg) :=
  if x7 ≤ 0 then
    some ((1 : Int32), S)
  else
    L_X11_findWay_106 k1 K98 gFu S x2 x6 x7 (0 : Int32)
def L_X11_findWay_98 (k1 : Nat) : Nat → Sg → Int32 → Int32 → Int32 → Option (Int32 × Sg)
  | 0 => fun _ _ _ _ => none
  | n + 1 => Lb_X11_findWay_98 k1 (L_X11_findWay_98 k1 n)
def Lb_X11_findWay_19 (k1 : Nat) (K19 : Sg → Int32 → Int32 → Int32 → Int32 → Option (Int32 × Sg)) (S : Sg) (x2 : Int32) (x3 : Int32) (x5 : Int32) (x6 : Int32) : Option (Int32 × Sg) :=
  if x5 < x6 then
    if (S 14 12) = (1000000 : Int32) then
      some ((0 : Int32), S)
    else
      gst (u2 S 14 15 (0 : Int32)) (fun S_11 =>
      gvi (S_11 14 13) (fun x7_12 =>
      L_X11_findWay_98 k1 gFu S_11 x2 x3 x7_12))
  else
    gck (inb (((9 : Int32) * x6) + x3) 225) (
    if (S 14 12) ≤ (S 22 (((9 : Int32) * x6) + x3).toNatClampNeg) then
      gvi (x6 + (1 : Int32)) (fun x6_13 =>
      K19 S x2 x3 x5 x6_13)
    else
      gck (inb (((9 : Int32) * x6) + x3) 225) (
      gst (u2 S 14 12 (S 22 (((9 : Int32) * x6) + x3).toNatClampNeg)) (fun S_14 =>
      gst (u2 S_14 14 13 x6) (fun S_15 =>
      gvi (x6 + (1 : Int32)) (fun x6_16 =>
      K19 S_15 x2 x3 x5 x6_16)))))
def L_X11_findWay_19 (k1 : Nat) : Nat → Sg → Int32 → Int32 → Int32 → Int32 → Option (Int32 × Sg)
  | 0 => fun _ _ _ _ _ => none
  | n + 1 => Lb_X11_findWay_19 k1 (L_X11_findWay_19 k1 n)
def f_X11_findWay (k1 : Nat) (x2 : Int32) (x3 : Int32) (x4 : Int32) (x5 : Int32) (S : Sg) : Option (Int32 × Sg) :=
  gbv (f_X11_layLeast k1 x2 x4 x5 S) (fun S_17 =>
  gst (u2 S_17 14 12 (1000000 : Int32)) (fun S_18 =>
  L_X11_findWay_19 k1 gFu S_18 x2 x3 x5 (1 : Int32)))
def B_X11_bestContract_195 (K81 : Sg → Int32 → Int32 → Int32 → Int32 → Int32 → Option (Int32 × Sg)) (S : Sg) (x1 : Int32) (x2 : Int32) (x4 : Int32) (x5 : Int32) (x7 : Int32) (x8 : Int32) (t0 : Int32) : Option (Int32 × Sg) :=
  if x8 = 0 then
    gvi (x5 + (1 : Int32)) (fun x5_1 =>
    K81 S x1 x2 t0 x4 x5_1)
  else
    gvi (x5 + (1 : Int32)) (fun x5_2 =>
    K81 S x1 x2 t0 x7 x5_2)
def B_X11_bestContract_182 (K81 : Sg → Int32 → Int32 → Int32 → Int32 → Int32 → Option (Int32 × Sg)) (S : Sg) (x1 : Int32) (x2 : Int32) (x3 : Int32) (x4 : Int32) (x5 : Int32) (x7 : Int32) (t0 : Int32) : Option (Int32 × Sg) :=
  if t0 = 0 then
    B_X11_bestContract_195 K81 S x1 x2 x4 x5 x7 t0 x3
  else
    B_X11_bestContract_195 K81 S x1 x2 x4 x5 x7 t0 x5
def Lb_X11_bestContract_81 (K81 : Sg → Int32 → Int32 → Int32 → Int32 → Int32 → Option (Int32 × Sg)) (S : Sg) (x1 : Int32) (x2 : Int32) (x3 : Int32) (x4 : Int32) (x5 : Int32) : Option (Int32 × Sg) :=
  gck (inb (2 : Int32) 175) (
  if (S 17 (2 : Int32).toNatClampNeg) ≤ x5 then
    some (x3, S)
  else
    if x2 ≤ 0 then
      some (x3, S)
    else
      gbi (f_X11_contractAt x5 S) (fun v_4 S_3 =>
      gck (inb (v_4 + (4 : Int32)) 175) (
      if (S_3 17 (v_4 + (4 : Int32)).toNatClampNeg) = (-9 : Int32) then
        gck (inb v_4 175) (
        gck (inb (v_4 + (1 : Int32)) 175) (
        gbi (f_X11_findWay 17 x1 (S_3 17 v_4.toNatClampNeg) (S_3 17 (v_4 + (1 : Int32)).toNatClampNeg) ((4 : Int32) * x2) S_3) (fun v_7 S_6 =>
        if v_7 = 0 then
          gvi (x5 + (1 : Int32)) (fun x5_8 =>
          K81 S_6 x1 x2 x3 x4 x5_8)
        else
          gck (inb (v_4 + (2 : Int32)) 175) (
          gvi ((S_6 17 (v_4 + (2 : Int32)).toNatClampNeg) - (S_6 14 12)) (fun x7_9 =>
          if x3 = (-9 : Int32) then
            B_X11_bestContract_182 K81 S_6 x1 x2 x3 x4 x5 x7_9 (1 : Int32)
          else
            if x7_9 ≤ x4 then
              B_X11_bestContract_182 K81 S_6 x1 x2 x3 x4 x5 x7_9 (0 : Int32)
            else
              B_X11_bestContract_182 K81 S_6 x1 x2 x3 x4 x5 x7_9 (1 : Int32))))))
      else
        gvi (x5 + (1 : Int32)) (fun x5_5 =>
        K81 S_3 x1 x2 x3 x4 x5_5))))
def L_X11_bestContract_81 : Nat → Sg → Int32 → Int32 → Int32 → Int32 → Int32 → Option (Int32 × Sg)
  | 0 => fun _ _ _ _ _ _ => none
  | n + 1 => Lb_X11_bestContract_81 (L_X11_bestContract_81 n)
def Lb_X11_bestContract_25 (K25 : Sg → Int32 → Int32 → Int32 → Option (Int32 × Sg)) (S : Sg) (x1 : Int32) (x2 : Int32) (x3 : Int32) : Option (Int32 × Sg) :=
  gbi (f_X11_trainsOf 17 x1 S) (fun v_11 S_10 =>
  if v_11 ≤ x3 then
    L_X11_bestContract_81 gFu S_10 x1 x2 (-9 : Int32) (0 : Int32) (0 : Int32)
  else
    gbi (f_X11_trainAt x1 x3 S_10) (fun v_13 S_12 =>
    gck (inb v_13 175) (
    if (S_12 17 v_13.toNatClampNeg) ≤ x2 then
      gvi (x3 + (1 : Int32)) (fun x3_14 =>
      K25 S_12 x1 x2 x3_14)
    else
      gbi (f_X11_trainAt x1 x3 S_12) (fun v_16 S_15 =>
      gck (inb v_16 175) (
      gvi (S_15 17 v_16.toNatClampNeg) (fun x2_17 =>
      gvi (x3 + (1 : Int32)) (fun x3_18 =>
      K25 S_15 x1 x2_17 x3_18)))))))
def L_X11_bestContract_25 : Nat → Sg → Int32 → Int32 → Int32 → Option (Int32 × Sg)
  | 0 => fun _ _ _ _ => none
  | n + 1 => Lb_X11_bestContract_25 (L_X11_bestContract_25 n)
def B_X11_bestContract_13 (S : Sg) (x1 : Int32) (t0 : Int32) : Option (Int32 × Sg) :=
  gbi (f_X11_refused t0 S) (fun v_20 S_19 =>
  if v_20 = 0 then
    L_X11_bestContract_25 gFu S_19 x1 (0 : Int32) (0 : Int32)
  else
    some ((0 : Int32), S_19))
def f_X11_bestContract (x1 : Int32) (S : Sg) : Option (Int32 × Sg) :=
  gbi (f_X11_isCompany x1 S) (fun v_22 S_21 =>
  if v_22 = 0 then
    B_X11_bestContract_13 S_21 x1 (1 : Int32)
  else
    B_X11_bestContract_13 S_21 x1 (0 : Int32))
def f_X11_isTrack (k0 : Nat) (x1 : Int32) (S : Sg) : Option (Int32 × Sg) :=
  gck (inb (1 : Int32) 175) (
  gbi (f_X11_in x1.toInt64 (0 : Int64) (((S k0 (1 : Int32).toNatClampNeg) - (1 : Int32)).toInt64) S) (fun v_2 S_1 =>
  gck (isb v_2) (some (v_2, S_1))))
def f_X11_canBuyTrack (k0 : Nat) (x1 : Int32) (x2 : Int32) (S : Sg) : Option (Int32 × Sg) :=
  gbi (f_X11_trackAt x2 S) (fun v_2 S_1 =>
  gck (inb (v_2 + (3 : Int32)) 175) (
  if (S_1 k0 (v_2 + (3 : Int32)).toNatClampNeg) = (-9 : Int32) then
    gbi (f_X11_companyAt x1 S_1) (fun v_4 S_3 =>
    gck (inb v_4 175) (
    gbi (f_X11_trackAt x2 S_3) (fun v_6 S_5 =>
    gck (inb (v_6 + (2 : Int32)) 175) (
    if (S_3 k0 v_4.toNatClampNeg) < ((3 : Int32) * (S_5 k0 (v_6 + (2 : Int32)).toNatClampNeg)) then
      some ((0 : Int32), S_5)
    else
      some ((1 : Int32), S_5)))))
  else
    some ((0 : Int32), S_1)))
def B_X11_note_50 (S : Sg) : Option Sg :=
  gbv (f_X11_copyPage 17 175 19 2450 (0 : Int32) ((175 : Int32) * (S 14 8)) S) (fun S_1 =>
  gst (u2 S_1 14 8 ((S_1 14 8) + (1 : Int32))) (fun S_2 =>
  some S_2))
def Lb_X11_note_11 (K11 : Sg → Int32 → Option Sg) (S : Sg) (x1 : Int32) : Option Sg :=
  if (2275 : Int32) ≤ x1 then
    gst (u2 S 14 8 ((S 14 8) - (1 : Int32))) (fun S_3 =>
    B_X11_note_50 S_3)
  else
    gck (inb (x1 + (175 : Int32)) 2450) (
    gck (inb x1 2450) (
    gst (u2 S 19 x1.toNatClampNeg (S 19 (x1 + (175 : Int32)).toNatClampNeg)) (fun S_4 =>
    gvi (x1 + (1 : Int32)) (fun x1_5 =>
    K11 S_4 x1_5))))
def L_X11_note_11 : Nat → Sg → Int32 → Option Sg
  | 0 => fun _ _ => none
  | n + 1 => Lb_X11_note_11 (L_X11_note_11 n)
def f_X11_note (S : Sg) : Option Sg :=
  if (S 14 8) = (14 : Int32) then
    L_X11_note_11 gFu S (0 : Int32)
  else
    B_X11_note_50 S
def f_X11_buyTrackOn (k0 : Nat) (x1 : Int32) (x2 : Int32) (S : Sg) : Option (Int32 × Sg) :=
  gbi (f_X11_trackAt x2 S) (fun v_2 S_1 =>
  gck (inb (v_2 + (2 : Int32)) 175) (
  gbv (f_X11_toBank k0 x1 ((3 : Int32) * (S_1 k0 (v_2 + (2 : Int32)).toNatClampNeg)) S_1) (fun S_3 =>
  gbi (f_X11_trackAt x2 S_3) (fun v_5 S_4 =>
  gck (inb (v_5 + (3 : Int32)) 175) (
  gst (u2 S_4 k0 (v_5 + (3 : Int32)).toNatClampNeg x1) (fun S_6 =>
  gbi (f_X11_companyAt x1 S_6) (fun v_8 S_7 =>
  gck (inb v_8 175) (
  some (S_7 k0 v_8.toNatClampNeg, S_7)))))))))
def B_X11_buyTrack_40 (S : Sg) (x1 : Int32) (x2 : Int32) (t0 : Int32) : Option (Int32 × Sg) :=
  gbi (f_X11_refused t0 S) (fun v_2 S_1 =>
  if v_2 = 0 then
    gbv (f_X11_note S_1) (fun S_3 =>
    gbi (f_X11_buyTrackOn 17 x1 x2 S_3) (fun v_5 S_4 =>
    some (v_5, S_4)))
  else
    some ((0 : Int32), S_1))
def f_X11_buyTrack (x1 : Int32) (x2 : Int32) (S : Sg) : Option (Int32 × Sg) :=
  gbi (f_X11_isCompany x1 S) (fun v_7 S_6 =>
  if v_7 = 0 then
    B_X11_buyTrack_40 S_6 x1 x2 (1 : Int32)
  else
    gbi (f_X11_isTrack 17 x2 S_6) (fun v_9 S_8 =>
    if v_9 = 0 then
      B_X11_buyTrack_40 S_8 x1 x2 (1 : Int32)
    else
      gbi (f_X11_canBuyTrack 17 x1 x2 S_8) (fun v_11 S_10 =>
      if v_11 = 0 then
        B_X11_buyTrack_40 S_10 x1 x2 (2 : Int32)
      else
        B_X11_buyTrack_40 S_10 x1 x2 (0 : Int32))))
def f_X11_canBuyTrain (k0 : Nat) (x1 : Int32) (x2 : Int32) (S : Sg) : Option (Int32 × Sg) :=
  gck (inb (3 : Int32) 175) (
  gck (inb (3 : Int32) 175) (
  gbi (f_X11_in x2.toInt64 (((S k0 (3 : Int32).toNatClampNeg) - (1 : Int32)).toInt64) (((S k0 (3 : Int32).toNatClampNeg) + (1 : Int32)).toInt64) S) (fun v_2 S_1 =>
  if v_2 = 0 then
    some ((0 : Int32), S_1)
  else
    gbi (f_X11_trainsOf k0 x1 S_1) (fun v_4 S_3 =>
    if (4 : Int32) ≤ v_4 then
      some ((0 : Int32), S_3)
    else
      gbi (f_X11_companyAt x1 S_3) (fun v_6 S_5 =>
      gck (inb v_6 175) (
      if (S_5 k0 v_6.toNatClampNeg) < ((20 : Int32) * x2) then
        some ((0 : Int32), S_5)
      else
        some ((1 : Int32), S_5)))))))
def Lb_X11_rust_12 (k0 : Nat) (K12 : Sg → Int32 → Int32 → Int32 → Int32 → Int32 → Option (Int32 × Sg)) (S : Sg) (x1 : Int32) (x2 : Int32) (x3 : Int32) (x4 : Int32) (x5 : Int32) : Option (Int32 × Sg) :=
  if x4 ≤ x5 then
    gbi (f_X11_companyAt x1 S) (fun v_2 S_1 =>
    gck (inb (v_2 + (2 : Int32)) 175) (
    gst (u2 S_1 k0 (v_2 + (2 : Int32)).toNatClampNeg x3) (fun S_3 =>
    some (x4 - x3, S_3))))
  else
    gbi (f_X11_trainAt x1 x5 S) (fun v_5 S_4 =>
    gck (inb v_5 175) (
    if (S_4 k0 v_5.toNatClampNeg) < x2 then
      gvi (x5 + (1 : Int32)) (fun x5_6 =>
      K12 S_4 x1 x2 x3 x4 x5_6)
    else
      gbi (f_X11_trainAt x1 x3 S_4) (fun v_8 S_7 =>
      gbi (f_X11_trainAt x1 x5 S_7) (fun v_10 S_9 =>
      gck (inb v_10 175) (
      gck (inb v_8 175) (
      gst (u2 S_9 k0 v_8.toNatClampNeg (S_9 k0 v_10.toNatClampNeg)) (fun S_11 =>
      gbi (f_X11_trainAt x1 x3 S_11) (fun v_13 S_12 =>
      gbi (f_X11_trainAt x1 x5 S_12) (fun v_15 S_14 =>
      gck (inb (v_15 + (1 : Int32)) 175) (
      gck (inb (v_13 + (1 : Int32)) 175) (
      gst (u2 S_14 k0 (v_13 + (1 : Int32)).toNatClampNeg (S_14 k0 (v_15 + (1 : Int32)).toNatClampNeg)) (fun S_16 =>
      gvi (x3 + (1 : Int32)) (fun x3_17 =>
      gvi (x5 + (1 : Int32)) (fun x5_18 =>
      K12 S_16 x1 x2 x3_17 x4 x5_18))))))))))))))
def L_X11_rust_12 (k0 : Nat) : Nat → Sg → Int32 → Int32 → Int32 → Int32 → Int32 → Option (Int32 × Sg)
  | 0 => fun _ _ _ _ _ _ => none
  | n + 1 => Lb_X11_rust_12 k0 (L_X11_rust_12 k0 n)
def f_X11_rust (k0 : Nat) (x1 : Int32) (x2 : Int32) (S : Sg) : Option (Int32 × Sg) :=
  gbi (f_X11_trainsOf k0 x1 S) (fun v_20 S_19 =>
  L_X11_rust_12 k0 gFu S_19 x1 x2 (0 : Int32) v_20 (0 : Int32))
def Lb_X11_buyTrainOn_63 (k0 : Nat) (K63 : Sg → Int32 → Int32 → Option (Int32 × Sg)) (S : Sg) (x4 : Int32) (x5 : Int32) : Option (Int32 × Sg) :=
  if (4 : Int32) ≤ x5 then
    gck (inb (10 : Int32) 175) (
    gck (inb (10 : Int32) 175) (
    gst (u2 S k0 (10 : Int32).toNatClampNeg ((S k0 (10 : Int32).toNatClampNeg) + x4)) (fun S_1 =>
    some (x4, S_1))))
  else
    gck (inb (3 : Int32) 175) (
    gbi (f_X11_rust k0 x5 ((S k0 (3 : Int32).toNatClampNeg) - (1 : Int32)) S) (fun v_3 S_2 =>
    gvi (x4 + v_3) (fun x4_4 =>
    gvi (x5 + (1 : Int32)) (fun x5_5 =>
    K63 S_2 x4_4 x5_5))))
def L_X11_buyTrainOn_63 (k0 : Nat) : Nat → Sg → Int32 → Int32 → Option (Int32 × Sg)
  | 0 => fun _ _ _ => none
  | n + 1 => Lb_X11_buyTrainOn_63 k0 (L_X11_buyTrainOn_63 k0 n)
def f_X11_buyTrainOn (k0 : Nat) (x1 : Int32) (x2 : Int32) (S : Sg) : Option (Int32 × Sg) :=
  gbv (f_X11_toBank k0 x1 ((20 : Int32) * x2) S) (fun S_6 =>
  gbi (f_X11_trainsOf k0 x1 S_6) (fun v_8 S_7 =>
  gbi (f_X11_trainAt x1 v_8 S_7) (fun v_10 S_9 =>
  gck (inb v_10 175) (
  gst (u2 S_9 k0 v_10.toNatClampNeg x2) (fun S_11 =>
  gck (inb (v_10 + (1 : Int32)) 175) (
  gst (u2 S_11 k0 (v_10 + (1 : Int32)).toNatClampNeg (0 : Int32)) (fun S_12 =>
  gbi (f_X11_companyAt x1 S_12) (fun v_14 S_13 =>
  gck (inb (v_14 + (2 : Int32)) 175) (
  gck (inb (v_14 + (2 : Int32)) 175) (
  gst (u2 S_13 k0 (v_14 + (2 : Int32)).toNatClampNeg ((S_13 k0 (v_14 + (2 : Int32)).toNatClampNeg) + (1 : Int32))) (fun S_15 =>
  gck (inb (3 : Int32) 175) (
  if (S_15 k0 (3 : Int32).toNatClampNeg) < x2 then
    gck (inb (3 : Int32) 175) (
    gck (inb (3 : Int32) 175) (
    gst (u2 S_15 k0 (3 : Int32).toNatClampNeg ((S_15 k0 (3 : Int32).toNatClampNeg) + (1 : Int32))) (fun S_16 =>
    L_X11_buyTrainOn_63 k0 gFu S_16 (0 : Int32) (0 : Int32))))
  else
    some ((0 : Int32), S_15)))))))))))))
def B_X11_buyTrain_45 (S : Sg) (x1 : Int32) (x2 : Int32) (t0 : Int32) : Option (Int32 × Sg) :=
  gbi (f_X11_refused t0 S) (fun v_2 S_1 =>
  if v_2 = 0 then
    gbv (f_X11_note S_1) (fun S_3 =>
    gbi (f_X11_buyTrainOn 17 x1 x2 S_3) (fun v_5 S_4 =>
    some (v_5, S_4)))
  else
    some ((0 : Int32), S_1))
def f_X11_buyTrain (x1 : Int32) (x2 : Int32) (S : Sg) : Option (Int32 × Sg) :=
  gbi (f_X11_isCompany x1 S) (fun v_7 S_6 =>
  if v_7 = 0 then
    B_X11_buyTrain_45 S_6 x1 x2 (1 : Int32)
  else
    gbi (f_X11_in x2.toInt64 (1 : Int64) (6 : Int64) S_6) (fun v_9 S_8 =>
    if v_9 = 0 then
      B_X11_buyTrain_45 S_8 x1 x2 (2 : Int32)
    else
      gbi (f_X11_canBuyTrain 17 x1 x2 S_8) (fun v_11 S_10 =>
      if v_11 = 0 then
        B_X11_buyTrain_45 S_10 x1 x2 (3 : Int32)
      else
        B_X11_buyTrain_45 S_10 x1 x2 (0 : Int32))))
def f_X11_canTake (k0 : Nat) (x1 : Int32) (S : Sg) : Option (Int32 × Sg) :=
  gbi (f_X11_contractAt x1 S) (fun v_2 S_1 =>
  gck (inb (v_2 + (4 : Int32)) 175) (
  if (S_1 k0 (v_2 + (4 : Int32)).toNatClampNeg) = (-9 : Int32) then
    some ((1 : Int32), S_1)
  else
    some ((0 : Int32), S_1)))
def f_X11_clearText (S : Sg) : Option (Int32 × Sg) :=
  gst (u2 S 14 0 (0 : Int32)) (fun S_1 =>
  gvi (S_1 14 2) (fun x1_2 =>
  gst (u2 S_1 14 2 (0 : Int32)) (fun S_3 =>
  some (x1_2, S_3))))
def Lb_X11_coinsAfter_52 (K52 : Sg → Int32 → Int32 → Int32 → Option (Int32 × Sg)) (S : Sg) (x1 : Int32) (x2 : Int32) (x3 : Int32) : Option (Int32 × Sg) :=
  if x2 ≤ x3 then
    gbi (f_X11_companyAt x1 S) (fun v_2 S_1 =>
    gck (inb v_2 175) (
    some (S_1 18 v_2.toNatClampNeg, S_1)))
  else
    gbi (f_X11_endOn 18 S) (fun v_4 S_3 =>
    gvi (x3 + (1 : Int32)) (fun x3_5 =>
    K52 S_3 x1 x2 x3_5))
def L_X11_coinsAfter_52 : Nat → Sg → Int32 → Int32 → Int32 → Option (Int32 × Sg)
  | 0 => fun _ _ _ _ => none
  | n + 1 => Lb_X11_coinsAfter_52 (L_X11_coinsAfter_52 n)
def B_X11_coinsAfter_29 (S : Sg) (x1 : Int32) (x2 : Int32) (t0 : Int32) : Option (Int32 × Sg) :=
  gbi (f_X11_refused t0 S) (fun v_7 S_6 =>
  if v_7 = 0 then
    gbv (f_X11_copyPage 17 175 18 175 (0 : Int32) (0 : Int32) S_6) (fun S_8 =>
    L_X11_coinsAfter_52 gFu S_8 x1 x2 (0 : Int32))
  else
    some ((0 : Int32), S_6))
def f_X11_coinsAfter (x1 : Int32) (x2 : Int32) (S : Sg) : Option (Int32 × Sg) :=
  gbi (f_X11_isCompany x1 S) (fun v_10 S_9 =>
  if v_10 = 0 then
    B_X11_coinsAfter_29 S_9 x1 x2 (1 : Int32)
  else
    gbi (f_X11_in x2.toInt64 (0 : Int64) (50 : Int64) S_9) (fun v_12 S_11 =>
    if v_12 = 0 then
      B_X11_coinsAfter_29 S_11 x1 x2 (2 : Int32)
    else
      B_X11_coinsAfter_29 S_11 x1 x2 (0 : Int32)))
def Lb_X11_contractsOf_4 (k0 : Nat) (K4 : Sg → Int32 → Int32 → Int32 → Option (Int32 × Sg)) (S : Sg) (x1 : Int32) (x2 : Int32) (x3 : Int32) : Option (Int32 × Sg) :=
  gck (inb (2 : Int32) 175) (
  if (S k0 (2 : Int32).toNatClampNeg) ≤ x3 then
    some (x2, S)
  else
    gbi (f_X11_contractAt x3 S) (fun v_2 S_1 =>
    gck (inb (v_2 + (4 : Int32)) 175) (
    if (S_1 k0 (v_2 + (4 : Int32)).toNatClampNeg) = x1 then
      gvi (x2 + (1 : Int32)) (fun x2_5 =>
      gvi (x3 + (1 : Int32)) (fun x3_6 =>
      K4 S_1 x1 x2_5 x3_6))
    else
      gvi (x2 + (0 : Int32)) (fun x2_3 =>
      gvi (x3 + (1 : Int32)) (fun x3_4 =>
      K4 S_1 x1 x2_3 x3_4)))))
def L_X11_contractsOf_4 (k0 : Nat) : Nat → Sg → Int32 → Int32 → Int32 → Option (Int32 × Sg)
  | 0 => fun _ _ _ _ => none
  | n + 1 => Lb_X11_contractsOf_4 k0 (L_X11_contractsOf_4 k0 n)
def f_X11_contractsOf (k0 : Nat) (x1 : Int32) (S : Sg) : Option (Int32 × Sg) :=
  L_X11_contractsOf_4 k0 gFu S x1 (0 : Int32) (0 : Int32)
def B_X11_company_29 (S : Sg) (x1 : Int32) (x2 : Int32) (t0 : Int32) : Option (Int32 × Sg) :=
  gbi (f_X11_refused t0 S) (fun v_2 S_1 =>
  if v_2 = 0 then
    gbi (f_X11_companyAt x1 S_1) (fun v_4 S_3 =>
    if (3 : Int32) ≤ x2 then
      if x2 = (3 : Int32) then
        gbi (f_X11_tracksOf 17 x1 (0 : Int32) S_3) (fun v_8 S_7 =>
        some (v_8, S_7))
      else
        if x2 = (4 : Int32) then
          gbi (f_X11_contractsOf 17 x1 S_3) (fun v_6 S_5 =>
          some (v_6, S_5))
        else
          gck (inb ((v_4 + x2) - (2 : Int32)) 175) (
          some (S_3 17 ((v_4 + x2) - (2 : Int32)).toNatClampNeg, S_3))
    else
      gck (inb (v_4 + x2) 175) (
      some (S_3 17 (v_4 + x2).toNatClampNeg, S_3)))
  else
    some ((0 : Int32), S_1))
def f_X11_company (x1 : Int32) (x2 : Int32) (S : Sg) : Option (Int32 × Sg) :=
  gbi (f_X11_isCompany x1 S) (fun v_10 S_9 =>
  if v_10 = 0 then
    B_X11_company_29 S_9 x1 x2 (1 : Int32)
  else
    gbi (f_X11_in x2.toInt64 (0 : Int64) (6 : Int64) S_9) (fun v_12 S_11 =>
    if v_12 = 0 then
      B_X11_company_29 S_11 x1 x2 (2 : Int32)
    else
      B_X11_company_29 S_11 x1 x2 (0 : Int32)))
def f_X11_isContract (k0 : Nat) (x1 : Int32) (S : Sg) : Option (Int32 × Sg) :=
  gck (inb (2 : Int32) 175) (
  gbi (f_X11_in x1.toInt64 (0 : Int64) (((S k0 (2 : Int32).toNatClampNeg) - (1 : Int32)).toInt64) S) (fun v_2 S_1 =>
  gck (isb v_2) (some (v_2, S_1))))
def B_X11_contract_33 (S : Sg) (x1 : Int32) (x2 : Int32) (t0 : Int32) : Option (Int32 × Sg) :=
  gbi (f_X11_refused t0 S) (fun v_2 S_1 =>
  if v_2 = 0 then
    gbi (f_X11_contractAt x1 S_1) (fun v_4 S_3 =>
    gck (inb (v_4 + x2) 175) (
    some (S_3 17 (v_4 + x2).toNatClampNeg, S_3)))
  else
    some ((0 : Int32), S_1))
def f_X11_contract (x1 : Int32) (x2 : Int32) (S : Sg) : Option (Int32 × Sg) :=
  gbi (f_X11_isContract 17 x1 S) (fun v_6 S_5 =>
  if v_6 = 0 then
    B_X11_contract_33 S_5 x1 x2 (1 : Int32)
  else
    gbi (f_X11_in x2.toInt64 (0 : Int64) (5 : Int64) S_5) (fun v_8 S_7 =>
    if v_8 = 0 then
      B_X11_contract_33 S_7 x1 x2 (2 : Int32)
    else
      B_X11_contract_33 S_7 x1 x2 (0 : Int32)))
def B_X11_digit_70 (S : Sg) (x4 : Int32) (x5 : Int32) (t0 : Int32) (t1 : Int32) : Option (Int32 × Sg) :=
  gst (u2 S 14 3 (t1 + t0)) (fun S_1 =>
  if x5 = 0 then
    some ((-9 : Int32), S_1)
  else
    some (x4, S_1))
def B_X11_digit_53 (S : Sg) (x4 : Int32) (t0 : Int32) : Option (Int32 × Sg) :=
  if t0 = 0 then
    B_X11_digit_70 S x4 t0 (0 : Int32) (S 14 3)
  else
    B_X11_digit_70 S x4 t0 (1 : Int32) (S 14 3)
def B_X11_digit_27 (S : Sg) (x1 : Int32) (x2 : Int32) (x3 : Int32) (t0 : Int32) : Option (Int32 × Sg) :=
  gbi (f_X11_in t0.toInt64 x1.toInt64 x2.toInt64 S) (fun v_3 S_2 =>
  if v_3 = 0 then
    B_X11_digit_53 S_2 t0 (0 : Int32)
  else
    if t0 = x3 then
      B_X11_digit_53 S_2 t0 (0 : Int32)
    else
      B_X11_digit_53 S_2 t0 (1 : Int32))
def f_X11_digit (x1 : Int32) (x2 : Int32) (x3 : Int32) (S : Sg) : Option (Int32 × Sg) :=
  if (S 14 2) ≤ (S 14 3) then
    B_X11_digit_27 S x1 x2 x3 (-1 : Int32)
  else
    gck (inb (S 14 3) 100) (
    B_X11_digit_27 S x1 x2 x3 ((S 15 (S 14 3).toNatClampNeg) - (48 : Int32)))
def f_X11_takeOn (k0 : Nat) (x1 : Int32) (x2 : Int32) (S : Sg) : Option (Int32 × Sg) :=
  gbi (f_X11_contractAt x2 S) (fun v_2 S_1 =>
  gck (inb (v_2 + (4 : Int32)) 175) (
  gst (u2 S_1 k0 (v_2 + (4 : Int32)).toNatClampNeg x1) (fun S_3 =>
  gbi (f_X11_contractsOf k0 x1 S_3) (fun v_5 S_4 =>
  some (v_5, S_4)))))
def f_X11_isTrain (k0 : Nat) (x1 : Int32) (x2 : Int32) (S : Sg) : Option (Int32 × Sg) :=
  gbi (f_X11_trainsOf k0 x1 S) (fun v_2 S_1 =>
  gbi (f_X11_in x2.toInt64 (0 : Int64) ((v_2 - (1 : Int32)).toInt64) S_1) (fun v_4 S_3 =>
  gck (isb v_4) (some (v_4, S_3))))
def f_X11_isRun (k0 : Nat) (x1 : Int32) (x2 : Int32) (S : Sg) : Option (Int32 × Sg) :=
  gbi (f_X11_isContract k0 x1 S) (fun v_2 S_1 =>
  if v_2 = 0 then
    some ((0 : Int32), S_1)
  else
    gbi (f_X11_contractAt x1 S_1) (fun v_4 S_3 =>
    gck (inb (v_4 + (4 : Int32)) 175) (
    if (S_3 k0 (v_4 + (4 : Int32)).toNatClampNeg) = (-9 : Int32) then
      some ((1 : Int32), S_3)
    else
      gbi (f_X11_contractAt x1 S_3) (fun v_6 S_5 =>
      gck (inb (v_6 + (4 : Int32)) 175) (
      gbi (f_X11_isTrain k0 (S_5 k0 (v_6 + (4 : Int32)).toNatClampNeg) x2 S_5) (fun v_8 S_7 =>
      if v_8 = 0 then
        some ((0 : Int32), S_7)
      else
        some ((1 : Int32), S_7)))))))
def f_X11_why (k1 : Nat) (x2 : Int32) (x3 : Int32) (S : Sg) : Option (Int32 × Sg) :=
  gbi (f_X11_contractAt x2 S) (fun v_2 S_1 =>
  gck (inb (v_2 + (4 : Int32)) 175) (
  gvi (S_1 k1 (v_2 + (4 : Int32)).toNatClampNeg) (fun x5_3 =>
  if x5_3 = (-9 : Int32) then
    some ((1 : Int32), S_1)
  else
    gck (inb (v_2 + (5 : Int32)) 175) (
    if (S_1 k1 (v_2 + (5 : Int32)).toNatClampNeg) = (1 : Int32) then
      some ((2 : Int32), S_1)
    else
      gbi (f_X11_trainAt x5_3 x3 S_1) (fun v_5 S_4 =>
      gck (inb (v_5 + (1 : Int32)) 175) (
      if (S_4 k1 (v_5 + (1 : Int32)).toNatClampNeg) = (1 : Int32) then
        some ((3 : Int32), S_4)
      else
        gck (inb v_2 175) (
        gck (inb (v_2 + (1 : Int32)) 175) (
        gbi (f_X11_trainAt x5_3 x3 S_4) (fun v_7 S_6 =>
        gck (inb v_7 175) (
        gbi (f_X11_findWay k1 x5_3 (S_4 k1 v_2.toNatClampNeg) (S_4 k1 (v_2 + (1 : Int32)).toNatClampNeg) ((4 : Int32) * (S_6 k1 v_7.toNatClampNeg)) S_6) (fun v_9 S_8 =>
        if v_9 = 0 then
          some ((4 : Int32), S_8)
        else
          some ((0 : Int32), S_8))))))))))))
def B_X11_runOn_129 (k1 : Nat) (K45 : Sg → Int32 → Int32 → Int32 → Int32 → Option (Int32 × Sg)) (S : Sg) (x3 : Int32) (x4 : Int32) (x5 : Int32) (x6 : Int32) (x7 : Int32) : Option (Int32 × Sg) :=
  gbi (f_X11_companyAt x5 S) (fun v_2 S_1 =>
  gck (inb v_2 175) (
  gck (inb v_2 175) (
  gst (u2 S_1 k1 v_2.toNatClampNeg ((S_1 k1 v_2.toNatClampNeg) - x7)) (fun S_3 =>
  gck (inb (6 : Int32) 175) (
  gck (inb (6 : Int32) 175) (
  gst (u2 S_3 k1 (6 : Int32).toNatClampNeg ((S_3 k1 (6 : Int32).toNatClampNeg) + x7)) (fun S_4 =>
  gvi (x6 + (1 : Int32)) (fun x6_5 =>
  K45 S_4 x3 x4 x5 x6_5))))))))
def Lb_X11_runOn_45 (k1 : Nat) (K45 : Sg → Int32 → Int32 → Int32 → Int32 → Option (Int32 × Sg)) (S : Sg) (x3 : Int32) (x4 : Int32) (x5 : Int32) (x6 : Int32) : Option (Int32 × Sg) :=
  if (S 14 15) ≤ x6 then
    gck (inb (5 : Int32) 175) (
    gck (inb (x4 + (2 : Int32)) 175) (
    gck (inb (5 : Int32) 175) (
    gst (u2 S k1 (5 : Int32).toNatClampNeg ((S k1 (5 : Int32).toNatClampNeg) - (S k1 (x4 + (2 : Int32)).toNatClampNeg))) (fun S_6 =>
    gbi (f_X11_companyAt x5 S_6) (fun v_8 S_7 =>
    gck (inb v_8 175) (
    gck (inb (x4 + (2 : Int32)) 175) (
    gck (inb v_8 175) (
    gst (u2 S_7 k1 v_8.toNatClampNeg ((S_7 k1 v_8.toNatClampNeg) + (S_7 k1 (x4 + (2 : Int32)).toNatClampNeg))) (fun S_9 =>
    gck (inb (7 : Int32) 175) (
    gck (inb (x4 + (2 : Int32)) 175) (
    gck (inb (7 : Int32) 175) (
    gst (u2 S_9 k1 (7 : Int32).toNatClampNeg ((S_9 k1 (7 : Int32).toNatClampNeg) + (S_9 k1 (x4 + (2 : Int32)).toNatClampNeg))) (fun S_10 =>
    gck (inb (x4 + (5 : Int32)) 175) (
    gst (u2 S_10 k1 (x4 + (5 : Int32)).toNatClampNeg (1 : Int32)) (fun S_11 =>
    gbi (f_X11_trainAt x5 x3 S_11) (fun v_13 S_12 =>
    gck (inb (v_13 + (1 : Int32)) 175) (
    gst (u2 S_12 k1 (v_13 + (1 : Int32)).toNatClampNeg (1 : Int32)) (fun S_14 =>
    some (S_14 14 12, S_14)))))))))))))))))))
  else
    gck (inb x6 24) (
    gbi (f_X11_costOf k1 x5 (S 23 x6.toNatClampNeg) S) (fun v_16 S_15 =>
    gck (inb x6 24) (
    gbi (f_X11_trackAt (S_15 23 x6.toNatClampNeg) S_15) (fun v_18 S_17 =>
    gck (inb (v_18 + (3 : Int32)) 175) (
    gvi (S_17 k1 (v_18 + (3 : Int32)).toNatClampNeg) (fun x8_19 =>
    if x8_19 = (-9 : Int32) then
      gck (inb (5 : Int32) 175) (
      gck (inb (5 : Int32) 175) (
      gst (u2 S_17 k1 (5 : Int32).toNatClampNeg ((S_17 k1 (5 : Int32).toNatClampNeg) + v_16)) (fun S_26 =>
      B_X11_runOn_129 k1 K45 S_26 x3 x4 x5 x6 v_16)))
    else
      gbi (f_X11_companyAt x8_19 S_17) (fun v_21 S_20 =>
      gck (inb v_21 175) (
      gck (inb v_21 175) (
      gst (u2 S_20 k1 v_21.toNatClampNeg ((S_20 k1 v_21.toNatClampNeg) + v_16)) (fun S_22 =>
      gbi (f_X11_companyAt x8_19 S_22) (fun v_24 S_23 =>
      gck (inb (v_24 + (3 : Int32)) 175) (
      gck (inb (v_24 + (3 : Int32)) 175) (
      gst (u2 S_23 k1 (v_24 + (3 : Int32)).toNatClampNeg ((S_23 k1 (v_24 + (3 : Int32)).toNatClampNeg) + v_16)) (fun S_25 =>
      B_X11_runOn_129 k1 K45 S_25 x3 x4 x5 x6 v_16))))))))))))))
def L_X11_runOn_45 (k1 : Nat) : Nat → Sg → Int32 → Int32 → Int32 → Int32 → Option (Int32 × Sg)
  | 0 => fun _ _ _ _ _ => none
  | n + 1 => Lb_X11_runOn_45 k1 (L_X11_runOn_45 k1 n)
def f_X11_runOn (k1 : Nat) (x2 : Int32) (x3 : Int32) (S : Sg) : Option (Int32 × Sg) :=
  gbi (f_X11_contractAt x2 S) (fun v_28 S_27 =>
  gck (inb (v_28 + (4 : Int32)) 175) (
  gvi (S_27 k1 (v_28 + (4 : Int32)).toNatClampNeg) (fun x5_29 =>
  gck (inb v_28 175) (
  gck (inb (v_28 + (1 : Int32)) 175) (
  gbi (f_X11_trainAt x5_29 x3 S_27) (fun v_31 S_30 =>
  gck (inb v_31 175) (
  gbi (f_X11_findWay k1 x5_29 (S_27 k1 v_28.toNatClampNeg) (S_27 k1 (v_28 + (1 : Int32)).toNatClampNeg) ((4 : Int32) * (S_30 k1 v_31.toNatClampNeg)) S_30) (fun v_33 S_32 =>
  L_X11_runOn_45 k1 gFu S_32 x3 v_28 x5_29 (0 : Int32)))))))))
def B_X11_does_11 (S : Sg) (x1 : Int32) (x2 : Int32) (x3 : Int32) (t0 : Int32) : Option (Int32 × Sg) :=
  gbi (f_X11_isCompany x2 S) (fun v_2 S_1 =>
  if x1 = (1 : Int32) then
    if v_2 = 0 then
      some ((0 : Int32), S_1)
    else
      if t0 = 0 then
        some ((0 : Int32), S_1)
      else
        gbi (f_X11_isTrack 18 x3 S_1) (fun v_4 S_3 =>
        if v_4 = 0 then
          some ((0 : Int32), S_3)
        else
          gbi (f_X11_canBuyTrack 18 x2 x3 S_3) (fun v_6 S_5 =>
          if v_6 = 0 then
            some ((0 : Int32), S_5)
          else
            gbi (f_X11_buyTrackOn 18 x2 x3 S_5) (fun v_8 S_7 =>
            some ((1 : Int32), S_7))))
  else
  if x1 = (2 : Int32) then
    if v_2 = 0 then
      some ((0 : Int32), S_1)
    else
      gbi (f_X11_in x3.toInt64 (1 : Int64) (6 : Int64) S_1) (fun v_11 S_10 =>
      if v_11 = 0 then
        some ((0 : Int32), S_10)
      else
        gbi (f_X11_canBuyTrain 18 x2 x3 S_10) (fun v_13 S_12 =>
        if v_13 = 0 then
          some ((0 : Int32), S_12)
        else
          gbi (f_X11_buyTrainOn 18 x2 x3 S_12) (fun v_15 S_14 =>
          if v_15 < 0 then
            some ((0 : Int32), S_14)
          else
            some ((1 : Int32), S_14))))
  else
  if x1 = (3 : Int32) then
    if v_2 = 0 then
      some ((0 : Int32), S_1)
    else
      if x3 ≤ (9 : Int32) then
        gbi (f_X11_companyAt x2 S_1) (fun v_18 S_17 =>
        gck (inb (v_18 + (1 : Int32)) 175) (
        gst (u2 S_17 18 (v_18 + (1 : Int32)).toNatClampNeg x3) (fun S_19 =>
        some ((1 : Int32), S_19))))
      else
        some ((0 : Int32), S_1)
  else
  if x1 = (4 : Int32) then
    if v_2 = 0 then
      some ((0 : Int32), S_1)
    else
      gbi (f_X11_isContract 18 x3 S_1) (fun v_22 S_21 =>
      if v_22 = 0 then
        some ((0 : Int32), S_21)
      else
        gbi (f_X11_canTake 18 x3 S_21) (fun v_24 S_23 =>
        if v_24 = 0 then
          some ((0 : Int32), S_23)
        else
          gbi (f_X11_takeOn 18 x2 x3 S_23) (fun v_26 S_25 =>
          if v_26 ≤ 0 then
            some ((0 : Int32), S_25)
          else
            some ((1 : Int32), S_25))))
  else
  if x1 = (5 : Int32) then
    if (10 : Int32) ≤ x3 then
      some ((0 : Int32), S_1)
    else
      gbi (f_X11_isRun 18 x2 x3 S_1) (fun v_29 S_28 =>
      if v_29 = 0 then
        some ((0 : Int32), S_28)
      else
        gbi (f_X11_why 18 x2 x3 S_28) (fun v_31 S_30 =>
        if v_31 = 0 then
          gbi (f_X11_runOn 18 x2 x3 S_30) (fun v_33 S_32 =>
          if v_33 < 0 then
            some ((0 : Int32), S_32)
          else
            some ((1 : Int32), S_32))
        else
          some ((0 : Int32), S_30)))
  else
  if x1 = (6 : Int32) then
    if x2 = 0 then
      if x3 = 0 then
        gbi (f_X11_endOn 18 S_1) (fun v_36 S_35 =>
        if v_36 < 0 then
          some ((0 : Int32), S_35)
        else
          some ((1 : Int32), S_35))
      else
        some ((0 : Int32), S_1)
    else
      some ((0 : Int32), S_1)
  else
  if x1 = (7 : Int32) then
    if v_2 = 0 then
      some ((0 : Int32), S_1)
    else
      gbi (f_X11_companyAt x2 S_1) (fun v_39 S_38 =>
      gck (inb v_39 175) (
      if (S_38 18 v_39.toNatClampNeg) < x3 then
        some ((0 : Int32), S_38)
      else
        some ((1 : Int32), S_38)))
  else
  if x1 = (8 : Int32) then
    if x2 = 0 then
      if (10 : Int32) ≤ x3 then
        some ((0 : Int32), S_1)
      else
        gck (inb (3 : Int32) 175) (
        if (S_1 18 (3 : Int32).toNatClampNeg) = x3 then
          some ((1 : Int32), S_1)
        else
          some ((0 : Int32), S_1))
    else
      some ((0 : Int32), S_1)
  else
  if x1 = (9 : Int32) then
    if v_2 = 0 then
      some ((0 : Int32), S_1)
    else
      if (10 : Int32) ≤ x3 then
        some ((0 : Int32), S_1)
      else
        gbi (f_X11_trainsOf 18 x2 S_1) (fun v_43 S_42 =>
        if v_43 = x3 then
          some ((1 : Int32), S_42)
        else
          some ((0 : Int32), S_42))
  else
    some ((0 : Int32), S_1))
def f_X11_does (x1 : Int32) (x2 : Int32) (x3 : Int32) (S : Sg) : Option (Int32 × Sg) :=
  if (100 : Int32) ≤ x3 then
    B_X11_does_11 S x1 x2 x3 (0 : Int32)
  else
    B_X11_does_11 S x1 x2 x3 (1 : Int32)
def B_X11_eat_44 (S : Sg) (x2 : Int32) (t0 : Int32) (t1 : Int32) : Option (Int32 × Sg) :=
  gst (u2 S 14 3 (t1 + t0)) (fun S_1 =>
  gck (isb x2) (some (x2, S_1)))
def B_X11_eat_29 (S : Sg) (t0 : Int32) : Option (Int32 × Sg) :=
  if t0 = 0 then
    B_X11_eat_44 S t0 (0 : Int32) (S 14 3)
  else
    B_X11_eat_44 S t0 (1 : Int32) (S 14 3)
def f_X11_eat (x1 : Int32) (S : Sg) : Option (Int32 × Sg) :=
  if (S 14 2) ≤ (S 14 3) then
    B_X11_eat_29 S (0 : Int32)
  else
    gck (inb (S 14 3) 100) (
    if (S 15 (S 14 3).toNatClampNeg) = x1 then
      B_X11_eat_29 S (1 : Int32)
    else
      B_X11_eat_29 S (0 : Int32))
def f_X11_endRound (S : Sg) : Option (Int32 × Sg) :=
  gst (u2 S 14 0 (0 : Int32)) (fun S_1 =>
  gbv (f_X11_note S_1) (fun S_2 =>
  gbi (f_X11_endOn 17 S_2) (fun v_4 S_3 =>
  some ((((v_4 &&& (1 : Int32)) + ((v_4 >>> ((1 : Int32) &&& 31)) &&& (1 : Int32))) + ((v_4 >>> ((2 : Int32) &&& 31)) &&& (1 : Int32))) + ((v_4 >>> ((3 : Int32) &&& 31)) &&& (1 : Int32)), S_3))))
def B_X11_readTrack_62 (S : Sg) (x1 : Int32) (x2 : Int32) (t0 : Int32) : Option (Int32 × Sg) :=
  if t0 = (-9 : Int32) then
    some ((0 : Int32), S)
  else
    gbv (f_X11_addTrack 16 x1 x2 t0 S) (fun S_1 =>
    some ((1 : Int32), S_1))
def B_X11_readTrack_41 (S : Sg) (x1 : Int32) (t0 : Int32) : Option (Int32 × Sg) :=
  if t0 = (-9 : Int32) then
    B_X11_readTrack_62 S x1 t0 (-9 : Int32)
  else
    gbi (f_X11_digit (1 : Int32) (9 : Int32) (-9 : Int32) S) (fun v_3 S_2 =>
    B_X11_readTrack_62 S_2 x1 t0 v_3)
def f_X11_readTrack (S : Sg) : Option (Int32 × Sg) :=
  gck (inb (0 : Int32) 175) (
  gbi (f_X11_digit (0 : Int32) ((S 16 (0 : Int32).toNatClampNeg) - (1 : Int32)) (-9 : Int32) S) (fun v_5 S_4 =>
  if v_5 = (-9 : Int32) then
    B_X11_readTrack_41 S_4 v_5 (-9 : Int32)
  else
    gck (inb (0 : Int32) 175) (
    gbi (f_X11_digit (0 : Int32) ((S_4 16 (0 : Int32).toNatClampNeg) - (1 : Int32)) v_5 S_4) (fun v_7 S_6 =>
    B_X11_readTrack_41 S_6 v_5 v_7))))
def B_X11_readContract_114 (S : Sg) (x1 : Int32) (x2 : Int32) (x3 : Int32) (x4 : Int32) (t0 : Int32) : Option (Int32 × Sg) :=
  if t0 = (-9 : Int32) then
    some ((0 : Int32), S)
  else
    gbv (f_X11_addContract 16 x1 x2 (((10 : Int32) * x3) + x4) t0 S) (fun S_1 =>
    some ((1 : Int32), S_1))
def B_X11_readContract_91 (S : Sg) (x1 : Int32) (x2 : Int32) (x3 : Int32) (t0 : Int32) : Option (Int32 × Sg) :=
  if t0 = (-9 : Int32) then
    B_X11_readContract_114 S x1 x2 x3 t0 (-9 : Int32)
  else
    gbi (f_X11_digit (1 : Int32) (9 : Int32) (-9 : Int32) S) (fun v_3 S_2 =>
    B_X11_readContract_114 S_2 x1 x2 x3 t0 v_3)
def B_X11_readContract_84 (S : Sg) (x1 : Int32) (x2 : Int32) (x3 : Int32) (t0 : Int32) : Option (Int32 × Sg) :=
  gbi (f_X11_digit t0 (9 : Int32) (-9 : Int32) S) (fun v_5 S_4 =>
  B_X11_readContract_91 S_4 x1 x2 x3 v_5)
def B_X11_readContract_62 (S : Sg) (x1 : Int32) (x2 : Int32) (t0 : Int32) : Option (Int32 × Sg) :=
  if t0 = (-9 : Int32) then
    B_X11_readContract_91 S x1 x2 t0 (-9 : Int32)
  else
    if t0 = 0 then
      B_X11_readContract_84 S x1 x2 t0 (1 : Int32)
    else
      B_X11_readContract_84 S x1 x2 t0 (0 : Int32)
def B_X11_readContract_41 (S : Sg) (x1 : Int32) (t0 : Int32) : Option (Int32 × Sg) :=
  if t0 = (-9 : Int32) then
    B_X11_readContract_62 S x1 t0 (-9 : Int32)
  else
    gbi (f_X11_digit (0 : Int32) (9 : Int32) (-9 : Int32) S) (fun v_7 S_6 =>
    B_X11_readContract_62 S_6 x1 t0 v_7)
def f_X11_readContract (S : Sg) : Option (Int32 × Sg) :=
  gck (inb (0 : Int32) 175) (
  gbi (f_X11_digit (0 : Int32) ((S 16 (0 : Int32).toNatClampNeg) - (1 : Int32)) (-9 : Int32) S) (fun v_9 S_8 =>
  if v_9 = (-9 : Int32) then
    B_X11_readContract_41 S_8 v_9 (-9 : Int32)
  else
    gck (inb (0 : Int32) 175) (
    gbi (f_X11_digit (0 : Int32) ((S_8 16 (0 : Int32).toNatClampNeg) - (1 : Int32)) v_9 S_8) (fun v_11 S_10 =>
    B_X11_readContract_41 S_10 v_9 v_11))))
def B_X11_readAll_118 (K48 : Sg → Option (Int32 × Sg)) (S : Sg) (t0 : Int32) : Option (Int32 × Sg) :=
  if t0 = 0 then
    some ((0 : Int32), S)
  else
    K48 S
def B_X11_readAll_86 (K48 : Sg → Option (Int32 × Sg)) (S : Sg) : Option (Int32 × Sg) :=
  gck (inb (2 : Int32) 175) (
  if (8 : Int32) ≤ (S 16 (2 : Int32).toNatClampNeg) then
    B_X11_readAll_118 K48 S (0 : Int32)
  else
    gbi (f_X11_eat (99 : Int32) S) (fun v_2 S_1 =>
    if v_2 = 0 then
      B_X11_readAll_118 K48 S_1 (0 : Int32)
    else
      gbi (f_X11_readContract S_1) (fun v_4 S_3 =>
      if v_4 = 0 then
        B_X11_readAll_118 K48 S_3 (0 : Int32)
      else
        B_X11_readAll_118 K48 S_3 (1 : Int32))))
def Lb_X11_readAll_48 (K48 : Sg → Option (Int32 × Sg)) (S : Sg) : Option (Int32 × Sg) :=
  if (S 14 2) ≤ (S 14 3) then
    some ((1 : Int32), S)
  else
    gck (inb (1 : Int32) 175) (
    if (16 : Int32) ≤ (S 16 (1 : Int32).toNatClampNeg) then
      B_X11_readAll_86 K48 S
    else
      gbi (f_X11_eat (116 : Int32) S) (fun v_6 S_5 =>
      if v_6 = 0 then
        B_X11_readAll_86 K48 S_5
      else
        gbi (f_X11_readTrack S_5) (fun v_8 S_7 =>
        B_X11_readAll_118 K48 S_7 v_8)))
def L_X11_readAll_48 : Nat → Sg → Option (Int32 × Sg)
  | 0 => fun _ => none
  | n + 1 => Lb_X11_readAll_48 (L_X11_readAll_48 n)
def f_X11_readAll (S : Sg) : Option (Int32 × Sg) :=
  gst (u2 S 14 3 (0 : Int32)) (fun S_9 =>
  gbv (f_X11_begin 16 S_9) (fun S_10 =>
  gbi (f_X11_eat (82 : Int32) S_10) (fun v_12 S_11 =>
  if v_12 = 0 then
    some ((0 : Int32), S_11)
  else
    gbi (f_X11_digit (2 : Int32) (9 : Int32) (-9 : Int32) S_11) (fun v_14 S_13 =>
    if v_14 = (-9 : Int32) then
      some ((0 : Int32), S_13)
    else
      gck (inb (0 : Int32) 175) (
      gst (u2 S_13 16 (0 : Int32).toNatClampNeg v_14) (fun S_15 =>
      L_X11_readAll_48 gFu S_15))))))
def f_X11_errorPosition (S : Sg) : Option (Int32 × Sg) :=
  gst (u2 S 14 0 (0 : Int32)) (fun S_1 =>
  gbi (f_X11_readAll S_1) (fun v_3 S_2 =>
  if v_3 = 0 then
    some (S_2 14 3, S_2)
  else
    some ((-9 : Int32), S_2)))
def f_X11_isCity (x1 : Int32) (S : Sg) : Option (Int32 × Sg) :=
  gck (inb (0 : Int32) 175) (
  gbi (f_X11_in x1.toInt64 (0 : Int64) (((S 17 (0 : Int32).toNatClampNeg) - (1 : Int32)).toInt64) S) (fun v_2 S_1 =>
  gck (isb v_2) (some (v_2, S_1))))
def Lb_X11_levelFor_34 (K34 : Sg → Int32 → Int32 → Int32 → Option (Int32 × Sg)) (S : Sg) (x1 : Int32) (x2 : Int32) (x3 : Int32) : Option (Int32 × Sg) :=
  if (6 : Int32) < x3 then
    some ((-9 : Int32), S)
  else
    gbi (f_X11_contractAt x2 S) (fun v_2 S_1 =>
    gck (inb v_2 175) (
    gbi (f_X11_contractAt x2 S_1) (fun v_4 S_3 =>
    gck (inb (v_4 + (1 : Int32)) 175) (
    gbi (f_X11_findWay 17 x1 (S_1 17 v_2.toNatClampNeg) (S_3 17 (v_4 + (1 : Int32)).toNatClampNeg) ((4 : Int32) * x3) S_3) (fun v_6 S_5 =>
    if v_6 = 0 then
      gvi (x3 + (1 : Int32)) (fun x3_7 =>
      K34 S_5 x1 x2 x3_7)
    else
      some (x3, S_5))))))
def L_X11_levelFor_34 : Nat → Sg → Int32 → Int32 → Int32 → Option (Int32 × Sg)
  | 0 => fun _ _ _ _ => none
  | n + 1 => Lb_X11_levelFor_34 (L_X11_levelFor_34 n)
def B_X11_levelFor_24 (S : Sg) (x1 : Int32) (x2 : Int32) (t0 : Int32) : Option (Int32 × Sg) :=
  gbi (f_X11_refused t0 S) (fun v_9 S_8 =>
  if v_9 = 0 then
    L_X11_levelFor_34 gFu S_8 x1 x2 (1 : Int32)
  else
    some ((0 : Int32), S_8))
def f_X11_levelFor (x1 : Int32) (x2 : Int32) (S : Sg) : Option (Int32 × Sg) :=
  gbi (f_X11_isCompany x1 S) (fun v_11 S_10 =>
  if v_11 = 0 then
    B_X11_levelFor_24 S_10 x1 x2 (1 : Int32)
  else
    gbi (f_X11_isContract 17 x2 S_10) (fun v_13 S_12 =>
    if v_13 = 0 then
      B_X11_levelFor_24 S_12 x1 x2 (1 : Int32)
    else
      B_X11_levelFor_24 S_12 x1 x2 (0 : Int32)))
def B_X11_load_13 (S : Sg) (t0 : Int32) : Option (Int32 × Sg) :=
  gbi (f_X11_refused t0 S) (fun v_2 S_1 =>
  if v_2 = 0 then
    gbv (f_X11_copyPage 16 175 17 175 (0 : Int32) (0 : Int32) S_1) (fun S_3 =>
    gst (u2 S_3 14 8 (0 : Int32)) (fun S_4 =>
    gck (inb (0 : Int32) 2) (
    gst (u2 S_4 21 (0 : Int32).toNatClampNeg (0 : Int32)) (fun S_5 =>
    gck (inb (1 : Int32) 2) (
    gst (u2 S_5 21 (1 : Int32).toNatClampNeg (0 : Int32)) (fun S_6 =>
    gck (inb (1 : Int32) 175) (
    some (S_6 17 (1 : Int32).toNatClampNeg, S_6))))))))
  else
    some ((0 : Int32), S_1))
def f_X11_load (S : Sg) : Option (Int32 × Sg) :=
  gbi (f_X11_readAll S) (fun v_8 S_7 =>
  if v_8 = 0 then
    B_X11_load_13 S_7 (1 : Int32)
  else
    B_X11_load_13 S_7 (0 : Int32))
def B_X11_offer_83 (S : Sg) (x1 : Int32) (x2 : Int32) (x3 : Int32) (x4 : Int32) (t0 : Int32) : Option (Int32 × Sg) :=
  gbi (f_X11_refused t0 S) (fun v_2 S_1 =>
  if v_2 = 0 then
    gbv (f_X11_note S_1) (fun S_3 =>
    gbv (f_X11_addContract 17 x1 x2 x3 x4 S_3) (fun S_4 =>
    gck (inb (2 : Int32) 175) (
    some ((S_4 17 (2 : Int32).toNatClampNeg) - (1 : Int32), S_4))))
  else
    some ((0 : Int32), S_1))
def B_X11_offer_35 (S : Sg) (x1 : Int32) (x2 : Int32) (x3 : Int32) (x4 : Int32) (t0 : Int32) : Option (Int32 × Sg) :=
  gbi (f_X11_isCity x1 S) (fun v_6 S_5 =>
  if v_6 = 0 then
    B_X11_offer_83 S_5 x1 x2 x3 x4 (1 : Int32)
  else
    gbi (f_X11_isCity x2 S_5) (fun v_8 S_7 =>
    if v_8 = 0 then
      B_X11_offer_83 S_7 x1 x2 x3 x4 (1 : Int32)
    else
      if t0 = 0 then
        B_X11_offer_83 S_7 x1 x2 x3 x4 (2 : Int32)
      else
        gck (inb (2 : Int32) 175) (
        if (S_7 17 (2 : Int32).toNatClampNeg) = (8 : Int32) then
          B_X11_offer_83 S_7 x1 x2 x3 x4 (3 : Int32)
        else
          B_X11_offer_83 S_7 x1 x2 x3 x4 (0 : Int32))))
def f_X11_offer (x1 : Int32) (x2 : Int32) (x3 : Int32) (x4 : Int32) (S : Sg) : Option (Int32 × Sg) :=
  if x1 = x2 then
    B_X11_offer_35 S x1 x2 x3 x4 (0 : Int32)
  else
    gbi (f_X11_in x3.toInt64 (1 : Int64) (99 : Int64) S) (fun v_10 S_9 =>
    if v_10 = 0 then
      B_X11_offer_35 S_9 x1 x2 x3 x4 (0 : Int32)
    else
      gbi (f_X11_in x4.toInt64 (1 : Int64) (9 : Int64) S_9) (fun v_12 S_11 =>
      if v_12 = 0 then
        B_X11_offer_35 S_11 x1 x2 x3 x4 (0 : Int32)
      else
        B_X11_offer_35 S_11 x1 x2 x3 x4 (1 : Int32)))
def B_X11_restore_29 (S : Sg) (x1 : Int32) (t0 : Int32) : Option (Int32 × Sg) :=
  gbi (f_X11_refused t0 S) (fun v_2 S_1 =>
  if v_2 = 0 then
    gbv (f_X11_copyPage 20 350 17 175 ((175 : Int32) * x1) (0 : Int32) S_1) (fun S_3 =>
    gst (u2 S_3 14 8 (0 : Int32)) (fun S_4 =>
    gck (inb (4 : Int32) 175) (
    some (S_4 17 (4 : Int32).toNatClampNeg, S_4))))
  else
    some ((0 : Int32), S_1))
def f_X11_restore (x1 : Int32) (S : Sg) : Option (Int32 × Sg) :=
  gbi (f_X11_in x1.toInt64 (0 : Int64) (1 : Int64) S) (fun v_6 S_5 =>
  if v_6 = 0 then
    B_X11_restore_29 S_5 x1 (1 : Int32)
  else
    gck (inb x1 2) (
    if (S_5 21 x1.toNatClampNeg) = 0 then
      B_X11_restore_29 S_5 x1 (2 : Int32)
    else
      B_X11_restore_29 S_5 x1 (0 : Int32)))
def B_X11_run_35 (S : Sg) (x1 : Int32) (x2 : Int32) (t0 : Int32) : Option (Int32 × Sg) :=
  gbi (f_X11_refused t0 S) (fun v_2 S_1 =>
  if v_2 = 0 then
    gbv (f_X11_note S_1) (fun S_3 =>
    gbi (f_X11_runOn 17 x1 x2 S_3) (fun v_5 S_4 =>
    some (v_5, S_4)))
  else
    some ((0 : Int32), S_1))
def f_X11_run (x1 : Int32) (x2 : Int32) (S : Sg) : Option (Int32 × Sg) :=
  gbi (f_X11_isRun 17 x1 x2 S) (fun v_7 S_6 =>
  if v_7 = 0 then
    B_X11_run_35 S_6 x1 x2 (1 : Int32)
  else
    gbi (f_X11_why 17 x1 x2 S_6) (fun v_9 S_8 =>
    if v_9 = 0 then
      B_X11_run_35 S_8 x1 x2 (0 : Int32)
    else
      B_X11_run_35 S_8 x1 x2 (2 : Int32)))
def Lb_X11_runAll_41 (k1 : Nat) (K2 : Sg → Int32 → Option Sg) (K41 : Sg → Int32 → Int32 → Int32 → Int32 → Option Sg) (S : Sg) (x2 : Int32) (x4 : Int32) (x5 : Int32) (x6 : Int32) : Option Sg :=
  if x4 ≤ x6 then
    gvi (x2 + (1 : Int32)) (fun x2_1 =>
    K2 S x2_1)
  else
    if x5 = 0 then
      gbi (f_X11_why k1 x2 x6 S) (fun v_4 S_3 =>
      if v_4 = 0 then
        gbi (f_X11_runOn k1 x2 x6 S_3) (fun v_7 S_6 =>
        gvi (x6 + (1 : Int32)) (fun x6_8 =>
        K41 S_6 x2 x4 (1 : Int32) x6_8))
      else
        gvi (x6 + (1 : Int32)) (fun x6_5 =>
        K41 S_3 x2 x4 x5 x6_5))
    else
      gvi (x2 + (1 : Int32)) (fun x2_2 =>
      K2 S x2_2)
def L_X11_runAll_41 (k1 : Nat) (K2 : Sg → Int32 → Option Sg) : Nat → Sg → Int32 → Int32 → Int32 → Int32 → Option Sg
  | 0 => fun _ _ _ _ _ => none
  | n + 1 => Lb_X11_runAll_41 k1 K2 (L_X11_runAll_41 k1 K2 n)
def Lb_X11_runAll_2 (k1 : Nat) (K2 : Sg → Int32 → Option Sg) (S : Sg) (x2 : Int32) : Option Sg :=
  gck (inb (2 : Int32) 175) (
  if (S k1 (2 : Int32).toNatClampNeg) ≤ x2 then
    some S
  else
    gbi (f_X11_contractAt x2 S) (fun v_10 S_9 =>
    gck (inb (v_10 + (4 : Int32)) 175) (
    gvi (S_9 k1 (v_10 + (4 : Int32)).toNatClampNeg) (fun x3_11 =>
    if x3_11 = (-9 : Int32) then
      L_X11_runAll_41 k1 K2 gFu S_9 x2 (0 : Int32) (0 : Int32) (0 : Int32)
    else
      gbi (f_X11_trainsOf k1 x3_11 S_9) (fun v_13 S_12 =>
      L_X11_runAll_41 k1 K2 gFu S_12 x2 v_13 (0 : Int32) (0 : Int32))))))
def L_X11_runAll_2 (k1 : Nat) : Nat → Sg → Int32 → Option Sg
  | 0 => fun _ _ => none
  | n + 1 => Lb_X11_runAll_2 k1 (L_X11_runAll_2 k1 n)
def f_X11_runAll (k1 : Nat) (S : Sg) : Option Sg :=
  L_X11_runAll_2 k1 gFu S (0 : Int32)
def Lb_X11_runScript_84 (K84 : Sg → Int32 → Int64 → Int64 → Int32 → Option (Int32 × Sg)) (S : Sg) (x1 : Int32) (x4 : Int64) (x6 : Int64) (x8 : Int32) : Option (Int32 × Sg) :=
  if x1 ≤ x8 then
    some ((-9 : Int32), S)
  else
    gvl (x4 / (100000 : Int64)) (fun x4_1 =>
    gck (!decide (x4_1 = 0)) (
    gvi ((x6 / x4_1).toInt32) (fun x9_2 =>
    gck (!decide (x4_1 = 0)) (
    gvl (x6 - x6 / x4_1 * x4_1) (fun x6_3 =>
    gbi (f_X11_does (x9_2 / (10000 : Int32)) ((x9_2 / (1000 : Int32)) - (x9_2 / (1000 : Int32)) / (10 : Int32) * (10 : Int32)) (x9_2 - x9_2 / (1000 : Int32) * (1000 : Int32)) S) (fun v_5 S_4 =>
    if v_5 = 0 then
      some (x8, S_4)
    else
      gvi (x8 + (1 : Int32)) (fun x8_6 =>
      K84 S_4 x1 x4_1 x6_3 x8_6)))))))
def L_X11_runScript_84 : Nat → Sg → Int32 → Int64 → Int64 → Int32 → Option (Int32 × Sg)
  | 0 => fun _ _ _ _ _ => none
  | n + 1 => Lb_X11_runScript_84 (L_X11_runScript_84 n)
def B_X11_runScript_57 (S : Sg) (x1 : Int32) (x2 : Int64) (x4 : Int64) (t0 : Int32) : Option (Int32 × Sg) :=
  gbi (f_X11_refused t0 S) (fun v_8 S_7 =>
  if v_8 = 0 then
    gbv (f_X11_copyPage 17 175 18 175 (0 : Int32) (0 : Int32) S_7) (fun S_9 =>
    L_X11_runScript_84 gFu S_9 x1 x4 x2 (0 : Int32))
  else
    some ((0 : Int32), S_7))
def B_X11_runScript_25 (S : Sg) (x1 : Int32) (x2 : Int64) (t0 : Int64) : Option (Int32 × Sg) :=
  gbi (f_X11_in x1.toInt64 (1 : Int64) (3 : Int64) S) (fun v_11 S_10 =>
  if v_11 = 0 then
    B_X11_runScript_57 S_10 x1 x2 t0 (1 : Int32)
  else
    gbi (f_X11_in x2 (0 : Int64) (t0 - (1 : Int64)) S_10) (fun v_13 S_12 =>
    if v_13 = 0 then
      B_X11_runScript_57 S_12 x1 x2 t0 (1 : Int32)
    else
      B_X11_runScript_57 S_12 x1 x2 t0 (0 : Int32)))
def f_X11_runScript (x1 : Int32) (x2 : Int64) (S : Sg) : Option (Int32 × Sg) :=
  if x1 = (1 : Int32) then
    B_X11_runScript_25 S x1 x2 (100000 : Int64)
  else
    if x1 = (2 : Int32) then
      B_X11_runScript_25 S x1 x2 (10000000000 : Int64)
    else
      B_X11_runScript_25 S x1 x2 (1000000000000000 : Int64)
def B_X11_save_16 (S : Sg) (x1 : Int32) (t0 : Int32) : Option (Int32 × Sg) :=
  gbi (f_X11_refused t0 S) (fun v_2 S_1 =>
  if v_2 = 0 then
    gck (inb x1 2) (
    gst (u2 S_1 21 x1.toNatClampNeg (1 : Int32)) (fun S_3 =>
    gbv (f_X11_copyPage 17 175 20 350 (0 : Int32) ((175 : Int32) * x1) S_3) (fun S_4 =>
    gck (inb (4 : Int32) 175) (
    some (S_4 17 (4 : Int32).toNatClampNeg, S_4)))))
  else
    some ((0 : Int32), S_1))
def f_X11_save (x1 : Int32) (S : Sg) : Option (Int32 × Sg) :=
  gbi (f_X11_in x1.toInt64 (0 : Int64) (1 : Int64) S) (fun v_6 S_5 =>
  if v_6 = 0 then
    B_X11_save_16 S_5 x1 (1 : Int32)
  else
    B_X11_save_16 S_5 x1 (0 : Int32))
def B_X11_setRent_29 (S : Sg) (x1 : Int32) (x2 : Int32) (t0 : Int32) : Option (Int32 × Sg) :=
  gbi (f_X11_refused t0 S) (fun v_2 S_1 =>
  if v_2 = 0 then
    gbv (f_X11_note S_1) (fun S_3 =>
    gbi (f_X11_companyAt x1 S_3) (fun v_5 S_4 =>
    gck (inb (v_5 + (1 : Int32)) 175) (
    gvi (S_4 17 (v_5 + (1 : Int32)).toNatClampNeg) (fun x3_6 =>
    gbi (f_X11_companyAt x1 S_4) (fun v_8 S_7 =>
    gck (inb (v_8 + (1 : Int32)) 175) (
    gst (u2 S_7 17 (v_8 + (1 : Int32)).toNatClampNeg x2) (fun S_9 =>
    some (x3_6, S_9))))))))
  else
    some ((0 : Int32), S_1))
def f_X11_setRent (x1 : Int32) (x2 : Int32) (S : Sg) : Option (Int32 × Sg) :=
  gbi (f_X11_isCompany x1 S) (fun v_11 S_10 =>
  if v_11 = 0 then
    B_X11_setRent_29 S_10 x1 x2 (1 : Int32)
  else
    gbi (f_X11_in x2.toInt64 (0 : Int64) (9 : Int64) S_10) (fun v_13 S_12 =>
    if v_13 = 0 then
      B_X11_setRent_29 S_12 x1 x2 (2 : Int32)
    else
      B_X11_setRent_29 S_12 x1 x2 (0 : Int32)))
def f_X11_worthOf (k0 : Nat) (x1 : Int32) (S : Sg) : Option (Int32 × Sg) :=
  gbi (f_X11_companyAt x1 S) (fun v_2 S_1 =>
  gck (inb v_2 175) (
  gbi (f_X11_tracksOf k0 x1 (1 : Int32) S_1) (fun v_4 S_3 =>
  gbi (f_X11_levelsOf k0 x1 S_3) (fun v_6 S_5 =>
  some (((S_1 k0 v_2.toNatClampNeg) + ((3 : Int32) * v_4)) + ((10 : Int32) * v_6), S_5)))))
def Lb_X11_simulate_286 (K286 : Sg → Int32 → Int32 → Option (Int32 × Sg)) (S : Sg) (x6 : Int32) (x7 : Int32) : Option (Int32 × Sg) :=
  if (4 : Int32) ≤ x7 then
    gck (inb (3 : Int32) 175) (
    some (x6 + ((10000 : Int32) * (S 18 (3 : Int32).toNatClampNeg)), S))
  else
    gbi (f_X11_worthOf 18 x7 S) (fun v_2 S_1 =>
    if v_2 ≤ x6 then
      gvi (x7 + (1 : Int32)) (fun x7_3 =>
      K286 S_1 x6 x7_3)
    else
      gbi (f_X11_worthOf 18 x7 S_1) (fun v_5 S_4 =>
      gvi (x7 + (1 : Int32)) (fun x7_6 =>
      K286 S_4 v_5 x7_6)))
def L_X11_simulate_286 : Nat → Sg → Int32 → Int32 → Option (Int32 × Sg)
  | 0 => fun _ _ _ => none
  | n + 1 => Lb_X11_simulate_286 (L_X11_simulate_286 n)
def B_X11_simulate_251 (K45 : Sg → Int32 → Int64 → Int32 → Option (Int32 × Sg)) (S : Sg) (x3 : Int32) (x4 : Int64) (x6 : Int32) : Option (Int32 × Sg) :=
  gbv (f_X11_runAll 18 S) (fun S_7 =>
  gbi (f_X11_endOn 18 S_7) (fun v_9 S_8 =>
  gvi (x6 + (1 : Int32)) (fun x6_10 =>
  K45 S_8 x3 x4 x6_10)))
def B_X11_simulate_195 (K45 : Sg → Int32 → Int64 → Int32 → Option (Int32 × Sg)) (S : Sg) (x3 : Int32) (x4 : Int64) (x6 : Int32) (x7 : Int32) (x8 : Int32) (x9 : Int32) : Option (Int32 × Sg) :=
  if (x7 - x7 / (8 : Int32) * (8 : Int32)) = (2 : Int32) then
    gck (inb (2 : Int32) 175) (
    if (S 18 (2 : Int32).toNatClampNeg) ≤ 0 then
      B_X11_simulate_251 K45 S x3 x4 x6
    else
      gck (inb (2 : Int32) 175) (
      gck (!decide (S 18 (2 : Int32).toNatClampNeg = 0)) (
      gbi (f_X11_canTake 18 (x9 - x9 / (S 18 (2 : Int32).toNatClampNeg) * (S 18 (2 : Int32).toNatClampNeg)) S) (fun v_12 S_11 =>
      if v_12 = 0 then
        B_X11_simulate_251 K45 S_11 x3 x4 x6
      else
        gck (inb (2 : Int32) 175) (
        gck (!decide (S_11 18 (2 : Int32).toNatClampNeg = 0)) (
        gbi (f_X11_takeOn 18 x8 (x9 - x9 / (S_11 18 (2 : Int32).toNatClampNeg) * (S_11 18 (2 : Int32).toNatClampNeg)) S_11) (fun v_14 S_13 =>
        B_X11_simulate_251 K45 S_13 x3 x4 x6)))))))
  else
    B_X11_simulate_251 K45 S x3 x4 x6
def B_X11_simulate_134 (K45 : Sg → Int32 → Int64 → Int32 → Option (Int32 × Sg)) (S : Sg) (x3 : Int32) (x4 : Int64) (x6 : Int32) (x7 : Int32) (x8 : Int32) (x9 : Int32) : Option (Int32 × Sg) :=
  if (x7 - x7 / (8 : Int32) * (8 : Int32)) = (1 : Int32) then
    gck (inb (1 : Int32) 175) (
    if (S 18 (1 : Int32).toNatClampNeg) ≤ 0 then
      B_X11_simulate_195 K45 S x3 x4 x6 x7 x8 x9
    else
      gck (inb (1 : Int32) 175) (
      gck (!decide (S 18 (1 : Int32).toNatClampNeg = 0)) (
      gbi (f_X11_canBuyTrack 18 x8 (x9 - x9 / (S 18 (1 : Int32).toNatClampNeg) * (S 18 (1 : Int32).toNatClampNeg)) S) (fun v_16 S_15 =>
      if v_16 = 0 then
        B_X11_simulate_195 K45 S_15 x3 x4 x6 x7 x8 x9
      else
        gck (inb (1 : Int32) 175) (
        gck (!decide (S_15 18 (1 : Int32).toNatClampNeg = 0)) (
        gbi (f_X11_buyTrackOn 18 x8 (x9 - x9 / (S_15 18 (1 : Int32).toNatClampNeg) * (S_15 18 (1 : Int32).toNatClampNeg)) S_15) (fun v_18 S_17 =>
        B_X11_simulate_251 K45 S_17 x3 x4 x6)))))))
  else
    B_X11_simulate_195 K45 S x3 x4 x6 x7 x8 x9
def Lb_X11_simulate_45 (K45 : Sg → Int32 → Int64 → Int32 → Option (Int32 × Sg)) (S : Sg) (x3 : Int32) (x4 : Int64) (x6 : Int32) : Option (Int32 × Sg) :=
  if x3 ≤ x6 then
    gbi (f_X11_worthOf 18 (0 : Int32) S) (fun v_20 S_19 =>
    L_X11_simulate_286 gFu S_19 v_20 (1 : Int32))
  else
    gvl ((x4 * (6364136223846793005 : Int64)) + (1442695040888963407 : Int64)) (fun x4_21 =>
    gvi (((x4_21.toUInt64 >>> ((33 : Int32).toInt64.toUInt64 &&& Int64.toUInt64 63)).toInt64).toInt32) (fun x7_22 =>
    gvi ((x7_22 / (8 : Int32)) - (x7_22 / (8 : Int32)) / (4 : Int32) * (4 : Int32)) (fun x8_23 =>
    gvi (x7_22 / (32 : Int32)) (fun x9_24 =>
    if (x7_22 - x7_22 / (8 : Int32) * (8 : Int32)) = 0 then
      gbi (f_X11_canBuyTrain 18 x8_23 ((1 : Int32) + (x9_24 - x9_24 / (6 : Int32) * (6 : Int32))) S) (fun v_26 S_25 =>
      if v_26 = 0 then
        B_X11_simulate_134 K45 S_25 x3 x4_21 x6 x7_22 x8_23 x9_24
      else
        gbi (f_X11_buyTrainOn 18 x8_23 ((1 : Int32) + (x9_24 - x9_24 / (6 : Int32) * (6 : Int32))) S_25) (fun v_28 S_27 =>
        B_X11_simulate_251 K45 S_27 x3 x4_21 x6))
    else
      B_X11_simulate_134 K45 S x3 x4_21 x6 x7_22 x8_23 x9_24))))
def L_X11_simulate_45 : Nat → Sg → Int32 → Int64 → Int32 → Option (Int32 × Sg)
  | 0 => fun _ _ _ _ => none
  | n + 1 => Lb_X11_simulate_45 (L_X11_simulate_45 n)
def B_X11_simulate_18 (S : Sg) (x1 : Int64) (x3 : Int32) (t0 : Int32) : Option (Int32 × Sg) :=
  gbi (f_X11_refused t0 S) (fun v_30 S_29 =>
  if v_30 = 0 then
    gbv (f_X11_copyPage 17 175 18 175 (0 : Int32) (0 : Int32) S_29) (fun S_31 =>
    L_X11_simulate_45 gFu S_31 x3 x1 (0 : Int32))
  else
    some ((0 : Int32), S_29))
def f_X11_simulate (x1 : Int64) (x3 : Int32) (S : Sg) : Option (Int32 × Sg) :=
  gbi (f_X11_in x3.toInt64 (1 : Int64) (50 : Int64) S) (fun v_33 S_32 =>
  if v_33 = 0 then
    B_X11_simulate_18 S_32 x1 x3 (1 : Int32)
  else
    B_X11_simulate_18 S_32 x1 x3 (0 : Int32))
def B_X11_take_39 (S : Sg) (x1 : Int32) (x2 : Int32) (t0 : Int32) : Option (Int32 × Sg) :=
  gbi (f_X11_refused t0 S) (fun v_2 S_1 =>
  if v_2 = 0 then
    gbv (f_X11_note S_1) (fun S_3 =>
    gbi (f_X11_takeOn 17 x1 x2 S_3) (fun v_5 S_4 =>
    some (v_5, S_4)))
  else
    some ((0 : Int32), S_1))
def f_X11_take (x1 : Int32) (x2 : Int32) (S : Sg) : Option (Int32 × Sg) :=
  gbi (f_X11_isCompany x1 S) (fun v_7 S_6 =>
  if v_7 = 0 then
    B_X11_take_39 S_6 x1 x2 (1 : Int32)
  else
    gbi (f_X11_isContract 17 x2 S_6) (fun v_9 S_8 =>
    if v_9 = 0 then
      B_X11_take_39 S_8 x1 x2 (1 : Int32)
    else
      gbi (f_X11_canTake 17 x2 S_8) (fun v_11 S_10 =>
      if v_11 = 0 then
        B_X11_take_39 S_10 x1 x2 (2 : Int32)
      else
        B_X11_take_39 S_10 x1 x2 (0 : Int32))))
def f_X11_thrown (S : Sg) : Option (Int32 × Sg) :=
  some (S 14 0, S)
def B_X11_track_33 (S : Sg) (x1 : Int32) (x2 : Int32) (t0 : Int32) : Option (Int32 × Sg) :=
  gbi (f_X11_refused t0 S) (fun v_2 S_1 =>
  if v_2 = 0 then
    gbi (f_X11_trackAt x1 S_1) (fun v_4 S_3 =>
    gck (inb (v_4 + x2) 175) (
    some (S_3 17 (v_4 + x2).toNatClampNeg, S_3)))
  else
    some ((0 : Int32), S_1))
def f_X11_track (x1 : Int32) (x2 : Int32) (S : Sg) : Option (Int32 × Sg) :=
  gbi (f_X11_isTrack 17 x1 S) (fun v_6 S_5 =>
  if v_6 = 0 then
    B_X11_track_33 S_5 x1 x2 (1 : Int32)
  else
    gbi (f_X11_in x2.toInt64 (0 : Int64) (3 : Int64) S_5) (fun v_8 S_7 =>
    if v_8 = 0 then
      B_X11_track_33 S_7 x1 x2 (2 : Int32)
    else
      B_X11_track_33 S_7 x1 x2 (0 : Int32)))
def B_X11_train_39 (S : Sg) (x1 : Int32) (x2 : Int32) (x3 : Int32) (t0 : Int32) : Option (Int32 × Sg) :=
  gbi (f_X11_refused t0 S) (fun v_2 S_1 =>
  if v_2 = 0 then
    gbi (f_X11_trainAt x1 x2 S_1) (fun v_4 S_3 =>
    gck (inb (v_4 + x3) 175) (
    some (S_3 17 (v_4 + x3).toNatClampNeg, S_3)))
  else
    some ((0 : Int32), S_1))
def f_X11_train (x1 : Int32) (x2 : Int32) (x3 : Int32) (S : Sg) : Option (Int32 × Sg) :=
  gbi (f_X11_isCompany x1 S) (fun v_6 S_5 =>
  if v_6 = 0 then
    B_X11_train_39 S_5 x1 x2 x3 (1 : Int32)
  else
    gbi (f_X11_isTrain 17 x1 x2 S_5) (fun v_8 S_7 =>
    if v_8 = 0 then
      B_X11_train_39 S_7 x1 x2 x3 (1 : Int32)
    else
      gbi (f_X11_in x3.toInt64 (0 : Int64) (1 : Int64) S_7) (fun v_10 S_9 =>
      if v_10 = 0 then
        B_X11_train_39 S_9 x1 x2 x3 (2 : Int32)
      else
        B_X11_train_39 S_9 x1 x2 x3 (0 : Int32))))
def B_X11_undo_13 (S : Sg) (t0 : Int32) : Option (Int32 × Sg) :=
  gbi (f_X11_refused t0 S) (fun v_2 S_1 =>
  if v_2 = 0 then
    gst (u2 S_1 14 8 ((S_1 14 8) - (1 : Int32))) (fun S_3 =>
    gbv (f_X11_copyPage 19 2450 17 175 ((175 : Int32) * (S_3 14 8)) (0 : Int32) S_3) (fun S_4 =>
    some (S_4 14 8, S_4)))
  else
    some ((0 : Int32), S_1))
def f_X11_undo (S : Sg) : Option (Int32 × Sg) :=
  if (S 14 8) = 0 then
    B_X11_undo_13 S (1 : Int32)
  else
    B_X11_undo_13 S (0 : Int32)
def B_X11_way_76 (S : Sg) (x1 : Int32) (x2 : Int32) (x3 : Int32) (x4 : Int32) (x5 : Int32) (t0 : Int32) : Option (Int32 × Sg) :=
  gbi (f_X11_refused t0 S) (fun v_2 S_1 =>
  if v_2 = 0 then
    gbi (f_X11_findWay 17 x1 x2 x3 x4 S_1) (fun v_4 S_3 =>
    if v_4 = 0 then
      some ((-9 : Int32), S_3)
    else
      if x5 = 0 then
        some (S_3 14 12, S_3)
      else
        if x5 = (1 : Int32) then
          some (S_3 14 13, S_3)
        else
          if x5 = (2 : Int32) then
            some (S_3 14 15, S_3)
          else
            gck (inb (0 : Int32) 24) (
            some (S_3 23 (0 : Int32).toNatClampNeg, S_3)))
  else
    some ((0 : Int32), S_1))
def B_X11_way_36 (S : Sg) (x1 : Int32) (x2 : Int32) (x3 : Int32) (x4 : Int32) (x5 : Int32) (t0 : Int32) : Option (Int32 × Sg) :=
  gbi (f_X11_isCompany x1 S) (fun v_6 S_5 =>
  if v_6 = 0 then
    B_X11_way_76 S_5 x1 x2 x3 x4 x5 (1 : Int32)
  else
    gbi (f_X11_isCity x2 S_5) (fun v_8 S_7 =>
    if v_8 = 0 then
      B_X11_way_76 S_7 x1 x2 x3 x4 x5 (1 : Int32)
    else
      gbi (f_X11_isCity x3 S_7) (fun v_10 S_9 =>
      if v_10 = 0 then
        B_X11_way_76 S_9 x1 x2 x3 x4 x5 (1 : Int32)
      else
        if t0 = 0 then
          B_X11_way_76 S_9 x1 x2 x3 x4 x5 (2 : Int32)
        else
          B_X11_way_76 S_9 x1 x2 x3 x4 x5 (0 : Int32))))
def f_X11_way (x1 : Int32) (x2 : Int32) (x3 : Int32) (x4 : Int32) (x5 : Int32) (S : Sg) : Option (Int32 × Sg) :=
  if x2 = x3 then
    B_X11_way_36 S x1 x2 x3 x4 x5 (0 : Int32)
  else
    gbi (f_X11_in x4.toInt64 (1 : Int64) (24 : Int64) S) (fun v_12 S_11 =>
    if v_12 = 0 then
      B_X11_way_36 S_11 x1 x2 x3 x4 x5 (0 : Int32)
    else
      gbi (f_X11_in x5.toInt64 (0 : Int64) (3 : Int64) S_11) (fun v_14 S_13 =>
      if v_14 = 0 then
        B_X11_way_36 S_13 x1 x2 x3 x4 x5 (0 : Int32)
      else
        B_X11_way_36 S_13 x1 x2 x3 x4 x5 (1 : Int32)))
def B_X11_whyNot_18 (S : Sg) (x1 : Int32) (x2 : Int32) (t0 : Int32) : Option (Int32 × Sg) :=
  gbi (f_X11_refused t0 S) (fun v_2 S_1 =>
  if v_2 = 0 then
    gbi (f_X11_why 17 x1 x2 S_1) (fun v_4 S_3 =>
    some (v_4, S_3))
  else
    some ((0 : Int32), S_1))
def f_X11_whyNot (x1 : Int32) (x2 : Int32) (S : Sg) : Option (Int32 × Sg) :=
  gbi (f_X11_isRun 17 x1 x2 S) (fun v_6 S_5 =>
  if v_6 = 0 then
    B_X11_whyNot_18 S_5 x1 x2 (1 : Int32)
  else
    B_X11_whyNot_18 S_5 x1 x2 (0 : Int32))
def B_X11_worth_13 (S : Sg) (x1 : Int32) (t0 : Int32) : Option (Int32 × Sg) :=
  gbi (f_X11_refused t0 S) (fun v_2 S_1 =>
  if v_2 = 0 then
    gbi (f_X11_worthOf 17 x1 S_1) (fun v_4 S_3 =>
    some (v_4, S_3))
  else
    some ((0 : Int32), S_1))
def f_X11_worth (x1 : Int32) (S : Sg) : Option (Int32 × Sg) :=
  gbi (f_X11_isCompany x1 S) (fun v_6 S_5 =>
  if v_6 = 0 then
    B_X11_worth_13 S_5 x1 (1 : Int32)
  else
    B_X11_worth_13 S_5 x1 (0 : Int32))
