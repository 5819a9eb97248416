theorem st_of_X6_stateAt {x1 : Int32} {S S' : Sg} {v : Nat} (h : f_X6_stateAt x1 S = some (v, S')) : IsSt v := by
  unfold f_X6_stateAt at h
  by_cases h1 : x1 < 0
  · rw [if_pos h1] at h; cases h
  · rw [if_neg h1] at h
    by_cases h2 : nI 2 ≤ x1
    · rw [if_pos h2] at h; cases h
    · rw [if_neg h2] at h
      obtain ⟨hin, h⟩ := gck_some h
      cases h
      have h3 := vp_of_inb hin
      unfold vp_in at h3
      exact st_s (by omega)
noncomputable def f_X6_fetchInto (b2 : Nat) (a1 : Int32) (S : Sg) : Option Sg :=
  gbn (f_X6_stateAt a1 S) (fun v_2 S_1 =>
  gbv (f_X10_copyState v_2 b2 S_1) (fun S_3 =>
  some S_3))
noncomputable def f_X6_isFilled (a1 : Int32) (S : Sg) : Option (Int32 × Sg) :=
  gbi (f_X10_at 7 2 a1 S) (fun v_2 S_1 =>
  if v_2 = (1 : Int32) then
    some ((1 : Int32), S_1)
  else
    some ((0 : Int32), S_1))
noncomputable def f_X6_keep (b2 : Nat) (a1 : Int32) (S : Sg) : Option Sg :=
  gbn (f_X6_stateAt a1 S) (fun v_2 S_1 =>
  gbv (f_X10_copyState b2 v_2 S_1) (fun S_3 =>
  gbv (f_X10_put 7 2 a1 (1 : Int32) S_3) (fun S_4 =>
  some S_4)))
noncomputable def B_X7_dealByChance_118 (b : Nat) (S : Sg) (t0 : Int32) (t1 : Int32) : Option Sg :=
  gbi (f_X7_tryContract b t1 t0 S) (fun v_2 S_1 =>
  some S_1)
noncomputable def B_X7_dealByChance_85 (b : Nat) (S : Sg) (t0 : Int32) (t1 : Int32) : Option Sg :=
  gbi (f_X7_tryTrack b t1 t0 S) (fun v_4 S_3 =>
  some S_3)
noncomputable def f_X7_dealByChance (b : Nat) (a1 : Int32) (S : Sg) : Option Sg :=
  gvi ((a1 / (8 : Int32)) - (a1 / (8 : Int32)) / (4 : Int32) * (4 : Int32)) (fun x2_5 =>
  gvi (a1 / (32 : Int32)) (fun x3_6 =>
  if (a1 - a1 / (8 : Int32) * (8 : Int32)) = (0 : Int32) then
    gbi (f_X7_tryTrain b x2_5 ((1 : Int32) + (x3_6 - x3_6 / (6 : Int32) * (6 : Int32))) S) (fun v_8 S_7 =>
    some S_7)
  else
  if (a1 - a1 / (8 : Int32) * (8 : Int32)) = (1 : Int32) then
    if (S (b + 1) 4) ≤ 0 then
      B_X7_dealByChance_85 b S (-9 : Int32) x2_5
    else
      gck (!decide (S (b + 1) 4 = 0)) (
      B_X7_dealByChance_85 b S (x3_6 - x3_6 / (S (b + 1) 4) * (S (b + 1) 4)) x2_5)
  else
  if (a1 - a1 / (8 : Int32) * (8 : Int32)) = (2 : Int32) then
    if (S (b + 2) 6) ≤ 0 then
      B_X7_dealByChance_118 b S (-9 : Int32) x2_5
    else
      gck (!decide (S (b + 2) 6 = 0)) (
      B_X7_dealByChance_118 b S (x3_6 - x3_6 / (S (b + 2) 6) * (S (b + 2) 6)) x2_5)
  else
    some S))
noncomputable def Lb_X8_lengthsOf_4 (b : Nat) (K4 : Sg → Int32 → Int32 → Int32 → Option (Int32 × Sg)) (S : Sg) (x1 : Int32) (x2 : Int32) (x3 : Int32) : Option (Int32 × Sg) :=
  if (S (b + 1) 4) ≤ x3 then
    some (x2, S)
  else
    gbi (f_X10_at (b + 7) 16 x3 S) (fun v_2 S_1 =>
    if v_2 = x1 then
      gbi (f_X10_at (b + 6) 16 x3 S_1) (fun v_6 S_5 =>
      gvi (x2 + v_6) (fun x2_7 =>
      gvi (x3 + (1 : Int32)) (fun x3_8 =>
      K4 S_5 x1 x2_7 x3_8)))
    else
      gvi (x2 + (0 : Int32)) (fun x2_3 =>
      gvi (x3 + (1 : Int32)) (fun x3_4 =>
      K4 S_1 x1 x2_3 x3_4)))
noncomputable def L_X8_lengthsOf_4 (b : Nat) : Nat → Sg → Int32 → Int32 → Int32 → Option (Int32 × Sg)
  | 0 => fun _ _ _ _ => none
  | n + 1 => Lb_X8_lengthsOf_4 b (L_X8_lengthsOf_4 b n)
noncomputable def f_X8_lengthsOf (b : Nat) (a1 : Int32) (S : Sg) : Option (Int32 × Sg) :=
  L_X8_lengthsOf_4 b gFu S a1 (0 : Int32) (0 : Int32)
noncomputable def f_X7_worthOf (b : Nat) (a1 : Int32) (S : Sg) : Option (Int32 × Sg) :=
  gbi (f_X10_at (b + 14) 5 a1 S) (fun v_2 S_1 =>
  gbi (f_X8_lengthsOf b a1 S_1) (fun v_4 S_3 =>
  gbi (f_X0_levelsOf b a1 S_3) (fun v_6 S_5 =>
  some ((v_2 + ((3 : Int32) * v_4)) + ((10 : Int32) * v_6), S_5))))
noncomputable def Lb_X7_greatestWorth_8 (b : Nat) (K8 : Sg → Int32 → Int32 → Option (Int32 × Sg)) (S : Sg) (x1 : Int32) (x2 : Int32) : Option (Int32 × Sg) :=
  if (4 : Int32) ≤ x2 then
    some (x1, S)
  else
    gbi (f_X7_worthOf b x2 S) (fun v_2 S_1 =>
    gvi ((if x1 < v_2 then v_2 else x1)) (fun x1_3 =>
    gvi (x2 + (1 : Int32)) (fun x2_4 =>
    K8 S_1 x1_3 x2_4)))
noncomputable def L_X7_greatestWorth_8 (b : Nat) : Nat → Sg → Int32 → Int32 → Option (Int32 × Sg)
  | 0 => fun _ _ _ => none
  | n + 1 => Lb_X7_greatestWorth_8 b (L_X7_greatestWorth_8 b n)
noncomputable def f_X7_greatestWorth (b : Nat) (S : Sg) : Option (Int32 × Sg) :=
  gbi (f_X7_worthOf b (0 : Int32) S) (fun v_6 S_5 =>
  L_X7_greatestWorth_8 b gFu S_5 v_6 (1 : Int32))
noncomputable def f_X11_in (a0 : Int64) (a2 : Int64) (a4 : Int64) (S : Sg) : Option (Int32 × Sg) :=
  if (lg_cmp a0 a2) < 0 then
    some ((0 : Int32), S)
  else
    if 0 < (lg_cmp a0 a4) then
      some ((0 : Int32), S)
    else
      some ((1 : Int32), S)
noncomputable def f_X11_refused (a1 : Int32) (S : Sg) : Option (Int32 × Sg) :=
  gst (u2 S 392 0 a1) (fun S_1 =>
  if a1 ≤ 0 then
    some ((0 : Int32), S_1)
  else
    some ((1 : Int32), S_1))
noncomputable def B_X11_about_18 (S : Sg) (x1 : Int32) (t0 : Int32) : Option (Int32 × Sg) :=
  gbi (f_X11_refused t0 S) (fun v_2 S_1 =>
  if v_2 = 0 then
    gck (inb x1 175) (
    some (S_1 395 x1.toNatClampNeg, S_1))
  else
    some ((0 : Int32), S_1))
noncomputable def f_X11_about (a1 : Int32) (S : Sg) : Option (Int32 × Sg) :=
  gbi (f_X11_in a1.toInt64 (0 : Int64) (10 : Int64) S) (fun v_4 S_3 =>
  if v_4 = 0 then
    B_X11_about_18 S_3 a1 (1 : Int32)
  else
    B_X11_about_18 S_3 a1 (0 : Int32))
noncomputable def f_X11_trackAt (a0 : Int32) (S : Sg) : Option (Int32 × Sg) :=
  some ((11 : Int32) + ((4 : Int32) * a0), S)
noncomputable def f_X11_across (k0 : Nat) (a1 : Int32) (a2 : Int32) (S : Sg) : Option (Int32 × Sg) :=
  gbi (f_X11_trackAt a1 S) (fun v_2 S_1 =>
  gck (inb v_2 175) (
  if (S_1 k0 v_2.toNatClampNeg) = a2 then
    gck (inb (v_2 + (1 : Int32)) 175) (
    some (S_1 k0 (v_2 + (1 : Int32)).toNatClampNeg, S_1))
  else
    gck (inb (v_2 + (1 : Int32)) 175) (
    if (S_1 k0 (v_2 + (1 : Int32)).toNatClampNeg) = a2 then
      gck (inb v_2 175) (
      some (S_1 k0 v_2.toNatClampNeg, S_1))
    else
      some ((-9 : Int32), S_1))))
noncomputable def f_X11_contractAt (a0 : Int32) (S : Sg) : Option (Int32 × Sg) :=
  some ((127 : Int32) + ((6 : Int32) * a0), S)
noncomputable def f_X11_addContract (k0 : Nat) (a1 : Int32) (a2 : Int32) (a3 : Int32) (a4 : Int32) (S : Sg) : Option Sg :=
  gck (inb (2 : Int32) 175) (
  gbi (f_X11_contractAt (S k0 (2 : Int32).toNatClampNeg) S) (fun v_2 S_1 =>
  gck (inb v_2 175) (
  gst (u2 S_1 k0 v_2.toNatClampNeg a1) (fun S_3 =>
  gck (inb (v_2 + (1 : Int32)) 175) (
  gst (u2 S_3 k0 (v_2 + (1 : Int32)).toNatClampNeg a2) (fun S_4 =>
  gck (inb (v_2 + (2 : Int32)) 175) (
  gst (u2 S_4 k0 (v_2 + (2 : Int32)).toNatClampNeg a3) (fun S_5 =>
  gck (inb (v_2 + (3 : Int32)) 175) (
  gst (u2 S_5 k0 (v_2 + (3 : Int32)).toNatClampNeg a4) (fun S_6 =>
  gck (inb (v_2 + (4 : Int32)) 175) (
  gst (u2 S_6 k0 (v_2 + (4 : Int32)).toNatClampNeg (-9 : Int32)) (fun S_7 =>
  gck (inb (v_2 + (5 : Int32)) 175) (
  gst (u2 S_7 k0 (v_2 + (5 : Int32)).toNatClampNeg (0 : Int32)) (fun S_8 =>
  gck (inb (2 : Int32) 175) (
  gck (inb (2 : Int32) 175) (
  gst (u2 S_8 k0 (2 : Int32).toNatClampNeg ((S_8 k0 (2 : Int32).toNatClampNeg) + (1 : Int32))) (fun S_9 =>
  some S_9)))))))))))))))))
noncomputable def f_X11_addTrack (k0 : Nat) (a1 : Int32) (a2 : Int32) (a3 : Int32) (S : Sg) : Option Sg :=
  gck (inb (1 : Int32) 175) (
  gbi (f_X11_trackAt (S k0 (1 : Int32).toNatClampNeg) S) (fun v_2 S_1 =>
  gck (inb v_2 175) (
  gst (u2 S_1 k0 v_2.toNatClampNeg a1) (fun S_3 =>
  gck (inb (v_2 + (1 : Int32)) 175) (
  gst (u2 S_3 k0 (v_2 + (1 : Int32)).toNatClampNeg a2) (fun S_4 =>
  gck (inb (v_2 + (2 : Int32)) 175) (
  gst (u2 S_4 k0 (v_2 + (2 : Int32)).toNatClampNeg a3) (fun S_5 =>
  gck (inb (v_2 + (3 : Int32)) 175) (
  gst (u2 S_5 k0 (v_2 + (3 : Int32)).toNatClampNeg (-9 : Int32)) (fun S_6 =>
  gck (inb (1 : Int32) 175) (
  gck (inb (1 : Int32) 175) (
  gst (u2 S_6 k0 (1 : Int32).toNatClampNeg ((S_6 k0 (1 : Int32).toNatClampNeg) + (1 : Int32))) (fun S_7 =>
  some S_7)))))))))))))
noncomputable def B_X11_append_31 (S : Sg) (x1 : Int32) (t0 : Int32) : Option (Int32 × Sg) :=
  gbi (f_X11_refused t0 S) (fun v_2 S_1 =>
  if v_2 = 0 then
    gck (inb (S_1 392 2) 100) (
    gst (u2 S_1 393 (S_1 392 2).toNatClampNeg x1) (fun S_3 =>
    gst (u2 S_3 392 2 ((S_3 392 2) + (1 : Int32))) (fun S_4 =>
    some (S_4 392 2, S_4))))
  else
    some ((0 : Int32), S_1))
noncomputable def f_X11_append (a1 : Int32) (S : Sg) : Option (Int32 × Sg) :=
  gbi (f_X11_in a1.toInt64 (0 : Int64) (255 : Int64) S) (fun v_6 S_5 =>
  if v_6 = 0 then
    B_X11_append_31 S_5 a1 (1 : Int32)
  else
    if (S_5 392 2) = (100 : Int32) then
      B_X11_append_31 S_5 a1 (2 : Int32)
    else
      B_X11_append_31 S_5 a1 (0 : Int32))
noncomputable def f_X11_isCompany (a0 : Int32) (S : Sg) : Option (Int32 × Sg) :=
  gbi (f_X11_in a0.toInt64 (0 : Int64) (3 : Int64) S) (fun v_2 S_1 =>
  gck (isb v_2) (some (v_2, S_1)))
noncomputable def Lb_X11_copyPage_3 (k0 : Nat) (n0 : Nat) (k2 : Nat) (n2 : Nat) (K3 : Sg → Int32 → Int32 → Int32 → Option Sg) (S : Sg) (x1 : Int32) (x3 : Int32) (x4 : Int32) : Option Sg :=
  if (175 : Int32) ≤ x4 then
    some S
  else
    gck (inb (x1 + x4) n0) (
    gck (inb (x3 + x4) n2) (
    gst (u2 S k2 (x3 + x4).toNatClampNeg (S k0 (x1 + x4).toNatClampNeg)) (fun S_1 =>
    gvi (x4 + (1 : Int32)) (fun x4_2 =>
    K3 S_1 x1 x3 x4_2))))
noncomputable def L_X11_copyPage_3 (k0 : Nat) (n0 : Nat) (k2 : Nat) (n2 : Nat) : Nat → Sg → Int32 → Int32 → Int32 → Option Sg
  | 0 => fun _ _ _ _ => none
  | n + 1 => Lb_X11_copyPage_3 k0 n0 k2 n2 (L_X11_copyPage_3 k0 n0 k2 n2 n)
noncomputable def f_X11_copyPage (k0 : Nat) (n0 : Nat) (k2 : Nat) (n2 : Nat) (a1 : Int32) (a3 : Int32) (S : Sg) : Option Sg :=
  L_X11_copyPage_3 k0 n0 k2 n2 gFu S a1 a3 (0 : Int32)
noncomputable def f_X11_companyAt (a0 : Int32) (S : Sg) : Option (Int32 × Sg) :=
  some ((75 : Int32) + ((5 : Int32) * a0), S)
noncomputable def f_X11_toBank (k0 : Nat) (a1 : Int32) (a2 : Int32) (S : Sg) : Option Sg :=
  gbi (f_X11_companyAt a1 S) (fun v_2 S_1 =>
  gck (inb v_2 175) (
  gck (inb v_2 175) (
  gst (u2 S_1 k0 v_2.toNatClampNeg ((S_1 k0 v_2.toNatClampNeg) - a2)) (fun S_3 =>
  gck (inb (5 : Int32) 175) (
  gck (inb (5 : Int32) 175) (
  gst (u2 S_3 k0 (5 : Int32).toNatClampNeg ((S_3 k0 (5 : Int32).toNatClampNeg) + a2)) (fun S_4 =>
  some S_4)))))))
noncomputable def Lb_X11_dropContract_5 (k0 : Nat) (K5 : Sg → Int32 → Option Sg) (S : Sg) (x2 : Int32) : Option Sg :=
  if (175 : Int32) ≤ (x2 + (6 : Int32)) then
    gck (inb (2 : Int32) 175) (
    gck (inb (2 : Int32) 175) (
    gst (u2 S k0 (2 : Int32).toNatClampNeg ((S k0 (2 : Int32).toNatClampNeg) - (1 : Int32))) (fun S_1 =>
    some S_1)))
  else
    gck (inb (x2 + (6 : Int32)) 175) (
    gck (inb x2 175) (
    gst (u2 S k0 x2.toNatClampNeg (S k0 (x2 + (6 : Int32)).toNatClampNeg)) (fun S_2 =>
    gvi (x2 + (1 : Int32)) (fun x2_3 =>
    K5 S_2 x2_3))))
noncomputable def L_X11_dropContract_5 (k0 : Nat) : Nat → Sg → Int32 → Option Sg
  | 0 => fun _ _ => none
  | n + 1 => Lb_X11_dropContract_5 k0 (L_X11_dropContract_5 k0 n)
noncomputable def f_X11_dropContract (k0 : Nat) (a1 : Int32) (S : Sg) : Option Sg :=
  gbi (f_X11_contractAt a1 S) (fun v_5 S_4 =>
  L_X11_dropContract_5 k0 gFu S_4 v_5)
noncomputable def B_X11_endContracts_57 (k0 : Nat) (K2 : Sg → Int32 → Option Sg) (S : Sg) (x1 : Int32) (x2 : Int32) : Option Sg :=
  gck (inb (x2 + (5 : Int32)) 175) (
  gst (u2 S k0 (x2 + (5 : Int32)).toNatClampNeg (0 : Int32)) (fun S_1 =>
  gck (inb (x2 + (3 : Int32)) 175) (
  if (S_1 k0 (x2 + (3 : Int32)).toNatClampNeg) = 0 then
    gbv (f_X11_dropContract k0 x1 S_1) (fun S_3 =>
    K2 S_3 x1)
  else
    gvi (x1 + (1 : Int32)) (fun x1_2 =>
    K2 S_1 x1_2))))
noncomputable def B_X11_endContracts_48 (k0 : Nat) (K2 : Sg → Int32 → Option Sg) (S : Sg) (x1 : Int32) (x2 : Int32) : Option Sg :=
  gck (inb (x2 + (3 : Int32)) 175) (
  gck (inb (x2 + (3 : Int32)) 175) (
  gst (u2 S k0 (x2 + (3 : Int32)).toNatClampNeg ((S k0 (x2 + (3 : Int32)).toNatClampNeg) - (1 : Int32))) (fun S_4 =>
  B_X11_endContracts_57 k0 K2 S_4 x1 x2)))
noncomputable def Lb_X11_endContracts_2 (k0 : Nat) (K2 : Sg → Int32 → Option Sg) (S : Sg) (x1 : Int32) : Option Sg :=
  gck (inb (2 : Int32) 175) (
  if (S k0 (2 : Int32).toNatClampNeg) ≤ x1 then
    some S
  else
    gbi (f_X11_contractAt x1 S) (fun v_6 S_5 =>
    gck (inb (v_6 + (4 : Int32)) 175) (
    gvi (S_5 k0 (v_6 + (4 : Int32)).toNatClampNeg) (fun x3_7 =>
    if x3_7 = (-9 : Int32) then
      B_X11_endContracts_57 k0 K2 S_5 x1 v_6
    else
      gck (inb (v_6 + (5 : Int32)) 175) (
      if (S_5 k0 (v_6 + (5 : Int32)).toNatClampNeg) = 0 then
        gbv (f_X11_toBank k0 x3_7 (5 : Int32) S_5) (fun S_8 =>
        gck (inb (8 : Int32) 175) (
        gck (inb (8 : Int32) 175) (
        gst (u2 S_8 k0 (8 : Int32).toNatClampNeg ((S_8 k0 (8 : Int32).toNatClampNeg) + (5 : Int32))) (fun S_9 =>
        B_X11_endContracts_48 k0 K2 S_9 x1 v_6))))
      else
        B_X11_endContracts_48 k0 K2 S_5 x1 v_6)))))
noncomputable def L_X11_endContracts_2 (k0 : Nat) : Nat → Sg → Int32 → Option Sg
  | 0 => fun _ _ => none
  | n + 1 => Lb_X11_endContracts_2 k0 (L_X11_endContracts_2 k0 n)
noncomputable def f_X11_endContracts (k0 : Nat) (S : Sg) : Option Sg :=
  L_X11_endContracts_2 k0 gFu S (0 : Int32)
noncomputable def Lb_X11_tracksOf_5 (k0 : Nat) (K5 : Sg → Int32 → Int32 → Int32 → Int32 → Option (Int32 × Sg)) (S : Sg) (x1 : Int32) (x2 : Int32) (x3 : Int32) (x4 : Int32) : Option (Int32 × Sg) :=
  gck (inb (1 : Int32) 175) (
  if (S k0 (1 : Int32).toNatClampNeg) ≤ x4 then
    some (x3, S)
  else
    gbi (f_X11_trackAt x4 S) (fun v_2 S_1 =>
    gck (inb (v_2 + (3 : Int32)) 175) (
    if (S_1 k0 (v_2 + (3 : Int32)).toNatClampNeg) = x1 then
      if x2 = 0 then
        gvi (x3 + (1 : Int32)) (fun x3_5 =>
        gvi (x4 + (1 : Int32)) (fun x4_6 =>
        K5 S_1 x1 x2 x3_5 x4_6))
      else
        gbi (f_X11_trackAt x4 S_1) (fun v_8 S_7 =>
        gck (inb (v_8 + (2 : Int32)) 175) (
        gvi (x3 + (S_7 k0 (v_8 + (2 : Int32)).toNatClampNeg)) (fun x3_9 =>
        gvi (x4 + (1 : Int32)) (fun x4_10 =>
        K5 S_7 x1 x2 x3_9 x4_10))))
    else
      gvi (x3 + (0 : Int32)) (fun x3_3 =>
      gvi (x4 + (1 : Int32)) (fun x4_4 =>
      K5 S_1 x1 x2 x3_3 x4_4)))))
noncomputable def L_X11_tracksOf_5 (k0 : Nat) : Nat → Sg → Int32 → Int32 → Int32 → Int32 → Option (Int32 × Sg)
  | 0 => fun _ _ _ _ _ => none
  | n + 1 => Lb_X11_tracksOf_5 k0 (L_X11_tracksOf_5 k0 n)
noncomputable def f_X11_tracksOf (k0 : Nat) (a1 : Int32) (a2 : Int32) (S : Sg) : Option (Int32 × Sg) :=
  L_X11_tracksOf_5 k0 gFu S a1 a2 (0 : Int32) (0 : Int32)
noncomputable def f_X11_trainsOf (k0 : Nat) (a1 : Int32) (S : Sg) : Option (Int32 × Sg) :=
  gbi (f_X11_companyAt a1 S) (fun v_2 S_1 =>
  gck (inb (v_2 + (2 : Int32)) 175) (
  some (S_1 k0 (v_2 + (2 : Int32)).toNatClampNeg, S_1)))
noncomputable def f_X11_trainAt (a0 : Int32) (a1 : Int32) (S : Sg) : Option (Int32 × Sg) :=
  some (((95 : Int32) + ((8 : Int32) * a0)) + ((2 : Int32) * a1), S)
noncomputable def Lb_X11_levelsOf_4 (k0 : Nat) (K4 : Sg → Int32 → Int32 → Int32 → Option (Int32 × Sg)) (S : Sg) (x1 : Int32) (x2 : Int32) (x3 : Int32) : Option (Int32 × Sg) :=
  gbi (f_X11_trainsOf k0 x1 S) (fun v_2 S_1 =>
  if v_2 ≤ x3 then
    some (x2, S_1)
  else
    gbi (f_X11_trainAt x1 x3 S_1) (fun v_4 S_3 =>
    gck (inb v_4 175) (
    gvi (x2 + (S_3 k0 v_4.toNatClampNeg)) (fun x2_5 =>
    gvi (x3 + (1 : Int32)) (fun x3_6 =>
    K4 S_3 x1 x2_5 x3_6)))))
noncomputable def L_X11_levelsOf_4 (k0 : Nat) : Nat → Sg → Int32 → Int32 → Int32 → Option (Int32 × Sg)
  | 0 => fun _ _ _ _ => none
  | n + 1 => Lb_X11_levelsOf_4 k0 (L_X11_levelsOf_4 k0 n)
noncomputable def f_X11_levelsOf (k0 : Nat) (a1 : Int32) (S : Sg) : Option (Int32 × Sg) :=
  L_X11_levelsOf_4 k0 gFu S a1 (0 : Int32) (0 : Int32)
noncomputable def B_X11_goBroke_129 (k0 : Nat) (K90 : Sg → Int32 → Int32 → Option Sg) (S : Sg) (x1 : Int32) (x2 : Int32) (t0 : Int32) (t1 : Int32) : Option Sg :=
  gck (inb t1 175) (
  gst (u2 S k0 t1.toNatClampNeg t0) (fun S_1 =>
  gvi (x2 + (1 : Int32)) (fun x2_2 =>
  K90 S_1 x1 x2_2)))
noncomputable def Lb_X11_goBroke_90 (k0 : Nat) (K90 : Sg → Int32 → Int32 → Option Sg) (S : Sg) (x1 : Int32) (x2 : Int32) : Option Sg :=
  gck (inb (2 : Int32) 175) (
  if (S k0 (2 : Int32).toNatClampNeg) ≤ x2 then
    some S
  else
    gbi (f_X11_contractAt x2 S) (fun v_4 S_3 =>
    gbi (f_X11_contractAt x2 S_3) (fun v_6 S_5 =>
    gck (inb (v_6 + (4 : Int32)) 175) (
    if (S_5 k0 (v_6 + (4 : Int32)).toNatClampNeg) = x1 then
      B_X11_goBroke_129 k0 K90 S_5 x1 x2 (-9 : Int32) (v_4 + (4 : Int32))
    else
      gbi (f_X11_contractAt x2 S_5) (fun v_8 S_7 =>
      gck (inb (v_8 + (4 : Int32)) 175) (
      B_X11_goBroke_129 k0 K90 S_7 x1 x2 (S_7 k0 (v_8 + (4 : Int32)).toNatClampNeg) (v_4 + (4 : Int32))))))))
noncomputable def L_X11_goBroke_90 (k0 : Nat) : Nat → Sg → Int32 → Int32 → Option Sg
  | 0 => fun _ _ _ => none
  | n + 1 => Lb_X11_goBroke_90 k0 (L_X11_goBroke_90 k0 n)
noncomputable def B_X11_goBroke_81 (k0 : Nat) (K42 : Sg → Int32 → Int32 → Option Sg) (S : Sg) (x1 : Int32) (x2 : Int32) (t0 : Int32) (t1 : Int32) : Option Sg :=
  gck (inb t1 175) (
  gst (u2 S k0 t1.toNatClampNeg t0) (fun S_9 =>
  gvi (x2 + (1 : Int32)) (fun x2_10 =>
  K42 S_9 x1 x2_10)))
noncomputable def Lb_X11_goBroke_42 (k0 : Nat) (K42 : Sg → Int32 → Int32 → Option Sg) (S : Sg) (x1 : Int32) (x2 : Int32) : Option Sg :=
  gck (inb (1 : Int32) 175) (
  if (S k0 (1 : Int32).toNatClampNeg) ≤ x2 then
    L_X11_goBroke_90 k0 gFu S x1 (0 : Int32)
  else
    gbi (f_X11_trackAt x2 S) (fun v_12 S_11 =>
    gbi (f_X11_trackAt x2 S_11) (fun v_14 S_13 =>
    gck (inb (v_14 + (3 : Int32)) 175) (
    if (S_13 k0 (v_14 + (3 : Int32)).toNatClampNeg) = x1 then
      B_X11_goBroke_81 k0 K42 S_13 x1 x2 (-9 : Int32) (v_12 + (3 : Int32))
    else
      gbi (f_X11_trackAt x2 S_13) (fun v_16 S_15 =>
      gck (inb (v_16 + (3 : Int32)) 175) (
      B_X11_goBroke_81 k0 K42 S_15 x1 x2 (S_15 k0 (v_16 + (3 : Int32)).toNatClampNeg) (v_12 + (3 : Int32))))))))
noncomputable def L_X11_goBroke_42 (k0 : Nat) : Nat → Sg → Int32 → Int32 → Option Sg
  | 0 => fun _ _ _ => none
  | n + 1 => Lb_X11_goBroke_42 k0 (L_X11_goBroke_42 k0 n)
noncomputable def f_X11_goBroke (k0 : Nat) (a1 : Int32) (S : Sg) : Option Sg :=
  gbi (f_X11_companyAt a1 S) (fun v_18 S_17 =>
  gck (inb v_18 175) (
  gbv (f_X11_toBank k0 a1 (S_17 k0 v_18.toNatClampNeg) S_17) (fun S_19 =>
  gbi (f_X11_companyAt a1 S_19) (fun v_21 S_20 =>
  gck (inb (v_21 + (2 : Int32)) 175) (
  gst (u2 S_20 k0 (v_21 + (2 : Int32)).toNatClampNeg (0 : Int32)) (fun S_22 =>
  gbi (f_X11_companyAt a1 S_22) (fun v_24 S_23 =>
  gck (inb (v_24 + (4 : Int32)) 175) (
  gck (inb (v_24 + (4 : Int32)) 175) (
  gst (u2 S_23 k0 (v_24 + (4 : Int32)).toNatClampNeg ((S_23 k0 (v_24 + (4 : Int32)).toNatClampNeg) + (1 : Int32))) (fun S_25 =>
  gck (inb (9 : Int32) 175) (
  gck (inb (9 : Int32) 175) (
  gst (u2 S_25 k0 (9 : Int32).toNatClampNeg ((S_25 k0 (9 : Int32).toNatClampNeg) + (1 : Int32))) (fun S_26 =>
  L_X11_goBroke_42 k0 gFu S_26 a1 (0 : Int32))))))))))))))
noncomputable def Lb_X11_endOn_65 (k0 : Nat) (K38 : Sg → Int32 → Int32 → Option (Int32 × Sg)) (K65 : Sg → Int32 → Int32 → Int32 → Option (Int32 × Sg)) (S : Sg) (x1 : Int32) (x2 : Int32) (x3 : Int32) : Option (Int32 × Sg) :=
  gbi (f_X11_trainsOf k0 x2 S) (fun v_2 S_1 =>
  if v_2 ≤ x3 then
    gvi (x2 + (1 : Int32)) (fun x2_3 =>
    K38 S_1 x1 x2_3)
  else
    gbi (f_X11_trainAt x2 x3 S_1) (fun v_5 S_4 =>
    gck (inb (v_5 + (1 : Int32)) 175) (
    gst (u2 S_4 k0 (v_5 + (1 : Int32)).toNatClampNeg (0 : Int32)) (fun S_6 =>
    gvi (x3 + (1 : Int32)) (fun x3_7 =>
    K65 S_6 x1 x2 x3_7)))))
noncomputable def L_X11_endOn_65 (k0 : Nat) (K38 : Sg → Int32 → Int32 → Option (Int32 × Sg)) : Nat → Sg → Int32 → Int32 → Int32 → Option (Int32 × Sg)
  | 0 => fun _ _ _ _ => none
  | n + 1 => Lb_X11_endOn_65 k0 K38 (L_X11_endOn_65 k0 K38 n)
noncomputable def Lb_X11_endOn_38 (k0 : Nat) (K38 : Sg → Int32 → Int32 → Option (Int32 × Sg)) (S : Sg) (x1 : Int32) (x2 : Int32) : Option (Int32 × Sg) :=
  if (4 : Int32) ≤ x2 then
    gck (inb (4 : Int32) 175) (
    gck (inb (4 : Int32) 175) (
    gst (u2 S k0 (4 : Int32).toNatClampNeg ((S k0 (4 : Int32).toNatClampNeg) + (1 : Int32))) (fun S_8 =>
    some (x1, S_8))))
  else
    gbi (f_X11_companyAt x2 S) (fun v_10 S_9 =>
    gck (inb v_10 175) (
    if 0 ≤ (S_9 k0 v_10.toNatClampNeg) then
      L_X11_endOn_65 k0 K38 gFu S_9 x1 x2 (0 : Int32)
    else
      gbv (f_X11_goBroke k0 x2 S_9) (fun S_11 =>
      gvi (x1 ||| ((1 : Int32) <<< (x2 &&& 31))) (fun x1_12 =>
      L_X11_endOn_65 k0 K38 gFu S_11 x1_12 x2 (0 : Int32)))))
noncomputable def L_X11_endOn_38 (k0 : Nat) : Nat → Sg → Int32 → Int32 → Option (Int32 × Sg)
  | 0 => fun _ _ _ => none
  | n + 1 => Lb_X11_endOn_38 k0 (L_X11_endOn_38 k0 n)
noncomputable def Lb_X11_endOn_6 (k0 : Nat) (K6 : Sg → Int32 → Option (Int32 × Sg)) (S : Sg) (x1 : Int32) : Option (Int32 × Sg) :=
  if (4 : Int32) ≤ x1 then
    L_X11_endOn_38 k0 gFu S (0 : Int32) (0 : Int32)
  else
    gbi (f_X11_tracksOf k0 x1 (0 : Int32) S) (fun v_14 S_13 =>
    gbi (f_X11_levelsOf k0 x1 S_13) (fun v_16 S_15 =>
    gbv (f_X11_toBank k0 x1 (v_14 + v_16) S_15) (fun S_17 =>
    gvi (x1 + (1 : Int32)) (fun x1_18 =>
    K6 S_17 x1_18))))
noncomputable def L_X11_endOn_6 (k0 : Nat) : Nat → Sg → Int32 → Option (Int32 × Sg)
  | 0 => fun _ _ => none
  | n + 1 => Lb_X11_endOn_6 k0 (L_X11_endOn_6 k0 n)
noncomputable def f_X11_endOn (k0 : Nat) (S : Sg) : Option (Int32 × Sg) :=
  gbv (f_X11_endContracts k0 S) (fun S_19 =>
  L_X11_endOn_6 k0 gFu S_19 (0 : Int32))
noncomputable def Lb_X11_bankruptAfter_36 (K36 : Sg → Int32 → Int32 → Option (Int32 × Sg)) (S : Sg) (x1 : Int32) (x2 : Int32) : Option (Int32 × Sg) :=
  if (50 : Int32) < x2 then
    some ((-9 : Int32), S)
  else
    gbi (f_X11_endOn 396 S) (fun v_2 S_1 =>
    if ((v_2 >>> (x1 &&& 31)) &&& (1 : Int32)) = (1 : Int32) then
      some (x2, S_1)
    else
      gvi (x2 + (1 : Int32)) (fun x2_3 =>
      K36 S_1 x1 x2_3))
noncomputable def L_X11_bankruptAfter_36 : Nat → Sg → Int32 → Int32 → Option (Int32 × Sg)
  | 0 => fun _ _ _ => none
  | n + 1 => Lb_X11_bankruptAfter_36 (L_X11_bankruptAfter_36 n)
noncomputable def B_X11_bankruptAfter_13 (S : Sg) (x1 : Int32) (t0 : Int32) : Option (Int32 × Sg) :=
  gbi (f_X11_refused t0 S) (fun v_5 S_4 =>
  if v_5 = 0 then
    gbv (f_X11_copyPage 395 175 396 175 (0 : Int32) (0 : Int32) S_4) (fun S_6 =>
    L_X11_bankruptAfter_36 gFu S_6 x1 (1 : Int32))
  else
    some ((0 : Int32), S_4))
noncomputable def f_X11_bankruptAfter (a1 : Int32) (S : Sg) : Option (Int32 × Sg) :=
  gbi (f_X11_isCompany a1 S) (fun v_8 S_7 =>
  if v_8 = 0 then
    B_X11_bankruptAfter_13 S_7 a1 (1 : Int32)
  else
    B_X11_bankruptAfter_13 S_7 a1 (0 : Int32))
noncomputable def Lb_X11_begin_31 (k0 : Nat) (K31 : Sg → Int32 → Option Sg) (S : Sg) (x1 : Int32) : Option Sg :=
  if (4 : Int32) ≤ x1 then
    some S
  else
    gbi (f_X11_companyAt x1 S) (fun v_2 S_1 =>
    gck (inb v_2 175) (
    gst (u2 S_1 k0 v_2.toNatClampNeg (100 : Int32)) (fun S_3 =>
    gbi (f_X11_companyAt x1 S_3) (fun v_5 S_4 =>
    gck (inb (v_5 + (1 : Int32)) 175) (
    gst (u2 S_4 k0 (v_5 + (1 : Int32)).toNatClampNeg (1 : Int32)) (fun S_6 =>
    gvi (x1 + (1 : Int32)) (fun x1_7 =>
    K31 S_6 x1_7)))))))
noncomputable def L_X11_begin_31 (k0 : Nat) : Nat → Sg → Int32 → Option Sg
  | 0 => fun _ _ => none
  | n + 1 => Lb_X11_begin_31 k0 (L_X11_begin_31 k0 n)
noncomputable def Lb_X11_begin_2 (k0 : Nat) (K2 : Sg → Int32 → Option Sg) (S : Sg) (x1 : Int32) : Option Sg :=
  if (175 : Int32) ≤ x1 then
    gck (inb (3 : Int32) 175) (
    gst (u2 S k0 (3 : Int32).toNatClampNeg (1 : Int32)) (fun S_8 =>
    gck (inb (5 : Int32) 175) (
    gst (u2 S_8 k0 (5 : Int32).toNatClampNeg (-400 : Int32)) (fun S_9 =>
    L_X11_begin_31 k0 gFu S_9 (0 : Int32)))))
  else
    gck (inb x1 175) (
    gst (u2 S k0 x1.toNatClampNeg (0 : Int32)) (fun S_10 =>
    gvi (x1 + (1 : Int32)) (fun x1_11 =>
    K2 S_10 x1_11)))
noncomputable def L_X11_begin_2 (k0 : Nat) : Nat → Sg → Int32 → Option Sg
  | 0 => fun _ _ => none
  | n + 1 => Lb_X11_begin_2 k0 (L_X11_begin_2 k0 n)
noncomputable def f_X11_begin (k0 : Nat) (S : Sg) : Option Sg :=
  L_X11_begin_2 k0 gFu S (0 : Int32)
noncomputable def B_X11_costOf_36 (k0 : Nat) (S : Sg) (x2 : Int32) (t0 : Int32) : Option (Int32 × Sg) :=
  gbi (f_X11_trackAt x2 S) (fun v_2 S_1 =>
  gck (inb (v_2 + (2 : Int32)) 175) (
  some (t0 * (S_1 k0 (v_2 + (2 : Int32)).toNatClampNeg), S_1)))
noncomputable def f_X11_costOf (k0 : Nat) (a1 : Int32) (a2 : Int32) (S : Sg) : Option (Int32 × Sg) :=
  gbi (f_X11_trackAt a2 S) (fun v_4 S_3 =>
  gck (inb (v_4 + (3 : Int32)) 175) (
  gvi (S_3 k0 (v_4 + (3 : Int32)).toNatClampNeg) (fun x3_5 =>
  if x3_5 = a1 then
    B_X11_costOf_36 k0 S_3 a2 (0 : Int32)
  else
    if x3_5 = (-9 : Int32) then
      B_X11_costOf_36 k0 S_3 a2 (1 : Int32)
    else
      gbi (f_X11_companyAt x3_5 S_3) (fun v_7 S_6 =>
      gck (inb (v_7 + (1 : Int32)) 175) (
      B_X11_costOf_36 k0 S_6 a2 (S_6 k0 (v_7 + (1 : Int32)).toNatClampNeg))))))
noncomputable def f_X11_goneBy (k1 : Nat) (a2 : Int32) (a3 : Int32) (a4 : Int32) (a5 : Int32) (S : Sg) : Option (Int32 × Sg) :=
  gbi (f_X11_across k1 a3 a4 S) (fun v_2 S_1 =>
  gbi (f_X11_trackAt a3 S_1) (fun v_4 S_3 =>
  gck (inb (v_4 + (2 : Int32)) 175) (
  gvi (a5 - (S_3 k1 (v_4 + (2 : Int32)).toNatClampNeg)) (fun x7_5 =>
  if v_2 = (-9 : Int32) then
    some ((1000000 : Int32), S_3)
  else
    if 0 ≤ x7_5 then
      gck (inb (((9 : Int32) * x7_5) + v_2) 225) (
      gbi (f_X11_costOf k1 a2 a3 S_3) (fun v_7 S_6 =>
      some ((S_3 400 (((9 : Int32) * x7_5) + v_2).toNatClampNeg) + v_7, S_6)))
    else
      some ((1000000 : Int32), S_3)))))
noncomputable def B_X11_layLeast_113 (k1 : Nat) (K3 : Sg → Int32 → Int32 → Int32 → Int32 → Option Sg) (K13 : Sg → Int32 → Int32 → Int32 → Int32 → Int32 → Option Sg) (S : Sg) (x2 : Int32) (x3 : Int32) (x4 : Int32) (x5 : Int32) (x6 : Int32) (t0 : Int32) (t1 : Int32) : Option Sg :=
  gck (inb t1 225) (
  gst (u2 S 400 t1.toNatClampNeg t0) (fun S_1 =>
  gvi (x6 + (1 : Int32)) (fun x6_2 =>
  K13 S_1 x2 x3 x4 x5 x6_2)))
noncomputable def Lb_X11_layLeast_43 (k1 : Nat) (K3 : Sg → Int32 → Int32 → Int32 → Int32 → Option Sg) (K13 : Sg → Int32 → Int32 → Int32 → Int32 → Int32 → Option Sg) (K43 : Sg → Int32 → Int32 → Int32 → Int32 → Int32 → Int32 → Int32 → Option Sg) (S : Sg) (x2 : Int32) (x3 : Int32) (x4 : Int32) (x5 : Int32) (x6 : Int32) (x7 : Int32) (x8 : Int32) : Option Sg :=
  gck (inb (1 : Int32) 175) (
  if (S k1 (1 : Int32).toNatClampNeg) ≤ x8 then
    if (1000000 : Int32) ≤ x7 then
      B_X11_layLeast_113 k1 K3 K13 S x2 x3 x4 x5 x6 (1000000 : Int32) (((9 : Int32) * x5) + x6)
    else
      B_X11_layLeast_113 k1 K3 K13 S x2 x3 x4 x5 x6 x7 (((9 : Int32) * x5) + x6)
  else
    gbi (f_X11_goneBy k1 x2 x8 x6 x5 S) (fun v_4 S_3 =>
    if x7 ≤ v_4 then
      gvi (x8 + (1 : Int32)) (fun x8_5 =>
      K43 S_3 x2 x3 x4 x5 x6 x7 x8_5)
    else
      gvi (x8 + (1 : Int32)) (fun x8_6 =>
      K43 S_3 x2 x3 x4 x5 x6 v_4 x8_6)))
noncomputable def L_X11_layLeast_43 (k1 : Nat) (K3 : Sg → Int32 → Int32 → Int32 → Int32 → Option Sg) (K13 : Sg → Int32 → Int32 → Int32 → Int32 → Int32 → Option Sg) : Nat → Sg → Int32 → Int32 → Int32 → Int32 → Int32 → Int32 → Int32 → Option Sg
  | 0 => fun _ _ _ _ _ _ _ _ => none
  | n + 1 => Lb_X11_layLeast_43 k1 K3 K13 (L_X11_layLeast_43 k1 K3 K13 n)
noncomputable def Lb_X11_layLeast_13 (k1 : Nat) (K3 : Sg → Int32 → Int32 → Int32 → Int32 → Option Sg) (K13 : Sg → Int32 → Int32 → Int32 → Int32 → Int32 → Option Sg) (S : Sg) (x2 : Int32) (x3 : Int32) (x4 : Int32) (x5 : Int32) (x6 : Int32) : Option Sg :=
  gck (inb (0 : Int32) 175) (
  if (S k1 (0 : Int32).toNatClampNeg) ≤ x6 then
    gvi (x5 + (1 : Int32)) (fun x5_7 =>
    K3 S x2 x3 x4 x5_7)
  else
    if x5 = 0 then
      if x6 = x3 then
        L_X11_layLeast_43 k1 K3 K13 gFu S x2 x3 x4 x5 x6 (0 : Int32) (0 : Int32)
      else
        L_X11_layLeast_43 k1 K3 K13 gFu S x2 x3 x4 x5 x6 (1000000 : Int32) (0 : Int32)
    else
      L_X11_layLeast_43 k1 K3 K13 gFu S x2 x3 x4 x5 x6 (1000000 : Int32) (0 : Int32))
noncomputable def L_X11_layLeast_13 (k1 : Nat) (K3 : Sg → Int32 → Int32 → Int32 → Int32 → Option Sg) : Nat → Sg → Int32 → Int32 → Int32 → Int32 → Int32 → Option Sg
  | 0 => fun _ _ _ _ _ _ => none
  | n + 1 => Lb_X11_layLeast_13 k1 K3 (L_X11_layLeast_13 k1 K3 n)
noncomputable def Lb_X11_layLeast_3 (k1 : Nat) (K3 : Sg → Int32 → Int32 → Int32 → Int32 → Option Sg) (S : Sg) (x2 : Int32) (x3 : Int32) (x4 : Int32) (x5 : Int32) : Option Sg :=
  if x4 < x5 then
    some S
  else
    L_X11_layLeast_13 k1 K3 gFu S x2 x3 x4 x5 (0 : Int32)
noncomputable def L_X11_layLeast_3 (k1 : Nat) : Nat → Sg → Int32 → Int32 → Int32 → Int32 → Option Sg
  | 0 => fun _ _ _ _ _ => none
  | n + 1 => Lb_X11_layLeast_3 k1 (L_X11_layLeast_3 k1 n)
noncomputable def f_X11_layLeast (k1 : Nat) (a2 : Int32) (a3 : Int32) (a4 : Int32) (S : Sg) : Option Sg :=
  L_X11_layLeast_3 k1 gFu S a2 a3 a4 (0 : Int32)
noncomputable def Lb_X11_findWay_106 (k1 : Nat) (K98 : Sg → Int32 → Int32 → Int32 → Option (Int32 × Sg)) (K106 : Sg → Int32 → Int32 → Int32 → Int32 → Option (Int32 × Sg)) (S : Sg) (x2 : Int32) (x6 : Int32) (x7 : Int32) (x8 : Int32) : Option (Int32 × Sg) :=
  gbi (f_X11_goneBy k1 x2 x8 x6 x7 S) (fun v_2 S_1 =>
  gck (inb (((9 : Int32) * x7) + x6) 225) (
  if v_2 = (S_1 400 (((9 : Int32) * x7) + x6).toNatClampNeg) then
    gck (inb (S_1 392 15) 24) (
    gst (u2 S_1 401 (S_1 392 15).toNatClampNeg x8) (fun S_3 =>
    gst (u2 S_3 392 15 ((S_3 392 15) + (1 : Int32))) (fun S_4 =>
    gbi (f_X11_trackAt x8 S_4) (fun v_6 S_5 =>
    gck (inb (v_6 + (2 : Int32)) 175) (
    gvi (x7 - (S_5 k1 (v_6 + (2 : Int32)).toNatClampNeg)) (fun x7_7 =>
    gbi (f_X11_across k1 x8 x6 S_5) (fun v_9 S_8 =>
    K98 S_8 x2 v_9 x7_7)))))))
  else
    gvi (x8 + (1 : Int32)) (fun x8_10 =>
    K106 S_1 x2 x6 x7 x8_10)))
noncomputable def L_X11_findWay_106 (k1 : Nat) (K98 : Sg → Int32 → Int32 → Int32 → Option (Int32 × Sg)) : Nat → Sg → Int32 → Int32 → Int32 → Int32 → Option (Int32 × Sg)
  | 0 => fun _ _ _ _ _ => none
  | n + 1 => Lb_X11_findWay_106 k1 K98 (L_X11_findWay_106 k1 K98 n)
noncomputable def Lb_X11_findWay_98 (k1 : Nat) (K98 : Sg → Int32 → Int32 → Int32 → Option (Int32 × Sg)) (S : Sg) (x2 : Int32) (x6 : Int32) (x7 : Int32) : Option (Int32 × Sg) :=
  if x7 ≤ 0 then
    some ((1 : Int32), S)
  else
    L_X11_findWay_106 k1 K98 gFu S x2 x6 x7 (0 : Int32)
noncomputable def L_X11_findWay_98 (k1 : Nat) : Nat → Sg → Int32 → Int32 → Int32 → Option (Int32 × Sg)
  | 0 => fun _ _ _ _ => none
  | n + 1 => Lb_X11_findWay_98 k1 (L_X11_findWay_98 k1 n)
noncomputable def Lb_X11_findWay_19 (k1 : Nat) (K19 : Sg → Int32 → Int32 → Int32 → Int32 → Option (Int32 × Sg)) (S : Sg) (x2 : Int32) (x3 : Int32) (x5 : Int32) (x6 : Int32) : Option (Int32 × Sg) :=
  if x5 < x6 then
    if (S 392 12) = (1000000 : Int32) then
      some ((0 : Int32), S)
    else
      gst (u2 S 392 15 (0 : Int32)) (fun S_11 =>
      gvi (S_11 392 13) (fun x7_12 =>
      L_X11_findWay_98 k1 gFu S_11 x2 x3 x7_12))
  else
    gck (inb (((9 : Int32) * x6) + x3) 225) (
    if (S 392 12) ≤ (S 400 (((9 : Int32) * x6) + x3).toNatClampNeg) then
      gvi (x6 + (1 : Int32)) (fun x6_13 =>
      K19 S x2 x3 x5 x6_13)
    else
      gck (inb (((9 : Int32) * x6) + x3) 225) (
      gst (u2 S 392 12 (S 400 (((9 : Int32) * x6) + x3).toNatClampNeg)) (fun S_14 =>
      gst (u2 S_14 392 13 x6) (fun S_15 =>
      gvi (x6 + (1 : Int32)) (fun x6_16 =>
      K19 S_15 x2 x3 x5 x6_16)))))
noncomputable def L_X11_findWay_19 (k1 : Nat) : Nat → Sg → Int32 → Int32 → Int32 → Int32 → Option (Int32 × Sg)
  | 0 => fun _ _ _ _ _ => none
  | n + 1 => Lb_X11_findWay_19 k1 (L_X11_findWay_19 k1 n)
noncomputable def f_X11_findWay (k1 : Nat) (a2 : Int32) (a3 : Int32) (a4 : Int32) (a5 : Int32) (S : Sg) : Option (Int32 × Sg) :=
  gbv (f_X11_layLeast k1 a2 a4 a5 S) (fun S_17 =>
  gst (u2 S_17 392 12 (1000000 : Int32)) (fun S_18 =>
  L_X11_findWay_19 k1 gFu S_18 a2 a3 a5 (1 : Int32)))
noncomputable def B_X11_bestContract_195 (K81 : Sg → Int32 → Int32 → Int32 → Int32 → Int32 → Option (Int32 × Sg)) (S : Sg) (x1 : Int32) (x2 : Int32) (x4 : Int32) (x5 : Int32) (x7 : Int32) (x8 : Int32) (t0 : Int32) : Option (Int32 × Sg) :=
  if x8 = 0 then
    gvi (x5 + (1 : Int32)) (fun x5_1 =>
    K81 S x1 x2 t0 x4 x5_1)
  else
    gvi (x5 + (1 : Int32)) (fun x5_2 =>
    K81 S x1 x2 t0 x7 x5_2)
noncomputable def B_X11_bestContract_182 (K81 : Sg → Int32 → Int32 → Int32 → Int32 → Int32 → Option (Int32 × Sg)) (S : Sg) (x1 : Int32) (x2 : Int32) (x3 : Int32) (x4 : Int32) (x5 : Int32) (x7 : Int32) (t0 : Int32) : Option (Int32 × Sg) :=
  if t0 = 0 then
    B_X11_bestContract_195 K81 S x1 x2 x4 x5 x7 t0 x3
  else
    B_X11_bestContract_195 K81 S x1 x2 x4 x5 x7 t0 x5
noncomputable def Lb_X11_bestContract_81 (K81 : Sg → Int32 → Int32 → Int32 → Int32 → Int32 → Option (Int32 × Sg)) (S : Sg) (x1 : Int32) (x2 : Int32) (x3 : Int32) (x4 : Int32) (x5 : Int32) : Option (Int32 × Sg) :=
  gck (inb (2 : Int32) 175) (
  if (S 395 (2 : Int32).toNatClampNeg) ≤ x5 then
    some (x3, S)
  else
    if x2 ≤ 0 then
      some (x3, S)
    else
      gbi (f_X11_contractAt x5 S) (fun v_4 S_3 =>
      gck (inb (v_4 + (4 : Int32)) 175) (
      if (S_3 395 (v_4 + (4 : Int32)).toNatClampNeg) = (-9 : Int32) then
        gck (inb v_4 175) (
        gck (inb (v_4 + (1 : Int32)) 175) (
        gbi (f_X11_findWay 395 x1 (S_3 395 v_4.toNatClampNeg) (S_3 395 (v_4 + (1 : Int32)).toNatClampNeg) ((4 : Int32) * x2) S_3) (fun v_7 S_6 =>
        if v_7 = 0 then
          gvi (x5 + (1 : Int32)) (fun x5_8 =>
          K81 S_6 x1 x2 x3 x4 x5_8)
        else
          gck (inb (v_4 + (2 : Int32)) 175) (
          gvi ((S_6 395 (v_4 + (2 : Int32)).toNatClampNeg) - (S_6 392 12)) (fun x7_9 =>
          if x3 = (-9 : Int32) then
            B_X11_bestContract_182 K81 S_6 x1 x2 x3 x4 x5 x7_9 (1 : Int32)
          else
            if x7_9 ≤ x4 then
              B_X11_bestContract_182 K81 S_6 x1 x2 x3 x4 x5 x7_9 (0 : Int32)
            else
              B_X11_bestContract_182 K81 S_6 x1 x2 x3 x4 x5 x7_9 (1 : Int32))))))
      else
        gvi (x5 + (1 : Int32)) (fun x5_5 =>
        K81 S_3 x1 x2 x3 x4 x5_5))))
noncomputable def L_X11_bestContract_81 : Nat → Sg → Int32 → Int32 → Int32 → Int32 → Int32 → Option (Int32 × Sg)
  | 0 => fun _ _ _ _ _ _ => none
  | n + 1 => Lb_X11_bestContract_81 (L_X11_bestContract_81 n)
noncomputable def Lb_X11_bestContract_25 (K25 : Sg → Int32 → Int32 → Int32 → Option (Int32 × Sg)) (S : Sg) (x1 : Int32) (x2 : Int32) (x3 : Int32) : Option (Int32 × Sg) :=
  gbi (f_X11_trainsOf 395 x1 S) (fun v_11 S_10 =>
  if v_11 ≤ x3 then
    L_X11_bestContract_81 gFu S_10 x1 x2 (-9 : Int32) (0 : Int32) (0 : Int32)
  else
    gbi (f_X11_trainAt x1 x3 S_10) (fun v_13 S_12 =>
    gck (inb v_13 175) (
    if (S_12 395 v_13.toNatClampNeg) ≤ x2 then
      gvi (x3 + (1 : Int32)) (fun x3_14 =>
      K25 S_12 x1 x2 x3_14)
    else
      gbi (f_X11_trainAt x1 x3 S_12) (fun v_16 S_15 =>
      gck (inb v_16 175) (
      gvi (S_15 395 v_16.toNatClampNeg) (fun x2_17 =>
      gvi (x3 + (1 : Int32)) (fun x3_18 =>
      K25 S_15 x1 x2_17 x3_18)))))))
noncomputable def L_X11_bestContract_25 : Nat → Sg → Int32 → Int32 → Int32 → Option (Int32 × Sg)
  | 0 => fun _ _ _ _ => none
  | n + 1 => Lb_X11_bestContract_25 (L_X11_bestContract_25 n)
noncomputable def B_X11_bestContract_13 (S : Sg) (x1 : Int32) (t0 : Int32) : Option (Int32 × Sg) :=
  gbi (f_X11_refused t0 S) (fun v_20 S_19 =>
  if v_20 = 0 then
    L_X11_bestContract_25 gFu S_19 x1 (0 : Int32) (0 : Int32)
  else
    some ((0 : Int32), S_19))
noncomputable def f_X11_bestContract (a1 : Int32) (S : Sg) : Option (Int32 × Sg) :=
  gbi (f_X11_isCompany a1 S) (fun v_22 S_21 =>
  if v_22 = 0 then
    B_X11_bestContract_13 S_21 a1 (1 : Int32)
  else
    B_X11_bestContract_13 S_21 a1 (0 : Int32))
noncomputable def f_X11_isTrack (k0 : Nat) (a1 : Int32) (S : Sg) : Option (Int32 × Sg) :=
  gck (inb (1 : Int32) 175) (
  gbi (f_X11_in a1.toInt64 (0 : Int64) (((S k0 (1 : Int32).toNatClampNeg) - (1 : Int32)).toInt64) S) (fun v_2 S_1 =>
  gck (isb v_2) (some (v_2, S_1))))
noncomputable def f_X11_canBuyTrack (k0 : Nat) (a1 : Int32) (a2 : Int32) (S : Sg) : Option (Int32 × Sg) :=
  gbi (f_X11_trackAt a2 S) (fun v_2 S_1 =>
  gck (inb (v_2 + (3 : Int32)) 175) (
  if (S_1 k0 (v_2 + (3 : Int32)).toNatClampNeg) = (-9 : Int32) then
    gbi (f_X11_companyAt a1 S_1) (fun v_4 S_3 =>
    gck (inb v_4 175) (
    gbi (f_X11_trackAt a2 S_3) (fun v_6 S_5 =>
    gck (inb (v_6 + (2 : Int32)) 175) (
    if (S_3 k0 v_4.toNatClampNeg) < ((3 : Int32) * (S_5 k0 (v_6 + (2 : Int32)).toNatClampNeg)) then
      some ((0 : Int32), S_5)
    else
      some ((1 : Int32), S_5)))))
  else
    some ((0 : Int32), S_1)))
noncomputable def B_X11_note_50 (S : Sg) : Option Sg :=
  gbv (f_X11_copyPage 395 175 397 2450 (0 : Int32) ((175 : Int32) * (S 392 8)) S) (fun S_1 =>
  gst (u2 S_1 392 8 ((S_1 392 8) + (1 : Int32))) (fun S_2 =>
  some S_2))
noncomputable def Lb_X11_note_11 (K11 : Sg → Int32 → Option Sg) (S : Sg) (x1 : Int32) : Option Sg :=
  if (2275 : Int32) ≤ x1 then
    gst (u2 S 392 8 ((S 392 8) - (1 : Int32))) (fun S_3 =>
    B_X11_note_50 S_3)
  else
    gck (inb (x1 + (175 : Int32)) 2450) (
    gck (inb x1 2450) (
    gst (u2 S 397 x1.toNatClampNeg (S 397 (x1 + (175 : Int32)).toNatClampNeg)) (fun S_4 =>
    gvi (x1 + (1 : Int32)) (fun x1_5 =>
    K11 S_4 x1_5))))
noncomputable def L_X11_note_11 : Nat → Sg → Int32 → Option Sg
  | 0 => fun _ _ => none
  | n + 1 => Lb_X11_note_11 (L_X11_note_11 n)
noncomputable def f_X11_note (S : Sg) : Option Sg :=
  if (S 392 8) = (14 : Int32) then
    L_X11_note_11 gFu S (0 : Int32)
  else
    B_X11_note_50 S
noncomputable def f_X11_buyTrackOn (k0 : Nat) (a1 : Int32) (a2 : Int32) (S : Sg) : Option (Int32 × Sg) :=
  gbi (f_X11_trackAt a2 S) (fun v_2 S_1 =>
  gck (inb (v_2 + (2 : Int32)) 175) (
  gbv (f_X11_toBank k0 a1 ((3 : Int32) * (S_1 k0 (v_2 + (2 : Int32)).toNatClampNeg)) S_1) (fun S_3 =>
  gbi (f_X11_trackAt a2 S_3) (fun v_5 S_4 =>
  gck (inb (v_5 + (3 : Int32)) 175) (
  gst (u2 S_4 k0 (v_5 + (3 : Int32)).toNatClampNeg a1) (fun S_6 =>
  gbi (f_X11_companyAt a1 S_6) (fun v_8 S_7 =>
  gck (inb v_8 175) (
  some (S_7 k0 v_8.toNatClampNeg, S_7)))))))))
noncomputable def B_X11_buyTrack_40 (S : Sg) (x1 : Int32) (x2 : Int32) (t0 : Int32) : Option (Int32 × Sg) :=
  gbi (f_X11_refused t0 S) (fun v_2 S_1 =>
  if v_2 = 0 then
    gbv (f_X11_note S_1) (fun S_3 =>
    gbi (f_X11_buyTrackOn 395 x1 x2 S_3) (fun v_5 S_4 =>
    some (v_5, S_4)))
  else
    some ((0 : Int32), S_1))
noncomputable def f_X11_buyTrack (a1 : Int32) (a2 : Int32) (S : Sg) : Option (Int32 × Sg) :=
  gbi (f_X11_isCompany a1 S) (fun v_7 S_6 =>
  if v_7 = 0 then
    B_X11_buyTrack_40 S_6 a1 a2 (1 : Int32)
  else
    gbi (f_X11_isTrack 395 a2 S_6) (fun v_9 S_8 =>
    if v_9 = 0 then
      B_X11_buyTrack_40 S_8 a1 a2 (1 : Int32)
    else
      gbi (f_X11_canBuyTrack 395 a1 a2 S_8) (fun v_11 S_10 =>
      if v_11 = 0 then
        B_X11_buyTrack_40 S_10 a1 a2 (2 : Int32)
      else
        B_X11_buyTrack_40 S_10 a1 a2 (0 : Int32))))
noncomputable def f_X11_canBuyTrain (k0 : Nat) (a1 : Int32) (a2 : Int32) (S : Sg) : Option (Int32 × Sg) :=
  gck (inb (3 : Int32) 175) (
  gck (inb (3 : Int32) 175) (
  gbi (f_X11_in a2.toInt64 (((S k0 (3 : Int32).toNatClampNeg) - (1 : Int32)).toInt64) (((S k0 (3 : Int32).toNatClampNeg) + (1 : Int32)).toInt64) S) (fun v_2 S_1 =>
  if v_2 = 0 then
    some ((0 : Int32), S_1)
  else
    gbi (f_X11_trainsOf k0 a1 S_1) (fun v_4 S_3 =>
    if (4 : Int32) ≤ v_4 then
      some ((0 : Int32), S_3)
    else
      gbi (f_X11_companyAt a1 S_3) (fun v_6 S_5 =>
      gck (inb v_6 175) (
      if (S_5 k0 v_6.toNatClampNeg) < ((20 : Int32) * a2) then
        some ((0 : Int32), S_5)
      else
        some ((1 : Int32), S_5)))))))
noncomputable def Lb_X11_rust_12 (k0 : Nat) (K12 : Sg → Int32 → Int32 → Int32 → Int32 → Int32 → Option (Int32 × Sg)) (S : Sg) (x1 : Int32) (x2 : Int32) (x3 : Int32) (x4 : Int32) (x5 : Int32) : Option (Int32 × Sg) :=
  if x4 ≤ x5 then
    gbi (f_X11_companyAt x1 S) (fun v_2 S_1 =>
    gck (inb (v_2 + (2 : Int32)) 175) (
    gst (u2 S_1 k0 (v_2 + (2 : Int32)).toNatClampNeg x3) (fun S_3 =>
    some (x4 - x3, S_3))))
  else
    gbi (f_X11_trainAt x1 x5 S) (fun v_5 S_4 =>
    gck (inb v_5 175) (
    if (S_4 k0 v_5.toNatClampNeg) < x2 then
      gvi (x5 + (1 : Int32)) (fun x5_6 =>
      K12 S_4 x1 x2 x3 x4 x5_6)
    else
      gbi (f_X11_trainAt x1 x3 S_4) (fun v_8 S_7 =>
      gbi (f_X11_trainAt x1 x5 S_7) (fun v_10 S_9 =>
      gck (inb v_10 175) (
      gck (inb v_8 175) (
      gst (u2 S_9 k0 v_8.toNatClampNeg (S_9 k0 v_10.toNatClampNeg)) (fun S_11 =>
      gbi (f_X11_trainAt x1 x3 S_11) (fun v_13 S_12 =>
      gbi (f_X11_trainAt x1 x5 S_12) (fun v_15 S_14 =>
      gck (inb (v_15 + (1 : Int32)) 175) (
      gck (inb (v_13 + (1 : Int32)) 175) (
      gst (u2 S_14 k0 (v_13 + (1 : Int32)).toNatClampNeg (S_14 k0 (v_15 + (1 : Int32)).toNatClampNeg)) (fun S_16 =>
      gvi (x3 + (1 : Int32)) (fun x3_17 =>
      gvi (x5 + (1 : Int32)) (fun x5_18 =>
      K12 S_16 x1 x2 x3_17 x4 x5_18))))))))))))))
noncomputable def L_X11_rust_12 (k0 : Nat) : Nat → Sg → Int32 → Int32 → Int32 → Int32 → Int32 → Option (Int32 × Sg)
  | 0 => fun _ _ _ _ _ _ => none
  | n + 1 => Lb_X11_rust_12 k0 (L_X11_rust_12 k0 n)
noncomputable def f_X11_rust (k0 : Nat) (a1 : Int32) (a2 : Int32) (S : Sg) : Option (Int32 × Sg) :=
  gbi (f_X11_trainsOf k0 a1 S) (fun v_20 S_19 =>
  L_X11_rust_12 k0 gFu S_19 a1 a2 (0 : Int32) v_20 (0 : Int32))
noncomputable def Lb_X11_buyTrainOn_63 (k0 : Nat) (K63 : Sg → Int32 → Int32 → Option (Int32 × Sg)) (S : Sg) (x4 : Int32) (x5 : Int32) : Option (Int32 × Sg) :=
  if (4 : Int32) ≤ x5 then
    gck (inb (10 : Int32) 175) (
    gck (inb (10 : Int32) 175) (
    gst (u2 S k0 (10 : Int32).toNatClampNeg ((S k0 (10 : Int32).toNatClampNeg) + x4)) (fun S_1 =>
    some (x4, S_1))))
  else
    gck (inb (3 : Int32) 175) (
    gbi (f_X11_rust k0 x5 ((S k0 (3 : Int32).toNatClampNeg) - (1 : Int32)) S) (fun v_3 S_2 =>
    gvi (x4 + v_3) (fun x4_4 =>
    gvi (x5 + (1 : Int32)) (fun x5_5 =>
    K63 S_2 x4_4 x5_5))))
noncomputable def L_X11_buyTrainOn_63 (k0 : Nat) : Nat → Sg → Int32 → Int32 → Option (Int32 × Sg)
  | 0 => fun _ _ _ => none
  | n + 1 => Lb_X11_buyTrainOn_63 k0 (L_X11_buyTrainOn_63 k0 n)
noncomputable def f_X11_buyTrainOn (k0 : Nat) (a1 : Int32) (a2 : Int32) (S : Sg) : Option (Int32 × Sg) :=
  gbv (f_X11_toBank k0 a1 ((20 : Int32) * a2) S) (fun S_6 =>
  gbi (f_X11_trainsOf k0 a1 S_6) (fun v_8 S_7 =>
  gbi (f_X11_trainAt a1 v_8 S_7) (fun v_10 S_9 =>
  gck (inb v_10 175) (
  gst (u2 S_9 k0 v_10.toNatClampNeg a2) (fun S_11 =>
  gck (inb (v_10 + (1 : Int32)) 175) (
  gst (u2 S_11 k0 (v_10 + (1 : Int32)).toNatClampNeg (0 : Int32)) (fun S_12 =>
  gbi (f_X11_companyAt a1 S_12) (fun v_14 S_13 =>
  gck (inb (v_14 + (2 : Int32)) 175) (
  gck (inb (v_14 + (2 : Int32)) 175) (
  gst (u2 S_13 k0 (v_14 + (2 : Int32)).toNatClampNeg ((S_13 k0 (v_14 + (2 : Int32)).toNatClampNeg) + (1 : Int32))) (fun S_15 =>
  gck (inb (3 : Int32) 175) (
  if (S_15 k0 (3 : Int32).toNatClampNeg) < a2 then
    gck (inb (3 : Int32) 175) (
    gck (inb (3 : Int32) 175) (
    gst (u2 S_15 k0 (3 : Int32).toNatClampNeg ((S_15 k0 (3 : Int32).toNatClampNeg) + (1 : Int32))) (fun S_16 =>
    L_X11_buyTrainOn_63 k0 gFu S_16 (0 : Int32) (0 : Int32))))
  else
    some ((0 : Int32), S_15)))))))))))))
noncomputable def B_X11_buyTrain_45 (S : Sg) (x1 : Int32) (x2 : Int32) (t0 : Int32) : Option (Int32 × Sg) :=
  gbi (f_X11_refused t0 S) (fun v_2 S_1 =>
  if v_2 = 0 then
    gbv (f_X11_note S_1) (fun S_3 =>
    gbi (f_X11_buyTrainOn 395 x1 x2 S_3) (fun v_5 S_4 =>
    some (v_5, S_4)))
  else
    some ((0 : Int32), S_1))
noncomputable def f_X11_buyTrain (a1 : Int32) (a2 : Int32) (S : Sg) : Option (Int32 × Sg) :=
  gbi (f_X11_isCompany a1 S) (fun v_7 S_6 =>
  if v_7 = 0 then
    B_X11_buyTrain_45 S_6 a1 a2 (1 : Int32)
  else
    gbi (f_X11_in a2.toInt64 (1 : Int64) (6 : Int64) S_6) (fun v_9 S_8 =>
    if v_9 = 0 then
      B_X11_buyTrain_45 S_8 a1 a2 (2 : Int32)
    else
      gbi (f_X11_canBuyTrain 395 a1 a2 S_8) (fun v_11 S_10 =>
      if v_11 = 0 then
        B_X11_buyTrain_45 S_10 a1 a2 (3 : Int32)
      else
        B_X11_buyTrain_45 S_10 a1 a2 (0 : Int32))))
noncomputable def f_X11_canTake (k0 : Nat) (a1 : Int32) (S : Sg) : Option (Int32 × Sg) :=
  gbi (f_X11_contractAt a1 S) (fun v_2 S_1 =>
  gck (inb (v_2 + (4 : Int32)) 175) (
  if (S_1 k0 (v_2 + (4 : Int32)).toNatClampNeg) = (-9 : Int32) then
    some ((1 : Int32), S_1)
  else
    some ((0 : Int32), S_1)))
noncomputable def f_X11_clearText (S : Sg) : Option (Int32 × Sg) :=
  gst (u2 S 392 0 (0 : Int32)) (fun S_1 =>
  gvi (S_1 392 2) (fun x1_2 =>
  gst (u2 S_1 392 2 (0 : Int32)) (fun S_3 =>
  some (x1_2, S_3))))
noncomputable def Lb_X11_coinsAfter_52 (K52 : Sg → Int32 → Int32 → Int32 → Option (Int32 × Sg)) (S : Sg) (x1 : Int32) (x2 : Int32) (x3 : Int32) : Option (Int32 × Sg) :=
  if x2 ≤ x3 then
    gbi (f_X11_companyAt x1 S) (fun v_2 S_1 =>
    gck (inb v_2 175) (
    some (S_1 396 v_2.toNatClampNeg, S_1)))
  else
    gbi (f_X11_endOn 396 S) (fun v_4 S_3 =>
    gvi (x3 + (1 : Int32)) (fun x3_5 =>
    K52 S_3 x1 x2 x3_5))
noncomputable def L_X11_coinsAfter_52 : Nat → Sg → Int32 → Int32 → Int32 → Option (Int32 × Sg)
  | 0 => fun _ _ _ _ => none
  | n + 1 => Lb_X11_coinsAfter_52 (L_X11_coinsAfter_52 n)
noncomputable def B_X11_coinsAfter_29 (S : Sg) (x1 : Int32) (x2 : Int32) (t0 : Int32) : Option (Int32 × Sg) :=
  gbi (f_X11_refused t0 S) (fun v_7 S_6 =>
  if v_7 = 0 then
    gbv (f_X11_copyPage 395 175 396 175 (0 : Int32) (0 : Int32) S_6) (fun S_8 =>
    L_X11_coinsAfter_52 gFu S_8 x1 x2 (0 : Int32))
  else
    some ((0 : Int32), S_6))
noncomputable def f_X11_coinsAfter (a1 : Int32) (a2 : Int32) (S : Sg) : Option (Int32 × Sg) :=
  gbi (f_X11_isCompany a1 S) (fun v_10 S_9 =>
  if v_10 = 0 then
    B_X11_coinsAfter_29 S_9 a1 a2 (1 : Int32)
  else
    gbi (f_X11_in a2.toInt64 (0 : Int64) (50 : Int64) S_9) (fun v_12 S_11 =>
    if v_12 = 0 then
      B_X11_coinsAfter_29 S_11 a1 a2 (2 : Int32)
    else
      B_X11_coinsAfter_29 S_11 a1 a2 (0 : Int32)))
noncomputable def Lb_X11_contractsOf_4 (k0 : Nat) (K4 : Sg → Int32 → Int32 → Int32 → Option (Int32 × Sg)) (S : Sg) (x1 : Int32) (x2 : Int32) (x3 : Int32) : Option (Int32 × Sg) :=
  gck (inb (2 : Int32) 175) (
  if (S k0 (2 : Int32).toNatClampNeg) ≤ x3 then
    some (x2, S)
  else
    gbi (f_X11_contractAt x3 S) (fun v_2 S_1 =>
    gck (inb (v_2 + (4 : Int32)) 175) (
    if (S_1 k0 (v_2 + (4 : Int32)).toNatClampNeg) = x1 then
      gvi (x2 + (1 : Int32)) (fun x2_5 =>
      gvi (x3 + (1 : Int32)) (fun x3_6 =>
      K4 S_1 x1 x2_5 x3_6))
    else
      gvi (x2 + (0 : Int32)) (fun x2_3 =>
      gvi (x3 + (1 : Int32)) (fun x3_4 =>
      K4 S_1 x1 x2_3 x3_4)))))
noncomputable def L_X11_contractsOf_4 (k0 : Nat) : Nat → Sg → Int32 → Int32 → Int32 → Option (Int32 × Sg)
  | 0 => fun _ _ _ _ => none
  | n + 1 => Lb_X11_contractsOf_4 k0 (L_X11_contractsOf_4 k0 n)
noncomputable def f_X11_contractsOf (k0 : Nat) (a1 : Int32) (S : Sg) : Option (Int32 × Sg) :=
  L_X11_contractsOf_4 k0 gFu S a1 (0 : Int32) (0 : Int32)
noncomputable def B_X11_company_29 (S : Sg) (x1 : Int32) (x2 : Int32) (t0 : Int32) : Option (Int32 × Sg) :=
  gbi (f_X11_refused t0 S) (fun v_2 S_1 =>
  if v_2 = 0 then
    gbi (f_X11_companyAt x1 S_1) (fun v_4 S_3 =>
    if (3 : Int32) ≤ x2 then
      if x2 = (3 : Int32) then
        gbi (f_X11_tracksOf 395 x1 (0 : Int32) S_3) (fun v_8 S_7 =>
        some (v_8, S_7))
      else
        if x2 = (4 : Int32) then
          gbi (f_X11_contractsOf 395 x1 S_3) (fun v_6 S_5 =>
          some (v_6, S_5))
        else
          gck (inb ((v_4 + x2) - (2 : Int32)) 175) (
          some (S_3 395 ((v_4 + x2) - (2 : Int32)).toNatClampNeg, S_3))
    else
      gck (inb (v_4 + x2) 175) (
      some (S_3 395 (v_4 + x2).toNatClampNeg, S_3)))
  else
    some ((0 : Int32), S_1))
noncomputable def f_X11_company (a1 : Int32) (a2 : Int32) (S : Sg) : Option (Int32 × Sg) :=
  gbi (f_X11_isCompany a1 S) (fun v_10 S_9 =>
  if v_10 = 0 then
    B_X11_company_29 S_9 a1 a2 (1 : Int32)
  else
    gbi (f_X11_in a2.toInt64 (0 : Int64) (6 : Int64) S_9) (fun v_12 S_11 =>
    if v_12 = 0 then
      B_X11_company_29 S_11 a1 a2 (2 : Int32)
    else
      B_X11_company_29 S_11 a1 a2 (0 : Int32)))
noncomputable def f_X11_isContract (k0 : Nat) (a1 : Int32) (S : Sg) : Option (Int32 × Sg) :=
  gck (inb (2 : Int32) 175) (
  gbi (f_X11_in a1.toInt64 (0 : Int64) (((S k0 (2 : Int32).toNatClampNeg) - (1 : Int32)).toInt64) S) (fun v_2 S_1 =>
  gck (isb v_2) (some (v_2, S_1))))
noncomputable def B_X11_contract_33 (S : Sg) (x1 : Int32) (x2 : Int32) (t0 : Int32) : Option (Int32 × Sg) :=
  gbi (f_X11_refused t0 S) (fun v_2 S_1 =>
  if v_2 = 0 then
    gbi (f_X11_contractAt x1 S_1) (fun v_4 S_3 =>
    gck (inb (v_4 + x2) 175) (
    some (S_3 395 (v_4 + x2).toNatClampNeg, S_3)))
  else
    some ((0 : Int32), S_1))
noncomputable def f_X11_contract (a1 : Int32) (a2 : Int32) (S : Sg) : Option (Int32 × Sg) :=
  gbi (f_X11_isContract 395 a1 S) (fun v_6 S_5 =>
  if v_6 = 0 then
    B_X11_contract_33 S_5 a1 a2 (1 : Int32)
  else
    gbi (f_X11_in a2.toInt64 (0 : Int64) (5 : Int64) S_5) (fun v_8 S_7 =>
    if v_8 = 0 then
      B_X11_contract_33 S_7 a1 a2 (2 : Int32)
    else
      B_X11_contract_33 S_7 a1 a2 (0 : Int32)))
noncomputable def B_X11_digit_70 (S : Sg) (x4 : Int32) (x5 : Int32) (t0 : Int32) (t1 : Int32) : Option (Int32 × Sg) :=
  gst (u2 S 392 3 (t1 + t0)) (fun S_1 =>
  if x5 = 0 then
    some ((-9 : Int32), S_1)
  else
    some (x4, S_1))
noncomputable def B_X11_digit_53 (S : Sg) (x4 : Int32) (t0 : Int32) : Option (Int32 × Sg) :=
  if t0 = 0 then
    B_X11_digit_70 S x4 t0 (0 : Int32) (S 392 3)
  else
    B_X11_digit_70 S x4 t0 (1 : Int32) (S 392 3)
noncomputable def B_X11_digit_27 (S : Sg) (x1 : Int32) (x2 : Int32) (x3 : Int32) (t0 : Int32) : Option (Int32 × Sg) :=
  gbi (f_X11_in t0.toInt64 x1.toInt64 x2.toInt64 S) (fun v_3 S_2 =>
  if v_3 = 0 then
    B_X11_digit_53 S_2 t0 (0 : Int32)
  else
    if t0 = x3 then
      B_X11_digit_53 S_2 t0 (0 : Int32)
    else
      B_X11_digit_53 S_2 t0 (1 : Int32))
noncomputable def f_X11_digit (a1 : Int32) (a2 : Int32) (a3 : Int32) (S : Sg) : Option (Int32 × Sg) :=
  if (S 392 2) ≤ (S 392 3) then
    B_X11_digit_27 S a1 a2 a3 (-1 : Int32)
  else
    gck (inb (S 392 3) 100) (
    B_X11_digit_27 S a1 a2 a3 ((S 393 (S 392 3).toNatClampNeg) - (48 : Int32)))
noncomputable def f_X11_takeOn (k0 : Nat) (a1 : Int32) (a2 : Int32) (S : Sg) : Option (Int32 × Sg) :=
  gbi (f_X11_contractAt a2 S) (fun v_2 S_1 =>
  gck (inb (v_2 + (4 : Int32)) 175) (
  gst (u2 S_1 k0 (v_2 + (4 : Int32)).toNatClampNeg a1) (fun S_3 =>
  gbi (f_X11_contractsOf k0 a1 S_3) (fun v_5 S_4 =>
  some (v_5, S_4)))))
noncomputable def f_X11_isTrain (k0 : Nat) (a1 : Int32) (a2 : Int32) (S : Sg) : Option (Int32 × Sg) :=
  gbi (f_X11_trainsOf k0 a1 S) (fun v_2 S_1 =>
  gbi (f_X11_in a2.toInt64 (0 : Int64) ((v_2 - (1 : Int32)).toInt64) S_1) (fun v_4 S_3 =>
  gck (isb v_4) (some (v_4, S_3))))
noncomputable def f_X11_isRun (k0 : Nat) (a1 : Int32) (a2 : Int32) (S : Sg) : Option (Int32 × Sg) :=
  gbi (f_X11_isContract k0 a1 S) (fun v_2 S_1 =>
  if v_2 = 0 then
    some ((0 : Int32), S_1)
  else
    gbi (f_X11_contractAt a1 S_1) (fun v_4 S_3 =>
    gck (inb (v_4 + (4 : Int32)) 175) (
    if (S_3 k0 (v_4 + (4 : Int32)).toNatClampNeg) = (-9 : Int32) then
      some ((1 : Int32), S_3)
    else
      gbi (f_X11_contractAt a1 S_3) (fun v_6 S_5 =>
      gck (inb (v_6 + (4 : Int32)) 175) (
      gbi (f_X11_isTrain k0 (S_5 k0 (v_6 + (4 : Int32)).toNatClampNeg) a2 S_5) (fun v_8 S_7 =>
      if v_8 = 0 then
        some ((0 : Int32), S_7)
      else
        some ((1 : Int32), S_7)))))))
noncomputable def f_X11_why (k1 : Nat) (a2 : Int32) (a3 : Int32) (S : Sg) : Option (Int32 × Sg) :=
  gbi (f_X11_contractAt a2 S) (fun v_2 S_1 =>
  gck (inb (v_2 + (4 : Int32)) 175) (
  gvi (S_1 k1 (v_2 + (4 : Int32)).toNatClampNeg) (fun x5_3 =>
  if x5_3 = (-9 : Int32) then
    some ((1 : Int32), S_1)
  else
    gck (inb (v_2 + (5 : Int32)) 175) (
    if (S_1 k1 (v_2 + (5 : Int32)).toNatClampNeg) = (1 : Int32) then
      some ((2 : Int32), S_1)
    else
      gbi (f_X11_trainAt x5_3 a3 S_1) (fun v_5 S_4 =>
      gck (inb (v_5 + (1 : Int32)) 175) (
      if (S_4 k1 (v_5 + (1 : Int32)).toNatClampNeg) = (1 : Int32) then
        some ((3 : Int32), S_4)
      else
        gck (inb v_2 175) (
        gck (inb (v_2 + (1 : Int32)) 175) (
        gbi (f_X11_trainAt x5_3 a3 S_4) (fun v_7 S_6 =>
        gck (inb v_7 175) (
        gbi (f_X11_findWay k1 x5_3 (S_4 k1 v_2.toNatClampNeg) (S_4 k1 (v_2 + (1 : Int32)).toNatClampNeg) ((4 : Int32) * (S_6 k1 v_7.toNatClampNeg)) S_6) (fun v_9 S_8 =>
        if v_9 = 0 then
          some ((4 : Int32), S_8)
        else
          some ((0 : Int32), S_8))))))))))))
