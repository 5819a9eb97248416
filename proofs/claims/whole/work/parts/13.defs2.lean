noncomputable def B_X11_runOn_129 (k1 : Nat) (K45 : Sg → Int32 → Int32 → Int32 → Int32 → Option (Int32 × Sg)) (S : Sg) (x3 : Int32) (x4 : Int32) (x5 : Int32) (x6 : Int32) (x7 : Int32) : Option (Int32 × Sg) :=
  gbi (f_X11_companyAt x5 S) (fun v_2 S_1 =>
  gck (inb v_2 175) (
  gck (inb v_2 175) (
  gst (u2 S_1 k1 v_2.toNatClampNeg ((S_1 k1 v_2.toNatClampNeg) - x7)) (fun S_3 =>
  gck (inb (6 : Int32) 175) (
  gck (inb (6 : Int32) 175) (
  gst (u2 S_3 k1 (6 : Int32).toNatClampNeg ((S_3 k1 (6 : Int32).toNatClampNeg) + x7)) (fun S_4 =>
  gvi (x6 + (1 : Int32)) (fun x6_5 =>
  K45 S_4 x3 x4 x5 x6_5))))))))
noncomputable def Lb_X11_runOn_45 (k1 : Nat) (K45 : Sg → Int32 → Int32 → Int32 → Int32 → Option (Int32 × Sg)) (S : Sg) (x3 : Int32) (x4 : Int32) (x5 : Int32) (x6 : Int32) : Option (Int32 × Sg) :=
  if (S 392 15) ≤ x6 then
    gck (inb (5 : Int32) 175) (
    gck (inb (x4 + (2 : Int32)) 175) (
    gck (inb (5 : Int32) 175) (
    gst (u2 S k1 (5 : Int32).toNatClampNeg ((S k1 (5 : Int32).toNatClampNeg) - (S k1 (x4 + (2 : Int32)).toNatClampNeg))) (fun S_6 =>
    gbi (f_X11_companyAt x5 S_6) (fun v_8 S_7 =>
    gck (inb v_8 175) (
    gck (inb (x4 + (2 : Int32)) 175) (
    gck (inb v_8 175) (
    gst (u2 S_7 k1 v_8.toNatClampNeg ((S_7 k1 v_8.toNatClampNeg) + (S_7 k1 (x4 + (2 : Int32)).toNatClampNeg))) (fun S_9 =>
    gck (inb (7 : Int32) 175) (
    gck (inb (x4 + (2 : Int32)) 175) (
    gck (inb (7 : Int32) 175) (
    gst (u2 S_9 k1 (7 : Int32).toNatClampNeg ((S_9 k1 (7 : Int32).toNatClampNeg) + (S_9 k1 (x4 + (2 : Int32)).toNatClampNeg))) (fun S_10 =>
    gck (inb (x4 + (5 : Int32)) 175) (
    gst (u2 S_10 k1 (x4 + (5 : Int32)).toNatClampNeg (1 : Int32)) (fun S_11 =>
    gbi (f_X11_trainAt x5 x3 S_11) (fun v_13 S_12 =>
    gck (inb (v_13 + (1 : Int32)) 175) (
    gst (u2 S_12 k1 (v_13 + (1 : Int32)).toNatClampNeg (1 : Int32)) (fun S_14 =>
    some (S_14 392 12, S_14)))))))))))))))))))
  else
    gck (inb x6 24) (
    gbi (f_X11_costOf k1 x5 (S 401 x6.toNatClampNeg) S) (fun v_16 S_15 =>
    gck (inb x6 24) (
    gbi (f_X11_trackAt (S_15 401 x6.toNatClampNeg) S_15) (fun v_18 S_17 =>
    gck (inb (v_18 + (3 : Int32)) 175) (
    gvi (S_17 k1 (v_18 + (3 : Int32)).toNatClampNeg) (fun x8_19 =>
    if x8_19 = (-9 : Int32) then
      gck (inb (5 : Int32) 175) (
      gck (inb (5 : Int32) 175) (
      gst (u2 S_17 k1 (5 : Int32).toNatClampNeg ((S_17 k1 (5 : Int32).toNatClampNeg) + v_16)) (fun S_26 =>
      B_X11_runOn_129 k1 K45 S_26 x3 x4 x5 x6 v_16)))
    else
      gbi (f_X11_companyAt x8_19 S_17) (fun v_21 S_20 =>
      gck (inb v_21 175) (
      gck (inb v_21 175) (
      gst (u2 S_20 k1 v_21.toNatClampNeg ((S_20 k1 v_21.toNatClampNeg) + v_16)) (fun S_22 =>
      gbi (f_X11_companyAt x8_19 S_22) (fun v_24 S_23 =>
      gck (inb (v_24 + (3 : Int32)) 175) (
      gck (inb (v_24 + (3 : Int32)) 175) (
      gst (u2 S_23 k1 (v_24 + (3 : Int32)).toNatClampNeg ((S_23 k1 (v_24 + (3 : Int32)).toNatClampNeg) + v_16)) (fun S_25 =>
      B_X11_runOn_129 k1 K45 S_25 x3 x4 x5 x6 v_16))))))))))))))
noncomputable def L_X11_runOn_45 (k1 : Nat) : Nat → Sg → Int32 → Int32 → Int32 → Int32 → Option (Int32 × Sg)
  | 0 => fun _ _ _ _ _ => none
  | n + 1 => Lb_X11_runOn_45 k1 (L_X11_runOn_45 k1 n)
noncomputable def f_X11_runOn (k1 : Nat) (a2 : Int32) (a3 : Int32) (S : Sg) : Option (Int32 × Sg) :=
  gbi (f_X11_contractAt a2 S) (fun v_28 S_27 =>
  gck (inb (v_28 + (4 : Int32)) 175) (
  gvi (S_27 k1 (v_28 + (4 : Int32)).toNatClampNeg) (fun x5_29 =>
  gck (inb v_28 175) (
  gck (inb (v_28 + (1 : Int32)) 175) (
  gbi (f_X11_trainAt x5_29 a3 S_27) (fun v_31 S_30 =>
  gck (inb v_31 175) (
  gbi (f_X11_findWay k1 x5_29 (S_27 k1 v_28.toNatClampNeg) (S_27 k1 (v_28 + (1 : Int32)).toNatClampNeg) ((4 : Int32) * (S_30 k1 v_31.toNatClampNeg)) S_30) (fun v_33 S_32 =>
  L_X11_runOn_45 k1 gFu S_32 a3 v_28 x5_29 (0 : Int32)))))))))
noncomputable def B_X11_does_11 (S : Sg) (x1 : Int32) (x2 : Int32) (x3 : Int32) (t0 : Int32) : Option (Int32 × Sg) :=
  gbi (f_X11_isCompany x2 S) (fun v_2 S_1 =>
  if x1 = (1 : Int32) then
    if v_2 = 0 then
      some ((0 : Int32), S_1)
    else
      if t0 = 0 then
        some ((0 : Int32), S_1)
      else
        gbi (f_X11_isTrack 396 x3 S_1) (fun v_4 S_3 =>
        if v_4 = 0 then
          some ((0 : Int32), S_3)
        else
          gbi (f_X11_canBuyTrack 396 x2 x3 S_3) (fun v_6 S_5 =>
          if v_6 = 0 then
            some ((0 : Int32), S_5)
          else
            gbi (f_X11_buyTrackOn 396 x2 x3 S_5) (fun v_8 S_7 =>
            some ((1 : Int32), S_7))))
  else
  if x1 = (2 : Int32) then
    if v_2 = 0 then
      some ((0 : Int32), S_1)
    else
      gbi (f_X11_in x3.toInt64 (1 : Int64) (6 : Int64) S_1) (fun v_11 S_10 =>
      if v_11 = 0 then
        some ((0 : Int32), S_10)
      else
        gbi (f_X11_canBuyTrain 396 x2 x3 S_10) (fun v_13 S_12 =>
        if v_13 = 0 then
          some ((0 : Int32), S_12)
        else
          gbi (f_X11_buyTrainOn 396 x2 x3 S_12) (fun v_15 S_14 =>
          if v_15 < 0 then
            some ((0 : Int32), S_14)
          else
            some ((1 : Int32), S_14))))
  else
  if x1 = (3 : Int32) then
    if v_2 = 0 then
      some ((0 : Int32), S_1)
    else
      if x3 ≤ (9 : Int32) then
        gbi (f_X11_companyAt x2 S_1) (fun v_18 S_17 =>
        gck (inb (v_18 + (1 : Int32)) 175) (
        gst (u2 S_17 396 (v_18 + (1 : Int32)).toNatClampNeg x3) (fun S_19 =>
        some ((1 : Int32), S_19))))
      else
        some ((0 : Int32), S_1)
  else
  if x1 = (4 : Int32) then
    if v_2 = 0 then
      some ((0 : Int32), S_1)
    else
      gbi (f_X11_isContract 396 x3 S_1) (fun v_22 S_21 =>
      if v_22 = 0 then
        some ((0 : Int32), S_21)
      else
        gbi (f_X11_canTake 396 x3 S_21) (fun v_24 S_23 =>
        if v_24 = 0 then
          some ((0 : Int32), S_23)
        else
          gbi (f_X11_takeOn 396 x2 x3 S_23) (fun v_26 S_25 =>
          if v_26 ≤ 0 then
            some ((0 : Int32), S_25)
          else
            some ((1 : Int32), S_25))))
  else
  if x1 = (5 : Int32) then
    if (10 : Int32) ≤ x3 then
      some ((0 : Int32), S_1)
    else
      gbi (f_X11_isRun 396 x2 x3 S_1) (fun v_29 S_28 =>
      if v_29 = 0 then
        some ((0 : Int32), S_28)
      else
        gbi (f_X11_why 396 x2 x3 S_28) (fun v_31 S_30 =>
        if v_31 = 0 then
          gbi (f_X11_runOn 396 x2 x3 S_30) (fun v_33 S_32 =>
          if v_33 < 0 then
            some ((0 : Int32), S_32)
          else
            some ((1 : Int32), S_32))
        else
          some ((0 : Int32), S_30)))
  else
  if x1 = (6 : Int32) then
    if x2 = 0 then
      if x3 = 0 then
        gbi (f_X11_endOn 396 S_1) (fun v_36 S_35 =>
        if v_36 < 0 then
          some ((0 : Int32), S_35)
        else
          some ((1 : Int32), S_35))
      else
        some ((0 : Int32), S_1)
    else
      some ((0 : Int32), S_1)
  else
  if x1 = (7 : Int32) then
    if v_2 = 0 then
      some ((0 : Int32), S_1)
    else
      gbi (f_X11_companyAt x2 S_1) (fun v_39 S_38 =>
      gck (inb v_39 175) (
      if (S_38 396 v_39.toNatClampNeg) < x3 then
        some ((0 : Int32), S_38)
      else
        some ((1 : Int32), S_38)))
  else
  if x1 = (8 : Int32) then
    if x2 = 0 then
      if (10 : Int32) ≤ x3 then
        some ((0 : Int32), S_1)
      else
        gck (inb (3 : Int32) 175) (
        if (S_1 396 (3 : Int32).toNatClampNeg) = x3 then
          some ((1 : Int32), S_1)
        else
          some ((0 : Int32), S_1))
    else
      some ((0 : Int32), S_1)
  else
  if x1 = (9 : Int32) then
    if v_2 = 0 then
      some ((0 : Int32), S_1)
    else
      if (10 : Int32) ≤ x3 then
        some ((0 : Int32), S_1)
      else
        gbi (f_X11_trainsOf 396 x2 S_1) (fun v_43 S_42 =>
        if v_43 = x3 then
          some ((1 : Int32), S_42)
        else
          some ((0 : Int32), S_42))
  else
    some ((0 : Int32), S_1))
noncomputable def f_X11_does (a1 : Int32) (a2 : Int32) (a3 : Int32) (S : Sg) : Option (Int32 × Sg) :=
  if (100 : Int32) ≤ a3 then
    B_X11_does_11 S a1 a2 a3 (0 : Int32)
  else
    B_X11_does_11 S a1 a2 a3 (1 : Int32)
noncomputable def B_X11_eat_44 (S : Sg) (x2 : Int32) (t0 : Int32) (t1 : Int32) : Option (Int32 × Sg) :=
  gst (u2 S 392 3 (t1 + t0)) (fun S_1 =>
  gck (isb x2) (some (x2, S_1)))
noncomputable def B_X11_eat_29 (S : Sg) (t0 : Int32) : Option (Int32 × Sg) :=
  if t0 = 0 then
    B_X11_eat_44 S t0 (0 : Int32) (S 392 3)
  else
    B_X11_eat_44 S t0 (1 : Int32) (S 392 3)
noncomputable def f_X11_eat (a1 : Int32) (S : Sg) : Option (Int32 × Sg) :=
  if (S 392 2) ≤ (S 392 3) then
    B_X11_eat_29 S (0 : Int32)
  else
    gck (inb (S 392 3) 100) (
    if (S 393 (S 392 3).toNatClampNeg) = a1 then
      B_X11_eat_29 S (1 : Int32)
    else
      B_X11_eat_29 S (0 : Int32))
noncomputable def f_X11_endRound (S : Sg) : Option (Int32 × Sg) :=
  gst (u2 S 392 0 (0 : Int32)) (fun S_1 =>
  gbv (f_X11_note S_1) (fun S_2 =>
  gbi (f_X11_endOn 395 S_2) (fun v_4 S_3 =>
  some ((((v_4 &&& (1 : Int32)) + ((v_4 >>> ((1 : Int32) &&& 31)) &&& (1 : Int32))) + ((v_4 >>> ((2 : Int32) &&& 31)) &&& (1 : Int32))) + ((v_4 >>> ((3 : Int32) &&& 31)) &&& (1 : Int32)), S_3))))
noncomputable def B_X11_readTrack_62 (S : Sg) (x1 : Int32) (x2 : Int32) (t0 : Int32) : Option (Int32 × Sg) :=
  if t0 = (-9 : Int32) then
    some ((0 : Int32), S)
  else
    gbv (f_X11_addTrack 394 x1 x2 t0 S) (fun S_1 =>
    some ((1 : Int32), S_1))
noncomputable def B_X11_readTrack_41 (S : Sg) (x1 : Int32) (t0 : Int32) : Option (Int32 × Sg) :=
  if t0 = (-9 : Int32) then
    B_X11_readTrack_62 S x1 t0 (-9 : Int32)
  else
    gbi (f_X11_digit (1 : Int32) (9 : Int32) (-9 : Int32) S) (fun v_3 S_2 =>
    B_X11_readTrack_62 S_2 x1 t0 v_3)
noncomputable def f_X11_readTrack (S : Sg) : Option (Int32 × Sg) :=
  gck (inb (0 : Int32) 175) (
  gbi (f_X11_digit (0 : Int32) ((S 394 (0 : Int32).toNatClampNeg) - (1 : Int32)) (-9 : Int32) S) (fun v_5 S_4 =>
  if v_5 = (-9 : Int32) then
    B_X11_readTrack_41 S_4 v_5 (-9 : Int32)
  else
    gck (inb (0 : Int32) 175) (
    gbi (f_X11_digit (0 : Int32) ((S_4 394 (0 : Int32).toNatClampNeg) - (1 : Int32)) v_5 S_4) (fun v_7 S_6 =>
    B_X11_readTrack_41 S_6 v_5 v_7))))
noncomputable def B_X11_readContract_114 (S : Sg) (x1 : Int32) (x2 : Int32) (x3 : Int32) (x4 : Int32) (t0 : Int32) : Option (Int32 × Sg) :=
  if t0 = (-9 : Int32) then
    some ((0 : Int32), S)
  else
    gbv (f_X11_addContract 394 x1 x2 (((10 : Int32) * x3) + x4) t0 S) (fun S_1 =>
    some ((1 : Int32), S_1))
noncomputable def B_X11_readContract_91 (S : Sg) (x1 : Int32) (x2 : Int32) (x3 : Int32) (t0 : Int32) : Option (Int32 × Sg) :=
  if t0 = (-9 : Int32) then
    B_X11_readContract_114 S x1 x2 x3 t0 (-9 : Int32)
  else
    gbi (f_X11_digit (1 : Int32) (9 : Int32) (-9 : Int32) S) (fun v_3 S_2 =>
    B_X11_readContract_114 S_2 x1 x2 x3 t0 v_3)
noncomputable def B_X11_readContract_84 (S : Sg) (x1 : Int32) (x2 : Int32) (x3 : Int32) (t0 : Int32) : Option (Int32 × Sg) :=
  gbi (f_X11_digit t0 (9 : Int32) (-9 : Int32) S) (fun v_5 S_4 =>
  B_X11_readContract_91 S_4 x1 x2 x3 v_5)
noncomputable def B_X11_readContract_62 (S : Sg) (x1 : Int32) (x2 : Int32) (t0 : Int32) : Option (Int32 × Sg) :=
  if t0 = (-9 : Int32) then
    B_X11_readContract_91 S x1 x2 t0 (-9 : Int32)
  else
    if t0 = 0 then
      B_X11_readContract_84 S x1 x2 t0 (1 : Int32)
    else
      B_X11_readContract_84 S x1 x2 t0 (0 : Int32)
noncomputable def B_X11_readContract_41 (S : Sg) (x1 : Int32) (t0 : Int32) : Option (Int32 × Sg) :=
  if t0 = (-9 : Int32) then
    B_X11_readContract_62 S x1 t0 (-9 : Int32)
  else
    gbi (f_X11_digit (0 : Int32) (9 : Int32) (-9 : Int32) S) (fun v_7 S_6 =>
    B_X11_readContract_62 S_6 x1 t0 v_7)
noncomputable def f_X11_readContract (S : Sg) : Option (Int32 × Sg) :=
  gck (inb (0 : Int32) 175) (
  gbi (f_X11_digit (0 : Int32) ((S 394 (0 : Int32).toNatClampNeg) - (1 : Int32)) (-9 : Int32) S) (fun v_9 S_8 =>
  if v_9 = (-9 : Int32) then
    B_X11_readContract_41 S_8 v_9 (-9 : Int32)
  else
    gck (inb (0 : Int32) 175) (
    gbi (f_X11_digit (0 : Int32) ((S_8 394 (0 : Int32).toNatClampNeg) - (1 : Int32)) v_9 S_8) (fun v_11 S_10 =>
    B_X11_readContract_41 S_10 v_9 v_11))))
noncomputable def B_X11_readAll_118 (K48 : Sg → Option (Int32 × Sg)) (S : Sg) (t0 : Int32) : Option (Int32 × Sg) :=
  if t0 = 0 then
    some ((0 : Int32), S)
  else
    K48 S
noncomputable def B_X11_readAll_86 (K48 : Sg → Option (Int32 × Sg)) (S : Sg) : Option (Int32 × Sg) :=
  gck (inb (2 : Int32) 175) (
  if (8 : Int32) ≤ (S 394 (2 : Int32).toNatClampNeg) then
    B_X11_readAll_118 K48 S (0 : Int32)
  else
    gbi (f_X11_eat (99 : Int32) S) (fun v_2 S_1 =>
    if v_2 = 0 then
      B_X11_readAll_118 K48 S_1 (0 : Int32)
    else
      gbi (f_X11_readContract S_1) (fun v_4 S_3 =>
      if v_4 = 0 then
        B_X11_readAll_118 K48 S_3 (0 : Int32)
      else
        B_X11_readAll_118 K48 S_3 (1 : Int32))))
noncomputable def Lb_X11_readAll_48 (K48 : Sg → Option (Int32 × Sg)) (S : Sg) : Option (Int32 × Sg) :=
  if (S 392 2) ≤ (S 392 3) then
    some ((1 : Int32), S)
  else
    gck (inb (1 : Int32) 175) (
    if (16 : Int32) ≤ (S 394 (1 : Int32).toNatClampNeg) then
      B_X11_readAll_86 K48 S
    else
      gbi (f_X11_eat (116 : Int32) S) (fun v_6 S_5 =>
      if v_6 = 0 then
        B_X11_readAll_86 K48 S_5
      else
        gbi (f_X11_readTrack S_5) (fun v_8 S_7 =>
        B_X11_readAll_118 K48 S_7 v_8)))
noncomputable def L_X11_readAll_48 : Nat → Sg → Option (Int32 × Sg)
  | 0 => fun _ => none
  | n + 1 => Lb_X11_readAll_48 (L_X11_readAll_48 n)
noncomputable def f_X11_readAll (S : Sg) : Option (Int32 × Sg) :=
  gst (u2 S 392 3 (0 : Int32)) (fun S_9 =>
  gbv (f_X11_begin 394 S_9) (fun S_10 =>
  gbi (f_X11_eat (82 : Int32) S_10) (fun v_12 S_11 =>
  if v_12 = 0 then
    some ((0 : Int32), S_11)
  else
    gbi (f_X11_digit (2 : Int32) (9 : Int32) (-9 : Int32) S_11) (fun v_14 S_13 =>
    if v_14 = (-9 : Int32) then
      some ((0 : Int32), S_13)
    else
      gck (inb (0 : Int32) 175) (
      gst (u2 S_13 394 (0 : Int32).toNatClampNeg v_14) (fun S_15 =>
      L_X11_readAll_48 gFu S_15))))))
noncomputable def f_X11_errorPosition (S : Sg) : Option (Int32 × Sg) :=
  gst (u2 S 392 0 (0 : Int32)) (fun S_1 =>
  gbi (f_X11_readAll S_1) (fun v_3 S_2 =>
  if v_3 = 0 then
    some (S_2 392 3, S_2)
  else
    some ((-9 : Int32), S_2)))
noncomputable def f_X11_isCity (a1 : Int32) (S : Sg) : Option (Int32 × Sg) :=
  gck (inb (0 : Int32) 175) (
  gbi (f_X11_in a1.toInt64 (0 : Int64) (((S 395 (0 : Int32).toNatClampNeg) - (1 : Int32)).toInt64) S) (fun v_2 S_1 =>
  gck (isb v_2) (some (v_2, S_1))))
noncomputable def Lb_X11_levelFor_34 (K34 : Sg → Int32 → Int32 → Int32 → Option (Int32 × Sg)) (S : Sg) (x1 : Int32) (x2 : Int32) (x3 : Int32) : Option (Int32 × Sg) :=
  if (6 : Int32) < x3 then
    some ((-9 : Int32), S)
  else
    gbi (f_X11_contractAt x2 S) (fun v_2 S_1 =>
    gck (inb v_2 175) (
    gbi (f_X11_contractAt x2 S_1) (fun v_4 S_3 =>
    gck (inb (v_4 + (1 : Int32)) 175) (
    gbi (f_X11_findWay 395 x1 (S_1 395 v_2.toNatClampNeg) (S_3 395 (v_4 + (1 : Int32)).toNatClampNeg) ((4 : Int32) * x3) S_3) (fun v_6 S_5 =>
    if v_6 = 0 then
      gvi (x3 + (1 : Int32)) (fun x3_7 =>
      K34 S_5 x1 x2 x3_7)
    else
      some (x3, S_5))))))
noncomputable def L_X11_levelFor_34 : Nat → Sg → Int32 → Int32 → Int32 → Option (Int32 × Sg)
  | 0 => fun _ _ _ _ => none
  | n + 1 => Lb_X11_levelFor_34 (L_X11_levelFor_34 n)
noncomputable def B_X11_levelFor_24 (S : Sg) (x1 : Int32) (x2 : Int32) (t0 : Int32) : Option (Int32 × Sg) :=
  gbi (f_X11_refused t0 S) (fun v_9 S_8 =>
  if v_9 = 0 then
    L_X11_levelFor_34 gFu S_8 x1 x2 (1 : Int32)
  else
    some ((0 : Int32), S_8))
noncomputable def f_X11_levelFor (a1 : Int32) (a2 : Int32) (S : Sg) : Option (Int32 × Sg) :=
  gbi (f_X11_isCompany a1 S) (fun v_11 S_10 =>
  if v_11 = 0 then
    B_X11_levelFor_24 S_10 a1 a2 (1 : Int32)
  else
    gbi (f_X11_isContract 395 a2 S_10) (fun v_13 S_12 =>
    if v_13 = 0 then
      B_X11_levelFor_24 S_12 a1 a2 (1 : Int32)
    else
      B_X11_levelFor_24 S_12 a1 a2 (0 : Int32)))
noncomputable def B_X11_load_13 (S : Sg) (t0 : Int32) : Option (Int32 × Sg) :=
  gbi (f_X11_refused t0 S) (fun v_2 S_1 =>
  if v_2 = 0 then
    gbv (f_X11_copyPage 394 175 395 175 (0 : Int32) (0 : Int32) S_1) (fun S_3 =>
    gst (u2 S_3 392 8 (0 : Int32)) (fun S_4 =>
    gck (inb (0 : Int32) 2) (
    gst (u2 S_4 399 (0 : Int32).toNatClampNeg (0 : Int32)) (fun S_5 =>
    gck (inb (1 : Int32) 2) (
    gst (u2 S_5 399 (1 : Int32).toNatClampNeg (0 : Int32)) (fun S_6 =>
    gck (inb (1 : Int32) 175) (
    some (S_6 395 (1 : Int32).toNatClampNeg, S_6))))))))
  else
    some ((0 : Int32), S_1))
noncomputable def f_X11_load (S : Sg) : Option (Int32 × Sg) :=
  gbi (f_X11_readAll S) (fun v_8 S_7 =>
  if v_8 = 0 then
    B_X11_load_13 S_7 (1 : Int32)
  else
    B_X11_load_13 S_7 (0 : Int32))
noncomputable def B_X11_offer_83 (S : Sg) (x1 : Int32) (x2 : Int32) (x3 : Int32) (x4 : Int32) (t0 : Int32) : Option (Int32 × Sg) :=
  gbi (f_X11_refused t0 S) (fun v_2 S_1 =>
  if v_2 = 0 then
    gbv (f_X11_note S_1) (fun S_3 =>
    gbv (f_X11_addContract 395 x1 x2 x3 x4 S_3) (fun S_4 =>
    gck (inb (2 : Int32) 175) (
    some ((S_4 395 (2 : Int32).toNatClampNeg) - (1 : Int32), S_4))))
  else
    some ((0 : Int32), S_1))
noncomputable def B_X11_offer_35 (S : Sg) (x1 : Int32) (x2 : Int32) (x3 : Int32) (x4 : Int32) (t0 : Int32) : Option (Int32 × Sg) :=
  gbi (f_X11_isCity x1 S) (fun v_6 S_5 =>
  if v_6 = 0 then
    B_X11_offer_83 S_5 x1 x2 x3 x4 (1 : Int32)
  else
    gbi (f_X11_isCity x2 S_5) (fun v_8 S_7 =>
    if v_8 = 0 then
      B_X11_offer_83 S_7 x1 x2 x3 x4 (1 : Int32)
    else
      if t0 = 0 then
        B_X11_offer_83 S_7 x1 x2 x3 x4 (2 : Int32)
      else
        gck (inb (2 : Int32) 175) (
        if (S_7 395 (2 : Int32).toNatClampNeg) = (8 : Int32) then
          B_X11_offer_83 S_7 x1 x2 x3 x4 (3 : Int32)
        else
          B_X11_offer_83 S_7 x1 x2 x3 x4 (0 : Int32))))
noncomputable def f_X11_offer (a1 : Int32) (a2 : Int32) (a3 : Int32) (a4 : Int32) (S : Sg) : Option (Int32 × Sg) :=
  if a1 = a2 then
    B_X11_offer_35 S a1 a2 a3 a4 (0 : Int32)
  else
    gbi (f_X11_in a3.toInt64 (1 : Int64) (99 : Int64) S) (fun v_10 S_9 =>
    if v_10 = 0 then
      B_X11_offer_35 S_9 a1 a2 a3 a4 (0 : Int32)
    else
      gbi (f_X11_in a4.toInt64 (1 : Int64) (9 : Int64) S_9) (fun v_12 S_11 =>
      if v_12 = 0 then
        B_X11_offer_35 S_11 a1 a2 a3 a4 (0 : Int32)
      else
        B_X11_offer_35 S_11 a1 a2 a3 a4 (1 : Int32)))
noncomputable def B_X11_restore_29 (S : Sg) (x1 : Int32) (t0 : Int32) : Option (Int32 × Sg) :=
  gbi (f_X11_refused t0 S) (fun v_2 S_1 =>
  if v_2 = 0 then
    gbv (f_X11_copyPage 398 350 395 175 ((175 : Int32) * x1) (0 : Int32) S_1) (fun S_3 =>
    gst (u2 S_3 392 8 (0 : Int32)) (fun S_4 =>
    gck (inb (4 : Int32) 175) (
    some (S_4 395 (4 : Int32).toNatClampNeg, S_4))))
  else
    some ((0 : Int32), S_1))
noncomputable def f_X11_restore (a1 : Int32) (S : Sg) : Option (Int32 × Sg) :=
  gbi (f_X11_in a1.toInt64 (0 : Int64) (1 : Int64) S) (fun v_6 S_5 =>
  if v_6 = 0 then
    B_X11_restore_29 S_5 a1 (1 : Int32)
  else
    gck (inb a1 2) (
    if (S_5 399 a1.toNatClampNeg) = 0 then
      B_X11_restore_29 S_5 a1 (2 : Int32)
    else
      B_X11_restore_29 S_5 a1 (0 : Int32)))
noncomputable def B_X11_run_35 (S : Sg) (x1 : Int32) (x2 : Int32) (t0 : Int32) : Option (Int32 × Sg) :=
  gbi (f_X11_refused t0 S) (fun v_2 S_1 =>
  if v_2 = 0 then
    gbv (f_X11_note S_1) (fun S_3 =>
    gbi (f_X11_runOn 395 x1 x2 S_3) (fun v_5 S_4 =>
    some (v_5, S_4)))
  else
    some ((0 : Int32), S_1))
noncomputable def f_X11_run (a1 : Int32) (a2 : Int32) (S : Sg) : Option (Int32 × Sg) :=
  gbi (f_X11_isRun 395 a1 a2 S) (fun v_7 S_6 =>
  if v_7 = 0 then
    B_X11_run_35 S_6 a1 a2 (1 : Int32)
  else
    gbi (f_X11_why 395 a1 a2 S_6) (fun v_9 S_8 =>
    if v_9 = 0 then
      B_X11_run_35 S_8 a1 a2 (0 : Int32)
    else
      B_X11_run_35 S_8 a1 a2 (2 : Int32)))
noncomputable def Lb_X11_runAll_41 (k1 : Nat) (K2 : Sg → Int32 → Option Sg) (K41 : Sg → Int32 → Int32 → Int32 → Int32 → Option Sg) (S : Sg) (x2 : Int32) (x4 : Int32) (x5 : Int32) (x6 : Int32) : Option Sg :=
  if x4 ≤ x6 then
    gvi (x2 + (1 : Int32)) (fun x2_1 =>
    K2 S x2_1)
  else
    if x5 = 0 then
      gbi (f_X11_why k1 x2 x6 S) (fun v_4 S_3 =>
      if v_4 = 0 then
        gbi (f_X11_runOn k1 x2 x6 S_3) (fun v_7 S_6 =>
        gvi (x6 + (1 : Int32)) (fun x6_8 =>
        K41 S_6 x2 x4 (1 : Int32) x6_8))
      else
        gvi (x6 + (1 : Int32)) (fun x6_5 =>
        K41 S_3 x2 x4 x5 x6_5))
    else
      gvi (x2 + (1 : Int32)) (fun x2_2 =>
      K2 S x2_2)
noncomputable def L_X11_runAll_41 (k1 : Nat) (K2 : Sg → Int32 → Option Sg) : Nat → Sg → Int32 → Int32 → Int32 → Int32 → Option Sg
  | 0 => fun _ _ _ _ _ => none
  | n + 1 => Lb_X11_runAll_41 k1 K2 (L_X11_runAll_41 k1 K2 n)
noncomputable def Lb_X11_runAll_2 (k1 : Nat) (K2 : Sg → Int32 → Option Sg) (S : Sg) (x2 : Int32) : Option Sg :=
  gck (inb (2 : Int32) 175) (
  if (S k1 (2 : Int32).toNatClampNeg) ≤ x2 then
    some S
  else
    gbi (f_X11_contractAt x2 S) (fun v_10 S_9 =>
    gck (inb (v_10 + (4 : Int32)) 175) (
    gvi (S_9 k1 (v_10 + (4 : Int32)).toNatClampNeg) (fun x3_11 =>
    if x3_11 = (-9 : Int32) then
      L_X11_runAll_41 k1 K2 gFu S_9 x2 (0 : Int32) (0 : Int32) (0 : Int32)
    else
      gbi (f_X11_trainsOf k1 x3_11 S_9) (fun v_13 S_12 =>
      L_X11_runAll_41 k1 K2 gFu S_12 x2 v_13 (0 : Int32) (0 : Int32))))))
noncomputable def L_X11_runAll_2 (k1 : Nat) : Nat → Sg → Int32 → Option Sg
  | 0 => fun _ _ => none
  | n + 1 => Lb_X11_runAll_2 k1 (L_X11_runAll_2 k1 n)
noncomputable def f_X11_runAll (k1 : Nat) (S : Sg) : Option Sg :=
  L_X11_runAll_2 k1 gFu S (0 : Int32)
noncomputable def Lb_X11_runScript_84 (K84 : Sg → Int32 → Int64 → Int64 → Int32 → Option (Int32 × Sg)) (S : Sg) (x1 : Int32) (x4 : Int64) (x6 : Int64) (x8 : Int32) : Option (Int32 × Sg) :=
  if x1 ≤ x8 then
    some ((-9 : Int32), S)
  else
    gvl (x4 / (100000 : Int64)) (fun x4_1 =>
    gck (!decide (x4_1 = 0)) (
    gvi ((x6 / x4_1).toInt32) (fun x9_2 =>
    gck (!decide (x4_1 = 0)) (
    gvl (x6 - x6 / x4_1 * x4_1) (fun x6_3 =>
    gbi (f_X11_does (x9_2 / (10000 : Int32)) ((x9_2 / (1000 : Int32)) - (x9_2 / (1000 : Int32)) / (10 : Int32) * (10 : Int32)) (x9_2 - x9_2 / (1000 : Int32) * (1000 : Int32)) S) (fun v_5 S_4 =>
    if v_5 = 0 then
      some (x8, S_4)
    else
      gvi (x8 + (1 : Int32)) (fun x8_6 =>
      K84 S_4 x1 x4_1 x6_3 x8_6)))))))
noncomputable def L_X11_runScript_84 : Nat → Sg → Int32 → Int64 → Int64 → Int32 → Option (Int32 × Sg)
  | 0 => fun _ _ _ _ _ => none
  | n + 1 => Lb_X11_runScript_84 (L_X11_runScript_84 n)
noncomputable def B_X11_runScript_57 (S : Sg) (x1 : Int32) (x2 : Int64) (x4 : Int64) (t0 : Int32) : Option (Int32 × Sg) :=
  gbi (f_X11_refused t0 S) (fun v_8 S_7 =>
  if v_8 = 0 then
    gbv (f_X11_copyPage 395 175 396 175 (0 : Int32) (0 : Int32) S_7) (fun S_9 =>
    L_X11_runScript_84 gFu S_9 x1 x4 x2 (0 : Int32))
  else
    some ((0 : Int32), S_7))
noncomputable def B_X11_runScript_25 (S : Sg) (x1 : Int32) (x2 : Int64) (t0 : Int64) : Option (Int32 × Sg) :=
  gbi (f_X11_in x1.toInt64 (1 : Int64) (3 : Int64) S) (fun v_11 S_10 =>
  if v_11 = 0 then
    B_X11_runScript_57 S_10 x1 x2 t0 (1 : Int32)
  else
    gbi (f_X11_in x2 (0 : Int64) (t0 - (1 : Int64)) S_10) (fun v_13 S_12 =>
    if v_13 = 0 then
      B_X11_runScript_57 S_12 x1 x2 t0 (1 : Int32)
    else
      B_X11_runScript_57 S_12 x1 x2 t0 (0 : Int32)))
noncomputable def f_X11_runScript (a1 : Int32) (a2 : Int64) (S : Sg) : Option (Int32 × Sg) :=
  if a1 = (1 : Int32) then
    B_X11_runScript_25 S a1 a2 (100000 : Int64)
  else
    if a1 = (2 : Int32) then
      B_X11_runScript_25 S a1 a2 (10000000000 : Int64)
    else
      B_X11_runScript_25 S a1 a2 (1000000000000000 : Int64)
noncomputable def B_X11_save_16 (S : Sg) (x1 : Int32) (t0 : Int32) : Option (Int32 × Sg) :=
  gbi (f_X11_refused t0 S) (fun v_2 S_1 =>
  if v_2 = 0 then
    gck (inb x1 2) (
    gst (u2 S_1 399 x1.toNatClampNeg (1 : Int32)) (fun S_3 =>
    gbv (f_X11_copyPage 395 175 398 350 (0 : Int32) ((175 : Int32) * x1) S_3) (fun S_4 =>
    gck (inb (4 : Int32) 175) (
    some (S_4 395 (4 : Int32).toNatClampNeg, S_4)))))
  else
    some ((0 : Int32), S_1))
noncomputable def f_X11_save (a1 : Int32) (S : Sg) : Option (Int32 × Sg) :=
  gbi (f_X11_in a1.toInt64 (0 : Int64) (1 : Int64) S) (fun v_6 S_5 =>
  if v_6 = 0 then
    B_X11_save_16 S_5 a1 (1 : Int32)
  else
    B_X11_save_16 S_5 a1 (0 : Int32))
noncomputable def B_X11_setRent_29 (S : Sg) (x1 : Int32) (x2 : Int32) (t0 : Int32) : Option (Int32 × Sg) :=
  gbi (f_X11_refused t0 S) (fun v_2 S_1 =>
  if v_2 = 0 then
    gbv (f_X11_note S_1) (fun S_3 =>
    gbi (f_X11_companyAt x1 S_3) (fun v_5 S_4 =>
    gck (inb (v_5 + (1 : Int32)) 175) (
    gvi (S_4 395 (v_5 + (1 : Int32)).toNatClampNeg) (fun x3_6 =>
    gbi (f_X11_companyAt x1 S_4) (fun v_8 S_7 =>
    gck (inb (v_8 + (1 : Int32)) 175) (
    gst (u2 S_7 395 (v_8 + (1 : Int32)).toNatClampNeg x2) (fun S_9 =>
    some (x3_6, S_9))))))))
  else
    some ((0 : Int32), S_1))
noncomputable def f_X11_setRent (a1 : Int32) (a2 : Int32) (S : Sg) : Option (Int32 × Sg) :=
  gbi (f_X11_isCompany a1 S) (fun v_11 S_10 =>
  if v_11 = 0 then
    B_X11_setRent_29 S_10 a1 a2 (1 : Int32)
  else
    gbi (f_X11_in a2.toInt64 (0 : Int64) (9 : Int64) S_10) (fun v_13 S_12 =>
    if v_13 = 0 then
      B_X11_setRent_29 S_12 a1 a2 (2 : Int32)
    else
      B_X11_setRent_29 S_12 a1 a2 (0 : Int32)))
noncomputable def f_X11_worthOf (k0 : Nat) (a1 : Int32) (S : Sg) : Option (Int32 × Sg) :=
  gbi (f_X11_companyAt a1 S) (fun v_2 S_1 =>
  gck (inb v_2 175) (
  gbi (f_X11_tracksOf k0 a1 (1 : Int32) S_1) (fun v_4 S_3 =>
  gbi (f_X11_levelsOf k0 a1 S_3) (fun v_6 S_5 =>
  some (((S_1 k0 v_2.toNatClampNeg) + ((3 : Int32) * v_4)) + ((10 : Int32) * v_6), S_5)))))
noncomputable def Lb_X11_simulate_286 (K286 : Sg → Int32 → Int32 → Option (Int32 × Sg)) (S : Sg) (x6 : Int32) (x7 : Int32) : Option (Int32 × Sg) :=
  if (4 : Int32) ≤ x7 then
    gck (inb (3 : Int32) 175) (
    some (x6 + ((10000 : Int32) * (S 396 (3 : Int32).toNatClampNeg)), S))
  else
    gbi (f_X11_worthOf 396 x7 S) (fun v_2 S_1 =>
    if v_2 ≤ x6 then
      gvi (x7 + (1 : Int32)) (fun x7_3 =>
      K286 S_1 x6 x7_3)
    else
      gbi (f_X11_worthOf 396 x7 S_1) (fun v_5 S_4 =>
      gvi (x7 + (1 : Int32)) (fun x7_6 =>
      K286 S_4 v_5 x7_6)))
noncomputable def L_X11_simulate_286 : Nat → Sg → Int32 → Int32 → Option (Int32 × Sg)
  | 0 => fun _ _ _ => none
  | n + 1 => Lb_X11_simulate_286 (L_X11_simulate_286 n)
noncomputable def B_X11_simulate_251 (K45 : Sg → Int32 → Int64 → Int32 → Option (Int32 × Sg)) (S : Sg) (x3 : Int32) (x4 : Int64) (x6 : Int32) : Option (Int32 × Sg) :=
  gbv (f_X11_runAll 396 S) (fun S_7 =>
  gbi (f_X11_endOn 396 S_7) (fun v_9 S_8 =>
  gvi (x6 + (1 : Int32)) (fun x6_10 =>
  K45 S_8 x3 x4 x6_10)))
noncomputable def B_X11_simulate_195 (K45 : Sg → Int32 → Int64 → Int32 → Option (Int32 × Sg)) (S : Sg) (x3 : Int32) (x4 : Int64) (x6 : Int32) (x7 : Int32) (x8 : Int32) (x9 : Int32) : Option (Int32 × Sg) :=
  if (x7 - x7 / (8 : Int32) * (8 : Int32)) = (2 : Int32) then
    gck (inb (2 : Int32) 175) (
    if (S 396 (2 : Int32).toNatClampNeg) ≤ 0 then
      B_X11_simulate_251 K45 S x3 x4 x6
    else
      gck (inb (2 : Int32) 175) (
      gck (!decide (S 396 (2 : Int32).toNatClampNeg = 0)) (
      gbi (f_X11_canTake 396 (x9 - x9 / (S 396 (2 : Int32).toNatClampNeg) * (S 396 (2 : Int32).toNatClampNeg)) S) (fun v_12 S_11 =>
      if v_12 = 0 then
        B_X11_simulate_251 K45 S_11 x3 x4 x6
      else
        gck (inb (2 : Int32) 175) (
        gck (!decide (S_11 396 (2 : Int32).toNatClampNeg = 0)) (
        gbi (f_X11_takeOn 396 x8 (x9 - x9 / (S_11 396 (2 : Int32).toNatClampNeg) * (S_11 396 (2 : Int32).toNatClampNeg)) S_11) (fun v_14 S_13 =>
        B_X11_simulate_251 K45 S_13 x3 x4 x6)))))))
  else
    B_X11_simulate_251 K45 S x3 x4 x6
noncomputable def B_X11_simulate_134 (K45 : Sg → Int32 → Int64 → Int32 → Option (Int32 × Sg)) (S : Sg) (x3 : Int32) (x4 : Int64) (x6 : Int32) (x7 : Int32) (x8 : Int32) (x9 : Int32) : Option (Int32 × Sg) :=
  if (x7 - x7 / (8 : Int32) * (8 : Int32)) = (1 : Int32) then
    gck (inb (1 : Int32) 175) (
    if (S 396 (1 : Int32).toNatClampNeg) ≤ 0 then
      B_X11_simulate_195 K45 S x3 x4 x6 x7 x8 x9
    else
      gck (inb (1 : Int32) 175) (
      gck (!decide (S 396 (1 : Int32).toNatClampNeg = 0)) (
      gbi (f_X11_canBuyTrack 396 x8 (x9 - x9 / (S 396 (1 : Int32).toNatClampNeg) * (S 396 (1 : Int32).toNatClampNeg)) S) (fun v_16 S_15 =>
      if v_16 = 0 then
        B_X11_simulate_195 K45 S_15 x3 x4 x6 x7 x8 x9
      else
        gck (inb (1 : Int32) 175) (
        gck (!decide (S_15 396 (1 : Int32).toNatClampNeg = 0)) (
        gbi (f_X11_buyTrackOn 396 x8 (x9 - x9 / (S_15 396 (1 : Int32).toNatClampNeg) * (S_15 396 (1 : Int32).toNatClampNeg)) S_15) (fun v_18 S_17 =>
        B_X11_simulate_251 K45 S_17 x3 x4 x6)))))))
  else
    B_X11_simulate_195 K45 S x3 x4 x6 x7 x8 x9
noncomputable def Lb_X11_simulate_45 (K45 : Sg → Int32 → Int64 → Int32 → Option (Int32 × Sg)) (S : Sg) (x3 : Int32) (x4 : Int64) (x6 : Int32) : Option (Int32 × Sg) :=
  if x3 ≤ x6 then
    gbi (f_X11_worthOf 396 (0 : Int32) S) (fun v_20 S_19 =>
    L_X11_simulate_286 gFu S_19 v_20 (1 : Int32))
  else
    gvl ((x4 * (6364136223846793005 : Int64)) + (1442695040888963407 : Int64)) (fun x4_21 =>
    gvi (((x4_21.toUInt64 >>> ((33 : Int32).toInt64.toUInt64 &&& Int64.toUInt64 63)).toInt64).toInt32) (fun x7_22 =>
    gvi ((x7_22 / (8 : Int32)) - (x7_22 / (8 : Int32)) / (4 : Int32) * (4 : Int32)) (fun x8_23 =>
    gvi (x7_22 / (32 : Int32)) (fun x9_24 =>
    if (x7_22 - x7_22 / (8 : Int32) * (8 : Int32)) = 0 then
      gbi (f_X11_canBuyTrain 396 x8_23 ((1 : Int32) + (x9_24 - x9_24 / (6 : Int32) * (6 : Int32))) S) (fun v_26 S_25 =>
      if v_26 = 0 then
        B_X11_simulate_134 K45 S_25 x3 x4_21 x6 x7_22 x8_23 x9_24
      else
        gbi (f_X11_buyTrainOn 396 x8_23 ((1 : Int32) + (x9_24 - x9_24 / (6 : Int32) * (6 : Int32))) S_25) (fun v_28 S_27 =>
        B_X11_simulate_251 K45 S_27 x3 x4_21 x6))
    else
      B_X11_simulate_134 K45 S x3 x4_21 x6 x7_22 x8_23 x9_24))))
noncomputable def L_X11_simulate_45 : Nat → Sg → Int32 → Int64 → Int32 → Option (Int32 × Sg)
  | 0 => fun _ _ _ _ => none
  | n + 1 => Lb_X11_simulate_45 (L_X11_simulate_45 n)
noncomputable def B_X11_simulate_18 (S : Sg) (x1 : Int64) (x3 : Int32) (t0 : Int32) : Option (Int32 × Sg) :=
  gbi (f_X11_refused t0 S) (fun v_30 S_29 =>
  if v_30 = 0 then
    gbv (f_X11_copyPage 395 175 396 175 (0 : Int32) (0 : Int32) S_29) (fun S_31 =>
    L_X11_simulate_45 gFu S_31 x3 x1 (0 : Int32))
  else
    some ((0 : Int32), S_29))
noncomputable def f_X11_simulate (a1 : Int64) (a3 : Int32) (S : Sg) : Option (Int32 × Sg) :=
  gbi (f_X11_in a3.toInt64 (1 : Int64) (50 : Int64) S) (fun v_33 S_32 =>
  if v_33 = 0 then
    B_X11_simulate_18 S_32 a1 a3 (1 : Int32)
  else
    B_X11_simulate_18 S_32 a1 a3 (0 : Int32))
noncomputable def B_X11_take_39 (S : Sg) (x1 : Int32) (x2 : Int32) (t0 : Int32) : Option (Int32 × Sg) :=
  gbi (f_X11_refused t0 S) (fun v_2 S_1 =>
  if v_2 = 0 then
    gbv (f_X11_note S_1) (fun S_3 =>
    gbi (f_X11_takeOn 395 x1 x2 S_3) (fun v_5 S_4 =>
    some (v_5, S_4)))
  else
    some ((0 : Int32), S_1))
noncomputable def f_X11_take (a1 : Int32) (a2 : Int32) (S : Sg) : Option (Int32 × Sg) :=
  gbi (f_X11_isCompany a1 S) (fun v_7 S_6 =>
  if v_7 = 0 then
    B_X11_take_39 S_6 a1 a2 (1 : Int32)
  else
    gbi (f_X11_isContract 395 a2 S_6) (fun v_9 S_8 =>
    if v_9 = 0 then
      B_X11_take_39 S_8 a1 a2 (1 : Int32)
    else
      gbi (f_X11_canTake 395 a2 S_8) (fun v_11 S_10 =>
      if v_11 = 0 then
        B_X11_take_39 S_10 a1 a2 (2 : Int32)
      else
        B_X11_take_39 S_10 a1 a2 (0 : Int32))))
noncomputable def f_X11_thrown (S : Sg) : Option (Int32 × Sg) :=
  some (S 392 0, S)
noncomputable def B_X11_track_33 (S : Sg) (x1 : Int32) (x2 : Int32) (t0 : Int32) : Option (Int32 × Sg) :=
  gbi (f_X11_refused t0 S) (fun v_2 S_1 =>
  if v_2 = 0 then
    gbi (f_X11_trackAt x1 S_1) (fun v_4 S_3 =>
    gck (inb (v_4 + x2) 175) (
    some (S_3 395 (v_4 + x2).toNatClampNeg, S_3)))
  else
    some ((0 : Int32), S_1))
noncomputable def f_X11_track (a1 : Int32) (a2 : Int32) (S : Sg) : Option (Int32 × Sg) :=
  gbi (f_X11_isTrack 395 a1 S) (fun v_6 S_5 =>
  if v_6 = 0 then
    B_X11_track_33 S_5 a1 a2 (1 : Int32)
  else
    gbi (f_X11_in a2.toInt64 (0 : Int64) (3 : Int64) S_5) (fun v_8 S_7 =>
    if v_8 = 0 then
      B_X11_track_33 S_7 a1 a2 (2 : Int32)
    else
      B_X11_track_33 S_7 a1 a2 (0 : Int32)))
noncomputable def B_X11_train_39 (S : Sg) (x1 : Int32) (x2 : Int32) (x3 : Int32) (t0 : Int32) : Option (Int32 × Sg) :=
  gbi (f_X11_refused t0 S) (fun v_2 S_1 =>
  if v_2 = 0 then
    gbi (f_X11_trainAt x1 x2 S_1) (fun v_4 S_3 =>
    gck (inb (v_4 + x3) 175) (
    some (S_3 395 (v_4 + x3).toNatClampNeg, S_3)))
  else
    some ((0 : Int32), S_1))
noncomputable def f_X11_train (a1 : Int32) (a2 : Int32) (a3 : Int32) (S : Sg) : Option (Int32 × Sg) :=
  gbi (f_X11_isCompany a1 S) (fun v_6 S_5 =>
  if v_6 = 0 then
    B_X11_train_39 S_5 a1 a2 a3 (1 : Int32)
  else
    gbi (f_X11_isTrain 395 a1 a2 S_5) (fun v_8 S_7 =>
    if v_8 = 0 then
      B_X11_train_39 S_7 a1 a2 a3 (1 : Int32)
    else
      gbi (f_X11_in a3.toInt64 (0 : Int64) (1 : Int64) S_7) (fun v_10 S_9 =>
      if v_10 = 0 then
        B_X11_train_39 S_9 a1 a2 a3 (2 : Int32)
      else
        B_X11_train_39 S_9 a1 a2 a3 (0 : Int32))))
noncomputable def B_X11_undo_13 (S : Sg) (t0 : Int32) : Option (Int32 × Sg) :=
  gbi (f_X11_refused t0 S) (fun v_2 S_1 =>
  if v_2 = 0 then
    gst (u2 S_1 392 8 ((S_1 392 8) - (1 : Int32))) (fun S_3 =>
    gbv (f_X11_copyPage 397 2450 395 175 ((175 : Int32) * (S_3 392 8)) (0 : Int32) S_3) (fun S_4 =>
    some (S_4 392 8, S_4)))
  else
    some ((0 : Int32), S_1))
noncomputable def f_X11_undo (S : Sg) : Option (Int32 × Sg) :=
  if (S 392 8) = 0 then
    B_X11_undo_13 S (1 : Int32)
  else
    B_X11_undo_13 S (0 : Int32)
noncomputable def B_X11_way_76 (S : Sg) (x1 : Int32) (x2 : Int32) (x3 : Int32) (x4 : Int32) (x5 : Int32) (t0 : Int32) : Option (Int32 × Sg) :=
  gbi (f_X11_refused t0 S) (fun v_2 S_1 =>
  if v_2 = 0 then
    gbi (f_X11_findWay 395 x1 x2 x3 x4 S_1) (fun v_4 S_3 =>
    if v_4 = 0 then
      some ((-9 : Int32), S_3)
    else
      if x5 = 0 then
        some (S_3 392 12, S_3)
      else
        if x5 = (1 : Int32) then
          some (S_3 392 13, S_3)
        else
          if x5 = (2 : Int32) then
            some (S_3 392 15, S_3)
          else
            gck (inb (0 : Int32) 24) (
            some (S_3 401 (0 : Int32).toNatClampNeg, S_3)))
  else
    some ((0 : Int32), S_1))
noncomputable def B_X11_way_36 (S : Sg) (x1 : Int32) (x2 : Int32) (x3 : Int32) (x4 : Int32) (x5 : Int32) (t0 : Int32) : Option (Int32 × Sg) :=
  gbi (f_X11_isCompany x1 S) (fun v_6 S_5 =>
  if v_6 = 0 then
    B_X11_way_76 S_5 x1 x2 x3 x4 x5 (1 : Int32)
  else
    gbi (f_X11_isCity x2 S_5) (fun v_8 S_7 =>
    if v_8 = 0 then
      B_X11_way_76 S_7 x1 x2 x3 x4 x5 (1 : Int32)
    else
      gbi (f_X11_isCity x3 S_7) (fun v_10 S_9 =>
      if v_10 = 0 then
        B_X11_way_76 S_9 x1 x2 x3 x4 x5 (1 : Int32)
      else
        if t0 = 0 then
          B_X11_way_76 S_9 x1 x2 x3 x4 x5 (2 : Int32)
        else
          B_X11_way_76 S_9 x1 x2 x3 x4 x5 (0 : Int32))))
noncomputable def f_X11_way (a1 : Int32) (a2 : Int32) (a3 : Int32) (a4 : Int32) (a5 : Int32) (S : Sg) : Option (Int32 × Sg) :=
  if a2 = a3 then
    B_X11_way_36 S a1 a2 a3 a4 a5 (0 : Int32)
  else
    gbi (f_X11_in a4.toInt64 (1 : Int64) (24 : Int64) S) (fun v_12 S_11 =>
    if v_12 = 0 then
      B_X11_way_36 S_11 a1 a2 a3 a4 a5 (0 : Int32)
    else
      gbi (f_X11_in a5.toInt64 (0 : Int64) (3 : Int64) S_11) (fun v_14 S_13 =>
      if v_14 = 0 then
        B_X11_way_36 S_13 a1 a2 a3 a4 a5 (0 : Int32)
      else
        B_X11_way_36 S_13 a1 a2 a3 a4 a5 (1 : Int32)))
noncomputable def B_X11_whyNot_18 (S : Sg) (x1 : Int32) (x2 : Int32) (t0 : Int32) : Option (Int32 × Sg) :=
  gbi (f_X11_refused t0 S) (fun v_2 S_1 =>
  if v_2 = 0 then
    gbi (f_X11_why 395 x1 x2 S_1) (fun v_4 S_3 =>
    some (v_4, S_3))
  else
    some ((0 : Int32), S_1))
noncomputable def f_X11_whyNot (a1 : Int32) (a2 : Int32) (S : Sg) : Option (Int32 × Sg) :=
  gbi (f_X11_isRun 395 a1 a2 S) (fun v_6 S_5 =>
  if v_6 = 0 then
    B_X11_whyNot_18 S_5 a1 a2 (1 : Int32)
  else
    B_X11_whyNot_18 S_5 a1 a2 (0 : Int32))
noncomputable def B_X11_worth_13 (S : Sg) (x1 : Int32) (t0 : Int32) : Option (Int32 × Sg) :=
  gbi (f_X11_refused t0 S) (fun v_2 S_1 =>
  if v_2 = 0 then
    gbi (f_X11_worthOf 395 x1 S_1) (fun v_4 S_3 =>
    some (v_4, S_3))
  else
    some ((0 : Int32), S_1))
noncomputable def f_X11_worth (a1 : Int32) (S : Sg) : Option (Int32 × Sg) :=
  gbi (f_X11_isCompany a1 S) (fun v_6 S_5 =>
  if v_6 = 0 then
    B_X11_worth_13 S_5 a1 (1 : Int32)
  else
    B_X11_worth_13 S_5 a1 (0 : Int32))
