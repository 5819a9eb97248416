noncomputable def f_X10_about (a1 : Int32) (S : Sg) : Option (Nat × Int32 × Sg) :=
  if a1 = (0 : Int32) then
    some (0, S 14 3, S)
  else
  if a1 = (1 : Int32) then
    some (0, S (14 + 1) 4, S)
  else
  if a1 = (2 : Int32) then
    some (0, S (14 + 2) 6, S)
  else
  if a1 = (3 : Int32) then
    some (0, S 14 4, S)
  else
  if a1 = (4 : Int32) then
    some (0, S 14 5, S)
  else
  if a1 = (5 : Int32) then
    gbi (f_X10_at (14 + 14) 5 (4 : Int32) S) (fun v_7 S_6 =>
    some (0, v_7, S_6))
  else
  if a1 = (6 : Int32) then
    gbi (f_X10_sum (14 + 16) 5 S) (fun v_10 S_9 =>
    some (0, v_10, S_9))
  else
  if a1 = (7 : Int32) then
    some (0, S 14 6, S)
  else
  if a1 = (8 : Int32) then
    some (0, S 14 7, S)
  else
  if a1 = (9 : Int32) then
    gbi (f_X10_sum (14 + 17) 4 S) (fun v_15 S_14 =>
    some (0, v_15, S_14))
  else
  if a1 = (10 : Int32) then
    some (0, S 14 8, S)
  else
    some (2, (0 : Int32), S)
noncomputable def B_X10_needRange_10 (S : Sg) : Option (Nat × Int32 × Sg) :=
  some (2, (0 : Int32), S)
noncomputable def f_X10_needRange (a0 : Int32) (a1 : Int32) (a2 : Int32) (S : Sg) : Option (Nat × Int32 × Sg) :=
  if a0 < a1 then
    B_X10_needRange_10 S
  else
    if a0 ≤ a2 then
      some (0, (0 : Int32), S)
    else
      B_X10_needRange_10 S
noncomputable def f_X10_append (a1 : Int32) (S : Sg) : Option (Nat × Int32 × Sg) :=
  gbx (f_X10_needRange a1 (0 : Int32) (255 : Int32) S) (fun v_2 S_1 =>
  gbi (f_X2_isFull S_1) (fun v_4 S_3 =>
  if v_4 = 0 then
    gbi (f_X2_add a1 S_3) (fun v_6 S_5 =>
    some (0, v_6, S_5))
  else
    some (3, (0 : Int32), S_3)))
noncomputable def f_X10_needIndex (a0 : Int32) (S : Sg) : Option (Nat × Int32 × Sg) :=
  if a0 = 0 then
    some (1, (0 : Int32), S)
  else
    some (0, (0 : Int32), S)
noncomputable def f_X10_needCompany (a0 : Int32) (S : Sg) : Option (Nat × Int32 × Sg) :=
  gbi (f_X10_isCompany a0 S) (fun v_2 S_1 =>
  gbx (f_X10_needIndex v_2 S_1) (fun v_4 S_3 =>
  some (0, (0 : Int32), S_3)))
noncomputable def Lb_X10_bankruptAfter_32 (K32 : Sg → Int32 → Int32 → Int32 → Option (Nat × Int32 × Sg)) (S : Sg) (x1 : Int32) (x2 : Int32) (x3 : Int32) : Option (Nat × Int32 × Sg) :=
  if (50 : Int32) < x3 then
    some (0, (-9 : Int32), S)
  else
    gbi (f_X7_closeRound 35 S) (fun v_2 S_1 =>
    gbi (f_X10_at (35 + 17) 4 x1 S_1) (fun v_4 S_3 =>
    if v_4 ≤ x2 then
      gvi (x3 + (1 : Int32)) (fun x3_5 =>
      K32 S_3 x1 x2 x3_5)
    else
      some (0, x3, S_3)))
noncomputable def L_X10_bankruptAfter_32 : Nat → Sg → Int32 → Int32 → Int32 → Option (Nat × Int32 × Sg)
  | 0 => fun _ _ _ _ => none
  | n + 1 => Lb_X10_bankruptAfter_32 (L_X10_bankruptAfter_32 n)
noncomputable def f_X10_bankruptAfter (a1 : Int32) (S : Sg) : Option (Nat × Int32 × Sg) :=
  gbx (f_X10_needCompany a1 S) (fun v_7 S_6 =>
  gbv (f_X7_copyFrom 35 14 S_6) (fun S_8 =>
  gbi (f_X10_at (14 + 17) 4 a1 S_8) (fun v_10 S_9 =>
  L_X10_bankruptAfter_32 gFu S_9 a1 v_10 (1 : Int32))))
noncomputable def f_X10_bestContract (a1 : Int32) (S : Sg) : Option (Nat × Int32 × Sg) :=
  gbx (f_X10_needCompany a1 S) (fun v_2 S_1 =>
  gbi (f_X4_bestFree 14 a1 S_1) (fun v_4 S_3 =>
  some (0, v_4, S_3)))
noncomputable def f_X10_needTrack (a1 : Int32) (S : Sg) : Option (Nat × Int32 × Sg) :=
  gbi (f_X8_has 14 a1 S) (fun v_2 S_1 =>
  gbx (f_X10_needIndex v_2 S_1) (fun v_4 S_3 =>
  some (0, (0 : Int32), S_3)))
noncomputable def f_X10_needAllowed (a0 : Int32) (S : Sg) : Option (Nat × Int32 × Sg) :=
  if a0 = 0 then
    some (3, (0 : Int32), S)
  else
    some (0, (0 : Int32), S)
noncomputable def f_X10_buyTrack (a1 : Int32) (a2 : Int32) (S : Sg) : Option (Nat × Int32 × Sg) :=
  gbx (f_X10_needCompany a1 S) (fun v_2 S_1 =>
  gbx (f_X10_needTrack a2 S_1) (fun v_4 S_3 =>
  gbi (f_X7_maySellTrack 14 a1 a2 S_3) (fun v_6 S_5 =>
  gbx (f_X10_needAllowed v_6 S_5) (fun v_8 S_7 =>
  gbv (f_X3_remember 14 S_7) (fun S_9 =>
  gbv (f_X7_sellTrack 14 a1 a2 S_9) (fun S_10 =>
  gbi (f_X10_at (14 + 14) 5 a1 S_10) (fun v_12 S_11 =>
  some (0, v_12, S_11))))))))
noncomputable def f_X10_buyTrain (a1 : Int32) (a2 : Int32) (S : Sg) : Option (Nat × Int32 × Sg) :=
  gbx (f_X10_needCompany a1 S) (fun v_2 S_1 =>
  gbx (f_X10_needRange a2 (1 : Int32) (6 : Int32) S_1) (fun v_4 S_3 =>
  gbi (f_X7_maySellTrain 14 a1 a2 S_3) (fun v_6 S_5 =>
  gbx (f_X10_needAllowed v_6 S_5) (fun v_8 S_7 =>
  gbv (f_X3_remember 14 S_7) (fun S_9 =>
  gbi (f_X7_sellTrain 14 a1 a2 S_9) (fun v_11 S_10 =>
  some (0, v_11, S_10)))))))
noncomputable def Lb_X10_coinsAfter_24 (K24 : Sg → Int32 → Int32 → Int32 → Option (Nat × Int32 × Sg)) (S : Sg) (x1 : Int32) (x2 : Int32) (x3 : Int32) : Option (Nat × Int32 × Sg) :=
  if x2 ≤ x3 then
    gbi (f_X10_at (35 + 14) 5 x1 S) (fun v_2 S_1 =>
    some (0, v_2, S_1))
  else
    gbi (f_X7_closeRound 35 S) (fun v_4 S_3 =>
    gvi (x3 + (1 : Int32)) (fun x3_5 =>
    K24 S_3 x1 x2 x3_5))
noncomputable def L_X10_coinsAfter_24 : Nat → Sg → Int32 → Int32 → Int32 → Option (Nat × Int32 × Sg)
  | 0 => fun _ _ _ _ => none
  | n + 1 => Lb_X10_coinsAfter_24 (L_X10_coinsAfter_24 n)
noncomputable def f_X10_coinsAfter (a1 : Int32) (a2 : Int32) (S : Sg) : Option (Nat × Int32 × Sg) :=
  gbx (f_X10_needCompany a1 S) (fun v_7 S_6 =>
  gbx (f_X10_needRange a2 (0 : Int32) (50 : Int32) S_6) (fun v_9 S_8 =>
  gbv (f_X7_copyFrom 35 14 S_8) (fun S_10 =>
  L_X10_coinsAfter_24 gFu S_10 a1 a2 (0 : Int32))))
noncomputable def f_X10_company (a1 : Int32) (a2 : Int32) (S : Sg) : Option (Nat × Int32 × Sg) :=
  gbx (f_X10_needCompany a1 S) (fun v_2 S_1 =>
  if a2 = (0 : Int32) then
    gbi (f_X10_at (14 + 14) 5 a1 S_1) (fun v_4 S_3 =>
    some (0, v_4, S_3))
  else
  if a2 = (1 : Int32) then
    gbi (f_X10_at (14 + 15) 5 a1 S_1) (fun v_7 S_6 =>
    some (0, v_7, S_6))
  else
  if a2 = (2 : Int32) then
    gbi (f_X10_at (14 + 18) 4 a1 S_1) (fun v_10 S_9 =>
    some (0, v_10, S_9))
  else
  if a2 = (3 : Int32) then
    gbi (f_X8_countOf 14 a1 S_1) (fun v_13 S_12 =>
    some (0, v_13, S_12))
  else
  if a2 = (4 : Int32) then
    gbi (f_X1_countOf 14 a1 S_1) (fun v_16 S_15 =>
    some (0, v_16, S_15))
  else
  if a2 = (5 : Int32) then
    gbi (f_X10_at (14 + 16) 5 a1 S_1) (fun v_19 S_18 =>
    some (0, v_19, S_18))
  else
  if a2 = (6 : Int32) then
    gbi (f_X10_at (14 + 17) 4 a1 S_1) (fun v_22 S_21 =>
    some (0, v_22, S_21))
  else
    some (2, (0 : Int32), S_1))
noncomputable def f_X10_needContract (a1 : Int32) (S : Sg) : Option (Nat × Int32 × Sg) :=
  gbi (f_X1_has 14 a1 S) (fun v_2 S_1 =>
  gbx (f_X10_needIndex v_2 S_1) (fun v_4 S_3 =>
  some (0, (0 : Int32), S_3)))
noncomputable def f_X10_contract (a1 : Int32) (a2 : Int32) (S : Sg) : Option (Nat × Int32 × Sg) :=
  gbx (f_X10_needContract a1 S) (fun v_2 S_1 =>
  if a2 = (0 : Int32) then
    gbi (f_X10_at (14 + 8) 8 a1 S_1) (fun v_4 S_3 =>
    some (0, v_4, S_3))
  else
  if a2 = (1 : Int32) then
    gbi (f_X10_at (14 + 9) 8 a1 S_1) (fun v_7 S_6 =>
    some (0, v_7, S_6))
  else
  if a2 = (2 : Int32) then
    gbi (f_X10_at (14 + 10) 8 a1 S_1) (fun v_10 S_9 =>
    some (0, v_10, S_9))
  else
  if a2 = (3 : Int32) then
    gbi (f_X10_at (14 + 11) 8 a1 S_1) (fun v_13 S_12 =>
    some (0, v_13, S_12))
  else
  if a2 = (4 : Int32) then
    gbi (f_X10_at (14 + 12) 8 a1 S_1) (fun v_16 S_15 =>
    some (0, v_16, S_15))
  else
  if a2 = (5 : Int32) then
    gbi (f_X10_at (14 + 13) 8 a1 S_1) (fun v_19 S_18 =>
    some (0, v_19, S_18))
  else
    some (2, (0 : Int32), S_1))
noncomputable def f_X10_levelFor (a1 : Int32) (a2 : Int32) (S : Sg) : Option (Nat × Int32 × Sg) :=
  gbx (f_X10_needCompany a1 S) (fun v_2 S_1 =>
  gbx (f_X10_needContract a2 S_1) (fun v_4 S_3 =>
  gbi (f_X4_smallestLevel 14 a1 a2 S_3) (fun v_6 S_5 =>
  some (0, v_6, S_5))))
noncomputable def f_X10_load (S : Sg) : Option (Nat × Int32 × Sg) :=
  gbi (f_X2_readInto 35 S) (fun v_2 S_1 =>
  if v_2 = (-9 : Int32) then
    gbv (f_X7_copyFrom 14 35 S_1) (fun S_3 =>
    gbv (f_X3_forget S_3) (fun S_4 =>
    gbv (f_X6_empty S_4) (fun S_5 =>
    some (0, S_5 (14 + 1) 4, S_5))))
  else
    some (3, (0 : Int32), S_1))
noncomputable def B_X10_needCity_20 (S : Sg) (t0 : Int32) : Option (Nat × Int32 × Sg) :=
  gbx (f_X10_needIndex t0 S) (fun v_2 S_1 =>
  some (0, (0 : Int32), S_1))
noncomputable def f_X10_needCity (a1 : Int32) (S : Sg) : Option (Nat × Int32 × Sg) :=
  if a1 < 0 then
    B_X10_needCity_20 S (0 : Int32)
  else
    if (S 14 3) ≤ a1 then
      B_X10_needCity_20 S (0 : Int32)
    else
      B_X10_needCity_20 S (1 : Int32)
noncomputable def f_X10_needDifferent (a0 : Int32) (a1 : Int32) (S : Sg) : Option (Nat × Int32 × Sg) :=
  if a0 = a1 then
    some (2, (0 : Int32), S)
  else
    some (0, (0 : Int32), S)
noncomputable def B_X10_needSlot_14 (S : Sg) (t0 : Int32) : Option (Nat × Int32 × Sg) :=
  gbx (f_X10_needIndex t0 S) (fun v_2 S_1 =>
  some (0, (0 : Int32), S_1))
noncomputable def f_X10_needSlot (a0 : Int32) (S : Sg) : Option (Nat × Int32 × Sg) :=
  if a0 < 0 then
    B_X10_needSlot_14 S (0 : Int32)
  else
    if (2 : Int32) ≤ a0 then
      B_X10_needSlot_14 S (0 : Int32)
    else
      B_X10_needSlot_14 S (1 : Int32)
noncomputable def f_X10_needTrain (a1 : Int32) (a2 : Int32) (S : Sg) : Option (Nat × Int32 × Sg) :=
  gbi (f_X0_hasTrain 14 a1 a2 S) (fun v_2 S_1 =>
  gbx (f_X10_needIndex v_2 S_1) (fun v_4 S_3 =>
  some (0, (0 : Int32), S_3)))
noncomputable def f_X10_needTrainOfHolder (a1 : Int32) (a2 : Int32) (S : Sg) : Option (Nat × Int32 × Sg) :=
  gbi (f_X1_isFree 14 a1 S) (fun v_2 S_1 =>
  if v_2 = 0 then
    gbi (f_X1_holderOf 14 a1 S_1) (fun v_4 S_3 =>
    gbx (f_X10_needTrain v_4 a2 S_3) (fun v_6 S_5 =>
    some (0, (0 : Int32), S_5)))
  else
    some (0, (0 : Int32), S_1))
noncomputable def B_X10_offer_48 (S : Sg) (x1 : Int32) (x2 : Int32) (x3 : Int32) (x4 : Int32) (t0 : Int32) : Option (Nat × Int32 × Sg) :=
  gbx (f_X10_needAllowed t0 S) (fun v_2 S_1 =>
  gbv (f_X3_remember 14 S_1) (fun S_3 =>
  gbv (f_X1_add 14 x1 x2 x3 x4 S_3) (fun S_4 =>
  some (0, (S_4 (14 + 2) 6) - (1 : Int32), S_4))))
noncomputable def f_X10_offer (a1 : Int32) (a2 : Int32) (a3 : Int32) (a4 : Int32) (S : Sg) : Option (Nat × Int32 × Sg) :=
  gbx (f_X10_needCity a1 S) (fun v_6 S_5 =>
  gbx (f_X10_needCity a2 S_5) (fun v_8 S_7 =>
  gbx (f_X10_needDifferent a1 a2 S_7) (fun v_10 S_9 =>
  gbx (f_X10_needRange a3 (1 : Int32) (99 : Int32) S_9) (fun v_12 S_11 =>
  gbx (f_X10_needRange a4 (1 : Int32) (9 : Int32) S_11) (fun v_14 S_13 =>
  gbi (f_X1_areFull 14 S_13) (fun v_16 S_15 =>
  if v_16 = 0 then
    B_X10_offer_48 S_15 a1 a2 a3 a4 (1 : Int32)
  else
    B_X10_offer_48 S_15 a1 a2 a3 a4 (0 : Int32)))))))
noncomputable def f_X10_restore (a1 : Int32) (S : Sg) : Option (Nat × Int32 × Sg) :=
  gbx (f_X10_needSlot a1 S) (fun v_2 S_1 =>
  gbi (f_X6_isFilled a1 S_1) (fun v_4 S_3 =>
  gbx (f_X10_needAllowed v_4 S_3) (fun v_6 S_5 =>
  gbv (f_X6_fetchInto 14 a1 S_5) (fun S_7 =>
  gbv (f_X3_forget S_7) (fun S_8 =>
  some (0, S_8 14 5, S_8))))))
noncomputable def B_X10_run_32 (S : Sg) (x1 : Int32) (x2 : Int32) (t0 : Int32) : Option (Nat × Int32 × Sg) :=
  gbx (f_X10_needAllowed t0 S) (fun v_2 S_1 =>
  gbv (f_X3_remember 14 S_1) (fun S_3 =>
  gbi (f_X4_carry 14 x1 x2 S_3) (fun v_5 S_4 =>
  some (0, v_5, S_4))))
noncomputable def f_X10_run (a1 : Int32) (a2 : Int32) (S : Sg) : Option (Nat × Int32 × Sg) :=
  gbx (f_X10_needContract a1 S) (fun v_7 S_6 =>
  gbx (f_X10_needTrainOfHolder a1 a2 S_6) (fun v_9 S_8 =>
  gbi (f_X4_reasonAgainst 14 a1 a2 S_8) (fun v_11 S_10 =>
  if v_11 = 0 then
    B_X10_run_32 S_10 a1 a2 (1 : Int32)
  else
    B_X10_run_32 S_10 a1 a2 (0 : Int32))))
noncomputable def Lb_X10_runScript_47 (K47 : Sg → Int32 → Int64 → Int32 → Option (Nat × Int32 × Sg)) (S : Sg) (x1 : Int32) (x2 : Int64) (x4 : Int32) : Option (Nat × Int32 × Sg) :=
  if x1 ≤ x4 then
    some (0, (-9 : Int32), S)
  else
    gbl (f_X5_withoutLowest x2 ((x1 - (1 : Int32)) - x4) S) (fun v_2 S_1 =>
    gvi ((v_2 - v_2 / (100000 : Int64) * (100000 : Int64)).toInt32) (fun x5_3 =>
    gbi (f_X5_obey 35 x5_3 S_1) (fun v_5 S_4 =>
    if v_5 = 0 then
      some (0, x4, S_4)
    else
      gvi (x4 + (1 : Int32)) (fun x4_6 =>
      K47 S_4 x1 x2 x4_6))))
noncomputable def L_X10_runScript_47 : Nat → Sg → Int32 → Int64 → Int32 → Option (Nat × Int32 × Sg)
  | 0 => fun _ _ _ _ => none
  | n + 1 => Lb_X10_runScript_47 (L_X10_runScript_47 n)
noncomputable def B_X10_runScript_22 (S : Sg) : Option (Nat × Int32 × Sg) :=
  some (2, (0 : Int32), S)
noncomputable def f_X10_runScript (a1 : Int32) (a2 : Int64) (S : Sg) : Option (Nat × Int32 × Sg) :=
  gbx (f_X10_needRange a1 (1 : Int32) (3 : Int32) S) (fun v_8 S_7 =>
  if (lg_cmp a2 (0 : Int64)) < 0 then
    B_X10_runScript_22 S_7
  else
    gbl (f_X5_withoutLowest a2 a1 S_7) (fun v_10 S_9 =>
    if (lg_cmp v_10 (0 : Int64)) ≤ 0 then
      gbv (f_X7_copyFrom 35 14 S_9) (fun S_11 =>
      L_X10_runScript_47 gFu S_11 a1 a2 (0 : Int32))
    else
      B_X10_runScript_22 S_9))
noncomputable def f_X10_save (a1 : Int32) (S : Sg) : Option (Nat × Int32 × Sg) :=
  gbx (f_X10_needSlot a1 S) (fun v_2 S_1 =>
  gbv (f_X6_keep 14 a1 S_1) (fun S_3 =>
  some (0, S_3 14 5, S_3)))
noncomputable def f_X10_setRent (a1 : Int32) (a2 : Int32) (S : Sg) : Option (Nat × Int32 × Sg) :=
  gbx (f_X10_needCompany a1 S) (fun v_2 S_1 =>
  gbx (f_X10_needRange a2 (0 : Int32) (9 : Int32) S_1) (fun v_4 S_3 =>
  gbv (f_X3_remember 14 S_3) (fun S_5 =>
  gbi (f_X10_at (14 + 15) 5 a1 S_5) (fun v_7 S_6 =>
  gbv (f_X0_changeRent 14 a1 a2 S_6) (fun S_8 =>
  some (0, v_7, S_8))))))
noncomputable def Lb_X10_simulate_24 (K24 : Sg → Int32 → Int64 → Int32 → Option (Nat × Int32 × Sg)) (S : Sg) (x3 : Int32) (x4 : Int64) (x6 : Int32) : Option (Nat × Int32 × Sg) :=
  if x3 ≤ x6 then
    gbi (f_X7_greatestWorth 35 S) (fun v_2 S_1 =>
    some (0, v_2 + ((10000 : Int32) * (S_1 35 4)), S_1))
  else
    gvl ((x4 * (6364136223846793005 : Int64)) + (1442695040888963407 : Int64)) (fun x4_3 =>
    gbv (f_X7_dealByChance 35 (((x4_3.toUInt64 >>> ((33 : Int32).toInt64.toUInt64 &&& Int64.toUInt64 63)).toInt64).toInt32) S) (fun S_4 =>
    gbv (f_X4_carryAll 35 S_4) (fun S_5 =>
    gbi (f_X7_closeRound 35 S_5) (fun v_7 S_6 =>
    gvi (x6 + (1 : Int32)) (fun x6_8 =>
    K24 S_6 x3 x4_3 x6_8)))))
noncomputable def L_X10_simulate_24 : Nat → Sg → Int32 → Int64 → Int32 → Option (Nat × Int32 × Sg)
  | 0 => fun _ _ _ _ => none
  | n + 1 => Lb_X10_simulate_24 (L_X10_simulate_24 n)
noncomputable def f_X10_simulate (a1 : Int64) (a3 : Int32) (S : Sg) : Option (Nat × Int32 × Sg) :=
  gbx (f_X10_needRange a3 (1 : Int32) (50 : Int32) S) (fun v_10 S_9 =>
  gbv (f_X7_copyFrom 35 14 S_9) (fun S_11 =>
  L_X10_simulate_24 gFu S_11 a3 a1 (0 : Int32)))
noncomputable def f_X10_take (a1 : Int32) (a2 : Int32) (S : Sg) : Option (Nat × Int32 × Sg) :=
  gbx (f_X10_needCompany a1 S) (fun v_2 S_1 =>
  gbx (f_X10_needContract a2 S_1) (fun v_4 S_3 =>
  gbi (f_X1_isFree 14 a2 S_3) (fun v_6 S_5 =>
  gbx (f_X10_needAllowed v_6 S_5) (fun v_8 S_7 =>
  gbv (f_X3_remember 14 S_7) (fun S_9 =>
  gbv (f_X1_give 14 a2 a1 S_9) (fun S_10 =>
  gbi (f_X1_countOf 14 a1 S_10) (fun v_12 S_11 =>
  some (0, v_12, S_11))))))))
noncomputable def f_X10_track (a1 : Int32) (a2 : Int32) (S : Sg) : Option (Nat × Int32 × Sg) :=
  gbx (f_X10_needTrack a1 S) (fun v_2 S_1 =>
  if a2 = (0 : Int32) then
    gbi (f_X10_at (14 + 4) 16 a1 S_1) (fun v_4 S_3 =>
    some (0, v_4, S_3))
  else
  if a2 = (1 : Int32) then
    gbi (f_X10_at (14 + 5) 16 a1 S_1) (fun v_7 S_6 =>
    some (0, v_7, S_6))
  else
  if a2 = (2 : Int32) then
    gbi (f_X10_at (14 + 6) 16 a1 S_1) (fun v_10 S_9 =>
    some (0, v_10, S_9))
  else
  if a2 = (3 : Int32) then
    gbi (f_X8_isOfBank 14 a1 S_1) (fun v_13 S_12 =>
    if v_13 = 0 then
      gbi (f_X10_at (14 + 7) 16 a1 S_12) (fun v_15 S_14 =>
      some (0, v_15, S_14))
    else
      some (0, (-9 : Int32), S_12))
  else
    some (2, (0 : Int32), S_1))
noncomputable def f_X10_train (a1 : Int32) (a2 : Int32) (a3 : Int32) (S : Sg) : Option (Nat × Int32 × Sg) :=
  gbx (f_X10_needCompany a1 S) (fun v_2 S_1 =>
  gbx (f_X10_needTrain a1 a2 S_1) (fun v_4 S_3 =>
  if a3 = (0 : Int32) then
    gbi (f_X0_levelOf 14 a1 a2 S_3) (fun v_6 S_5 =>
    some (0, v_6, S_5))
  else
  if a3 = (1 : Int32) then
    gbi (f_X0_hasRun 14 a1 a2 S_3) (fun v_9 S_8 =>
    if v_9 = 0 then
      some (0, (0 : Int32), S_8)
    else
      some (0, (1 : Int32), S_8))
  else
    some (2, (0 : Int32), S_3)))
noncomputable def B_X10_undo_15 (S : Sg) (t0 : Int32) : Option (Nat × Int32 × Sg) :=
  gbx (f_X10_needAllowed t0 S) (fun v_2 S_1 =>
  gbv (f_X3_takeBackInto 14 S_1) (fun S_3 =>
  some (0, S_3 3 2, S_3)))
noncomputable def f_X10_undo (S : Sg) : Option (Nat × Int32 × Sg) :=
  if (S 3 2) ≤ 0 then
    B_X10_undo_15 S (0 : Int32)
  else
    B_X10_undo_15 S (1 : Int32)
noncomputable def f_X10_way (a1 : Int32) (a2 : Int32) (a3 : Int32) (a4 : Int32) (a5 : Int32) (S : Sg) : Option (Nat × Int32 × Sg) :=
  gbx (f_X10_needCompany a1 S) (fun v_2 S_1 =>
  gbx (f_X10_needCity a2 S_1) (fun v_4 S_3 =>
  gbx (f_X10_needCity a3 S_3) (fun v_6 S_5 =>
  gbx (f_X10_needDifferent a2 a3 S_5) (fun v_8 S_7 =>
  gbx (f_X10_needRange a4 (1 : Int32) (24 : Int32) S_7) (fun v_10 S_9 =>
  gbx (f_X10_needRange a5 (0 : Int32) (3 : Int32) S_9) (fun v_12 S_11 =>
  gbi (f_X9_find 14 a1 a2 a3 a4 S_11) (fun v_14 S_13 =>
  if v_14 = 0 then
    some (0, (-9 : Int32), S_13)
  else
    if a5 = (0 : Int32) then
      some (0, S_13 9 5, S_13)
    else
    if a5 = (1 : Int32) then
      some (0, S_13 9 6, S_13)
    else
    if a5 = (2 : Int32) then
      some (0, S_13 9 4, S_13)
    else
      gbi (f_X10_at 13 24 (0 : Int32) S_13) (fun v_19 S_18 =>
      some (0, v_19, S_18)))))))))
noncomputable def f_X10_whyNot (a1 : Int32) (a2 : Int32) (S : Sg) : Option (Nat × Int32 × Sg) :=
  gbx (f_X10_needContract a1 S) (fun v_2 S_1 =>
  gbx (f_X10_needTrainOfHolder a1 a2 S_1) (fun v_4 S_3 =>
  gbi (f_X4_reasonAgainst 14 a1 a2 S_3) (fun v_6 S_5 =>
  some (0, v_6, S_5))))
noncomputable def f_X10_worth (a1 : Int32) (S : Sg) : Option (Nat × Int32 × Sg) :=
  gbx (f_X10_needCompany a1 S) (fun v_2 S_1 =>
  gbi (f_X7_worthOf 14 a1 S_1) (fun v_4 S_3 =>
  some (0, v_4, S_3)))
