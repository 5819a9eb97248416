noncomputable def B_law_347 (xs : Nat → Int32) (L : Nat) (S : At2) (tk : Nat) (x3 : Int32) : Option (Int32 × At2) :=
  gck (isb x3) (some (x3, S))
noncomputable def B_law_341 (xs : Nat → Int32) (L : Nat) (K85 : At2 → Nat → Int32 → Int32 → Option (Int32 × At2)) (S : At2) (tk : Nat) (x3 : Int32) (x4 : Int32) : Option (Int32 × At2) :=
  gvi (x4 + (1 : Int32)) (fun x4_1 =>
  K85 S tk x3 x4_1)
noncomputable def B_law_335 (xs : Nat → Int32) (L : Nat) (K85 : At2 → Nat → Int32 → Int32 → Option (Int32 × At2)) (K140 : At2 → Nat → Int32 → Int32 → Int32 → Option (Int32 × At2)) (S : At2) (tk : Nat) (x3 : Int32) (x4 : Int32) (x5 : Int32) : Option (Int32 × At2) :=
  gvi (x5 + (1 : Int32)) (fun x5_2 =>
  K140 S tk x3 x4 x5_2)
noncomputable def B_law_334 (xs : Nat → Int32) (L : Nat) (K85 : At2 → Nat → Int32 → Int32 → Option (Int32 × At2)) (K140 : At2 → Nat → Int32 → Int32 → Int32 → Option (Int32 × At2)) (S : At2) (tk : Nat) (x4 : Int32) (x5 : Int32) (t0 : Int32) : Option (Int32 × At2) :=
  B_law_335 xs L K85 K140 S tk t0 x4 x5
noncomputable def B_law_333 (xs : Nat → Int32) (L : Nat) (K85 : At2 → Nat → Int32 → Int32 → Option (Int32 × At2)) (K140 : At2 → Nat → Int32 → Int32 → Int32 → Option (Int32 × At2)) (S : At2) (tk : Nat) (x4 : Int32) (x5 : Int32) : Option (Int32 × At2) :=
  B_law_334 xs L K85 K140 S tk x4 x5 (0 : Int32)
noncomputable def B_law_234 (xs : Nat → Int32) (L : Nat) (K85 : At2 → Nat → Int32 → Int32 → Option (Int32 × At2)) (K140 : At2 → Nat → Int32 → Int32 → Int32 → Option (Int32 × At2)) (S : At2) (tk : Nat) (x4 : Int32) (x5 : Int32) (x6 : Int32) (x7 : Int32) (t0 : Int32) : Option (Int32 × At2) :=
  if (x5 - x5 / (4 : Int32) * (4 : Int32)) = (3 : Int32) then
    if t0 = 0 then
      B_law_335 xs L K85 K140 S tk t0 x4 x5
    else
      gck (decide (tk < 6)) (
      gbs (gp1 S (h_tryAbout (4 : Int32) S.1)) (fun v_3 S_4 =>
      gbs (gp1 S_4 (h_scripts x6 S_4.1)) (fun v_5 S_6 =>
      if v_5 = 0 then
        B_law_333 xs L K85 K140 S_6 (tk + 1) x4 x5
      else
        gbs (gq1 S_6 (h_trySave (0 : Int32) S_6.2)) (fun v_7 S_8 =>
        if v_7 = v_3 then
          gbs (gp1 S_8 (h_trySave (0 : Int32) S_8.1)) (fun v_9 S_10 =>
          if v_9 = v_3 then
            gbs (gp1 S_10 (h_tryRestore (0 : Int32) S_10.1)) (fun v_11 S_12 =>
            if v_11 = v_3 then
              gbs (gp1 S_12 (h_hands x7 S_12.1)) (fun v_13 S_14 =>
              if v_13 = 0 then
                B_law_333 xs L K85 K140 S_14 (tk + 1) x4 x5
              else
                gbs (gq1 S_14 (h_tryRestore (0 : Int32) S_14.2)) (fun v_15 S_16 =>
                if v_15 = v_3 then
                  gbs (gp1 S_16 (h_tryUndo S_16.1)) (fun v_17 S_18 =>
                  if v_17 = (-9999003 : Int32) then
                    gbs (h_alike S_18) (fun v_19 S_20 =>
                    if v_19 = 0 then
                      B_law_333 xs L K85 K140 S_20 (tk + 1) x4 x5
                    else
                      B_law_334 xs L K85 K140 S_20 (tk + 1) x4 x5 (1 : Int32))
                  else
                    B_law_333 xs L K85 K140 S_18 (tk + 1) x4 x5)
                else
                  B_law_333 xs L K85 K140 S_16 (tk + 1) x4 x5))
            else
              B_law_333 xs L K85 K140 S_12 (tk + 1) x4 x5)
          else
            B_law_333 xs L K85 K140 S_10 (tk + 1) x4 x5)
        else
          B_law_333 xs L K85 K140 S_8 (tk + 1) x4 x5))))
  else
    B_law_335 xs L K85 K140 S tk t0 x4 x5
noncomputable def B_law_233 (xs : Nat → Int32) (L : Nat) (K85 : At2 → Nat → Int32 → Int32 → Option (Int32 × At2)) (K140 : At2 → Nat → Int32 → Int32 → Int32 → Option (Int32 × At2)) (S : At2) (tk : Nat) (x4 : Int32) (x5 : Int32) (x6 : Int32) (x7 : Int32) : Option (Int32 × At2) :=
  B_law_234 xs L K85 K140 S tk x4 x5 x6 x7 (0 : Int32)
noncomputable def Lb_law_140 (xs : Nat → Int32) (L : Nat) (K85 : At2 → Nat → Int32 → Int32 → Option (Int32 × At2)) (K140 : At2 → Nat → Int32 → Int32 → Int32 → Option (Int32 × At2)) (S : At2) (tk : Nat) (x3 : Int32) (x4 : Int32) (x5 : Int32) : Option (Int32 × At2) :=
  if (15 : Int32) ≤ x5 then
    B_law_341 xs L K85 S tk x3 x4
  else
    if x3 = 0 then
      B_law_341 xs L K85 S tk x3 x4
    else
      gck (decide ((0 : Int32) ≤ ((((40 : Int32) * x4) + (5 : Int32)) + ((2 : Int32) * x5)))) (gvi (gNum xs L ((((40 : Int32) * x4) + (5 : Int32)) + ((2 : Int32) * x5))) (fun v_21 =>
      gck (decide ((0 : Int32) ≤ ((((40 : Int32) * x4) + (6 : Int32)) + ((2 : Int32) * x5)))) (gvi (gNum xs L ((((40 : Int32) * x4) + (6 : Int32)) + ((2 : Int32) * x5))) (fun v_22 =>
      gbs (gp1 S (h_act v_21 v_22 S.1)) (fun v_23 S_24 =>
      gbs (gq1 S_24 (h_act v_21 v_22 S_24.2)) (fun v_25 S_26 =>
      if v_23 = v_25 then
        gbs (gq1 S_26 (h_refuses S_26.2)) (fun v_27 S_28 =>
        if v_27 = 0 then
          B_law_233 xs L K85 K140 S_28 tk x4 x5 v_21 v_22
        else
          gbs (h_alike S_28) (fun v_29 S_30 =>
          if v_29 = 0 then
            B_law_233 xs L K85 K140 S_30 tk x4 x5 v_21 v_22
          else
            gbs (gp1 S_30 (h_sound S_30.1)) (fun v_31 S_32 =>
            if v_31 = 0 then
              B_law_233 xs L K85 K140 S_32 tk x4 x5 v_21 v_22
            else
              B_law_234 xs L K85 K140 S_32 tk x4 x5 v_21 v_22 (1 : Int32))))
      else
        B_law_233 xs L K85 K140 S_26 tk x4 x5 v_21 v_22))))))
noncomputable def L_law_140 (xs : Nat → Int32) (L : Nat) (K85 : At2 → Nat → Int32 → Int32 → Option (Int32 × At2)) : Nat → At2 → Nat → Int32 → Int32 → Int32 → Option (Int32 × At2)
  | 0 => fun _ _ _ _ _ => none
  | n + 1 => Lb_law_140 xs L K85 (L_law_140 xs L K85 n)
noncomputable def B_law_136 (xs : Nat → Int32) (L : Nat) (K85 : At2 → Nat → Int32 → Int32 → Option (Int32 × At2)) (S : At2) (tk : Nat) (x4 : Int32) (t0 : Int32) : Option (Int32 × At2) :=
  L_law_140 xs L K85 16 S tk t0 x4 (0 : Int32)
noncomputable def B_law_135 (xs : Nat → Int32) (L : Nat) (K85 : At2 → Nat → Int32 → Int32 → Option (Int32 × At2)) (S : At2) (tk : Nat) (x4 : Int32) : Option (Int32 × At2) :=
  B_law_136 xs L K85 S tk x4 (0 : Int32)
noncomputable def Lb_law_85 (xs : Nat → Int32) (L : Nat) (K85 : At2 → Nat → Int32 → Int32 → Option (Int32 × At2)) (S : At2) (tk : Nat) (x3 : Int32) (x4 : Int32) : Option (Int32 × At2) :=
  if (2 : Int32) ≤ x4 then
    B_law_347 xs L S tk x3
  else
    if x3 = 0 then
      B_law_347 xs L S tk x3
    else
      gbs (h_told xs L ((40 : Int32) * x4) S) (fun v_33 S_34 =>
      if v_33 = 0 then
        B_law_135 xs L K85 S_34 tk x4
      else
        gbs (gq1 S_34 (h_refuses S_34.2)) (fun v_35 S_36 =>
        if v_35 = 0 then
          B_law_135 xs L K85 S_36 tk x4
        else
          gbs (h_alike S_36) (fun v_37 S_38 =>
          if v_37 = 0 then
            B_law_135 xs L K85 S_38 tk x4
          else
            gbs (gp1 S_38 (h_sound S_38.1)) (fun v_39 S_40 =>
            if v_39 = 0 then
              B_law_135 xs L K85 S_40 tk x4
            else
              B_law_136 xs L K85 S_40 tk x4 (1 : Int32)))))
noncomputable def L_law_85 (xs : Nat → Int32) (L : Nat) : Nat → At2 → Nat → Int32 → Int32 → Option (Int32 × At2)
  | 0 => fun _ _ _ _ => none
  | n + 1 => Lb_law_85 xs L (L_law_85 xs L n)
noncomputable def B_law_81 (xs : Nat → Int32) (L : Nat) (S : At2) (tk : Nat) (t0 : Int32) : Option (Int32 × At2) :=
  L_law_85 xs L 3 S tk t0 (0 : Int32)
noncomputable def B_law_80 (xs : Nat → Int32) (L : Nat) (S : At2) (tk : Nat) : Option (Int32 × At2) :=
  B_law_81 xs L S tk (0 : Int32)
noncomputable def h_law (xs : Nat → Int32) (L : Nat) (tk : Nat) (S : At2) : Option (Int32 × At2) :=
  gbs (gp1 S (h_X10_errorPosition S.1)) (fun v_41 S_42 =>
  if v_41 = 0 then
    gbs (gp1 S_42 (h_tryAbout (1 : Int32) S_42.1)) (fun v_43 S_44 =>
    if v_43 = (2 : Int32) then
      gbs (gp1 S_44 (h_tryWay (0 : Int32) (0 : Int32) (2 : Int32) (4 : Int32) (0 : Int32) S_44.1)) (fun v_45 S_46 =>
      if v_45 = (4 : Int32) then
        gbs (gp1 S_46 (h_tryUndo S_46.1)) (fun v_47 S_48 =>
        if v_47 = (-9999003 : Int32) then
          gbs (gq1 S_48 (h_refuses S_48.2)) (fun v_49 S_50 =>
          if v_49 = 0 then
            B_law_80 xs L S_50 tk
          else
            gbs (h_alike S_50) (fun v_51 S_52 =>
            if v_51 = 0 then
              B_law_80 xs L S_52 tk
            else
              gbs (gp1 S_52 (h_sound S_52.1)) (fun v_53 S_54 =>
              if v_53 = 0 then
                B_law_80 xs L S_54 tk
              else
                B_law_81 xs L S_54 tk (1 : Int32))))
        else
          B_law_80 xs L S_48 tk)
      else
        B_law_80 xs L S_46 tk)
    else
      B_law_80 xs L S_44 tk)
  else
    B_law_80 xs L S_42 tk)
