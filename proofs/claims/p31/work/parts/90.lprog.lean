/-! ===== the own methods of the law, as programs over the games ===== -/
noncomputable def h_put (a2 : Int32) (S : At2) : Option (Int32 × At2) :=
  gbs (gp1 S (h_tryAppend a2 S.1)) (fun v_1 S_2 =>
  if v_1 ≤ 0 then
    some ((0 : Int32), S_2)
  else
    gbs (gq1 S_2 (h_tryAppend a2 S_2.2)) (fun v_3 S_4 =>
    if v_3 ≤ 0 then
      some ((0 : Int32), S_4)
    else
      some ((1 : Int32), S_4)))
noncomputable def Lb_alike_181 (K181 : At2 → Int32 → Int32 → Option (Int32 × At2)) (S : At2) (x2 : Int32) (x3 : Int32) : Option (Int32 × At2) :=
  gbs (gp1 S (h_tryAbout (2 : Int32) S.1)) (fun v_1 S_2 =>
  if ((6 : Int32) * v_1) ≤ x3 then
    gck (isb x2) (some (x2, S_2))
  else
    if x2 = 0 then
      gck (isb x2) (some (x2, S_2))
    else
      gbs (gp1 S_2 (h_tryContract (x3 / (6 : Int32)) (x3 - x3 / (6 : Int32) * (6 : Int32)) S_2.1)) (fun v_3 S_4 =>
      gbs (gq1 S_4 (h_tryContract (x3 / (6 : Int32)) (x3 - x3 / (6 : Int32) * (6 : Int32)) S_4.2)) (fun v_5 S_6 =>
      if v_3 = v_5 then
        gvi (x3 + (1 : Int32)) (fun x3_8 =>
        K181 S_6 (1 : Int32) x3_8)
      else
        gvi (x3 + (1 : Int32)) (fun x3_7 =>
        K181 S_6 (0 : Int32) x3_7))))
noncomputable def L_alike_181 : Nat → At2 → Int32 → Int32 → Option (Int32 × At2)
  | 0 => fun _ _ _ => none
  | n + 1 => Lb_alike_181 (L_alike_181 n)
noncomputable def Lb_alike_129 (K129 : At2 → Int32 → Int32 → Option (Int32 × At2)) (S : At2) (x2 : Int32) (x3 : Int32) : Option (Int32 × At2) :=
  gbs (gp1 S (h_tryAbout (1 : Int32) S.1)) (fun v_9 S_10 =>
  if ((4 : Int32) * v_9) ≤ x3 then
    L_alike_181 49 S_10 x2 (0 : Int32)
  else
    if x2 = 0 then
      L_alike_181 49 S_10 x2 (0 : Int32)
    else
      gbs (gp1 S_10 (h_tryTrack (x3 / (4 : Int32)) (x3 - x3 / (4 : Int32) * (4 : Int32)) S_10.1)) (fun v_11 S_12 =>
      gbs (gq1 S_12 (h_tryTrack (x3 / (4 : Int32)) (x3 - x3 / (4 : Int32) * (4 : Int32)) S_12.2)) (fun v_13 S_14 =>
      if v_11 = v_13 then
        gvi (x3 + (1 : Int32)) (fun x3_16 =>
        K129 S_14 (1 : Int32) x3_16)
      else
        gvi (x3 + (1 : Int32)) (fun x3_15 =>
        K129 S_14 (0 : Int32) x3_15))))
noncomputable def L_alike_129 : Nat → At2 → Int32 → Int32 → Option (Int32 × At2)
  | 0 => fun _ _ _ => none
  | n + 1 => Lb_alike_129 (L_alike_129 n)
noncomputable def B_alike_119 (K41 : At2 → Int32 → Int32 → Option (Int32 × At2)) (S : At2) (x3 : Int32) : Option (Int32 × At2) :=
  gvi (x3 + (1 : Int32)) (fun x3_17 =>
  K41 S (0 : Int32) x3_17)
noncomputable def Lb_alike_41 (K41 : At2 → Int32 → Int32 → Option (Int32 × At2)) (S : At2) (x2 : Int32) (x3 : Int32) : Option (Int32 × At2) :=
  if (28 : Int32) ≤ x3 then
    L_alike_129 65 S x2 (0 : Int32)
  else
    if x2 = 0 then
      L_alike_129 65 S x2 (0 : Int32)
    else
      gbs (gp1 S (h_tryCompany (x3 / (7 : Int32)) (x3 - x3 / (7 : Int32) * (7 : Int32)) S.1)) (fun v_18 S_19 =>
      gbs (gq1 S_19 (h_tryCompany (x3 / (7 : Int32)) (x3 - x3 / (7 : Int32) * (7 : Int32)) S_19.2)) (fun v_20 S_21 =>
      if v_18 = v_20 then
        gbs (gp1 S_21 (h_tryTrain (x3 / (7 : Int32)) ((x3 - x3 / (7 : Int32) * (7 : Int32)) / (2 : Int32)) (x3 - x3 / (2 : Int32) * (2 : Int32)) S_21.1)) (fun v_22 S_23 =>
        gbs (gq1 S_23 (h_tryTrain (x3 / (7 : Int32)) ((x3 - x3 / (7 : Int32) * (7 : Int32)) / (2 : Int32)) (x3 - x3 / (2 : Int32) * (2 : Int32)) S_23.2)) (fun v_24 S_25 =>
        if v_22 = v_24 then
          gvi (x3 + (1 : Int32)) (fun x3_26 =>
          K41 S_25 (1 : Int32) x3_26)
        else
          B_alike_119 K41 S_25 x3))
      else
        B_alike_119 K41 S_21 x3))
noncomputable def L_alike_41 : Nat → At2 → Int32 → Int32 → Option (Int32 × At2)
  | 0 => fun _ _ _ => none
  | n + 1 => Lb_alike_41 (L_alike_41 n)
noncomputable def B_alike_31 (K4 : At2 → Int32 → Int32 → Option (Int32 × At2)) (S : At2) (x3 : Int32) : Option (Int32 × At2) :=
  gvi (x3 + (1 : Int32)) (fun x3_27 =>
  K4 S (0 : Int32) x3_27)
noncomputable def Lb_alike_4 (K4 : At2 → Int32 → Int32 → Option (Int32 × At2)) (S : At2) (x2 : Int32) (x3 : Int32) : Option (Int32 × At2) :=
  if (11 : Int32) ≤ x3 then
    L_alike_41 29 S x2 (0 : Int32)
  else
    if x2 = 0 then
      B_alike_31 K4 S x3
    else
      gbs (gp1 S (h_tryAbout x3 S.1)) (fun v_28 S_29 =>
      gbs (gq1 S_29 (h_tryAbout x3 S_29.2)) (fun v_30 S_31 =>
      if v_28 = v_30 then
        gvi (x3 + (1 : Int32)) (fun x3_32 =>
        K4 S_31 (1 : Int32) x3_32)
      else
        B_alike_31 K4 S_31 x3))
noncomputable def L_alike_4 : Nat → At2 → Int32 → Int32 → Option (Int32 × At2)
  | 0 => fun _ _ _ => none
  | n + 1 => Lb_alike_4 (L_alike_4 n)
noncomputable def h_alike (S : At2) : Option (Int32 × At2) :=
  L_alike_4 12 S (1 : Int32) (0 : Int32)
noncomputable def B_refuses_377 (S : At) (x1 : Int32) (x3 : Int32) (t0 : Int32) : Option (Int32 × At) :=
  if t0 = 0 then
    some ((0 : Int32), S)
  else
    gbs (h_tryWay (4 : Int32) (0 : Int32) (0 : Int32) (0 : Int32) (0 : Int32) S) (fun v_1 S_2 =>
    if v_1 = (-9999001 : Int32) then
      gbs (h_tryWay (0 : Int32) x1 (0 : Int32) (0 : Int32) (0 : Int32) S_2) (fun v_3 S_4 =>
      if v_3 = (-9999001 : Int32) then
        gbs (h_tryWay (0 : Int32) (1 : Int32) (1 : Int32) (1 : Int32) (0 : Int32) S_4) (fun v_5 S_6 =>
        if v_5 = (-9999002 : Int32) then
          gbs (h_tryWay (0 : Int32) (0 : Int32) (1 : Int32) (25 : Int32) (0 : Int32) S_6) (fun v_7 S_8 =>
          if v_7 = (-9999002 : Int32) then
            gbs (h_tryWay (0 : Int32) (0 : Int32) (1 : Int32) (1 : Int32) (4 : Int32) S_8) (fun v_9 S_10 =>
            if v_9 = (-9999002 : Int32) then
              gbs (h_tryWhyNot x3 (0 : Int32) S_10) (fun v_11 S_12 =>
              if v_11 = (-9999001 : Int32) then
                gbs (h_tryLevelFor (4 : Int32) (0 : Int32) S_12) (fun v_13 S_14 =>
                if v_13 = (-9999001 : Int32) then
                  gbs (h_tryLevelFor (0 : Int32) x3 S_14) (fun v_15 S_16 =>
                  if v_15 = (-9999001 : Int32) then
                    gbs (h_tryBestContract (-1 : Int32) S_16) (fun v_17 S_18 =>
                    if v_17 = (-9999001 : Int32) then
                      gbs (h_tryCoinsAfter (4 : Int32) (51 : Int32) S_18) (fun v_19 S_20 =>
                      if v_19 = (-9999001 : Int32) then
                        gbs (h_tryCoinsAfter (0 : Int32) (51 : Int32) S_20) (fun v_21 S_22 =>
                        if v_21 = (-9999002 : Int32) then
                          gbs (h_tryBankruptAfter (4 : Int32) S_22) (fun v_23 S_24 =>
                          if v_23 = (-9999001 : Int32) then
                            gbs (h_tryWorth (-1 : Int32) S_24) (fun v_25 S_26 =>
                            if v_25 = (-9999001 : Int32) then
                              gbs (h_tryScript (4 : Int32) (0 : Int64) S_26) (fun v_27 S_28 =>
                              if v_27 = (-9999002 : Int32) then
                                gbs (h_tryScript (1 : Int32) (100000 : Int64) S_28) (fun v_29 S_30 =>
                                if v_29 = (-9999002 : Int32) then
                                  gbs (h_trySimulate (1 : Int64) (51 : Int32) S_30) (fun v_31 S_32 =>
                                  if v_31 = (-9999002 : Int32) then
                                    gbs (h_trySave (2 : Int32) S_32) (fun v_33 S_34 =>
                                    if v_33 = (-9999001 : Int32) then
                                      gbs (h_tryRestore (-1 : Int32) S_34) (fun v_35 S_36 =>
                                      if v_35 = (-9999001 : Int32) then
                                        gbs (h_tryAppend (256 : Int32) S_36) (fun v_37 S_38 =>
                                        if v_37 = (-9999002 : Int32) then
                                          some ((1 : Int32), S_38)
                                        else
                                          some ((0 : Int32), S_38))
                                      else
                                        some ((0 : Int32), S_36))
                                    else
                                      some ((0 : Int32), S_34))
                                  else
                                    some ((0 : Int32), S_32))
                                else
                                  some ((0 : Int32), S_30))
                              else
                                some ((0 : Int32), S_28))
                            else
                              some ((0 : Int32), S_26))
                          else
                            some ((0 : Int32), S_24))
                        else
                          some ((0 : Int32), S_22))
                      else
                        some ((0 : Int32), S_20))
                    else
                      some ((0 : Int32), S_18))
                  else
                    some ((0 : Int32), S_16))
                else
                  some ((0 : Int32), S_14))
              else
                some ((0 : Int32), S_12))
            else
              some ((0 : Int32), S_10))
          else
            some ((0 : Int32), S_8))
        else
          some ((0 : Int32), S_6))
      else
        some ((0 : Int32), S_4))
    else
      some ((0 : Int32), S_2))
noncomputable def B_refuses_339 (S : At) (x1 : Int32) (x3 : Int32) : Option (Int32 × At) :=
  gbs (h_tryTake (4 : Int32) (0 : Int32) S) (fun v_39 S_40 =>
  if v_39 = (-9999001 : Int32) then
    gbs (h_tryTake (0 : Int32) x3 S_40) (fun v_41 S_42 =>
    if v_41 = (-9999001 : Int32) then
      gbs (h_tryRun x3 (0 : Int32) S_42) (fun v_43 S_44 =>
      if v_43 = (-9999001 : Int32) then
        B_refuses_377 S_44 x1 x3 (1 : Int32)
      else
        B_refuses_377 S_44 x1 x3 (0 : Int32))
    else
      B_refuses_377 S_42 x1 x3 (0 : Int32))
  else
    B_refuses_377 S_40 x1 x3 (0 : Int32))
noncomputable def B_refuses_243 (S : At) (x1 : Int32) (x3 : Int32) : Option (Int32 × At) :=
  gbs (h_trySetRent (-1 : Int32) (10 : Int32) S) (fun v_45 S_46 =>
  if v_45 = (-9999001 : Int32) then
    gbs (h_trySetRent (0 : Int32) (10 : Int32) S_46) (fun v_47 S_48 =>
    if v_47 = (-9999002 : Int32) then
      gbs (h_tryOffer x1 (0 : Int32) (0 : Int32) (0 : Int32) S_48) (fun v_49 S_50 =>
      if v_49 = (-9999001 : Int32) then
        gbs (h_tryOffer (0 : Int32) (0 : Int32) (1 : Int32) (1 : Int32) S_50) (fun v_51 S_52 =>
        if v_51 = (-9999002 : Int32) then
          gbs (h_tryOffer (0 : Int32) (1 : Int32) (0 : Int32) (1 : Int32) S_52) (fun v_53 S_54 =>
          if v_53 = (-9999002 : Int32) then
            gbs (h_tryOffer (0 : Int32) (1 : Int32) (1 : Int32) (10 : Int32) S_54) (fun v_55 S_56 =>
            if v_55 = (-9999002 : Int32) then
              if x3 < (8 : Int32) then
                B_refuses_339 S_56 x1 x3
              else
                gbs (h_tryOffer (0 : Int32) (1 : Int32) (1 : Int32) (1 : Int32) S_56) (fun v_57 S_58 =>
                if v_57 = (-9999003 : Int32) then
                  B_refuses_339 S_58 x1 x3
                else
                  B_refuses_377 S_58 x1 x3 (0 : Int32))
            else
              B_refuses_377 S_56 x1 x3 (0 : Int32))
          else
            B_refuses_377 S_54 x1 x3 (0 : Int32))
        else
          B_refuses_377 S_52 x1 x3 (0 : Int32))
      else
        B_refuses_377 S_50 x1 x3 (0 : Int32))
    else
      B_refuses_377 S_48 x1 x3 (0 : Int32))
  else
    B_refuses_377 S_46 x1 x3 (0 : Int32))
noncomputable def B_refuses_222 (S : At) (x1 : Int32) (x3 : Int32) (x4 : Int32) : Option (Int32 × At) :=
  if x4 < (4 : Int32) then
    B_refuses_243 S x1 x3
  else
    gbs (h_tryAbout (3 : Int32) S) (fun v_59 S_60 =>
    gbs (h_tryBuyTrain (0 : Int32) v_59 S_60) (fun v_61 S_62 =>
    if v_61 = (-9999003 : Int32) then
      B_refuses_243 S_62 x1 x3
    else
      B_refuses_377 S_62 x1 x3 (0 : Int32)))
noncomputable def B_refuses_145 (S : At) (x1 : Int32) (x2 : Int32) (x3 : Int32) (x4 : Int32) : Option (Int32 × At) :=
  gbs (h_tryBuyTrack (4 : Int32) (0 : Int32) S) (fun v_63 S_64 =>
  if v_63 = (-9999001 : Int32) then
    gbs (h_tryBuyTrack (0 : Int32) x2 S_64) (fun v_65 S_66 =>
    if v_65 = (-9999001 : Int32) then
      gbs (h_tryBuyTrain (4 : Int32) (0 : Int32) S_66) (fun v_67 S_68 =>
      if v_67 = (-9999001 : Int32) then
        gbs (h_tryBuyTrain (0 : Int32) (0 : Int32) S_68) (fun v_69 S_70 =>
        if v_69 = (-9999002 : Int32) then
          gbs (h_tryBuyTrain (0 : Int32) (7 : Int32) S_70) (fun v_71 S_72 =>
          if v_71 = (-9999002 : Int32) then
            gbs (h_tryAbout (3 : Int32) S_72) (fun v_73 S_74 =>
            if (3 : Int32) < v_73 then
              B_refuses_222 S_74 x1 x3 x4
            else
              gbs (h_tryBuyTrain (0 : Int32) (6 : Int32) S_74) (fun v_75 S_76 =>
              if v_75 = (-9999003 : Int32) then
                B_refuses_222 S_76 x1 x3 x4
              else
                B_refuses_377 S_76 x1 x3 (0 : Int32)))
          else
            B_refuses_377 S_72 x1 x3 (0 : Int32))
        else
          B_refuses_377 S_70 x1 x3 (0 : Int32))
      else
        B_refuses_377 S_68 x1 x3 (0 : Int32))
    else
      B_refuses_377 S_66 x1 x3 (0 : Int32))
  else
    B_refuses_377 S_64 x1 x3 (0 : Int32))
noncomputable def B_refuses_117 (S : At) (x1 : Int32) (x2 : Int32) (x3 : Int32) (x4 : Int32) : Option (Int32 × At) :=
  gbs (h_tryContract x3 (6 : Int32) S) (fun v_77 S_78 =>
  if v_77 = (-9999001 : Int32) then
    if x3 = 0 then
      B_refuses_145 S_78 x1 x2 x3 x4
    else
      gbs (h_tryContract (0 : Int32) (6 : Int32) S_78) (fun v_79 S_80 =>
      if v_79 = (-9999002 : Int32) then
        B_refuses_145 S_80 x1 x2 x3 x4
      else
        B_refuses_377 S_80 x1 x3 (0 : Int32))
  else
    B_refuses_377 S_78 x1 x3 (0 : Int32))
noncomputable def B_refuses_63 (S : At) (x1 : Int32) (x2 : Int32) (x3 : Int32) (x4 : Int32) : Option (Int32 × At) :=
  gbs (h_tryCompany (4 : Int32) (7 : Int32) S) (fun v_81 S_82 =>
  if v_81 = (-9999001 : Int32) then
    gbs (h_tryCompany (0 : Int32) (7 : Int32) S_82) (fun v_83 S_84 =>
    if v_83 = (-9999002 : Int32) then
      gbs (h_tryTrain (0 : Int32) x4 (2 : Int32) S_84) (fun v_85 S_86 =>
      if v_85 = (-9999001 : Int32) then
        if x4 = 0 then
          B_refuses_117 S_86 x1 x2 x3 x4
        else
          gbs (h_tryTrain (0 : Int32) (0 : Int32) (2 : Int32) S_86) (fun v_87 S_88 =>
          if v_87 = (-9999002 : Int32) then
            B_refuses_117 S_88 x1 x2 x3 x4
          else
            B_refuses_377 S_88 x1 x3 (0 : Int32))
      else
        B_refuses_377 S_86 x1 x3 (0 : Int32))
    else
      B_refuses_377 S_84 x1 x3 (0 : Int32))
  else
    B_refuses_377 S_82 x1 x3 (0 : Int32))
noncomputable def h_refuses (S : At) : Option (Int32 × At) :=
  gbs (h_tryAbout (0 : Int32) S) (fun v_89 S_90 =>
  gbs (h_tryAbout (1 : Int32) S_90) (fun v_91 S_92 =>
  gbs (h_tryAbout (2 : Int32) S_92) (fun v_93 S_94 =>
  gbs (h_tryCompany (0 : Int32) (2 : Int32) S_94) (fun v_95 S_96 =>
  gbs (h_tryAbout (11 : Int32) S_96) (fun v_97 S_98 =>
  if v_97 = (-9999002 : Int32) then
    gbs (h_tryTrack v_91 (4 : Int32) S_98) (fun v_99 S_100 =>
    if v_99 = (-9999001 : Int32) then
      if v_91 = 0 then
        B_refuses_63 S_100 v_89 v_91 v_93 v_95
      else
        gbs (h_tryTrack (0 : Int32) (4 : Int32) S_100) (fun v_101 S_102 =>
        if v_101 = (-9999002 : Int32) then
          B_refuses_63 S_102 v_89 v_91 v_93 v_95
        else
          B_refuses_377 S_102 v_89 v_93 (0 : Int32))
    else
      B_refuses_377 S_100 v_89 v_93 (0 : Int32))
  else
    B_refuses_377 S_98 v_89 v_93 (0 : Int32))))))
noncomputable def B_sound_465 (S : At) (x1 : Int32) (x2 : Int32) (x3 : Int32) (x5 : Int32) : Option (Int32 × At) :=
  if x5 = 0 then
    some ((0 : Int32), S)
  else
    if x1 = 0 then
      gbs (h_tryAbout (6 : Int32) S) (fun v_1 S_2 =>
      if v_1 < x2 then
        some ((0 : Int32), S_2)
      else
        gbs (h_tryAbout (9 : Int32) S_2) (fun v_3 S_4 =>
        if x3 = v_3 then
          gbs (h_tryAbout (8 : Int32) S_4) (fun v_5 S_6 =>
          if (v_5 - v_5 / (5 : Int32) * (5 : Int32)) = 0 then
            some ((1 : Int32), S_6)
          else
            some ((0 : Int32), S_6))
        else
          some ((0 : Int32), S_4)))
    else
      some ((0 : Int32), S)
noncomputable def B_sound_456 (K376 : At → Int32 → Int32 → Int32 → Int32 → Int32 → Option (Int32 × At)) (S : At) (x1 : Int32) (x2 : Int32) (x3 : Int32) (x6 : Int32) : Option (Int32 × At) :=
  gvi (x6 + (1 : Int32)) (fun x6_7 =>
  K376 S x1 x2 x3 (0 : Int32) x6_7)
noncomputable def B_sound_452 (K376 : At → Int32 → Int32 → Int32 → Int32 → Int32 → Option (Int32 × At)) (S : At) (x1 : Int32) (x2 : Int32) (x3 : Int32) (x6 : Int32) : Option (Int32 × At) :=
  gvi (x6 + (1 : Int32)) (fun x6_8 =>
  K376 S x1 x2 x3 (1 : Int32) x6_8)
noncomputable def Lb_sound_376 (K376 : At → Int32 → Int32 → Int32 → Int32 → Int32 → Option (Int32 × At)) (S : At) (x1 : Int32) (x2 : Int32) (x3 : Int32) (x5 : Int32) (x6 : Int32) : Option (Int32 × At) :=
  gbs (h_tryAbout (2 : Int32) S) (fun v_9 S_10 =>
  if v_9 ≤ x6 then
    B_sound_465 S_10 x1 x2 x3 x5
  else
    if x5 = 0 then
      B_sound_465 S_10 x1 x2 x3 x5
    else
      gbs (h_tryContract x6 (0 : Int32) S_10) (fun v_11 S_12 =>
      gbs (h_tryContract x6 (1 : Int32) S_12) (fun v_13 S_14 =>
      if v_11 = v_13 then
        B_sound_456 K376 S_14 x1 x2 x3 x6
      else
        gbs (h_tryContract x6 (3 : Int32) S_14) (fun v_15 S_16 =>
        if v_15 ≤ 0 then
          B_sound_456 K376 S_16 x1 x2 x3 x6
        else
          gbs (h_tryContract x6 (3 : Int32) S_16) (fun v_17 S_18 =>
          if (10 : Int32) ≤ v_17 then
            B_sound_456 K376 S_18 x1 x2 x3 x6
          else
            gbs (h_tryContract x6 (5 : Int32) S_18) (fun v_19 S_20 =>
            if v_19 = 0 then
              B_sound_452 K376 S_20 x1 x2 x3 x6
            else
              gbs (h_tryContract x6 (4 : Int32) S_20) (fun v_21 S_22 =>
              if v_21 = (-9 : Int32) then
                B_sound_456 K376 S_22 x1 x2 x3 x6
              else
                B_sound_452 K376 S_22 x1 x2 x3 x6)))))))
noncomputable def L_sound_376 : Nat → At → Int32 → Int32 → Int32 → Int32 → Int32 → Option (Int32 × At)
  | 0 => fun _ _ _ _ _ _ => none
  | n + 1 => Lb_sound_376 (L_sound_376 n)
noncomputable def B_sound_364 (K40 : At → Int32 → Int32 → Int32 → Int32 → Int32 → Int32 → Option (Int32 × At)) (S : At) (x1 : Int32) (x2 : Int32) (x3 : Int32) (x4 : Int32) (x6 : Int32) : Option (Int32 × At) :=
  gvi (x6 + (1 : Int32)) (fun x6_23 =>
  K40 S x1 x2 x3 x4 (0 : Int32) x6_23)
noncomputable def B_sound_284 (K40 : At → Int32 → Int32 → Int32 → Int32 → Int32 → Int32 → Option (Int32 × At)) (K255 : At → Int32 → Int32 → Int32 → Int32 → Int32 → Int32 → Int32 → Int32 → Int32 → Int32 → Int32 → Option (Int32 × At)) (S : At) (x1 : Int32) (x2 : Int32) (x3 : Int32) (x4 : Int32) (x5 : Int32) (x6 : Int32) (x7 : Int32) (x8 : Int32) (x9 : Int32) (x11 : Int32) (t0 : Int32) (t1 : Int32) : Option (Int32 × At) :=
  gvi (t1 + t0) (fun x10_24 =>
  gvi (x11 + (1 : Int32)) (fun x11_25 =>
  K255 S x1 x2 x3 x4 x5 x6 x7 x8 x9 x10_24 x11_25))
noncomputable def Lb_sound_255 (K40 : At → Int32 → Int32 → Int32 → Int32 → Int32 → Int32 → Option (Int32 × At)) (K255 : At → Int32 → Int32 → Int32 → Int32 → Int32 → Int32 → Int32 → Int32 → Int32 → Int32 → Int32 → Option (Int32 × At)) (S : At) (x1 : Int32) (x2 : Int32) (x3 : Int32) (x4 : Int32) (x5 : Int32) (x6 : Int32) (x7 : Int32) (x8 : Int32) (x9 : Int32) (x10 : Int32) (x11 : Int32) : Option (Int32 × At) :=
  gbs (h_tryAbout (2 : Int32) S) (fun v_26 S_27 =>
  if v_26 ≤ x11 then
    if x5 = 0 then
      B_sound_364 K40 S_27 x1 x2 x3 x4 x6
    else
      gbs (h_tryCompany x6 (3 : Int32) S_27) (fun v_28 S_29 =>
      if v_28 = x9 then
        gbs (h_tryCompany x6 (4 : Int32) S_29) (fun v_30 S_31 =>
        if v_30 = x10 then
          gbs (h_tryCompany x6 (2 : Int32) S_31) (fun v_32 S_33 =>
          if (4 : Int32) < v_32 then
            B_sound_364 K40 S_33 x1 x2 x3 x4 x6
          else
            gbs (h_tryWorth x6 S_33) (fun v_34 S_35 =>
            gbs (h_tryCompany x6 (0 : Int32) S_35) (fun v_36 S_37 =>
            if v_34 = ((v_36 + ((3 : Int32) * x8)) + ((10 : Int32) * x7)) then
              gvi (x6 + (1 : Int32)) (fun x6_38 =>
              K40 S_37 x1 x2 x3 x4 (1 : Int32) x6_38)
            else
              B_sound_364 K40 S_37 x1 x2 x3 x4 x6)))
        else
          B_sound_364 K40 S_31 x1 x2 x3 x4 x6)
      else
        B_sound_364 K40 S_29 x1 x2 x3 x4 x6)
  else
    gbs (h_tryContract x11 (4 : Int32) S_27) (fun v_39 S_40 =>
    if v_39 = x6 then
      B_sound_284 K40 K255 S_40 x1 x2 x3 x4 x5 x6 x7 x8 x9 x11 (1 : Int32) x10
    else
      B_sound_284 K40 K255 S_40 x1 x2 x3 x4 x5 x6 x7 x8 x9 x11 (0 : Int32) x10))
noncomputable def L_sound_255 (K40 : At → Int32 → Int32 → Int32 → Int32 → Int32 → Int32 → Option (Int32 × At)) : Nat → At → Int32 → Int32 → Int32 → Int32 → Int32 → Int32 → Int32 → Int32 → Int32 → Int32 → Int32 → Option (Int32 × At)
  | 0 => fun _ _ _ _ _ _ _ _ _ _ _ _ => none
  | n + 1 => Lb_sound_255 K40 (L_sound_255 K40 n)
noncomputable def B_sound_243 (K40 : At → Int32 → Int32 → Int32 → Int32 → Int32 → Int32 → Option (Int32 × At)) (K186 : At → Int32 → Int32 → Int32 → Int32 → Int32 → Int32 → Int32 → Int32 → Int32 → Int32 → Int32 → Option (Int32 × At)) (S : At) (x1 : Int32) (x2 : Int32) (x3 : Int32) (x4 : Int32) (x5 : Int32) (x6 : Int32) (x7 : Int32) (x9 : Int32) (x10 : Int32) (x11 : Int32) (t0 : Int32) (t1 : Int32) : Option (Int32 × At) :=
  gvi (t1 + t0) (fun x8_41 =>
  gvi (x11 + (1 : Int32)) (fun x11_42 =>
  K186 S x1 x2 x3 x4 x5 x6 x7 x8_41 x9 x10 x11_42))
noncomputable def B_sound_215 (K40 : At → Int32 → Int32 → Int32 → Int32 → Int32 → Int32 → Option (Int32 × At)) (K186 : At → Int32 → Int32 → Int32 → Int32 → Int32 → Int32 → Int32 → Int32 → Int32 → Int32 → Int32 → Option (Int32 × At)) (S : At) (x1 : Int32) (x2 : Int32) (x3 : Int32) (x4 : Int32) (x5 : Int32) (x6 : Int32) (x7 : Int32) (x8 : Int32) (x10 : Int32) (x11 : Int32) (t0 : Int32) (t1 : Int32) : Option (Int32 × At) :=
  gvi (t1 + t0) (fun x9_43 =>
  gbs (h_tryTrack x11 (3 : Int32) S) (fun v_44 S_45 =>
  if v_44 = x6 then
    gbs (h_tryTrack x11 (2 : Int32) S_45) (fun v_46 S_47 =>
    B_sound_243 K40 K186 S_47 x1 x2 x3 x4 x5 x6 x7 x9_43 x10 x11 v_46 x8)
  else
    B_sound_243 K40 K186 S_45 x1 x2 x3 x4 x5 x6 x7 x9_43 x10 x11 (0 : Int32) x8))
noncomputable def Lb_sound_186 (K40 : At → Int32 → Int32 → Int32 → Int32 → Int32 → Int32 → Option (Int32 × At)) (K186 : At → Int32 → Int32 → Int32 → Int32 → Int32 → Int32 → Int32 → Int32 → Int32 → Int32 → Int32 → Option (Int32 × At)) (S : At) (x1 : Int32) (x2 : Int32) (x3 : Int32) (x4 : Int32) (x5 : Int32) (x6 : Int32) (x7 : Int32) (x8 : Int32) (x9 : Int32) (x10 : Int32) (x11 : Int32) : Option (Int32 × At) :=
  gbs (h_tryAbout (1 : Int32) S) (fun v_48 S_49 =>
  if v_48 ≤ x11 then
    L_sound_255 K40 9 S_49 x1 x2 x3 x4 x5 x6 x7 x8 x9 x10 (0 : Int32)
  else
    gbs (h_tryTrack x11 (3 : Int32) S_49) (fun v_50 S_51 =>
    if v_50 = x6 then
      B_sound_215 K40 K186 S_51 x1 x2 x3 x4 x5 x6 x7 x8 x10 x11 (1 : Int32) x9
    else
      B_sound_215 K40 K186 S_51 x1 x2 x3 x4 x5 x6 x7 x8 x10 x11 (0 : Int32) x9))
noncomputable def L_sound_186 (K40 : At → Int32 → Int32 → Int32 → Int32 → Int32 → Int32 → Option (Int32 × At)) : Nat → At → Int32 → Int32 → Int32 → Int32 → Int32 → Int32 → Int32 → Int32 → Int32 → Int32 → Int32 → Option (Int32 × At)
  | 0 => fun _ _ _ _ _ _ _ _ _ _ _ _ => none
  | n + 1 => Lb_sound_186 K40 (L_sound_186 K40 n)
noncomputable def B_sound_174 (K40 : At → Int32 → Int32 → Int32 → Int32 → Int32 → Int32 → Option (Int32 × At)) (K97 : At → Int32 → Int32 → Int32 → Int32 → Int32 → Int32 → Int32 → Int32 → Int32 → Int32 → Int32 → Option (Int32 × At)) (S : At) (x1 : Int32) (x2 : Int32) (x3 : Int32) (x4 : Int32) (x6 : Int32) (x7 : Int32) (x8 : Int32) (x9 : Int32) (x10 : Int32) (x11 : Int32) : Option (Int32 × At) :=
  gvi (x11 + (1 : Int32)) (fun x11_52 =>
  K97 S x1 x2 x3 x4 (0 : Int32) x6 x7 x8 x9 x10 x11_52)
noncomputable def Lb_sound_97 (K40 : At → Int32 → Int32 → Int32 → Int32 → Int32 → Int32 → Option (Int32 × At)) (K97 : At → Int32 → Int32 → Int32 → Int32 → Int32 → Int32 → Int32 → Int32 → Int32 → Int32 → Int32 → Option (Int32 × At)) (S : At) (x1 : Int32) (x2 : Int32) (x3 : Int32) (x4 : Int32) (x5 : Int32) (x6 : Int32) (x7 : Int32) (x8 : Int32) (x9 : Int32) (x10 : Int32) (x11 : Int32) : Option (Int32 × At) :=
  gbs (h_tryCompany x6 (2 : Int32) S) (fun v_53 S_54 =>
  if v_53 ≤ x11 then
    L_sound_186 K40 17 S_54 x1 x2 x3 x4 x5 x6 x7 x8 x9 x10 (0 : Int32)
  else
    if x5 = 0 then
      L_sound_186 K40 17 S_54 x1 x2 x3 x4 x5 x6 x7 x8 x9 x10 (0 : Int32)
    else
      gbs (h_tryTrain x6 x11 (0 : Int32) S_54) (fun v_55 S_56 =>
      gvi (x7 + v_55) (fun x7_57 =>
      gbs (h_tryTrain x6 x11 (0 : Int32) S_56) (fun v_58 S_59 =>
      if v_58 < (x4 - (1 : Int32)) then
        B_sound_174 K40 K97 S_59 x1 x2 x3 x4 x6 x7_57 x8 x9 x10 x11
      else
        gbs (h_tryTrain x6 x11 (0 : Int32) S_59) (fun v_60 S_61 =>
        if x4 < v_60 then
          B_sound_174 K40 K97 S_61 x1 x2 x3 x4 x6 x7_57 x8 x9 x10 x11
        else
          gbs (h_tryTrain x6 x11 (0 : Int32) S_61) (fun v_62 S_63 =>
          if v_62 ≤ 0 then
            B_sound_174 K40 K97 S_63 x1 x2 x3 x4 x6 x7_57 x8 x9 x10 x11
          else
            gvi (x11 + (1 : Int32)) (fun x11_64 =>
            K97 S_63 x1 x2 x3 x4 (1 : Int32) x6 x7_57 x8 x9 x10 x11_64)))))))
noncomputable def L_sound_97 (K40 : At → Int32 → Int32 → Int32 → Int32 → Int32 → Int32 → Option (Int32 × At)) : Nat → At → Int32 → Int32 → Int32 → Int32 → Int32 → Int32 → Int32 → Int32 → Int32 → Int32 → Int32 → Option (Int32 × At)
  | 0 => fun _ _ _ _ _ _ _ _ _ _ _ _ => none
  | n + 1 => Lb_sound_97 K40 (L_sound_97 K40 n)
noncomputable def Lb_sound_40 (K40 : At → Int32 → Int32 → Int32 → Int32 → Int32 → Int32 → Option (Int32 × At)) (S : At) (x1 : Int32) (x2 : Int32) (x3 : Int32) (x4 : Int32) (x5 : Int32) (x6 : Int32) : Option (Int32 × At) :=
  if (4 : Int32) ≤ x6 then
    L_sound_376 9 S x1 x2 x3 x5 (0 : Int32)
  else
    if x5 = 0 then
      L_sound_376 9 S x1 x2 x3 x5 (0 : Int32)
    else
      gbs (h_tryCompany x6 (0 : Int32) S) (fun v_65 S_66 =>
      gvi (x1 + v_65) (fun x1_67 =>
      gbs (h_tryCompany x6 (5 : Int32) S_66) (fun v_68 S_69 =>
      gvi (x2 + v_68) (fun x2_70 =>
      gbs (h_tryCompany x6 (6 : Int32) S_69) (fun v_71 S_72 =>
      gvi (x3 + v_71) (fun x3_73 =>
      L_sound_97 K40 5 S_72 x1_67 x2_70 x3_73 x4 x5 x6 (0 : Int32) (0 : Int32) (0 : Int32) (0 : Int32) (0 : Int32)))))))
noncomputable def L_sound_40 : Nat → At → Int32 → Int32 → Int32 → Int32 → Int32 → Int32 → Option (Int32 × At)
  | 0 => fun _ _ _ _ _ _ _ => none
  | n + 1 => Lb_sound_40 (L_sound_40 n)
noncomputable def B_sound_34 (S : At) (x1 : Int32) (x2 : Int32) (x3 : Int32) (x4 : Int32) : Option (Int32 × At) :=
  L_sound_40 5 S x1 x2 x3 x4 (0 : Int32) (0 : Int32)
noncomputable def h_sound (S : At) : Option (Int32 × At) :=
  gbs (h_tryAbout (5 : Int32) S) (fun v_74 S_75 =>
  gbs (h_tryAbout (3 : Int32) S_75) (fun v_76 S_77 =>
  if v_76 < (1 : Int32) then
    B_sound_34 S_77 v_74 (0 : Int32) (0 : Int32) v_76
  else
    if (6 : Int32) < v_76 then
      B_sound_34 S_77 v_74 (0 : Int32) (0 : Int32) v_76
    else
      L_sound_40 5 S_77 v_74 (0 : Int32) (0 : Int32) v_76 (1 : Int32) (0 : Int32)))
noncomputable def B_ways_532 (S : At) (x7 : Int32) (x10 : Int32) (x11 : Int32) : Option (Int32 × At) :=
  if x10 = 0 then
    some ((0 : Int32), S)
  else
    if x11 = x7 then
      some ((1 : Int32), S)
    else
      some ((0 : Int32), S)
noncomputable def B_ways_523 (K244 : At → Int32 → Int32 → Int32 → Int32 → Int32 → Int32 → Int32 → Int32 → Int32 → Option (Int32 × At)) (S : At) (x3 : Int32) (x4 : Int32) (x5 : Int32) (x6 : Int32) (x7 : Int32) (x9 : Int32) (x11 : Int32) (x12 : Int32) : Option (Int32 × At) :=
  gvi (x12 + (1 : Int32)) (fun x12_1 =>
  K244 S x3 x4 x5 x6 x7 x9 (0 : Int32) x11 x12_1)
noncomputable def B_ways_519 (K244 : At → Int32 → Int32 → Int32 → Int32 → Int32 → Int32 → Int32 → Int32 → Int32 → Option (Int32 × At)) (S : At) (x3 : Int32) (x4 : Int32) (x5 : Int32) (x6 : Int32) (x7 : Int32) (x9 : Int32) (x11 : Int32) (x12 : Int32) : Option (Int32 × At) :=
  gvi (x12 + (1 : Int32)) (fun x12_2 =>
  K244 S x3 x4 x5 x6 x7 x9 (1 : Int32) x11 x12_2)
noncomputable def B_ways_482 (K244 : At → Int32 → Int32 → Int32 → Int32 → Int32 → Int32 → Int32 → Int32 → Int32 → Option (Int32 × At)) (S : At) (x3 : Int32) (x4 : Int32) (x5 : Int32) (x6 : Int32) (x7 : Int32) (x9 : Int32) (x12 : Int32) (x19 : Int32) (t0 : Int32) : Option (Int32 × At) :=
  if x19 = (-9 : Int32) then
    B_ways_519 K244 S x3 x4 x5 x6 x7 x9 t0 x12
  else
    if x7 = (-9 : Int32) then
      B_ways_523 K244 S x3 x4 x5 x6 x7 x9 t0 x12
    else
      if x19 < x7 then
        B_ways_523 K244 S x3 x4 x5 x6 x7 x9 t0 x12
      else
        if x12 = x9 then
          if x19 = x7 then
            B_ways_519 K244 S x3 x4 x5 x6 x7 x9 t0 x12
          else
            B_ways_523 K244 S x3 x4 x5 x6 x7 x9 t0 x12
        else
          B_ways_519 K244 S x3 x4 x5 x6 x7 x9 t0 x12
noncomputable def B_ways_447 (K244 : At → Int32 → Int32 → Int32 → Int32 → Int32 → Int32 → Int32 → Int32 → Int32 → Option (Int32 × At)) (S : At) (x3 : Int32) (x4 : Int32) (x5 : Int32) (x6 : Int32) (x7 : Int32) (x9 : Int32) (x11 : Int32) (x12 : Int32) (t0 : Int32) : Option (Int32 × At) :=
  if t0 = (-9 : Int32) then
    B_ways_482 K244 S x3 x4 x5 x6 x7 x9 x12 t0 x11
  else
    if x11 = (-9 : Int32) then
      B_ways_482 K244 S x3 x4 x5 x6 x7 x9 x12 t0 t0
    else
      if x11 ≤ t0 then
        B_ways_482 K244 S x3 x4 x5 x6 x7 x9 x12 t0 x11
      else
        B_ways_482 K244 S x3 x4 x5 x6 x7 x9 x12 t0 t0
noncomputable def B_ways_416 (K244 : At → Int32 → Int32 → Int32 → Int32 → Int32 → Int32 → Int32 → Int32 → Int32 → Option (Int32 × At)) (S : At) (x3 : Int32) (x4 : Int32) (x5 : Int32) (x6 : Int32) (x7 : Int32) (x9 : Int32) (x11 : Int32) (x12 : Int32) (x13 : Int32) (x14 : Int32) (x17 : Int32) (t0 : Int32) : Option (Int32 × At) :=
  if x13 = (-9 : Int32) then
    B_ways_447 K244 S x3 x4 x5 x6 x7 x9 x11 x12 (-9 : Int32)
  else
    if x14 < 0 then
      B_ways_447 K244 S x3 x4 x5 x6 x7 x9 x11 x12 (-9 : Int32)
    else
      if t0 = (-9 : Int32) then
        B_ways_447 K244 S x3 x4 x5 x6 x7 x9 x11 x12 (-9 : Int32)
      else
        B_ways_447 K244 S x3 x4 x5 x6 x7 x9 x11 x12 (x17 + t0)
noncomputable def B_ways_386 (K244 : At → Int32 → Int32 → Int32 → Int32 → Int32 → Int32 → Int32 → Int32 → Int32 → Option (Int32 × At)) (S : At) (x3 : Int32) (x4 : Int32) (x5 : Int32) (x6 : Int32) (x7 : Int32) (x9 : Int32) (x11 : Int32) (x12 : Int32) (x13 : Int32) (x14 : Int32) (x17 : Int32) : Option (Int32 × At) :=
  if x13 = (-9 : Int32) then
    B_ways_416 K244 S x3 x4 x5 x6 x7 x9 x11 x12 x13 x14 x17 (-9 : Int32)
  else
    if (1 : Int32) ≤ x14 then
      gbs (h_tryWay x3 x13 x5 x14 (0 : Int32) S) (fun v_3 S_4 =>
      B_ways_416 K244 S_4 x3 x4 x5 x6 x7 x9 x11 x12 x13 x14 x17 v_3)
    else
      B_ways_416 K244 S x3 x4 x5 x6 x7 x9 x11 x12 x13 x14 x17 (-9 : Int32)
noncomputable def B_ways_356 (K244 : At → Int32 → Int32 → Int32 → Int32 → Int32 → Int32 → Int32 → Int32 → Int32 → Option (Int32 × At)) (S : At) (x3 : Int32) (x4 : Int32) (x5 : Int32) (x6 : Int32) (x7 : Int32) (x9 : Int32) (x11 : Int32) (x12 : Int32) (x13 : Int32) (x14 : Int32) (t0 : Int32) : Option (Int32 × At) :=
  gbs (h_tryTrack x12 (2 : Int32) S) (fun v_5 S_6 =>
  gvi (t0 * v_5) (fun x17_7 =>
  if x13 = x5 then
    if x14 < 0 then
      B_ways_386 K244 S_6 x3 x4 x5 x6 x7 x9 x11 x12 x13 x14 x17_7
    else
      B_ways_416 K244 S_6 x3 x4 x5 x6 x7 x9 x11 x12 x13 x14 x17_7 (0 : Int32)
  else
    B_ways_386 K244 S_6 x3 x4 x5 x6 x7 x9 x11 x12 x13 x14 x17_7))
noncomputable def B_ways_305 (K244 : At → Int32 → Int32 → Int32 → Int32 → Int32 → Int32 → Int32 → Int32 → Int32 → Option (Int32 × At)) (S : At) (x3 : Int32) (x4 : Int32) (x5 : Int32) (x6 : Int32) (x7 : Int32) (x9 : Int32) (x11 : Int32) (x12 : Int32) (t0 : Int32) : Option (Int32 × At) :=
  gbs (h_tryTrack x12 (2 : Int32) S) (fun v_8 S_9 =>
  gvi (x6 - v_8) (fun x14_10 =>
  gbs (h_tryTrack x12 (3 : Int32) S_9) (fun v_11 S_12 =>
  if v_11 = x3 then
    B_ways_356 K244 S_12 x3 x4 x5 x6 x7 x9 x11 x12 t0 x14_10 (0 : Int32)
  else
    if v_11 = (-9 : Int32) then
      B_ways_356 K244 S_12 x3 x4 x5 x6 x7 x9 x11 x12 t0 x14_10 (1 : Int32)
    else
      gbs (h_tryCompany v_11 (1 : Int32) S_12) (fun v_13 S_14 =>
      B_ways_356 K244 S_14 x3 x4 x5 x6 x7 x9 x11 x12 t0 x14_10 v_13))))
noncomputable def Lb_ways_244 (K244 : At → Int32 → Int32 → Int32 → Int32 → Int32 → Int32 → Int32 → Int32 → Int32 → Option (Int32 × At)) (S : At) (x3 : Int32) (x4 : Int32) (x5 : Int32) (x6 : Int32) (x7 : Int32) (x9 : Int32) (x10 : Int32) (x11 : Int32) (x12 : Int32) : Option (Int32 × At) :=
  gbs (h_tryAbout (1 : Int32) S) (fun v_15 S_16 =>
  if v_15 ≤ x12 then
    B_ways_532 S_16 x7 x10 x11
  else
    if x10 = 0 then
      B_ways_532 S_16 x7 x10 x11
    else
      gbs (h_tryTrack x12 (0 : Int32) S_16) (fun v_17 S_18 =>
      if v_17 = x4 then
        gbs (h_tryTrack x12 (1 : Int32) S_18) (fun v_23 S_24 =>
        B_ways_305 K244 S_24 x3 x4 x5 x6 x7 x9 x11 x12 v_23)
      else
        gbs (h_tryTrack x12 (1 : Int32) S_18) (fun v_19 S_20 =>
        if v_19 = x4 then
          gbs (h_tryTrack x12 (0 : Int32) S_20) (fun v_21 S_22 =>
          B_ways_305 K244 S_22 x3 x4 x5 x6 x7 x9 x11 x12 v_21)
        else
          B_ways_305 K244 S_20 x3 x4 x5 x6 x7 x9 x11 x12 (-9 : Int32))))
noncomputable def L_ways_244 : Nat → At → Int32 → Int32 → Int32 → Int32 → Int32 → Int32 → Int32 → Int32 → Int32 → Option (Int32 × At)
  | 0 => fun _ _ _ _ _ _ _ _ _ _ => none
  | n + 1 => Lb_ways_244 (L_ways_244 n)
noncomputable def B_ways_237 (S : At) (x3 : Int32) (x4 : Int32) (x5 : Int32) (x6 : Int32) (x7 : Int32) (x9 : Int32) (x10 : Int32) : Option (Int32 × At) :=
  L_ways_244 17 S x3 x4 x5 x6 x7 x9 x10 (-9 : Int32) (0 : Int32)
noncomputable def B_ways_180 (S : At) (x3 : Int32) (x4 : Int32) (x5 : Int32) (x6 : Int32) (x7 : Int32) (x9 : Int32) (t0 : Int32) : Option (Int32 × At) :=
  if x6 ≤ (1 : Int32) then
    B_ways_237 S x3 x4 x5 x6 x7 x9 t0
  else
    if t0 = 0 then
      B_ways_237 S x3 x4 x5 x6 x7 x9 t0
    else
      gbs (h_tryWay x3 x4 x5 (x6 - (1 : Int32)) (0 : Int32) S) (fun v_25 S_26 =>
      if v_25 = (-9 : Int32) then
        B_ways_237 S_26 x3 x4 x5 x6 x7 x9 (1 : Int32)
      else
        if x7 = (-9 : Int32) then
          B_ways_237 S_26 x3 x4 x5 x6 x7 x9 (0 : Int32)
        else
          if v_25 < x7 then
            B_ways_237 S_26 x3 x4 x5 x6 x7 x9 (0 : Int32)
          else
            B_ways_237 S_26 x3 x4 x5 x6 x7 x9 (1 : Int32))
noncomputable def h_ways (a1 : Int32) (S : At) : Option (Int32 × At) :=
  gbs (h_tryAbout (0 : Int32) S) (fun v_27 S_28 =>
  gvi (a1 - a1 / (4 : Int32) * (4 : Int32)) (fun x3_29 =>
  gck (!decide (v_27 = 0)) (
  gvi ((a1 / (4 : Int32)) - (a1 / (4 : Int32)) / v_27 * v_27) (fun x4_30 =>
  gck (!decide (v_27 - (1 : Int32) = 0)) (
  gck (!decide (v_27 = 0)) (
  gvi (((x4_30 + (1 : Int32)) + ((a1 / (64 : Int32)) - (a1 / (64 : Int32)) / (v_27 - (1 : Int32)) * (v_27 - (1 : Int32)))) - ((x4_30 + (1 : Int32)) + ((a1 / (64 : Int32)) - (a1 / (64 : Int32)) / (v_27 - (1 : Int32)) * (v_27 - (1 : Int32)))) / v_27 * v_27) (fun x5_31 =>
  gvi ((1 : Int32) + ((a1 / (1024 : Int32)) - (a1 / (1024 : Int32)) / (24 : Int32) * (24 : Int32))) (fun x6_32 =>
  gbs (h_tryWay x3_29 x4_30 x5_31 x6_32 (0 : Int32) S_28) (fun v_33 S_34 =>
  gbs (h_tryWay x3_29 x4_30 x5_31 x6_32 (1 : Int32) S_34) (fun v_35 S_36 =>
  gbs (h_tryWay x3_29 x4_30 x5_31 x6_32 (3 : Int32) S_36) (fun v_37 S_38 =>
  gbs (h_tryWay x3_29 x5_31 x4_30 x6_32 (0 : Int32) S_38) (fun v_39 S_40 =>
  if v_33 = v_39 then
    gbs (h_tryWay x3_29 x5_31 x4_30 x6_32 (1 : Int32) S_40) (fun v_41 S_42 =>
    if v_35 = v_41 then
      if v_33 = (-9 : Int32) then
        B_ways_180 S_42 x3_29 x4_30 x5_31 x6_32 v_33 v_37 (1 : Int32)
      else
        if x6_32 < v_35 then
          B_ways_180 S_42 x3_29 x4_30 x5_31 x6_32 v_33 v_37 (0 : Int32)
        else
          if v_33 < 0 then
            B_ways_180 S_42 x3_29 x4_30 x5_31 x6_32 v_33 v_37 (0 : Int32)
          else
            gbs (h_tryWay x3_29 x4_30 x5_31 x6_32 (2 : Int32) S_42) (fun v_43 S_44 =>
            if v_35 < v_43 then
              B_ways_180 S_44 x3_29 x4_30 x5_31 x6_32 v_33 v_37 (0 : Int32)
            else
              gbs (h_tryWay x3_29 x4_30 x5_31 v_35 (0 : Int32) S_44) (fun v_45 S_46 =>
              if v_45 = v_33 then
                B_ways_180 S_46 x3_29 x4_30 x5_31 x6_32 v_33 v_37 (1 : Int32)
              else
                B_ways_180 S_46 x3_29 x4_30 x5_31 x6_32 v_33 v_37 (0 : Int32)))
    else
      B_ways_180 S_42 x3_29 x4_30 x5_31 x6_32 v_33 v_37 (0 : Int32))
  else
    B_ways_180 S_40 x3_29 x4_30 x5_31 x6_32 v_33 v_37 (0 : Int32)))))))))))))
noncomputable def B_rounds_406 (S : At) (x1 : Int32) (x5 : Int32) (x7 : Int32) : Option (Int32 × At) :=
  if x7 = 0 then
    some ((0 : Int32), S)
  else
    gbs (h_tryCompany x1 (0 : Int32) S) (fun v_1 S_2 =>
    if v_1 = x5 then
      some ((1 : Int32), S_2)
    else
      some ((0 : Int32), S_2))
noncomputable def Lb_rounds_360 (K52 : At → Int32 → Int32 → Int32 → Int32 → Int32 → Int32 → Int32 → Option (Int32 × At)) (K360 : At → Int32 → Int32 → Int32 → Int32 → Int32 → Int32 → Int32 → Int32 → Option (Int32 × At)) (S : At) (x1 : Int32) (x3 : Int32) (x4 : Int32) (x5 : Int32) (x6 : Int32) (x7 : Int32) (x8 : Int32) (x17 : Int32) : Option (Int32 × At) :=
  gbs (h_tryCompany x1 (2 : Int32) S) (fun v_3 S_4 =>
  if v_3 ≤ x17 then
    gvi (x8 + (1 : Int32)) (fun x8_5 =>
    K52 S_4 x1 x3 x4 x5 x6 x7 x8_5)
  else
    if x7 = 0 then
      gvi (x8 + (1 : Int32)) (fun x8_6 =>
      K52 S_4 x1 x3 x4 x5 x6 x7 x8_6)
    else
      gbs (h_tryTrain x1 x17 (1 : Int32) S_4) (fun v_7 S_8 =>
      if v_7 = 0 then
        gvi (x17 + (1 : Int32)) (fun x17_10 =>
        K360 S_8 x1 x3 x4 x5 x6 (1 : Int32) x8 x17_10)
      else
        gvi (x17 + (1 : Int32)) (fun x17_9 =>
        K360 S_8 x1 x3 x4 x5 x6 (0 : Int32) x8 x17_9)))
noncomputable def L_rounds_360 (K52 : At → Int32 → Int32 → Int32 → Int32 → Int32 → Int32 → Int32 → Option (Int32 × At)) : Nat → At → Int32 → Int32 → Int32 → Int32 → Int32 → Int32 → Int32 → Int32 → Option (Int32 × At)
  | 0 => fun _ _ _ _ _ _ _ _ _ => none
  | n + 1 => Lb_rounds_360 K52 (L_rounds_360 K52 n)
noncomputable def B_rounds_354 (K52 : At → Int32 → Int32 → Int32 → Int32 → Int32 → Int32 → Int32 → Option (Int32 × At)) (S : At) (x1 : Int32) (x3 : Int32) (x4 : Int32) (x5 : Int32) (x6 : Int32) (x8 : Int32) : Option (Int32 × At) :=
  L_rounds_360 K52 5 S x1 x3 x4 x5 x6 (0 : Int32) x8 (0 : Int32)
noncomputable def B_rounds_343 (K52 : At → Int32 → Int32 → Int32 → Int32 → Int32 → Int32 → Int32 → Option (Int32 × At)) (S : At) (x1 : Int32) (x3 : Int32) (x4 : Int32) (x5 : Int32) (x6 : Int32) (x8 : Int32) : Option (Int32 × At) :=
  gbs (h_sound S) (fun v_11 S_12 =>
  if v_11 = 0 then
    B_rounds_354 K52 S_12 x1 x3 x4 x5 x6 x8
  else
    L_rounds_360 K52 5 S_12 x1 x3 x4 x5 x6 (1 : Int32) x8 (0 : Int32))
noncomputable def B_rounds_338 (K52 : At → Int32 → Int32 → Int32 → Int32 → Int32 → Int32 → Int32 → Option (Int32 × At)) (S : At) (x1 : Int32) (x3 : Int32) (x4 : Int32) (x5 : Int32) (x6 : Int32) (x8 : Int32) (x16 : Int32) (t0 : Int32) : Option (Int32 × At) :=
  if t0 = x16 then
    B_rounds_343 K52 S x1 x3 x4 x5 x6 x8
  else
    B_rounds_354 K52 S x1 x3 x4 x5 x6 x8
noncomputable def B_rounds_326 (K52 : At → Int32 → Int32 → Int32 → Int32 → Int32 → Int32 → Int32 → Option (Int32 × At)) (S : At) (x1 : Int32) (x3 : Int32) (x4 : Int32) (x5 : Int32) (x6 : Int32) (x8 : Int32) (x16 : Int32) : Option (Int32 × At) :=
  if x6 = x8 then
    B_rounds_338 K52 S x1 x3 x4 x5 x6 x8 x16 (1 : Int32)
  else
    B_rounds_338 K52 S x1 x3 x4 x5 x6 x8 x16 (0 : Int32)
noncomputable def B_rounds_312 (K52 : At → Int32 → Int32 → Int32 → Int32 → Int32 → Int32 → Int32 → Option (Int32 × At)) (S : At) (x1 : Int32) (x3 : Int32) (x4 : Int32) (x5 : Int32) (x6 : Int32) (x8 : Int32) (x16 : Int32) : Option (Int32 × At) :=
  if x6 = (-9 : Int32) then
    B_rounds_326 K52 S x1 x3 x4 x5 x6 x8 x16
  else
    if x6 < x8 then
      B_rounds_343 K52 S x1 x3 x4 x5 x6 x8
    else
      B_rounds_326 K52 S x1 x3 x4 x5 x6 x8 x16
noncomputable def B_rounds_276 (K52 : At → Int32 → Int32 → Int32 → Int32 → Int32 → Int32 → Int32 → Option (Int32 × At)) (S : At) (x1 : Int32) (x3 : Int32) (x4 : Int32) (x5 : Int32) (x6 : Int32) (x8 : Int32) (x16 : Int32) (t0 : Int32) (t1 : Int32) (t2 : Int32) : Option (Int32 × At) :=
  if t2 = (t1 + t0) then
    if x16 = 0 then
      B_rounds_312 K52 S x1 x3 x4 x5 x6 x8 x16
    else
      gbs (h_tryCompany x1 (2 : Int32) S) (fun v_13 S_14 =>
      if v_13 = 0 then
        gbs (h_tryCompany x1 (3 : Int32) S_14) (fun v_15 S_16 =>
        if v_15 = 0 then
          gbs (h_tryCompany x1 (4 : Int32) S_16) (fun v_17 S_18 =>
          if v_17 = 0 then
            B_rounds_312 K52 S_18 x1 x3 x4 x5 x6 x8 x16
          else
            B_rounds_354 K52 S_18 x1 x3 x4 x5 x6 x8)
        else
          B_rounds_354 K52 S_16 x1 x3 x4 x5 x6 x8)
      else
        B_rounds_354 K52 S_14 x1 x3 x4 x5 x6 x8)
  else
    B_rounds_354 K52 S x1 x3 x4 x5 x6 x8
noncomputable def B_rounds_254 (K52 : At → Int32 → Int32 → Int32 → Int32 → Int32 → Int32 → Int32 → Option (Int32 × At)) (S : At) (x1 : Int32) (x3 : Int32) (x4 : Int32) (x5 : Int32) (x6 : Int32) (x8 : Int32) (x10 : Int32) (x16 : Int32) (t0 : Int32) (t1 : Int32) : Option (Int32 × At) :=
  if t1 = t0 then
    gbs (h_tryCompany x1 (6 : Int32) S) (fun v_19 S_20 =>
    if x16 = 0 then
      B_rounds_276 K52 S_20 x1 x3 x4 x5 x6 x8 x16 (0 : Int32) x10 v_19
    else
      B_rounds_276 K52 S_20 x1 x3 x4 x5 x6 x8 x16 (1 : Int32) x10 v_19)
  else
    B_rounds_354 K52 S x1 x3 x4 x5 x6 x8
noncomputable def B_rounds_209 (K52 : At → Int32 → Int32 → Int32 → Int32 → Int32 → Int32 → Int32 → Option (Int32 × At)) (S : At) (x1 : Int32) (x3 : Int32) (x4 : Int32) (x5 : Int32) (x6 : Int32) (x8 : Int32) (x10 : Int32) (x13 : Int32) (x14 : Int32) (x15 : Int32) (t0 : Int32) : Option (Int32 × At) :=
  gbs (h_tryAbout (4 : Int32) S) (fun v_21 S_22 =>
  if v_21 = (x3 + x8) then
    gbs (h_tryAbout (9 : Int32) S_22) (fun v_23 S_24 =>
    if v_23 = (x14 + x15) then
      gbs (h_tryCompany x1 (0 : Int32) S_24) (fun v_25 S_26 =>
      if t0 = 0 then
        B_rounds_254 K52 S_26 x1 x3 x4 x5 x6 x8 x10 t0 x13 v_25
      else
        B_rounds_254 K52 S_26 x1 x3 x4 x5 x6 x8 x10 t0 (0 : Int32) v_25)
    else
      B_rounds_354 K52 S_24 x1 x3 x4 x5 x6 x8)
  else
    B_rounds_354 K52 S_22 x1 x3 x4 x5 x6 x8)
noncomputable def B_rounds_166 (K52 : At → Int32 → Int32 → Int32 → Int32 → Int32 → Int32 → Int32 → Option (Int32 × At)) (K128 : At → Int32 → Int32 → Int32 → Int32 → Int32 → Int32 → Int32 → Int32 → Int32 → Int32 → Int32 → Option (Int32 × At)) (S : At) (x1 : Int32) (x3 : Int32) (x4 : Int32) (x5 : Int32) (x6 : Int32) (x8 : Int32) (x9 : Int32) (x10 : Int32) (x11 : Int32) (x13 : Int32) (t0 : Int32) (t1 : Int32) : Option (Int32 × At) :=
  gvi (t1 + t0) (fun x12_27 =>
  gvi (x13 + (1 : Int32)) (fun x13_28 =>
  K128 S x1 x3 x4 x5 x6 x8 x9 x10 x11 x12_27 x13_28))
noncomputable def Lb_rounds_128 (K52 : At → Int32 → Int32 → Int32 → Int32 → Int32 → Int32 → Int32 → Option (Int32 × At)) (K128 : At → Int32 → Int32 → Int32 → Int32 → Int32 → Int32 → Int32 → Int32 → Int32 → Int32 → Int32 → Option (Int32 × At)) (S : At) (x1 : Int32) (x3 : Int32) (x4 : Int32) (x5 : Int32) (x6 : Int32) (x8 : Int32) (x9 : Int32) (x10 : Int32) (x11 : Int32) (x12 : Int32) (x13 : Int32) : Option (Int32 × At) :=
  gbs (h_tryAbout (2 : Int32) S) (fun v_29 S_30 =>
  if v_29 ≤ x13 then
    gvi ((x9 - x11) - x12) (fun x13_31 =>
    gbs (h_tryAbout (9 : Int32) S_30) (fun v_32 S_33 =>
    gbs (h_X10_endRound S_33) (fun v_34 S_35 =>
    if 0 ≤ x13_31 then
      B_rounds_209 K52 S_35 x1 x3 x4 x5 x6 x8 x10 x13_31 v_32 v_34 (0 : Int32)
    else
      B_rounds_209 K52 S_35 x1 x3 x4 x5 x6 x8 x10 x13_31 v_32 v_34 (1 : Int32))))
  else
    gbs (h_tryContract x13 (4 : Int32) S_30) (fun v_36 S_37 =>
    if v_36 = x1 then
      gbs (h_tryContract x13 (5 : Int32) S_37) (fun v_38 S_39 =>
      if v_38 = 0 then
        B_rounds_166 K52 K128 S_39 x1 x3 x4 x5 x6 x8 x9 x10 x11 x13 (5 : Int32) x12
      else
        B_rounds_166 K52 K128 S_39 x1 x3 x4 x5 x6 x8 x9 x10 x11 x13 (0 : Int32) x12)
    else
      B_rounds_166 K52 K128 S_37 x1 x3 x4 x5 x6 x8 x9 x10 x11 x13 (0 : Int32) x12))
noncomputable def L_rounds_128 (K52 : At → Int32 → Int32 → Int32 → Int32 → Int32 → Int32 → Int32 → Option (Int32 × At)) : Nat → At → Int32 → Int32 → Int32 → Int32 → Int32 → Int32 → Int32 → Int32 → Int32 → Int32 → Int32 → Option (Int32 × At)
  | 0 => fun _ _ _ _ _ _ _ _ _ _ _ _ => none
  | n + 1 => Lb_rounds_128 K52 (L_rounds_128 K52 n)
noncomputable def Lb_rounds_92 (K52 : At → Int32 → Int32 → Int32 → Int32 → Int32 → Int32 → Int32 → Option (Int32 × At)) (K92 : At → Int32 → Int32 → Int32 → Int32 → Int32 → Int32 → Int32 → Int32 → Int32 → Int32 → Option (Int32 × At)) (S : At) (x1 : Int32) (x3 : Int32) (x4 : Int32) (x5 : Int32) (x6 : Int32) (x8 : Int32) (x9 : Int32) (x10 : Int32) (x11 : Int32) (x12 : Int32) : Option (Int32 × At) :=
  gbs (h_tryCompany x1 (2 : Int32) S) (fun v_40 S_41 =>
  if v_40 ≤ x12 then
    L_rounds_128 K52 9 S_41 x1 x3 x4 x5 x6 x8 x9 x10 x11 (0 : Int32) (0 : Int32)
  else
    gbs (h_tryTrain x1 x12 (0 : Int32) S_41) (fun v_42 S_43 =>
    gvi (x11 + v_42) (fun x11_44 =>
    gvi (x12 + (1 : Int32)) (fun x12_45 =>
    K92 S_43 x1 x3 x4 x5 x6 x8 x9 x10 x11_44 x12_45))))
noncomputable def L_rounds_92 (K52 : At → Int32 → Int32 → Int32 → Int32 → Int32 → Int32 → Int32 → Option (Int32 × At)) : Nat → At → Int32 → Int32 → Int32 → Int32 → Int32 → Int32 → Int32 → Int32 → Int32 → Int32 → Option (Int32 × At)
  | 0 => fun _ _ _ _ _ _ _ _ _ _ _ => none
  | n + 1 => Lb_rounds_92 K52 (L_rounds_92 K52 n)
noncomputable def Lb_rounds_52 (K52 : At → Int32 → Int32 → Int32 → Int32 → Int32 → Int32 → Int32 → Option (Int32 × At)) (S : At) (x1 : Int32) (x3 : Int32) (x4 : Int32) (x5 : Int32) (x6 : Int32) (x7 : Int32) (x8 : Int32) : Option (Int32 × At) :=
  if x4 < x8 then
    B_rounds_406 S x1 x5 x7
  else
    if x7 = 0 then
      B_rounds_406 S x1 x5 x7
    else
      gbs (h_tryCompany x1 (0 : Int32) S) (fun v_46 S_47 =>
      gbs (h_tryCompany x1 (6 : Int32) S_47) (fun v_48 S_49 =>
      gbs (h_tryCompany x1 (3 : Int32) S_49) (fun v_50 S_51 =>
      L_rounds_92 K52 5 S_51 x1 x3 x4 x5 x6 x8 v_46 v_48 v_50 (0 : Int32))))
noncomputable def L_rounds_52 : Nat → At → Int32 → Int32 → Int32 → Int32 → Int32 → Int32 → Int32 → Option (Int32 × At)
  | 0 => fun _ _ _ _ _ _ _ _ => none
  | n + 1 => Lb_rounds_52 (L_rounds_52 n)
noncomputable def h_rounds (a1 : Int32) (a2 : Int32) (a3 : Int32) (S : At) : Option (Int32 × At) :=
  gvi ((1 : Int32) + ((a2 / (32 : Int32)) - (a2 / (32 : Int32)) / (12 : Int32) * (12 : Int32))) (fun x4_52 =>
  gbs (h_tryCoinsAfter a1 x4_52 S) (fun v_53 S_54 =>
  gbs (h_tryBankruptAfter a1 S_54) (fun v_55 S_56 =>
  gbs (h_tryCoinsAfter a1 (0 : Int32) S_56) (fun v_57 S_58 =>
  gbs (h_tryCompany a1 (0 : Int32) S_58) (fun v_59 S_60 =>
  if v_57 = v_59 then
    L_rounds_52 13 S_60 a1 a3 x4_52 v_53 v_55 (1 : Int32) (1 : Int32)
  else
    L_rounds_52 13 S_60 a1 a3 x4_52 v_53 v_55 (0 : Int32) (1 : Int32))))))
noncomputable def B_scripts_372 (S : At) (x3 : Int64) (x5 : Int32) : Option (Int32 × At) :=
  if 0 ≤ x5 then
    some ((1 : Int32), S)
  else
    gbs (h_tryScript (1 : Int32) ((70000 : Int64) + x3) S) (fun v_1 S_2 =>
    if v_1 = 0 then
      some ((1 : Int32), S_2)
    else
      some ((0 : Int32), S_2))
noncomputable def B_scripts_342 (S : At) (x3 : Int64) (x5 : Int32) : Option (Int32 × At) :=
  if x5 < 0 then
    B_scripts_372 S x3 x5
  else
    if (998 : Int32) < x5 then
      B_scripts_372 S x3 x5
    else
      gbs (h_tryScript (1 : Int32) (((70001 : Int64) + x3) + x5.toInt64) S) (fun v_3 S_4 =>
      if v_3 = 0 then
        B_scripts_372 S_4 x3 x5
      else
        some ((0 : Int32), S_4))
noncomputable def B_scripts_303 (S : At) (x3 : Int64) (x5 : Int32) (t0 : Int32) : Option (Int32 × At) :=
  if t0 = 0 then
    some ((0 : Int32), S)
  else
    if x5 < 0 then
      B_scripts_342 S x3 x5
    else
      if (999 : Int32) < x5 then
        B_scripts_342 S x3 x5
      else
        gbs (h_tryScript (1 : Int32) (((70000 : Int64) + x3) + x5.toInt64) S) (fun v_5 S_6 =>
        if v_5 = (-9 : Int32) then
          B_scripts_342 S_6 x3 x5
        else
          some ((0 : Int32), S_6))
noncomputable def h_scripts (a1 : Int32) (S : At) : Option (Int32 × At) :=
  gvi (a1 - a1 / (4 : Int32) * (4 : Int32)) (fun x2_7 =>
  gvl ((1000 : Int64) * x2_7.toInt64) (fun x3_8 =>
  gbs (h_tryCompany x2_7 (0 : Int32) S) (fun v_9 S_10 =>
  gbs (h_tryAbout (3 : Int32) S_10) (fun v_11 S_12 =>
  gbs (h_tryCompany x2_7 (2 : Int32) S_12) (fun v_13 S_14 =>
  gbs (h_tryAbout (1 : Int32) S_14) (fun v_15 S_16 =>
  gbs (h_tryAbout (2 : Int32) S_16) (fun v_17 S_18 =>
  gbs (h_trySimulate (a1.toInt64 * (197 : Int64)) (10 : Int32) S_18) (fun v_19 S_20 =>
  gbs (h_tryScript (1 : Int32) ((80000 : Int64) + v_11.toInt64) S_20) (fun v_21 S_22 =>
  if v_21 = (-9 : Int32) then
    gbs (h_tryScript (1 : Int32) (80007 : Int64) S_22) (fun v_23 S_24 =>
    if v_23 = 0 then
      gbs (h_tryScript (1 : Int32) (((90000 : Int64) + x3_8) + v_13.toInt64) S_24) (fun v_25 S_26 =>
      if v_25 = (-9 : Int32) then
        gbs (h_tryScript (1 : Int32) ((90005 : Int64) + x3_8) S_26) (fun v_27 S_28 =>
        if v_27 = 0 then
          gbs (h_tryScript (1 : Int32) (60000 : Int64) S_28) (fun v_29 S_30 =>
          if v_29 = (-9 : Int32) then
            gbs (h_tryScript (1 : Int32) (60001 : Int64) S_30) (fun v_31 S_32 =>
            if v_31 = 0 then
              gbs (h_tryScript (1 : Int32) (((10000 : Int64) + x3_8) + v_15.toInt64) S_32) (fun v_33 S_34 =>
              if v_33 = 0 then
                gbs (h_tryScript (1 : Int32) (14000 : Int64) S_34) (fun v_35 S_36 =>
                if v_35 = 0 then
                  gbs (h_tryScript (1 : Int32) ((20000 : Int64) + x3_8) S_36) (fun v_37 S_38 =>
                  if v_37 = 0 then
                    gbs (h_tryScript (1 : Int32) ((20007 : Int64) + x3_8) S_38) (fun v_39 S_40 =>
                    if v_39 = 0 then
                      gbs (h_tryScript (1 : Int32) ((30009 : Int64) + x3_8) S_40) (fun v_41 S_42 =>
                      if v_41 = (-9 : Int32) then
                        gbs (h_tryScript (1 : Int32) ((30010 : Int64) + x3_8) S_42) (fun v_43 S_44 =>
                        if v_43 = 0 then
                          gbs (h_tryScript (1 : Int32) (((40000 : Int64) + x3_8) + v_17.toInt64) S_44) (fun v_45 S_46 =>
                          if v_45 = 0 then
                            gbs (h_tryScript (1 : Int32) (74000 : Int64) S_46) (fun v_47 S_48 =>
                            if v_47 = 0 then
                              gbs (h_tryScript (1 : Int32) (0 : Int64) S_48) (fun v_49 S_50 =>
                              if v_49 = 0 then
                                if v_19 ≤ 0 then
                                  B_scripts_303 S_50 x3_8 v_9 (0 : Int32)
                                else
                                  if (v_19 / (10000 : Int32)) < v_11 then
                                    B_scripts_303 S_50 x3_8 v_9 (0 : Int32)
                                  else
                                    gbs (h_trySimulate (a1.toInt64 * (197 : Int64)) (10 : Int32) S_50) (fun v_51 S_52 =>
                                    if v_19 = v_51 then
                                      B_scripts_303 S_52 x3_8 v_9 (1 : Int32)
                                    else
                                      B_scripts_303 S_52 x3_8 v_9 (0 : Int32))
                              else
                                B_scripts_303 S_50 x3_8 v_9 (0 : Int32))
                            else
                              B_scripts_303 S_48 x3_8 v_9 (0 : Int32))
                          else
                            B_scripts_303 S_46 x3_8 v_9 (0 : Int32))
                        else
                          B_scripts_303 S_44 x3_8 v_9 (0 : Int32))
                      else
                        B_scripts_303 S_42 x3_8 v_9 (0 : Int32))
                    else
                      B_scripts_303 S_40 x3_8 v_9 (0 : Int32))
                  else
                    B_scripts_303 S_38 x3_8 v_9 (0 : Int32))
                else
                  B_scripts_303 S_36 x3_8 v_9 (0 : Int32))
              else
                B_scripts_303 S_34 x3_8 v_9 (0 : Int32))
            else
              B_scripts_303 S_32 x3_8 v_9 (0 : Int32))
          else
            B_scripts_303 S_30 x3_8 v_9 (0 : Int32))
        else
          B_scripts_303 S_28 x3_8 v_9 (0 : Int32))
      else
        B_scripts_303 S_26 x3_8 v_9 (0 : Int32))
    else
      B_scripts_303 S_24 x3_8 v_9 (0 : Int32))
  else
    B_scripts_303 S_22 x3_8 v_9 (0 : Int32))))))))))
noncomputable def B_act_173 (S : At) (t0 : Int32) (t1 : Int32) : Option (Int32 × At) :=
  gbs (h_tryBuyTrain t1 t0 S) (fun v_1 S_2 =>
  some (v_1, S_2))
noncomputable def B_act_28 (S : At) (x1 : Int32) (x2 : Int32) (x3 : Int32) (t0 : Int32) : Option (Int32 × At) :=
  gbs (h_tryAbout (3 : Int32) S) (fun v_3 S_4 =>
  gvi ((v_3 - (1 : Int32)) + ((x2 / (4 : Int32)) - (x2 / (4 : Int32)) / (3 : Int32) * (3 : Int32))) (fun x7_5 =>
  if (x1 - x1 / (16 : Int32) * (16 : Int32)) = (0 : Int32) then
    gbs (h_tryAbout (1 : Int32) S_4) (fun v_6 S_7 =>
    gck (!decide (v_6 = 0)) (
    gbs (h_tryBuyTrack (x2 - x2 / (4 : Int32) * (4 : Int32)) ((x2 / (4 : Int32)) - (x2 / (4 : Int32)) / v_6 * v_6) S_7) (fun v_8 S_9 =>
    some (v_8, S_9))))
  else
  if (x1 - x1 / (16 : Int32) * (16 : Int32)) = (1 : Int32) then
    gbs (h_tryAbout (1 : Int32) S_4) (fun v_11 S_12 =>
    gck (!decide (v_11 = 0)) (
    gbs (h_tryBuyTrack (x2 - x2 / (4 : Int32) * (4 : Int32)) ((x2 / (4 : Int32)) - (x2 / (4 : Int32)) / v_11 * v_11) S_12) (fun v_13 S_14 =>
    some (v_13, S_14))))
  else
  if (x1 - x1 / (16 : Int32) * (16 : Int32)) = (2 : Int32) then
    if (1 : Int32) ≤ x7_5 then
      if x7_5 ≤ (6 : Int32) then
        B_act_173 S_4 x7_5 (x2 - x2 / (4 : Int32) * (4 : Int32))
      else
        B_act_173 S_4 (6 : Int32) (x2 - x2 / (4 : Int32) * (4 : Int32))
    else
      B_act_173 S_4 (1 : Int32) (x2 - x2 / (4 : Int32) * (4 : Int32))
  else
  if (x1 - x1 / (16 : Int32) * (16 : Int32)) = (3 : Int32) then
    if (1 : Int32) ≤ x7_5 then
      if x7_5 ≤ (6 : Int32) then
        B_act_173 S_4 x7_5 (x2 - x2 / (4 : Int32) * (4 : Int32))
      else
        B_act_173 S_4 (6 : Int32) (x2 - x2 / (4 : Int32) * (4 : Int32))
    else
      B_act_173 S_4 (1 : Int32) (x2 - x2 / (4 : Int32) * (4 : Int32))
  else
  if (x1 - x1 / (16 : Int32) * (16 : Int32)) = (4 : Int32) then
    gbs (h_trySetRent (x2 - x2 / (4 : Int32) * (4 : Int32)) ((x2 / (4 : Int32)) - (x2 / (4 : Int32)) / (10 : Int32) * (10 : Int32)) S_4) (fun v_18 S_19 =>
    some (v_18, S_19))
  else
  if (x1 - x1 / (16 : Int32) * (16 : Int32)) = (5 : Int32) then
    gck (!decide (x3 = 0)) (
    gck (!decide (x3 - (1 : Int32) = 0)) (
    gck (!decide (x3 = 0)) (
    gbs (h_tryOffer (x2 - x2 / x3 * x3) (((x2 + (1 : Int32)) + ((x2 / (16 : Int32)) - (x2 / (16 : Int32)) / (x3 - (1 : Int32)) * (x3 - (1 : Int32)))) - ((x2 + (1 : Int32)) + ((x2 / (16 : Int32)) - (x2 / (16 : Int32)) / (x3 - (1 : Int32)) * (x3 - (1 : Int32)))) / x3 * x3) ((1 : Int32) + ((x2 / (256 : Int32)) - (x2 / (256 : Int32)) / (60 : Int32) * (60 : Int32))) ((1 : Int32) + ((x2 / (32768 : Int32)) - (x2 / (32768 : Int32)) / (9 : Int32) * (9 : Int32))) S_4) (fun v_21 S_22 =>
    some (v_21, S_22)))))
  else
  if (x1 - x1 / (16 : Int32) * (16 : Int32)) = (6 : Int32) then
    gck (!decide (x3 = 0)) (
    gck (!decide (x3 - (1 : Int32) = 0)) (
    gck (!decide (x3 = 0)) (
    gbs (h_tryOffer (x2 - x2 / x3 * x3) (((x2 + (1 : Int32)) + ((x2 / (16 : Int32)) - (x2 / (16 : Int32)) / (x3 - (1 : Int32)) * (x3 - (1 : Int32)))) - ((x2 + (1 : Int32)) + ((x2 / (16 : Int32)) - (x2 / (16 : Int32)) / (x3 - (1 : Int32)) * (x3 - (1 : Int32)))) / x3 * x3) ((1 : Int32) + ((x2 / (256 : Int32)) - (x2 / (256 : Int32)) / (60 : Int32) * (60 : Int32))) ((1 : Int32) + ((x2 / (32768 : Int32)) - (x2 / (32768 : Int32)) / (9 : Int32) * (9 : Int32))) S_4) (fun v_24 S_25 =>
    some (v_24, S_25)))))
  else
  if (x1 - x1 / (16 : Int32) * (16 : Int32)) = (7 : Int32) then
    gbs (h_tryTake (x2 - x2 / (4 : Int32) * (4 : Int32)) t0 S_4) (fun v_27 S_28 =>
    some (v_27, S_28))
  else
  if (x1 - x1 / (16 : Int32) * (16 : Int32)) = (8 : Int32) then
    gbs (h_tryTake (x2 - x2 / (4 : Int32) * (4 : Int32)) t0 S_4) (fun v_30 S_31 =>
    some (v_30, S_31))
  else
  if (x1 - x1 / (16 : Int32) * (16 : Int32)) = (9 : Int32) then
    gbs (h_tryRun t0 ((x2 / (64 : Int32)) - (x2 / (64 : Int32)) / (2 : Int32) * (2 : Int32)) S_4) (fun v_33 S_34 =>
    some (v_33, S_34))
  else
  if (x1 - x1 / (16 : Int32) * (16 : Int32)) = (10 : Int32) then
    gbs (h_tryRun t0 ((x2 / (64 : Int32)) - (x2 / (64 : Int32)) / (2 : Int32) * (2 : Int32)) S_4) (fun v_36 S_37 =>
    some (v_36, S_37))
  else
  if (x1 - x1 / (16 : Int32) * (16 : Int32)) = (11 : Int32) then
    gbs (h_tryRun t0 ((x2 / (64 : Int32)) - (x2 / (64 : Int32)) / (2 : Int32) * (2 : Int32)) S_4) (fun v_39 S_40 =>
    some (v_39, S_40))
  else
  if (x1 - x1 / (16 : Int32) * (16 : Int32)) = (12 : Int32) then
    gbs (h_X10_endRound S_4) (fun v_42 S_43 =>
    some (v_42, S_43))
  else
  if (x1 - x1 / (16 : Int32) * (16 : Int32)) = (13 : Int32) then
    gbs (h_X10_endRound S_4) (fun v_45 S_46 =>
    some (v_45, S_46))
  else
  if (x1 - x1 / (16 : Int32) * (16 : Int32)) = (14 : Int32) then
    gbs (h_tryUndo S_4) (fun v_48 S_49 =>
    some (v_48, S_49))
  else
    if (x2 - x2 / (2 : Int32) * (2 : Int32)) = 0 then
      gbs (h_trySave (1 : Int32) S_4) (fun v_53 S_54 =>
      some (v_53, S_54))
    else
      gbs (h_tryRestore (1 : Int32) S_4) (fun v_51 S_52 =>
      some (v_51, S_52))))
noncomputable def h_act (a1 : Int32) (a2 : Int32) (S : At) : Option (Int32 × At) :=
  gbs (h_tryAbout (0 : Int32) S) (fun v_55 S_56 =>
  gbs (h_tryAbout (2 : Int32) S_56) (fun v_57 S_58 =>
  if v_57 = 0 then
    B_act_28 S_58 a1 a2 v_55 (0 : Int32)
  else
    gck (!decide (v_57 = 0)) (
    B_act_28 S_58 a1 a2 v_55 ((a2 / (4 : Int32)) - (a2 / (4 : Int32)) / v_57 * v_57))))
noncomputable def B_hands_1346 (S : At) (x1 : Int32) (x2 : Int32) (x3 : Int32) (x6 : Int32) : Option (Int32 × At) :=
  if x6 = 0 then
    some ((0 : Int32), S)
  else
    gbs (h_rounds x3 x1 x2 S) (fun v_1 S_2 =>
    if v_1 = 0 then
      some ((0 : Int32), S_2)
    else
      gbs (h_tryRestore (0 : Int32) S_2) (fun v_3 S_4 =>
      if v_3 = x2 then
        gbs (h_tryUndo S_4) (fun v_5 S_6 =>
        if v_5 = (-9999003 : Int32) then
          some ((1 : Int32), S_6)
        else
          some ((0 : Int32), S_6))
      else
        some ((0 : Int32), S_4)))
noncomputable def B_hands_1253 (S : At) (x1 : Int32) (x2 : Int32) (x3 : Int32) (x21 : Int32) (x28 : Int32) (x29 : Int32) (x30 : Int32) (x31 : Int32) (t0 : Int32) : Option (Int32 × At) :=
  if x31 = 0 then
    B_hands_1346 S x1 x2 x3 t0
  else
    if x28 = (-9 : Int32) then
      B_hands_1346 S x1 x2 x3 t0
    else
      if t0 = 0 then
        B_hands_1346 S x1 x2 x3 t0
      else
        gbs (h_tryContract x28 (2 : Int32) S) (fun v_7 S_8 =>
        gbs (h_tryContract x28 (0 : Int32) S_8) (fun v_9 S_10 =>
        gbs (h_tryContract x28 (1 : Int32) S_10) (fun v_11 S_12 =>
        gbs (h_tryWay x3 v_9 v_11 ((4 : Int32) * x29) (0 : Int32) S_12) (fun v_13 S_14 =>
        gvi (v_7 - v_13) (fun x32_15 =>
        gbs (h_tryContract x21 (2 : Int32) S_14) (fun v_16 S_17 =>
        gvi (v_16 - x30) (fun x33_18 =>
        if x33_18 < x32_15 then
          B_hands_1346 S_17 x1 x2 x3 (1 : Int32)
        else
          if x32_15 = x33_18 then
            if x21 < x28 then
              B_hands_1346 S_17 x1 x2 x3 (0 : Int32)
            else
              B_hands_1346 S_17 x1 x2 x3 (1 : Int32)
          else
            B_hands_1346 S_17 x1 x2 x3 (0 : Int32))))))))
noncomputable def B_hands_1224 (S : At) (x1 : Int32) (x2 : Int32) (x3 : Int32) (x21 : Int32) (x28 : Int32) (x29 : Int32) (x30 : Int32) (x31 : Int32) : Option (Int32 × At) :=
  if x28 = (-9 : Int32) then
    B_hands_1253 S x1 x2 x3 x21 x28 x29 x30 x31 (1 : Int32)
  else
    gbs (h_tryContract x28 (4 : Int32) S) (fun v_19 S_20 =>
    if v_19 = (-9 : Int32) then
      if x29 ≤ 0 then
        B_hands_1253 S_20 x1 x2 x3 x21 x28 x29 x30 x31 (0 : Int32)
      else
        B_hands_1253 S_20 x1 x2 x3 x21 x28 x29 x30 x31 (1 : Int32)
    else
      B_hands_1253 S_20 x1 x2 x3 x21 x28 x29 x30 x31 (0 : Int32))
noncomputable def B_hands_1205 (S : At) (x1 : Int32) (x2 : Int32) (x3 : Int32) (x6 : Int32) (x21 : Int32) (x28 : Int32) (x29 : Int32) (x30 : Int32) (t0 : Int32) : Option (Int32 × At) :=
  if x6 = 0 then
    B_hands_1253 S x1 x2 x3 x21 x28 x29 x30 t0 (0 : Int32)
  else
    if t0 = 0 then
      B_hands_1224 S x1 x2 x3 x21 x28 x29 x30 t0
    else
      if x28 = (-9 : Int32) then
        B_hands_1253 S x1 x2 x3 x21 x28 x29 x30 t0 (0 : Int32)
      else
        B_hands_1224 S x1 x2 x3 x21 x28 x29 x30 t0
noncomputable def B_hands_1184 (S : At) (x1 : Int32) (x2 : Int32) (x3 : Int32) (x6 : Int32) (x21 : Int32) (x22 : Int32) (x28 : Int32) (x29 : Int32) (t0 : Int32) : Option (Int32 × At) :=
  if x22 = (-9 : Int32) then
    if t0 = (-9 : Int32) then
      B_hands_1205 S x1 x2 x3 x6 x21 x28 x29 t0 (0 : Int32)
    else
      B_hands_1205 S x1 x2 x3 x6 x21 x28 x29 t0 (1 : Int32)
  else
    B_hands_1205 S x1 x2 x3 x6 x21 x28 x29 t0 (0 : Int32)
noncomputable def Lb_hands_1119 (K1119 : At → Int32 → Int32 → Int32 → Int32 → Int32 → Int32 → Int32 → Int32 → Int32 → Int32 → Int32 → Int32 → Option (Int32 × At)) (S : At) (x1 : Int32) (x2 : Int32) (x3 : Int32) (x6 : Int32) (x14 : Int32) (x21 : Int32) (x22 : Int32) (x25 : Int32) (x26 : Int32) (x28 : Int32) (x29 : Int32) (x30 : Int32) : Option (Int32 × At) :=
  if x14 ≤ x30 then
    if x29 = 0 then
      B_hands_1184 S x1 x2 x3 x6 x21 x22 x28 x29 (-9 : Int32)
    else
      gbs (h_tryWay x3 x25 x26 ((4 : Int32) * x29) (0 : Int32) S) (fun v_21 S_22 =>
      B_hands_1184 S_22 x1 x2 x3 x6 x21 x22 x28 x29 v_21)
  else
    gbs (h_tryTrain x3 x30 (0 : Int32) S) (fun v_23 S_24 =>
    if v_23 ≤ x29 then
      gvi (x30 + (1 : Int32)) (fun x30_25 =>
      K1119 S_24 x1 x2 x3 x6 x14 x21 x22 x25 x26 x28 x29 x30_25)
    else
      gbs (h_tryTrain x3 x30 (0 : Int32) S_24) (fun v_26 S_27 =>
      gvi (x30 + (1 : Int32)) (fun x30_28 =>
      K1119 S_27 x1 x2 x3 x6 x14 x21 x22 x25 x26 x28 v_26 x30_28)))
noncomputable def L_hands_1119 : Nat → At → Int32 → Int32 → Int32 → Int32 → Int32 → Int32 → Int32 → Int32 → Int32 → Int32 → Int32 → Int32 → Option (Int32 × At)
  | 0 => fun _ _ _ _ _ _ _ _ _ _ _ _ _ => none
  | n + 1 => Lb_hands_1119 (L_hands_1119 n)
noncomputable def B_hands_1106 (S : At) (x1 : Int32) (x2 : Int32) (x3 : Int32) (x6 : Int32) (x14 : Int32) (x21 : Int32) (x22 : Int32) (x25 : Int32) (x26 : Int32) : Option (Int32 × At) :=
  gbs (h_tryBestContract x3 S) (fun v_29 S_30 =>
  L_hands_1119 5 S_30 x1 x2 x3 x6 x14 x21 x22 x25 x26 v_29 (0 : Int32) (0 : Int32))
noncomputable def B_hands_1083 (S : At) (x1 : Int32) (x2 : Int32) (x3 : Int32) (x14 : Int32) (x21 : Int32) (x22 : Int32) (x25 : Int32) (x26 : Int32) : Option (Int32 × At) :=
  gbs (h_sound S) (fun v_31 S_32 =>
  if v_31 = 0 then
    B_hands_1106 S_32 x1 x2 x3 (0 : Int32) x14 x21 x22 x25 x26
  else
    gbs (h_tryRestore (0 : Int32) S_32) (fun v_33 S_34 =>
    if v_33 = x2 then
      B_hands_1106 S_34 x1 x2 x3 (1 : Int32) x14 x21 x22 x25 x26
    else
      B_hands_1106 S_34 x1 x2 x3 (0 : Int32) x14 x21 x22 x25 x26))
noncomputable def B_hands_1064 (S : At) (x1 : Int32) (x2 : Int32) (x3 : Int32) (x14 : Int32) (x21 : Int32) (x22 : Int32) (x25 : Int32) (x26 : Int32) (x28 : Int32) (x29 : Int32) : Option (Int32 × At) :=
  if x29 = (3 : Int32) then
    gbs (h_tryTrain x22 x28 (1 : Int32) S) (fun v_35 S_36 =>
    if v_35 = (1 : Int32) then
      B_hands_1083 S_36 x1 x2 x3 x14 x21 x22 x25 x26
    else
      B_hands_1106 S_36 x1 x2 x3 (0 : Int32) x14 x21 x22 x25 x26)
  else
    B_hands_1083 S x1 x2 x3 x14 x21 x22 x25 x26
noncomputable def B_hands_1047 (S : At) (x1 : Int32) (x2 : Int32) (x3 : Int32) (x14 : Int32) (x21 : Int32) (x22 : Int32) (x25 : Int32) (x26 : Int32) (x28 : Int32) (x29 : Int32) : Option (Int32 × At) :=
  if x29 = (2 : Int32) then
    gbs (h_tryContract x21 (5 : Int32) S) (fun v_37 S_38 =>
    if v_37 = (1 : Int32) then
      B_hands_1064 S_38 x1 x2 x3 x14 x21 x22 x25 x26 x28 x29
    else
      B_hands_1106 S_38 x1 x2 x3 (0 : Int32) x14 x21 x22 x25 x26)
  else
    B_hands_1064 S x1 x2 x3 x14 x21 x22 x25 x26 x28 x29
noncomputable def B_hands_1034 (S : At) (x1 : Int32) (x2 : Int32) (x3 : Int32) (x14 : Int32) (x21 : Int32) (x22 : Int32) (x25 : Int32) (x26 : Int32) (x28 : Int32) (x29 : Int32) (x32 : Int32) : Option (Int32 × At) :=
  if x29 = (4 : Int32) then
    if x32 = (-9 : Int32) then
      B_hands_1047 S x1 x2 x3 x14 x21 x22 x25 x26 x28 x29
    else
      B_hands_1106 S x1 x2 x3 (0 : Int32) x14 x21 x22 x25 x26
  else
    B_hands_1047 S x1 x2 x3 x14 x21 x22 x25 x26 x28 x29
noncomputable def B_hands_946 (S : At) (x1 : Int32) (x2 : Int32) (x3 : Int32) (x14 : Int32) (x21 : Int32) (x22 : Int32) (x25 : Int32) (x26 : Int32) (x28 : Int32) (x29 : Int32) (x30 : Int32) (x31 : Int32) (x32 : Int32) (x33 : Int32) (x34 : Int32) (t0 : Int32) (t1 : Int32) : Option (Int32 × At) :=
  if t1 = t0 then
    if x29 = 0 then
      gbs (h_tryCompany x22 (0 : Int32) S) (fun v_39 S_40 =>
      if v_39 = ((x31 - x32) + x30) then
        gbs (h_tryCompany x22 (5 : Int32) S_40) (fun v_41 S_42 =>
        if v_41 = x33 then
          gbs (h_tryAbout (6 : Int32) S_42) (fun v_43 S_44 =>
          if v_43 = (x34 + x32) then
            gbs (h_tryContract x21 (5 : Int32) S_44) (fun v_45 S_46 =>
            if v_45 = (1 : Int32) then
              gbs (h_tryTrain x22 x28 (1 : Int32) S_46) (fun v_47 S_48 =>
              if v_47 = (1 : Int32) then
                gbs (h_tryWhyNot x21 x28 S_48) (fun v_49 S_50 =>
                if v_49 = (2 : Int32) then
                  B_hands_1034 S_50 x1 x2 x3 x14 x21 x22 x25 x26 x28 x29 x32
                else
                  B_hands_1106 S_50 x1 x2 x3 (0 : Int32) x14 x21 x22 x25 x26)
              else
                B_hands_1106 S_48 x1 x2 x3 (0 : Int32) x14 x21 x22 x25 x26)
            else
              B_hands_1106 S_46 x1 x2 x3 (0 : Int32) x14 x21 x22 x25 x26)
          else
            B_hands_1106 S_44 x1 x2 x3 (0 : Int32) x14 x21 x22 x25 x26)
        else
          B_hands_1106 S_42 x1 x2 x3 (0 : Int32) x14 x21 x22 x25 x26)
      else
        B_hands_1106 S_40 x1 x2 x3 (0 : Int32) x14 x21 x22 x25 x26)
    else
      B_hands_1034 S x1 x2 x3 x14 x21 x22 x25 x26 x28 x29 x32
  else
    B_hands_1106 S x1 x2 x3 (0 : Int32) x14 x21 x22 x25 x26
noncomputable def B_hands_836 (S : At) (x1 : Int32) (x2 : Int32) (x3 : Int32) (x14 : Int32) (x21 : Int32) (x22 : Int32) (x25 : Int32) (x26 : Int32) (x27 : Int32) (t0 : Int32) : Option (Int32 × At) :=
  if x27 ≤ 0 then
    B_hands_1106 S x1 x2 x3 t0 x14 x21 x22 x25 x26
  else
    if t0 = 0 then
      B_hands_1106 S x1 x2 x3 t0 x14 x21 x22 x25 x26
    else
      gck (!decide (x27 = 0)) (
      gvi ((x1 / (8 : Int32)) - (x1 / (8 : Int32)) / x27 * x27) (fun x28_51 =>
      gbs (h_tryWhyNot x21 x28_51 S) (fun v_52 S_53 =>
      gbs (h_tryContract x21 (2 : Int32) S_53) (fun v_54 S_55 =>
      gbs (h_tryCompany x22 (0 : Int32) S_55) (fun v_56 S_57 =>
      gbs (h_tryTrain x22 x28_51 (0 : Int32) S_57) (fun v_58 S_59 =>
      gbs (h_tryWay x22 x25 x26 ((4 : Int32) * v_58) (0 : Int32) S_59) (fun v_60 S_61 =>
      gbs (h_tryCompany x22 (5 : Int32) S_61) (fun v_62 S_63 =>
      gbs (h_tryAbout (6 : Int32) S_63) (fun v_64 S_65 =>
      gbs (h_tryRun x21 x28_51 S_65) (fun v_66 S_67 =>
      if v_52 = 0 then
        B_hands_946 S_67 x1 x2 x3 x14 x21 x22 x25 x26 x28_51 v_52 v_54 v_56 v_60 v_62 v_64 v_60 v_66
      else
        B_hands_946 S_67 x1 x2 x3 x14 x21 x22 x25 x26 x28_51 v_52 v_54 v_56 v_60 v_62 v_64 (-9999003 : Int32) v_66))))))))))
noncomputable def B_hands_804 (S : At) (x1 : Int32) (x2 : Int32) (x3 : Int32) (x6 : Int32) (x14 : Int32) (x21 : Int32) (x22 : Int32) (x25 : Int32) (x26 : Int32) (t0 : Int32) : Option (Int32 × At) :=
  if x6 = 0 then
    B_hands_836 S x1 x2 x3 x14 x21 x22 x25 x26 t0 (0 : Int32)
  else
    if x22 = (-9 : Int32) then
      B_hands_836 S x1 x2 x3 x14 x21 x22 x25 x26 t0 (1 : Int32)
    else
      gbs (h_tryWhyNot x21 t0 S) (fun v_68 S_69 =>
      if v_68 = (-9999001 : Int32) then
        B_hands_836 S_69 x1 x2 x3 x14 x21 x22 x25 x26 t0 (1 : Int32)
      else
        B_hands_836 S_69 x1 x2 x3 x14 x21 x22 x25 x26 t0 (0 : Int32))
noncomputable def B_hands_784 (S : At) (x1 : Int32) (x2 : Int32) (x3 : Int32) (x14 : Int32) (x21 : Int32) (x22 : Int32) (x25 : Int32) (x26 : Int32) (t0 : Int32) : Option (Int32 × At) :=
  if x22 = (-9 : Int32) then
    B_hands_804 S x1 x2 x3 t0 x14 x21 x22 x25 x26 (0 : Int32)
  else
    gbs (h_tryCompany x22 (2 : Int32) S) (fun v_70 S_71 =>
    B_hands_804 S_71 x1 x2 x3 t0 x14 x21 x22 x25 x26 v_70)
noncomputable def B_hands_730 (S : At) (x1 : Int32) (x2 : Int32) (x3 : Int32) (x14 : Int32) (x21 : Int32) (x22 : Int32) (x25 : Int32) (x26 : Int32) (t0 : Int32) (t1 : Int32) : Option (Int32 × At) :=
  if t1 = t0 then
    gbs (h_sound S) (fun v_72 S_73 =>
    if v_72 = 0 then
      B_hands_784 S_73 x1 x2 x3 x14 x21 x22 x25 x26 (0 : Int32)
    else
      gbs (h_tryRestore (0 : Int32) S_73) (fun v_74 S_75 =>
      if v_74 = x2 then
        if x22 = (-9 : Int32) then
          gbs (h_tryWhyNot x21 (0 : Int32) S_75) (fun v_76 S_77 =>
          if v_76 = (1 : Int32) then
            gbs (h_tryRun x21 (0 : Int32) S_77) (fun v_78 S_79 =>
            if v_78 = (-9999003 : Int32) then
              B_hands_784 S_79 x1 x2 x3 x14 x21 x22 x25 x26 (1 : Int32)
            else
              B_hands_784 S_79 x1 x2 x3 x14 x21 x22 x25 x26 (0 : Int32))
          else
            B_hands_784 S_77 x1 x2 x3 x14 x21 x22 x25 x26 (0 : Int32))
        else
          B_hands_784 S_75 x1 x2 x3 x14 x21 x22 x25 x26 (1 : Int32)
      else
        B_hands_784 S_75 x1 x2 x3 x14 x21 x22 x25 x26 (0 : Int32)))
  else
    B_hands_784 S x1 x2 x3 x14 x21 x22 x25 x26 (0 : Int32)
noncomputable def B_hands_707 (S : At) (x1 : Int32) (x2 : Int32) (x3 : Int32) (x14 : Int32) (x21 : Int32) (x22 : Int32) (x25 : Int32) (x26 : Int32) (t0 : Int32) (t1 : Int32) : Option (Int32 × At) :=
  if t1 = t0 then
    gbs (h_tryContract x21 (4 : Int32) S) (fun v_80 S_81 =>
    if x22 = (-9 : Int32) then
      B_hands_730 S_81 x1 x2 x3 x14 x21 x22 x25 x26 x3 v_80
    else
      B_hands_730 S_81 x1 x2 x3 x14 x21 x22 x25 x26 x22 v_80)
  else
    B_hands_784 S x1 x2 x3 x14 x21 x22 x25 x26 (0 : Int32)
noncomputable def B_hands_684 (S : At) (x1 : Int32) (x2 : Int32) (x3 : Int32) (x14 : Int32) (x21 : Int32) (x22 : Int32) (x23 : Int32) (x25 : Int32) (x26 : Int32) : Option (Int32 × At) :=
  gbs (h_tryTake x3 x21 S) (fun v_82 S_83 =>
  if x22 = (-9 : Int32) then
    B_hands_707 S_83 x1 x2 x3 x14 x21 x22 x25 x26 (x23 + (1 : Int32)) v_82
  else
    B_hands_707 S_83 x1 x2 x3 x14 x21 x22 x25 x26 (-9999003 : Int32) v_82)
noncomputable def B_hands_539 (S : At) (x1 : Int32) (x2 : Int32) (x3 : Int32) (x14 : Int32) (t0 : Int32) : Option (Int32 × At) :=
  gbs (h_tryAbout (2 : Int32) S) (fun v_84 S_85 =>
  if v_84 ≤ 0 then
    B_hands_1346 S_85 x1 x2 x3 t0
  else
    if t0 = 0 then
      B_hands_1346 S_85 x1 x2 x3 t0
    else
      gck (!decide (v_84 = 0)) (
      gvi ((x1 / (16 : Int32)) - (x1 / (16 : Int32)) / v_84 * v_84) (fun x21_86 =>
      gbs (h_tryContract x21_86 (4 : Int32) S_85) (fun v_87 S_88 =>
      gbs (h_tryCompany x3 (4 : Int32) S_88) (fun v_89 S_90 =>
      gbs (h_tryLevelFor x3 x21_86 S_90) (fun v_91 S_92 =>
      gbs (h_tryContract x21_86 (0 : Int32) S_92) (fun v_93 S_94 =>
      gbs (h_tryContract x21_86 (1 : Int32) S_94) (fun v_95 S_96 =>
      if v_91 = (-9 : Int32) then
        gbs (h_tryWay x3 v_93 v_95 (24 : Int32) (0 : Int32) S_96) (fun v_101 S_102 =>
        if v_101 = (-9 : Int32) then
          B_hands_684 S_102 x1 x2 x3 x14 x21_86 v_87 v_89 v_93 v_95
        else
          B_hands_784 S_102 x1 x2 x3 x14 x21_86 v_87 v_93 v_95 (0 : Int32))
      else
        gbs (h_tryWay x3 v_93 v_95 ((4 : Int32) * v_91) (0 : Int32) S_96) (fun v_97 S_98 =>
        if v_97 = (-9 : Int32) then
          B_hands_784 S_98 x1 x2 x3 x14 x21_86 v_87 v_93 v_95 (0 : Int32)
        else
          if v_91 = (1 : Int32) then
            B_hands_684 S_98 x1 x2 x3 x14 x21_86 v_87 v_89 v_93 v_95
          else
            gbs (h_tryWay x3 v_93 v_95 (((4 : Int32) * v_91) - (4 : Int32)) (0 : Int32) S_98) (fun v_99 S_100 =>
            if v_99 = (-9 : Int32) then
              B_hands_684 S_100 x1 x2 x3 x14 x21_86 v_87 v_89 v_93 v_95
            else
              B_hands_784 S_100 x1 x2 x3 x14 x21_86 v_87 v_93 v_95 (0 : Int32)))))))))))
noncomputable def B_hands_521 (S : At) (x1 : Int32) (x2 : Int32) (x3 : Int32) (x14 : Int32) (t0 : Int32) (t1 : Int32) (t2 : Int32) : Option (Int32 × At) :=
  if t2 = (t1 + t0) then
    gbs (h_tryRestore (0 : Int32) S) (fun v_103 S_104 =>
    if v_103 = x2 then
      B_hands_539 S_104 x1 x2 x3 x14 (1 : Int32)
    else
      B_hands_539 S_104 x1 x2 x3 x14 (0 : Int32))
  else
    B_hands_539 S x1 x2 x3 x14 (0 : Int32)
noncomputable def Lb_hands_475 (K475 : At → Int32 → Int32 → Int32 → Int32 → Int32 → Int32 → Int32 → Int32 → Int32 → Int32 → Option (Int32 × At)) (S : At) (x1 : Int32) (x2 : Int32) (x3 : Int32) (x6 : Int32) (x14 : Int32) (x16 : Int32) (x17 : Int32) (x18 : Int32) (x19 : Int32) (x20 : Int32) : Option (Int32 × At) :=
  if (4 : Int32) ≤ x20 then
    if x6 = 0 then
      B_hands_539 S x1 x2 x3 x14 (0 : Int32)
    else
      if x16 = 0 then
        B_hands_521 S x1 x2 x3 x14 (0 : Int32) x17 x19
      else
        B_hands_521 S x1 x2 x3 x14 ((1 : Int32) - x18) x17 x19
  else
    gbs (h_tryCompany x20 (2 : Int32) S) (fun v_105 S_106 =>
    gvi (x19 + v_105) (fun x19_107 =>
    gvi (x20 + (1 : Int32)) (fun x20_108 =>
    K475 S_106 x1 x2 x3 x6 x14 x16 x17 x18 x19_107 x20_108)))
noncomputable def L_hands_475 : Nat → At → Int32 → Int32 → Int32 → Int32 → Int32 → Int32 → Int32 → Int32 → Int32 → Int32 → Option (Int32 × At)
  | 0 => fun _ _ _ _ _ _ _ _ _ _ _ => none
  | n + 1 => Lb_hands_475 (L_hands_475 n)
noncomputable def B_hands_467 (S : At) (x1 : Int32) (x2 : Int32) (x3 : Int32) (x14 : Int32) (x16 : Int32) (x17 : Int32) (x18 : Int32) (t0 : Int32) : Option (Int32 × At) :=
  L_hands_475 5 S x1 x2 x3 t0 x14 x16 x17 x18 (0 : Int32) (0 : Int32)
noncomputable def B_hands_451 (S : At) (x1 : Int32) (x2 : Int32) (x3 : Int32) (x14 : Int32) (x16 : Int32) (x17 : Int32) (x18 : Int32) (t0 : Int32) (t1 : Int32) (t2 : Int32) : Option (Int32 × At) :=
  if t2 = (t1 - t0) then
    gbs (h_sound S) (fun v_109 S_110 =>
    if v_109 = 0 then
      B_hands_467 S_110 x1 x2 x3 x14 x16 x17 x18 (0 : Int32)
    else
      B_hands_467 S_110 x1 x2 x3 x14 x16 x17 x18 (1 : Int32))
  else
    B_hands_467 S x1 x2 x3 x14 x16 x17 x18 (0 : Int32)
noncomputable def B_hands_425 (S : At) (x1 : Int32) (x2 : Int32) (x3 : Int32) (x4 : Int32) (x13 : Int32) (x14 : Int32) (x16 : Int32) (x17 : Int32) (x18 : Int32) (t0 : Int32) (t1 : Int32) (t2 : Int32) : Option (Int32 × At) :=
  if t2 = (t1 + t0) then
    gbs (h_tryCompany x3 (0 : Int32) S) (fun v_111 S_112 =>
    if x16 = 0 then
      B_hands_451 S_112 x1 x2 x3 x14 x16 x17 x18 (0 : Int32) x4 v_111
    else
      B_hands_451 S_112 x1 x2 x3 x14 x16 x17 x18 ((20 : Int32) * x13) x4 v_111)
  else
    B_hands_467 S x1 x2 x3 x14 x16 x17 x18 (0 : Int32)
noncomputable def B_hands_403 (S : At) (x1 : Int32) (x2 : Int32) (x3 : Int32) (x4 : Int32) (x13 : Int32) (x14 : Int32) (x15 : Int32) (x16 : Int32) (x17 : Int32) (x18 : Int32) (t0 : Int32) (t1 : Int32) : Option (Int32 × At) :=
  if t1 = t0 then
    gbs (h_tryAbout (10 : Int32) S) (fun v_113 S_114 =>
    if x16 = 0 then
      B_hands_425 S_114 x1 x2 x3 x4 x13 x14 x16 x17 x18 (0 : Int32) x15 v_113
    else
      B_hands_425 S_114 x1 x2 x3 x4 x13 x14 x16 x17 x18 x18 x15 v_113)
  else
    B_hands_467 S x1 x2 x3 x14 x16 x17 x18 (0 : Int32)
noncomputable def B_hands_376 (S : At) (x1 : Int32) (x2 : Int32) (x3 : Int32) (x4 : Int32) (x12 : Int32) (x13 : Int32) (x14 : Int32) (x15 : Int32) (x16 : Int32) (x17 : Int32) (x18 : Int32) (t0 : Int32) (t1 : Int32) : Option (Int32 × At) :=
  if t1 = t0 then
    gbs (h_tryAbout (3 : Int32) S) (fun v_115 S_116 =>
    if x16 = 0 then
      B_hands_403 S_116 x1 x2 x3 x4 x13 x14 x15 x16 x17 x18 x12 v_115
    else
      if x13 ≤ x12 then
        B_hands_403 S_116 x1 x2 x3 x4 x13 x14 x15 x16 x17 x18 x12 v_115
      else
        B_hands_403 S_116 x1 x2 x3 x4 x13 x14 x15 x16 x17 x18 x13 v_115)
  else
    B_hands_467 S x1 x2 x3 x14 x16 x17 x18 (0 : Int32)
noncomputable def B_hands_337 (K285 : At → Int32 → Int32 → Int32 → Int32 → Int32 → Int32 → Int32 → Int32 → Int32 → Int32 → Int32 → Int32 → Int32 → Option (Int32 × At)) (K294 : At → Int32 → Int32 → Int32 → Int32 → Int32 → Int32 → Int32 → Int32 → Int32 → Int32 → Int32 → Int32 → Int32 → Int32 → Option (Int32 × At)) (S : At) (x1 : Int32) (x2 : Int32) (x3 : Int32) (x4 : Int32) (x6 : Int32) (x12 : Int32) (x13 : Int32) (x14 : Int32) (x15 : Int32) (x16 : Int32) (x17 : Int32) (x19 : Int32) (x20 : Int32) (t0 : Int32) (t1 : Int32) : Option (Int32 × At) :=
  gvi (t1 + t0) (fun x18_117 =>
  gvi (x20 + (1 : Int32)) (fun x20_118 =>
  K294 S x1 x2 x3 x4 x6 x12 x13 x14 x15 x16 x17 x18_117 x19 x20_118))
noncomputable def Lb_hands_294 (K285 : At → Int32 → Int32 → Int32 → Int32 → Int32 → Int32 → Int32 → Int32 → Int32 → Int32 → Int32 → Int32 → Int32 → Option (Int32 × At)) (K294 : At → Int32 → Int32 → Int32 → Int32 → Int32 → Int32 → Int32 → Int32 → Int32 → Int32 → Int32 → Int32 → Int32 → Int32 → Option (Int32 × At)) (S : At) (x1 : Int32) (x2 : Int32) (x3 : Int32) (x4 : Int32) (x6 : Int32) (x12 : Int32) (x13 : Int32) (x14 : Int32) (x15 : Int32) (x16 : Int32) (x17 : Int32) (x18 : Int32) (x19 : Int32) (x20 : Int32) : Option (Int32 × At) :=
  gbs (h_tryCompany x19 (2 : Int32) S) (fun v_119 S_120 =>
  if v_119 ≤ x20 then
    gvi (x19 + (1 : Int32)) (fun x19_121 =>
    K285 S_120 x1 x2 x3 x4 x6 x12 x13 x14 x15 x16 x17 x18 x19_121)
  else
    gvi (x17 + (1 : Int32)) (fun x17_122 =>
    if x13 ≤ x12 then
      B_hands_337 K285 K294 S_120 x1 x2 x3 x4 x6 x12 x13 x14 x15 x16 x17_122 x19 x20 (0 : Int32) x18
    else
      gbs (h_tryTrain x19 x20 (0 : Int32) S_120) (fun v_123 S_124 =>
      if x12 ≤ v_123 then
        B_hands_337 K285 K294 S_124 x1 x2 x3 x4 x6 x12 x13 x14 x15 x16 x17_122 x19 x20 (0 : Int32) x18
      else
        B_hands_337 K285 K294 S_124 x1 x2 x3 x4 x6 x12 x13 x14 x15 x16 x17_122 x19 x20 (1 : Int32) x18)))
noncomputable def L_hands_294 (K285 : At → Int32 → Int32 → Int32 → Int32 → Int32 → Int32 → Int32 → Int32 → Int32 → Int32 → Int32 → Int32 → Int32 → Option (Int32 × At)) : Nat → At → Int32 → Int32 → Int32 → Int32 → Int32 → Int32 → Int32 → Int32 → Int32 → Int32 → Int32 → Int32 → Int32 → Int32 → Option (Int32 × At)
  | 0 => fun _ _ _ _ _ _ _ _ _ _ _ _ _ _ _ => none
  | n + 1 => Lb_hands_294 K285 (L_hands_294 K285 n)
noncomputable def Lb_hands_285 (K285 : At → Int32 → Int32 → Int32 → Int32 → Int32 → Int32 → Int32 → Int32 → Int32 → Int32 → Int32 → Int32 → Int32 → Option (Int32 × At)) (S : At) (x1 : Int32) (x2 : Int32) (x3 : Int32) (x4 : Int32) (x6 : Int32) (x12 : Int32) (x13 : Int32) (x14 : Int32) (x15 : Int32) (x16 : Int32) (x17 : Int32) (x18 : Int32) (x19 : Int32) : Option (Int32 × At) :=
  if (4 : Int32) ≤ x19 then
    if x6 = 0 then
      B_hands_467 S x1 x2 x3 x14 x16 x17 x18 (0 : Int32)
    else
      gbs (h_tryBuyTrain x3 x13 S) (fun v_125 S_126 =>
      if x16 = 0 then
        B_hands_376 S_126 x1 x2 x3 x4 x12 x13 x14 x15 x16 x17 x18 (-9999003 : Int32) v_125
      else
        B_hands_376 S_126 x1 x2 x3 x4 x12 x13 x14 x15 x16 x17 x18 x18 v_125)
  else
    L_hands_294 K285 5 S x1 x2 x3 x4 x6 x12 x13 x14 x15 x16 x17 x18 x19 (0 : Int32)
noncomputable def L_hands_285 : Nat → At → Int32 → Int32 → Int32 → Int32 → Int32 → Int32 → Int32 → Int32 → Int32 → Int32 → Int32 → Int32 → Int32 → Option (Int32 × At)
  | 0 => fun _ _ _ _ _ _ _ _ _ _ _ _ _ _ => none
  | n + 1 => Lb_hands_285 (L_hands_285 n)
noncomputable def B_hands_274 (S : At) (x1 : Int32) (x2 : Int32) (x3 : Int32) (x4 : Int32) (x6 : Int32) (x12 : Int32) (x13 : Int32) (x14 : Int32) (x15 : Int32) (t0 : Int32) : Option (Int32 × At) :=
  L_hands_285 5 S x1 x2 x3 x4 x6 x12 x13 x14 x15 t0 (0 : Int32) (0 : Int32) (0 : Int32)
noncomputable def B_hands_199 (S : At) (x1 : Int32) (x2 : Int32) (x3 : Int32) (x4 : Int32) (t0 : Int32) : Option (Int32 × At) :=
  gbs (h_tryAbout (3 : Int32) S) (fun v_127 S_128 =>
  gvi ((1 : Int32) + ((x1 / (64 : Int32)) - (x1 / (64 : Int32)) / (6 : Int32) * (6 : Int32))) (fun x13_129 =>
  gbs (h_tryCompany x3 (2 : Int32) S_128) (fun v_130 S_131 =>
  gbs (h_tryAbout (10 : Int32) S_131) (fun v_132 S_133 =>
  if x13_129 < (v_127 - (1 : Int32)) then
    B_hands_274 S_133 x1 x2 x3 x4 t0 v_127 x13_129 v_130 v_132 (0 : Int32)
  else
    if (v_127 + (1 : Int32)) < x13_129 then
      B_hands_274 S_133 x1 x2 x3 x4 t0 v_127 x13_129 v_130 v_132 (0 : Int32)
    else
      if (4 : Int32) ≤ v_130 then
        B_hands_274 S_133 x1 x2 x3 x4 t0 v_127 x13_129 v_130 v_132 (0 : Int32)
      else
        if x4 < ((20 : Int32) * x13_129) then
          B_hands_274 S_133 x1 x2 x3 x4 t0 v_127 x13_129 v_130 v_132 (0 : Int32)
        else
          B_hands_274 S_133 x1 x2 x3 x4 t0 v_127 x13_129 v_130 v_132 (1 : Int32)))))
noncomputable def B_hands_175 (S : At) (x1 : Int32) (x2 : Int32) (x3 : Int32) (x4 : Int32) (t0 : Int32) (t1 : Int32) : Option (Int32 × At) :=
  if t1 = t0 then
    gbs (h_sound S) (fun v_134 S_135 =>
    if v_134 = 0 then
      B_hands_199 S_135 x1 x2 x3 x4 (0 : Int32)
    else
      gbs (h_tryRestore (0 : Int32) S_135) (fun v_136 S_137 =>
      if v_136 = x2 then
        B_hands_199 S_137 x1 x2 x3 x4 (1 : Int32)
      else
        B_hands_199 S_137 x1 x2 x3 x4 (0 : Int32)))
  else
    B_hands_199 S x1 x2 x3 x4 (0 : Int32)
noncomputable def B_hands_153 (S : At) (x1 : Int32) (x2 : Int32) (x3 : Int32) (x4 : Int32) (x8 : Int32) (x10 : Int32) (x11 : Int32) (t0 : Int32) (t1 : Int32) (t2 : Int32) : Option (Int32 × At) :=
  if t2 = (t1 + t0) then
    gbs (h_tryTrack x8 (3 : Int32) S) (fun v_138 S_139 =>
    if x11 = 0 then
      B_hands_175 S_139 x1 x2 x3 x4 x10 v_138
    else
      B_hands_175 S_139 x1 x2 x3 x4 x3 v_138)
  else
    B_hands_199 S x1 x2 x3 x4 (0 : Int32)
noncomputable def B_hands_132 (S : At) (x1 : Int32) (x2 : Int32) (x3 : Int32) (x4 : Int32) (x5 : Int32) (x8 : Int32) (x9 : Int32) (x10 : Int32) (x11 : Int32) (t0 : Int32) (t1 : Int32) : Option (Int32 × At) :=
  if t1 = t0 then
    gbs (h_tryAbout (5 : Int32) S) (fun v_140 S_141 =>
    if x11 = 0 then
      B_hands_153 S_141 x1 x2 x3 x4 x8 x10 x11 (0 : Int32) x5 v_140
    else
      B_hands_153 S_141 x1 x2 x3 x4 x8 x10 x11 x9 x5 v_140)
  else
    B_hands_199 S x1 x2 x3 x4 (0 : Int32)
noncomputable def B_hands_103 (S : At) (x1 : Int32) (x2 : Int32) (x3 : Int32) (x4 : Int32) (x5 : Int32) (x6 : Int32) (x8 : Int32) (x9 : Int32) (x10 : Int32) (t0 : Int32) : Option (Int32 × At) :=
  if x6 = 0 then
    B_hands_199 S x1 x2 x3 x4 (0 : Int32)
  else
    gbs (h_tryBuyTrack x3 x8 S) (fun v_142 S_143 =>
    if t0 = 0 then
      B_hands_132 S_143 x1 x2 x3 x4 x5 x8 x9 x10 t0 (-9999003 : Int32) v_142
    else
      B_hands_132 S_143 x1 x2 x3 x4 x5 x8 x9 x10 t0 (x4 - x9) v_142)
noncomputable def B_hands_47 (S : At) (x1 : Int32) (x2 : Int32) (x3 : Int32) (x4 : Int32) (x5 : Int32) (t0 : Int32) : Option (Int32 × At) :=
  gbs (h_tryAbout (1 : Int32) S) (fun v_144 S_145 =>
  gck (!decide (v_144 = 0)) (
  gvi ((x1 / (4 : Int32)) - (x1 / (4 : Int32)) / v_144 * v_144) (fun x8_146 =>
  gbs (h_tryTrack x8_146 (2 : Int32) S_145) (fun v_147 S_148 =>
  gvi ((3 : Int32) * v_147) (fun x9_149 =>
  gbs (h_tryTrack x8_146 (3 : Int32) S_148) (fun v_150 S_151 =>
  if v_150 = (-9 : Int32) then
    if x4 < x9_149 then
      B_hands_103 S_151 x1 x2 x3 x4 x5 t0 x8_146 x9_149 v_150 (0 : Int32)
    else
      B_hands_103 S_151 x1 x2 x3 x4 x5 t0 x8_146 x9_149 v_150 (1 : Int32)
  else
    B_hands_103 S_151 x1 x2 x3 x4 x5 t0 x8_146 x9_149 v_150 (0 : Int32)))))))
noncomputable def h_hands (a1 : Int32) (S : At) : Option (Int32 × At) :=
  gbs (h_tryAbout (4 : Int32) S) (fun v_152 S_153 =>
  gvi (a1 - a1 / (4 : Int32) * (4 : Int32)) (fun x3_154 =>
  gbs (h_tryCompany x3_154 (0 : Int32) S_153) (fun v_155 S_156 =>
  gbs (h_tryAbout (5 : Int32) S_156) (fun v_157 S_158 =>
  gbs (h_trySave (0 : Int32) S_158) (fun v_159 S_160 =>
  if v_159 = v_152 then
    gbs (h_ways a1 S_160) (fun v_161 S_162 =>
    if v_161 = 0 then
      B_hands_47 S_162 a1 v_152 x3_154 v_155 v_157 (0 : Int32)
    else
      B_hands_47 S_162 a1 v_152 x3_154 v_155 v_157 (1 : Int32))
  else
    B_hands_47 S_160 a1 v_152 x3_154 v_155 v_157 (0 : Int32))))))
noncomputable def B_told_466 (xs : Nat → Int32) (L : Nat) (S : At2) (x5 : Int32) (x6 : Int32) (x7 : Int32) (x8 : Int32) (x9 : Int32) : Option (Int32 × At2) :=
  if x8 = 0 then
    some ((0 : Int32), S)
  else
    gbs (gp1 S (h_tryLoad S.1)) (fun v_1 S_2 =>
    if v_1 = x6 then
      gbs (gq1 S_2 (h_tryLoad S_2.2)) (fun v_3 S_4 =>
      if v_3 = x6 then
        gbs (gp1 S_4 (h_tryAbout (0 : Int32) S_4.1)) (fun v_5 S_6 =>
        if v_5 = x5 then
          gbs (gp1 S_6 (h_tryAbout (2 : Int32) S_6.1)) (fun v_7 S_8 =>
          if v_7 = x7 then
            gbs (gp1 S_8 (h_tryAbout (5 : Int32) S_8.1)) (fun v_9 S_10 =>
            if v_9 = (-400 : Int32) then
              gbs (gp1 S_10 (h_tryCompany (3 : Int32) (0 : Int32) S_10.1)) (fun v_11 S_12 =>
              if v_11 = (100 : Int32) then
                gbs (gp1 S_12 (h_tryUndo S_12.1)) (fun v_13 S_14 =>
                if v_13 = (-9999003 : Int32) then
                  gbs (gq1 S_14 (h_tryRestore (1 : Int32) S_14.2)) (fun v_15 S_16 =>
                  if v_15 = (-9999003 : Int32) then
                    gbs (h_put (82 : Int32) S_16) (fun v_17 S_18 =>
                    if v_17 = 0 then
                      some ((0 : Int32), S_18)
                    else
                      gbs (gp1 S_18 (h_X10_errorPosition S_18.1)) (fun v_19 S_20 =>
                      if v_19 = x9 then
                        gbs (gp1 S_20 (h_tryLoad S_20.1)) (fun v_21 S_22 =>
                        if v_21 = (-9999003 : Int32) then
                          some ((1 : Int32), S_22)
                        else
                          some ((0 : Int32), S_22))
                      else
                        some ((0 : Int32), S_20)))
                  else
                    some ((0 : Int32), S_16))
                else
                  some ((0 : Int32), S_14))
              else
                some ((0 : Int32), S_12))
            else
              some ((0 : Int32), S_10))
          else
            some ((0 : Int32), S_8))
        else
          some ((0 : Int32), S_6))
      else
        some ((0 : Int32), S_4))
    else
      some ((0 : Int32), S_2))
noncomputable def B_told_455 (xs : Nat → Int32) (L : Nat) (K262 : At2 → Int32 → Int32 → Int32 → Int32 → Int32 → Int32 → Int32 → Option (Int32 × At2)) (S : At2) (x3 : Int32) (x5 : Int32) (x6 : Int32) (x7 : Int32) (x9 : Int32) (x10 : Int32) (t0 : Int32) : Option (Int32 × At2) :=
  gvi (x9 + (6 : Int32)) (fun x9_23 =>
  gvi (x10 + (1 : Int32)) (fun x10_24 =>
  K262 S x3 x5 x6 x7 t0 x9_23 x10_24))
noncomputable def Lb_told_262 (xs : Nat → Int32) (L : Nat) (K262 : At2 → Int32 → Int32 → Int32 → Int32 → Int32 → Int32 → Int32 → Option (Int32 × At2)) (S : At2) (x3 : Int32) (x5 : Int32) (x6 : Int32) (x7 : Int32) (x8 : Int32) (x9 : Int32) (x10 : Int32) : Option (Int32 × At2) :=
  if x7 ≤ x10 then
    B_told_466 xs L S x5 x6 x7 x8 x9
  else
    if x8 = 0 then
      B_told_466 xs L S x5 x6 x7 x8 x9
    else
      gck (decide ((0 : Int32) ≤ (x3 + (4 : Int32)))) (gvi (gNum xs L (x3 + (4 : Int32))) (fun v_25 =>
      gck (!decide ((1 : Int32) + ((17 : Int32) * x10) = 0)) (
      gvi (v_25 / ((1 : Int32) + ((17 : Int32) * x10))) (fun x11_26 =>
      gck (!decide (x5 = 0)) (
      gvi (x11_26 - x11_26 / x5 * x5) (fun x12_27 =>
      gck (!decide (x5 - (1 : Int32) = 0)) (
      gck (!decide (x5 = 0)) (
      gvi (((x12_27 + (1 : Int32)) + ((x11_26 / (16 : Int32)) - (x11_26 / (16 : Int32)) / (x5 - (1 : Int32)) * (x5 - (1 : Int32)))) - ((x12_27 + (1 : Int32)) + ((x11_26 / (16 : Int32)) - (x11_26 / (16 : Int32)) / (x5 - (1 : Int32)) * (x5 - (1 : Int32)))) / x5 * x5) (fun x13_28 =>
      gvi ((1 : Int32) + ((x11_26 / (256 : Int32)) - (x11_26 / (256 : Int32)) / (60 : Int32) * (60 : Int32))) (fun x14_29 =>
      gbs (h_put (99 : Int32) S) (fun v_30 S_31 =>
      if v_30 = 0 then
        B_told_455 xs L K262 S_31 x3 x5 x6 x7 x9 x10 (0 : Int32)
      else
        gbs (h_put ((48 : Int32) + x12_27) S_31) (fun v_32 S_33 =>
        if v_32 = 0 then
          B_told_455 xs L K262 S_33 x3 x5 x6 x7 x9 x10 (0 : Int32)
        else
          gbs (h_put ((48 : Int32) + x13_28) S_33) (fun v_34 S_35 =>
          if v_34 = 0 then
            B_told_455 xs L K262 S_35 x3 x5 x6 x7 x9 x10 (0 : Int32)
          else
            gbs (h_put ((48 : Int32) + (x14_29 / (10 : Int32))) S_35) (fun v_36 S_37 =>
            if v_36 = 0 then
              B_told_455 xs L K262 S_37 x3 x5 x6 x7 x9 x10 (0 : Int32)
            else
              gbs (gp1 S_37 (h_X10_errorPosition S_37.1)) (fun v_38 S_39 =>
              if v_38 = (x9 + (4 : Int32)) then
                gbs (h_put ((48 : Int32) + (x14_29 - x14_29 / (10 : Int32) * (10 : Int32))) S_39) (fun v_40 S_41 =>
                if v_40 = 0 then
                  B_told_455 xs L K262 S_41 x3 x5 x6 x7 x9 x10 (0 : Int32)
                else
                  gbs (gp1 S_41 (h_X10_errorPosition S_41.1)) (fun v_42 S_43 =>
                  if v_42 = (x9 + (5 : Int32)) then
                    gbs (h_put ((49 : Int32) + ((x11_26 / (16384 : Int32)) - (x11_26 / (16384 : Int32)) / (9 : Int32) * (9 : Int32))) S_43) (fun v_44 S_45 =>
                    if v_44 = 0 then
                      B_told_455 xs L K262 S_45 x3 x5 x6 x7 x9 x10 (0 : Int32)
                    else
                      gbs (gp1 S_45 (h_X10_errorPosition S_45.1)) (fun v_46 S_47 =>
                      if v_46 = (-9 : Int32) then
                        B_told_455 xs L K262 S_47 x3 x5 x6 x7 x9 x10 (1 : Int32)
                      else
                        B_told_455 xs L K262 S_47 x3 x5 x6 x7 x9 x10 (0 : Int32)))
                  else
                    B_told_455 xs L K262 S_43 x3 x5 x6 x7 x9 x10 (0 : Int32)))
              else
                B_told_455 xs L K262 S_39 x3 x5 x6 x7 x9 x10 (0 : Int32))))))))))))))))
noncomputable def L_told_262 (xs : Nat → Int32) (L : Nat) : Nat → At2 → Int32 → Int32 → Int32 → Int32 → Int32 → Int32 → Int32 → Option (Int32 × At2)
  | 0 => fun _ _ _ _ _ _ _ _ => none
  | n + 1 => Lb_told_262 xs L (L_told_262 xs L n)
noncomputable def B_told_248 (xs : Nat → Int32) (L : Nat) (K105 : At2 → Int32 → Int32 → Int32 → Int32 → Int32 → Int32 → Int32 → Option (Int32 × At2)) (S : At2) (x3 : Int32) (x5 : Int32) (x6 : Int32) (x7 : Int32) (x9 : Int32) (x10 : Int32) (t0 : Int32) : Option (Int32 × At2) :=
  gvi (x9 + (4 : Int32)) (fun x9_48 =>
  gvi (x10 + (1 : Int32)) (fun x10_49 =>
  K105 S x3 x5 x6 x7 t0 x9_48 x10_49))
noncomputable def Lb_told_105 (xs : Nat → Int32) (L : Nat) (K105 : At2 → Int32 → Int32 → Int32 → Int32 → Int32 → Int32 → Int32 → Option (Int32 × At2)) (S : At2) (x3 : Int32) (x5 : Int32) (x6 : Int32) (x7 : Int32) (x8 : Int32) (x9 : Int32) (x10 : Int32) : Option (Int32 × At2) :=
  if x6 ≤ x10 then
    L_told_262 xs L 7 S x3 x5 x6 x7 x8 x9 (0 : Int32)
  else
    if x8 = 0 then
      L_told_262 xs L 7 S x3 x5 x6 x7 x8 x9 (0 : Int32)
    else
      gck (decide ((0 : Int32) ≤ ((x3 + (1 : Int32)) + (x10 - x10 / (3 : Int32) * (3 : Int32))))) (gvi (gNum xs L ((x3 + (1 : Int32)) + (x10 - x10 / (3 : Int32) * (3 : Int32)))) (fun v_50 =>
      gck (!decide ((1 : Int32) + ((13 : Int32) * (x10 / (3 : Int32))) = 0)) (
      gvi (v_50 / ((1 : Int32) + ((13 : Int32) * (x10 / (3 : Int32))))) (fun x11_51 =>
      gck (!decide (x5 = 0)) (
      gvi (x11_51 - x11_51 / x5 * x5) (fun x12_52 =>
      gck (!decide (x5 - (1 : Int32) = 0)) (
      gck (!decide (x5 = 0)) (
      gvi (((x12_52 + (1 : Int32)) + ((x11_51 / (16 : Int32)) - (x11_51 / (16 : Int32)) / (x5 - (1 : Int32)) * (x5 - (1 : Int32)))) - ((x12_52 + (1 : Int32)) + ((x11_51 / (16 : Int32)) - (x11_51 / (16 : Int32)) / (x5 - (1 : Int32)) * (x5 - (1 : Int32)))) / x5 * x5) (fun x13_53 =>
      gbs (h_put (116 : Int32) S) (fun v_54 S_55 =>
      if v_54 = 0 then
        B_told_248 xs L K105 S_55 x3 x5 x6 x7 x9 x10 (0 : Int32)
      else
        gbs (h_put ((48 : Int32) + x12_52) S_55) (fun v_56 S_57 =>
        if v_56 = 0 then
          B_told_248 xs L K105 S_57 x3 x5 x6 x7 x9 x10 (0 : Int32)
        else
          gbs (gp1 S_57 (h_X10_errorPosition S_57.1)) (fun v_58 S_59 =>
          if v_58 = (x9 + (2 : Int32)) then
            gbs (h_put ((48 : Int32) + x13_53) S_59) (fun v_60 S_61 =>
            if v_60 = 0 then
              B_told_248 xs L K105 S_61 x3 x5 x6 x7 x9 x10 (0 : Int32)
            else
              gbs (h_put ((49 : Int32) + ((x11_51 / (256 : Int32)) - (x11_51 / (256 : Int32)) / (5 : Int32) * (5 : Int32))) S_61) (fun v_62 S_63 =>
              if v_62 = 0 then
                B_told_248 xs L K105 S_63 x3 x5 x6 x7 x9 x10 (0 : Int32)
              else
                gbs (gp1 S_63 (h_X10_errorPosition S_63.1)) (fun v_64 S_65 =>
                if v_64 = (-9 : Int32) then
                  B_told_248 xs L K105 S_65 x3 x5 x6 x7 x9 x10 (1 : Int32)
                else
                  B_told_248 xs L K105 S_65 x3 x5 x6 x7 x9 x10 (0 : Int32))))
          else
            B_told_248 xs L K105 S_59 x3 x5 x6 x7 x9 x10 (0 : Int32)))))))))))))
noncomputable def L_told_105 (xs : Nat → Int32) (L : Nat) : Nat → At2 → Int32 → Int32 → Int32 → Int32 → Int32 → Int32 → Int32 → Option (Int32 × At2)
  | 0 => fun _ _ _ _ _ _ _ _ => none
  | n + 1 => Lb_told_105 xs L (L_told_105 xs L n)
noncomputable def B_told_97 (xs : Nat → Int32) (L : Nat) (S : At2) (x3 : Int32) (x5 : Int32) (x6 : Int32) (x7 : Int32) (t0 : Int32) : Option (Int32 × At2) :=
  L_told_105 xs L 10 S x3 x5 x6 x7 t0 (2 : Int32) (0 : Int32)
noncomputable def h_told (xs : Nat → Int32) (L : Nat) (a3 : Int32) (S : At2) : Option (Int32 × At2) :=
  gck (decide ((0 : Int32) ≤ a3)) (gvi (gNum xs L a3) (fun v_66 =>
  gvi ((2 : Int32) + (v_66 - v_66 / (6 : Int32) * (6 : Int32))) (fun x5_67 =>
  gvi ((2 : Int32) + ((v_66 / (8 : Int32)) - (v_66 / (8 : Int32)) / (8 : Int32) * (8 : Int32))) (fun x6_68 =>
  gvi ((1 : Int32) + ((v_66 / (128 : Int32)) - (v_66 / (128 : Int32)) / (6 : Int32) * (6 : Int32))) (fun x7_69 =>
  gbs (gp1 S (h_X10_clearText S.1)) (fun v_70 S_71 =>
  gbs (gq1 S_71 (h_X10_clearText S_71.2)) (fun v_72 S_73 =>
  if v_70 = v_72 then
    gbs (h_put (82 : Int32) S_73) (fun v_74 S_75 =>
    if v_74 = 0 then
      B_told_97 xs L S_75 a3 x5_67 x6_68 x7_69 (0 : Int32)
    else
      gbs (gp1 S_75 (h_X10_errorPosition S_75.1)) (fun v_76 S_77 =>
      if v_76 = (1 : Int32) then
        gbs (h_put ((48 : Int32) + x5_67) S_77) (fun v_78 S_79 =>
        if v_78 = 0 then
          B_told_97 xs L S_79 a3 x5_67 x6_68 x7_69 (0 : Int32)
        else
          gbs (gp1 S_79 (h_X10_errorPosition S_79.1)) (fun v_80 S_81 =>
          if v_80 = (-9 : Int32) then
            B_told_97 xs L S_81 a3 x5_67 x6_68 x7_69 (1 : Int32)
          else
            B_told_97 xs L S_81 a3 x5_67 x6_68 x7_69 (0 : Int32)))
      else
        B_told_97 xs L S_77 a3 x5_67 x6_68 x7_69 (0 : Int32)))
  else
    B_told_97 xs L S_73 a3 x5_67 x6_68 x7_69 (0 : Int32))))))))
