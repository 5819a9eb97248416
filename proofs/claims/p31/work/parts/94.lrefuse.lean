/-! ===== the law's methods, played over the games: calls that are refused ===== -/
theorem gbsN {σ α : Type} {v : Int32} {s : σ} {k : Int32 → σ → Option α} : gbs (some (v, s)) k = k v s := Eq.trans (show gbs (some (v, s)) k = k v s from rfl) (Eq.refl _)
theorem gp1N {S : At2} {v : Int32} {t : At} : gp1 S (some (v, t)) = some (v, (t, S.2)) := Eq.trans (show gp1 S (some (v, t)) = some (v, (t, S.2)) from rfl) (Eq.refl _)
theorem gq1N {S : At2} {v : Int32} {t : At} : gq1 S (some (v, t)) = some (v, (S.1, t)) := Eq.trans (show gq1 S (some (v, t)) = some (v, (S.1, t)) from rfl) (Eq.refl _)
theorem ix44 : ixO 4 (4 : Int32) = none := by decide
theorem ix40 : ixO 4 (0 : Int32) = some 0 := by decide
theorem ix4m : ixO 4 (-1 : Int32) = none := by decide
theorem ix22 : ixO 2 (2 : Int32) = none := by decide
theorem ix2m : ixO 2 (-1 : Int32) = none := by decide
theorem ixO_self {n : Nat} (h : n < 2147483648) : ixO n (nI n) = none := ixO_f (by rw [below_nI h h]; exact decide_eq_false (Nat.lt_irrefl n))
theorem ixO_0 {n : Nat} (h : 0 < n) (hn : n < 2147483648) : ixO n (0 : Int32) = some 0 := by rw [show (0 : Int32) = nI 0 from rfl]; exact ixO_t h hn
theorem ixO_1 {n : Nat} (h : 1 < n) (hn : n < 2147483648) : ixO n (1 : Int32) = some 1 := by rw [show (1 : Int32) = nI 1 from rfl]; exact ixO_t h hn
theorem bel_self {n : Nat} (h : n < 2147483648) : below n (nI n) = false := by rw [below_nI h h]; exact decide_eq_false (Nat.lt_irrefl n)
theorem bel_0 {n : Nat} (h : 0 < n) (hn : n < 2147483648) : below n (0 : Int32) = true := by rw [show (0 : Int32) = nI 0 from rfl, below_nI hn (by omega)]; exact decide_eq_true h
theorem bel_1 {n : Nat} (h : 1 < n) (hn : n < 2147483648) : below n (1 : Int32) = true := by rw [show (1 : Int32) = nI 1 from rfl, below_nI hn (by omega)]; exact decide_eq_true h
theorem nCit_of {g : Game} {c : Nat} (h : g.1 0 = nI c) (hc : c ≤ 9) : nCit g = c := by
  unfold nCit
  rw [h, nI_c (by omega)]
section RFS
variable {c m : Nat} {u : At}
theorem e_r377 (hV : V c m u.2.1) (hn : u.1 < 90000) : B_refuses_377 u (nI c) (nI u.2.1.2.2.2.2.length) 1 = some (1, u) := by
  obtain ⟨⟨hc2, hc9, hc⟩, -, -, -, -, ⟨hk8, -⟩⟩ := hV
  have hN := nCit_of hc hc9
  have e1 : h_tryWay 4 0 0 0 0 u = some (-9999001, u) := by simp [h_tryWay, nWay, ix44]
  have e2 : h_tryWay 0 (nI c) 0 0 0 u = some (-9999001, u) := by simp [h_tryWay, nWay, ix40, hN, ixO_self (n := c) (by omega)]
  have e3 : h_tryWay 0 1 1 1 0 u = some (-9999002, u) := by simp [h_tryWay, nWay, ix40, hN, ixO_1 (n := c) (by omega) (by omega)]
  have e4 : h_tryWay 0 0 1 25 0 u = some (-9999002, u) := by simp [h_tryWay, nWay, ix40, hN, ixO_0 (n := c) (by omega) (by omega), ixO_1 (n := c) (by omega) (by omega), rgB]
  have e5 : h_tryWay 0 0 1 1 4 u = some (-9999002, u) := by simp [h_tryWay, nWay, ix40, hN, ixO_0 (n := c) (by omega) (by omega), ixO_1 (n := c) (by omega) (by omega), rgB]
  have e6 : h_tryWhyNot (nI u.2.1.2.2.2.2.length) 0 u = some (-9999001, u) := by simp [h_tryWhyNot, nWhy, ixO_self (n := u.2.1.2.2.2.2.length) (by omega)]
  have e7 : h_tryLevelFor 4 0 u = some (-9999001, u) := by simp [h_tryLevelFor, nLev, ix44]
  have e8 : h_tryLevelFor 0 (nI u.2.1.2.2.2.2.length) u = some (-9999001, u) := by simp [h_tryLevelFor, nLev, ix40, ixO_self (n := u.2.1.2.2.2.2.length) (by omega)]
  have e9 : h_tryBestContract (-1) u = some (-9999001, u) := by simp [h_tryBestContract, nBest, ix4m]
  have e10 : h_tryCoinsAfter 4 51 u = some (-9999001, u) := by simp [h_tryCoinsAfter, nCoins, ix44]
  have e11 : h_tryCoinsAfter 0 51 u = some (-9999002, u) := by simp [h_tryCoinsAfter, nCoins, ix40, rgB]
  have e12 : h_tryBankruptAfter 4 u = some (-9999001, u) := by simp [h_tryBankruptAfter, hn, nBk, ix44]
  have e13 : h_tryWorth (-1) u = some (-9999001, u) := by simp [h_tryWorth, nWorth, ix4m]
  have e14 : h_tryScript 4 0 u = some (-9999002, u) := by simp [h_tryScript, nScr, rgB]
  have e15 : h_tryScript 1 100000 u = some (-9999002, u) := by
    unfold h_tryScript nScr
    rw [if_pos (by decide), if_neg (by decide), if_neg (by decide)]
  have e16 : h_trySimulate 1 51 u = some (-9999002, u) := by simp [h_trySimulate, nSim, rgB]
  have e17 : h_trySave 2 u = some (-9999001, u) := by simp [h_trySave, aSave, ix22]
  have e18 : h_tryRestore (-1) u = some (-9999001, u) := by simp [h_tryRestore, aRestore, ix2m]
  have e19 : h_tryAppend 256 u = some (-9999002, u) := by simp [h_tryAppend, aAppend, rgB]
  unfold B_refuses_377
  rw [if_neg (by decide), e1, gbsN, if_pos rfl, e2, gbsN, if_pos rfl, e3, gbsN, if_pos rfl, e4, gbsN, if_pos rfl, e5, gbsN, if_pos rfl, e6, gbsN, if_pos rfl, e7, gbsN, if_pos rfl, e8, gbsN, if_pos rfl, e9, gbsN, if_pos rfl, e10, gbsN, if_pos rfl, e11, gbsN, if_pos rfl, e12, gbsN, if_pos rfl, e13, gbsN, if_pos rfl, e14, gbsN, if_pos rfl, e15, gbsN, if_pos rfl, e16, gbsN, if_pos rfl, e17, gbsN, if_pos rfl, e18, gbsN, if_pos rfl, e19, gbsN, if_pos rfl]
theorem e_r339 (hV : V c m u.2.1) (hn : u.1 < 90000) : B_refuses_339 u (nI c) (nI u.2.1.2.2.2.2.length) = some (1, u) := by
  have hk8 := hV.2.2.2.2.2.1
  have e1 : h_tryTake 4 0 u = some (-9999001, u) := by simp [h_tryTake, aTake, ix44]
  have e2 : h_tryTake 0 (nI u.2.1.2.2.2.2.length) u = some (-9999001, u) := by simp [h_tryTake, aTake, ix40, ixO_self (n := u.2.1.2.2.2.2.length) (by omega)]
  have e3 : h_tryRun (nI u.2.1.2.2.2.2.length) 0 u = some (-9999001, u) := by simp [h_tryRun, aRun, ixO_self (n := u.2.1.2.2.2.2.length) (by omega)]
  unfold B_refuses_339
  rw [e1, gbsN, if_pos rfl, e2, gbsN, if_pos rfl, e3, gbsN, if_pos rfl]
  exact e_r377 hV hn
theorem e_r243 (hV : V c m u.2.1) (hn : u.1 < 90000) : B_refuses_243 u (nI c) (nI u.2.1.2.2.2.2.length) = some (1, u) := by
  obtain ⟨⟨hc2, hc9, hc⟩, -, -, -, -, ⟨hk8, -⟩⟩ := id hV
  have hN := nCit_of hc hc9
  have e1 : h_trySetRent (-1) 10 u = some (-9999001, u) := by simp [h_trySetRent, aSetRent, ix4m]
  have e2 : h_trySetRent 0 10 u = some (-9999002, u) := by simp [h_trySetRent, aSetRent, ix40, rgB]
  have e3 : h_tryOffer (nI c) 0 0 0 u = some (-9999001, u) := by simp [h_tryOffer, aOffer, hN, bel_self (n := c) (by omega)]
  have b0 := bel_0 (n := c) (by omega) (by omega)
  have b1 := bel_1 (n := c) (by omega) (by omega)
  have e4 : h_tryOffer 0 0 1 1 u = some (-9999002, u) := by simp [h_tryOffer, aOffer, hN, b0, b1, rgB]
  have e5 : h_tryOffer 0 1 0 1 u = some (-9999002, u) := by simp [h_tryOffer, aOffer, hN, b0, b1, rgB]
  have e6 : h_tryOffer 0 1 1 10 u = some (-9999002, u) := by simp [h_tryOffer, aOffer, hN, b0, b1, rgB]
  unfold B_refuses_243
  rw [e1, gbsN, if_pos rfl, e2, gbsN, if_pos rfl, e3, gbsN, if_pos rfl, e4, gbsN, if_pos rfl, e5, gbsN, if_pos rfl, e6, gbsN, if_pos rfl]
  by_cases h8 : u.2.1.2.2.2.2.length < 8
  · rw [if_pos (by rw [show (8 : Int32) = nI 8 from rfl, nIlt (by omega) (by omega)]; exact h8)]
    exact e_r339 hV hn
  · have h88 : u.2.1.2.2.2.2.length = 8 := by omega
    have e7 : h_tryOffer 0 1 1 1 u = some (-9999003, u) := by simp [h_tryOffer, aOffer, hN, b0, b1, rgB, h88]
    rw [if_neg (by rw [show (8 : Int32) = nI 8 from rfl, nIlt (by omega) (by omega)]; exact h8), e7, gbsN, if_pos rfl]
    exact e_r339 hV hn
theorem e_r222 (hV : V c m u.2.1) (hn : u.1 < 90000) : B_refuses_222 u (nI c) (nI u.2.1.2.2.2.2.length) (nI (u.2.1.2.2.2.1 0).length) = some (1, u) := by
  obtain ⟨-, ⟨p, hp1, hp6, hp⟩, -, -, ht, -⟩ := id hV
  have ht0 := (ht 0 (by omega)).1
  unfold B_refuses_222
  by_cases h4 : (u.2.1.2.2.2.1 0).length < 4
  · rw [if_pos (by rw [show (4 : Int32) = nI 4 from rfl, nIlt (by omega) (by omega)]; exact h4)]
    exact e_r243 hV hn
  · have e1 : h_tryAbout 3 u = some (nI p, u) := by simp [h_tryAbout, nAbout, hp]
    have hr : rgB 1 6 (nI p) = true := by
      unfold rgB
      rw [show (1 : Int32) = nI 1 from rfl, show (6 : Int32) = nI 6 from rfl, decide_eq_true (p := nI 1 ≤ nI p) (by rw [nIle (by omega) (by omega)]; exact hp1), decide_eq_true (p := nI p ≤ nI 6) (by rw [nIle (by omega) (by omega)]; exact hp6)]
      rfl
    have hm : mayN u.2.1 0 (nI p) = false := by
      unfold mayN
      rw [decide_eq_false (p := (u.2.1.2.2.2.1 0).length < 4) h4, Bool.and_false, Bool.false_and]
    have e2 : h_tryBuyTrain 0 (nI p) u = some (-9999003, u) := by simp [h_tryBuyTrain, aBuyTrain, ix40, hr, hm]
    rw [if_neg (by rw [show (4 : Int32) = nI 4 from rfl, nIlt (by omega) (by omega)]; exact h4), e1, gbsN, e2, gbsN, if_pos rfl]
    exact e_r243 hV hn
theorem e_r145 (hV : V c m u.2.1) (hn : u.1 < 90000) : B_refuses_145 u (nI c) (nI u.2.1.2.1.length) (nI u.2.1.2.2.2.2.length) (nI (u.2.1.2.2.2.1 0).length) = some (1, u) := by
  obtain ⟨-, ⟨p, hp1, hp6, hp⟩, ⟨hT, -⟩, -, -, -⟩ := id hV
  have e1 : h_tryBuyTrack 4 0 u = some (-9999001, u) := by simp [h_tryBuyTrack, aBuyTrack, ix44]
  have e2 : h_tryBuyTrack 0 (nI u.2.1.2.1.length) u = some (-9999001, u) := by simp [h_tryBuyTrack, aBuyTrack, ix40, ixO_self (n := u.2.1.2.1.length) (by omega)]
  have e3 : h_tryBuyTrain 4 0 u = some (-9999001, u) := by simp [h_tryBuyTrain, aBuyTrain, ix44]
  have e4 : h_tryBuyTrain 0 0 u = some (-9999002, u) := by simp [h_tryBuyTrain, aBuyTrain, ix40, rgB]
  have e5 : h_tryBuyTrain 0 7 u = some (-9999002, u) := by simp [h_tryBuyTrain, aBuyTrain, ix40, rgB]
  have e6 : h_tryAbout 3 u = some (nI p, u) := by simp [h_tryAbout, nAbout, hp]
  unfold B_refuses_145
  rw [e1, gbsN, if_pos rfl, e2, gbsN, if_pos rfl, e3, gbsN, if_pos rfl, e4, gbsN, if_pos rfl, e5, gbsN, if_pos rfl, e6, gbsN]
  by_cases h3 : 3 < p
  · rw [if_pos (by rw [show (3 : Int32) = nI 3 from rfl, nIlt (by omega) (by omega)]; exact h3)]
    exact e_r222 hV hn
  · have hm : mayN u.2.1 0 6 = false := by
      unfold mayN
      rw [hp, show (1 : Int32) = nI 1 from rfl, nI_add, show (6 : Int32) = nI 6 from rfl, decide_eq_false (p := nI 6 ≤ nI (p + 1)) (by rw [nIle (by omega) (by omega)]; omega), Bool.and_false, Bool.false_and, Bool.false_and]
    have e7 : h_tryBuyTrain 0 6 u = some (-9999003, u) := by simp [h_tryBuyTrain, aBuyTrain, ix40, rgB, hm]
    rw [if_neg (by rw [show (3 : Int32) = nI 3 from rfl, nIlt (by omega) (by omega)]; exact h3), e7, gbsN, if_pos rfl]
    exact e_r222 hV hn
theorem e_r117 (hV : V c m u.2.1) (hn : u.1 < 90000) : B_refuses_117 u (nI c) (nI u.2.1.2.1.length) (nI u.2.1.2.2.2.2.length) (nI (u.2.1.2.2.2.1 0).length) = some (1, u) := by
  have hk8 := hV.2.2.2.2.2.1
  have e1 : h_tryContract (nI u.2.1.2.2.2.2.length) 6 u = some (-9999001, u) := by simp [h_tryContract, nContract, ixO_self (n := u.2.1.2.2.2.2.length) (by omega)]
  unfold B_refuses_117
  rw [e1, gbsN, if_pos rfl]
  by_cases h0 : u.2.1.2.2.2.2.length = 0
  · rw [if_pos (by rw [h0]; rfl)]
    exact e_r145 hV hn
  · obtain ⟨a, ha⟩ := some_of_lt (show 0 < u.2.1.2.2.2.2.length by omega)
    have e2 : h_tryContract 0 6 u = some (-9999002, u) := by simp [-List.getElem?_eq_getElem, -getElem?_pos, h_tryContract, nContract, ixO_0 (n := u.2.1.2.2.2.2.length) (by omega) (by omega), ha]
    rw [if_neg (by rw [show (0 : Int32) = nI 0 from rfl, nI_inj (by omega) (by omega)]; exact h0), e2, gbsN, if_pos rfl]
    exact e_r145 hV hn
theorem e_r63 (hV : V c m u.2.1) (hn : u.1 < 90000) : B_refuses_63 u (nI c) (nI u.2.1.2.1.length) (nI u.2.1.2.2.2.2.length) (nI (u.2.1.2.2.2.1 0).length) = some (1, u) := by
  obtain ⟨-, -, -, -, ht, -⟩ := id hV
  have ht0 := (ht 0 (by omega)).1
  have e1 : h_tryCompany 4 7 u = some (-9999001, u) := by simp [h_tryCompany, nCompany, ix44]
  have e2 : h_tryCompany 0 7 u = some (-9999002, u) := by simp [h_tryCompany, nCompany, ix40]
  have e3 : h_tryTrain 0 (nI (u.2.1.2.2.2.1 0).length) 2 u = some (-9999001, u) := by simp [h_tryTrain, nTrain, ix40, ixO_self (n := (u.2.1.2.2.2.1 0).length) (by omega)]
  unfold B_refuses_63
  rw [e1, gbsN, if_pos rfl, e2, gbsN, if_pos rfl, e3, gbsN, if_pos rfl]
  by_cases h0 : (u.2.1.2.2.2.1 0).length = 0
  · rw [if_pos (by rw [h0]; rfl)]
    exact e_r117 hV hn
  · obtain ⟨a, ha⟩ := some_of_lt (show 0 < (u.2.1.2.2.2.1 0).length by omega)
    have e4 : h_tryTrain 0 0 2 u = some (-9999002, u) := by simp [-List.getElem?_eq_getElem, -getElem?_pos, h_tryTrain, nTrain, ix40, ixO_0 (n := (u.2.1.2.2.2.1 0).length) (by omega) (by omega), ha]
    rw [if_neg (by rw [show (0 : Int32) = nI 0 from rfl, nI_inj (by omega) (by omega)]; exact h0), e4, gbsN, if_pos rfl]
    exact e_r117 hV hn
theorem refuses_ok (hV : V c m u.2.1) (hn : u.1 < 90000) : h_refuses u = some (1, u) := by
  obtain ⟨⟨hc2, hc9, hc⟩, -, ⟨hT, -⟩, -, -, ⟨hk8, -⟩⟩ := id hV
  have e1 : h_tryAbout 0 u = some (nI c, u) := by simp [h_tryAbout, nAbout, hc]
  have e2 : h_tryAbout 1 u = some (nI u.2.1.2.1.length, u) := by simp [h_tryAbout, nAbout]
  have e3 : h_tryAbout 2 u = some (nI u.2.1.2.2.2.2.length, u) := by simp [h_tryAbout, nAbout]
  have e4 : h_tryCompany 0 2 u = some (nI (u.2.1.2.2.2.1 0).length, u) := by simp [h_tryCompany, nCompany, ix40]
  have e5 : h_tryAbout 11 u = some (-9999002, u) := by simp [h_tryAbout, nAbout]
  have e6 : h_tryTrack (nI u.2.1.2.1.length) 4 u = some (-9999001, u) := by simp [h_tryTrack, nTrack, ixO_self (n := u.2.1.2.1.length) (by omega)]
  unfold h_refuses
  rw [e1, gbsN, e2, gbsN, e3, gbsN, e4, gbsN, e5, gbsN, if_pos rfl, e6, gbsN, if_pos rfl]
  by_cases h0 : u.2.1.2.1.length = 0
  · rw [if_pos (by rw [h0]; rfl)]
    exact e_r63 hV hn
  · obtain ⟨a, ha⟩ := some_of_lt (show 0 < u.2.1.2.1.length by omega)
    have e7 : h_tryTrack 0 4 u = some (-9999002, u) := by simp [-List.getElem?_eq_getElem, -getElem?_pos, h_tryTrack, nTrack, ixO_0 (n := u.2.1.2.1.length) (by omega) (by omega), ha]
    rw [if_neg (by rw [show (0 : Int32) = nI 0 from rfl, nI_inj (by omega) (by omega)]; exact h0), e7, gbsN, if_pos rfl]
    exact e_r63 hV hn
end RFS
