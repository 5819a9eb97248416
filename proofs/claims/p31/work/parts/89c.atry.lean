/-! ===== the calls' contracts, told by the games ===== -/
theorem a_tryAppend (l : Launch) (hst : l.stackTraces = false) (G : gG) (a1 : Int32) (S : At) (r : Int32) (S' : At) (hf : h_tryAppend a1 S = some (r, S')) : gC l yL_tryAppend [Cond.codeWith yL_tryAppend cL_tryAppend 3 (some .int) [(0, 5, 6, 13), (0, 5, 10, 16)]] (gRx 8 133 2 12) G (gNo G) E0 (gPA G S) [.ref (G.2.1 0), .int a1] (some (.int r)) (gPA G S') 2 12 := by
  refine gC_of_gCw (fun T hT => ?_)
  obtain ⟨n, s⟩ := S
  obtain ⟨T1, e1, e2⟩ := rf_append a1 hT.2 T hT
  have h9 := Option.some.inj hf
  rw [show aAppend a1 (n, s) = (r, S') from h9] at e1 e2
  exact ⟨T1, c_L_tryAppend l hst G a1 T r T1 e1, e2⟩
theorem a_tryLoad (l : Launch) (hst : l.stackTraces = false) (G : gG) (S : At) (r : Int32) (S' : At) (hf : h_tryLoad S = some (r, S')) : gC l yL_tryLoad [Cond.codeWith yL_tryLoad cL_tryLoad 2 (some .int) [(0, 4, 5, 16)]] (gRx 7 159 1 6) G (gNo G) E0 (gPA G S) [.ref (G.2.1 0)] (some (.int r)) (gPA G S') 1 6 := by
  refine gC_of_gCw (fun T hT => ?_)
  obtain ⟨n, s⟩ := S
  obtain ⟨T1, e1, e2⟩ := rf_load hT.2 T hT
  have h9 := Option.some.inj hf
  rw [show aLoad (n, s) = (r, S') from h9] at e1 e2
  exact ⟨T1, c_L_tryLoad l hst G T r T1 e1, e2⟩
theorem a_tryAbout (l : Launch) (hst : l.stackTraces = false) (G : gG) (a1 : Int32) (S : At) (r : Int32) (S' : At) (hf : h_tryAbout a1 S = some (r, S')) : gC l yL_tryAbout [Cond.codeWith yL_tryAbout cL_tryAbout 3 (some .int) [(0, 5, 6, 13)]] (gRx 7 111 1 6) G (gNo G) E0 (gPA G S) [.ref (G.2.1 0), .int a1] (some (.int r)) (gPA G S') 1 6 := by
  refine gC_of_gCw (fun T hT => ?_)
  obtain ⟨n, s⟩ := S
  obtain ⟨T1, e1, e2⟩ := rf_about a1 hT.2 T hT
  have h9 := Option.some.inj hf
  rw [show ((_, (n, s)) : Int32 × At) = (r, S') from h9] at e1 e2
  exact ⟨T1, c_L_tryAbout l hst G a1 T r T1 e1, e2⟩
theorem a_tryTrack (l : Launch) (hst : l.stackTraces = false) (G : gG) (a1 : Int32) (a2 : Int32) (S : At) (r : Int32) (S' : At) (hf : h_tryTrack a1 a2 S = some (r, S')) : gC l yL_tryTrack [Cond.codeWith yL_tryTrack cL_tryTrack 4 (some .int) [(0, 6, 7, 30), (0, 6, 11, 13)]] (gRx 9 154 2 12) G (gNo G) E0 (gPA G S) [.ref (G.2.1 0), .int a1, .int a2] (some (.int r)) (gPA G S') 2 12 := by
  refine gC_of_gCw (fun T hT => ?_)
  obtain ⟨n, s⟩ := S
  obtain ⟨T1, e1, e2⟩ := rf_track a1 a2 hT.2 T hT
  have h9 := Option.some.inj hf
  rw [show ((_, (n, s)) : Int32 × At) = (r, S') from h9] at e1 e2
  exact ⟨T1, c_L_tryTrack l hst G a1 a2 T r T1 e1, e2⟩
theorem a_tryCompany (l : Launch) (hst : l.stackTraces = false) (G : gG) (a1 : Int32) (a2 : Int32) (S : At) (r : Int32) (S' : At) (hf : h_tryCompany a1 a2 S = some (r, S')) : gC l yL_tryCompany [Cond.codeWith yL_tryCompany cL_tryCompany 4 (some .int) [(0, 6, 7, 30), (0, 6, 11, 13)]] (gRx 9 153 2 12) G (gNo G) E0 (gPA G S) [.ref (G.2.1 0), .int a1, .int a2] (some (.int r)) (gPA G S') 2 12 := by
  refine gC_of_gCw (fun T hT => ?_)
  obtain ⟨n, s⟩ := S
  obtain ⟨T1, e1, e2⟩ := rf_company a1 a2 hT.2 T hT
  have h9 := Option.some.inj hf
  rw [show ((_, (n, s)) : Int32 × At) = (r, S') from h9] at e1 e2
  exact ⟨T1, c_L_tryCompany l hst G a1 a2 T r T1 e1, e2⟩
theorem a_tryTrain (l : Launch) (hst : l.stackTraces = false) (G : gG) (a1 : Int32) (a2 : Int32) (a3 : Int32) (S : At) (r : Int32) (S' : At) (hf : h_tryTrain a1 a2 a3 S = some (r, S')) : gC l yL_tryTrain [Cond.codeWith yL_tryTrain cL_tryTrain 5 (some .int) [(0, 7, 8, 30), (0, 7, 13, 13)]] (gRx 9 155 3 18) G (gNo G) E0 (gPA G S) [.ref (G.2.1 0), .int a1, .int a2, .int a3] (some (.int r)) (gPA G S') 3 18 := by
  refine gC_of_gCw (fun T hT => ?_)
  obtain ⟨n, s⟩ := S
  obtain ⟨T1, e1, e2⟩ := rf_train a1 a2 a3 hT.2 T hT
  have h9 := Option.some.inj hf
  rw [show ((_, (n, s)) : Int32 × At) = (r, S') from h9] at e1 e2
  exact ⟨T1, c_L_tryTrain l hst G a1 a2 a3 T r T1 e1, e2⟩
theorem a_tryContract (l : Launch) (hst : l.stackTraces = false) (G : gG) (a1 : Int32) (a2 : Int32) (S : At) (r : Int32) (S' : At) (hf : h_tryContract a1 a2 S = some (r, S')) : gC l yL_tryContract [Cond.codeWith yL_tryContract cL_tryContract 4 (some .int) [(0, 6, 7, 30), (0, 6, 11, 13)]] (gRx 9 154 2 12) G (gNo G) E0 (gPA G S) [.ref (G.2.1 0), .int a1, .int a2] (some (.int r)) (gPA G S') 2 12 := by
  refine gC_of_gCw (fun T hT => ?_)
  obtain ⟨n, s⟩ := S
  obtain ⟨T1, e1, e2⟩ := rf_contract a1 a2 hT.2 T hT
  have h9 := Option.some.inj hf
  rw [show ((_, (n, s)) : Int32 × At) = (r, S') from h9] at e1 e2
  exact ⟨T1, c_L_tryContract l hst G a1 a2 T r T1 e1, e2⟩
theorem a_tryBuyTrack (l : Launch) (hst : l.stackTraces = false) (G : gG) (a1 : Int32) (a2 : Int32) (S : At) (r : Int32) (S' : At) (hf : h_tryBuyTrack a1 a2 S = some (r, S')) : gC l yL_tryBuyTrack [Cond.codeWith yL_tryBuyTrack cL_tryBuyTrack 4 (some .int) [(0, 6, 7, 30), (0, 6, 11, 16)]] (gRx 9 187 3 18) G (gNo G) E0 (gPA G S) [.ref (G.2.1 0), .int a1, .int a2] (some (.int r)) (gPA G S') 3 18 := by
  refine gC_of_gCw (fun T hT => ?_)
  obtain ⟨n, s⟩ := S
  obtain ⟨T1, e1, e2⟩ := rf_buyTrack a1 a2 hT.2 T hT
  have h9 := Option.some.inj hf
  rw [show aBuyTrack a1 a2 (n, s) = (r, S') from h9] at e1 e2
  exact ⟨T1, c_L_tryBuyTrack l hst G a1 a2 T r T1 e1, e2⟩
theorem a_tryBuyTrain (l : Launch) (hst : l.stackTraces = false) (G : gG) (a1 : Int32) (a2 : Int32) (S : At) (r : Int32) (S' : At) (hf : h_tryBuyTrain a1 a2 S = some (r, S')) : gC l yL_tryBuyTrain [Cond.codeWith yL_tryBuyTrain cL_tryBuyTrain 4 (some .int) [(0, 6, 7, 30), (0, 6, 11, 13), (0, 6, 15, 16)]] (gRx 9 187 3 18) G (gNo G) E0 (gPA G S) [.ref (G.2.1 0), .int a1, .int a2] (some (.int r)) (gPA G S') 3 18 := by
  refine gC_of_gCw (fun T hT => ?_)
  obtain ⟨n, s⟩ := S
  obtain ⟨T1, e1, e2⟩ := rf_buyTrain a1 a2 hT.2 T hT
  have h9 := Option.some.inj hf
  rw [show aBuyTrain a1 a2 (n, s) = (r, S') from h9] at e1 e2
  exact ⟨T1, c_L_tryBuyTrain l hst G a1 a2 T r T1 e1, e2⟩
theorem a_trySetRent (l : Launch) (hst : l.stackTraces = false) (G : gG) (a1 : Int32) (a2 : Int32) (S : At) (r : Int32) (S' : At) (hf : h_trySetRent a1 a2 S = some (r, S')) : gC l yL_trySetRent [Cond.codeWith yL_trySetRent cL_trySetRent 4 (some .int) [(0, 6, 7, 30), (0, 6, 11, 13)]] (gRx 9 188 2 12) G (gNo G) E0 (gPA G S) [.ref (G.2.1 0), .int a1, .int a2] (some (.int r)) (gPA G S') 2 12 := by
  refine gC_of_gCw (fun T hT => ?_)
  obtain ⟨n, s⟩ := S
  obtain ⟨T1, e1, e2⟩ := rf_setRent a1 a2 hT.2 T hT
  have h9 := Option.some.inj hf
  rw [show aSetRent a1 a2 (n, s) = (r, S') from h9] at e1 e2
  exact ⟨T1, c_L_trySetRent l hst G a1 a2 T r T1 e1, e2⟩
theorem a_tryOffer (l : Launch) (hst : l.stackTraces = false) (G : gG) (a1 : Int32) (a2 : Int32) (a3 : Int32) (a4 : Int32) (S : At) (r : Int32) (S' : At) (hf : h_tryOffer a1 a2 a3 a4 S = some (r, S')) : gC l yL_tryOffer [Cond.codeWith yL_tryOffer cL_tryOffer 6 (some .int) [(0, 9, 10, 30), (0, 9, 15, 13), (0, 9, 20, 16)]] (gRx 9 189 6 36) G (gNo G) E0 (gPA G S) [.ref (G.2.1 0), .int a1, .int a2, .int a3, .int a4] (some (.int r)) (gPA G S') 6 36 := by
  refine gC_of_gCw (fun T hT => ?_)
  obtain ⟨n, s⟩ := S
  obtain ⟨T1, e1, e2⟩ := rf_offer a1 a2 a3 a4 hT.2 T hT
  have h9 := Option.some.inj hf
  rw [show aOffer a1 a2 a3 a4 (n, s) = (r, S') from h9] at e1 e2
  exact ⟨T1, c_L_tryOffer l hst G a1 a2 a3 a4 T r T1 e1, e2⟩
theorem a_tryTake (l : Launch) (hst : l.stackTraces = false) (G : gG) (a1 : Int32) (a2 : Int32) (S : At) (r : Int32) (S' : At) (hf : h_tryTake a1 a2 S = some (r, S')) : gC l yL_tryTake [Cond.codeWith yL_tryTake cL_tryTake 4 (some .int) [(0, 6, 7, 30), (0, 6, 11, 16)]] (gRx 9 187 3 18) G (gNo G) E0 (gPA G S) [.ref (G.2.1 0), .int a1, .int a2] (some (.int r)) (gPA G S') 3 18 := by
  refine gC_of_gCw (fun T hT => ?_)
  obtain ⟨n, s⟩ := S
  obtain ⟨T1, e1, e2⟩ := rf_take a1 a2 hT.2 T hT
  have h9 := Option.some.inj hf
  rw [show aTake a1 a2 (n, s) = (r, S') from h9] at e1 e2
  exact ⟨T1, c_L_tryTake l hst G a1 a2 T r T1 e1, e2⟩
theorem a_tryRun (l : Launch) (hst : l.stackTraces = false) (G : gG) (a1 : Int32) (a2 : Int32) (S : At) (r : Int32) (S' : At) (hf : h_tryRun a1 a2 S = some (r, S')) : gC l yL_tryRun [Cond.codeWith yL_tryRun cL_tryRun 4 (some .int) [(0, 6, 7, 30), (0, 6, 11, 16)]] (gRx 10 187 3 18) G (gNo G) E0 (gPA G S) [.ref (G.2.1 0), .int a1, .int a2] (some (.int r)) (gPA G S') 3 18 := by
  refine gC_of_gCw (fun T hT => ?_)
  obtain ⟨n, s⟩ := S
  obtain ⟨T1, e1, e2⟩ := rf_run a1 a2 hT.2 T hT
  have h9 := Option.some.inj hf
  rw [show aRun a1 a2 (n, s) = (r, S') from h9] at e1 e2
  exact ⟨T1, c_L_tryRun l hst G a1 a2 T r T1 e1, e2⟩
theorem a_tryUndo (l : Launch) (hst : l.stackTraces = false) (G : gG) (S : At) (r : Int32) (S' : At) (hf : h_tryUndo S = some (r, S')) : gC l yL_tryUndo [Cond.codeWith yL_tryUndo cL_tryUndo 2 (some .int) [(0, 4, 5, 16)]] (gRx 8 185 1 6) G (gNo G) E0 (gPA G S) [.ref (G.2.1 0)] (some (.int r)) (gPA G S') 1 6 := by
  refine gC_of_gCw (fun T hT => ?_)
  obtain ⟨n, s⟩ := S
  obtain ⟨T1, e1, e2⟩ := rf_undo hT.2 T hT
  have h9 := Option.some.inj hf
  rw [show aUndo (n, s) = (r, S') from h9] at e1 e2
  exact ⟨T1, c_L_tryUndo l hst G T r T1 e1, e2⟩
theorem a_tryWhyNot (l : Launch) (hst : l.stackTraces = false) (G : gG) (a1 : Int32) (a2 : Int32) (S : At) (r : Int32) (S' : At) (hf : h_tryWhyNot a1 a2 S = some (r, S')) : gC l yL_tryWhyNot [Cond.codeWith yL_tryWhyNot cL_tryWhyNot 4 (some .int) [(0, 6, 7, 30)]] (gRx 10 176 2 12) G (gNo G) E0 (gPA G S) [.ref (G.2.1 0), .int a1, .int a2] (some (.int r)) (gPA G S') 2 12 := by
  refine gC_of_gCw (fun T hT => ?_)
  obtain ⟨n, s⟩ := S
  obtain ⟨T1, e1, e2⟩ := rf_whyNot a1 a2 hT.2 T hT
  have h9 := Option.some.inj hf
  rw [show ((_, (n, s)) : Int32 × At) = (r, S') from h9] at e1 e2
  exact ⟨T1, c_L_tryWhyNot l hst G a1 a2 T r T1 e1, e2⟩
theorem a_tryLevelFor (l : Launch) (hst : l.stackTraces = false) (G : gG) (a1 : Int32) (a2 : Int32) (S : At) (r : Int32) (S' : At) (hf : h_tryLevelFor a1 a2 S = some (r, S')) : gC l yL_tryLevelFor [Cond.codeWith yL_tryLevelFor cL_tryLevelFor 4 (some .int) [(0, 6, 7, 30)]] (gRx 9 153 2 12) G (gNo G) E0 (gPA G S) [.ref (G.2.1 0), .int a1, .int a2] (some (.int r)) (gPA G S') 2 12 := by
  refine gC_of_gCw (fun T hT => ?_)
  obtain ⟨n, s⟩ := S
  obtain ⟨T1, e1, e2⟩ := rf_levelFor a1 a2 hT.2 T hT
  have h9 := Option.some.inj hf
  rw [show ((_, (n, s)) : Int32 × At) = (r, S') from h9] at e1 e2
  exact ⟨T1, c_L_tryLevelFor l hst G a1 a2 T r T1 e1, e2⟩
theorem a_tryBestContract (l : Launch) (hst : l.stackTraces = false) (G : gG) (a1 : Int32) (S : At) (r : Int32) (S' : At) (hf : h_tryBestContract a1 S = some (r, S')) : gC l yL_tryBestContract [Cond.codeWith yL_tryBestContract cL_tryBestContract 3 (some .int) [(0, 5, 6, 30)]] (gRx 9 151 1 6) G (gNo G) E0 (gPA G S) [.ref (G.2.1 0), .int a1] (some (.int r)) (gPA G S') 1 6 := by
  refine gC_of_gCw (fun T hT => ?_)
  obtain ⟨n, s⟩ := S
  obtain ⟨T1, e1, e2⟩ := rf_bestContract a1 hT.2 T hT
  have h9 := Option.some.inj hf
  rw [show ((_, (n, s)) : Int32 × At) = (r, S') from h9] at e1 e2
  exact ⟨T1, c_L_tryBestContract l hst G a1 T r T1 e1, e2⟩
theorem a_tryCoinsAfter (l : Launch) (hst : l.stackTraces = false) (G : gG) (a1 : Int32) (a2 : Int32) (S : At) (r : Int32) (S' : At) (hf : h_tryCoinsAfter a1 a2 S = some (r, S')) : gC l yL_tryCoinsAfter [Cond.codeWith yL_tryCoinsAfter cL_tryCoinsAfter 4 (some .int) [(0, 6, 7, 30), (0, 6, 11, 13)]] (gRx 9 153 2 12) G (gNo G) E0 (gPA G S) [.ref (G.2.1 0), .int a1, .int a2] (some (.int r)) (gPA G S') 2 12 := by
  refine gC_of_gCw (fun T hT => ?_)
  obtain ⟨n, s⟩ := S
  obtain ⟨T1, e1, e2⟩ := rf_coinsAfter a1 a2 hT.2 T hT
  have h9 := Option.some.inj hf
  rw [show ((_, (n, s)) : Int32 × At) = (r, S') from h9] at e1 e2
  exact ⟨T1, c_L_tryCoinsAfter l hst G a1 a2 T r T1 e1, e2⟩
theorem a_tryBankruptAfter (l : Launch) (hst : l.stackTraces = false) (G : gG) (a1 : Int32) (S : At) (r : Int32) (S' : At) (hf : h_tryBankruptAfter a1 S = some (r, S')) : gC l yL_tryBankruptAfter [Cond.codeWith yL_tryBankruptAfter cL_tryBankruptAfter 3 (some .int) [(0, 5, 6, 30)]] (gRx 9 153 1 6) G (gNo G) E0 (gPA G S) [.ref (G.2.1 0), .int a1] (some (.int r)) (gPA G S') 1 6 := by
  refine gC_of_gCw (fun T hT => ?_)
  obtain ⟨n, s⟩ := S
  unfold h_tryBankruptAfter at hf
  split at hf
  · rename_i hn
    obtain ⟨T1, e1, e2⟩ := rf_bankruptAfter hn a1 hT.2 T hT
    have h9 := Option.some.inj hf
    rw [h9] at e1 e2
    exact ⟨T1, c_L_tryBankruptAfter l hst G a1 T r T1 e1, e2⟩
  · cases hf
theorem a_tryWorth (l : Launch) (hst : l.stackTraces = false) (G : gG) (a1 : Int32) (S : At) (r : Int32) (S' : At) (hf : h_tryWorth a1 S = some (r, S')) : gC l yL_tryWorth [Cond.codeWith yL_tryWorth cL_tryWorth 3 (some .int) [(0, 5, 6, 30)]] (gRx 9 151 1 6) G (gNo G) E0 (gPA G S) [.ref (G.2.1 0), .int a1] (some (.int r)) (gPA G S') 1 6 := by
  refine gC_of_gCw (fun T hT => ?_)
  obtain ⟨n, s⟩ := S
  obtain ⟨T1, e1, e2⟩ := rf_worth a1 hT.2 T hT
  have h9 := Option.some.inj hf
  rw [show ((_, (n, s)) : Int32 × At) = (r, S') from h9] at e1 e2
  exact ⟨T1, c_L_tryWorth l hst G a1 T r T1 e1, e2⟩
theorem a_tryScript (l : Launch) (hst : l.stackTraces = false) (G : gG) (a1 : Int32) (a2 : Int64) (S : At) (r : Int32) (S' : At) (hf : h_tryScript a1 a2 S = some (r, S')) : gC l yL_tryScript [Cond.codeWith yL_tryScript cL_tryScript 5 (some .int) [(0, 6, 7, 13)]] (gRx 8 199 2 12) G (gNo G) E0 (gPA G S) [.ref (G.2.1 0), .int a1, .long a2] (some (.int r)) (gPA G S') 2 12 := by
  refine gC_of_gCw (fun T hT => ?_)
  obtain ⟨n, s⟩ := S
  obtain ⟨T1, e1, e2⟩ := rf_runScript a1 a2 hT.2 T hT
  have h9 := Option.some.inj hf
  rw [show ((_, (n, s)) : Int32 × At) = (r, S') from h9] at e1 e2
  exact ⟨T1, c_L_tryScript l hst G a1 a2 T r T1 e1, e2⟩
theorem a_trySimulate (l : Launch) (hst : l.stackTraces = false) (G : gG) (a1 : Int64) (a3 : Int32) (S : At) (r : Int32) (S' : At) (hf : h_trySimulate a1 a3 S = some (r, S')) : gC l yL_trySimulate [Cond.codeWith yL_trySimulate cL_trySimulate 5 (some .int) [(0, 6, 7, 13)]] (gRx 8 198 1 6) G (gNo G) E0 (gPA G S) [.ref (G.2.1 0), .long a1, .int a3] (some (.int r)) (gPA G S') 1 6 := by
  refine gC_of_gCw (fun T hT => ?_)
  obtain ⟨n, s⟩ := S
  obtain ⟨T1, e1, e2⟩ := rf_simulate a1 a3 hT.2 T hT
  have h9 := Option.some.inj hf
  rw [show ((_, (n, s)) : Int32 × At) = (r, S') from h9] at e1 e2
  exact ⟨T1, c_L_trySimulate l hst G a1 a3 T r T1 e1, e2⟩
theorem a_trySave (l : Launch) (hst : l.stackTraces = false) (G : gG) (a1 : Int32) (S : At) (r : Int32) (S' : At) (hf : h_trySave a1 S = some (r, S')) : gC l yL_trySave [Cond.codeWith yL_trySave cL_trySave 3 (some .int) [(0, 5, 6, 30)]] (gRx 9 187 1 6) G (gNo G) E0 (gPA G S) [.ref (G.2.1 0), .int a1] (some (.int r)) (gPA G S') 1 6 := by
  refine gC_of_gCw (fun T hT => ?_)
  obtain ⟨n, s⟩ := S
  obtain ⟨T1, e1, e2⟩ := rf_save a1 hT.2 T hT
  have h9 := Option.some.inj hf
  rw [show aSave a1 (n, s) = (r, S') from h9] at e1 e2
  exact ⟨T1, c_L_trySave l hst G a1 T r T1 e1, e2⟩
theorem a_tryRestore (l : Launch) (hst : l.stackTraces = false) (G : gG) (a1 : Int32) (S : At) (r : Int32) (S' : At) (hf : h_tryRestore a1 S = some (r, S')) : gC l yL_tryRestore [Cond.codeWith yL_tryRestore cL_tryRestore 3 (some .int) [(0, 5, 6, 30), (0, 5, 10, 16)]] (gRx 9 187 2 12) G (gNo G) E0 (gPA G S) [.ref (G.2.1 0), .int a1] (some (.int r)) (gPA G S') 2 12 := by
  refine gC_of_gCw (fun T hT => ?_)
  obtain ⟨n, s⟩ := S
  obtain ⟨T1, e1, e2⟩ := rf_restore a1 hT.2 T hT
  have h9 := Option.some.inj hf
  rw [show aRestore a1 (n, s) = (r, S') from h9] at e1 e2
  exact ⟨T1, c_L_tryRestore l hst G a1 T r T1 e1, e2⟩
theorem a_tryWay (l : Launch) (hst : l.stackTraces = false) (G : gG) (a1 : Int32) (a2 : Int32) (a3 : Int32) (a4 : Int32) (a5 : Int32) (S : At) (r : Int32) (S' : At) (hf : h_tryWay a1 a2 a3 a4 a5 S = some (r, S')) : gC l yL_tryWay [Cond.codeWith yL_tryWay cL_tryWay 7 (some .int) [(0, 11, 12, 30), (0, 11, 17, 13)]] (gRx 9 157 6 36) G (gNo G) E0 (gPA G S) [.ref (G.2.1 0), .int a1, .int a2, .int a3, .int a4, .int a5] (some (.int r)) (gPA G S') 6 36 := by
  refine gC_of_gCw (fun T hT => ?_)
  obtain ⟨n, s⟩ := S
  obtain ⟨T1, e1, e2⟩ := rf_way a1 a2 a3 a4 a5 hT.2 T hT
  have h9 := Option.some.inj hf
  rw [show ((_, (n, s)) : Int32 × At) = (r, S') from h9] at e1 e2
  exact ⟨T1, c_L_tryWay l hst G a1 a2 a3 a4 a5 T r T1 e1, e2⟩
theorem a_X10_clearText (l : Launch) (hst : l.stackTraces = false) (G : gG) (S : At) (r : Int32) (S' : At) (hf : h_X10_clearText S = some (r, S')) : gC l yX10_clearText [Cond.code yX10_clearText cX10_clearText 1 (some .int)] (gRx 1 21 0 0) G (gNo G) E0 (gPA G S) [.ref (G.2.1 0)] (some (.int r)) (gPA G S') 0 0 := by
  refine gC_of_Ct (fun T hT => ?_)
  obtain ⟨n, s⟩ := S
  obtain ⟨T1, e1, e2⟩ := rf_clearText hT.2 T hT
  have h9 := Option.some.inj hf
  rw [show aClear (n, s) = (r, S') from h9] at e1 e2
  exact ⟨T1, c_X10_clearText l G T r T1 e1, e2⟩
theorem a_X10_errorPosition (l : Launch) (hst : l.stackTraces = false) (G : gG) (S : At) (r : Int32) (S' : At) (hf : h_X10_errorPosition S = some (r, S')) : gC l yX10_errorPosition [Cond.code yX10_errorPosition cX10_errorPosition 1 (some .int)] (gRx 6 139 0 0) G (gNo G) E0 (gPA G S) [.ref (G.2.1 0)] (some (.int r)) (gPA G S') 0 0 := by
  refine gC_of_Ct (fun T hT => ?_)
  obtain ⟨n, s⟩ := S
  obtain ⟨T1, e1, e2⟩ := rf_errorPosition hT.2 T hT
  have h9 := Option.some.inj hf
  rw [show ((nErr s, (n, s)) : Int32 × At) = (r, S') from h9] at e1 e2
  exact ⟨T1, c_X10_errorPosition l G T r T1 e1, e2⟩
theorem a_X10_endRound (l : Launch) (hst : l.stackTraces = false) (G : gG) (S : At) (r : Int32) (S' : At) (hf : h_X10_endRound S = some (r, S')) : gC l yX10_endRound [Cond.code yX10_endRound cX10_endRound 1 (some .int)] (gRx 6 165 0 0) G (gNo G) E0 (gPA G S) [.ref (G.2.1 0)] (some (.int r)) (gPA G S') 0 0 := by
  refine gC_of_Ct (fun T hT => ?_)
  obtain ⟨n, s⟩ := S
  obtain ⟨T1, e1, e2⟩ := rf_endRound hT.2 T hT
  have h9 := Option.some.inj hf
  rw [show aEnd (n, s) = (r, S') from h9] at e1 e2
  exact ⟨T1, c_X10_endRound l G T r T1 e1, e2⟩
