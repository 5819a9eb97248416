theorem gbs_id {σ : Type} {p : Int32 × σ} : gbs (some p) (fun v s => some (v, s)) = some p := by cases p; rfl
theorem step_bt {N : Nat} {u : At} (hO : Ok9 N u.2) (hN : N ≤ 800000000) (i t : Int32) : StepOK N u (aBuyTrack i t) := step_ap hO (R_bt i t u.2.1) (fun v g h => bt_G9 hO.1 hN h) (fun w hw => by rw [bt_ap, hw])
theorem step_bn {N : Nat} {u : At} (hO : Ok9 N u.2) (hN : N ≤ 800000000) (i t : Int32) : StepOK N u (aBuyTrain i t) := step_ap hO (R_bn i t u.2.1) (fun v g h => bn_G9 hO.1 hN h) (fun w hw => by rw [bn_ap, hw])
theorem step_sr {N : Nat} {u : At} (hO : Ok9 N u.2) (i t : Int32) : StepOK N u (aSetRent i t) := step_ap hO (R_sr i t u.2.1) (fun v g h => sr_G9 hO.1 h) (fun w hw => by rw [sr_ap, hw])
theorem step_of {N : Nat} {u : At} (hO : Ok9 N u.2) (x y p r : Int32) : StepOK N u (aOffer x y p r) := step_ap hO (R_of x y p r u.2.1) (fun v g h => of_G9 hO.1 h) (fun w hw => by rw [of_ap, hw])
theorem step_tk {N : Nat} {u : At} (hO : Ok9 N u.2) (i t : Int32) : StepOK N u (aTake i t) := step_ap hO (R_tk i t u.2.1) (fun v g h => tk_G9 hO.1 h) (fun w hw => by rw [tk_ap, hw])
theorem step_rn {N : Nat} {u : At} (hO : Ok9 N u.2) (hN : N ≤ 800000000) (i t : Int32) : StepOK N u (aRun i t) := step_ap hO (R_rn i t u.2.1) (fun v g h => rn_G9 hO.1 hN h) (fun w hw => by rw [rn_ap, hw])
theorem step_en {N : Nat} {u : At} (hO : Ok9 N u.2) (hN : N ≤ 800000000) : StepOK N u aEnd := step_ap hO (.inr (cSt (gMid u.2.1) 0 4 0, gEnd u.2.1)) (fun v g h => by cases h; exact G9_end hO.1 hN) (fun w hw => by rw [en_ap, hw])
theorem act_28 {N : Nat} {u : At} (x y t0 : Int32) (hO : Ok9 N u.2) (hN : N ≤ 800000000) : ∃ A : At → Int32 × At, StepOK N u A ∧ ∀ w : At, w.2.1 = u.2.1 → B_act_28 w x y (u.2.1.1 0) t0 = some (A w) := by
  obtain ⟨⟨c, hV⟩, -, hT2⟩ := id hO.1
  obtain ⟨hc2, hc9, hc⟩ := hV.1
  have hT16 := hV.2.2.1.1
  have e3 : ∀ w : At, w.2.1 = u.2.1 → h_tryAbout 3 w = some (u.2.1.1 3, w) := fun w hw => by simp [h_tryAbout, nAbout, hw]
  have e1 : ∀ w : At, w.2.1 = u.2.1 → h_tryAbout 1 w = some (nI u.2.1.2.1.length, w) := fun w hw => by simp [h_tryAbout, nAbout, hw]
  have hT0 : (!decide (nI u.2.1.2.1.length = 0)) = true := by
    rw [decide_eq_false (by rw [show (0 : Int32) = nI 0 from rfl, nI_inj (by omega) (by omega)]; omega)]
    rfl
  have hc0 : (!decide (u.2.1.1 0 = 0)) = true := by
    rw [hc, decide_eq_false (by rw [show (0 : Int32) = nI 0 from rfl, nI_inj (by omega) (by omega)]; omega)]
    rfl
  have hc1 : (!decide (u.2.1.1 0 - 1 = 0)) = true := by
    rw [hc, show (1 : Int32) = nI 1 from rfl, pk_sub (by omega), decide_eq_false (by rw [show (0 : Int32) = nI 0 from rfl, nI_inj (by omega) (by omega)]; omega)]
    rfl
  obtain ⟨z, hz⟩ : ∃ z, x - x / 16 * 16 = z := ⟨_, rfl⟩
  by_cases h0 : z = 0
  · refine ⟨aBuyTrack (y - y / 4 * 4) (y / 4 - y / 4 / nI u.2.1.2.1.length * nI u.2.1.2.1.length), step_bt hO hN _ _, fun w hw => ?_⟩
    unfold B_act_28
    rw [hz, e3 w hw, gbsN, gviN, if_pos h0, e1 w hw, gbsN, gck_ok hT0]
    exact gbs_id
  by_cases h1 : z = 1
  · refine ⟨aBuyTrack (y - y / 4 * 4) (y / 4 - y / 4 / nI u.2.1.2.1.length * nI u.2.1.2.1.length), step_bt hO hN _ _, fun w hw => ?_⟩
    unfold B_act_28
    rw [hz, e3 w hw, gbsN, gviN, if_neg h0, if_pos h1, e1 w hw, gbsN, gck_ok hT0]
    exact gbs_id
  by_cases h2 : z = 2
  · obtain ⟨l, hl⟩ : ∃ l, (u.2.1.1 3 - 1 + (y / 4 - y / 4 / 3 * 3)) = l := ⟨_, rfl⟩
    refine ⟨aBuyTrain (y - y / 4 * 4) (if 1 ≤ l then (if l ≤ 6 then l else 6) else 1), step_bn hO hN _ _, fun w hw => ?_⟩
    unfold B_act_28
    rw [hz, e3 w hw, gbsN, gviN, if_neg h0, if_neg h1, if_pos h2, hl]
    split
    · split <;> exact gbs_id
    · exact gbs_id
  by_cases h3 : z = 3
  · obtain ⟨l, hl⟩ : ∃ l, (u.2.1.1 3 - 1 + (y / 4 - y / 4 / 3 * 3)) = l := ⟨_, rfl⟩
    refine ⟨aBuyTrain (y - y / 4 * 4) (if 1 ≤ l then (if l ≤ 6 then l else 6) else 1), step_bn hO hN _ _, fun w hw => ?_⟩
    unfold B_act_28
    rw [hz, e3 w hw, gbsN, gviN, if_neg h0, if_neg h1, if_neg h2, if_pos h3, hl]
    split
    · split <;> exact gbs_id
    · exact gbs_id
  by_cases h4 : z = 4
  · refine ⟨aSetRent (y - y / 4 * 4) (y / 4 - y / 4 / 10 * 10), step_sr hO _ _, fun w hw => ?_⟩
    unfold B_act_28
    rw [hz, e3 w hw, gbsN, gviN, if_neg h0, if_neg h1, if_neg h2, if_neg h3, if_pos h4]
    exact gbs_id
  by_cases h5 : z = 5
  · refine ⟨aOffer (y - y / u.2.1.1 0 * u.2.1.1 0) (y + 1 + (y / 16 - y / 16 / (u.2.1.1 0 - 1) * (u.2.1.1 0 - 1)) - (y + 1 + (y / 16 - y / 16 / (u.2.1.1 0 - 1) * (u.2.1.1 0 - 1))) / u.2.1.1 0 * u.2.1.1 0) (1 + (y / 256 - y / 256 / 60 * 60)) (1 + (y / 32768 - y / 32768 / 9 * 9)), step_of hO _ _ _ _, fun w hw => ?_⟩
    unfold B_act_28
    rw [hz, e3 w hw, gbsN, gviN, if_neg h0, if_neg h1, if_neg h2, if_neg h3, if_neg h4, if_pos h5, gck_ok hc0, gck_ok hc1, gck_ok hc0]
    exact gbs_id
  by_cases h6 : z = 6
  · refine ⟨aOffer (y - y / u.2.1.1 0 * u.2.1.1 0) (y + 1 + (y / 16 - y / 16 / (u.2.1.1 0 - 1) * (u.2.1.1 0 - 1)) - (y + 1 + (y / 16 - y / 16 / (u.2.1.1 0 - 1) * (u.2.1.1 0 - 1))) / u.2.1.1 0 * u.2.1.1 0) (1 + (y / 256 - y / 256 / 60 * 60)) (1 + (y / 32768 - y / 32768 / 9 * 9)), step_of hO _ _ _ _, fun w hw => ?_⟩
    unfold B_act_28
    rw [hz, e3 w hw, gbsN, gviN, if_neg h0, if_neg h1, if_neg h2, if_neg h3, if_neg h4, if_neg h5, if_pos h6, gck_ok hc0, gck_ok hc1, gck_ok hc0]
    exact gbs_id
  by_cases h7 : z = 7
  · refine ⟨aTake (y - y / 4 * 4) t0, step_tk hO _ _, fun w hw => ?_⟩
    unfold B_act_28
    rw [hz, e3 w hw, gbsN, gviN, if_neg h0, if_neg h1, if_neg h2, if_neg h3, if_neg h4, if_neg h5, if_neg h6, if_pos h7]
    exact gbs_id
  by_cases h8 : z = 8
  · refine ⟨aTake (y - y / 4 * 4) t0, step_tk hO _ _, fun w hw => ?_⟩
    unfold B_act_28
    rw [hz, e3 w hw, gbsN, gviN, if_neg h0, if_neg h1, if_neg h2, if_neg h3, if_neg h4, if_neg h5, if_neg h6, if_neg h7, if_pos h8]
    exact gbs_id
  by_cases h9 : z = 9
  · refine ⟨aRun t0 (y / 64 - y / 64 / 2 * 2), step_rn hO hN _ _, fun w hw => ?_⟩
    unfold B_act_28
    rw [hz, e3 w hw, gbsN, gviN, if_neg h0, if_neg h1, if_neg h2, if_neg h3, if_neg h4, if_neg h5, if_neg h6, if_neg h7, if_neg h8, if_pos h9]
    exact gbs_id
  by_cases h10 : z = 10
  · refine ⟨aRun t0 (y / 64 - y / 64 / 2 * 2), step_rn hO hN _ _, fun w hw => ?_⟩
    unfold B_act_28
    rw [hz, e3 w hw, gbsN, gviN, if_neg h0, if_neg h1, if_neg h2, if_neg h3, if_neg h4, if_neg h5, if_neg h6, if_neg h7, if_neg h8, if_neg h9, if_pos h10]
    exact gbs_id
  by_cases h11 : z = 11
  · refine ⟨aRun t0 (y / 64 - y / 64 / 2 * 2), step_rn hO hN _ _, fun w hw => ?_⟩
    unfold B_act_28
    rw [hz, e3 w hw, gbsN, gviN, if_neg h0, if_neg h1, if_neg h2, if_neg h3, if_neg h4, if_neg h5, if_neg h6, if_neg h7, if_neg h8, if_neg h9, if_neg h10, if_pos h11]
    exact gbs_id
  by_cases h12 : z = 12
  · refine ⟨aEnd, step_en hO hN, fun w hw => ?_⟩
    unfold B_act_28
    rw [hz, e3 w hw, gbsN, gviN, if_neg h0, if_neg h1, if_neg h2, if_neg h3, if_neg h4, if_neg h5, if_neg h6, if_neg h7, if_neg h8, if_neg h9, if_neg h10, if_neg h11, if_pos h12]
    exact gbs_id
  by_cases h13 : z = 13
  · refine ⟨aEnd, step_en hO hN, fun w hw => ?_⟩
    unfold B_act_28
    rw [hz, e3 w hw, gbsN, gviN, if_neg h0, if_neg h1, if_neg h2, if_neg h3, if_neg h4, if_neg h5, if_neg h6, if_neg h7, if_neg h8, if_neg h9, if_neg h10, if_neg h11, if_neg h12, if_pos h13]
    exact gbs_id
  by_cases h14 : z = 14
  · refine ⟨aUndo, step_undo hO, fun w hw => ?_⟩
    unfold B_act_28
    rw [hz, e3 w hw, gbsN, gviN, if_neg h0, if_neg h1, if_neg h2, if_neg h3, if_neg h4, if_neg h5, if_neg h6, if_neg h7, if_neg h8, if_neg h9, if_neg h10, if_neg h11, if_neg h12, if_neg h13, if_pos h14]
    exact gbs_id
  by_cases h15 : y - y / 2 * 2 = 0
  · refine ⟨aSave 1, step_save hO, fun w hw => ?_⟩
    unfold B_act_28
    rw [hz, e3 w hw, gbsN, gviN, if_neg h0, if_neg h1, if_neg h2, if_neg h3, if_neg h4, if_neg h5, if_neg h6, if_neg h7, if_neg h8, if_neg h9, if_neg h10, if_neg h11, if_neg h12, if_neg h13, if_neg h14, if_pos h15]
    exact gbs_id
  · refine ⟨aRestore 1, step_restore hO, fun w hw => ?_⟩
    unfold B_act_28
    rw [hz, e3 w hw, gbsN, gviN, if_neg h0, if_neg h1, if_neg h2, if_neg h3, if_neg h4, if_neg h5, if_neg h6, if_neg h7, if_neg h8, if_neg h9, if_neg h10, if_neg h11, if_neg h12, if_neg h13, if_neg h14, if_neg h15]
    exact gbs_id
theorem act_ok {N : Nat} {u : At} (x y : Int32) (hO : Ok9 N u.2) (hN : N ≤ 800000000) : ∃ A : At → Int32 × At, StepOK N u A ∧ ∀ w : At, w.2.1 = u.2.1 → h_act x y w = some (A w) := by
  obtain ⟨⟨c, hV⟩, -, -⟩ := id hO.1
  have hk8 := hV.2.2.2.2.2.1
  have e0 : ∀ w : At, w.2.1 = u.2.1 → h_tryAbout 0 w = some (u.2.1.1 0, w) := fun w hw => by simp [h_tryAbout, nAbout, hw]
  have e2 : ∀ w : At, w.2.1 = u.2.1 → h_tryAbout 2 w = some (nI u.2.1.2.2.2.2.length, w) := fun w hw => by simp [h_tryAbout, nAbout, hw]
  by_cases h0 : nI u.2.1.2.2.2.2.length = 0
  · obtain ⟨A, a1, a2⟩ := act_28 x y 0 hO hN
    refine ⟨A, a1, fun w hw => ?_⟩
    unfold h_act
    rw [e0 w hw, gbsN, e2 w hw, gbsN, if_pos h0]
    exact a2 w hw
  · obtain ⟨A, a1, a2⟩ := act_28 x y (y / 4 - y / 4 / nI u.2.1.2.2.2.2.length * nI u.2.1.2.2.2.2.length) hO hN
    refine ⟨A, a1, fun w hw => ?_⟩
    unfold h_act
    rw [e0 w hw, gbsN, e2 w hw, gbsN, if_neg h0, gck_ok (by rw [decide_eq_false h0]; rfl)]
    exact a2 w hw
/-! ===== two objects tell alike ===== -/
theorem al_step {u : At2} {F : At → Option (Int32 × At)} {v : Int32} {k : Int32 → At2 → Option (Int32 × At2)} (h : F u.1 = some (v, u.1)) : gbs (gp1 u (F u.1)) k = k v u := by
  rw [h, gp1N, gbsN]
theorem al_step2 {u : At2} {F : At → Option (Int32 × At)} {v : Int32} {k : Int32 → At2 → Option (Int32 × At2)} (h : F u.2 = some (v, u.2)) : gbs (gq1 u (F u.2)) k = k v u := by
  rw [h, gq1N, gbsN]
theorem al_181 {u : At2} (he : u.2.2.1 = u.1.2.1) (hK : u.1.2.1.2.2.2.2.length ≤ 8) : ∀ (m k fu : Nat), k + m = 6 * u.1.2.1.2.2.2.2.length → m < fu → L_alike_181 fu u 1 (nI k) = some (1, u) := by
  intro m
  induction m with
  | zero =>
    intro k fu hk hf
    obtain ⟨fu, rfl⟩ : ∃ f, fu = f + 1 := ⟨fu - 1, by omega⟩
    show Lb_alike_181 _ u 1 (nI k) = _
    unfold Lb_alike_181
    rw [al_step (F := h_tryAbout 2) (v := nI u.1.2.1.2.2.2.2.length) (by simp [h_tryAbout, nAbout]), if_pos (by rw [show (6 : Int32) = nI 6 from rfl, pk_mul, nIle (by omega) (by omega)]; omega)]
    rfl
  | succ m ih =>
    intro k fu hk hf
    obtain ⟨fu, rfl⟩ : ∃ f, fu = f + 1 := ⟨fu - 1, by omega⟩
    show Lb_alike_181 _ u 1 (nI k) = _
    unfold Lb_alike_181
    rw [al_step (F := h_tryAbout 2) (v := nI u.1.2.1.2.2.2.2.length) (by simp [h_tryAbout, nAbout]), if_neg (by rw [show (6 : Int32) = nI 6 from rfl, pk_mul, nIle (by omega) (by omega)]; omega), if_neg (by decide), al_step (F := h_tryContract _ _) (v := nContract u.1.2.1 (nI k / 6) (nI k - nI k / 6 * 6)) rfl, al_step2 (F := h_tryContract _ _) (v := nContract u.1.2.1 (nI k / 6) (nI k - nI k / 6 * 6)) (by rw [← he]; rfl), if_pos rfl, gviN, nI_s]
    exact ih (k + 1) fu (by omega) (by omega)
theorem al_129 {u : At2} (he : u.2.2.1 = u.1.2.1) (hK : u.1.2.1.2.2.2.2.length ≤ 8) (hT : u.1.2.1.2.1.length ≤ 16) : ∀ (m k fu : Nat), k + m = 4 * u.1.2.1.2.1.length → m < fu → L_alike_129 fu u 1 (nI k) = some (1, u) := by
  intro m
  induction m with
  | zero =>
    intro k fu hk hf
    obtain ⟨fu, rfl⟩ : ∃ f, fu = f + 1 := ⟨fu - 1, by omega⟩
    show Lb_alike_129 _ u 1 (nI k) = _
    unfold Lb_alike_129
    rw [al_step (F := h_tryAbout 1) (v := nI u.1.2.1.2.1.length) (by simp [h_tryAbout, nAbout]), if_pos (by rw [show (4 : Int32) = nI 4 from rfl, pk_mul, nIle (by omega) (by omega)]; omega), show (0 : Int32) = nI 0 from rfl]
    exact al_181 he hK _ 0 49 (Nat.zero_add _) (by omega)
  | succ m ih =>
    intro k fu hk hf
    obtain ⟨fu, rfl⟩ : ∃ f, fu = f + 1 := ⟨fu - 1, by omega⟩
    show Lb_alike_129 _ u 1 (nI k) = _
    unfold Lb_alike_129
    rw [al_step (F := h_tryAbout 1) (v := nI u.1.2.1.2.1.length) (by simp [h_tryAbout, nAbout]), if_neg (by rw [show (4 : Int32) = nI 4 from rfl, pk_mul, nIle (by omega) (by omega)]; omega), if_neg (by decide), al_step (F := h_tryTrack _ _) (v := nTrack u.1.2.1 (nI k / 4) (nI k - nI k / 4 * 4)) rfl, al_step2 (F := h_tryTrack _ _) (v := nTrack u.1.2.1 (nI k / 4) (nI k - nI k / 4 * 4)) (by rw [← he]; rfl), if_pos rfl, gviN, nI_s]
    exact ih (k + 1) fu (by omega) (by omega)
theorem al_41 {u : At2} (he : u.2.2.1 = u.1.2.1) (hK : u.1.2.1.2.2.2.2.length ≤ 8) (hT : u.1.2.1.2.1.length ≤ 16) : ∀ (m k fu : Nat), k + m = 28 → m < fu → L_alike_41 fu u 1 (nI k) = some (1, u) := by
  intro m
  induction m with
  | zero =>
    intro k fu hk hf
    obtain ⟨fu, rfl⟩ : ∃ f, fu = f + 1 := ⟨fu - 1, by omega⟩
    show Lb_alike_41 _ u 1 (nI k) = _
    unfold Lb_alike_41
    rw [if_pos (by rw [show (28 : Int32) = nI 28 from rfl, nIle (by omega) (by omega)]; omega), show (0 : Int32) = nI 0 from rfl]
    exact al_129 he hK hT _ 0 65 (Nat.zero_add _) (by omega)
  | succ m ih =>
    intro k fu hk hf
    obtain ⟨fu, rfl⟩ : ∃ f, fu = f + 1 := ⟨fu - 1, by omega⟩
    show Lb_alike_41 _ u 1 (nI k) = _
    unfold Lb_alike_41
    rw [if_neg (by rw [show (28 : Int32) = nI 28 from rfl, nIle (by omega) (by omega)]; omega), if_neg (by decide), al_step (F := h_tryCompany _ _) (v := nCompany u.1.2.1 (nI k / 7) (nI k - nI k / 7 * 7)) rfl, al_step2 (F := h_tryCompany _ _) (v := nCompany u.1.2.1 (nI k / 7) (nI k - nI k / 7 * 7)) (by rw [← he]; rfl), if_pos rfl, al_step (F := h_tryTrain _ _ _) (v := nTrain u.1.2.1 (nI k / 7) ((nI k - nI k / 7 * 7) / 2) (nI k - nI k / 2 * 2)) rfl, al_step2 (F := h_tryTrain _ _ _) (v := nTrain u.1.2.1 (nI k / 7) ((nI k - nI k / 7 * 7) / 2) (nI k - nI k / 2 * 2)) (by rw [← he]; rfl), if_pos rfl, gviN, nI_s]
    exact ih (k + 1) fu (by omega) (by omega)
theorem al_4 {u : At2} (he : u.2.2.1 = u.1.2.1) (hK : u.1.2.1.2.2.2.2.length ≤ 8) (hT : u.1.2.1.2.1.length ≤ 16) : ∀ (m k fu : Nat), k + m = 11 → m < fu → L_alike_4 fu u 1 (nI k) = some (1, u) := by
  intro m
  induction m with
  | zero =>
    intro k fu hk hf
    obtain ⟨fu, rfl⟩ : ∃ f, fu = f + 1 := ⟨fu - 1, by omega⟩
    show Lb_alike_4 _ u 1 (nI k) = _
    unfold Lb_alike_4
    rw [if_pos (by rw [show (11 : Int32) = nI 11 from rfl, nIle (by omega) (by omega)]; omega), show (0 : Int32) = nI 0 from rfl]
    exact al_41 he hK hT _ 0 29 (Nat.zero_add _) (by omega)
  | succ m ih =>
    intro k fu hk hf
    obtain ⟨fu, rfl⟩ : ∃ f, fu = f + 1 := ⟨fu - 1, by omega⟩
    show Lb_alike_4 _ u 1 (nI k) = _
    unfold Lb_alike_4
    rw [if_neg (by rw [show (11 : Int32) = nI 11 from rfl, nIle (by omega) (by omega)]; omega), if_neg (by decide), al_step (F := h_tryAbout _) (v := nAbout u.1.2.1 (nI k)) rfl, al_step2 (F := h_tryAbout _) (v := nAbout u.1.2.1 (nI k)) (by rw [← he]; rfl), if_pos rfl, gviN, nI_s]
    exact ih (k + 1) fu (by omega) (by omega)
theorem alike_ok {u : At2} (he : u.2.2.1 = u.1.2.1) (hK : u.1.2.1.2.2.2.2.length ≤ 8) (hT : u.1.2.1.2.1.length ≤ 16) : h_alike u = some (1, u) := by
  unfold h_alike
  rw [show (0 : Int32) = nI 0 from rfl]
  exact al_4 he hK hT 11 0 12 rfl (by omega)
