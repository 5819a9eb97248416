/-! ===== all calls ===== -/
theorem IC_tx {s : St} {S : Sg} (h : IC s S) : TXs s.2.1 s.2.2.1 S := h.2.1
theorem QM_t {S S' : Sg} (h : FrT S S') : QM S S' := ⟨fun k a b _ _ _ => h.1 k a b, fun x _ b _ _ _ => h.2 x b⟩
theorem ok_errorPosition {n : Nat} {S : Sg} (h : Inv n S) : OkB f_X10_errorPosition f_X11_errorPosition (Inv (n + 1)) S := by
  obtain ⟨s, hC, hM, hv⟩ := h
  refine okB0 (v := eI (pAll s.2.1 s.2.2.1)) (s' := s) hC hM (CSb_q fun S hS => ?_) (MSp_q fun S hS => ?_) (IV_mono hv (Nat.le_succ n))
  · obtain ⟨S1, e1, -, f1⟩ := C_read hS.2.1 hv.2.1.1 hv.2.1.2
    refine ⟨S1, ?_, Fb.f f1⟩
    unfold f_X10_errorPosition
    rw [e1, gbiN]
  · have hS0 := IM_q hS (QM.r (v := 0))
    obtain ⟨S1, e1, c1, d1, f1⟩ := M_read hS0.2.1 hv.2.1.1 hv.2.1.2
    refine ⟨S1, ?_, by rw [f1.2 0 (by omega), u2_eq], (QM.r (v := 0)).tr (QM_t f1)⟩
    unfold f_X11_errorPosition
    rw [gstN, e1, gbiN]
    cases hp : pAll s.2.1 s.2.2.1 with
    | error e => rw [d1 e hp]; rfl
    | ok g => rfl
theorem empty_ok {S : Sg} : ∃ S', f_X6_empty S = some S' ∧ (∀ a, a ≠ 7 → S' a = S a) ∧ ∀ x, x < 2 → S' 7 x = 0 := by
  obtain ⟨S1, e1, e2, e3⟩ := fill_ok (k := 7) (n := 2) (by omega) 0 S
  exact ⟨S1, by unfold f_X6_empty; rw [e1, gbvN], e2, e3⟩
theorem ok_load {n : Nat} {S : Sg} (h : Inv n S) : OkA f_L_load f_X11_load (Inv (n + 1)) S := by
  obtain ⟨s, hC, hM, hv⟩ := h
  show OkA (fun S => gwr 0 0 1 (f_X10_load S)) _ _ _
  cases hp : pAll s.2.1 s.2.2.1 with
  | error e =>
    have hne : ¬ nI e = -9 := by
      have hb : e ≤ 205 := by
        have h100 := hv.2.1.1
        unfold pAll at hp
        split at hp
        · cases h1 : pD s.2.1 s.2.2.1 2 9 10 1 with
          | error e' =>
            rw [h1, eBd_e] at hp
            have := (pD_no h1).1
            have := Except.error.inj hp
            omega
          | ok c =>
            rw [h1, eBd_o] at hp
            have key : ∀ (m i : Nat) (g : Game), i ≤ 200 → pGo s.2.1 s.2.2.1 c m g i = .error e → e ≤ 205 := by
              intro m
              induction m with
              | zero => intro i g hi hx; cases hx
              | succ m ih =>
                intro i g hi hx
                unfold pGo at hx
                split at hx
                · cases hx
                · rename_i hlt
                  cases h2 : pPart s.2.1 s.2.2.1 c g i with
                  | error e' =>
                    rw [h2, eBd_e] at hx
                    have := pPart_e h2
                    have := Except.error.inj hx
                    omega
                  | ok y =>
                    rw [h2, eBd_o] at hx
                    refine ih y.2 y.1 ?_ hx
                    unfold pPart at h2
                    split at h2
                    · cases h3 : pTr s.2.1 s.2.2.1 c i with
                      | error e' => rw [h3, eBd_e] at h2; cases h2
                      | ok x => rw [h3, eBd_o] at h2; rw [← Except.ok.inj h2]; show i + 4 ≤ 200; omega
                    · split at h2
                      · cases h3 : pCt s.2.1 s.2.2.1 c i with
                        | error e' => rw [h3, eBd_e] at h2; cases h2
                        | ok x => rw [h3, eBd_o] at h2; rw [← Except.ok.inj h2]; show i + 6 ≤ 200; omega
                      · cases h2
            exact key 100 2 _ (by omega) hp
        · have := Except.error.inj hp
          omega
      exact nI_m9 (by omega)
    refine okAt (k := 3) (j := 1) hC hM (CSp_q fun S hS => ?_) (MSp_q fun S hS => ?_) (IV_mono hv (Nat.le_succ n)) (by decide) (fun _ => rfl)
    · obtain ⟨S1, e1, -, f1⟩ := C_read hS.2.1 hv.2.1.1 hv.2.1.2
      refine ⟨S1, ?_, Fb.f f1⟩
      unfold f_X10_load
      rw [e1, gbiN, hp, eI_e, if_neg hne]
    · obtain ⟨S1, e1, c1, d1, f1⟩ := M_read hS.2.1 hv.2.1.1 hv.2.1.2
      refine ⟨u2 S1 392 0 1, ?_, u2_eq, (QM_t f1).tr QM.r⟩
      unfold f_X11_load B_X11_load_13
      rw [e1, gbiN, hp, if_pos (show bI (eB (.error e : Except Nat Game)) = 0 from rfl), ref_1, gbiN]
      rfl
  | ok g =>
    obtain ⟨c, hVg⟩ := V_all hp
    have hvl := V.vl hVg
    refine okA0 (v := nI g.2.1.length) (s' := ((g, s.2.1, s.2.2.1, [], fun _ => none) : St)) hC hM (fun S hS => ?_) (fun S hS => ?_) ?_
    · obtain ⟨S1, e1, c1, f1⟩ := C_read hS.2.1 hv.2.1.1 hv.2.1.2
      obtain ⟨h1, h2, ⟨o, ho⟩, h4⟩ := hS
      obtain ⟨S2, e2, c2, f2⟩ := C_copy (b := 14) (b1 := 35) (c1 g hp) hvl (Or.inl (by omega))
      obtain ⟨S3, e3, f3, z3⟩ := empty_ok (S := u2 S2 3 2 0)
      have hb : ∀ a, a ≠ 3 → a ≠ 7 → (a < 14 ∨ 56 ≤ a) → S3 a = S a := fun a x y z => by rw [f3 a y, u2_n x, f2 a (by omega), f1 a (by omega)]
      have h33 : S3 3 = u2 S2 3 2 0 3 := f3 3 (by omega)
      refine ⟨S3, ?_, ⟨CP_o c2 (fun k p1 p2 => by rw [f3 k (by omega), u2_n (by omega)]), ⟨by rw [hb 1 (by omega) (by omega) (by omega)]; exact h2.1, fun x hx => by rw [hb 2 (by omega) (by omega) (by omega)]; exact h2.2 x hx⟩, ⟨o, Nat.zero_le _, ho.2.1, by rw [h33, u2_eq]; rfl, by rw [h33, u2_ni (by omega), f2 3 (by omega), f1 3 (by omega)]; exact ho.2.2.2.1, fun k g hg => by simp at hg⟩, fun j hj => ⟨by rw [z3 j hj]; rfl, fun g hg => (by cases hg)⟩⟩, fun k hk => hb k (by omega) (by omega) (by omega)⟩
      unfold f_X10_load f_X3_forget
      rw [e1, gbiN, hp, eI_o, if_pos rfl, e2, gbvN, gstN, gbvN, e3, gbvN, f3 _ (by omega), u2_n (by omega), c2.2.1.1]
    · obtain ⟨S1, e1, c1, -, f1⟩ := M_read hS.2.1 hv.2.1.1 hv.2.1.2
      obtain ⟨h1, h2, h3, h4⟩ := hS
      have hpg : PG g 394 0 (u2 S1 392 0 0) := by
        rw [PG_0 hvl, u2_n (by omega)]
        exact c1 g hp
      obtain ⟨S2, e2, b2, -, f2⟩ := M_copy (q := 0) (n0 := 175) (k2 := 395) (n2 := 175) hpg hvl (by omega) (by omega) (by omega) (by omega) (by omega)
      rw [nI_0] at e2
      have b2' := (PG_0 hvl).mp b2
      obtain ⟨S3, hS3⟩ : ∃ S3, S3 = u2 (u2 (u2 S2 392 8 0) 399 0 0) 399 1 0 := ⟨_, rfl⟩
      have hb : ∀ a, a ≠ 394 → a ≠ 395 → a ≠ 392 → a ≠ 399 → S3 a = S a := fun a x y z w => by rw [hS3, u2_n w, u2_n w, u2_n z, f2 a y, u2_n z, f1.1 a z x]
      have hc : ∀ x, x ≠ 0 → x ≠ 3 → x ≠ 8 → S3 392 x = S 392 x := fun x y z w => by rw [hS3, u2_n (by omega), u2_n (by omega), u2_ni w, f2 392 (by omega), u2_ni y, f1.2 x z]
      have hnow : S3 395 = S2 395 := by rw [hS3, u2_n (by omega), u2_n (by omega), u2_n (by omega)]
      refine ⟨S3, ?_, by rw [hS3, u2_n (by omega), u2_n (by omega), u2_ni (by omega), f2 392 (by omega), u2_eq], ⟨by rw [hnow]; exact b2', ⟨by rw [hc 2 (by omega) (by omega) (by omega)]; exact h2.1, fun x hx => by rw [hb 393 (by omega) (by omega) (by omega) (by omega)]; exact h2.2 x hx⟩, ⟨by rw [hS3, u2_n (by omega), u2_n (by omega), u2_eq]; rfl, fun k x hx => by simp at hx⟩, fun j hj => ⟨?_, fun g hg => (by cases hg)⟩⟩, fun k hk => hb k (by omega) (by omega) (by omega) (by omega), hb 402 (by omega) (by omega) (by omega) (by omega)⟩
      · unfold f_X11_load B_X11_load_13
        rw [e1, gbiN, hp, if_neg eB_ne, ref_0, gbiN, if_pos rfl, e2, gbvN, gstN, gck_ok (by decide), ix_c0, gstN, gck_ok (by decide), ix_c1, gstN, gck_c1, ← hS3, hnow, b2'.2.1.1]
      · have hj2 : j = 0 ∨ j = 1 := by omega
        rcases hj2 with rfl | rfl
        · rw [hS3, u2_ni (by omega), u2_eq]; rfl
        · rw [hS3, u2_eq]; rfl
    · obtain ⟨-, v2, -, -⟩ := IV_mono hv (Nat.le_succ n)
      exact ⟨⟨c, V_mono hVg (Nat.zero_le _)⟩, v2, ⟨Nat.zero_le _, fun x hx => by simp at hx⟩, fun k x hx => (by cases hx)⟩
theorem inv_ok : LawOk Inv :=
  ⟨fun _ _ _ h _ _ => ok_append _ h, fun _ _ _ h _ _ => ok_clearText h, fun _ _ _ h _ _ => ok_errorPosition h, fun _ _ _ h _ _ => ok_load h, fun _ _ _ h _ _ => ok_about _ h, fun _ _ _ h _ _ => ok_track _ _ h, fun _ _ _ h _ _ => ok_company _ _ h, fun _ _ _ h _ _ => ok_train _ _ _ h, fun _ _ _ h _ _ => ok_contract _ _ h, fun _ _ _ h _ _ => ok_buyTrack _ _ h, fun _ _ _ h _ _ => ok_buyTrain _ _ h, fun _ _ _ h _ _ => ok_setRent _ _ h, fun _ _ _ h _ _ => ok_offer _ _ _ _ h, fun _ _ _ h _ _ => ok_take _ _ h, fun _ _ _ h _ _ => ok_run _ _ h, fun _ _ _ h _ _ => ok_endRound h, fun _ _ _ h _ _ => ok_undo h, fun _ _ _ h _ _ => ok_way _ _ _ _ _ h, fun _ _ _ h _ _ => ok_whyNot _ _ h, fun _ _ _ h _ _ => ok_levelFor _ _ h, fun _ _ _ h _ _ => ok_bestContract _ h, fun _ _ _ h _ _ => ok_coinsAfter _ _ h, fun _ _ hn h _ _ => ok_bankruptAfter hn _ h, fun _ _ _ h _ _ => ok_worth _ h, fun _ _ _ h _ _ => ok_runScript _ _ h, fun _ _ _ h _ _ => ok_simulate _ _ h, fun _ _ _ h _ _ => ok_save _ h, fun _ _ _ h _ _ => ok_restore _ h⟩
theorem inv_keep : ∀ (n : Nat) (S : Sg), n < 512 → Inv n S → Inv (n + 1) S := by
  intro n S _ h
  obtain ⟨s, h1, h2, h3⟩ := h
  exact ⟨s, h1, h2, IV_mono h3 (Nat.le_succ n)⟩
/-- the game that a new object holds -/
def g00 : Game := gAddT (gAddT (gNew 3) (0, 1, 2, -9)) (1, 2, 2, -9)
theorem V_00 : V 3 0 g00 := by
  have h : V 3 0 (gNew 3) := V_new (c := 3) (by omega) (by omega)
  refine V_gTr (V_gTr h (by decide) (fun t ht => ?_)) (by decide) (fun t ht => ?_)
  · have e : t = (0, 1, 2, -9) := List.mem_singleton.mp ht
    rw [e]
    exact ⟨⟨0, by omega, rfl⟩, ⟨1, by omega, rfl⟩, by decide, ⟨2, by omega, by omega, rfl⟩, Or.inl rfl⟩
  · have e : t = (0, 1, 2, -9) ∨ t = (1, 2, 2, -9) := by
      rcases List.mem_append.mp ht with q | q
      · exact Or.inl (List.mem_singleton.mp q)
      · exact Or.inr (List.mem_singleton.mp q)
    rcases e with e | e
    · rw [e]
      exact ⟨⟨0, by omega, rfl⟩, ⟨1, by omega, rfl⟩, by decide, ⟨2, by omega, by omega, rfl⟩, Or.inl rfl⟩
    · rw [e]
      exact ⟨⟨1, by omega, rfl⟩, ⟨2, by omega, rfl⟩, by decide, ⟨2, by omega, by omega, rfl⟩, Or.inl rfl⟩
theorem inv_start {S : Sg} (h1 : CP 14 g00 S) (h2 : MP g00 (S 395)) (a1 : S 1 1 = 0) (a2 : S 3 2 = 0) (a3 : S 3 1 = 0) (a4 : S 7 0 = 0) (a5 : S 7 1 = 0) (b1 : S 392 2 = 0) (b2 : S 392 8 = 0) (b3 : S 399 0 = 0) (b4 : S 399 1 = 0) : Inv 0 S := by
  refine ⟨((g00, fun _ => 0, 0, [], fun _ => none) : St), ⟨h1, ⟨a1, fun x hx => absurd hx (Nat.not_lt_zero _)⟩, ⟨0, Nat.zero_le _, by omega, a2, a3, fun k g hg => by simp at hg⟩, fun k hk => ⟨?_, fun g hg => (by cases hg)⟩⟩, ⟨h2, ⟨b1, fun x hx => absurd hx (Nat.not_lt_zero _)⟩, ⟨b2, fun k g hg => by simp at hg⟩, fun k hk => ⟨?_, fun g hg => (by cases hg)⟩⟩, ⟨3, V_00⟩, ⟨Nat.zero_le _, fun x hx => absurd hx (Nat.not_lt_zero _)⟩, ⟨Nat.zero_le _, fun x hx => by simp at hx⟩, fun k x hx => (by cases hx)⟩
  · have hk2 : k = 0 ∨ k = 1 := by omega
    rcases hk2 with rfl | rfl
    · exact a4
    · exact a5
  · have hk2 : k = 0 ∨ k = 1 := by omega
    rcases hk2 with rfl | rfl
    · exact b3
    · exact b4
/-- what the constructors do to a world of zeros -/
theorem start_ok {S : Sg} (hz : ∀ k, k < 402 → ∀ j, S k j = 0) : ∃ Sa Sb Sc Sd Se Sf, f_X7_begin 14 3 S = some Sa ∧ f_X8_add 14 0 1 2 Sa = some Sb ∧ f_X8_add 14 1 2 2 Sb = some Sc ∧ f_X11_begin 395 Sc = some Sd ∧ f_X11_addTrack 395 0 1 2 (u2 Sd 395 0 3) = some Se ∧ f_X11_addTrack 395 1 2 2 Se = some Sf ∧ (∀ k, 392 ≤ k → Sc k = S k) ∧ (∀ k, 396 ≤ k → Sf k = S k) ∧ Inv 0 Sf := by
  obtain ⟨Sa, ea, ca, fa⟩ := C_begin (b := 14) (x := 3) (S := S)
  obtain ⟨Sb, eb, cb, fb⟩ := C_addT (a1 := 0) (a2 := 1) (a3 := 2) ca (by decide)
  obtain ⟨Sc, ec, cc, fc⟩ := C_addT (a1 := 1) (a2 := 2) (a3 := 2) cb (by decide)
  obtain ⟨Sd, ed, cd, fd⟩ := M_begin (p := 395) (S := Sc)
  have h3 : V 3 0 (gNew 3) := V_new (c := 3) (by omega) (by omega)
  have m0 : MP (gNew 3) ((u2 Sd 395 0 3) 395) := by rw [u2_s]; exact MP_new (c := 3) cd
  obtain ⟨Se, ee, ce, fe⟩ := M_addT (p := 395) (a1 := 0) (a2 := 1) (a3 := 2) m0 (V.vl h3) (by decide)
  obtain ⟨Sf, ef, cf, ff⟩ := M_addT (p := 395) (a1 := 1) (a2 := 2) (a3 := 2) ce (V.vl (V_gTr h3 (l := (gNew 3).2.1 ++ [(0, 1, 2, -9)]) (by decide) (fun t ht => by
    rw [List.mem_singleton.mp ht]
    exact ⟨⟨0, by omega, rfl⟩, ⟨1, by omega, rfl⟩, by decide, ⟨2, by omega, by omega, rfl⟩, Or.inl rfl⟩))) (by decide)
  have hM : ∀ k, k ≠ 395 → Sf k = Sc k := fun k hk => by rw [ff k hk, fe k hk, u2_n hk, fd k hk]
  have hA : ∀ k, (k < 14 ∨ 35 ≤ k) → k ≠ 395 → Sf k = S k := fun k h1 h2 => by rw [hM k h2, fc k (by omega), fb k (by omega), fa k (by omega)]
  exact ⟨Sa, Sb, Sc, Sd, Se, Sf, ea, eb, ec, ed, ee, ef, fun k hk => by rw [fc k (by omega), fb k (by omega), fa k (by omega)], fun k hk => hA k (by omega) (by omega), inv_start (CP_o cc (fun k p1 p2 => hM k (by omega))) cf (by rw [hA 1 (by omega) (by omega), hz 1 (by omega)]) (by rw [hA 3 (by omega) (by omega), hz 3 (by omega)]) (by rw [hA 3 (by omega) (by omega), hz 3 (by omega)]) (by rw [hA 7 (by omega) (by omega), hz 7 (by omega)]) (by rw [hA 7 (by omega) (by omega), hz 7 (by omega)]) (by rw [hA 392 (by omega) (by omega), hz 392 (by omega)]) (by rw [hA 392 (by omega) (by omega), hz 392 (by omega)]) (by rw [hA 399 (by omega) (by omega), hz 399 (by omega)]) (by rw [hA 399 (by omega) (by omega), hz 399 (by omega)])⟩
