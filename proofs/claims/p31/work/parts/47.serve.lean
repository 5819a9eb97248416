/-! ===== contracts at the end of a round ===== -/
theorem u2_xi {S : Sg} {k j a x : Nat} {v : Int32} (h : x ≠ j) : u2 S k j v a x = S a x := by
  rw [u2_ap, if_neg (fun e => h e.2)]
theorem C_ctW {b k : Nat} {g : Game} {S S' : Sg} {a : T6} (h : CP b g S) (hf : ∀ c, (c < b + 8 ∨ b + 13 < c) → S' c = S c) (hx : ∀ c x, x ≠ k → S' c x = S c x) (ha : cct b S' k = a) : CP b (gCt g (g.2.2.2.2.set k a)) S' := by
  obtain ⟨hSc, hTr, hCo, hTn, hCt⟩ := h
  refine ⟨?_, ?_, ?_, ?_, ⟨?_, ?_⟩⟩
  · unfold CSc at hSc ⊢
    simp (disch := omega) only [hf]
    exact hSc
  · apply CTr_fr hTr <;> (apply hf; omega)
  · apply CCo_fr hCo <;> (try intro _ _) <;> simp (disch := omega) only [hf]
  · apply CTn_fr hTn <;> (apply hf; omega)
  · simp (disch := omega) only [hf, gCt, List.length_set]
    exact hCt.1
  · exact Rp_set hCt.2 ha (fun x _ hxk => by simp only [cct, hx _ x hxk])
theorem set_mid {α : Type} {x y : α} {l2 : List α} : ∀ {l1 : List α}, (l1 ++ x :: l2).set l1.length y = l1 ++ y :: l2 := by
  intro l1
  induction l1 with
  | nil => rfl
  | cons a l ih => simp only [List.cons_append, List.length_cons, List.set_cons_succ, ih]
theorem get_mid {α : Type} {x : α} {l1 l2 : List α} : (l1 ++ x :: l2)[l1.length]? = some x := by simp
def srvC (x : T6) : T6 := if x.2.2.2.2.1 = -9 then x else (x.1, x.2.1, x.2.2.1, x.2.2.2.1 - 1, x.2.2.2.2.1, x.2.2.2.2.2)
def end0 (x : T6) : T6 := (x.1, x.2.1, x.2.2.1, x.2.2.2.1, x.2.2.2.2.1, 0)
def kpc (x : T6) : Bool := !decide (x.2.2.2.1 ≤ 0)
def gFine (g : Game) (x : T6) : Game := if x.2.2.2.2.1 = -9 then g else if x.2.2.2.2.2 = 0 then gSc (gBank g x.2.2.2.2.1.toNatClampNeg 5) 8 (g.1 8 + 5) else g
theorem gFine_ct {g : Game} {l : List T6} {x : T6} : gFine (gCt g l) x = gCt (gFine g x) l := by
  unfold gFine
  split
  · rfl
  · split <;> rfl
theorem gFine_l {g : Game} {x : T6} : (gFine g x).2.1 = g.2.1 ∧ (gFine g x).2.2.2 = g.2.2.2 := by
  unfold gFine
  split
  · exact ⟨rfl, rfl⟩
  · split <;> exact ⟨rfl, rfl⟩
theorem C_setSc8 {b : Nat} {g : Game} {S : Sg} {v : Int32} (h : CP b g S) : CP b (gSc g 8 v) (u2 S b 7 v) := by
  obtain ⟨hSc, hTr, hCo, hTn, hCt⟩ := h
  refine ⟨?_, ?_, ?_, ?_, ?_⟩
  · unfold CSc at hSc ⊢
    simp (disch := omega) only [u2_eq, u2_ni, u2_nr]
    simp [gSc, hSc]
  · apply CTr_fr hTr <;> simp (disch := omega) only [u2_n]
  · apply CCo_fr hCo <;> (try intro _ _) <;> simp (disch := omega) only [u2_n]
  · apply CTn_fr hTn <;> simp (disch := omega) only [u2_n]
  · apply CCt_fr hCt <;> simp (disch := omega) only [u2_n]
theorem serve_loop {b : Nat} : ∀ (l dn : List T6) (g : Game) (S : Sg) (fu : Nat), CP b (gCt g (dn ++ l)) S → VL (gCt g (dn ++ l)) → l.length < fu →
    ∃ S' S2, L_X7_serveContracts_2 b fu S (nI dn.length) = (gbv (f_X1_dropEnded b S') (fun S_5 => some S_5)) ∧ S2 = S' ∧ CP b (gCt (l.foldl gFine g) (dn ++ l.map srvC)) S' ∧ Fr b S S' := by
  intro l
  induction l with
  | nil =>
    intro dn g S fu h hv hf
    obtain ⟨f, rfl, -⟩ := fuS hf
    refine ⟨S, S, ?_, rfl, h, Fr.rf⟩
    show Lb_X7_serveContracts_2 b _ S (nI dn.length) = _
    unfold Lb_X7_serveContracts_2
    rw [h.2.2.2.2.1]
    simp only [gCt, List.append_nil]
    rw [if_pos (Int32.le_refl _)]
  | cons x l ih =>
    intro dn g S fu h hv hf
    obtain ⟨f, rfl, hf⟩ := fuS hf
    have hlen : dn.length + (l.length + 1) ≤ 8 := by
      have := hv.2.2.1
      simp only [gCt, List.length_append, List.length_cons] at this
      exact this
    have hget : (gCt g (dn ++ x :: l)).2.2.2.2[dn.length]? = some x := get_mid
    have hx := h.ct hget
    have hox := hv.2.2.2.2 x (mem_get hget)
    have step : ∀ (x' : T6) (g' : Game) (S1 : Sg), g'.2.1 = g.2.1 → g'.2.2.2 = g.2.2.2 → oR x'.2.2.2.2.1 → g' = gFine g x → x' = srvC x → CP b (gCt g' (dn ++ x' :: l)) S1 → Fr b S S1 → ∃ S' S2, L_X7_serveContracts_2 b f S1 (nI (dn.length + 1)) = (gbv (f_X1_dropEnded b S') (fun S_5 => some S_5)) ∧ S2 = S' ∧ CP b (gCt ((x :: l).foldl gFine g) (dn ++ (x :: l).map srvC)) S' ∧ Fr b S S' := by
      intro x' g' S1 e1 e2 ho eg ex hc hfr
      obtain ⟨S', S2, d1, d2, d3, d4⟩ := ih (dn ++ [x']) g' S1 f (by rw [List.append_assoc]; exact hc) (by
        obtain ⟨v1, v2, v3, v4, v5⟩ := hv
        refine ⟨by simp only [gCt, e1]; exact v1, fun i hi => by simp only [gCt, e2]; exact v2 i hi, by simp only [gCt, List.length_append, List.length_singleton]; omega, by simp only [gCt, e1]; exact v4, fun y hy => ?_⟩
        simp only [gCt, List.mem_append, List.mem_singleton] at hy
        rcases hy with (hy | hy) | hy
        · exact v5 y (by simp only [gCt, List.mem_append]; exact Or.inl hy)
        · rw [hy]; exact ho
        · exact v5 y (by simp only [gCt, List.mem_append, List.mem_cons]; exact Or.inr (Or.inr hy))) (by simp only [List.length_cons] at hf; omega)
      refine ⟨S', S2, ?_, d2, ?_, hfr.tr d4⟩
      · rw [List.length_append, List.length_singleton] at d1
        exact d1
      · rw [eg, ex, List.append_assoc] at d3
        exact d3
    have hcnt : S (b + 2) 6 = nI (dn.length + (l.length + 1)) := by
      rw [h.2.2.2.2.1]
      simp only [gCt, List.length_append, List.length_cons]
    show ∃ S' S2, Lb_X7_serveContracts_2 b _ S (nI dn.length) = _ ∧ _
    unfold Lb_X7_serveContracts_2
    rw [hcnt, if_neg (by rw [nIle (by omega) (by omega)]; omega)]
    simp only [C_isFree h hv hget, gbi_ok]
    by_cases e : x.2.2.2.2.1 = -9
    · rw [if_neg (by simp [e, bI])]
      simp only [gvi_ok, nI_s]
      exact step x g S rfl rfl hox (by unfold gFine; rw [if_pos e]) (by unfold srvC; rw [if_pos e]) h Fr.rf
    · rw [if_pos (by simp [e, bI])]
      simp (disch := omega) only [gbi_ok, gbl_ok, gbn_ok, gbv_ok, gst_ok, gvi_ok, gvl_ok, at_ok, put_ok, at_4, put_4, at_0, place_ok, hx.2.2.2.2.2, C_holder h hv hget]
      obtain ⟨i, hi, ei⟩ : ∃ i : Nat, i < 4 ∧ x.2.2.2.2.1 = nI i := by
        rcases hox with h9 | h9
        · exact absurd h9 e
        · exact h9
      by_cases e2 : x.2.2.2.2.2 = 0
      · rw [if_pos e2, ei]
        obtain ⟨S1, t1, t2, t3⟩ := C_toBank (x := 5) h hi
        have t4 := C_setSc8 (v := g.1 8 + 5) t2
        have h7 : S1 b 7 = g.1 8 := t2.1.2.2.2.2.2.2.1
        have h11 : S1 (b + 11) dn.length = x.2.2.2.1 := (t2.ct hget).2.2.2.1
        simp only [t1, gbv_ok, gst_ok, h7]
        unfold B_X7_serveContracts_65
        simp (disch := omega) only [gbi_ok, gbl_ok, gbn_ok, gbv_ok, gst_ok, gvi_ok, gvl_ok, at_ok, put_ok, at_4, put_4, at_0, place_ok, u2_eq, u2_ni, u2_nr, h11, nI_s]
        refine step (srvC x) (gSc (gBank g i 5) 8 (g.1 8 + 5)) _ rfl rfl ?_ ?_ rfl ?_ (t3.u20.ux (by omega))
        · unfold srvC
          rw [if_neg e]
          exact hox
        · unfold gFine
          rw [if_neg e, if_pos e2, ei, nI_c (by omega)]
        · have t5 := C_ctW (k := dn.length) (a := srvC x) (S' := u2 (u2 S1 b 7 (g.1 8 + 5)) (b + 11) dn.length (x.2.2.2.1 - 1)) t4 (fun c hc => u2_n (by omega)) (fun c y hy => u2_xi hy) (by
            have hq := t2.ct hget
            simp (disch := omega) only [cct, u2_eq, u2_ni, u2_nr, hq]
            unfold srvC
            rw [if_neg e])
          simp only [gSc, gCt, gBank, gCo, set_mid] at t5 ⊢
          exact t5
      · rw [if_neg e2]
        unfold B_X7_serveContracts_65
        simp (disch := omega) only [gbi_ok, gbl_ok, gbn_ok, gbv_ok, gst_ok, gvi_ok, gvl_ok, at_ok, put_ok, at_4, put_4, at_0, place_ok, u2_eq, u2_ni, u2_nr, hx.2.2.2.1, nI_s]
        refine step (srvC x) g _ rfl rfl ?_ ?_ rfl ?_ (Fr.rf.ux (by omega))
        · unfold srvC
          rw [if_neg e]
          exact hox
        · unfold gFine
          rw [if_neg e, if_neg e2]
        · have t5 := C_ctW (k := dn.length) (a := srvC x) (S' := u2 S (b + 11) dn.length (x.2.2.2.1 - 1)) h (fun c hc => u2_n (by omega)) (fun c y hy => u2_xi hy) (by
            simp (disch := omega) only [cct, u2_eq, u2_ni, u2_nr, hx]
            unfold srvC
            rw [if_neg e])
          simp only [gCt, set_mid] at t5
          exact t5
/-! dropping those that ended: the class's -/
def ct6 (b : Nat) (c : Nat) : Prop := b + 8 ≤ c ∧ c ≤ b + 13
theorem move_ok {b j k : Nat} {S : Sg} (hj : j < 8) (hk : k < 8) : ∃ S', f_X1_move b (nI j) (nI k) S = some S' ∧ cct b S' k = cct b S j ∧ (∀ c x, x ≠ k → S' c x = S c x) ∧ ∀ c, (c < b + 8 ∨ b + 13 < c) → S' c = S c := by
  refine ⟨u2 (u2 (u2 (u2 (u2 (u2 S (b + 8) k (S (b + 8) j)) (b + 9) k (S (b + 9) j)) (b + 10) k (S (b + 10) j)) (b + 11) k (S (b + 11) j)) (b + 12) k (S (b + 12) j)) (b + 13) k (S (b + 13) j), ?_, ?_, fun c x hx => by simp only [u2_xi hx], fun c hc => by simp (disch := omega) only [u2_n]⟩
  · unfold f_X1_move
    simp (disch := omega) only [gbi_ok, gbl_ok, gbn_ok, gbv_ok, gst_ok, gvi_ok, gvl_ok, at_ok, put_ok, at_4, put_4, at_0, place_ok, u2_nr]
  · simp (disch := omega) only [cct, u2_eq, u2_ni, u2_nr]
theorem drop_loop {b : Nat} : ∀ (l kp : List T6) (j : Nat) (S : Sg) (fu : Nat), S (b + 2) 6 = nI (j + l.length) → j + l.length ≤ 8 → kp.length ≤ j → Rp (cct b S) 0 kp → Rp (cct b S) j l → l.length < fu →
    ∃ S', L_X1_dropEnded_4 b fu S (nI kp.length) (nI j) = some S' ∧ S' (b + 2) 6 = nI (kp ++ l.filter kpc).length ∧ Rp (cct b S') 0 (kp ++ l.filter kpc) ∧ (∀ c, (c < b + 8 ∨ b + 13 < c) → c ≠ b + 2 → S' c = S c) := by
  intro l
  induction l with
  | nil =>
    intro kp j S fu hc hn hk hr1 hr2 hf
    obtain ⟨f, rfl, -⟩ := fuS hf
    refine ⟨u2 S (b + 2) 6 (nI kp.length), ?_, ?_, ?_, fun c _ h2 => u2_n h2⟩
    · show Lb_X1_dropEnded_4 b _ S (nI kp.length) (nI j) = _
      unfold Lb_X1_dropEnded_4
      rw [hc, if_pos (by simp)]
      rfl
    · simp only [u2_eq, List.filter_nil, List.append_nil]
    · simp only [List.filter_nil, List.append_nil]
      exact Rp_congr (fun x _ _ => by simp (disch := omega) only [cct, u2_eq, u2_ni, u2_nr]) hr1
  | cons a l ih =>
    intro kp j S fu hc hn hk hr1 hr2 hf
    obtain ⟨f, rfl, hf⟩ := fuS hf
    simp only [List.length_cons] at hc hn hf
    have h9 : S (b + 11) j = a.2.2.2.1 := congrArg (fun z : T6 => z.2.2.2.1) hr2.1
    have hgo : ¬ S (b + 2) 6 ≤ nI j := by rw [hc, nIle (by omega) (by omega)]; omega
    by_cases ha : a.2.2.2.1 ≤ 0
    · obtain ⟨S', e1, e2, e3, e4⟩ := ih kp (j + 1) S f (by rw [hc]; congr 1; omega) (by omega) (by omega) hr1 hr2.2 (by omega)
      have hfl : (a :: l).filter kpc = l.filter kpc := by simp [kpc, ha]
      refine ⟨S', ?_, by rw [hfl]; exact e2, by rw [hfl]; exact e3, e4⟩
      show Lb_X1_dropEnded_4 b _ S (nI kp.length) (nI j) = _
      unfold Lb_X1_dropEnded_4
      rw [if_neg hgo]
      simp (disch := omega) only [gbi_ok, gbl_ok, gbn_ok, gbv_ok, gst_ok, gvi_ok, gvl_ok, at_ok, put_ok, at_4, put_4, at_0, place_ok, h9]
      rw [if_pos ha, nI_s, e1]
    · obtain ⟨S1, m1, m2, m3, m4⟩ := move_ok (b := b) (j := j) (k := kp.length) (S := S) (by omega) (by omega)
      have hmj : cct b S j = a := hr2.1
      have r1 : Rp (cct b S1) 0 (kp ++ [a]) := Rp_push hr1 (by rw [m2, hmj]) (fun x hx => by simp (disch := omega) only [cct, m3])
      have r2 : Rp (cct b S1) (j + 1) l := Rp_congr (fun x h1 _ => by simp (disch := omega) only [cct, m3]) hr2.2
      obtain ⟨S', e1, e2, e3, e4⟩ := ih (kp ++ [a]) (j + 1) S1 f (by rw [m4 _ (by omega), hc]; congr 1; omega) (by omega) (by simp; omega) r1 r2 (by omega)
      have hfl : kp ++ (a :: l).filter kpc = kp ++ [a] ++ l.filter kpc := by simp [kpc, ha]
      refine ⟨S', ?_, by rw [hfl]; exact e2, by rw [hfl]; exact e3, fun c h1 h2 => by rw [e4 c h1 h2, m4 c h1]⟩
      show Lb_X1_dropEnded_4 b _ S (nI kp.length) (nI j) = _
      unfold Lb_X1_dropEnded_4
      rw [if_neg hgo]
      simp (disch := omega) only [gbi_ok, gbl_ok, gbn_ok, gbv_ok, gst_ok, gvi_ok, gvl_ok, at_ok, put_ok, at_4, put_4, at_0, place_ok, h9, m1]
      rw [if_neg ha, nI_s, nI_s]
      rw [List.length_append, List.length_singleton] at e1
      exact e1
def gServe (g : Game) : Game := gCt (g.2.2.2.2.foldl gFine g) ((g.2.2.2.2.map srvC).filter kpc)
theorem C_serve {b : Nat} {g : Game} {S : Sg} (h : CP b g S) (hv : VL g) : ∃ S', f_X7_serveContracts b S = some S' ∧ CP b (gServe g) S' ∧ Fr b S S' := by
  have hl := hv.2.2.1
  obtain ⟨S1, S2, e1, -, e2, e3⟩ := serve_loop (b := b) g.2.2.2.2 [] g S gFu h hv (by unfold gFu; omega)
  simp only [List.nil_append, List.length_nil] at e1 e2
  obtain ⟨hSc, hTr, hCo, hTn, hCt⟩ := e2
  obtain ⟨S3, d1, d2, d3, d4⟩ := drop_loop (b := b) (g.2.2.2.2.map srvC) [] 0 S1 gFu (by rw [Nat.zero_add]; exact hCt.1) (by rw [List.length_map]; omega) (Nat.zero_le _) trivial hCt.2 (by rw [List.length_map]; unfold gFu; omega)
  simp only [List.nil_append, List.length_nil] at d1 d2 d3
  refine ⟨S3, ?_, ⟨?_, ?_, ?_, ?_, ⟨d2, d3⟩⟩, e3.tr (fun k hk => d4 k (by omega) (by omega))⟩
  · unfold f_X7_serveContracts
    rw [← nI_0, e1]
    unfold f_X1_dropEnded
    rw [← nI_0, d1, gbv_ok]
  · unfold CSc at hSc ⊢
    simp (disch := omega) only [d4]
    exact hSc
  · apply CTr_fr hTr <;> (apply d4 <;> omega)
  · apply CCo_fr hCo <;> (try intro _ _) <;> simp (disch := omega) only [d4]
  · apply CTn_fr hTn <;> (apply d4 <;> omega)

