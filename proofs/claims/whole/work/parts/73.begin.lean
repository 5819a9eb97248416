/-! ===== how many are bankrupt; tracks are laid ===== -/
theorem bits_sum (g : Game) : ((((bSt g 0 4 0) &&& (1 : Int32)) + (((bSt g 0 4 0) >>> ((1 : Int32) &&& 31)) &&& (1 : Int32))) + (((bSt g 0 4 0) >>> ((2 : Int32) &&& 31)) &&& (1 : Int32))) + (((bSt g 0 4 0) >>> ((3 : Int32) &&& 31)) &&& (1 : Int32)) = cSt g 0 4 0 := by
  obtain ⟨q, hq, e1, e2⟩ := bits_v g
  rw [e1, cnt_v, e2]
  cases bad g 0 <;> cases bad g 1 <;> cases bad g 2 <;> cases bad g 3 <;> decide
def gAddT (g : Game) (x : T4) : Game := gTr g (g.2.1 ++ [x])
theorem C_addT {b : Nat} {g : Game} {S : Sg} {a1 a2 a3 : Int32} (h : CP b g S) (hl : g.2.1.length < 16) : ∃ S', f_X8_add b a1 a2 a3 S = some S' ∧ CP b (gAddT g (a1, a2, a3, -9)) S' ∧ Fr b S S' := by
  generalize hn : g.2.1.length = n at hl
  have hc : S (b + 1) 4 = nI n := by rw [h.2.1.1, hn]
  refine ⟨u2 (u2 (u2 (u2 (u2 S (b + 4) n a1) (b + 5) n a2) (b + 6) n a3) (b + 7) n 4) (b + 1) 4 (nI n + 1), ?_, ?_, (((((Fr.rf).ux (by omega)).ux (by omega)).ux (by omega)).ux (by omega)).ux (by omega)⟩
  · have ef : f_X8_areFull b S = some (0, S) := by
      unfold f_X8_areFull
      rw [hc, if_pos (by rw [show (16 : Int32) = nI 16 from rfl, nIlt (by omega) (by omega)]; omega)]
    unfold f_X8_add
    rw [ef, gbiN, if_pos rfl, hc, put_ok (by omega) (by omega), gbvN, u2_nr (by omega), hc, put_ok (by omega) (by omega), gbvN, u2_nr (by omega), u2_nr (by omega), hc, put_ok (by omega) (by omega), gbvN, u2_nr (by omega), u2_nr (by omega), u2_nr (by omega), hc, put_ok (by omega) (by omega), gbvN, u2_nr (by omega), u2_nr (by omega), u2_nr (by omega), u2_nr (by omega), hc, gstN]
  · obtain ⟨hSc, hTr, hCo, hTn, hCt⟩ := h
    refine ⟨?_, ⟨?_, ?_⟩, ?_, ?_, ?_⟩
    · unfold CSc at hSc ⊢
      simp (disch := omega) only [u2_eq, u2_ni, u2_nr]
      exact hSc
    · simp only [u2_eq, gAddT, gTr, List.length_append, hn, nI_s, List.length_singleton]
    · simp only [gAddT, gTr, List.map_append, List.map_cons, List.map_nil]
      refine Rp_push hTr.2 ?_ (fun x hx => ?_)
      · rw [List.length_map, hn]
        simp (disch := omega) only [ctr, u2_eq, u2_ni, u2_nr]
        rfl
      · rw [List.length_map, hn] at hx
        simp (disch := omega) only [ctr, u2_eq, u2_ni, u2_nr]
    · apply CCo_fr hCo <;> (try intro _ _) <;> simp (disch := omega) only [u2_n]
    · apply CTn_fr hTn <;> simp (disch := omega) only [u2_n]
    · apply CCt_fr hCt <;> simp (disch := omega) only [u2_n]
theorem M_addT {p : Nat} {g : Game} {S : Sg} {a1 a2 a3 : Int32} (h : MP g (S p)) (hv : VL g) (hl : g.2.1.length < 16) : ∃ S', f_X11_addTrack p a1 a2 a3 S = some S' ∧ MP (gAddT g (a1, a2, a3, -9)) (S' p) ∧ ∀ x, x ≠ p → S' x = S x := by
  generalize hn : g.2.1.length = n at hl
  have hc : S p 1 = nI n := by rw [h.2.1.1, hn]
  refine ⟨u2 (u2 (u2 (u2 (u2 S p (11 + 4 * n) a1) p (11 + 4 * n + 1) a2) p (11 + 4 * n + 2) a3) p (11 + 4 * n + 3) (-9)) p 1 (nI n + 1), ?_, ?_, fun x hx => by simp only [u2_n hx]⟩
  · unfold f_X11_addTrack
    simp (disch := omega) only [gbiN, gbvN, gstN, gviN, trackAt_ok, companyAt_ok, trainAt_ok, contractAt_ok, gck_nI, nI_c, nIp1, nIp2, nIp3, nIp4, nIp5, gck_c0, gck_c1, gck_c2, gck_c3, gck_c4, gck_c5, gck_c6, gck_c7, gck_c8, gck_c9, gck_c10, ix_c0, ix_c1, ix_c2, ix_c3, ix_c4, ix_c5, ix_c6, ix_c7, ix_c8, ix_c9, ix_c10, u2_eq, u2_ni, u2_nr, hc]
  · obtain ⟨hSc, hTr, hCo, hTn, hCt⟩ := h
    simp only [u2_s]
    refine ⟨?_, ⟨?_, ?_⟩, ?_, ?_, ?_⟩
    · unfold MSc at hSc ⊢
      simp (disch := omega) only [upd_ne]
      exact hSc
    · simp only [upd_eq, gAddT, gTr, List.length_append, hn, nI_s, List.length_singleton]
    · refine Rp_push hTr.2 ?_ (fun x hx => ?_)
      · rw [hn]
        simp (disch := omega) only [mtr, upd_eq, upd_ne]
      · rw [hn] at hx
        simp (disch := omega) only [mtr, upd_ne]
    · exact MCo_fr hCo (fun i hi => by refine ⟨?_, ?_, ?_, ?_⟩ <;> simp (disch := omega) only [upd_ne])
    · exact MTn_fr hTn hv.2.1 (fun i hi => by simp (disch := omega) only [upd_ne]) (fun x _ _ => by simp (disch := omega) only [upd_ne])
    · exact MCt_fr hCt hv.2.2.1 (by simp (disch := omega) only [upd_ne]) (fun x _ _ => by simp (disch := omega) only [upd_ne])
