/-! ===== how many are bankrupt; tracks are laid ===== -/
theorem bits_sum (g : Game) : ((((bSt g 0 4 0) &&& (1 : Int32)) + (((bSt g 0 4 0) >>> ((1 : Int32) &&& 31)) &&& (1 : Int32))) + (((bSt g 0 4 0) >>> ((2 : Int32) &&& 31)) &&& (1 : Int32))) + (((bSt g 0 4 0) >>> ((3 : Int32) &&& 31)) &&& (1 : Int32)) = cSt g 0 4 0 := by
  obtain ⟨q, hq, e1, e2⟩ := bits_v g
  rw [e1, cnt_v, e2]
  cases bad g 0 <;> cases bad g 1 <;> cases bad g 2 <;> cases bad g 3 <;> decide
def gAddT (g : Game) (x : T4) : Game := gTr g (g.2.1 ++ [x])
theorem C_addT {b : Nat} {g : Game} {S : Sg} {a1 a2 a3 : Int32} (h : CP b g S) (hl : g.2.1.length < 16) : ∃ S', f_X8_add b a1 a2 a3 S = some S' ∧ CP b (gAddT g (a1, a2, a3, -9)) S' ∧ Fr b S S' := by
  generalize hn : g.2.1.length = n at hl
  have hc : S (b + 1) 4 = nI n := by rw [h.2.1.1, hn]
  refine ⟨u2 (u2 (u2 (u2 (u2 S (b + 4) n a1) (b + 5) n a2) (b + 6) n a3) (b + 7) n 4) (b + 1) 4 (nI n + 1), ?_, ?_, (((((Fr.rf).ux (by omega)).ux (by omega)).ux (by omega)).ux (by omega)).ux (by omega)⟩
  · have ef : f_X8_areFull b S = some (0, S) := by
      unfold f_X8_areFull
      rw [hc, if_pos (by rw [show (16 : Int32) = nI 16 from rfl, nIlt (by omega) (by omega)]; omega)]
    unfold f_X8_add
    rw [ef, gbiN, if_pos rfl, hc, put_ok (by omega) (by omega), gbvN, u2_nr (by omega), hc, put_ok (by omega) (by omega), gbvN, u2_nr (by omega), u2_nr (by omega), hc, put_ok (by omega) (by omega), gbvN, u2_nr (by omega), u2_nr (by omega), u2_nr (by omega), hc, put_ok (by omega) (by omega), gbvN, u2_nr (by omega), u2_nr (by omega), u2_nr (by omega), u2_nr (by omega), hc, gstN]
  · obtain ⟨hSc, hTr, hCo, hTn, hCt⟩ := h
    refine ⟨?_, ⟨?_, ?_⟩, ?_, ?_, ?_⟩
    · unfold CSc at hSc ⊢
      simp (disch := omega) only [u2_eq, u2_ni, u2_nr]
      exact hSc
    · simp only [u2_eq, gAddT, gTr, List.length_append, hn, nI_s, List.length_singleton]
    · simp only [gAddT, gTr, List.map_append, List.map_cons, List.map_nil]
      refine Rp_push hTr.2 ?_ (fun x hx => ?_)
      · rw [List.length_map, hn]
        simp (disch := omega) only [ctr, u2_eq, u2_ni, u2_nr]
        rfl
      · rw [List.length_map, hn] at hx
        simp (disch := omega) only [ctr, u2_eq, u2_ni, u2_nr]
    · apply CCo_fr hCo <;> (try intro _ _) <;> simp (disch := omega) only [u2_n]
    · apply CTn_fr hTn <;> simp (disch := omega) only [u2_n]
    · apply CCt_fr hCt <;> simp (disch := omega) only [u2_n]
