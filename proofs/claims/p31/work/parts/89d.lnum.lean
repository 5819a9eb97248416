/-- the script's numbers -/
def gNum (xs : Nat → Int32) (L : Nat) (k : Int32) : Int32 := (if k < Int32.ofNat L then xs k.toNatClampNeg else 15517979 * (k + 5) + 10223) &&& 2147483647
set_option maxHeartbeats 4000000 in
set_option maxRecDepth 100000 in
theorem a_number (l : Launch) (G : gG) (b L : Nat) (xs : Nat → Int32) (k : Int32) (hL : L ≤ 260) (hk : 0 ≤ k) : gC l yL_number [Cond.code yL_number cL_number 2 (some .int)] (gRx 1 60 0 0) G (fun _ => False) (EX (fun _ => False) b L xs) (fun _ => True) [.ref b, .int k] (some (.int (gNum xs L k))) (fun _ => True) 0 0 := by
  refine gC_of (by decide) (Nat.le_of_ble_eq_true rfl) ?_
  intro p e s m below meth c ls cx hE hX hZ hr hlk hw hS hl
  obtain ⟨hXs, hbl, -⟩ := hE
  have hbA : ¬ gAr (fun _ => False) s.heap.size b := fun z => z.elim id (fun z => absurd hbl (Nat.not_lt.mpr z))
  have hl : lv_has ls 2 [(0, .ref b), (1, .int k)] := hl
  refine lv_iload_n cx.1 cx.2.1 dL_number_0 rfl (lv_at hl 1 rfl) ?_
  refine lv_aload_n cx.1 cx.2.1 dL_number_1 rfl (lv_at hl 0 rfl) ?_
  refine va_slen cx.1 cx.2.1 hXs hbl hbA hS dL_number_2 ?_
  refine lv_icmp_ge (tgt := 12) cx.1 cx.2.1 dL_number_3 (by decide) (fun hc => ?_) (fun hc => ?_)
  · refine lv_ldc cx.1 cx.2.1 cx.2.2.2.1 (cx.2.2.2.2.ts _ gw_839) dL_number_12 ?_
    refine lv_iload_n cx.1 cx.2.1 dL_number_14 rfl (lv_at hl 1 rfl) ?_
    refine lv_iconst (v := 5) cx.1 cx.2.1 dL_number_15 (by decide) ?_
    refine lv_iadd cx.1 cx.2.1 dL_number_16 ?_
    refine lv_imul cx.1 cx.2.1 dL_number_17 ?_
    refine lv_sipush (v := 10223) cx.1 cx.2.1 dL_number_18 (by decide) ?_
    refine lv_iadd cx.1 cx.2.1 dL_number_21 ?_
    refine lv_ldc cx.1 cx.2.1 cx.2.2.2.1 (cx.2.2.2.2.ts _ gw_840) dL_number_22 ?_
    refine lv_iand cx.1 cx.2.1 dL_number_24 ?_
    refine al_ireti (σ := Unit) (P := fun _ _ => True) (S := ()) (S' := ()) cx hr hlk trivial hS ?_ dL_number_25 (Nat.le_refl _) (Nat.le_refl _)
    unfold gNum
    rw [if_neg (Int32.not_lt.mpr hc)]
  · have hin : vp_in k L := by
      rcases ix_of k with h0 | ⟨j, hj, rfl⟩
      · exact absurd hk (Int32.not_le.mpr h0)
      · refine vp_in_nI ?_ (by omega)
        have h1 : ¬ nI L ≤ nI j := hc
        rw [nIle (by omega) hj] at h1
        omega
    refine lv_aload_n cx.1 cx.2.1 dL_number_6 rfl (lv_at hl 0 rfl) ?_
    refine lv_iload_n cx.1 cx.2.1 dL_number_7 rfl (lv_at hl 1 rfl) ?_
    refine va_sld cx.1 cx.2.1 hXs hbl hbA hS hin dL_number_8 ?_
    refine lv_goto (tgt := 22) cx.1 cx.2.1 dL_number_9 (by decide) ?_
    refine lv_ldc cx.1 cx.2.1 cx.2.2.2.1 (cx.2.2.2.2.ts _ gw_840) dL_number_22 ?_
    refine lv_iand cx.1 cx.2.1 dL_number_24 ?_
    refine al_ireti (σ := Unit) (P := fun _ _ => True) (S := ()) (S' := ()) cx hr hlk trivial hS ?_ dL_number_25 (Nat.le_refl _) (Nat.le_refl _)
    unfold gNum
    rw [if_pos (Int32.not_le.mp hc)]
theorem gyl_L_number : gY yL_number cL_number 2 (some .int) 2 := ⟨gw_838, gw_187, by decide +kernel⟩
theorem gil_L_number : Cond.static yL_number ∈ wsL_law := gw_837
theorem gyl_L_put : gY yL_put cL_put 3 (some .boolean) 3 := ⟨gw_851, gw_187, by decide +kernel⟩
theorem gil_L_put : Cond.static yL_put ∈ wsL_law := gw_850
theorem gyl_L_alike : gY yL_alike cL_alike 4 (some .boolean) 2 := ⟨gw_829, gw_187, by decide +kernel⟩
theorem gil_L_alike : Cond.static yL_alike ∈ wsL_law := gw_828
theorem gyl_L_refuses : gY yL_refuses cL_refuses 6 (some .boolean) 1 := ⟨gw_347, gw_187, by decide +kernel⟩
theorem gil_L_refuses : Cond.static yL_refuses ∈ wsL_law := gw_346
theorem gyl_L_sound : gY yL_sound cL_sound 12 (some .boolean) 1 := ⟨gw_832, gw_187, by decide +kernel⟩
theorem gil_L_sound : Cond.static yL_sound ∈ wsL_law := gw_831
theorem gyl_L_ways : gY yL_ways cL_ways 20 (some .boolean) 2 := ⟨gw_897, gw_187, by decide +kernel⟩
theorem gil_L_ways : Cond.static yL_ways ∈ wsL_law := gw_896
theorem gyl_L_rounds : gY yL_rounds cL_rounds 18 (some .boolean) 4 := ⟨gw_900, gw_187, by decide +kernel⟩
theorem gil_L_rounds : Cond.static yL_rounds ∈ wsL_law := gw_899
theorem gyl_L_scripts : gY yL_scripts cL_scripts 12 (some .boolean) 2 := ⟨gw_873, gw_187, by decide +kernel⟩
theorem gil_L_scripts : Cond.static yL_scripts ∈ wsL_law := gw_872
theorem gyl_L_act : gY yL_act cL_act 8 (some .int) 3 := ⟨gw_865, gw_187, by decide +kernel⟩
theorem gil_L_act : Cond.static yL_act ∈ wsL_law := gw_864
theorem gyl_L_hands : gY yL_hands cL_hands 35 (some .boolean) 2 := ⟨gw_894, gw_187, by decide +kernel⟩
theorem gil_L_hands : Cond.static yL_hands ∈ wsL_law := gw_893
theorem gyl_L_told : gY yL_told cL_told 15 (some .boolean) 4 := ⟨gw_835, gw_187, by decide +kernel⟩
theorem gil_L_told : Cond.static yL_told ∈ wsL_law := gw_834
