/-! ===== the start of the claim ===== -/
theorem in_wsX100 : ∀ w ∈ wsX100, w ∈ lw_tbl := by decide +kernel
theorem in_wsX20 : ∀ w ∈ wsX20, w ∈ lw_tbl := by decide +kernel
theorem in_wsX70 : ∀ w ∈ wsX70, w ∈ lw_tbl := by decide +kernel
theorem in_wsX30 : ∀ w ∈ wsX30, w ∈ lw_tbl := by decide +kernel
theorem in_wsX60 : ∀ w ∈ wsX60, w ∈ lw_tbl := by decide +kernel
theorem in_wsX40 : ∀ w ∈ wsX40, w ∈ lw_tbl := by decide +kernel
theorem in_wsX80 : ∀ w ∈ wsX80, w ∈ lw_tbl := by decide +kernel
theorem in_wsX10 : ∀ w ∈ wsX10, w ∈ lw_tbl := by decide +kernel
theorem in_wsX00 : ∀ w ∈ wsX00, w ∈ lw_tbl := by decide +kernel
theorem in_wsX90 : ∀ w ∈ wsX90, w ∈ lw_tbl := by decide +kernel
theorem wsin_all : ∀ w ∈ wsL_law0_r1 ++ (wsL_law0_r2 ++ (wsL_law0_r3 ++ (wsL_law0_r4 ++ (wsL_law0_r5 ++ (wsL_law0_r6 ++ (wsL_law0_r7 ++ (wsL_law0_r8 ++ (wsL_law0_r9 ++ (wsL_law0_r10 ++ (wsL_law0_r11 ++ (wsL_law0_r12 ++ (wsL_law0_r13 ++ (wsL_law0_r14 ++ (wsL_law0_r15 ++ (wsL_law0_r16 ++ (wsL_law0_r17 ++ (wsL_law0_r18 ++ (wsL_law0_r19 ++ (wsL_law0_r20 ++ (wsL_law0_r21 ++ (wsL_law0_r22 ++ (wsL_law0_r23 ++ (wsL_law0_r24 ++ (wsL_law0_r25 ++ (wsL_law0_r26 ++ (wsL_law0_r27 ++ (wsL_law0_r28 ++ (wsL_law0_r29 ++ (wsL_law0_r30 ++ (wsL_law0_r31 ++ (wsL_law0_r32 ++ (wsL_law0_r33 ++ (wsL_law0_r34 ++ (wsL_law0_r35 ++ (wsL_law0_r36 ++ (wsL_law0_r37 ++ (wsL_law0_r38))))))))))))))))))))))))))))))))))))), w ∈ lw_tbl := List.forall_mem_append.mpr ⟨wsin_1, List.forall_mem_append.mpr ⟨wsin_2, List.forall_mem_append.mpr ⟨wsin_3, List.forall_mem_append.mpr ⟨wsin_4, List.forall_mem_append.mpr ⟨wsin_5, List.forall_mem_append.mpr ⟨wsin_6, List.forall_mem_append.mpr ⟨wsin_7, List.forall_mem_append.mpr ⟨wsin_8, List.forall_mem_append.mpr ⟨wsin_9, List.forall_mem_append.mpr ⟨wsin_10, List.forall_mem_append.mpr ⟨wsin_11, List.forall_mem_append.mpr ⟨wsin_12, List.forall_mem_append.mpr ⟨wsin_13, List.forall_mem_append.mpr ⟨wsin_14, List.forall_mem_append.mpr ⟨wsin_15, List.forall_mem_append.mpr ⟨wsin_16, List.forall_mem_append.mpr ⟨wsin_17, List.forall_mem_append.mpr ⟨wsin_18, List.forall_mem_append.mpr ⟨wsin_19, List.forall_mem_append.mpr ⟨wsin_20, List.forall_mem_append.mpr ⟨wsin_21, List.forall_mem_append.mpr ⟨wsin_22, List.forall_mem_append.mpr ⟨wsin_23, List.forall_mem_append.mpr ⟨wsin_24, List.forall_mem_append.mpr ⟨wsin_25, List.forall_mem_append.mpr ⟨wsin_26, List.forall_mem_append.mpr ⟨wsin_27, List.forall_mem_append.mpr ⟨wsin_28, List.forall_mem_append.mpr ⟨wsin_29, List.forall_mem_append.mpr ⟨wsin_30, List.forall_mem_append.mpr ⟨wsin_31, List.forall_mem_append.mpr ⟨wsin_32, List.forall_mem_append.mpr ⟨wsin_33, List.forall_mem_append.mpr ⟨wsin_34, List.forall_mem_append.mpr ⟨wsin_35, List.forall_mem_append.mpr ⟨wsin_36, List.forall_mem_append.mpr ⟨wsin_37, wsin_38⟩⟩⟩⟩⟩⟩⟩⟩⟩⟩⟩⟩⟩⟩⟩⟩⟩⟩⟩⟩⟩⟩⟩⟩⟩⟩⟩⟩⟩⟩⟩⟩⟩⟩⟩⟩⟩
set_option maxRecDepth 100000 in
theorem wsL_law_in0 : ∀ w ∈ wsL_law0, w ∈ lw_tbl := by
  unfold wsL_law0
  rw [List.append_nil]
  exact List.forall_mem_append.mpr ⟨List.forall_mem_append.mpr ⟨List.forall_mem_append.mpr ⟨List.forall_mem_append.mpr ⟨List.forall_mem_append.mpr ⟨List.forall_mem_append.mpr ⟨List.forall_mem_append.mpr ⟨List.forall_mem_append.mpr ⟨List.forall_mem_append.mpr ⟨List.forall_mem_append.mpr ⟨wsin_all, in_wsX100⟩, in_wsX20⟩, in_wsX70⟩, in_wsX30⟩, in_wsX60⟩, in_wsX40⟩, in_wsX80⟩, in_wsX10⟩, in_wsX00⟩, in_wsX90⟩
theorem wsL_law_in : ∀ w ∈ wsL_law, w ∈ lw_tbl := fun w h => (List.mem_append.mp h).elim (fun h => (List.mem_append.mp h).elim (fun h => (List.mem_append.mp h).elim (fun h => wsL_law_in0 w h) (fun h => wsL_law_x0 w h)) (fun h => wsL_law_x1 w h)) (fun h => wsL_law_x2 w h)
theorem nw_of {w : Cond} {s : State} {args : Array Value} (h : gEk w = true) (hb : w.before args s = true) : va_Nw w s := by
  cases w <;> first
    | exact va_Nw.of rfl hb
    | exact word_at (State.WarmedH.refl s) (good_of_word h) hb
theorem gE_in1 : ∀ w ∈ vx_atS RX10 366 "java/lang/IndexOutOfBoundsException" gEl, w ∈ lw_tbl := by decide +kernel
theorem gE_in2 : ∀ w ∈ vx_atS RX10 154 "java/lang/IllegalArgumentException" gEl, w ∈ lw_tbl := by decide +kernel
theorem gE_in3 : ∀ w ∈ vx_atS RX10 72 "java/lang/IllegalStateException" gEl, w ∈ lw_tbl := by decide +kernel
theorem gE_in (k : Nat) : ∀ w ∈ vx_atS RX10 (gEi k) (gEn k) gEl, w ∈ lw_tbl := by
  match k with
  | 0 => exact gE_in3
  | 1 => exact gE_in1
  | 2 => exact gE_in2
  | k + 3 => exact gE_in3
theorem gNm_in : ∀ q ∈ gNm, Cond.methodLinkNest q.1 q.2.1 q.2.2.1 q.2.2.2 ∈ lw_tbl := by decide +kernel
theorem gNf_in : ∀ q ∈ gNf, Cond.fieldLinkNest q.1 q.2.1 q.2.2.1 q.2.2.2.1 q.2.2.2.2.1 q.2.2.2.2.2 ∈ lw_tbl := by decide +kernel
theorem gStr_in : ∀ q ∈ gStr, Cond.stringRef RX10 q.1 q.2 ∈ lw_tbl := by decide +kernel
theorem over_in : Cond.arrayOver (.object "RustRails$State") ∈ lw_tbl := by decide +kernel
theorem steD_in : Cond.laysStatic Bundle.tN "UNASSIGNED_STACK" Bundle.steD ∈ lw_tbl := by decide +kernel
theorem listD_in : Cond.laysStatic Bundle.tN "SUPPRESSED_SENTINEL" Bundle.listD ∈ lw_tbl := by decide +kernel
theorem tN_in : Cond.initialized Bundle.tN ∈ lw_tbl := by decide +kernel
/-- the classes of the arrays -/
theorem arr_K {s : State} {args : Array Value} {D : va_G} {cl : List vw_C} {ty : FieldType} (hcl : ∀ (c : Nat) (q : vw_C), cl[c]? = some q → u_Kn s q.1 q.2.1 q.2.2 (D.1 c) (D.2 c)) (hp : ∀ C, ty ≠ .object C) (h : (Cond.arrayClass ty).before args s = true) : ∃ kI : ClassId, va_K D cl [(kI, ty)] s := by
  obtain ⟨cA, kA, comp, h1, h2, h3⟩ := Cond.arrayClass_spec h
  refine ⟨cA, hcl, fun k q hk => ?_⟩
  have hk1 : k < 1 := (List.getElem?_eq_some_iff.mp hk).1
  rw [show k = 0 by omega] at hk
  have hq : (cA, ty) = q := Option.some.inj hk
  rw [← hq]
  refine ⟨fun n z => ⟨fun k h => (by cases h), kA, h2, comp, h3⟩, ?_⟩
  cases ty with
  | object C => exact absurd rfl (hp C)
  | _ => exact h1
theorem arr_KS {s : State} {D : va_G} {cl : List vw_C} {C : String} (hcl : ∀ (c : Nat) (q : vw_C), cl[c]? = some q → u_Kn s q.1 q.2.1 q.2.2 (D.1 c) (D.2 c)) (h : va_AO C s) : ∃ kS : ClassId, va_K D cl [(kS, .object C)] s := by
  obtain ⟨comp, cA, kA, h1, h2, h3, h4, h5⟩ := Cond.arrayOver_spec h
  refine ⟨cA, hcl, fun k q hk => ?_⟩
  have hk1 : k < 1 := (List.getElem?_eq_some_iff.mp hk).1
  rw [show k = 0 by omega] at hk
  have hq : (cA, .object C) = q := Option.some.inj hk
  rw [← hq]
  exact ⟨fun n z => ⟨fun k h => (by cases h), kA, h3, comp, h4⟩, ⟨kA, comp, h3, h4, h1, h5⟩⟩
set_option maxHeartbeats 4000000 in
theorem start_nF {s : State} {args : Array Value} (hts : ∀ w ∈ lw_tbl, w.before args s = true) : ∃ K : nK, nF K s := by
  have ht : ∀ w ∈ wsL_law, w.before args s = true := fun w hw => hts w (wsL_law_in w hw)
  obtain ⟨c0, i0, k0⟩ := u_known (C := RX0) (T := TX0) (N := 7) (n := 7) ht inlX0 (ht _ gw_49)
  obtain ⟨c1, i1, k1⟩ := u_known (C := RX1) (T := TX1) (N := 7) (n := 7) ht inlX1 (ht _ gw_45)
  obtain ⟨c2, i2, k2⟩ := u_known (C := RX2) (T := TX2) (N := 2) (n := 2) ht inlX2 (ht _ gw_11)
  obtain ⟨c3, i3, k3⟩ := u_known (C := RX3) (T := TX3) (N := 3) (n := 3) ht inlX3 (ht _ gw_20)
  obtain ⟨c4, i4, k4⟩ := u_known (C := RX4) (T := TX4) (N := 1) (n := 1) ht inlX4 (ht _ gw_28)
  obtain ⟨c5, i5, k5⟩ := u_known (C := RX6) (T := TX6) (N := 2) (n := 2) ht inlX6 (ht _ gw_24)
  obtain ⟨c6, i6, k6⟩ := u_known (C := RX7) (T := TX7) (N := 9) (n := 9) ht inlX7 (ht _ gw_15)
  obtain ⟨c7, i7, k7⟩ := u_known (C := RX8) (T := TX8) (N := 5) (n := 5) ht inlX8 (ht _ gw_41)
  obtain ⟨c8, i8, k8⟩ := u_known (C := RX9) (T := TX9) (N := 7) (n := 7) ht inlX9 (ht _ gw_95)
  obtain ⟨c9, i9, k9⟩ := u_known (C := RX10) (T := TX10) (N := 6) (n := 6) ht inlX10 (ht _ gw_1)
  obtain ⟨D, hD⟩ : ∃ D : va_G, ∀ (k : Nat) (q : vw_C), gcl[k]? = some q → u_Kn s q.1 q.2.1 q.2.2 (D.1 k) (D.2 k) := by
    refine ⟨(fun k => if k = 0 then c0 else if k = 1 then c1 else if k = 2 then c2 else if k = 3 then c3 else if k = 4 then c4 else if k = 5 then c5 else if k = 6 then c6 else if k = 7 then c7 else if k = 8 then c8 else c9, fun k => if k = 0 then i0 else if k = 1 then i1 else if k = 2 then i2 else if k = 3 then i3 else if k = 4 then i4 else if k = 5 then i5 else if k = 6 then i6 else if k = 7 then i7 else if k = 8 then i8 else i9), ?_⟩
    intro k q hq
    match k, hq with
    | 0, hq => cases hq; exact k0
    | 1, hq => cases hq; exact k1
    | 2, hq => cases hq; exact k2
    | 3, hq => cases hq; exact k3
    | 4, hq => cases hq; exact k4
    | 5, hq => cases hq; exact k5
    | 6, hq => cases hq; exact k6
    | 7, hq => cases hq; exact k7
    | 8, hq => cases hq; exact k8
    | 9, hq => cases hq; exact k9
    | k + 10, hq => simp at hq
  have hO : va_AO "RustRails$State" s := va_AO.of (hts _ over_in)
  obtain ⟨kI, hI⟩ := arr_K (cl := gcl) hD (fun C => by intro h; cases h) (ht _ gw_35)
  obtain ⟨kS, hS⟩ := arr_KS (cl := gcl) hD hO
  refine ⟨(D, kI, kI, kI, kS), hI.app hS, fun w hw => word_at (State.WarmedH.refl s) (good_of_word (gw_good w hw)) (ht w hw), fun q hq => va_Nw.of rfl (hts _ (gNm_in q hq)), fun q hq => va_Nw.of rfl (hts _ (gNf_in q hq)), hO⟩
theorem start_gX {K : nK} {s : State} {args : Array Value} (hF : nF K s) (hts : ∀ w ∈ lw_tbl, w.before args s = true) (hn : (Jvm.Cond.and given_1 narrow_1).before args s = true) : gX s := by
  have hs := flat_of_before _ hn
  refine ⟨fun k w hw => nw_of (gEw k w hw) (hts w (gE_in k w hw)), fun q hq => ?_, va_Nc.of (hs (Cond.not (.castable (gEn 2) (gEn 1))) (by decide +kernel)), va_Nc.of (hs (Cond.not (.castable (gEn 3) (gEn 1))) (by decide +kernel)), va_Nc.of (hs (Cond.not (.castable (gEn 3) (gEn 2))) (by decide +kernel))⟩
  have h0 := hts _ (gStr_in q hq)
  have h1 : (Cond.stringRef RX10 q.1 q.2).before #[] s = true := by
    simp only [Cond.before, Cond.holds, Cond.value, State.names, State.poolOf?, State.resolvedAt?] at h0 ⊢
    exact h0
  have hcur : s.vm.findClass RX10 = some (K.1.1 9) := (hF.1.1 9 _ rfl).2.1
  obtain ⟨k, cf, i, sa, e1, e2, e3, e4, e5, e6⟩ := Cond.stringRef_spec hcur h1
  exact ⟨sa, h1, e6⟩
theorem start_gZ {s : State} {args : Array Value} {A : Nat → Prop} (hts : ∀ w ∈ lw_tbl, w.before args s = true) (hn : (Jvm.Cond.and given_1 narrow_1).before args s = true) (hA : ∀ a : Nat, a < s.heap.size → ¬ A a) : gZ A s s.heap := by
  have hs := flat_of_before _ hn
  exact ⟨vx_Zqof (hts _ steD_in) (hts _ tN_in) (hs (Cond.isRef (.static Bundle.tN "UNASSIGNED_STACK" Bundle.steD)) (by decide +kernel)) hA, vx_Zqof (hts _ listD_in) (hts _ tN_in) (hs (Cond.isRef (.static Bundle.tN "SUPPRESSED_SENTINEL" Bundle.listD)) (by decide +kernel)) hA⟩
