/-! ===== constructors, one by one ===== -/
theorem gy_X0_init : gY yX0_init cX0_init 1 none 0 := ⟨gw_69, gw_50, by decide +kernel⟩
theorem gi_X0_init : Cond.instanceMethod yX0_init ∈ wsL_law := gw_68
theorem gy_X1_init : gY yX1_init cX1_init 1 none 0 := ⟨gw_60, gw_46, by decide +kernel⟩
theorem gi_X1_init : Cond.instanceMethod yX1_init ∈ wsL_law := gw_59
theorem gy_X2_init : gY yX2_init cX2_init 1 none 0 := ⟨gw_33, gw_12, by decide +kernel⟩
theorem gi_X2_init : Cond.instanceMethod yX2_init ∈ wsL_law := gw_32
theorem gy_X3_init : gY yX3_init cX3_init 2 none 0 := ⟨gw_80, gw_21, by decide +kernel⟩
theorem gi_X3_init : Cond.instanceMethod yX3_init ∈ wsL_law := gw_79
theorem gy_X4_init : gY yX4_init cX4_init 1 none 0 := ⟨gw_92, gw_29, by decide +kernel⟩
theorem gi_X4_init : Cond.instanceMethod yX4_init ∈ wsL_law := gw_91
theorem gy_X6_init : gY yX6_init cX6_init 2 none 0 := ⟨gw_86, gw_25, by decide +kernel⟩
theorem gi_X6_init : Cond.instanceMethod yX6_init ∈ wsL_law := gw_85
theorem gy_X7_init : gY yX7_init cX7_init 1 none 0 := ⟨gw_38, gw_16, by decide +kernel⟩
theorem gi_X7_init : Cond.instanceMethod yX7_init ∈ wsL_law := gw_37
theorem gy_X8_init : gY yX8_init cX8_init 1 none 0 := ⟨gw_53, gw_42, by decide +kernel⟩
theorem gi_X8_init : Cond.instanceMethod yX8_init ∈ wsL_law := gw_52
theorem gy_X9_init : gY yX9_init cX9_init 1 none 0 := ⟨gw_99, gw_96, by decide +kernel⟩
theorem gi_X9_init : Cond.instanceMethod yX9_init ∈ wsL_law := gw_98
theorem gy_X10_init : gY yX10_init cX10_init 1 none 0 := ⟨gw_6, gw_2, by decide +kernel⟩
theorem gi_X10_init : Cond.instanceMethod yX10_init ∈ wsL_law := gw_5
def LX8 (K : nK) (u : Nat → Nat) : va_W := [(u 0, .inr (7, [.ref (u 1), .ref (u 2), .ref (u 3), .ref (u 4), .int 0])), (u 1, .inl (K.2.1, 16, .inl zrow)), (u 2, .inl (K.2.1, 16, .inl zrow)), (u 3, .inl (K.2.1, 16, .inl zrow)), (u 4, .inl (K.2.1, 16, .inl zrow))]
set_option maxHeartbeats 4000000 in
theorem c_X8_init (l : Launch) (K : nK) : Nc l K yX8_init cX8_init 1 1 12 4 64 (.inr (7, [.null, .null, .null, .null, .int 0])) (fun u : Nat → Nat => u 0) (LX8 K) := by
  refine Nc_of (by decide) (by decide) rfl ?_
  intro p e s m below meth c ls h0 cx hr hlk hin hP hD hS hl
  have hA : ∀ q, s.heap.size ≤ q → va_A [(h0, .inr (7, [.null, .null, .null, .null, .int 0]))] s.heap.size q := fun q h => Or.inr h
  refine lv_aload_n cx.1 cx.2.1 dX8_init_0 rfl (lv_at hl 0 rfl) ?_
  refine n_obj cx gw_54 hl.1 dX8_init_1 (by decide) (by decide) ?_
  refine lv_aload_n cx.1 cx.2.1 dX8_init_4 rfl (lv_at hl 0 rfl) ?_
  refine lv_bipush (v := (16 : Int32)) cx.1 cx.2.1 dX8_init_5 (by decide) ?_
  refine n_newa (N := 16) cx hP hD hS hA (by decide) (by decide) (Nat.le_of_ble_eq_true rfl) ⟨(Nat.le_of_ble_eq_true rfl), (Nat.le_of_ble_eq_true rfl)⟩ dX8_init_7 (fun q1 H hP hD hS => ?_)
  have hP : va_P K.1 gcl [(h0, .inr (7, [.null, .null, .null, .null, .int 0])), (q1, .inl (K.2.1, 16, .inl zrow))] H := hP
  have hD : va_D (va_A [(h0, .inr (7, [.null, .null, .null, .null, .int 0]))] s.heap.size) [(h0, .inr (7, [.null, .null, .null, .null, .int 0])), (q1, .inl (K.2.1, 16, .inl zrow))] := hD
  refine n_putF (C := RX8) (T := TX8) (N := 5) (ci := 7) cx inlX8 tyX8 tyX8_ok nmX8 rfl hP hD hS 0 (by decide) gw_55 rfl rfl hin rfl rfl rfl (Nat.le_of_ble_eq_true rfl) dX8_init_9 (fun H locs hP hD hS => ?_)
  have hP : va_P K.1 gcl [(h0, .inr (7, [.ref q1, .null, .null, .null, .int 0])), (q1, .inl (K.2.1, 16, .inl zrow))] H := hP
  have hD : va_D (va_A [(h0, .inr (7, [.null, .null, .null, .null, .int 0]))] s.heap.size) [(h0, .inr (7, [.ref q1, .null, .null, .null, .int 0])), (q1, .inl (K.2.1, 16, .inl zrow))] := hD
  refine lv_aload_n cx.1 cx.2.1 dX8_init_12 rfl (lv_at hl 0 rfl) ?_
  refine lv_bipush (v := (16 : Int32)) cx.1 cx.2.1 dX8_init_13 (by decide) ?_
  refine n_newa (N := 16) cx hP hD hS hA (by decide) (by decide) (Nat.le_of_ble_eq_true rfl) ⟨(Nat.le_of_ble_eq_true rfl), (Nat.le_of_ble_eq_true rfl)⟩ dX8_init_15 (fun q2 H hP hD hS => ?_)
  have hP : va_P K.1 gcl [(h0, .inr (7, [.ref q1, .null, .null, .null, .int 0])), (q1, .inl (K.2.1, 16, .inl zrow)), (q2, .inl (K.2.1, 16, .inl zrow))] H := hP
  have hD : va_D (va_A [(h0, .inr (7, [.null, .null, .null, .null, .int 0]))] s.heap.size) [(h0, .inr (7, [.ref q1, .null, .null, .null, .int 0])), (q1, .inl (K.2.1, 16, .inl zrow)), (q2, .inl (K.2.1, 16, .inl zrow))] := hD
  refine n_putF (C := RX8) (T := TX8) (N := 5) (ci := 7) cx inlX8 tyX8 tyX8_ok nmX8 rfl hP hD hS 1 (by decide) gw_56 rfl rfl hin rfl rfl rfl (Nat.le_of_ble_eq_true rfl) dX8_init_17 (fun H locs hP hD hS => ?_)
  have hP : va_P K.1 gcl [(h0, .inr (7, [.ref q1, .ref q2, .null, .null, .int 0])), (q1, .inl (K.2.1, 16, .inl zrow)), (q2, .inl (K.2.1, 16, .inl zrow))] H := hP
  have hD : va_D (va_A [(h0, .inr (7, [.null, .null, .null, .null, .int 0]))] s.heap.size) [(h0, .inr (7, [.ref q1, .ref q2, .null, .null, .int 0])), (q1, .inl (K.2.1, 16, .inl zrow)), (q2, .inl (K.2.1, 16, .inl zrow))] := hD
  refine lv_aload_n cx.1 cx.2.1 dX8_init_20 rfl (lv_at hl 0 rfl) ?_
  refine lv_bipush (v := (16 : Int32)) cx.1 cx.2.1 dX8_init_21 (by decide) ?_
  refine n_newa (N := 16) cx hP hD hS hA (by decide) (by decide) (Nat.le_of_ble_eq_true rfl) ⟨(Nat.le_of_ble_eq_true rfl), (Nat.le_of_ble_eq_true rfl)⟩ dX8_init_23 (fun q3 H hP hD hS => ?_)
  have hP : va_P K.1 gcl [(h0, .inr (7, [.ref q1, .ref q2, .null, .null, .int 0])), (q1, .inl (K.2.1, 16, .inl zrow)), (q2, .inl (K.2.1, 16, .inl zrow)), (q3, .inl (K.2.1, 16, .inl zrow))] H := hP
  have hD : va_D (va_A [(h0, .inr (7, [.null, .null, .null, .null, .int 0]))] s.heap.size) [(h0, .inr (7, [.ref q1, .ref q2, .null, .null, .int 0])), (q1, .inl (K.2.1, 16, .inl zrow)), (q2, .inl (K.2.1, 16, .inl zrow)), (q3, .inl (K.2.1, 16, .inl zrow))] := hD
  refine n_putF (C := RX8) (T := TX8) (N := 5) (ci := 7) cx inlX8 tyX8 tyX8_ok nmX8 rfl hP hD hS 2 (by decide) gw_57 rfl rfl hin rfl rfl rfl (Nat.le_of_ble_eq_true rfl) dX8_init_25 (fun H locs hP hD hS => ?_)
  have hP : va_P K.1 gcl [(h0, .inr (7, [.ref q1, .ref q2, .ref q3, .null, .int 0])), (q1, .inl (K.2.1, 16, .inl zrow)), (q2, .inl (K.2.1, 16, .inl zrow)), (q3, .inl (K.2.1, 16, .inl zrow))] H := hP
  have hD : va_D (va_A [(h0, .inr (7, [.null, .null, .null, .null, .int 0]))] s.heap.size) [(h0, .inr (7, [.ref q1, .ref q2, .ref q3, .null, .int 0])), (q1, .inl (K.2.1, 16, .inl zrow)), (q2, .inl (K.2.1, 16, .inl zrow)), (q3, .inl (K.2.1, 16, .inl zrow))] := hD
  refine lv_aload_n cx.1 cx.2.1 dX8_init_28 rfl (lv_at hl 0 rfl) ?_
  refine lv_bipush (v := (16 : Int32)) cx.1 cx.2.1 dX8_init_29 (by decide) ?_
  refine n_newa (N := 16) cx hP hD hS hA (by decide) (by decide) (Nat.le_of_ble_eq_true rfl) ⟨(Nat.le_of_ble_eq_true rfl), (Nat.le_of_ble_eq_true rfl)⟩ dX8_init_31 (fun q4 H hP hD hS => ?_)
  have hP : va_P K.1 gcl [(h0, .inr (7, [.ref q1, .ref q2, .ref q3, .null, .int 0])), (q1, .inl (K.2.1, 16, .inl zrow)), (q2, .inl (K.2.1, 16, .inl zrow)), (q3, .inl (K.2.1, 16, .inl zrow)), (q4, .inl (K.2.1, 16, .inl zrow))] H := hP
  have hD : va_D (va_A [(h0, .inr (7, [.null, .null, .null, .null, .int 0]))] s.heap.size) [(h0, .inr (7, [.ref q1, .ref q2, .ref q3, .null, .int 0])), (q1, .inl (K.2.1, 16, .inl zrow)), (q2, .inl (K.2.1, 16, .inl zrow)), (q3, .inl (K.2.1, 16, .inl zrow)), (q4, .inl (K.2.1, 16, .inl zrow))] := hD
  refine n_putF (C := RX8) (T := TX8) (N := 5) (ci := 7) cx inlX8 tyX8 tyX8_ok nmX8 rfl hP hD hS 3 (by decide) gw_58 rfl rfl hin rfl rfl rfl (Nat.le_of_ble_eq_true rfl) dX8_init_33 (fun H locs hP hD hS => ?_)
  have hP : va_P K.1 gcl [(h0, .inr (7, [.ref q1, .ref q2, .ref q3, .ref q4, .int 0])), (q1, .inl (K.2.1, 16, .inl zrow)), (q2, .inl (K.2.1, 16, .inl zrow)), (q3, .inl (K.2.1, 16, .inl zrow)), (q4, .inl (K.2.1, 16, .inl zrow))] H := hP
  have hD : va_D (va_A [(h0, .inr (7, [.null, .null, .null, .null, .int 0]))] s.heap.size) [(h0, .inr (7, [.ref q1, .ref q2, .ref q3, .ref q4, .int 0])), (q1, .inl (K.2.1, 16, .inl zrow)), (q2, .inl (K.2.1, 16, .inl zrow)), (q3, .inl (K.2.1, 16, .inl zrow)), (q4, .inl (K.2.1, 16, .inl zrow))] := hD
  exact n_ret cx hr hlk (fun j => ([h0, q1, q2, q3, q4] : List Nat).getD j 0) rfl hP hD hS ⟨(Nat.le_of_ble_eq_true rfl), (Nat.le_of_ble_eq_true rfl)⟩ dX8_init_36
def LX1 (K : nK) (u : Nat → Nat) : va_W := [(u 0, .inr (1, [.ref (u 1), .ref (u 2), .ref (u 3), .ref (u 4), .ref (u 5), .ref (u 6), .int 0])), (u 1, .inl (K.2.1, 8, .inl zrow)), (u 2, .inl (K.2.1, 8, .inl zrow)), (u 3, .inl (K.2.1, 8, .inl zrow)), (u 4, .inl (K.2.1, 8, .inl zrow)), (u 5, .inl (K.2.1, 8, .inl zrow)), (u 6, .inl (K.2.1, 8, .inl zrow))]
set_option maxHeartbeats 4000000 in
theorem c_X1_init (l : Launch) (K : nK) : Nc l K yX1_init cX1_init 1 1 12 6 48 (.inr (1, [.null, .null, .null, .null, .null, .null, .int 0])) (fun u : Nat → Nat => u 0) (LX1 K) := by
  refine Nc_of (by decide) (by decide) rfl ?_
  intro p e s m below meth c ls h0 cx hr hlk hin hP hD hS hl
  have hA : ∀ q, s.heap.size ≤ q → va_A [(h0, .inr (1, [.null, .null, .null, .null, .null, .null, .int 0]))] s.heap.size q := fun q h => Or.inr h
  refine lv_aload_n cx.1 cx.2.1 dX1_init_0 rfl (lv_at hl 0 rfl) ?_
  refine n_obj cx gw_61 hl.1 dX1_init_1 (by decide) (by decide) ?_
  refine lv_aload_n cx.1 cx.2.1 dX1_init_4 rfl (lv_at hl 0 rfl) ?_
  refine lv_bipush (v := (8 : Int32)) cx.1 cx.2.1 dX1_init_5 (by decide) ?_
  refine n_newa (N := 8) cx hP hD hS hA (by decide) (by decide) (Nat.le_of_ble_eq_true rfl) ⟨(Nat.le_of_ble_eq_true rfl), (Nat.le_of_ble_eq_true rfl)⟩ dX1_init_7 (fun q1 H hP hD hS => ?_)
  have hP : va_P K.1 gcl [(h0, .inr (1, [.null, .null, .null, .null, .null, .null, .int 0])), (q1, .inl (K.2.1, 8, .inl zrow))] H := hP
  have hD : va_D (va_A [(h0, .inr (1, [.null, .null, .null, .null, .null, .null, .int 0]))] s.heap.size) [(h0, .inr (1, [.null, .null, .null, .null, .null, .null, .int 0])), (q1, .inl (K.2.1, 8, .inl zrow))] := hD
  refine n_putF (C := RX1) (T := TX1) (N := 7) (ci := 1) cx inlX1 tyX1 tyX1_ok nmX1 rfl hP hD hS 0 (by decide) gw_62 rfl rfl hin rfl rfl rfl (Nat.le_of_ble_eq_true rfl) dX1_init_9 (fun H locs hP hD hS => ?_)
  have hP : va_P K.1 gcl [(h0, .inr (1, [.ref q1, .null, .null, .null, .null, .null, .int 0])), (q1, .inl (K.2.1, 8, .inl zrow))] H := hP
  have hD : va_D (va_A [(h0, .inr (1, [.null, .null, .null, .null, .null, .null, .int 0]))] s.heap.size) [(h0, .inr (1, [.ref q1, .null, .null, .null, .null, .null, .int 0])), (q1, .inl (K.2.1, 8, .inl zrow))] := hD
  refine lv_aload_n cx.1 cx.2.1 dX1_init_12 rfl (lv_at hl 0 rfl) ?_
  refine lv_bipush (v := (8 : Int32)) cx.1 cx.2.1 dX1_init_13 (by decide) ?_
  refine n_newa (N := 8) cx hP hD hS hA (by decide) (by decide) (Nat.le_of_ble_eq_true rfl) ⟨(Nat.le_of_ble_eq_true rfl), (Nat.le_of_ble_eq_true rfl)⟩ dX1_init_15 (fun q2 H hP hD hS => ?_)
  have hP : va_P K.1 gcl [(h0, .inr (1, [.ref q1, .null, .null, .null, .null, .null, .int 0])), (q1, .inl (K.2.1, 8, .inl zrow)), (q2, .inl (K.2.1, 8, .inl zrow))] H := hP
  have hD : va_D (va_A [(h0, .inr (1, [.null, .null, .null, .null, .null, .null, .int 0]))] s.heap.size) [(h0, .inr (1, [.ref q1, .null, .null, .null, .null, .null, .int 0])), (q1, .inl (K.2.1, 8, .inl zrow)), (q2, .inl (K.2.1, 8, .inl zrow))] := hD
  refine n_putF (C := RX1) (T := TX1) (N := 7) (ci := 1) cx inlX1 tyX1 tyX1_ok nmX1 rfl hP hD hS 1 (by decide) gw_63 rfl rfl hin rfl rfl rfl (Nat.le_of_ble_eq_true rfl) dX1_init_17 (fun H locs hP hD hS => ?_)
  have hP : va_P K.1 gcl [(h0, .inr (1, [.ref q1, .ref q2, .null, .null, .null, .null, .int 0])), (q1, .inl (K.2.1, 8, .inl zrow)), (q2, .inl (K.2.1, 8, .inl zrow))] H := hP
  have hD : va_D (va_A [(h0, .inr (1, [.null, .null, .null, .null, .null, .null, .int 0]))] s.heap.size) [(h0, .inr (1, [.ref q1, .ref q2, .null, .null, .null, .null, .int 0])), (q1, .inl (K.2.1, 8, .inl zrow)), (q2, .inl (K.2.1, 8, .inl zrow))] := hD
  refine lv_aload_n cx.1 cx.2.1 dX1_init_20 rfl (lv_at hl 0 rfl) ?_
  refine lv_bipush (v := (8 : Int32)) cx.1 cx.2.1 dX1_init_21 (by decide) ?_
  refine n_newa (N := 8) cx hP hD hS hA (by decide) (by decide) (Nat.le_of_ble_eq_true rfl) ⟨(Nat.le_of_ble_eq_true rfl), (Nat.le_of_ble_eq_true rfl)⟩ dX1_init_23 (fun q3 H hP hD hS => ?_)
  have hP : va_P K.1 gcl [(h0, .inr (1, [.ref q1, .ref q2, .null, .null, .null, .null, .int 0])), (q1, .inl (K.2.1, 8, .inl zrow)), (q2, .inl (K.2.1, 8, .inl zrow)), (q3, .inl (K.2.1, 8, .inl zrow))] H := hP
  have hD : va_D (va_A [(h0, .inr (1, [.null, .null, .null, .null, .null, .null, .int 0]))] s.heap.size) [(h0, .inr (1, [.ref q1, .ref q2, .null, .null, .null, .null, .int 0])), (q1, .inl (K.2.1, 8, .inl zrow)), (q2, .inl (K.2.1, 8, .inl zrow)), (q3, .inl (K.2.1, 8, .inl zrow))] := hD
  refine n_putF (C := RX1) (T := TX1) (N := 7) (ci := 1) cx inlX1 tyX1 tyX1_ok nmX1 rfl hP hD hS 2 (by decide) gw_64 rfl rfl hin rfl rfl rfl (Nat.le_of_ble_eq_true rfl) dX1_init_25 (fun H locs hP hD hS => ?_)
  have hP : va_P K.1 gcl [(h0, .inr (1, [.ref q1, .ref q2, .ref q3, .null, .null, .null, .int 0])), (q1, .inl (K.2.1, 8, .inl zrow)), (q2, .inl (K.2.1, 8, .inl zrow)), (q3, .inl (K.2.1, 8, .inl zrow))] H := hP
  have hD : va_D (va_A [(h0, .inr (1, [.null, .null, .null, .null, .null, .null, .int 0]))] s.heap.size) [(h0, .inr (1, [.ref q1, .ref q2, .ref q3, .null, .null, .null, .int 0])), (q1, .inl (K.2.1, 8, .inl zrow)), (q2, .inl (K.2.1, 8, .inl zrow)), (q3, .inl (K.2.1, 8, .inl zrow))] := hD
  refine lv_aload_n cx.1 cx.2.1 dX1_init_28 rfl (lv_at hl 0 rfl) ?_
  refine lv_bipush (v := (8 : Int32)) cx.1 cx.2.1 dX1_init_29 (by decide) ?_
  refine n_newa (N := 8) cx hP hD hS hA (by decide) (by decide) (Nat.le_of_ble_eq_true rfl) ⟨(Nat.le_of_ble_eq_true rfl), (Nat.le_of_ble_eq_true rfl)⟩ dX1_init_31 (fun q4 H hP hD hS => ?_)
  have hP : va_P K.1 gcl [(h0, .inr (1, [.ref q1, .ref q2, .ref q3, .null, .null, .null, .int 0])), (q1, .inl (K.2.1, 8, .inl zrow)), (q2, .inl (K.2.1, 8, .inl zrow)), (q3, .inl (K.2.1, 8, .inl zrow)), (q4, .inl (K.2.1, 8, .inl zrow))] H := hP
  have hD : va_D (va_A [(h0, .inr (1, [.null, .null, .null, .null, .null, .null, .int 0]))] s.heap.size) [(h0, .inr (1, [.ref q1, .ref q2, .ref q3, .null, .null, .null, .int 0])), (q1, .inl (K.2.1, 8, .inl zrow)), (q2, .inl (K.2.1, 8, .inl zrow)), (q3, .inl (K.2.1, 8, .inl zrow)), (q4, .inl (K.2.1, 8, .inl zrow))] := hD
  refine n_putF (C := RX1) (T := TX1) (N := 7) (ci := 1) cx inlX1 tyX1 tyX1_ok nmX1 rfl hP hD hS 3 (by decide) gw_65 rfl rfl hin rfl rfl rfl (Nat.le_of_ble_eq_true rfl) dX1_init_33 (fun H locs hP hD hS => ?_)
  have hP : va_P K.1 gcl [(h0, .inr (1, [.ref q1, .ref q2, .ref q3, .ref q4, .null, .null, .int 0])), (q1, .inl (K.2.1, 8, .inl zrow)), (q2, .inl (K.2.1, 8, .inl zrow)), (q3, .inl (K.2.1, 8, .inl zrow)), (q4, .inl (K.2.1, 8, .inl zrow))] H := hP
  have hD : va_D (va_A [(h0, .inr (1, [.null, .null, .null, .null, .null, .null, .int 0]))] s.heap.size) [(h0, .inr (1, [.ref q1, .ref q2, .ref q3, .ref q4, .null, .null, .int 0])), (q1, .inl (K.2.1, 8, .inl zrow)), (q2, .inl (K.2.1, 8, .inl zrow)), (q3, .inl (K.2.1, 8, .inl zrow)), (q4, .inl (K.2.1, 8, .inl zrow))] := hD
  refine lv_aload_n cx.1 cx.2.1 dX1_init_36 rfl (lv_at hl 0 rfl) ?_
  refine lv_bipush (v := (8 : Int32)) cx.1 cx.2.1 dX1_init_37 (by decide) ?_
  refine n_newa (N := 8) cx hP hD hS hA (by decide) (by decide) (Nat.le_of_ble_eq_true rfl) ⟨(Nat.le_of_ble_eq_true rfl), (Nat.le_of_ble_eq_true rfl)⟩ dX1_init_39 (fun q5 H hP hD hS => ?_)
  have hP : va_P K.1 gcl [(h0, .inr (1, [.ref q1, .ref q2, .ref q3, .ref q4, .null, .null, .int 0])), (q1, .inl (K.2.1, 8, .inl zrow)), (q2, .inl (K.2.1, 8, .inl zrow)), (q3, .inl (K.2.1, 8, .inl zrow)), (q4, .inl (K.2.1, 8, .inl zrow)), (q5, .inl (K.2.1, 8, .inl zrow))] H := hP
  have hD : va_D (va_A [(h0, .inr (1, [.null, .null, .null, .null, .null, .null, .int 0]))] s.heap.size) [(h0, .inr (1, [.ref q1, .ref q2, .ref q3, .ref q4, .null, .null, .int 0])), (q1, .inl (K.2.1, 8, .inl zrow)), (q2, .inl (K.2.1, 8, .inl zrow)), (q3, .inl (K.2.1, 8, .inl zrow)), (q4, .inl (K.2.1, 8, .inl zrow)), (q5, .inl (K.2.1, 8, .inl zrow))] := hD
  refine n_putF (C := RX1) (T := TX1) (N := 7) (ci := 1) cx inlX1 tyX1 tyX1_ok nmX1 rfl hP hD hS 4 (by decide) gw_66 rfl rfl hin rfl rfl rfl (Nat.le_of_ble_eq_true rfl) dX1_init_41 (fun H locs hP hD hS => ?_)
  have hP : va_P K.1 gcl [(h0, .inr (1, [.ref q1, .ref q2, .ref q3, .ref q4, .ref q5, .null, .int 0])), (q1, .inl (K.2.1, 8, .inl zrow)), (q2, .inl (K.2.1, 8, .inl zrow)), (q3, .inl (K.2.1, 8, .inl zrow)), (q4, .inl (K.2.1, 8, .inl zrow)), (q5, .inl (K.2.1, 8, .inl zrow))] H := hP
  have hD : va_D (va_A [(h0, .inr (1, [.null, .null, .null, .null, .null, .null, .int 0]))] s.heap.size) [(h0, .inr (1, [.ref q1, .ref q2, .ref q3, .ref q4, .ref q5, .null, .int 0])), (q1, .inl (K.2.1, 8, .inl zrow)), (q2, .inl (K.2.1, 8, .inl zrow)), (q3, .inl (K.2.1, 8, .inl zrow)), (q4, .inl (K.2.1, 8, .inl zrow)), (q5, .inl (K.2.1, 8, .inl zrow))] := hD
  refine lv_aload_n cx.1 cx.2.1 dX1_init_44 rfl (lv_at hl 0 rfl) ?_
  refine lv_bipush (v := (8 : Int32)) cx.1 cx.2.1 dX1_init_45 (by decide) ?_
  refine n_newa (N := 8) cx hP hD hS hA (by decide) (by decide) (Nat.le_of_ble_eq_true rfl) ⟨(Nat.le_of_ble_eq_true rfl), (Nat.le_of_ble_eq_true rfl)⟩ dX1_init_47 (fun q6 H hP hD hS => ?_)
  have hP : va_P K.1 gcl [(h0, .inr (1, [.ref q1, .ref q2, .ref q3, .ref q4, .ref q5, .null, .int 0])), (q1, .inl (K.2.1, 8, .inl zrow)), (q2, .inl (K.2.1, 8, .inl zrow)), (q3, .inl (K.2.1, 8, .inl zrow)), (q4, .inl (K.2.1, 8, .inl zrow)), (q5, .inl (K.2.1, 8, .inl zrow)), (q6, .inl (K.2.1, 8, .inl zrow))] H := hP
  have hD : va_D (va_A [(h0, .inr (1, [.null, .null, .null, .null, .null, .null, .int 0]))] s.heap.size) [(h0, .inr (1, [.ref q1, .ref q2, .ref q3, .ref q4, .ref q5, .null, .int 0])), (q1, .inl (K.2.1, 8, .inl zrow)), (q2, .inl (K.2.1, 8, .inl zrow)), (q3, .inl (K.2.1, 8, .inl zrow)), (q4, .inl (K.2.1, 8, .inl zrow)), (q5, .inl (K.2.1, 8, .inl zrow)), (q6, .inl (K.2.1, 8, .inl zrow))] := hD
  refine n_putF (C := RX1) (T := TX1) (N := 7) (ci := 1) cx inlX1 tyX1 tyX1_ok nmX1 rfl hP hD hS 5 (by decide) gw_67 rfl rfl hin rfl rfl rfl (Nat.le_of_ble_eq_true rfl) dX1_init_49 (fun H locs hP hD hS => ?_)
  have hP : va_P K.1 gcl [(h0, .inr (1, [.ref q1, .ref q2, .ref q3, .ref q4, .ref q5, .ref q6, .int 0])), (q1, .inl (K.2.1, 8, .inl zrow)), (q2, .inl (K.2.1, 8, .inl zrow)), (q3, .inl (K.2.1, 8, .inl zrow)), (q4, .inl (K.2.1, 8, .inl zrow)), (q5, .inl (K.2.1, 8, .inl zrow)), (q6, .inl (K.2.1, 8, .inl zrow))] H := hP
  have hD : va_D (va_A [(h0, .inr (1, [.null, .null, .null, .null, .null, .null, .int 0]))] s.heap.size) [(h0, .inr (1, [.ref q1, .ref q2, .ref q3, .ref q4, .ref q5, .ref q6, .int 0])), (q1, .inl (K.2.1, 8, .inl zrow)), (q2, .inl (K.2.1, 8, .inl zrow)), (q3, .inl (K.2.1, 8, .inl zrow)), (q4, .inl (K.2.1, 8, .inl zrow)), (q5, .inl (K.2.1, 8, .inl zrow)), (q6, .inl (K.2.1, 8, .inl zrow))] := hD
  exact n_ret cx hr hlk (fun j => ([h0, q1, q2, q3, q4, q5, q6] : List Nat).getD j 0) rfl hP hD hS ⟨(Nat.le_of_ble_eq_true rfl), (Nat.le_of_ble_eq_true rfl)⟩ dX1_init_52
def LX0 (K : nK) (u : Nat → Nat) : va_W := [(u 0, .inr (0, [.ref (u 1), .ref (u 2), .ref (u 3), .ref (u 4), .ref (u 5), .ref (u 6), .ref (u 7)])), (u 1, .inl (K.2.1, 5, .inl zrow)), (u 2, .inl (K.2.1, 5, .inl zrow)), (u 3, .inl (K.2.1, 5, .inl zrow)), (u 4, .inl (K.2.1, 4, .inl zrow)), (u 5, .inl (K.2.1, 4, .inl zrow)), (u 6, .inl (K.2.1, 16, .inl zrow)), (u 7, .inl (K.2.1, 16, .inl zrow))]
set_option maxHeartbeats 4000000 in
theorem c_X0_init (l : Launch) (K : nK) : Nc l K yX0_init cX0_init 1 1 12 7 55 (.inr (0, [.null, .null, .null, .null, .null, .null, .null])) (fun u : Nat → Nat => u 0) (LX0 K) := by
  refine Nc_of (by decide) (by decide) rfl ?_
  intro p e s m below meth c ls h0 cx hr hlk hin hP hD hS hl
  have hA : ∀ q, s.heap.size ≤ q → va_A [(h0, .inr (0, [.null, .null, .null, .null, .null, .null, .null]))] s.heap.size q := fun q h => Or.inr h
  refine lv_aload_n cx.1 cx.2.1 dX0_init_0 rfl (lv_at hl 0 rfl) ?_
  refine n_obj cx gw_70 hl.1 dX0_init_1 (by decide) (by decide) ?_
  refine lv_aload_n cx.1 cx.2.1 dX0_init_4 rfl (lv_at hl 0 rfl) ?_
  refine lv_iconst (v := (5 : Int32)) cx.1 cx.2.1 dX0_init_5 (by decide) ?_
  refine n_newa (N := 5) cx hP hD hS hA (by decide) (by decide) (Nat.le_of_ble_eq_true rfl) ⟨(Nat.le_of_ble_eq_true rfl), (Nat.le_of_ble_eq_true rfl)⟩ dX0_init_6 (fun q1 H hP hD hS => ?_)
  have hP : va_P K.1 gcl [(h0, .inr (0, [.null, .null, .null, .null, .null, .null, .null])), (q1, .inl (K.2.1, 5, .inl zrow))] H := hP
  have hD : va_D (va_A [(h0, .inr (0, [.null, .null, .null, .null, .null, .null, .null]))] s.heap.size) [(h0, .inr (0, [.null, .null, .null, .null, .null, .null, .null])), (q1, .inl (K.2.1, 5, .inl zrow))] := hD
  refine n_putF (C := RX0) (T := TX0) (N := 7) (ci := 0) cx inlX0 tyX0 tyX0_ok nmX0 rfl hP hD hS 0 (by decide) gw_71 rfl rfl hin rfl rfl rfl (Nat.le_of_ble_eq_true rfl) dX0_init_8 (fun H locs hP hD hS => ?_)
  have hP : va_P K.1 gcl [(h0, .inr (0, [.ref q1, .null, .null, .null, .null, .null, .null])), (q1, .inl (K.2.1, 5, .inl zrow))] H := hP
  have hD : va_D (va_A [(h0, .inr (0, [.null, .null, .null, .null, .null, .null, .null]))] s.heap.size) [(h0, .inr (0, [.ref q1, .null, .null, .null, .null, .null, .null])), (q1, .inl (K.2.1, 5, .inl zrow))] := hD
  refine lv_aload_n cx.1 cx.2.1 dX0_init_11 rfl (lv_at hl 0 rfl) ?_
  refine lv_iconst (v := (5 : Int32)) cx.1 cx.2.1 dX0_init_12 (by decide) ?_
  refine n_newa (N := 5) cx hP hD hS hA (by decide) (by decide) (Nat.le_of_ble_eq_true rfl) ⟨(Nat.le_of_ble_eq_true rfl), (Nat.le_of_ble_eq_true rfl)⟩ dX0_init_13 (fun q2 H hP hD hS => ?_)
  have hP : va_P K.1 gcl [(h0, .inr (0, [.ref q1, .null, .null, .null, .null, .null, .null])), (q1, .inl (K.2.1, 5, .inl zrow)), (q2, .inl (K.2.1, 5, .inl zrow))] H := hP
  have hD : va_D (va_A [(h0, .inr (0, [.null, .null, .null, .null, .null, .null, .null]))] s.heap.size) [(h0, .inr (0, [.ref q1, .null, .null, .null, .null, .null, .null])), (q1, .inl (K.2.1, 5, .inl zrow)), (q2, .inl (K.2.1, 5, .inl zrow))] := hD
  refine n_putF (C := RX0) (T := TX0) (N := 7) (ci := 0) cx inlX0 tyX0 tyX0_ok nmX0 rfl hP hD hS 1 (by decide) gw_72 rfl rfl hin rfl rfl rfl (Nat.le_of_ble_eq_true rfl) dX0_init_15 (fun H locs hP hD hS => ?_)
  have hP : va_P K.1 gcl [(h0, .inr (0, [.ref q1, .ref q2, .null, .null, .null, .null, .null])), (q1, .inl (K.2.1, 5, .inl zrow)), (q2, .inl (K.2.1, 5, .inl zrow))] H := hP
  have hD : va_D (va_A [(h0, .inr (0, [.null, .null, .null, .null, .null, .null, .null]))] s.heap.size) [(h0, .inr (0, [.ref q1, .ref q2, .null, .null, .null, .null, .null])), (q1, .inl (K.2.1, 5, .inl zrow)), (q2, .inl (K.2.1, 5, .inl zrow))] := hD
  refine lv_aload_n cx.1 cx.2.1 dX0_init_18 rfl (lv_at hl 0 rfl) ?_
  refine lv_iconst (v := (5 : Int32)) cx.1 cx.2.1 dX0_init_19 (by decide) ?_
  refine n_newa (N := 5) cx hP hD hS hA (by decide) (by decide) (Nat.le_of_ble_eq_true rfl) ⟨(Nat.le_of_ble_eq_true rfl), (Nat.le_of_ble_eq_true rfl)⟩ dX0_init_20 (fun q3 H hP hD hS => ?_)
  have hP : va_P K.1 gcl [(h0, .inr (0, [.ref q1, .ref q2, .null, .null, .null, .null, .null])), (q1, .inl (K.2.1, 5, .inl zrow)), (q2, .inl (K.2.1, 5, .inl zrow)), (q3, .inl (K.2.1, 5, .inl zrow))] H := hP
  have hD : va_D (va_A [(h0, .inr (0, [.null, .null, .null, .null, .null, .null, .null]))] s.heap.size) [(h0, .inr (0, [.ref q1, .ref q2, .null, .null, .null, .null, .null])), (q1, .inl (K.2.1, 5, .inl zrow)), (q2, .inl (K.2.1, 5, .inl zrow)), (q3, .inl (K.2.1, 5, .inl zrow))] := hD
  refine n_putF (C := RX0) (T := TX0) (N := 7) (ci := 0) cx inlX0 tyX0 tyX0_ok nmX0 rfl hP hD hS 2 (by decide) gw_73 rfl rfl hin rfl rfl rfl (Nat.le_of_ble_eq_true rfl) dX0_init_22 (fun H locs hP hD hS => ?_)
  have hP : va_P K.1 gcl [(h0, .inr (0, [.ref q1, .ref q2, .ref q3, .null, .null, .null, .null])), (q1, .inl (K.2.1, 5, .inl zrow)), (q2, .inl (K.2.1, 5, .inl zrow)), (q3, .inl (K.2.1, 5, .inl zrow))] H := hP
  have hD : va_D (va_A [(h0, .inr (0, [.null, .null, .null, .null, .null, .null, .null]))] s.heap.size) [(h0, .inr (0, [.ref q1, .ref q2, .ref q3, .null, .null, .null, .null])), (q1, .inl (K.2.1, 5, .inl zrow)), (q2, .inl (K.2.1, 5, .inl zrow)), (q3, .inl (K.2.1, 5, .inl zrow))] := hD
  refine lv_aload_n cx.1 cx.2.1 dX0_init_25 rfl (lv_at hl 0 rfl) ?_
  refine lv_iconst (v := (4 : Int32)) cx.1 cx.2.1 dX0_init_26 (by decide) ?_
  refine n_newa (N := 4) cx hP hD hS hA (by decide) (by decide) (Nat.le_of_ble_eq_true rfl) ⟨(Nat.le_of_ble_eq_true rfl), (Nat.le_of_ble_eq_true rfl)⟩ dX0_init_27 (fun q4 H hP hD hS => ?_)
  have hP : va_P K.1 gcl [(h0, .inr (0, [.ref q1, .ref q2, .ref q3, .null, .null, .null, .null])), (q1, .inl (K.2.1, 5, .inl zrow)), (q2, .inl (K.2.1, 5, .inl zrow)), (q3, .inl (K.2.1, 5, .inl zrow)), (q4, .inl (K.2.1, 4, .inl zrow))] H := hP
  have hD : va_D (va_A [(h0, .inr (0, [.null, .null, .null, .null, .null, .null, .null]))] s.heap.size) [(h0, .inr (0, [.ref q1, .ref q2, .ref q3, .null, .null, .null, .null])), (q1, .inl (K.2.1, 5, .inl zrow)), (q2, .inl (K.2.1, 5, .inl zrow)), (q3, .inl (K.2.1, 5, .inl zrow)), (q4, .inl (K.2.1, 4, .inl zrow))] := hD
  refine n_putF (C := RX0) (T := TX0) (N := 7) (ci := 0) cx inlX0 tyX0 tyX0_ok nmX0 rfl hP hD hS 3 (by decide) gw_74 rfl rfl hin rfl rfl rfl (Nat.le_of_ble_eq_true rfl) dX0_init_29 (fun H locs hP hD hS => ?_)
  have hP : va_P K.1 gcl [(h0, .inr (0, [.ref q1, .ref q2, .ref q3, .ref q4, .null, .null, .null])), (q1, .inl (K.2.1, 5, .inl zrow)), (q2, .inl (K.2.1, 5, .inl zrow)), (q3, .inl (K.2.1, 5, .inl zrow)), (q4, .inl (K.2.1, 4, .inl zrow))] H := hP
  have hD : va_D (va_A [(h0, .inr (0, [.null, .null, .null, .null, .null, .null, .null]))] s.heap.size) [(h0, .inr (0, [.ref q1, .ref q2, .ref q3, .ref q4, .null, .null, .null])), (q1, .inl (K.2.1, 5, .inl zrow)), (q2, .inl (K.2.1, 5, .inl zrow)), (q3, .inl (K.2.1, 5, .inl zrow)), (q4, .inl (K.2.1, 4, .inl zrow))] := hD
  refine lv_aload_n cx.1 cx.2.1 dX0_init_32 rfl (lv_at hl 0 rfl) ?_
  refine lv_iconst (v := (4 : Int32)) cx.1 cx.2.1 dX0_init_33 (by decide) ?_
  refine n_newa (N := 4) cx hP hD hS hA (by decide) (by decide) (Nat.le_of_ble_eq_true rfl) ⟨(Nat.le_of_ble_eq_true rfl), (Nat.le_of_ble_eq_true rfl)⟩ dX0_init_34 (fun q5 H hP hD hS => ?_)
  have hP : va_P K.1 gcl [(h0, .inr (0, [.ref q1, .ref q2, .ref q3, .ref q4, .null, .null, .null])), (q1, .inl (K.2.1, 5, .inl zrow)), (q2, .inl (K.2.1, 5, .inl zrow)), (q3, .inl (K.2.1, 5, .inl zrow)), (q4, .inl (K.2.1, 4, .inl zrow)), (q5, .inl (K.2.1, 4, .inl zrow))] H := hP
  have hD : va_D (va_A [(h0, .inr (0, [.null, .null, .null, .null, .null, .null, .null]))] s.heap.size) [(h0, .inr (0, [.ref q1, .ref q2, .ref q3, .ref q4, .null, .null, .null])), (q1, .inl (K.2.1, 5, .inl zrow)), (q2, .inl (K.2.1, 5, .inl zrow)), (q3, .inl (K.2.1, 5, .inl zrow)), (q4, .inl (K.2.1, 4, .inl zrow)), (q5, .inl (K.2.1, 4, .inl zrow))] := hD
  refine n_putF (C := RX0) (T := TX0) (N := 7) (ci := 0) cx inlX0 tyX0 tyX0_ok nmX0 rfl hP hD hS 4 (by decide) gw_75 rfl rfl hin rfl rfl rfl (Nat.le_of_ble_eq_true rfl) dX0_init_36 (fun H locs hP hD hS => ?_)
  have hP : va_P K.1 gcl [(h0, .inr (0, [.ref q1, .ref q2, .ref q3, .ref q4, .ref q5, .null, .null])), (q1, .inl (K.2.1, 5, .inl zrow)), (q2, .inl (K.2.1, 5, .inl zrow)), (q3, .inl (K.2.1, 5, .inl zrow)), (q4, .inl (K.2.1, 4, .inl zrow)), (q5, .inl (K.2.1, 4, .inl zrow))] H := hP
  have hD : va_D (va_A [(h0, .inr (0, [.null, .null, .null, .null, .null, .null, .null]))] s.heap.size) [(h0, .inr (0, [.ref q1, .ref q2, .ref q3, .ref q4, .ref q5, .null, .null])), (q1, .inl (K.2.1, 5, .inl zrow)), (q2, .inl (K.2.1, 5, .inl zrow)), (q3, .inl (K.2.1, 5, .inl zrow)), (q4, .inl (K.2.1, 4, .inl zrow)), (q5, .inl (K.2.1, 4, .inl zrow))] := hD
  refine lv_aload_n cx.1 cx.2.1 dX0_init_39 rfl (lv_at hl 0 rfl) ?_
  refine lv_bipush (v := (16 : Int32)) cx.1 cx.2.1 dX0_init_40 (by decide) ?_
  refine n_newa (N := 16) cx hP hD hS hA (by decide) (by decide) (Nat.le_of_ble_eq_true rfl) ⟨(Nat.le_of_ble_eq_true rfl), (Nat.le_of_ble_eq_true rfl)⟩ dX0_init_42 (fun q6 H hP hD hS => ?_)
  have hP : va_P K.1 gcl [(h0, .inr (0, [.ref q1, .ref q2, .ref q3, .ref q4, .ref q5, .null, .null])), (q1, .inl (K.2.1, 5, .inl zrow)), (q2, .inl (K.2.1, 5, .inl zrow)), (q3, .inl (K.2.1, 5, .inl zrow)), (q4, .inl (K.2.1, 4, .inl zrow)), (q5, .inl (K.2.1, 4, .inl zrow)), (q6, .inl (K.2.1, 16, .inl zrow))] H := hP
  have hD : va_D (va_A [(h0, .inr (0, [.null, .null, .null, .null, .null, .null, .null]))] s.heap.size) [(h0, .inr (0, [.ref q1, .ref q2, .ref q3, .ref q4, .ref q5, .null, .null])), (q1, .inl (K.2.1, 5, .inl zrow)), (q2, .inl (K.2.1, 5, .inl zrow)), (q3, .inl (K.2.1, 5, .inl zrow)), (q4, .inl (K.2.1, 4, .inl zrow)), (q5, .inl (K.2.1, 4, .inl zrow)), (q6, .inl (K.2.1, 16, .inl zrow))] := hD
  refine n_putF (C := RX0) (T := TX0) (N := 7) (ci := 0) cx inlX0 tyX0 tyX0_ok nmX0 rfl hP hD hS 5 (by decide) gw_76 rfl rfl hin rfl rfl rfl (Nat.le_of_ble_eq_true rfl) dX0_init_44 (fun H locs hP hD hS => ?_)
  have hP : va_P K.1 gcl [(h0, .inr (0, [.ref q1, .ref q2, .ref q3, .ref q4, .ref q5, .ref q6, .null])), (q1, .inl (K.2.1, 5, .inl zrow)), (q2, .inl (K.2.1, 5, .inl zrow)), (q3, .inl (K.2.1, 5, .inl zrow)), (q4, .inl (K.2.1, 4, .inl zrow)), (q5, .inl (K.2.1, 4, .inl zrow)), (q6, .inl (K.2.1, 16, .inl zrow))] H := hP
  have hD : va_D (va_A [(h0, .inr (0, [.null, .null, .null, .null, .null, .null, .null]))] s.heap.size) [(h0, .inr (0, [.ref q1, .ref q2, .ref q3, .ref q4, .ref q5, .ref q6, .null])), (q1, .inl (K.2.1, 5, .inl zrow)), (q2, .inl (K.2.1, 5, .inl zrow)), (q3, .inl (K.2.1, 5, .inl zrow)), (q4, .inl (K.2.1, 4, .inl zrow)), (q5, .inl (K.2.1, 4, .inl zrow)), (q6, .inl (K.2.1, 16, .inl zrow))] := hD
  refine lv_aload_n cx.1 cx.2.1 dX0_init_47 rfl (lv_at hl 0 rfl) ?_
  refine lv_bipush (v := (16 : Int32)) cx.1 cx.2.1 dX0_init_48 (by decide) ?_
  refine n_newa (N := 16) cx hP hD hS hA (by decide) (by decide) (Nat.le_of_ble_eq_true rfl) ⟨(Nat.le_of_ble_eq_true rfl), (Nat.le_of_ble_eq_true rfl)⟩ dX0_init_50 (fun q7 H hP hD hS => ?_)
  have hP : va_P K.1 gcl [(h0, .inr (0, [.ref q1, .ref q2, .ref q3, .ref q4, .ref q5, .ref q6, .null])), (q1, .inl (K.2.1, 5, .inl zrow)), (q2, .inl (K.2.1, 5, .inl zrow)), (q3, .inl (K.2.1, 5, .inl zrow)), (q4, .inl (K.2.1, 4, .inl zrow)), (q5, .inl (K.2.1, 4, .inl zrow)), (q6, .inl (K.2.1, 16, .inl zrow)), (q7, .inl (K.2.1, 16, .inl zrow))] H := hP
  have hD : va_D (va_A [(h0, .inr (0, [.null, .null, .null, .null, .null, .null, .null]))] s.heap.size) [(h0, .inr (0, [.ref q1, .ref q2, .ref q3, .ref q4, .ref q5, .ref q6, .null])), (q1, .inl (K.2.1, 5, .inl zrow)), (q2, .inl (K.2.1, 5, .inl zrow)), (q3, .inl (K.2.1, 5, .inl zrow)), (q4, .inl (K.2.1, 4, .inl zrow)), (q5, .inl (K.2.1, 4, .inl zrow)), (q6, .inl (K.2.1, 16, .inl zrow)), (q7, .inl (K.2.1, 16, .inl zrow))] := hD
  refine n_putF (C := RX0) (T := TX0) (N := 7) (ci := 0) cx inlX0 tyX0 tyX0_ok nmX0 rfl hP hD hS 6 (by decide) gw_77 rfl rfl hin rfl rfl rfl (Nat.le_of_ble_eq_true rfl) dX0_init_52 (fun H locs hP hD hS => ?_)
  have hP : va_P K.1 gcl [(h0, .inr (0, [.ref q1, .ref q2, .ref q3, .ref q4, .ref q5, .ref q6, .ref q7])), (q1, .inl (K.2.1, 5, .inl zrow)), (q2, .inl (K.2.1, 5, .inl zrow)), (q3, .inl (K.2.1, 5, .inl zrow)), (q4, .inl (K.2.1, 4, .inl zrow)), (q5, .inl (K.2.1, 4, .inl zrow)), (q6, .inl (K.2.1, 16, .inl zrow)), (q7, .inl (K.2.1, 16, .inl zrow))] H := hP
  have hD : va_D (va_A [(h0, .inr (0, [.null, .null, .null, .null, .null, .null, .null]))] s.heap.size) [(h0, .inr (0, [.ref q1, .ref q2, .ref q3, .ref q4, .ref q5, .ref q6, .ref q7])), (q1, .inl (K.2.1, 5, .inl zrow)), (q2, .inl (K.2.1, 5, .inl zrow)), (q3, .inl (K.2.1, 5, .inl zrow)), (q4, .inl (K.2.1, 4, .inl zrow)), (q5, .inl (K.2.1, 4, .inl zrow)), (q6, .inl (K.2.1, 16, .inl zrow)), (q7, .inl (K.2.1, 16, .inl zrow))] := hD
  exact n_ret cx hr hlk (fun j => ([h0, q1, q2, q3, q4, q5, q6, q7] : List Nat).getD j 0) rfl hP hD hS ⟨(Nat.le_of_ble_eq_true rfl), (Nat.le_of_ble_eq_true rfl)⟩ dX0_init_55
def LX2 (K : nK) (u : Nat → Nat) : va_W := [(u 0, .inr (2, [.ref (u 1), .int 0])), (u 1, .inl (K.2.1, 100, .inl zrow))]
set_option maxHeartbeats 4000000 in
theorem c_X2_init (l : Launch) (K : nK) : Nc l K yX2_init cX2_init 1 1 12 1 100 (.inr (2, [.null, .int 0])) (fun u : Nat → Nat => u 0) (LX2 K) := by
  refine Nc_of (by decide) (by decide) rfl ?_
  intro p e s m below meth c ls h0 cx hr hlk hin hP hD hS hl
  have hA : ∀ q, s.heap.size ≤ q → va_A [(h0, .inr (2, [.null, .int 0]))] s.heap.size q := fun q h => Or.inr h
  refine lv_aload_n cx.1 cx.2.1 dX2_init_0 rfl (lv_at hl 0 rfl) ?_
  refine n_obj cx gw_34 hl.1 dX2_init_1 (by decide) (by decide) ?_
  refine lv_aload_n cx.1 cx.2.1 dX2_init_4 rfl (lv_at hl 0 rfl) ?_
  refine lv_bipush (v := (100 : Int32)) cx.1 cx.2.1 dX2_init_5 (by decide) ?_
  refine n_newa (N := 100) cx hP hD hS hA (by decide) (by decide) (Nat.le_of_ble_eq_true rfl) ⟨(Nat.le_of_ble_eq_true rfl), (Nat.le_of_ble_eq_true rfl)⟩ dX2_init_7 (fun q1 H hP hD hS => ?_)
  have hP : va_P K.1 gcl [(h0, .inr (2, [.null, .int 0])), (q1, .inl (K.2.1, 100, .inl zrow))] H := hP
  have hD : va_D (va_A [(h0, .inr (2, [.null, .int 0]))] s.heap.size) [(h0, .inr (2, [.null, .int 0])), (q1, .inl (K.2.1, 100, .inl zrow))] := hD
  refine n_putF (C := RX2) (T := TX2) (N := 2) (ci := 2) cx inlX2 tyX2 tyX2_ok nmX2 rfl hP hD hS 0 (by decide) gw_36 rfl rfl hin rfl rfl rfl (Nat.le_of_ble_eq_true rfl) dX2_init_9 (fun H locs hP hD hS => ?_)
  have hP : va_P K.1 gcl [(h0, .inr (2, [.ref q1, .int 0])), (q1, .inl (K.2.1, 100, .inl zrow))] H := hP
  have hD : va_D (va_A [(h0, .inr (2, [.null, .int 0]))] s.heap.size) [(h0, .inr (2, [.ref q1, .int 0])), (q1, .inl (K.2.1, 100, .inl zrow))] := hD
  exact n_ret cx hr hlk (fun j => ([h0, q1] : List Nat).getD j 0) rfl hP hD hS ⟨(Nat.le_of_ble_eq_true rfl), (Nat.le_of_ble_eq_true rfl)⟩ dX2_init_12
def LX9 (K : nK) (u : Nat → Nat) : va_W := [(u 0, .inr (8, [.ref (u 1), .ref (u 2), .ref (u 3), .ref (u 4), .int 0, .int 0, .int 0])), (u 1, .inl (K.2.1, 225, .inl zrow)), (u 2, .inl (K.2.1, 225, .inl zrow)), (u 3, .inl (K.2.1, 16, .inl zrow)), (u 4, .inl (K.2.1, 24, .inl zrow))]
set_option maxHeartbeats 4000000 in
theorem c_X9_init (l : Launch) (K : nK) : Nc l K yX9_init cX9_init 1 1 12 4 490 (.inr (8, [.null, .null, .null, .null, .int 0, .int 0, .int 0])) (fun u : Nat → Nat => u 0) (LX9 K) := by
  refine Nc_of (by decide) (by decide) rfl ?_
  intro p e s m below meth c ls h0 cx hr hlk hin hP hD hS hl
  have hA : ∀ q, s.heap.size ≤ q → va_A [(h0, .inr (8, [.null, .null, .null, .null, .int 0, .int 0, .int 0]))] s.heap.size q := fun q h => Or.inr h
  refine lv_aload_n cx.1 cx.2.1 dX9_init_0 rfl (lv_at hl 0 rfl) ?_
  refine n_obj cx gw_100 hl.1 dX9_init_1 (by decide) (by decide) ?_
  refine lv_aload_n cx.1 cx.2.1 dX9_init_4 rfl (lv_at hl 0 rfl) ?_
  refine lv_sipush (v := (225 : Int32)) cx.1 cx.2.1 dX9_init_5 (by decide) ?_
  refine n_newa (N := 225) cx hP hD hS hA (by decide) (by decide) (Nat.le_of_ble_eq_true rfl) ⟨(Nat.le_of_ble_eq_true rfl), (Nat.le_of_ble_eq_true rfl)⟩ dX9_init_8 (fun q1 H hP hD hS => ?_)
  have hP : va_P K.1 gcl [(h0, .inr (8, [.null, .null, .null, .null, .int 0, .int 0, .int 0])), (q1, .inl (K.2.1, 225, .inl zrow))] H := hP
  have hD : va_D (va_A [(h0, .inr (8, [.null, .null, .null, .null, .int 0, .int 0, .int 0]))] s.heap.size) [(h0, .inr (8, [.null, .null, .null, .null, .int 0, .int 0, .int 0])), (q1, .inl (K.2.1, 225, .inl zrow))] := hD
  refine n_putF (C := RX9) (T := TX9) (N := 7) (ci := 8) cx inlX9 tyX9 tyX9_ok nmX9 rfl hP hD hS 0 (by decide) gw_101 rfl rfl hin rfl rfl rfl (Nat.le_of_ble_eq_true rfl) dX9_init_10 (fun H locs hP hD hS => ?_)
  have hP : va_P K.1 gcl [(h0, .inr (8, [.ref q1, .null, .null, .null, .int 0, .int 0, .int 0])), (q1, .inl (K.2.1, 225, .inl zrow))] H := hP
  have hD : va_D (va_A [(h0, .inr (8, [.null, .null, .null, .null, .int 0, .int 0, .int 0]))] s.heap.size) [(h0, .inr (8, [.ref q1, .null, .null, .null, .int 0, .int 0, .int 0])), (q1, .inl (K.2.1, 225, .inl zrow))] := hD
  refine lv_aload_n cx.1 cx.2.1 dX9_init_13 rfl (lv_at hl 0 rfl) ?_
  refine lv_sipush (v := (225 : Int32)) cx.1 cx.2.1 dX9_init_14 (by decide) ?_
  refine n_newa (N := 225) cx hP hD hS hA (by decide) (by decide) (Nat.le_of_ble_eq_true rfl) ⟨(Nat.le_of_ble_eq_true rfl), (Nat.le_of_ble_eq_true rfl)⟩ dX9_init_17 (fun q2 H hP hD hS => ?_)
  have hP : va_P K.1 gcl [(h0, .inr (8, [.ref q1, .null, .null, .null, .int 0, .int 0, .int 0])), (q1, .inl (K.2.1, 225, .inl zrow)), (q2, .inl (K.2.1, 225, .inl zrow))] H := hP
  have hD : va_D (va_A [(h0, .inr (8, [.null, .null, .null, .null, .int 0, .int 0, .int 0]))] s.heap.size) [(h0, .inr (8, [.ref q1, .null, .null, .null, .int 0, .int 0, .int 0])), (q1, .inl (K.2.1, 225, .inl zrow)), (q2, .inl (K.2.1, 225, .inl zrow))] := hD
  refine n_putF (C := RX9) (T := TX9) (N := 7) (ci := 8) cx inlX9 tyX9 tyX9_ok nmX9 rfl hP hD hS 1 (by decide) gw_102 rfl rfl hin rfl rfl rfl (Nat.le_of_ble_eq_true rfl) dX9_init_19 (fun H locs hP hD hS => ?_)
  have hP : va_P K.1 gcl [(h0, .inr (8, [.ref q1, .ref q2, .null, .null, .int 0, .int 0, .int 0])), (q1, .inl (K.2.1, 225, .inl zrow)), (q2, .inl (K.2.1, 225, .inl zrow))] H := hP
  have hD : va_D (va_A [(h0, .inr (8, [.null, .null, .null, .null, .int 0, .int 0, .int 0]))] s.heap.size) [(h0, .inr (8, [.ref q1, .ref q2, .null, .null, .int 0, .int 0, .int 0])), (q1, .inl (K.2.1, 225, .inl zrow)), (q2, .inl (K.2.1, 225, .inl zrow))] := hD
  refine lv_aload_n cx.1 cx.2.1 dX9_init_22 rfl (lv_at hl 0 rfl) ?_
  refine lv_bipush (v := (16 : Int32)) cx.1 cx.2.1 dX9_init_23 (by decide) ?_
  refine n_newa (N := 16) cx hP hD hS hA (by decide) (by decide) (Nat.le_of_ble_eq_true rfl) ⟨(Nat.le_of_ble_eq_true rfl), (Nat.le_of_ble_eq_true rfl)⟩ dX9_init_25 (fun q3 H hP hD hS => ?_)
  have hP : va_P K.1 gcl [(h0, .inr (8, [.ref q1, .ref q2, .null, .null, .int 0, .int 0, .int 0])), (q1, .inl (K.2.1, 225, .inl zrow)), (q2, .inl (K.2.1, 225, .inl zrow)), (q3, .inl (K.2.1, 16, .inl zrow))] H := hP
  have hD : va_D (va_A [(h0, .inr (8, [.null, .null, .null, .null, .int 0, .int 0, .int 0]))] s.heap.size) [(h0, .inr (8, [.ref q1, .ref q2, .null, .null, .int 0, .int 0, .int 0])), (q1, .inl (K.2.1, 225, .inl zrow)), (q2, .inl (K.2.1, 225, .inl zrow)), (q3, .inl (K.2.1, 16, .inl zrow))] := hD
  refine n_putF (C := RX9) (T := TX9) (N := 7) (ci := 8) cx inlX9 tyX9 tyX9_ok nmX9 rfl hP hD hS 2 (by decide) gw_103 rfl rfl hin rfl rfl rfl (Nat.le_of_ble_eq_true rfl) dX9_init_27 (fun H locs hP hD hS => ?_)
  have hP : va_P K.1 gcl [(h0, .inr (8, [.ref q1, .ref q2, .ref q3, .null, .int 0, .int 0, .int 0])), (q1, .inl (K.2.1, 225, .inl zrow)), (q2, .inl (K.2.1, 225, .inl zrow)), (q3, .inl (K.2.1, 16, .inl zrow))] H := hP
  have hD : va_D (va_A [(h0, .inr (8, [.null, .null, .null, .null, .int 0, .int 0, .int 0]))] s.heap.size) [(h0, .inr (8, [.ref q1, .ref q2, .ref q3, .null, .int 0, .int 0, .int 0])), (q1, .inl (K.2.1, 225, .inl zrow)), (q2, .inl (K.2.1, 225, .inl zrow)), (q3, .inl (K.2.1, 16, .inl zrow))] := hD
  refine lv_aload_n cx.1 cx.2.1 dX9_init_30 rfl (lv_at hl 0 rfl) ?_
  refine lv_bipush (v := (24 : Int32)) cx.1 cx.2.1 dX9_init_31 (by decide) ?_
  refine n_newa (N := 24) cx hP hD hS hA (by decide) (by decide) (Nat.le_of_ble_eq_true rfl) ⟨(Nat.le_of_ble_eq_true rfl), (Nat.le_of_ble_eq_true rfl)⟩ dX9_init_33 (fun q4 H hP hD hS => ?_)
  have hP : va_P K.1 gcl [(h0, .inr (8, [.ref q1, .ref q2, .ref q3, .null, .int 0, .int 0, .int 0])), (q1, .inl (K.2.1, 225, .inl zrow)), (q2, .inl (K.2.1, 225, .inl zrow)), (q3, .inl (K.2.1, 16, .inl zrow)), (q4, .inl (K.2.1, 24, .inl zrow))] H := hP
  have hD : va_D (va_A [(h0, .inr (8, [.null, .null, .null, .null, .int 0, .int 0, .int 0]))] s.heap.size) [(h0, .inr (8, [.ref q1, .ref q2, .ref q3, .null, .int 0, .int 0, .int 0])), (q1, .inl (K.2.1, 225, .inl zrow)), (q2, .inl (K.2.1, 225, .inl zrow)), (q3, .inl (K.2.1, 16, .inl zrow)), (q4, .inl (K.2.1, 24, .inl zrow))] := hD
  refine n_putF (C := RX9) (T := TX9) (N := 7) (ci := 8) cx inlX9 tyX9 tyX9_ok nmX9 rfl hP hD hS 3 (by decide) gw_104 rfl rfl hin rfl rfl rfl (Nat.le_of_ble_eq_true rfl) dX9_init_35 (fun H locs hP hD hS => ?_)
  have hP : va_P K.1 gcl [(h0, .inr (8, [.ref q1, .ref q2, .ref q3, .ref q4, .int 0, .int 0, .int 0])), (q1, .inl (K.2.1, 225, .inl zrow)), (q2, .inl (K.2.1, 225, .inl zrow)), (q3, .inl (K.2.1, 16, .inl zrow)), (q4, .inl (K.2.1, 24, .inl zrow))] H := hP
  have hD : va_D (va_A [(h0, .inr (8, [.null, .null, .null, .null, .int 0, .int 0, .int 0]))] s.heap.size) [(h0, .inr (8, [.ref q1, .ref q2, .ref q3, .ref q4, .int 0, .int 0, .int 0])), (q1, .inl (K.2.1, 225, .inl zrow)), (q2, .inl (K.2.1, 225, .inl zrow)), (q3, .inl (K.2.1, 16, .inl zrow)), (q4, .inl (K.2.1, 24, .inl zrow))] := hD
  exact n_ret cx hr hlk (fun j => ([h0, q1, q2, q3, q4] : List Nat).getD j 0) rfl hP hD hS ⟨(Nat.le_of_ble_eq_true rfl), (Nat.le_of_ble_eq_true rfl)⟩ dX9_init_38
def LX7 (K : nK) (u : Nat → Nat) : va_W := [(u 0, .inr (6, [.ref (u 1), .ref (u 2), .ref (u 3), .int 0, .int 0, .int 0, .int 0, .int 0, .int 0])), (u 1, .inr (7, [.ref (u 4), .ref (u 5), .ref (u 6), .ref (u 7), .int 0])), (u 2, .inr (1, [.ref (u 8), .ref (u 9), .ref (u 10), .ref (u 11), .ref (u 12), .ref (u 13), .int 0])), (u 3, .inr (0, [.ref (u 14), .ref (u 15), .ref (u 16), .ref (u 17), .ref (u 18), .ref (u 19), .ref (u 20)])), (u 4, .inl (K.2.1, 16, .inl zrow)), (u 5, .inl (K.2.1, 16, .inl zrow)), (u 6, .inl (K.2.1, 16, .inl zrow)), (u 7, .inl (K.2.1, 16, .inl zrow)), (u 8, .inl (K.2.1, 8, .inl zrow)), (u 9, .inl (K.2.1, 8, .inl zrow)), (u 10, .inl (K.2.1, 8, .inl zrow)), (u 11, .inl (K.2.1, 8, .inl zrow)), (u 12, .inl (K.2.1, 8, .inl zrow)), (u 13, .inl (K.2.1, 8, .inl zrow)), (u 14, .inl (K.2.1, 5, .inl zrow)), (u 15, .inl (K.2.1, 5, .inl zrow)), (u 16, .inl (K.2.1, 5, .inl zrow)), (u 17, .inl (K.2.1, 4, .inl zrow)), (u 18, .inl (K.2.1, 4, .inl zrow)), (u 19, .inl (K.2.1, 16, .inl zrow)), (u 20, .inl (K.2.1, 16, .inl zrow))]
set_option maxHeartbeats 4000000 in
set_option maxRecDepth 100000 in
theorem c_X7_init (l : Launch) (K : nK) : Nc l K yX7_init cX7_init 1 2 32 20 186 (.inr (6, [.null, .null, .null, .int 0, .int 0, .int 0, .int 0, .int 0, .int 0])) (fun u : Nat → Nat => u 0) (LX7 K) := by
  refine Nc_of (by decide) (by decide) rfl ?_
  intro p e s m below meth c ls h0 cx hr hlk hin hP hD hS hl
  have hA : ∀ q, s.heap.size ≤ q → va_A [(h0, .inr (6, [.null, .null, .null, .int 0, .int 0, .int 0, .int 0, .int 0, .int 0]))] s.heap.size q := fun q h => Or.inr h
  refine lv_aload_n cx.1 cx.2.1 dX7_init_0 rfl (lv_at hl 0 rfl) ?_
  refine n_obj cx gw_39 hl.1 dX7_init_1 (by decide) (by decide) ?_
  refine lv_aload_n cx.1 cx.2.1 dX7_init_4 rfl (lv_at hl 0 rfl) ?_
  refine n_new (C := RX8) (T := TX8) (N := 5) (ci := 7) (fs := [.null, .null, .null, .null, .int 0]) cx inlX8 tyX8 tyX8_ok gw_40 gw_41 gw_42 rfl (fun j hj => by rcases (show j = 0 ∨ j = 1 ∨ j = 2 ∨ j = 3 ∨ j = 4 by omega) with rfl | rfl | rfl | rfl | rfl <;> rfl) hP hD hS hA ⟨(Nat.le_of_ble_eq_true rfl), (Nat.le_of_ble_eq_true rfl)⟩ dX7_init_5 (fun q1 H hP hD hS => ?_)
  refine lv_dup cx.1 cx.2.1 dX7_init_8 rfl ?_
  refine n_callN (rest := [.ref q1, .ref h0]) cx (c_X8_init l K) (List.mem_of_getElem? (i := 2) rfl) gy_X8_init gi_X8_init rfl hP hD hS hA ⟨(Nat.le_of_ble_eq_true rfl), (Nat.le_of_ble_eq_true rfl)⟩ ⟨(Nat.le_of_ble_eq_true rfl), (Nat.le_of_ble_eq_true rfl)⟩ hl.1 (Nat.le_of_ble_eq_true rfl) dX7_init_9 (fun u1 H locs hu hP' hD' hS => ?_)
  subst hu
  have hP : va_P K.1 gcl ((h0, .inr (6, [.null, .null, .null, .int 0, .int 0, .int 0, .int 0, .int 0, .int 0])) :: (LX8 K u1)) H := hP'
  have hD : va_D (va_A [(h0, .inr (6, [.null, .null, .null, .int 0, .int 0, .int 0, .int 0, .int 0, .int 0]))] s.heap.size) ((h0, .inr (6, [.null, .null, .null, .int 0, .int 0, .int 0, .int 0, .int 0, .int 0])) :: (LX8 K u1)) := hD'
  refine n_putF (C := RX7) (T := TX7) (N := 9) (ci := 6) cx inlX7 tyX7 tyX7_ok nmX7 rfl hP hD hS 0 (by decide) gw_43 rfl rfl hin rfl rfl rfl (Nat.le_of_ble_eq_true rfl) dX7_init_12 (fun H locs hP hD hS => ?_)
  have hP : va_P K.1 gcl ((h0, .inr (6, [.ref (u1 0), .null, .null, .int 0, .int 0, .int 0, .int 0, .int 0, .int 0])) :: (LX8 K u1)) H := hP
  have hD : va_D (va_A [(h0, .inr (6, [.null, .null, .null, .int 0, .int 0, .int 0, .int 0, .int 0, .int 0]))] s.heap.size) ((h0, .inr (6, [.ref (u1 0), .null, .null, .int 0, .int 0, .int 0, .int 0, .int 0, .int 0])) :: (LX8 K u1)) := hD
  refine lv_aload_n cx.1 cx.2.1 dX7_init_15 rfl (lv_at hl 0 rfl) ?_
  refine n_new (C := RX1) (T := TX1) (N := 7) (ci := 1) (fs := [.null, .null, .null, .null, .null, .null, .int 0]) cx inlX1 tyX1 tyX1_ok gw_44 gw_45 gw_46 rfl (fun j hj => by rcases (show j = 0 ∨ j = 1 ∨ j = 2 ∨ j = 3 ∨ j = 4 ∨ j = 5 ∨ j = 6 by omega) with rfl | rfl | rfl | rfl | rfl | rfl | rfl <;> rfl) hP hD hS hA ⟨(Nat.le_of_ble_eq_true rfl), (Nat.le_of_ble_eq_true rfl)⟩ dX7_init_16 (fun q2 H hP hD hS => ?_)
  refine lv_dup cx.1 cx.2.1 dX7_init_19 rfl ?_
  refine n_callN (rest := [.ref q2, .ref h0]) cx (c_X1_init l K) (List.mem_of_getElem? (i := 3) rfl) gy_X1_init gi_X1_init rfl hP hD hS hA ⟨(Nat.le_of_ble_eq_true rfl), (Nat.le_of_ble_eq_true rfl)⟩ ⟨(Nat.le_of_ble_eq_true rfl), (Nat.le_of_ble_eq_true rfl)⟩ hl.1 (Nat.le_of_ble_eq_true rfl) dX7_init_20 (fun u2 H locs hu hP' hD' hS => ?_)
  subst hu
  have hP : va_P K.1 gcl ((h0, .inr (6, [.ref (u1 0), .null, .null, .int 0, .int 0, .int 0, .int 0, .int 0, .int 0])) :: (LX8 K u1 ++ LX1 K u2)) H := hP'
  have hD : va_D (va_A [(h0, .inr (6, [.null, .null, .null, .int 0, .int 0, .int 0, .int 0, .int 0, .int 0]))] s.heap.size) ((h0, .inr (6, [.ref (u1 0), .null, .null, .int 0, .int 0, .int 0, .int 0, .int 0, .int 0])) :: (LX8 K u1 ++ LX1 K u2)) := hD'
  refine n_putF (C := RX7) (T := TX7) (N := 9) (ci := 6) cx inlX7 tyX7 tyX7_ok nmX7 rfl hP hD hS 1 (by decide) gw_47 rfl rfl hin rfl rfl rfl (Nat.le_of_ble_eq_true rfl) dX7_init_23 (fun H locs hP hD hS => ?_)
  have hP : va_P K.1 gcl ((h0, .inr (6, [.ref (u1 0), .ref (u2 0), .null, .int 0, .int 0, .int 0, .int 0, .int 0, .int 0])) :: (LX8 K u1 ++ LX1 K u2)) H := hP
  have hD : va_D (va_A [(h0, .inr (6, [.null, .null, .null, .int 0, .int 0, .int 0, .int 0, .int 0, .int 0]))] s.heap.size) ((h0, .inr (6, [.ref (u1 0), .ref (u2 0), .null, .int 0, .int 0, .int 0, .int 0, .int 0, .int 0])) :: (LX8 K u1 ++ LX1 K u2)) := hD
  refine lv_aload_n cx.1 cx.2.1 dX7_init_26 rfl (lv_at hl 0 rfl) ?_
  refine n_new (C := RX0) (T := TX0) (N := 7) (ci := 0) (fs := [.null, .null, .null, .null, .null, .null, .null]) cx inlX0 tyX0 tyX0_ok gw_48 gw_49 gw_50 rfl (fun j hj => by rcases (show j = 0 ∨ j = 1 ∨ j = 2 ∨ j = 3 ∨ j = 4 ∨ j = 5 ∨ j = 6 by omega) with rfl | rfl | rfl | rfl | rfl | rfl | rfl <;> rfl) hP hD hS hA ⟨(Nat.le_of_ble_eq_true rfl), (Nat.le_of_ble_eq_true rfl)⟩ dX7_init_27 (fun q3 H hP hD hS => ?_)
  refine lv_dup cx.1 cx.2.1 dX7_init_30 rfl ?_
  refine n_callN (rest := [.ref q3, .ref h0]) cx (c_X0_init l K) (List.mem_of_getElem? (i := 4) rfl) gy_X0_init gi_X0_init rfl hP hD hS hA ⟨(Nat.le_of_ble_eq_true rfl), (Nat.le_of_ble_eq_true rfl)⟩ ⟨(Nat.le_of_ble_eq_true rfl), (Nat.le_of_ble_eq_true rfl)⟩ hl.1 (Nat.le_of_ble_eq_true rfl) dX7_init_31 (fun u3 H locs hu hP' hD' hS => ?_)
  subst hu
  have hP : va_P K.1 gcl ((h0, .inr (6, [.ref (u1 0), .ref (u2 0), .null, .int 0, .int 0, .int 0, .int 0, .int 0, .int 0])) :: (LX8 K u1 ++ LX1 K u2 ++ LX0 K u3)) H := hP'
  have hD : va_D (va_A [(h0, .inr (6, [.null, .null, .null, .int 0, .int 0, .int 0, .int 0, .int 0, .int 0]))] s.heap.size) ((h0, .inr (6, [.ref (u1 0), .ref (u2 0), .null, .int 0, .int 0, .int 0, .int 0, .int 0, .int 0])) :: (LX8 K u1 ++ LX1 K u2 ++ LX0 K u3)) := hD'
  refine n_putF (C := RX7) (T := TX7) (N := 9) (ci := 6) cx inlX7 tyX7 tyX7_ok nmX7 rfl hP hD hS 2 (by decide) gw_51 rfl rfl hin rfl rfl rfl (Nat.le_of_ble_eq_true rfl) dX7_init_34 (fun H locs hP hD hS => ?_)
  have hP : va_P K.1 gcl ((h0, .inr (6, [.ref (u1 0), .ref (u2 0), .ref (u3 0), .int 0, .int 0, .int 0, .int 0, .int 0, .int 0])) :: (LX8 K u1 ++ LX1 K u2 ++ LX0 K u3)) H := hP
  have hD : va_D (va_A [(h0, .inr (6, [.null, .null, .null, .int 0, .int 0, .int 0, .int 0, .int 0, .int 0]))] s.heap.size) ((h0, .inr (6, [.ref (u1 0), .ref (u2 0), .ref (u3 0), .int 0, .int 0, .int 0, .int 0, .int 0, .int 0])) :: (LX8 K u1 ++ LX1 K u2 ++ LX0 K u3)) := hD
  have hP9 := hP.sub (ws' := LX7 K (fun j => ([h0, u1 0, u2 0, u3 0, u1 1, u1 2, u1 3, u1 4, u2 1, u2 2, u2 3, u2 4, u2 5, u2 6, u3 1, u3 2, u3 3, u3 4, u3 5, u3 6, u3 7] : List Nat).getD j 0)) [0, 1, 6, 13, 2, 3, 4, 5, 7, 8, 9, 10, 11, 12, 14, 15, 16, 17, 18, 19, 20] rfl
  have hD9 := hD.sub (ws' := LX7 K (fun j => ([h0, u1 0, u2 0, u3 0, u1 1, u1 2, u1 3, u1 4, u2 1, u2 2, u2 3, u2 4, u2 5, u2 6, u3 1, u3 2, u3 3, u3 4, u3 5, u3 6, u3 7] : List Nat).getD j 0)) [0, 1, 6, 13, 2, 3, 4, 5, 7, 8, 9, 10, 11, 12, 14, 15, 16, 17, 18, 19, 20] (by decide) rfl
  exact n_ret cx hr hlk (fun j => ([h0, u1 0, u2 0, u3 0, u1 1, u1 2, u1 3, u1 4, u2 1, u2 2, u2 3, u2 4, u2 5, u2 6, u3 1, u3 2, u3 3, u3 4, u3 5, u3 6, u3 7] : List Nat).getD j 0) rfl hP9 hD9 hS ⟨(Nat.le_of_ble_eq_true rfl), (Nat.le_of_ble_eq_true rfl)⟩ dX7_init_37
def LX4 (K : nK) (u : Nat → Nat) : va_W := (u 0, .inr (4, [.ref (u 1)])) :: LX9 K (fun j => u (j + 1))
set_option maxHeartbeats 4000000 in
set_option maxRecDepth 100000 in
theorem c_X4_init (l : Launch) (K : nK) : Nc l K yX4_init cX4_init 1 2 32 5 497 (.inr (4, [.null])) (fun u : Nat → Nat => u 0) (LX4 K) := by
  refine Nc_of (by decide) (by decide) rfl ?_
  intro p e s m below meth c ls h0 cx hr hlk hin hP hD hS hl
  have hA : ∀ q, s.heap.size ≤ q → va_A [(h0, .inr (4, [.null]))] s.heap.size q := fun q h => Or.inr h
  refine lv_aload_n cx.1 cx.2.1 dX4_init_0 rfl (lv_at hl 0 rfl) ?_
  refine n_obj cx gw_93 hl.1 dX4_init_1 (by decide) (by decide) ?_
  refine lv_aload_n cx.1 cx.2.1 dX4_init_4 rfl (lv_at hl 0 rfl) ?_
  refine n_new (C := RX9) (T := TX9) (N := 7) (ci := 8) (fs := [.null, .null, .null, .null, .int 0, .int 0, .int 0]) cx inlX9 tyX9 tyX9_ok gw_94 gw_95 gw_96 rfl (fun j hj => by rcases (show j = 0 ∨ j = 1 ∨ j = 2 ∨ j = 3 ∨ j = 4 ∨ j = 5 ∨ j = 6 by omega) with rfl | rfl | rfl | rfl | rfl | rfl | rfl <;> rfl) hP hD hS hA ⟨(Nat.le_of_ble_eq_true rfl), (Nat.le_of_ble_eq_true rfl)⟩ dX4_init_5 (fun q1 H hP hD hS => ?_)
  refine lv_dup cx.1 cx.2.1 dX4_init_8 rfl ?_
  refine n_callN (rest := [.ref q1, .ref h0]) cx (c_X9_init l K) (List.mem_of_getElem? (i := 8) rfl) gy_X9_init gi_X9_init rfl hP hD hS hA ⟨(Nat.le_of_ble_eq_true rfl), (Nat.le_of_ble_eq_true rfl)⟩ ⟨(Nat.le_of_ble_eq_true rfl), (Nat.le_of_ble_eq_true rfl)⟩ hl.1 (Nat.le_of_ble_eq_true rfl) dX4_init_9 (fun u1 H locs hu hP' hD' hS => ?_)
  subst hu
  have hP : va_P K.1 gcl ((h0, .inr (4, [.null])) :: (LX9 K u1)) H := hP'
  have hD : va_D (va_A [(h0, .inr (4, [.null]))] s.heap.size) ((h0, .inr (4, [.null])) :: (LX9 K u1)) := hD'
  refine n_putF (C := RX4) (T := TX4) (N := 1) (ci := 4) cx inlX4 tyX4 tyX4_ok nmX4 rfl hP hD hS 0 (by decide) gw_97 rfl rfl hin rfl rfl rfl (Nat.le_of_ble_eq_true rfl) dX4_init_12 (fun H locs hP hD hS => ?_)
  have hP : va_P K.1 gcl ((h0, .inr (4, [.ref (u1 0)])) :: (LX9 K u1)) H := hP
  have hD : va_D (va_A [(h0, .inr (4, [.null]))] s.heap.size) ((h0, .inr (4, [.ref (u1 0)])) :: (LX9 K u1)) := hD
  exact n_ret cx hr hlk (fun j => match j with | 0 => h0 | j + 1 => u1 j) rfl hP hD hS ⟨(Nat.le_of_ble_eq_true rfl), (Nat.le_of_ble_eq_true rfl)⟩ dX4_init_15
