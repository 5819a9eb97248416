/-! ===== constructors with rows of States ===== -/
/-- an entry of a State whose cells' addresses u tells -/
def eS (K : nK) (u : Nat → Nat) (j : Nat) : va_E := gEs (K.1, u, kc K, 0) 0 j zrow
theorem LX7_eq {K : nK} {u : Nat → Nat} : LX7 K u = (List.range 21).map (fun j => (u j, eS K u j)) := rfl
/-- n States, one behind the other -/
def SL (K : nK) (us : Nat → Nat → Nat) (n : Nat) : va_W := (List.range (21 * n)).map (fun x => (us (x / 21) (x % 21), eS K (us (x / 21)) (x % 21)))
theorem SL_0 {K : nK} {us : Nat → Nat → Nat} : SL K us 0 = [] := rfl
theorem SL_snoc {K : nK} {us : Nat → Nat → Nat} {n : Nat} {u : Nat → Nat} : SL K us n ++ LX7 K u = SL K (fun i => if i = n then u else us i) (n + 1) := by
  unfold SL
  rw [LX7_eq, show 21 * (n + 1) = 21 * n + 21 by omega, List.range_add, List.map_append, List.map_map]
  congr 1
  · refine List.map_congr_left (fun x hx => ?_)
    have hx := List.mem_range.mp hx
    show _ = ((if x / 21 = n then u else us (x / 21)) (x % 21), eS K (if x / 21 = n then u else us (x / 21)) (x % 21))
    rw [if_neg (by omega)]
  · refine List.map_congr_left (fun j hj => ?_)
    have hj := List.mem_range.mp hj
    show _ = ((if (21 * n + j) / 21 = n then u else us ((21 * n + j) / 21)) ((21 * n + j) % 21), eS K (if (21 * n + j) / 21 = n then u else us ((21 * n + j) / 21)) ((21 * n + j) % 21))
    rw [if_pos (by omega), show (21 * n + j) % 21 = j by omega]
theorem SL_len {K : nK} {us : Nat → Nat → Nat} {n : Nat} : (SL K us n).length = 21 * n := by
  unfold SL
  rw [List.length_map, List.length_range]
theorem SL_get {K : nK} {us : Nat → Nat → Nat} {n x : Nat} (h : x < 21 * n) : (SL K us n)[x]? = some (us (x / 21) (x % 21), eS K (us (x / 21)) (x % 21)) := by
  unfold SL
  rw [List.getElem?_map, List.getElem?_range h]
  rfl
/-- a row of States -/
abbrev rS (K : nK) (n : Nat) (f : Nat → Option Nat) : va_E := .inl (K.2.2.2.2, n, .inr (.inr (.inr (.inr f))))
def fS (us : Nat → Nat → Nat) (n : Nat) : Nat → Option Nat := fun j => if j < n then some (us j 0) else none
theorem fS_up {us : Nat → Nat → Nat} {i : Nat} {u : Nat → Nat} {q : Nat} (hq : u 0 = q) : va_up (fS us i) i (some q) = fS (fun j => if j = i then u else us j) (i + 1) := by
  funext j
  unfold va_up fS
  by_cases h : j = i
  · rw [if_pos h, if_pos (by omega)]
    show some q = some ((if j = i then u else us j) 0)
    rw [if_pos h, hq]
  · show (if j = i then some q else if j < i then some (us j 0) else none) = if j < i + 1 then some ((if j = i then u else us j) 0) else none
    rw [if_neg h, if_neg h]
    by_cases h2 : j < i
    · rw [if_pos h2, if_pos (by omega)]
    · rw [if_neg h2, if_neg (by omega)]
def LX3 (K : nK) (x : Nat × Nat × (Nat → Nat → Nat)) : va_W := (x.1, .inr (3, [.ref x.2.1, .int 0, .int 0])) :: (x.2.1, rS K 14 (fS x.2.2 14)) :: SL K x.2.2 14
def LX6 (K : nK) (x : Nat × Nat × Nat × (Nat → Nat → Nat)) : va_W := (x.1, .inr (5, [.ref x.2.1, .ref x.2.2.1])) :: (x.2.1, rS K 2 (fS x.2.2.2 2)) :: (x.2.2.1, .inl (K.2.1, 2, .inl zrow)) :: SL K x.2.2.2 2
set_option maxHeartbeats 4000000 in
set_option maxRecDepth 100000 in
theorem c_X3_init (l : Launch) (K : nK) : Nc l K yX3_init cX3_init 2 3 52 295 2744 (.inr (3, [.null, .int 0, .int 0])) (fun x : Nat × Nat × (Nat → Nat → Nat) => x.1) (LX3 K) := by
  refine Nc_of (by decide) (by decide) rfl ?_
  intro p e s m below meth c ls h0 cx hr hlk hin hP hD hS hl
  have hA : ∀ q, s.heap.size ≤ q → va_A [(h0, .inr (3, [.null, .int 0, .int 0]))] s.heap.size q := fun q h => Or.inr h
  refine lv_aload_n cx.1 cx.2.1 dX3_init_0 rfl (lv_at hl 0 rfl) ?_
  refine n_obj cx gw_81 hl.1 dX3_init_1 (by decide) (by decide) ?_
  refine lv_aload_n cx.1 cx.2.1 dX3_init_4 rfl (lv_at hl 0 rfl) ?_
  refine lv_bipush (v := (14 : Int32)) cx.1 cx.2.1 dX3_init_5 (by decide) ?_
  refine n_newq (N := 14) cx gw_82 hP hD hS hA (by decide) (by decide) (Nat.le_of_ble_eq_true rfl) ⟨(Nat.le_of_ble_eq_true rfl), (Nat.le_of_ble_eq_true rfl)⟩ dX3_init_7 (fun qa H hP hD hS => ?_)
  have hP : va_P K.1 gcl [(h0, .inr (3, [.null, .int 0, .int 0])), (qa, rS K 14 (fun _ => none))] H := hP
  have hD : va_D (va_A [(h0, .inr (3, [.null, .int 0, .int 0]))] s.heap.size) [(h0, .inr (3, [.null, .int 0, .int 0])), (qa, rS K 14 (fun _ => none))] := hD
  refine n_putF (C := RX3) (T := TX3) (N := 3) (ci := 3) cx inlX3 tyX3 tyX3_ok nmX3 rfl hP hD hS 0 (by decide) gw_83 rfl rfl hin rfl rfl rfl (Nat.le_of_ble_eq_true rfl) dX3_init_10 (fun H locs hP hD hS => ?_)
  have hf0 : (fun _ => none : Nat → Option Nat) = fS (fun _ _ => 0) 0 := by funext j; unfold fS; rw [if_neg (by omega)]
  rw [hf0] at hP hD
  have hP : va_P K.1 gcl ((h0, .inr (3, [.ref qa, .int 0, .int 0])) :: (qa, rS K 14 (fS (fun _ _ => 0) 0)) :: SL K (fun _ _ => 0) 0) H := hP
  have hD : va_D (va_A [(h0, .inr (3, [.null, .int 0, .int 0]))] s.heap.size) ((h0, .inr (3, [.ref qa, .int 0, .int 0])) :: (qa, rS K 14 (fS (fun _ _ => 0) 0)) :: SL K (fun _ _ => 0) 0) := hD
  refine lv_iconst (v := nI 0) cx.1 cx.2.1 dX3_init_13 (by decide) ?_
  refine lv_istore_n (lv' := [(1, .int (nI 0)), (0, .ref h0)]) cx.1 cx.2.1 dX3_init_14 rfl hl (by decide) rfl (fun ls hl => ?_)
  have loop : ∀ (k i : Nat) (us : Nat → Nat → Nat) (H : Heap) (locs : List Loc) (ls : Array Slot) (cells slots : Nat), i + k = 14 → cells = 1 + 21 * i → slots = 14 + 195 * i → lv_has ls 2 [(1, .int (nI i)), (0, .ref h0)] → va_P K.1 gcl ((h0, .inr (3, [.ref qa, .int 0, .int 0])) :: (qa, rS K 14 (fS us i)) :: SL K us i) H → va_D (va_A [(h0, .inr (3, [.null, .int 0, .int 0]))] s.heap.size) ((h0, .inr (3, [.ref qa, .int 0, .int 0])) :: (qa, rS K 14 (fS us i)) :: SL K us i) → va_S (va_A [(h0, .inr (3, [.null, .int 0, .int 0]))] s.heap.size) s.heap H locs → W p l e (gRx 3 52 295 2744) s m #[.ref h0] below meth c H locs cells slots (MQ below (nQ K h0 (.inr (3, [.null, .int 0, .int 0])) (fun x : Nat × Nat × (Nat → Nat → Nat) => x.1) (LX3 K) s.heap.size) #[.ref h0] s 295 2744 (va_A [(h0, .inr (3, [.null, .int 0, .int 0]))] s.heap.size)) (F0 m 15 ls []) := by
    intro k
    induction k with
    | zero =>
      intro i us H locs ls cells slots hi hc hs hl hP hD hS
      have hi : i = 14 := by omega
      subst hi hc hs
      refine lv_iload_n cx.1 cx.2.1 dX3_init_15 rfl (lv_at hl 0 rfl) ?_
      refine lv_bipush (v := nI 14) cx.1 cx.2.1 dX3_init_16 (by decide) ?_
      refine lv_icmp_ge (tgt := 40) cx.1 cx.2.1 dX3_init_18 (by decide) (fun hc => ?_) (fun hc => absurd (by decide) hc)
      exact n_ret cx hr hlk (h0, qa, us) rfl hP hD hS ⟨(Nat.le_of_ble_eq_true rfl), (Nat.le_of_ble_eq_true rfl)⟩ dX3_init_40
    | succ k ih =>
      intro i us H locs ls cells slots hi hc hs hl hP hD hS
      subst hc hs
      refine lv_iload_n cx.1 cx.2.1 dX3_init_15 rfl (lv_at hl 0 rfl) ?_
      refine lv_bipush (v := nI 14) cx.1 cx.2.1 dX3_init_16 (by decide) ?_
      refine lv_icmp_ge (tgt := 40) cx.1 cx.2.1 dX3_init_18 (by decide) (fun hc => absurd ((nIle (by omega) (by omega)).mp hc) (by omega)) (fun hc => ?_)
      refine lv_aload_n cx.1 cx.2.1 dX3_init_21 rfl (lv_at hl 1 rfl) ?_
      refine va_get (D := K.1) (C := RX3) (T := TX3) (N := 3) (ref := RX3) cx.1 cx.2.1 (Ts := wsL_law) cx.2.2.2.2.ts inlX3 cx.2.2.2.1 cx.2.2.2.2.1 hP 0 (fs := [.ref qa, .int 0, .int 0]) rfl rfl 0 (by decide) (cx.2.2.2.2.ts _ gw_83) (fun x hx => hx) (v := .ref qa) rfl dX3_init_22 ?_
      refine lv_iload_n cx.1 cx.2.1 dX3_init_25 rfl (lv_at hl 0 rfl) ?_
      refine n_new (C := RX7) (T := TX7) (N := 9) (ci := 6) (fs := [.null, .null, .null, .int 0, .int 0, .int 0, .int 0, .int 0, .int 0]) cx inlX7 tyX7 tyX7_ok gw_82 gw_15 gw_16 rfl (fun j hj => by rcases (show j = 0 ∨ j = 1 ∨ j = 2 ∨ j = 3 ∨ j = 4 ∨ j = 5 ∨ j = 6 ∨ j = 7 ∨ j = 8 by omega) with rfl | rfl | rfl | rfl | rfl | rfl | rfl | rfl | rfl <;> rfl) hP hD hS hA ⟨by show _ + 1 ≤ 295; omega, by show _ + 9 ≤ 2744; omega⟩ dX3_init_26 (fun q H hP hD hS => ?_)
      refine lv_dup cx.1 cx.2.1 dX3_init_29 rfl ?_
      refine n_callN (rest := [.ref q, .int (nI i), .ref qa]) cx (c_X7_init l K) (List.mem_of_getElem? (i := 5) rfl) gy_X7_init gi_X7_init rfl hP hD hS hA ⟨(Nat.le_of_ble_eq_true rfl), (Nat.le_of_ble_eq_true rfl)⟩ ⟨by show _ + 20 ≤ 295; omega, by show _ + 186 ≤ 2744; omega⟩ hl.1 (Nat.le_of_ble_eq_true rfl) dX3_init_30 (fun u H locs hu hP' hD' hS => ?_)
      have hu : u 0 = q := hu
      have e1 : ((h0, .inr (3, [.ref qa, .int 0, .int 0])) :: (qa, rS K 14 (fS us i)) :: SL K us i) ++ LX7 K u = ((h0, .inr (3, [.ref qa, .int 0, .int 0])) :: (qa, rS K 14 (fS us i)) :: SL K (fun j => if j = i then u else us j) (i + 1)) := by rw [← SL_snoc]; rfl
      rw [e1] at hP' hD'
      have hin : vp_in (nI i) 14 := vp_in_nI (by omega) (by omega)
      have hv : ((h0, .inr (3, [.ref qa, .int 0, .int 0])) :: (qa, rS K 14 (fS us i)) :: SL K (fun j => if j = i then u else us j) (i + 1) : va_W)[2 + 21 * i]? = some (q, .inr (6, [.ref (u 1), .ref (u 2), .ref (u 3), .int 0, .int 0, .int 0, .int 0, .int 0, .int 0])) := by
        rw [show 2 + 21 * i = 21 * i + 1 + 1 by omega]
        show (SL K (fun j => if j = i then u else us j) (i + 1))[21 * i]? = _
        rw [SL_get (by omega), show 21 * i / 21 = i by omega, show 21 * i % 21 = 0 by omega, if_pos rfl, ← hu]
        rfl
      refine va_astq (D := K.1) (A := va_A [(h0, .inr (3, [.null, .int 0, .int 0]))] s.heap.size) (r := (RX7, TX7, 9)) (f := fS us i) cx.1 cx.2.1 cx.2.2.2.2.1 hP' hD' hS 1 1 (2 + 21 * i) 6 rfl rfl hv rfl hin dX3_init_33 (fun H locs hP hD hS => ?_)
      rw [show (nI i).toNatClampNeg = i from nI_c (by omega), fS_up hu] at hP hD
      have hP : va_P K.1 gcl ((h0, .inr (3, [.ref qa, .int 0, .int 0])) :: (qa, rS K 14 (fS (fun j => if j = i then u else us j) (i + 1))) :: SL K (fun j => if j = i then u else us j) (i + 1)) H := hP
      have hD : va_D (va_A [(h0, .inr (3, [.null, .int 0, .int 0]))] s.heap.size) ((h0, .inr (3, [.ref qa, .int 0, .int 0])) :: (qa, rS K 14 (fS (fun j => if j = i then u else us j) (i + 1))) :: SL K (fun j => if j = i then u else us j) (i + 1)) := hD
      obtain ⟨y, ey⟩ : ∃ y : Int32, y = nI i + 1 := ⟨_, rfl⟩
      refine lv_iinc (v := y) (lv' := [(1, .int y), (0, .ref h0)]) cx.1 cx.2.1 dX3_init_34 hl (k := 0) rfl (by rw [ey]; rfl) (by decide) rfl (fun ls hl => ?_)
      refine lv_goto (tgt := 15) cx.1 cx.2.1 dX3_init_37 (by decide) ?_
      rw [ey, nI_s] at hl
      exact ih (i + 1) (fun j => if j = i then u else us j) H locs ls _ _ (by omega) (by omega) (by omega) hl hP hD hS
  exact loop 14 0 (fun _ _ => 0) H locs ls _ _ rfl rfl rfl hl hP hD hS
set_option maxHeartbeats 4000000 in
set_option maxRecDepth 100000 in
theorem c_X6_init (l : Launch) (K : nK) : Nc l K yX6_init cX6_init 2 3 52 44 394 (.inr (5, [.null, .null])) (fun x : Nat × Nat × Nat × (Nat → Nat → Nat) => x.1) (LX6 K) := by
  refine Nc_of (by decide) (by decide) rfl ?_
  intro p e s m below meth c ls h0 cx hr hlk hin hP hD hS hl
  have hA : ∀ q, s.heap.size ≤ q → va_A [(h0, .inr (5, [.null, .null]))] s.heap.size q := fun q h => Or.inr h
  refine lv_aload_n cx.1 cx.2.1 dX6_init_0 rfl (lv_at hl 0 rfl) ?_
  refine n_obj cx gw_87 hl.1 dX6_init_1 (by decide) (by decide) ?_
  refine lv_aload_n cx.1 cx.2.1 dX6_init_4 rfl (lv_at hl 0 rfl) ?_
  refine lv_iconst (v := (2 : Int32)) cx.1 cx.2.1 dX6_init_5 (by decide) ?_
  refine n_newq (N := 2) cx gw_88 hP hD hS hA (by decide) (by decide) (Nat.le_of_ble_eq_true rfl) ⟨(Nat.le_of_ble_eq_true rfl), (Nat.le_of_ble_eq_true rfl)⟩ dX6_init_6 (fun qa H hP hD hS => ?_)
  have hP : va_P K.1 gcl [(h0, .inr (5, [.null, .null])), (qa, rS K 2 (fun _ => none))] H := hP
  have hD : va_D (va_A [(h0, .inr (5, [.null, .null]))] s.heap.size) [(h0, .inr (5, [.null, .null])), (qa, rS K 2 (fun _ => none))] := hD
  refine n_putF (C := RX6) (T := TX6) (N := 2) (ci := 5) cx inlX6 tyX6 tyX6_ok nmX6 rfl hP hD hS 0 (by decide) gw_89 rfl rfl hin rfl rfl rfl (Nat.le_of_ble_eq_true rfl) dX6_init_9 (fun H locs hP hD hS => ?_)
  have hP : va_P K.1 gcl [(h0, .inr (5, [.ref qa, .null])), (qa, rS K 2 (fun _ => none))] H := hP
  have hD : va_D (va_A [(h0, .inr (5, [.null, .null]))] s.heap.size) [(h0, .inr (5, [.ref qa, .null])), (qa, rS K 2 (fun _ => none))] := hD
  refine lv_aload_n cx.1 cx.2.1 dX6_init_12 rfl (lv_at hl 0 rfl) ?_
  refine lv_iconst (v := (2 : Int32)) cx.1 cx.2.1 dX6_init_13 (by decide) ?_
  refine n_newa (N := 2) cx hP hD hS hA (by decide) (by decide) (Nat.le_of_ble_eq_true rfl) ⟨(Nat.le_of_ble_eq_true rfl), (Nat.le_of_ble_eq_true rfl)⟩ dX6_init_14 (fun qb H hP hD hS => ?_)
  have hP : va_P K.1 gcl [(h0, .inr (5, [.ref qa, .null])), (qa, rS K 2 (fun _ => none)), (qb, .inl (K.2.1, 2, .inl zrow))] H := hP
  have hD : va_D (va_A [(h0, .inr (5, [.null, .null]))] s.heap.size) [(h0, .inr (5, [.ref qa, .null])), (qa, rS K 2 (fun _ => none)), (qb, .inl (K.2.1, 2, .inl zrow))] := hD
  refine n_putF (C := RX6) (T := TX6) (N := 2) (ci := 5) cx inlX6 tyX6 tyX6_ok nmX6 rfl hP hD hS 1 (by decide) gw_90 rfl rfl hin rfl rfl rfl (Nat.le_of_ble_eq_true rfl) dX6_init_16 (fun H locs hP hD hS => ?_)
  have hf0 : (fun _ => none : Nat → Option Nat) = fS (fun _ _ => 0) 0 := by funext j; unfold fS; rw [if_neg (by omega)]
  rw [hf0] at hP hD
  have hP : va_P K.1 gcl ((h0, .inr (5, [.ref qa, .ref qb])) :: (qa, rS K 2 (fS (fun _ _ => 0) 0)) :: (qb, .inl (K.2.1, 2, .inl zrow)) :: SL K (fun _ _ => 0) 0) H := hP
  have hD : va_D (va_A [(h0, .inr (5, [.null, .null]))] s.heap.size) ((h0, .inr (5, [.ref qa, .ref qb])) :: (qa, rS K 2 (fS (fun _ _ => 0) 0)) :: (qb, .inl (K.2.1, 2, .inl zrow)) :: SL K (fun _ _ => 0) 0) := hD
  refine lv_iconst (v := nI 0) cx.1 cx.2.1 dX6_init_19 (by decide) ?_
  refine lv_istore_n (lv' := [(1, .int (nI 0)), (0, .ref h0)]) cx.1 cx.2.1 dX6_init_20 rfl hl (by decide) rfl (fun ls hl => ?_)
  have loop : ∀ (k i : Nat) (us : Nat → Nat → Nat) (H : Heap) (locs : List Loc) (ls : Array Slot) (cells slots : Nat), i + k = 2 → cells = 2 + 21 * i → slots = 4 + 195 * i → lv_has ls 2 [(1, .int (nI i)), (0, .ref h0)] → va_P K.1 gcl ((h0, .inr (5, [.ref qa, .ref qb])) :: (qa, rS K 2 (fS us i)) :: (qb, .inl (K.2.1, 2, .inl zrow)) :: SL K us i) H → va_D (va_A [(h0, .inr (5, [.null, .null]))] s.heap.size) ((h0, .inr (5, [.ref qa, .ref qb])) :: (qa, rS K 2 (fS us i)) :: (qb, .inl (K.2.1, 2, .inl zrow)) :: SL K us i) → va_S (va_A [(h0, .inr (5, [.null, .null]))] s.heap.size) s.heap H locs → W p l e (gRx 3 52 44 394) s m #[.ref h0] below meth c H locs cells slots (MQ below (nQ K h0 (.inr (5, [.null, .null])) (fun x : Nat × Nat × Nat × (Nat → Nat → Nat) => x.1) (LX6 K) s.heap.size) #[.ref h0] s 44 394 (va_A [(h0, .inr (5, [.null, .null]))] s.heap.size)) (F0 m 21 ls []) := by
    intro k
    induction k with
    | zero =>
      intro i us H locs ls cells slots hi hc hs hl hP hD hS
      have hi : i = 2 := by omega
      subst hi hc hs
      refine lv_iload_n cx.1 cx.2.1 dX6_init_21 rfl (lv_at hl 0 rfl) ?_
      refine lv_iconst (v := nI 2) cx.1 cx.2.1 dX6_init_22 (by decide) ?_
      refine lv_icmp_ge (tgt := 45) cx.1 cx.2.1 dX6_init_23 (by decide) (fun hc => ?_) (fun hc => absurd (by decide) hc)
      exact n_ret cx hr hlk (h0, qa, qb, us) rfl hP hD hS ⟨(Nat.le_of_ble_eq_true rfl), (Nat.le_of_ble_eq_true rfl)⟩ dX6_init_45
    | succ k ih =>
      intro i us H locs ls cells slots hi hc hs hl hP hD hS
      subst hc hs
      refine lv_iload_n cx.1 cx.2.1 dX6_init_21 rfl (lv_at hl 0 rfl) ?_
      refine lv_iconst (v := nI 2) cx.1 cx.2.1 dX6_init_22 (by decide) ?_
      refine lv_icmp_ge (tgt := 45) cx.1 cx.2.1 dX6_init_23 (by decide) (fun hc => absurd ((nIle (by omega) (by omega)).mp hc) (by omega)) (fun hc => ?_)
      refine lv_aload_n cx.1 cx.2.1 dX6_init_26 rfl (lv_at hl 1 rfl) ?_
      refine va_get (D := K.1) (C := RX6) (T := TX6) (N := 2) (ref := RX6) cx.1 cx.2.1 (Ts := wsL_law) cx.2.2.2.2.ts inlX6 cx.2.2.2.1 cx.2.2.2.2.1 hP 0 (fs := [.ref qa, .ref qb]) rfl rfl 0 (by decide) (cx.2.2.2.2.ts _ gw_89) (fun x hx => hx) (v := .ref qa) rfl dX6_init_27 ?_
      refine lv_iload_n cx.1 cx.2.1 dX6_init_30 rfl (lv_at hl 0 rfl) ?_
      refine n_new (C := RX7) (T := TX7) (N := 9) (ci := 6) (fs := [.null, .null, .null, .int 0, .int 0, .int 0, .int 0, .int 0, .int 0]) cx inlX7 tyX7 tyX7_ok gw_88 gw_15 gw_16 rfl (fun j hj => by rcases (show j = 0 ∨ j = 1 ∨ j = 2 ∨ j = 3 ∨ j = 4 ∨ j = 5 ∨ j = 6 ∨ j = 7 ∨ j = 8 by omega) with rfl | rfl | rfl | rfl | rfl | rfl | rfl | rfl | rfl <;> rfl) hP hD hS hA ⟨by show _ + 1 ≤ 44; omega, by show _ + 9 ≤ 394; omega⟩ dX6_init_31 (fun q H hP hD hS => ?_)
      refine lv_dup cx.1 cx.2.1 dX6_init_34 rfl ?_
      refine n_callN (rest := [.ref q, .int (nI i), .ref qa]) cx (c_X7_init l K) (List.mem_of_getElem? (i := 6) rfl) gy_X7_init gi_X7_init rfl hP hD hS hA ⟨(Nat.le_of_ble_eq_true rfl), (Nat.le_of_ble_eq_true rfl)⟩ ⟨by show _ + 20 ≤ 44; omega, by show _ + 186 ≤ 394; omega⟩ hl.1 (Nat.le_of_ble_eq_true rfl) dX6_init_35 (fun u H locs hu hP' hD' hS => ?_)
      have hu : u 0 = q := hu
      have e1 : ((h0, .inr (5, [.ref qa, .ref qb])) :: (qa, rS K 2 (fS us i)) :: (qb, .inl (K.2.1, 2, .inl zrow)) :: SL K us i) ++ LX7 K u = ((h0, .inr (5, [.ref qa, .ref qb])) :: (qa, rS K 2 (fS us i)) :: (qb, .inl (K.2.1, 2, .inl zrow)) :: SL K (fun j => if j = i then u else us j) (i + 1)) := by rw [← SL_snoc]; rfl
      rw [e1] at hP' hD'
      have hin : vp_in (nI i) 2 := vp_in_nI (by omega) (by omega)
      have hv : ((h0, .inr (5, [.ref qa, .ref qb])) :: (qa, rS K 2 (fS us i)) :: (qb, .inl (K.2.1, 2, .inl zrow)) :: SL K (fun j => if j = i then u else us j) (i + 1) : va_W)[3 + 21 * i]? = some (q, .inr (6, [.ref (u 1), .ref (u 2), .ref (u 3), .int 0, .int 0, .int 0, .int 0, .int 0, .int 0])) := by
        rw [show 3 + 21 * i = 21 * i + 1 + 1 + 1 by omega]
        show (SL K (fun j => if j = i then u else us j) (i + 1))[21 * i]? = _
        rw [SL_get (by omega), show 21 * i / 21 = i by omega, show 21 * i % 21 = 0 by omega, if_pos rfl, ← hu]
        rfl
      refine va_astq (D := K.1) (A := va_A [(h0, .inr (5, [.null, .null]))] s.heap.size) (r := (RX7, TX7, 9)) (f := fS us i) cx.1 cx.2.1 cx.2.2.2.2.1 hP' hD' hS 1 1 (3 + 21 * i) 6 rfl rfl hv rfl hin dX6_init_38 (fun H locs hP hD hS => ?_)
      rw [show (nI i).toNatClampNeg = i from nI_c (by omega), fS_up hu] at hP hD
      have hP : va_P K.1 gcl ((h0, .inr (5, [.ref qa, .ref qb])) :: (qa, rS K 2 (fS (fun j => if j = i then u else us j) (i + 1))) :: (qb, .inl (K.2.1, 2, .inl zrow)) :: SL K (fun j => if j = i then u else us j) (i + 1)) H := hP
      have hD : va_D (va_A [(h0, .inr (5, [.null, .null]))] s.heap.size) ((h0, .inr (5, [.ref qa, .ref qb])) :: (qa, rS K 2 (fS (fun j => if j = i then u else us j) (i + 1))) :: (qb, .inl (K.2.1, 2, .inl zrow)) :: SL K (fun j => if j = i then u else us j) (i + 1)) := hD
      obtain ⟨y, ey⟩ : ∃ y : Int32, y = nI i + 1 := ⟨_, rfl⟩
      refine lv_iinc (v := y) (lv' := [(1, .int y), (0, .ref h0)]) cx.1 cx.2.1 dX6_init_39 hl (k := 0) rfl (by rw [ey]; rfl) (by decide) rfl (fun ls hl => ?_)
      refine lv_goto (tgt := 21) cx.1 cx.2.1 dX6_init_42 (by decide) ?_
      rw [ey, nI_s] at hl
      exact ih (i + 1) (fun j => if j = i then u else us j) H locs ls _ _ (by omega) (by omega) (by omega) hl hP hD hS
  exact loop 2 0 (fun _ _ => 0) H locs ls _ _ rfl rfl rfl hl hP hD hS
