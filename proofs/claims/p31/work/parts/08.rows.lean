/-! ===== programs that may be stuck: none; else an answer and the world behind it ===== -/
def inb (i : Int32) (n : Nat) : Bool := decide (0 ≤ i) && decide (i.toNatClampNeg < n)
theorem vp_of_inb {i : Int32} {n : Nat} (h : inb i n = true) : vp_in i n := by
  simp only [inb, Bool.and_eq_true, decide_eq_true_eq] at h
  intro hx
  rcases hx with hx | hx
  · exact absurd h.1 (Int32.not_le.mpr hx)
  · omega
def gck {α : Type} (b : Bool) (x : Option α) : Option α := if b = true then x else none
theorem gck_some {α : Type} {b : Bool} {x : Option α} {y : α} (h : gck b x = some y) : b = true ∧ x = some y := by
  unfold gck at h
  by_cases hb : b = true
  · rw [if_pos hb] at h; exact ⟨hb, h⟩
  · rw [if_neg hb] at h; cases h
def gbi {α : Type} (x : Option (Int32 × Sg)) (k : Int32 → Sg → Option α) : Option α := match x with
  | some q => k q.1 q.2
  | none => none
theorem gbi_some {α : Type} {x : Option (Int32 × Sg)} {k : Int32 → Sg → Option α} {y : α} (h : gbi x k = some y) : ∃ v s, x = some (v, s) ∧ k v s = some y := by
  cases x with
  | none => cases h
  | some q => exact ⟨q.1, q.2, rfl, h⟩
def gbl {α : Type} (x : Option (Int64 × Sg)) (k : Int64 → Sg → Option α) : Option α := match x with
  | some q => k q.1 q.2
  | none => none
theorem gbl_some {α : Type} {x : Option (Int64 × Sg)} {k : Int64 → Sg → Option α} {y : α} (h : gbl x k = some y) : ∃ v s, x = some (v, s) ∧ k v s = some y := by
  cases x with
  | none => cases h
  | some q => exact ⟨q.1, q.2, rfl, h⟩
def gbn {α : Type} (x : Option (Nat × Sg)) (k : Nat → Sg → Option α) : Option α := match x with
  | some q => k q.1 q.2
  | none => none
theorem gbn_some {α : Type} {x : Option (Nat × Sg)} {k : Nat → Sg → Option α} {y : α} (h : gbn x k = some y) : ∃ v s, x = some (v, s) ∧ k v s = some y := by
  cases x with
  | none => cases h
  | some q => exact ⟨q.1, q.2, rfl, h⟩
def gbv {α : Type} (x : Option Sg) (k : Sg → Option α) : Option α := match x with
  | some q => k q
  | none => none
theorem gbv_some {α : Type} {x : Option Sg} {k : Sg → Option α} {y : α} (h : gbv x k = some y) : ∃ s, x = some s ∧ k s = some y := by
  cases x with
  | none => cases h
  | some q => exact ⟨q, rfl, h⟩
def gst {α : Type} (x : Sg) (k : Sg → Option α) : Option α := k x
theorem gst_ex {α : Type} {x : Sg} {k : Sg → Option α} {y : α} (h : gst x k = some y) : ∃ s, x = s ∧ k s = some y := ⟨x, rfl, h⟩
def gvi {α : Type} (x : Int32) (k : Int32 → Option α) : Option α := k x
theorem gvi_ex {α : Type} {x : Int32} {k : Int32 → Option α} {y : α} (h : gvi x k = some y) : ∃ s, x = s ∧ k s = some y := ⟨x, rfl, h⟩
def gvl {α : Type} (x : Int64) (k : Int64 → Option α) : Option α := k x
theorem gvl_ex {α : Type} {x : Int64} {k : Int64 → Option α} {y : α} (h : gvl x k = some y) : ∃ s, x = s ∧ k s = some y := ⟨x, rfl, h⟩
def isb (v : Int32) : Bool := decide (v = 0) || decide (v = 1)
theorem isb_nar {v : Int32} (h : isb v = true) : narrow .boolean (.int v) = .int v := by
  simp only [isb, Bool.or_eq_true, decide_eq_true_eq] at h
  rcases h with h | h <;> subst h <;> rfl
/-- what is said of a method that is called: its code, its class, how many arguments -/
def gY (y : MethodName) (bytes : ByteArray) (maxL : Nat) (ret : Option FieldType) (n : Nat) : Prop :=
  Cond.code y bytes maxL ret ∈ wsL_law ∧ Cond.initialized y.cls ∈ wsL_law ∧ (y.cls ≠ "java/lang/invoke/MethodHandle" ∧ y.cls ≠ "java/lang/invoke/VarHandle" ∧ (parseMethodDescriptor y.desc).map (fun d => d.parameters.length) = some n)
section GX
variable {p : Program} {l : Launch} {e : Env} {R : Room} {s : State} {m : MethodId} {args : Array Value} {below : List Frame} {meth : Method} {c : Code} {H : Heap} {locs : List Loc} {cells slots : Nat} {Q : State → Prop}
variable {cc : ByteArray} {nL pc : Nat} {ls : Array Slot} {rest : List Value} {G : gG} {S S' : Sg} {own : String} {H0 : Heap} {sz : Nat}
theorem g_iald {k n : Nat} (cx : gCx p s m c cc nL own G) (hP : gP G S H) (h : IA G k n) {i : Int32} (hin : vp_in i n) (hdg : decode cc pc = .ok (.iaload, 1))
    (kk : W p l e R s m args below meth c H locs cells slots Q (F0 m (pc + 1) ls (.int (S k i.toNatClampNeg) :: rest))) : W p l e R s m args below meth c H locs cells slots Q (F0 m pc ls (.int i :: .ref (G.2.1 k) :: rest)) :=
  va_iald (D := G.1) (n := n) (f := S k) cx.1 cx.2.1 cx.2.2.2.2.1 hP k 0 (by rw [gw_at h.1, h.2.2]) rfl hin hdg kk
theorem g_iast {k n : Nat} (cx : gCx p s m c cc nL own G) (hP : gP G S H) (hS : va_S (gA G sz) H0 H locs) (h : IA G k n) {i x : Int32} (hin : vp_in i n) (hdg : decode cc pc = .ok (.iastore, 1))
    (kk : ∀ (H1 : Heap) (locs1 : List Loc), gP G (u2 S k i.toNatClampNeg x) H1 → va_S (gA G sz) H0 H1 locs1 → W p l e R s m args below meth c H1 locs1 cells slots Q (F0 m (pc + 1) ls rest)) : W p l e R s m args below meth c H locs cells slots Q (F0 m pc ls (.int x :: .int i :: .ref (G.2.1 k) :: rest)) := by
  refine va_iast (D := G.1) (A := gA G sz) (n := n) (f := S k) cx.1 cx.2.1 cx.2.2.2.2.1 hP (gD cx.2.2.2.2.inj) hS k 0 (by rw [gw_at h.1, h.2.2]) rfl hin hdg (fun H1 locs1 hP1 _ hS1 => ?_)
  rw [gw_set (S' := u2 S k i.toNatClampNeg x) h.1 (by rw [h.2.2, u2_s]) (fun i hi => u2_n hi)] at hP1
  exact kk H1 locs1 hP1 hS1
theorem g_alen {k n : Nat} (cx : gCx p s m c cc nL own G) (hP : gP G S H) (h : IA G k n) (hdg : decode cc pc = .ok (.arraylength, 1))
    (kk : W p l e R s m args below meth c H locs cells slots Q (F0 m (pc + 1) ls (.int (nI n) :: rest))) : W p l e R s m args below meth c H locs cells slots Q (F0 m pc ls (.ref (G.2.1 k) :: rest)) :=
  va_alen (D := G.1) (x := (n, .inl (S k))) cx.1 cx.2.1 cx.2.2.2.2.1 hP k 0 (by rw [gw_at h.1, h.2.2]) (ty := .int) rfl rfl hdg kk
theorem g_zald {k n : Nat} (cx : gCx p s m c cc nL own G) (hP : gP G S H) (hk : k < gN G) (hM : 402 ≤ gN G) (h : ∀ R, gE G k R = .inl (G.2.2.1 1, n, .inl R)) {i : Int32} (hin : vp_in i n) (hdg : decode cc pc = .ok (.baload, 1))
    (kk : W p l e R s m args below meth c H locs cells slots Q (F0 m (pc + 1) ls (.int (S k i.toNatClampNeg) :: rest))) : W p l e R s m args below meth c H locs cells slots Q (F0 m pc ls (.int i :: .ref (G.2.1 k) :: rest)) :=
  va_zald (D := G.1) (n := n) (f := S k) cx.1 cx.2.1 (cx.2.2.2.2.2.2.2.2.2.2.1 hM) hP k 0 (by rw [gw_at hk, h]) rfl hin hdg kk
theorem g_zast {k n : Nat} (cx : gCx p s m c cc nL own G) (hP : gP G S H) (hS : va_S (gA G sz) H0 H locs) (hk : k < gN G) (hM : 402 ≤ gN G) (h : ∀ R, gE G k R = .inl (G.2.2.1 1, n, .inl R)) {i x : Int32} (hx : vp_nar .boolean x = x) (hin : vp_in i n) (hdg : decode cc pc = .ok (.bastore, 1))
    (kk : ∀ (H1 : Heap) (locs1 : List Loc), gP G (u2 S k i.toNatClampNeg x) H1 → va_S (gA G sz) H0 H1 locs1 → W p l e R s m args below meth c H1 locs1 cells slots Q (F0 m (pc + 1) ls rest)) : W p l e R s m args below meth c H locs cells slots Q (F0 m pc ls (.int x :: .int i :: .ref (G.2.1 k) :: rest)) := by
  refine va_zast (D := G.1) (A := gA G sz) (n := n) (f := S k) cx.1 cx.2.1 (cx.2.2.2.2.2.2.2.2.2.2.1 hM) hP (gD cx.2.2.2.2.inj) hS k 0 (by rw [gw_at hk, h]) rfl hin hdg (fun H1 locs1 hP1 _ hS1 => ?_)
  rw [hx, gw_set (S' := u2 S k i.toNatClampNeg x) hk (by rw [h, u2_s]) (fun i hi => u2_n hi)] at hP1
  exact kk H1 locs1 hP1 hS1
/-- the rows of States -/
theorem g_ald4 (cx : gCx p s m c cc nL own G) (hP : gP G S H) {i : Int32} (hin : vp_in i 14) (hdg : decode cc pc = .ok (.aaload, 1))
    (kk : W p l e R s m args below meth c H locs cells slots Q (F0 m (pc + 1) ls (.ref (G.2.1 (56 + 21 * i.toNatClampNeg)) :: rest))) : W p l e R s m args below meth c H locs cells slots Q (F0 m pc ls (.int i :: .ref (G.2.1 4) :: rest)) :=
  va_aldq (D := G.1) (C := "RustRails$State") (n := 14) (f := fun j => some (G.2.1 (56 + 21 * j))) cx.1 cx.2.1 cx.2.2.2.2.1 hP 4 1 (by rw [gw_at (by have := cx.2.2.2.2.hN; omega)]; rfl) rfl hin hdg kk
theorem g_ald6 (cx : gCx p s m c cc nL own G) (hP : gP G S H) {i : Int32} (hin : vp_in i 2) (hdg : decode cc pc = .ok (.aaload, 1))
    (kk : W p l e R s m args below meth c H locs cells slots Q (F0 m (pc + 1) ls (.ref (G.2.1 (350 + 21 * i.toNatClampNeg)) :: rest))) : W p l e R s m args below meth c H locs cells slots Q (F0 m pc ls (.int i :: .ref (G.2.1 6) :: rest)) :=
  va_aldq (D := G.1) (C := "RustRails$State") (n := 2) (f := fun j => some (G.2.1 (350 + 21 * j))) cx.1 cx.2.1 cx.2.2.2.2.1 hP 6 1 (by rw [gw_at (by have := cx.2.2.2.2.hN; omega)]; rfl) rfl hin hdg kk
theorem g_alenH {k n : Nat} {x : (Nat → Int32) ⊕ (Nat → Int64) ⊕ (Nat → UInt32) ⊕ (Nat → UInt64) ⊕ (Nat → Option Nat)} (cx : gCx p s m c cc nL own G) (hP : gP G S H) (hk : k < gN G) (h : gE G k (S k) = .inl (G.2.2.1 3, n, x)) (hdg : decode cc pc = .ok (.arraylength, 1))
    (kk : W p l e R s m args below meth c H locs cells slots Q (F0 m (pc + 1) ls (.int (nI n) :: rest))) : W p l e R s m args below meth c H locs cells slots Q (F0 m pc ls (.ref (G.2.1 k) :: rest)) :=
  va_alen (D := G.1) (x := (n, x)) cx.1 cx.2.1 cx.2.2.2.2.1 hP k 1 (by rw [gw_at hk, h]) (ty := .object "RustRails$State") rfl rfl hdg kk
/-- behind a call -/
theorem g_after {A1 A0 : Nat → Prop} {a : Array Value} {v : Option Value} {st0 : List Value} {mc ms : Nat} {free : Addr → Prop} (hr : va_Run p l e R s m args below meth c H locs cells slots mc ms (F0 m pc ls st0) rest (gQ G S' v A1 a) free) (hS : va_S A0 H0 H locs) (hA : ∀ q, q < H.size → A1 q → A0 q) (hf : ∀ q, free q → A0 q)
    (kk : ∀ (H1 : Heap) (locs1 : List Loc), gP G S' H1 → va_S A0 H0 H1 locs1 → W p l e R s m args below meth c H1 locs1 (cells + mc) (slots + ms) Q (F0 m (pc + 3) ls (v.toList ++ rest))) : W p l e R s m args below meth c H locs cells slots Q (F0 m pc ls st0) := by
  intro T hT X
  obtain ⟨v', st₀, t, T', L, h0, X', hL, e1, e2, ⟨⟨hv, hb⟩, hz, hk⟩, st⟩ := hr T hT X
  cases hv
  rw [h0] at hz hk
  obtain ⟨t2, a1, b1⟩ := kk T'.heap (locs ++ L) (by rw [e1]; exact hb)
    ⟨Nat.le_trans hS.1 (by rw [e1]; exact hz), fun q h1 h2 => by rw [e1, hk q (Nat.lt_of_lt_of_le h1 hS.1) (fun z => h2 (hA q (Nat.lt_of_lt_of_le h1 hS.1) z))]; exact hS.2.1 q h1 h2, fun q hq => by
      rcases List.mem_append.mp hq with h | h
      · exact hS.2.2 q h
      · exact hf _ (hL q h)⟩ T' rfl X'
  exact ⟨t2, st t2 a1, b1⟩
theorem gA_in {k : Nat} (hk : ∀ q, q < H.size → gA G H.size q → gA G sz q) : True := trivial
theorem gA_call (hS : va_S (gA G s.heap.size) s.heap H locs) : ∀ q, gA G H.size q → gA G s.heap.size q := gA_mono hS.1
theorem gPc_blind {av : List Value} {sz : Nat} : FrameBlind (va_Pc av (gPre G S sz)) := fun a U g mk q => ⟨q.1, q.2.1, q.2.2.1, q.2.2.2.calling⟩
theorem gPc_at {av : List Value} (cx : gF G s) (hP : gP G S H) (U : State) (hU : U.heap = H) (hW : s.WarmedH U.vm) : va_Pc av (gPre G S H.size) av.toArray U := ⟨rfl, by rw [hU], by rw [hU]; exact hP, cx.warm hW⟩
theorem g_callB {y : MethodName} {bytes : ByteArray} {maxL n f lo index : Nat} {ret : Option FieldType} (hF : gF G s) (hy : gY y bytes maxL ret n) (hl : Cond.methodLink own index y ∈ wsL_law) (hR : f + 1 ≤ R.frames ∧ 8 + (maxL + 11) + lo ≤ R.locals) : CallB R s args own index y bytes maxL ret [Cond.code y bytes maxL ret] (gR f lo) 0 0 n := by
  refine ⟨rfl, rfl, hR.1, hR.2, fun w hw a' U hW => ?_, List.mem_singleton.mpr rfl, hF.ts _ hy.1, hF.ts _ hy.2.1, ⟨hy.2.2.1, hy.2.2.2.1⟩, fun sig h => ?_, hF.ts _ hl⟩
  · rw [List.mem_singleton.mp hw]
    exact word_at hW (good_of_word (gw_good _ hy.1)) (hF.2.1 _ hy.1)
  · have h2 := hy.2.2.2.2
    rw [h] at h2
    exact (Option.some.inj h2).symm
theorem g_callN {y : MethodName} {bytes : ByteArray} {maxL n f lo index : Nat} {ret : Option FieldType} {host : String} (hF : gF G s) (hy : gY y bytes maxL ret n) (hl : (own, index, y, host) ∈ gNm) (hR : f + 1 ≤ R.frames ∧ 8 + (maxL + 11) + lo ≤ R.locals) : va_CN R s args own index y host bytes maxL ret [Cond.code y bytes maxL ret] (gR f lo) 0 0 n := by
  refine ⟨⟨rfl, rfl, hR.1, hR.2, fun w hw a' U hW => ?_, List.mem_singleton.mpr rfl⟩, hF.ts _ hy.1, hF.ts _ hy.2.1, ⟨hy.2.2.1, hy.2.2.2.1⟩, fun sig h => ?_, va_Nw.use rfl (hF.2.2.1 _ hl)⟩
  · rw [List.mem_singleton.mp hw]
    exact word_at hW (good_of_word (gw_good _ hy.1)) (hF.2.1 _ hy.1)
  · have h2 := hy.2.2.2.2
    rw [h] at h2
    exact (Option.some.inj h2).symm
theorem g_V {y : MethodName} {bytes : ByteArray} {maxL n f lo index k ci : Nat} {ret : Option FieldType} {fs As : List Value} {st0 : List Value} {q : vw_C} {v : Option Value} (cx : gCx p s m c cc nL own G) (hP : gP G S H) (hS : va_S (gA G s.heap.size) s.heap H locs)
    (hM : Ct l y [Cond.code y bytes maxL ret] (gR f lo) G (.ref (G.2.1 k) :: As) S v S') (hk : k < gN G) (he : gE G k (S k) = .inr (ci, fs)) (hc : gcl[ci]? = some q) (hq : q.1 = y.cls) (hlk : Cond.methodLink own index y ∈ wsL_law) (hy : gY y bytes maxL ret n) (hi : Cond.instanceMethod y ∈ wsL_law ∧ Cond.selects y.cls y y ∈ wsL_law)
    (hR : f + 1 ≤ R.frames ∧ 8 + (maxL + 11) + lo ≤ R.locals) (hcs : cells ≤ R.cells ∧ slots ≤ R.slots) (hn : As.length = n) (hl : ls.size = nL) (hst : st0 = As.reverse ++ .ref (G.2.1 k) :: rest) (hW : (rest.map fun v => v.category).sum ≤ 8) (hdg : decode cc pc = .ok (.invokevirtual index, 3))
    (kk : ∀ (H1 : Heap) (locs1 : List Loc), gP G S' H1 → va_S (gA G s.heap.size) s.heap H1 locs1 → W p l e R s m args below meth c H1 locs1 cells slots Q (F0 m (pc + 3) ls (v.toList ++ rest))) : W p l e R s m args below meth c H locs cells slots Q (F0 m pc ls st0) :=
  g_after (mc := 0) (ms := 0) (va_runV (As := As) (rest := rest) ⟨cx.1, cx.2.1, cx.2.2.1, cx.2.2.2.1, cx.2.2.2.2.ts⟩ (hM H.size) ⟨g_callB cx.2.2.2.2 hy hlk hR, cx.2.2.2.2.ts _ hi.1, cx.2.2.2.2.ts _ hi.2⟩ ⟨gPc_blind, by rw [← hq]; exact va_recv cx.2.2.2.2.1 hP hc (q0 := k) (by rw [gw_at hk, he]), gPc_at cx.2.2.2.2 hP⟩ rfl hn hl hst (lv_room hW) hdg hcs) hS (fun q _ h => gA_call hS q h) (gA_call hS) kk
theorem g_S {y : MethodName} {bytes : ByteArray} {maxL n f lo index : Nat} {ret : Option FieldType} {As : List Value} {st0 : List Value} {v : Option Value} (cx : gCx p s m c cc nL own G) (hP : gP G S H) (hS : va_S (gA G s.heap.size) s.heap H locs)
    (hM : Ct l y [Cond.code y bytes maxL ret] (gR f lo) G As S v S') (hlk : Cond.methodLink own index y ∈ wsL_law) (hy : gY y bytes maxL ret n) (hi : Cond.static y ∈ wsL_law)
    (hR : f + 1 ≤ R.frames ∧ 8 + (maxL + 11) + lo ≤ R.locals) (hcs : cells ≤ R.cells ∧ slots ≤ R.slots) (hn : As.length = n) (hl : ls.size = nL) (hst : st0 = As.reverse ++ rest) (hW : (rest.map fun v => v.category).sum ≤ 8) (hdg : decode cc pc = .ok (.invokestatic index, 3))
    (kk : ∀ (H1 : Heap) (locs1 : List Loc), gP G S' H1 → va_S (gA G s.heap.size) s.heap H1 locs1 → W p l e R s m args below meth c H1 locs1 cells slots Q (F0 m (pc + 3) ls (v.toList ++ rest))) : W p l e R s m args below meth c H locs cells slots Q (F0 m pc ls st0) :=
  g_after (mc := 0) (ms := 0) (va_runS (As := As) (rest := rest) ⟨cx.1, cx.2.1, cx.2.2.1, cx.2.2.2.1, cx.2.2.2.2.ts⟩ (hM H.size) ⟨g_callB cx.2.2.2.2 hy hlk hR, cx.2.2.2.2.ts _ hi⟩ ⟨gPc_blind, gPc_at cx.2.2.2.2 hP⟩ rfl hn hl hst (lv_room hW) hdg hcs) hS (fun q _ h => gA_call hS q h) (gA_call hS) kk
theorem g_N {y : MethodName} {bytes : ByteArray} {maxL n f lo index : Nat} {ret : Option FieldType} {host : String} {As : List Value} {st0 : List Value} {v : Option Value} (cx : gCx p s m c cc nL own G) (hP : gP G S H) (hS : va_S (gA G s.heap.size) s.heap H locs)
    (hM : Ct l y [Cond.code y bytes maxL ret] (gR f lo) G As S v S') (hlk : (own, index, y, host) ∈ gNm) (hy : gY y bytes maxL ret n) (hi : Cond.static y ∈ wsL_law)
    (hR : f + 1 ≤ R.frames ∧ 8 + (maxL + 11) + lo ≤ R.locals) (hcs : cells ≤ R.cells ∧ slots ≤ R.slots) (hn : As.length = n) (hl : ls.size = nL) (hst : st0 = As.reverse ++ rest) (hW : (rest.map fun v => v.category).sum ≤ 8) (hdg : decode cc pc = .ok (.invokestatic index, 3))
    (kk : ∀ (H1 : Heap) (locs1 : List Loc), gP G S' H1 → va_S (gA G s.heap.size) s.heap H1 locs1 → W p l e R s m args below meth c H1 locs1 cells slots Q (F0 m (pc + 3) ls (v.toList ++ rest))) : W p l e R s m args below meth c H locs cells slots Q (F0 m pc ls st0) :=
  g_after (mc := 0) (ms := 0) (va_runSN (As := As) (rest := rest) ⟨cx.1, cx.2.1, cx.2.2.1, cx.2.2.2.1, cx.2.2.2.2.ts⟩ (hM H.size) ⟨g_callN cx.2.2.2.2 hy hlk hR, cx.2.2.2.2.ts _ hi, trivial⟩ ⟨gPc_blind, gPc_at cx.2.2.2.2 hP⟩ rfl hn hl hst (lv_room hW) hdg hcs) hS (fun q _ h => gA_call hS q h) (gA_call hS) kk
/-- returns -/
theorem g_iret {v : Option Value} {x : Int32} {sz : Nat} (cx : gCx p s m c cc nL own G) (hr : meth.sig.returnType = some .int) (hlocks : meth.locks = false) (hP : gP G S H) (hS : va_S (gA G s.heap.size) s.heap H locs) (hv : v = some (.int x)) (hdg : decode cc pc = .ok (.ireturn, 1)) :
    W p l e R s m args below meth c H locs cells slots (MQ below (gQ G S v (gA G s.heap.size)) args s cells slots (gA G s.heap.size)) (F0 m pc ls [.int x]) := by
  subst hv
  exact W.iret (v := x) cx.1 cx.2.1 hr (fun t ht hW => ⟨⟨rfl, by rw [ht]; exact hP⟩, hS.F ht⟩) hS.2.2 hdg hlocks
theorem g_zret {v : Option Value} {x : Int32} (cx : gCx p s m c cc nL own G) (hr : meth.sig.returnType = some .boolean) (hlocks : meth.locks = false) (hP : gP G S H) (hS : va_S (gA G s.heap.size) s.heap H locs) (hb : isb x = true) (hv : v = some (.int x)) (hdg : decode cc pc = .ok (.ireturn, 1)) :
    W p l e R s m args below meth c H locs cells slots (MQ below (gQ G S v (gA G s.heap.size)) args s cells slots (gA G s.heap.size)) (F0 m pc ls [.int x]) := by
  subst hv
  exact W.zret (v := x) cx.1 cx.2.1 hr (isb_nar hb) (fun t ht hW => ⟨⟨rfl, by rw [ht]; exact hP⟩, hS.F ht⟩) hS.2.2 hdg hlocks
theorem g_lret {v : Option Value} {x : Int64} (cx : gCx p s m c cc nL own G) (hr : meth.sig.returnType = some .long) (hlocks : meth.locks = false) (hP : gP G S H) (hS : va_S (gA G s.heap.size) s.heap H locs) (hv : v = some (.long x)) (hdg : decode cc pc = .ok (.lreturn, 1)) :
    W p l e R s m args below meth c H locs cells slots (MQ below (gQ G S v (gA G s.heap.size)) args s cells slots (gA G s.heap.size)) (F0 m pc ls [.long x]) := by
  subst hv
  exact W.lret (v := x) cx.1 cx.2.1 hr (fun t ht hW => ⟨⟨rfl, by rw [ht]; exact hP⟩, hS.F ht⟩) hS.2.2 hdg hlocks
theorem g_aret {v : Option Value} {n : String} {k : Nat} (cx : gCx p s m c cc nL own G) (hr : meth.sig.returnType = some (.object n)) (hlocks : meth.locks = false) (hP : gP G S H) (hS : va_S (gA G s.heap.size) s.heap H locs) (hv : v = some (.ref (G.2.1 k))) (hdg : decode cc pc = .ok (.areturn, 1)) :
    W p l e R s m args below meth c H locs cells slots (MQ below (gQ G S v (gA G s.heap.size)) args s cells slots (gA G s.heap.size)) (F0 m pc ls [.ref (G.2.1 k)]) := by
  subst hv
  exact W.aret cx.1 cx.2.1 hr (Or.inl ⟨_, rfl⟩) (Or.inr ⟨_, rfl⟩) (fun t ht hW => ⟨⟨rfl, by rw [ht]; exact hP⟩, hS.F ht⟩) hS.2.2 hdg hlocks
theorem g_vret {v : Option Value} (cx : gCx p s m c cc nL own G) (hr : meth.sig.returnType = none) (hlocks : meth.locks = false) (hP : gP G S H) (hS : va_S (gA G s.heap.size) s.heap H locs) (hv : v = none) (hdg : decode cc pc = .ok (.return_, 1)) :
    W p l e R s m args below meth c H locs cells slots (MQ below (gQ G S v (gA G s.heap.size)) args s cells slots (gA G s.heap.size)) (F0 m pc ls []) := by
  subst hv
  exact W.vret cx.1 cx.2.1 hr (fun t ht hW => ⟨⟨rfl, by rw [ht]; exact hP⟩, hS.F ht⟩) hS.2.2 hdg hlocks
end GX
