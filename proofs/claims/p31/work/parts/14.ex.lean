/-! ===== methods that throw ===== -/
def gEn (k : Nat) : String := match k with
  | 1 => "java/lang/IndexOutOfBoundsException"
  | 2 => "java/lang/IllegalArgumentException"
  | _ => "java/lang/IllegalStateException"
def gEi (k : Nat) : Nat := match k with
  | 1 => 366
  | 2 => 154
  | _ => 72
abbrev gEl : List String := ["java/lang/RuntimeException", "java/lang/Exception"]
def gStr : List (Nat × String) := [(367, "out of range"), (70, "the text is full"), (86, "the text is not a game"), (152, "no such number"), (364, "there is no such thing"), (371, "not possible now"), (369, "the cities are the same"), (312, "negative, or too many digits")]
def gEk : Cond → Bool
  | .castable _ _ => true
  | .declares _ => true
  | w => goodWord w
theorem gEk_warm {w : Cond} {s U : State} (h : gEk w = true) (hW : s.WarmedH U.vm) (hZ : va_Nw w s) : va_Nw w U := by
  cases w <;> first
    | exact va_Nw.warmC hW hZ
    | exact va_Nw.warmD hW hZ
    | exact word_at hW (good_of_word h) hZ
theorem gEk_use {w : Cond} {s : State} {args : Array Value} (h : gEk w = true) (hZ : va_Nw w s) : w.before args s = true := by
  cases w <;> first
    | exact word_at (State.WarmedH.refl s) (good_of_word h) hZ
    | exact va_Nw.use rfl hZ
theorem gEw1 : (vx_atS RX10 366 "java/lang/IndexOutOfBoundsException" gEl).all gEk = true := by decide +kernel
theorem gEw2 : (vx_atS RX10 154 "java/lang/IllegalArgumentException" gEl).all gEk = true := by decide +kernel
theorem gEw3 : (vx_atS RX10 72 "java/lang/IllegalStateException" gEl).all gEk = true := by decide +kernel
theorem gEw (k : Nat) : ∀ w ∈ vx_atS RX10 (gEi k) (gEn k) gEl, gEk w = true := by
  match k with
  | 0 => exact List.all_eq_true.mp gEw3
  | 1 => exact List.all_eq_true.mp gEw1
  | 2 => exact List.all_eq_true.mp gEw2
  | k + 3 => exact List.all_eq_true.mp gEw3
theorem gEo1 : (Cond.classLink RX10 362 "java/lang/IndexOutOfBoundsException" :: Cond.initialized "java/lang/IndexOutOfBoundsException" :: vx_atS RX10 366 "java/lang/IndexOutOfBoundsException" gEl).all vx_ot = true := by decide +kernel
theorem gEo2 : (Cond.classLink RX10 150 "java/lang/IllegalArgumentException" :: Cond.initialized "java/lang/IllegalArgumentException" :: vx_atS RX10 154 "java/lang/IllegalArgumentException" gEl).all vx_ot = true := by decide +kernel
theorem gEo3 : (Cond.classLink RX10 68 "java/lang/IllegalStateException" :: Cond.initialized "java/lang/IllegalStateException" :: vx_atS RX10 72 "java/lang/IllegalStateException" gEl).all vx_ot = true := by decide +kernel
/-- what the tables say of throws -/
def gX (U : State) : Prop := (∀ k, ∀ w ∈ vx_atS RX10 (gEi k) (gEn k) gEl, va_Nw w U) ∧ (∀ q ∈ gStr, ∃ sa : Nat, vk_R RX10 q.1 q.2 sa U) ∧ (va_Nc (gEn 2) (gEn 1) U ∧ va_Nc (gEn 3) (gEn 1) U ∧ va_Nc (gEn 3) (gEn 2) U)
theorem gX.warm {s U : State} (hW : s.WarmedH U.vm) (h : gX s) : gX U := by
  refine ⟨fun k w hw => ?_, fun q hq => ?_, h.2.2.1.moved hW.alike, h.2.2.2.1.moved hW.alike, h.2.2.2.2.moved hW.alike⟩
  · exact gEk_warm (gEw k w hw) hW (h.1 k w hw)
  · obtain ⟨sa, h1⟩ := h.2.1 q hq
    exact ⟨sa, vk_R.warm hW h1⟩
theorem gX.at {s : State} {args : Array Value} (h : gX s) (k : Nat) : ∀ w ∈ vx_atS RX10 (gEi k) (gEn k) gEl, w.before args s = true := by
  intro w hw
  exact gEk_use (gEw k w hw) (h.1 k w hw)
def gZ (A : Nat → Prop) (U : State) (H : Heap) : Prop := vx_Zq Bundle.tN "UNASSIGNED_STACK" Bundle.steD A U H ∧ vx_Zq Bundle.tN "SUPPRESSED_SENTINEL" Bundle.listD A U H
def gPreX (G : gG) (S : Sg) (sz : Nat) : State → Prop := fun U => gPre G S sz U ∧ gX U ∧ gZ (gA G sz) U U.heap
def gQx (G : gG) (S' : Sg) (k : Nat) (v : Option Value) (A : Nat → Prop) : Array Value → State → Outcome → State → Prop := fun _ st oc t => (k = 0 ∧ oc = .returned v ∧ gP G S' t.heap) ∧ va_F A st t
def gXx (G : gG) (S' : Sg) (k : Nat) (A : Nat → Prop) : String → State → State → Prop := fun E st t => (k ≠ 0 ∧ E = gEn k ∧ gP G S' t.heap) ∧ va_F A st t
abbrev gRx (f lo mc ms : Nat) : Room := { frames := f, cells := mc, slots := ms, locals := lo }
/-- a contract: with k = 0 it returns v, else it throws gEn k; the world is S' then -/
def Cx (l : Launch) (y : MethodName) (ws : List Cond) (rm : Room) (G : gG) (av : List Value) (S : Sg) (k : Nat) (v : Option Value) (S' : Sg) (mc ms : Nat) : Prop := ∀ sz : Nat, vx_Met l y ws rm (va_Pc av (gPreX G S sz)) (gQx G S' k v (gA G sz)) (gXx G S' k (gA G sz)) mc ms (gA G sz)
theorem Cx_of {l : Launch} {y : MethodName} {cc : ByteArray} {maxL : Nat} {ret : Option FieldType} {f lo mc ms k : Nat} {G : gG} {av : List Value} {S S' : Sg} {v : Option Value} (hy : plainName y.cls = true) (hlen : (lg_sl av).length ≤ maxL)
    (body : ∀ (p : Program) (e : Env) (s : State) (m : MethodId) (below : List Frame) (meth : Method) (c : Code) (ls : Array Slot), gCx p s m c cc maxL y.cls G → gX s → gZ (gA G s.heap.size) s s.heap → (∀ x ∈ c.exceptionTable.toList, False) → meth.sig.returnType = ret → meth.locks = false → gP G S s.heap → va_S (gA G s.heap.size) s.heap s.heap [] → lv_has ls maxL (lv_args 0 av) →
      W p l e (gRx f lo mc ms) s m av.toArray below meth c s.heap [] 0 0 (vx_MQ below (gQx G S' k v (gA G s.heap.size)) (gXx G S' k (gA G s.heap.size)) av.toArray s mc ms (gA G s.heap.size)) (F0 m 0 ls [])) : Cx l y [Cond.code y cc maxL ret] (gRx f lo mc ms) G av S k v S' mc ms := by
  intro sz
  refine vx_ofW (cc := cc) (maxL := maxL) (ret := ret) hy rfl ?_
  intro p e s m args below meth c s₁ B hml hex hv
  obtain ⟨rfl, ⟨hsz, hP, hF⟩, hX, hZ⟩ := hv
  subst hsz
  have hl := lv_entry av (n := maxL) hlen
  rw [lg_entry_eq]
  exact body p e s m below meth c _ ⟨B.exec, B.bytes, hml, findClass_of_methodNamed B.named, hF⟩ hX hZ hex B.returns B.notSynchronized hP va_S.rf hl
theorem gZ.at {G : gG} {s U : State} {H : Heap} {locs : List Loc} (hZ : gZ (gA G s.heap.size) s s.heap) (hS : va_S (gA G s.heap.size) s.heap H locs) (hvm : s.vm.Alike U.vm) : gZ (gA G H.size) U H :=
  ⟨((hZ.1.kept hS.2.1).narrow (gA_mono hS.1)).moved hvm, ((hZ.2.kept hS.2.1).narrow (gA_mono hS.1)).moved hvm⟩
theorem gPcX_blind {G : gG} {S : Sg} {av : List Value} {sz : Nat} : FrameBlind (va_Pc av (gPreX G S sz)) := fun a U g mk q =>
  ⟨q.1, ⟨q.2.1.1, q.2.1.2.1, q.2.1.2.2.calling⟩, gX.warm (State.WarmedH.refl U) q.2.2.1, q.2.2.2.1.moved (Vm.Alike.refl U.vm), q.2.2.2.2.moved (Vm.Alike.refl U.vm)⟩
section GXX
variable {p : Program} {l : Launch} {e : Env} {R : Room} {s : State} {m : MethodId} {args : Array Value} {below : List Frame} {meth : Method} {c : Code} {H : Heap} {locs : List Loc} {cells slots : Nat} {Q : State → Prop}
variable {cc : ByteArray} {nL pc : Nat} {ls : Array Slot} {rest : List Value} {G : gG} {S S' : Sg} {own : String} {H0 : Heap} {sz mc ms : Nat}
theorem gPcX_at {av : List Value} (hF : gF G s) (hX : gX s) (hZ : gZ (gA G s.heap.size) s s.heap) (hP : gP G S H) (hS : va_S (gA G s.heap.size) s.heap H locs) (U : State) (hU : U.heap = H) (hW : s.WarmedH U.vm) : va_Pc av (gPreX G S H.size) av.toArray U :=
  ⟨rfl, ⟨by rw [hU], by rw [hU]; exact hP, hF.warm hW⟩, hX.warm hW, by rw [hU]; exact hZ.at hS hW.alike⟩
theorem gx_after {A1 A0 : Nat → Prop} {a : Array Value} {v : Option Value} {st0 : List Value} {free : Addr → Prop} (hr : vx_Run p l e R s m args below meth c H locs cells slots mc ms (F0 m pc ls st0) rest (gQx G S' 0 v A1 a) (gXx G S' 0 A1) free) (hS : va_S A0 H0 H locs) (hA : ∀ q, q < H.size → A1 q → A0 q) (hf : ∀ q, free q → A0 q)
    (kk : ∀ (H1 : Heap) (locs1 : List Loc), gP G S' H1 → va_S A0 H0 H1 locs1 → W p l e R s m args below meth c H1 locs1 (cells + mc) (slots + ms) Q (F0 m (pc + 3) ls (v.toList ++ rest))) : W p l e R s m args below meth c H locs cells slots Q (F0 m pc ls st0) := by
  intro T hT X
  rcases hr T hT X with ⟨v', st₀, t, T', L, h0, X', hL, e1, e2, ⟨⟨-, hv, hb⟩, hF⟩, st⟩ | ⟨q, st₀, t, T', L, E, ce, h0, X', hL, e1, e2, ⟨⟨hk, -⟩, -⟩, -⟩
  · cases hv
    obtain ⟨k1, k2, k3⟩ := vx_keep h0 e1 hS hA hf hL hF
    obtain ⟨t2, a1, b1⟩ := kk T'.heap (locs ++ L) (by rw [e1]; exact hb) k3 T' rfl X'
    exact ⟨t2, st t2 a1, b1⟩
  · exact absurd rfl hk
/-- a call that throws, in a method that doesn't catch it -/
theorem gx_thrown {A1 A0 : Nat → Prop} {a : Array Value} {v v' : Option Value} {st0 : List Value} {free : Addr → Prop} {k mc' ms' : Nat} (hr : vx_Run p l e R s m args below meth c H locs cells slots mc ms (F0 m pc ls st0) rest (gQx G S' (k + 1) v A1 a) (gXx G S' (k + 1) A1) free) (hS : va_S A0 s.heap H locs) (hA : ∀ q, q < H.size → A1 q → A0 q) (hf : ∀ q, free q → A0 q) (hexn : ∀ x ∈ c.exceptionTable.toList, False) (hlocks : meth.locks = false)
    (hc : cells + mc ≤ mc') (hs : slots + ms ≤ ms') : W p l e R s m args below meth c H locs cells slots (vx_MQ below (gQx G S' (k + 1) v' A0) (gXx G S' (k + 1) A0) args s mc' ms' A0) (F0 m pc ls st0) := by
  intro T hT X
  rcases hr T hT X with ⟨v', st₀, t, T', L, h0, X', hL, e1, e2, ⟨⟨hk, -⟩, -⟩, st⟩ | ⟨q, st₀, t, T', L, E, ce, h0, X', hL, e1, e2, ⟨⟨-, hE, hP⟩, hF⟩, hce, hcv, hcl, st⟩
  · cases hk
  · obtain ⟨k1, k2, k3⟩ := vx_keep h0 e1 hS hA hf hL hF
    obtain ⟨t2, a1, b1⟩ := vx_out (E := E) (pc := pc) (rest := rest) (Qc := gQx G S' (k + 1) v' A0) (XC := gXx G S' (k + 1) A0) (fun x hx => (hexn x hx).elim) hlocks (by rw [e1]; exact hce) hcv hcl (fun t9 ht9 _ => ⟨⟨by omega, hE, by rw [ht9, e1]; exact hP⟩, k3.F ht9⟩) k3.2.2 hc hs T' rfl X'
    exact ⟨t2, st.trans a1, b1⟩
theorem g_callBx {y : MethodName} {bytes : ByteArray} {maxL n f lo index : Nat} {ret : Option FieldType} (hF : gF G s) (hy : gY y bytes maxL ret n) (hl : Cond.methodLink own index y ∈ wsL_law) (hR : f + 1 ≤ R.frames ∧ 8 + (maxL + 11) + lo ≤ R.locals) : CallB R s args own index y bytes maxL ret [Cond.code y bytes maxL ret] (gRx f lo mc ms) mc ms n := by
  refine ⟨rfl, rfl, hR.1, hR.2, fun w hw a' U hW => ?_, List.mem_singleton.mpr rfl, hF.ts _ hy.1, hF.ts _ hy.2.1, ⟨hy.2.2.1, hy.2.2.2.1⟩, fun sig h => ?_, hF.ts _ hl⟩
  · rw [List.mem_singleton.mp hw]
    exact word_at hW (good_of_word (gw_good _ hy.1)) (hF.2.1 _ hy.1)
  · have h2 := hy.2.2.2.2
    rw [h] at h2
    exact (Option.some.inj h2).symm
theorem gx_rV {y : MethodName} {bytes : ByteArray} {maxL n f lo index k ci kx : Nat} {ret : Option FieldType} {fs As : List Value} {st0 : List Value} {q : vw_C} {v : Option Value} (cx : gCx p s m c cc nL own G) (hX : gX s) (hZ : gZ (gA G s.heap.size) s s.heap) (hP : gP G S H) (hS : va_S (gA G s.heap.size) s.heap H locs)
    (hM : Cx l y [Cond.code y bytes maxL ret] (gRx f lo mc ms) G (.ref (G.2.1 k) :: As) S kx v S' mc ms) (hk : k < gN G) (he : gE G k (S k) = .inr (ci, fs)) (hc : gcl[ci]? = some q) (hq : q.1 = y.cls) (hlk : Cond.methodLink own index y ∈ wsL_law) (hy : gY y bytes maxL ret n) (hi : Cond.instanceMethod y ∈ wsL_law ∧ Cond.selects y.cls y y ∈ wsL_law)
    (hR : f + 1 ≤ R.frames ∧ 8 + (maxL + 11) + lo ≤ R.locals) (hcs : cells + mc ≤ R.cells ∧ slots + ms ≤ R.slots) (hn : As.length = n) (hl : ls.size = nL) (hst : st0 = As.reverse ++ .ref (G.2.1 k) :: rest) (hW : (rest.map fun v => v.category).sum ≤ 8) (hdg : decode cc pc = .ok (.invokevirtual index, 3)) :
    vx_Run p l e R s m args below meth c H locs cells slots mc ms (F0 m pc ls st0) rest (gQx G S' kx v (gA G H.size) (Value.ref (G.2.1 k) :: As).toArray) (gXx G S' kx (gA G H.size)) (gA G H.size) :=
  vx_runV (As := As) (rest := rest) ⟨cx.1, cx.2.1, cx.2.2.1, cx.2.2.2.1, cx.2.2.2.2.ts⟩ (hM H.size) ⟨g_callBx cx.2.2.2.2 hy hlk hR, cx.2.2.2.2.ts _ hi.1, cx.2.2.2.2.ts _ hi.2⟩ ⟨gPcX_blind, by rw [← hq]; exact va_recv cx.2.2.2.2.1 hP hc (q0 := k) (by rw [gw_at hk, he]), gPcX_at cx.2.2.2.2 hX hZ hP hS⟩ rfl hn hl hst (lv_room hW) hdg hcs
theorem gx_rS {y : MethodName} {bytes : ByteArray} {maxL n f lo index kx : Nat} {ret : Option FieldType} {As : List Value} {st0 : List Value} {v : Option Value} (cx : gCx p s m c cc nL own G) (hX : gX s) (hZ : gZ (gA G s.heap.size) s s.heap) (hP : gP G S H) (hS : va_S (gA G s.heap.size) s.heap H locs)
    (hM : Cx l y [Cond.code y bytes maxL ret] (gRx f lo mc ms) G As S kx v S' mc ms) (hlk : Cond.methodLink own index y ∈ wsL_law) (hy : gY y bytes maxL ret n) (hi : Cond.static y ∈ wsL_law)
    (hR : f + 1 ≤ R.frames ∧ 8 + (maxL + 11) + lo ≤ R.locals) (hcs : cells + mc ≤ R.cells ∧ slots + ms ≤ R.slots) (hn : As.length = n) (hl : ls.size = nL) (hst : st0 = As.reverse ++ rest) (hW : (rest.map fun v => v.category).sum ≤ 8) (hdg : decode cc pc = .ok (.invokestatic index, 3)) :
    vx_Run p l e R s m args below meth c H locs cells slots mc ms (F0 m pc ls st0) rest (gQx G S' kx v (gA G H.size) As.toArray) (gXx G S' kx (gA G H.size)) (gA G H.size) :=
  vx_runS (As := As) (rest := rest) ⟨cx.1, cx.2.1, cx.2.2.1, cx.2.2.2.1, cx.2.2.2.2.ts⟩ (hM H.size) ⟨g_callBx cx.2.2.2.2 hy hlk hR, cx.2.2.2.2.ts _ hi⟩ ⟨gPcX_blind, gPcX_at cx.2.2.2.2 hX hZ hP hS⟩ rfl hn hl hst (lv_room hW) hdg hcs
/-- behind such a call: it returned -/
theorem gx_ret {a : Array Value} {v : Option Value} {st0 : List Value} (hr : vx_Run p l e R s m args below meth c H locs cells slots mc ms (F0 m pc ls st0) rest (gQx G S' 0 v (gA G H.size) a) (gXx G S' 0 (gA G H.size)) (gA G H.size)) (hS : va_S (gA G s.heap.size) s.heap H locs)
    (kk : ∀ (H1 : Heap) (locs1 : List Loc), gP G S' H1 → va_S (gA G s.heap.size) s.heap H1 locs1 → W p l e R s m args below meth c H1 locs1 (cells + mc) (slots + ms) Q (F0 m (pc + 3) ls (v.toList ++ rest))) : W p l e R s m args below meth c H locs cells slots Q (F0 m pc ls st0) :=
  gx_after hr hS (fun q _ h => gA_call hS q h) (gA_call hS) kk
/-- behind such a call: it threw -/
theorem gx_thr {a : Array Value} {v v' : Option Value} {st0 : List Value} {k mc' ms' k' : Nat} {S9 : Sg} {r9 r' : Int32} (hr : vx_Run p l e R s m args below meth c H locs cells slots mc ms (F0 m pc ls st0) rest (gQx G S9 (k + 1) v (gA G H.size) a) (gXx G S9 (k + 1) (gA G H.size)) (gA G H.size)) (hS : va_S (gA G s.heap.size) s.heap H locs) (hexn : ∀ x ∈ c.exceptionTable.toList, False) (hlocks : meth.locks = false)
    (hf : (k' , r', S') = (k + 1, r9, S9)) (hc : cells + mc ≤ mc') (hs : slots + ms ≤ ms') : W p l e R s m args below meth c H locs cells slots (vx_MQ below (gQx G S' k' v' (gA G s.heap.size)) (gXx G S' k' (gA G s.heap.size)) args s mc' ms' (gA G s.heap.size)) (F0 m pc ls st0) := by
  cases hf
  exact gx_thrown hr hS (fun q _ h => gA_call hS q h) (gA_call hS) hexn hlocks hc hs
/-- new X(text), thrown -/
theorem gx_throw {ik is k mc' ms' k' : Nat} {text : String} {v' : Option Value} {r9 r' : Int32} (cx : gCx p s m c cc nL RX10 G) (hX : gX s) (hZ : gZ (gA G s.heap.size) s s.heap) (hP : gP G S H) (hS : va_S (gA G s.heap.size) s.heap H locs) (hl : l.stackTraces = false) (hexn : ∀ x ∈ c.exceptionTable.toList, False) (hlocks : meth.locks = false) (hsz : ls.size = nL)
    (hlk : Cond.classLink RX10 ik (gEn (k + 1)) ∈ wsL_law) (hini : Cond.initialized (gEn (k + 1)) ∈ wsL_law) (hfit : Bundle.fit (gEn (k + 1)) = true) (hot : (Cond.classLink RX10 ik (gEn (k + 1)) :: Cond.initialized (gEn (k + 1)) :: vx_atS RX10 (gEi (k + 1)) (gEn (k + 1)) gEl).all vx_ot = true) (hstr : (is, text) ∈ gStr)
    (hf : some (k + 1, r9, S) = some (k', r', S'))
    (d0 : decode cc pc = .ok (.new ik, 3)) (d3 : decode cc (pc + 3) = .ok (.dup, 1)) (d4 : decode cc (pc + 4) = .ok (.ldc is, 2)) (d6 : decode cc (pc + 6) = .ok (.invokespecial (gEi (k + 1)), 3)) (d9 : decode cc (pc + 9) = .ok (.athrow, 1))
    (hRf : 6 ≤ R.frames) (hRl : (rest.map fun v => v.category).sum + 82 ≤ R.locals) (hRc : cells + 1 ≤ R.cells) (hRs : slots + 6 ≤ R.slots) (hc : cells + 1 ≤ mc') (hs : slots + 6 ≤ ms') :
    W p l e R s m args below meth c H locs cells slots (vx_MQ below (gQx G S' k' v' (gA G s.heap.size)) (gXx G S' k' (gA G s.heap.size)) args s mc' ms' (gA G s.heap.size)) (F0 m pc ls rest) := by
  cases hf
  obtain ⟨sa, hsa⟩ := hX.2.1 _ hstr
  refine vx_throwS (A := gA G s.heap.size) (names := gEl) cx.1 cx.2.1 hl cx.2.2.2.1 hfit (by decide +kernel) (cx.2.2.2.2.ts _ hlk) (cx.2.2.2.2.ts _ hini) hsa (hX.at (k + 1)) (fun w hw => List.all_eq_true.mp hot w hw) hZ.1 hZ.2 hS (hsz.trans cx.2.2.1.symm) d0 d3 d4 d6 d9 (fun x hx => (hexn x hx).elim) hRf hRl hRc hRs hlocks (fun t hvm hz hk => ?_) hS.2.2 hc hs
  refine ⟨⟨by omega, rfl, fun j q hq => ?_⟩, ?_⟩
  · have h1 := hP j q hq
    exact h1.kept (hk _ h1.lt)
  · exact ⟨Nat.le_trans hS.1 hz, fun q h1 h2 => by rw [hk q (Nat.lt_of_lt_of_le h1 hS.1)]; exact hS.2.1 q h1 h2⟩
theorem gx_throwW {ik is k mc' ms' k' : Nat} {text : String} {v' : Option Value} {r9 r' : Int32} (cx : gCx p s m c cc nL RX10 G) (hX : gX s) (hZ : gZ (gA G s.heap.size) s s.heap) (hP : gP G S H) (hS : va_S (gA G s.heap.size) s.heap H locs) (hl : l.stackTraces = false) (hexn : ∀ x ∈ c.exceptionTable.toList, False) (hlocks : meth.locks = false) (hsz : ls.size = nL)
    (hlk : Cond.classLink RX10 ik (gEn (k + 1)) ∈ wsL_law) (hini : Cond.initialized (gEn (k + 1)) ∈ wsL_law) (hfit : Bundle.fit (gEn (k + 1)) = true) (hot : (Cond.classLink RX10 ik (gEn (k + 1)) :: Cond.initialized (gEn (k + 1)) :: vx_atS RX10 (gEi (k + 1)) (gEn (k + 1)) gEl).all vx_ot = true) (hstr : (is, text) ∈ gStr)
    (hf : some (k + 1, r9, S) = some (k', r', S'))
    (d0 : decode cc pc = .ok (.new ik, 3)) (d3 : decode cc (pc + 3) = .ok (.dup, 1)) (d4 : decode cc (pc + 4) = .ok (.ldc_w is, 3)) (d7 : decode cc (pc + 7) = .ok (.invokespecial (gEi (k + 1)), 3)) (d10 : decode cc (pc + 10) = .ok (.athrow, 1))
    (hRf : 6 ≤ R.frames) (hRl : (rest.map fun v => v.category).sum + 82 ≤ R.locals) (hRc : cells + 1 ≤ R.cells) (hRs : slots + 6 ≤ R.slots) (hc : cells + 1 ≤ mc') (hs : slots + 6 ≤ ms') :
    W p l e R s m args below meth c H locs cells slots (vx_MQ below (gQx G S' k' v' (gA G s.heap.size)) (gXx G S' k' (gA G s.heap.size)) args s mc' ms' (gA G s.heap.size)) (F0 m pc ls rest) := by
  cases hf
  obtain ⟨sa, hsa⟩ := hX.2.1 _ hstr
  refine vx_throwSW (A := gA G s.heap.size) (names := gEl) cx.1 cx.2.1 hl cx.2.2.2.1 hfit (by decide +kernel) (cx.2.2.2.2.ts _ hlk) (cx.2.2.2.2.ts _ hini) hsa (hX.at (k + 1)) (fun w hw => List.all_eq_true.mp hot w hw) hZ.1 hZ.2 hS (hsz.trans cx.2.2.1.symm) d0 d3 d4 d7 d10 (fun x hx => (hexn x hx).elim) hRf hRl hRc hRs hlocks (fun t hvm hz hk => ?_) hS.2.2 hc hs
  refine ⟨⟨by omega, rfl, fun j q hq => ?_⟩, ?_⟩
  · have h1 := hP j q hq
    exact h1.kept (hk _ h1.lt)
  · exact ⟨Nat.le_trans hS.1 hz, fun q h1 h2 => by rw [hk q (Nat.lt_of_lt_of_le h1 hS.1)]; exact hS.2.1 q h1 h2⟩
/-- returns of a method that may throw -/
theorem gx_ireti {x r : Int32} {k' mc' ms' : Nat} (cx : gCx p s m c cc nL own G) (hr : meth.sig.returnType = some .int) (hlocks : meth.locks = false) (hP : gP G S H) (hS : va_S (gA G s.heap.size) s.heap H locs) (hf : some (0, x, S) = some (k', r, S')) (hdg : decode cc pc = .ok (.ireturn, 1)) (hc : cells ≤ mc') (hs : slots ≤ ms') :
    W p l e R s m args below meth c H locs cells slots (vx_MQ below (gQx G S' k' (some (.int r)) (gA G s.heap.size)) (gXx G S' k' (gA G s.heap.size)) args s mc' ms' (gA G s.heap.size)) (F0 m pc ls [.int x]) := by
  cases hf
  exact W.widen hc hs (vx_ret (W.iret (v := x) cx.1 cx.2.1 hr (fun t ht hW => ⟨⟨rfl, rfl, by rw [ht]; exact hP⟩, hS.F ht⟩) hS.2.2 hdg hlocks))
theorem gx_vreti {x r : Int32} {k' mc' ms' : Nat} (cx : gCx p s m c cc nL own G) (hr : meth.sig.returnType = none) (hlocks : meth.locks = false) (hP : gP G S H) (hS : va_S (gA G s.heap.size) s.heap H locs) (hf : some (0, x, S) = some (k', r, S')) (hdg : decode cc pc = .ok (.return_, 1)) (hc : cells ≤ mc') (hs : slots ≤ ms') :
    W p l e R s m args below meth c H locs cells slots (vx_MQ below (gQx G S' k' none (gA G s.heap.size)) (gXx G S' k' (gA G s.heap.size)) args s mc' ms' (gA G s.heap.size)) (F0 m pc ls []) := by
  cases hf
  exact W.widen hc hs (vx_ret (W.vret cx.1 cx.2.1 hr (fun t ht hW => ⟨⟨rfl, rfl, by rw [ht]; exact hP⟩, hS.F ht⟩) hS.2.2 hdg hlocks))
end GXX
def gbx (x : Option (Nat × Int32 × Sg)) (k : Int32 → Sg → Option (Nat × Int32 × Sg)) : Option (Nat × Int32 × Sg) := match x with
  | some (0, v, s) => k v s
  | some (j + 1, _, s) => some (j + 1, 0, s)
  | none => none
theorem gbx_some {x : Option (Nat × Int32 × Sg)} {k : Int32 → Sg → Option (Nat × Int32 × Sg)} {y : Nat × Int32 × Sg} (h : gbx x k = some y) : (∃ j v s, x = some (j + 1, v, s) ∧ y = (j + 1, 0, s)) ∨ ∃ v s, x = some (0, v, s) ∧ k v s = some y := by
  match x with
  | none => cases h
  | some (0, v, s) => exact Or.inr ⟨v, s, rfl, h⟩
  | some (j + 1, v, s) => exact Or.inl ⟨j, v, s, rfl, (Option.some.inj h).symm⟩
theorem sw_dflt2 {x : Int32} (h0 : ¬ x = 0) (h1 : ¬ x = 1) : Op.lookupswitch.offset (#[((0 : Int), (25 : Int)), (1, 38)] : Array (Int × Int)).toList 59 x.toInt = 59 := by
  have h2 := sw_nek (k := 0) h0 (by decide)
  have h3 := sw_nek (k := 1) h1 (by decide)
  show (if (0 : Int) = x.toInt then (25 : Int) else if (1 : Int) = x.toInt then 38 else 59) = 59
  rw [if_neg (fun e => h2 e.symm), if_neg (fun e => h3 e.symm)]
