/-! ===== LAYER 1 again: what constructors make, told by lists ===== -/
def zrow : Nat → Int32 := fun _ => 0
/-- the tables' numbers; the classes of arrays of int, boolean, long, State -/
abbrev nK : Type := va_G × ClassId × ClassId × ClassId × ClassId
def kc (K : nK) : Nat → ClassId := fun i => match i with
  | 0 => K.2.1
  | 1 => K.2.2.1
  | 2 => K.2.2.2.1
  | _ => K.2.2.2.2
def nF (K : nK) (U : State) : Prop := va_K K.1 gcl [(K.2.1, .int), (K.2.2.2.2, .object "RustRails$State")] U ∧ (∀ w ∈ wsL_law, w.before #[] U = true) ∧ (∀ q ∈ gNm, va_Nw (.methodLinkNest q.1 q.2.1 q.2.2.1 q.2.2.2) U) ∧ (∀ q ∈ gNf, va_Nw (.fieldLinkNest q.1 q.2.1 q.2.2.1 q.2.2.2.1 q.2.2.2.2.1 q.2.2.2.2.2) U) ∧ va_AO "RustRails$State" U
theorem nF.warm {K : nK} {s U : State} (hW : s.WarmedH U.vm) (h : nF K s) : nF K U :=
  ⟨va_K.moved hW.alike h.1, fun w hw => word_at hW (good_of_word (gw_good w hw)) (h.2.1 w hw), fun q hq => va_Nw.warmM hW (h.2.2.1 q hq), fun q hq => va_Nw.warmF hW (h.2.2.2.1 q hq), va_AO.moved hW.alike h.2.2.2.2⟩
theorem nF.ts {K : nK} {s : State} {args : Array Value} (h : nF K s) : ∀ w ∈ wsL_law, w.before args s = true := fun w hw => word_at (State.WarmedH.refl s) (good_of_word (gw_good w hw)) (h.2.1 w hw)
theorem nF.calling {K : nK} {U : State} {g : JFrame} {mk : MethodId} {a : Array Value} (h : nF K U) : nF K (U.calling g mk a) := nF.warm (State.WarmedH.refl U) h
theorem nF.g {K : nK} {G : gG} {U : State} (h : nF K U) (e1 : G.1 = K.1) (e2 : G.2.2.1 = kc K) (hi : gInj G) (hN : gN G = 392) : gF G U := by
  refine ⟨?_, h.2.1, h.2.2.1, h.2.2.2.1, hi, by omega, fun _ => by omega, fun _ => by omega⟩
  rw [e1]; show va_K K.1 gcl [(G.2.2.1 0, .int), (G.2.2.1 3, .object "RustRails$State")] U; rw [e2]; exact h.1
abbrev nCx (p : Program) (s : State) (m : MethodId) (c : Code) (cc : ByteArray) (nL : Nat) (own : String) (K : nK) : Prop := p.tables.exec = Jvm.exec ∧ c.code = cc ∧ c.maxLocals = nL ∧ s.vm.findClass own = some m.cls ∧ nF K s
/-- behind a call that made cells: what it had is at the world's end -/
theorem n_join {A0 : Nat → Prop} {D : va_G} {cl : List vw_C} {wr w1 : va_W} {q : Nat} {e : va_E} {H H1 : Heap} (hP : va_P D cl (wr ++ [(q, e)]) H) (hD : va_D A0 (wr ++ [(q, e)])) (hk : ∀ x : Nat, x < H.size → ¬ va_A [(q, e)] H.size x → H1[x]? = H[x]?) (hF : ∀ x, va_A [(q, e)] H.size x → A0 x) (hP1 : va_P D cl w1 H1) (hD1 : va_D (va_A [(q, e)] H.size) w1) : va_P D cl (wr ++ w1) H1 ∧ va_D A0 (wr ++ w1) := by
  have at' : ∀ (k : Nat) (x : Nat × va_E), wr[k]? = some x → k < wr.length ∧ (wr ++ [(q, e)])[k]? = some x := fun k x hx => by
    have hl := (List.getElem?_eq_some_iff.mp hx).1
    exact ⟨hl, by rw [List.getElem?_append_left hl]; exact hx⟩
  have last : (wr ++ [(q, e)])[wr.length]? = some (q, e) := by rw [List.getElem?_append_right (Nat.le_refl _), Nat.sub_self]; rfl
  have apart : ∀ (k : Nat) (x : Nat × va_E), wr[k]? = some x → x.1 < H.size ∧ ¬ va_A [(q, e)] H.size x.1 := by
    intro k x hx
    obtain ⟨hl, h2⟩ := at' k x hx
    have hs := (hP k x h2).lt
    refine ⟨hs, fun h => ?_⟩
    rcases h with ⟨k2, e2, h⟩ | h
    · have hk2 : k2 < 1 := (List.getElem?_eq_some_iff.mp h).1
      rw [show k2 = 0 by omega] at h
      have hq : q = x.1 := congrArg Prod.fst (Option.some.inj h)
      have := hD.1 k wr.length x (q, e) h2 last hq.symm
      omega
    · omega
  refine ⟨va_P.app (fun k x hx => ?_) hP1, va_D.app ⟨fun i j x y hx hy hxy => hD.1 i j x y (at' i x hx).2 (at' j y hy).2 hxy, fun k x hx => hD.2 k x (at' k x hx).2⟩ (hD1.weaken (fun k x _ h => hF x.1 h)) (fun i j x y hx hy hxy => ?_)⟩
  · obtain ⟨g1, g2⟩ := apart k x hx
    exact (hP k x (at' k x hx).2).kept (hk x.1 g1 g2)
  · exact (apart i x hx).2 (by rw [hxy]; exact hD1.2 j y hy)
/-- a constructor's contract: from an object with its fields at 0, the world L u, where u tells the addresses -/
def nPre (K : nK) (h0 : Nat) (e0 : va_E) (sz : Nat) : State → Prop := fun U => U.heap.size = sz ∧ va_P K.1 gcl [(h0, e0)] U.heap ∧ nF K U ∧ va_D (fun _ => True) [(h0, e0)]
def nQ {X : Type} (K : nK) (h0 : Nat) (e0 : va_E) (u0 : X → Nat) (L : X → va_W) (sz : Nat) : Array Value → State → Outcome → State → Prop := va_Qv (fun u : X => u0 u = h0) (fun u t => va_P K.1 gcl (L u) t.heap ∧ va_D (va_A [(h0, e0)] sz) (L u)) (va_A [(h0, e0)] sz)
def Nc {X : Type} (l : Launch) (K : nK) (y : MethodName) (bytes : ByteArray) (maxL f lo mc ms : Nat) (e0 : va_E) (u0 : X → Nat) (L : X → va_W) : Prop := ∀ h0 sz : Nat, Met l y [Cond.code y bytes maxL none] (gRx f lo mc ms) (va_Pc [.ref h0] (nPre K h0 e0 sz)) (nQ K h0 e0 u0 L sz) mc ms (va_A [(h0, e0)] sz)
theorem Nc_of {X : Type} {l : Launch} {K : nK} {y : MethodName} {cc : ByteArray} {maxL f lo mc ms : Nat} {e0 : va_E} {u0 : X → Nat} {L : X → va_W} (hy : plainName y.cls = true) (hlen : 1 ≤ maxL) (hny : y.name = "<init>")
    (body : ∀ (p : Program) (e : Env) (s : State) (m : MethodId) (below : List Frame) (meth : Method) (c : Code) (ls : Array Slot) (h0 : Nat), nCx p s m c cc maxL y.cls K → meth.sig.returnType = none → meth.locks = false → meth.name = "<init>" → va_P K.1 gcl [(h0, e0)] s.heap → va_D (va_A [(h0, e0)] s.heap.size) [(h0, e0)] → va_S (va_A [(h0, e0)] s.heap.size) s.heap s.heap [] → lv_has ls maxL [(0, .ref h0)] →
      W p l e (gRx f lo mc ms) s m #[.ref h0] below meth c s.heap [] 0 0 (MQ below (nQ K h0 e0 u0 L s.heap.size) #[.ref h0] s mc ms (va_A [(h0, e0)] s.heap.size)) (F0 m 0 ls [])) : Nc l K y cc maxL f lo mc ms e0 u0 L := by
  intro h0 sz
  refine Met.ofW (cc := cc) (maxL := maxL) (ret := none) hy rfl ?_
  intro p e s m args below meth c s₁ B hml hv
  obtain ⟨rfl, hsz, hP, hF, hD⟩ := hv
  subst hsz
  have hl := lv_entry [.ref h0] (n := maxL) hlen
  rw [lg_entry_eq]
  exact body p e s m below meth c _ h0 ⟨B.exec, B.bytes, hml, findClass_of_methodNamed B.named, hF⟩ B.returns B.notSynchronized ((name_of_methodNamed B.named B.method).1.trans hny) hP hD.self va_S.rf hl
section NW
variable {p : Program} {l : Launch} {e : Env} {R : Room} {s : State} {m : MethodId} {args : Array Value} {below : List Frame} {meth : Method} {c : Code} {H : Heap} {locs : List Loc} {cells slots : Nat} {Q : State → Prop}
variable {cc : ByteArray} {nL pc : Nat} {ls : Array Slot} {rest : List Value} {K : nK} {own : String} {H0 : Heap} {ws : va_W} {A : Nat → Prop}
theorem n_obj {idx a : Nat} (cx : nCx p s m c cc nL own K) (hlink : Cond.methodLink own idx objectInit ∈ wsL_law) (hl : ls.size = nL) (hd : decode cc pc = .ok (.invokespecial idx, 3)) (hf : 1 ≤ R.frames) (hlo : 12 ≤ R.locals)
    (kk : W p l e R s m args below meth c H locs cells slots Q (F0 m (pc + 3) ls [])) : W p l e R s m args below meth c H locs cells slots Q (F0 m pc ls [.ref a]) :=
  W.objInit cx.1 cx.2.1 cx.2.2.2.1 (cx.2.2.2.2.ts _ hlink) (cx.2.2.2.2.ts _ gw_8) (cx.2.2.2.2.ts _ gw_9) rfl (by rw [cx.2.2.1]; exact hl) rfl hd hf hlo kk
theorem n_newa {n : Int32} {N : Nat} (cx : nCx p s m c cc nL own K) (hP : va_P K.1 gcl ws H) (hD : va_D A ws) (hS : va_S A H0 H locs) (hA : ∀ q, H0.size ≤ q → A q) (hn : ¬ n < 0) (hN : n.toNatClampNeg = N) (hbytes : N * componentBytes .int ≤ 536870912) (hcs : cells + 1 ≤ R.cells ∧ slots + N ≤ R.slots) (hdg : decode cc pc = .ok (.newarray .int, 2))
    (kk : ∀ (q : Nat) (H1 : Heap), va_P K.1 gcl (ws ++ [(q, .inl (K.2.1, N, .inl zrow))]) H1 → va_D A (ws ++ [(q, .inl (K.2.1, N, .inl zrow))]) → va_S A H0 H1 locs → W p l e R s m args below meth c H1 locs (cells + 1) (slots + N) Q (F0 m (pc + 2) ls (.ref q :: rest))) : W p l e R s m args below meth c H locs cells slots Q (F0 m pc ls (.int n :: rest)) := by
  refine va_newa (atype := .int) (ty := .int) (a0 := (N, .inl zrow)) cx.1 cx.2.1 (cx.2.2.2.2.ts _ gw_35) rfl cx.2.2.2.2.1 hP hD hS hA (fun _ => rfl) hn hN hbytes hcs.1 hcs.2 hdg (fun q cA H1 hK hP hD hS => ?_)
  have e : cA = K.2.1 := by
    have h1 : s.vm.findClass ("[" ++ FieldType.int.toString) = some cA := (hK.2 2 (cA, .int) rfl).2
    have h2 : s.vm.findClass ("[" ++ FieldType.int.toString) = some K.2.1 := (cx.2.2.2.2.1.2 0 (K.2.1, .int) rfl).2
    exact Option.some.inj (h1.symm.trans h2)
  rw [e] at hP hD
  exact kk q H1 hP hD hS
theorem n_newq {index : Nat} {n : Int32} {N : Nat} (cx : nCx p s m c cc nL own K) (hcl : Cond.classLink own index "RustRails$State" ∈ wsL_law) (hP : va_P K.1 gcl ws H) (hD : va_D A ws) (hS : va_S A H0 H locs) (hA : ∀ q, H0.size ≤ q → A q) (hn : ¬ n < 0) (hN : n.toNatClampNeg = N) (hbytes : N * 4 ≤ 536870912) (hcs : cells + 1 ≤ R.cells ∧ slots + N ≤ R.slots) (hdg : decode cc pc = .ok (.anewarray index, 3))
    (kk : ∀ (q : Nat) (H1 : Heap), va_P K.1 gcl (ws ++ [(q, .inl (K.2.2.2.2, N, .inr (.inr (.inr (.inr (fun _ => none))))))]) H1 → va_D A (ws ++ [(q, .inl (K.2.2.2.2, N, .inr (.inr (.inr (.inr (fun _ => none))))))]) → va_S A H0 H1 locs → W p l e R s m args below meth c H1 locs (cells + 1) (slots + N) Q (F0 m (pc + 3) ls (.ref q :: rest))) : W p l e R s m args below meth c H locs cells slots Q (F0 m pc ls (.int n :: rest)) := by
  refine va_newq (C := "RustRails$State") cx.1 cx.2.1 cx.2.2.2.1 (cx.2.2.2.2.ts _ hcl) cx.2.2.2.2.2.2.2.2 cx.2.2.2.2.1 hP hD hS hA hn hN hbytes hcs.1 hcs.2 hdg (fun q cA H1 hK hP hD hS => ?_)
  have e : cA = K.2.2.2.2 := by
    have h1 := (hK.2 2 (cA, .object "RustRails$State") rfl).2
    have h2 := (cx.2.2.2.2.1.2 1 (K.2.2.2.2, .object "RustRails$State") rfl).2
    obtain ⟨-, -, -, -, -, q1⟩ := h1
    obtain ⟨-, -, -, -, -, q2⟩ := h2
    exact Option.some.inj (q1.symm.trans q2)
  rw [e] at hP hD
  exact kk q H1 hP hD hS
theorem n_new {C : String} {T : u_T} {N ci index : Nat} {fs : List Value} (cx : nCx p s m c cc nL own K) (hin : ∀ w ∈ u_ws C T N, w ∈ wsL_law) (ty : Nat → FieldType) (hty : ∀ k, k < N → parseFieldDescriptor (T k).2.2.1 = some (ty k)) (hcl : Cond.classLink own index C ∈ wsL_law) (hinst : Cond.instantiable C N ∈ wsL_law) (hini : Cond.initialized C ∈ wsL_law) (hc : gcl[ci]? = some (C, T, N)) (hfs : ∀ j, j < N → defaultValue (ty j) = vp_V fs j)
    (hP : va_P K.1 gcl ws H) (hD : va_D A ws) (hS : va_S A H0 H locs) (hA : ∀ q, H0.size ≤ q → A q) (hcs : cells + 1 ≤ R.cells ∧ slots + N ≤ R.slots) (hdg : decode cc pc = .ok (.new index, 3))
    (kk : ∀ (q : Nat) (H1 : Heap), va_P K.1 gcl (ws ++ [(q, .inr (ci, fs))]) H1 → va_D A (ws ++ [(q, .inr (ci, fs))]) → va_S A H0 H1 locs → W p l e R s m args below meth c H1 locs (cells + 1) (slots + N) Q (F0 m (pc + 3) ls (.ref q :: rest))) : W p l e R s m args below meth c H locs cells slots Q (F0 m pc ls rest) :=
  va_new (C := C) (T := T) (N := N) (ci := ci) (fs := fs) cx.1 cx.2.1 (Ts := wsL_law) cx.2.2.2.2.ts hin ty hty cx.2.2.2.1 (cx.2.2.2.2.ts _ hcl) (cx.2.2.2.2.ts _ hinst) (cx.2.2.2.2.ts _ hini) cx.2.2.2.2.1 hP hD hS hA hc hfs hcs.1 hcs.2 hdg kk
/-- a final field of the object under construction, which is the world's first -/
theorem n_putF {C : String} {T : u_T} {N ci index a q : Nat} {fs : List Value} {wr : va_W} (cx : nCx p s m c cc nL own K) (hin : ∀ w ∈ u_ws C T N, w ∈ wsL_law) (ty : Nat → FieldType) (hty : ∀ k, k < N → parseFieldDescriptor (T k).2.2.1 = some (ty k)) (hnm : ∀ a, a < N → ∀ b, b < N → a ≠ b → (T a).2.1 ≠ (T b).2.1) (hc : gcl[ci]? = some (C, T, N))
    (hP : va_P K.1 gcl ((a, .inr (ci, fs)) :: wr) H) (hD : va_D A ((a, .inr (ci, fs)) :: wr)) (hS : va_S A H0 H locs) (f : Nat) (hf : f < N) (hlink : Cond.fieldLink own index C (T f).2.1 (T f).2.2.1 ∈ wsL_law) (hC : (T f).1 = C) (hfin : (T f).2.2.2 = true) (hin2 : meth.name = "<init>") (hdecl : (T f).1 = own) (hnar : narrow (ty f) (.ref q) = .ref q) (hfit : fits (ty f) (.ref q) = true) (hl : f < fs.length) (hdg : decode cc pc = .ok (.putfield index, 3))
    (kk : ∀ (H1 : Heap) (locs1 : List Loc), va_P K.1 gcl ((a, .inr (ci, fs.set f (.ref q))) :: wr) H1 → va_D A ((a, .inr (ci, fs.set f (.ref q))) :: wr) → va_S A H0 H1 locs1 → W p l e R s m args below meth c H1 locs1 cells slots Q (F0 m (pc + 3) ls rest)) : W p l e R s m args below meth c H locs cells slots Q (F0 m pc ls (.ref q :: .ref a :: rest)) :=
  va_putF (C := C) (T := T) (N := N) (ref := C) (ty := ty f) cx.1 cx.2.1 (Ts := wsL_law) cx.2.2.2.2.ts hin ty hty hnm cx.2.2.2.1 cx.2.2.2.2.1 hP hD hS 0 rfl hc f hf (cx.2.2.2.2.ts _ hlink) (fun y hy => by rw [hC] at hy; exact hy) hfin hin2 hdecl (hty f hf) hnar hfit hl hdg kk
theorem n_free {q : Nat} {en : va_E} (hD : va_D A (ws ++ [(q, en)])) (hS : va_S A H0 H locs) (hA : ∀ x, H0.size ≤ x → A x) : ∀ x, va_A [(q, en)] H.size x → A x := by
  intro x h
  rcases h with ⟨k, e', h⟩ | h
  · have hk : k < 1 := (List.getElem?_eq_some_iff.mp h).1
    rw [show k = 0 by omega] at h
    have hq : q = x := congrArg Prod.fst (Option.some.inj h)
    have := hD.2 ws.length (q, en) (by rw [List.getElem?_append_right (Nat.le_refl _), Nat.sub_self]; rfl)
    rw [← hq]; exact this
  · exact hA x (Nat.le_trans hS.1 h)
theorem n_blind {h0 sz : Nat} {en : va_E} : FrameBlind (va_Pc [.ref h0] (nPre K h0 en sz)) := fun a U g mk q => ⟨q.1, q.2.1, q.2.2.1, q.2.2.2.1.calling, q.2.2.2.2⟩
theorem n_at {q : Nat} {en : va_E} (hF : nF K s) (hP : va_P K.1 gcl (ws ++ [(q, en)]) H) (U : State) (hU : U.heap = H) (hW : s.WarmedH U.vm) : va_Pc [.ref q] (nPre K q en H.size) #[.ref q] U := by
  have last : (ws ++ [(q, en)])[ws.length]? = some (q, en) := by rw [List.getElem?_append_right (Nat.le_refl _), Nat.sub_self]; rfl
  refine ⟨rfl, by rw [hU], ?_, hF.warm hW, ⟨fun i j x y hi hj _ => ?_, fun _ _ _ => trivial⟩⟩
  · rw [hU]
    intro k x hx
    have hk : k < 1 := (List.getElem?_eq_some_iff.mp hx).1
    rw [show k = 0 by omega] at hx
    have hx2 : (q, en) = x := Option.some.inj hx
    rw [← hx2]
    exact hP ws.length _ last
  · have h1 : i < 1 := (List.getElem?_eq_some_iff.mp hi).1
    have h2 : j < 1 := (List.getElem?_eq_some_iff.mp hj).1
    omega
theorem n_aft {X : Type} {y : MethodName} {q mc ms : Nat} {en : va_E} {u0 : X → Nat} {L : X → va_W} {a : Array Value} {st0 : List Value} (hP : va_P K.1 gcl (ws ++ [(q, en)]) H) (hD : va_D A (ws ++ [(q, en)])) (hS : va_S A H0 H locs) (hA : ∀ x, H0.size ≤ x → A x) (hr : va_Run p l e R s m args below meth c H locs cells slots mc ms (F0 m pc ls st0) rest (nQ K q en u0 L H.size a) (va_A [(q, en)] H.size))
    (kk : ∀ (u : X) (H1 : Heap) (locs1 : List Loc), u0 u = q → va_P K.1 gcl (ws ++ L u) H1 → va_D A (ws ++ L u) → va_S A H0 H1 locs1 → W p l e R s m args below meth c H1 locs1 (cells + mc) (slots + ms) Q (F0 m (pc + 3) ls rest)) : W p l e R s m args below meth c H locs cells slots Q (F0 m pc ls st0) := by
  have hFc := n_free hD hS hA
  refine va_callv hr hS (fun x _ h => hFc x h) hFc (fun u t H1 locs1 ht hvm hu hB hz hk hS => ?_)
  obtain ⟨hP1, hD1⟩ := hB
  rw [ht] at hP1
  obtain ⟨g1, g2⟩ := n_join hP hD hk hFc hP1 hD1
  exact kk u H1 locs1 hu g1 g2 hS
theorem n_callN {X : Type} {y : MethodName} {bytes : ByteArray} {maxL f lo index q mc ms : Nat} {host : String} {en : va_E} {u0 : X → Nat} {L : X → va_W} (cx : nCx p s m c cc nL own K) (hM : Nc l K y bytes maxL f lo mc ms en u0 L) (hlk : (own, index, y, host) ∈ gNm) (hy : gY y bytes maxL none 0) (hi : Cond.instanceMethod y ∈ wsL_law) (hnm : y.name = "<init>")
    (hP : va_P K.1 gcl (ws ++ [(q, en)]) H) (hD : va_D A (ws ++ [(q, en)])) (hS : va_S A H0 H locs) (hA : ∀ x, H0.size ≤ x → A x) (hR : f + 1 ≤ R.frames ∧ 8 + (maxL + 11) + lo ≤ R.locals) (hcs : cells + mc ≤ R.cells ∧ slots + ms ≤ R.slots) (hl : ls.size = nL) (hW : (rest.map fun v => v.category).sum ≤ 8) (hdg : decode cc pc = .ok (.invokespecial index, 3))
    (kk : ∀ (u : X) (H1 : Heap) (locs1 : List Loc), u0 u = q → va_P K.1 gcl (ws ++ L u) H1 → va_D A (ws ++ L u) → va_S A H0 H1 locs1 → W p l e R s m args below meth c H1 locs1 (cells + mc) (slots + ms) Q (F0 m (pc + 3) ls rest)) : W p l e R s m args below meth c H locs cells slots Q (F0 m pc ls (.ref q :: rest)) := by
  have cw : va_CN R s args own index y host bytes maxL none [Cond.code y bytes maxL none] (gRx f lo mc ms) mc ms 0 := by
    refine ⟨⟨rfl, rfl, hR.1, hR.2, fun w hw a' U hW => ?_, List.mem_singleton.mpr rfl⟩, cx.2.2.2.2.ts _ hy.1, cx.2.2.2.2.ts _ hy.2.1, ⟨hy.2.2.1, hy.2.2.2.1⟩, fun sig h => ?_, va_Nw.use rfl (cx.2.2.2.2.2.2.1 _ hlk)⟩
    · rw [List.mem_singleton.mp hw]
      exact word_at hW (good_of_word (gw_good _ hy.1)) (cx.2.2.2.2.2.1 _ hy.1)
    · have h2 := hy.2.2.2.2
      rw [h] at h2
      exact (Option.some.inj h2).symm
  exact n_aft (y := y) hP hD hS hA (va_runIN (As := []) (rest := rest) ⟨cx.1, cx.2.1, cx.2.2.1, cx.2.2.2.1, cx.2.2.2.2.ts⟩ (hM q H.size) ⟨cw, hnm, cx.2.2.2.2.ts _ hi⟩ ⟨n_blind, n_at cx.2.2.2.2 hP⟩ rfl rfl hl rfl (lv_room hW) hdg hcs) kk
theorem n_callI {X : Type} {y : MethodName} {bytes : ByteArray} {maxL f lo index q mc ms : Nat} {en : va_E} {u0 : X → Nat} {L : X → va_W} (cx : nCx p s m c cc nL own K) (hM : Nc l K y bytes maxL f lo mc ms en u0 L) (hlk : Cond.methodLink own index y ∈ wsL_law) (hy : gY y bytes maxL none 0) (hi : Cond.instanceMethod y ∈ wsL_law) (hnm : y.name = "<init>")
    (hP : va_P K.1 gcl (ws ++ [(q, en)]) H) (hD : va_D A (ws ++ [(q, en)])) (hS : va_S A H0 H locs) (hA : ∀ x, H0.size ≤ x → A x) (hR : f + 1 ≤ R.frames ∧ 8 + (maxL + 11) + lo ≤ R.locals) (hcs : cells + mc ≤ R.cells ∧ slots + ms ≤ R.slots) (hl : ls.size = nL) (hW : (rest.map fun v => v.category).sum ≤ 8) (hdg : decode cc pc = .ok (.invokespecial index, 3))
    (kk : ∀ (u : X) (H1 : Heap) (locs1 : List Loc), u0 u = q → va_P K.1 gcl (ws ++ L u) H1 → va_D A (ws ++ L u) → va_S A H0 H1 locs1 → W p l e R s m args below meth c H1 locs1 (cells + mc) (slots + ms) Q (F0 m (pc + 3) ls rest)) : W p l e R s m args below meth c H locs cells slots Q (F0 m pc ls (.ref q :: rest)) := by
  have cw : CallB R s args own index y bytes maxL none [Cond.code y bytes maxL none] (gRx f lo mc ms) mc ms 0 := by
    refine ⟨rfl, rfl, hR.1, hR.2, fun w hw a' U hW => ?_, List.mem_singleton.mpr rfl, cx.2.2.2.2.ts _ hy.1, cx.2.2.2.2.ts _ hy.2.1, ⟨hy.2.2.1, hy.2.2.2.1⟩, fun sig h => ?_, cx.2.2.2.2.ts _ hlk⟩
    · rw [List.mem_singleton.mp hw]
      exact word_at hW (good_of_word (gw_good _ hy.1)) (cx.2.2.2.2.2.1 _ hy.1)
    · have h2 := hy.2.2.2.2
      rw [h] at h2
      exact (Option.some.inj h2).symm
  exact n_aft (y := y) hP hD hS hA (va_runI (As := []) (rest := rest) ⟨cx.1, cx.2.1, cx.2.2.1, cx.2.2.2.1, cx.2.2.2.2.ts⟩ (hM q H.size) ⟨cw, hnm, cx.2.2.2.2.ts _ hi⟩ ⟨n_blind, n_at cx.2.2.2.2 hP⟩ rfl rfl hl rfl (lv_room hW) hdg hcs) kk
theorem n_ret {X : Type} {h0 mc ms : Nat} {en : va_E} {u0 : X → Nat} {L : X → va_W} (cx : nCx p s m c cc nL own K) (hr : meth.sig.returnType = none) (hlk : meth.locks = false) (u : X) (hu : u0 u = h0) (hP : va_P K.1 gcl (L u) H) (hD : va_D (va_A [(h0, en)] s.heap.size) (L u)) (hS : va_S (va_A [(h0, en)] s.heap.size) s.heap H locs) (hcs : cells ≤ mc ∧ slots ≤ ms) (hdg : decode cc pc = .ok (.return_, 1)) :
    W p l e R s m args below meth c H locs cells slots (MQ below (nQ K h0 en u0 L s.heap.size) args s mc ms (va_A [(h0, en)] s.heap.size)) (F0 m pc ls []) :=
  W.widen hcs.1 hcs.2 (W.vret cx.1 cx.2.1 hr (fun t ht hW => ⟨⟨u, rfl, hu, by rw [ht]; exact hP, hD⟩, hS.F ht⟩) hS.2.2 hdg hlk)
end NW
