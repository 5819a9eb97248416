/-! ===== worlds told by the games: one object, two objects ===== -/
abbrev At : Type := Nat × St
abbrev At2 : Type := At × At
def IAt (u : At) (S : Sg) : Prop := IC u.2 S ∧ IV u.1 u.2
def gPA (G : gG) (u : At) (H : Heap) : Prop := ∃ S, IAt u S ∧ gP G S H
def gPB (G K : gG) (u : At2) (H : Heap) : Prop := gPA G u.1 H ∧ gPA K u.2 H
/-- the addresses of a world -/
def gNo (G : gG) : Nat → Prop := fun q => ∃ k, k < gN G ∧ q = G.2.1 k
def gN2 (G K : gG) : Nat → Prop := fun q => gNo G q ∨ gNo K q
def gAr (N : Nat → Prop) (sz : Nat) : Nat → Prop := fun q => N q ∨ sz ≤ q
def gAp (G K : gG) : Prop := ∀ i j : Nat, i < gN G → j < gN K → G.2.1 i ≠ K.2.1 j
/-- what else a world has: nothing; a second object; the script -/
def E0 : State → Prop := fun _ => True
def E2 (G K : gG) : State → Prop := fun U => gF K U ∧ gAp G K
def EX (N : Nat → Prop) (b L : Nat) (xs : Nat → Int32) : State → Prop := fun U => va_X b L xs U U.heap ∧ b < U.heap.size ∧ ¬ N b
def E2X (G K : gG) (b L : Nat) (xs : Nat → Int32) : State → Prop := fun U => E2 G K U ∧ EX (gN2 G K) b L xs U
def gPr (G : gG) (N : Nat → Prop) (E : State → Prop) (P : Heap → Prop) (sz : Nat) : State → Prop := fun U => (U.heap.size = sz ∧ P U.heap ∧ gF G U ∧ E U) ∧ gX U ∧ gZ (gAr N sz) U U.heap
def gQr (P' : Heap → Prop) (v : Option Value) (A : Nat → Prop) : Array Value → State → Outcome → State → Prop := fun _ st oc t => (oc = .returned v ∧ P' t.heap) ∧ va_F A st t
def gC (l : Launch) (y : MethodName) (ws : List Cond) (rm : Room) (G : gG) (N : Nat → Prop) (E : State → Prop) (P : Heap → Prop) (av : List Value) (v : Option Value) (P' : Heap → Prop) (mc ms : Nat) : Prop := ∀ sz : Nat, Met l y ws rm (va_Pc av (gPr G N E P sz)) (gQr P' v (gAr N sz)) mc ms (gAr N sz)
def Blind (E : State → Prop) : Prop := ∀ (U : State) (g : JFrame) (mk : MethodId) (a : Array Value), E U → E (U.calling g mk a)
theorem E0_b : Blind E0 := fun _ _ _ _ h => h
theorem E2_b {G K : gG} : Blind (E2 G K) := fun _ _ _ _ h => ⟨h.1.calling, h.2⟩
theorem EX_b {N : Nat → Prop} {b L : Nat} {xs : Nat → Int32} : Blind (EX N b L xs) := fun U _ _ _ h => ⟨h.1.moved (Vm.Alike.refl U.vm), h.2⟩
theorem E2X_b {G K : gG} {b L : Nat} {xs : Nat → Int32} : Blind (E2X G K b L xs) := fun U g mk a h => ⟨E2_b U g mk a h.1, EX_b U g mk a h.2⟩
theorem gC_of {l : Launch} {y : MethodName} {cc : ByteArray} {maxL : Nat} {ret : Option FieldType} {f lo mc ms : Nat} {G : gG} {N : Nat → Prop} {E : State → Prop} {P P' : Heap → Prop} {av : List Value} {v : Option Value} (hy : plainName y.cls = true) (hlen : (lg_sl av).length ≤ maxL)
    (body : ∀ (p : Program) (e : Env) (s : State) (m : MethodId) (below : List Frame) (meth : Method) (c : Code) (ls : Array Slot), gCx p s m c cc maxL y.cls G → E s → gX s → gZ (gAr N s.heap.size) s s.heap → meth.sig.returnType = ret → meth.locks = false → P s.heap → va_S (gAr N s.heap.size) s.heap s.heap [] → lv_has ls maxL (lv_args 0 av) →
      W p l e (gRx f lo mc ms) s m av.toArray below meth c s.heap [] 0 0 (MQ below (gQr P' v (gAr N s.heap.size)) av.toArray s mc ms (gAr N s.heap.size)) (F0 m 0 ls [])) : gC l y [Cond.code y cc maxL ret] (gRx f lo mc ms) G N E P av v P' mc ms := by
  intro sz
  refine Met.ofW (cc := cc) (maxL := maxL) (ret := ret) hy rfl ?_
  intro p e s m args below meth c s₁ B hml hv
  obtain ⟨rfl, ⟨hsz, hP, hF, hE⟩, hX, hZ⟩ := hv
  subst hsz
  have hl := lv_entry av (n := maxL) hlen
  rw [lg_entry_eq]
  exact body p e s m below meth c _ ⟨B.exec, B.bytes, hml, findClass_of_methodNamed B.named, hF⟩ hE hX hZ B.returns B.notSynchronized hP va_S.rf hl
/-- the wrappers' contracts, told by the games -/
theorem gC_of_gCw {l : Launch} {y : MethodName} {ws : List Cond} {rm : Room} {G : gG} {av : List Value} {v : Option Value} {u u' : At} {mc ms : Nat} (h : ∀ S, IAt u S → ∃ S', gCw l y ws rm G av S v S' mc ms ∧ IAt u' S') : gC l y ws rm G (gNo G) E0 (gPA G u) av v (gPA G u') mc ms := by
  intro sz p e h1 h2 h3 s m args below h4 h5 h6 h7
  obtain ⟨ha, ⟨hsz, ⟨S, hI, hP⟩, hF, -⟩, hX, hZ⟩ := h6
  obtain ⟨S', hM, hI'⟩ := h S hI
  obtain ⟨n, o, a1, a2, a3, ⟨⟨a4, a5⟩, a6⟩, a7⟩ := hM sz p e h1 h2 h3 s m args below h4 h5 ⟨ha, ⟨hsz, hP, hF⟩, hX, hZ⟩ h7
  exact ⟨n, o, a1, a2, a3, ⟨⟨a4, S', hI', a5⟩, a6⟩, a7⟩
theorem gC_of_Ct {l : Launch} {y : MethodName} {ws : List Cond} {f lo : Nat} {G : gG} {av : List Value} {v : Option Value} {u u' : At} (h : ∀ S, IAt u S → ∃ S', Ct l y ws (gR f lo) G av S v S' ∧ IAt u' S') : gC l y ws (gRx f lo 0 0) G (gNo G) E0 (gPA G u) av v (gPA G u') 0 0 := by
  intro sz p e h1 h2 h3 s m args below h4 h5 h6 h7
  obtain ⟨ha, ⟨hsz, ⟨S, hI, hP⟩, hF, -⟩, -, -⟩ := h6
  obtain ⟨S', hM, hI'⟩ := h S hI
  obtain ⟨n, o, a1, a2, a3, ⟨⟨a4, a5⟩, a6⟩, a7⟩ := hM sz p e h1 h2 h3 s m args below h4 h5 ⟨ha, hsz, hP, hF⟩ h7
  exact ⟨n, o, a1, a2, a3, ⟨⟨a4, S', hI', a5⟩, a6⟩, a7⟩
theorem gAr_mono {N M : Nat → Prop} {a b : Nat} (h : a ≤ b) (hN : ∀ q, M q → N q) : ∀ q, gAr M b q → gAr N a q := fun q hq => hq.elim (fun hq => Or.inl (hN q hq)) (fun hq => Or.inr (Nat.le_trans h hq))
theorem gZ.to {A B : Nat → Prop} {s U : State} {H : Heap} {locs : List Loc} (hZ : gZ A s s.heap) (hS : va_S A s.heap H locs) (hAB : ∀ q, B q → A q) (hvm : s.vm.Alike U.vm) : gZ B U H :=
  ⟨((hZ.1.kept hS.2.1).narrow hAB).moved hvm, ((hZ.2.kept hS.2.1).narrow hAB).moved hvm⟩
theorem gPA_keep {K : gG} {u : At} {H H1 : Heap} (h : gPA K u H) (hk : ∀ k, k < gN K → K.2.1 k < H.size → H1[K.2.1 k]? = H[K.2.1 k]?) : gPA K u H1 := by
  obtain ⟨S, hI, hP⟩ := h
  refine ⟨S, hI, fun j q hq => ?_⟩
  have h1 := hP j q hq
  have hj : j < gN K := Decidable.byContradiction fun hn => by rw [gw_no hn] at hq; cases hq
  rw [gw_at hj] at hq
  have e : q.1 = K.2.1 j := by rw [← Option.some.inj hq]
  have hlt : q.1 < H.size := h1.lt
  exact h1.kept (by rw [e]; exact hk j hj (by rw [← e]; exact hlt))
section GAX
variable {p : Program} {l : Launch} {e : Env} {R : Room} {s : State} {m : MethodId} {args : Array Value} {below : List Frame} {meth : Method} {c : Code} {H : Heap} {locs : List Loc} {cells slots : Nat} {Q : State → Prop}
variable {cc : ByteArray} {nL pc : Nat} {ls : Array Slot} {rest : List Value} {G G' K : gG} {own : String} {H0 : Heap} {sz mc ms : Nat} {N N' : Nat → Prop} {E' : State → Prop} {P1 P2 : Heap → Prop}
theorem ga_after {A1 A0 : Nat → Prop} {a : Array Value} {v : Option Value} {st0 : List Value} {free : Addr → Prop} (hr : va_Run p l e R s m args below meth c H locs cells slots mc ms (F0 m pc ls st0) rest (gQr P2 v A1 a) free) (hS : va_S A0 H0 H locs) (hA : ∀ q, q < H.size → A1 q → A0 q) (hf : ∀ q, free q → A0 q)
    (kk : ∀ (H1 : Heap) (locs1 : List Loc), P2 H1 → (∀ q, q < H.size → ¬ A1 q → H1[q]? = H[q]?) → va_S A0 H0 H1 locs1 → W p l e R s m args below meth c H1 locs1 (cells + mc) (slots + ms) Q (F0 m (pc + 3) ls (v.toList ++ rest))) : W p l e R s m args below meth c H locs cells slots Q (F0 m pc ls st0) := by
  intro T hT X
  obtain ⟨v', st₀, t, T', L, h0, X', hL, e1, e2, ⟨⟨hv, hb⟩, hz, hk⟩, st⟩ := hr T hT X
  cases hv
  rw [h0] at hz hk
  obtain ⟨t2, a1, b1⟩ := kk T'.heap (locs ++ L) (by rw [e1]; exact hb) (fun q h1 h2 => by rw [e1]; exact hk q h1 h2)
    ⟨Nat.le_trans hS.1 (by rw [e1]; exact hz), fun q h1 h2 => by rw [e1, hk q (Nat.lt_of_lt_of_le h1 hS.1) (fun z => h2 (hA q (Nat.lt_of_lt_of_le h1 hS.1) z))]; exact hS.2.1 q h1 h2, fun q hq => by
      rcases List.mem_append.mp hq with h | h
      · exact hS.2.2 q h
      · exact hf _ (hL q h)⟩ T' rfl X'
  exact ⟨t2, st t2 a1, b1⟩
theorem gPr_blind {E : State → Prop} (hb : Blind E) {av : List Value} : FrameBlind (va_Pc av (gPr G N E P1 sz)) := fun a U g mk q =>
  ⟨q.1, ⟨q.2.1.1, q.2.1.2.1, q.2.1.2.2.1.calling, hb U g mk a q.2.1.2.2.2⟩, gX.warm (State.WarmedH.refl U) q.2.2.1, q.2.2.2.1.moved (Vm.Alike.refl U.vm), q.2.2.2.2.moved (Vm.Alike.refl U.vm)⟩
theorem gPr_at {av : List Value} (hX : gX s) (hZ : gZ (gAr N s.heap.size) s s.heap) (hS : va_S (gAr N s.heap.size) s.heap H locs) (hN : ∀ q, N' q → N q) (hP : P1 H) (hE : ∀ U : State, U.heap = H → s.WarmedH U.vm → gF G' U ∧ E' U) (U : State) (hU : U.heap = H) (hW : s.WarmedH U.vm) : va_Pc av (gPr G' N' E' P1 H.size) av.toArray U :=
  ⟨rfl, ⟨by rw [hU], by rw [hU]; exact hP, hE U hU hW⟩, hX.warm hW, by rw [hU]; exact hZ.to hS (gAr_mono hS.1 hN) hW.alike⟩
theorem ga_S {y : MethodName} {bytes : ByteArray} {maxL n f lo index : Nat} {ret : Option FieldType} {As : List Value} {st0 : List Value} {v : Option Value} (cx : gCx p s m c cc nL own G) (hX : gX s) (hZ : gZ (gAr N s.heap.size) s s.heap) (hS : va_S (gAr N s.heap.size) s.heap H locs)
    (hM : gC l y [Cond.code y bytes maxL ret] (gRx f lo mc ms) G' N' E' P1 As v P2 mc ms) (hb : Blind E') (hN : ∀ q, N' q → N q) (hP : P1 H) (hE : ∀ U : State, U.heap = H → s.WarmedH U.vm → gF G' U ∧ E' U)
    (hlk : Cond.methodLink own index y ∈ wsL_law) (hy : gY y bytes maxL ret n) (hi : Cond.static y ∈ wsL_law)
    (hR : f + 1 ≤ R.frames ∧ 8 + (maxL + 11) + lo ≤ R.locals) (hcs : cells + mc ≤ R.cells ∧ slots + ms ≤ R.slots) (hn : As.length = n) (hl : ls.size = nL) (hst : st0 = As.reverse ++ rest) (hW : (rest.map fun v => v.category).sum ≤ 8) (hdg : decode cc pc = .ok (.invokestatic index, 3))
    (kk : ∀ (H1 : Heap) (locs1 : List Loc), P2 H1 → (∀ q, q < H.size → ¬ gAr N' H.size q → H1[q]? = H[q]?) → va_S (gAr N s.heap.size) s.heap H1 locs1 → W p l e R s m args below meth c H1 locs1 (cells + mc) (slots + ms) Q (F0 m (pc + 3) ls (v.toList ++ rest))) : W p l e R s m args below meth c H locs cells slots Q (F0 m pc ls st0) :=
  ga_after (va_runS (As := As) (rest := rest) ⟨cx.1, cx.2.1, cx.2.2.1, cx.2.2.2.1, cx.2.2.2.2.ts⟩ (hM H.size) ⟨g_callBx cx.2.2.2.2 hy hlk hR, cx.2.2.2.2.ts _ hi⟩ ⟨gPr_blind hb, gPr_at hX hZ hS hN hP hE⟩ rfl hn hl hst (lv_room hW) hdg hcs) hS (fun q _ h => gAr_mono hS.1 hN q h) (gAr_mono hS.1 hN) kk
theorem ga_SW {y : MethodName} {bytes : ByteArray} {maxL n f lo index : Nat} {ret : Option FieldType} {hh : List (Nat × Nat × Nat × Nat)} {As : List Value} {st0 : List Value} {v : Option Value} (cx : gCx p s m c cc nL own G) (hX : gX s) (hZ : gZ (gAr N s.heap.size) s s.heap) (hS : va_S (gAr N s.heap.size) s.heap H locs)
    (hM : gC l y [Cond.codeWith y bytes maxL ret hh] (gRx f lo mc ms) G' N' E' P1 As v P2 mc ms) (hb : Blind E') (hN : ∀ q, N' q → N q) (hP : P1 H) (hE : ∀ U : State, U.heap = H → s.WarmedH U.vm → gF G' U ∧ E' U)
    (hlk : Cond.methodLink own index y ∈ wsL_law) (hini : Cond.initialized y.cls ∈ wsL_law) (hy : Cond.codeWith y bytes maxL ret hh ∈ wsL_law ∧ Cond.static y ∈ wsL_law ∧ (parseMethodDescriptor y.desc).map (fun d => d.parameters.length) = some n) (hne : y.cls ≠ "java/lang/invoke/MethodHandle" ∧ y.cls ≠ "java/lang/invoke/VarHandle")
    (hR : f + 1 ≤ R.frames ∧ 8 + (maxL + 11) + lo ≤ R.locals) (hcs : cells + mc ≤ R.cells ∧ slots + ms ≤ R.slots) (hn : As.length = n) (hl : ls.size = nL) (hst : st0 = As.reverse ++ rest) (hW : (rest.map fun v => v.category).sum ≤ 8) (hdg : decode cc pc = .ok (.invokestatic index, 3))
    (kk : ∀ (H1 : Heap) (locs1 : List Loc), P2 H1 → (∀ q, q < H.size → ¬ gAr N' H.size q → H1[q]? = H[q]?) → va_S (gAr N s.heap.size) s.heap H1 locs1 → W p l e R s m args below meth c H1 locs1 (cells + mc) (slots + ms) Q (F0 m (pc + 3) ls (v.toList ++ rest))) : W p l e R s m args below meth c H locs cells slots Q (F0 m pc ls st0) := by
  refine ga_after (vx_runSW (As := As) (rest := rest) ⟨cx.1, cx.2.1, cx.2.2.1, cx.2.2.2.1, cx.2.2.2.2.ts⟩ (hM H.size) ⟨⟨rfl, rfl, hR.1, hR.2, fun w hw a' U hW => ?_, List.mem_singleton.mpr rfl⟩, cx.2.2.2.2.ts _ hy.1, cx.2.2.2.2.ts _ hini, hne, fun sig h => ?_, cx.2.2.2.2.ts _ hlk, cx.2.2.2.2.ts _ hy.2.1⟩ ⟨gPr_blind hb, gPr_at hX hZ hS hN hP hE⟩ rfl hn hl hst (lv_room hW) hdg hcs) hS (fun q _ h => gAr_mono hS.1 hN q h) (gAr_mono hS.1 hN) kk
  · rw [List.mem_singleton.mp hw]
    exact word_at hW (good_of_word (gw_good _ hy.1)) (cx.2.2.2.2.2.1 _ hy.1)
  · have h2 := hy.2.2
    rw [h] at h2
    exact (Option.some.inj h2).symm
theorem ga_V {y : MethodName} {bytes : ByteArray} {maxL n f lo index : Nat} {ret : Option FieldType} {As : List Value} {st0 : List Value} {v : Option Value} {u : At} (cx : gCx p s m c cc nL own G) (hF' : gF G' s) (hX : gX s) (hZ : gZ (gAr N s.heap.size) s s.heap) (hS : va_S (gAr N s.heap.size) s.heap H locs)
    (hM : gC l y [Cond.code y bytes maxL ret] (gRx f lo mc ms) G' N' E' (gPA G' u) (.ref (G'.2.1 0) :: As) v P2 mc ms) (hb : Blind E') (hN : ∀ q, N' q → N q) (hP : gPA G' u H) (hE : ∀ U : State, U.heap = H → s.WarmedH U.vm → gF G' U ∧ E' U)
    (hq : RX10 = y.cls) (hlk : Cond.methodLink own index y ∈ wsL_law) (hy : gY y bytes maxL ret n) (hi : Cond.instanceMethod y ∈ wsL_law ∧ Cond.selects y.cls y y ∈ wsL_law)
    (hR : f + 1 ≤ R.frames ∧ 8 + (maxL + 11) + lo ≤ R.locals) (hcs : cells + mc ≤ R.cells ∧ slots + ms ≤ R.slots) (hn : As.length = n) (hl : ls.size = nL) (hst : st0 = As.reverse ++ .ref (G'.2.1 0) :: rest) (hW : (rest.map fun v => v.category).sum ≤ 8) (hdg : decode cc pc = .ok (.invokevirtual index, 3))
    (kk : ∀ (H1 : Heap) (locs1 : List Loc), P2 H1 → (∀ q, q < H.size → ¬ gAr N' H.size q → H1[q]? = H[q]?) → va_S (gAr N s.heap.size) s.heap H1 locs1 → W p l e R s m args below meth c H1 locs1 (cells + mc) (slots + ms) Q (F0 m (pc + 3) ls (v.toList ++ rest))) : W p l e R s m args below meth c H locs cells slots Q (F0 m pc ls st0) := by
  have h392 := hF'.hN
  obtain ⟨S, hI, hPS⟩ := hP
  exact ga_after (va_runV (As := As) (rest := rest) ⟨cx.1, cx.2.1, cx.2.2.1, cx.2.2.2.1, cx.2.2.2.2.ts⟩ (hM H.size) ⟨g_callBx cx.2.2.2.2 hy hlk hR, cx.2.2.2.2.ts _ hi.1, cx.2.2.2.2.ts _ hi.2⟩ ⟨gPr_blind hb, by rw [← hq]; exact va_recv hF'.1 hPS (q := (RX10, TX10, 6)) rfl (q0 := 0) (by rw [gw_at (by omega), he_c0]), gPr_at hX hZ hS hN ⟨S, hI, hPS⟩ hE⟩ rfl hn hl hst (lv_room hW) hdg hcs) hS (fun q _ h => gAr_mono hS.1 hN q h) (gAr_mono hS.1 hN) kk
end GAX
/-! ===== the rows of a walk over such worlds ===== -/
def gbs {σ α : Type} (x : Option (Int32 × σ)) (k : Int32 → σ → Option α) : Option α := match x with
  | some (v, s) => k v s
  | none => none
theorem gbs_some {σ α : Type} {x : Option (Int32 × σ)} {k : Int32 → σ → Option α} {y : α} (h : gbs x k = some y) : ∃ v s, x = some (v, s) ∧ k v s = some y := by
  match x with
  | none => cases h
  | some (v, s) => exact ⟨v, s, rfl, h⟩
def gp1 (S : At2) (x : Option (Int32 × At)) : Option (Int32 × At2) := match x with
  | some (v, t) => some (v, (t, S.2))
  | none => none
def gq1 (S : At2) (x : Option (Int32 × At)) : Option (Int32 × At2) := match x with
  | some (v, t) => some (v, (S.1, t))
  | none => none
theorem gp1_some {S T : At2} {x : Option (Int32 × At)} {v : Int32} (h : gp1 S x = some (v, T)) : x = some (v, T.1) ∧ T.2 = S.2 := by
  match x with
  | none => cases h
  | some (w, t) =>
    have := Prod.mk.inj (Option.some.inj h)
    obtain ⟨rfl, rfl⟩ := this
    exact ⟨rfl, rfl⟩
theorem gq1_some {S T : At2} {x : Option (Int32 × At)} {v : Int32} (h : gq1 S x = some (v, T)) : x = some (v, T.2) ∧ T.1 = S.1 := by
  match x with
  | none => cases h
  | some (w, t) =>
    have := Prod.mk.inj (Option.some.inj h)
    obtain ⟨rfl, rfl⟩ := this
    exact ⟨rfl, rfl⟩
section GAW
variable {p : Program} {l : Launch} {e : Env} {R : Room} {s : State} {m : MethodId} {args : Array Value} {below : List Frame} {meth : Method} {c : Code} {H : Heap} {locs : List Loc} {cells slots : Nat} {Q : State → Prop}
variable {cc : ByteArray} {nL pc : Nat} {ls : Array Slot} {rest : List Value} {G G' K : gG} {own : String} {mc ms : Nat} {N : Nat → Prop} {P1 P2 : Heap → Prop} {u u' : At} {w w' : At2}
theorem al_ireti {σ : Type} {P : σ → Heap → Prop} {S S' : σ} {x r : Int32} {mc' ms' : Nat} (cx : gCx p s m c cc nL own G) (hr : meth.sig.returnType = some .int) (hlocks : meth.locks = false) (hP : P S H) (hS : va_S (gAr N s.heap.size) s.heap H locs) (hf : some (x, S) = some (r, S')) (hdg : decode cc pc = .ok (.ireturn, 1)) (hc : cells ≤ mc') (hs : slots ≤ ms') :
    W p l e R s m args below meth c H locs cells slots (MQ below (gQr (P S') (some (.int r)) (gAr N s.heap.size)) args s mc' ms' (gAr N s.heap.size)) (F0 m pc ls [.int x]) := by
  obtain ⟨rfl, rfl⟩ := Prod.mk.inj (Option.some.inj hf)
  exact W.widen hc hs (W.iret (v := x) cx.1 cx.2.1 hr (fun t ht hW => ⟨⟨rfl, by rw [ht]; exact hP⟩, hS.F ht⟩) hS.2.2 hdg hlocks)
theorem al_zreti {σ : Type} {P : σ → Heap → Prop} {S S' : σ} {x r : Int32} {mc' ms' : Nat} (cx : gCx p s m c cc nL own G) (hr : meth.sig.returnType = some .boolean) (hlocks : meth.locks = false) (hP : P S H) (hS : va_S (gAr N s.heap.size) s.heap H locs) (hb : isb x = true) (hf : some (x, S) = some (r, S')) (hdg : decode cc pc = .ok (.ireturn, 1)) (hc : cells ≤ mc') (hs : slots ≤ ms') :
    W p l e R s m args below meth c H locs cells slots (MQ below (gQr (P S') (some (.int r)) (gAr N s.heap.size)) args s mc' ms' (gAr N s.heap.size)) (F0 m pc ls [.int x]) := by
  obtain ⟨rfl, rfl⟩ := Prod.mk.inj (Option.some.inj hf)
  exact W.widen hc hs (W.zret (v := x) cx.1 cx.2.1 hr (isb_nar hb) (fun t ht hW => ⟨⟨rfl, by rw [ht]; exact hP⟩, hS.F ht⟩) hS.2.2 hdg hlocks)
/-- behind a call on the first object, on the second one -/
theorem gPB_1 {H1 : Heap} (hap : gAp G K) (hw : gPB G K w H) (h1 : gPA G w'.1 H1) (e : w'.2 = w.2) (hk : ∀ q, q < H.size → ¬ gAr (gNo G) H.size q → H1[q]? = H[q]?) : gPB G K w' H1 :=
  ⟨h1, by rw [e]; exact gPA_keep hw.2 (fun k hk1 hlt => hk _ hlt (fun z => z.elim (fun ⟨i, hi, ei⟩ => hap i k hi hk1 ei.symm) (fun z => absurd hlt (Nat.not_lt.mpr z))))⟩
theorem gPB_2 {H1 : Heap} (hap : gAp G K) (hw : gPB G K w H) (h1 : gPA K w'.2 H1) (e : w'.1 = w.1) (hk : ∀ q, q < H.size → ¬ gAr (gNo K) H.size q → H1[q]? = H[q]?) : gPB G K w' H1 :=
  ⟨by rw [e]; exact gPA_keep hw.1 (fun k hk1 hlt => hk _ hlt (fun z => z.elim (fun ⟨i, hi, ei⟩ => hap k i hk1 hi ei) (fun z => absurd hlt (Nat.not_lt.mpr z)))), h1⟩
theorem gPB_0 {H1 : Heap} (hw : gPB G K w H) (hk : ∀ q, q < H.size → ¬ gAr (fun _ => False) H.size q → H1[q]? = H[q]?) : gPB G K w H1 :=
  ⟨gPA_keep hw.1 (fun k hk1 hlt => hk _ hlt (fun z => z.elim (fun z => z) (fun z => absurd hlt (Nat.not_lt.mpr z)))), gPA_keep hw.2 (fun k hk1 hlt => hk _ hlt (fun z => z.elim (fun z => z) (fun z => absurd hlt (Nat.not_lt.mpr z))))⟩
theorem a_SW {y : MethodName} {bytes : ByteArray} {maxL n f lo index : Nat} {ret : Option FieldType} {hh : List (Nat × Nat × Nat × Nat)} {As : List Value} {st0 : List Value} {v : Int32} (cx : gCx p s m c cc nL own G) (hX : gX s) (hZ : gZ (gAr (gNo G) s.heap.size) s s.heap) (hw : gPA G u H) (hS : va_S (gAr (gNo G) s.heap.size) s.heap H locs)
    (hM : gC l y [Cond.codeWith y bytes maxL ret hh] (gRx f lo mc ms) G (gNo G) E0 (gPA G u) As (some (.int v)) (gPA G u') mc ms) (hlk : Cond.methodLink own index y ∈ wsL_law) (hini : Cond.initialized y.cls ∈ wsL_law) (hy : Cond.codeWith y bytes maxL ret hh ∈ wsL_law ∧ Cond.static y ∈ wsL_law ∧ (parseMethodDescriptor y.desc).map (fun d => d.parameters.length) = some n) (hne : y.cls ≠ "java/lang/invoke/MethodHandle" ∧ y.cls ≠ "java/lang/invoke/VarHandle")
    (hR : f + 1 ≤ R.frames ∧ 8 + (maxL + 11) + lo ≤ R.locals) (hcs : cells + mc ≤ R.cells ∧ slots + ms ≤ R.slots) (hn : As.length = n) (hl : ls.size = nL) (hst : st0 = As.reverse ++ rest) (hW : (rest.map fun v => v.category).sum ≤ 8) (hdg : decode cc pc = .ok (.invokestatic index, 3))
    (kk : ∀ (H1 : Heap) (locs1 : List Loc), gPA G u' H1 → va_S (gAr (gNo G) s.heap.size) s.heap H1 locs1 → W p l e R s m args below meth c H1 locs1 (cells + mc) (slots + ms) Q (F0 m (pc + 3) ls (.int v :: rest))) : W p l e R s m args below meth c H locs cells slots Q (F0 m pc ls st0) :=
  ga_SW cx hX hZ hS hM E0_b (fun _ h => h) hw (fun U _ hW => ⟨cx.2.2.2.2.warm hW, trivial⟩) hlk hini hy hne hR hcs hn hl hst hW hdg (fun H1 locs1 h1 _ h3 => kk H1 locs1 h1 h3)
theorem b1_SW {y : MethodName} {bytes : ByteArray} {maxL n f lo index : Nat} {ret : Option FieldType} {hh : List (Nat × Nat × Nat × Nat)} {As : List Value} {st0 : List Value} {v : Int32} {x : Option (Int32 × At)} (cx : gCx p s m c cc nL own G) (hE : E2 G K s) (hX : gX s) (hZ : gZ (gAr (gN2 G K) s.heap.size) s s.heap) (hw : gPB G K w H) (hS : va_S (gAr (gN2 G K) s.heap.size) s.heap H locs) (hv : gp1 w x = some (v, w'))
    (hM : ∀ t, x = some (v, t) → gC l y [Cond.codeWith y bytes maxL ret hh] (gRx f lo mc ms) G (gNo G) E0 (gPA G w.1) As (some (.int v)) (gPA G t) mc ms) (hlk : Cond.methodLink own index y ∈ wsL_law) (hini : Cond.initialized y.cls ∈ wsL_law) (hy : Cond.codeWith y bytes maxL ret hh ∈ wsL_law ∧ Cond.static y ∈ wsL_law ∧ (parseMethodDescriptor y.desc).map (fun d => d.parameters.length) = some n) (hne : y.cls ≠ "java/lang/invoke/MethodHandle" ∧ y.cls ≠ "java/lang/invoke/VarHandle")
    (hR : f + 1 ≤ R.frames ∧ 8 + (maxL + 11) + lo ≤ R.locals) (hcs : cells + mc ≤ R.cells ∧ slots + ms ≤ R.slots) (hn : As.length = n) (hl : ls.size = nL) (hst : st0 = As.reverse ++ rest) (hW : (rest.map fun v => v.category).sum ≤ 8) (hdg : decode cc pc = .ok (.invokestatic index, 3))
    (kk : ∀ (H1 : Heap) (locs1 : List Loc), gPB G K w' H1 → va_S (gAr (gN2 G K) s.heap.size) s.heap H1 locs1 → W p l e R s m args below meth c H1 locs1 (cells + mc) (slots + ms) Q (F0 m (pc + 3) ls (.int v :: rest))) : W p l e R s m args below meth c H locs cells slots Q (F0 m pc ls st0) :=
  ga_SW cx hX hZ hS (hM _ (gp1_some hv).1) E0_b (fun _ h => Or.inl h) hw.1 (fun U _ hW => ⟨gF.warm hW cx.2.2.2.2, trivial⟩) hlk hini hy hne hR hcs hn hl hst hW hdg (fun H1 locs1 h1 h2 h3 => kk H1 locs1 (gPB_1 hE.2 hw h1 (gp1_some hv).2 h2) h3)
theorem b2_SW {y : MethodName} {bytes : ByteArray} {maxL n f lo index : Nat} {ret : Option FieldType} {hh : List (Nat × Nat × Nat × Nat)} {As : List Value} {st0 : List Value} {v : Int32} {x : Option (Int32 × At)} (cx : gCx p s m c cc nL own G) (hE : E2 G K s) (hX : gX s) (hZ : gZ (gAr (gN2 G K) s.heap.size) s s.heap) (hw : gPB G K w H) (hS : va_S (gAr (gN2 G K) s.heap.size) s.heap H locs) (hv : gq1 w x = some (v, w'))
    (hM : ∀ t, x = some (v, t) → gC l y [Cond.codeWith y bytes maxL ret hh] (gRx f lo mc ms) K (gNo K) E0 (gPA K w.2) As (some (.int v)) (gPA K t) mc ms) (hlk : Cond.methodLink own index y ∈ wsL_law) (hini : Cond.initialized y.cls ∈ wsL_law) (hy : Cond.codeWith y bytes maxL ret hh ∈ wsL_law ∧ Cond.static y ∈ wsL_law ∧ (parseMethodDescriptor y.desc).map (fun d => d.parameters.length) = some n) (hne : y.cls ≠ "java/lang/invoke/MethodHandle" ∧ y.cls ≠ "java/lang/invoke/VarHandle")
    (hR : f + 1 ≤ R.frames ∧ 8 + (maxL + 11) + lo ≤ R.locals) (hcs : cells + mc ≤ R.cells ∧ slots + ms ≤ R.slots) (hn : As.length = n) (hl : ls.size = nL) (hst : st0 = As.reverse ++ rest) (hW : (rest.map fun v => v.category).sum ≤ 8) (hdg : decode cc pc = .ok (.invokestatic index, 3))
    (kk : ∀ (H1 : Heap) (locs1 : List Loc), gPB G K w' H1 → va_S (gAr (gN2 G K) s.heap.size) s.heap H1 locs1 → W p l e R s m args below meth c H1 locs1 (cells + mc) (slots + ms) Q (F0 m (pc + 3) ls (.int v :: rest))) : W p l e R s m args below meth c H locs cells slots Q (F0 m pc ls st0) :=
  ga_SW cx hX hZ hS (hM _ (gq1_some hv).1) E0_b (fun _ h => Or.inr h) hw.2 (fun U _ hW => ⟨gF.warm hW hE.1, trivial⟩) hlk hini hy hne hR hcs hn hl hst hW hdg (fun H1 locs1 h1 h2 h3 => kk H1 locs1 (gPB_2 hE.2 hw h1 (gq1_some hv).2 h2) h3)
theorem a_S {y : MethodName} {bytes : ByteArray} {maxL n f lo index : Nat} {ret : Option FieldType} {As : List Value} {st0 : List Value} {v : Int32} (cx : gCx p s m c cc nL own G) (hX : gX s) (hZ : gZ (gAr (gNo G) s.heap.size) s s.heap) (hw : gPA G u H) (hS : va_S (gAr (gNo G) s.heap.size) s.heap H locs)
    (hM : gC l y [Cond.code y bytes maxL ret] (gRx f lo mc ms) G (gNo G) E0 (gPA G u) As (some (.int v)) (gPA G u') mc ms) (hlk : Cond.methodLink own index y ∈ wsL_law) (hy : gY y bytes maxL ret n) (hi : Cond.static y ∈ wsL_law)
    (hR : f + 1 ≤ R.frames ∧ 8 + (maxL + 11) + lo ≤ R.locals) (hcs : cells + mc ≤ R.cells ∧ slots + ms ≤ R.slots) (hn : As.length = n) (hl : ls.size = nL) (hst : st0 = As.reverse ++ rest) (hW : (rest.map fun v => v.category).sum ≤ 8) (hdg : decode cc pc = .ok (.invokestatic index, 3))
    (kk : ∀ (H1 : Heap) (locs1 : List Loc), gPA G u' H1 → va_S (gAr (gNo G) s.heap.size) s.heap H1 locs1 → W p l e R s m args below meth c H1 locs1 (cells + mc) (slots + ms) Q (F0 m (pc + 3) ls (.int v :: rest))) : W p l e R s m args below meth c H locs cells slots Q (F0 m pc ls st0) :=
  ga_S cx hX hZ hS hM E0_b (fun _ h => h) hw (fun U _ hW => ⟨cx.2.2.2.2.warm hW, trivial⟩) hlk hy hi hR hcs hn hl hst hW hdg (fun H1 locs1 h1 _ h3 => kk H1 locs1 h1 h3)
theorem b1_S {y : MethodName} {bytes : ByteArray} {maxL n f lo index : Nat} {ret : Option FieldType} {As : List Value} {st0 : List Value} {v : Int32} {x : Option (Int32 × At)} (cx : gCx p s m c cc nL own G) (hE : E2 G K s) (hX : gX s) (hZ : gZ (gAr (gN2 G K) s.heap.size) s s.heap) (hw : gPB G K w H) (hS : va_S (gAr (gN2 G K) s.heap.size) s.heap H locs) (hv : gp1 w x = some (v, w'))
    (hM : ∀ t, x = some (v, t) → gC l y [Cond.code y bytes maxL ret] (gRx f lo mc ms) G (gNo G) E0 (gPA G w.1) As (some (.int v)) (gPA G t) mc ms) (hlk : Cond.methodLink own index y ∈ wsL_law) (hy : gY y bytes maxL ret n) (hi : Cond.static y ∈ wsL_law)
    (hR : f + 1 ≤ R.frames ∧ 8 + (maxL + 11) + lo ≤ R.locals) (hcs : cells + mc ≤ R.cells ∧ slots + ms ≤ R.slots) (hn : As.length = n) (hl : ls.size = nL) (hst : st0 = As.reverse ++ rest) (hW : (rest.map fun v => v.category).sum ≤ 8) (hdg : decode cc pc = .ok (.invokestatic index, 3))
    (kk : ∀ (H1 : Heap) (locs1 : List Loc), gPB G K w' H1 → va_S (gAr (gN2 G K) s.heap.size) s.heap H1 locs1 → W p l e R s m args below meth c H1 locs1 (cells + mc) (slots + ms) Q (F0 m (pc + 3) ls (.int v :: rest))) : W p l e R s m args below meth c H locs cells slots Q (F0 m pc ls st0) :=
  ga_S cx hX hZ hS (hM _ (gp1_some hv).1) E0_b (fun _ h => Or.inl h) hw.1 (fun U _ hW => ⟨gF.warm hW cx.2.2.2.2, trivial⟩) hlk hy hi hR hcs hn hl hst hW hdg (fun H1 locs1 h1 h2 h3 => kk H1 locs1 (gPB_1 hE.2 hw h1 (gp1_some hv).2 h2) h3)
theorem b2_S {y : MethodName} {bytes : ByteArray} {maxL n f lo index : Nat} {ret : Option FieldType} {As : List Value} {st0 : List Value} {v : Int32} {x : Option (Int32 × At)} (cx : gCx p s m c cc nL own G) (hE : E2 G K s) (hX : gX s) (hZ : gZ (gAr (gN2 G K) s.heap.size) s s.heap) (hw : gPB G K w H) (hS : va_S (gAr (gN2 G K) s.heap.size) s.heap H locs) (hv : gq1 w x = some (v, w'))
    (hM : ∀ t, x = some (v, t) → gC l y [Cond.code y bytes maxL ret] (gRx f lo mc ms) K (gNo K) E0 (gPA K w.2) As (some (.int v)) (gPA K t) mc ms) (hlk : Cond.methodLink own index y ∈ wsL_law) (hy : gY y bytes maxL ret n) (hi : Cond.static y ∈ wsL_law)
    (hR : f + 1 ≤ R.frames ∧ 8 + (maxL + 11) + lo ≤ R.locals) (hcs : cells + mc ≤ R.cells ∧ slots + ms ≤ R.slots) (hn : As.length = n) (hl : ls.size = nL) (hst : st0 = As.reverse ++ rest) (hW : (rest.map fun v => v.category).sum ≤ 8) (hdg : decode cc pc = .ok (.invokestatic index, 3))
    (kk : ∀ (H1 : Heap) (locs1 : List Loc), gPB G K w' H1 → va_S (gAr (gN2 G K) s.heap.size) s.heap H1 locs1 → W p l e R s m args below meth c H1 locs1 (cells + mc) (slots + ms) Q (F0 m (pc + 3) ls (.int v :: rest))) : W p l e R s m args below meth c H locs cells slots Q (F0 m pc ls st0) :=
  ga_S cx hX hZ hS (hM _ (gq1_some hv).1) E0_b (fun _ h => Or.inr h) hw.2 (fun U _ hW => ⟨gF.warm hW hE.1, trivial⟩) hlk hy hi hR hcs hn hl hst hW hdg (fun H1 locs1 h1 h2 h3 => kk H1 locs1 (gPB_2 hE.2 hw h1 (gq1_some hv).2 h2) h3)
theorem a_V {y : MethodName} {bytes : ByteArray} {maxL n f lo index : Nat} {ret : Option FieldType} {As : List Value} {st0 : List Value} {v : Int32} (cx : gCx p s m c cc nL own G) (hX : gX s) (hZ : gZ (gAr (gNo G) s.heap.size) s s.heap) (hw : gPA G u H) (hS : va_S (gAr (gNo G) s.heap.size) s.heap H locs)
    (hM : gC l y [Cond.code y bytes maxL ret] (gRx f lo mc ms) G (gNo G) E0 (gPA G u) (.ref (G.2.1 0) :: As) (some (.int v)) (gPA G u') mc ms) (hq : RX10 = y.cls) (hlk : Cond.methodLink own index y ∈ wsL_law) (hy : gY y bytes maxL ret n) (hi : Cond.instanceMethod y ∈ wsL_law ∧ Cond.selects y.cls y y ∈ wsL_law)
    (hR : f + 1 ≤ R.frames ∧ 8 + (maxL + 11) + lo ≤ R.locals) (hcs : cells + mc ≤ R.cells ∧ slots + ms ≤ R.slots) (hn : As.length = n) (hl : ls.size = nL) (hst : st0 = As.reverse ++ .ref (G.2.1 0) :: rest) (hW : (rest.map fun v => v.category).sum ≤ 8) (hdg : decode cc pc = .ok (.invokevirtual index, 3))
    (kk : ∀ (H1 : Heap) (locs1 : List Loc), gPA G u' H1 → va_S (gAr (gNo G) s.heap.size) s.heap H1 locs1 → W p l e R s m args below meth c H1 locs1 (cells + mc) (slots + ms) Q (F0 m (pc + 3) ls (.int v :: rest))) : W p l e R s m args below meth c H locs cells slots Q (F0 m pc ls st0) :=
  ga_V cx cx.2.2.2.2 hX hZ hS hM E0_b (fun _ h => h) hw (fun U _ hW => ⟨cx.2.2.2.2.warm hW, trivial⟩) hq hlk hy hi hR hcs hn hl hst hW hdg (fun H1 locs1 h1 _ h3 => kk H1 locs1 h1 h3)
theorem b1_V {y : MethodName} {bytes : ByteArray} {maxL n f lo index : Nat} {ret : Option FieldType} {As : List Value} {st0 : List Value} {v : Int32} {x : Option (Int32 × At)} (cx : gCx p s m c cc nL own G) (hE : E2 G K s) (hX : gX s) (hZ : gZ (gAr (gN2 G K) s.heap.size) s s.heap) (hw : gPB G K w H) (hS : va_S (gAr (gN2 G K) s.heap.size) s.heap H locs) (hv : gp1 w x = some (v, w'))
    (hM : ∀ t, x = some (v, t) → gC l y [Cond.code y bytes maxL ret] (gRx f lo mc ms) G (gNo G) E0 (gPA G w.1) (.ref (G.2.1 0) :: As) (some (.int v)) (gPA G t) mc ms) (hq : RX10 = y.cls) (hlk : Cond.methodLink own index y ∈ wsL_law) (hy : gY y bytes maxL ret n) (hi : Cond.instanceMethod y ∈ wsL_law ∧ Cond.selects y.cls y y ∈ wsL_law)
    (hR : f + 1 ≤ R.frames ∧ 8 + (maxL + 11) + lo ≤ R.locals) (hcs : cells + mc ≤ R.cells ∧ slots + ms ≤ R.slots) (hn : As.length = n) (hl : ls.size = nL) (hst : st0 = As.reverse ++ .ref (G.2.1 0) :: rest) (hW : (rest.map fun v => v.category).sum ≤ 8) (hdg : decode cc pc = .ok (.invokevirtual index, 3))
    (kk : ∀ (H1 : Heap) (locs1 : List Loc), gPB G K w' H1 → va_S (gAr (gN2 G K) s.heap.size) s.heap H1 locs1 → W p l e R s m args below meth c H1 locs1 (cells + mc) (slots + ms) Q (F0 m (pc + 3) ls (.int v :: rest))) : W p l e R s m args below meth c H locs cells slots Q (F0 m pc ls st0) :=
  ga_V cx cx.2.2.2.2 hX hZ hS (hM _ (gp1_some hv).1) E0_b (fun _ h => Or.inl h) hw.1 (fun U _ hW => ⟨gF.warm hW cx.2.2.2.2, trivial⟩) hq hlk hy hi hR hcs hn hl hst hW hdg (fun H1 locs1 h1 h2 h3 => kk H1 locs1 (gPB_1 hE.2 hw h1 (gp1_some hv).2 h2) h3)
theorem b2_V {y : MethodName} {bytes : ByteArray} {maxL n f lo index : Nat} {ret : Option FieldType} {As : List Value} {st0 : List Value} {v : Int32} {x : Option (Int32 × At)} (cx : gCx p s m c cc nL own G) (hE : E2 G K s) (hX : gX s) (hZ : gZ (gAr (gN2 G K) s.heap.size) s s.heap) (hw : gPB G K w H) (hS : va_S (gAr (gN2 G K) s.heap.size) s.heap H locs) (hv : gq1 w x = some (v, w'))
    (hM : ∀ t, x = some (v, t) → gC l y [Cond.code y bytes maxL ret] (gRx f lo mc ms) K (gNo K) E0 (gPA K w.2) (.ref (K.2.1 0) :: As) (some (.int v)) (gPA K t) mc ms) (hq : RX10 = y.cls) (hlk : Cond.methodLink own index y ∈ wsL_law) (hy : gY y bytes maxL ret n) (hi : Cond.instanceMethod y ∈ wsL_law ∧ Cond.selects y.cls y y ∈ wsL_law)
    (hR : f + 1 ≤ R.frames ∧ 8 + (maxL + 11) + lo ≤ R.locals) (hcs : cells + mc ≤ R.cells ∧ slots + ms ≤ R.slots) (hn : As.length = n) (hl : ls.size = nL) (hst : st0 = As.reverse ++ .ref (K.2.1 0) :: rest) (hW : (rest.map fun v => v.category).sum ≤ 8) (hdg : decode cc pc = .ok (.invokevirtual index, 3))
    (kk : ∀ (H1 : Heap) (locs1 : List Loc), gPB G K w' H1 → va_S (gAr (gN2 G K) s.heap.size) s.heap H1 locs1 → W p l e R s m args below meth c H1 locs1 (cells + mc) (slots + ms) Q (F0 m (pc + 3) ls (.int v :: rest))) : W p l e R s m args below meth c H locs cells slots Q (F0 m pc ls st0) :=
  ga_V cx hE.1 hX hZ hS (hM _ (gq1_some hv).1) E0_b (fun _ h => Or.inr h) hw.2 (fun U _ hW => ⟨gF.warm hW hE.1, trivial⟩) hq hlk hy hi hR hcs hn hl hst hW hdg (fun H1 locs1 h1 h2 h3 => kk H1 locs1 (gPB_2 hE.2 hw h1 (gq1_some hv).2 h2) h3)
theorem b_S {y : MethodName} {bytes : ByteArray} {maxL n f lo index : Nat} {ret : Option FieldType} {As : List Value} {st0 : List Value} {v : Int32} (cx : gCx p s m c cc nL own G) (hE : E2 G K s) (hX : gX s) (hZ : gZ (gAr (gN2 G K) s.heap.size) s s.heap) (hw : gPB G K w H) (hS : va_S (gAr (gN2 G K) s.heap.size) s.heap H locs)
    (hM : gC l y [Cond.code y bytes maxL ret] (gRx f lo mc ms) G (gN2 G K) (E2 G K) (gPB G K w) As (some (.int v)) (gPB G K w') mc ms) (hlk : Cond.methodLink own index y ∈ wsL_law) (hy : gY y bytes maxL ret n) (hi : Cond.static y ∈ wsL_law)
    (hR : f + 1 ≤ R.frames ∧ 8 + (maxL + 11) + lo ≤ R.locals) (hcs : cells + mc ≤ R.cells ∧ slots + ms ≤ R.slots) (hn : As.length = n) (hl : ls.size = nL) (hst : st0 = As.reverse ++ rest) (hW : (rest.map fun v => v.category).sum ≤ 8) (hdg : decode cc pc = .ok (.invokestatic index, 3))
    (kk : ∀ (H1 : Heap) (locs1 : List Loc), gPB G K w' H1 → va_S (gAr (gN2 G K) s.heap.size) s.heap H1 locs1 → W p l e R s m args below meth c H1 locs1 (cells + mc) (slots + ms) Q (F0 m (pc + 3) ls (.int v :: rest))) : W p l e R s m args below meth c H locs cells slots Q (F0 m pc ls st0) :=
  ga_S cx hX hZ hS hM E2_b (fun _ h => h) hw (fun U _ hW => ⟨cx.2.2.2.2.warm hW, gF.warm hW hE.1, hE.2⟩) hlk hy hi hR hcs hn hl hst hW hdg (fun H1 locs1 h1 _ h3 => kk H1 locs1 h1 h3)
theorem EX_at {b L : Nat} {xs : Nat → Int32} {N N1 : Nat → Prop} {U : State} (h : EX N b L xs s) (hS : va_S (gAr N s.heap.size) s.heap H locs) (hN : ∀ q, N1 q → N q) (hU : U.heap = H) (hW : s.WarmedH U.vm) : EX N1 b L xs U :=
  ⟨(h.1.kept (by rw [hU]; exact hS.2.1 b h.2.1 (fun z => z.elim h.2.2 (fun z => absurd h.2.1 (Nat.not_lt.mpr z))))).moved hW.alike, by rw [hU]; exact Nat.lt_of_lt_of_le h.2.1 hS.1, fun z => h.2.2 (hN _ z)⟩
theorem b_SX {y : MethodName} {bytes : ByteArray} {maxL n f lo index : Nat} {ret : Option FieldType} {As : List Value} {st0 : List Value} {v : Int32} {b L : Nat} {xs : Nat → Int32} (cx : gCx p s m c cc nL own G) (hE : E2 G K s) (hEX : EX (gN2 G K) b L xs s) (hX : gX s) (hZ : gZ (gAr (gN2 G K) s.heap.size) s s.heap) (hw : gPB G K w H) (hS : va_S (gAr (gN2 G K) s.heap.size) s.heap H locs)
    (hM : gC l y [Cond.code y bytes maxL ret] (gRx f lo mc ms) G (gN2 G K) (E2X G K b L xs) (gPB G K w) As (some (.int v)) (gPB G K w') mc ms) (hlk : Cond.methodLink own index y ∈ wsL_law) (hy : gY y bytes maxL ret n) (hi : Cond.static y ∈ wsL_law)
    (hR : f + 1 ≤ R.frames ∧ 8 + (maxL + 11) + lo ≤ R.locals) (hcs : cells + mc ≤ R.cells ∧ slots + ms ≤ R.slots) (hn : As.length = n) (hl : ls.size = nL) (hst : st0 = As.reverse ++ rest) (hW : (rest.map fun v => v.category).sum ≤ 8) (hdg : decode cc pc = .ok (.invokestatic index, 3))
    (kk : ∀ (H1 : Heap) (locs1 : List Loc), gPB G K w' H1 → va_S (gAr (gN2 G K) s.heap.size) s.heap H1 locs1 → W p l e R s m args below meth c H1 locs1 (cells + mc) (slots + ms) Q (F0 m (pc + 3) ls (.int v :: rest))) : W p l e R s m args below meth c H locs cells slots Q (F0 m pc ls st0) :=
  ga_S cx hX hZ hS hM E2X_b (fun _ h => h) hw (fun U hU hW => ⟨cx.2.2.2.2.warm hW, ⟨gF.warm hW hE.1, hE.2⟩, EX_at hEX hS (fun _ h => h) hU hW⟩) hlk hy hi hR hcs hn hl hst hW hdg (fun H1 locs1 h1 _ h3 => kk H1 locs1 h1 h3)
theorem b_num {y : MethodName} {bytes : ByteArray} {maxL n f lo index : Nat} {ret : Option FieldType} {As : List Value} {st0 : List Value} {v : Int32} {b L : Nat} {xs : Nat → Int32} (cx : gCx p s m c cc nL own G) (hEX : EX (gN2 G K) b L xs s) (hX : gX s) (hZ : gZ (gAr (gN2 G K) s.heap.size) s s.heap) (hw : gPB G K w H) (hS : va_S (gAr (gN2 G K) s.heap.size) s.heap H locs)
    (hM : gC l y [Cond.code y bytes maxL ret] (gRx f lo mc ms) G (fun _ => False) (EX (fun _ => False) b L xs) (fun _ => True) As (some (.int v)) (fun _ => True) mc ms) (hlk : Cond.methodLink own index y ∈ wsL_law) (hy : gY y bytes maxL ret n) (hi : Cond.static y ∈ wsL_law)
    (hR : f + 1 ≤ R.frames ∧ 8 + (maxL + 11) + lo ≤ R.locals) (hcs : cells + mc ≤ R.cells ∧ slots + ms ≤ R.slots) (hn : As.length = n) (hl : ls.size = nL) (hst : st0 = As.reverse ++ rest) (hW : (rest.map fun v => v.category).sum ≤ 8) (hdg : decode cc pc = .ok (.invokestatic index, 3))
    (kk : ∀ (H1 : Heap) (locs1 : List Loc), gPB G K w H1 → va_S (gAr (gN2 G K) s.heap.size) s.heap H1 locs1 → W p l e R s m args below meth c H1 locs1 (cells + mc) (slots + ms) Q (F0 m (pc + 3) ls (.int v :: rest))) : W p l e R s m args below meth c H locs cells slots Q (F0 m pc ls st0) :=
  ga_S cx hX hZ hS hM EX_b (fun _ h => h.elim) trivial (fun U hU hW => ⟨cx.2.2.2.2.warm hW, EX_at hEX hS (fun _ h => h.elim) hU hW⟩) hlk hy hi hR hcs hn hl hst hW hdg (fun H1 locs1 _ h2 h3 => kk H1 locs1 (gPB_0 hw h2) h3)
end GAW
