/-! ===== the law's own methods: each calls one method of the class, and catches ===== -/
def gCw (l : Launch) (y : MethodName) (ws : List Cond) (rm : Room) (G : gG) (av : List Value) (S : Sg) (v : Option Value) (S' : Sg) (mc ms : Nat) : Prop := ∀ sz : Nat, Met l y ws rm (va_Pc av (gPreX G S sz)) (gQ G S' v (gA G sz)) mc ms (gA G sz)
theorem gCw_of {l : Launch} {y : MethodName} {cc : ByteArray} {maxL : Nat} {ret : Option FieldType} {hh : List (Nat × Nat × Nat × Nat)} {f lo mc ms : Nat} {G : gG} {av : List Value} {S S' : Sg} {v : Option Value} (hy : plainName y.cls = true) (hlen : (lg_sl av).length ≤ maxL)
    (body : ∀ (p : Program) (e : Env) (s : State) (m : MethodId) (below : List Frame) (meth : Method) (c : Code) (ls : Array Slot), gCx p s m c cc maxL y.cls G → gX s → gZ (gA G s.heap.size) s s.heap → c.exceptionTable.toList.map (fun h => (h.startPc, h.endPc, h.handlerPc, h.catchType)) = hh → meth.sig.returnType = ret → meth.locks = false → gP G S s.heap → va_S (gA G s.heap.size) s.heap s.heap [] → lv_has ls maxL (lv_args 0 av) →
      W p l e (gRx f lo mc ms) s m av.toArray below meth c s.heap [] 0 0 (MQ below (gQ G S' v (gA G s.heap.size)) av.toArray s mc ms (gA G s.heap.size)) (F0 m 0 ls [])) : gCw l y [Cond.codeWith y cc maxL ret hh] (gRx f lo mc ms) G av S v S' mc ms := by
  intro sz
  refine va_MetW (cc := cc) (maxL := maxL) (ret := ret) (hh := hh) hy rfl ?_
  intro p e s m args below meth c s₁ B hml hv
  obtain ⟨rfl, ⟨hsz, hP, hF⟩, hX, hZ⟩ := hv
  subst hsz
  have hl := lv_entry av (n := maxL) hlen
  rw [lg_entry_eq]
  obtain ⟨m9, meth9, c9, hn9, hm9, hc9, -, -, ht9, -, -⟩ := Cond.codeWith_spec (atoms_spec (ws := [Cond.codeWith y cc maxL ret hh]) B.pre _ List.mem_cons_self)
  have e1 : m9 = m := Option.some.inj (hn9.symm.trans B.named)
  subst e1
  have e2 : meth9 = meth := Option.some.inj (hm9.symm.trans B.method)
  subst e2
  have e3 : c9 = c := by
    have h1 := B.here.code
    rw [State.code?_eq, B.state] at h1
    have h2 : (s.vm.method? m9).bind (·.code) = some c := h1
    rw [hm9] at h2
    exact Option.some.inj (hc9.symm.trans h2)
  subst e3
  exact body p e s m9 below meth9 c9 _ ⟨B.exec, B.bytes, hml, findClass_of_methodNamed B.named, hF⟩ hX hZ ht9 B.returns B.notSynchronized hP va_S.rf hl
def gwr (c1 c2 c3 : Int32) (x : Option (Nat × Int32 × Sg)) : Option (Int32 × Sg) := match x with
  | some (0, v, s) => some (v, s)
  | some (1, _, s) => if c1 = 0 then none else some (c1, s)
  | some (2, _, s) => if c2 = 0 then none else some (c2, s)
  | some (3, _, s) => if c3 = 0 then none else some (c3, s)
  | _ => none
section GWR
variable {p : Program} {l : Launch} {e : Env} {R : Room} {s : State} {m : MethodId} {args : Array Value} {below : List Frame} {meth : Method} {c : Code} {H : Heap} {locs : List Loc} {cells slots : Nat} {Q : State → Prop}
variable {cc : ByteArray} {nL pc : Nat} {ls : Array Slot} {rest : List Value} {G : gG} {S S' : Sg} {own : String} {H0 : Heap} {sz mc ms : Nat}
theorem gx_caught {a : Array Value} {v : Option Value} {st0 : List Value} {k : Nat} {S9 : Sg} (hr : vx_Run p l e R s m args below meth c H locs cells slots mc ms (F0 m pc ls st0) rest (gQx G S9 (k + 1) v (gA G H.size) a) (gXx G S9 (k + 1) (gA G H.size)) (gA G H.size)) (hS : va_S (gA G s.heap.size) s.heap H locs)
    (kk : ∀ (q : Addr) (ce : Cell) (H1 : Heap) (locs1 : List Loc), H1[q]? = some ce → ce.vm = .none → s.vm.findClass (gEn (k + 1)) = some ce.cls → va_S (gA G s.heap.size) s.heap H1 locs1 → gP G S9 H1 → vx_W p l e R s m args below meth c H1 locs1 (cells + mc) (slots + ms) Q (F0 m pc ls rest) q) : W p l e R s m args below meth c H locs cells slots Q (F0 m pc ls st0) := by
  intro T hT X
  rcases hr T hT X with ⟨v', st₀, t, T', L, h0, X', hL, e1, e2, ⟨⟨hk, -⟩, -⟩, st⟩ | ⟨q, st₀, t, T', L, E, ce, h0, X', hL, e1, e2, ⟨⟨-, hE, hP⟩, hF⟩, hce, hcv, hcl, st⟩
  · cases hk
  · obtain ⟨k1, k2, k3⟩ := vx_keep h0 e1 hS (fun q _ h => gA_call hS q h) (gA_call hS) hL hF
    obtain ⟨t2, a1, b1⟩ := kk q ce T'.heap (locs ++ L) (by rw [e1]; exact hce) hcv (by rw [← hE]; exact hcl) k3 (by rw [e1]; exact hP) T' rfl X'
    exact ⟨t2, st.trans a1, b1⟩
theorem gw_ireti {x r : Int32} {mc' ms' : Nat} (cx : gCx p s m c cc nL own G) (hr : meth.sig.returnType = some .int) (hlocks : meth.locks = false) (hP : gP G S H) (hS : va_S (gA G s.heap.size) s.heap H locs) (hf : some (x, S) = some (r, S')) (hdg : decode cc pc = .ok (.ireturn, 1)) (hc : cells ≤ mc') (hs : slots ≤ ms') :
    W p l e R s m args below meth c H locs cells slots (MQ below (gQ G S' (some (.int r)) (gA G s.heap.size)) args s mc' ms' (gA G s.heap.size)) (F0 m pc ls [.int x]) :=
  W.widen hc hs (g_ireti cx hr hlocks hP hS hf hdg)
theorem g_LS {y : MethodName} {bytes : ByteArray} {maxL n f lo index : Nat} {ret : Option FieldType} {hh : List (Nat × Nat × Nat × Nat)} {As : List Value} {st0 : List Value} {v : Option Value} (cx : gCx p s m c cc nL own G) (hX : gX s) (hZ : gZ (gA G s.heap.size) s s.heap) (hP : gP G S H) (hS : va_S (gA G s.heap.size) s.heap H locs)
    (hM : gCw l y [Cond.codeWith y bytes maxL ret hh] (gRx f lo mc ms) G As S v S' mc ms) (hlk : Cond.methodLink own index y ∈ wsL_law) (hini : Cond.initialized y.cls ∈ wsL_law) (hy : Cond.codeWith y bytes maxL ret hh ∈ wsL_law ∧ Cond.static y ∈ wsL_law ∧ (parseMethodDescriptor y.desc).map (fun d => d.parameters.length) = some n) (hne : y.cls ≠ "java/lang/invoke/MethodHandle" ∧ y.cls ≠ "java/lang/invoke/VarHandle")
    (hR : f + 1 ≤ R.frames ∧ 8 + (maxL + 11) + lo ≤ R.locals) (hcs : cells + mc ≤ R.cells ∧ slots + ms ≤ R.slots) (hn : As.length = n) (hl : ls.size = nL) (hst : st0 = As.reverse ++ rest) (hW : (rest.map fun v => v.category).sum ≤ 8) (hdg : decode cc pc = .ok (.invokestatic index, 3))
    (kk : ∀ (H1 : Heap) (locs1 : List Loc), gP G S' H1 → va_S (gA G s.heap.size) s.heap H1 locs1 → W p l e R s m args below meth c H1 locs1 (cells + mc) (slots + ms) Q (F0 m (pc + 3) ls (v.toList ++ rest))) : W p l e R s m args below meth c H locs cells slots Q (F0 m pc ls st0) := by
  refine g_after (vx_runSW (As := As) (rest := rest) ⟨cx.1, cx.2.1, cx.2.2.1, cx.2.2.2.1, cx.2.2.2.2.ts⟩ (hM H.size) ⟨⟨rfl, rfl, hR.1, hR.2, fun w hw a' U hW => ?_, List.mem_singleton.mpr rfl⟩, cx.2.2.2.2.ts _ hy.1, cx.2.2.2.2.ts _ hini, hne, fun sig h => ?_, cx.2.2.2.2.ts _ hlk, cx.2.2.2.2.ts _ hy.2.1⟩ ⟨gPcX_blind, gPcX_at cx.2.2.2.2 hX hZ hP hS⟩ rfl hn hl hst (lv_room hW) hdg hcs) hS (fun q _ h => gA_call hS q h) (gA_call hS) kk
  · rw [List.mem_singleton.mp hw]
    exact word_at hW (good_of_word (gw_good _ hy.1)) (cx.2.2.2.2.2.1 _ hy.1)
  · have h2 := hy.2.2
    rw [h] at h2
    exact (Option.some.inj h2).symm
theorem gcast (hX : gX s) (k : Nat) (h : Cond.castable (gEn k) (gEn k) ∈ vx_atS RX10 (gEi k) (gEn k) gEl) : (Cond.castable (gEn k) (gEn k)).before args s = true := hX.at k _ h
end GWR
theorem gtab1 {t : List ExceptionTableEntry} {a b c d : Nat} (h : t.map (fun h => (h.startPc, h.endPc, h.handlerPc, h.catchType)) = [(a, b, c, d)]) : t = [⟨a, b, c, d⟩] := by
  match t, h with
  | [x], h => cases x; cases h; rfl
theorem gtab2 {t : List ExceptionTableEntry} {a b c d a2 b2 c2 d2 : Nat} (h : t.map (fun h => (h.startPc, h.endPc, h.handlerPc, h.catchType)) = [(a, b, c, d), (a2, b2, c2, d2)]) : t = [⟨a, b, c, d⟩, ⟨a2, b2, c2, d2⟩] := by
  match t, h with
  | [x, y], h => cases x; cases y; cases h; rfl
theorem gtab3 {t : List ExceptionTableEntry} {a b c d a2 b2 c2 d2 a3 b3 c3 d3 : Nat} (h : t.map (fun h => (h.startPc, h.endPc, h.handlerPc, h.catchType)) = [(a, b, c, d), (a2, b2, c2, d2), (a3, b3, c3, d3)]) : t = [⟨a, b, c, d⟩, ⟨a2, b2, c2, d2⟩, ⟨a3, b3, c3, d3⟩] := by
  match t, h with
  | [x, y, z], h => cases x; cases y; cases z; cases h; rfl
theorem gcm1 : Cond.castable (gEn 1) (gEn 1) ∈ vx_atS RX10 (gEi 1) (gEn 1) gEl := by decide +kernel
theorem gcm2 : Cond.castable (gEn 2) (gEn 2) ∈ vx_atS RX10 (gEi 2) (gEn 2) gEl := by decide +kernel
theorem gcm3 : Cond.castable (gEn 3) (gEn 3) ∈ vx_atS RX10 (gEi 3) (gEn 3) gEl := by decide +kernel
noncomputable def f_L_tryAppend (a1 : Int32) (S : Sg) : Option (Int32 × Sg) := gwr 0 (-9999002) (-9999003) (f_X10_append a1 S)
noncomputable def f_L_tryLoad (S : Sg) : Option (Int32 × Sg) := gwr 0 0 (-9999003) (f_X10_load S)
noncomputable def f_L_tryAbout (a1 : Int32) (S : Sg) : Option (Int32 × Sg) := gwr 0 (-9999002) 0 (f_X10_about a1 S)
noncomputable def f_L_tryTrack (a1 : Int32) (a2 : Int32) (S : Sg) : Option (Int32 × Sg) := gwr (-9999001) (-9999002) 0 (f_X10_track a1 a2 S)
noncomputable def f_L_tryCompany (a1 : Int32) (a2 : Int32) (S : Sg) : Option (Int32 × Sg) := gwr (-9999001) (-9999002) 0 (f_X10_company a1 a2 S)
noncomputable def f_L_tryTrain (a1 : Int32) (a2 : Int32) (a3 : Int32) (S : Sg) : Option (Int32 × Sg) := gwr (-9999001) (-9999002) 0 (f_X10_train a1 a2 a3 S)
noncomputable def f_L_tryContract (a1 : Int32) (a2 : Int32) (S : Sg) : Option (Int32 × Sg) := gwr (-9999001) (-9999002) 0 (f_X10_contract a1 a2 S)
noncomputable def f_L_tryBuyTrack (a1 : Int32) (a2 : Int32) (S : Sg) : Option (Int32 × Sg) := gwr (-9999001) 0 (-9999003) (f_X10_buyTrack a1 a2 S)
noncomputable def f_L_tryBuyTrain (a1 : Int32) (a2 : Int32) (S : Sg) : Option (Int32 × Sg) := gwr (-9999001) (-9999002) (-9999003) (f_X10_buyTrain a1 a2 S)
noncomputable def f_L_trySetRent (a1 : Int32) (a2 : Int32) (S : Sg) : Option (Int32 × Sg) := gwr (-9999001) (-9999002) 0 (f_X10_setRent a1 a2 S)
noncomputable def f_L_tryOffer (a1 : Int32) (a2 : Int32) (a3 : Int32) (a4 : Int32) (S : Sg) : Option (Int32 × Sg) := gwr (-9999001) (-9999002) (-9999003) (f_X10_offer a1 a2 a3 a4 S)
noncomputable def f_L_tryTake (a1 : Int32) (a2 : Int32) (S : Sg) : Option (Int32 × Sg) := gwr (-9999001) 0 (-9999003) (f_X10_take a1 a2 S)
noncomputable def f_L_tryRun (a1 : Int32) (a2 : Int32) (S : Sg) : Option (Int32 × Sg) := gwr (-9999001) 0 (-9999003) (f_X10_run a1 a2 S)
noncomputable def f_L_tryUndo (S : Sg) : Option (Int32 × Sg) := gwr 0 0 (-9999003) (f_X10_undo S)
noncomputable def f_L_tryWhyNot (a1 : Int32) (a2 : Int32) (S : Sg) : Option (Int32 × Sg) := gwr (-9999001) 0 0 (f_X10_whyNot a1 a2 S)
noncomputable def f_L_tryLevelFor (a1 : Int32) (a2 : Int32) (S : Sg) : Option (Int32 × Sg) := gwr (-9999001) 0 0 (f_X10_levelFor a1 a2 S)
noncomputable def f_L_tryBestContract (a1 : Int32) (S : Sg) : Option (Int32 × Sg) := gwr (-9999001) 0 0 (f_X10_bestContract a1 S)
noncomputable def f_L_tryCoinsAfter (a1 : Int32) (a2 : Int32) (S : Sg) : Option (Int32 × Sg) := gwr (-9999001) (-9999002) 0 (f_X10_coinsAfter a1 a2 S)
noncomputable def f_L_tryBankruptAfter (a1 : Int32) (S : Sg) : Option (Int32 × Sg) := gwr (-9999001) 0 0 (f_X10_bankruptAfter a1 S)
noncomputable def f_L_tryWorth (a1 : Int32) (S : Sg) : Option (Int32 × Sg) := gwr (-9999001) 0 0 (f_X10_worth a1 S)
noncomputable def f_L_tryScript (a1 : Int32) (a2 : Int64) (S : Sg) : Option (Int32 × Sg) := gwr 0 (-9999002) 0 (f_X10_runScript a1 a2 S)
noncomputable def f_L_trySimulate (a1 : Int64) (a3 : Int32) (S : Sg) : Option (Int32 × Sg) := gwr 0 (-9999002) 0 (f_X10_simulate a1 a3 S)
noncomputable def f_L_trySave (a1 : Int32) (S : Sg) : Option (Int32 × Sg) := gwr (-9999001) 0 0 (f_X10_save a1 S)
noncomputable def f_L_tryRestore (a1 : Int32) (S : Sg) : Option (Int32 × Sg) := gwr (-9999001) 0 (-9999003) (f_X10_restore a1 S)
noncomputable def f_L_tryWay (a1 : Int32) (a2 : Int32) (a3 : Int32) (a4 : Int32) (a5 : Int32) (S : Sg) : Option (Int32 × Sg) := gwr (-9999001) (-9999002) 0 (f_X10_way a1 a2 a3 a4 a5 S)
set_option maxHeartbeats 4000000 in
set_option maxRecDepth 100000 in
theorem c_L_tryAppend (l : Launch) (hst : l.stackTraces = false) (G : gG) (a1 : Int32) (S : Sg) (r : Int32) (S' : Sg) (hf : f_L_tryAppend a1 S = some (r, S')) : gCw l yL_tryAppend [Cond.codeWith yL_tryAppend cL_tryAppend 3 (some .int) [(0, 5, 6, 13), (0, 5, 10, 16)]] (gRx 8 133 2 12) G [.ref (G.2.1 0), .int a1] S (some (.int r)) S' 2 12 := by
  refine gCw_of (by decide) (Nat.le_of_ble_eq_true rfl) ?_
  intro p e s m below meth c ls cx hX hZ htab hr hlk hw hS hl
  have hl : lv_has ls 3 [(0, .ref (G.2.1 0)), (1, .int a1)] := hl
  have hN := cx.2.2.2.2.hN
  replace htab := gtab2 htab
  unfold f_L_tryAppend at hf
  refine lv_aload_n cx.1 cx.2.1 dL_tryAppend_0 rfl (lv_at hl 0 rfl) ?_
  refine lv_iload_n cx.1 cx.2.1 dL_tryAppend_1 rfl (lv_at hl 1 rfl) ?_
  rcases hx0 : f_X10_append a1 S with _ | ⟨k9, v9, S9⟩
  · rw [hx0] at hf; cases hf
  · rw [hx0] at hf
    match k9, hx0, hf with
    | 0, hx0, hf =>
      refine gx_ret (gx_rV (As := [.int a1]) (rest := []) cx hX hZ hw hS (c_X10_append l hst G a1 S 0 v9 S9 hx0) (by omega) he_c0 rfl rfl gw_814 gy_X10_append gi_X10_append ⟨Nat.le_of_ble_eq_true rfl, Nat.le_of_ble_eq_true rfl⟩ ⟨Nat.le_of_ble_eq_true rfl, Nat.le_of_ble_eq_true rfl⟩ rfl hl.1 rfl (Nat.le_of_ble_eq_true rfl) dL_tryAppend_2) hS (fun H locs hw hS => ?_)
      refine W.eq (g2 := F0 m 5 ls [.int v9]) rfl ?_
      have hf : some (v9, S9) = some (r, S') := hf
      exact gw_ireti cx hr hlk hw hS hf dL_tryAppend_5 (Nat.le_of_ble_eq_true rfl) (Nat.le_of_ble_eq_true rfl)
    | 1, hx0, hf =>
      have hf : (none : Option (Int32 × Sg)) = some (r, S') := hf
      cases hf
    | 2, hx0, hf =>
      have hf : some ((-9999002 : Int32), S9) = some (r, S') := hf
      refine gx_caught (k := 1) (gx_rV (As := [.int a1]) (rest := []) cx hX hZ hw hS (c_X10_append l hst G a1 S 2 v9 S9 hx0) (by omega) he_c0 rfl rfl gw_814 gy_X10_append gi_X10_append ⟨Nat.le_of_ble_eq_true rfl, Nat.le_of_ble_eq_true rfl⟩ ⟨Nat.le_of_ble_eq_true rfl, Nat.le_of_ble_eq_true rfl⟩ rfl hl.1 rfl (Nat.le_of_ble_eq_true rfl) dL_tryAppend_2) hS (fun q9 ce H locs hce hcv hcl hS hw => ?_)
      refine vx_catch (own := RL) (name := gEn 2) (E := gEn 2) cx.2.2.2.1 [] ⟨0, 5, 6, 13⟩ [⟨0, 5, 10, 16⟩] htab (fun z hz => nomatch hz) (by decide) (by decide) (cx.2.2.2.2.ts _ gw_189) (gcast hX 2 gcm2) hce hcv hcl ?_
      refine W.eq (g2 := F0 m 6 ls [.ref q9]) rfl ?_
      refine lv_astore_n (lv' := [(2, .ref q9), (0, .ref (G.2.1 0)), (1, .int a1)]) cx.1 cx.2.1 dL_tryAppend_6 rfl hl (by decide) rfl (fun ls hl => ?_)
      refine lv_ldc cx.1 cx.2.1 cx.2.2.2.1 (cx.2.2.2.2.ts _ gw_190) dL_tryAppend_7 ?_
      exact gw_ireti cx hr hlk hw hS hf dL_tryAppend_9 (Nat.le_of_ble_eq_true rfl) (Nat.le_of_ble_eq_true rfl)
    | 3, hx0, hf =>
      have hf : some ((-9999003 : Int32), S9) = some (r, S') := hf
      refine gx_caught (k := 2) (gx_rV (As := [.int a1]) (rest := []) cx hX hZ hw hS (c_X10_append l hst G a1 S 3 v9 S9 hx0) (by omega) he_c0 rfl rfl gw_814 gy_X10_append gi_X10_append ⟨Nat.le_of_ble_eq_true rfl, Nat.le_of_ble_eq_true rfl⟩ ⟨Nat.le_of_ble_eq_true rfl, Nat.le_of_ble_eq_true rfl⟩ rfl hl.1 rfl (Nat.le_of_ble_eq_true rfl) dL_tryAppend_2) hS (fun q9 ce H locs hce hcv hcl hS hw => ?_)
      refine vx_catch (own := RL) (name := gEn 3) (E := gEn 3) cx.2.2.2.1 [⟨0, 5, 6, 13⟩] ⟨0, 5, 10, 16⟩ [] htab (List.forall_mem_cons.mpr ⟨Or.inr ⟨by decide, gEn 2, cx.2.2.2.2.ts _ gw_189, hX.2.2.2.2⟩, fun z hz => nomatch hz⟩) (by decide) (by decide) (cx.2.2.2.2.ts _ gw_297) (gcast hX 3 gcm3) hce hcv hcl ?_
      refine W.eq (g2 := F0 m 10 ls [.ref q9]) rfl ?_
      refine lv_astore_n (lv' := [(2, .ref q9), (0, .ref (G.2.1 0)), (1, .int a1)]) cx.1 cx.2.1 dL_tryAppend_10 rfl hl (by decide) rfl (fun ls hl => ?_)
      refine lv_ldc cx.1 cx.2.1 cx.2.2.2.1 (cx.2.2.2.2.ts _ gw_3) dL_tryAppend_11 ?_
      exact gw_ireti cx hr hlk hw hS hf dL_tryAppend_13 (Nat.le_of_ble_eq_true rfl) (Nat.le_of_ble_eq_true rfl)
    | k9 + 4, hx0, hf =>
      have hf : (none : Option (Int32 × Sg)) = some (r, S') := hf
      cases hf
theorem gyw_L_tryAppend : Cond.codeWith yL_tryAppend cL_tryAppend 3 (some .int) [(0, 5, 6, 13), (0, 5, 10, 16)] ∈ wsL_law ∧ Cond.static yL_tryAppend ∈ wsL_law ∧ (parseMethodDescriptor yL_tryAppend.desc).map (fun d => d.parameters.length) = some 2 := ⟨gw_813, gw_812, by decide +kernel⟩
set_option maxHeartbeats 4000000 in
set_option maxRecDepth 100000 in
theorem c_L_tryLoad (l : Launch) (hst : l.stackTraces = false) (G : gG) (S : Sg) (r : Int32) (S' : Sg) (hf : f_L_tryLoad S = some (r, S')) : gCw l yL_tryLoad [Cond.codeWith yL_tryLoad cL_tryLoad 2 (some .int) [(0, 4, 5, 16)]] (gRx 7 159 1 6) G [.ref (G.2.1 0)] S (some (.int r)) S' 1 6 := by
  refine gCw_of (by decide) (Nat.le_of_ble_eq_true rfl) ?_
  intro p e s m below meth c ls cx hX hZ htab hr hlk hw hS hl
  have hl : lv_has ls 2 [(0, .ref (G.2.1 0))] := hl
  have hN := cx.2.2.2.2.hN
  replace htab := gtab1 htab
  unfold f_L_tryLoad at hf
  refine lv_aload_n cx.1 cx.2.1 dL_tryLoad_0 rfl (lv_at hl 0 rfl) ?_
  rcases hx0 : f_X10_load S with _ | ⟨k9, v9, S9⟩
  · rw [hx0] at hf; cases hf
  · rw [hx0] at hf
    match k9, hx0, hf with
    | 0, hx0, hf =>
      refine gx_ret (gx_rV (As := []) (rest := []) cx hX hZ hw hS (c_X10_load l hst G S 0 v9 S9 hx0) (by omega) he_c0 rfl rfl gw_855 gy_X10_load gi_X10_load ⟨Nat.le_of_ble_eq_true rfl, Nat.le_of_ble_eq_true rfl⟩ ⟨Nat.le_of_ble_eq_true rfl, Nat.le_of_ble_eq_true rfl⟩ rfl hl.1 rfl (Nat.le_of_ble_eq_true rfl) dL_tryLoad_1) hS (fun H locs hw hS => ?_)
      refine W.eq (g2 := F0 m 4 ls [.int v9]) rfl ?_
      have hf : some (v9, S9) = some (r, S') := hf
      exact gw_ireti cx hr hlk hw hS hf dL_tryLoad_4 (Nat.le_of_ble_eq_true rfl) (Nat.le_of_ble_eq_true rfl)
    | 1, hx0, hf =>
      have hf : (none : Option (Int32 × Sg)) = some (r, S') := hf
      cases hf
    | 2, hx0, hf =>
      have hf : (none : Option (Int32 × Sg)) = some (r, S') := hf
      cases hf
    | 3, hx0, hf =>
      have hf : some ((-9999003 : Int32), S9) = some (r, S') := hf
      refine gx_caught (k := 2) (gx_rV (As := []) (rest := []) cx hX hZ hw hS (c_X10_load l hst G S 3 v9 S9 hx0) (by omega) he_c0 rfl rfl gw_855 gy_X10_load gi_X10_load ⟨Nat.le_of_ble_eq_true rfl, Nat.le_of_ble_eq_true rfl⟩ ⟨Nat.le_of_ble_eq_true rfl, Nat.le_of_ble_eq_true rfl⟩ rfl hl.1 rfl (Nat.le_of_ble_eq_true rfl) dL_tryLoad_1) hS (fun q9 ce H locs hce hcv hcl hS hw => ?_)
      refine vx_catch (own := RL) (name := gEn 3) (E := gEn 3) cx.2.2.2.1 [] ⟨0, 4, 5, 16⟩ [] htab (fun z hz => nomatch hz) (by decide) (by decide) (cx.2.2.2.2.ts _ gw_297) (gcast hX 3 gcm3) hce hcv hcl ?_
      refine W.eq (g2 := F0 m 5 ls [.ref q9]) rfl ?_
      refine lv_astore_n (lv' := [(1, .ref q9), (0, .ref (G.2.1 0))]) cx.1 cx.2.1 dL_tryLoad_5 rfl hl (by decide) rfl (fun ls hl => ?_)
      refine lv_ldc cx.1 cx.2.1 cx.2.2.2.1 (cx.2.2.2.2.ts _ gw_3) dL_tryLoad_6 ?_
      exact gw_ireti cx hr hlk hw hS hf dL_tryLoad_8 (Nat.le_of_ble_eq_true rfl) (Nat.le_of_ble_eq_true rfl)
    | k9 + 4, hx0, hf =>
      have hf : (none : Option (Int32 × Sg)) = some (r, S') := hf
      cases hf
theorem gyw_L_tryLoad : Cond.codeWith yL_tryLoad cL_tryLoad 2 (some .int) [(0, 4, 5, 16)] ∈ wsL_law ∧ Cond.static yL_tryLoad ∈ wsL_law ∧ (parseMethodDescriptor yL_tryLoad.desc).map (fun d => d.parameters.length) = some 1 := ⟨gw_854, gw_853, by decide +kernel⟩
set_option maxHeartbeats 4000000 in
set_option maxRecDepth 100000 in
theorem c_L_tryAbout (l : Launch) (hst : l.stackTraces = false) (G : gG) (a1 : Int32) (S : Sg) (r : Int32) (S' : Sg) (hf : f_L_tryAbout a1 S = some (r, S')) : gCw l yL_tryAbout [Cond.codeWith yL_tryAbout cL_tryAbout 3 (some .int) [(0, 5, 6, 13)]] (gRx 7 111 1 6) G [.ref (G.2.1 0), .int a1] S (some (.int r)) S' 1 6 := by
  refine gCw_of (by decide) (Nat.le_of_ble_eq_true rfl) ?_
  intro p e s m below meth c ls cx hX hZ htab hr hlk hw hS hl
  have hl : lv_has ls 3 [(0, .ref (G.2.1 0)), (1, .int a1)] := hl
  have hN := cx.2.2.2.2.hN
  replace htab := gtab1 htab
  unfold f_L_tryAbout at hf
  refine lv_aload_n cx.1 cx.2.1 dL_tryAbout_0 rfl (lv_at hl 0 rfl) ?_
  refine lv_iload_n cx.1 cx.2.1 dL_tryAbout_1 rfl (lv_at hl 1 rfl) ?_
  rcases hx0 : f_X10_about a1 S with _ | ⟨k9, v9, S9⟩
  · rw [hx0] at hf; cases hf
  · rw [hx0] at hf
    match k9, hx0, hf with
    | 0, hx0, hf =>
      refine gx_ret (gx_rV (As := [.int a1]) (rest := []) cx hX hZ hw hS (c_X10_about l hst G a1 S 0 v9 S9 hx0) (by omega) he_c0 rfl rfl gw_191 gy_X10_about gi_X10_about ⟨Nat.le_of_ble_eq_true rfl, Nat.le_of_ble_eq_true rfl⟩ ⟨Nat.le_of_ble_eq_true rfl, Nat.le_of_ble_eq_true rfl⟩ rfl hl.1 rfl (Nat.le_of_ble_eq_true rfl) dL_tryAbout_2) hS (fun H locs hw hS => ?_)
      refine W.eq (g2 := F0 m 5 ls [.int v9]) rfl ?_
      have hf : some (v9, S9) = some (r, S') := hf
      exact gw_ireti cx hr hlk hw hS hf dL_tryAbout_5 (Nat.le_of_ble_eq_true rfl) (Nat.le_of_ble_eq_true rfl)
    | 1, hx0, hf =>
      have hf : (none : Option (Int32 × Sg)) = some (r, S') := hf
      cases hf
    | 2, hx0, hf =>
      have hf : some ((-9999002 : Int32), S9) = some (r, S') := hf
      refine gx_caught (k := 1) (gx_rV (As := [.int a1]) (rest := []) cx hX hZ hw hS (c_X10_about l hst G a1 S 2 v9 S9 hx0) (by omega) he_c0 rfl rfl gw_191 gy_X10_about gi_X10_about ⟨Nat.le_of_ble_eq_true rfl, Nat.le_of_ble_eq_true rfl⟩ ⟨Nat.le_of_ble_eq_true rfl, Nat.le_of_ble_eq_true rfl⟩ rfl hl.1 rfl (Nat.le_of_ble_eq_true rfl) dL_tryAbout_2) hS (fun q9 ce H locs hce hcv hcl hS hw => ?_)
      refine vx_catch (own := RL) (name := gEn 2) (E := gEn 2) cx.2.2.2.1 [] ⟨0, 5, 6, 13⟩ [] htab (fun z hz => nomatch hz) (by decide) (by decide) (cx.2.2.2.2.ts _ gw_189) (gcast hX 2 gcm2) hce hcv hcl ?_
      refine W.eq (g2 := F0 m 6 ls [.ref q9]) rfl ?_
      refine lv_astore_n (lv' := [(2, .ref q9), (0, .ref (G.2.1 0)), (1, .int a1)]) cx.1 cx.2.1 dL_tryAbout_6 rfl hl (by decide) rfl (fun ls hl => ?_)
      refine lv_ldc cx.1 cx.2.1 cx.2.2.2.1 (cx.2.2.2.2.ts _ gw_190) dL_tryAbout_7 ?_
      exact gw_ireti cx hr hlk hw hS hf dL_tryAbout_9 (Nat.le_of_ble_eq_true rfl) (Nat.le_of_ble_eq_true rfl)
    | 3, hx0, hf =>
      have hf : (none : Option (Int32 × Sg)) = some (r, S') := hf
      cases hf
    | k9 + 4, hx0, hf =>
      have hf : (none : Option (Int32 × Sg)) = some (r, S') := hf
      cases hf
theorem gyw_L_tryAbout : Cond.codeWith yL_tryAbout cL_tryAbout 3 (some .int) [(0, 5, 6, 13)] ∈ wsL_law ∧ Cond.static yL_tryAbout ∈ wsL_law ∧ (parseMethodDescriptor yL_tryAbout.desc).map (fun d => d.parameters.length) = some 2 := ⟨gw_188, gw_186, by decide +kernel⟩
set_option maxHeartbeats 4000000 in
set_option maxRecDepth 100000 in
theorem c_L_tryTrack (l : Launch) (hst : l.stackTraces = false) (G : gG) (a1 : Int32) (a2 : Int32) (S : Sg) (r : Int32) (S' : Sg) (hf : f_L_tryTrack a1 a2 S = some (r, S')) : gCw l yL_tryTrack [Cond.codeWith yL_tryTrack cL_tryTrack 4 (some .int) [(0, 6, 7, 30), (0, 6, 11, 13)]] (gRx 9 154 2 12) G [.ref (G.2.1 0), .int a1, .int a2] S (some (.int r)) S' 2 12 := by
  refine gCw_of (by decide) (Nat.le_of_ble_eq_true rfl) ?_
  intro p e s m below meth c ls cx hX hZ htab hr hlk hw hS hl
  have hl : lv_has ls 4 [(0, .ref (G.2.1 0)), (1, .int a1), (2, .int a2)] := hl
  have hN := cx.2.2.2.2.hN
  replace htab := gtab2 htab
  unfold f_L_tryTrack at hf
  refine lv_aload_n cx.1 cx.2.1 dL_tryTrack_0 rfl (lv_at hl 0 rfl) ?_
  refine lv_iload_n cx.1 cx.2.1 dL_tryTrack_1 rfl (lv_at hl 1 rfl) ?_
  refine lv_iload_n cx.1 cx.2.1 dL_tryTrack_2 rfl (lv_at hl 2 rfl) ?_
  rcases hx0 : f_X10_track a1 a2 S with _ | ⟨k9, v9, S9⟩
  · rw [hx0] at hf; cases hf
  · rw [hx0] at hf
    match k9, hx0, hf with
    | 0, hx0, hf =>
      refine gx_ret (gx_rV (As := [.int a1, .int a2]) (rest := []) cx hX hZ hw hS (c_X10_track l hst G a1 a2 S 0 v9 S9 hx0) (by omega) he_c0 rfl rfl gw_369 gy_X10_track gi_X10_track ⟨Nat.le_of_ble_eq_true rfl, Nat.le_of_ble_eq_true rfl⟩ ⟨Nat.le_of_ble_eq_true rfl, Nat.le_of_ble_eq_true rfl⟩ rfl hl.1 rfl (Nat.le_of_ble_eq_true rfl) dL_tryTrack_3) hS (fun H locs hw hS => ?_)
      refine W.eq (g2 := F0 m 6 ls [.int v9]) rfl ?_
      have hf : some (v9, S9) = some (r, S') := hf
      exact gw_ireti cx hr hlk hw hS hf dL_tryTrack_6 (Nat.le_of_ble_eq_true rfl) (Nat.le_of_ble_eq_true rfl)
    | 1, hx0, hf =>
      have hf : some ((-9999001 : Int32), S9) = some (r, S') := hf
      refine gx_caught (k := 0) (gx_rV (As := [.int a1, .int a2]) (rest := []) cx hX hZ hw hS (c_X10_track l hst G a1 a2 S 1 v9 S9 hx0) (by omega) he_c0 rfl rfl gw_369 gy_X10_track gi_X10_track ⟨Nat.le_of_ble_eq_true rfl, Nat.le_of_ble_eq_true rfl⟩ ⟨Nat.le_of_ble_eq_true rfl, Nat.le_of_ble_eq_true rfl⟩ rfl hl.1 rfl (Nat.le_of_ble_eq_true rfl) dL_tryTrack_3) hS (fun q9 ce H locs hce hcv hcl hS hw => ?_)
      refine vx_catch (own := RL) (name := gEn 1) (E := gEn 1) cx.2.2.2.1 [] ⟨0, 6, 7, 30⟩ [⟨0, 6, 11, 13⟩] htab (fun z hz => nomatch hz) (by decide) (by decide) (cx.2.2.2.2.ts _ gw_217) (gcast hX 1 gcm1) hce hcv hcl ?_
      refine W.eq (g2 := F0 m 7 ls [.ref q9]) rfl ?_
      refine lv_astore_n (lv' := [(3, .ref q9), (0, .ref (G.2.1 0)), (1, .int a1), (2, .int a2)]) cx.1 cx.2.1 dL_tryTrack_7 rfl hl (by decide) rfl (fun ls hl => ?_)
      refine lv_ldc cx.1 cx.2.1 cx.2.2.2.1 (cx.2.2.2.2.ts _ gw_218) dL_tryTrack_8 ?_
      exact gw_ireti cx hr hlk hw hS hf dL_tryTrack_10 (Nat.le_of_ble_eq_true rfl) (Nat.le_of_ble_eq_true rfl)
    | 2, hx0, hf =>
      have hf : some ((-9999002 : Int32), S9) = some (r, S') := hf
      refine gx_caught (k := 1) (gx_rV (As := [.int a1, .int a2]) (rest := []) cx hX hZ hw hS (c_X10_track l hst G a1 a2 S 2 v9 S9 hx0) (by omega) he_c0 rfl rfl gw_369 gy_X10_track gi_X10_track ⟨Nat.le_of_ble_eq_true rfl, Nat.le_of_ble_eq_true rfl⟩ ⟨Nat.le_of_ble_eq_true rfl, Nat.le_of_ble_eq_true rfl⟩ rfl hl.1 rfl (Nat.le_of_ble_eq_true rfl) dL_tryTrack_3) hS (fun q9 ce H locs hce hcv hcl hS hw => ?_)
      refine vx_catch (own := RL) (name := gEn 2) (E := gEn 2) cx.2.2.2.1 [⟨0, 6, 7, 30⟩] ⟨0, 6, 11, 13⟩ [] htab (List.forall_mem_cons.mpr ⟨Or.inr ⟨by decide, gEn 1, cx.2.2.2.2.ts _ gw_217, hX.2.2.1⟩, fun z hz => nomatch hz⟩) (by decide) (by decide) (cx.2.2.2.2.ts _ gw_189) (gcast hX 2 gcm2) hce hcv hcl ?_
      refine W.eq (g2 := F0 m 11 ls [.ref q9]) rfl ?_
      refine lv_astore_n (lv' := [(3, .ref q9), (0, .ref (G.2.1 0)), (1, .int a1), (2, .int a2)]) cx.1 cx.2.1 dL_tryTrack_11 rfl hl (by decide) rfl (fun ls hl => ?_)
      refine lv_ldc cx.1 cx.2.1 cx.2.2.2.1 (cx.2.2.2.2.ts _ gw_190) dL_tryTrack_12 ?_
      exact gw_ireti cx hr hlk hw hS hf dL_tryTrack_14 (Nat.le_of_ble_eq_true rfl) (Nat.le_of_ble_eq_true rfl)
    | 3, hx0, hf =>
      have hf : (none : Option (Int32 × Sg)) = some (r, S') := hf
      cases hf
    | k9 + 4, hx0, hf =>
      have hf : (none : Option (Int32 × Sg)) = some (r, S') := hf
      cases hf
theorem gyw_L_tryTrack : Cond.codeWith yL_tryTrack cL_tryTrack 4 (some .int) [(0, 6, 7, 30), (0, 6, 11, 13)] ∈ wsL_law ∧ Cond.static yL_tryTrack ∈ wsL_law ∧ (parseMethodDescriptor yL_tryTrack.desc).map (fun d => d.parameters.length) = some 3 := ⟨gw_368, gw_367, by decide +kernel⟩
set_option maxHeartbeats 4000000 in
set_option maxRecDepth 100000 in
theorem c_L_tryCompany (l : Launch) (hst : l.stackTraces = false) (G : gG) (a1 : Int32) (a2 : Int32) (S : Sg) (r : Int32) (S' : Sg) (hf : f_L_tryCompany a1 a2 S = some (r, S')) : gCw l yL_tryCompany [Cond.codeWith yL_tryCompany cL_tryCompany 4 (some .int) [(0, 6, 7, 30), (0, 6, 11, 13)]] (gRx 9 153 2 12) G [.ref (G.2.1 0), .int a1, .int a2] S (some (.int r)) S' 2 12 := by
  refine gCw_of (by decide) (Nat.le_of_ble_eq_true rfl) ?_
  intro p e s m below meth c ls cx hX hZ htab hr hlk hw hS hl
  have hl : lv_has ls 4 [(0, .ref (G.2.1 0)), (1, .int a1), (2, .int a2)] := hl
  have hN := cx.2.2.2.2.hN
  replace htab := gtab2 htab
  unfold f_L_tryCompany at hf
  refine lv_aload_n cx.1 cx.2.1 dL_tryCompany_0 rfl (lv_at hl 0 rfl) ?_
  refine lv_iload_n cx.1 cx.2.1 dL_tryCompany_1 rfl (lv_at hl 1 rfl) ?_
  refine lv_iload_n cx.1 cx.2.1 dL_tryCompany_2 rfl (lv_at hl 2 rfl) ?_
  rcases hx0 : f_X10_company a1 a2 S with _ | ⟨k9, v9, S9⟩
  · rw [hx0] at hf; cases hf
  · rw [hx0] at hf
    match k9, hx0, hf with
    | 0, hx0, hf =>
      refine gx_ret (gx_rV (As := [.int a1, .int a2]) (rest := []) cx hX hZ hw hS (c_X10_company l hst G a1 a2 S 0 v9 S9 hx0) (by omega) he_c0 rfl rfl gw_352 gy_X10_company gi_X10_company ⟨Nat.le_of_ble_eq_true rfl, Nat.le_of_ble_eq_true rfl⟩ ⟨Nat.le_of_ble_eq_true rfl, Nat.le_of_ble_eq_true rfl⟩ rfl hl.1 rfl (Nat.le_of_ble_eq_true rfl) dL_tryCompany_3) hS (fun H locs hw hS => ?_)
      refine W.eq (g2 := F0 m 6 ls [.int v9]) rfl ?_
      have hf : some (v9, S9) = some (r, S') := hf
      exact gw_ireti cx hr hlk hw hS hf dL_tryCompany_6 (Nat.le_of_ble_eq_true rfl) (Nat.le_of_ble_eq_true rfl)
    | 1, hx0, hf =>
      have hf : some ((-9999001 : Int32), S9) = some (r, S') := hf
      refine gx_caught (k := 0) (gx_rV (As := [.int a1, .int a2]) (rest := []) cx hX hZ hw hS (c_X10_company l hst G a1 a2 S 1 v9 S9 hx0) (by omega) he_c0 rfl rfl gw_352 gy_X10_company gi_X10_company ⟨Nat.le_of_ble_eq_true rfl, Nat.le_of_ble_eq_true rfl⟩ ⟨Nat.le_of_ble_eq_true rfl, Nat.le_of_ble_eq_true rfl⟩ rfl hl.1 rfl (Nat.le_of_ble_eq_true rfl) dL_tryCompany_3) hS (fun q9 ce H locs hce hcv hcl hS hw => ?_)
      refine vx_catch (own := RL) (name := gEn 1) (E := gEn 1) cx.2.2.2.1 [] ⟨0, 6, 7, 30⟩ [⟨0, 6, 11, 13⟩] htab (fun z hz => nomatch hz) (by decide) (by decide) (cx.2.2.2.2.ts _ gw_217) (gcast hX 1 gcm1) hce hcv hcl ?_
      refine W.eq (g2 := F0 m 7 ls [.ref q9]) rfl ?_
      refine lv_astore_n (lv' := [(3, .ref q9), (0, .ref (G.2.1 0)), (1, .int a1), (2, .int a2)]) cx.1 cx.2.1 dL_tryCompany_7 rfl hl (by decide) rfl (fun ls hl => ?_)
      refine lv_ldc cx.1 cx.2.1 cx.2.2.2.1 (cx.2.2.2.2.ts _ gw_218) dL_tryCompany_8 ?_
      exact gw_ireti cx hr hlk hw hS hf dL_tryCompany_10 (Nat.le_of_ble_eq_true rfl) (Nat.le_of_ble_eq_true rfl)
    | 2, hx0, hf =>
      have hf : some ((-9999002 : Int32), S9) = some (r, S') := hf
      refine gx_caught (k := 1) (gx_rV (As := [.int a1, .int a2]) (rest := []) cx hX hZ hw hS (c_X10_company l hst G a1 a2 S 2 v9 S9 hx0) (by omega) he_c0 rfl rfl gw_352 gy_X10_company gi_X10_company ⟨Nat.le_of_ble_eq_true rfl, Nat.le_of_ble_eq_true rfl⟩ ⟨Nat.le_of_ble_eq_true rfl, Nat.le_of_ble_eq_true rfl⟩ rfl hl.1 rfl (Nat.le_of_ble_eq_true rfl) dL_tryCompany_3) hS (fun q9 ce H locs hce hcv hcl hS hw => ?_)
      refine vx_catch (own := RL) (name := gEn 2) (E := gEn 2) cx.2.2.2.1 [⟨0, 6, 7, 30⟩] ⟨0, 6, 11, 13⟩ [] htab (List.forall_mem_cons.mpr ⟨Or.inr ⟨by decide, gEn 1, cx.2.2.2.2.ts _ gw_217, hX.2.2.1⟩, fun z hz => nomatch hz⟩) (by decide) (by decide) (cx.2.2.2.2.ts _ gw_189) (gcast hX 2 gcm2) hce hcv hcl ?_
      refine W.eq (g2 := F0 m 11 ls [.ref q9]) rfl ?_
      refine lv_astore_n (lv' := [(3, .ref q9), (0, .ref (G.2.1 0)), (1, .int a1), (2, .int a2)]) cx.1 cx.2.1 dL_tryCompany_11 rfl hl (by decide) rfl (fun ls hl => ?_)
      refine lv_ldc cx.1 cx.2.1 cx.2.2.2.1 (cx.2.2.2.2.ts _ gw_190) dL_tryCompany_12 ?_
      exact gw_ireti cx hr hlk hw hS hf dL_tryCompany_14 (Nat.le_of_ble_eq_true rfl) (Nat.le_of_ble_eq_true rfl)
    | 3, hx0, hf =>
      have hf : (none : Option (Int32 × Sg)) = some (r, S') := hf
      cases hf
    | k9 + 4, hx0, hf =>
      have hf : (none : Option (Int32 × Sg)) = some (r, S') := hf
      cases hf
theorem gyw_L_tryCompany : Cond.codeWith yL_tryCompany cL_tryCompany 4 (some .int) [(0, 6, 7, 30), (0, 6, 11, 13)] ∈ wsL_law ∧ Cond.static yL_tryCompany ∈ wsL_law ∧ (parseMethodDescriptor yL_tryCompany.desc).map (fun d => d.parameters.length) = some 3 := ⟨gw_351, gw_350, by decide +kernel⟩
set_option maxHeartbeats 4000000 in
set_option maxRecDepth 100000 in
theorem c_L_tryTrain (l : Launch) (hst : l.stackTraces = false) (G : gG) (a1 : Int32) (a2 : Int32) (a3 : Int32) (S : Sg) (r : Int32) (S' : Sg) (hf : f_L_tryTrain a1 a2 a3 S = some (r, S')) : gCw l yL_tryTrain [Cond.codeWith yL_tryTrain cL_tryTrain 5 (some .int) [(0, 7, 8, 30), (0, 7, 13, 13)]] (gRx 9 155 3 18) G [.ref (G.2.1 0), .int a1, .int a2, .int a3] S (some (.int r)) S' 3 18 := by
  refine gCw_of (by decide) (Nat.le_of_ble_eq_true rfl) ?_
  intro p e s m below meth c ls cx hX hZ htab hr hlk hw hS hl
  have hl : lv_has ls 5 [(0, .ref (G.2.1 0)), (1, .int a1), (2, .int a2), (3, .int a3)] := hl
  have hN := cx.2.2.2.2.hN
  replace htab := gtab2 htab
  unfold f_L_tryTrain at hf
  refine lv_aload_n cx.1 cx.2.1 dL_tryTrain_0 rfl (lv_at hl 0 rfl) ?_
  refine lv_iload_n cx.1 cx.2.1 dL_tryTrain_1 rfl (lv_at hl 1 rfl) ?_
  refine lv_iload_n cx.1 cx.2.1 dL_tryTrain_2 rfl (lv_at hl 2 rfl) ?_
  refine lv_iload_n cx.1 cx.2.1 dL_tryTrain_3 rfl (lv_at hl 3 rfl) ?_
  rcases hx0 : f_X10_train a1 a2 a3 S with _ | ⟨k9, v9, S9⟩
  · rw [hx0] at hf; cases hf
  · rw [hx0] at hf
    match k9, hx0, hf with
    | 0, hx0, hf =>
      refine gx_ret (gx_rV (As := [.int a1, .int a2, .int a3]) (rest := []) cx hX hZ hw hS (c_X10_train l hst G a1 a2 a3 S 0 v9 S9 hx0) (by omega) he_c0 rfl rfl gw_392 gy_X10_train gi_X10_train ⟨Nat.le_of_ble_eq_true rfl, Nat.le_of_ble_eq_true rfl⟩ ⟨Nat.le_of_ble_eq_true rfl, Nat.le_of_ble_eq_true rfl⟩ rfl hl.1 rfl (Nat.le_of_ble_eq_true rfl) dL_tryTrain_4) hS (fun H locs hw hS => ?_)
      refine W.eq (g2 := F0 m 7 ls [.int v9]) rfl ?_
      have hf : some (v9, S9) = some (r, S') := hf
      exact gw_ireti cx hr hlk hw hS hf dL_tryTrain_7 (Nat.le_of_ble_eq_true rfl) (Nat.le_of_ble_eq_true rfl)
    | 1, hx0, hf =>
      have hf : some ((-9999001 : Int32), S9) = some (r, S') := hf
      refine gx_caught (k := 0) (gx_rV (As := [.int a1, .int a2, .int a3]) (rest := []) cx hX hZ hw hS (c_X10_train l hst G a1 a2 a3 S 1 v9 S9 hx0) (by omega) he_c0 rfl rfl gw_392 gy_X10_train gi_X10_train ⟨Nat.le_of_ble_eq_true rfl, Nat.le_of_ble_eq_true rfl⟩ ⟨Nat.le_of_ble_eq_true rfl, Nat.le_of_ble_eq_true rfl⟩ rfl hl.1 rfl (Nat.le_of_ble_eq_true rfl) dL_tryTrain_4) hS (fun q9 ce H locs hce hcv hcl hS hw => ?_)
      refine vx_catch (own := RL) (name := gEn 1) (E := gEn 1) cx.2.2.2.1 [] ⟨0, 7, 8, 30⟩ [⟨0, 7, 13, 13⟩] htab (fun z hz => nomatch hz) (by decide) (by decide) (cx.2.2.2.2.ts _ gw_217) (gcast hX 1 gcm1) hce hcv hcl ?_
      refine W.eq (g2 := F0 m 8 ls [.ref q9]) rfl ?_
      refine lv_astore (lv' := [(4, .ref q9), (0, .ref (G.2.1 0)), (1, .int a1), (2, .int a2), (3, .int a3)]) cx.1 cx.2.1 dL_tryTrain_8 hl (by decide) rfl (fun ls hl => ?_)
      refine lv_ldc cx.1 cx.2.1 cx.2.2.2.1 (cx.2.2.2.2.ts _ gw_218) dL_tryTrain_10 ?_
      exact gw_ireti cx hr hlk hw hS hf dL_tryTrain_12 (Nat.le_of_ble_eq_true rfl) (Nat.le_of_ble_eq_true rfl)
    | 2, hx0, hf =>
      have hf : some ((-9999002 : Int32), S9) = some (r, S') := hf
      refine gx_caught (k := 1) (gx_rV (As := [.int a1, .int a2, .int a3]) (rest := []) cx hX hZ hw hS (c_X10_train l hst G a1 a2 a3 S 2 v9 S9 hx0) (by omega) he_c0 rfl rfl gw_392 gy_X10_train gi_X10_train ⟨Nat.le_of_ble_eq_true rfl, Nat.le_of_ble_eq_true rfl⟩ ⟨Nat.le_of_ble_eq_true rfl, Nat.le_of_ble_eq_true rfl⟩ rfl hl.1 rfl (Nat.le_of_ble_eq_true rfl) dL_tryTrain_4) hS (fun q9 ce H locs hce hcv hcl hS hw => ?_)
      refine vx_catch (own := RL) (name := gEn 2) (E := gEn 2) cx.2.2.2.1 [⟨0, 7, 8, 30⟩] ⟨0, 7, 13, 13⟩ [] htab (List.forall_mem_cons.mpr ⟨Or.inr ⟨by decide, gEn 1, cx.2.2.2.2.ts _ gw_217, hX.2.2.1⟩, fun z hz => nomatch hz⟩) (by decide) (by decide) (cx.2.2.2.2.ts _ gw_189) (gcast hX 2 gcm2) hce hcv hcl ?_
      refine W.eq (g2 := F0 m 13 ls [.ref q9]) rfl ?_
      refine lv_astore (lv' := [(4, .ref q9), (0, .ref (G.2.1 0)), (1, .int a1), (2, .int a2), (3, .int a3)]) cx.1 cx.2.1 dL_tryTrain_13 hl (by decide) rfl (fun ls hl => ?_)
      refine lv_ldc cx.1 cx.2.1 cx.2.2.2.1 (cx.2.2.2.2.ts _ gw_190) dL_tryTrain_15 ?_
      exact gw_ireti cx hr hlk hw hS hf dL_tryTrain_17 (Nat.le_of_ble_eq_true rfl) (Nat.le_of_ble_eq_true rfl)
    | 3, hx0, hf =>
      have hf : (none : Option (Int32 × Sg)) = some (r, S') := hf
      cases hf
    | k9 + 4, hx0, hf =>
      have hf : (none : Option (Int32 × Sg)) = some (r, S') := hf
      cases hf
theorem gyw_L_tryTrain : Cond.codeWith yL_tryTrain cL_tryTrain 5 (some .int) [(0, 7, 8, 30), (0, 7, 13, 13)] ∈ wsL_law ∧ Cond.static yL_tryTrain ∈ wsL_law ∧ (parseMethodDescriptor yL_tryTrain.desc).map (fun d => d.parameters.length) = some 4 := ⟨gw_391, gw_390, by decide +kernel⟩
set_option maxHeartbeats 4000000 in
set_option maxRecDepth 100000 in
theorem c_L_tryContract (l : Launch) (hst : l.stackTraces = false) (G : gG) (a1 : Int32) (a2 : Int32) (S : Sg) (r : Int32) (S' : Sg) (hf : f_L_tryContract a1 a2 S = some (r, S')) : gCw l yL_tryContract [Cond.codeWith yL_tryContract cL_tryContract 4 (some .int) [(0, 6, 7, 30), (0, 6, 11, 13)]] (gRx 9 154 2 12) G [.ref (G.2.1 0), .int a1, .int a2] S (some (.int r)) S' 2 12 := by
  refine gCw_of (by decide) (Nat.le_of_ble_eq_true rfl) ?_
  intro p e s m below meth c ls cx hX hZ htab hr hlk hw hS hl
  have hl : lv_has ls 4 [(0, .ref (G.2.1 0)), (1, .int a1), (2, .int a2)] := hl
  have hN := cx.2.2.2.2.hN
  replace htab := gtab2 htab
  unfold f_L_tryContract at hf
  refine lv_aload_n cx.1 cx.2.1 dL_tryContract_0 rfl (lv_at hl 0 rfl) ?_
  refine lv_iload_n cx.1 cx.2.1 dL_tryContract_1 rfl (lv_at hl 1 rfl) ?_
  refine lv_iload_n cx.1 cx.2.1 dL_tryContract_2 rfl (lv_at hl 2 rfl) ?_
  rcases hx0 : f_X10_contract a1 a2 S with _ | ⟨k9, v9, S9⟩
  · rw [hx0] at hf; cases hf
  · rw [hx0] at hf
    match k9, hx0, hf with
    | 0, hx0, hf =>
      refine gx_ret (gx_rV (As := [.int a1, .int a2]) (rest := []) cx hX hZ hw hS (c_X10_contract l hst G a1 a2 S 0 v9 S9 hx0) (by omega) he_c0 rfl rfl gw_419 gy_X10_contract gi_X10_contract ⟨Nat.le_of_ble_eq_true rfl, Nat.le_of_ble_eq_true rfl⟩ ⟨Nat.le_of_ble_eq_true rfl, Nat.le_of_ble_eq_true rfl⟩ rfl hl.1 rfl (Nat.le_of_ble_eq_true rfl) dL_tryContract_3) hS (fun H locs hw hS => ?_)
      refine W.eq (g2 := F0 m 6 ls [.int v9]) rfl ?_
      have hf : some (v9, S9) = some (r, S') := hf
      exact gw_ireti cx hr hlk hw hS hf dL_tryContract_6 (Nat.le_of_ble_eq_true rfl) (Nat.le_of_ble_eq_true rfl)
    | 1, hx0, hf =>
      have hf : some ((-9999001 : Int32), S9) = some (r, S') := hf
      refine gx_caught (k := 0) (gx_rV (As := [.int a1, .int a2]) (rest := []) cx hX hZ hw hS (c_X10_contract l hst G a1 a2 S 1 v9 S9 hx0) (by omega) he_c0 rfl rfl gw_419 gy_X10_contract gi_X10_contract ⟨Nat.le_of_ble_eq_true rfl, Nat.le_of_ble_eq_true rfl⟩ ⟨Nat.le_of_ble_eq_true rfl, Nat.le_of_ble_eq_true rfl⟩ rfl hl.1 rfl (Nat.le_of_ble_eq_true rfl) dL_tryContract_3) hS (fun q9 ce H locs hce hcv hcl hS hw => ?_)
      refine vx_catch (own := RL) (name := gEn 1) (E := gEn 1) cx.2.2.2.1 [] ⟨0, 6, 7, 30⟩ [⟨0, 6, 11, 13⟩] htab (fun z hz => nomatch hz) (by decide) (by decide) (cx.2.2.2.2.ts _ gw_217) (gcast hX 1 gcm1) hce hcv hcl ?_
      refine W.eq (g2 := F0 m 7 ls [.ref q9]) rfl ?_
      refine lv_astore_n (lv' := [(3, .ref q9), (0, .ref (G.2.1 0)), (1, .int a1), (2, .int a2)]) cx.1 cx.2.1 dL_tryContract_7 rfl hl (by decide) rfl (fun ls hl => ?_)
      refine lv_ldc cx.1 cx.2.1 cx.2.2.2.1 (cx.2.2.2.2.ts _ gw_218) dL_tryContract_8 ?_
      exact gw_ireti cx hr hlk hw hS hf dL_tryContract_10 (Nat.le_of_ble_eq_true rfl) (Nat.le_of_ble_eq_true rfl)
    | 2, hx0, hf =>
      have hf : some ((-9999002 : Int32), S9) = some (r, S') := hf
      refine gx_caught (k := 1) (gx_rV (As := [.int a1, .int a2]) (rest := []) cx hX hZ hw hS (c_X10_contract l hst G a1 a2 S 2 v9 S9 hx0) (by omega) he_c0 rfl rfl gw_419 gy_X10_contract gi_X10_contract ⟨Nat.le_of_ble_eq_true rfl, Nat.le_of_ble_eq_true rfl⟩ ⟨Nat.le_of_ble_eq_true rfl, Nat.le_of_ble_eq_true rfl⟩ rfl hl.1 rfl (Nat.le_of_ble_eq_true rfl) dL_tryContract_3) hS (fun q9 ce H locs hce hcv hcl hS hw => ?_)
      refine vx_catch (own := RL) (name := gEn 2) (E := gEn 2) cx.2.2.2.1 [⟨0, 6, 7, 30⟩] ⟨0, 6, 11, 13⟩ [] htab (List.forall_mem_cons.mpr ⟨Or.inr ⟨by decide, gEn 1, cx.2.2.2.2.ts _ gw_217, hX.2.2.1⟩, fun z hz => nomatch hz⟩) (by decide) (by decide) (cx.2.2.2.2.ts _ gw_189) (gcast hX 2 gcm2) hce hcv hcl ?_
      refine W.eq (g2 := F0 m 11 ls [.ref q9]) rfl ?_
      refine lv_astore_n (lv' := [(3, .ref q9), (0, .ref (G.2.1 0)), (1, .int a1), (2, .int a2)]) cx.1 cx.2.1 dL_tryContract_11 rfl hl (by decide) rfl (fun ls hl => ?_)
      refine lv_ldc cx.1 cx.2.1 cx.2.2.2.1 (cx.2.2.2.2.ts _ gw_190) dL_tryContract_12 ?_
      exact gw_ireti cx hr hlk hw hS hf dL_tryContract_14 (Nat.le_of_ble_eq_true rfl) (Nat.le_of_ble_eq_true rfl)
    | 3, hx0, hf =>
      have hf : (none : Option (Int32 × Sg)) = some (r, S') := hf
      cases hf
    | k9 + 4, hx0, hf =>
      have hf : (none : Option (Int32 × Sg)) = some (r, S') := hf
      cases hf
theorem gyw_L_tryContract : Cond.codeWith yL_tryContract cL_tryContract 4 (some .int) [(0, 6, 7, 30), (0, 6, 11, 13)] ∈ wsL_law ∧ Cond.static yL_tryContract ∈ wsL_law ∧ (parseMethodDescriptor yL_tryContract.desc).map (fun d => d.parameters.length) = some 3 := ⟨gw_418, gw_417, by decide +kernel⟩
set_option maxHeartbeats 4000000 in
set_option maxRecDepth 100000 in
theorem c_L_tryBuyTrack (l : Launch) (hst : l.stackTraces = false) (G : gG) (a1 : Int32) (a2 : Int32) (S : Sg) (r : Int32) (S' : Sg) (hf : f_L_tryBuyTrack a1 a2 S = some (r, S')) : gCw l yL_tryBuyTrack [Cond.codeWith yL_tryBuyTrack cL_tryBuyTrack 4 (some .int) [(0, 6, 7, 30), (0, 6, 11, 16)]] (gRx 9 187 3 18) G [.ref (G.2.1 0), .int a1, .int a2] S (some (.int r)) S' 3 18 := by
  refine gCw_of (by decide) (Nat.le_of_ble_eq_true rfl) ?_
  intro p e s m below meth c ls cx hX hZ htab hr hlk hw hS hl
  have hl : lv_has ls 4 [(0, .ref (G.2.1 0)), (1, .int a1), (2, .int a2)] := hl
  have hN := cx.2.2.2.2.hN
  replace htab := gtab2 htab
  unfold f_L_tryBuyTrack at hf
  refine lv_aload_n cx.1 cx.2.1 dL_tryBuyTrack_0 rfl (lv_at hl 0 rfl) ?_
  refine lv_iload_n cx.1 cx.2.1 dL_tryBuyTrack_1 rfl (lv_at hl 1 rfl) ?_
  refine lv_iload_n cx.1 cx.2.1 dL_tryBuyTrack_2 rfl (lv_at hl 2 rfl) ?_
  rcases hx0 : f_X10_buyTrack a1 a2 S with _ | ⟨k9, v9, S9⟩
  · rw [hx0] at hf; cases hf
  · rw [hx0] at hf
    match k9, hx0, hf with
    | 0, hx0, hf =>
      refine gx_ret (gx_rV (As := [.int a1, .int a2]) (rest := []) cx hX hZ hw hS (c_X10_buyTrack l hst G a1 a2 S 0 v9 S9 hx0) (by omega) he_c0 rfl rfl gw_440 gy_X10_buyTrack gi_X10_buyTrack ⟨Nat.le_of_ble_eq_true rfl, Nat.le_of_ble_eq_true rfl⟩ ⟨Nat.le_of_ble_eq_true rfl, Nat.le_of_ble_eq_true rfl⟩ rfl hl.1 rfl (Nat.le_of_ble_eq_true rfl) dL_tryBuyTrack_3) hS (fun H locs hw hS => ?_)
      refine W.eq (g2 := F0 m 6 ls [.int v9]) rfl ?_
      have hf : some (v9, S9) = some (r, S') := hf
      exact gw_ireti cx hr hlk hw hS hf dL_tryBuyTrack_6 (Nat.le_of_ble_eq_true rfl) (Nat.le_of_ble_eq_true rfl)
    | 1, hx0, hf =>
      have hf : some ((-9999001 : Int32), S9) = some (r, S') := hf
      refine gx_caught (k := 0) (gx_rV (As := [.int a1, .int a2]) (rest := []) cx hX hZ hw hS (c_X10_buyTrack l hst G a1 a2 S 1 v9 S9 hx0) (by omega) he_c0 rfl rfl gw_440 gy_X10_buyTrack gi_X10_buyTrack ⟨Nat.le_of_ble_eq_true rfl, Nat.le_of_ble_eq_true rfl⟩ ⟨Nat.le_of_ble_eq_true rfl, Nat.le_of_ble_eq_true rfl⟩ rfl hl.1 rfl (Nat.le_of_ble_eq_true rfl) dL_tryBuyTrack_3) hS (fun q9 ce H locs hce hcv hcl hS hw => ?_)
      refine vx_catch (own := RL) (name := gEn 1) (E := gEn 1) cx.2.2.2.1 [] ⟨0, 6, 7, 30⟩ [⟨0, 6, 11, 16⟩] htab (fun z hz => nomatch hz) (by decide) (by decide) (cx.2.2.2.2.ts _ gw_217) (gcast hX 1 gcm1) hce hcv hcl ?_
      refine W.eq (g2 := F0 m 7 ls [.ref q9]) rfl ?_
      refine lv_astore_n (lv' := [(3, .ref q9), (0, .ref (G.2.1 0)), (1, .int a1), (2, .int a2)]) cx.1 cx.2.1 dL_tryBuyTrack_7 rfl hl (by decide) rfl (fun ls hl => ?_)
      refine lv_ldc cx.1 cx.2.1 cx.2.2.2.1 (cx.2.2.2.2.ts _ gw_218) dL_tryBuyTrack_8 ?_
      exact gw_ireti cx hr hlk hw hS hf dL_tryBuyTrack_10 (Nat.le_of_ble_eq_true rfl) (Nat.le_of_ble_eq_true rfl)
    | 2, hx0, hf =>
      have hf : (none : Option (Int32 × Sg)) = some (r, S') := hf
      cases hf
    | 3, hx0, hf =>
      have hf : some ((-9999003 : Int32), S9) = some (r, S') := hf
      refine gx_caught (k := 2) (gx_rV (As := [.int a1, .int a2]) (rest := []) cx hX hZ hw hS (c_X10_buyTrack l hst G a1 a2 S 3 v9 S9 hx0) (by omega) he_c0 rfl rfl gw_440 gy_X10_buyTrack gi_X10_buyTrack ⟨Nat.le_of_ble_eq_true rfl, Nat.le_of_ble_eq_true rfl⟩ ⟨Nat.le_of_ble_eq_true rfl, Nat.le_of_ble_eq_true rfl⟩ rfl hl.1 rfl (Nat.le_of_ble_eq_true rfl) dL_tryBuyTrack_3) hS (fun q9 ce H locs hce hcv hcl hS hw => ?_)
      refine vx_catch (own := RL) (name := gEn 3) (E := gEn 3) cx.2.2.2.1 [⟨0, 6, 7, 30⟩] ⟨0, 6, 11, 16⟩ [] htab (List.forall_mem_cons.mpr ⟨Or.inr ⟨by decide, gEn 1, cx.2.2.2.2.ts _ gw_217, hX.2.2.2.1⟩, fun z hz => nomatch hz⟩) (by decide) (by decide) (cx.2.2.2.2.ts _ gw_297) (gcast hX 3 gcm3) hce hcv hcl ?_
      refine W.eq (g2 := F0 m 11 ls [.ref q9]) rfl ?_
      refine lv_astore_n (lv' := [(3, .ref q9), (0, .ref (G.2.1 0)), (1, .int a1), (2, .int a2)]) cx.1 cx.2.1 dL_tryBuyTrack_11 rfl hl (by decide) rfl (fun ls hl => ?_)
      refine lv_ldc cx.1 cx.2.1 cx.2.2.2.1 (cx.2.2.2.2.ts _ gw_3) dL_tryBuyTrack_12 ?_
      exact gw_ireti cx hr hlk hw hS hf dL_tryBuyTrack_14 (Nat.le_of_ble_eq_true rfl) (Nat.le_of_ble_eq_true rfl)
    | k9 + 4, hx0, hf =>
      have hf : (none : Option (Int32 × Sg)) = some (r, S') := hf
      cases hf
theorem gyw_L_tryBuyTrack : Cond.codeWith yL_tryBuyTrack cL_tryBuyTrack 4 (some .int) [(0, 6, 7, 30), (0, 6, 11, 16)] ∈ wsL_law ∧ Cond.static yL_tryBuyTrack ∈ wsL_law ∧ (parseMethodDescriptor yL_tryBuyTrack.desc).map (fun d => d.parameters.length) = some 3 := ⟨gw_439, gw_438, by decide +kernel⟩
set_option maxHeartbeats 4000000 in
set_option maxRecDepth 100000 in
theorem c_L_tryBuyTrain (l : Launch) (hst : l.stackTraces = false) (G : gG) (a1 : Int32) (a2 : Int32) (S : Sg) (r : Int32) (S' : Sg) (hf : f_L_tryBuyTrain a1 a2 S = some (r, S')) : gCw l yL_tryBuyTrain [Cond.codeWith yL_tryBuyTrain cL_tryBuyTrain 4 (some .int) [(0, 6, 7, 30), (0, 6, 11, 13), (0, 6, 15, 16)]] (gRx 9 187 3 18) G [.ref (G.2.1 0), .int a1, .int a2] S (some (.int r)) S' 3 18 := by
  refine gCw_of (by decide) (Nat.le_of_ble_eq_true rfl) ?_
  intro p e s m below meth c ls cx hX hZ htab hr hlk hw hS hl
  have hl : lv_has ls 4 [(0, .ref (G.2.1 0)), (1, .int a1), (2, .int a2)] := hl
  have hN := cx.2.2.2.2.hN
  replace htab := gtab3 htab
  unfold f_L_tryBuyTrain at hf
  refine lv_aload_n cx.1 cx.2.1 dL_tryBuyTrain_0 rfl (lv_at hl 0 rfl) ?_
  refine lv_iload_n cx.1 cx.2.1 dL_tryBuyTrain_1 rfl (lv_at hl 1 rfl) ?_
  refine lv_iload_n cx.1 cx.2.1 dL_tryBuyTrain_2 rfl (lv_at hl 2 rfl) ?_
  rcases hx0 : f_X10_buyTrain a1 a2 S with _ | ⟨k9, v9, S9⟩
  · rw [hx0] at hf; cases hf
  · rw [hx0] at hf
    match k9, hx0, hf with
    | 0, hx0, hf =>
      refine gx_ret (gx_rV (As := [.int a1, .int a2]) (rest := []) cx hX hZ hw hS (c_X10_buyTrain l hst G a1 a2 S 0 v9 S9 hx0) (by omega) he_c0 rfl rfl gw_471 gy_X10_buyTrain gi_X10_buyTrain ⟨Nat.le_of_ble_eq_true rfl, Nat.le_of_ble_eq_true rfl⟩ ⟨Nat.le_of_ble_eq_true rfl, Nat.le_of_ble_eq_true rfl⟩ rfl hl.1 rfl (Nat.le_of_ble_eq_true rfl) dL_tryBuyTrain_3) hS (fun H locs hw hS => ?_)
      refine W.eq (g2 := F0 m 6 ls [.int v9]) rfl ?_
      have hf : some (v9, S9) = some (r, S') := hf
      exact gw_ireti cx hr hlk hw hS hf dL_tryBuyTrain_6 (Nat.le_of_ble_eq_true rfl) (Nat.le_of_ble_eq_true rfl)
    | 1, hx0, hf =>
      have hf : some ((-9999001 : Int32), S9) = some (r, S') := hf
      refine gx_caught (k := 0) (gx_rV (As := [.int a1, .int a2]) (rest := []) cx hX hZ hw hS (c_X10_buyTrain l hst G a1 a2 S 1 v9 S9 hx0) (by omega) he_c0 rfl rfl gw_471 gy_X10_buyTrain gi_X10_buyTrain ⟨Nat.le_of_ble_eq_true rfl, Nat.le_of_ble_eq_true rfl⟩ ⟨Nat.le_of_ble_eq_true rfl, Nat.le_of_ble_eq_true rfl⟩ rfl hl.1 rfl (Nat.le_of_ble_eq_true rfl) dL_tryBuyTrain_3) hS (fun q9 ce H locs hce hcv hcl hS hw => ?_)
      refine vx_catch (own := RL) (name := gEn 1) (E := gEn 1) cx.2.2.2.1 [] ⟨0, 6, 7, 30⟩ [⟨0, 6, 11, 13⟩, ⟨0, 6, 15, 16⟩] htab (fun z hz => nomatch hz) (by decide) (by decide) (cx.2.2.2.2.ts _ gw_217) (gcast hX 1 gcm1) hce hcv hcl ?_
      refine W.eq (g2 := F0 m 7 ls [.ref q9]) rfl ?_
      refine lv_astore_n (lv' := [(3, .ref q9), (0, .ref (G.2.1 0)), (1, .int a1), (2, .int a2)]) cx.1 cx.2.1 dL_tryBuyTrain_7 rfl hl (by decide) rfl (fun ls hl => ?_)
      refine lv_ldc cx.1 cx.2.1 cx.2.2.2.1 (cx.2.2.2.2.ts _ gw_218) dL_tryBuyTrain_8 ?_
      exact gw_ireti cx hr hlk hw hS hf dL_tryBuyTrain_10 (Nat.le_of_ble_eq_true rfl) (Nat.le_of_ble_eq_true rfl)
    | 2, hx0, hf =>
      have hf : some ((-9999002 : Int32), S9) = some (r, S') := hf
      refine gx_caught (k := 1) (gx_rV (As := [.int a1, .int a2]) (rest := []) cx hX hZ hw hS (c_X10_buyTrain l hst G a1 a2 S 2 v9 S9 hx0) (by omega) he_c0 rfl rfl gw_471 gy_X10_buyTrain gi_X10_buyTrain ⟨Nat.le_of_ble_eq_true rfl, Nat.le_of_ble_eq_true rfl⟩ ⟨Nat.le_of_ble_eq_true rfl, Nat.le_of_ble_eq_true rfl⟩ rfl hl.1 rfl (Nat.le_of_ble_eq_true rfl) dL_tryBuyTrain_3) hS (fun q9 ce H locs hce hcv hcl hS hw => ?_)
      refine vx_catch (own := RL) (name := gEn 2) (E := gEn 2) cx.2.2.2.1 [⟨0, 6, 7, 30⟩] ⟨0, 6, 11, 13⟩ [⟨0, 6, 15, 16⟩] htab (List.forall_mem_cons.mpr ⟨Or.inr ⟨by decide, gEn 1, cx.2.2.2.2.ts _ gw_217, hX.2.2.1⟩, fun z hz => nomatch hz⟩) (by decide) (by decide) (cx.2.2.2.2.ts _ gw_189) (gcast hX 2 gcm2) hce hcv hcl ?_
      refine W.eq (g2 := F0 m 11 ls [.ref q9]) rfl ?_
      refine lv_astore_n (lv' := [(3, .ref q9), (0, .ref (G.2.1 0)), (1, .int a1), (2, .int a2)]) cx.1 cx.2.1 dL_tryBuyTrain_11 rfl hl (by decide) rfl (fun ls hl => ?_)
      refine lv_ldc cx.1 cx.2.1 cx.2.2.2.1 (cx.2.2.2.2.ts _ gw_190) dL_tryBuyTrain_12 ?_
      exact gw_ireti cx hr hlk hw hS hf dL_tryBuyTrain_14 (Nat.le_of_ble_eq_true rfl) (Nat.le_of_ble_eq_true rfl)
    | 3, hx0, hf =>
      have hf : some ((-9999003 : Int32), S9) = some (r, S') := hf
      refine gx_caught (k := 2) (gx_rV (As := [.int a1, .int a2]) (rest := []) cx hX hZ hw hS (c_X10_buyTrain l hst G a1 a2 S 3 v9 S9 hx0) (by omega) he_c0 rfl rfl gw_471 gy_X10_buyTrain gi_X10_buyTrain ⟨Nat.le_of_ble_eq_true rfl, Nat.le_of_ble_eq_true rfl⟩ ⟨Nat.le_of_ble_eq_true rfl, Nat.le_of_ble_eq_true rfl⟩ rfl hl.1 rfl (Nat.le_of_ble_eq_true rfl) dL_tryBuyTrain_3) hS (fun q9 ce H locs hce hcv hcl hS hw => ?_)
      refine vx_catch (own := RL) (name := gEn 3) (E := gEn 3) cx.2.2.2.1 [⟨0, 6, 7, 30⟩, ⟨0, 6, 11, 13⟩] ⟨0, 6, 15, 16⟩ [] htab (List.forall_mem_cons.mpr ⟨Or.inr ⟨by decide, gEn 1, cx.2.2.2.2.ts _ gw_217, hX.2.2.2.1⟩, List.forall_mem_cons.mpr ⟨Or.inr ⟨by decide, gEn 2, cx.2.2.2.2.ts _ gw_189, hX.2.2.2.2⟩, fun z hz => nomatch hz⟩⟩) (by decide) (by decide) (cx.2.2.2.2.ts _ gw_297) (gcast hX 3 gcm3) hce hcv hcl ?_
      refine W.eq (g2 := F0 m 15 ls [.ref q9]) rfl ?_
      refine lv_astore_n (lv' := [(3, .ref q9), (0, .ref (G.2.1 0)), (1, .int a1), (2, .int a2)]) cx.1 cx.2.1 dL_tryBuyTrain_15 rfl hl (by decide) rfl (fun ls hl => ?_)
      refine lv_ldc cx.1 cx.2.1 cx.2.2.2.1 (cx.2.2.2.2.ts _ gw_3) dL_tryBuyTrain_16 ?_
      exact gw_ireti cx hr hlk hw hS hf dL_tryBuyTrain_18 (Nat.le_of_ble_eq_true rfl) (Nat.le_of_ble_eq_true rfl)
    | k9 + 4, hx0, hf =>
      have hf : (none : Option (Int32 × Sg)) = some (r, S') := hf
      cases hf
theorem gyw_L_tryBuyTrain : Cond.codeWith yL_tryBuyTrain cL_tryBuyTrain 4 (some .int) [(0, 6, 7, 30), (0, 6, 11, 13), (0, 6, 15, 16)] ∈ wsL_law ∧ Cond.static yL_tryBuyTrain ∈ wsL_law ∧ (parseMethodDescriptor yL_tryBuyTrain.desc).map (fun d => d.parameters.length) = some 3 := ⟨gw_470, gw_469, by decide +kernel⟩
set_option maxHeartbeats 4000000 in
set_option maxRecDepth 100000 in
theorem c_L_trySetRent (l : Launch) (hst : l.stackTraces = false) (G : gG) (a1 : Int32) (a2 : Int32) (S : Sg) (r : Int32) (S' : Sg) (hf : f_L_trySetRent a1 a2 S = some (r, S')) : gCw l yL_trySetRent [Cond.codeWith yL_trySetRent cL_trySetRent 4 (some .int) [(0, 6, 7, 30), (0, 6, 11, 13)]] (gRx 9 188 2 12) G [.ref (G.2.1 0), .int a1, .int a2] S (some (.int r)) S' 2 12 := by
  refine gCw_of (by decide) (Nat.le_of_ble_eq_true rfl) ?_
  intro p e s m below meth c ls cx hX hZ htab hr hlk hw hS hl
  have hl : lv_has ls 4 [(0, .ref (G.2.1 0)), (1, .int a1), (2, .int a2)] := hl
  have hN := cx.2.2.2.2.hN
  replace htab := gtab2 htab
  unfold f_L_trySetRent at hf
  refine lv_aload_n cx.1 cx.2.1 dL_trySetRent_0 rfl (lv_at hl 0 rfl) ?_
  refine lv_iload_n cx.1 cx.2.1 dL_trySetRent_1 rfl (lv_at hl 1 rfl) ?_
  refine lv_iload_n cx.1 cx.2.1 dL_trySetRent_2 rfl (lv_at hl 2 rfl) ?_
  rcases hx0 : f_X10_setRent a1 a2 S with _ | ⟨k9, v9, S9⟩
  · rw [hx0] at hf; cases hf
  · rw [hx0] at hf
    match k9, hx0, hf with
    | 0, hx0, hf =>
      refine gx_ret (gx_rV (As := [.int a1, .int a2]) (rest := []) cx hX hZ hw hS (c_X10_setRent l hst G a1 a2 S 0 v9 S9 hx0) (by omega) he_c0 rfl rfl gw_495 gy_X10_setRent gi_X10_setRent ⟨Nat.le_of_ble_eq_true rfl, Nat.le_of_ble_eq_true rfl⟩ ⟨Nat.le_of_ble_eq_true rfl, Nat.le_of_ble_eq_true rfl⟩ rfl hl.1 rfl (Nat.le_of_ble_eq_true rfl) dL_trySetRent_3) hS (fun H locs hw hS => ?_)
      refine W.eq (g2 := F0 m 6 ls [.int v9]) rfl ?_
      have hf : some (v9, S9) = some (r, S') := hf
      exact gw_ireti cx hr hlk hw hS hf dL_trySetRent_6 (Nat.le_of_ble_eq_true rfl) (Nat.le_of_ble_eq_true rfl)
    | 1, hx0, hf =>
      have hf : some ((-9999001 : Int32), S9) = some (r, S') := hf
      refine gx_caught (k := 0) (gx_rV (As := [.int a1, .int a2]) (rest := []) cx hX hZ hw hS (c_X10_setRent l hst G a1 a2 S 1 v9 S9 hx0) (by omega) he_c0 rfl rfl gw_495 gy_X10_setRent gi_X10_setRent ⟨Nat.le_of_ble_eq_true rfl, Nat.le_of_ble_eq_true rfl⟩ ⟨Nat.le_of_ble_eq_true rfl, Nat.le_of_ble_eq_true rfl⟩ rfl hl.1 rfl (Nat.le_of_ble_eq_true rfl) dL_trySetRent_3) hS (fun q9 ce H locs hce hcv hcl hS hw => ?_)
      refine vx_catch (own := RL) (name := gEn 1) (E := gEn 1) cx.2.2.2.1 [] ⟨0, 6, 7, 30⟩ [⟨0, 6, 11, 13⟩] htab (fun z hz => nomatch hz) (by decide) (by decide) (cx.2.2.2.2.ts _ gw_217) (gcast hX 1 gcm1) hce hcv hcl ?_
      refine W.eq (g2 := F0 m 7 ls [.ref q9]) rfl ?_
      refine lv_astore_n (lv' := [(3, .ref q9), (0, .ref (G.2.1 0)), (1, .int a1), (2, .int a2)]) cx.1 cx.2.1 dL_trySetRent_7 rfl hl (by decide) rfl (fun ls hl => ?_)
      refine lv_ldc cx.1 cx.2.1 cx.2.2.2.1 (cx.2.2.2.2.ts _ gw_218) dL_trySetRent_8 ?_
      exact gw_ireti cx hr hlk hw hS hf dL_trySetRent_10 (Nat.le_of_ble_eq_true rfl) (Nat.le_of_ble_eq_true rfl)
    | 2, hx0, hf =>
      have hf : some ((-9999002 : Int32), S9) = some (r, S') := hf
      refine gx_caught (k := 1) (gx_rV (As := [.int a1, .int a2]) (rest := []) cx hX hZ hw hS (c_X10_setRent l hst G a1 a2 S 2 v9 S9 hx0) (by omega) he_c0 rfl rfl gw_495 gy_X10_setRent gi_X10_setRent ⟨Nat.le_of_ble_eq_true rfl, Nat.le_of_ble_eq_true rfl⟩ ⟨Nat.le_of_ble_eq_true rfl, Nat.le_of_ble_eq_true rfl⟩ rfl hl.1 rfl (Nat.le_of_ble_eq_true rfl) dL_trySetRent_3) hS (fun q9 ce H locs hce hcv hcl hS hw => ?_)
      refine vx_catch (own := RL) (name := gEn 2) (E := gEn 2) cx.2.2.2.1 [⟨0, 6, 7, 30⟩] ⟨0, 6, 11, 13⟩ [] htab (List.forall_mem_cons.mpr ⟨Or.inr ⟨by decide, gEn 1, cx.2.2.2.2.ts _ gw_217, hX.2.2.1⟩, fun z hz => nomatch hz⟩) (by decide) (by decide) (cx.2.2.2.2.ts _ gw_189) (gcast hX 2 gcm2) hce hcv hcl ?_
      refine W.eq (g2 := F0 m 11 ls [.ref q9]) rfl ?_
      refine lv_astore_n (lv' := [(3, .ref q9), (0, .ref (G.2.1 0)), (1, .int a1), (2, .int a2)]) cx.1 cx.2.1 dL_trySetRent_11 rfl hl (by decide) rfl (fun ls hl => ?_)
      refine lv_ldc cx.1 cx.2.1 cx.2.2.2.1 (cx.2.2.2.2.ts _ gw_190) dL_trySetRent_12 ?_
      exact gw_ireti cx hr hlk hw hS hf dL_trySetRent_14 (Nat.le_of_ble_eq_true rfl) (Nat.le_of_ble_eq_true rfl)
    | 3, hx0, hf =>
      have hf : (none : Option (Int32 × Sg)) = some (r, S') := hf
      cases hf
    | k9 + 4, hx0, hf =>
      have hf : (none : Option (Int32 × Sg)) = some (r, S') := hf
      cases hf
theorem gyw_L_trySetRent : Cond.codeWith yL_trySetRent cL_trySetRent 4 (some .int) [(0, 6, 7, 30), (0, 6, 11, 13)] ∈ wsL_law ∧ Cond.static yL_trySetRent ∈ wsL_law ∧ (parseMethodDescriptor yL_trySetRent.desc).map (fun d => d.parameters.length) = some 3 := ⟨gw_494, gw_493, by decide +kernel⟩
set_option maxHeartbeats 4000000 in
set_option maxRecDepth 100000 in
theorem c_L_tryOffer (l : Launch) (hst : l.stackTraces = false) (G : gG) (a1 : Int32) (a2 : Int32) (a3 : Int32) (a4 : Int32) (S : Sg) (r : Int32) (S' : Sg) (hf : f_L_tryOffer a1 a2 a3 a4 S = some (r, S')) : gCw l yL_tryOffer [Cond.codeWith yL_tryOffer cL_tryOffer 6 (some .int) [(0, 9, 10, 30), (0, 9, 15, 13), (0, 9, 20, 16)]] (gRx 9 189 6 36) G [.ref (G.2.1 0), .int a1, .int a2, .int a3, .int a4] S (some (.int r)) S' 6 36 := by
  refine gCw_of (by decide) (Nat.le_of_ble_eq_true rfl) ?_
  intro p e s m below meth c ls cx hX hZ htab hr hlk hw hS hl
  have hl : lv_has ls 6 [(0, .ref (G.2.1 0)), (1, .int a1), (2, .int a2), (3, .int a3), (4, .int a4)] := hl
  have hN := cx.2.2.2.2.hN
  replace htab := gtab3 htab
  unfold f_L_tryOffer at hf
  refine lv_aload_n cx.1 cx.2.1 dL_tryOffer_0 rfl (lv_at hl 0 rfl) ?_
  refine lv_iload_n cx.1 cx.2.1 dL_tryOffer_1 rfl (lv_at hl 1 rfl) ?_
  refine lv_iload_n cx.1 cx.2.1 dL_tryOffer_2 rfl (lv_at hl 2 rfl) ?_
  refine lv_iload_n cx.1 cx.2.1 dL_tryOffer_3 rfl (lv_at hl 3 rfl) ?_
  refine lv_iload cx.1 cx.2.1 dL_tryOffer_4 (lv_at hl 4 rfl) ?_
  rcases hx0 : f_X10_offer a1 a2 a3 a4 S with _ | ⟨k9, v9, S9⟩
  · rw [hx0] at hf; cases hf
  · rw [hx0] at hf
    match k9, hx0, hf with
    | 0, hx0, hf =>
      refine gx_ret (gx_rV (As := [.int a1, .int a2, .int a3, .int a4]) (rest := []) cx hX hZ hw hS (c_X10_offer l hst G a1 a2 a3 a4 S 0 v9 S9 hx0) (by omega) he_c0 rfl rfl gw_506 gy_X10_offer gi_X10_offer ⟨Nat.le_of_ble_eq_true rfl, Nat.le_of_ble_eq_true rfl⟩ ⟨Nat.le_of_ble_eq_true rfl, Nat.le_of_ble_eq_true rfl⟩ rfl hl.1 rfl (Nat.le_of_ble_eq_true rfl) dL_tryOffer_6) hS (fun H locs hw hS => ?_)
      refine W.eq (g2 := F0 m 9 ls [.int v9]) rfl ?_
      have hf : some (v9, S9) = some (r, S') := hf
      exact gw_ireti cx hr hlk hw hS hf dL_tryOffer_9 (Nat.le_of_ble_eq_true rfl) (Nat.le_of_ble_eq_true rfl)
    | 1, hx0, hf =>
      have hf : some ((-9999001 : Int32), S9) = some (r, S') := hf
      refine gx_caught (k := 0) (gx_rV (As := [.int a1, .int a2, .int a3, .int a4]) (rest := []) cx hX hZ hw hS (c_X10_offer l hst G a1 a2 a3 a4 S 1 v9 S9 hx0) (by omega) he_c0 rfl rfl gw_506 gy_X10_offer gi_X10_offer ⟨Nat.le_of_ble_eq_true rfl, Nat.le_of_ble_eq_true rfl⟩ ⟨Nat.le_of_ble_eq_true rfl, Nat.le_of_ble_eq_true rfl⟩ rfl hl.1 rfl (Nat.le_of_ble_eq_true rfl) dL_tryOffer_6) hS (fun q9 ce H locs hce hcv hcl hS hw => ?_)
      refine vx_catch (own := RL) (name := gEn 1) (E := gEn 1) cx.2.2.2.1 [] ⟨0, 9, 10, 30⟩ [⟨0, 9, 15, 13⟩, ⟨0, 9, 20, 16⟩] htab (fun z hz => nomatch hz) (by decide) (by decide) (cx.2.2.2.2.ts _ gw_217) (gcast hX 1 gcm1) hce hcv hcl ?_
      refine W.eq (g2 := F0 m 10 ls [.ref q9]) rfl ?_
      refine lv_astore (lv' := [(5, .ref q9), (0, .ref (G.2.1 0)), (1, .int a1), (2, .int a2), (3, .int a3), (4, .int a4)]) cx.1 cx.2.1 dL_tryOffer_10 hl (by decide) rfl (fun ls hl => ?_)
      refine lv_ldc cx.1 cx.2.1 cx.2.2.2.1 (cx.2.2.2.2.ts _ gw_218) dL_tryOffer_12 ?_
      exact gw_ireti cx hr hlk hw hS hf dL_tryOffer_14 (Nat.le_of_ble_eq_true rfl) (Nat.le_of_ble_eq_true rfl)
    | 2, hx0, hf =>
      have hf : some ((-9999002 : Int32), S9) = some (r, S') := hf
      refine gx_caught (k := 1) (gx_rV (As := [.int a1, .int a2, .int a3, .int a4]) (rest := []) cx hX hZ hw hS (c_X10_offer l hst G a1 a2 a3 a4 S 2 v9 S9 hx0) (by omega) he_c0 rfl rfl gw_506 gy_X10_offer gi_X10_offer ⟨Nat.le_of_ble_eq_true rfl, Nat.le_of_ble_eq_true rfl⟩ ⟨Nat.le_of_ble_eq_true rfl, Nat.le_of_ble_eq_true rfl⟩ rfl hl.1 rfl (Nat.le_of_ble_eq_true rfl) dL_tryOffer_6) hS (fun q9 ce H locs hce hcv hcl hS hw => ?_)
      refine vx_catch (own := RL) (name := gEn 2) (E := gEn 2) cx.2.2.2.1 [⟨0, 9, 10, 30⟩] ⟨0, 9, 15, 13⟩ [⟨0, 9, 20, 16⟩] htab (List.forall_mem_cons.mpr ⟨Or.inr ⟨by decide, gEn 1, cx.2.2.2.2.ts _ gw_217, hX.2.2.1⟩, fun z hz => nomatch hz⟩) (by decide) (by decide) (cx.2.2.2.2.ts _ gw_189) (gcast hX 2 gcm2) hce hcv hcl ?_
      refine W.eq (g2 := F0 m 15 ls [.ref q9]) rfl ?_
      refine lv_astore (lv' := [(5, .ref q9), (0, .ref (G.2.1 0)), (1, .int a1), (2, .int a2), (3, .int a3), (4, .int a4)]) cx.1 cx.2.1 dL_tryOffer_15 hl (by decide) rfl (fun ls hl => ?_)
      refine lv_ldc cx.1 cx.2.1 cx.2.2.2.1 (cx.2.2.2.2.ts _ gw_190) dL_tryOffer_17 ?_
      exact gw_ireti cx hr hlk hw hS hf dL_tryOffer_19 (Nat.le_of_ble_eq_true rfl) (Nat.le_of_ble_eq_true rfl)
    | 3, hx0, hf =>
      have hf : some ((-9999003 : Int32), S9) = some (r, S') := hf
      refine gx_caught (k := 2) (gx_rV (As := [.int a1, .int a2, .int a3, .int a4]) (rest := []) cx hX hZ hw hS (c_X10_offer l hst G a1 a2 a3 a4 S 3 v9 S9 hx0) (by omega) he_c0 rfl rfl gw_506 gy_X10_offer gi_X10_offer ⟨Nat.le_of_ble_eq_true rfl, Nat.le_of_ble_eq_true rfl⟩ ⟨Nat.le_of_ble_eq_true rfl, Nat.le_of_ble_eq_true rfl⟩ rfl hl.1 rfl (Nat.le_of_ble_eq_true rfl) dL_tryOffer_6) hS (fun q9 ce H locs hce hcv hcl hS hw => ?_)
      refine vx_catch (own := RL) (name := gEn 3) (E := gEn 3) cx.2.2.2.1 [⟨0, 9, 10, 30⟩, ⟨0, 9, 15, 13⟩] ⟨0, 9, 20, 16⟩ [] htab (List.forall_mem_cons.mpr ⟨Or.inr ⟨by decide, gEn 1, cx.2.2.2.2.ts _ gw_217, hX.2.2.2.1⟩, List.forall_mem_cons.mpr ⟨Or.inr ⟨by decide, gEn 2, cx.2.2.2.2.ts _ gw_189, hX.2.2.2.2⟩, fun z hz => nomatch hz⟩⟩) (by decide) (by decide) (cx.2.2.2.2.ts _ gw_297) (gcast hX 3 gcm3) hce hcv hcl ?_
      refine W.eq (g2 := F0 m 20 ls [.ref q9]) rfl ?_
      refine lv_astore (lv' := [(5, .ref q9), (0, .ref (G.2.1 0)), (1, .int a1), (2, .int a2), (3, .int a3), (4, .int a4)]) cx.1 cx.2.1 dL_tryOffer_20 hl (by decide) rfl (fun ls hl => ?_)
      refine lv_ldc cx.1 cx.2.1 cx.2.2.2.1 (cx.2.2.2.2.ts _ gw_3) dL_tryOffer_22 ?_
      exact gw_ireti cx hr hlk hw hS hf dL_tryOffer_24 (Nat.le_of_ble_eq_true rfl) (Nat.le_of_ble_eq_true rfl)
    | k9 + 4, hx0, hf =>
      have hf : (none : Option (Int32 × Sg)) = some (r, S') := hf
      cases hf
theorem gyw_L_tryOffer : Cond.codeWith yL_tryOffer cL_tryOffer 6 (some .int) [(0, 9, 10, 30), (0, 9, 15, 13), (0, 9, 20, 16)] ∈ wsL_law ∧ Cond.static yL_tryOffer ∈ wsL_law ∧ (parseMethodDescriptor yL_tryOffer.desc).map (fun d => d.parameters.length) = some 5 := ⟨gw_505, gw_504, by decide +kernel⟩
set_option maxHeartbeats 4000000 in
set_option maxRecDepth 100000 in
theorem c_L_tryTake (l : Launch) (hst : l.stackTraces = false) (G : gG) (a1 : Int32) (a2 : Int32) (S : Sg) (r : Int32) (S' : Sg) (hf : f_L_tryTake a1 a2 S = some (r, S')) : gCw l yL_tryTake [Cond.codeWith yL_tryTake cL_tryTake 4 (some .int) [(0, 6, 7, 30), (0, 6, 11, 16)]] (gRx 9 187 3 18) G [.ref (G.2.1 0), .int a1, .int a2] S (some (.int r)) S' 3 18 := by
  refine gCw_of (by decide) (Nat.le_of_ble_eq_true rfl) ?_
  intro p e s m below meth c ls cx hX hZ htab hr hlk hw hS hl
  have hl : lv_has ls 4 [(0, .ref (G.2.1 0)), (1, .int a1), (2, .int a2)] := hl
  have hN := cx.2.2.2.2.hN
  replace htab := gtab2 htab
  unfold f_L_tryTake at hf
  refine lv_aload_n cx.1 cx.2.1 dL_tryTake_0 rfl (lv_at hl 0 rfl) ?_
  refine lv_iload_n cx.1 cx.2.1 dL_tryTake_1 rfl (lv_at hl 1 rfl) ?_
  refine lv_iload_n cx.1 cx.2.1 dL_tryTake_2 rfl (lv_at hl 2 rfl) ?_
  rcases hx0 : f_X10_take a1 a2 S with _ | ⟨k9, v9, S9⟩
  · rw [hx0] at hf; cases hf
  · rw [hx0] at hf
    match k9, hx0, hf with
    | 0, hx0, hf =>
      refine gx_ret (gx_rV (As := [.int a1, .int a2]) (rest := []) cx hX hZ hw hS (c_X10_take l hst G a1 a2 S 0 v9 S9 hx0) (by omega) he_c0 rfl rfl gw_515 gy_X10_take gi_X10_take ⟨Nat.le_of_ble_eq_true rfl, Nat.le_of_ble_eq_true rfl⟩ ⟨Nat.le_of_ble_eq_true rfl, Nat.le_of_ble_eq_true rfl⟩ rfl hl.1 rfl (Nat.le_of_ble_eq_true rfl) dL_tryTake_3) hS (fun H locs hw hS => ?_)
      refine W.eq (g2 := F0 m 6 ls [.int v9]) rfl ?_
      have hf : some (v9, S9) = some (r, S') := hf
      exact gw_ireti cx hr hlk hw hS hf dL_tryTake_6 (Nat.le_of_ble_eq_true rfl) (Nat.le_of_ble_eq_true rfl)
    | 1, hx0, hf =>
      have hf : some ((-9999001 : Int32), S9) = some (r, S') := hf
      refine gx_caught (k := 0) (gx_rV (As := [.int a1, .int a2]) (rest := []) cx hX hZ hw hS (c_X10_take l hst G a1 a2 S 1 v9 S9 hx0) (by omega) he_c0 rfl rfl gw_515 gy_X10_take gi_X10_take ⟨Nat.le_of_ble_eq_true rfl, Nat.le_of_ble_eq_true rfl⟩ ⟨Nat.le_of_ble_eq_true rfl, Nat.le_of_ble_eq_true rfl⟩ rfl hl.1 rfl (Nat.le_of_ble_eq_true rfl) dL_tryTake_3) hS (fun q9 ce H locs hce hcv hcl hS hw => ?_)
      refine vx_catch (own := RL) (name := gEn 1) (E := gEn 1) cx.2.2.2.1 [] ⟨0, 6, 7, 30⟩ [⟨0, 6, 11, 16⟩] htab (fun z hz => nomatch hz) (by decide) (by decide) (cx.2.2.2.2.ts _ gw_217) (gcast hX 1 gcm1) hce hcv hcl ?_
      refine W.eq (g2 := F0 m 7 ls [.ref q9]) rfl ?_
      refine lv_astore_n (lv' := [(3, .ref q9), (0, .ref (G.2.1 0)), (1, .int a1), (2, .int a2)]) cx.1 cx.2.1 dL_tryTake_7 rfl hl (by decide) rfl (fun ls hl => ?_)
      refine lv_ldc cx.1 cx.2.1 cx.2.2.2.1 (cx.2.2.2.2.ts _ gw_218) dL_tryTake_8 ?_
      exact gw_ireti cx hr hlk hw hS hf dL_tryTake_10 (Nat.le_of_ble_eq_true rfl) (Nat.le_of_ble_eq_true rfl)
    | 2, hx0, hf =>
      have hf : (none : Option (Int32 × Sg)) = some (r, S') := hf
      cases hf
    | 3, hx0, hf =>
      have hf : some ((-9999003 : Int32), S9) = some (r, S') := hf
      refine gx_caught (k := 2) (gx_rV (As := [.int a1, .int a2]) (rest := []) cx hX hZ hw hS (c_X10_take l hst G a1 a2 S 3 v9 S9 hx0) (by omega) he_c0 rfl rfl gw_515 gy_X10_take gi_X10_take ⟨Nat.le_of_ble_eq_true rfl, Nat.le_of_ble_eq_true rfl⟩ ⟨Nat.le_of_ble_eq_true rfl, Nat.le_of_ble_eq_true rfl⟩ rfl hl.1 rfl (Nat.le_of_ble_eq_true rfl) dL_tryTake_3) hS (fun q9 ce H locs hce hcv hcl hS hw => ?_)
      refine vx_catch (own := RL) (name := gEn 3) (E := gEn 3) cx.2.2.2.1 [⟨0, 6, 7, 30⟩] ⟨0, 6, 11, 16⟩ [] htab (List.forall_mem_cons.mpr ⟨Or.inr ⟨by decide, gEn 1, cx.2.2.2.2.ts _ gw_217, hX.2.2.2.1⟩, fun z hz => nomatch hz⟩) (by decide) (by decide) (cx.2.2.2.2.ts _ gw_297) (gcast hX 3 gcm3) hce hcv hcl ?_
      refine W.eq (g2 := F0 m 11 ls [.ref q9]) rfl ?_
      refine lv_astore_n (lv' := [(3, .ref q9), (0, .ref (G.2.1 0)), (1, .int a1), (2, .int a2)]) cx.1 cx.2.1 dL_tryTake_11 rfl hl (by decide) rfl (fun ls hl => ?_)
      refine lv_ldc cx.1 cx.2.1 cx.2.2.2.1 (cx.2.2.2.2.ts _ gw_3) dL_tryTake_12 ?_
      exact gw_ireti cx hr hlk hw hS hf dL_tryTake_14 (Nat.le_of_ble_eq_true rfl) (Nat.le_of_ble_eq_true rfl)
    | k9 + 4, hx0, hf =>
      have hf : (none : Option (Int32 × Sg)) = some (r, S') := hf
      cases hf
theorem gyw_L_tryTake : Cond.codeWith yL_tryTake cL_tryTake 4 (some .int) [(0, 6, 7, 30), (0, 6, 11, 16)] ∈ wsL_law ∧ Cond.static yL_tryTake ∈ wsL_law ∧ (parseMethodDescriptor yL_tryTake.desc).map (fun d => d.parameters.length) = some 3 := ⟨gw_514, gw_513, by decide +kernel⟩
set_option maxHeartbeats 4000000 in
set_option maxRecDepth 100000 in
theorem c_L_tryRun (l : Launch) (hst : l.stackTraces = false) (G : gG) (a1 : Int32) (a2 : Int32) (S : Sg) (r : Int32) (S' : Sg) (hf : f_L_tryRun a1 a2 S = some (r, S')) : gCw l yL_tryRun [Cond.codeWith yL_tryRun cL_tryRun 4 (some .int) [(0, 6, 7, 30), (0, 6, 11, 16)]] (gRx 10 187 3 18) G [.ref (G.2.1 0), .int a1, .int a2] S (some (.int r)) S' 3 18 := by
  refine gCw_of (by decide) (Nat.le_of_ble_eq_true rfl) ?_
  intro p e s m below meth c ls cx hX hZ htab hr hlk hw hS hl
  have hl : lv_has ls 4 [(0, .ref (G.2.1 0)), (1, .int a1), (2, .int a2)] := hl
  have hN := cx.2.2.2.2.hN
  replace htab := gtab2 htab
  unfold f_L_tryRun at hf
  refine lv_aload_n cx.1 cx.2.1 dL_tryRun_0 rfl (lv_at hl 0 rfl) ?_
  refine lv_iload_n cx.1 cx.2.1 dL_tryRun_1 rfl (lv_at hl 1 rfl) ?_
  refine lv_iload_n cx.1 cx.2.1 dL_tryRun_2 rfl (lv_at hl 2 rfl) ?_
  rcases hx0 : f_X10_run a1 a2 S with _ | ⟨k9, v9, S9⟩
  · rw [hx0] at hf; cases hf
  · rw [hx0] at hf
    match k9, hx0, hf with
    | 0, hx0, hf =>
      refine gx_ret (gx_rV (As := [.int a1, .int a2]) (rest := []) cx hX hZ hw hS (c_X10_run l hst G a1 a2 S 0 v9 S9 hx0) (by omega) he_c0 rfl rfl gw_535 gy_X10_run gi_X10_run ⟨Nat.le_of_ble_eq_true rfl, Nat.le_of_ble_eq_true rfl⟩ ⟨Nat.le_of_ble_eq_true rfl, Nat.le_of_ble_eq_true rfl⟩ rfl hl.1 rfl (Nat.le_of_ble_eq_true rfl) dL_tryRun_3) hS (fun H locs hw hS => ?_)
      refine W.eq (g2 := F0 m 6 ls [.int v9]) rfl ?_
      have hf : some (v9, S9) = some (r, S') := hf
      exact gw_ireti cx hr hlk hw hS hf dL_tryRun_6 (Nat.le_of_ble_eq_true rfl) (Nat.le_of_ble_eq_true rfl)
    | 1, hx0, hf =>
      have hf : some ((-9999001 : Int32), S9) = some (r, S') := hf
      refine gx_caught (k := 0) (gx_rV (As := [.int a1, .int a2]) (rest := []) cx hX hZ hw hS (c_X10_run l hst G a1 a2 S 1 v9 S9 hx0) (by omega) he_c0 rfl rfl gw_535 gy_X10_run gi_X10_run ⟨Nat.le_of_ble_eq_true rfl, Nat.le_of_ble_eq_true rfl⟩ ⟨Nat.le_of_ble_eq_true rfl, Nat.le_of_ble_eq_true rfl⟩ rfl hl.1 rfl (Nat.le_of_ble_eq_true rfl) dL_tryRun_3) hS (fun q9 ce H locs hce hcv hcl hS hw => ?_)
      refine vx_catch (own := RL) (name := gEn 1) (E := gEn 1) cx.2.2.2.1 [] ⟨0, 6, 7, 30⟩ [⟨0, 6, 11, 16⟩] htab (fun z hz => nomatch hz) (by decide) (by decide) (cx.2.2.2.2.ts _ gw_217) (gcast hX 1 gcm1) hce hcv hcl ?_
      refine W.eq (g2 := F0 m 7 ls [.ref q9]) rfl ?_
      refine lv_astore_n (lv' := [(3, .ref q9), (0, .ref (G.2.1 0)), (1, .int a1), (2, .int a2)]) cx.1 cx.2.1 dL_tryRun_7 rfl hl (by decide) rfl (fun ls hl => ?_)
      refine lv_ldc cx.1 cx.2.1 cx.2.2.2.1 (cx.2.2.2.2.ts _ gw_218) dL_tryRun_8 ?_
      exact gw_ireti cx hr hlk hw hS hf dL_tryRun_10 (Nat.le_of_ble_eq_true rfl) (Nat.le_of_ble_eq_true rfl)
    | 2, hx0, hf =>
      have hf : (none : Option (Int32 × Sg)) = some (r, S') := hf
      cases hf
    | 3, hx0, hf =>
      have hf : some ((-9999003 : Int32), S9) = some (r, S') := hf
      refine gx_caught (k := 2) (gx_rV (As := [.int a1, .int a2]) (rest := []) cx hX hZ hw hS (c_X10_run l hst G a1 a2 S 3 v9 S9 hx0) (by omega) he_c0 rfl rfl gw_535 gy_X10_run gi_X10_run ⟨Nat.le_of_ble_eq_true rfl, Nat.le_of_ble_eq_true rfl⟩ ⟨Nat.le_of_ble_eq_true rfl, Nat.le_of_ble_eq_true rfl⟩ rfl hl.1 rfl (Nat.le_of_ble_eq_true rfl) dL_tryRun_3) hS (fun q9 ce H locs hce hcv hcl hS hw => ?_)
      refine vx_catch (own := RL) (name := gEn 3) (E := gEn 3) cx.2.2.2.1 [⟨0, 6, 7, 30⟩] ⟨0, 6, 11, 16⟩ [] htab (List.forall_mem_cons.mpr ⟨Or.inr ⟨by decide, gEn 1, cx.2.2.2.2.ts _ gw_217, hX.2.2.2.1⟩, fun z hz => nomatch hz⟩) (by decide) (by decide) (cx.2.2.2.2.ts _ gw_297) (gcast hX 3 gcm3) hce hcv hcl ?_
      refine W.eq (g2 := F0 m 11 ls [.ref q9]) rfl ?_
      refine lv_astore_n (lv' := [(3, .ref q9), (0, .ref (G.2.1 0)), (1, .int a1), (2, .int a2)]) cx.1 cx.2.1 dL_tryRun_11 rfl hl (by decide) rfl (fun ls hl => ?_)
      refine lv_ldc cx.1 cx.2.1 cx.2.2.2.1 (cx.2.2.2.2.ts _ gw_3) dL_tryRun_12 ?_
      exact gw_ireti cx hr hlk hw hS hf dL_tryRun_14 (Nat.le_of_ble_eq_true rfl) (Nat.le_of_ble_eq_true rfl)
    | k9 + 4, hx0, hf =>
      have hf : (none : Option (Int32 × Sg)) = some (r, S') := hf
      cases hf
theorem gyw_L_tryRun : Cond.codeWith yL_tryRun cL_tryRun 4 (some .int) [(0, 6, 7, 30), (0, 6, 11, 16)] ∈ wsL_law ∧ Cond.static yL_tryRun ∈ wsL_law ∧ (parseMethodDescriptor yL_tryRun.desc).map (fun d => d.parameters.length) = some 3 := ⟨gw_534, gw_533, by decide +kernel⟩
set_option maxHeartbeats 4000000 in
set_option maxRecDepth 100000 in
theorem c_L_tryUndo (l : Launch) (hst : l.stackTraces = false) (G : gG) (S : Sg) (r : Int32) (S' : Sg) (hf : f_L_tryUndo S = some (r, S')) : gCw l yL_tryUndo [Cond.codeWith yL_tryUndo cL_tryUndo 2 (some .int) [(0, 4, 5, 16)]] (gRx 8 185 1 6) G [.ref (G.2.1 0)] S (some (.int r)) S' 1 6 := by
  refine gCw_of (by decide) (Nat.le_of_ble_eq_true rfl) ?_
  intro p e s m below meth c ls cx hX hZ htab hr hlk hw hS hl
  have hl : lv_has ls 2 [(0, .ref (G.2.1 0))] := hl
  have hN := cx.2.2.2.2.hN
  replace htab := gtab1 htab
  unfold f_L_tryUndo at hf
  refine lv_aload_n cx.1 cx.2.1 dL_tryUndo_0 rfl (lv_at hl 0 rfl) ?_
  rcases hx0 : f_X10_undo S with _ | ⟨k9, v9, S9⟩
  · rw [hx0] at hf; cases hf
  · rw [hx0] at hf
    match k9, hx0, hf with
    | 0, hx0, hf =>
      refine gx_ret (gx_rV (As := []) (rest := []) cx hX hZ hw hS (c_X10_undo l hst G S 0 v9 S9 hx0) (by omega) he_c0 rfl rfl gw_298 gy_X10_undo gi_X10_undo ⟨Nat.le_of_ble_eq_true rfl, Nat.le_of_ble_eq_true rfl⟩ ⟨Nat.le_of_ble_eq_true rfl, Nat.le_of_ble_eq_true rfl⟩ rfl hl.1 rfl (Nat.le_of_ble_eq_true rfl) dL_tryUndo_1) hS (fun H locs hw hS => ?_)
      refine W.eq (g2 := F0 m 4 ls [.int v9]) rfl ?_
      have hf : some (v9, S9) = some (r, S') := hf
      exact gw_ireti cx hr hlk hw hS hf dL_tryUndo_4 (Nat.le_of_ble_eq_true rfl) (Nat.le_of_ble_eq_true rfl)
    | 1, hx0, hf =>
      have hf : (none : Option (Int32 × Sg)) = some (r, S') := hf
      cases hf
    | 2, hx0, hf =>
      have hf : (none : Option (Int32 × Sg)) = some (r, S') := hf
      cases hf
    | 3, hx0, hf =>
      have hf : some ((-9999003 : Int32), S9) = some (r, S') := hf
      refine gx_caught (k := 2) (gx_rV (As := []) (rest := []) cx hX hZ hw hS (c_X10_undo l hst G S 3 v9 S9 hx0) (by omega) he_c0 rfl rfl gw_298 gy_X10_undo gi_X10_undo ⟨Nat.le_of_ble_eq_true rfl, Nat.le_of_ble_eq_true rfl⟩ ⟨Nat.le_of_ble_eq_true rfl, Nat.le_of_ble_eq_true rfl⟩ rfl hl.1 rfl (Nat.le_of_ble_eq_true rfl) dL_tryUndo_1) hS (fun q9 ce H locs hce hcv hcl hS hw => ?_)
      refine vx_catch (own := RL) (name := gEn 3) (E := gEn 3) cx.2.2.2.1 [] ⟨0, 4, 5, 16⟩ [] htab (fun z hz => nomatch hz) (by decide) (by decide) (cx.2.2.2.2.ts _ gw_297) (gcast hX 3 gcm3) hce hcv hcl ?_
      refine W.eq (g2 := F0 m 5 ls [.ref q9]) rfl ?_
      refine lv_astore_n (lv' := [(1, .ref q9), (0, .ref (G.2.1 0))]) cx.1 cx.2.1 dL_tryUndo_5 rfl hl (by decide) rfl (fun ls hl => ?_)
      refine lv_ldc cx.1 cx.2.1 cx.2.2.2.1 (cx.2.2.2.2.ts _ gw_3) dL_tryUndo_6 ?_
      exact gw_ireti cx hr hlk hw hS hf dL_tryUndo_8 (Nat.le_of_ble_eq_true rfl) (Nat.le_of_ble_eq_true rfl)
    | k9 + 4, hx0, hf =>
      have hf : (none : Option (Int32 × Sg)) = some (r, S') := hf
      cases hf
theorem gyw_L_tryUndo : Cond.codeWith yL_tryUndo cL_tryUndo 2 (some .int) [(0, 4, 5, 16)] ∈ wsL_law ∧ Cond.static yL_tryUndo ∈ wsL_law ∧ (parseMethodDescriptor yL_tryUndo.desc).map (fun d => d.parameters.length) = some 1 := ⟨gw_296, gw_295, by decide +kernel⟩
set_option maxHeartbeats 4000000 in
set_option maxRecDepth 100000 in
theorem c_L_tryWhyNot (l : Launch) (hst : l.stackTraces = false) (G : gG) (a1 : Int32) (a2 : Int32) (S : Sg) (r : Int32) (S' : Sg) (hf : f_L_tryWhyNot a1 a2 S = some (r, S')) : gCw l yL_tryWhyNot [Cond.codeWith yL_tryWhyNot cL_tryWhyNot 4 (some .int) [(0, 6, 7, 30)]] (gRx 10 176 2 12) G [.ref (G.2.1 0), .int a1, .int a2] S (some (.int r)) S' 2 12 := by
  refine gCw_of (by decide) (Nat.le_of_ble_eq_true rfl) ?_
  intro p e s m below meth c ls cx hX hZ htab hr hlk hw hS hl
  have hl : lv_has ls 4 [(0, .ref (G.2.1 0)), (1, .int a1), (2, .int a2)] := hl
  have hN := cx.2.2.2.2.hN
  replace htab := gtab1 htab
  unfold f_L_tryWhyNot at hf
  refine lv_aload_n cx.1 cx.2.1 dL_tryWhyNot_0 rfl (lv_at hl 0 rfl) ?_
  refine lv_iload_n cx.1 cx.2.1 dL_tryWhyNot_1 rfl (lv_at hl 1 rfl) ?_
  refine lv_iload_n cx.1 cx.2.1 dL_tryWhyNot_2 rfl (lv_at hl 2 rfl) ?_
  rcases hx0 : f_X10_whyNot a1 a2 S with _ | ⟨k9, v9, S9⟩
  · rw [hx0] at hf; cases hf
  · rw [hx0] at hf
    match k9, hx0, hf with
    | 0, hx0, hf =>
      refine gx_ret (gx_rV (As := [.int a1, .int a2]) (rest := []) cx hX hZ hw hS (c_X10_whyNot l hst G a1 a2 S 0 v9 S9 hx0) (by omega) he_c0 rfl rfl gw_580 gy_X10_whyNot gi_X10_whyNot ⟨Nat.le_of_ble_eq_true rfl, Nat.le_of_ble_eq_true rfl⟩ ⟨Nat.le_of_ble_eq_true rfl, Nat.le_of_ble_eq_true rfl⟩ rfl hl.1 rfl (Nat.le_of_ble_eq_true rfl) dL_tryWhyNot_3) hS (fun H locs hw hS => ?_)
      refine W.eq (g2 := F0 m 6 ls [.int v9]) rfl ?_
      have hf : some (v9, S9) = some (r, S') := hf
      exact gw_ireti cx hr hlk hw hS hf dL_tryWhyNot_6 (Nat.le_of_ble_eq_true rfl) (Nat.le_of_ble_eq_true rfl)
    | 1, hx0, hf =>
      have hf : some ((-9999001 : Int32), S9) = some (r, S') := hf
      refine gx_caught (k := 0) (gx_rV (As := [.int a1, .int a2]) (rest := []) cx hX hZ hw hS (c_X10_whyNot l hst G a1 a2 S 1 v9 S9 hx0) (by omega) he_c0 rfl rfl gw_580 gy_X10_whyNot gi_X10_whyNot ⟨Nat.le_of_ble_eq_true rfl, Nat.le_of_ble_eq_true rfl⟩ ⟨Nat.le_of_ble_eq_true rfl, Nat.le_of_ble_eq_true rfl⟩ rfl hl.1 rfl (Nat.le_of_ble_eq_true rfl) dL_tryWhyNot_3) hS (fun q9 ce H locs hce hcv hcl hS hw => ?_)
      refine vx_catch (own := RL) (name := gEn 1) (E := gEn 1) cx.2.2.2.1 [] ⟨0, 6, 7, 30⟩ [] htab (fun z hz => nomatch hz) (by decide) (by decide) (cx.2.2.2.2.ts _ gw_217) (gcast hX 1 gcm1) hce hcv hcl ?_
      refine W.eq (g2 := F0 m 7 ls [.ref q9]) rfl ?_
      refine lv_astore_n (lv' := [(3, .ref q9), (0, .ref (G.2.1 0)), (1, .int a1), (2, .int a2)]) cx.1 cx.2.1 dL_tryWhyNot_7 rfl hl (by decide) rfl (fun ls hl => ?_)
      refine lv_ldc cx.1 cx.2.1 cx.2.2.2.1 (cx.2.2.2.2.ts _ gw_218) dL_tryWhyNot_8 ?_
      exact gw_ireti cx hr hlk hw hS hf dL_tryWhyNot_10 (Nat.le_of_ble_eq_true rfl) (Nat.le_of_ble_eq_true rfl)
    | 2, hx0, hf =>
      have hf : (none : Option (Int32 × Sg)) = some (r, S') := hf
      cases hf
    | 3, hx0, hf =>
      have hf : (none : Option (Int32 × Sg)) = some (r, S') := hf
      cases hf
    | k9 + 4, hx0, hf =>
      have hf : (none : Option (Int32 × Sg)) = some (r, S') := hf
      cases hf
theorem gyw_L_tryWhyNot : Cond.codeWith yL_tryWhyNot cL_tryWhyNot 4 (some .int) [(0, 6, 7, 30)] ∈ wsL_law ∧ Cond.static yL_tryWhyNot ∈ wsL_law ∧ (parseMethodDescriptor yL_tryWhyNot.desc).map (fun d => d.parameters.length) = some 3 := ⟨gw_579, gw_578, by decide +kernel⟩
set_option maxHeartbeats 4000000 in
set_option maxRecDepth 100000 in
theorem c_L_tryLevelFor (l : Launch) (hst : l.stackTraces = false) (G : gG) (a1 : Int32) (a2 : Int32) (S : Sg) (r : Int32) (S' : Sg) (hf : f_L_tryLevelFor a1 a2 S = some (r, S')) : gCw l yL_tryLevelFor [Cond.codeWith yL_tryLevelFor cL_tryLevelFor 4 (some .int) [(0, 6, 7, 30)]] (gRx 9 153 2 12) G [.ref (G.2.1 0), .int a1, .int a2] S (some (.int r)) S' 2 12 := by
  refine gCw_of (by decide) (Nat.le_of_ble_eq_true rfl) ?_
  intro p e s m below meth c ls cx hX hZ htab hr hlk hw hS hl
  have hl : lv_has ls 4 [(0, .ref (G.2.1 0)), (1, .int a1), (2, .int a2)] := hl
  have hN := cx.2.2.2.2.hN
  replace htab := gtab1 htab
  unfold f_L_tryLevelFor at hf
  refine lv_aload_n cx.1 cx.2.1 dL_tryLevelFor_0 rfl (lv_at hl 0 rfl) ?_
  refine lv_iload_n cx.1 cx.2.1 dL_tryLevelFor_1 rfl (lv_at hl 1 rfl) ?_
  refine lv_iload_n cx.1 cx.2.1 dL_tryLevelFor_2 rfl (lv_at hl 2 rfl) ?_
  rcases hx0 : f_X10_levelFor a1 a2 S with _ | ⟨k9, v9, S9⟩
  · rw [hx0] at hf; cases hf
  · rw [hx0] at hf
    match k9, hx0, hf with
    | 0, hx0, hf =>
      refine gx_ret (gx_rV (As := [.int a1, .int a2]) (rest := []) cx hX hZ hw hS (c_X10_levelFor l hst G a1 a2 S 0 v9 S9 hx0) (by omega) he_c0 rfl rfl gw_587 gy_X10_levelFor gi_X10_levelFor ⟨Nat.le_of_ble_eq_true rfl, Nat.le_of_ble_eq_true rfl⟩ ⟨Nat.le_of_ble_eq_true rfl, Nat.le_of_ble_eq_true rfl⟩ rfl hl.1 rfl (Nat.le_of_ble_eq_true rfl) dL_tryLevelFor_3) hS (fun H locs hw hS => ?_)
      refine W.eq (g2 := F0 m 6 ls [.int v9]) rfl ?_
      have hf : some (v9, S9) = some (r, S') := hf
      exact gw_ireti cx hr hlk hw hS hf dL_tryLevelFor_6 (Nat.le_of_ble_eq_true rfl) (Nat.le_of_ble_eq_true rfl)
    | 1, hx0, hf =>
      have hf : some ((-9999001 : Int32), S9) = some (r, S') := hf
      refine gx_caught (k := 0) (gx_rV (As := [.int a1, .int a2]) (rest := []) cx hX hZ hw hS (c_X10_levelFor l hst G a1 a2 S 1 v9 S9 hx0) (by omega) he_c0 rfl rfl gw_587 gy_X10_levelFor gi_X10_levelFor ⟨Nat.le_of_ble_eq_true rfl, Nat.le_of_ble_eq_true rfl⟩ ⟨Nat.le_of_ble_eq_true rfl, Nat.le_of_ble_eq_true rfl⟩ rfl hl.1 rfl (Nat.le_of_ble_eq_true rfl) dL_tryLevelFor_3) hS (fun q9 ce H locs hce hcv hcl hS hw => ?_)
      refine vx_catch (own := RL) (name := gEn 1) (E := gEn 1) cx.2.2.2.1 [] ⟨0, 6, 7, 30⟩ [] htab (fun z hz => nomatch hz) (by decide) (by decide) (cx.2.2.2.2.ts _ gw_217) (gcast hX 1 gcm1) hce hcv hcl ?_
      refine W.eq (g2 := F0 m 7 ls [.ref q9]) rfl ?_
      refine lv_astore_n (lv' := [(3, .ref q9), (0, .ref (G.2.1 0)), (1, .int a1), (2, .int a2)]) cx.1 cx.2.1 dL_tryLevelFor_7 rfl hl (by decide) rfl (fun ls hl => ?_)
      refine lv_ldc cx.1 cx.2.1 cx.2.2.2.1 (cx.2.2.2.2.ts _ gw_218) dL_tryLevelFor_8 ?_
      exact gw_ireti cx hr hlk hw hS hf dL_tryLevelFor_10 (Nat.le_of_ble_eq_true rfl) (Nat.le_of_ble_eq_true rfl)
    | 2, hx0, hf =>
      have hf : (none : Option (Int32 × Sg)) = some (r, S') := hf
      cases hf
    | 3, hx0, hf =>
      have hf : (none : Option (Int32 × Sg)) = some (r, S') := hf
      cases hf
    | k9 + 4, hx0, hf =>
      have hf : (none : Option (Int32 × Sg)) = some (r, S') := hf
      cases hf
theorem gyw_L_tryLevelFor : Cond.codeWith yL_tryLevelFor cL_tryLevelFor 4 (some .int) [(0, 6, 7, 30)] ∈ wsL_law ∧ Cond.static yL_tryLevelFor ∈ wsL_law ∧ (parseMethodDescriptor yL_tryLevelFor.desc).map (fun d => d.parameters.length) = some 3 := ⟨gw_586, gw_585, by decide +kernel⟩
set_option maxHeartbeats 4000000 in
set_option maxRecDepth 100000 in
theorem c_L_tryBestContract (l : Launch) (hst : l.stackTraces = false) (G : gG) (a1 : Int32) (S : Sg) (r : Int32) (S' : Sg) (hf : f_L_tryBestContract a1 S = some (r, S')) : gCw l yL_tryBestContract [Cond.codeWith yL_tryBestContract cL_tryBestContract 3 (some .int) [(0, 5, 6, 30)]] (gRx 9 151 1 6) G [.ref (G.2.1 0), .int a1] S (some (.int r)) S' 1 6 := by
  refine gCw_of (by decide) (Nat.le_of_ble_eq_true rfl) ?_
  intro p e s m below meth c ls cx hX hZ htab hr hlk hw hS hl
  have hl : lv_has ls 3 [(0, .ref (G.2.1 0)), (1, .int a1)] := hl
  have hN := cx.2.2.2.2.hN
  replace htab := gtab1 htab
  unfold f_L_tryBestContract at hf
  refine lv_aload_n cx.1 cx.2.1 dL_tryBestContract_0 rfl (lv_at hl 0 rfl) ?_
  refine lv_iload_n cx.1 cx.2.1 dL_tryBestContract_1 rfl (lv_at hl 1 rfl) ?_
  rcases hx0 : f_X10_bestContract a1 S with _ | ⟨k9, v9, S9⟩
  · rw [hx0] at hf; cases hf
  · rw [hx0] at hf
    match k9, hx0, hf with
    | 0, hx0, hf =>
      refine gx_ret (gx_rV (As := [.int a1]) (rest := []) cx hX hZ hw hS (c_X10_bestContract l hst G a1 S 0 v9 S9 hx0) (by omega) he_c0 rfl rfl gw_598 gy_X10_bestContract gi_X10_bestContract ⟨Nat.le_of_ble_eq_true rfl, Nat.le_of_ble_eq_true rfl⟩ ⟨Nat.le_of_ble_eq_true rfl, Nat.le_of_ble_eq_true rfl⟩ rfl hl.1 rfl (Nat.le_of_ble_eq_true rfl) dL_tryBestContract_2) hS (fun H locs hw hS => ?_)
      refine W.eq (g2 := F0 m 5 ls [.int v9]) rfl ?_
      have hf : some (v9, S9) = some (r, S') := hf
      exact gw_ireti cx hr hlk hw hS hf dL_tryBestContract_5 (Nat.le_of_ble_eq_true rfl) (Nat.le_of_ble_eq_true rfl)
    | 1, hx0, hf =>
      have hf : some ((-9999001 : Int32), S9) = some (r, S') := hf
      refine gx_caught (k := 0) (gx_rV (As := [.int a1]) (rest := []) cx hX hZ hw hS (c_X10_bestContract l hst G a1 S 1 v9 S9 hx0) (by omega) he_c0 rfl rfl gw_598 gy_X10_bestContract gi_X10_bestContract ⟨Nat.le_of_ble_eq_true rfl, Nat.le_of_ble_eq_true rfl⟩ ⟨Nat.le_of_ble_eq_true rfl, Nat.le_of_ble_eq_true rfl⟩ rfl hl.1 rfl (Nat.le_of_ble_eq_true rfl) dL_tryBestContract_2) hS (fun q9 ce H locs hce hcv hcl hS hw => ?_)
      refine vx_catch (own := RL) (name := gEn 1) (E := gEn 1) cx.2.2.2.1 [] ⟨0, 5, 6, 30⟩ [] htab (fun z hz => nomatch hz) (by decide) (by decide) (cx.2.2.2.2.ts _ gw_217) (gcast hX 1 gcm1) hce hcv hcl ?_
      refine W.eq (g2 := F0 m 6 ls [.ref q9]) rfl ?_
      refine lv_astore_n (lv' := [(2, .ref q9), (0, .ref (G.2.1 0)), (1, .int a1)]) cx.1 cx.2.1 dL_tryBestContract_6 rfl hl (by decide) rfl (fun ls hl => ?_)
      refine lv_ldc cx.1 cx.2.1 cx.2.2.2.1 (cx.2.2.2.2.ts _ gw_218) dL_tryBestContract_7 ?_
      exact gw_ireti cx hr hlk hw hS hf dL_tryBestContract_9 (Nat.le_of_ble_eq_true rfl) (Nat.le_of_ble_eq_true rfl)
    | 2, hx0, hf =>
      have hf : (none : Option (Int32 × Sg)) = some (r, S') := hf
      cases hf
    | 3, hx0, hf =>
      have hf : (none : Option (Int32 × Sg)) = some (r, S') := hf
      cases hf
    | k9 + 4, hx0, hf =>
      have hf : (none : Option (Int32 × Sg)) = some (r, S') := hf
      cases hf
theorem gyw_L_tryBestContract : Cond.codeWith yL_tryBestContract cL_tryBestContract 3 (some .int) [(0, 5, 6, 30)] ∈ wsL_law ∧ Cond.static yL_tryBestContract ∈ wsL_law ∧ (parseMethodDescriptor yL_tryBestContract.desc).map (fun d => d.parameters.length) = some 2 := ⟨gw_597, gw_596, by decide +kernel⟩
set_option maxHeartbeats 4000000 in
set_option maxRecDepth 100000 in
theorem c_L_tryCoinsAfter (l : Launch) (hst : l.stackTraces = false) (G : gG) (a1 : Int32) (a2 : Int32) (S : Sg) (r : Int32) (S' : Sg) (hf : f_L_tryCoinsAfter a1 a2 S = some (r, S')) : gCw l yL_tryCoinsAfter [Cond.codeWith yL_tryCoinsAfter cL_tryCoinsAfter 4 (some .int) [(0, 6, 7, 30), (0, 6, 11, 13)]] (gRx 9 153 2 12) G [.ref (G.2.1 0), .int a1, .int a2] S (some (.int r)) S' 2 12 := by
  refine gCw_of (by decide) (Nat.le_of_ble_eq_true rfl) ?_
  intro p e s m below meth c ls cx hX hZ htab hr hlk hw hS hl
  have hl : lv_has ls 4 [(0, .ref (G.2.1 0)), (1, .int a1), (2, .int a2)] := hl
  have hN := cx.2.2.2.2.hN
  replace htab := gtab2 htab
  unfold f_L_tryCoinsAfter at hf
  refine lv_aload_n cx.1 cx.2.1 dL_tryCoinsAfter_0 rfl (lv_at hl 0 rfl) ?_
  refine lv_iload_n cx.1 cx.2.1 dL_tryCoinsAfter_1 rfl (lv_at hl 1 rfl) ?_
  refine lv_iload_n cx.1 cx.2.1 dL_tryCoinsAfter_2 rfl (lv_at hl 2 rfl) ?_
  rcases hx0 : f_X10_coinsAfter a1 a2 S with _ | ⟨k9, v9, S9⟩
  · rw [hx0] at hf; cases hf
  · rw [hx0] at hf
    match k9, hx0, hf with
    | 0, hx0, hf =>
      refine gx_ret (gx_rV (As := [.int a1, .int a2]) (rest := []) cx hX hZ hw hS (c_X10_coinsAfter l hst G a1 a2 S 0 v9 S9 hx0) (by omega) he_c0 rfl rfl gw_618 gy_X10_coinsAfter gi_X10_coinsAfter ⟨Nat.le_of_ble_eq_true rfl, Nat.le_of_ble_eq_true rfl⟩ ⟨Nat.le_of_ble_eq_true rfl, Nat.le_of_ble_eq_true rfl⟩ rfl hl.1 rfl (Nat.le_of_ble_eq_true rfl) dL_tryCoinsAfter_3) hS (fun H locs hw hS => ?_)
      refine W.eq (g2 := F0 m 6 ls [.int v9]) rfl ?_
      have hf : some (v9, S9) = some (r, S') := hf
      exact gw_ireti cx hr hlk hw hS hf dL_tryCoinsAfter_6 (Nat.le_of_ble_eq_true rfl) (Nat.le_of_ble_eq_true rfl)
    | 1, hx0, hf =>
      have hf : some ((-9999001 : Int32), S9) = some (r, S') := hf
      refine gx_caught (k := 0) (gx_rV (As := [.int a1, .int a2]) (rest := []) cx hX hZ hw hS (c_X10_coinsAfter l hst G a1 a2 S 1 v9 S9 hx0) (by omega) he_c0 rfl rfl gw_618 gy_X10_coinsAfter gi_X10_coinsAfter ⟨Nat.le_of_ble_eq_true rfl, Nat.le_of_ble_eq_true rfl⟩ ⟨Nat.le_of_ble_eq_true rfl, Nat.le_of_ble_eq_true rfl⟩ rfl hl.1 rfl (Nat.le_of_ble_eq_true rfl) dL_tryCoinsAfter_3) hS (fun q9 ce H locs hce hcv hcl hS hw => ?_)
      refine vx_catch (own := RL) (name := gEn 1) (E := gEn 1) cx.2.2.2.1 [] ⟨0, 6, 7, 30⟩ [⟨0, 6, 11, 13⟩] htab (fun z hz => nomatch hz) (by decide) (by decide) (cx.2.2.2.2.ts _ gw_217) (gcast hX 1 gcm1) hce hcv hcl ?_
      refine W.eq (g2 := F0 m 7 ls [.ref q9]) rfl ?_
      refine lv_astore_n (lv' := [(3, .ref q9), (0, .ref (G.2.1 0)), (1, .int a1), (2, .int a2)]) cx.1 cx.2.1 dL_tryCoinsAfter_7 rfl hl (by decide) rfl (fun ls hl => ?_)
      refine lv_ldc cx.1 cx.2.1 cx.2.2.2.1 (cx.2.2.2.2.ts _ gw_218) dL_tryCoinsAfter_8 ?_
      exact gw_ireti cx hr hlk hw hS hf dL_tryCoinsAfter_10 (Nat.le_of_ble_eq_true rfl) (Nat.le_of_ble_eq_true rfl)
    | 2, hx0, hf =>
      have hf : some ((-9999002 : Int32), S9) = some (r, S') := hf
      refine gx_caught (k := 1) (gx_rV (As := [.int a1, .int a2]) (rest := []) cx hX hZ hw hS (c_X10_coinsAfter l hst G a1 a2 S 2 v9 S9 hx0) (by omega) he_c0 rfl rfl gw_618 gy_X10_coinsAfter gi_X10_coinsAfter ⟨Nat.le_of_ble_eq_true rfl, Nat.le_of_ble_eq_true rfl⟩ ⟨Nat.le_of_ble_eq_true rfl, Nat.le_of_ble_eq_true rfl⟩ rfl hl.1 rfl (Nat.le_of_ble_eq_true rfl) dL_tryCoinsAfter_3) hS (fun q9 ce H locs hce hcv hcl hS hw => ?_)
      refine vx_catch (own := RL) (name := gEn 2) (E := gEn 2) cx.2.2.2.1 [⟨0, 6, 7, 30⟩] ⟨0, 6, 11, 13⟩ [] htab (List.forall_mem_cons.mpr ⟨Or.inr ⟨by decide, gEn 1, cx.2.2.2.2.ts _ gw_217, hX.2.2.1⟩, fun z hz => nomatch hz⟩) (by decide) (by decide) (cx.2.2.2.2.ts _ gw_189) (gcast hX 2 gcm2) hce hcv hcl ?_
      refine W.eq (g2 := F0 m 11 ls [.ref q9]) rfl ?_
      refine lv_astore_n (lv' := [(3, .ref q9), (0, .ref (G.2.1 0)), (1, .int a1), (2, .int a2)]) cx.1 cx.2.1 dL_tryCoinsAfter_11 rfl hl (by decide) rfl (fun ls hl => ?_)
      refine lv_ldc cx.1 cx.2.1 cx.2.2.2.1 (cx.2.2.2.2.ts _ gw_190) dL_tryCoinsAfter_12 ?_
      exact gw_ireti cx hr hlk hw hS hf dL_tryCoinsAfter_14 (Nat.le_of_ble_eq_true rfl) (Nat.le_of_ble_eq_true rfl)
    | 3, hx0, hf =>
      have hf : (none : Option (Int32 × Sg)) = some (r, S') := hf
      cases hf
    | k9 + 4, hx0, hf =>
      have hf : (none : Option (Int32 × Sg)) = some (r, S') := hf
      cases hf
theorem gyw_L_tryCoinsAfter : Cond.codeWith yL_tryCoinsAfter cL_tryCoinsAfter 4 (some .int) [(0, 6, 7, 30), (0, 6, 11, 13)] ∈ wsL_law ∧ Cond.static yL_tryCoinsAfter ∈ wsL_law ∧ (parseMethodDescriptor yL_tryCoinsAfter.desc).map (fun d => d.parameters.length) = some 3 := ⟨gw_617, gw_616, by decide +kernel⟩
set_option maxHeartbeats 4000000 in
set_option maxRecDepth 100000 in
theorem c_L_tryBankruptAfter (l : Launch) (hst : l.stackTraces = false) (G : gG) (a1 : Int32) (S : Sg) (r : Int32) (S' : Sg) (hf : f_L_tryBankruptAfter a1 S = some (r, S')) : gCw l yL_tryBankruptAfter [Cond.codeWith yL_tryBankruptAfter cL_tryBankruptAfter 3 (some .int) [(0, 5, 6, 30)]] (gRx 9 153 1 6) G [.ref (G.2.1 0), .int a1] S (some (.int r)) S' 1 6 := by
  refine gCw_of (by decide) (Nat.le_of_ble_eq_true rfl) ?_
  intro p e s m below meth c ls cx hX hZ htab hr hlk hw hS hl
  have hl : lv_has ls 3 [(0, .ref (G.2.1 0)), (1, .int a1)] := hl
  have hN := cx.2.2.2.2.hN
  replace htab := gtab1 htab
  unfold f_L_tryBankruptAfter at hf
  refine lv_aload_n cx.1 cx.2.1 dL_tryBankruptAfter_0 rfl (lv_at hl 0 rfl) ?_
  refine lv_iload_n cx.1 cx.2.1 dL_tryBankruptAfter_1 rfl (lv_at hl 1 rfl) ?_
  rcases hx0 : f_X10_bankruptAfter a1 S with _ | ⟨k9, v9, S9⟩
  · rw [hx0] at hf; cases hf
  · rw [hx0] at hf
    match k9, hx0, hf with
    | 0, hx0, hf =>
      refine gx_ret (gx_rV (As := [.int a1]) (rest := []) cx hX hZ hw hS (c_X10_bankruptAfter l hst G a1 S 0 v9 S9 hx0) (by omega) he_c0 rfl rfl gw_671 gy_X10_bankruptAfter gi_X10_bankruptAfter ⟨Nat.le_of_ble_eq_true rfl, Nat.le_of_ble_eq_true rfl⟩ ⟨Nat.le_of_ble_eq_true rfl, Nat.le_of_ble_eq_true rfl⟩ rfl hl.1 rfl (Nat.le_of_ble_eq_true rfl) dL_tryBankruptAfter_2) hS (fun H locs hw hS => ?_)
      refine W.eq (g2 := F0 m 5 ls [.int v9]) rfl ?_
      have hf : some (v9, S9) = some (r, S') := hf
      exact gw_ireti cx hr hlk hw hS hf dL_tryBankruptAfter_5 (Nat.le_of_ble_eq_true rfl) (Nat.le_of_ble_eq_true rfl)
    | 1, hx0, hf =>
      have hf : some ((-9999001 : Int32), S9) = some (r, S') := hf
      refine gx_caught (k := 0) (gx_rV (As := [.int a1]) (rest := []) cx hX hZ hw hS (c_X10_bankruptAfter l hst G a1 S 1 v9 S9 hx0) (by omega) he_c0 rfl rfl gw_671 gy_X10_bankruptAfter gi_X10_bankruptAfter ⟨Nat.le_of_ble_eq_true rfl, Nat.le_of_ble_eq_true rfl⟩ ⟨Nat.le_of_ble_eq_true rfl, Nat.le_of_ble_eq_true rfl⟩ rfl hl.1 rfl (Nat.le_of_ble_eq_true rfl) dL_tryBankruptAfter_2) hS (fun q9 ce H locs hce hcv hcl hS hw => ?_)
      refine vx_catch (own := RL) (name := gEn 1) (E := gEn 1) cx.2.2.2.1 [] ⟨0, 5, 6, 30⟩ [] htab (fun z hz => nomatch hz) (by decide) (by decide) (cx.2.2.2.2.ts _ gw_217) (gcast hX 1 gcm1) hce hcv hcl ?_
      refine W.eq (g2 := F0 m 6 ls [.ref q9]) rfl ?_
      refine lv_astore_n (lv' := [(2, .ref q9), (0, .ref (G.2.1 0)), (1, .int a1)]) cx.1 cx.2.1 dL_tryBankruptAfter_6 rfl hl (by decide) rfl (fun ls hl => ?_)
      refine lv_ldc cx.1 cx.2.1 cx.2.2.2.1 (cx.2.2.2.2.ts _ gw_218) dL_tryBankruptAfter_7 ?_
      exact gw_ireti cx hr hlk hw hS hf dL_tryBankruptAfter_9 (Nat.le_of_ble_eq_true rfl) (Nat.le_of_ble_eq_true rfl)
    | 2, hx0, hf =>
      have hf : (none : Option (Int32 × Sg)) = some (r, S') := hf
      cases hf
    | 3, hx0, hf =>
      have hf : (none : Option (Int32 × Sg)) = some (r, S') := hf
      cases hf
    | k9 + 4, hx0, hf =>
      have hf : (none : Option (Int32 × Sg)) = some (r, S') := hf
      cases hf
theorem gyw_L_tryBankruptAfter : Cond.codeWith yL_tryBankruptAfter cL_tryBankruptAfter 3 (some .int) [(0, 5, 6, 30)] ∈ wsL_law ∧ Cond.static yL_tryBankruptAfter ∈ wsL_law ∧ (parseMethodDescriptor yL_tryBankruptAfter.desc).map (fun d => d.parameters.length) = some 2 := ⟨gw_670, gw_669, by decide +kernel⟩
set_option maxHeartbeats 4000000 in
set_option maxRecDepth 100000 in
theorem c_L_tryWorth (l : Launch) (hst : l.stackTraces = false) (G : gG) (a1 : Int32) (S : Sg) (r : Int32) (S' : Sg) (hf : f_L_tryWorth a1 S = some (r, S')) : gCw l yL_tryWorth [Cond.codeWith yL_tryWorth cL_tryWorth 3 (some .int) [(0, 5, 6, 30)]] (gRx 9 151 1 6) G [.ref (G.2.1 0), .int a1] S (some (.int r)) S' 1 6 := by
  refine gCw_of (by decide) (Nat.le_of_ble_eq_true rfl) ?_
  intro p e s m below meth c ls cx hX hZ htab hr hlk hw hS hl
  have hl : lv_has ls 3 [(0, .ref (G.2.1 0)), (1, .int a1)] := hl
  have hN := cx.2.2.2.2.hN
  replace htab := gtab1 htab
  unfold f_L_tryWorth at hf
  refine lv_aload_n cx.1 cx.2.1 dL_tryWorth_0 rfl (lv_at hl 0 rfl) ?_
  refine lv_iload_n cx.1 cx.2.1 dL_tryWorth_1 rfl (lv_at hl 1 rfl) ?_
  rcases hx0 : f_X10_worth a1 S with _ | ⟨k9, v9, S9⟩
  · rw [hx0] at hf; cases hf
  · rw [hx0] at hf
    match k9, hx0, hf with
    | 0, hx0, hf =>
      refine gx_ret (gx_rV (As := [.int a1]) (rest := []) cx hX hZ hw hS (c_X10_worth l hst G a1 S 0 v9 S9 hx0) (by omega) he_c0 rfl rfl gw_678 gy_X10_worth gi_X10_worth ⟨Nat.le_of_ble_eq_true rfl, Nat.le_of_ble_eq_true rfl⟩ ⟨Nat.le_of_ble_eq_true rfl, Nat.le_of_ble_eq_true rfl⟩ rfl hl.1 rfl (Nat.le_of_ble_eq_true rfl) dL_tryWorth_2) hS (fun H locs hw hS => ?_)
      refine W.eq (g2 := F0 m 5 ls [.int v9]) rfl ?_
      have hf : some (v9, S9) = some (r, S') := hf
      exact gw_ireti cx hr hlk hw hS hf dL_tryWorth_5 (Nat.le_of_ble_eq_true rfl) (Nat.le_of_ble_eq_true rfl)
    | 1, hx0, hf =>
      have hf : some ((-9999001 : Int32), S9) = some (r, S') := hf
      refine gx_caught (k := 0) (gx_rV (As := [.int a1]) (rest := []) cx hX hZ hw hS (c_X10_worth l hst G a1 S 1 v9 S9 hx0) (by omega) he_c0 rfl rfl gw_678 gy_X10_worth gi_X10_worth ⟨Nat.le_of_ble_eq_true rfl, Nat.le_of_ble_eq_true rfl⟩ ⟨Nat.le_of_ble_eq_true rfl, Nat.le_of_ble_eq_true rfl⟩ rfl hl.1 rfl (Nat.le_of_ble_eq_true rfl) dL_tryWorth_2) hS (fun q9 ce H locs hce hcv hcl hS hw => ?_)
      refine vx_catch (own := RL) (name := gEn 1) (E := gEn 1) cx.2.2.2.1 [] ⟨0, 5, 6, 30⟩ [] htab (fun z hz => nomatch hz) (by decide) (by decide) (cx.2.2.2.2.ts _ gw_217) (gcast hX 1 gcm1) hce hcv hcl ?_
      refine W.eq (g2 := F0 m 6 ls [.ref q9]) rfl ?_
      refine lv_astore_n (lv' := [(2, .ref q9), (0, .ref (G.2.1 0)), (1, .int a1)]) cx.1 cx.2.1 dL_tryWorth_6 rfl hl (by decide) rfl (fun ls hl => ?_)
      refine lv_ldc cx.1 cx.2.1 cx.2.2.2.1 (cx.2.2.2.2.ts _ gw_218) dL_tryWorth_7 ?_
      exact gw_ireti cx hr hlk hw hS hf dL_tryWorth_9 (Nat.le_of_ble_eq_true rfl) (Nat.le_of_ble_eq_true rfl)
    | 2, hx0, hf =>
      have hf : (none : Option (Int32 × Sg)) = some (r, S') := hf
      cases hf
    | 3, hx0, hf =>
      have hf : (none : Option (Int32 × Sg)) = some (r, S') := hf
      cases hf
    | k9 + 4, hx0, hf =>
      have hf : (none : Option (Int32 × Sg)) = some (r, S') := hf
      cases hf
theorem gyw_L_tryWorth : Cond.codeWith yL_tryWorth cL_tryWorth 3 (some .int) [(0, 5, 6, 30)] ∈ wsL_law ∧ Cond.static yL_tryWorth ∈ wsL_law ∧ (parseMethodDescriptor yL_tryWorth.desc).map (fun d => d.parameters.length) = some 2 := ⟨gw_677, gw_676, by decide +kernel⟩
set_option maxHeartbeats 4000000 in
set_option maxRecDepth 100000 in
theorem c_L_tryScript (l : Launch) (hst : l.stackTraces = false) (G : gG) (a1 : Int32) (a2 : Int64) (S : Sg) (r : Int32) (S' : Sg) (hf : f_L_tryScript a1 a2 S = some (r, S')) : gCw l yL_tryScript [Cond.codeWith yL_tryScript cL_tryScript 5 (some .int) [(0, 6, 7, 13)]] (gRx 8 199 2 12) G [.ref (G.2.1 0), .int a1, .long a2] S (some (.int r)) S' 2 12 := by
  refine gCw_of (by decide) (Nat.le_of_ble_eq_true rfl) ?_
  intro p e s m below meth c ls cx hX hZ htab hr hlk hw hS hl
  have hl : lv_has ls 5 [(0, .ref (G.2.1 0)), (1, .int a1), (2, .long a2)] := hl
  have hN := cx.2.2.2.2.hN
  replace htab := gtab1 htab
  unfold f_L_tryScript at hf
  refine lv_aload_n cx.1 cx.2.1 dL_tryScript_0 rfl (lv_at hl 0 rfl) ?_
  refine lv_iload_n cx.1 cx.2.1 dL_tryScript_1 rfl (lv_at hl 1 rfl) ?_
  refine lv_lload_n cx.1 cx.2.1 dL_tryScript_2 rfl (lv_at hl 2 rfl) ?_
  rcases hx0 : f_X10_runScript a1 a2 S with _ | ⟨k9, v9, S9⟩
  · rw [hx0] at hf; cases hf
  · rw [hx0] at hf
    match k9, hx0, hf with
    | 0, hx0, hf =>
      refine gx_ret (gx_rV (As := [.int a1, .long a2]) (rest := []) cx hX hZ hw hS (c_X10_runScript l hst G a1 a2 S 0 v9 S9 hx0) (by omega) he_c0 rfl rfl gw_693 gy_X10_runScript gi_X10_runScript ⟨Nat.le_of_ble_eq_true rfl, Nat.le_of_ble_eq_true rfl⟩ ⟨Nat.le_of_ble_eq_true rfl, Nat.le_of_ble_eq_true rfl⟩ rfl hl.1 rfl (Nat.le_of_ble_eq_true rfl) dL_tryScript_3) hS (fun H locs hw hS => ?_)
      refine W.eq (g2 := F0 m 6 ls [.int v9]) rfl ?_
      have hf : some (v9, S9) = some (r, S') := hf
      exact gw_ireti cx hr hlk hw hS hf dL_tryScript_6 (Nat.le_of_ble_eq_true rfl) (Nat.le_of_ble_eq_true rfl)
    | 1, hx0, hf =>
      have hf : (none : Option (Int32 × Sg)) = some (r, S') := hf
      cases hf
    | 2, hx0, hf =>
      have hf : some ((-9999002 : Int32), S9) = some (r, S') := hf
      refine gx_caught (k := 1) (gx_rV (As := [.int a1, .long a2]) (rest := []) cx hX hZ hw hS (c_X10_runScript l hst G a1 a2 S 2 v9 S9 hx0) (by omega) he_c0 rfl rfl gw_693 gy_X10_runScript gi_X10_runScript ⟨Nat.le_of_ble_eq_true rfl, Nat.le_of_ble_eq_true rfl⟩ ⟨Nat.le_of_ble_eq_true rfl, Nat.le_of_ble_eq_true rfl⟩ rfl hl.1 rfl (Nat.le_of_ble_eq_true rfl) dL_tryScript_3) hS (fun q9 ce H locs hce hcv hcl hS hw => ?_)
      refine vx_catch (own := RL) (name := gEn 2) (E := gEn 2) cx.2.2.2.1 [] ⟨0, 6, 7, 13⟩ [] htab (fun z hz => nomatch hz) (by decide) (by decide) (cx.2.2.2.2.ts _ gw_189) (gcast hX 2 gcm2) hce hcv hcl ?_
      refine W.eq (g2 := F0 m 7 ls [.ref q9]) rfl ?_
      refine lv_astore (lv' := [(4, .ref q9), (0, .ref (G.2.1 0)), (1, .int a1), (2, .long a2)]) cx.1 cx.2.1 dL_tryScript_7 hl (by decide) rfl (fun ls hl => ?_)
      refine lv_ldc cx.1 cx.2.1 cx.2.2.2.1 (cx.2.2.2.2.ts _ gw_190) dL_tryScript_9 ?_
      exact gw_ireti cx hr hlk hw hS hf dL_tryScript_11 (Nat.le_of_ble_eq_true rfl) (Nat.le_of_ble_eq_true rfl)
    | 3, hx0, hf =>
      have hf : (none : Option (Int32 × Sg)) = some (r, S') := hf
      cases hf
    | k9 + 4, hx0, hf =>
      have hf : (none : Option (Int32 × Sg)) = some (r, S') := hf
      cases hf
theorem gyw_L_tryScript : Cond.codeWith yL_tryScript cL_tryScript 5 (some .int) [(0, 6, 7, 13)] ∈ wsL_law ∧ Cond.static yL_tryScript ∈ wsL_law ∧ (parseMethodDescriptor yL_tryScript.desc).map (fun d => d.parameters.length) = some 3 := ⟨gw_692, gw_691, by decide +kernel⟩
set_option maxHeartbeats 4000000 in
set_option maxRecDepth 100000 in
theorem c_L_trySimulate (l : Launch) (hst : l.stackTraces = false) (G : gG) (a1 : Int64) (a3 : Int32) (S : Sg) (r : Int32) (S' : Sg) (hf : f_L_trySimulate a1 a3 S = some (r, S')) : gCw l yL_trySimulate [Cond.codeWith yL_trySimulate cL_trySimulate 5 (some .int) [(0, 6, 7, 13)]] (gRx 8 198 1 6) G [.ref (G.2.1 0), .long a1, .int a3] S (some (.int r)) S' 1 6 := by
  refine gCw_of (by decide) (Nat.le_of_ble_eq_true rfl) ?_
  intro p e s m below meth c ls cx hX hZ htab hr hlk hw hS hl
  have hl : lv_has ls 5 [(0, .ref (G.2.1 0)), (1, .long a1), (3, .int a3)] := hl
  have hN := cx.2.2.2.2.hN
  replace htab := gtab1 htab
  unfold f_L_trySimulate at hf
  refine lv_aload_n cx.1 cx.2.1 dL_trySimulate_0 rfl (lv_at hl 0 rfl) ?_
  refine lv_lload_n cx.1 cx.2.1 dL_trySimulate_1 rfl (lv_at hl 1 rfl) ?_
  refine lv_iload_n cx.1 cx.2.1 dL_trySimulate_2 rfl (lv_at hl 2 rfl) ?_
  rcases hx0 : f_X10_simulate a1 a3 S with _ | ⟨k9, v9, S9⟩
  · rw [hx0] at hf; cases hf
  · rw [hx0] at hf
    match k9, hx0, hf with
    | 0, hx0, hf =>
      refine gx_ret (gx_rV (As := [.long a1, .int a3]) (rest := []) cx hX hZ hw hS (c_X10_simulate l hst G a1 a3 S 0 v9 S9 hx0) (by omega) he_c0 rfl rfl gw_750 gy_X10_simulate gi_X10_simulate ⟨Nat.le_of_ble_eq_true rfl, Nat.le_of_ble_eq_true rfl⟩ ⟨Nat.le_of_ble_eq_true rfl, Nat.le_of_ble_eq_true rfl⟩ rfl hl.1 rfl (Nat.le_of_ble_eq_true rfl) dL_trySimulate_3) hS (fun H locs hw hS => ?_)
      refine W.eq (g2 := F0 m 6 ls [.int v9]) rfl ?_
      have hf : some (v9, S9) = some (r, S') := hf
      exact gw_ireti cx hr hlk hw hS hf dL_trySimulate_6 (Nat.le_of_ble_eq_true rfl) (Nat.le_of_ble_eq_true rfl)
    | 1, hx0, hf =>
      have hf : (none : Option (Int32 × Sg)) = some (r, S') := hf
      cases hf
    | 2, hx0, hf =>
      have hf : some ((-9999002 : Int32), S9) = some (r, S') := hf
      refine gx_caught (k := 1) (gx_rV (As := [.long a1, .int a3]) (rest := []) cx hX hZ hw hS (c_X10_simulate l hst G a1 a3 S 2 v9 S9 hx0) (by omega) he_c0 rfl rfl gw_750 gy_X10_simulate gi_X10_simulate ⟨Nat.le_of_ble_eq_true rfl, Nat.le_of_ble_eq_true rfl⟩ ⟨Nat.le_of_ble_eq_true rfl, Nat.le_of_ble_eq_true rfl⟩ rfl hl.1 rfl (Nat.le_of_ble_eq_true rfl) dL_trySimulate_3) hS (fun q9 ce H locs hce hcv hcl hS hw => ?_)
      refine vx_catch (own := RL) (name := gEn 2) (E := gEn 2) cx.2.2.2.1 [] ⟨0, 6, 7, 13⟩ [] htab (fun z hz => nomatch hz) (by decide) (by decide) (cx.2.2.2.2.ts _ gw_189) (gcast hX 2 gcm2) hce hcv hcl ?_
      refine W.eq (g2 := F0 m 7 ls [.ref q9]) rfl ?_
      refine lv_astore (lv' := [(4, .ref q9), (0, .ref (G.2.1 0)), (1, .long a1), (3, .int a3)]) cx.1 cx.2.1 dL_trySimulate_7 hl (by decide) rfl (fun ls hl => ?_)
      refine lv_ldc cx.1 cx.2.1 cx.2.2.2.1 (cx.2.2.2.2.ts _ gw_190) dL_trySimulate_9 ?_
      exact gw_ireti cx hr hlk hw hS hf dL_trySimulate_11 (Nat.le_of_ble_eq_true rfl) (Nat.le_of_ble_eq_true rfl)
    | 3, hx0, hf =>
      have hf : (none : Option (Int32 × Sg)) = some (r, S') := hf
      cases hf
    | k9 + 4, hx0, hf =>
      have hf : (none : Option (Int32 × Sg)) = some (r, S') := hf
      cases hf
theorem gyw_L_trySimulate : Cond.codeWith yL_trySimulate cL_trySimulate 5 (some .int) [(0, 6, 7, 13)] ∈ wsL_law ∧ Cond.static yL_trySimulate ∈ wsL_law ∧ (parseMethodDescriptor yL_trySimulate.desc).map (fun d => d.parameters.length) = some 3 := ⟨gw_749, gw_748, by decide +kernel⟩
set_option maxHeartbeats 4000000 in
set_option maxRecDepth 100000 in
theorem c_L_trySave (l : Launch) (hst : l.stackTraces = false) (G : gG) (a1 : Int32) (S : Sg) (r : Int32) (S' : Sg) (hf : f_L_trySave a1 S = some (r, S')) : gCw l yL_trySave [Cond.codeWith yL_trySave cL_trySave 3 (some .int) [(0, 5, 6, 30)]] (gRx 9 187 1 6) G [.ref (G.2.1 0), .int a1] S (some (.int r)) S' 1 6 := by
  refine gCw_of (by decide) (Nat.le_of_ble_eq_true rfl) ?_
  intro p e s m below meth c ls cx hX hZ htab hr hlk hw hS hl
  have hl : lv_has ls 3 [(0, .ref (G.2.1 0)), (1, .int a1)] := hl
  have hN := cx.2.2.2.2.hN
  replace htab := gtab1 htab
  unfold f_L_trySave at hf
  refine lv_aload_n cx.1 cx.2.1 dL_trySave_0 rfl (lv_at hl 0 rfl) ?_
  refine lv_iload_n cx.1 cx.2.1 dL_trySave_1 rfl (lv_at hl 1 rfl) ?_
  rcases hx0 : f_X10_save a1 S with _ | ⟨k9, v9, S9⟩
  · rw [hx0] at hf; cases hf
  · rw [hx0] at hf
    match k9, hx0, hf with
    | 0, hx0, hf =>
      refine gx_ret (gx_rV (As := [.int a1]) (rest := []) cx hX hZ hw hS (c_X10_save l hst G a1 S 0 v9 S9 hx0) (by omega) he_c0 rfl rfl gw_777 gy_X10_save gi_X10_save ⟨Nat.le_of_ble_eq_true rfl, Nat.le_of_ble_eq_true rfl⟩ ⟨Nat.le_of_ble_eq_true rfl, Nat.le_of_ble_eq_true rfl⟩ rfl hl.1 rfl (Nat.le_of_ble_eq_true rfl) dL_trySave_2) hS (fun H locs hw hS => ?_)
      refine W.eq (g2 := F0 m 5 ls [.int v9]) rfl ?_
      have hf : some (v9, S9) = some (r, S') := hf
      exact gw_ireti cx hr hlk hw hS hf dL_trySave_5 (Nat.le_of_ble_eq_true rfl) (Nat.le_of_ble_eq_true rfl)
    | 1, hx0, hf =>
      have hf : some ((-9999001 : Int32), S9) = some (r, S') := hf
      refine gx_caught (k := 0) (gx_rV (As := [.int a1]) (rest := []) cx hX hZ hw hS (c_X10_save l hst G a1 S 1 v9 S9 hx0) (by omega) he_c0 rfl rfl gw_777 gy_X10_save gi_X10_save ⟨Nat.le_of_ble_eq_true rfl, Nat.le_of_ble_eq_true rfl⟩ ⟨Nat.le_of_ble_eq_true rfl, Nat.le_of_ble_eq_true rfl⟩ rfl hl.1 rfl (Nat.le_of_ble_eq_true rfl) dL_trySave_2) hS (fun q9 ce H locs hce hcv hcl hS hw => ?_)
      refine vx_catch (own := RL) (name := gEn 1) (E := gEn 1) cx.2.2.2.1 [] ⟨0, 5, 6, 30⟩ [] htab (fun z hz => nomatch hz) (by decide) (by decide) (cx.2.2.2.2.ts _ gw_217) (gcast hX 1 gcm1) hce hcv hcl ?_
      refine W.eq (g2 := F0 m 6 ls [.ref q9]) rfl ?_
      refine lv_astore_n (lv' := [(2, .ref q9), (0, .ref (G.2.1 0)), (1, .int a1)]) cx.1 cx.2.1 dL_trySave_6 rfl hl (by decide) rfl (fun ls hl => ?_)
      refine lv_ldc cx.1 cx.2.1 cx.2.2.2.1 (cx.2.2.2.2.ts _ gw_218) dL_trySave_7 ?_
      exact gw_ireti cx hr hlk hw hS hf dL_trySave_9 (Nat.le_of_ble_eq_true rfl) (Nat.le_of_ble_eq_true rfl)
    | 2, hx0, hf =>
      have hf : (none : Option (Int32 × Sg)) = some (r, S') := hf
      cases hf
    | 3, hx0, hf =>
      have hf : (none : Option (Int32 × Sg)) = some (r, S') := hf
      cases hf
    | k9 + 4, hx0, hf =>
      have hf : (none : Option (Int32 × Sg)) = some (r, S') := hf
      cases hf
theorem gyw_L_trySave : Cond.codeWith yL_trySave cL_trySave 3 (some .int) [(0, 5, 6, 30)] ∈ wsL_law ∧ Cond.static yL_trySave ∈ wsL_law ∧ (parseMethodDescriptor yL_trySave.desc).map (fun d => d.parameters.length) = some 2 := ⟨gw_776, gw_775, by decide +kernel⟩
set_option maxHeartbeats 4000000 in
set_option maxRecDepth 100000 in
theorem c_L_tryRestore (l : Launch) (hst : l.stackTraces = false) (G : gG) (a1 : Int32) (S : Sg) (r : Int32) (S' : Sg) (hf : f_L_tryRestore a1 S = some (r, S')) : gCw l yL_tryRestore [Cond.codeWith yL_tryRestore cL_tryRestore 3 (some .int) [(0, 5, 6, 30), (0, 5, 10, 16)]] (gRx 9 187 2 12) G [.ref (G.2.1 0), .int a1] S (some (.int r)) S' 2 12 := by
  refine gCw_of (by decide) (Nat.le_of_ble_eq_true rfl) ?_
  intro p e s m below meth c ls cx hX hZ htab hr hlk hw hS hl
  have hl : lv_has ls 3 [(0, .ref (G.2.1 0)), (1, .int a1)] := hl
  have hN := cx.2.2.2.2.hN
  replace htab := gtab2 htab
  unfold f_L_tryRestore at hf
  refine lv_aload_n cx.1 cx.2.1 dL_tryRestore_0 rfl (lv_at hl 0 rfl) ?_
  refine lv_iload_n cx.1 cx.2.1 dL_tryRestore_1 rfl (lv_at hl 1 rfl) ?_
  rcases hx0 : f_X10_restore a1 S with _ | ⟨k9, v9, S9⟩
  · rw [hx0] at hf; cases hf
  · rw [hx0] at hf
    match k9, hx0, hf with
    | 0, hx0, hf =>
      refine gx_ret (gx_rV (As := [.int a1]) (rest := []) cx hX hZ hw hS (c_X10_restore l hst G a1 S 0 v9 S9 hx0) (by omega) he_c0 rfl rfl gw_795 gy_X10_restore gi_X10_restore ⟨Nat.le_of_ble_eq_true rfl, Nat.le_of_ble_eq_true rfl⟩ ⟨Nat.le_of_ble_eq_true rfl, Nat.le_of_ble_eq_true rfl⟩ rfl hl.1 rfl (Nat.le_of_ble_eq_true rfl) dL_tryRestore_2) hS (fun H locs hw hS => ?_)
      refine W.eq (g2 := F0 m 5 ls [.int v9]) rfl ?_
      have hf : some (v9, S9) = some (r, S') := hf
      exact gw_ireti cx hr hlk hw hS hf dL_tryRestore_5 (Nat.le_of_ble_eq_true rfl) (Nat.le_of_ble_eq_true rfl)
    | 1, hx0, hf =>
      have hf : some ((-9999001 : Int32), S9) = some (r, S') := hf
      refine gx_caught (k := 0) (gx_rV (As := [.int a1]) (rest := []) cx hX hZ hw hS (c_X10_restore l hst G a1 S 1 v9 S9 hx0) (by omega) he_c0 rfl rfl gw_795 gy_X10_restore gi_X10_restore ⟨Nat.le_of_ble_eq_true rfl, Nat.le_of_ble_eq_true rfl⟩ ⟨Nat.le_of_ble_eq_true rfl, Nat.le_of_ble_eq_true rfl⟩ rfl hl.1 rfl (Nat.le_of_ble_eq_true rfl) dL_tryRestore_2) hS (fun q9 ce H locs hce hcv hcl hS hw => ?_)
      refine vx_catch (own := RL) (name := gEn 1) (E := gEn 1) cx.2.2.2.1 [] ⟨0, 5, 6, 30⟩ [⟨0, 5, 10, 16⟩] htab (fun z hz => nomatch hz) (by decide) (by decide) (cx.2.2.2.2.ts _ gw_217) (gcast hX 1 gcm1) hce hcv hcl ?_
      refine W.eq (g2 := F0 m 6 ls [.ref q9]) rfl ?_
      refine lv_astore_n (lv' := [(2, .ref q9), (0, .ref (G.2.1 0)), (1, .int a1)]) cx.1 cx.2.1 dL_tryRestore_6 rfl hl (by decide) rfl (fun ls hl => ?_)
      refine lv_ldc cx.1 cx.2.1 cx.2.2.2.1 (cx.2.2.2.2.ts _ gw_218) dL_tryRestore_7 ?_
      exact gw_ireti cx hr hlk hw hS hf dL_tryRestore_9 (Nat.le_of_ble_eq_true rfl) (Nat.le_of_ble_eq_true rfl)
    | 2, hx0, hf =>
      have hf : (none : Option (Int32 × Sg)) = some (r, S') := hf
      cases hf
    | 3, hx0, hf =>
      have hf : some ((-9999003 : Int32), S9) = some (r, S') := hf
      refine gx_caught (k := 2) (gx_rV (As := [.int a1]) (rest := []) cx hX hZ hw hS (c_X10_restore l hst G a1 S 3 v9 S9 hx0) (by omega) he_c0 rfl rfl gw_795 gy_X10_restore gi_X10_restore ⟨Nat.le_of_ble_eq_true rfl, Nat.le_of_ble_eq_true rfl⟩ ⟨Nat.le_of_ble_eq_true rfl, Nat.le_of_ble_eq_true rfl⟩ rfl hl.1 rfl (Nat.le_of_ble_eq_true rfl) dL_tryRestore_2) hS (fun q9 ce H locs hce hcv hcl hS hw => ?_)
      refine vx_catch (own := RL) (name := gEn 3) (E := gEn 3) cx.2.2.2.1 [⟨0, 5, 6, 30⟩] ⟨0, 5, 10, 16⟩ [] htab (List.forall_mem_cons.mpr ⟨Or.inr ⟨by decide, gEn 1, cx.2.2.2.2.ts _ gw_217, hX.2.2.2.1⟩, fun z hz => nomatch hz⟩) (by decide) (by decide) (cx.2.2.2.2.ts _ gw_297) (gcast hX 3 gcm3) hce hcv hcl ?_
      refine W.eq (g2 := F0 m 10 ls [.ref q9]) rfl ?_
      refine lv_astore_n (lv' := [(2, .ref q9), (0, .ref (G.2.1 0)), (1, .int a1)]) cx.1 cx.2.1 dL_tryRestore_10 rfl hl (by decide) rfl (fun ls hl => ?_)
      refine lv_ldc cx.1 cx.2.1 cx.2.2.2.1 (cx.2.2.2.2.ts _ gw_3) dL_tryRestore_11 ?_
      exact gw_ireti cx hr hlk hw hS hf dL_tryRestore_13 (Nat.le_of_ble_eq_true rfl) (Nat.le_of_ble_eq_true rfl)
    | k9 + 4, hx0, hf =>
      have hf : (none : Option (Int32 × Sg)) = some (r, S') := hf
      cases hf
theorem gyw_L_tryRestore : Cond.codeWith yL_tryRestore cL_tryRestore 3 (some .int) [(0, 5, 6, 30), (0, 5, 10, 16)] ∈ wsL_law ∧ Cond.static yL_tryRestore ∈ wsL_law ∧ (parseMethodDescriptor yL_tryRestore.desc).map (fun d => d.parameters.length) = some 2 := ⟨gw_794, gw_793, by decide +kernel⟩
set_option maxHeartbeats 4000000 in
set_option maxRecDepth 100000 in
theorem c_L_tryWay (l : Launch) (hst : l.stackTraces = false) (G : gG) (a1 : Int32) (a2 : Int32) (a3 : Int32) (a4 : Int32) (a5 : Int32) (S : Sg) (r : Int32) (S' : Sg) (hf : f_L_tryWay a1 a2 a3 a4 a5 S = some (r, S')) : gCw l yL_tryWay [Cond.codeWith yL_tryWay cL_tryWay 7 (some .int) [(0, 11, 12, 30), (0, 11, 17, 13)]] (gRx 9 157 6 36) G [.ref (G.2.1 0), .int a1, .int a2, .int a3, .int a4, .int a5] S (some (.int r)) S' 6 36 := by
  refine gCw_of (by decide) (Nat.le_of_ble_eq_true rfl) ?_
  intro p e s m below meth c ls cx hX hZ htab hr hlk hw hS hl
  have hl : lv_has ls 7 [(0, .ref (G.2.1 0)), (1, .int a1), (2, .int a2), (3, .int a3), (4, .int a4), (5, .int a5)] := hl
  have hN := cx.2.2.2.2.hN
  replace htab := gtab2 htab
  unfold f_L_tryWay at hf
  refine lv_aload_n cx.1 cx.2.1 dL_tryWay_0 rfl (lv_at hl 0 rfl) ?_
  refine lv_iload_n cx.1 cx.2.1 dL_tryWay_1 rfl (lv_at hl 1 rfl) ?_
  refine lv_iload_n cx.1 cx.2.1 dL_tryWay_2 rfl (lv_at hl 2 rfl) ?_
  refine lv_iload_n cx.1 cx.2.1 dL_tryWay_3 rfl (lv_at hl 3 rfl) ?_
  refine lv_iload cx.1 cx.2.1 dL_tryWay_4 (lv_at hl 4 rfl) ?_
  refine lv_iload cx.1 cx.2.1 dL_tryWay_6 (lv_at hl 5 rfl) ?_
  rcases hx0 : f_X10_way a1 a2 a3 a4 a5 S with _ | ⟨k9, v9, S9⟩
  · rw [hx0] at hf; cases hf
  · rw [hx0] at hf
    match k9, hx0, hf with
    | 0, hx0, hf =>
      refine gx_ret (gx_rV (As := [.int a1, .int a2, .int a3, .int a4, .int a5]) (rest := []) cx hX hZ hw hS (c_X10_way l hst G a1 a2 a3 a4 a5 S 0 v9 S9 hx0) (by omega) he_c0 rfl rfl gw_219 gy_X10_way gi_X10_way ⟨Nat.le_of_ble_eq_true rfl, Nat.le_of_ble_eq_true rfl⟩ ⟨Nat.le_of_ble_eq_true rfl, Nat.le_of_ble_eq_true rfl⟩ rfl hl.1 rfl (Nat.le_of_ble_eq_true rfl) dL_tryWay_8) hS (fun H locs hw hS => ?_)
      refine W.eq (g2 := F0 m 11 ls [.int v9]) rfl ?_
      have hf : some (v9, S9) = some (r, S') := hf
      exact gw_ireti cx hr hlk hw hS hf dL_tryWay_11 (Nat.le_of_ble_eq_true rfl) (Nat.le_of_ble_eq_true rfl)
    | 1, hx0, hf =>
      have hf : some ((-9999001 : Int32), S9) = some (r, S') := hf
      refine gx_caught (k := 0) (gx_rV (As := [.int a1, .int a2, .int a3, .int a4, .int a5]) (rest := []) cx hX hZ hw hS (c_X10_way l hst G a1 a2 a3 a4 a5 S 1 v9 S9 hx0) (by omega) he_c0 rfl rfl gw_219 gy_X10_way gi_X10_way ⟨Nat.le_of_ble_eq_true rfl, Nat.le_of_ble_eq_true rfl⟩ ⟨Nat.le_of_ble_eq_true rfl, Nat.le_of_ble_eq_true rfl⟩ rfl hl.1 rfl (Nat.le_of_ble_eq_true rfl) dL_tryWay_8) hS (fun q9 ce H locs hce hcv hcl hS hw => ?_)
      refine vx_catch (own := RL) (name := gEn 1) (E := gEn 1) cx.2.2.2.1 [] ⟨0, 11, 12, 30⟩ [⟨0, 11, 17, 13⟩] htab (fun z hz => nomatch hz) (by decide) (by decide) (cx.2.2.2.2.ts _ gw_217) (gcast hX 1 gcm1) hce hcv hcl ?_
      refine W.eq (g2 := F0 m 12 ls [.ref q9]) rfl ?_
      refine lv_astore (lv' := [(6, .ref q9), (0, .ref (G.2.1 0)), (1, .int a1), (2, .int a2), (3, .int a3), (4, .int a4), (5, .int a5)]) cx.1 cx.2.1 dL_tryWay_12 hl (by decide) rfl (fun ls hl => ?_)
      refine lv_ldc cx.1 cx.2.1 cx.2.2.2.1 (cx.2.2.2.2.ts _ gw_218) dL_tryWay_14 ?_
      exact gw_ireti cx hr hlk hw hS hf dL_tryWay_16 (Nat.le_of_ble_eq_true rfl) (Nat.le_of_ble_eq_true rfl)
    | 2, hx0, hf =>
      have hf : some ((-9999002 : Int32), S9) = some (r, S') := hf
      refine gx_caught (k := 1) (gx_rV (As := [.int a1, .int a2, .int a3, .int a4, .int a5]) (rest := []) cx hX hZ hw hS (c_X10_way l hst G a1 a2 a3 a4 a5 S 2 v9 S9 hx0) (by omega) he_c0 rfl rfl gw_219 gy_X10_way gi_X10_way ⟨Nat.le_of_ble_eq_true rfl, Nat.le_of_ble_eq_true rfl⟩ ⟨Nat.le_of_ble_eq_true rfl, Nat.le_of_ble_eq_true rfl⟩ rfl hl.1 rfl (Nat.le_of_ble_eq_true rfl) dL_tryWay_8) hS (fun q9 ce H locs hce hcv hcl hS hw => ?_)
      refine vx_catch (own := RL) (name := gEn 2) (E := gEn 2) cx.2.2.2.1 [⟨0, 11, 12, 30⟩] ⟨0, 11, 17, 13⟩ [] htab (List.forall_mem_cons.mpr ⟨Or.inr ⟨by decide, gEn 1, cx.2.2.2.2.ts _ gw_217, hX.2.2.1⟩, fun z hz => nomatch hz⟩) (by decide) (by decide) (cx.2.2.2.2.ts _ gw_189) (gcast hX 2 gcm2) hce hcv hcl ?_
      refine W.eq (g2 := F0 m 17 ls [.ref q9]) rfl ?_
      refine lv_astore (lv' := [(6, .ref q9), (0, .ref (G.2.1 0)), (1, .int a1), (2, .int a2), (3, .int a3), (4, .int a4), (5, .int a5)]) cx.1 cx.2.1 dL_tryWay_17 hl (by decide) rfl (fun ls hl => ?_)
      refine lv_ldc cx.1 cx.2.1 cx.2.2.2.1 (cx.2.2.2.2.ts _ gw_190) dL_tryWay_19 ?_
      exact gw_ireti cx hr hlk hw hS hf dL_tryWay_21 (Nat.le_of_ble_eq_true rfl) (Nat.le_of_ble_eq_true rfl)
    | 3, hx0, hf =>
      have hf : (none : Option (Int32 × Sg)) = some (r, S') := hf
      cases hf
    | k9 + 4, hx0, hf =>
      have hf : (none : Option (Int32 × Sg)) = some (r, S') := hf
      cases hf
theorem gyw_L_tryWay : Cond.codeWith yL_tryWay cL_tryWay 7 (some .int) [(0, 11, 12, 30), (0, 11, 17, 13)] ∈ wsL_law ∧ Cond.static yL_tryWay ∈ wsL_law ∧ (parseMethodDescriptor yL_tryWay.desc).map (fun d => d.parameters.length) = some 6 := ⟨gw_216, gw_215, by decide +kernel⟩
