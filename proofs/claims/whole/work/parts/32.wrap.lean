/-! ===== the law's own methods: each calls one method of the class, and catches ===== -/
def gCw (l : Launch) (y : MethodName) (ws : List Cond) (rm : Room) (G : gG) (av : List Value) (S : Sg) (v : Option Value) (S' : Sg) (mc ms : Nat) : Prop := ∀ sz : Nat, Met l y ws rm (va_Pc av (gPreX G S sz)) (gQ G S' v (gA G sz)) mc ms (gA G sz)
theorem gCw_of {l : Launch} {y : MethodName} {cc : ByteArray} {maxL : Nat} {ret : Option FieldType} {hh : List (Nat × Nat × Nat × Nat)} {f lo mc ms : Nat} {G : gG} {av : List Value} {S S' : Sg} {v : Option Value} (hy : plainName y.cls = true) (hlen : (lg_sl av).length ≤ maxL)
    (body : ∀ (p : Program) (e : Env) (s : State) (m : MethodId) (below : List Frame) (meth : Method) (c : Code) (ls : Array Slot), gCx p s m c cc maxL y.cls G → gX s → gZ (gA G s.heap.size) s s.heap → c.exceptionTable.toList.map (fun h => (h.startPc, h.endPc, h.handlerPc, h.catchType)) = hh → meth.sig.returnType = ret → meth.locks = false → gP G S s.heap → va_S (gA G s.heap.size) s.heap s.heap [] → lv_has ls maxL (lv_args 0 av) →
      W p l e (gRx f lo mc ms) s m av.toArray below meth c s.heap [] 0 0 (MQ below (gQ G S' v (gA G s.heap.size)) av.toArray s mc ms (gA G s.heap.size)) (F0 m 0 ls [])) : gCw l y [Cond.codeWith y cc maxL ret hh] (gRx f lo mc ms) G av S v S' mc ms := by
  intro sz
  refine va_MetW (cc := cc) (maxL := maxL) (ret := ret) (hh := hh) hy rfl ?_
  intro p e s m args below meth c s₁ B hml hv
  obtain ⟨rfl, ⟨hsz, hP, hF⟩, hX, hZ⟩ := hv
  subst hsz
  have hl := lv_entry av (n := maxL) hlen
  rw [lg_entry_eq]
  obtain ⟨m9, meth9, c9, hn9, hm9, hc9, -, -, ht9, -, -⟩ := Cond.codeWith_spec (atoms_spec (ws := [Cond.codeWith y cc maxL ret hh]) B.pre _ List.mem_cons_self)
  have e1 : m9 = m := Option.some.inj (hn9.symm.trans B.named)
  subst e1
  have e2 : meth9 = meth := Option.some.inj (hm9.symm.trans B.method)
  subst e2
  have e3 : c9 = c := by
    have h1 := B.here.code
    rw [State.code?_eq, B.state] at h1
    have h2 : (s.vm.method? m9).bind (·.code) = some c := h1
    rw [hm9] at h2
    exact Option.some.inj (hc9.symm.trans h2)
  subst e3
  exact body p e s m9 below meth9 c9 _ ⟨B.exec, B.bytes, hml, findClass_of_methodNamed B.named, hF⟩ hX hZ ht9 B.returns B.notSynchronized hP va_S.rf hl
def gwr (c1 c2 c3 : Int32) (x : Option (Nat × Int32 × Sg)) : Option (Int32 × Sg) := match x with
  | some (0, v, s) => some (0, u2 s 402 0 v)
  | some (1, _, s) => if c1 = 0 then none else some (c1, s)
  | some (2, _, s) => if c2 = 0 then none else some (c2, s)
  | some (3, _, s) => if c3 = 0 then none else some (c3, s)
  | _ => none
section GWR
variable {p : Program} {l : Launch} {e : Env} {R : Room} {s : State} {m : MethodId} {args : Array Value} {below : List Frame} {meth : Method} {c : Code} {H : Heap} {locs : List Loc} {cells slots : Nat} {Q : State → Prop}
variable {cc : ByteArray} {nL pc : Nat} {ls : Array Slot} {rest : List Value} {G : gG} {S S' : Sg} {own : String} {H0 : Heap} {sz mc ms : Nat}
theorem g_last24 {v : Int32} (hO : 403 ≤ gN G) (cx : gCx p s m c cc nL own G) (hP : gP G S H) (hS : va_S (gA G sz) H0 H locs) (hdg : decode cc pc = .ok (.lastore, 1))
    (kk : ∀ (H1 : Heap) (locs1 : List Loc), gP G (u2 S 402 0 v) H1 → va_S (gA G sz) H0 H1 locs1 → W p l e R s m args below meth c H1 locs1 cells slots Q (F0 m (pc + 1) ls rest)) : W p l e R s m args below meth c H locs cells slots Q (F0 m pc ls (.long v.toInt64 :: .int 0 :: .ref (G.2.1 402) :: rest)) := by
  refine va_last (D := G.1) (A := gA G sz) (n := 1) (f := fun j => (S 402 j).toInt64) cx.1 cx.2.1 (cx.2.2.2.2.2.2.2.2.2.2.2 hO) hP (gD cx.2.2.2.2.inj) hS 402 0 (by rw [gw_at (by omega)]; rfl) rfl (i := 0) (by unfold vp_in; decide) hdg (fun H1 locs1 hP1 _ hS1 => ?_)
  rw [gw_set (S' := u2 S 402 0 v) (by omega) (by
    rw [u2_s]
    show _ = (Sum.inl (G.2.2.1 2, 1, .inr (.inl (fun j => (upd (S 402) 0 v j).toInt64))) : va_E)
    congr 5
    funext j
    show vp_updL (fun j => (S 402 j).toInt64) (0 : Int32).toNatClampNeg v.toInt64 j = _
    have e0 : (0 : Int32).toNatClampNeg = 0 := by decide
    rw [e0]
    simp only [vp_updL, upd]
    by_cases h : j = 0
    · rw [if_pos h, if_pos h]
    · rw [if_neg h, if_neg h]) (fun i hi => u2_n hi)] at hP1
  exact kk H1 locs1 hP1 hS1
theorem gx_caught {a : Array Value} {v : Option Value} {st0 : List Value} {k : Nat} {S9 : Sg} (hr : vx_Run p l e R s m args below meth c H locs cells slots mc ms (F0 m pc ls st0) rest (gQx G S9 (k + 1) v (gA G H.size) a) (gXx G S9 (k + 1) (gA G H.size)) (gA G H.size)) (hS : va_S (gA G s.heap.size) s.heap H locs)
    (kk : ∀ (q : Addr) (ce : Cell) (H1 : Heap) (locs1 : List Loc), H1[q]? = some ce → ce.vm = .none → s.vm.findClass (gEn (k + 1)) = some ce.cls → va_S (gA G s.heap.size) s.heap H1 locs1 → gP G S9 H1 → vx_W p l e R s m args below meth c H1 locs1 (cells + mc) (slots + ms) Q (F0 m pc ls rest) q) : W p l e R s m args below meth c H locs cells slots Q (F0 m pc ls st0) := by
  intro T hT X
  rcases hr T hT X with ⟨v', st₀, t, T', L, h0, X', hL, e1, e2, ⟨⟨hk, -⟩, -⟩, st⟩ | ⟨q, st₀, t, T', L, E, ce, h0, X', hL, e1, e2, ⟨⟨-, hE, hP⟩, hF⟩, hce, hcv, hcl, st⟩
  · cases hk
  · obtain ⟨k1, k2, k3⟩ := vx_keep h0 e1 hS (fun q _ h => gA_call hS q h) (gA_call hS) hL hF
    obtain ⟨t2, a1, b1⟩ := kk q ce T'.heap (locs ++ L) (by rw [e1]; exact hce) hcv (by rw [← hE]; exact hcl) k3 (by rw [e1]; exact hP) T' rfl X'
    exact ⟨t2, st.trans a1, b1⟩
theorem gw_ireti {x r : Int32} {mc' ms' : Nat} (cx : gCx p s m c cc nL own G) (hr : meth.sig.returnType = some .int) (hlocks : meth.locks = false) (hP : gP G S H) (hS : va_S (gA G s.heap.size) s.heap H locs) (hf : some (x, S) = some (r, S')) (hdg : decode cc pc = .ok (.ireturn, 1)) (hc : cells ≤ mc') (hs : slots ≤ ms') :
    W p l e R s m args below meth c H locs cells slots (MQ below (gQ G S' (some (.int r)) (gA G s.heap.size)) args s mc' ms' (gA G s.heap.size)) (F0 m pc ls [.int x]) :=
  W.widen hc hs (g_ireti cx hr hlocks hP hS hf hdg)
theorem gcast (hX : gX s) (k : Nat) (h : Cond.castable (gEn k) (gEn k) ∈ vx_atS RX10 (gEi k) (gEn k) gEl) : (Cond.castable (gEn k) (gEn k)).before args s = true := hX.at k _ h
end GWR
theorem gtab1 {t : List ExceptionTableEntry} {a b c d : Nat} (h : t.map (fun h => (h.startPc, h.endPc, h.handlerPc, h.catchType)) = [(a, b, c, d)]) : t = [⟨a, b, c, d⟩] := by
  match t, h with
  | [x], h => cases x; cases h; rfl
theorem gtab2 {t : List ExceptionTableEntry} {a b c d a2 b2 c2 d2 : Nat} (h : t.map (fun h => (h.startPc, h.endPc, h.handlerPc, h.catchType)) = [(a, b, c, d), (a2, b2, c2, d2)]) : t = [⟨a, b, c, d⟩, ⟨a2, b2, c2, d2⟩] := by
  match t, h with
  | [x, y], h => cases x; cases y; cases h; rfl
theorem gtab3 {t : List ExceptionTableEntry} {a b c d a2 b2 c2 d2 a3 b3 c3 d3 : Nat} (h : t.map (fun h => (h.startPc, h.endPc, h.handlerPc, h.catchType)) = [(a, b, c, d), (a2, b2, c2, d2), (a3, b3, c3, d3)]) : t = [⟨a, b, c, d⟩, ⟨a2, b2, c2, d2⟩, ⟨a3, b3, c3, d3⟩] := by
  match t, h with
  | [x, y, z], h => cases x; cases y; cases z; cases h; rfl
theorem gcm1 : Cond.castable (gEn 1) (gEn 1) ∈ vx_atS RX10 (gEi 1) (gEn 1) gEl := by decide +kernel
theorem gcm2 : Cond.castable (gEn 2) (gEn 2) ∈ vx_atS RX10 (gEi 2) (gEn 2) gEl := by decide +kernel
theorem gcm3 : Cond.castable (gEn 3) (gEn 3) ∈ vx_atS RX10 (gEi 3) (gEn 3) gEl := by decide +kernel
noncomputable def f_L_append (a1 : Int32) (S : Sg) : Option (Int32 × Sg) := gwr 0 1 2 (f_X10_append a1 S)
noncomputable def f_L_load (S : Sg) : Option (Int32 × Sg) := gwr 0 0 1 (f_X10_load S)
noncomputable def f_L_about (a1 : Int32) (S : Sg) : Option (Int32 × Sg) := gwr 0 1 0 (f_X10_about a1 S)
noncomputable def f_L_track (a1 : Int32) (a2 : Int32) (S : Sg) : Option (Int32 × Sg) := gwr 1 2 0 (f_X10_track a1 a2 S)
noncomputable def f_L_company (a1 : Int32) (a2 : Int32) (S : Sg) : Option (Int32 × Sg) := gwr 1 2 0 (f_X10_company a1 a2 S)
noncomputable def f_L_train (a1 : Int32) (a2 : Int32) (a3 : Int32) (S : Sg) : Option (Int32 × Sg) := gwr 1 2 0 (f_X10_train a1 a2 a3 S)
noncomputable def f_L_contract (a1 : Int32) (a2 : Int32) (S : Sg) : Option (Int32 × Sg) := gwr 1 2 0 (f_X10_contract a1 a2 S)
noncomputable def f_L_buyTrack (a1 : Int32) (a2 : Int32) (S : Sg) : Option (Int32 × Sg) := gwr 1 0 2 (f_X10_buyTrack a1 a2 S)
noncomputable def f_L_buyTrain (a1 : Int32) (a2 : Int32) (S : Sg) : Option (Int32 × Sg) := gwr 1 2 3 (f_X10_buyTrain a1 a2 S)
noncomputable def f_L_setRent (a1 : Int32) (a2 : Int32) (S : Sg) : Option (Int32 × Sg) := gwr 1 2 0 (f_X10_setRent a1 a2 S)
noncomputable def f_L_offer (a1 : Int32) (a2 : Int32) (a3 : Int32) (a4 : Int32) (S : Sg) : Option (Int32 × Sg) := gwr 1 2 3 (f_X10_offer a1 a2 a3 a4 S)
noncomputable def f_L_take (a1 : Int32) (a2 : Int32) (S : Sg) : Option (Int32 × Sg) := gwr 1 0 2 (f_X10_take a1 a2 S)
noncomputable def f_L_run (a1 : Int32) (a2 : Int32) (S : Sg) : Option (Int32 × Sg) := gwr 1 0 2 (f_X10_run a1 a2 S)
noncomputable def f_L_undo (S : Sg) : Option (Int32 × Sg) := gwr 0 0 1 (f_X10_undo S)
noncomputable def f_L_way (a1 : Int32) (a2 : Int32) (a3 : Int32) (a4 : Int32) (a5 : Int32) (S : Sg) : Option (Int32 × Sg) := gwr 1 2 0 (f_X10_way a1 a2 a3 a4 a5 S)
noncomputable def f_L_whyNot (a1 : Int32) (a2 : Int32) (S : Sg) : Option (Int32 × Sg) := gwr 1 0 0 (f_X10_whyNot a1 a2 S)
noncomputable def f_L_levelFor (a1 : Int32) (a2 : Int32) (S : Sg) : Option (Int32 × Sg) := gwr 1 0 0 (f_X10_levelFor a1 a2 S)
noncomputable def f_L_bestContract (a1 : Int32) (S : Sg) : Option (Int32 × Sg) := gwr 1 0 0 (f_X10_bestContract a1 S)
noncomputable def f_L_coinsAfter (a1 : Int32) (a2 : Int32) (S : Sg) : Option (Int32 × Sg) := gwr 1 2 0 (f_X10_coinsAfter a1 a2 S)
noncomputable def f_L_bankruptAfter (a1 : Int32) (S : Sg) : Option (Int32 × Sg) := gwr 1 0 0 (f_X10_bankruptAfter a1 S)
noncomputable def f_L_worth (a1 : Int32) (S : Sg) : Option (Int32 × Sg) := gwr 1 0 0 (f_X10_worth a1 S)
noncomputable def f_L_runScript (a1 : Int32) (a2 : Int64) (S : Sg) : Option (Int32 × Sg) := gwr 0 1 0 (f_X10_runScript a1 a2 S)
noncomputable def f_L_simulate (a1 : Int64) (a3 : Int32) (S : Sg) : Option (Int32 × Sg) := gwr 0 1 0 (f_X10_simulate a1 a3 S)
noncomputable def f_L_save (a1 : Int32) (S : Sg) : Option (Int32 × Sg) := gwr 1 0 0 (f_X10_save a1 S)
noncomputable def f_L_restore (a1 : Int32) (S : Sg) : Option (Int32 × Sg) := gwr 1 0 2 (f_X10_restore a1 S)
set_option maxHeartbeats 4000000 in
set_option maxRecDepth 100000 in
theorem c_L_append (l : Launch) (hst : l.stackTraces = false) (G : gG) (hO : 403 ≤ gN G) (a1 : Int32) (S : Sg) (r : Int32) (S' : Sg) (hf : f_L_append a1 S = some (r, S')) : gCw l yL_append [Cond.codeWith yL_append cL_append 4 (some .int) [(0, 9, 12, 13), (0, 9, 15, 15)]] (gRx 8 133 2 12) G [.ref (G.2.1 0), .int a1, .ref (G.2.1 402)] S (some (.int r)) S' 2 12 := by
  refine gCw_of (by decide) (Nat.le_of_ble_eq_true rfl) ?_
  intro p e s m below meth c ls cx hX hZ htab hr hlk hw hS hl
  have hl : lv_has ls 4 [(0, .ref (G.2.1 0)), (1, .int a1), (2, .ref (G.2.1 402))] := hl
  have hN := cx.2.2.2.2.hN
  replace htab := gtab2 htab
  unfold f_L_append at hf
  refine lv_aload_n cx.1 cx.2.1 dL_append_0 rfl (lv_at hl 2 rfl) ?_
  refine lv_iconst (v := 0) cx.1 cx.2.1 dL_append_1 (by decide) ?_
  refine lv_aload_n cx.1 cx.2.1 dL_append_2 rfl (lv_at hl 0 rfl) ?_
  refine lv_iload_n cx.1 cx.2.1 dL_append_3 rfl (lv_at hl 1 rfl) ?_
  rcases hx0 : f_X10_append a1 S with _ | ⟨k9, v9, S9⟩
  · rw [hx0] at hf; cases hf
  · rw [hx0] at hf
    match k9, hx0, hf with
    | 0, hx0, hf =>
      refine gx_ret (gx_rV (As := [.int a1]) (rest := [.int (0 : Int32), .ref (G.2.1 402)]) cx hX hZ hw hS (c_X10_append l hst G a1 S 0 v9 S9 hx0) (by omega) he_c0 rfl rfl gw_170 gy_X10_append gi_X10_append ⟨Nat.le_of_ble_eq_true rfl, Nat.le_of_ble_eq_true rfl⟩ ⟨Nat.le_of_ble_eq_true rfl, Nat.le_of_ble_eq_true rfl⟩ rfl hl.1 rfl (Nat.le_of_ble_eq_true rfl) dL_append_4) hS (fun H locs hw hS => ?_)
      refine W.eq (g2 := F0 m 7 ls [.int v9, .int (0 : Int32), .ref (G.2.1 402)]) rfl ?_
      refine lv_i2l cx.1 cx.2.1 dL_append_7 rfl ?_
      refine g_last24 (v := v9) hO cx hw hS dL_append_8 (fun H locs hw hS => ?_)
      refine lv_goto (tgt := 18) cx.1 cx.2.1 dL_append_9 (by decide) ?_
      refine lv_iconst (v := 0) cx.1 cx.2.1 dL_append_18 (by decide) ?_
      exact gw_ireti cx hr hlk hw hS hf dL_append_19 (Nat.le_of_ble_eq_true rfl) (Nat.le_of_ble_eq_true rfl)
    | 1, hx0, hf =>
      have hf : (none : Option (Int32 × Sg)) = some (r, S') := hf
      cases hf
    | 2, hx0, hf =>
      have hf : some ((1 : Int32), S9) = some (r, S') := hf
      refine gx_caught (k := 1) (gx_rV (As := [.int a1]) (rest := [.int (0 : Int32), .ref (G.2.1 402)]) cx hX hZ hw hS (c_X10_append l hst G a1 S 2 v9 S9 hx0) (by omega) he_c0 rfl rfl gw_170 gy_X10_append gi_X10_append ⟨Nat.le_of_ble_eq_true rfl, Nat.le_of_ble_eq_true rfl⟩ ⟨Nat.le_of_ble_eq_true rfl, Nat.le_of_ble_eq_true rfl⟩ rfl hl.1 rfl (Nat.le_of_ble_eq_true rfl) dL_append_4) hS (fun q9 ce H locs hce hcv hcl hS hw => ?_)
      refine vx_catch (own := RL) (name := gEn 2) (E := gEn 2) cx.2.2.2.1 [] ⟨0, 9, 12, 13⟩ [⟨0, 9, 15, 15⟩] htab (fun z hz => nomatch hz) (by decide) (by decide) (cx.2.2.2.2.ts _ gw_168) (gcast hX 2 gcm2) hce hcv hcl ?_
      refine W.eq (g2 := F0 m 12 ls [.ref q9]) rfl ?_
      refine lv_astore_n (lv' := [(3, .ref q9), (0, .ref (G.2.1 0)), (1, .int a1), (2, .ref (G.2.1 402))]) cx.1 cx.2.1 dL_append_12 rfl hl (by decide) rfl (fun ls hl => ?_)
      refine lv_iconst (v := 1) cx.1 cx.2.1 dL_append_13 (by decide) ?_
      exact gw_ireti cx hr hlk hw hS hf dL_append_14 (Nat.le_of_ble_eq_true rfl) (Nat.le_of_ble_eq_true rfl)
    | 3, hx0, hf =>
      have hf : some ((2 : Int32), S9) = some (r, S') := hf
      refine gx_caught (k := 2) (gx_rV (As := [.int a1]) (rest := [.int (0 : Int32), .ref (G.2.1 402)]) cx hX hZ hw hS (c_X10_append l hst G a1 S 3 v9 S9 hx0) (by omega) he_c0 rfl rfl gw_170 gy_X10_append gi_X10_append ⟨Nat.le_of_ble_eq_true rfl, Nat.le_of_ble_eq_true rfl⟩ ⟨Nat.le_of_ble_eq_true rfl, Nat.le_of_ble_eq_true rfl⟩ rfl hl.1 rfl (Nat.le_of_ble_eq_true rfl) dL_append_4) hS (fun q9 ce H locs hce hcv hcl hS hw => ?_)
      refine vx_catch (own := RL) (name := gEn 3) (E := gEn 3) cx.2.2.2.1 [⟨0, 9, 12, 13⟩] ⟨0, 9, 15, 15⟩ [] htab (List.forall_mem_cons.mpr ⟨Or.inr ⟨by decide, gEn 2, cx.2.2.2.2.ts _ gw_168, hX.2.2.2.2⟩, fun z hz => nomatch hz⟩) (by decide) (by decide) (cx.2.2.2.2.ts _ gw_169) (gcast hX 3 gcm3) hce hcv hcl ?_
      refine W.eq (g2 := F0 m 15 ls [.ref q9]) rfl ?_
      refine lv_astore_n (lv' := [(3, .ref q9), (0, .ref (G.2.1 0)), (1, .int a1), (2, .ref (G.2.1 402))]) cx.1 cx.2.1 dL_append_15 rfl hl (by decide) rfl (fun ls hl => ?_)
      refine lv_iconst (v := 2) cx.1 cx.2.1 dL_append_16 (by decide) ?_
      exact gw_ireti cx hr hlk hw hS hf dL_append_17 (Nat.le_of_ble_eq_true rfl) (Nat.le_of_ble_eq_true rfl)
    | k9 + 4, hx0, hf =>
      have hf : (none : Option (Int32 × Sg)) = some (r, S') := hf
      cases hf
theorem gyw_L_append : Cond.codeWith yL_append cL_append 4 (some .int) [(0, 9, 12, 13), (0, 9, 15, 15)] ∈ wsL_law ∧ Cond.static yL_append ∈ wsL_law ∧ (parseMethodDescriptor yL_append.desc).map (fun d => d.parameters.length) = some 3 := ⟨gw_167, gw_165, by decide +kernel⟩
set_option maxHeartbeats 4000000 in
set_option maxRecDepth 100000 in
theorem c_L_load (l : Launch) (hst : l.stackTraces = false) (G : gG) (hO : 403 ≤ gN G) (S : Sg) (r : Int32) (S' : Sg) (hf : f_L_load S = some (r, S')) : gCw l yL_load [Cond.codeWith yL_load cL_load 3 (some .int) [(0, 8, 11, 15)]] (gRx 7 159 1 6) G [.ref (G.2.1 0), .ref (G.2.1 402)] S (some (.int r)) S' 1 6 := by
  refine gCw_of (by decide) (Nat.le_of_ble_eq_true rfl) ?_
  intro p e s m below meth c ls cx hX hZ htab hr hlk hw hS hl
  have hl : lv_has ls 3 [(0, .ref (G.2.1 0)), (1, .ref (G.2.1 402))] := hl
  have hN := cx.2.2.2.2.hN
  replace htab := gtab1 htab
  unfold f_L_load at hf
  refine lv_aload_n cx.1 cx.2.1 dL_load_0 rfl (lv_at hl 1 rfl) ?_
  refine lv_iconst (v := 0) cx.1 cx.2.1 dL_load_1 (by decide) ?_
  refine lv_aload_n cx.1 cx.2.1 dL_load_2 rfl (lv_at hl 0 rfl) ?_
  rcases hx0 : f_X10_load S with _ | ⟨k9, v9, S9⟩
  · rw [hx0] at hf; cases hf
  · rw [hx0] at hf
    match k9, hx0, hf with
    | 0, hx0, hf =>
      refine gx_ret (gx_rV (As := []) (rest := [.int (0 : Int32), .ref (G.2.1 402)]) cx hX hZ hw hS (c_X10_load l hst G S 0 v9 S9 hx0) (by omega) he_c0 rfl rfl gw_305 gy_X10_load gi_X10_load ⟨Nat.le_of_ble_eq_true rfl, Nat.le_of_ble_eq_true rfl⟩ ⟨Nat.le_of_ble_eq_true rfl, Nat.le_of_ble_eq_true rfl⟩ rfl hl.1 rfl (Nat.le_of_ble_eq_true rfl) dL_load_3) hS (fun H locs hw hS => ?_)
      refine W.eq (g2 := F0 m 6 ls [.int v9, .int (0 : Int32), .ref (G.2.1 402)]) rfl ?_
      refine lv_i2l cx.1 cx.2.1 dL_load_6 rfl ?_
      refine g_last24 (v := v9) hO cx hw hS dL_load_7 (fun H locs hw hS => ?_)
      refine lv_goto (tgt := 14) cx.1 cx.2.1 dL_load_8 (by decide) ?_
      refine lv_iconst (v := 0) cx.1 cx.2.1 dL_load_14 (by decide) ?_
      exact gw_ireti cx hr hlk hw hS hf dL_load_15 (Nat.le_of_ble_eq_true rfl) (Nat.le_of_ble_eq_true rfl)
    | 1, hx0, hf =>
      have hf : (none : Option (Int32 × Sg)) = some (r, S') := hf
      cases hf
    | 2, hx0, hf =>
      have hf : (none : Option (Int32 × Sg)) = some (r, S') := hf
      cases hf
    | 3, hx0, hf =>
      have hf : some ((1 : Int32), S9) = some (r, S') := hf
      refine gx_caught (k := 2) (gx_rV (As := []) (rest := [.int (0 : Int32), .ref (G.2.1 402)]) cx hX hZ hw hS (c_X10_load l hst G S 3 v9 S9 hx0) (by omega) he_c0 rfl rfl gw_305 gy_X10_load gi_X10_load ⟨Nat.le_of_ble_eq_true rfl, Nat.le_of_ble_eq_true rfl⟩ ⟨Nat.le_of_ble_eq_true rfl, Nat.le_of_ble_eq_true rfl⟩ rfl hl.1 rfl (Nat.le_of_ble_eq_true rfl) dL_load_3) hS (fun q9 ce H locs hce hcv hcl hS hw => ?_)
      refine vx_catch (own := RL) (name := gEn 3) (E := gEn 3) cx.2.2.2.1 [] ⟨0, 8, 11, 15⟩ [] htab (fun z hz => nomatch hz) (by decide) (by decide) (cx.2.2.2.2.ts _ gw_169) (gcast hX 3 gcm3) hce hcv hcl ?_
      refine W.eq (g2 := F0 m 11 ls [.ref q9]) rfl ?_
      refine lv_astore_n (lv' := [(2, .ref q9), (0, .ref (G.2.1 0)), (1, .ref (G.2.1 402))]) cx.1 cx.2.1 dL_load_11 rfl hl (by decide) rfl (fun ls hl => ?_)
      refine lv_iconst (v := 1) cx.1 cx.2.1 dL_load_12 (by decide) ?_
      exact gw_ireti cx hr hlk hw hS hf dL_load_13 (Nat.le_of_ble_eq_true rfl) (Nat.le_of_ble_eq_true rfl)
    | k9 + 4, hx0, hf =>
      have hf : (none : Option (Int32 × Sg)) = some (r, S') := hf
      cases hf
theorem gyw_L_load : Cond.codeWith yL_load cL_load 3 (some .int) [(0, 8, 11, 15)] ∈ wsL_law ∧ Cond.static yL_load ∈ wsL_law ∧ (parseMethodDescriptor yL_load.desc).map (fun d => d.parameters.length) = some 2 := ⟨gw_304, gw_303, by decide +kernel⟩
set_option maxHeartbeats 4000000 in
set_option maxRecDepth 100000 in
theorem c_L_about (l : Launch) (hst : l.stackTraces = false) (G : gG) (hO : 403 ≤ gN G) (a1 : Int32) (S : Sg) (r : Int32) (S' : Sg) (hf : f_L_about a1 S = some (r, S')) : gCw l yL_about [Cond.codeWith yL_about cL_about 4 (some .int) [(0, 9, 12, 13)]] (gRx 7 111 1 6) G [.ref (G.2.1 0), .int a1, .ref (G.2.1 402)] S (some (.int r)) S' 1 6 := by
  refine gCw_of (by decide) (Nat.le_of_ble_eq_true rfl) ?_
  intro p e s m below meth c ls cx hX hZ htab hr hlk hw hS hl
  have hl : lv_has ls 4 [(0, .ref (G.2.1 0)), (1, .int a1), (2, .ref (G.2.1 402))] := hl
  have hN := cx.2.2.2.2.hN
  replace htab := gtab1 htab
  unfold f_L_about at hf
  refine lv_aload_n cx.1 cx.2.1 dL_about_0 rfl (lv_at hl 2 rfl) ?_
  refine lv_iconst (v := 0) cx.1 cx.2.1 dL_about_1 (by decide) ?_
  refine lv_aload_n cx.1 cx.2.1 dL_about_2 rfl (lv_at hl 0 rfl) ?_
  refine lv_iload_n cx.1 cx.2.1 dL_about_3 rfl (lv_at hl 1 rfl) ?_
  rcases hx0 : f_X10_about a1 S with _ | ⟨k9, v9, S9⟩
  · rw [hx0] at hf; cases hf
  · rw [hx0] at hf
    match k9, hx0, hf with
    | 0, hx0, hf =>
      refine gx_ret (gx_rV (As := [.int a1]) (rest := [.int (0 : Int32), .ref (G.2.1 402)]) cx hX hZ hw hS (c_X10_about l hst G a1 S 0 v9 S9 hx0) (by omega) he_c0 rfl rfl gw_356 gy_X10_about gi_X10_about ⟨Nat.le_of_ble_eq_true rfl, Nat.le_of_ble_eq_true rfl⟩ ⟨Nat.le_of_ble_eq_true rfl, Nat.le_of_ble_eq_true rfl⟩ rfl hl.1 rfl (Nat.le_of_ble_eq_true rfl) dL_about_4) hS (fun H locs hw hS => ?_)
      refine W.eq (g2 := F0 m 7 ls [.int v9, .int (0 : Int32), .ref (G.2.1 402)]) rfl ?_
      refine lv_i2l cx.1 cx.2.1 dL_about_7 rfl ?_
      refine g_last24 (v := v9) hO cx hw hS dL_about_8 (fun H locs hw hS => ?_)
      refine lv_goto (tgt := 15) cx.1 cx.2.1 dL_about_9 (by decide) ?_
      refine lv_iconst (v := 0) cx.1 cx.2.1 dL_about_15 (by decide) ?_
      exact gw_ireti cx hr hlk hw hS hf dL_about_16 (Nat.le_of_ble_eq_true rfl) (Nat.le_of_ble_eq_true rfl)
    | 1, hx0, hf =>
      have hf : (none : Option (Int32 × Sg)) = some (r, S') := hf
      cases hf
    | 2, hx0, hf =>
      have hf : some ((1 : Int32), S9) = some (r, S') := hf
      refine gx_caught (k := 1) (gx_rV (As := [.int a1]) (rest := [.int (0 : Int32), .ref (G.2.1 402)]) cx hX hZ hw hS (c_X10_about l hst G a1 S 2 v9 S9 hx0) (by omega) he_c0 rfl rfl gw_356 gy_X10_about gi_X10_about ⟨Nat.le_of_ble_eq_true rfl, Nat.le_of_ble_eq_true rfl⟩ ⟨Nat.le_of_ble_eq_true rfl, Nat.le_of_ble_eq_true rfl⟩ rfl hl.1 rfl (Nat.le_of_ble_eq_true rfl) dL_about_4) hS (fun q9 ce H locs hce hcv hcl hS hw => ?_)
      refine vx_catch (own := RL) (name := gEn 2) (E := gEn 2) cx.2.2.2.1 [] ⟨0, 9, 12, 13⟩ [] htab (fun z hz => nomatch hz) (by decide) (by decide) (cx.2.2.2.2.ts _ gw_168) (gcast hX 2 gcm2) hce hcv hcl ?_
      refine W.eq (g2 := F0 m 12 ls [.ref q9]) rfl ?_
      refine lv_astore_n (lv' := [(3, .ref q9), (0, .ref (G.2.1 0)), (1, .int a1), (2, .ref (G.2.1 402))]) cx.1 cx.2.1 dL_about_12 rfl hl (by decide) rfl (fun ls hl => ?_)
      refine lv_iconst (v := 1) cx.1 cx.2.1 dL_about_13 (by decide) ?_
      exact gw_ireti cx hr hlk hw hS hf dL_about_14 (Nat.le_of_ble_eq_true rfl) (Nat.le_of_ble_eq_true rfl)
    | 3, hx0, hf =>
      have hf : (none : Option (Int32 × Sg)) = some (r, S') := hf
      cases hf
    | k9 + 4, hx0, hf =>
      have hf : (none : Option (Int32 × Sg)) = some (r, S') := hf
      cases hf
theorem gyw_L_about : Cond.codeWith yL_about cL_about 4 (some .int) [(0, 9, 12, 13)] ∈ wsL_law ∧ Cond.static yL_about ∈ wsL_law ∧ (parseMethodDescriptor yL_about.desc).map (fun d => d.parameters.length) = some 3 := ⟨gw_355, gw_354, by decide +kernel⟩
set_option maxHeartbeats 4000000 in
set_option maxRecDepth 100000 in
theorem c_L_track (l : Launch) (hst : l.stackTraces = false) (G : gG) (hO : 403 ≤ gN G) (a1 : Int32) (a2 : Int32) (S : Sg) (r : Int32) (S' : Sg) (hf : f_L_track a1 a2 S = some (r, S')) : gCw l yL_track [Cond.codeWith yL_track cL_track 5 (some .int) [(0, 10, 13, 28), (0, 10, 17, 13)]] (gRx 9 154 2 12) G [.ref (G.2.1 0), .int a1, .int a2, .ref (G.2.1 402)] S (some (.int r)) S' 2 12 := by
  refine gCw_of (by decide) (Nat.le_of_ble_eq_true rfl) ?_
  intro p e s m below meth c ls cx hX hZ htab hr hlk hw hS hl
  have hl : lv_has ls 5 [(0, .ref (G.2.1 0)), (1, .int a1), (2, .int a2), (3, .ref (G.2.1 402))] := hl
  have hN := cx.2.2.2.2.hN
  replace htab := gtab2 htab
  unfold f_L_track at hf
  refine lv_aload_n cx.1 cx.2.1 dL_track_0 rfl (lv_at hl 3 rfl) ?_
  refine lv_iconst (v := 0) cx.1 cx.2.1 dL_track_1 (by decide) ?_
  refine lv_aload_n cx.1 cx.2.1 dL_track_2 rfl (lv_at hl 0 rfl) ?_
  refine lv_iload_n cx.1 cx.2.1 dL_track_3 rfl (lv_at hl 1 rfl) ?_
  refine lv_iload_n cx.1 cx.2.1 dL_track_4 rfl (lv_at hl 2 rfl) ?_
  rcases hx0 : f_X10_track a1 a2 S with _ | ⟨k9, v9, S9⟩
  · rw [hx0] at hf; cases hf
  · rw [hx0] at hf
    match k9, hx0, hf with
    | 0, hx0, hf =>
      refine gx_ret (gx_rV (As := [.int a1, .int a2]) (rest := [.int (0 : Int32), .ref (G.2.1 402)]) cx hX hZ hw hS (c_X10_track l hst G a1 a2 S 0 v9 S9 hx0) (by omega) he_c0 rfl rfl gw_385 gy_X10_track gi_X10_track ⟨Nat.le_of_ble_eq_true rfl, Nat.le_of_ble_eq_true rfl⟩ ⟨Nat.le_of_ble_eq_true rfl, Nat.le_of_ble_eq_true rfl⟩ rfl hl.1 rfl (Nat.le_of_ble_eq_true rfl) dL_track_5) hS (fun H locs hw hS => ?_)
      refine W.eq (g2 := F0 m 8 ls [.int v9, .int (0 : Int32), .ref (G.2.1 402)]) rfl ?_
      refine lv_i2l cx.1 cx.2.1 dL_track_8 rfl ?_
      refine g_last24 (v := v9) hO cx hw hS dL_track_9 (fun H locs hw hS => ?_)
      refine lv_goto (tgt := 21) cx.1 cx.2.1 dL_track_10 (by decide) ?_
      refine lv_iconst (v := 0) cx.1 cx.2.1 dL_track_21 (by decide) ?_
      exact gw_ireti cx hr hlk hw hS hf dL_track_22 (Nat.le_of_ble_eq_true rfl) (Nat.le_of_ble_eq_true rfl)
    | 1, hx0, hf =>
      have hf : some ((1 : Int32), S9) = some (r, S') := hf
      refine gx_caught (k := 0) (gx_rV (As := [.int a1, .int a2]) (rest := [.int (0 : Int32), .ref (G.2.1 402)]) cx hX hZ hw hS (c_X10_track l hst G a1 a2 S 1 v9 S9 hx0) (by omega) he_c0 rfl rfl gw_385 gy_X10_track gi_X10_track ⟨Nat.le_of_ble_eq_true rfl, Nat.le_of_ble_eq_true rfl⟩ ⟨Nat.le_of_ble_eq_true rfl, Nat.le_of_ble_eq_true rfl⟩ rfl hl.1 rfl (Nat.le_of_ble_eq_true rfl) dL_track_5) hS (fun q9 ce H locs hce hcv hcl hS hw => ?_)
      refine vx_catch (own := RL) (name := gEn 1) (E := gEn 1) cx.2.2.2.1 [] ⟨0, 10, 13, 28⟩ [⟨0, 10, 17, 13⟩] htab (fun z hz => nomatch hz) (by decide) (by decide) (cx.2.2.2.2.ts _ gw_384) (gcast hX 1 gcm1) hce hcv hcl ?_
      refine W.eq (g2 := F0 m 13 ls [.ref q9]) rfl ?_
      refine lv_astore (lv' := [(4, .ref q9), (0, .ref (G.2.1 0)), (1, .int a1), (2, .int a2), (3, .ref (G.2.1 402))]) cx.1 cx.2.1 dL_track_13 hl (by decide) rfl (fun ls hl => ?_)
      refine lv_iconst (v := 1) cx.1 cx.2.1 dL_track_15 (by decide) ?_
      exact gw_ireti cx hr hlk hw hS hf dL_track_16 (Nat.le_of_ble_eq_true rfl) (Nat.le_of_ble_eq_true rfl)
    | 2, hx0, hf =>
      have hf : some ((2 : Int32), S9) = some (r, S') := hf
      refine gx_caught (k := 1) (gx_rV (As := [.int a1, .int a2]) (rest := [.int (0 : Int32), .ref (G.2.1 402)]) cx hX hZ hw hS (c_X10_track l hst G a1 a2 S 2 v9 S9 hx0) (by omega) he_c0 rfl rfl gw_385 gy_X10_track gi_X10_track ⟨Nat.le_of_ble_eq_true rfl, Nat.le_of_ble_eq_true rfl⟩ ⟨Nat.le_of_ble_eq_true rfl, Nat.le_of_ble_eq_true rfl⟩ rfl hl.1 rfl (Nat.le_of_ble_eq_true rfl) dL_track_5) hS (fun q9 ce H locs hce hcv hcl hS hw => ?_)
      refine vx_catch (own := RL) (name := gEn 2) (E := gEn 2) cx.2.2.2.1 [⟨0, 10, 13, 28⟩] ⟨0, 10, 17, 13⟩ [] htab (List.forall_mem_cons.mpr ⟨Or.inr ⟨by decide, gEn 1, cx.2.2.2.2.ts _ gw_384, hX.2.2.1⟩, fun z hz => nomatch hz⟩) (by decide) (by decide) (cx.2.2.2.2.ts _ gw_168) (gcast hX 2 gcm2) hce hcv hcl ?_
      refine W.eq (g2 := F0 m 17 ls [.ref q9]) rfl ?_
      refine lv_astore (lv' := [(4, .ref q9), (0, .ref (G.2.1 0)), (1, .int a1), (2, .int a2), (3, .ref (G.2.1 402))]) cx.1 cx.2.1 dL_track_17 hl (by decide) rfl (fun ls hl => ?_)
      refine lv_iconst (v := 2) cx.1 cx.2.1 dL_track_19 (by decide) ?_
      exact gw_ireti cx hr hlk hw hS hf dL_track_20 (Nat.le_of_ble_eq_true rfl) (Nat.le_of_ble_eq_true rfl)
    | 3, hx0, hf =>
      have hf : (none : Option (Int32 × Sg)) = some (r, S') := hf
      cases hf
    | k9 + 4, hx0, hf =>
      have hf : (none : Option (Int32 × Sg)) = some (r, S') := hf
      cases hf
theorem gyw_L_track : Cond.codeWith yL_track cL_track 5 (some .int) [(0, 10, 13, 28), (0, 10, 17, 13)] ∈ wsL_law ∧ Cond.static yL_track ∈ wsL_law ∧ (parseMethodDescriptor yL_track.desc).map (fun d => d.parameters.length) = some 4 := ⟨gw_383, gw_382, by decide +kernel⟩
set_option maxHeartbeats 4000000 in
set_option maxRecDepth 100000 in
theorem c_L_company (l : Launch) (hst : l.stackTraces = false) (G : gG) (hO : 403 ≤ gN G) (a1 : Int32) (a2 : Int32) (S : Sg) (r : Int32) (S' : Sg) (hf : f_L_company a1 a2 S = some (r, S')) : gCw l yL_company [Cond.codeWith yL_company cL_company 5 (some .int) [(0, 10, 13, 28), (0, 10, 17, 13)]] (gRx 9 153 2 12) G [.ref (G.2.1 0), .int a1, .int a2, .ref (G.2.1 402)] S (some (.int r)) S' 2 12 := by
  refine gCw_of (by decide) (Nat.le_of_ble_eq_true rfl) ?_
  intro p e s m below meth c ls cx hX hZ htab hr hlk hw hS hl
  have hl : lv_has ls 5 [(0, .ref (G.2.1 0)), (1, .int a1), (2, .int a2), (3, .ref (G.2.1 402))] := hl
  have hN := cx.2.2.2.2.hN
  replace htab := gtab2 htab
  unfold f_L_company at hf
  refine lv_aload_n cx.1 cx.2.1 dL_company_0 rfl (lv_at hl 3 rfl) ?_
  refine lv_iconst (v := 0) cx.1 cx.2.1 dL_company_1 (by decide) ?_
  refine lv_aload_n cx.1 cx.2.1 dL_company_2 rfl (lv_at hl 0 rfl) ?_
  refine lv_iload_n cx.1 cx.2.1 dL_company_3 rfl (lv_at hl 1 rfl) ?_
  refine lv_iload_n cx.1 cx.2.1 dL_company_4 rfl (lv_at hl 2 rfl) ?_
  rcases hx0 : f_X10_company a1 a2 S with _ | ⟨k9, v9, S9⟩
  · rw [hx0] at hf; cases hf
  · rw [hx0] at hf
    match k9, hx0, hf with
    | 0, hx0, hf =>
      refine gx_ret (gx_rV (As := [.int a1, .int a2]) (rest := [.int (0 : Int32), .ref (G.2.1 402)]) cx hX hZ hw hS (c_X10_company l hst G a1 a2 S 0 v9 S9 hx0) (by omega) he_c0 rfl rfl gw_421 gy_X10_company gi_X10_company ⟨Nat.le_of_ble_eq_true rfl, Nat.le_of_ble_eq_true rfl⟩ ⟨Nat.le_of_ble_eq_true rfl, Nat.le_of_ble_eq_true rfl⟩ rfl hl.1 rfl (Nat.le_of_ble_eq_true rfl) dL_company_5) hS (fun H locs hw hS => ?_)
      refine W.eq (g2 := F0 m 8 ls [.int v9, .int (0 : Int32), .ref (G.2.1 402)]) rfl ?_
      refine lv_i2l cx.1 cx.2.1 dL_company_8 rfl ?_
      refine g_last24 (v := v9) hO cx hw hS dL_company_9 (fun H locs hw hS => ?_)
      refine lv_goto (tgt := 21) cx.1 cx.2.1 dL_company_10 (by decide) ?_
      refine lv_iconst (v := 0) cx.1 cx.2.1 dL_company_21 (by decide) ?_
      exact gw_ireti cx hr hlk hw hS hf dL_company_22 (Nat.le_of_ble_eq_true rfl) (Nat.le_of_ble_eq_true rfl)
    | 1, hx0, hf =>
      have hf : some ((1 : Int32), S9) = some (r, S') := hf
      refine gx_caught (k := 0) (gx_rV (As := [.int a1, .int a2]) (rest := [.int (0 : Int32), .ref (G.2.1 402)]) cx hX hZ hw hS (c_X10_company l hst G a1 a2 S 1 v9 S9 hx0) (by omega) he_c0 rfl rfl gw_421 gy_X10_company gi_X10_company ⟨Nat.le_of_ble_eq_true rfl, Nat.le_of_ble_eq_true rfl⟩ ⟨Nat.le_of_ble_eq_true rfl, Nat.le_of_ble_eq_true rfl⟩ rfl hl.1 rfl (Nat.le_of_ble_eq_true rfl) dL_company_5) hS (fun q9 ce H locs hce hcv hcl hS hw => ?_)
      refine vx_catch (own := RL) (name := gEn 1) (E := gEn 1) cx.2.2.2.1 [] ⟨0, 10, 13, 28⟩ [⟨0, 10, 17, 13⟩] htab (fun z hz => nomatch hz) (by decide) (by decide) (cx.2.2.2.2.ts _ gw_384) (gcast hX 1 gcm1) hce hcv hcl ?_
      refine W.eq (g2 := F0 m 13 ls [.ref q9]) rfl ?_
      refine lv_astore (lv' := [(4, .ref q9), (0, .ref (G.2.1 0)), (1, .int a1), (2, .int a2), (3, .ref (G.2.1 402))]) cx.1 cx.2.1 dL_company_13 hl (by decide) rfl (fun ls hl => ?_)
      refine lv_iconst (v := 1) cx.1 cx.2.1 dL_company_15 (by decide) ?_
      exact gw_ireti cx hr hlk hw hS hf dL_company_16 (Nat.le_of_ble_eq_true rfl) (Nat.le_of_ble_eq_true rfl)
    | 2, hx0, hf =>
      have hf : some ((2 : Int32), S9) = some (r, S') := hf
      refine gx_caught (k := 1) (gx_rV (As := [.int a1, .int a2]) (rest := [.int (0 : Int32), .ref (G.2.1 402)]) cx hX hZ hw hS (c_X10_company l hst G a1 a2 S 2 v9 S9 hx0) (by omega) he_c0 rfl rfl gw_421 gy_X10_company gi_X10_company ⟨Nat.le_of_ble_eq_true rfl, Nat.le_of_ble_eq_true rfl⟩ ⟨Nat.le_of_ble_eq_true rfl, Nat.le_of_ble_eq_true rfl⟩ rfl hl.1 rfl (Nat.le_of_ble_eq_true rfl) dL_company_5) hS (fun q9 ce H locs hce hcv hcl hS hw => ?_)
      refine vx_catch (own := RL) (name := gEn 2) (E := gEn 2) cx.2.2.2.1 [⟨0, 10, 13, 28⟩] ⟨0, 10, 17, 13⟩ [] htab (List.forall_mem_cons.mpr ⟨Or.inr ⟨by decide, gEn 1, cx.2.2.2.2.ts _ gw_384, hX.2.2.1⟩, fun z hz => nomatch hz⟩) (by decide) (by decide) (cx.2.2.2.2.ts _ gw_168) (gcast hX 2 gcm2) hce hcv hcl ?_
      refine W.eq (g2 := F0 m 17 ls [.ref q9]) rfl ?_
      refine lv_astore (lv' := [(4, .ref q9), (0, .ref (G.2.1 0)), (1, .int a1), (2, .int a2), (3, .ref (G.2.1 402))]) cx.1 cx.2.1 dL_company_17 hl (by decide) rfl (fun ls hl => ?_)
      refine lv_iconst (v := 2) cx.1 cx.2.1 dL_company_19 (by decide) ?_
      exact gw_ireti cx hr hlk hw hS hf dL_company_20 (Nat.le_of_ble_eq_true rfl) (Nat.le_of_ble_eq_true rfl)
    | 3, hx0, hf =>
      have hf : (none : Option (Int32 × Sg)) = some (r, S') := hf
      cases hf
    | k9 + 4, hx0, hf =>
      have hf : (none : Option (Int32 × Sg)) = some (r, S') := hf
      cases hf
theorem gyw_L_company : Cond.codeWith yL_company cL_company 5 (some .int) [(0, 10, 13, 28), (0, 10, 17, 13)] ∈ wsL_law ∧ Cond.static yL_company ∈ wsL_law ∧ (parseMethodDescriptor yL_company.desc).map (fun d => d.parameters.length) = some 4 := ⟨gw_420, gw_419, by decide +kernel⟩
set_option maxHeartbeats 4000000 in
set_option maxRecDepth 100000 in
theorem c_L_train (l : Launch) (hst : l.stackTraces = false) (G : gG) (hO : 403 ≤ gN G) (a1 : Int32) (a2 : Int32) (a3 : Int32) (S : Sg) (r : Int32) (S' : Sg) (hf : f_L_train a1 a2 a3 S = some (r, S')) : gCw l yL_train [Cond.codeWith yL_train cL_train 6 (some .int) [(0, 12, 15, 28), (0, 12, 19, 13)]] (gRx 9 155 3 18) G [.ref (G.2.1 0), .int a1, .int a2, .int a3, .ref (G.2.1 402)] S (some (.int r)) S' 3 18 := by
  refine gCw_of (by decide) (Nat.le_of_ble_eq_true rfl) ?_
  intro p e s m below meth c ls cx hX hZ htab hr hlk hw hS hl
  have hl : lv_has ls 6 [(0, .ref (G.2.1 0)), (1, .int a1), (2, .int a2), (3, .int a3), (4, .ref (G.2.1 402))] := hl
  have hN := cx.2.2.2.2.hN
  replace htab := gtab2 htab
  unfold f_L_train at hf
  refine lv_aload cx.1 cx.2.1 dL_train_0 (lv_at hl 4 rfl) ?_
  refine lv_iconst (v := 0) cx.1 cx.2.1 dL_train_2 (by decide) ?_
  refine lv_aload_n cx.1 cx.2.1 dL_train_3 rfl (lv_at hl 0 rfl) ?_
  refine lv_iload_n cx.1 cx.2.1 dL_train_4 rfl (lv_at hl 1 rfl) ?_
  refine lv_iload_n cx.1 cx.2.1 dL_train_5 rfl (lv_at hl 2 rfl) ?_
  refine lv_iload_n cx.1 cx.2.1 dL_train_6 rfl (lv_at hl 3 rfl) ?_
  rcases hx0 : f_X10_train a1 a2 a3 S with _ | ⟨k9, v9, S9⟩
  · rw [hx0] at hf; cases hf
  · rw [hx0] at hf
    match k9, hx0, hf with
    | 0, hx0, hf =>
      refine gx_ret (gx_rV (As := [.int a1, .int a2, .int a3]) (rest := [.int (0 : Int32), .ref (G.2.1 402)]) cx hX hZ hw hS (c_X10_train l hst G a1 a2 a3 S 0 v9 S9 hx0) (by omega) he_c0 rfl rfl gw_458 gy_X10_train gi_X10_train ⟨Nat.le_of_ble_eq_true rfl, Nat.le_of_ble_eq_true rfl⟩ ⟨Nat.le_of_ble_eq_true rfl, Nat.le_of_ble_eq_true rfl⟩ rfl hl.1 rfl (Nat.le_of_ble_eq_true rfl) dL_train_7) hS (fun H locs hw hS => ?_)
      refine W.eq (g2 := F0 m 10 ls [.int v9, .int (0 : Int32), .ref (G.2.1 402)]) rfl ?_
      refine lv_i2l cx.1 cx.2.1 dL_train_10 rfl ?_
      refine g_last24 (v := v9) hO cx hw hS dL_train_11 (fun H locs hw hS => ?_)
      refine lv_goto (tgt := 23) cx.1 cx.2.1 dL_train_12 (by decide) ?_
      refine lv_iconst (v := 0) cx.1 cx.2.1 dL_train_23 (by decide) ?_
      exact gw_ireti cx hr hlk hw hS hf dL_train_24 (Nat.le_of_ble_eq_true rfl) (Nat.le_of_ble_eq_true rfl)
    | 1, hx0, hf =>
      have hf : some ((1 : Int32), S9) = some (r, S') := hf
      refine gx_caught (k := 0) (gx_rV (As := [.int a1, .int a2, .int a3]) (rest := [.int (0 : Int32), .ref (G.2.1 402)]) cx hX hZ hw hS (c_X10_train l hst G a1 a2 a3 S 1 v9 S9 hx0) (by omega) he_c0 rfl rfl gw_458 gy_X10_train gi_X10_train ⟨Nat.le_of_ble_eq_true rfl, Nat.le_of_ble_eq_true rfl⟩ ⟨Nat.le_of_ble_eq_true rfl, Nat.le_of_ble_eq_true rfl⟩ rfl hl.1 rfl (Nat.le_of_ble_eq_true rfl) dL_train_7) hS (fun q9 ce H locs hce hcv hcl hS hw => ?_)
      refine vx_catch (own := RL) (name := gEn 1) (E := gEn 1) cx.2.2.2.1 [] ⟨0, 12, 15, 28⟩ [⟨0, 12, 19, 13⟩] htab (fun z hz => nomatch hz) (by decide) (by decide) (cx.2.2.2.2.ts _ gw_384) (gcast hX 1 gcm1) hce hcv hcl ?_
      refine W.eq (g2 := F0 m 15 ls [.ref q9]) rfl ?_
      refine lv_astore (lv' := [(5, .ref q9), (0, .ref (G.2.1 0)), (1, .int a1), (2, .int a2), (3, .int a3), (4, .ref (G.2.1 402))]) cx.1 cx.2.1 dL_train_15 hl (by decide) rfl (fun ls hl => ?_)
      refine lv_iconst (v := 1) cx.1 cx.2.1 dL_train_17 (by decide) ?_
      exact gw_ireti cx hr hlk hw hS hf dL_train_18 (Nat.le_of_ble_eq_true rfl) (Nat.le_of_ble_eq_true rfl)
    | 2, hx0, hf =>
      have hf : some ((2 : Int32), S9) = some (r, S') := hf
      refine gx_caught (k := 1) (gx_rV (As := [.int a1, .int a2, .int a3]) (rest := [.int (0 : Int32), .ref (G.2.1 402)]) cx hX hZ hw hS (c_X10_train l hst G a1 a2 a3 S 2 v9 S9 hx0) (by omega) he_c0 rfl rfl gw_458 gy_X10_train gi_X10_train ⟨Nat.le_of_ble_eq_true rfl, Nat.le_of_ble_eq_true rfl⟩ ⟨Nat.le_of_ble_eq_true rfl, Nat.le_of_ble_eq_true rfl⟩ rfl hl.1 rfl (Nat.le_of_ble_eq_true rfl) dL_train_7) hS (fun q9 ce H locs hce hcv hcl hS hw => ?_)
      refine vx_catch (own := RL) (name := gEn 2) (E := gEn 2) cx.2.2.2.1 [⟨0, 12, 15, 28⟩] ⟨0, 12, 19, 13⟩ [] htab (List.forall_mem_cons.mpr ⟨Or.inr ⟨by decide, gEn 1, cx.2.2.2.2.ts _ gw_384, hX.2.2.1⟩, fun z hz => nomatch hz⟩) (by decide) (by decide) (cx.2.2.2.2.ts _ gw_168) (gcast hX 2 gcm2) hce hcv hcl ?_
      refine W.eq (g2 := F0 m 19 ls [.ref q9]) rfl ?_
      refine lv_astore (lv' := [(5, .ref q9), (0, .ref (G.2.1 0)), (1, .int a1), (2, .int a2), (3, .int a3), (4, .ref (G.2.1 402))]) cx.1 cx.2.1 dL_train_19 hl (by decide) rfl (fun ls hl => ?_)
      refine lv_iconst (v := 2) cx.1 cx.2.1 dL_train_21 (by decide) ?_
      exact gw_ireti cx hr hlk hw hS hf dL_train_22 (Nat.le_of_ble_eq_true rfl) (Nat.le_of_ble_eq_true rfl)
    | 3, hx0, hf =>
      have hf : (none : Option (Int32 × Sg)) = some (r, S') := hf
      cases hf
    | k9 + 4, hx0, hf =>
      have hf : (none : Option (Int32 × Sg)) = some (r, S') := hf
      cases hf
theorem gyw_L_train : Cond.codeWith yL_train cL_train 6 (some .int) [(0, 12, 15, 28), (0, 12, 19, 13)] ∈ wsL_law ∧ Cond.static yL_train ∈ wsL_law ∧ (parseMethodDescriptor yL_train.desc).map (fun d => d.parameters.length) = some 5 := ⟨gw_457, gw_456, by decide +kernel⟩
set_option maxHeartbeats 4000000 in
set_option maxRecDepth 100000 in
theorem c_L_contract (l : Launch) (hst : l.stackTraces = false) (G : gG) (hO : 403 ≤ gN G) (a1 : Int32) (a2 : Int32) (S : Sg) (r : Int32) (S' : Sg) (hf : f_L_contract a1 a2 S = some (r, S')) : gCw l yL_contract [Cond.codeWith yL_contract cL_contract 5 (some .int) [(0, 10, 13, 28), (0, 10, 17, 13)]] (gRx 9 154 2 12) G [.ref (G.2.1 0), .int a1, .int a2, .ref (G.2.1 402)] S (some (.int r)) S' 2 12 := by
  refine gCw_of (by decide) (Nat.le_of_ble_eq_true rfl) ?_
  intro p e s m below meth c ls cx hX hZ htab hr hlk hw hS hl
  have hl : lv_has ls 5 [(0, .ref (G.2.1 0)), (1, .int a1), (2, .int a2), (3, .ref (G.2.1 402))] := hl
  have hN := cx.2.2.2.2.hN
  replace htab := gtab2 htab
  unfold f_L_contract at hf
  refine lv_aload_n cx.1 cx.2.1 dL_contract_0 rfl (lv_at hl 3 rfl) ?_
  refine lv_iconst (v := 0) cx.1 cx.2.1 dL_contract_1 (by decide) ?_
  refine lv_aload_n cx.1 cx.2.1 dL_contract_2 rfl (lv_at hl 0 rfl) ?_
  refine lv_iload_n cx.1 cx.2.1 dL_contract_3 rfl (lv_at hl 1 rfl) ?_
  refine lv_iload_n cx.1 cx.2.1 dL_contract_4 rfl (lv_at hl 2 rfl) ?_
  rcases hx0 : f_X10_contract a1 a2 S with _ | ⟨k9, v9, S9⟩
  · rw [hx0] at hf; cases hf
  · rw [hx0] at hf
    match k9, hx0, hf with
    | 0, hx0, hf =>
      refine gx_ret (gx_rV (As := [.int a1, .int a2]) (rest := [.int (0 : Int32), .ref (G.2.1 402)]) cx hX hZ hw hS (c_X10_contract l hst G a1 a2 S 0 v9 S9 hx0) (by omega) he_c0 rfl rfl gw_498 gy_X10_contract gi_X10_contract ⟨Nat.le_of_ble_eq_true rfl, Nat.le_of_ble_eq_true rfl⟩ ⟨Nat.le_of_ble_eq_true rfl, Nat.le_of_ble_eq_true rfl⟩ rfl hl.1 rfl (Nat.le_of_ble_eq_true rfl) dL_contract_5) hS (fun H locs hw hS => ?_)
      refine W.eq (g2 := F0 m 8 ls [.int v9, .int (0 : Int32), .ref (G.2.1 402)]) rfl ?_
      refine lv_i2l cx.1 cx.2.1 dL_contract_8 rfl ?_
      refine g_last24 (v := v9) hO cx hw hS dL_contract_9 (fun H locs hw hS => ?_)
      refine lv_goto (tgt := 21) cx.1 cx.2.1 dL_contract_10 (by decide) ?_
      refine lv_iconst (v := 0) cx.1 cx.2.1 dL_contract_21 (by decide) ?_
      exact gw_ireti cx hr hlk hw hS hf dL_contract_22 (Nat.le_of_ble_eq_true rfl) (Nat.le_of_ble_eq_true rfl)
    | 1, hx0, hf =>
      have hf : some ((1 : Int32), S9) = some (r, S') := hf
      refine gx_caught (k := 0) (gx_rV (As := [.int a1, .int a2]) (rest := [.int (0 : Int32), .ref (G.2.1 402)]) cx hX hZ hw hS (c_X10_contract l hst G a1 a2 S 1 v9 S9 hx0) (by omega) he_c0 rfl rfl gw_498 gy_X10_contract gi_X10_contract ⟨Nat.le_of_ble_eq_true rfl, Nat.le_of_ble_eq_true rfl⟩ ⟨Nat.le_of_ble_eq_true rfl, Nat.le_of_ble_eq_true rfl⟩ rfl hl.1 rfl (Nat.le_of_ble_eq_true rfl) dL_contract_5) hS (fun q9 ce H locs hce hcv hcl hS hw => ?_)
      refine vx_catch (own := RL) (name := gEn 1) (E := gEn 1) cx.2.2.2.1 [] ⟨0, 10, 13, 28⟩ [⟨0, 10, 17, 13⟩] htab (fun z hz => nomatch hz) (by decide) (by decide) (cx.2.2.2.2.ts _ gw_384) (gcast hX 1 gcm1) hce hcv hcl ?_
      refine W.eq (g2 := F0 m 13 ls [.ref q9]) rfl ?_
      refine lv_astore (lv' := [(4, .ref q9), (0, .ref (G.2.1 0)), (1, .int a1), (2, .int a2), (3, .ref (G.2.1 402))]) cx.1 cx.2.1 dL_contract_13 hl (by decide) rfl (fun ls hl => ?_)
      refine lv_iconst (v := 1) cx.1 cx.2.1 dL_contract_15 (by decide) ?_
      exact gw_ireti cx hr hlk hw hS hf dL_contract_16 (Nat.le_of_ble_eq_true rfl) (Nat.le_of_ble_eq_true rfl)
    | 2, hx0, hf =>
      have hf : some ((2 : Int32), S9) = some (r, S') := hf
      refine gx_caught (k := 1) (gx_rV (As := [.int a1, .int a2]) (rest := [.int (0 : Int32), .ref (G.2.1 402)]) cx hX hZ hw hS (c_X10_contract l hst G a1 a2 S 2 v9 S9 hx0) (by omega) he_c0 rfl rfl gw_498 gy_X10_contract gi_X10_contract ⟨Nat.le_of_ble_eq_true rfl, Nat.le_of_ble_eq_true rfl⟩ ⟨Nat.le_of_ble_eq_true rfl, Nat.le_of_ble_eq_true rfl⟩ rfl hl.1 rfl (Nat.le_of_ble_eq_true rfl) dL_contract_5) hS (fun q9 ce H locs hce hcv hcl hS hw => ?_)
      refine vx_catch (own := RL) (name := gEn 2) (E := gEn 2) cx.2.2.2.1 [⟨0, 10, 13, 28⟩] ⟨0, 10, 17, 13⟩ [] htab (List.forall_mem_cons.mpr ⟨Or.inr ⟨by decide, gEn 1, cx.2.2.2.2.ts _ gw_384, hX.2.2.1⟩, fun z hz => nomatch hz⟩) (by decide) (by decide) (cx.2.2.2.2.ts _ gw_168) (gcast hX 2 gcm2) hce hcv hcl ?_
      refine W.eq (g2 := F0 m 17 ls [.ref q9]) rfl ?_
      refine lv_astore (lv' := [(4, .ref q9), (0, .ref (G.2.1 0)), (1, .int a1), (2, .int a2), (3, .ref (G.2.1 402))]) cx.1 cx.2.1 dL_contract_17 hl (by decide) rfl (fun ls hl => ?_)
      refine lv_iconst (v := 2) cx.1 cx.2.1 dL_contract_19 (by decide) ?_
      exact gw_ireti cx hr hlk hw hS hf dL_contract_20 (Nat.le_of_ble_eq_true rfl) (Nat.le_of_ble_eq_true rfl)
    | 3, hx0, hf =>
      have hf : (none : Option (Int32 × Sg)) = some (r, S') := hf
      cases hf
    | k9 + 4, hx0, hf =>
      have hf : (none : Option (Int32 × Sg)) = some (r, S') := hf
      cases hf
theorem gyw_L_contract : Cond.codeWith yL_contract cL_contract 5 (some .int) [(0, 10, 13, 28), (0, 10, 17, 13)] ∈ wsL_law ∧ Cond.static yL_contract ∈ wsL_law ∧ (parseMethodDescriptor yL_contract.desc).map (fun d => d.parameters.length) = some 4 := ⟨gw_497, gw_496, by decide +kernel⟩
set_option maxHeartbeats 4000000 in
set_option maxRecDepth 100000 in
theorem c_L_buyTrack (l : Launch) (hst : l.stackTraces = false) (G : gG) (hO : 403 ≤ gN G) (a1 : Int32) (a2 : Int32) (S : Sg) (r : Int32) (S' : Sg) (hf : f_L_buyTrack a1 a2 S = some (r, S')) : gCw l yL_buyTrack [Cond.codeWith yL_buyTrack cL_buyTrack 5 (some .int) [(0, 10, 13, 28), (0, 10, 17, 15)]] (gRx 9 187 3 18) G [.ref (G.2.1 0), .int a1, .int a2, .ref (G.2.1 402)] S (some (.int r)) S' 3 18 := by
  refine gCw_of (by decide) (Nat.le_of_ble_eq_true rfl) ?_
  intro p e s m below meth c ls cx hX hZ htab hr hlk hw hS hl
  have hl : lv_has ls 5 [(0, .ref (G.2.1 0)), (1, .int a1), (2, .int a2), (3, .ref (G.2.1 402))] := hl
  have hN := cx.2.2.2.2.hN
  replace htab := gtab2 htab
  unfold f_L_buyTrack at hf
  refine lv_aload_n cx.1 cx.2.1 dL_buyTrack_0 rfl (lv_at hl 3 rfl) ?_
  refine lv_iconst (v := 0) cx.1 cx.2.1 dL_buyTrack_1 (by decide) ?_
  refine lv_aload_n cx.1 cx.2.1 dL_buyTrack_2 rfl (lv_at hl 0 rfl) ?_
  refine lv_iload_n cx.1 cx.2.1 dL_buyTrack_3 rfl (lv_at hl 1 rfl) ?_
  refine lv_iload_n cx.1 cx.2.1 dL_buyTrack_4 rfl (lv_at hl 2 rfl) ?_
  rcases hx0 : f_X10_buyTrack a1 a2 S with _ | ⟨k9, v9, S9⟩
  · rw [hx0] at hf; cases hf
  · rw [hx0] at hf
    match k9, hx0, hf with
    | 0, hx0, hf =>
      refine gx_ret (gx_rV (As := [.int a1, .int a2]) (rest := [.int (0 : Int32), .ref (G.2.1 402)]) cx hX hZ hw hS (c_X10_buyTrack l hst G a1 a2 S 0 v9 S9 hx0) (by omega) he_c0 rfl rfl gw_527 gy_X10_buyTrack gi_X10_buyTrack ⟨Nat.le_of_ble_eq_true rfl, Nat.le_of_ble_eq_true rfl⟩ ⟨Nat.le_of_ble_eq_true rfl, Nat.le_of_ble_eq_true rfl⟩ rfl hl.1 rfl (Nat.le_of_ble_eq_true rfl) dL_buyTrack_5) hS (fun H locs hw hS => ?_)
      refine W.eq (g2 := F0 m 8 ls [.int v9, .int (0 : Int32), .ref (G.2.1 402)]) rfl ?_
      refine lv_i2l cx.1 cx.2.1 dL_buyTrack_8 rfl ?_
      refine g_last24 (v := v9) hO cx hw hS dL_buyTrack_9 (fun H locs hw hS => ?_)
      refine lv_goto (tgt := 21) cx.1 cx.2.1 dL_buyTrack_10 (by decide) ?_
      refine lv_iconst (v := 0) cx.1 cx.2.1 dL_buyTrack_21 (by decide) ?_
      exact gw_ireti cx hr hlk hw hS hf dL_buyTrack_22 (Nat.le_of_ble_eq_true rfl) (Nat.le_of_ble_eq_true rfl)
    | 1, hx0, hf =>
      have hf : some ((1 : Int32), S9) = some (r, S') := hf
      refine gx_caught (k := 0) (gx_rV (As := [.int a1, .int a2]) (rest := [.int (0 : Int32), .ref (G.2.1 402)]) cx hX hZ hw hS (c_X10_buyTrack l hst G a1 a2 S 1 v9 S9 hx0) (by omega) he_c0 rfl rfl gw_527 gy_X10_buyTrack gi_X10_buyTrack ⟨Nat.le_of_ble_eq_true rfl, Nat.le_of_ble_eq_true rfl⟩ ⟨Nat.le_of_ble_eq_true rfl, Nat.le_of_ble_eq_true rfl⟩ rfl hl.1 rfl (Nat.le_of_ble_eq_true rfl) dL_buyTrack_5) hS (fun q9 ce H locs hce hcv hcl hS hw => ?_)
      refine vx_catch (own := RL) (name := gEn 1) (E := gEn 1) cx.2.2.2.1 [] ⟨0, 10, 13, 28⟩ [⟨0, 10, 17, 15⟩] htab (fun z hz => nomatch hz) (by decide) (by decide) (cx.2.2.2.2.ts _ gw_384) (gcast hX 1 gcm1) hce hcv hcl ?_
      refine W.eq (g2 := F0 m 13 ls [.ref q9]) rfl ?_
      refine lv_astore (lv' := [(4, .ref q9), (0, .ref (G.2.1 0)), (1, .int a1), (2, .int a2), (3, .ref (G.2.1 402))]) cx.1 cx.2.1 dL_buyTrack_13 hl (by decide) rfl (fun ls hl => ?_)
      refine lv_iconst (v := 1) cx.1 cx.2.1 dL_buyTrack_15 (by decide) ?_
      exact gw_ireti cx hr hlk hw hS hf dL_buyTrack_16 (Nat.le_of_ble_eq_true rfl) (Nat.le_of_ble_eq_true rfl)
    | 2, hx0, hf =>
      have hf : (none : Option (Int32 × Sg)) = some (r, S') := hf
      cases hf
    | 3, hx0, hf =>
      have hf : some ((2 : Int32), S9) = some (r, S') := hf
      refine gx_caught (k := 2) (gx_rV (As := [.int a1, .int a2]) (rest := [.int (0 : Int32), .ref (G.2.1 402)]) cx hX hZ hw hS (c_X10_buyTrack l hst G a1 a2 S 3 v9 S9 hx0) (by omega) he_c0 rfl rfl gw_527 gy_X10_buyTrack gi_X10_buyTrack ⟨Nat.le_of_ble_eq_true rfl, Nat.le_of_ble_eq_true rfl⟩ ⟨Nat.le_of_ble_eq_true rfl, Nat.le_of_ble_eq_true rfl⟩ rfl hl.1 rfl (Nat.le_of_ble_eq_true rfl) dL_buyTrack_5) hS (fun q9 ce H locs hce hcv hcl hS hw => ?_)
      refine vx_catch (own := RL) (name := gEn 3) (E := gEn 3) cx.2.2.2.1 [⟨0, 10, 13, 28⟩] ⟨0, 10, 17, 15⟩ [] htab (List.forall_mem_cons.mpr ⟨Or.inr ⟨by decide, gEn 1, cx.2.2.2.2.ts _ gw_384, hX.2.2.2.1⟩, fun z hz => nomatch hz⟩) (by decide) (by decide) (cx.2.2.2.2.ts _ gw_169) (gcast hX 3 gcm3) hce hcv hcl ?_
      refine W.eq (g2 := F0 m 17 ls [.ref q9]) rfl ?_
      refine lv_astore (lv' := [(4, .ref q9), (0, .ref (G.2.1 0)), (1, .int a1), (2, .int a2), (3, .ref (G.2.1 402))]) cx.1 cx.2.1 dL_buyTrack_17 hl (by decide) rfl (fun ls hl => ?_)
      refine lv_iconst (v := 2) cx.1 cx.2.1 dL_buyTrack_19 (by decide) ?_
      exact gw_ireti cx hr hlk hw hS hf dL_buyTrack_20 (Nat.le_of_ble_eq_true rfl) (Nat.le_of_ble_eq_true rfl)
    | k9 + 4, hx0, hf =>
      have hf : (none : Option (Int32 × Sg)) = some (r, S') := hf
      cases hf
theorem gyw_L_buyTrack : Cond.codeWith yL_buyTrack cL_buyTrack 5 (some .int) [(0, 10, 13, 28), (0, 10, 17, 15)] ∈ wsL_law ∧ Cond.static yL_buyTrack ∈ wsL_law ∧ (parseMethodDescriptor yL_buyTrack.desc).map (fun d => d.parameters.length) = some 4 := ⟨gw_526, gw_525, by decide +kernel⟩
set_option maxHeartbeats 4000000 in
set_option maxRecDepth 100000 in
theorem c_L_buyTrain (l : Launch) (hst : l.stackTraces = false) (G : gG) (hO : 403 ≤ gN G) (a1 : Int32) (a2 : Int32) (S : Sg) (r : Int32) (S' : Sg) (hf : f_L_buyTrain a1 a2 S = some (r, S')) : gCw l yL_buyTrain [Cond.codeWith yL_buyTrain cL_buyTrain 5 (some .int) [(0, 10, 13, 28), (0, 10, 17, 13), (0, 10, 21, 15)]] (gRx 9 187 3 18) G [.ref (G.2.1 0), .int a1, .int a2, .ref (G.2.1 402)] S (some (.int r)) S' 3 18 := by
  refine gCw_of (by decide) (Nat.le_of_ble_eq_true rfl) ?_
  intro p e s m below meth c ls cx hX hZ htab hr hlk hw hS hl
  have hl : lv_has ls 5 [(0, .ref (G.2.1 0)), (1, .int a1), (2, .int a2), (3, .ref (G.2.1 402))] := hl
  have hN := cx.2.2.2.2.hN
  replace htab := gtab3 htab
  unfold f_L_buyTrain at hf
  refine lv_aload_n cx.1 cx.2.1 dL_buyTrain_0 rfl (lv_at hl 3 rfl) ?_
  refine lv_iconst (v := 0) cx.1 cx.2.1 dL_buyTrain_1 (by decide) ?_
  refine lv_aload_n cx.1 cx.2.1 dL_buyTrain_2 rfl (lv_at hl 0 rfl) ?_
  refine lv_iload_n cx.1 cx.2.1 dL_buyTrain_3 rfl (lv_at hl 1 rfl) ?_
  refine lv_iload_n cx.1 cx.2.1 dL_buyTrain_4 rfl (lv_at hl 2 rfl) ?_
  rcases hx0 : f_X10_buyTrain a1 a2 S with _ | ⟨k9, v9, S9⟩
  · rw [hx0] at hf; cases hf
  · rw [hx0] at hf
    match k9, hx0, hf with
    | 0, hx0, hf =>
      refine gx_ret (gx_rV (As := [.int a1, .int a2]) (rest := [.int (0 : Int32), .ref (G.2.1 402)]) cx hX hZ hw hS (c_X10_buyTrain l hst G a1 a2 S 0 v9 S9 hx0) (by omega) he_c0 rfl rfl gw_585 gy_X10_buyTrain gi_X10_buyTrain ⟨Nat.le_of_ble_eq_true rfl, Nat.le_of_ble_eq_true rfl⟩ ⟨Nat.le_of_ble_eq_true rfl, Nat.le_of_ble_eq_true rfl⟩ rfl hl.1 rfl (Nat.le_of_ble_eq_true rfl) dL_buyTrain_5) hS (fun H locs hw hS => ?_)
      refine W.eq (g2 := F0 m 8 ls [.int v9, .int (0 : Int32), .ref (G.2.1 402)]) rfl ?_
      refine lv_i2l cx.1 cx.2.1 dL_buyTrain_8 rfl ?_
      refine g_last24 (v := v9) hO cx hw hS dL_buyTrain_9 (fun H locs hw hS => ?_)
      refine lv_goto (tgt := 25) cx.1 cx.2.1 dL_buyTrain_10 (by decide) ?_
      refine lv_iconst (v := 0) cx.1 cx.2.1 dL_buyTrain_25 (by decide) ?_
      exact gw_ireti cx hr hlk hw hS hf dL_buyTrain_26 (Nat.le_of_ble_eq_true rfl) (Nat.le_of_ble_eq_true rfl)
    | 1, hx0, hf =>
      have hf : some ((1 : Int32), S9) = some (r, S') := hf
      refine gx_caught (k := 0) (gx_rV (As := [.int a1, .int a2]) (rest := [.int (0 : Int32), .ref (G.2.1 402)]) cx hX hZ hw hS (c_X10_buyTrain l hst G a1 a2 S 1 v9 S9 hx0) (by omega) he_c0 rfl rfl gw_585 gy_X10_buyTrain gi_X10_buyTrain ⟨Nat.le_of_ble_eq_true rfl, Nat.le_of_ble_eq_true rfl⟩ ⟨Nat.le_of_ble_eq_true rfl, Nat.le_of_ble_eq_true rfl⟩ rfl hl.1 rfl (Nat.le_of_ble_eq_true rfl) dL_buyTrain_5) hS (fun q9 ce H locs hce hcv hcl hS hw => ?_)
      refine vx_catch (own := RL) (name := gEn 1) (E := gEn 1) cx.2.2.2.1 [] ⟨0, 10, 13, 28⟩ [⟨0, 10, 17, 13⟩, ⟨0, 10, 21, 15⟩] htab (fun z hz => nomatch hz) (by decide) (by decide) (cx.2.2.2.2.ts _ gw_384) (gcast hX 1 gcm1) hce hcv hcl ?_
      refine W.eq (g2 := F0 m 13 ls [.ref q9]) rfl ?_
      refine lv_astore (lv' := [(4, .ref q9), (0, .ref (G.2.1 0)), (1, .int a1), (2, .int a2), (3, .ref (G.2.1 402))]) cx.1 cx.2.1 dL_buyTrain_13 hl (by decide) rfl (fun ls hl => ?_)
      refine lv_iconst (v := 1) cx.1 cx.2.1 dL_buyTrain_15 (by decide) ?_
      exact gw_ireti cx hr hlk hw hS hf dL_buyTrain_16 (Nat.le_of_ble_eq_true rfl) (Nat.le_of_ble_eq_true rfl)
    | 2, hx0, hf =>
      have hf : some ((2 : Int32), S9) = some (r, S') := hf
      refine gx_caught (k := 1) (gx_rV (As := [.int a1, .int a2]) (rest := [.int (0 : Int32), .ref (G.2.1 402)]) cx hX hZ hw hS (c_X10_buyTrain l hst G a1 a2 S 2 v9 S9 hx0) (by omega) he_c0 rfl rfl gw_585 gy_X10_buyTrain gi_X10_buyTrain ⟨Nat.le_of_ble_eq_true rfl, Nat.le_of_ble_eq_true rfl⟩ ⟨Nat.le_of_ble_eq_true rfl, Nat.le_of_ble_eq_true rfl⟩ rfl hl.1 rfl (Nat.le_of_ble_eq_true rfl) dL_buyTrain_5) hS (fun q9 ce H locs hce hcv hcl hS hw => ?_)
      refine vx_catch (own := RL) (name := gEn 2) (E := gEn 2) cx.2.2.2.1 [⟨0, 10, 13, 28⟩] ⟨0, 10, 17, 13⟩ [⟨0, 10, 21, 15⟩] htab (List.forall_mem_cons.mpr ⟨Or.inr ⟨by decide, gEn 1, cx.2.2.2.2.ts _ gw_384, hX.2.2.1⟩, fun z hz => nomatch hz⟩) (by decide) (by decide) (cx.2.2.2.2.ts _ gw_168) (gcast hX 2 gcm2) hce hcv hcl ?_
      refine W.eq (g2 := F0 m 17 ls [.ref q9]) rfl ?_
      refine lv_astore (lv' := [(4, .ref q9), (0, .ref (G.2.1 0)), (1, .int a1), (2, .int a2), (3, .ref (G.2.1 402))]) cx.1 cx.2.1 dL_buyTrain_17 hl (by decide) rfl (fun ls hl => ?_)
      refine lv_iconst (v := 2) cx.1 cx.2.1 dL_buyTrain_19 (by decide) ?_
      exact gw_ireti cx hr hlk hw hS hf dL_buyTrain_20 (Nat.le_of_ble_eq_true rfl) (Nat.le_of_ble_eq_true rfl)
    | 3, hx0, hf =>
      have hf : some ((3 : Int32), S9) = some (r, S') := hf
      refine gx_caught (k := 2) (gx_rV (As := [.int a1, .int a2]) (rest := [.int (0 : Int32), .ref (G.2.1 402)]) cx hX hZ hw hS (c_X10_buyTrain l hst G a1 a2 S 3 v9 S9 hx0) (by omega) he_c0 rfl rfl gw_585 gy_X10_buyTrain gi_X10_buyTrain ⟨Nat.le_of_ble_eq_true rfl, Nat.le_of_ble_eq_true rfl⟩ ⟨Nat.le_of_ble_eq_true rfl, Nat.le_of_ble_eq_true rfl⟩ rfl hl.1 rfl (Nat.le_of_ble_eq_true rfl) dL_buyTrain_5) hS (fun q9 ce H locs hce hcv hcl hS hw => ?_)
      refine vx_catch (own := RL) (name := gEn 3) (E := gEn 3) cx.2.2.2.1 [⟨0, 10, 13, 28⟩, ⟨0, 10, 17, 13⟩] ⟨0, 10, 21, 15⟩ [] htab (List.forall_mem_cons.mpr ⟨Or.inr ⟨by decide, gEn 1, cx.2.2.2.2.ts _ gw_384, hX.2.2.2.1⟩, List.forall_mem_cons.mpr ⟨Or.inr ⟨by decide, gEn 2, cx.2.2.2.2.ts _ gw_168, hX.2.2.2.2⟩, fun z hz => nomatch hz⟩⟩) (by decide) (by decide) (cx.2.2.2.2.ts _ gw_169) (gcast hX 3 gcm3) hce hcv hcl ?_
      refine W.eq (g2 := F0 m 21 ls [.ref q9]) rfl ?_
      refine lv_astore (lv' := [(4, .ref q9), (0, .ref (G.2.1 0)), (1, .int a1), (2, .int a2), (3, .ref (G.2.1 402))]) cx.1 cx.2.1 dL_buyTrain_21 hl (by decide) rfl (fun ls hl => ?_)
      refine lv_iconst (v := 3) cx.1 cx.2.1 dL_buyTrain_23 (by decide) ?_
      exact gw_ireti cx hr hlk hw hS hf dL_buyTrain_24 (Nat.le_of_ble_eq_true rfl) (Nat.le_of_ble_eq_true rfl)
    | k9 + 4, hx0, hf =>
      have hf : (none : Option (Int32 × Sg)) = some (r, S') := hf
      cases hf
theorem gyw_L_buyTrain : Cond.codeWith yL_buyTrain cL_buyTrain 5 (some .int) [(0, 10, 13, 28), (0, 10, 17, 13), (0, 10, 21, 15)] ∈ wsL_law ∧ Cond.static yL_buyTrain ∈ wsL_law ∧ (parseMethodDescriptor yL_buyTrain.desc).map (fun d => d.parameters.length) = some 4 := ⟨gw_584, gw_583, by decide +kernel⟩
set_option maxHeartbeats 4000000 in
set_option maxRecDepth 100000 in
theorem c_L_setRent (l : Launch) (hst : l.stackTraces = false) (G : gG) (hO : 403 ≤ gN G) (a1 : Int32) (a2 : Int32) (S : Sg) (r : Int32) (S' : Sg) (hf : f_L_setRent a1 a2 S = some (r, S')) : gCw l yL_setRent [Cond.codeWith yL_setRent cL_setRent 5 (some .int) [(0, 10, 13, 28), (0, 10, 17, 13)]] (gRx 9 188 2 12) G [.ref (G.2.1 0), .int a1, .int a2, .ref (G.2.1 402)] S (some (.int r)) S' 2 12 := by
  refine gCw_of (by decide) (Nat.le_of_ble_eq_true rfl) ?_
  intro p e s m below meth c ls cx hX hZ htab hr hlk hw hS hl
  have hl : lv_has ls 5 [(0, .ref (G.2.1 0)), (1, .int a1), (2, .int a2), (3, .ref (G.2.1 402))] := hl
  have hN := cx.2.2.2.2.hN
  replace htab := gtab2 htab
  unfold f_L_setRent at hf
  refine lv_aload_n cx.1 cx.2.1 dL_setRent_0 rfl (lv_at hl 3 rfl) ?_
  refine lv_iconst (v := 0) cx.1 cx.2.1 dL_setRent_1 (by decide) ?_
  refine lv_aload_n cx.1 cx.2.1 dL_setRent_2 rfl (lv_at hl 0 rfl) ?_
  refine lv_iload_n cx.1 cx.2.1 dL_setRent_3 rfl (lv_at hl 1 rfl) ?_
  refine lv_iload_n cx.1 cx.2.1 dL_setRent_4 rfl (lv_at hl 2 rfl) ?_
  rcases hx0 : f_X10_setRent a1 a2 S with _ | ⟨k9, v9, S9⟩
  · rw [hx0] at hf; cases hf
  · rw [hx0] at hf
    match k9, hx0, hf with
    | 0, hx0, hf =>
      refine gx_ret (gx_rV (As := [.int a1, .int a2]) (rest := [.int (0 : Int32), .ref (G.2.1 402)]) cx hX hZ hw hS (c_X10_setRent l hst G a1 a2 S 0 v9 S9 hx0) (by omega) he_c0 rfl rfl gw_622 gy_X10_setRent gi_X10_setRent ⟨Nat.le_of_ble_eq_true rfl, Nat.le_of_ble_eq_true rfl⟩ ⟨Nat.le_of_ble_eq_true rfl, Nat.le_of_ble_eq_true rfl⟩ rfl hl.1 rfl (Nat.le_of_ble_eq_true rfl) dL_setRent_5) hS (fun H locs hw hS => ?_)
      refine W.eq (g2 := F0 m 8 ls [.int v9, .int (0 : Int32), .ref (G.2.1 402)]) rfl ?_
      refine lv_i2l cx.1 cx.2.1 dL_setRent_8 rfl ?_
      refine g_last24 (v := v9) hO cx hw hS dL_setRent_9 (fun H locs hw hS => ?_)
      refine lv_goto (tgt := 21) cx.1 cx.2.1 dL_setRent_10 (by decide) ?_
      refine lv_iconst (v := 0) cx.1 cx.2.1 dL_setRent_21 (by decide) ?_
      exact gw_ireti cx hr hlk hw hS hf dL_setRent_22 (Nat.le_of_ble_eq_true rfl) (Nat.le_of_ble_eq_true rfl)
    | 1, hx0, hf =>
      have hf : some ((1 : Int32), S9) = some (r, S') := hf
      refine gx_caught (k := 0) (gx_rV (As := [.int a1, .int a2]) (rest := [.int (0 : Int32), .ref (G.2.1 402)]) cx hX hZ hw hS (c_X10_setRent l hst G a1 a2 S 1 v9 S9 hx0) (by omega) he_c0 rfl rfl gw_622 gy_X10_setRent gi_X10_setRent ⟨Nat.le_of_ble_eq_true rfl, Nat.le_of_ble_eq_true rfl⟩ ⟨Nat.le_of_ble_eq_true rfl, Nat.le_of_ble_eq_true rfl⟩ rfl hl.1 rfl (Nat.le_of_ble_eq_true rfl) dL_setRent_5) hS (fun q9 ce H locs hce hcv hcl hS hw => ?_)
      refine vx_catch (own := RL) (name := gEn 1) (E := gEn 1) cx.2.2.2.1 [] ⟨0, 10, 13, 28⟩ [⟨0, 10, 17, 13⟩] htab (fun z hz => nomatch hz) (by decide) (by decide) (cx.2.2.2.2.ts _ gw_384) (gcast hX 1 gcm1) hce hcv hcl ?_
      refine W.eq (g2 := F0 m 13 ls [.ref q9]) rfl ?_
      refine lv_astore (lv' := [(4, .ref q9), (0, .ref (G.2.1 0)), (1, .int a1), (2, .int a2), (3, .ref (G.2.1 402))]) cx.1 cx.2.1 dL_setRent_13 hl (by decide) rfl (fun ls hl => ?_)
      refine lv_iconst (v := 1) cx.1 cx.2.1 dL_setRent_15 (by decide) ?_
      exact gw_ireti cx hr hlk hw hS hf dL_setRent_16 (Nat.le_of_ble_eq_true rfl) (Nat.le_of_ble_eq_true rfl)
    | 2, hx0, hf =>
      have hf : some ((2 : Int32), S9) = some (r, S') := hf
      refine gx_caught (k := 1) (gx_rV (As := [.int a1, .int a2]) (rest := [.int (0 : Int32), .ref (G.2.1 402)]) cx hX hZ hw hS (c_X10_setRent l hst G a1 a2 S 2 v9 S9 hx0) (by omega) he_c0 rfl rfl gw_622 gy_X10_setRent gi_X10_setRent ⟨Nat.le_of_ble_eq_true rfl, Nat.le_of_ble_eq_true rfl⟩ ⟨Nat.le_of_ble_eq_true rfl, Nat.le_of_ble_eq_true rfl⟩ rfl hl.1 rfl (Nat.le_of_ble_eq_true rfl) dL_setRent_5) hS (fun q9 ce H locs hce hcv hcl hS hw => ?_)
      refine vx_catch (own := RL) (name := gEn 2) (E := gEn 2) cx.2.2.2.1 [⟨0, 10, 13, 28⟩] ⟨0, 10, 17, 13⟩ [] htab (List.forall_mem_cons.mpr ⟨Or.inr ⟨by decide, gEn 1, cx.2.2.2.2.ts _ gw_384, hX.2.2.1⟩, fun z hz => nomatch hz⟩) (by decide) (by decide) (cx.2.2.2.2.ts _ gw_168) (gcast hX 2 gcm2) hce hcv hcl ?_
      refine W.eq (g2 := F0 m 17 ls [.ref q9]) rfl ?_
      refine lv_astore (lv' := [(4, .ref q9), (0, .ref (G.2.1 0)), (1, .int a1), (2, .int a2), (3, .ref (G.2.1 402))]) cx.1 cx.2.1 dL_setRent_17 hl (by decide) rfl (fun ls hl => ?_)
      refine lv_iconst (v := 2) cx.1 cx.2.1 dL_setRent_19 (by decide) ?_
      exact gw_ireti cx hr hlk hw hS hf dL_setRent_20 (Nat.le_of_ble_eq_true rfl) (Nat.le_of_ble_eq_true rfl)
    | 3, hx0, hf =>
      have hf : (none : Option (Int32 × Sg)) = some (r, S') := hf
      cases hf
    | k9 + 4, hx0, hf =>
      have hf : (none : Option (Int32 × Sg)) = some (r, S') := hf
      cases hf
theorem gyw_L_setRent : Cond.codeWith yL_setRent cL_setRent 5 (some .int) [(0, 10, 13, 28), (0, 10, 17, 13)] ∈ wsL_law ∧ Cond.static yL_setRent ∈ wsL_law ∧ (parseMethodDescriptor yL_setRent.desc).map (fun d => d.parameters.length) = some 4 := ⟨gw_621, gw_620, by decide +kernel⟩
set_option maxHeartbeats 4000000 in
set_option maxRecDepth 100000 in
theorem c_L_offer (l : Launch) (hst : l.stackTraces = false) (G : gG) (hO : 403 ≤ gN G) (a1 : Int32) (a2 : Int32) (a3 : Int32) (a4 : Int32) (S : Sg) (r : Int32) (S' : Sg) (hf : f_L_offer a1 a2 a3 a4 S = some (r, S')) : gCw l yL_offer [Cond.codeWith yL_offer cL_offer 7 (some .int) [(0, 14, 17, 28), (0, 14, 21, 13), (0, 14, 25, 15)]] (gRx 9 189 6 36) G [.ref (G.2.1 0), .int a1, .int a2, .int a3, .int a4, .ref (G.2.1 402)] S (some (.int r)) S' 6 36 := by
  refine gCw_of (by decide) (Nat.le_of_ble_eq_true rfl) ?_
  intro p e s m below meth c ls cx hX hZ htab hr hlk hw hS hl
  have hl : lv_has ls 7 [(0, .ref (G.2.1 0)), (1, .int a1), (2, .int a2), (3, .int a3), (4, .int a4), (5, .ref (G.2.1 402))] := hl
  have hN := cx.2.2.2.2.hN
  replace htab := gtab3 htab
  unfold f_L_offer at hf
  refine lv_aload cx.1 cx.2.1 dL_offer_0 (lv_at hl 5 rfl) ?_
  refine lv_iconst (v := 0) cx.1 cx.2.1 dL_offer_2 (by decide) ?_
  refine lv_aload_n cx.1 cx.2.1 dL_offer_3 rfl (lv_at hl 0 rfl) ?_
  refine lv_iload_n cx.1 cx.2.1 dL_offer_4 rfl (lv_at hl 1 rfl) ?_
  refine lv_iload_n cx.1 cx.2.1 dL_offer_5 rfl (lv_at hl 2 rfl) ?_
  refine lv_iload_n cx.1 cx.2.1 dL_offer_6 rfl (lv_at hl 3 rfl) ?_
  refine lv_iload cx.1 cx.2.1 dL_offer_7 (lv_at hl 4 rfl) ?_
  rcases hx0 : f_X10_offer a1 a2 a3 a4 S with _ | ⟨k9, v9, S9⟩
  · rw [hx0] at hf; cases hf
  · rw [hx0] at hf
    match k9, hx0, hf with
    | 0, hx0, hf =>
      refine gx_ret (gx_rV (As := [.int a1, .int a2, .int a3, .int a4]) (rest := [.int (0 : Int32), .ref (G.2.1 402)]) cx hX hZ hw hS (c_X10_offer l hst G a1 a2 a3 a4 S 0 v9 S9 hx0) (by omega) he_c0 rfl rfl gw_638 gy_X10_offer gi_X10_offer ⟨Nat.le_of_ble_eq_true rfl, Nat.le_of_ble_eq_true rfl⟩ ⟨Nat.le_of_ble_eq_true rfl, Nat.le_of_ble_eq_true rfl⟩ rfl hl.1 rfl (Nat.le_of_ble_eq_true rfl) dL_offer_9) hS (fun H locs hw hS => ?_)
      refine W.eq (g2 := F0 m 12 ls [.int v9, .int (0 : Int32), .ref (G.2.1 402)]) rfl ?_
      refine lv_i2l cx.1 cx.2.1 dL_offer_12 rfl ?_
      refine g_last24 (v := v9) hO cx hw hS dL_offer_13 (fun H locs hw hS => ?_)
      refine lv_goto (tgt := 29) cx.1 cx.2.1 dL_offer_14 (by decide) ?_
      refine lv_iconst (v := 0) cx.1 cx.2.1 dL_offer_29 (by decide) ?_
      exact gw_ireti cx hr hlk hw hS hf dL_offer_30 (Nat.le_of_ble_eq_true rfl) (Nat.le_of_ble_eq_true rfl)
    | 1, hx0, hf =>
      have hf : some ((1 : Int32), S9) = some (r, S') := hf
      refine gx_caught (k := 0) (gx_rV (As := [.int a1, .int a2, .int a3, .int a4]) (rest := [.int (0 : Int32), .ref (G.2.1 402)]) cx hX hZ hw hS (c_X10_offer l hst G a1 a2 a3 a4 S 1 v9 S9 hx0) (by omega) he_c0 rfl rfl gw_638 gy_X10_offer gi_X10_offer ⟨Nat.le_of_ble_eq_true rfl, Nat.le_of_ble_eq_true rfl⟩ ⟨Nat.le_of_ble_eq_true rfl, Nat.le_of_ble_eq_true rfl⟩ rfl hl.1 rfl (Nat.le_of_ble_eq_true rfl) dL_offer_9) hS (fun q9 ce H locs hce hcv hcl hS hw => ?_)
      refine vx_catch (own := RL) (name := gEn 1) (E := gEn 1) cx.2.2.2.1 [] ⟨0, 14, 17, 28⟩ [⟨0, 14, 21, 13⟩, ⟨0, 14, 25, 15⟩] htab (fun z hz => nomatch hz) (by decide) (by decide) (cx.2.2.2.2.ts _ gw_384) (gcast hX 1 gcm1) hce hcv hcl ?_
      refine W.eq (g2 := F0 m 17 ls [.ref q9]) rfl ?_
      refine lv_astore (lv' := [(6, .ref q9), (0, .ref (G.2.1 0)), (1, .int a1), (2, .int a2), (3, .int a3), (4, .int a4), (5, .ref (G.2.1 402))]) cx.1 cx.2.1 dL_offer_17 hl (by decide) rfl (fun ls hl => ?_)
      refine lv_iconst (v := 1) cx.1 cx.2.1 dL_offer_19 (by decide) ?_
      exact gw_ireti cx hr hlk hw hS hf dL_offer_20 (Nat.le_of_ble_eq_true rfl) (Nat.le_of_ble_eq_true rfl)
    | 2, hx0, hf =>
      have hf : some ((2 : Int32), S9) = some (r, S') := hf
      refine gx_caught (k := 1) (gx_rV (As := [.int a1, .int a2, .int a3, .int a4]) (rest := [.int (0 : Int32), .ref (G.2.1 402)]) cx hX hZ hw hS (c_X10_offer l hst G a1 a2 a3 a4 S 2 v9 S9 hx0) (by omega) he_c0 rfl rfl gw_638 gy_X10_offer gi_X10_offer ⟨Nat.le_of_ble_eq_true rfl, Nat.le_of_ble_eq_true rfl⟩ ⟨Nat.le_of_ble_eq_true rfl, Nat.le_of_ble_eq_true rfl⟩ rfl hl.1 rfl (Nat.le_of_ble_eq_true rfl) dL_offer_9) hS (fun q9 ce H locs hce hcv hcl hS hw => ?_)
      refine vx_catch (own := RL) (name := gEn 2) (E := gEn 2) cx.2.2.2.1 [⟨0, 14, 17, 28⟩] ⟨0, 14, 21, 13⟩ [⟨0, 14, 25, 15⟩] htab (List.forall_mem_cons.mpr ⟨Or.inr ⟨by decide, gEn 1, cx.2.2.2.2.ts _ gw_384, hX.2.2.1⟩, fun z hz => nomatch hz⟩) (by decide) (by decide) (cx.2.2.2.2.ts _ gw_168) (gcast hX 2 gcm2) hce hcv hcl ?_
      refine W.eq (g2 := F0 m 21 ls [.ref q9]) rfl ?_
      refine lv_astore (lv' := [(6, .ref q9), (0, .ref (G.2.1 0)), (1, .int a1), (2, .int a2), (3, .int a3), (4, .int a4), (5, .ref (G.2.1 402))]) cx.1 cx.2.1 dL_offer_21 hl (by decide) rfl (fun ls hl => ?_)
      refine lv_iconst (v := 2) cx.1 cx.2.1 dL_offer_23 (by decide) ?_
      exact gw_ireti cx hr hlk hw hS hf dL_offer_24 (Nat.le_of_ble_eq_true rfl) (Nat.le_of_ble_eq_true rfl)
    | 3, hx0, hf =>
      have hf : some ((3 : Int32), S9) = some (r, S') := hf
      refine gx_caught (k := 2) (gx_rV (As := [.int a1, .int a2, .int a3, .int a4]) (rest := [.int (0 : Int32), .ref (G.2.1 402)]) cx hX hZ hw hS (c_X10_offer l hst G a1 a2 a3 a4 S 3 v9 S9 hx0) (by omega) he_c0 rfl rfl gw_638 gy_X10_offer gi_X10_offer ⟨Nat.le_of_ble_eq_true rfl, Nat.le_of_ble_eq_true rfl⟩ ⟨Nat.le_of_ble_eq_true rfl, Nat.le_of_ble_eq_true rfl⟩ rfl hl.1 rfl (Nat.le_of_ble_eq_true rfl) dL_offer_9) hS (fun q9 ce H locs hce hcv hcl hS hw => ?_)
      refine vx_catch (own := RL) (name := gEn 3) (E := gEn 3) cx.2.2.2.1 [⟨0, 14, 17, 28⟩, ⟨0, 14, 21, 13⟩] ⟨0, 14, 25, 15⟩ [] htab (List.forall_mem_cons.mpr ⟨Or.inr ⟨by decide, gEn 1, cx.2.2.2.2.ts _ gw_384, hX.2.2.2.1⟩, List.forall_mem_cons.mpr ⟨Or.inr ⟨by decide, gEn 2, cx.2.2.2.2.ts _ gw_168, hX.2.2.2.2⟩, fun z hz => nomatch hz⟩⟩) (by decide) (by decide) (cx.2.2.2.2.ts _ gw_169) (gcast hX 3 gcm3) hce hcv hcl ?_
      refine W.eq (g2 := F0 m 25 ls [.ref q9]) rfl ?_
      refine lv_astore (lv' := [(6, .ref q9), (0, .ref (G.2.1 0)), (1, .int a1), (2, .int a2), (3, .int a3), (4, .int a4), (5, .ref (G.2.1 402))]) cx.1 cx.2.1 dL_offer_25 hl (by decide) rfl (fun ls hl => ?_)
      refine lv_iconst (v := 3) cx.1 cx.2.1 dL_offer_27 (by decide) ?_
      exact gw_ireti cx hr hlk hw hS hf dL_offer_28 (Nat.le_of_ble_eq_true rfl) (Nat.le_of_ble_eq_true rfl)
    | k9 + 4, hx0, hf =>
      have hf : (none : Option (Int32 × Sg)) = some (r, S') := hf
      cases hf
theorem gyw_L_offer : Cond.codeWith yL_offer cL_offer 7 (some .int) [(0, 14, 17, 28), (0, 14, 21, 13), (0, 14, 25, 15)] ∈ wsL_law ∧ Cond.static yL_offer ∈ wsL_law ∧ (parseMethodDescriptor yL_offer.desc).map (fun d => d.parameters.length) = some 6 := ⟨gw_637, gw_636, by decide +kernel⟩
set_option maxHeartbeats 4000000 in
set_option maxRecDepth 100000 in
theorem c_L_take (l : Launch) (hst : l.stackTraces = false) (G : gG) (hO : 403 ≤ gN G) (a1 : Int32) (a2 : Int32) (S : Sg) (r : Int32) (S' : Sg) (hf : f_L_take a1 a2 S = some (r, S')) : gCw l yL_take [Cond.codeWith yL_take cL_take 5 (some .int) [(0, 10, 13, 28), (0, 10, 17, 15)]] (gRx 9 187 3 18) G [.ref (G.2.1 0), .int a1, .int a2, .ref (G.2.1 402)] S (some (.int r)) S' 3 18 := by
  refine gCw_of (by decide) (Nat.le_of_ble_eq_true rfl) ?_
  intro p e s m below meth c ls cx hX hZ htab hr hlk hw hS hl
  have hl : lv_has ls 5 [(0, .ref (G.2.1 0)), (1, .int a1), (2, .int a2), (3, .ref (G.2.1 402))] := hl
  have hN := cx.2.2.2.2.hN
  replace htab := gtab2 htab
  unfold f_L_take at hf
  refine lv_aload_n cx.1 cx.2.1 dL_take_0 rfl (lv_at hl 3 rfl) ?_
  refine lv_iconst (v := 0) cx.1 cx.2.1 dL_take_1 (by decide) ?_
  refine lv_aload_n cx.1 cx.2.1 dL_take_2 rfl (lv_at hl 0 rfl) ?_
  refine lv_iload_n cx.1 cx.2.1 dL_take_3 rfl (lv_at hl 1 rfl) ?_
  refine lv_iload_n cx.1 cx.2.1 dL_take_4 rfl (lv_at hl 2 rfl) ?_
  rcases hx0 : f_X10_take a1 a2 S with _ | ⟨k9, v9, S9⟩
  · rw [hx0] at hf; cases hf
  · rw [hx0] at hf
    match k9, hx0, hf with
    | 0, hx0, hf =>
      refine gx_ret (gx_rV (As := [.int a1, .int a2]) (rest := [.int (0 : Int32), .ref (G.2.1 402)]) cx hX hZ hw hS (c_X10_take l hst G a1 a2 S 0 v9 S9 hx0) (by omega) he_c0 rfl rfl gw_663 gy_X10_take gi_X10_take ⟨Nat.le_of_ble_eq_true rfl, Nat.le_of_ble_eq_true rfl⟩ ⟨Nat.le_of_ble_eq_true rfl, Nat.le_of_ble_eq_true rfl⟩ rfl hl.1 rfl (Nat.le_of_ble_eq_true rfl) dL_take_5) hS (fun H locs hw hS => ?_)
      refine W.eq (g2 := F0 m 8 ls [.int v9, .int (0 : Int32), .ref (G.2.1 402)]) rfl ?_
      refine lv_i2l cx.1 cx.2.1 dL_take_8 rfl ?_
      refine g_last24 (v := v9) hO cx hw hS dL_take_9 (fun H locs hw hS => ?_)
      refine lv_goto (tgt := 21) cx.1 cx.2.1 dL_take_10 (by decide) ?_
      refine lv_iconst (v := 0) cx.1 cx.2.1 dL_take_21 (by decide) ?_
      exact gw_ireti cx hr hlk hw hS hf dL_take_22 (Nat.le_of_ble_eq_true rfl) (Nat.le_of_ble_eq_true rfl)
    | 1, hx0, hf =>
      have hf : some ((1 : Int32), S9) = some (r, S') := hf
      refine gx_caught (k := 0) (gx_rV (As := [.int a1, .int a2]) (rest := [.int (0 : Int32), .ref (G.2.1 402)]) cx hX hZ hw hS (c_X10_take l hst G a1 a2 S 1 v9 S9 hx0) (by omega) he_c0 rfl rfl gw_663 gy_X10_take gi_X10_take ⟨Nat.le_of_ble_eq_true rfl, Nat.le_of_ble_eq_true rfl⟩ ⟨Nat.le_of_ble_eq_true rfl, Nat.le_of_ble_eq_true rfl⟩ rfl hl.1 rfl (Nat.le_of_ble_eq_true rfl) dL_take_5) hS (fun q9 ce H locs hce hcv hcl hS hw => ?_)
      refine vx_catch (own := RL) (name := gEn 1) (E := gEn 1) cx.2.2.2.1 [] ⟨0, 10, 13, 28⟩ [⟨0, 10, 17, 15⟩] htab (fun z hz => nomatch hz) (by decide) (by decide) (cx.2.2.2.2.ts _ gw_384) (gcast hX 1 gcm1) hce hcv hcl ?_
      refine W.eq (g2 := F0 m 13 ls [.ref q9]) rfl ?_
      refine lv_astore (lv' := [(4, .ref q9), (0, .ref (G.2.1 0)), (1, .int a1), (2, .int a2), (3, .ref (G.2.1 402))]) cx.1 cx.2.1 dL_take_13 hl (by decide) rfl (fun ls hl => ?_)
      refine lv_iconst (v := 1) cx.1 cx.2.1 dL_take_15 (by decide) ?_
      exact gw_ireti cx hr hlk hw hS hf dL_take_16 (Nat.le_of_ble_eq_true rfl) (Nat.le_of_ble_eq_true rfl)
    | 2, hx0, hf =>
      have hf : (none : Option (Int32 × Sg)) = some (r, S') := hf
      cases hf
    | 3, hx0, hf =>
      have hf : some ((2 : Int32), S9) = some (r, S') := hf
      refine gx_caught (k := 2) (gx_rV (As := [.int a1, .int a2]) (rest := [.int (0 : Int32), .ref (G.2.1 402)]) cx hX hZ hw hS (c_X10_take l hst G a1 a2 S 3 v9 S9 hx0) (by omega) he_c0 rfl rfl gw_663 gy_X10_take gi_X10_take ⟨Nat.le_of_ble_eq_true rfl, Nat.le_of_ble_eq_true rfl⟩ ⟨Nat.le_of_ble_eq_true rfl, Nat.le_of_ble_eq_true rfl⟩ rfl hl.1 rfl (Nat.le_of_ble_eq_true rfl) dL_take_5) hS (fun q9 ce H locs hce hcv hcl hS hw => ?_)
      refine vx_catch (own := RL) (name := gEn 3) (E := gEn 3) cx.2.2.2.1 [⟨0, 10, 13, 28⟩] ⟨0, 10, 17, 15⟩ [] htab (List.forall_mem_cons.mpr ⟨Or.inr ⟨by decide, gEn 1, cx.2.2.2.2.ts _ gw_384, hX.2.2.2.1⟩, fun z hz => nomatch hz⟩) (by decide) (by decide) (cx.2.2.2.2.ts _ gw_169) (gcast hX 3 gcm3) hce hcv hcl ?_
      refine W.eq (g2 := F0 m 17 ls [.ref q9]) rfl ?_
      refine lv_astore (lv' := [(4, .ref q9), (0, .ref (G.2.1 0)), (1, .int a1), (2, .int a2), (3, .ref (G.2.1 402))]) cx.1 cx.2.1 dL_take_17 hl (by decide) rfl (fun ls hl => ?_)
      refine lv_iconst (v := 2) cx.1 cx.2.1 dL_take_19 (by decide) ?_
      exact gw_ireti cx hr hlk hw hS hf dL_take_20 (Nat.le_of_ble_eq_true rfl) (Nat.le_of_ble_eq_true rfl)
    | k9 + 4, hx0, hf =>
      have hf : (none : Option (Int32 × Sg)) = some (r, S') := hf
      cases hf
theorem gyw_L_take : Cond.codeWith yL_take cL_take 5 (some .int) [(0, 10, 13, 28), (0, 10, 17, 15)] ∈ wsL_law ∧ Cond.static yL_take ∈ wsL_law ∧ (parseMethodDescriptor yL_take.desc).map (fun d => d.parameters.length) = some 4 := ⟨gw_662, gw_661, by decide +kernel⟩
set_option maxHeartbeats 4000000 in
set_option maxRecDepth 100000 in
theorem c_L_run (l : Launch) (hst : l.stackTraces = false) (G : gG) (hO : 403 ≤ gN G) (a1 : Int32) (a2 : Int32) (S : Sg) (r : Int32) (S' : Sg) (hf : f_L_run a1 a2 S = some (r, S')) : gCw l yL_run [Cond.codeWith yL_run cL_run 5 (some .int) [(0, 10, 13, 28), (0, 10, 17, 15)]] (gRx 10 187 3 18) G [.ref (G.2.1 0), .int a1, .int a2, .ref (G.2.1 402)] S (some (.int r)) S' 3 18 := by
  refine gCw_of (by decide) (Nat.le_of_ble_eq_true rfl) ?_
  intro p e s m below meth c ls cx hX hZ htab hr hlk hw hS hl
  have hl : lv_has ls 5 [(0, .ref (G.2.1 0)), (1, .int a1), (2, .int a2), (3, .ref (G.2.1 402))] := hl
  have hN := cx.2.2.2.2.hN
  replace htab := gtab2 htab
  unfold f_L_run at hf
  refine lv_aload_n cx.1 cx.2.1 dL_run_0 rfl (lv_at hl 3 rfl) ?_
  refine lv_iconst (v := 0) cx.1 cx.2.1 dL_run_1 (by decide) ?_
  refine lv_aload_n cx.1 cx.2.1 dL_run_2 rfl (lv_at hl 0 rfl) ?_
  refine lv_iload_n cx.1 cx.2.1 dL_run_3 rfl (lv_at hl 1 rfl) ?_
  refine lv_iload_n cx.1 cx.2.1 dL_run_4 rfl (lv_at hl 2 rfl) ?_
  rcases hx0 : f_X10_run a1 a2 S with _ | ⟨k9, v9, S9⟩
  · rw [hx0] at hf; cases hf
  · rw [hx0] at hf
    match k9, hx0, hf with
    | 0, hx0, hf =>
      refine gx_ret (gx_rV (As := [.int a1, .int a2]) (rest := [.int (0 : Int32), .ref (G.2.1 402)]) cx hX hZ hw hS (c_X10_run l hst G a1 a2 S 0 v9 S9 hx0) (by omega) he_c0 rfl rfl gw_693 gy_X10_run gi_X10_run ⟨Nat.le_of_ble_eq_true rfl, Nat.le_of_ble_eq_true rfl⟩ ⟨Nat.le_of_ble_eq_true rfl, Nat.le_of_ble_eq_true rfl⟩ rfl hl.1 rfl (Nat.le_of_ble_eq_true rfl) dL_run_5) hS (fun H locs hw hS => ?_)
      refine W.eq (g2 := F0 m 8 ls [.int v9, .int (0 : Int32), .ref (G.2.1 402)]) rfl ?_
      refine lv_i2l cx.1 cx.2.1 dL_run_8 rfl ?_
      refine g_last24 (v := v9) hO cx hw hS dL_run_9 (fun H locs hw hS => ?_)
      refine lv_goto (tgt := 21) cx.1 cx.2.1 dL_run_10 (by decide) ?_
      refine lv_iconst (v := 0) cx.1 cx.2.1 dL_run_21 (by decide) ?_
      exact gw_ireti cx hr hlk hw hS hf dL_run_22 (Nat.le_of_ble_eq_true rfl) (Nat.le_of_ble_eq_true rfl)
    | 1, hx0, hf =>
      have hf : some ((1 : Int32), S9) = some (r, S') := hf
      refine gx_caught (k := 0) (gx_rV (As := [.int a1, .int a2]) (rest := [.int (0 : Int32), .ref (G.2.1 402)]) cx hX hZ hw hS (c_X10_run l hst G a1 a2 S 1 v9 S9 hx0) (by omega) he_c0 rfl rfl gw_693 gy_X10_run gi_X10_run ⟨Nat.le_of_ble_eq_true rfl, Nat.le_of_ble_eq_true rfl⟩ ⟨Nat.le_of_ble_eq_true rfl, Nat.le_of_ble_eq_true rfl⟩ rfl hl.1 rfl (Nat.le_of_ble_eq_true rfl) dL_run_5) hS (fun q9 ce H locs hce hcv hcl hS hw => ?_)
      refine vx_catch (own := RL) (name := gEn 1) (E := gEn 1) cx.2.2.2.1 [] ⟨0, 10, 13, 28⟩ [⟨0, 10, 17, 15⟩] htab (fun z hz => nomatch hz) (by decide) (by decide) (cx.2.2.2.2.ts _ gw_384) (gcast hX 1 gcm1) hce hcv hcl ?_
      refine W.eq (g2 := F0 m 13 ls [.ref q9]) rfl ?_
      refine lv_astore (lv' := [(4, .ref q9), (0, .ref (G.2.1 0)), (1, .int a1), (2, .int a2), (3, .ref (G.2.1 402))]) cx.1 cx.2.1 dL_run_13 hl (by decide) rfl (fun ls hl => ?_)
      refine lv_iconst (v := 1) cx.1 cx.2.1 dL_run_15 (by decide) ?_
      exact gw_ireti cx hr hlk hw hS hf dL_run_16 (Nat.le_of_ble_eq_true rfl) (Nat.le_of_ble_eq_true rfl)
    | 2, hx0, hf =>
      have hf : (none : Option (Int32 × Sg)) = some (r, S') := hf
      cases hf
    | 3, hx0, hf =>
      have hf : some ((2 : Int32), S9) = some (r, S') := hf
      refine gx_caught (k := 2) (gx_rV (As := [.int a1, .int a2]) (rest := [.int (0 : Int32), .ref (G.2.1 402)]) cx hX hZ hw hS (c_X10_run l hst G a1 a2 S 3 v9 S9 hx0) (by omega) he_c0 rfl rfl gw_693 gy_X10_run gi_X10_run ⟨Nat.le_of_ble_eq_true rfl, Nat.le_of_ble_eq_true rfl⟩ ⟨Nat.le_of_ble_eq_true rfl, Nat.le_of_ble_eq_true rfl⟩ rfl hl.1 rfl (Nat.le_of_ble_eq_true rfl) dL_run_5) hS (fun q9 ce H locs hce hcv hcl hS hw => ?_)
      refine vx_catch (own := RL) (name := gEn 3) (E := gEn 3) cx.2.2.2.1 [⟨0, 10, 13, 28⟩] ⟨0, 10, 17, 15⟩ [] htab (List.forall_mem_cons.mpr ⟨Or.inr ⟨by decide, gEn 1, cx.2.2.2.2.ts _ gw_384, hX.2.2.2.1⟩, fun z hz => nomatch hz⟩) (by decide) (by decide) (cx.2.2.2.2.ts _ gw_169) (gcast hX 3 gcm3) hce hcv hcl ?_
      refine W.eq (g2 := F0 m 17 ls [.ref q9]) rfl ?_
      refine lv_astore (lv' := [(4, .ref q9), (0, .ref (G.2.1 0)), (1, .int a1), (2, .int a2), (3, .ref (G.2.1 402))]) cx.1 cx.2.1 dL_run_17 hl (by decide) rfl (fun ls hl => ?_)
      refine lv_iconst (v := 2) cx.1 cx.2.1 dL_run_19 (by decide) ?_
      exact gw_ireti cx hr hlk hw hS hf dL_run_20 (Nat.le_of_ble_eq_true rfl) (Nat.le_of_ble_eq_true rfl)
    | k9 + 4, hx0, hf =>
      have hf : (none : Option (Int32 × Sg)) = some (r, S') := hf
      cases hf
theorem gyw_L_run : Cond.codeWith yL_run cL_run 5 (some .int) [(0, 10, 13, 28), (0, 10, 17, 15)] ∈ wsL_law ∧ Cond.static yL_run ∈ wsL_law ∧ (parseMethodDescriptor yL_run.desc).map (fun d => d.parameters.length) = some 4 := ⟨gw_692, gw_691, by decide +kernel⟩
set_option maxHeartbeats 4000000 in
set_option maxRecDepth 100000 in
theorem c_L_undo (l : Launch) (hst : l.stackTraces = false) (G : gG) (hO : 403 ≤ gN G) (S : Sg) (r : Int32) (S' : Sg) (hf : f_L_undo S = some (r, S')) : gCw l yL_undo [Cond.codeWith yL_undo cL_undo 3 (some .int) [(0, 8, 11, 15)]] (gRx 8 185 1 6) G [.ref (G.2.1 0), .ref (G.2.1 402)] S (some (.int r)) S' 1 6 := by
  refine gCw_of (by decide) (Nat.le_of_ble_eq_true rfl) ?_
  intro p e s m below meth c ls cx hX hZ htab hr hlk hw hS hl
  have hl : lv_has ls 3 [(0, .ref (G.2.1 0)), (1, .ref (G.2.1 402))] := hl
  have hN := cx.2.2.2.2.hN
  replace htab := gtab1 htab
  unfold f_L_undo at hf
  refine lv_aload_n cx.1 cx.2.1 dL_undo_0 rfl (lv_at hl 1 rfl) ?_
  refine lv_iconst (v := 0) cx.1 cx.2.1 dL_undo_1 (by decide) ?_
  refine lv_aload_n cx.1 cx.2.1 dL_undo_2 rfl (lv_at hl 0 rfl) ?_
  rcases hx0 : f_X10_undo S with _ | ⟨k9, v9, S9⟩
  · rw [hx0] at hf; cases hf
  · rw [hx0] at hf
    match k9, hx0, hf with
    | 0, hx0, hf =>
      refine gx_ret (gx_rV (As := []) (rest := [.int (0 : Int32), .ref (G.2.1 402)]) cx hX hZ hw hS (c_X10_undo l hst G S 0 v9 S9 hx0) (by omega) he_c0 rfl rfl gw_893 gy_X10_undo gi_X10_undo ⟨Nat.le_of_ble_eq_true rfl, Nat.le_of_ble_eq_true rfl⟩ ⟨Nat.le_of_ble_eq_true rfl, Nat.le_of_ble_eq_true rfl⟩ rfl hl.1 rfl (Nat.le_of_ble_eq_true rfl) dL_undo_3) hS (fun H locs hw hS => ?_)
      refine W.eq (g2 := F0 m 6 ls [.int v9, .int (0 : Int32), .ref (G.2.1 402)]) rfl ?_
      refine lv_i2l cx.1 cx.2.1 dL_undo_6 rfl ?_
      refine g_last24 (v := v9) hO cx hw hS dL_undo_7 (fun H locs hw hS => ?_)
      refine lv_goto (tgt := 14) cx.1 cx.2.1 dL_undo_8 (by decide) ?_
      refine lv_iconst (v := 0) cx.1 cx.2.1 dL_undo_14 (by decide) ?_
      exact gw_ireti cx hr hlk hw hS hf dL_undo_15 (Nat.le_of_ble_eq_true rfl) (Nat.le_of_ble_eq_true rfl)
    | 1, hx0, hf =>
      have hf : (none : Option (Int32 × Sg)) = some (r, S') := hf
      cases hf
    | 2, hx0, hf =>
      have hf : (none : Option (Int32 × Sg)) = some (r, S') := hf
      cases hf
    | 3, hx0, hf =>
      have hf : some ((1 : Int32), S9) = some (r, S') := hf
      refine gx_caught (k := 2) (gx_rV (As := []) (rest := [.int (0 : Int32), .ref (G.2.1 402)]) cx hX hZ hw hS (c_X10_undo l hst G S 3 v9 S9 hx0) (by omega) he_c0 rfl rfl gw_893 gy_X10_undo gi_X10_undo ⟨Nat.le_of_ble_eq_true rfl, Nat.le_of_ble_eq_true rfl⟩ ⟨Nat.le_of_ble_eq_true rfl, Nat.le_of_ble_eq_true rfl⟩ rfl hl.1 rfl (Nat.le_of_ble_eq_true rfl) dL_undo_3) hS (fun q9 ce H locs hce hcv hcl hS hw => ?_)
      refine vx_catch (own := RL) (name := gEn 3) (E := gEn 3) cx.2.2.2.1 [] ⟨0, 8, 11, 15⟩ [] htab (fun z hz => nomatch hz) (by decide) (by decide) (cx.2.2.2.2.ts _ gw_169) (gcast hX 3 gcm3) hce hcv hcl ?_
      refine W.eq (g2 := F0 m 11 ls [.ref q9]) rfl ?_
      refine lv_astore_n (lv' := [(2, .ref q9), (0, .ref (G.2.1 0)), (1, .ref (G.2.1 402))]) cx.1 cx.2.1 dL_undo_11 rfl hl (by decide) rfl (fun ls hl => ?_)
      refine lv_iconst (v := 1) cx.1 cx.2.1 dL_undo_12 (by decide) ?_
      exact gw_ireti cx hr hlk hw hS hf dL_undo_13 (Nat.le_of_ble_eq_true rfl) (Nat.le_of_ble_eq_true rfl)
    | k9 + 4, hx0, hf =>
      have hf : (none : Option (Int32 × Sg)) = some (r, S') := hf
      cases hf
theorem gyw_L_undo : Cond.codeWith yL_undo cL_undo 3 (some .int) [(0, 8, 11, 15)] ∈ wsL_law ∧ Cond.static yL_undo ∈ wsL_law ∧ (parseMethodDescriptor yL_undo.desc).map (fun d => d.parameters.length) = some 2 := ⟨gw_892, gw_891, by decide +kernel⟩
set_option maxHeartbeats 4000000 in
set_option maxRecDepth 100000 in
theorem c_L_way (l : Launch) (hst : l.stackTraces = false) (G : gG) (hO : 403 ≤ gN G) (a1 : Int32) (a2 : Int32) (a3 : Int32) (a4 : Int32) (a5 : Int32) (S : Sg) (r : Int32) (S' : Sg) (hf : f_L_way a1 a2 a3 a4 a5 S = some (r, S')) : gCw l yL_way [Cond.codeWith yL_way cL_way 8 (some .int) [(0, 16, 19, 28), (0, 16, 23, 13)]] (gRx 9 157 6 36) G [.ref (G.2.1 0), .int a1, .int a2, .int a3, .int a4, .int a5, .ref (G.2.1 402)] S (some (.int r)) S' 6 36 := by
  refine gCw_of (by decide) (Nat.le_of_ble_eq_true rfl) ?_
  intro p e s m below meth c ls cx hX hZ htab hr hlk hw hS hl
  have hl : lv_has ls 8 [(0, .ref (G.2.1 0)), (1, .int a1), (2, .int a2), (3, .int a3), (4, .int a4), (5, .int a5), (6, .ref (G.2.1 402))] := hl
  have hN := cx.2.2.2.2.hN
  replace htab := gtab2 htab
  unfold f_L_way at hf
  refine lv_aload cx.1 cx.2.1 dL_way_0 (lv_at hl 6 rfl) ?_
  refine lv_iconst (v := 0) cx.1 cx.2.1 dL_way_2 (by decide) ?_
  refine lv_aload_n cx.1 cx.2.1 dL_way_3 rfl (lv_at hl 0 rfl) ?_
  refine lv_iload_n cx.1 cx.2.1 dL_way_4 rfl (lv_at hl 1 rfl) ?_
  refine lv_iload_n cx.1 cx.2.1 dL_way_5 rfl (lv_at hl 2 rfl) ?_
  refine lv_iload_n cx.1 cx.2.1 dL_way_6 rfl (lv_at hl 3 rfl) ?_
  refine lv_iload cx.1 cx.2.1 dL_way_7 (lv_at hl 4 rfl) ?_
  refine lv_iload cx.1 cx.2.1 dL_way_9 (lv_at hl 5 rfl) ?_
  rcases hx0 : f_X10_way a1 a2 a3 a4 a5 S with _ | ⟨k9, v9, S9⟩
  · rw [hx0] at hf; cases hf
  · rw [hx0] at hf
    match k9, hx0, hf with
    | 0, hx0, hf =>
      refine gx_ret (gx_rV (As := [.int a1, .int a2, .int a3, .int a4, .int a5]) (rest := [.int (0 : Int32), .ref (G.2.1 402)]) cx hX hZ hw hS (c_X10_way l hst G a1 a2 a3 a4 a5 S 0 v9 S9 hx0) (by omega) he_c0 rfl rfl gw_908 gy_X10_way gi_X10_way ⟨Nat.le_of_ble_eq_true rfl, Nat.le_of_ble_eq_true rfl⟩ ⟨Nat.le_of_ble_eq_true rfl, Nat.le_of_ble_eq_true rfl⟩ rfl hl.1 rfl (Nat.le_of_ble_eq_true rfl) dL_way_11) hS (fun H locs hw hS => ?_)
      refine W.eq (g2 := F0 m 14 ls [.int v9, .int (0 : Int32), .ref (G.2.1 402)]) rfl ?_
      refine lv_i2l cx.1 cx.2.1 dL_way_14 rfl ?_
      refine g_last24 (v := v9) hO cx hw hS dL_way_15 (fun H locs hw hS => ?_)
      refine lv_goto (tgt := 27) cx.1 cx.2.1 dL_way_16 (by decide) ?_
      refine lv_iconst (v := 0) cx.1 cx.2.1 dL_way_27 (by decide) ?_
      exact gw_ireti cx hr hlk hw hS hf dL_way_28 (Nat.le_of_ble_eq_true rfl) (Nat.le_of_ble_eq_true rfl)
    | 1, hx0, hf =>
      have hf : some ((1 : Int32), S9) = some (r, S') := hf
      refine gx_caught (k := 0) (gx_rV (As := [.int a1, .int a2, .int a3, .int a4, .int a5]) (rest := [.int (0 : Int32), .ref (G.2.1 402)]) cx hX hZ hw hS (c_X10_way l hst G a1 a2 a3 a4 a5 S 1 v9 S9 hx0) (by omega) he_c0 rfl rfl gw_908 gy_X10_way gi_X10_way ⟨Nat.le_of_ble_eq_true rfl, Nat.le_of_ble_eq_true rfl⟩ ⟨Nat.le_of_ble_eq_true rfl, Nat.le_of_ble_eq_true rfl⟩ rfl hl.1 rfl (Nat.le_of_ble_eq_true rfl) dL_way_11) hS (fun q9 ce H locs hce hcv hcl hS hw => ?_)
      refine vx_catch (own := RL) (name := gEn 1) (E := gEn 1) cx.2.2.2.1 [] ⟨0, 16, 19, 28⟩ [⟨0, 16, 23, 13⟩] htab (fun z hz => nomatch hz) (by decide) (by decide) (cx.2.2.2.2.ts _ gw_384) (gcast hX 1 gcm1) hce hcv hcl ?_
      refine W.eq (g2 := F0 m 19 ls [.ref q9]) rfl ?_
      refine lv_astore (lv' := [(7, .ref q9), (0, .ref (G.2.1 0)), (1, .int a1), (2, .int a2), (3, .int a3), (4, .int a4), (5, .int a5), (6, .ref (G.2.1 402))]) cx.1 cx.2.1 dL_way_19 hl (by decide) rfl (fun ls hl => ?_)
      refine lv_iconst (v := 1) cx.1 cx.2.1 dL_way_21 (by decide) ?_
      exact gw_ireti cx hr hlk hw hS hf dL_way_22 (Nat.le_of_ble_eq_true rfl) (Nat.le_of_ble_eq_true rfl)
    | 2, hx0, hf =>
      have hf : some ((2 : Int32), S9) = some (r, S') := hf
      refine gx_caught (k := 1) (gx_rV (As := [.int a1, .int a2, .int a3, .int a4, .int a5]) (rest := [.int (0 : Int32), .ref (G.2.1 402)]) cx hX hZ hw hS (c_X10_way l hst G a1 a2 a3 a4 a5 S 2 v9 S9 hx0) (by omega) he_c0 rfl rfl gw_908 gy_X10_way gi_X10_way ⟨Nat.le_of_ble_eq_true rfl, Nat.le_of_ble_eq_true rfl⟩ ⟨Nat.le_of_ble_eq_true rfl, Nat.le_of_ble_eq_true rfl⟩ rfl hl.1 rfl (Nat.le_of_ble_eq_true rfl) dL_way_11) hS (fun q9 ce H locs hce hcv hcl hS hw => ?_)
      refine vx_catch (own := RL) (name := gEn 2) (E := gEn 2) cx.2.2.2.1 [⟨0, 16, 19, 28⟩] ⟨0, 16, 23, 13⟩ [] htab (List.forall_mem_cons.mpr ⟨Or.inr ⟨by decide, gEn 1, cx.2.2.2.2.ts _ gw_384, hX.2.2.1⟩, fun z hz => nomatch hz⟩) (by decide) (by decide) (cx.2.2.2.2.ts _ gw_168) (gcast hX 2 gcm2) hce hcv hcl ?_
      refine W.eq (g2 := F0 m 23 ls [.ref q9]) rfl ?_
      refine lv_astore (lv' := [(7, .ref q9), (0, .ref (G.2.1 0)), (1, .int a1), (2, .int a2), (3, .int a3), (4, .int a4), (5, .int a5), (6, .ref (G.2.1 402))]) cx.1 cx.2.1 dL_way_23 hl (by decide) rfl (fun ls hl => ?_)
      refine lv_iconst (v := 2) cx.1 cx.2.1 dL_way_25 (by decide) ?_
      exact gw_ireti cx hr hlk hw hS hf dL_way_26 (Nat.le_of_ble_eq_true rfl) (Nat.le_of_ble_eq_true rfl)
    | 3, hx0, hf =>
      have hf : (none : Option (Int32 × Sg)) = some (r, S') := hf
      cases hf
    | k9 + 4, hx0, hf =>
      have hf : (none : Option (Int32 × Sg)) = some (r, S') := hf
      cases hf
theorem gyw_L_way : Cond.codeWith yL_way cL_way 8 (some .int) [(0, 16, 19, 28), (0, 16, 23, 13)] ∈ wsL_law ∧ Cond.static yL_way ∈ wsL_law ∧ (parseMethodDescriptor yL_way.desc).map (fun d => d.parameters.length) = some 7 := ⟨gw_907, gw_906, by decide +kernel⟩
set_option maxHeartbeats 4000000 in
set_option maxRecDepth 100000 in
theorem c_L_whyNot (l : Launch) (hst : l.stackTraces = false) (G : gG) (hO : 403 ≤ gN G) (a1 : Int32) (a2 : Int32) (S : Sg) (r : Int32) (S' : Sg) (hf : f_L_whyNot a1 a2 S = some (r, S')) : gCw l yL_whyNot [Cond.codeWith yL_whyNot cL_whyNot 5 (some .int) [(0, 10, 13, 28)]] (gRx 10 176 2 12) G [.ref (G.2.1 0), .int a1, .int a2, .ref (G.2.1 402)] S (some (.int r)) S' 2 12 := by
  refine gCw_of (by decide) (Nat.le_of_ble_eq_true rfl) ?_
  intro p e s m below meth c ls cx hX hZ htab hr hlk hw hS hl
  have hl : lv_has ls 5 [(0, .ref (G.2.1 0)), (1, .int a1), (2, .int a2), (3, .ref (G.2.1 402))] := hl
  have hN := cx.2.2.2.2.hN
  replace htab := gtab1 htab
  unfold f_L_whyNot at hf
  refine lv_aload_n cx.1 cx.2.1 dL_whyNot_0 rfl (lv_at hl 3 rfl) ?_
  refine lv_iconst (v := 0) cx.1 cx.2.1 dL_whyNot_1 (by decide) ?_
  refine lv_aload_n cx.1 cx.2.1 dL_whyNot_2 rfl (lv_at hl 0 rfl) ?_
  refine lv_iload_n cx.1 cx.2.1 dL_whyNot_3 rfl (lv_at hl 1 rfl) ?_
  refine lv_iload_n cx.1 cx.2.1 dL_whyNot_4 rfl (lv_at hl 2 rfl) ?_
  rcases hx0 : f_X10_whyNot a1 a2 S with _ | ⟨k9, v9, S9⟩
  · rw [hx0] at hf; cases hf
  · rw [hx0] at hf
    match k9, hx0, hf with
    | 0, hx0, hf =>
      refine gx_ret (gx_rV (As := [.int a1, .int a2]) (rest := [.int (0 : Int32), .ref (G.2.1 402)]) cx hX hZ hw hS (c_X10_whyNot l hst G a1 a2 S 0 v9 S9 hx0) (by omega) he_c0 rfl rfl gw_921 gy_X10_whyNot gi_X10_whyNot ⟨Nat.le_of_ble_eq_true rfl, Nat.le_of_ble_eq_true rfl⟩ ⟨Nat.le_of_ble_eq_true rfl, Nat.le_of_ble_eq_true rfl⟩ rfl hl.1 rfl (Nat.le_of_ble_eq_true rfl) dL_whyNot_5) hS (fun H locs hw hS => ?_)
      refine W.eq (g2 := F0 m 8 ls [.int v9, .int (0 : Int32), .ref (G.2.1 402)]) rfl ?_
      refine lv_i2l cx.1 cx.2.1 dL_whyNot_8 rfl ?_
      refine g_last24 (v := v9) hO cx hw hS dL_whyNot_9 (fun H locs hw hS => ?_)
      refine lv_goto (tgt := 17) cx.1 cx.2.1 dL_whyNot_10 (by decide) ?_
      refine lv_iconst (v := 0) cx.1 cx.2.1 dL_whyNot_17 (by decide) ?_
      exact gw_ireti cx hr hlk hw hS hf dL_whyNot_18 (Nat.le_of_ble_eq_true rfl) (Nat.le_of_ble_eq_true rfl)
    | 1, hx0, hf =>
      have hf : some ((1 : Int32), S9) = some (r, S') := hf
      refine gx_caught (k := 0) (gx_rV (As := [.int a1, .int a2]) (rest := [.int (0 : Int32), .ref (G.2.1 402)]) cx hX hZ hw hS (c_X10_whyNot l hst G a1 a2 S 1 v9 S9 hx0) (by omega) he_c0 rfl rfl gw_921 gy_X10_whyNot gi_X10_whyNot ⟨Nat.le_of_ble_eq_true rfl, Nat.le_of_ble_eq_true rfl⟩ ⟨Nat.le_of_ble_eq_true rfl, Nat.le_of_ble_eq_true rfl⟩ rfl hl.1 rfl (Nat.le_of_ble_eq_true rfl) dL_whyNot_5) hS (fun q9 ce H locs hce hcv hcl hS hw => ?_)
      refine vx_catch (own := RL) (name := gEn 1) (E := gEn 1) cx.2.2.2.1 [] ⟨0, 10, 13, 28⟩ [] htab (fun z hz => nomatch hz) (by decide) (by decide) (cx.2.2.2.2.ts _ gw_384) (gcast hX 1 gcm1) hce hcv hcl ?_
      refine W.eq (g2 := F0 m 13 ls [.ref q9]) rfl ?_
      refine lv_astore (lv' := [(4, .ref q9), (0, .ref (G.2.1 0)), (1, .int a1), (2, .int a2), (3, .ref (G.2.1 402))]) cx.1 cx.2.1 dL_whyNot_13 hl (by decide) rfl (fun ls hl => ?_)
      refine lv_iconst (v := 1) cx.1 cx.2.1 dL_whyNot_15 (by decide) ?_
      exact gw_ireti cx hr hlk hw hS hf dL_whyNot_16 (Nat.le_of_ble_eq_true rfl) (Nat.le_of_ble_eq_true rfl)
    | 2, hx0, hf =>
      have hf : (none : Option (Int32 × Sg)) = some (r, S') := hf
      cases hf
    | 3, hx0, hf =>
      have hf : (none : Option (Int32 × Sg)) = some (r, S') := hf
      cases hf
    | k9 + 4, hx0, hf =>
      have hf : (none : Option (Int32 × Sg)) = some (r, S') := hf
      cases hf
theorem gyw_L_whyNot : Cond.codeWith yL_whyNot cL_whyNot 5 (some .int) [(0, 10, 13, 28)] ∈ wsL_law ∧ Cond.static yL_whyNot ∈ wsL_law ∧ (parseMethodDescriptor yL_whyNot.desc).map (fun d => d.parameters.length) = some 4 := ⟨gw_920, gw_919, by decide +kernel⟩
set_option maxHeartbeats 4000000 in
set_option maxRecDepth 100000 in
theorem c_L_levelFor (l : Launch) (hst : l.stackTraces = false) (G : gG) (hO : 403 ≤ gN G) (a1 : Int32) (a2 : Int32) (S : Sg) (r : Int32) (S' : Sg) (hf : f_L_levelFor a1 a2 S = some (r, S')) : gCw l yL_levelFor [Cond.codeWith yL_levelFor cL_levelFor 5 (some .int) [(0, 10, 13, 28)]] (gRx 9 153 2 12) G [.ref (G.2.1 0), .int a1, .int a2, .ref (G.2.1 402)] S (some (.int r)) S' 2 12 := by
  refine gCw_of (by decide) (Nat.le_of_ble_eq_true rfl) ?_
  intro p e s m below meth c ls cx hX hZ htab hr hlk hw hS hl
  have hl : lv_has ls 5 [(0, .ref (G.2.1 0)), (1, .int a1), (2, .int a2), (3, .ref (G.2.1 402))] := hl
  have hN := cx.2.2.2.2.hN
  replace htab := gtab1 htab
  unfold f_L_levelFor at hf
  refine lv_aload_n cx.1 cx.2.1 dL_levelFor_0 rfl (lv_at hl 3 rfl) ?_
  refine lv_iconst (v := 0) cx.1 cx.2.1 dL_levelFor_1 (by decide) ?_
  refine lv_aload_n cx.1 cx.2.1 dL_levelFor_2 rfl (lv_at hl 0 rfl) ?_
  refine lv_iload_n cx.1 cx.2.1 dL_levelFor_3 rfl (lv_at hl 1 rfl) ?_
  refine lv_iload_n cx.1 cx.2.1 dL_levelFor_4 rfl (lv_at hl 2 rfl) ?_
  rcases hx0 : f_X10_levelFor a1 a2 S with _ | ⟨k9, v9, S9⟩
  · rw [hx0] at hf; cases hf
  · rw [hx0] at hf
    match k9, hx0, hf with
    | 0, hx0, hf =>
      refine gx_ret (gx_rV (As := [.int a1, .int a2]) (rest := [.int (0 : Int32), .ref (G.2.1 402)]) cx hX hZ hw hS (c_X10_levelFor l hst G a1 a2 S 0 v9 S9 hx0) (by omega) he_c0 rfl rfl gw_932 gy_X10_levelFor gi_X10_levelFor ⟨Nat.le_of_ble_eq_true rfl, Nat.le_of_ble_eq_true rfl⟩ ⟨Nat.le_of_ble_eq_true rfl, Nat.le_of_ble_eq_true rfl⟩ rfl hl.1 rfl (Nat.le_of_ble_eq_true rfl) dL_levelFor_5) hS (fun H locs hw hS => ?_)
      refine W.eq (g2 := F0 m 8 ls [.int v9, .int (0 : Int32), .ref (G.2.1 402)]) rfl ?_
      refine lv_i2l cx.1 cx.2.1 dL_levelFor_8 rfl ?_
      refine g_last24 (v := v9) hO cx hw hS dL_levelFor_9 (fun H locs hw hS => ?_)
      refine lv_goto (tgt := 17) cx.1 cx.2.1 dL_levelFor_10 (by decide) ?_
      refine lv_iconst (v := 0) cx.1 cx.2.1 dL_levelFor_17 (by decide) ?_
      exact gw_ireti cx hr hlk hw hS hf dL_levelFor_18 (Nat.le_of_ble_eq_true rfl) (Nat.le_of_ble_eq_true rfl)
    | 1, hx0, hf =>
      have hf : some ((1 : Int32), S9) = some (r, S') := hf
      refine gx_caught (k := 0) (gx_rV (As := [.int a1, .int a2]) (rest := [.int (0 : Int32), .ref (G.2.1 402)]) cx hX hZ hw hS (c_X10_levelFor l hst G a1 a2 S 1 v9 S9 hx0) (by omega) he_c0 rfl rfl gw_932 gy_X10_levelFor gi_X10_levelFor ⟨Nat.le_of_ble_eq_true rfl, Nat.le_of_ble_eq_true rfl⟩ ⟨Nat.le_of_ble_eq_true rfl, Nat.le_of_ble_eq_true rfl⟩ rfl hl.1 rfl (Nat.le_of_ble_eq_true rfl) dL_levelFor_5) hS (fun q9 ce H locs hce hcv hcl hS hw => ?_)
      refine vx_catch (own := RL) (name := gEn 1) (E := gEn 1) cx.2.2.2.1 [] ⟨0, 10, 13, 28⟩ [] htab (fun z hz => nomatch hz) (by decide) (by decide) (cx.2.2.2.2.ts _ gw_384) (gcast hX 1 gcm1) hce hcv hcl ?_
      refine W.eq (g2 := F0 m 13 ls [.ref q9]) rfl ?_
      refine lv_astore (lv' := [(4, .ref q9), (0, .ref (G.2.1 0)), (1, .int a1), (2, .int a2), (3, .ref (G.2.1 402))]) cx.1 cx.2.1 dL_levelFor_13 hl (by decide) rfl (fun ls hl => ?_)
      refine lv_iconst (v := 1) cx.1 cx.2.1 dL_levelFor_15 (by decide) ?_
      exact gw_ireti cx hr hlk hw hS hf dL_levelFor_16 (Nat.le_of_ble_eq_true rfl) (Nat.le_of_ble_eq_true rfl)
    | 2, hx0, hf =>
      have hf : (none : Option (Int32 × Sg)) = some (r, S') := hf
      cases hf
    | 3, hx0, hf =>
      have hf : (none : Option (Int32 × Sg)) = some (r, S') := hf
      cases hf
    | k9 + 4, hx0, hf =>
      have hf : (none : Option (Int32 × Sg)) = some (r, S') := hf
      cases hf
theorem gyw_L_levelFor : Cond.codeWith yL_levelFor cL_levelFor 5 (some .int) [(0, 10, 13, 28)] ∈ wsL_law ∧ Cond.static yL_levelFor ∈ wsL_law ∧ (parseMethodDescriptor yL_levelFor.desc).map (fun d => d.parameters.length) = some 4 := ⟨gw_931, gw_930, by decide +kernel⟩
set_option maxHeartbeats 4000000 in
set_option maxRecDepth 100000 in
theorem c_L_bestContract (l : Launch) (hst : l.stackTraces = false) (G : gG) (hO : 403 ≤ gN G) (a1 : Int32) (S : Sg) (r : Int32) (S' : Sg) (hf : f_L_bestContract a1 S = some (r, S')) : gCw l yL_bestContract [Cond.codeWith yL_bestContract cL_bestContract 4 (some .int) [(0, 9, 12, 28)]] (gRx 9 151 1 6) G [.ref (G.2.1 0), .int a1, .ref (G.2.1 402)] S (some (.int r)) S' 1 6 := by
  refine gCw_of (by decide) (Nat.le_of_ble_eq_true rfl) ?_
  intro p e s m below meth c ls cx hX hZ htab hr hlk hw hS hl
  have hl : lv_has ls 4 [(0, .ref (G.2.1 0)), (1, .int a1), (2, .ref (G.2.1 402))] := hl
  have hN := cx.2.2.2.2.hN
  replace htab := gtab1 htab
  unfold f_L_bestContract at hf
  refine lv_aload_n cx.1 cx.2.1 dL_bestContract_0 rfl (lv_at hl 2 rfl) ?_
  refine lv_iconst (v := 0) cx.1 cx.2.1 dL_bestContract_1 (by decide) ?_
  refine lv_aload_n cx.1 cx.2.1 dL_bestContract_2 rfl (lv_at hl 0 rfl) ?_
  refine lv_iload_n cx.1 cx.2.1 dL_bestContract_3 rfl (lv_at hl 1 rfl) ?_
  rcases hx0 : f_X10_bestContract a1 S with _ | ⟨k9, v9, S9⟩
  · rw [hx0] at hf; cases hf
  · rw [hx0] at hf
    match k9, hx0, hf with
    | 0, hx0, hf =>
      refine gx_ret (gx_rV (As := [.int a1]) (rest := [.int (0 : Int32), .ref (G.2.1 402)]) cx hX hZ hw hS (c_X10_bestContract l hst G a1 S 0 v9 S9 hx0) (by omega) he_c0 rfl rfl gw_947 gy_X10_bestContract gi_X10_bestContract ⟨Nat.le_of_ble_eq_true rfl, Nat.le_of_ble_eq_true rfl⟩ ⟨Nat.le_of_ble_eq_true rfl, Nat.le_of_ble_eq_true rfl⟩ rfl hl.1 rfl (Nat.le_of_ble_eq_true rfl) dL_bestContract_4) hS (fun H locs hw hS => ?_)
      refine W.eq (g2 := F0 m 7 ls [.int v9, .int (0 : Int32), .ref (G.2.1 402)]) rfl ?_
      refine lv_i2l cx.1 cx.2.1 dL_bestContract_7 rfl ?_
      refine g_last24 (v := v9) hO cx hw hS dL_bestContract_8 (fun H locs hw hS => ?_)
      refine lv_goto (tgt := 15) cx.1 cx.2.1 dL_bestContract_9 (by decide) ?_
      refine lv_iconst (v := 0) cx.1 cx.2.1 dL_bestContract_15 (by decide) ?_
      exact gw_ireti cx hr hlk hw hS hf dL_bestContract_16 (Nat.le_of_ble_eq_true rfl) (Nat.le_of_ble_eq_true rfl)
    | 1, hx0, hf =>
      have hf : some ((1 : Int32), S9) = some (r, S') := hf
      refine gx_caught (k := 0) (gx_rV (As := [.int a1]) (rest := [.int (0 : Int32), .ref (G.2.1 402)]) cx hX hZ hw hS (c_X10_bestContract l hst G a1 S 1 v9 S9 hx0) (by omega) he_c0 rfl rfl gw_947 gy_X10_bestContract gi_X10_bestContract ⟨Nat.le_of_ble_eq_true rfl, Nat.le_of_ble_eq_true rfl⟩ ⟨Nat.le_of_ble_eq_true rfl, Nat.le_of_ble_eq_true rfl⟩ rfl hl.1 rfl (Nat.le_of_ble_eq_true rfl) dL_bestContract_4) hS (fun q9 ce H locs hce hcv hcl hS hw => ?_)
      refine vx_catch (own := RL) (name := gEn 1) (E := gEn 1) cx.2.2.2.1 [] ⟨0, 9, 12, 28⟩ [] htab (fun z hz => nomatch hz) (by decide) (by decide) (cx.2.2.2.2.ts _ gw_384) (gcast hX 1 gcm1) hce hcv hcl ?_
      refine W.eq (g2 := F0 m 12 ls [.ref q9]) rfl ?_
      refine lv_astore_n (lv' := [(3, .ref q9), (0, .ref (G.2.1 0)), (1, .int a1), (2, .ref (G.2.1 402))]) cx.1 cx.2.1 dL_bestContract_12 rfl hl (by decide) rfl (fun ls hl => ?_)
      refine lv_iconst (v := 1) cx.1 cx.2.1 dL_bestContract_13 (by decide) ?_
      exact gw_ireti cx hr hlk hw hS hf dL_bestContract_14 (Nat.le_of_ble_eq_true rfl) (Nat.le_of_ble_eq_true rfl)
    | 2, hx0, hf =>
      have hf : (none : Option (Int32 × Sg)) = some (r, S') := hf
      cases hf
    | 3, hx0, hf =>
      have hf : (none : Option (Int32 × Sg)) = some (r, S') := hf
      cases hf
    | k9 + 4, hx0, hf =>
      have hf : (none : Option (Int32 × Sg)) = some (r, S') := hf
      cases hf
theorem gyw_L_bestContract : Cond.codeWith yL_bestContract cL_bestContract 4 (some .int) [(0, 9, 12, 28)] ∈ wsL_law ∧ Cond.static yL_bestContract ∈ wsL_law ∧ (parseMethodDescriptor yL_bestContract.desc).map (fun d => d.parameters.length) = some 3 := ⟨gw_946, gw_945, by decide +kernel⟩
set_option maxHeartbeats 4000000 in
set_option maxRecDepth 100000 in
theorem c_L_coinsAfter (l : Launch) (hst : l.stackTraces = false) (G : gG) (hO : 403 ≤ gN G) (a1 : Int32) (a2 : Int32) (S : Sg) (r : Int32) (S' : Sg) (hf : f_L_coinsAfter a1 a2 S = some (r, S')) : gCw l yL_coinsAfter [Cond.codeWith yL_coinsAfter cL_coinsAfter 5 (some .int) [(0, 10, 13, 28), (0, 10, 17, 13)]] (gRx 9 153 2 12) G [.ref (G.2.1 0), .int a1, .int a2, .ref (G.2.1 402)] S (some (.int r)) S' 2 12 := by
  refine gCw_of (by decide) (Nat.le_of_ble_eq_true rfl) ?_
  intro p e s m below meth c ls cx hX hZ htab hr hlk hw hS hl
  have hl : lv_has ls 5 [(0, .ref (G.2.1 0)), (1, .int a1), (2, .int a2), (3, .ref (G.2.1 402))] := hl
  have hN := cx.2.2.2.2.hN
  replace htab := gtab2 htab
  unfold f_L_coinsAfter at hf
  refine lv_aload_n cx.1 cx.2.1 dL_coinsAfter_0 rfl (lv_at hl 3 rfl) ?_
  refine lv_iconst (v := 0) cx.1 cx.2.1 dL_coinsAfter_1 (by decide) ?_
  refine lv_aload_n cx.1 cx.2.1 dL_coinsAfter_2 rfl (lv_at hl 0 rfl) ?_
  refine lv_iload_n cx.1 cx.2.1 dL_coinsAfter_3 rfl (lv_at hl 1 rfl) ?_
  refine lv_iload_n cx.1 cx.2.1 dL_coinsAfter_4 rfl (lv_at hl 2 rfl) ?_
  rcases hx0 : f_X10_coinsAfter a1 a2 S with _ | ⟨k9, v9, S9⟩
  · rw [hx0] at hf; cases hf
  · rw [hx0] at hf
    match k9, hx0, hf with
    | 0, hx0, hf =>
      refine gx_ret (gx_rV (As := [.int a1, .int a2]) (rest := [.int (0 : Int32), .ref (G.2.1 402)]) cx hX hZ hw hS (c_X10_coinsAfter l hst G a1 a2 S 0 v9 S9 hx0) (by omega) he_c0 rfl rfl gw_971 gy_X10_coinsAfter gi_X10_coinsAfter ⟨Nat.le_of_ble_eq_true rfl, Nat.le_of_ble_eq_true rfl⟩ ⟨Nat.le_of_ble_eq_true rfl, Nat.le_of_ble_eq_true rfl⟩ rfl hl.1 rfl (Nat.le_of_ble_eq_true rfl) dL_coinsAfter_5) hS (fun H locs hw hS => ?_)
      refine W.eq (g2 := F0 m 8 ls [.int v9, .int (0 : Int32), .ref (G.2.1 402)]) rfl ?_
      refine lv_i2l cx.1 cx.2.1 dL_coinsAfter_8 rfl ?_
      refine g_last24 (v := v9) hO cx hw hS dL_coinsAfter_9 (fun H locs hw hS => ?_)
      refine lv_goto (tgt := 21) cx.1 cx.2.1 dL_coinsAfter_10 (by decide) ?_
      refine lv_iconst (v := 0) cx.1 cx.2.1 dL_coinsAfter_21 (by decide) ?_
      exact gw_ireti cx hr hlk hw hS hf dL_coinsAfter_22 (Nat.le_of_ble_eq_true rfl) (Nat.le_of_ble_eq_true rfl)
    | 1, hx0, hf =>
      have hf : some ((1 : Int32), S9) = some (r, S') := hf
      refine gx_caught (k := 0) (gx_rV (As := [.int a1, .int a2]) (rest := [.int (0 : Int32), .ref (G.2.1 402)]) cx hX hZ hw hS (c_X10_coinsAfter l hst G a1 a2 S 1 v9 S9 hx0) (by omega) he_c0 rfl rfl gw_971 gy_X10_coinsAfter gi_X10_coinsAfter ⟨Nat.le_of_ble_eq_true rfl, Nat.le_of_ble_eq_true rfl⟩ ⟨Nat.le_of_ble_eq_true rfl, Nat.le_of_ble_eq_true rfl⟩ rfl hl.1 rfl (Nat.le_of_ble_eq_true rfl) dL_coinsAfter_5) hS (fun q9 ce H locs hce hcv hcl hS hw => ?_)
      refine vx_catch (own := RL) (name := gEn 1) (E := gEn 1) cx.2.2.2.1 [] ⟨0, 10, 13, 28⟩ [⟨0, 10, 17, 13⟩] htab (fun z hz => nomatch hz) (by decide) (by decide) (cx.2.2.2.2.ts _ gw_384) (gcast hX 1 gcm1) hce hcv hcl ?_
      refine W.eq (g2 := F0 m 13 ls [.ref q9]) rfl ?_
      refine lv_astore (lv' := [(4, .ref q9), (0, .ref (G.2.1 0)), (1, .int a1), (2, .int a2), (3, .ref (G.2.1 402))]) cx.1 cx.2.1 dL_coinsAfter_13 hl (by decide) rfl (fun ls hl => ?_)
      refine lv_iconst (v := 1) cx.1 cx.2.1 dL_coinsAfter_15 (by decide) ?_
      exact gw_ireti cx hr hlk hw hS hf dL_coinsAfter_16 (Nat.le_of_ble_eq_true rfl) (Nat.le_of_ble_eq_true rfl)
    | 2, hx0, hf =>
      have hf : some ((2 : Int32), S9) = some (r, S') := hf
      refine gx_caught (k := 1) (gx_rV (As := [.int a1, .int a2]) (rest := [.int (0 : Int32), .ref (G.2.1 402)]) cx hX hZ hw hS (c_X10_coinsAfter l hst G a1 a2 S 2 v9 S9 hx0) (by omega) he_c0 rfl rfl gw_971 gy_X10_coinsAfter gi_X10_coinsAfter ⟨Nat.le_of_ble_eq_true rfl, Nat.le_of_ble_eq_true rfl⟩ ⟨Nat.le_of_ble_eq_true rfl, Nat.le_of_ble_eq_true rfl⟩ rfl hl.1 rfl (Nat.le_of_ble_eq_true rfl) dL_coinsAfter_5) hS (fun q9 ce H locs hce hcv hcl hS hw => ?_)
      refine vx_catch (own := RL) (name := gEn 2) (E := gEn 2) cx.2.2.2.1 [⟨0, 10, 13, 28⟩] ⟨0, 10, 17, 13⟩ [] htab (List.forall_mem_cons.mpr ⟨Or.inr ⟨by decide, gEn 1, cx.2.2.2.2.ts _ gw_384, hX.2.2.1⟩, fun z hz => nomatch hz⟩) (by decide) (by decide) (cx.2.2.2.2.ts _ gw_168) (gcast hX 2 gcm2) hce hcv hcl ?_
      refine W.eq (g2 := F0 m 17 ls [.ref q9]) rfl ?_
      refine lv_astore (lv' := [(4, .ref q9), (0, .ref (G.2.1 0)), (1, .int a1), (2, .int a2), (3, .ref (G.2.1 402))]) cx.1 cx.2.1 dL_coinsAfter_17 hl (by decide) rfl (fun ls hl => ?_)
      refine lv_iconst (v := 2) cx.1 cx.2.1 dL_coinsAfter_19 (by decide) ?_
      exact gw_ireti cx hr hlk hw hS hf dL_coinsAfter_20 (Nat.le_of_ble_eq_true rfl) (Nat.le_of_ble_eq_true rfl)
    | 3, hx0, hf =>
      have hf : (none : Option (Int32 × Sg)) = some (r, S') := hf
      cases hf
    | k9 + 4, hx0, hf =>
      have hf : (none : Option (Int32 × Sg)) = some (r, S') := hf
      cases hf
theorem gyw_L_coinsAfter : Cond.codeWith yL_coinsAfter cL_coinsAfter 5 (some .int) [(0, 10, 13, 28), (0, 10, 17, 13)] ∈ wsL_law ∧ Cond.static yL_coinsAfter ∈ wsL_law ∧ (parseMethodDescriptor yL_coinsAfter.desc).map (fun d => d.parameters.length) = some 4 := ⟨gw_970, gw_969, by decide +kernel⟩
set_option maxHeartbeats 4000000 in
set_option maxRecDepth 100000 in
theorem c_L_bankruptAfter (l : Launch) (hst : l.stackTraces = false) (G : gG) (hO : 403 ≤ gN G) (a1 : Int32) (S : Sg) (r : Int32) (S' : Sg) (hf : f_L_bankruptAfter a1 S = some (r, S')) : gCw l yL_bankruptAfter [Cond.codeWith yL_bankruptAfter cL_bankruptAfter 4 (some .int) [(0, 9, 12, 28)]] (gRx 9 153 1 6) G [.ref (G.2.1 0), .int a1, .ref (G.2.1 402)] S (some (.int r)) S' 1 6 := by
  refine gCw_of (by decide) (Nat.le_of_ble_eq_true rfl) ?_
  intro p e s m below meth c ls cx hX hZ htab hr hlk hw hS hl
  have hl : lv_has ls 4 [(0, .ref (G.2.1 0)), (1, .int a1), (2, .ref (G.2.1 402))] := hl
  have hN := cx.2.2.2.2.hN
  replace htab := gtab1 htab
  unfold f_L_bankruptAfter at hf
  refine lv_aload_n cx.1 cx.2.1 dL_bankruptAfter_0 rfl (lv_at hl 2 rfl) ?_
  refine lv_iconst (v := 0) cx.1 cx.2.1 dL_bankruptAfter_1 (by decide) ?_
  refine lv_aload_n cx.1 cx.2.1 dL_bankruptAfter_2 rfl (lv_at hl 0 rfl) ?_
  refine lv_iload_n cx.1 cx.2.1 dL_bankruptAfter_3 rfl (lv_at hl 1 rfl) ?_
  rcases hx0 : f_X10_bankruptAfter a1 S with _ | ⟨k9, v9, S9⟩
  · rw [hx0] at hf; cases hf
  · rw [hx0] at hf
    match k9, hx0, hf with
    | 0, hx0, hf =>
      refine gx_ret (gx_rV (As := [.int a1]) (rest := [.int (0 : Int32), .ref (G.2.1 402)]) cx hX hZ hw hS (c_X10_bankruptAfter l hst G a1 S 0 v9 S9 hx0) (by omega) he_c0 rfl rfl gw_983 gy_X10_bankruptAfter gi_X10_bankruptAfter ⟨Nat.le_of_ble_eq_true rfl, Nat.le_of_ble_eq_true rfl⟩ ⟨Nat.le_of_ble_eq_true rfl, Nat.le_of_ble_eq_true rfl⟩ rfl hl.1 rfl (Nat.le_of_ble_eq_true rfl) dL_bankruptAfter_4) hS (fun H locs hw hS => ?_)
      refine W.eq (g2 := F0 m 7 ls [.int v9, .int (0 : Int32), .ref (G.2.1 402)]) rfl ?_
      refine lv_i2l cx.1 cx.2.1 dL_bankruptAfter_7 rfl ?_
      refine g_last24 (v := v9) hO cx hw hS dL_bankruptAfter_8 (fun H locs hw hS => ?_)
      refine lv_goto (tgt := 15) cx.1 cx.2.1 dL_bankruptAfter_9 (by decide) ?_
      refine lv_iconst (v := 0) cx.1 cx.2.1 dL_bankruptAfter_15 (by decide) ?_
      exact gw_ireti cx hr hlk hw hS hf dL_bankruptAfter_16 (Nat.le_of_ble_eq_true rfl) (Nat.le_of_ble_eq_true rfl)
    | 1, hx0, hf =>
      have hf : some ((1 : Int32), S9) = some (r, S') := hf
      refine gx_caught (k := 0) (gx_rV (As := [.int a1]) (rest := [.int (0 : Int32), .ref (G.2.1 402)]) cx hX hZ hw hS (c_X10_bankruptAfter l hst G a1 S 1 v9 S9 hx0) (by omega) he_c0 rfl rfl gw_983 gy_X10_bankruptAfter gi_X10_bankruptAfter ⟨Nat.le_of_ble_eq_true rfl, Nat.le_of_ble_eq_true rfl⟩ ⟨Nat.le_of_ble_eq_true rfl, Nat.le_of_ble_eq_true rfl⟩ rfl hl.1 rfl (Nat.le_of_ble_eq_true rfl) dL_bankruptAfter_4) hS (fun q9 ce H locs hce hcv hcl hS hw => ?_)
      refine vx_catch (own := RL) (name := gEn 1) (E := gEn 1) cx.2.2.2.1 [] ⟨0, 9, 12, 28⟩ [] htab (fun z hz => nomatch hz) (by decide) (by decide) (cx.2.2.2.2.ts _ gw_384) (gcast hX 1 gcm1) hce hcv hcl ?_
      refine W.eq (g2 := F0 m 12 ls [.ref q9]) rfl ?_
      refine lv_astore_n (lv' := [(3, .ref q9), (0, .ref (G.2.1 0)), (1, .int a1), (2, .ref (G.2.1 402))]) cx.1 cx.2.1 dL_bankruptAfter_12 rfl hl (by decide) rfl (fun ls hl => ?_)
      refine lv_iconst (v := 1) cx.1 cx.2.1 dL_bankruptAfter_13 (by decide) ?_
      exact gw_ireti cx hr hlk hw hS hf dL_bankruptAfter_14 (Nat.le_of_ble_eq_true rfl) (Nat.le_of_ble_eq_true rfl)
    | 2, hx0, hf =>
      have hf : (none : Option (Int32 × Sg)) = some (r, S') := hf
      cases hf
    | 3, hx0, hf =>
      have hf : (none : Option (Int32 × Sg)) = some (r, S') := hf
      cases hf
    | k9 + 4, hx0, hf =>
      have hf : (none : Option (Int32 × Sg)) = some (r, S') := hf
      cases hf
theorem gyw_L_bankruptAfter : Cond.codeWith yL_bankruptAfter cL_bankruptAfter 4 (some .int) [(0, 9, 12, 28)] ∈ wsL_law ∧ Cond.static yL_bankruptAfter ∈ wsL_law ∧ (parseMethodDescriptor yL_bankruptAfter.desc).map (fun d => d.parameters.length) = some 3 := ⟨gw_982, gw_981, by decide +kernel⟩
set_option maxHeartbeats 4000000 in
set_option maxRecDepth 100000 in
theorem c_L_worth (l : Launch) (hst : l.stackTraces = false) (G : gG) (hO : 403 ≤ gN G) (a1 : Int32) (S : Sg) (r : Int32) (S' : Sg) (hf : f_L_worth a1 S = some (r, S')) : gCw l yL_worth [Cond.codeWith yL_worth cL_worth 4 (some .int) [(0, 9, 12, 28)]] (gRx 9 151 1 6) G [.ref (G.2.1 0), .int a1, .ref (G.2.1 402)] S (some (.int r)) S' 1 6 := by
  refine gCw_of (by decide) (Nat.le_of_ble_eq_true rfl) ?_
  intro p e s m below meth c ls cx hX hZ htab hr hlk hw hS hl
  have hl : lv_has ls 4 [(0, .ref (G.2.1 0)), (1, .int a1), (2, .ref (G.2.1 402))] := hl
  have hN := cx.2.2.2.2.hN
  replace htab := gtab1 htab
  unfold f_L_worth at hf
  refine lv_aload_n cx.1 cx.2.1 dL_worth_0 rfl (lv_at hl 2 rfl) ?_
  refine lv_iconst (v := 0) cx.1 cx.2.1 dL_worth_1 (by decide) ?_
  refine lv_aload_n cx.1 cx.2.1 dL_worth_2 rfl (lv_at hl 0 rfl) ?_
  refine lv_iload_n cx.1 cx.2.1 dL_worth_3 rfl (lv_at hl 1 rfl) ?_
  rcases hx0 : f_X10_worth a1 S with _ | ⟨k9, v9, S9⟩
  · rw [hx0] at hf; cases hf
  · rw [hx0] at hf
    match k9, hx0, hf with
    | 0, hx0, hf =>
      refine gx_ret (gx_rV (As := [.int a1]) (rest := [.int (0 : Int32), .ref (G.2.1 402)]) cx hX hZ hw hS (c_X10_worth l hst G a1 S 0 v9 S9 hx0) (by omega) he_c0 rfl rfl gw_994 gy_X10_worth gi_X10_worth ⟨Nat.le_of_ble_eq_true rfl, Nat.le_of_ble_eq_true rfl⟩ ⟨Nat.le_of_ble_eq_true rfl, Nat.le_of_ble_eq_true rfl⟩ rfl hl.1 rfl (Nat.le_of_ble_eq_true rfl) dL_worth_4) hS (fun H locs hw hS => ?_)
      refine W.eq (g2 := F0 m 7 ls [.int v9, .int (0 : Int32), .ref (G.2.1 402)]) rfl ?_
      refine lv_i2l cx.1 cx.2.1 dL_worth_7 rfl ?_
      refine g_last24 (v := v9) hO cx hw hS dL_worth_8 (fun H locs hw hS => ?_)
      refine lv_goto (tgt := 15) cx.1 cx.2.1 dL_worth_9 (by decide) ?_
      refine lv_iconst (v := 0) cx.1 cx.2.1 dL_worth_15 (by decide) ?_
      exact gw_ireti cx hr hlk hw hS hf dL_worth_16 (Nat.le_of_ble_eq_true rfl) (Nat.le_of_ble_eq_true rfl)
    | 1, hx0, hf =>
      have hf : some ((1 : Int32), S9) = some (r, S') := hf
      refine gx_caught (k := 0) (gx_rV (As := [.int a1]) (rest := [.int (0 : Int32), .ref (G.2.1 402)]) cx hX hZ hw hS (c_X10_worth l hst G a1 S 1 v9 S9 hx0) (by omega) he_c0 rfl rfl gw_994 gy_X10_worth gi_X10_worth ⟨Nat.le_of_ble_eq_true rfl, Nat.le_of_ble_eq_true rfl⟩ ⟨Nat.le_of_ble_eq_true rfl, Nat.le_of_ble_eq_true rfl⟩ rfl hl.1 rfl (Nat.le_of_ble_eq_true rfl) dL_worth_4) hS (fun q9 ce H locs hce hcv hcl hS hw => ?_)
      refine vx_catch (own := RL) (name := gEn 1) (E := gEn 1) cx.2.2.2.1 [] ⟨0, 9, 12, 28⟩ [] htab (fun z hz => nomatch hz) (by decide) (by decide) (cx.2.2.2.2.ts _ gw_384) (gcast hX 1 gcm1) hce hcv hcl ?_
      refine W.eq (g2 := F0 m 12 ls [.ref q9]) rfl ?_
      refine lv_astore_n (lv' := [(3, .ref q9), (0, .ref (G.2.1 0)), (1, .int a1), (2, .ref (G.2.1 402))]) cx.1 cx.2.1 dL_worth_12 rfl hl (by decide) rfl (fun ls hl => ?_)
      refine lv_iconst (v := 1) cx.1 cx.2.1 dL_worth_13 (by decide) ?_
      exact gw_ireti cx hr hlk hw hS hf dL_worth_14 (Nat.le_of_ble_eq_true rfl) (Nat.le_of_ble_eq_true rfl)
    | 2, hx0, hf =>
      have hf : (none : Option (Int32 × Sg)) = some (r, S') := hf
      cases hf
    | 3, hx0, hf =>
      have hf : (none : Option (Int32 × Sg)) = some (r, S') := hf
      cases hf
    | k9 + 4, hx0, hf =>
      have hf : (none : Option (Int32 × Sg)) = some (r, S') := hf
      cases hf
theorem gyw_L_worth : Cond.codeWith yL_worth cL_worth 4 (some .int) [(0, 9, 12, 28)] ∈ wsL_law ∧ Cond.static yL_worth ∈ wsL_law ∧ (parseMethodDescriptor yL_worth.desc).map (fun d => d.parameters.length) = some 3 := ⟨gw_993, gw_992, by decide +kernel⟩
set_option maxHeartbeats 4000000 in
set_option maxRecDepth 100000 in
theorem c_L_runScript (l : Launch) (hst : l.stackTraces = false) (G : gG) (hO : 403 ≤ gN G) (a1 : Int32) (a2 : Int64) (S : Sg) (r : Int32) (S' : Sg) (hf : f_L_runScript a1 a2 S = some (r, S')) : gCw l yL_runScript [Cond.codeWith yL_runScript cL_runScript 6 (some .int) [(0, 11, 14, 13)]] (gRx 8 199 2 12) G [.ref (G.2.1 0), .int a1, .long a2, .ref (G.2.1 402)] S (some (.int r)) S' 2 12 := by
  refine gCw_of (by decide) (Nat.le_of_ble_eq_true rfl) ?_
  intro p e s m below meth c ls cx hX hZ htab hr hlk hw hS hl
  have hl : lv_has ls 6 [(0, .ref (G.2.1 0)), (1, .int a1), (2, .long a2), (4, .ref (G.2.1 402))] := hl
  have hN := cx.2.2.2.2.hN
  replace htab := gtab1 htab
  unfold f_L_runScript at hf
  refine lv_aload cx.1 cx.2.1 dL_runScript_0 (lv_at hl 3 rfl) ?_
  refine lv_iconst (v := 0) cx.1 cx.2.1 dL_runScript_2 (by decide) ?_
  refine lv_aload_n cx.1 cx.2.1 dL_runScript_3 rfl (lv_at hl 0 rfl) ?_
  refine lv_iload_n cx.1 cx.2.1 dL_runScript_4 rfl (lv_at hl 1 rfl) ?_
  refine lv_lload_n cx.1 cx.2.1 dL_runScript_5 rfl (lv_at hl 2 rfl) ?_
  rcases hx0 : f_X10_runScript a1 a2 S with _ | ⟨k9, v9, S9⟩
  · rw [hx0] at hf; cases hf
  · rw [hx0] at hf
    match k9, hx0, hf with
    | 0, hx0, hf =>
      refine gx_ret (gx_rV (As := [.int a1, .long a2]) (rest := [.int (0 : Int32), .ref (G.2.1 402)]) cx hX hZ hw hS (c_X10_runScript l hst G a1 a2 S 0 v9 S9 hx0) (by omega) he_c0 rfl rfl gw_1016 gy_X10_runScript gi_X10_runScript ⟨Nat.le_of_ble_eq_true rfl, Nat.le_of_ble_eq_true rfl⟩ ⟨Nat.le_of_ble_eq_true rfl, Nat.le_of_ble_eq_true rfl⟩ rfl hl.1 rfl (Nat.le_of_ble_eq_true rfl) dL_runScript_6) hS (fun H locs hw hS => ?_)
      refine W.eq (g2 := F0 m 9 ls [.int v9, .int (0 : Int32), .ref (G.2.1 402)]) rfl ?_
      refine lv_i2l cx.1 cx.2.1 dL_runScript_9 rfl ?_
      refine g_last24 (v := v9) hO cx hw hS dL_runScript_10 (fun H locs hw hS => ?_)
      refine lv_goto (tgt := 18) cx.1 cx.2.1 dL_runScript_11 (by decide) ?_
      refine lv_iconst (v := 0) cx.1 cx.2.1 dL_runScript_18 (by decide) ?_
      exact gw_ireti cx hr hlk hw hS hf dL_runScript_19 (Nat.le_of_ble_eq_true rfl) (Nat.le_of_ble_eq_true rfl)
    | 1, hx0, hf =>
      have hf : (none : Option (Int32 × Sg)) = some (r, S') := hf
      cases hf
    | 2, hx0, hf =>
      have hf : some ((1 : Int32), S9) = some (r, S') := hf
      refine gx_caught (k := 1) (gx_rV (As := [.int a1, .long a2]) (rest := [.int (0 : Int32), .ref (G.2.1 402)]) cx hX hZ hw hS (c_X10_runScript l hst G a1 a2 S 2 v9 S9 hx0) (by omega) he_c0 rfl rfl gw_1016 gy_X10_runScript gi_X10_runScript ⟨Nat.le_of_ble_eq_true rfl, Nat.le_of_ble_eq_true rfl⟩ ⟨Nat.le_of_ble_eq_true rfl, Nat.le_of_ble_eq_true rfl⟩ rfl hl.1 rfl (Nat.le_of_ble_eq_true rfl) dL_runScript_6) hS (fun q9 ce H locs hce hcv hcl hS hw => ?_)
      refine vx_catch (own := RL) (name := gEn 2) (E := gEn 2) cx.2.2.2.1 [] ⟨0, 11, 14, 13⟩ [] htab (fun z hz => nomatch hz) (by decide) (by decide) (cx.2.2.2.2.ts _ gw_168) (gcast hX 2 gcm2) hce hcv hcl ?_
      refine W.eq (g2 := F0 m 14 ls [.ref q9]) rfl ?_
      refine lv_astore (lv' := [(5, .ref q9), (0, .ref (G.2.1 0)), (1, .int a1), (2, .long a2), (4, .ref (G.2.1 402))]) cx.1 cx.2.1 dL_runScript_14 hl (by decide) rfl (fun ls hl => ?_)
      refine lv_iconst (v := 1) cx.1 cx.2.1 dL_runScript_16 (by decide) ?_
      exact gw_ireti cx hr hlk hw hS hf dL_runScript_17 (Nat.le_of_ble_eq_true rfl) (Nat.le_of_ble_eq_true rfl)
    | 3, hx0, hf =>
      have hf : (none : Option (Int32 × Sg)) = some (r, S') := hf
      cases hf
    | k9 + 4, hx0, hf =>
      have hf : (none : Option (Int32 × Sg)) = some (r, S') := hf
      cases hf
theorem gyw_L_runScript : Cond.codeWith yL_runScript cL_runScript 6 (some .int) [(0, 11, 14, 13)] ∈ wsL_law ∧ Cond.static yL_runScript ∈ wsL_law ∧ (parseMethodDescriptor yL_runScript.desc).map (fun d => d.parameters.length) = some 4 := ⟨gw_1015, gw_1014, by decide +kernel⟩
set_option maxHeartbeats 4000000 in
set_option maxRecDepth 100000 in
theorem c_L_simulate (l : Launch) (hst : l.stackTraces = false) (G : gG) (hO : 403 ≤ gN G) (a1 : Int64) (a3 : Int32) (S : Sg) (r : Int32) (S' : Sg) (hf : f_L_simulate a1 a3 S = some (r, S')) : gCw l yL_simulate [Cond.codeWith yL_simulate cL_simulate 6 (some .int) [(0, 11, 14, 13)]] (gRx 8 198 1 6) G [.ref (G.2.1 0), .long a1, .int a3, .ref (G.2.1 402)] S (some (.int r)) S' 1 6 := by
  refine gCw_of (by decide) (Nat.le_of_ble_eq_true rfl) ?_
  intro p e s m below meth c ls cx hX hZ htab hr hlk hw hS hl
  have hl : lv_has ls 6 [(0, .ref (G.2.1 0)), (1, .long a1), (3, .int a3), (4, .ref (G.2.1 402))] := hl
  have hN := cx.2.2.2.2.hN
  replace htab := gtab1 htab
  unfold f_L_simulate at hf
  refine lv_aload cx.1 cx.2.1 dL_simulate_0 (lv_at hl 3 rfl) ?_
  refine lv_iconst (v := 0) cx.1 cx.2.1 dL_simulate_2 (by decide) ?_
  refine lv_aload_n cx.1 cx.2.1 dL_simulate_3 rfl (lv_at hl 0 rfl) ?_
  refine lv_lload_n cx.1 cx.2.1 dL_simulate_4 rfl (lv_at hl 1 rfl) ?_
  refine lv_iload_n cx.1 cx.2.1 dL_simulate_5 rfl (lv_at hl 2 rfl) ?_
  rcases hx0 : f_X10_simulate a1 a3 S with _ | ⟨k9, v9, S9⟩
  · rw [hx0] at hf; cases hf
  · rw [hx0] at hf
    match k9, hx0, hf with
    | 0, hx0, hf =>
      refine gx_ret (gx_rV (As := [.long a1, .int a3]) (rest := [.int (0 : Int32), .ref (G.2.1 402)]) cx hX hZ hw hS (c_X10_simulate l hst G a1 a3 S 0 v9 S9 hx0) (by omega) he_c0 rfl rfl gw_1084 gy_X10_simulate gi_X10_simulate ⟨Nat.le_of_ble_eq_true rfl, Nat.le_of_ble_eq_true rfl⟩ ⟨Nat.le_of_ble_eq_true rfl, Nat.le_of_ble_eq_true rfl⟩ rfl hl.1 rfl (Nat.le_of_ble_eq_true rfl) dL_simulate_6) hS (fun H locs hw hS => ?_)
      refine W.eq (g2 := F0 m 9 ls [.int v9, .int (0 : Int32), .ref (G.2.1 402)]) rfl ?_
      refine lv_i2l cx.1 cx.2.1 dL_simulate_9 rfl ?_
      refine g_last24 (v := v9) hO cx hw hS dL_simulate_10 (fun H locs hw hS => ?_)
      refine lv_goto (tgt := 18) cx.1 cx.2.1 dL_simulate_11 (by decide) ?_
      refine lv_iconst (v := 0) cx.1 cx.2.1 dL_simulate_18 (by decide) ?_
      exact gw_ireti cx hr hlk hw hS hf dL_simulate_19 (Nat.le_of_ble_eq_true rfl) (Nat.le_of_ble_eq_true rfl)
    | 1, hx0, hf =>
      have hf : (none : Option (Int32 × Sg)) = some (r, S') := hf
      cases hf
    | 2, hx0, hf =>
      have hf : some ((1 : Int32), S9) = some (r, S') := hf
      refine gx_caught (k := 1) (gx_rV (As := [.long a1, .int a3]) (rest := [.int (0 : Int32), .ref (G.2.1 402)]) cx hX hZ hw hS (c_X10_simulate l hst G a1 a3 S 2 v9 S9 hx0) (by omega) he_c0 rfl rfl gw_1084 gy_X10_simulate gi_X10_simulate ⟨Nat.le_of_ble_eq_true rfl, Nat.le_of_ble_eq_true rfl⟩ ⟨Nat.le_of_ble_eq_true rfl, Nat.le_of_ble_eq_true rfl⟩ rfl hl.1 rfl (Nat.le_of_ble_eq_true rfl) dL_simulate_6) hS (fun q9 ce H locs hce hcv hcl hS hw => ?_)
      refine vx_catch (own := RL) (name := gEn 2) (E := gEn 2) cx.2.2.2.1 [] ⟨0, 11, 14, 13⟩ [] htab (fun z hz => nomatch hz) (by decide) (by decide) (cx.2.2.2.2.ts _ gw_168) (gcast hX 2 gcm2) hce hcv hcl ?_
      refine W.eq (g2 := F0 m 14 ls [.ref q9]) rfl ?_
      refine lv_astore (lv' := [(5, .ref q9), (0, .ref (G.2.1 0)), (1, .long a1), (3, .int a3), (4, .ref (G.2.1 402))]) cx.1 cx.2.1 dL_simulate_14 hl (by decide) rfl (fun ls hl => ?_)
      refine lv_iconst (v := 1) cx.1 cx.2.1 dL_simulate_16 (by decide) ?_
      exact gw_ireti cx hr hlk hw hS hf dL_simulate_17 (Nat.le_of_ble_eq_true rfl) (Nat.le_of_ble_eq_true rfl)
    | 3, hx0, hf =>
      have hf : (none : Option (Int32 × Sg)) = some (r, S') := hf
      cases hf
    | k9 + 4, hx0, hf =>
      have hf : (none : Option (Int32 × Sg)) = some (r, S') := hf
      cases hf
theorem gyw_L_simulate : Cond.codeWith yL_simulate cL_simulate 6 (some .int) [(0, 11, 14, 13)] ∈ wsL_law ∧ Cond.static yL_simulate ∈ wsL_law ∧ (parseMethodDescriptor yL_simulate.desc).map (fun d => d.parameters.length) = some 4 := ⟨gw_1083, gw_1082, by decide +kernel⟩
set_option maxHeartbeats 4000000 in
set_option maxRecDepth 100000 in
theorem c_L_save (l : Launch) (hst : l.stackTraces = false) (G : gG) (hO : 403 ≤ gN G) (a1 : Int32) (S : Sg) (r : Int32) (S' : Sg) (hf : f_L_save a1 S = some (r, S')) : gCw l yL_save [Cond.codeWith yL_save cL_save 4 (some .int) [(0, 9, 12, 28)]] (gRx 9 187 1 6) G [.ref (G.2.1 0), .int a1, .ref (G.2.1 402)] S (some (.int r)) S' 1 6 := by
  refine gCw_of (by decide) (Nat.le_of_ble_eq_true rfl) ?_
  intro p e s m below meth c ls cx hX hZ htab hr hlk hw hS hl
  have hl : lv_has ls 4 [(0, .ref (G.2.1 0)), (1, .int a1), (2, .ref (G.2.1 402))] := hl
  have hN := cx.2.2.2.2.hN
  replace htab := gtab1 htab
  unfold f_L_save at hf
  refine lv_aload_n cx.1 cx.2.1 dL_save_0 rfl (lv_at hl 2 rfl) ?_
  refine lv_iconst (v := 0) cx.1 cx.2.1 dL_save_1 (by decide) ?_
  refine lv_aload_n cx.1 cx.2.1 dL_save_2 rfl (lv_at hl 0 rfl) ?_
  refine lv_iload_n cx.1 cx.2.1 dL_save_3 rfl (lv_at hl 1 rfl) ?_
  rcases hx0 : f_X10_save a1 S with _ | ⟨k9, v9, S9⟩
  · rw [hx0] at hf; cases hf
  · rw [hx0] at hf
    match k9, hx0, hf with
    | 0, hx0, hf =>
      refine gx_ret (gx_rV (As := [.int a1]) (rest := [.int (0 : Int32), .ref (G.2.1 402)]) cx hX hZ hw hS (c_X10_save l hst G a1 S 0 v9 S9 hx0) (by omega) he_c0 rfl rfl gw_1121 gy_X10_save gi_X10_save ⟨Nat.le_of_ble_eq_true rfl, Nat.le_of_ble_eq_true rfl⟩ ⟨Nat.le_of_ble_eq_true rfl, Nat.le_of_ble_eq_true rfl⟩ rfl hl.1 rfl (Nat.le_of_ble_eq_true rfl) dL_save_4) hS (fun H locs hw hS => ?_)
      refine W.eq (g2 := F0 m 7 ls [.int v9, .int (0 : Int32), .ref (G.2.1 402)]) rfl ?_
      refine lv_i2l cx.1 cx.2.1 dL_save_7 rfl ?_
      refine g_last24 (v := v9) hO cx hw hS dL_save_8 (fun H locs hw hS => ?_)
      refine lv_goto (tgt := 15) cx.1 cx.2.1 dL_save_9 (by decide) ?_
      refine lv_iconst (v := 0) cx.1 cx.2.1 dL_save_15 (by decide) ?_
      exact gw_ireti cx hr hlk hw hS hf dL_save_16 (Nat.le_of_ble_eq_true rfl) (Nat.le_of_ble_eq_true rfl)
    | 1, hx0, hf =>
      have hf : some ((1 : Int32), S9) = some (r, S') := hf
      refine gx_caught (k := 0) (gx_rV (As := [.int a1]) (rest := [.int (0 : Int32), .ref (G.2.1 402)]) cx hX hZ hw hS (c_X10_save l hst G a1 S 1 v9 S9 hx0) (by omega) he_c0 rfl rfl gw_1121 gy_X10_save gi_X10_save ⟨Nat.le_of_ble_eq_true rfl, Nat.le_of_ble_eq_true rfl⟩ ⟨Nat.le_of_ble_eq_true rfl, Nat.le_of_ble_eq_true rfl⟩ rfl hl.1 rfl (Nat.le_of_ble_eq_true rfl) dL_save_4) hS (fun q9 ce H locs hce hcv hcl hS hw => ?_)
      refine vx_catch (own := RL) (name := gEn 1) (E := gEn 1) cx.2.2.2.1 [] ⟨0, 9, 12, 28⟩ [] htab (fun z hz => nomatch hz) (by decide) (by decide) (cx.2.2.2.2.ts _ gw_384) (gcast hX 1 gcm1) hce hcv hcl ?_
      refine W.eq (g2 := F0 m 12 ls [.ref q9]) rfl ?_
      refine lv_astore_n (lv' := [(3, .ref q9), (0, .ref (G.2.1 0)), (1, .int a1), (2, .ref (G.2.1 402))]) cx.1 cx.2.1 dL_save_12 rfl hl (by decide) rfl (fun ls hl => ?_)
      refine lv_iconst (v := 1) cx.1 cx.2.1 dL_save_13 (by decide) ?_
      exact gw_ireti cx hr hlk hw hS hf dL_save_14 (Nat.le_of_ble_eq_true rfl) (Nat.le_of_ble_eq_true rfl)
    | 2, hx0, hf =>
      have hf : (none : Option (Int32 × Sg)) = some (r, S') := hf
      cases hf
    | 3, hx0, hf =>
      have hf : (none : Option (Int32 × Sg)) = some (r, S') := hf
      cases hf
    | k9 + 4, hx0, hf =>
      have hf : (none : Option (Int32 × Sg)) = some (r, S') := hf
      cases hf
theorem gyw_L_save : Cond.codeWith yL_save cL_save 4 (some .int) [(0, 9, 12, 28)] ∈ wsL_law ∧ Cond.static yL_save ∈ wsL_law ∧ (parseMethodDescriptor yL_save.desc).map (fun d => d.parameters.length) = some 3 := ⟨gw_1120, gw_1119, by decide +kernel⟩
set_option maxHeartbeats 4000000 in
set_option maxRecDepth 100000 in
theorem c_L_restore (l : Launch) (hst : l.stackTraces = false) (G : gG) (hO : 403 ≤ gN G) (a1 : Int32) (S : Sg) (r : Int32) (S' : Sg) (hf : f_L_restore a1 S = some (r, S')) : gCw l yL_restore [Cond.codeWith yL_restore cL_restore 4 (some .int) [(0, 9, 12, 28), (0, 9, 15, 15)]] (gRx 9 187 2 12) G [.ref (G.2.1 0), .int a1, .ref (G.2.1 402)] S (some (.int r)) S' 2 12 := by
  refine gCw_of (by decide) (Nat.le_of_ble_eq_true rfl) ?_
  intro p e s m below meth c ls cx hX hZ htab hr hlk hw hS hl
  have hl : lv_has ls 4 [(0, .ref (G.2.1 0)), (1, .int a1), (2, .ref (G.2.1 402))] := hl
  have hN := cx.2.2.2.2.hN
  replace htab := gtab2 htab
  unfold f_L_restore at hf
  refine lv_aload_n cx.1 cx.2.1 dL_restore_0 rfl (lv_at hl 2 rfl) ?_
  refine lv_iconst (v := 0) cx.1 cx.2.1 dL_restore_1 (by decide) ?_
  refine lv_aload_n cx.1 cx.2.1 dL_restore_2 rfl (lv_at hl 0 rfl) ?_
  refine lv_iload_n cx.1 cx.2.1 dL_restore_3 rfl (lv_at hl 1 rfl) ?_
  rcases hx0 : f_X10_restore a1 S with _ | ⟨k9, v9, S9⟩
  · rw [hx0] at hf; cases hf
  · rw [hx0] at hf
    match k9, hx0, hf with
    | 0, hx0, hf =>
      refine gx_ret (gx_rV (As := [.int a1]) (rest := [.int (0 : Int32), .ref (G.2.1 402)]) cx hX hZ hw hS (c_X10_restore l hst G a1 S 0 v9 S9 hx0) (by omega) he_c0 rfl rfl gw_1143 gy_X10_restore gi_X10_restore ⟨Nat.le_of_ble_eq_true rfl, Nat.le_of_ble_eq_true rfl⟩ ⟨Nat.le_of_ble_eq_true rfl, Nat.le_of_ble_eq_true rfl⟩ rfl hl.1 rfl (Nat.le_of_ble_eq_true rfl) dL_restore_4) hS (fun H locs hw hS => ?_)
      refine W.eq (g2 := F0 m 7 ls [.int v9, .int (0 : Int32), .ref (G.2.1 402)]) rfl ?_
      refine lv_i2l cx.1 cx.2.1 dL_restore_7 rfl ?_
      refine g_last24 (v := v9) hO cx hw hS dL_restore_8 (fun H locs hw hS => ?_)
      refine lv_goto (tgt := 18) cx.1 cx.2.1 dL_restore_9 (by decide) ?_
      refine lv_iconst (v := 0) cx.1 cx.2.1 dL_restore_18 (by decide) ?_
      exact gw_ireti cx hr hlk hw hS hf dL_restore_19 (Nat.le_of_ble_eq_true rfl) (Nat.le_of_ble_eq_true rfl)
    | 1, hx0, hf =>
      have hf : some ((1 : Int32), S9) = some (r, S') := hf
      refine gx_caught (k := 0) (gx_rV (As := [.int a1]) (rest := [.int (0 : Int32), .ref (G.2.1 402)]) cx hX hZ hw hS (c_X10_restore l hst G a1 S 1 v9 S9 hx0) (by omega) he_c0 rfl rfl gw_1143 gy_X10_restore gi_X10_restore ⟨Nat.le_of_ble_eq_true rfl, Nat.le_of_ble_eq_true rfl⟩ ⟨Nat.le_of_ble_eq_true rfl, Nat.le_of_ble_eq_true rfl⟩ rfl hl.1 rfl (Nat.le_of_ble_eq_true rfl) dL_restore_4) hS (fun q9 ce H locs hce hcv hcl hS hw => ?_)
      refine vx_catch (own := RL) (name := gEn 1) (E := gEn 1) cx.2.2.2.1 [] ⟨0, 9, 12, 28⟩ [⟨0, 9, 15, 15⟩] htab (fun z hz => nomatch hz) (by decide) (by decide) (cx.2.2.2.2.ts _ gw_384) (gcast hX 1 gcm1) hce hcv hcl ?_
      refine W.eq (g2 := F0 m 12 ls [.ref q9]) rfl ?_
      refine lv_astore_n (lv' := [(3, .ref q9), (0, .ref (G.2.1 0)), (1, .int a1), (2, .ref (G.2.1 402))]) cx.1 cx.2.1 dL_restore_12 rfl hl (by decide) rfl (fun ls hl => ?_)
      refine lv_iconst (v := 1) cx.1 cx.2.1 dL_restore_13 (by decide) ?_
      exact gw_ireti cx hr hlk hw hS hf dL_restore_14 (Nat.le_of_ble_eq_true rfl) (Nat.le_of_ble_eq_true rfl)
    | 2, hx0, hf =>
      have hf : (none : Option (Int32 × Sg)) = some (r, S') := hf
      cases hf
    | 3, hx0, hf =>
      have hf : some ((2 : Int32), S9) = some (r, S') := hf
      refine gx_caught (k := 2) (gx_rV (As := [.int a1]) (rest := [.int (0 : Int32), .ref (G.2.1 402)]) cx hX hZ hw hS (c_X10_restore l hst G a1 S 3 v9 S9 hx0) (by omega) he_c0 rfl rfl gw_1143 gy_X10_restore gi_X10_restore ⟨Nat.le_of_ble_eq_true rfl, Nat.le_of_ble_eq_true rfl⟩ ⟨Nat.le_of_ble_eq_true rfl, Nat.le_of_ble_eq_true rfl⟩ rfl hl.1 rfl (Nat.le_of_ble_eq_true rfl) dL_restore_4) hS (fun q9 ce H locs hce hcv hcl hS hw => ?_)
      refine vx_catch (own := RL) (name := gEn 3) (E := gEn 3) cx.2.2.2.1 [⟨0, 9, 12, 28⟩] ⟨0, 9, 15, 15⟩ [] htab (List.forall_mem_cons.mpr ⟨Or.inr ⟨by decide, gEn 1, cx.2.2.2.2.ts _ gw_384, hX.2.2.2.1⟩, fun z hz => nomatch hz⟩) (by decide) (by decide) (cx.2.2.2.2.ts _ gw_169) (gcast hX 3 gcm3) hce hcv hcl ?_
      refine W.eq (g2 := F0 m 15 ls [.ref q9]) rfl ?_
      refine lv_astore_n (lv' := [(3, .ref q9), (0, .ref (G.2.1 0)), (1, .int a1), (2, .ref (G.2.1 402))]) cx.1 cx.2.1 dL_restore_15 rfl hl (by decide) rfl (fun ls hl => ?_)
      refine lv_iconst (v := 2) cx.1 cx.2.1 dL_restore_16 (by decide) ?_
      exact gw_ireti cx hr hlk hw hS hf dL_restore_17 (Nat.le_of_ble_eq_true rfl) (Nat.le_of_ble_eq_true rfl)
    | k9 + 4, hx0, hf =>
      have hf : (none : Option (Int32 × Sg)) = some (r, S') := hf
      cases hf
theorem gyw_L_restore : Cond.codeWith yL_restore cL_restore 4 (some .int) [(0, 9, 12, 28), (0, 9, 15, 15)] ∈ wsL_law ∧ Cond.static yL_restore ∈ wsL_law ∧ (parseMethodDescriptor yL_restore.desc).map (fun d => d.parameters.length) = some 3 := ⟨gw_1142, gw_1141, by decide +kernel⟩
