/-! ===== the law's loop, over an invariant of the world that each call keeps ===== -/
/-- a call that may throw: the class and the reference agree, and the invariant holds behind them -/
def OkA (fx fm : Sg → Option (Int32 × Sg)) (I : Sg → Prop) (S : Sg) : Prop := ∃ (k b : Int32) (S1 S2 : Sg), fx S = some (k, S1) ∧ fm S1 = some (b, S2) ∧ f_X11_thrown S2 = some (k, S2) ∧ (k = 0 → S2 402 0 = b) ∧ I S2
/-- a call that does not throw -/
def OkB (fx fm : Sg → Option (Int32 × Sg)) (I : Sg → Prop) (S : Sg) : Prop := ∃ (v : Int32) (S1 S2 : Sg), fx S = some (v, S1) ∧ fm S1 = some (v, S2) ∧ I S2
theorem lg_cmp_self (x : Int64) : lg_cmp x x = 0 := by simp [lg_cmp]
section GLW
variable {p : Program} {l : Launch} {e : Env} {R : Room} {s : State} {m : MethodId} {args : Array Value} {below : List Frame} {meth : Method} {c : Code} {H : Heap} {locs : List Loc} {cells slots : Nat} {Q : State → Prop}
variable {cc : ByteArray} {nL pc : Nat} {ls : Array Slot} {rest : List Value} {G : gG} {S S' : Sg} {own : String} {H0 : Heap} {sz mc ms : Nat}
theorem g_lald24 (hO : 403 ≤ gN G) (cx : gCx p s m c cc nL own G) (hP : gP G S H) (hdg : decode cc pc = .ok (.laload, 1))
    (kk : W p l e R s m args below meth c H locs cells slots Q (F0 m (pc + 1) ls (.long (S 402 0).toInt64 :: rest))) : W p l e R s m args below meth c H locs cells slots Q (F0 m pc ls (.int 0 :: .ref (G.2.1 402) :: rest)) :=
  va_lald (D := G.1) (n := 1) (f := fun j => (S 402 j).toInt64) cx.1 cx.2.1 (cx.2.2.2.2.2.2.2.2.2.2.2 hO) hP 402 0 (by rw [gw_at (by omega)]; rfl) rfl (i := 0) (by unfold vp_in; decide) hdg kk
theorem g_LS {y : MethodName} {bytes : ByteArray} {maxL n f lo index : Nat} {ret : Option FieldType} {hh : List (Nat × Nat × Nat × Nat)} {As : List Value} {st0 : List Value} {v : Option Value} (cx : gCx p s m c cc nL own G) (hX : gX s) (hZ : gZ (gA G s.heap.size) s s.heap) (hP : gP G S H) (hS : va_S (gA G s.heap.size) s.heap H locs)
    (hM : gCw l y [Cond.codeWith y bytes maxL ret hh] (gRx f lo mc ms) G As S v S' mc ms) (hlk : Cond.methodLink own index y ∈ wsL_law) (hini : Cond.initialized y.cls ∈ wsL_law) (hy : Cond.codeWith y bytes maxL ret hh ∈ wsL_law ∧ Cond.static y ∈ wsL_law ∧ (parseMethodDescriptor y.desc).map (fun d => d.parameters.length) = some n) (hne : y.cls ≠ "java/lang/invoke/MethodHandle" ∧ y.cls ≠ "java/lang/invoke/VarHandle")
    (hR : f + 1 ≤ R.frames ∧ 8 + (maxL + 11) + lo ≤ R.locals) (hcs : cells + mc ≤ R.cells ∧ slots + ms ≤ R.slots) (hn : As.length = n) (hl : ls.size = nL) (hst : st0 = As.reverse ++ rest) (hW : (rest.map fun v => v.category).sum ≤ 8) (hdg : decode cc pc = .ok (.invokestatic index, 3))
    (kk : ∀ (H1 : Heap) (locs1 : List Loc), gP G S' H1 → va_S (gA G s.heap.size) s.heap H1 locs1 → W p l e R s m args below meth c H1 locs1 (cells + mc) (slots + ms) Q (F0 m (pc + 3) ls (v.toList ++ rest))) : W p l e R s m args below meth c H locs cells slots Q (F0 m pc ls st0) := by
  refine g_after (vx_runSW (As := As) (rest := rest) ⟨cx.1, cx.2.1, cx.2.2.1, cx.2.2.2.1, cx.2.2.2.2.ts⟩ (hM H.size) ⟨⟨rfl, rfl, hR.1, hR.2, fun w hw a' U hW => ?_, List.mem_singleton.mpr rfl⟩, cx.2.2.2.2.ts _ hy.1, cx.2.2.2.2.ts _ hini, hne, fun sig h => ?_, cx.2.2.2.2.ts _ hlk, cx.2.2.2.2.ts _ hy.2.1⟩ ⟨gPcX_blind, gPcX_at cx.2.2.2.2 hX hZ hP hS⟩ rfl hn hl hst (lv_room hW) hdg hcs) hS (fun q _ h => gA_call hS q h) (gA_call hS) kk
  · rw [List.mem_singleton.mp hw]
    exact word_at hW (good_of_word (gw_good _ hy.1)) (cx.2.2.2.2.2.1 _ hy.1)
  · have h2 := hy.2.2
    rw [h] at h2
    exact (Option.some.inj h2).symm
end GLW
theorem nI_ix {x : Int32} {i k : Nat} (hx : x = nI i) (h : i + k < 2 ^ 31) : (x + nI k).toNatClampNeg = i + k := by rw [hx, nI_add]; exact nI_clamp h
theorem nI_inL {x : Int32} {i k L : Nat} (hx : x = nI i) (h : i + k < L) (hL : L < 2 ^ 31) : vp_in (x + nI k) L := by rw [hx, nI_add]; exact vp_in_nI h hL
theorem law_more {L i : Nat} {x : Int32} (hx : x = nI i) (hL : L ≤ 3072) (hi : i ≤ 3072) (h : ¬ Int32.ofNat L - 6 < x) : i + 6 ≤ L := by
  have e1 : (nI L - nI 6).toInt = (L : Int) - 6 := pk_sub_toInt (by omega) (by omega)
  have e2 : (nI i).toInt = (i : Int) := nI_toInt (by omega)
  have h1 : ¬ (nI L - nI 6) < nI i := by rw [← hx]; exact h
  rw [Int32.lt_iff_toInt_lt, e1, e2] at h1
  omega

set_option maxHeartbeats 4000000 in
set_option maxRecDepth 100000 in
theorem law_0 {p : Program} {l : Launch} {e : Env} {s : State} {m : MethodId} {below : List Frame} {meth : Method} {c : Code} {Q : State → Prop} {G : gG} {b L : Nat} {xs : Nat → Int32} (hst : l.stackTraces = false) (hO : 403 ≤ gN G) (cx : gCx p s m c cL_law 7 RL G) (hX : gX s) (hZ : gZ (gA G s.heap.size) s s.heap) (hXs : va_X b L xs s s.heap) (hbl : b < s.heap.size) (hbA : ¬ gA G s.heap.size b) (hL : L ≤ 3072) {i cells slots : Nat} {x4 : Int32} (hx4 : x4 = nI i) (hi : i + 6 ≤ L) (hcs : cells + 2 ≤ room_1.cells ∧ slots + 12 ≤ room_1.slots) {S : Sg} {H : Heap} {locs : List Loc} {ls : Array Slot} (hw : gP G S H) (hS : va_S (gA G s.heap.size) s.heap H locs) (hl : lv_has ls 7 [(0, .ref b), (1, .ref (G.2.1 0)), (2, .ref (G.2.1 392)), (3, .ref (G.2.1 402)), (4, .int x4)]) (I : Sg → Prop) (hok : OkA (f_L_append (xs (i + 1))) (f_X11_append (xs (i + 1))) I S)
    (kk : ∀ (S' : Sg) (H : Heap) (locs : List Loc) (ls : Array Slot), I S' → gP G S' H → va_S (gA G s.heap.size) s.heap H locs → lv_has ls 7 [(0, .ref b), (1, .ref (G.2.1 0)), (2, .ref (G.2.1 392)), (3, .ref (G.2.1 402)), (4, .int x4)] → W p l e room_1 s m #[Value.ref b] below meth c H locs (cells + 2) (slots + 12) Q (F0 m 1911 ls [])) : W p l e room_1 s m #[Value.ref b] below meth c H locs cells slots Q (F0 m 168 ls []) := by
  have hM : 402 ≤ gN G := by omega
  have hN := cx.2.2.2.2.hN
  obtain ⟨k9, b9, S1, S2, h1, h2, h3, h4, h5⟩ := hok
  refine lv_aload_n cx.1 cx.2.1 dL_law_168 rfl (lv_at hl 1 rfl) ?_
  refine lv_aload_n cx.1 cx.2.1 dL_law_169 rfl (lv_at hl 0 rfl) ?_
  refine lv_iload cx.1 cx.2.1 dL_law_170 (lv_at hl 4 rfl) ?_
  refine lv_iconst (v := nI 1) cx.1 cx.2.1 dL_law_172 (by decide) ?_
  refine lv_iadd cx.1 cx.2.1 dL_law_173 ?_
  refine va_sld cx.1 cx.2.1 hXs hbl hbA hS (nI_inL (k := 1) hx4 (by omega) (by omega)) dL_law_174 ?_
  refine W.eq (g2 := F0 m 175 ls [.int (xs (i + 1)), .ref (G.2.1 0)]) (by rw [nI_ix hx4 (by omega)]) ?_
  refine lv_aload_n cx.1 cx.2.1 dL_law_175 rfl (lv_at hl 3 rfl) ?_
  refine g_LS (As := [.ref (G.2.1 0), .int (xs (i + 1)), .ref (G.2.1 402)]) (rest := []) cx hX hZ hw hS (c_L_append l hst G hO (xs (i + 1)) S k9 S1 h1) gw_164 gw_166 gyw_L_append ⟨by decide, by decide⟩ ⟨Nat.le_of_ble_eq_true rfl, Nat.le_of_ble_eq_true rfl⟩ hcs rfl hl.1 rfl (Nat.le_of_ble_eq_true rfl) dL_law_176 (fun H locs hw hS => ?_)
  refine W.eq (g2 := F0 m 179 ls [.int k9]) rfl ?_
  refine lv_istore (lv' := [(5, .int k9), (0, .ref b), (1, .ref (G.2.1 0)), (2, .ref (G.2.1 392)), (3, .ref (G.2.1 402)), (4, .int x4)]) cx.1 cx.2.1 dL_law_179 hl (by decide) rfl (fun ls hl => ?_)
  refine lv_aload_n cx.1 cx.2.1 dL_law_181 rfl (lv_at hl 3 rfl) ?_
  refine lv_aload_n cx.1 cx.2.1 dL_law_182 rfl (lv_at hl 1 rfl) ?_
  refine lv_iload cx.1 cx.2.1 dL_law_183 (lv_at hl 5 rfl) ?_
  refine lv_iconst (v := nI 1) cx.1 cx.2.1 dL_law_185 (by decide) ?_
  refine lv_iadd cx.1 cx.2.1 dL_law_186 ?_
  refine va_sld cx.1 cx.2.1 hXs hbl hbA hS (nI_inL (k := 1) hx4 (by omega) (by omega)) dL_law_187 ?_
  refine W.eq (g2 := F0 m 188 ls [.int (xs (i + 1)), .ref (G.2.1 392)]) (by rw [nI_ix hx4 (by omega)]) ?_
  refine g_V (As := [.int (xs (i + 1))]) (rest := []) cx hw hS (c_X11_append l G hM (xs (i + 1)) S1 b9 S2 h2) (by omega) he_c392 rfl rfl gw_191 gy_X11_append gi_X11_append ⟨Nat.le_of_ble_eq_true rfl, Nat.le_of_ble_eq_true rfl⟩ hcs rfl hl.1 rfl (Nat.le_of_ble_eq_true rfl) dL_law_188 (fun H locs hw hS => ?_)
  refine W.eq (g2 := F0 m 191 ls [.int b9]) rfl ?_
  refine lv_istore (lv' := [(6, .int b9), (5, .int k9), (0, .ref b), (1, .ref (G.2.1 0)), (2, .ref (G.2.1 392)), (3, .ref (G.2.1 402)), (4, .int x4)]) cx.1 cx.2.1 dL_law_191 hl (by decide) rfl (fun ls hl => ?_)
  refine lv_aload_n cx.1 cx.2.1 dL_law_193 rfl (lv_at hl 4 rfl) ?_
  refine g_V (As := []) (rest := []) cx hw hS (c_X11_thrown l G hM S2 k9 S2 h3) (by omega) he_c392 rfl rfl gw_205 gy_X11_thrown gi_X11_thrown ⟨Nat.le_of_ble_eq_true rfl, Nat.le_of_ble_eq_true rfl⟩ hcs rfl hl.1 rfl (Nat.le_of_ble_eq_true rfl) dL_law_194 (fun H locs hw hS => ?_)
  refine W.eq (g2 := F0 m 197 ls [.int k9]) rfl ?_
  refine lv_iload cx.1 cx.2.1 dL_law_197 (lv_at hl 1 rfl) ?_
  refine lv_icmp_eq (tgt := 204) cx.1 cx.2.1 dL_law_199 (by decide) (fun _ => ?_) (fun hc => absurd rfl hc)
  refine lv_iload cx.1 cx.2.1 dL_law_204 (lv_at hl 1 rfl) ?_
  refine lv_if_ne (tgt := 221) cx.1 cx.2.1 dL_law_206 (by decide) (fun hc => ?_) (fun hc0 => ?_)
  · refine lv_goto (tgt := 1911) cx.1 cx.2.1 dL_law_221 (by decide) ?_
    exact kk S2 _ _ _ h5 hw hS (lv_sub hl [2, 3, 4, 5, 6] rfl)
  refine lv_aload_n cx.1 cx.2.1 dL_law_209 rfl (lv_at hl 5 rfl) ?_
  refine lv_iconst (v := (0 : Int32)) cx.1 cx.2.1 dL_law_210 (by decide) ?_
  refine g_lald24 hO cx hw dL_law_211 ?_
  refine lv_iload cx.1 cx.2.1 dL_law_212 (lv_at hl 0 rfl) ?_
  refine lv_i2l cx.1 cx.2.1 dL_law_214 rfl ?_
  refine W.lcmp cx.1 cx.2.1 dL_law_215 ?_
  refine lv_if_eq (tgt := 221) cx.1 cx.2.1 dL_law_216 (by decide) (fun _ => ?_) (fun hc => absurd (by rw [h4 hc0]; exact lg_cmp_self _) hc)
  refine lv_goto (tgt := 1911) cx.1 cx.2.1 dL_law_221 (by decide) ?_
  exact kk S2 _ _ _ h5 hw hS (lv_sub hl [2, 3, 4, 5, 6] rfl)
set_option maxHeartbeats 4000000 in
set_option maxRecDepth 100000 in
theorem law_1 {p : Program} {l : Launch} {e : Env} {s : State} {m : MethodId} {below : List Frame} {meth : Method} {c : Code} {Q : State → Prop} {G : gG} {b L : Nat} {xs : Nat → Int32} (hst : l.stackTraces = false) (hO : 403 ≤ gN G) (cx : gCx p s m c cL_law 7 RL G) (hX : gX s) (hZ : gZ (gA G s.heap.size) s s.heap) (hXs : va_X b L xs s s.heap) (hbl : b < s.heap.size) (hbA : ¬ gA G s.heap.size b) (hL : L ≤ 3072) {i cells slots : Nat} {x4 : Int32} (hx4 : x4 = nI i) (hi : i + 6 ≤ L) (hcs : cells + 0 ≤ room_1.cells ∧ slots + 0 ≤ room_1.slots) {S : Sg} {H : Heap} {locs : List Loc} {ls : Array Slot} (hw : gP G S H) (hS : va_S (gA G s.heap.size) s.heap H locs) (hl : lv_has ls 7 [(0, .ref b), (1, .ref (G.2.1 0)), (2, .ref (G.2.1 392)), (3, .ref (G.2.1 402)), (4, .int x4)]) (I : Sg → Prop) (hok : OkB (f_X10_clearText) (f_X11_clearText) I S)
    (kk : ∀ (S' : Sg) (H : Heap) (locs : List Loc) (ls : Array Slot), I S' → gP G S' H → va_S (gA G s.heap.size) s.heap H locs → lv_has ls 7 [(0, .ref b), (1, .ref (G.2.1 0)), (2, .ref (G.2.1 392)), (3, .ref (G.2.1 402)), (4, .int x4)] → W p l e room_1 s m #[Value.ref b] below meth c H locs (cells + 0) (slots + 0) Q (F0 m 1911 ls [])) : W p l e room_1 s m #[Value.ref b] below meth c H locs cells slots Q (F0 m 224 ls []) := by
  have hM : 402 ≤ gN G := by omega
  have hN := cx.2.2.2.2.hN
  obtain ⟨v9, S1, S2, h1, h2, h3⟩ := hok
  have hcs0 : cells ≤ room_1.cells ∧ slots ≤ room_1.slots := hcs
  refine lv_aload_n cx.1 cx.2.1 dL_law_224 rfl (lv_at hl 1 rfl) ?_
  refine g_V (As := []) (rest := []) cx hw hS (c_X10_clearText l G S v9 S1 h1) (by omega) he_c0 rfl rfl gw_209 gy_X10_clearText gi_X10_clearText ⟨Nat.le_of_ble_eq_true rfl, Nat.le_of_ble_eq_true rfl⟩ hcs0 rfl hl.1 rfl (Nat.le_of_ble_eq_true rfl) dL_law_225 (fun H locs hw hS => ?_)
  refine W.eq (g2 := F0 m 228 ls [.int v9]) rfl ?_
  refine lv_aload_n cx.1 cx.2.1 dL_law_228 rfl (lv_at hl 2 rfl) ?_
  refine g_V (As := []) (rest := [.int v9]) cx hw hS (c_X11_clearText l G hM S1 v9 S2 h2) (by omega) he_c392 rfl rfl gw_217 gy_X11_clearText gi_X11_clearText ⟨Nat.le_of_ble_eq_true rfl, Nat.le_of_ble_eq_true rfl⟩ hcs0 rfl hl.1 rfl (Nat.le_of_ble_eq_true rfl) dL_law_229 (fun H locs hw hS => ?_)
  refine W.eq (g2 := F0 m 232 ls [.int v9, .int v9]) rfl ?_
  refine lv_icmp_eq (tgt := 1911) cx.1 cx.2.1 dL_law_232 (by decide) (fun _ => ?_) (fun hc => absurd rfl hc)
  exact kk S2 _ _ _ h3 hw hS (lv_sub hl [0, 1, 2, 3, 4] rfl)
set_option maxHeartbeats 4000000 in
set_option maxRecDepth 100000 in
theorem law_2 {p : Program} {l : Launch} {e : Env} {s : State} {m : MethodId} {below : List Frame} {meth : Method} {c : Code} {Q : State → Prop} {G : gG} {b L : Nat} {xs : Nat → Int32} (hst : l.stackTraces = false) (hO : 403 ≤ gN G) (cx : gCx p s m c cL_law 7 RL G) (hX : gX s) (hZ : gZ (gA G s.heap.size) s s.heap) (hXs : va_X b L xs s s.heap) (hbl : b < s.heap.size) (hbA : ¬ gA G s.heap.size b) (hL : L ≤ 3072) {i cells slots : Nat} {x4 : Int32} (hx4 : x4 = nI i) (hi : i + 6 ≤ L) (hcs : cells + 0 ≤ room_1.cells ∧ slots + 0 ≤ room_1.slots) {S : Sg} {H : Heap} {locs : List Loc} {ls : Array Slot} (hw : gP G S H) (hS : va_S (gA G s.heap.size) s.heap H locs) (hl : lv_has ls 7 [(0, .ref b), (1, .ref (G.2.1 0)), (2, .ref (G.2.1 392)), (3, .ref (G.2.1 402)), (4, .int x4)]) (I : Sg → Prop) (hok : OkB (f_X10_errorPosition) (f_X11_errorPosition) I S)
    (kk : ∀ (S' : Sg) (H : Heap) (locs : List Loc) (ls : Array Slot), I S' → gP G S' H → va_S (gA G s.heap.size) s.heap H locs → lv_has ls 7 [(0, .ref b), (1, .ref (G.2.1 0)), (2, .ref (G.2.1 392)), (3, .ref (G.2.1 402)), (4, .int x4)] → W p l e room_1 s m #[Value.ref b] below meth c H locs (cells + 0) (slots + 0) Q (F0 m 1911 ls [])) : W p l e room_1 s m #[Value.ref b] below meth c H locs cells slots Q (F0 m 237 ls []) := by
  have hM : 402 ≤ gN G := by omega
  have hN := cx.2.2.2.2.hN
  obtain ⟨v9, S1, S2, h1, h2, h3⟩ := hok
  have hcs0 : cells ≤ room_1.cells ∧ slots ≤ room_1.slots := hcs
  refine lv_aload_n cx.1 cx.2.1 dL_law_237 rfl (lv_at hl 1 rfl) ?_
  refine g_V (As := []) (rest := []) cx hw hS (c_X10_errorPosition l G S v9 S1 h1) (by omega) he_c0 rfl rfl gw_221 gy_X10_errorPosition gi_X10_errorPosition ⟨Nat.le_of_ble_eq_true rfl, Nat.le_of_ble_eq_true rfl⟩ hcs0 rfl hl.1 rfl (Nat.le_of_ble_eq_true rfl) dL_law_238 (fun H locs hw hS => ?_)
  refine W.eq (g2 := F0 m 241 ls [.int v9]) rfl ?_
  refine lv_aload_n cx.1 cx.2.1 dL_law_241 rfl (lv_at hl 2 rfl) ?_
  refine g_V (As := []) (rest := [.int v9]) cx hw hS (c_X11_errorPosition l G hM S1 v9 S2 h2) (by omega) he_c392 rfl rfl gw_271 gy_X11_errorPosition gi_X11_errorPosition ⟨Nat.le_of_ble_eq_true rfl, Nat.le_of_ble_eq_true rfl⟩ hcs0 rfl hl.1 rfl (Nat.le_of_ble_eq_true rfl) dL_law_242 (fun H locs hw hS => ?_)
  refine W.eq (g2 := F0 m 245 ls [.int v9, .int v9]) rfl ?_
  refine lv_icmp_eq (tgt := 1911) cx.1 cx.2.1 dL_law_245 (by decide) (fun _ => ?_) (fun hc => absurd rfl hc)
  exact kk S2 _ _ _ h3 hw hS (lv_sub hl [0, 1, 2, 3, 4] rfl)
set_option maxHeartbeats 4000000 in
set_option maxRecDepth 100000 in
theorem law_3 {p : Program} {l : Launch} {e : Env} {s : State} {m : MethodId} {below : List Frame} {meth : Method} {c : Code} {Q : State → Prop} {G : gG} {b L : Nat} {xs : Nat → Int32} (hst : l.stackTraces = false) (hO : 403 ≤ gN G) (cx : gCx p s m c cL_law 7 RL G) (hX : gX s) (hZ : gZ (gA G s.heap.size) s s.heap) (hXs : va_X b L xs s s.heap) (hbl : b < s.heap.size) (hbA : ¬ gA G s.heap.size b) (hL : L ≤ 3072) {i cells slots : Nat} {x4 : Int32} (hx4 : x4 = nI i) (hi : i + 6 ≤ L) (hcs : cells + 1 ≤ room_1.cells ∧ slots + 6 ≤ room_1.slots) {S : Sg} {H : Heap} {locs : List Loc} {ls : Array Slot} (hw : gP G S H) (hS : va_S (gA G s.heap.size) s.heap H locs) (hl : lv_has ls 7 [(0, .ref b), (1, .ref (G.2.1 0)), (2, .ref (G.2.1 392)), (3, .ref (G.2.1 402)), (4, .int x4)]) (I : Sg → Prop) (hok : OkA (f_L_load) (f_X11_load) I S)
    (kk : ∀ (S' : Sg) (H : Heap) (locs : List Loc) (ls : Array Slot), I S' → gP G S' H → va_S (gA G s.heap.size) s.heap H locs → lv_has ls 7 [(0, .ref b), (1, .ref (G.2.1 0)), (2, .ref (G.2.1 392)), (3, .ref (G.2.1 402)), (4, .int x4)] → W p l e room_1 s m #[Value.ref b] below meth c H locs (cells + 1) (slots + 6) Q (F0 m 1911 ls [])) : W p l e room_1 s m #[Value.ref b] below meth c H locs cells slots Q (F0 m 250 ls []) := by
  have hM : 402 ≤ gN G := by omega
  have hN := cx.2.2.2.2.hN
  obtain ⟨k9, b9, S1, S2, h1, h2, h3, h4, h5⟩ := hok
  refine lv_aload_n cx.1 cx.2.1 dL_law_250 rfl (lv_at hl 1 rfl) ?_
  refine lv_aload_n cx.1 cx.2.1 dL_law_251 rfl (lv_at hl 3 rfl) ?_
  refine g_LS (As := [.ref (G.2.1 0), .ref (G.2.1 402)]) (rest := []) cx hX hZ hw hS (c_L_load l hst G hO S k9 S1 h1) gw_302 gw_166 gyw_L_load ⟨by decide, by decide⟩ ⟨Nat.le_of_ble_eq_true rfl, Nat.le_of_ble_eq_true rfl⟩ hcs rfl hl.1 rfl (Nat.le_of_ble_eq_true rfl) dL_law_252 (fun H locs hw hS => ?_)
  refine W.eq (g2 := F0 m 255 ls [.int k9]) rfl ?_
  refine lv_istore (lv' := [(5, .int k9), (0, .ref b), (1, .ref (G.2.1 0)), (2, .ref (G.2.1 392)), (3, .ref (G.2.1 402)), (4, .int x4)]) cx.1 cx.2.1 dL_law_255 hl (by decide) rfl (fun ls hl => ?_)
  refine lv_aload_n cx.1 cx.2.1 dL_law_257 rfl (lv_at hl 3 rfl) ?_
  refine g_V (As := []) (rest := []) cx hw hS (c_X11_load l G hM S1 b9 S2 h2) (by omega) he_c392 rfl rfl gw_345 gy_X11_load gi_X11_load ⟨Nat.le_of_ble_eq_true rfl, Nat.le_of_ble_eq_true rfl⟩ hcs rfl hl.1 rfl (Nat.le_of_ble_eq_true rfl) dL_law_258 (fun H locs hw hS => ?_)
  refine W.eq (g2 := F0 m 261 ls [.int b9]) rfl ?_
  refine lv_istore (lv' := [(6, .int b9), (5, .int k9), (0, .ref b), (1, .ref (G.2.1 0)), (2, .ref (G.2.1 392)), (3, .ref (G.2.1 402)), (4, .int x4)]) cx.1 cx.2.1 dL_law_261 hl (by decide) rfl (fun ls hl => ?_)
  refine lv_aload_n cx.1 cx.2.1 dL_law_263 rfl (lv_at hl 4 rfl) ?_
  refine g_V (As := []) (rest := []) cx hw hS (c_X11_thrown l G hM S2 k9 S2 h3) (by omega) he_c392 rfl rfl gw_205 gy_X11_thrown gi_X11_thrown ⟨Nat.le_of_ble_eq_true rfl, Nat.le_of_ble_eq_true rfl⟩ hcs rfl hl.1 rfl (Nat.le_of_ble_eq_true rfl) dL_law_264 (fun H locs hw hS => ?_)
  refine W.eq (g2 := F0 m 267 ls [.int k9]) rfl ?_
  refine lv_iload cx.1 cx.2.1 dL_law_267 (lv_at hl 1 rfl) ?_
  refine lv_icmp_eq (tgt := 274) cx.1 cx.2.1 dL_law_269 (by decide) (fun _ => ?_) (fun hc => absurd rfl hc)
  refine lv_iload cx.1 cx.2.1 dL_law_274 (lv_at hl 1 rfl) ?_
  refine lv_if_ne (tgt := 291) cx.1 cx.2.1 dL_law_276 (by decide) (fun hc => ?_) (fun hc0 => ?_)
  · refine lv_goto (tgt := 1911) cx.1 cx.2.1 dL_law_291 (by decide) ?_
    exact kk S2 _ _ _ h5 hw hS (lv_sub hl [2, 3, 4, 5, 6] rfl)
  refine lv_aload_n cx.1 cx.2.1 dL_law_279 rfl (lv_at hl 5 rfl) ?_
  refine lv_iconst (v := (0 : Int32)) cx.1 cx.2.1 dL_law_280 (by decide) ?_
  refine g_lald24 hO cx hw dL_law_281 ?_
  refine lv_iload cx.1 cx.2.1 dL_law_282 (lv_at hl 0 rfl) ?_
  refine lv_i2l cx.1 cx.2.1 dL_law_284 rfl ?_
  refine W.lcmp cx.1 cx.2.1 dL_law_285 ?_
  refine lv_if_eq (tgt := 291) cx.1 cx.2.1 dL_law_286 (by decide) (fun _ => ?_) (fun hc => absurd (by rw [h4 hc0]; exact lg_cmp_self _) hc)
  refine lv_goto (tgt := 1911) cx.1 cx.2.1 dL_law_291 (by decide) ?_
  exact kk S2 _ _ _ h5 hw hS (lv_sub hl [2, 3, 4, 5, 6] rfl)
set_option maxHeartbeats 4000000 in
set_option maxRecDepth 100000 in
theorem law_4 {p : Program} {l : Launch} {e : Env} {s : State} {m : MethodId} {below : List Frame} {meth : Method} {c : Code} {Q : State → Prop} {G : gG} {b L : Nat} {xs : Nat → Int32} (hst : l.stackTraces = false) (hO : 403 ≤ gN G) (cx : gCx p s m c cL_law 7 RL G) (hX : gX s) (hZ : gZ (gA G s.heap.size) s s.heap) (hXs : va_X b L xs s s.heap) (hbl : b < s.heap.size) (hbA : ¬ gA G s.heap.size b) (hL : L ≤ 3072) {i cells slots : Nat} {x4 : Int32} (hx4 : x4 = nI i) (hi : i + 6 ≤ L) (hcs : cells + 1 ≤ room_1.cells ∧ slots + 6 ≤ room_1.slots) {S : Sg} {H : Heap} {locs : List Loc} {ls : Array Slot} (hw : gP G S H) (hS : va_S (gA G s.heap.size) s.heap H locs) (hl : lv_has ls 7 [(0, .ref b), (1, .ref (G.2.1 0)), (2, .ref (G.2.1 392)), (3, .ref (G.2.1 402)), (4, .int x4)]) (I : Sg → Prop) (hok : OkA (f_L_about (xs (i + 1))) (f_X11_about (xs (i + 1))) I S)
    (kk : ∀ (S' : Sg) (H : Heap) (locs : List Loc) (ls : Array Slot), I S' → gP G S' H → va_S (gA G s.heap.size) s.heap H locs → lv_has ls 7 [(0, .ref b), (1, .ref (G.2.1 0)), (2, .ref (G.2.1 392)), (3, .ref (G.2.1 402)), (4, .int x4)] → W p l e room_1 s m #[Value.ref b] below meth c H locs (cells + 1) (slots + 6) Q (F0 m 1911 ls [])) : W p l e room_1 s m #[Value.ref b] below meth c H locs cells slots Q (F0 m 294 ls []) := by
  have hM : 402 ≤ gN G := by omega
  have hN := cx.2.2.2.2.hN
  obtain ⟨k9, b9, S1, S2, h1, h2, h3, h4, h5⟩ := hok
  refine lv_aload_n cx.1 cx.2.1 dL_law_294 rfl (lv_at hl 1 rfl) ?_
  refine lv_aload_n cx.1 cx.2.1 dL_law_295 rfl (lv_at hl 0 rfl) ?_
  refine lv_iload cx.1 cx.2.1 dL_law_296 (lv_at hl 4 rfl) ?_
  refine lv_iconst (v := nI 1) cx.1 cx.2.1 dL_law_298 (by decide) ?_
  refine lv_iadd cx.1 cx.2.1 dL_law_299 ?_
  refine va_sld cx.1 cx.2.1 hXs hbl hbA hS (nI_inL (k := 1) hx4 (by omega) (by omega)) dL_law_300 ?_
  refine W.eq (g2 := F0 m 301 ls [.int (xs (i + 1)), .ref (G.2.1 0)]) (by rw [nI_ix hx4 (by omega)]) ?_
  refine lv_aload_n cx.1 cx.2.1 dL_law_301 rfl (lv_at hl 3 rfl) ?_
  refine g_LS (As := [.ref (G.2.1 0), .int (xs (i + 1)), .ref (G.2.1 402)]) (rest := []) cx hX hZ hw hS (c_L_about l hst G hO (xs (i + 1)) S k9 S1 h1) gw_353 gw_166 gyw_L_about ⟨by decide, by decide⟩ ⟨Nat.le_of_ble_eq_true rfl, Nat.le_of_ble_eq_true rfl⟩ hcs rfl hl.1 rfl (Nat.le_of_ble_eq_true rfl) dL_law_302 (fun H locs hw hS => ?_)
  refine W.eq (g2 := F0 m 305 ls [.int k9]) rfl ?_
  refine lv_istore (lv' := [(5, .int k9), (0, .ref b), (1, .ref (G.2.1 0)), (2, .ref (G.2.1 392)), (3, .ref (G.2.1 402)), (4, .int x4)]) cx.1 cx.2.1 dL_law_305 hl (by decide) rfl (fun ls hl => ?_)
  refine lv_aload_n cx.1 cx.2.1 dL_law_307 rfl (lv_at hl 3 rfl) ?_
  refine lv_aload_n cx.1 cx.2.1 dL_law_308 rfl (lv_at hl 1 rfl) ?_
  refine lv_iload cx.1 cx.2.1 dL_law_309 (lv_at hl 5 rfl) ?_
  refine lv_iconst (v := nI 1) cx.1 cx.2.1 dL_law_311 (by decide) ?_
  refine lv_iadd cx.1 cx.2.1 dL_law_312 ?_
  refine va_sld cx.1 cx.2.1 hXs hbl hbA hS (nI_inL (k := 1) hx4 (by omega) (by omega)) dL_law_313 ?_
  refine W.eq (g2 := F0 m 314 ls [.int (xs (i + 1)), .ref (G.2.1 392)]) (by rw [nI_ix hx4 (by omega)]) ?_
  refine g_V (As := [.int (xs (i + 1))]) (rest := []) cx hw hS (c_X11_about l G hM (xs (i + 1)) S1 b9 S2 h2) (by omega) he_c392 rfl rfl gw_376 gy_X11_about gi_X11_about ⟨Nat.le_of_ble_eq_true rfl, Nat.le_of_ble_eq_true rfl⟩ hcs rfl hl.1 rfl (Nat.le_of_ble_eq_true rfl) dL_law_314 (fun H locs hw hS => ?_)
  refine W.eq (g2 := F0 m 317 ls [.int b9]) rfl ?_
  refine lv_istore (lv' := [(6, .int b9), (5, .int k9), (0, .ref b), (1, .ref (G.2.1 0)), (2, .ref (G.2.1 392)), (3, .ref (G.2.1 402)), (4, .int x4)]) cx.1 cx.2.1 dL_law_317 hl (by decide) rfl (fun ls hl => ?_)
  refine lv_aload_n cx.1 cx.2.1 dL_law_319 rfl (lv_at hl 4 rfl) ?_
  refine g_V (As := []) (rest := []) cx hw hS (c_X11_thrown l G hM S2 k9 S2 h3) (by omega) he_c392 rfl rfl gw_205 gy_X11_thrown gi_X11_thrown ⟨Nat.le_of_ble_eq_true rfl, Nat.le_of_ble_eq_true rfl⟩ hcs rfl hl.1 rfl (Nat.le_of_ble_eq_true rfl) dL_law_320 (fun H locs hw hS => ?_)
  refine W.eq (g2 := F0 m 323 ls [.int k9]) rfl ?_
  refine lv_iload cx.1 cx.2.1 dL_law_323 (lv_at hl 1 rfl) ?_
  refine lv_icmp_eq (tgt := 330) cx.1 cx.2.1 dL_law_325 (by decide) (fun _ => ?_) (fun hc => absurd rfl hc)
  refine lv_iload cx.1 cx.2.1 dL_law_330 (lv_at hl 1 rfl) ?_
  refine lv_if_ne (tgt := 347) cx.1 cx.2.1 dL_law_332 (by decide) (fun hc => ?_) (fun hc0 => ?_)
  · refine lv_goto (tgt := 1911) cx.1 cx.2.1 dL_law_347 (by decide) ?_
    exact kk S2 _ _ _ h5 hw hS (lv_sub hl [2, 3, 4, 5, 6] rfl)
  refine lv_aload_n cx.1 cx.2.1 dL_law_335 rfl (lv_at hl 5 rfl) ?_
  refine lv_iconst (v := (0 : Int32)) cx.1 cx.2.1 dL_law_336 (by decide) ?_
  refine g_lald24 hO cx hw dL_law_337 ?_
  refine lv_iload cx.1 cx.2.1 dL_law_338 (lv_at hl 0 rfl) ?_
  refine lv_i2l cx.1 cx.2.1 dL_law_340 rfl ?_
  refine W.lcmp cx.1 cx.2.1 dL_law_341 ?_
  refine lv_if_eq (tgt := 347) cx.1 cx.2.1 dL_law_342 (by decide) (fun _ => ?_) (fun hc => absurd (by rw [h4 hc0]; exact lg_cmp_self _) hc)
  refine lv_goto (tgt := 1911) cx.1 cx.2.1 dL_law_347 (by decide) ?_
  exact kk S2 _ _ _ h5 hw hS (lv_sub hl [2, 3, 4, 5, 6] rfl)
set_option maxHeartbeats 4000000 in
set_option maxRecDepth 100000 in
theorem law_5 {p : Program} {l : Launch} {e : Env} {s : State} {m : MethodId} {below : List Frame} {meth : Method} {c : Code} {Q : State → Prop} {G : gG} {b L : Nat} {xs : Nat → Int32} (hst : l.stackTraces = false) (hO : 403 ≤ gN G) (cx : gCx p s m c cL_law 7 RL G) (hX : gX s) (hZ : gZ (gA G s.heap.size) s s.heap) (hXs : va_X b L xs s s.heap) (hbl : b < s.heap.size) (hbA : ¬ gA G s.heap.size b) (hL : L ≤ 3072) {i cells slots : Nat} {x4 : Int32} (hx4 : x4 = nI i) (hi : i + 6 ≤ L) (hcs : cells + 2 ≤ room_1.cells ∧ slots + 12 ≤ room_1.slots) {S : Sg} {H : Heap} {locs : List Loc} {ls : Array Slot} (hw : gP G S H) (hS : va_S (gA G s.heap.size) s.heap H locs) (hl : lv_has ls 7 [(0, .ref b), (1, .ref (G.2.1 0)), (2, .ref (G.2.1 392)), (3, .ref (G.2.1 402)), (4, .int x4)]) (I : Sg → Prop) (hok : OkA (f_L_track (xs (i + 1)) (xs (i + 2))) (f_X11_track (xs (i + 1)) (xs (i + 2))) I S)
    (kk : ∀ (S' : Sg) (H : Heap) (locs : List Loc) (ls : Array Slot), I S' → gP G S' H → va_S (gA G s.heap.size) s.heap H locs → lv_has ls 7 [(0, .ref b), (1, .ref (G.2.1 0)), (2, .ref (G.2.1 392)), (3, .ref (G.2.1 402)), (4, .int x4)] → W p l e room_1 s m #[Value.ref b] below meth c H locs (cells + 2) (slots + 12) Q (F0 m 1911 ls [])) : W p l e room_1 s m #[Value.ref b] below meth c H locs cells slots Q (F0 m 350 ls []) := by
  have hM : 402 ≤ gN G := by omega
  have hN := cx.2.2.2.2.hN
  obtain ⟨k9, b9, S1, S2, h1, h2, h3, h4, h5⟩ := hok
  refine lv_aload_n cx.1 cx.2.1 dL_law_350 rfl (lv_at hl 1 rfl) ?_
  refine lv_aload_n cx.1 cx.2.1 dL_law_351 rfl (lv_at hl 0 rfl) ?_
  refine lv_iload cx.1 cx.2.1 dL_law_352 (lv_at hl 4 rfl) ?_
  refine lv_iconst (v := nI 1) cx.1 cx.2.1 dL_law_354 (by decide) ?_
  refine lv_iadd cx.1 cx.2.1 dL_law_355 ?_
  refine va_sld cx.1 cx.2.1 hXs hbl hbA hS (nI_inL (k := 1) hx4 (by omega) (by omega)) dL_law_356 ?_
  refine W.eq (g2 := F0 m 357 ls [.int (xs (i + 1)), .ref (G.2.1 0)]) (by rw [nI_ix hx4 (by omega)]) ?_
  refine lv_aload_n cx.1 cx.2.1 dL_law_357 rfl (lv_at hl 0 rfl) ?_
  refine lv_iload cx.1 cx.2.1 dL_law_358 (lv_at hl 4 rfl) ?_
  refine lv_iconst (v := nI 2) cx.1 cx.2.1 dL_law_360 (by decide) ?_
  refine lv_iadd cx.1 cx.2.1 dL_law_361 ?_
  refine va_sld cx.1 cx.2.1 hXs hbl hbA hS (nI_inL (k := 2) hx4 (by omega) (by omega)) dL_law_362 ?_
  refine W.eq (g2 := F0 m 363 ls [.int (xs (i + 2)), .int (xs (i + 1)), .ref (G.2.1 0)]) (by rw [nI_ix hx4 (by omega)]) ?_
  refine lv_aload_n cx.1 cx.2.1 dL_law_363 rfl (lv_at hl 3 rfl) ?_
  refine g_LS (As := [.ref (G.2.1 0), .int (xs (i + 1)), .int (xs (i + 2)), .ref (G.2.1 402)]) (rest := []) cx hX hZ hw hS (c_L_track l hst G hO (xs (i + 1)) (xs (i + 2)) S k9 S1 h1) gw_381 gw_166 gyw_L_track ⟨by decide, by decide⟩ ⟨Nat.le_of_ble_eq_true rfl, Nat.le_of_ble_eq_true rfl⟩ hcs rfl hl.1 rfl (Nat.le_of_ble_eq_true rfl) dL_law_364 (fun H locs hw hS => ?_)
  refine W.eq (g2 := F0 m 367 ls [.int k9]) rfl ?_
  refine lv_istore (lv' := [(5, .int k9), (0, .ref b), (1, .ref (G.2.1 0)), (2, .ref (G.2.1 392)), (3, .ref (G.2.1 402)), (4, .int x4)]) cx.1 cx.2.1 dL_law_367 hl (by decide) rfl (fun ls hl => ?_)
  refine lv_aload_n cx.1 cx.2.1 dL_law_369 rfl (lv_at hl 3 rfl) ?_
  refine lv_aload_n cx.1 cx.2.1 dL_law_370 rfl (lv_at hl 1 rfl) ?_
  refine lv_iload cx.1 cx.2.1 dL_law_371 (lv_at hl 5 rfl) ?_
  refine lv_iconst (v := nI 1) cx.1 cx.2.1 dL_law_373 (by decide) ?_
  refine lv_iadd cx.1 cx.2.1 dL_law_374 ?_
  refine va_sld cx.1 cx.2.1 hXs hbl hbA hS (nI_inL (k := 1) hx4 (by omega) (by omega)) dL_law_375 ?_
  refine W.eq (g2 := F0 m 376 ls [.int (xs (i + 1)), .ref (G.2.1 392)]) (by rw [nI_ix hx4 (by omega)]) ?_
  refine lv_aload_n cx.1 cx.2.1 dL_law_376 rfl (lv_at hl 1 rfl) ?_
  refine lv_iload cx.1 cx.2.1 dL_law_377 (lv_at hl 5 rfl) ?_
  refine lv_iconst (v := nI 2) cx.1 cx.2.1 dL_law_379 (by decide) ?_
  refine lv_iadd cx.1 cx.2.1 dL_law_380 ?_
  refine va_sld cx.1 cx.2.1 hXs hbl hbA hS (nI_inL (k := 2) hx4 (by omega) (by omega)) dL_law_381 ?_
  refine W.eq (g2 := F0 m 382 ls [.int (xs (i + 2)), .int (xs (i + 1)), .ref (G.2.1 392)]) (by rw [nI_ix hx4 (by omega)]) ?_
  refine g_V (As := [.int (xs (i + 1)), .int (xs (i + 2))]) (rest := []) cx hw hS (c_X11_track l G hM (xs (i + 1)) (xs (i + 2)) S1 b9 S2 h2) (by omega) he_c392 rfl rfl gw_410 gy_X11_track gi_X11_track ⟨Nat.le_of_ble_eq_true rfl, Nat.le_of_ble_eq_true rfl⟩ hcs rfl hl.1 rfl (Nat.le_of_ble_eq_true rfl) dL_law_382 (fun H locs hw hS => ?_)
  refine W.eq (g2 := F0 m 385 ls [.int b9]) rfl ?_
  refine lv_istore (lv' := [(6, .int b9), (5, .int k9), (0, .ref b), (1, .ref (G.2.1 0)), (2, .ref (G.2.1 392)), (3, .ref (G.2.1 402)), (4, .int x4)]) cx.1 cx.2.1 dL_law_385 hl (by decide) rfl (fun ls hl => ?_)
  refine lv_aload_n cx.1 cx.2.1 dL_law_387 rfl (lv_at hl 4 rfl) ?_
  refine g_V (As := []) (rest := []) cx hw hS (c_X11_thrown l G hM S2 k9 S2 h3) (by omega) he_c392 rfl rfl gw_205 gy_X11_thrown gi_X11_thrown ⟨Nat.le_of_ble_eq_true rfl, Nat.le_of_ble_eq_true rfl⟩ hcs rfl hl.1 rfl (Nat.le_of_ble_eq_true rfl) dL_law_388 (fun H locs hw hS => ?_)
  refine W.eq (g2 := F0 m 391 ls [.int k9]) rfl ?_
  refine lv_iload cx.1 cx.2.1 dL_law_391 (lv_at hl 1 rfl) ?_
  refine lv_icmp_eq (tgt := 398) cx.1 cx.2.1 dL_law_393 (by decide) (fun _ => ?_) (fun hc => absurd rfl hc)
  refine lv_iload cx.1 cx.2.1 dL_law_398 (lv_at hl 1 rfl) ?_
  refine lv_if_ne (tgt := 415) cx.1 cx.2.1 dL_law_400 (by decide) (fun hc => ?_) (fun hc0 => ?_)
  · refine lv_goto (tgt := 1911) cx.1 cx.2.1 dL_law_415 (by decide) ?_
    exact kk S2 _ _ _ h5 hw hS (lv_sub hl [2, 3, 4, 5, 6] rfl)
  refine lv_aload_n cx.1 cx.2.1 dL_law_403 rfl (lv_at hl 5 rfl) ?_
  refine lv_iconst (v := (0 : Int32)) cx.1 cx.2.1 dL_law_404 (by decide) ?_
  refine g_lald24 hO cx hw dL_law_405 ?_
  refine lv_iload cx.1 cx.2.1 dL_law_406 (lv_at hl 0 rfl) ?_
  refine lv_i2l cx.1 cx.2.1 dL_law_408 rfl ?_
  refine W.lcmp cx.1 cx.2.1 dL_law_409 ?_
  refine lv_if_eq (tgt := 415) cx.1 cx.2.1 dL_law_410 (by decide) (fun _ => ?_) (fun hc => absurd (by rw [h4 hc0]; exact lg_cmp_self _) hc)
  refine lv_goto (tgt := 1911) cx.1 cx.2.1 dL_law_415 (by decide) ?_
  exact kk S2 _ _ _ h5 hw hS (lv_sub hl [2, 3, 4, 5, 6] rfl)
set_option maxHeartbeats 4000000 in
set_option maxRecDepth 100000 in
theorem law_6 {p : Program} {l : Launch} {e : Env} {s : State} {m : MethodId} {below : List Frame} {meth : Method} {c : Code} {Q : State → Prop} {G : gG} {b L : Nat} {xs : Nat → Int32} (hst : l.stackTraces = false) (hO : 403 ≤ gN G) (cx : gCx p s m c cL_law 7 RL G) (hX : gX s) (hZ : gZ (gA G s.heap.size) s s.heap) (hXs : va_X b L xs s s.heap) (hbl : b < s.heap.size) (hbA : ¬ gA G s.heap.size b) (hL : L ≤ 3072) {i cells slots : Nat} {x4 : Int32} (hx4 : x4 = nI i) (hi : i + 6 ≤ L) (hcs : cells + 2 ≤ room_1.cells ∧ slots + 12 ≤ room_1.slots) {S : Sg} {H : Heap} {locs : List Loc} {ls : Array Slot} (hw : gP G S H) (hS : va_S (gA G s.heap.size) s.heap H locs) (hl : lv_has ls 7 [(0, .ref b), (1, .ref (G.2.1 0)), (2, .ref (G.2.1 392)), (3, .ref (G.2.1 402)), (4, .int x4)]) (I : Sg → Prop) (hok : OkA (f_L_company (xs (i + 1)) (xs (i + 2))) (f_X11_company (xs (i + 1)) (xs (i + 2))) I S)
    (kk : ∀ (S' : Sg) (H : Heap) (locs : List Loc) (ls : Array Slot), I S' → gP G S' H → va_S (gA G s.heap.size) s.heap H locs → lv_has ls 7 [(0, .ref b), (1, .ref (G.2.1 0)), (2, .ref (G.2.1 392)), (3, .ref (G.2.1 402)), (4, .int x4)] → W p l e room_1 s m #[Value.ref b] below meth c H locs (cells + 2) (slots + 12) Q (F0 m 1911 ls [])) : W p l e room_1 s m #[Value.ref b] below meth c H locs cells slots Q (F0 m 418 ls []) := by
  have hM : 402 ≤ gN G := by omega
  have hN := cx.2.2.2.2.hN
  obtain ⟨k9, b9, S1, S2, h1, h2, h3, h4, h5⟩ := hok
  refine lv_aload_n cx.1 cx.2.1 dL_law_418 rfl (lv_at hl 1 rfl) ?_
  refine lv_aload_n cx.1 cx.2.1 dL_law_419 rfl (lv_at hl 0 rfl) ?_
  refine lv_iload cx.1 cx.2.1 dL_law_420 (lv_at hl 4 rfl) ?_
  refine lv_iconst (v := nI 1) cx.1 cx.2.1 dL_law_422 (by decide) ?_
  refine lv_iadd cx.1 cx.2.1 dL_law_423 ?_
  refine va_sld cx.1 cx.2.1 hXs hbl hbA hS (nI_inL (k := 1) hx4 (by omega) (by omega)) dL_law_424 ?_
  refine W.eq (g2 := F0 m 425 ls [.int (xs (i + 1)), .ref (G.2.1 0)]) (by rw [nI_ix hx4 (by omega)]) ?_
  refine lv_aload_n cx.1 cx.2.1 dL_law_425 rfl (lv_at hl 0 rfl) ?_
  refine lv_iload cx.1 cx.2.1 dL_law_426 (lv_at hl 4 rfl) ?_
  refine lv_iconst (v := nI 2) cx.1 cx.2.1 dL_law_428 (by decide) ?_
  refine lv_iadd cx.1 cx.2.1 dL_law_429 ?_
  refine va_sld cx.1 cx.2.1 hXs hbl hbA hS (nI_inL (k := 2) hx4 (by omega) (by omega)) dL_law_430 ?_
  refine W.eq (g2 := F0 m 431 ls [.int (xs (i + 2)), .int (xs (i + 1)), .ref (G.2.1 0)]) (by rw [nI_ix hx4 (by omega)]) ?_
  refine lv_aload_n cx.1 cx.2.1 dL_law_431 rfl (lv_at hl 3 rfl) ?_
  refine g_LS (As := [.ref (G.2.1 0), .int (xs (i + 1)), .int (xs (i + 2)), .ref (G.2.1 402)]) (rest := []) cx hX hZ hw hS (c_L_company l hst G hO (xs (i + 1)) (xs (i + 2)) S k9 S1 h1) gw_418 gw_166 gyw_L_company ⟨by decide, by decide⟩ ⟨Nat.le_of_ble_eq_true rfl, Nat.le_of_ble_eq_true rfl⟩ hcs rfl hl.1 rfl (Nat.le_of_ble_eq_true rfl) dL_law_432 (fun H locs hw hS => ?_)
  refine W.eq (g2 := F0 m 435 ls [.int k9]) rfl ?_
  refine lv_istore (lv' := [(5, .int k9), (0, .ref b), (1, .ref (G.2.1 0)), (2, .ref (G.2.1 392)), (3, .ref (G.2.1 402)), (4, .int x4)]) cx.1 cx.2.1 dL_law_435 hl (by decide) rfl (fun ls hl => ?_)
  refine lv_aload_n cx.1 cx.2.1 dL_law_437 rfl (lv_at hl 3 rfl) ?_
  refine lv_aload_n cx.1 cx.2.1 dL_law_438 rfl (lv_at hl 1 rfl) ?_
  refine lv_iload cx.1 cx.2.1 dL_law_439 (lv_at hl 5 rfl) ?_
  refine lv_iconst (v := nI 1) cx.1 cx.2.1 dL_law_441 (by decide) ?_
  refine lv_iadd cx.1 cx.2.1 dL_law_442 ?_
  refine va_sld cx.1 cx.2.1 hXs hbl hbA hS (nI_inL (k := 1) hx4 (by omega) (by omega)) dL_law_443 ?_
  refine W.eq (g2 := F0 m 444 ls [.int (xs (i + 1)), .ref (G.2.1 392)]) (by rw [nI_ix hx4 (by omega)]) ?_
  refine lv_aload_n cx.1 cx.2.1 dL_law_444 rfl (lv_at hl 1 rfl) ?_
  refine lv_iload cx.1 cx.2.1 dL_law_445 (lv_at hl 5 rfl) ?_
  refine lv_iconst (v := nI 2) cx.1 cx.2.1 dL_law_447 (by decide) ?_
  refine lv_iadd cx.1 cx.2.1 dL_law_448 ?_
  refine va_sld cx.1 cx.2.1 hXs hbl hbA hS (nI_inL (k := 2) hx4 (by omega) (by omega)) dL_law_449 ?_
  refine W.eq (g2 := F0 m 450 ls [.int (xs (i + 2)), .int (xs (i + 1)), .ref (G.2.1 392)]) (by rw [nI_ix hx4 (by omega)]) ?_
  refine g_V (As := [.int (xs (i + 1)), .int (xs (i + 2))]) (rest := []) cx hw hS (c_X11_company l G hM (xs (i + 1)) (xs (i + 2)) S1 b9 S2 h2) (by omega) he_c392 rfl rfl gw_441 gy_X11_company gi_X11_company ⟨Nat.le_of_ble_eq_true rfl, Nat.le_of_ble_eq_true rfl⟩ hcs rfl hl.1 rfl (Nat.le_of_ble_eq_true rfl) dL_law_450 (fun H locs hw hS => ?_)
  refine W.eq (g2 := F0 m 453 ls [.int b9]) rfl ?_
  refine lv_istore (lv' := [(6, .int b9), (5, .int k9), (0, .ref b), (1, .ref (G.2.1 0)), (2, .ref (G.2.1 392)), (3, .ref (G.2.1 402)), (4, .int x4)]) cx.1 cx.2.1 dL_law_453 hl (by decide) rfl (fun ls hl => ?_)
  refine lv_aload_n cx.1 cx.2.1 dL_law_455 rfl (lv_at hl 4 rfl) ?_
  refine g_V (As := []) (rest := []) cx hw hS (c_X11_thrown l G hM S2 k9 S2 h3) (by omega) he_c392 rfl rfl gw_205 gy_X11_thrown gi_X11_thrown ⟨Nat.le_of_ble_eq_true rfl, Nat.le_of_ble_eq_true rfl⟩ hcs rfl hl.1 rfl (Nat.le_of_ble_eq_true rfl) dL_law_456 (fun H locs hw hS => ?_)
  refine W.eq (g2 := F0 m 459 ls [.int k9]) rfl ?_
  refine lv_iload cx.1 cx.2.1 dL_law_459 (lv_at hl 1 rfl) ?_
  refine lv_icmp_eq (tgt := 466) cx.1 cx.2.1 dL_law_461 (by decide) (fun _ => ?_) (fun hc => absurd rfl hc)
  refine lv_iload cx.1 cx.2.1 dL_law_466 (lv_at hl 1 rfl) ?_
  refine lv_if_ne (tgt := 483) cx.1 cx.2.1 dL_law_468 (by decide) (fun hc => ?_) (fun hc0 => ?_)
  · refine lv_goto (tgt := 1911) cx.1 cx.2.1 dL_law_483 (by decide) ?_
    exact kk S2 _ _ _ h5 hw hS (lv_sub hl [2, 3, 4, 5, 6] rfl)
  refine lv_aload_n cx.1 cx.2.1 dL_law_471 rfl (lv_at hl 5 rfl) ?_
  refine lv_iconst (v := (0 : Int32)) cx.1 cx.2.1 dL_law_472 (by decide) ?_
  refine g_lald24 hO cx hw dL_law_473 ?_
  refine lv_iload cx.1 cx.2.1 dL_law_474 (lv_at hl 0 rfl) ?_
  refine lv_i2l cx.1 cx.2.1 dL_law_476 rfl ?_
  refine W.lcmp cx.1 cx.2.1 dL_law_477 ?_
  refine lv_if_eq (tgt := 483) cx.1 cx.2.1 dL_law_478 (by decide) (fun _ => ?_) (fun hc => absurd (by rw [h4 hc0]; exact lg_cmp_self _) hc)
  refine lv_goto (tgt := 1911) cx.1 cx.2.1 dL_law_483 (by decide) ?_
  exact kk S2 _ _ _ h5 hw hS (lv_sub hl [2, 3, 4, 5, 6] rfl)
set_option maxHeartbeats 4000000 in
set_option maxRecDepth 100000 in
theorem law_7 {p : Program} {l : Launch} {e : Env} {s : State} {m : MethodId} {below : List Frame} {meth : Method} {c : Code} {Q : State → Prop} {G : gG} {b L : Nat} {xs : Nat → Int32} (hst : l.stackTraces = false) (hO : 403 ≤ gN G) (cx : gCx p s m c cL_law 7 RL G) (hX : gX s) (hZ : gZ (gA G s.heap.size) s s.heap) (hXs : va_X b L xs s s.heap) (hbl : b < s.heap.size) (hbA : ¬ gA G s.heap.size b) (hL : L ≤ 3072) {i cells slots : Nat} {x4 : Int32} (hx4 : x4 = nI i) (hi : i + 6 ≤ L) (hcs : cells + 3 ≤ room_1.cells ∧ slots + 18 ≤ room_1.slots) {S : Sg} {H : Heap} {locs : List Loc} {ls : Array Slot} (hw : gP G S H) (hS : va_S (gA G s.heap.size) s.heap H locs) (hl : lv_has ls 7 [(0, .ref b), (1, .ref (G.2.1 0)), (2, .ref (G.2.1 392)), (3, .ref (G.2.1 402)), (4, .int x4)]) (I : Sg → Prop) (hok : OkA (f_L_train (xs (i + 1)) (xs (i + 2)) (xs (i + 3))) (f_X11_train (xs (i + 1)) (xs (i + 2)) (xs (i + 3))) I S)
    (kk : ∀ (S' : Sg) (H : Heap) (locs : List Loc) (ls : Array Slot), I S' → gP G S' H → va_S (gA G s.heap.size) s.heap H locs → lv_has ls 7 [(0, .ref b), (1, .ref (G.2.1 0)), (2, .ref (G.2.1 392)), (3, .ref (G.2.1 402)), (4, .int x4)] → W p l e room_1 s m #[Value.ref b] below meth c H locs (cells + 3) (slots + 18) Q (F0 m 1911 ls [])) : W p l e room_1 s m #[Value.ref b] below meth c H locs cells slots Q (F0 m 486 ls []) := by
  have hM : 402 ≤ gN G := by omega
  have hN := cx.2.2.2.2.hN
  obtain ⟨k9, b9, S1, S2, h1, h2, h3, h4, h5⟩ := hok
  refine lv_aload_n cx.1 cx.2.1 dL_law_486 rfl (lv_at hl 1 rfl) ?_
  refine lv_aload_n cx.1 cx.2.1 dL_law_487 rfl (lv_at hl 0 rfl) ?_
  refine lv_iload cx.1 cx.2.1 dL_law_488 (lv_at hl 4 rfl) ?_
  refine lv_iconst (v := nI 1) cx.1 cx.2.1 dL_law_490 (by decide) ?_
  refine lv_iadd cx.1 cx.2.1 dL_law_491 ?_
  refine va_sld cx.1 cx.2.1 hXs hbl hbA hS (nI_inL (k := 1) hx4 (by omega) (by omega)) dL_law_492 ?_
  refine W.eq (g2 := F0 m 493 ls [.int (xs (i + 1)), .ref (G.2.1 0)]) (by rw [nI_ix hx4 (by omega)]) ?_
  refine lv_aload_n cx.1 cx.2.1 dL_law_493 rfl (lv_at hl 0 rfl) ?_
  refine lv_iload cx.1 cx.2.1 dL_law_494 (lv_at hl 4 rfl) ?_
  refine lv_iconst (v := nI 2) cx.1 cx.2.1 dL_law_496 (by decide) ?_
  refine lv_iadd cx.1 cx.2.1 dL_law_497 ?_
  refine va_sld cx.1 cx.2.1 hXs hbl hbA hS (nI_inL (k := 2) hx4 (by omega) (by omega)) dL_law_498 ?_
  refine W.eq (g2 := F0 m 499 ls [.int (xs (i + 2)), .int (xs (i + 1)), .ref (G.2.1 0)]) (by rw [nI_ix hx4 (by omega)]) ?_
  refine lv_aload_n cx.1 cx.2.1 dL_law_499 rfl (lv_at hl 0 rfl) ?_
  refine lv_iload cx.1 cx.2.1 dL_law_500 (lv_at hl 4 rfl) ?_
  refine lv_iconst (v := nI 3) cx.1 cx.2.1 dL_law_502 (by decide) ?_
  refine lv_iadd cx.1 cx.2.1 dL_law_503 ?_
  refine va_sld cx.1 cx.2.1 hXs hbl hbA hS (nI_inL (k := 3) hx4 (by omega) (by omega)) dL_law_504 ?_
  refine W.eq (g2 := F0 m 505 ls [.int (xs (i + 3)), .int (xs (i + 2)), .int (xs (i + 1)), .ref (G.2.1 0)]) (by rw [nI_ix hx4 (by omega)]) ?_
  refine lv_aload_n cx.1 cx.2.1 dL_law_505 rfl (lv_at hl 3 rfl) ?_
  refine g_LS (As := [.ref (G.2.1 0), .int (xs (i + 1)), .int (xs (i + 2)), .int (xs (i + 3)), .ref (G.2.1 402)]) (rest := []) cx hX hZ hw hS (c_L_train l hst G hO (xs (i + 1)) (xs (i + 2)) (xs (i + 3)) S k9 S1 h1) gw_455 gw_166 gyw_L_train ⟨by decide, by decide⟩ ⟨Nat.le_of_ble_eq_true rfl, Nat.le_of_ble_eq_true rfl⟩ hcs rfl hl.1 rfl (Nat.le_of_ble_eq_true rfl) dL_law_506 (fun H locs hw hS => ?_)
  refine W.eq (g2 := F0 m 509 ls [.int k9]) rfl ?_
  refine lv_istore (lv' := [(5, .int k9), (0, .ref b), (1, .ref (G.2.1 0)), (2, .ref (G.2.1 392)), (3, .ref (G.2.1 402)), (4, .int x4)]) cx.1 cx.2.1 dL_law_509 hl (by decide) rfl (fun ls hl => ?_)
  refine lv_aload_n cx.1 cx.2.1 dL_law_511 rfl (lv_at hl 3 rfl) ?_
  refine lv_aload_n cx.1 cx.2.1 dL_law_512 rfl (lv_at hl 1 rfl) ?_
  refine lv_iload cx.1 cx.2.1 dL_law_513 (lv_at hl 5 rfl) ?_
  refine lv_iconst (v := nI 1) cx.1 cx.2.1 dL_law_515 (by decide) ?_
  refine lv_iadd cx.1 cx.2.1 dL_law_516 ?_
  refine va_sld cx.1 cx.2.1 hXs hbl hbA hS (nI_inL (k := 1) hx4 (by omega) (by omega)) dL_law_517 ?_
  refine W.eq (g2 := F0 m 518 ls [.int (xs (i + 1)), .ref (G.2.1 392)]) (by rw [nI_ix hx4 (by omega)]) ?_
  refine lv_aload_n cx.1 cx.2.1 dL_law_518 rfl (lv_at hl 1 rfl) ?_
  refine lv_iload cx.1 cx.2.1 dL_law_519 (lv_at hl 5 rfl) ?_
  refine lv_iconst (v := nI 2) cx.1 cx.2.1 dL_law_521 (by decide) ?_
  refine lv_iadd cx.1 cx.2.1 dL_law_522 ?_
  refine va_sld cx.1 cx.2.1 hXs hbl hbA hS (nI_inL (k := 2) hx4 (by omega) (by omega)) dL_law_523 ?_
  refine W.eq (g2 := F0 m 524 ls [.int (xs (i + 2)), .int (xs (i + 1)), .ref (G.2.1 392)]) (by rw [nI_ix hx4 (by omega)]) ?_
  refine lv_aload_n cx.1 cx.2.1 dL_law_524 rfl (lv_at hl 1 rfl) ?_
  refine lv_iload cx.1 cx.2.1 dL_law_525 (lv_at hl 5 rfl) ?_
  refine lv_iconst (v := nI 3) cx.1 cx.2.1 dL_law_527 (by decide) ?_
  refine lv_iadd cx.1 cx.2.1 dL_law_528 ?_
  refine va_sld cx.1 cx.2.1 hXs hbl hbA hS (nI_inL (k := 3) hx4 (by omega) (by omega)) dL_law_529 ?_
  refine W.eq (g2 := F0 m 530 ls [.int (xs (i + 3)), .int (xs (i + 2)), .int (xs (i + 1)), .ref (G.2.1 392)]) (by rw [nI_ix hx4 (by omega)]) ?_
  refine g_V (As := [.int (xs (i + 1)), .int (xs (i + 2)), .int (xs (i + 3))]) (rest := []) cx hw hS (c_X11_train l G hM (xs (i + 1)) (xs (i + 2)) (xs (i + 3)) S1 b9 S2 h2) (by omega) he_c392 rfl rfl gw_482 gy_X11_train gi_X11_train ⟨Nat.le_of_ble_eq_true rfl, Nat.le_of_ble_eq_true rfl⟩ hcs rfl hl.1 rfl (Nat.le_of_ble_eq_true rfl) dL_law_530 (fun H locs hw hS => ?_)
  refine W.eq (g2 := F0 m 533 ls [.int b9]) rfl ?_
  refine lv_istore (lv' := [(6, .int b9), (5, .int k9), (0, .ref b), (1, .ref (G.2.1 0)), (2, .ref (G.2.1 392)), (3, .ref (G.2.1 402)), (4, .int x4)]) cx.1 cx.2.1 dL_law_533 hl (by decide) rfl (fun ls hl => ?_)
  refine lv_aload_n cx.1 cx.2.1 dL_law_535 rfl (lv_at hl 4 rfl) ?_
  refine g_V (As := []) (rest := []) cx hw hS (c_X11_thrown l G hM S2 k9 S2 h3) (by omega) he_c392 rfl rfl gw_205 gy_X11_thrown gi_X11_thrown ⟨Nat.le_of_ble_eq_true rfl, Nat.le_of_ble_eq_true rfl⟩ hcs rfl hl.1 rfl (Nat.le_of_ble_eq_true rfl) dL_law_536 (fun H locs hw hS => ?_)
  refine W.eq (g2 := F0 m 539 ls [.int k9]) rfl ?_
  refine lv_iload cx.1 cx.2.1 dL_law_539 (lv_at hl 1 rfl) ?_
  refine lv_icmp_eq (tgt := 546) cx.1 cx.2.1 dL_law_541 (by decide) (fun _ => ?_) (fun hc => absurd rfl hc)
  refine lv_iload cx.1 cx.2.1 dL_law_546 (lv_at hl 1 rfl) ?_
  refine lv_if_ne (tgt := 563) cx.1 cx.2.1 dL_law_548 (by decide) (fun hc => ?_) (fun hc0 => ?_)
  · refine lv_goto (tgt := 1911) cx.1 cx.2.1 dL_law_563 (by decide) ?_
    exact kk S2 _ _ _ h5 hw hS (lv_sub hl [2, 3, 4, 5, 6] rfl)
  refine lv_aload_n cx.1 cx.2.1 dL_law_551 rfl (lv_at hl 5 rfl) ?_
  refine lv_iconst (v := (0 : Int32)) cx.1 cx.2.1 dL_law_552 (by decide) ?_
  refine g_lald24 hO cx hw dL_law_553 ?_
  refine lv_iload cx.1 cx.2.1 dL_law_554 (lv_at hl 0 rfl) ?_
  refine lv_i2l cx.1 cx.2.1 dL_law_556 rfl ?_
  refine W.lcmp cx.1 cx.2.1 dL_law_557 ?_
  refine lv_if_eq (tgt := 563) cx.1 cx.2.1 dL_law_558 (by decide) (fun _ => ?_) (fun hc => absurd (by rw [h4 hc0]; exact lg_cmp_self _) hc)
  refine lv_goto (tgt := 1911) cx.1 cx.2.1 dL_law_563 (by decide) ?_
  exact kk S2 _ _ _ h5 hw hS (lv_sub hl [2, 3, 4, 5, 6] rfl)
set_option maxHeartbeats 4000000 in
set_option maxRecDepth 100000 in
theorem law_8 {p : Program} {l : Launch} {e : Env} {s : State} {m : MethodId} {below : List Frame} {meth : Method} {c : Code} {Q : State → Prop} {G : gG} {b L : Nat} {xs : Nat → Int32} (hst : l.stackTraces = false) (hO : 403 ≤ gN G) (cx : gCx p s m c cL_law 7 RL G) (hX : gX s) (hZ : gZ (gA G s.heap.size) s s.heap) (hXs : va_X b L xs s s.heap) (hbl : b < s.heap.size) (hbA : ¬ gA G s.heap.size b) (hL : L ≤ 3072) {i cells slots : Nat} {x4 : Int32} (hx4 : x4 = nI i) (hi : i + 6 ≤ L) (hcs : cells + 2 ≤ room_1.cells ∧ slots + 12 ≤ room_1.slots) {S : Sg} {H : Heap} {locs : List Loc} {ls : Array Slot} (hw : gP G S H) (hS : va_S (gA G s.heap.size) s.heap H locs) (hl : lv_has ls 7 [(0, .ref b), (1, .ref (G.2.1 0)), (2, .ref (G.2.1 392)), (3, .ref (G.2.1 402)), (4, .int x4)]) (I : Sg → Prop) (hok : OkA (f_L_contract (xs (i + 1)) (xs (i + 2))) (f_X11_contract (xs (i + 1)) (xs (i + 2))) I S)
    (kk : ∀ (S' : Sg) (H : Heap) (locs : List Loc) (ls : Array Slot), I S' → gP G S' H → va_S (gA G s.heap.size) s.heap H locs → lv_has ls 7 [(0, .ref b), (1, .ref (G.2.1 0)), (2, .ref (G.2.1 392)), (3, .ref (G.2.1 402)), (4, .int x4)] → W p l e room_1 s m #[Value.ref b] below meth c H locs (cells + 2) (slots + 12) Q (F0 m 1911 ls [])) : W p l e room_1 s m #[Value.ref b] below meth c H locs cells slots Q (F0 m 566 ls []) := by
  have hM : 402 ≤ gN G := by omega
  have hN := cx.2.2.2.2.hN
  obtain ⟨k9, b9, S1, S2, h1, h2, h3, h4, h5⟩ := hok
  refine lv_aload_n cx.1 cx.2.1 dL_law_566 rfl (lv_at hl 1 rfl) ?_
  refine lv_aload_n cx.1 cx.2.1 dL_law_567 rfl (lv_at hl 0 rfl) ?_
  refine lv_iload cx.1 cx.2.1 dL_law_568 (lv_at hl 4 rfl) ?_
  refine lv_iconst (v := nI 1) cx.1 cx.2.1 dL_law_570 (by decide) ?_
  refine lv_iadd cx.1 cx.2.1 dL_law_571 ?_
  refine va_sld cx.1 cx.2.1 hXs hbl hbA hS (nI_inL (k := 1) hx4 (by omega) (by omega)) dL_law_572 ?_
  refine W.eq (g2 := F0 m 573 ls [.int (xs (i + 1)), .ref (G.2.1 0)]) (by rw [nI_ix hx4 (by omega)]) ?_
  refine lv_aload_n cx.1 cx.2.1 dL_law_573 rfl (lv_at hl 0 rfl) ?_
  refine lv_iload cx.1 cx.2.1 dL_law_574 (lv_at hl 4 rfl) ?_
  refine lv_iconst (v := nI 2) cx.1 cx.2.1 dL_law_576 (by decide) ?_
  refine lv_iadd cx.1 cx.2.1 dL_law_577 ?_
  refine va_sld cx.1 cx.2.1 hXs hbl hbA hS (nI_inL (k := 2) hx4 (by omega) (by omega)) dL_law_578 ?_
  refine W.eq (g2 := F0 m 579 ls [.int (xs (i + 2)), .int (xs (i + 1)), .ref (G.2.1 0)]) (by rw [nI_ix hx4 (by omega)]) ?_
  refine lv_aload_n cx.1 cx.2.1 dL_law_579 rfl (lv_at hl 3 rfl) ?_
  refine g_LS (As := [.ref (G.2.1 0), .int (xs (i + 1)), .int (xs (i + 2)), .ref (G.2.1 402)]) (rest := []) cx hX hZ hw hS (c_L_contract l hst G hO (xs (i + 1)) (xs (i + 2)) S k9 S1 h1) gw_495 gw_166 gyw_L_contract ⟨by decide, by decide⟩ ⟨Nat.le_of_ble_eq_true rfl, Nat.le_of_ble_eq_true rfl⟩ hcs rfl hl.1 rfl (Nat.le_of_ble_eq_true rfl) dL_law_580 (fun H locs hw hS => ?_)
  refine W.eq (g2 := F0 m 583 ls [.int k9]) rfl ?_
  refine lv_istore (lv' := [(5, .int k9), (0, .ref b), (1, .ref (G.2.1 0)), (2, .ref (G.2.1 392)), (3, .ref (G.2.1 402)), (4, .int x4)]) cx.1 cx.2.1 dL_law_583 hl (by decide) rfl (fun ls hl => ?_)
  refine lv_aload_n cx.1 cx.2.1 dL_law_585 rfl (lv_at hl 3 rfl) ?_
  refine lv_aload_n cx.1 cx.2.1 dL_law_586 rfl (lv_at hl 1 rfl) ?_
  refine lv_iload cx.1 cx.2.1 dL_law_587 (lv_at hl 5 rfl) ?_
  refine lv_iconst (v := nI 1) cx.1 cx.2.1 dL_law_589 (by decide) ?_
  refine lv_iadd cx.1 cx.2.1 dL_law_590 ?_
  refine va_sld cx.1 cx.2.1 hXs hbl hbA hS (nI_inL (k := 1) hx4 (by omega) (by omega)) dL_law_591 ?_
  refine W.eq (g2 := F0 m 592 ls [.int (xs (i + 1)), .ref (G.2.1 392)]) (by rw [nI_ix hx4 (by omega)]) ?_
  refine lv_aload_n cx.1 cx.2.1 dL_law_592 rfl (lv_at hl 1 rfl) ?_
  refine lv_iload cx.1 cx.2.1 dL_law_593 (lv_at hl 5 rfl) ?_
  refine lv_iconst (v := nI 2) cx.1 cx.2.1 dL_law_595 (by decide) ?_
  refine lv_iadd cx.1 cx.2.1 dL_law_596 ?_
  refine va_sld cx.1 cx.2.1 hXs hbl hbA hS (nI_inL (k := 2) hx4 (by omega) (by omega)) dL_law_597 ?_
  refine W.eq (g2 := F0 m 598 ls [.int (xs (i + 2)), .int (xs (i + 1)), .ref (G.2.1 392)]) (by rw [nI_ix hx4 (by omega)]) ?_
  refine g_V (As := [.int (xs (i + 1)), .int (xs (i + 2))]) (rest := []) cx hw hS (c_X11_contract l G hM (xs (i + 1)) (xs (i + 2)) S1 b9 S2 h2) (by omega) he_c392 rfl rfl gw_516 gy_X11_contract gi_X11_contract ⟨Nat.le_of_ble_eq_true rfl, Nat.le_of_ble_eq_true rfl⟩ hcs rfl hl.1 rfl (Nat.le_of_ble_eq_true rfl) dL_law_598 (fun H locs hw hS => ?_)
  refine W.eq (g2 := F0 m 601 ls [.int b9]) rfl ?_
  refine lv_istore (lv' := [(6, .int b9), (5, .int k9), (0, .ref b), (1, .ref (G.2.1 0)), (2, .ref (G.2.1 392)), (3, .ref (G.2.1 402)), (4, .int x4)]) cx.1 cx.2.1 dL_law_601 hl (by decide) rfl (fun ls hl => ?_)
  refine lv_aload_n cx.1 cx.2.1 dL_law_603 rfl (lv_at hl 4 rfl) ?_
  refine g_V (As := []) (rest := []) cx hw hS (c_X11_thrown l G hM S2 k9 S2 h3) (by omega) he_c392 rfl rfl gw_205 gy_X11_thrown gi_X11_thrown ⟨Nat.le_of_ble_eq_true rfl, Nat.le_of_ble_eq_true rfl⟩ hcs rfl hl.1 rfl (Nat.le_of_ble_eq_true rfl) dL_law_604 (fun H locs hw hS => ?_)
  refine W.eq (g2 := F0 m 607 ls [.int k9]) rfl ?_
  refine lv_iload cx.1 cx.2.1 dL_law_607 (lv_at hl 1 rfl) ?_
  refine lv_icmp_eq (tgt := 614) cx.1 cx.2.1 dL_law_609 (by decide) (fun _ => ?_) (fun hc => absurd rfl hc)
  refine lv_iload cx.1 cx.2.1 dL_law_614 (lv_at hl 1 rfl) ?_
  refine lv_if_ne (tgt := 631) cx.1 cx.2.1 dL_law_616 (by decide) (fun hc => ?_) (fun hc0 => ?_)
  · refine lv_goto (tgt := 1911) cx.1 cx.2.1 dL_law_631 (by decide) ?_
    exact kk S2 _ _ _ h5 hw hS (lv_sub hl [2, 3, 4, 5, 6] rfl)
  refine lv_aload_n cx.1 cx.2.1 dL_law_619 rfl (lv_at hl 5 rfl) ?_
  refine lv_iconst (v := (0 : Int32)) cx.1 cx.2.1 dL_law_620 (by decide) ?_
  refine g_lald24 hO cx hw dL_law_621 ?_
  refine lv_iload cx.1 cx.2.1 dL_law_622 (lv_at hl 0 rfl) ?_
  refine lv_i2l cx.1 cx.2.1 dL_law_624 rfl ?_
  refine W.lcmp cx.1 cx.2.1 dL_law_625 ?_
  refine lv_if_eq (tgt := 631) cx.1 cx.2.1 dL_law_626 (by decide) (fun _ => ?_) (fun hc => absurd (by rw [h4 hc0]; exact lg_cmp_self _) hc)
  refine lv_goto (tgt := 1911) cx.1 cx.2.1 dL_law_631 (by decide) ?_
  exact kk S2 _ _ _ h5 hw hS (lv_sub hl [2, 3, 4, 5, 6] rfl)
set_option maxHeartbeats 4000000 in
set_option maxRecDepth 100000 in
theorem law_9 {p : Program} {l : Launch} {e : Env} {s : State} {m : MethodId} {below : List Frame} {meth : Method} {c : Code} {Q : State → Prop} {G : gG} {b L : Nat} {xs : Nat → Int32} (hst : l.stackTraces = false) (hO : 403 ≤ gN G) (cx : gCx p s m c cL_law 7 RL G) (hX : gX s) (hZ : gZ (gA G s.heap.size) s s.heap) (hXs : va_X b L xs s s.heap) (hbl : b < s.heap.size) (hbA : ¬ gA G s.heap.size b) (hL : L ≤ 3072) {i cells slots : Nat} {x4 : Int32} (hx4 : x4 = nI i) (hi : i + 6 ≤ L) (hcs : cells + 3 ≤ room_1.cells ∧ slots + 18 ≤ room_1.slots) {S : Sg} {H : Heap} {locs : List Loc} {ls : Array Slot} (hw : gP G S H) (hS : va_S (gA G s.heap.size) s.heap H locs) (hl : lv_has ls 7 [(0, .ref b), (1, .ref (G.2.1 0)), (2, .ref (G.2.1 392)), (3, .ref (G.2.1 402)), (4, .int x4)]) (I : Sg → Prop) (hok : OkA (f_L_buyTrack (xs (i + 1)) (xs (i + 2))) (f_X11_buyTrack (xs (i + 1)) (xs (i + 2))) I S)
    (kk : ∀ (S' : Sg) (H : Heap) (locs : List Loc) (ls : Array Slot), I S' → gP G S' H → va_S (gA G s.heap.size) s.heap H locs → lv_has ls 7 [(0, .ref b), (1, .ref (G.2.1 0)), (2, .ref (G.2.1 392)), (3, .ref (G.2.1 402)), (4, .int x4)] → W p l e room_1 s m #[Value.ref b] below meth c H locs (cells + 3) (slots + 18) Q (F0 m 1911 ls [])) : W p l e room_1 s m #[Value.ref b] below meth c H locs cells slots Q (F0 m 634 ls []) := by
  have hM : 402 ≤ gN G := by omega
  have hN := cx.2.2.2.2.hN
  obtain ⟨k9, b9, S1, S2, h1, h2, h3, h4, h5⟩ := hok
  refine lv_aload_n cx.1 cx.2.1 dL_law_634 rfl (lv_at hl 1 rfl) ?_
  refine lv_aload_n cx.1 cx.2.1 dL_law_635 rfl (lv_at hl 0 rfl) ?_
  refine lv_iload cx.1 cx.2.1 dL_law_636 (lv_at hl 4 rfl) ?_
  refine lv_iconst (v := nI 1) cx.1 cx.2.1 dL_law_638 (by decide) ?_
  refine lv_iadd cx.1 cx.2.1 dL_law_639 ?_
  refine va_sld cx.1 cx.2.1 hXs hbl hbA hS (nI_inL (k := 1) hx4 (by omega) (by omega)) dL_law_640 ?_
  refine W.eq (g2 := F0 m 641 ls [.int (xs (i + 1)), .ref (G.2.1 0)]) (by rw [nI_ix hx4 (by omega)]) ?_
  refine lv_aload_n cx.1 cx.2.1 dL_law_641 rfl (lv_at hl 0 rfl) ?_
  refine lv_iload cx.1 cx.2.1 dL_law_642 (lv_at hl 4 rfl) ?_
  refine lv_iconst (v := nI 2) cx.1 cx.2.1 dL_law_644 (by decide) ?_
  refine lv_iadd cx.1 cx.2.1 dL_law_645 ?_
  refine va_sld cx.1 cx.2.1 hXs hbl hbA hS (nI_inL (k := 2) hx4 (by omega) (by omega)) dL_law_646 ?_
  refine W.eq (g2 := F0 m 647 ls [.int (xs (i + 2)), .int (xs (i + 1)), .ref (G.2.1 0)]) (by rw [nI_ix hx4 (by omega)]) ?_
  refine lv_aload_n cx.1 cx.2.1 dL_law_647 rfl (lv_at hl 3 rfl) ?_
  refine g_LS (As := [.ref (G.2.1 0), .int (xs (i + 1)), .int (xs (i + 2)), .ref (G.2.1 402)]) (rest := []) cx hX hZ hw hS (c_L_buyTrack l hst G hO (xs (i + 1)) (xs (i + 2)) S k9 S1 h1) gw_524 gw_166 gyw_L_buyTrack ⟨by decide, by decide⟩ ⟨Nat.le_of_ble_eq_true rfl, Nat.le_of_ble_eq_true rfl⟩ hcs rfl hl.1 rfl (Nat.le_of_ble_eq_true rfl) dL_law_648 (fun H locs hw hS => ?_)
  refine W.eq (g2 := F0 m 651 ls [.int k9]) rfl ?_
  refine lv_istore (lv' := [(5, .int k9), (0, .ref b), (1, .ref (G.2.1 0)), (2, .ref (G.2.1 392)), (3, .ref (G.2.1 402)), (4, .int x4)]) cx.1 cx.2.1 dL_law_651 hl (by decide) rfl (fun ls hl => ?_)
  refine lv_aload_n cx.1 cx.2.1 dL_law_653 rfl (lv_at hl 3 rfl) ?_
  refine lv_aload_n cx.1 cx.2.1 dL_law_654 rfl (lv_at hl 1 rfl) ?_
  refine lv_iload cx.1 cx.2.1 dL_law_655 (lv_at hl 5 rfl) ?_
  refine lv_iconst (v := nI 1) cx.1 cx.2.1 dL_law_657 (by decide) ?_
  refine lv_iadd cx.1 cx.2.1 dL_law_658 ?_
  refine va_sld cx.1 cx.2.1 hXs hbl hbA hS (nI_inL (k := 1) hx4 (by omega) (by omega)) dL_law_659 ?_
  refine W.eq (g2 := F0 m 660 ls [.int (xs (i + 1)), .ref (G.2.1 392)]) (by rw [nI_ix hx4 (by omega)]) ?_
  refine lv_aload_n cx.1 cx.2.1 dL_law_660 rfl (lv_at hl 1 rfl) ?_
  refine lv_iload cx.1 cx.2.1 dL_law_661 (lv_at hl 5 rfl) ?_
  refine lv_iconst (v := nI 2) cx.1 cx.2.1 dL_law_663 (by decide) ?_
  refine lv_iadd cx.1 cx.2.1 dL_law_664 ?_
  refine va_sld cx.1 cx.2.1 hXs hbl hbA hS (nI_inL (k := 2) hx4 (by omega) (by omega)) dL_law_665 ?_
  refine W.eq (g2 := F0 m 666 ls [.int (xs (i + 2)), .int (xs (i + 1)), .ref (G.2.1 392)]) (by rw [nI_ix hx4 (by omega)]) ?_
  refine g_V (As := [.int (xs (i + 1)), .int (xs (i + 2))]) (rest := []) cx hw hS (c_X11_buyTrack l G hM (xs (i + 1)) (xs (i + 2)) S1 b9 S2 h2) (by omega) he_c392 rfl rfl gw_565 gy_X11_buyTrack gi_X11_buyTrack ⟨Nat.le_of_ble_eq_true rfl, Nat.le_of_ble_eq_true rfl⟩ hcs rfl hl.1 rfl (Nat.le_of_ble_eq_true rfl) dL_law_666 (fun H locs hw hS => ?_)
  refine W.eq (g2 := F0 m 669 ls [.int b9]) rfl ?_
  refine lv_istore (lv' := [(6, .int b9), (5, .int k9), (0, .ref b), (1, .ref (G.2.1 0)), (2, .ref (G.2.1 392)), (3, .ref (G.2.1 402)), (4, .int x4)]) cx.1 cx.2.1 dL_law_669 hl (by decide) rfl (fun ls hl => ?_)
  refine lv_aload_n cx.1 cx.2.1 dL_law_671 rfl (lv_at hl 4 rfl) ?_
  refine g_V (As := []) (rest := []) cx hw hS (c_X11_thrown l G hM S2 k9 S2 h3) (by omega) he_c392 rfl rfl gw_205 gy_X11_thrown gi_X11_thrown ⟨Nat.le_of_ble_eq_true rfl, Nat.le_of_ble_eq_true rfl⟩ hcs rfl hl.1 rfl (Nat.le_of_ble_eq_true rfl) dL_law_672 (fun H locs hw hS => ?_)
  refine W.eq (g2 := F0 m 675 ls [.int k9]) rfl ?_
  refine lv_iload cx.1 cx.2.1 dL_law_675 (lv_at hl 1 rfl) ?_
  refine lv_icmp_eq (tgt := 682) cx.1 cx.2.1 dL_law_677 (by decide) (fun _ => ?_) (fun hc => absurd rfl hc)
  refine lv_iload cx.1 cx.2.1 dL_law_682 (lv_at hl 1 rfl) ?_
  refine lv_if_ne (tgt := 699) cx.1 cx.2.1 dL_law_684 (by decide) (fun hc => ?_) (fun hc0 => ?_)
  · refine lv_goto (tgt := 1911) cx.1 cx.2.1 dL_law_699 (by decide) ?_
    exact kk S2 _ _ _ h5 hw hS (lv_sub hl [2, 3, 4, 5, 6] rfl)
  refine lv_aload_n cx.1 cx.2.1 dL_law_687 rfl (lv_at hl 5 rfl) ?_
  refine lv_iconst (v := (0 : Int32)) cx.1 cx.2.1 dL_law_688 (by decide) ?_
  refine g_lald24 hO cx hw dL_law_689 ?_
  refine lv_iload cx.1 cx.2.1 dL_law_690 (lv_at hl 0 rfl) ?_
  refine lv_i2l cx.1 cx.2.1 dL_law_692 rfl ?_
  refine W.lcmp cx.1 cx.2.1 dL_law_693 ?_
  refine lv_if_eq (tgt := 699) cx.1 cx.2.1 dL_law_694 (by decide) (fun _ => ?_) (fun hc => absurd (by rw [h4 hc0]; exact lg_cmp_self _) hc)
  refine lv_goto (tgt := 1911) cx.1 cx.2.1 dL_law_699 (by decide) ?_
  exact kk S2 _ _ _ h5 hw hS (lv_sub hl [2, 3, 4, 5, 6] rfl)
set_option maxHeartbeats 4000000 in
set_option maxRecDepth 100000 in
theorem law_10 {p : Program} {l : Launch} {e : Env} {s : State} {m : MethodId} {below : List Frame} {meth : Method} {c : Code} {Q : State → Prop} {G : gG} {b L : Nat} {xs : Nat → Int32} (hst : l.stackTraces = false) (hO : 403 ≤ gN G) (cx : gCx p s m c cL_law 7 RL G) (hX : gX s) (hZ : gZ (gA G s.heap.size) s s.heap) (hXs : va_X b L xs s s.heap) (hbl : b < s.heap.size) (hbA : ¬ gA G s.heap.size b) (hL : L ≤ 3072) {i cells slots : Nat} {x4 : Int32} (hx4 : x4 = nI i) (hi : i + 6 ≤ L) (hcs : cells + 3 ≤ room_1.cells ∧ slots + 18 ≤ room_1.slots) {S : Sg} {H : Heap} {locs : List Loc} {ls : Array Slot} (hw : gP G S H) (hS : va_S (gA G s.heap.size) s.heap H locs) (hl : lv_has ls 7 [(0, .ref b), (1, .ref (G.2.1 0)), (2, .ref (G.2.1 392)), (3, .ref (G.2.1 402)), (4, .int x4)]) (I : Sg → Prop) (hok : OkA (f_L_buyTrain (xs (i + 1)) (xs (i + 2))) (f_X11_buyTrain (xs (i + 1)) (xs (i + 2))) I S)
    (kk : ∀ (S' : Sg) (H : Heap) (locs : List Loc) (ls : Array Slot), I S' → gP G S' H → va_S (gA G s.heap.size) s.heap H locs → lv_has ls 7 [(0, .ref b), (1, .ref (G.2.1 0)), (2, .ref (G.2.1 392)), (3, .ref (G.2.1 402)), (4, .int x4)] → W p l e room_1 s m #[Value.ref b] below meth c H locs (cells + 3) (slots + 18) Q (F0 m 1911 ls [])) : W p l e room_1 s m #[Value.ref b] below meth c H locs cells slots Q (F0 m 702 ls []) := by
  have hM : 402 ≤ gN G := by omega
  have hN := cx.2.2.2.2.hN
  obtain ⟨k9, b9, S1, S2, h1, h2, h3, h4, h5⟩ := hok
  refine lv_aload_n cx.1 cx.2.1 dL_law_702 rfl (lv_at hl 1 rfl) ?_
  refine lv_aload_n cx.1 cx.2.1 dL_law_703 rfl (lv_at hl 0 rfl) ?_
  refine lv_iload cx.1 cx.2.1 dL_law_704 (lv_at hl 4 rfl) ?_
  refine lv_iconst (v := nI 1) cx.1 cx.2.1 dL_law_706 (by decide) ?_
  refine lv_iadd cx.1 cx.2.1 dL_law_707 ?_
  refine va_sld cx.1 cx.2.1 hXs hbl hbA hS (nI_inL (k := 1) hx4 (by omega) (by omega)) dL_law_708 ?_
  refine W.eq (g2 := F0 m 709 ls [.int (xs (i + 1)), .ref (G.2.1 0)]) (by rw [nI_ix hx4 (by omega)]) ?_
  refine lv_aload_n cx.1 cx.2.1 dL_law_709 rfl (lv_at hl 0 rfl) ?_
  refine lv_iload cx.1 cx.2.1 dL_law_710 (lv_at hl 4 rfl) ?_
  refine lv_iconst (v := nI 2) cx.1 cx.2.1 dL_law_712 (by decide) ?_
  refine lv_iadd cx.1 cx.2.1 dL_law_713 ?_
  refine va_sld cx.1 cx.2.1 hXs hbl hbA hS (nI_inL (k := 2) hx4 (by omega) (by omega)) dL_law_714 ?_
  refine W.eq (g2 := F0 m 715 ls [.int (xs (i + 2)), .int (xs (i + 1)), .ref (G.2.1 0)]) (by rw [nI_ix hx4 (by omega)]) ?_
  refine lv_aload_n cx.1 cx.2.1 dL_law_715 rfl (lv_at hl 3 rfl) ?_
  refine g_LS (As := [.ref (G.2.1 0), .int (xs (i + 1)), .int (xs (i + 2)), .ref (G.2.1 402)]) (rest := []) cx hX hZ hw hS (c_L_buyTrain l hst G hO (xs (i + 1)) (xs (i + 2)) S k9 S1 h1) gw_582 gw_166 gyw_L_buyTrain ⟨by decide, by decide⟩ ⟨Nat.le_of_ble_eq_true rfl, Nat.le_of_ble_eq_true rfl⟩ hcs rfl hl.1 rfl (Nat.le_of_ble_eq_true rfl) dL_law_716 (fun H locs hw hS => ?_)
  refine W.eq (g2 := F0 m 719 ls [.int k9]) rfl ?_
  refine lv_istore (lv' := [(5, .int k9), (0, .ref b), (1, .ref (G.2.1 0)), (2, .ref (G.2.1 392)), (3, .ref (G.2.1 402)), (4, .int x4)]) cx.1 cx.2.1 dL_law_719 hl (by decide) rfl (fun ls hl => ?_)
  refine lv_aload_n cx.1 cx.2.1 dL_law_721 rfl (lv_at hl 3 rfl) ?_
  refine lv_aload_n cx.1 cx.2.1 dL_law_722 rfl (lv_at hl 1 rfl) ?_
  refine lv_iload cx.1 cx.2.1 dL_law_723 (lv_at hl 5 rfl) ?_
  refine lv_iconst (v := nI 1) cx.1 cx.2.1 dL_law_725 (by decide) ?_
  refine lv_iadd cx.1 cx.2.1 dL_law_726 ?_
  refine va_sld cx.1 cx.2.1 hXs hbl hbA hS (nI_inL (k := 1) hx4 (by omega) (by omega)) dL_law_727 ?_
  refine W.eq (g2 := F0 m 728 ls [.int (xs (i + 1)), .ref (G.2.1 392)]) (by rw [nI_ix hx4 (by omega)]) ?_
  refine lv_aload_n cx.1 cx.2.1 dL_law_728 rfl (lv_at hl 1 rfl) ?_
  refine lv_iload cx.1 cx.2.1 dL_law_729 (lv_at hl 5 rfl) ?_
  refine lv_iconst (v := nI 2) cx.1 cx.2.1 dL_law_731 (by decide) ?_
  refine lv_iadd cx.1 cx.2.1 dL_law_732 ?_
  refine va_sld cx.1 cx.2.1 hXs hbl hbA hS (nI_inL (k := 2) hx4 (by omega) (by omega)) dL_law_733 ?_
  refine W.eq (g2 := F0 m 734 ls [.int (xs (i + 2)), .int (xs (i + 1)), .ref (G.2.1 392)]) (by rw [nI_ix hx4 (by omega)]) ?_
  refine g_V (As := [.int (xs (i + 1)), .int (xs (i + 2))]) (rest := []) cx hw hS (c_X11_buyTrain l G hM (xs (i + 1)) (xs (i + 2)) S1 b9 S2 h2) (by omega) he_c392 rfl rfl gw_606 gy_X11_buyTrain gi_X11_buyTrain ⟨Nat.le_of_ble_eq_true rfl, Nat.le_of_ble_eq_true rfl⟩ hcs rfl hl.1 rfl (Nat.le_of_ble_eq_true rfl) dL_law_734 (fun H locs hw hS => ?_)
  refine W.eq (g2 := F0 m 737 ls [.int b9]) rfl ?_
  refine lv_istore (lv' := [(6, .int b9), (5, .int k9), (0, .ref b), (1, .ref (G.2.1 0)), (2, .ref (G.2.1 392)), (3, .ref (G.2.1 402)), (4, .int x4)]) cx.1 cx.2.1 dL_law_737 hl (by decide) rfl (fun ls hl => ?_)
  refine lv_aload_n cx.1 cx.2.1 dL_law_739 rfl (lv_at hl 4 rfl) ?_
  refine g_V (As := []) (rest := []) cx hw hS (c_X11_thrown l G hM S2 k9 S2 h3) (by omega) he_c392 rfl rfl gw_205 gy_X11_thrown gi_X11_thrown ⟨Nat.le_of_ble_eq_true rfl, Nat.le_of_ble_eq_true rfl⟩ hcs rfl hl.1 rfl (Nat.le_of_ble_eq_true rfl) dL_law_740 (fun H locs hw hS => ?_)
  refine W.eq (g2 := F0 m 743 ls [.int k9]) rfl ?_
  refine lv_iload cx.1 cx.2.1 dL_law_743 (lv_at hl 1 rfl) ?_
  refine lv_icmp_eq (tgt := 750) cx.1 cx.2.1 dL_law_745 (by decide) (fun _ => ?_) (fun hc => absurd rfl hc)
  refine lv_iload cx.1 cx.2.1 dL_law_750 (lv_at hl 1 rfl) ?_
  refine lv_if_ne (tgt := 767) cx.1 cx.2.1 dL_law_752 (by decide) (fun hc => ?_) (fun hc0 => ?_)
  · refine lv_goto (tgt := 1911) cx.1 cx.2.1 dL_law_767 (by decide) ?_
    exact kk S2 _ _ _ h5 hw hS (lv_sub hl [2, 3, 4, 5, 6] rfl)
  refine lv_aload_n cx.1 cx.2.1 dL_law_755 rfl (lv_at hl 5 rfl) ?_
  refine lv_iconst (v := (0 : Int32)) cx.1 cx.2.1 dL_law_756 (by decide) ?_
  refine g_lald24 hO cx hw dL_law_757 ?_
  refine lv_iload cx.1 cx.2.1 dL_law_758 (lv_at hl 0 rfl) ?_
  refine lv_i2l cx.1 cx.2.1 dL_law_760 rfl ?_
  refine W.lcmp cx.1 cx.2.1 dL_law_761 ?_
  refine lv_if_eq (tgt := 767) cx.1 cx.2.1 dL_law_762 (by decide) (fun _ => ?_) (fun hc => absurd (by rw [h4 hc0]; exact lg_cmp_self _) hc)
  refine lv_goto (tgt := 1911) cx.1 cx.2.1 dL_law_767 (by decide) ?_
  exact kk S2 _ _ _ h5 hw hS (lv_sub hl [2, 3, 4, 5, 6] rfl)
set_option maxHeartbeats 4000000 in
set_option maxRecDepth 100000 in
theorem law_11 {p : Program} {l : Launch} {e : Env} {s : State} {m : MethodId} {below : List Frame} {meth : Method} {c : Code} {Q : State → Prop} {G : gG} {b L : Nat} {xs : Nat → Int32} (hst : l.stackTraces = false) (hO : 403 ≤ gN G) (cx : gCx p s m c cL_law 7 RL G) (hX : gX s) (hZ : gZ (gA G s.heap.size) s s.heap) (hXs : va_X b L xs s s.heap) (hbl : b < s.heap.size) (hbA : ¬ gA G s.heap.size b) (hL : L ≤ 3072) {i cells slots : Nat} {x4 : Int32} (hx4 : x4 = nI i) (hi : i + 6 ≤ L) (hcs : cells + 2 ≤ room_1.cells ∧ slots + 12 ≤ room_1.slots) {S : Sg} {H : Heap} {locs : List Loc} {ls : Array Slot} (hw : gP G S H) (hS : va_S (gA G s.heap.size) s.heap H locs) (hl : lv_has ls 7 [(0, .ref b), (1, .ref (G.2.1 0)), (2, .ref (G.2.1 392)), (3, .ref (G.2.1 402)), (4, .int x4)]) (I : Sg → Prop) (hok : OkA (f_L_setRent (xs (i + 1)) (xs (i + 2))) (f_X11_setRent (xs (i + 1)) (xs (i + 2))) I S)
    (kk : ∀ (S' : Sg) (H : Heap) (locs : List Loc) (ls : Array Slot), I S' → gP G S' H → va_S (gA G s.heap.size) s.heap H locs → lv_has ls 7 [(0, .ref b), (1, .ref (G.2.1 0)), (2, .ref (G.2.1 392)), (3, .ref (G.2.1 402)), (4, .int x4)] → W p l e room_1 s m #[Value.ref b] below meth c H locs (cells + 2) (slots + 12) Q (F0 m 1911 ls [])) : W p l e room_1 s m #[Value.ref b] below meth c H locs cells slots Q (F0 m 770 ls []) := by
  have hM : 402 ≤ gN G := by omega
  have hN := cx.2.2.2.2.hN
  obtain ⟨k9, b9, S1, S2, h1, h2, h3, h4, h5⟩ := hok
  refine lv_aload_n cx.1 cx.2.1 dL_law_770 rfl (lv_at hl 1 rfl) ?_
  refine lv_aload_n cx.1 cx.2.1 dL_law_771 rfl (lv_at hl 0 rfl) ?_
  refine lv_iload cx.1 cx.2.1 dL_law_772 (lv_at hl 4 rfl) ?_
  refine lv_iconst (v := nI 1) cx.1 cx.2.1 dL_law_774 (by decide) ?_
  refine lv_iadd cx.1 cx.2.1 dL_law_775 ?_
  refine va_sld cx.1 cx.2.1 hXs hbl hbA hS (nI_inL (k := 1) hx4 (by omega) (by omega)) dL_law_776 ?_
  refine W.eq (g2 := F0 m 777 ls [.int (xs (i + 1)), .ref (G.2.1 0)]) (by rw [nI_ix hx4 (by omega)]) ?_
  refine lv_aload_n cx.1 cx.2.1 dL_law_777 rfl (lv_at hl 0 rfl) ?_
  refine lv_iload cx.1 cx.2.1 dL_law_778 (lv_at hl 4 rfl) ?_
  refine lv_iconst (v := nI 2) cx.1 cx.2.1 dL_law_780 (by decide) ?_
  refine lv_iadd cx.1 cx.2.1 dL_law_781 ?_
  refine va_sld cx.1 cx.2.1 hXs hbl hbA hS (nI_inL (k := 2) hx4 (by omega) (by omega)) dL_law_782 ?_
  refine W.eq (g2 := F0 m 783 ls [.int (xs (i + 2)), .int (xs (i + 1)), .ref (G.2.1 0)]) (by rw [nI_ix hx4 (by omega)]) ?_
  refine lv_aload_n cx.1 cx.2.1 dL_law_783 rfl (lv_at hl 3 rfl) ?_
  refine g_LS (As := [.ref (G.2.1 0), .int (xs (i + 1)), .int (xs (i + 2)), .ref (G.2.1 402)]) (rest := []) cx hX hZ hw hS (c_L_setRent l hst G hO (xs (i + 1)) (xs (i + 2)) S k9 S1 h1) gw_619 gw_166 gyw_L_setRent ⟨by decide, by decide⟩ ⟨Nat.le_of_ble_eq_true rfl, Nat.le_of_ble_eq_true rfl⟩ hcs rfl hl.1 rfl (Nat.le_of_ble_eq_true rfl) dL_law_784 (fun H locs hw hS => ?_)
  refine W.eq (g2 := F0 m 787 ls [.int k9]) rfl ?_
  refine lv_istore (lv' := [(5, .int k9), (0, .ref b), (1, .ref (G.2.1 0)), (2, .ref (G.2.1 392)), (3, .ref (G.2.1 402)), (4, .int x4)]) cx.1 cx.2.1 dL_law_787 hl (by decide) rfl (fun ls hl => ?_)
  refine lv_aload_n cx.1 cx.2.1 dL_law_789 rfl (lv_at hl 3 rfl) ?_
  refine lv_aload_n cx.1 cx.2.1 dL_law_790 rfl (lv_at hl 1 rfl) ?_
  refine lv_iload cx.1 cx.2.1 dL_law_791 (lv_at hl 5 rfl) ?_
  refine lv_iconst (v := nI 1) cx.1 cx.2.1 dL_law_793 (by decide) ?_
  refine lv_iadd cx.1 cx.2.1 dL_law_794 ?_
  refine va_sld cx.1 cx.2.1 hXs hbl hbA hS (nI_inL (k := 1) hx4 (by omega) (by omega)) dL_law_795 ?_
  refine W.eq (g2 := F0 m 796 ls [.int (xs (i + 1)), .ref (G.2.1 392)]) (by rw [nI_ix hx4 (by omega)]) ?_
  refine lv_aload_n cx.1 cx.2.1 dL_law_796 rfl (lv_at hl 1 rfl) ?_
  refine lv_iload cx.1 cx.2.1 dL_law_797 (lv_at hl 5 rfl) ?_
  refine lv_iconst (v := nI 2) cx.1 cx.2.1 dL_law_799 (by decide) ?_
  refine lv_iadd cx.1 cx.2.1 dL_law_800 ?_
  refine va_sld cx.1 cx.2.1 hXs hbl hbA hS (nI_inL (k := 2) hx4 (by omega) (by omega)) dL_law_801 ?_
  refine W.eq (g2 := F0 m 802 ls [.int (xs (i + 2)), .int (xs (i + 1)), .ref (G.2.1 392)]) (by rw [nI_ix hx4 (by omega)]) ?_
  refine g_V (As := [.int (xs (i + 1)), .int (xs (i + 2))]) (rest := []) cx hw hS (c_X11_setRent l G hM (xs (i + 1)) (xs (i + 2)) S1 b9 S2 h2) (by omega) he_c392 rfl rfl gw_630 gy_X11_setRent gi_X11_setRent ⟨Nat.le_of_ble_eq_true rfl, Nat.le_of_ble_eq_true rfl⟩ hcs rfl hl.1 rfl (Nat.le_of_ble_eq_true rfl) dL_law_802 (fun H locs hw hS => ?_)
  refine W.eq (g2 := F0 m 805 ls [.int b9]) rfl ?_
  refine lv_istore (lv' := [(6, .int b9), (5, .int k9), (0, .ref b), (1, .ref (G.2.1 0)), (2, .ref (G.2.1 392)), (3, .ref (G.2.1 402)), (4, .int x4)]) cx.1 cx.2.1 dL_law_805 hl (by decide) rfl (fun ls hl => ?_)
  refine lv_aload_n cx.1 cx.2.1 dL_law_807 rfl (lv_at hl 4 rfl) ?_
  refine g_V (As := []) (rest := []) cx hw hS (c_X11_thrown l G hM S2 k9 S2 h3) (by omega) he_c392 rfl rfl gw_205 gy_X11_thrown gi_X11_thrown ⟨Nat.le_of_ble_eq_true rfl, Nat.le_of_ble_eq_true rfl⟩ hcs rfl hl.1 rfl (Nat.le_of_ble_eq_true rfl) dL_law_808 (fun H locs hw hS => ?_)
  refine W.eq (g2 := F0 m 811 ls [.int k9]) rfl ?_
  refine lv_iload cx.1 cx.2.1 dL_law_811 (lv_at hl 1 rfl) ?_
  refine lv_icmp_eq (tgt := 818) cx.1 cx.2.1 dL_law_813 (by decide) (fun _ => ?_) (fun hc => absurd rfl hc)
  refine lv_iload cx.1 cx.2.1 dL_law_818 (lv_at hl 1 rfl) ?_
  refine lv_if_ne (tgt := 835) cx.1 cx.2.1 dL_law_820 (by decide) (fun hc => ?_) (fun hc0 => ?_)
  · refine lv_goto (tgt := 1911) cx.1 cx.2.1 dL_law_835 (by decide) ?_
    exact kk S2 _ _ _ h5 hw hS (lv_sub hl [2, 3, 4, 5, 6] rfl)
  refine lv_aload_n cx.1 cx.2.1 dL_law_823 rfl (lv_at hl 5 rfl) ?_
  refine lv_iconst (v := (0 : Int32)) cx.1 cx.2.1 dL_law_824 (by decide) ?_
  refine g_lald24 hO cx hw dL_law_825 ?_
  refine lv_iload cx.1 cx.2.1 dL_law_826 (lv_at hl 0 rfl) ?_
  refine lv_i2l cx.1 cx.2.1 dL_law_828 rfl ?_
  refine W.lcmp cx.1 cx.2.1 dL_law_829 ?_
  refine lv_if_eq (tgt := 835) cx.1 cx.2.1 dL_law_830 (by decide) (fun _ => ?_) (fun hc => absurd (by rw [h4 hc0]; exact lg_cmp_self _) hc)
  refine lv_goto (tgt := 1911) cx.1 cx.2.1 dL_law_835 (by decide) ?_
  exact kk S2 _ _ _ h5 hw hS (lv_sub hl [2, 3, 4, 5, 6] rfl)
set_option maxHeartbeats 4000000 in
set_option maxRecDepth 100000 in
theorem law_12 {p : Program} {l : Launch} {e : Env} {s : State} {m : MethodId} {below : List Frame} {meth : Method} {c : Code} {Q : State → Prop} {G : gG} {b L : Nat} {xs : Nat → Int32} (hst : l.stackTraces = false) (hO : 403 ≤ gN G) (cx : gCx p s m c cL_law 7 RL G) (hX : gX s) (hZ : gZ (gA G s.heap.size) s s.heap) (hXs : va_X b L xs s s.heap) (hbl : b < s.heap.size) (hbA : ¬ gA G s.heap.size b) (hL : L ≤ 3072) {i cells slots : Nat} {x4 : Int32} (hx4 : x4 = nI i) (hi : i + 6 ≤ L) (hcs : cells + 6 ≤ room_1.cells ∧ slots + 36 ≤ room_1.slots) {S : Sg} {H : Heap} {locs : List Loc} {ls : Array Slot} (hw : gP G S H) (hS : va_S (gA G s.heap.size) s.heap H locs) (hl : lv_has ls 7 [(0, .ref b), (1, .ref (G.2.1 0)), (2, .ref (G.2.1 392)), (3, .ref (G.2.1 402)), (4, .int x4)]) (I : Sg → Prop) (hok : OkA (f_L_offer (xs (i + 1)) (xs (i + 2)) (xs (i + 3)) (xs (i + 4))) (f_X11_offer (xs (i + 1)) (xs (i + 2)) (xs (i + 3)) (xs (i + 4))) I S)
    (kk : ∀ (S' : Sg) (H : Heap) (locs : List Loc) (ls : Array Slot), I S' → gP G S' H → va_S (gA G s.heap.size) s.heap H locs → lv_has ls 7 [(0, .ref b), (1, .ref (G.2.1 0)), (2, .ref (G.2.1 392)), (3, .ref (G.2.1 402)), (4, .int x4)] → W p l e room_1 s m #[Value.ref b] below meth c H locs (cells + 6) (slots + 36) Q (F0 m 1911 ls [])) : W p l e room_1 s m #[Value.ref b] below meth c H locs cells slots Q (F0 m 838 ls []) := by
  have hM : 402 ≤ gN G := by omega
  have hN := cx.2.2.2.2.hN
  obtain ⟨k9, b9, S1, S2, h1, h2, h3, h4, h5⟩ := hok
  refine lv_aload_n cx.1 cx.2.1 dL_law_838 rfl (lv_at hl 1 rfl) ?_
  refine lv_aload_n cx.1 cx.2.1 dL_law_839 rfl (lv_at hl 0 rfl) ?_
  refine lv_iload cx.1 cx.2.1 dL_law_840 (lv_at hl 4 rfl) ?_
  refine lv_iconst (v := nI 1) cx.1 cx.2.1 dL_law_842 (by decide) ?_
  refine lv_iadd cx.1 cx.2.1 dL_law_843 ?_
  refine va_sld cx.1 cx.2.1 hXs hbl hbA hS (nI_inL (k := 1) hx4 (by omega) (by omega)) dL_law_844 ?_
  refine W.eq (g2 := F0 m 845 ls [.int (xs (i + 1)), .ref (G.2.1 0)]) (by rw [nI_ix hx4 (by omega)]) ?_
  refine lv_aload_n cx.1 cx.2.1 dL_law_845 rfl (lv_at hl 0 rfl) ?_
  refine lv_iload cx.1 cx.2.1 dL_law_846 (lv_at hl 4 rfl) ?_
  refine lv_iconst (v := nI 2) cx.1 cx.2.1 dL_law_848 (by decide) ?_
  refine lv_iadd cx.1 cx.2.1 dL_law_849 ?_
  refine va_sld cx.1 cx.2.1 hXs hbl hbA hS (nI_inL (k := 2) hx4 (by omega) (by omega)) dL_law_850 ?_
  refine W.eq (g2 := F0 m 851 ls [.int (xs (i + 2)), .int (xs (i + 1)), .ref (G.2.1 0)]) (by rw [nI_ix hx4 (by omega)]) ?_
  refine lv_aload_n cx.1 cx.2.1 dL_law_851 rfl (lv_at hl 0 rfl) ?_
  refine lv_iload cx.1 cx.2.1 dL_law_852 (lv_at hl 4 rfl) ?_
  refine lv_iconst (v := nI 3) cx.1 cx.2.1 dL_law_854 (by decide) ?_
  refine lv_iadd cx.1 cx.2.1 dL_law_855 ?_
  refine va_sld cx.1 cx.2.1 hXs hbl hbA hS (nI_inL (k := 3) hx4 (by omega) (by omega)) dL_law_856 ?_
  refine W.eq (g2 := F0 m 857 ls [.int (xs (i + 3)), .int (xs (i + 2)), .int (xs (i + 1)), .ref (G.2.1 0)]) (by rw [nI_ix hx4 (by omega)]) ?_
  refine lv_aload_n cx.1 cx.2.1 dL_law_857 rfl (lv_at hl 0 rfl) ?_
  refine lv_iload cx.1 cx.2.1 dL_law_858 (lv_at hl 4 rfl) ?_
  refine lv_iconst (v := nI 4) cx.1 cx.2.1 dL_law_860 (by decide) ?_
  refine lv_iadd cx.1 cx.2.1 dL_law_861 ?_
  refine va_sld cx.1 cx.2.1 hXs hbl hbA hS (nI_inL (k := 4) hx4 (by omega) (by omega)) dL_law_862 ?_
  refine W.eq (g2 := F0 m 863 ls [.int (xs (i + 4)), .int (xs (i + 3)), .int (xs (i + 2)), .int (xs (i + 1)), .ref (G.2.1 0)]) (by rw [nI_ix hx4 (by omega)]) ?_
  refine lv_aload_n cx.1 cx.2.1 dL_law_863 rfl (lv_at hl 3 rfl) ?_
  refine g_LS (As := [.ref (G.2.1 0), .int (xs (i + 1)), .int (xs (i + 2)), .int (xs (i + 3)), .int (xs (i + 4)), .ref (G.2.1 402)]) (rest := []) cx hX hZ hw hS (c_L_offer l hst G hO (xs (i + 1)) (xs (i + 2)) (xs (i + 3)) (xs (i + 4)) S k9 S1 h1) gw_635 gw_166 gyw_L_offer ⟨by decide, by decide⟩ ⟨Nat.le_of_ble_eq_true rfl, Nat.le_of_ble_eq_true rfl⟩ hcs rfl hl.1 rfl (Nat.le_of_ble_eq_true rfl) dL_law_864 (fun H locs hw hS => ?_)
  refine W.eq (g2 := F0 m 867 ls [.int k9]) rfl ?_
  refine lv_istore (lv' := [(5, .int k9), (0, .ref b), (1, .ref (G.2.1 0)), (2, .ref (G.2.1 392)), (3, .ref (G.2.1 402)), (4, .int x4)]) cx.1 cx.2.1 dL_law_867 hl (by decide) rfl (fun ls hl => ?_)
  refine lv_aload_n cx.1 cx.2.1 dL_law_869 rfl (lv_at hl 3 rfl) ?_
  refine lv_aload_n cx.1 cx.2.1 dL_law_870 rfl (lv_at hl 1 rfl) ?_
  refine lv_iload cx.1 cx.2.1 dL_law_871 (lv_at hl 5 rfl) ?_
  refine lv_iconst (v := nI 1) cx.1 cx.2.1 dL_law_873 (by decide) ?_
  refine lv_iadd cx.1 cx.2.1 dL_law_874 ?_
  refine va_sld cx.1 cx.2.1 hXs hbl hbA hS (nI_inL (k := 1) hx4 (by omega) (by omega)) dL_law_875 ?_
  refine W.eq (g2 := F0 m 876 ls [.int (xs (i + 1)), .ref (G.2.1 392)]) (by rw [nI_ix hx4 (by omega)]) ?_
  refine lv_aload_n cx.1 cx.2.1 dL_law_876 rfl (lv_at hl 1 rfl) ?_
  refine lv_iload cx.1 cx.2.1 dL_law_877 (lv_at hl 5 rfl) ?_
  refine lv_iconst (v := nI 2) cx.1 cx.2.1 dL_law_879 (by decide) ?_
  refine lv_iadd cx.1 cx.2.1 dL_law_880 ?_
  refine va_sld cx.1 cx.2.1 hXs hbl hbA hS (nI_inL (k := 2) hx4 (by omega) (by omega)) dL_law_881 ?_
  refine W.eq (g2 := F0 m 882 ls [.int (xs (i + 2)), .int (xs (i + 1)), .ref (G.2.1 392)]) (by rw [nI_ix hx4 (by omega)]) ?_
  refine lv_aload_n cx.1 cx.2.1 dL_law_882 rfl (lv_at hl 1 rfl) ?_
  refine lv_iload cx.1 cx.2.1 dL_law_883 (lv_at hl 5 rfl) ?_
  refine lv_iconst (v := nI 3) cx.1 cx.2.1 dL_law_885 (by decide) ?_
  refine lv_iadd cx.1 cx.2.1 dL_law_886 ?_
  refine va_sld cx.1 cx.2.1 hXs hbl hbA hS (nI_inL (k := 3) hx4 (by omega) (by omega)) dL_law_887 ?_
  refine W.eq (g2 := F0 m 888 ls [.int (xs (i + 3)), .int (xs (i + 2)), .int (xs (i + 1)), .ref (G.2.1 392)]) (by rw [nI_ix hx4 (by omega)]) ?_
  refine lv_aload_n cx.1 cx.2.1 dL_law_888 rfl (lv_at hl 1 rfl) ?_
  refine lv_iload cx.1 cx.2.1 dL_law_889 (lv_at hl 5 rfl) ?_
  refine lv_iconst (v := nI 4) cx.1 cx.2.1 dL_law_891 (by decide) ?_
  refine lv_iadd cx.1 cx.2.1 dL_law_892 ?_
  refine va_sld cx.1 cx.2.1 hXs hbl hbA hS (nI_inL (k := 4) hx4 (by omega) (by omega)) dL_law_893 ?_
  refine W.eq (g2 := F0 m 894 ls [.int (xs (i + 4)), .int (xs (i + 3)), .int (xs (i + 2)), .int (xs (i + 1)), .ref (G.2.1 392)]) (by rw [nI_ix hx4 (by omega)]) ?_
  refine g_V (As := [.int (xs (i + 1)), .int (xs (i + 2)), .int (xs (i + 3)), .int (xs (i + 4))]) (rest := []) cx hw hS (c_X11_offer l G hM (xs (i + 1)) (xs (i + 2)) (xs (i + 3)) (xs (i + 4)) S1 b9 S2 h2) (by omega) he_c392 rfl rfl gw_651 gy_X11_offer gi_X11_offer ⟨Nat.le_of_ble_eq_true rfl, Nat.le_of_ble_eq_true rfl⟩ hcs rfl hl.1 rfl (Nat.le_of_ble_eq_true rfl) dL_law_894 (fun H locs hw hS => ?_)
  refine W.eq (g2 := F0 m 897 ls [.int b9]) rfl ?_
  refine lv_istore (lv' := [(6, .int b9), (5, .int k9), (0, .ref b), (1, .ref (G.2.1 0)), (2, .ref (G.2.1 392)), (3, .ref (G.2.1 402)), (4, .int x4)]) cx.1 cx.2.1 dL_law_897 hl (by decide) rfl (fun ls hl => ?_)
  refine lv_aload_n cx.1 cx.2.1 dL_law_899 rfl (lv_at hl 4 rfl) ?_
  refine g_V (As := []) (rest := []) cx hw hS (c_X11_thrown l G hM S2 k9 S2 h3) (by omega) he_c392 rfl rfl gw_205 gy_X11_thrown gi_X11_thrown ⟨Nat.le_of_ble_eq_true rfl, Nat.le_of_ble_eq_true rfl⟩ hcs rfl hl.1 rfl (Nat.le_of_ble_eq_true rfl) dL_law_900 (fun H locs hw hS => ?_)
  refine W.eq (g2 := F0 m 903 ls [.int k9]) rfl ?_
  refine lv_iload cx.1 cx.2.1 dL_law_903 (lv_at hl 1 rfl) ?_
  refine lv_icmp_eq (tgt := 910) cx.1 cx.2.1 dL_law_905 (by decide) (fun _ => ?_) (fun hc => absurd rfl hc)
  refine lv_iload cx.1 cx.2.1 dL_law_910 (lv_at hl 1 rfl) ?_
  refine lv_if_ne (tgt := 927) cx.1 cx.2.1 dL_law_912 (by decide) (fun hc => ?_) (fun hc0 => ?_)
  · refine lv_goto (tgt := 1911) cx.1 cx.2.1 dL_law_927 (by decide) ?_
    exact kk S2 _ _ _ h5 hw hS (lv_sub hl [2, 3, 4, 5, 6] rfl)
  refine lv_aload_n cx.1 cx.2.1 dL_law_915 rfl (lv_at hl 5 rfl) ?_
  refine lv_iconst (v := (0 : Int32)) cx.1 cx.2.1 dL_law_916 (by decide) ?_
  refine g_lald24 hO cx hw dL_law_917 ?_
  refine lv_iload cx.1 cx.2.1 dL_law_918 (lv_at hl 0 rfl) ?_
  refine lv_i2l cx.1 cx.2.1 dL_law_920 rfl ?_
  refine W.lcmp cx.1 cx.2.1 dL_law_921 ?_
  refine lv_if_eq (tgt := 927) cx.1 cx.2.1 dL_law_922 (by decide) (fun _ => ?_) (fun hc => absurd (by rw [h4 hc0]; exact lg_cmp_self _) hc)
  refine lv_goto (tgt := 1911) cx.1 cx.2.1 dL_law_927 (by decide) ?_
  exact kk S2 _ _ _ h5 hw hS (lv_sub hl [2, 3, 4, 5, 6] rfl)
set_option maxHeartbeats 4000000 in
set_option maxRecDepth 100000 in
theorem law_13 {p : Program} {l : Launch} {e : Env} {s : State} {m : MethodId} {below : List Frame} {meth : Method} {c : Code} {Q : State → Prop} {G : gG} {b L : Nat} {xs : Nat → Int32} (hst : l.stackTraces = false) (hO : 403 ≤ gN G) (cx : gCx p s m c cL_law 7 RL G) (hX : gX s) (hZ : gZ (gA G s.heap.size) s s.heap) (hXs : va_X b L xs s s.heap) (hbl : b < s.heap.size) (hbA : ¬ gA G s.heap.size b) (hL : L ≤ 3072) {i cells slots : Nat} {x4 : Int32} (hx4 : x4 = nI i) (hi : i + 6 ≤ L) (hcs : cells + 3 ≤ room_1.cells ∧ slots + 18 ≤ room_1.slots) {S : Sg} {H : Heap} {locs : List Loc} {ls : Array Slot} (hw : gP G S H) (hS : va_S (gA G s.heap.size) s.heap H locs) (hl : lv_has ls 7 [(0, .ref b), (1, .ref (G.2.1 0)), (2, .ref (G.2.1 392)), (3, .ref (G.2.1 402)), (4, .int x4)]) (I : Sg → Prop) (hok : OkA (f_L_take (xs (i + 1)) (xs (i + 2))) (f_X11_take (xs (i + 1)) (xs (i + 2))) I S)
    (kk : ∀ (S' : Sg) (H : Heap) (locs : List Loc) (ls : Array Slot), I S' → gP G S' H → va_S (gA G s.heap.size) s.heap H locs → lv_has ls 7 [(0, .ref b), (1, .ref (G.2.1 0)), (2, .ref (G.2.1 392)), (3, .ref (G.2.1 402)), (4, .int x4)] → W p l e room_1 s m #[Value.ref b] below meth c H locs (cells + 3) (slots + 18) Q (F0 m 1911 ls [])) : W p l e room_1 s m #[Value.ref b] below meth c H locs cells slots Q (F0 m 930 ls []) := by
  have hM : 402 ≤ gN G := by omega
  have hN := cx.2.2.2.2.hN
  obtain ⟨k9, b9, S1, S2, h1, h2, h3, h4, h5⟩ := hok
  refine lv_aload_n cx.1 cx.2.1 dL_law_930 rfl (lv_at hl 1 rfl) ?_
  refine lv_aload_n cx.1 cx.2.1 dL_law_931 rfl (lv_at hl 0 rfl) ?_
  refine lv_iload cx.1 cx.2.1 dL_law_932 (lv_at hl 4 rfl) ?_
  refine lv_iconst (v := nI 1) cx.1 cx.2.1 dL_law_934 (by decide) ?_
  refine lv_iadd cx.1 cx.2.1 dL_law_935 ?_
  refine va_sld cx.1 cx.2.1 hXs hbl hbA hS (nI_inL (k := 1) hx4 (by omega) (by omega)) dL_law_936 ?_
  refine W.eq (g2 := F0 m 937 ls [.int (xs (i + 1)), .ref (G.2.1 0)]) (by rw [nI_ix hx4 (by omega)]) ?_
  refine lv_aload_n cx.1 cx.2.1 dL_law_937 rfl (lv_at hl 0 rfl) ?_
  refine lv_iload cx.1 cx.2.1 dL_law_938 (lv_at hl 4 rfl) ?_
  refine lv_iconst (v := nI 2) cx.1 cx.2.1 dL_law_940 (by decide) ?_
  refine lv_iadd cx.1 cx.2.1 dL_law_941 ?_
  refine va_sld cx.1 cx.2.1 hXs hbl hbA hS (nI_inL (k := 2) hx4 (by omega) (by omega)) dL_law_942 ?_
  refine W.eq (g2 := F0 m 943 ls [.int (xs (i + 2)), .int (xs (i + 1)), .ref (G.2.1 0)]) (by rw [nI_ix hx4 (by omega)]) ?_
  refine lv_aload_n cx.1 cx.2.1 dL_law_943 rfl (lv_at hl 3 rfl) ?_
  refine g_LS (As := [.ref (G.2.1 0), .int (xs (i + 1)), .int (xs (i + 2)), .ref (G.2.1 402)]) (rest := []) cx hX hZ hw hS (c_L_take l hst G hO (xs (i + 1)) (xs (i + 2)) S k9 S1 h1) gw_660 gw_166 gyw_L_take ⟨by decide, by decide⟩ ⟨Nat.le_of_ble_eq_true rfl, Nat.le_of_ble_eq_true rfl⟩ hcs rfl hl.1 rfl (Nat.le_of_ble_eq_true rfl) dL_law_944 (fun H locs hw hS => ?_)
  refine W.eq (g2 := F0 m 947 ls [.int k9]) rfl ?_
  refine lv_istore (lv' := [(5, .int k9), (0, .ref b), (1, .ref (G.2.1 0)), (2, .ref (G.2.1 392)), (3, .ref (G.2.1 402)), (4, .int x4)]) cx.1 cx.2.1 dL_law_947 hl (by decide) rfl (fun ls hl => ?_)
  refine lv_aload_n cx.1 cx.2.1 dL_law_949 rfl (lv_at hl 3 rfl) ?_
  refine lv_aload_n cx.1 cx.2.1 dL_law_950 rfl (lv_at hl 1 rfl) ?_
  refine lv_iload cx.1 cx.2.1 dL_law_951 (lv_at hl 5 rfl) ?_
  refine lv_iconst (v := nI 1) cx.1 cx.2.1 dL_law_953 (by decide) ?_
  refine lv_iadd cx.1 cx.2.1 dL_law_954 ?_
  refine va_sld cx.1 cx.2.1 hXs hbl hbA hS (nI_inL (k := 1) hx4 (by omega) (by omega)) dL_law_955 ?_
  refine W.eq (g2 := F0 m 956 ls [.int (xs (i + 1)), .ref (G.2.1 392)]) (by rw [nI_ix hx4 (by omega)]) ?_
  refine lv_aload_n cx.1 cx.2.1 dL_law_956 rfl (lv_at hl 1 rfl) ?_
  refine lv_iload cx.1 cx.2.1 dL_law_957 (lv_at hl 5 rfl) ?_
  refine lv_iconst (v := nI 2) cx.1 cx.2.1 dL_law_959 (by decide) ?_
  refine lv_iadd cx.1 cx.2.1 dL_law_960 ?_
  refine va_sld cx.1 cx.2.1 hXs hbl hbA hS (nI_inL (k := 2) hx4 (by omega) (by omega)) dL_law_961 ?_
  refine W.eq (g2 := F0 m 962 ls [.int (xs (i + 2)), .int (xs (i + 1)), .ref (G.2.1 392)]) (by rw [nI_ix hx4 (by omega)]) ?_
  refine g_V (As := [.int (xs (i + 1)), .int (xs (i + 2))]) (rest := []) cx hw hS (c_X11_take l G hM (xs (i + 1)) (xs (i + 2)) S1 b9 S2 h2) (by omega) he_c392 rfl rfl gw_680 gy_X11_take gi_X11_take ⟨Nat.le_of_ble_eq_true rfl, Nat.le_of_ble_eq_true rfl⟩ hcs rfl hl.1 rfl (Nat.le_of_ble_eq_true rfl) dL_law_962 (fun H locs hw hS => ?_)
  refine W.eq (g2 := F0 m 965 ls [.int b9]) rfl ?_
  refine lv_istore (lv' := [(6, .int b9), (5, .int k9), (0, .ref b), (1, .ref (G.2.1 0)), (2, .ref (G.2.1 392)), (3, .ref (G.2.1 402)), (4, .int x4)]) cx.1 cx.2.1 dL_law_965 hl (by decide) rfl (fun ls hl => ?_)
  refine lv_aload_n cx.1 cx.2.1 dL_law_967 rfl (lv_at hl 4 rfl) ?_
  refine g_V (As := []) (rest := []) cx hw hS (c_X11_thrown l G hM S2 k9 S2 h3) (by omega) he_c392 rfl rfl gw_205 gy_X11_thrown gi_X11_thrown ⟨Nat.le_of_ble_eq_true rfl, Nat.le_of_ble_eq_true rfl⟩ hcs rfl hl.1 rfl (Nat.le_of_ble_eq_true rfl) dL_law_968 (fun H locs hw hS => ?_)
  refine W.eq (g2 := F0 m 971 ls [.int k9]) rfl ?_
  refine lv_iload cx.1 cx.2.1 dL_law_971 (lv_at hl 1 rfl) ?_
  refine lv_icmp_eq (tgt := 978) cx.1 cx.2.1 dL_law_973 (by decide) (fun _ => ?_) (fun hc => absurd rfl hc)
  refine lv_iload cx.1 cx.2.1 dL_law_978 (lv_at hl 1 rfl) ?_
  refine lv_if_ne (tgt := 995) cx.1 cx.2.1 dL_law_980 (by decide) (fun hc => ?_) (fun hc0 => ?_)
  · refine lv_goto (tgt := 1911) cx.1 cx.2.1 dL_law_995 (by decide) ?_
    exact kk S2 _ _ _ h5 hw hS (lv_sub hl [2, 3, 4, 5, 6] rfl)
  refine lv_aload_n cx.1 cx.2.1 dL_law_983 rfl (lv_at hl 5 rfl) ?_
  refine lv_iconst (v := (0 : Int32)) cx.1 cx.2.1 dL_law_984 (by decide) ?_
  refine g_lald24 hO cx hw dL_law_985 ?_
  refine lv_iload cx.1 cx.2.1 dL_law_986 (lv_at hl 0 rfl) ?_
  refine lv_i2l cx.1 cx.2.1 dL_law_988 rfl ?_
  refine W.lcmp cx.1 cx.2.1 dL_law_989 ?_
  refine lv_if_eq (tgt := 995) cx.1 cx.2.1 dL_law_990 (by decide) (fun _ => ?_) (fun hc => absurd (by rw [h4 hc0]; exact lg_cmp_self _) hc)
  refine lv_goto (tgt := 1911) cx.1 cx.2.1 dL_law_995 (by decide) ?_
  exact kk S2 _ _ _ h5 hw hS (lv_sub hl [2, 3, 4, 5, 6] rfl)
set_option maxHeartbeats 4000000 in
set_option maxRecDepth 100000 in
theorem law_14 {p : Program} {l : Launch} {e : Env} {s : State} {m : MethodId} {below : List Frame} {meth : Method} {c : Code} {Q : State → Prop} {G : gG} {b L : Nat} {xs : Nat → Int32} (hst : l.stackTraces = false) (hO : 403 ≤ gN G) (cx : gCx p s m c cL_law 7 RL G) (hX : gX s) (hZ : gZ (gA G s.heap.size) s s.heap) (hXs : va_X b L xs s s.heap) (hbl : b < s.heap.size) (hbA : ¬ gA G s.heap.size b) (hL : L ≤ 3072) {i cells slots : Nat} {x4 : Int32} (hx4 : x4 = nI i) (hi : i + 6 ≤ L) (hcs : cells + 3 ≤ room_1.cells ∧ slots + 18 ≤ room_1.slots) {S : Sg} {H : Heap} {locs : List Loc} {ls : Array Slot} (hw : gP G S H) (hS : va_S (gA G s.heap.size) s.heap H locs) (hl : lv_has ls 7 [(0, .ref b), (1, .ref (G.2.1 0)), (2, .ref (G.2.1 392)), (3, .ref (G.2.1 402)), (4, .int x4)]) (I : Sg → Prop) (hok : OkA (f_L_run (xs (i + 1)) (xs (i + 2))) (f_X11_run (xs (i + 1)) (xs (i + 2))) I S)
    (kk : ∀ (S' : Sg) (H : Heap) (locs : List Loc) (ls : Array Slot), I S' → gP G S' H → va_S (gA G s.heap.size) s.heap H locs → lv_has ls 7 [(0, .ref b), (1, .ref (G.2.1 0)), (2, .ref (G.2.1 392)), (3, .ref (G.2.1 402)), (4, .int x4)] → W p l e room_1 s m #[Value.ref b] below meth c H locs (cells + 3) (slots + 18) Q (F0 m 1911 ls [])) : W p l e room_1 s m #[Value.ref b] below meth c H locs cells slots Q (F0 m 998 ls []) := by
  have hM : 402 ≤ gN G := by omega
  have hN := cx.2.2.2.2.hN
  obtain ⟨k9, b9, S1, S2, h1, h2, h3, h4, h5⟩ := hok
  refine lv_aload_n cx.1 cx.2.1 dL_law_998 rfl (lv_at hl 1 rfl) ?_
  refine lv_aload_n cx.1 cx.2.1 dL_law_999 rfl (lv_at hl 0 rfl) ?_
  refine lv_iload cx.1 cx.2.1 dL_law_1000 (lv_at hl 4 rfl) ?_
  refine lv_iconst (v := nI 1) cx.1 cx.2.1 dL_law_1002 (by decide) ?_
  refine lv_iadd cx.1 cx.2.1 dL_law_1003 ?_
  refine va_sld cx.1 cx.2.1 hXs hbl hbA hS (nI_inL (k := 1) hx4 (by omega) (by omega)) dL_law_1004 ?_
  refine W.eq (g2 := F0 m 1005 ls [.int (xs (i + 1)), .ref (G.2.1 0)]) (by rw [nI_ix hx4 (by omega)]) ?_
  refine lv_aload_n cx.1 cx.2.1 dL_law_1005 rfl (lv_at hl 0 rfl) ?_
  refine lv_iload cx.1 cx.2.1 dL_law_1006 (lv_at hl 4 rfl) ?_
  refine lv_iconst (v := nI 2) cx.1 cx.2.1 dL_law_1008 (by decide) ?_
  refine lv_iadd cx.1 cx.2.1 dL_law_1009 ?_
  refine va_sld cx.1 cx.2.1 hXs hbl hbA hS (nI_inL (k := 2) hx4 (by omega) (by omega)) dL_law_1010 ?_
  refine W.eq (g2 := F0 m 1011 ls [.int (xs (i + 2)), .int (xs (i + 1)), .ref (G.2.1 0)]) (by rw [nI_ix hx4 (by omega)]) ?_
  refine lv_aload_n cx.1 cx.2.1 dL_law_1011 rfl (lv_at hl 3 rfl) ?_
  refine g_LS (As := [.ref (G.2.1 0), .int (xs (i + 1)), .int (xs (i + 2)), .ref (G.2.1 402)]) (rest := []) cx hX hZ hw hS (c_L_run l hst G hO (xs (i + 1)) (xs (i + 2)) S k9 S1 h1) gw_690 gw_166 gyw_L_run ⟨by decide, by decide⟩ ⟨Nat.le_of_ble_eq_true rfl, Nat.le_of_ble_eq_true rfl⟩ hcs rfl hl.1 rfl (Nat.le_of_ble_eq_true rfl) dL_law_1012 (fun H locs hw hS => ?_)
  refine W.eq (g2 := F0 m 1015 ls [.int k9]) rfl ?_
  refine lv_istore (lv' := [(5, .int k9), (0, .ref b), (1, .ref (G.2.1 0)), (2, .ref (G.2.1 392)), (3, .ref (G.2.1 402)), (4, .int x4)]) cx.1 cx.2.1 dL_law_1015 hl (by decide) rfl (fun ls hl => ?_)
  refine lv_aload_n cx.1 cx.2.1 dL_law_1017 rfl (lv_at hl 3 rfl) ?_
  refine lv_aload_n cx.1 cx.2.1 dL_law_1018 rfl (lv_at hl 1 rfl) ?_
  refine lv_iload cx.1 cx.2.1 dL_law_1019 (lv_at hl 5 rfl) ?_
  refine lv_iconst (v := nI 1) cx.1 cx.2.1 dL_law_1021 (by decide) ?_
  refine lv_iadd cx.1 cx.2.1 dL_law_1022 ?_
  refine va_sld cx.1 cx.2.1 hXs hbl hbA hS (nI_inL (k := 1) hx4 (by omega) (by omega)) dL_law_1023 ?_
  refine W.eq (g2 := F0 m 1024 ls [.int (xs (i + 1)), .ref (G.2.1 392)]) (by rw [nI_ix hx4 (by omega)]) ?_
  refine lv_aload_n cx.1 cx.2.1 dL_law_1024 rfl (lv_at hl 1 rfl) ?_
  refine lv_iload cx.1 cx.2.1 dL_law_1025 (lv_at hl 5 rfl) ?_
  refine lv_iconst (v := nI 2) cx.1 cx.2.1 dL_law_1027 (by decide) ?_
  refine lv_iadd cx.1 cx.2.1 dL_law_1028 ?_
  refine va_sld cx.1 cx.2.1 hXs hbl hbA hS (nI_inL (k := 2) hx4 (by omega) (by omega)) dL_law_1029 ?_
  refine W.eq (g2 := F0 m 1030 ls [.int (xs (i + 2)), .int (xs (i + 1)), .ref (G.2.1 392)]) (by rw [nI_ix hx4 (by omega)]) ?_
  refine g_V (As := [.int (xs (i + 1)), .int (xs (i + 2))]) (rest := []) cx hw hS (c_X11_run l G hM (xs (i + 1)) (xs (i + 2)) S1 b9 S2 h2) (by omega) he_c392 rfl rfl gw_784 gy_X11_run gi_X11_run ⟨Nat.le_of_ble_eq_true rfl, Nat.le_of_ble_eq_true rfl⟩ hcs rfl hl.1 rfl (Nat.le_of_ble_eq_true rfl) dL_law_1030 (fun H locs hw hS => ?_)
  refine W.eq (g2 := F0 m 1033 ls [.int b9]) rfl ?_
  refine lv_istore (lv' := [(6, .int b9), (5, .int k9), (0, .ref b), (1, .ref (G.2.1 0)), (2, .ref (G.2.1 392)), (3, .ref (G.2.1 402)), (4, .int x4)]) cx.1 cx.2.1 dL_law_1033 hl (by decide) rfl (fun ls hl => ?_)
  refine lv_aload_n cx.1 cx.2.1 dL_law_1035 rfl (lv_at hl 4 rfl) ?_
  refine g_V (As := []) (rest := []) cx hw hS (c_X11_thrown l G hM S2 k9 S2 h3) (by omega) he_c392 rfl rfl gw_205 gy_X11_thrown gi_X11_thrown ⟨Nat.le_of_ble_eq_true rfl, Nat.le_of_ble_eq_true rfl⟩ hcs rfl hl.1 rfl (Nat.le_of_ble_eq_true rfl) dL_law_1036 (fun H locs hw hS => ?_)
  refine W.eq (g2 := F0 m 1039 ls [.int k9]) rfl ?_
  refine lv_iload cx.1 cx.2.1 dL_law_1039 (lv_at hl 1 rfl) ?_
  refine lv_icmp_eq (tgt := 1046) cx.1 cx.2.1 dL_law_1041 (by decide) (fun _ => ?_) (fun hc => absurd rfl hc)
  refine lv_iload cx.1 cx.2.1 dL_law_1046 (lv_at hl 1 rfl) ?_
  refine lv_if_ne (tgt := 1063) cx.1 cx.2.1 dL_law_1048 (by decide) (fun hc => ?_) (fun hc0 => ?_)
  · refine lv_goto (tgt := 1911) cx.1 cx.2.1 dL_law_1063 (by decide) ?_
    exact kk S2 _ _ _ h5 hw hS (lv_sub hl [2, 3, 4, 5, 6] rfl)
  refine lv_aload_n cx.1 cx.2.1 dL_law_1051 rfl (lv_at hl 5 rfl) ?_
  refine lv_iconst (v := (0 : Int32)) cx.1 cx.2.1 dL_law_1052 (by decide) ?_
  refine g_lald24 hO cx hw dL_law_1053 ?_
  refine lv_iload cx.1 cx.2.1 dL_law_1054 (lv_at hl 0 rfl) ?_
  refine lv_i2l cx.1 cx.2.1 dL_law_1056 rfl ?_
  refine W.lcmp cx.1 cx.2.1 dL_law_1057 ?_
  refine lv_if_eq (tgt := 1063) cx.1 cx.2.1 dL_law_1058 (by decide) (fun _ => ?_) (fun hc => absurd (by rw [h4 hc0]; exact lg_cmp_self _) hc)
  refine lv_goto (tgt := 1911) cx.1 cx.2.1 dL_law_1063 (by decide) ?_
  exact kk S2 _ _ _ h5 hw hS (lv_sub hl [2, 3, 4, 5, 6] rfl)
set_option maxHeartbeats 4000000 in
set_option maxRecDepth 100000 in
theorem law_15 {p : Program} {l : Launch} {e : Env} {s : State} {m : MethodId} {below : List Frame} {meth : Method} {c : Code} {Q : State → Prop} {G : gG} {b L : Nat} {xs : Nat → Int32} (hst : l.stackTraces = false) (hO : 403 ≤ gN G) (cx : gCx p s m c cL_law 7 RL G) (hX : gX s) (hZ : gZ (gA G s.heap.size) s s.heap) (hXs : va_X b L xs s s.heap) (hbl : b < s.heap.size) (hbA : ¬ gA G s.heap.size b) (hL : L ≤ 3072) {i cells slots : Nat} {x4 : Int32} (hx4 : x4 = nI i) (hi : i + 6 ≤ L) (hcs : cells + 0 ≤ room_1.cells ∧ slots + 0 ≤ room_1.slots) {S : Sg} {H : Heap} {locs : List Loc} {ls : Array Slot} (hw : gP G S H) (hS : va_S (gA G s.heap.size) s.heap H locs) (hl : lv_has ls 7 [(0, .ref b), (1, .ref (G.2.1 0)), (2, .ref (G.2.1 392)), (3, .ref (G.2.1 402)), (4, .int x4)]) (I : Sg → Prop) (hok : OkB (f_X10_endRound) (f_X11_endRound) I S)
    (kk : ∀ (S' : Sg) (H : Heap) (locs : List Loc) (ls : Array Slot), I S' → gP G S' H → va_S (gA G s.heap.size) s.heap H locs → lv_has ls 7 [(0, .ref b), (1, .ref (G.2.1 0)), (2, .ref (G.2.1 392)), (3, .ref (G.2.1 402)), (4, .int x4)] → W p l e room_1 s m #[Value.ref b] below meth c H locs (cells + 0) (slots + 0) Q (F0 m 1911 ls [])) : W p l e room_1 s m #[Value.ref b] below meth c H locs cells slots Q (F0 m 1066 ls []) := by
  have hM : 402 ≤ gN G := by omega
  have hN := cx.2.2.2.2.hN
  obtain ⟨v9, S1, S2, h1, h2, h3⟩ := hok
  have hcs0 : cells ≤ room_1.cells ∧ slots ≤ room_1.slots := hcs
  refine lv_aload_n cx.1 cx.2.1 dL_law_1066 rfl (lv_at hl 1 rfl) ?_
  refine g_V (As := []) (rest := []) cx hw hS (c_X10_endRound l G S v9 S1 h1) (by omega) he_c0 rfl rfl gw_821 gy_X10_endRound gi_X10_endRound ⟨Nat.le_of_ble_eq_true rfl, Nat.le_of_ble_eq_true rfl⟩ hcs0 rfl hl.1 rfl (Nat.le_of_ble_eq_true rfl) dL_law_1067 (fun H locs hw hS => ?_)
  refine W.eq (g2 := F0 m 1070 ls [.int v9]) rfl ?_
  refine lv_aload_n cx.1 cx.2.1 dL_law_1070 rfl (lv_at hl 2 rfl) ?_
  refine g_V (As := []) (rest := [.int v9]) cx hw hS (c_X11_endRound l G hM S1 v9 S2 h2) (by omega) he_c392 rfl rfl gw_871 gy_X11_endRound gi_X11_endRound ⟨Nat.le_of_ble_eq_true rfl, Nat.le_of_ble_eq_true rfl⟩ hcs0 rfl hl.1 rfl (Nat.le_of_ble_eq_true rfl) dL_law_1071 (fun H locs hw hS => ?_)
  refine W.eq (g2 := F0 m 1074 ls [.int v9, .int v9]) rfl ?_
  refine lv_icmp_eq (tgt := 1911) cx.1 cx.2.1 dL_law_1074 (by decide) (fun _ => ?_) (fun hc => absurd rfl hc)
  exact kk S2 _ _ _ h3 hw hS (lv_sub hl [0, 1, 2, 3, 4] rfl)
set_option maxHeartbeats 4000000 in
set_option maxRecDepth 100000 in
theorem law_16 {p : Program} {l : Launch} {e : Env} {s : State} {m : MethodId} {below : List Frame} {meth : Method} {c : Code} {Q : State → Prop} {G : gG} {b L : Nat} {xs : Nat → Int32} (hst : l.stackTraces = false) (hO : 403 ≤ gN G) (cx : gCx p s m c cL_law 7 RL G) (hX : gX s) (hZ : gZ (gA G s.heap.size) s s.heap) (hXs : va_X b L xs s s.heap) (hbl : b < s.heap.size) (hbA : ¬ gA G s.heap.size b) (hL : L ≤ 3072) {i cells slots : Nat} {x4 : Int32} (hx4 : x4 = nI i) (hi : i + 6 ≤ L) (hcs : cells + 1 ≤ room_1.cells ∧ slots + 6 ≤ room_1.slots) {S : Sg} {H : Heap} {locs : List Loc} {ls : Array Slot} (hw : gP G S H) (hS : va_S (gA G s.heap.size) s.heap H locs) (hl : lv_has ls 7 [(0, .ref b), (1, .ref (G.2.1 0)), (2, .ref (G.2.1 392)), (3, .ref (G.2.1 402)), (4, .int x4)]) (I : Sg → Prop) (hok : OkA (f_L_undo) (f_X11_undo) I S)
    (kk : ∀ (S' : Sg) (H : Heap) (locs : List Loc) (ls : Array Slot), I S' → gP G S' H → va_S (gA G s.heap.size) s.heap H locs → lv_has ls 7 [(0, .ref b), (1, .ref (G.2.1 0)), (2, .ref (G.2.1 392)), (3, .ref (G.2.1 402)), (4, .int x4)] → W p l e room_1 s m #[Value.ref b] below meth c H locs (cells + 1) (slots + 6) Q (F0 m 1911 ls [])) : W p l e room_1 s m #[Value.ref b] below meth c H locs cells slots Q (F0 m 1079 ls []) := by
  have hM : 402 ≤ gN G := by omega
  have hN := cx.2.2.2.2.hN
  obtain ⟨k9, b9, S1, S2, h1, h2, h3, h4, h5⟩ := hok
  refine lv_aload_n cx.1 cx.2.1 dL_law_1079 rfl (lv_at hl 1 rfl) ?_
  refine lv_aload_n cx.1 cx.2.1 dL_law_1080 rfl (lv_at hl 3 rfl) ?_
  refine g_LS (As := [.ref (G.2.1 0), .ref (G.2.1 402)]) (rest := []) cx hX hZ hw hS (c_L_undo l hst G hO S k9 S1 h1) gw_890 gw_166 gyw_L_undo ⟨by decide, by decide⟩ ⟨Nat.le_of_ble_eq_true rfl, Nat.le_of_ble_eq_true rfl⟩ hcs rfl hl.1 rfl (Nat.le_of_ble_eq_true rfl) dL_law_1081 (fun H locs hw hS => ?_)
  refine W.eq (g2 := F0 m 1084 ls [.int k9]) rfl ?_
  refine lv_istore (lv' := [(5, .int k9), (0, .ref b), (1, .ref (G.2.1 0)), (2, .ref (G.2.1 392)), (3, .ref (G.2.1 402)), (4, .int x4)]) cx.1 cx.2.1 dL_law_1084 hl (by decide) rfl (fun ls hl => ?_)
  refine lv_aload_n cx.1 cx.2.1 dL_law_1086 rfl (lv_at hl 3 rfl) ?_
  refine g_V (As := []) (rest := []) cx hw hS (c_X11_undo l G hM S1 b9 S2 h2) (by omega) he_c392 rfl rfl gw_901 gy_X11_undo gi_X11_undo ⟨Nat.le_of_ble_eq_true rfl, Nat.le_of_ble_eq_true rfl⟩ hcs rfl hl.1 rfl (Nat.le_of_ble_eq_true rfl) dL_law_1087 (fun H locs hw hS => ?_)
  refine W.eq (g2 := F0 m 1090 ls [.int b9]) rfl ?_
  refine lv_istore (lv' := [(6, .int b9), (5, .int k9), (0, .ref b), (1, .ref (G.2.1 0)), (2, .ref (G.2.1 392)), (3, .ref (G.2.1 402)), (4, .int x4)]) cx.1 cx.2.1 dL_law_1090 hl (by decide) rfl (fun ls hl => ?_)
  refine lv_aload_n cx.1 cx.2.1 dL_law_1092 rfl (lv_at hl 4 rfl) ?_
  refine g_V (As := []) (rest := []) cx hw hS (c_X11_thrown l G hM S2 k9 S2 h3) (by omega) he_c392 rfl rfl gw_205 gy_X11_thrown gi_X11_thrown ⟨Nat.le_of_ble_eq_true rfl, Nat.le_of_ble_eq_true rfl⟩ hcs rfl hl.1 rfl (Nat.le_of_ble_eq_true rfl) dL_law_1093 (fun H locs hw hS => ?_)
  refine W.eq (g2 := F0 m 1096 ls [.int k9]) rfl ?_
  refine lv_iload cx.1 cx.2.1 dL_law_1096 (lv_at hl 1 rfl) ?_
  refine lv_icmp_eq (tgt := 1103) cx.1 cx.2.1 dL_law_1098 (by decide) (fun _ => ?_) (fun hc => absurd rfl hc)
  refine lv_iload cx.1 cx.2.1 dL_law_1103 (lv_at hl 1 rfl) ?_
  refine lv_if_ne (tgt := 1120) cx.1 cx.2.1 dL_law_1105 (by decide) (fun hc => ?_) (fun hc0 => ?_)
  · refine lv_goto (tgt := 1911) cx.1 cx.2.1 dL_law_1120 (by decide) ?_
    exact kk S2 _ _ _ h5 hw hS (lv_sub hl [2, 3, 4, 5, 6] rfl)
  refine lv_aload_n cx.1 cx.2.1 dL_law_1108 rfl (lv_at hl 5 rfl) ?_
  refine lv_iconst (v := (0 : Int32)) cx.1 cx.2.1 dL_law_1109 (by decide) ?_
  refine g_lald24 hO cx hw dL_law_1110 ?_
  refine lv_iload cx.1 cx.2.1 dL_law_1111 (lv_at hl 0 rfl) ?_
  refine lv_i2l cx.1 cx.2.1 dL_law_1113 rfl ?_
  refine W.lcmp cx.1 cx.2.1 dL_law_1114 ?_
  refine lv_if_eq (tgt := 1120) cx.1 cx.2.1 dL_law_1115 (by decide) (fun _ => ?_) (fun hc => absurd (by rw [h4 hc0]; exact lg_cmp_self _) hc)
  refine lv_goto (tgt := 1911) cx.1 cx.2.1 dL_law_1120 (by decide) ?_
  exact kk S2 _ _ _ h5 hw hS (lv_sub hl [2, 3, 4, 5, 6] rfl)
set_option maxHeartbeats 4000000 in
set_option maxRecDepth 100000 in
theorem law_17 {p : Program} {l : Launch} {e : Env} {s : State} {m : MethodId} {below : List Frame} {meth : Method} {c : Code} {Q : State → Prop} {G : gG} {b L : Nat} {xs : Nat → Int32} (hst : l.stackTraces = false) (hO : 403 ≤ gN G) (cx : gCx p s m c cL_law 7 RL G) (hX : gX s) (hZ : gZ (gA G s.heap.size) s s.heap) (hXs : va_X b L xs s s.heap) (hbl : b < s.heap.size) (hbA : ¬ gA G s.heap.size b) (hL : L ≤ 3072) {i cells slots : Nat} {x4 : Int32} (hx4 : x4 = nI i) (hi : i + 6 ≤ L) (hcs : cells + 6 ≤ room_1.cells ∧ slots + 36 ≤ room_1.slots) {S : Sg} {H : Heap} {locs : List Loc} {ls : Array Slot} (hw : gP G S H) (hS : va_S (gA G s.heap.size) s.heap H locs) (hl : lv_has ls 7 [(0, .ref b), (1, .ref (G.2.1 0)), (2, .ref (G.2.1 392)), (3, .ref (G.2.1 402)), (4, .int x4)]) (I : Sg → Prop) (hok : OkA (f_L_way (xs (i + 1)) (xs (i + 2)) (xs (i + 3)) (xs (i + 4)) (xs (i + 5))) (f_X11_way (xs (i + 1)) (xs (i + 2)) (xs (i + 3)) (xs (i + 4)) (xs (i + 5))) I S)
    (kk : ∀ (S' : Sg) (H : Heap) (locs : List Loc) (ls : Array Slot), I S' → gP G S' H → va_S (gA G s.heap.size) s.heap H locs → lv_has ls 7 [(0, .ref b), (1, .ref (G.2.1 0)), (2, .ref (G.2.1 392)), (3, .ref (G.2.1 402)), (4, .int x4)] → W p l e room_1 s m #[Value.ref b] below meth c H locs (cells + 6) (slots + 36) Q (F0 m 1911 ls [])) : W p l e room_1 s m #[Value.ref b] below meth c H locs cells slots Q (F0 m 1123 ls []) := by
  have hM : 402 ≤ gN G := by omega
  have hN := cx.2.2.2.2.hN
  obtain ⟨k9, b9, S1, S2, h1, h2, h3, h4, h5⟩ := hok
  refine lv_aload_n cx.1 cx.2.1 dL_law_1123 rfl (lv_at hl 1 rfl) ?_
  refine lv_aload_n cx.1 cx.2.1 dL_law_1124 rfl (lv_at hl 0 rfl) ?_
  refine lv_iload cx.1 cx.2.1 dL_law_1125 (lv_at hl 4 rfl) ?_
  refine lv_iconst (v := nI 1) cx.1 cx.2.1 dL_law_1127 (by decide) ?_
  refine lv_iadd cx.1 cx.2.1 dL_law_1128 ?_
  refine va_sld cx.1 cx.2.1 hXs hbl hbA hS (nI_inL (k := 1) hx4 (by omega) (by omega)) dL_law_1129 ?_
  refine W.eq (g2 := F0 m 1130 ls [.int (xs (i + 1)), .ref (G.2.1 0)]) (by rw [nI_ix hx4 (by omega)]) ?_
  refine lv_aload_n cx.1 cx.2.1 dL_law_1130 rfl (lv_at hl 0 rfl) ?_
  refine lv_iload cx.1 cx.2.1 dL_law_1131 (lv_at hl 4 rfl) ?_
  refine lv_iconst (v := nI 2) cx.1 cx.2.1 dL_law_1133 (by decide) ?_
  refine lv_iadd cx.1 cx.2.1 dL_law_1134 ?_
  refine va_sld cx.1 cx.2.1 hXs hbl hbA hS (nI_inL (k := 2) hx4 (by omega) (by omega)) dL_law_1135 ?_
  refine W.eq (g2 := F0 m 1136 ls [.int (xs (i + 2)), .int (xs (i + 1)), .ref (G.2.1 0)]) (by rw [nI_ix hx4 (by omega)]) ?_
  refine lv_aload_n cx.1 cx.2.1 dL_law_1136 rfl (lv_at hl 0 rfl) ?_
  refine lv_iload cx.1 cx.2.1 dL_law_1137 (lv_at hl 4 rfl) ?_
  refine lv_iconst (v := nI 3) cx.1 cx.2.1 dL_law_1139 (by decide) ?_
  refine lv_iadd cx.1 cx.2.1 dL_law_1140 ?_
  refine va_sld cx.1 cx.2.1 hXs hbl hbA hS (nI_inL (k := 3) hx4 (by omega) (by omega)) dL_law_1141 ?_
  refine W.eq (g2 := F0 m 1142 ls [.int (xs (i + 3)), .int (xs (i + 2)), .int (xs (i + 1)), .ref (G.2.1 0)]) (by rw [nI_ix hx4 (by omega)]) ?_
  refine lv_aload_n cx.1 cx.2.1 dL_law_1142 rfl (lv_at hl 0 rfl) ?_
  refine lv_iload cx.1 cx.2.1 dL_law_1143 (lv_at hl 4 rfl) ?_
  refine lv_iconst (v := nI 4) cx.1 cx.2.1 dL_law_1145 (by decide) ?_
  refine lv_iadd cx.1 cx.2.1 dL_law_1146 ?_
  refine va_sld cx.1 cx.2.1 hXs hbl hbA hS (nI_inL (k := 4) hx4 (by omega) (by omega)) dL_law_1147 ?_
  refine W.eq (g2 := F0 m 1148 ls [.int (xs (i + 4)), .int (xs (i + 3)), .int (xs (i + 2)), .int (xs (i + 1)), .ref (G.2.1 0)]) (by rw [nI_ix hx4 (by omega)]) ?_
  refine lv_aload_n cx.1 cx.2.1 dL_law_1148 rfl (lv_at hl 0 rfl) ?_
  refine lv_iload cx.1 cx.2.1 dL_law_1149 (lv_at hl 4 rfl) ?_
  refine lv_iconst (v := nI 5) cx.1 cx.2.1 dL_law_1151 (by decide) ?_
  refine lv_iadd cx.1 cx.2.1 dL_law_1152 ?_
  refine va_sld cx.1 cx.2.1 hXs hbl hbA hS (nI_inL (k := 5) hx4 (by omega) (by omega)) dL_law_1153 ?_
  refine W.eq (g2 := F0 m 1154 ls [.int (xs (i + 5)), .int (xs (i + 4)), .int (xs (i + 3)), .int (xs (i + 2)), .int (xs (i + 1)), .ref (G.2.1 0)]) (by rw [nI_ix hx4 (by omega)]) ?_
  refine lv_aload_n cx.1 cx.2.1 dL_law_1154 rfl (lv_at hl 3 rfl) ?_
  refine g_LS (As := [.ref (G.2.1 0), .int (xs (i + 1)), .int (xs (i + 2)), .int (xs (i + 3)), .int (xs (i + 4)), .int (xs (i + 5)), .ref (G.2.1 402)]) (rest := []) cx hX hZ hw hS (c_L_way l hst G hO (xs (i + 1)) (xs (i + 2)) (xs (i + 3)) (xs (i + 4)) (xs (i + 5)) S k9 S1 h1) gw_905 gw_166 gyw_L_way ⟨by decide, by decide⟩ ⟨Nat.le_of_ble_eq_true rfl, Nat.le_of_ble_eq_true rfl⟩ hcs rfl hl.1 rfl (Nat.le_of_ble_eq_true rfl) dL_law_1155 (fun H locs hw hS => ?_)
  refine W.eq (g2 := F0 m 1158 ls [.int k9]) rfl ?_
  refine lv_istore (lv' := [(5, .int k9), (0, .ref b), (1, .ref (G.2.1 0)), (2, .ref (G.2.1 392)), (3, .ref (G.2.1 402)), (4, .int x4)]) cx.1 cx.2.1 dL_law_1158 hl (by decide) rfl (fun ls hl => ?_)
  refine lv_aload_n cx.1 cx.2.1 dL_law_1160 rfl (lv_at hl 3 rfl) ?_
  refine lv_aload_n cx.1 cx.2.1 dL_law_1161 rfl (lv_at hl 1 rfl) ?_
  refine lv_iload cx.1 cx.2.1 dL_law_1162 (lv_at hl 5 rfl) ?_
  refine lv_iconst (v := nI 1) cx.1 cx.2.1 dL_law_1164 (by decide) ?_
  refine lv_iadd cx.1 cx.2.1 dL_law_1165 ?_
  refine va_sld cx.1 cx.2.1 hXs hbl hbA hS (nI_inL (k := 1) hx4 (by omega) (by omega)) dL_law_1166 ?_
  refine W.eq (g2 := F0 m 1167 ls [.int (xs (i + 1)), .ref (G.2.1 392)]) (by rw [nI_ix hx4 (by omega)]) ?_
  refine lv_aload_n cx.1 cx.2.1 dL_law_1167 rfl (lv_at hl 1 rfl) ?_
  refine lv_iload cx.1 cx.2.1 dL_law_1168 (lv_at hl 5 rfl) ?_
  refine lv_iconst (v := nI 2) cx.1 cx.2.1 dL_law_1170 (by decide) ?_
  refine lv_iadd cx.1 cx.2.1 dL_law_1171 ?_
  refine va_sld cx.1 cx.2.1 hXs hbl hbA hS (nI_inL (k := 2) hx4 (by omega) (by omega)) dL_law_1172 ?_
  refine W.eq (g2 := F0 m 1173 ls [.int (xs (i + 2)), .int (xs (i + 1)), .ref (G.2.1 392)]) (by rw [nI_ix hx4 (by omega)]) ?_
  refine lv_aload_n cx.1 cx.2.1 dL_law_1173 rfl (lv_at hl 1 rfl) ?_
  refine lv_iload cx.1 cx.2.1 dL_law_1174 (lv_at hl 5 rfl) ?_
  refine lv_iconst (v := nI 3) cx.1 cx.2.1 dL_law_1176 (by decide) ?_
  refine lv_iadd cx.1 cx.2.1 dL_law_1177 ?_
  refine va_sld cx.1 cx.2.1 hXs hbl hbA hS (nI_inL (k := 3) hx4 (by omega) (by omega)) dL_law_1178 ?_
  refine W.eq (g2 := F0 m 1179 ls [.int (xs (i + 3)), .int (xs (i + 2)), .int (xs (i + 1)), .ref (G.2.1 392)]) (by rw [nI_ix hx4 (by omega)]) ?_
  refine lv_aload_n cx.1 cx.2.1 dL_law_1179 rfl (lv_at hl 1 rfl) ?_
  refine lv_iload cx.1 cx.2.1 dL_law_1180 (lv_at hl 5 rfl) ?_
  refine lv_iconst (v := nI 4) cx.1 cx.2.1 dL_law_1182 (by decide) ?_
  refine lv_iadd cx.1 cx.2.1 dL_law_1183 ?_
  refine va_sld cx.1 cx.2.1 hXs hbl hbA hS (nI_inL (k := 4) hx4 (by omega) (by omega)) dL_law_1184 ?_
  refine W.eq (g2 := F0 m 1185 ls [.int (xs (i + 4)), .int (xs (i + 3)), .int (xs (i + 2)), .int (xs (i + 1)), .ref (G.2.1 392)]) (by rw [nI_ix hx4 (by omega)]) ?_
  refine lv_aload_n cx.1 cx.2.1 dL_law_1185 rfl (lv_at hl 1 rfl) ?_
  refine lv_iload cx.1 cx.2.1 dL_law_1186 (lv_at hl 5 rfl) ?_
  refine lv_iconst (v := nI 5) cx.1 cx.2.1 dL_law_1188 (by decide) ?_
  refine lv_iadd cx.1 cx.2.1 dL_law_1189 ?_
  refine va_sld cx.1 cx.2.1 hXs hbl hbA hS (nI_inL (k := 5) hx4 (by omega) (by omega)) dL_law_1190 ?_
  refine W.eq (g2 := F0 m 1191 ls [.int (xs (i + 5)), .int (xs (i + 4)), .int (xs (i + 3)), .int (xs (i + 2)), .int (xs (i + 1)), .ref (G.2.1 392)]) (by rw [nI_ix hx4 (by omega)]) ?_
  refine g_V (As := [.int (xs (i + 1)), .int (xs (i + 2)), .int (xs (i + 3)), .int (xs (i + 4)), .int (xs (i + 5))]) (rest := []) cx hw hS (c_X11_way l G hM (xs (i + 1)) (xs (i + 2)) (xs (i + 3)) (xs (i + 4)) (xs (i + 5)) S1 b9 S2 h2) (by omega) he_c392 rfl rfl gw_913 gy_X11_way gi_X11_way ⟨Nat.le_of_ble_eq_true rfl, Nat.le_of_ble_eq_true rfl⟩ hcs rfl hl.1 rfl (Nat.le_of_ble_eq_true rfl) dL_law_1191 (fun H locs hw hS => ?_)
  refine W.eq (g2 := F0 m 1194 ls [.int b9]) rfl ?_
  refine lv_istore (lv' := [(6, .int b9), (5, .int k9), (0, .ref b), (1, .ref (G.2.1 0)), (2, .ref (G.2.1 392)), (3, .ref (G.2.1 402)), (4, .int x4)]) cx.1 cx.2.1 dL_law_1194 hl (by decide) rfl (fun ls hl => ?_)
  refine lv_aload_n cx.1 cx.2.1 dL_law_1196 rfl (lv_at hl 4 rfl) ?_
  refine g_V (As := []) (rest := []) cx hw hS (c_X11_thrown l G hM S2 k9 S2 h3) (by omega) he_c392 rfl rfl gw_205 gy_X11_thrown gi_X11_thrown ⟨Nat.le_of_ble_eq_true rfl, Nat.le_of_ble_eq_true rfl⟩ hcs rfl hl.1 rfl (Nat.le_of_ble_eq_true rfl) dL_law_1197 (fun H locs hw hS => ?_)
  refine W.eq (g2 := F0 m 1200 ls [.int k9]) rfl ?_
  refine lv_iload cx.1 cx.2.1 dL_law_1200 (lv_at hl 1 rfl) ?_
  refine lv_icmp_eq (tgt := 1207) cx.1 cx.2.1 dL_law_1202 (by decide) (fun _ => ?_) (fun hc => absurd rfl hc)
  refine lv_iload cx.1 cx.2.1 dL_law_1207 (lv_at hl 1 rfl) ?_
  refine lv_if_ne (tgt := 1224) cx.1 cx.2.1 dL_law_1209 (by decide) (fun hc => ?_) (fun hc0 => ?_)
  · refine lv_goto (tgt := 1911) cx.1 cx.2.1 dL_law_1224 (by decide) ?_
    exact kk S2 _ _ _ h5 hw hS (lv_sub hl [2, 3, 4, 5, 6] rfl)
  refine lv_aload_n cx.1 cx.2.1 dL_law_1212 rfl (lv_at hl 5 rfl) ?_
  refine lv_iconst (v := (0 : Int32)) cx.1 cx.2.1 dL_law_1213 (by decide) ?_
  refine g_lald24 hO cx hw dL_law_1214 ?_
  refine lv_iload cx.1 cx.2.1 dL_law_1215 (lv_at hl 0 rfl) ?_
  refine lv_i2l cx.1 cx.2.1 dL_law_1217 rfl ?_
  refine W.lcmp cx.1 cx.2.1 dL_law_1218 ?_
  refine lv_if_eq (tgt := 1224) cx.1 cx.2.1 dL_law_1219 (by decide) (fun _ => ?_) (fun hc => absurd (by rw [h4 hc0]; exact lg_cmp_self _) hc)
  refine lv_goto (tgt := 1911) cx.1 cx.2.1 dL_law_1224 (by decide) ?_
  exact kk S2 _ _ _ h5 hw hS (lv_sub hl [2, 3, 4, 5, 6] rfl)
set_option maxHeartbeats 4000000 in
set_option maxRecDepth 100000 in
theorem law_18 {p : Program} {l : Launch} {e : Env} {s : State} {m : MethodId} {below : List Frame} {meth : Method} {c : Code} {Q : State → Prop} {G : gG} {b L : Nat} {xs : Nat → Int32} (hst : l.stackTraces = false) (hO : 403 ≤ gN G) (cx : gCx p s m c cL_law 7 RL G) (hX : gX s) (hZ : gZ (gA G s.heap.size) s s.heap) (hXs : va_X b L xs s s.heap) (hbl : b < s.heap.size) (hbA : ¬ gA G s.heap.size b) (hL : L ≤ 3072) {i cells slots : Nat} {x4 : Int32} (hx4 : x4 = nI i) (hi : i + 6 ≤ L) (hcs : cells + 2 ≤ room_1.cells ∧ slots + 12 ≤ room_1.slots) {S : Sg} {H : Heap} {locs : List Loc} {ls : Array Slot} (hw : gP G S H) (hS : va_S (gA G s.heap.size) s.heap H locs) (hl : lv_has ls 7 [(0, .ref b), (1, .ref (G.2.1 0)), (2, .ref (G.2.1 392)), (3, .ref (G.2.1 402)), (4, .int x4)]) (I : Sg → Prop) (hok : OkA (f_L_whyNot (xs (i + 1)) (xs (i + 2))) (f_X11_whyNot (xs (i + 1)) (xs (i + 2))) I S)
    (kk : ∀ (S' : Sg) (H : Heap) (locs : List Loc) (ls : Array Slot), I S' → gP G S' H → va_S (gA G s.heap.size) s.heap H locs → lv_has ls 7 [(0, .ref b), (1, .ref (G.2.1 0)), (2, .ref (G.2.1 392)), (3, .ref (G.2.1 402)), (4, .int x4)] → W p l e room_1 s m #[Value.ref b] below meth c H locs (cells + 2) (slots + 12) Q (F0 m 1911 ls [])) : W p l e room_1 s m #[Value.ref b] below meth c H locs cells slots Q (F0 m 1227 ls []) := by
  have hM : 402 ≤ gN G := by omega
  have hN := cx.2.2.2.2.hN
  obtain ⟨k9, b9, S1, S2, h1, h2, h3, h4, h5⟩ := hok
  refine lv_aload_n cx.1 cx.2.1 dL_law_1227 rfl (lv_at hl 1 rfl) ?_
  refine lv_aload_n cx.1 cx.2.1 dL_law_1228 rfl (lv_at hl 0 rfl) ?_
  refine lv_iload cx.1 cx.2.1 dL_law_1229 (lv_at hl 4 rfl) ?_
  refine lv_iconst (v := nI 1) cx.1 cx.2.1 dL_law_1231 (by decide) ?_
  refine lv_iadd cx.1 cx.2.1 dL_law_1232 ?_
  refine va_sld cx.1 cx.2.1 hXs hbl hbA hS (nI_inL (k := 1) hx4 (by omega) (by omega)) dL_law_1233 ?_
  refine W.eq (g2 := F0 m 1234 ls [.int (xs (i + 1)), .ref (G.2.1 0)]) (by rw [nI_ix hx4 (by omega)]) ?_
  refine lv_aload_n cx.1 cx.2.1 dL_law_1234 rfl (lv_at hl 0 rfl) ?_
  refine lv_iload cx.1 cx.2.1 dL_law_1235 (lv_at hl 4 rfl) ?_
  refine lv_iconst (v := nI 2) cx.1 cx.2.1 dL_law_1237 (by decide) ?_
  refine lv_iadd cx.1 cx.2.1 dL_law_1238 ?_
  refine va_sld cx.1 cx.2.1 hXs hbl hbA hS (nI_inL (k := 2) hx4 (by omega) (by omega)) dL_law_1239 ?_
  refine W.eq (g2 := F0 m 1240 ls [.int (xs (i + 2)), .int (xs (i + 1)), .ref (G.2.1 0)]) (by rw [nI_ix hx4 (by omega)]) ?_
  refine lv_aload_n cx.1 cx.2.1 dL_law_1240 rfl (lv_at hl 3 rfl) ?_
  refine g_LS (As := [.ref (G.2.1 0), .int (xs (i + 1)), .int (xs (i + 2)), .ref (G.2.1 402)]) (rest := []) cx hX hZ hw hS (c_L_whyNot l hst G hO (xs (i + 1)) (xs (i + 2)) S k9 S1 h1) gw_918 gw_166 gyw_L_whyNot ⟨by decide, by decide⟩ ⟨Nat.le_of_ble_eq_true rfl, Nat.le_of_ble_eq_true rfl⟩ hcs rfl hl.1 rfl (Nat.le_of_ble_eq_true rfl) dL_law_1241 (fun H locs hw hS => ?_)
  refine W.eq (g2 := F0 m 1244 ls [.int k9]) rfl ?_
  refine lv_istore (lv' := [(5, .int k9), (0, .ref b), (1, .ref (G.2.1 0)), (2, .ref (G.2.1 392)), (3, .ref (G.2.1 402)), (4, .int x4)]) cx.1 cx.2.1 dL_law_1244 hl (by decide) rfl (fun ls hl => ?_)
  refine lv_aload_n cx.1 cx.2.1 dL_law_1246 rfl (lv_at hl 3 rfl) ?_
  refine lv_aload_n cx.1 cx.2.1 dL_law_1247 rfl (lv_at hl 1 rfl) ?_
  refine lv_iload cx.1 cx.2.1 dL_law_1248 (lv_at hl 5 rfl) ?_
  refine lv_iconst (v := nI 1) cx.1 cx.2.1 dL_law_1250 (by decide) ?_
  refine lv_iadd cx.1 cx.2.1 dL_law_1251 ?_
  refine va_sld cx.1 cx.2.1 hXs hbl hbA hS (nI_inL (k := 1) hx4 (by omega) (by omega)) dL_law_1252 ?_
  refine W.eq (g2 := F0 m 1253 ls [.int (xs (i + 1)), .ref (G.2.1 392)]) (by rw [nI_ix hx4 (by omega)]) ?_
  refine lv_aload_n cx.1 cx.2.1 dL_law_1253 rfl (lv_at hl 1 rfl) ?_
  refine lv_iload cx.1 cx.2.1 dL_law_1254 (lv_at hl 5 rfl) ?_
  refine lv_iconst (v := nI 2) cx.1 cx.2.1 dL_law_1256 (by decide) ?_
  refine lv_iadd cx.1 cx.2.1 dL_law_1257 ?_
  refine va_sld cx.1 cx.2.1 hXs hbl hbA hS (nI_inL (k := 2) hx4 (by omega) (by omega)) dL_law_1258 ?_
  refine W.eq (g2 := F0 m 1259 ls [.int (xs (i + 2)), .int (xs (i + 1)), .ref (G.2.1 392)]) (by rw [nI_ix hx4 (by omega)]) ?_
  refine g_V (As := [.int (xs (i + 1)), .int (xs (i + 2))]) (rest := []) cx hw hS (c_X11_whyNot l G hM (xs (i + 1)) (xs (i + 2)) S1 b9 S2 h2) (by omega) he_c392 rfl rfl gw_925 gy_X11_whyNot gi_X11_whyNot ⟨Nat.le_of_ble_eq_true rfl, Nat.le_of_ble_eq_true rfl⟩ hcs rfl hl.1 rfl (Nat.le_of_ble_eq_true rfl) dL_law_1259 (fun H locs hw hS => ?_)
  refine W.eq (g2 := F0 m 1262 ls [.int b9]) rfl ?_
  refine lv_istore (lv' := [(6, .int b9), (5, .int k9), (0, .ref b), (1, .ref (G.2.1 0)), (2, .ref (G.2.1 392)), (3, .ref (G.2.1 402)), (4, .int x4)]) cx.1 cx.2.1 dL_law_1262 hl (by decide) rfl (fun ls hl => ?_)
  refine lv_aload_n cx.1 cx.2.1 dL_law_1264 rfl (lv_at hl 4 rfl) ?_
  refine g_V (As := []) (rest := []) cx hw hS (c_X11_thrown l G hM S2 k9 S2 h3) (by omega) he_c392 rfl rfl gw_205 gy_X11_thrown gi_X11_thrown ⟨Nat.le_of_ble_eq_true rfl, Nat.le_of_ble_eq_true rfl⟩ hcs rfl hl.1 rfl (Nat.le_of_ble_eq_true rfl) dL_law_1265 (fun H locs hw hS => ?_)
  refine W.eq (g2 := F0 m 1268 ls [.int k9]) rfl ?_
  refine lv_iload cx.1 cx.2.1 dL_law_1268 (lv_at hl 1 rfl) ?_
  refine lv_icmp_eq (tgt := 1275) cx.1 cx.2.1 dL_law_1270 (by decide) (fun _ => ?_) (fun hc => absurd rfl hc)
  refine lv_iload cx.1 cx.2.1 dL_law_1275 (lv_at hl 1 rfl) ?_
  refine lv_if_ne (tgt := 1292) cx.1 cx.2.1 dL_law_1277 (by decide) (fun hc => ?_) (fun hc0 => ?_)
  · refine lv_goto (tgt := 1911) cx.1 cx.2.1 dL_law_1292 (by decide) ?_
    exact kk S2 _ _ _ h5 hw hS (lv_sub hl [2, 3, 4, 5, 6] rfl)
  refine lv_aload_n cx.1 cx.2.1 dL_law_1280 rfl (lv_at hl 5 rfl) ?_
  refine lv_iconst (v := (0 : Int32)) cx.1 cx.2.1 dL_law_1281 (by decide) ?_
  refine g_lald24 hO cx hw dL_law_1282 ?_
  refine lv_iload cx.1 cx.2.1 dL_law_1283 (lv_at hl 0 rfl) ?_
  refine lv_i2l cx.1 cx.2.1 dL_law_1285 rfl ?_
  refine W.lcmp cx.1 cx.2.1 dL_law_1286 ?_
  refine lv_if_eq (tgt := 1292) cx.1 cx.2.1 dL_law_1287 (by decide) (fun _ => ?_) (fun hc => absurd (by rw [h4 hc0]; exact lg_cmp_self _) hc)
  refine lv_goto (tgt := 1911) cx.1 cx.2.1 dL_law_1292 (by decide) ?_
  exact kk S2 _ _ _ h5 hw hS (lv_sub hl [2, 3, 4, 5, 6] rfl)
set_option maxHeartbeats 4000000 in
set_option maxRecDepth 100000 in
theorem law_19 {p : Program} {l : Launch} {e : Env} {s : State} {m : MethodId} {below : List Frame} {meth : Method} {c : Code} {Q : State → Prop} {G : gG} {b L : Nat} {xs : Nat → Int32} (hst : l.stackTraces = false) (hO : 403 ≤ gN G) (cx : gCx p s m c cL_law 7 RL G) (hX : gX s) (hZ : gZ (gA G s.heap.size) s s.heap) (hXs : va_X b L xs s s.heap) (hbl : b < s.heap.size) (hbA : ¬ gA G s.heap.size b) (hL : L ≤ 3072) {i cells slots : Nat} {x4 : Int32} (hx4 : x4 = nI i) (hi : i + 6 ≤ L) (hcs : cells + 2 ≤ room_1.cells ∧ slots + 12 ≤ room_1.slots) {S : Sg} {H : Heap} {locs : List Loc} {ls : Array Slot} (hw : gP G S H) (hS : va_S (gA G s.heap.size) s.heap H locs) (hl : lv_has ls 7 [(0, .ref b), (1, .ref (G.2.1 0)), (2, .ref (G.2.1 392)), (3, .ref (G.2.1 402)), (4, .int x4)]) (I : Sg → Prop) (hok : OkA (f_L_levelFor (xs (i + 1)) (xs (i + 2))) (f_X11_levelFor (xs (i + 1)) (xs (i + 2))) I S)
    (kk : ∀ (S' : Sg) (H : Heap) (locs : List Loc) (ls : Array Slot), I S' → gP G S' H → va_S (gA G s.heap.size) s.heap H locs → lv_has ls 7 [(0, .ref b), (1, .ref (G.2.1 0)), (2, .ref (G.2.1 392)), (3, .ref (G.2.1 402)), (4, .int x4)] → W p l e room_1 s m #[Value.ref b] below meth c H locs (cells + 2) (slots + 12) Q (F0 m 1911 ls [])) : W p l e room_1 s m #[Value.ref b] below meth c H locs cells slots Q (F0 m 1295 ls []) := by
  have hM : 402 ≤ gN G := by omega
  have hN := cx.2.2.2.2.hN
  obtain ⟨k9, b9, S1, S2, h1, h2, h3, h4, h5⟩ := hok
  refine lv_aload_n cx.1 cx.2.1 dL_law_1295 rfl (lv_at hl 1 rfl) ?_
  refine lv_aload_n cx.1 cx.2.1 dL_law_1296 rfl (lv_at hl 0 rfl) ?_
  refine lv_iload cx.1 cx.2.1 dL_law_1297 (lv_at hl 4 rfl) ?_
  refine lv_iconst (v := nI 1) cx.1 cx.2.1 dL_law_1299 (by decide) ?_
  refine lv_iadd cx.1 cx.2.1 dL_law_1300 ?_
  refine va_sld cx.1 cx.2.1 hXs hbl hbA hS (nI_inL (k := 1) hx4 (by omega) (by omega)) dL_law_1301 ?_
  refine W.eq (g2 := F0 m 1302 ls [.int (xs (i + 1)), .ref (G.2.1 0)]) (by rw [nI_ix hx4 (by omega)]) ?_
  refine lv_aload_n cx.1 cx.2.1 dL_law_1302 rfl (lv_at hl 0 rfl) ?_
  refine lv_iload cx.1 cx.2.1 dL_law_1303 (lv_at hl 4 rfl) ?_
  refine lv_iconst (v := nI 2) cx.1 cx.2.1 dL_law_1305 (by decide) ?_
  refine lv_iadd cx.1 cx.2.1 dL_law_1306 ?_
  refine va_sld cx.1 cx.2.1 hXs hbl hbA hS (nI_inL (k := 2) hx4 (by omega) (by omega)) dL_law_1307 ?_
  refine W.eq (g2 := F0 m 1308 ls [.int (xs (i + 2)), .int (xs (i + 1)), .ref (G.2.1 0)]) (by rw [nI_ix hx4 (by omega)]) ?_
  refine lv_aload_n cx.1 cx.2.1 dL_law_1308 rfl (lv_at hl 3 rfl) ?_
  refine g_LS (As := [.ref (G.2.1 0), .int (xs (i + 1)), .int (xs (i + 2)), .ref (G.2.1 402)]) (rest := []) cx hX hZ hw hS (c_L_levelFor l hst G hO (xs (i + 1)) (xs (i + 2)) S k9 S1 h1) gw_929 gw_166 gyw_L_levelFor ⟨by decide, by decide⟩ ⟨Nat.le_of_ble_eq_true rfl, Nat.le_of_ble_eq_true rfl⟩ hcs rfl hl.1 rfl (Nat.le_of_ble_eq_true rfl) dL_law_1309 (fun H locs hw hS => ?_)
  refine W.eq (g2 := F0 m 1312 ls [.int k9]) rfl ?_
  refine lv_istore (lv' := [(5, .int k9), (0, .ref b), (1, .ref (G.2.1 0)), (2, .ref (G.2.1 392)), (3, .ref (G.2.1 402)), (4, .int x4)]) cx.1 cx.2.1 dL_law_1312 hl (by decide) rfl (fun ls hl => ?_)
  refine lv_aload_n cx.1 cx.2.1 dL_law_1314 rfl (lv_at hl 3 rfl) ?_
  refine lv_aload_n cx.1 cx.2.1 dL_law_1315 rfl (lv_at hl 1 rfl) ?_
  refine lv_iload cx.1 cx.2.1 dL_law_1316 (lv_at hl 5 rfl) ?_
  refine lv_iconst (v := nI 1) cx.1 cx.2.1 dL_law_1318 (by decide) ?_
  refine lv_iadd cx.1 cx.2.1 dL_law_1319 ?_
  refine va_sld cx.1 cx.2.1 hXs hbl hbA hS (nI_inL (k := 1) hx4 (by omega) (by omega)) dL_law_1320 ?_
  refine W.eq (g2 := F0 m 1321 ls [.int (xs (i + 1)), .ref (G.2.1 392)]) (by rw [nI_ix hx4 (by omega)]) ?_
  refine lv_aload_n cx.1 cx.2.1 dL_law_1321 rfl (lv_at hl 1 rfl) ?_
  refine lv_iload cx.1 cx.2.1 dL_law_1322 (lv_at hl 5 rfl) ?_
  refine lv_iconst (v := nI 2) cx.1 cx.2.1 dL_law_1324 (by decide) ?_
  refine lv_iadd cx.1 cx.2.1 dL_law_1325 ?_
  refine va_sld cx.1 cx.2.1 hXs hbl hbA hS (nI_inL (k := 2) hx4 (by omega) (by omega)) dL_law_1326 ?_
  refine W.eq (g2 := F0 m 1327 ls [.int (xs (i + 2)), .int (xs (i + 1)), .ref (G.2.1 392)]) (by rw [nI_ix hx4 (by omega)]) ?_
  refine g_V (As := [.int (xs (i + 1)), .int (xs (i + 2))]) (rest := []) cx hw hS (c_X11_levelFor l G hM (xs (i + 1)) (xs (i + 2)) S1 b9 S2 h2) (by omega) he_c392 rfl rfl gw_940 gy_X11_levelFor gi_X11_levelFor ⟨Nat.le_of_ble_eq_true rfl, Nat.le_of_ble_eq_true rfl⟩ hcs rfl hl.1 rfl (Nat.le_of_ble_eq_true rfl) dL_law_1327 (fun H locs hw hS => ?_)
  refine W.eq (g2 := F0 m 1330 ls [.int b9]) rfl ?_
  refine lv_istore (lv' := [(6, .int b9), (5, .int k9), (0, .ref b), (1, .ref (G.2.1 0)), (2, .ref (G.2.1 392)), (3, .ref (G.2.1 402)), (4, .int x4)]) cx.1 cx.2.1 dL_law_1330 hl (by decide) rfl (fun ls hl => ?_)
  refine lv_aload_n cx.1 cx.2.1 dL_law_1332 rfl (lv_at hl 4 rfl) ?_
  refine g_V (As := []) (rest := []) cx hw hS (c_X11_thrown l G hM S2 k9 S2 h3) (by omega) he_c392 rfl rfl gw_205 gy_X11_thrown gi_X11_thrown ⟨Nat.le_of_ble_eq_true rfl, Nat.le_of_ble_eq_true rfl⟩ hcs rfl hl.1 rfl (Nat.le_of_ble_eq_true rfl) dL_law_1333 (fun H locs hw hS => ?_)
  refine W.eq (g2 := F0 m 1336 ls [.int k9]) rfl ?_
  refine lv_iload cx.1 cx.2.1 dL_law_1336 (lv_at hl 1 rfl) ?_
  refine lv_icmp_eq (tgt := 1343) cx.1 cx.2.1 dL_law_1338 (by decide) (fun _ => ?_) (fun hc => absurd rfl hc)
  refine lv_iload cx.1 cx.2.1 dL_law_1343 (lv_at hl 1 rfl) ?_
  refine lv_if_ne (tgt := 1360) cx.1 cx.2.1 dL_law_1345 (by decide) (fun hc => ?_) (fun hc0 => ?_)
  · refine lv_goto (tgt := 1911) cx.1 cx.2.1 dL_law_1360 (by decide) ?_
    exact kk S2 _ _ _ h5 hw hS (lv_sub hl [2, 3, 4, 5, 6] rfl)
  refine lv_aload_n cx.1 cx.2.1 dL_law_1348 rfl (lv_at hl 5 rfl) ?_
  refine lv_iconst (v := (0 : Int32)) cx.1 cx.2.1 dL_law_1349 (by decide) ?_
  refine g_lald24 hO cx hw dL_law_1350 ?_
  refine lv_iload cx.1 cx.2.1 dL_law_1351 (lv_at hl 0 rfl) ?_
  refine lv_i2l cx.1 cx.2.1 dL_law_1353 rfl ?_
  refine W.lcmp cx.1 cx.2.1 dL_law_1354 ?_
  refine lv_if_eq (tgt := 1360) cx.1 cx.2.1 dL_law_1355 (by decide) (fun _ => ?_) (fun hc => absurd (by rw [h4 hc0]; exact lg_cmp_self _) hc)
  refine lv_goto (tgt := 1911) cx.1 cx.2.1 dL_law_1360 (by decide) ?_
  exact kk S2 _ _ _ h5 hw hS (lv_sub hl [2, 3, 4, 5, 6] rfl)
set_option maxHeartbeats 4000000 in
set_option maxRecDepth 100000 in
theorem law_20 {p : Program} {l : Launch} {e : Env} {s : State} {m : MethodId} {below : List Frame} {meth : Method} {c : Code} {Q : State → Prop} {G : gG} {b L : Nat} {xs : Nat → Int32} (hst : l.stackTraces = false) (hO : 403 ≤ gN G) (cx : gCx p s m c cL_law 7 RL G) (hX : gX s) (hZ : gZ (gA G s.heap.size) s s.heap) (hXs : va_X b L xs s s.heap) (hbl : b < s.heap.size) (hbA : ¬ gA G s.heap.size b) (hL : L ≤ 3072) {i cells slots : Nat} {x4 : Int32} (hx4 : x4 = nI i) (hi : i + 6 ≤ L) (hcs : cells + 1 ≤ room_1.cells ∧ slots + 6 ≤ room_1.slots) {S : Sg} {H : Heap} {locs : List Loc} {ls : Array Slot} (hw : gP G S H) (hS : va_S (gA G s.heap.size) s.heap H locs) (hl : lv_has ls 7 [(0, .ref b), (1, .ref (G.2.1 0)), (2, .ref (G.2.1 392)), (3, .ref (G.2.1 402)), (4, .int x4)]) (I : Sg → Prop) (hok : OkA (f_L_bestContract (xs (i + 1))) (f_X11_bestContract (xs (i + 1))) I S)
    (kk : ∀ (S' : Sg) (H : Heap) (locs : List Loc) (ls : Array Slot), I S' → gP G S' H → va_S (gA G s.heap.size) s.heap H locs → lv_has ls 7 [(0, .ref b), (1, .ref (G.2.1 0)), (2, .ref (G.2.1 392)), (3, .ref (G.2.1 402)), (4, .int x4)] → W p l e room_1 s m #[Value.ref b] below meth c H locs (cells + 1) (slots + 6) Q (F0 m 1911 ls [])) : W p l e room_1 s m #[Value.ref b] below meth c H locs cells slots Q (F0 m 1363 ls []) := by
  have hM : 402 ≤ gN G := by omega
  have hN := cx.2.2.2.2.hN
  obtain ⟨k9, b9, S1, S2, h1, h2, h3, h4, h5⟩ := hok
  refine lv_aload_n cx.1 cx.2.1 dL_law_1363 rfl (lv_at hl 1 rfl) ?_
  refine lv_aload_n cx.1 cx.2.1 dL_law_1364 rfl (lv_at hl 0 rfl) ?_
  refine lv_iload cx.1 cx.2.1 dL_law_1365 (lv_at hl 4 rfl) ?_
  refine lv_iconst (v := nI 1) cx.1 cx.2.1 dL_law_1367 (by decide) ?_
  refine lv_iadd cx.1 cx.2.1 dL_law_1368 ?_
  refine va_sld cx.1 cx.2.1 hXs hbl hbA hS (nI_inL (k := 1) hx4 (by omega) (by omega)) dL_law_1369 ?_
  refine W.eq (g2 := F0 m 1370 ls [.int (xs (i + 1)), .ref (G.2.1 0)]) (by rw [nI_ix hx4 (by omega)]) ?_
  refine lv_aload_n cx.1 cx.2.1 dL_law_1370 rfl (lv_at hl 3 rfl) ?_
  refine g_LS (As := [.ref (G.2.1 0), .int (xs (i + 1)), .ref (G.2.1 402)]) (rest := []) cx hX hZ hw hS (c_L_bestContract l hst G hO (xs (i + 1)) S k9 S1 h1) gw_944 gw_166 gyw_L_bestContract ⟨by decide, by decide⟩ ⟨Nat.le_of_ble_eq_true rfl, Nat.le_of_ble_eq_true rfl⟩ hcs rfl hl.1 rfl (Nat.le_of_ble_eq_true rfl) dL_law_1371 (fun H locs hw hS => ?_)
  refine W.eq (g2 := F0 m 1374 ls [.int k9]) rfl ?_
  refine lv_istore (lv' := [(5, .int k9), (0, .ref b), (1, .ref (G.2.1 0)), (2, .ref (G.2.1 392)), (3, .ref (G.2.1 402)), (4, .int x4)]) cx.1 cx.2.1 dL_law_1374 hl (by decide) rfl (fun ls hl => ?_)
  refine lv_aload_n cx.1 cx.2.1 dL_law_1376 rfl (lv_at hl 3 rfl) ?_
  refine lv_aload_n cx.1 cx.2.1 dL_law_1377 rfl (lv_at hl 1 rfl) ?_
  refine lv_iload cx.1 cx.2.1 dL_law_1378 (lv_at hl 5 rfl) ?_
  refine lv_iconst (v := nI 1) cx.1 cx.2.1 dL_law_1380 (by decide) ?_
  refine lv_iadd cx.1 cx.2.1 dL_law_1381 ?_
  refine va_sld cx.1 cx.2.1 hXs hbl hbA hS (nI_inL (k := 1) hx4 (by omega) (by omega)) dL_law_1382 ?_
  refine W.eq (g2 := F0 m 1383 ls [.int (xs (i + 1)), .ref (G.2.1 392)]) (by rw [nI_ix hx4 (by omega)]) ?_
  refine g_V (As := [.int (xs (i + 1))]) (rest := []) cx hw hS (c_X11_bestContract l G hM (xs (i + 1)) S1 b9 S2 h2) (by omega) he_c392 rfl rfl gw_964 gy_X11_bestContract gi_X11_bestContract ⟨Nat.le_of_ble_eq_true rfl, Nat.le_of_ble_eq_true rfl⟩ hcs rfl hl.1 rfl (Nat.le_of_ble_eq_true rfl) dL_law_1383 (fun H locs hw hS => ?_)
  refine W.eq (g2 := F0 m 1386 ls [.int b9]) rfl ?_
  refine lv_istore (lv' := [(6, .int b9), (5, .int k9), (0, .ref b), (1, .ref (G.2.1 0)), (2, .ref (G.2.1 392)), (3, .ref (G.2.1 402)), (4, .int x4)]) cx.1 cx.2.1 dL_law_1386 hl (by decide) rfl (fun ls hl => ?_)
  refine lv_aload_n cx.1 cx.2.1 dL_law_1388 rfl (lv_at hl 4 rfl) ?_
  refine g_V (As := []) (rest := []) cx hw hS (c_X11_thrown l G hM S2 k9 S2 h3) (by omega) he_c392 rfl rfl gw_205 gy_X11_thrown gi_X11_thrown ⟨Nat.le_of_ble_eq_true rfl, Nat.le_of_ble_eq_true rfl⟩ hcs rfl hl.1 rfl (Nat.le_of_ble_eq_true rfl) dL_law_1389 (fun H locs hw hS => ?_)
  refine W.eq (g2 := F0 m 1392 ls [.int k9]) rfl ?_
  refine lv_iload cx.1 cx.2.1 dL_law_1392 (lv_at hl 1 rfl) ?_
  refine lv_icmp_eq (tgt := 1399) cx.1 cx.2.1 dL_law_1394 (by decide) (fun _ => ?_) (fun hc => absurd rfl hc)
  refine lv_iload cx.1 cx.2.1 dL_law_1399 (lv_at hl 1 rfl) ?_
  refine lv_if_ne (tgt := 1416) cx.1 cx.2.1 dL_law_1401 (by decide) (fun hc => ?_) (fun hc0 => ?_)
  · refine lv_goto (tgt := 1911) cx.1 cx.2.1 dL_law_1416 (by decide) ?_
    exact kk S2 _ _ _ h5 hw hS (lv_sub hl [2, 3, 4, 5, 6] rfl)
  refine lv_aload_n cx.1 cx.2.1 dL_law_1404 rfl (lv_at hl 5 rfl) ?_
  refine lv_iconst (v := (0 : Int32)) cx.1 cx.2.1 dL_law_1405 (by decide) ?_
  refine g_lald24 hO cx hw dL_law_1406 ?_
  refine lv_iload cx.1 cx.2.1 dL_law_1407 (lv_at hl 0 rfl) ?_
  refine lv_i2l cx.1 cx.2.1 dL_law_1409 rfl ?_
  refine W.lcmp cx.1 cx.2.1 dL_law_1410 ?_
  refine lv_if_eq (tgt := 1416) cx.1 cx.2.1 dL_law_1411 (by decide) (fun _ => ?_) (fun hc => absurd (by rw [h4 hc0]; exact lg_cmp_self _) hc)
  refine lv_goto (tgt := 1911) cx.1 cx.2.1 dL_law_1416 (by decide) ?_
  exact kk S2 _ _ _ h5 hw hS (lv_sub hl [2, 3, 4, 5, 6] rfl)
set_option maxHeartbeats 4000000 in
set_option maxRecDepth 100000 in
theorem law_21 {p : Program} {l : Launch} {e : Env} {s : State} {m : MethodId} {below : List Frame} {meth : Method} {c : Code} {Q : State → Prop} {G : gG} {b L : Nat} {xs : Nat → Int32} (hst : l.stackTraces = false) (hO : 403 ≤ gN G) (cx : gCx p s m c cL_law 7 RL G) (hX : gX s) (hZ : gZ (gA G s.heap.size) s s.heap) (hXs : va_X b L xs s s.heap) (hbl : b < s.heap.size) (hbA : ¬ gA G s.heap.size b) (hL : L ≤ 3072) {i cells slots : Nat} {x4 : Int32} (hx4 : x4 = nI i) (hi : i + 6 ≤ L) (hcs : cells + 2 ≤ room_1.cells ∧ slots + 12 ≤ room_1.slots) {S : Sg} {H : Heap} {locs : List Loc} {ls : Array Slot} (hw : gP G S H) (hS : va_S (gA G s.heap.size) s.heap H locs) (hl : lv_has ls 7 [(0, .ref b), (1, .ref (G.2.1 0)), (2, .ref (G.2.1 392)), (3, .ref (G.2.1 402)), (4, .int x4)]) (I : Sg → Prop) (hok : OkA (f_L_coinsAfter (xs (i + 1)) (xs (i + 2))) (f_X11_coinsAfter (xs (i + 1)) (xs (i + 2))) I S)
    (kk : ∀ (S' : Sg) (H : Heap) (locs : List Loc) (ls : Array Slot), I S' → gP G S' H → va_S (gA G s.heap.size) s.heap H locs → lv_has ls 7 [(0, .ref b), (1, .ref (G.2.1 0)), (2, .ref (G.2.1 392)), (3, .ref (G.2.1 402)), (4, .int x4)] → W p l e room_1 s m #[Value.ref b] below meth c H locs (cells + 2) (slots + 12) Q (F0 m 1911 ls [])) : W p l e room_1 s m #[Value.ref b] below meth c H locs cells slots Q (F0 m 1419 ls []) := by
  have hM : 402 ≤ gN G := by omega
  have hN := cx.2.2.2.2.hN
  obtain ⟨k9, b9, S1, S2, h1, h2, h3, h4, h5⟩ := hok
  refine lv_aload_n cx.1 cx.2.1 dL_law_1419 rfl (lv_at hl 1 rfl) ?_
  refine lv_aload_n cx.1 cx.2.1 dL_law_1420 rfl (lv_at hl 0 rfl) ?_
  refine lv_iload cx.1 cx.2.1 dL_law_1421 (lv_at hl 4 rfl) ?_
  refine lv_iconst (v := nI 1) cx.1 cx.2.1 dL_law_1423 (by decide) ?_
  refine lv_iadd cx.1 cx.2.1 dL_law_1424 ?_
  refine va_sld cx.1 cx.2.1 hXs hbl hbA hS (nI_inL (k := 1) hx4 (by omega) (by omega)) dL_law_1425 ?_
  refine W.eq (g2 := F0 m 1426 ls [.int (xs (i + 1)), .ref (G.2.1 0)]) (by rw [nI_ix hx4 (by omega)]) ?_
  refine lv_aload_n cx.1 cx.2.1 dL_law_1426 rfl (lv_at hl 0 rfl) ?_
  refine lv_iload cx.1 cx.2.1 dL_law_1427 (lv_at hl 4 rfl) ?_
  refine lv_iconst (v := nI 2) cx.1 cx.2.1 dL_law_1429 (by decide) ?_
  refine lv_iadd cx.1 cx.2.1 dL_law_1430 ?_
  refine va_sld cx.1 cx.2.1 hXs hbl hbA hS (nI_inL (k := 2) hx4 (by omega) (by omega)) dL_law_1431 ?_
  refine W.eq (g2 := F0 m 1432 ls [.int (xs (i + 2)), .int (xs (i + 1)), .ref (G.2.1 0)]) (by rw [nI_ix hx4 (by omega)]) ?_
  refine lv_aload_n cx.1 cx.2.1 dL_law_1432 rfl (lv_at hl 3 rfl) ?_
  refine g_LS (As := [.ref (G.2.1 0), .int (xs (i + 1)), .int (xs (i + 2)), .ref (G.2.1 402)]) (rest := []) cx hX hZ hw hS (c_L_coinsAfter l hst G hO (xs (i + 1)) (xs (i + 2)) S k9 S1 h1) gw_968 gw_166 gyw_L_coinsAfter ⟨by decide, by decide⟩ ⟨Nat.le_of_ble_eq_true rfl, Nat.le_of_ble_eq_true rfl⟩ hcs rfl hl.1 rfl (Nat.le_of_ble_eq_true rfl) dL_law_1433 (fun H locs hw hS => ?_)
  refine W.eq (g2 := F0 m 1436 ls [.int k9]) rfl ?_
  refine lv_istore (lv' := [(5, .int k9), (0, .ref b), (1, .ref (G.2.1 0)), (2, .ref (G.2.1 392)), (3, .ref (G.2.1 402)), (4, .int x4)]) cx.1 cx.2.1 dL_law_1436 hl (by decide) rfl (fun ls hl => ?_)
  refine lv_aload_n cx.1 cx.2.1 dL_law_1438 rfl (lv_at hl 3 rfl) ?_
  refine lv_aload_n cx.1 cx.2.1 dL_law_1439 rfl (lv_at hl 1 rfl) ?_
  refine lv_iload cx.1 cx.2.1 dL_law_1440 (lv_at hl 5 rfl) ?_
  refine lv_iconst (v := nI 1) cx.1 cx.2.1 dL_law_1442 (by decide) ?_
  refine lv_iadd cx.1 cx.2.1 dL_law_1443 ?_
  refine va_sld cx.1 cx.2.1 hXs hbl hbA hS (nI_inL (k := 1) hx4 (by omega) (by omega)) dL_law_1444 ?_
  refine W.eq (g2 := F0 m 1445 ls [.int (xs (i + 1)), .ref (G.2.1 392)]) (by rw [nI_ix hx4 (by omega)]) ?_
  refine lv_aload_n cx.1 cx.2.1 dL_law_1445 rfl (lv_at hl 1 rfl) ?_
  refine lv_iload cx.1 cx.2.1 dL_law_1446 (lv_at hl 5 rfl) ?_
  refine lv_iconst (v := nI 2) cx.1 cx.2.1 dL_law_1448 (by decide) ?_
  refine lv_iadd cx.1 cx.2.1 dL_law_1449 ?_
  refine va_sld cx.1 cx.2.1 hXs hbl hbA hS (nI_inL (k := 2) hx4 (by omega) (by omega)) dL_law_1450 ?_
  refine W.eq (g2 := F0 m 1451 ls [.int (xs (i + 2)), .int (xs (i + 1)), .ref (G.2.1 392)]) (by rw [nI_ix hx4 (by omega)]) ?_
  refine g_V (As := [.int (xs (i + 1)), .int (xs (i + 2))]) (rest := []) cx hw hS (c_X11_coinsAfter l G hM (xs (i + 1)) (xs (i + 2)) S1 b9 S2 h2) (by omega) he_c392 rfl rfl gw_975 gy_X11_coinsAfter gi_X11_coinsAfter ⟨Nat.le_of_ble_eq_true rfl, Nat.le_of_ble_eq_true rfl⟩ hcs rfl hl.1 rfl (Nat.le_of_ble_eq_true rfl) dL_law_1451 (fun H locs hw hS => ?_)
  refine W.eq (g2 := F0 m 1454 ls [.int b9]) rfl ?_
  refine lv_istore (lv' := [(6, .int b9), (5, .int k9), (0, .ref b), (1, .ref (G.2.1 0)), (2, .ref (G.2.1 392)), (3, .ref (G.2.1 402)), (4, .int x4)]) cx.1 cx.2.1 dL_law_1454 hl (by decide) rfl (fun ls hl => ?_)
  refine lv_aload_n cx.1 cx.2.1 dL_law_1456 rfl (lv_at hl 4 rfl) ?_
  refine g_V (As := []) (rest := []) cx hw hS (c_X11_thrown l G hM S2 k9 S2 h3) (by omega) he_c392 rfl rfl gw_205 gy_X11_thrown gi_X11_thrown ⟨Nat.le_of_ble_eq_true rfl, Nat.le_of_ble_eq_true rfl⟩ hcs rfl hl.1 rfl (Nat.le_of_ble_eq_true rfl) dL_law_1457 (fun H locs hw hS => ?_)
  refine W.eq (g2 := F0 m 1460 ls [.int k9]) rfl ?_
  refine lv_iload cx.1 cx.2.1 dL_law_1460 (lv_at hl 1 rfl) ?_
  refine lv_icmp_eq (tgt := 1467) cx.1 cx.2.1 dL_law_1462 (by decide) (fun _ => ?_) (fun hc => absurd rfl hc)
  refine lv_iload cx.1 cx.2.1 dL_law_1467 (lv_at hl 1 rfl) ?_
  refine lv_if_ne (tgt := 1484) cx.1 cx.2.1 dL_law_1469 (by decide) (fun hc => ?_) (fun hc0 => ?_)
  · refine lv_goto (tgt := 1911) cx.1 cx.2.1 dL_law_1484 (by decide) ?_
    exact kk S2 _ _ _ h5 hw hS (lv_sub hl [2, 3, 4, 5, 6] rfl)
  refine lv_aload_n cx.1 cx.2.1 dL_law_1472 rfl (lv_at hl 5 rfl) ?_
  refine lv_iconst (v := (0 : Int32)) cx.1 cx.2.1 dL_law_1473 (by decide) ?_
  refine g_lald24 hO cx hw dL_law_1474 ?_
  refine lv_iload cx.1 cx.2.1 dL_law_1475 (lv_at hl 0 rfl) ?_
  refine lv_i2l cx.1 cx.2.1 dL_law_1477 rfl ?_
  refine W.lcmp cx.1 cx.2.1 dL_law_1478 ?_
  refine lv_if_eq (tgt := 1484) cx.1 cx.2.1 dL_law_1479 (by decide) (fun _ => ?_) (fun hc => absurd (by rw [h4 hc0]; exact lg_cmp_self _) hc)
  refine lv_goto (tgt := 1911) cx.1 cx.2.1 dL_law_1484 (by decide) ?_
  exact kk S2 _ _ _ h5 hw hS (lv_sub hl [2, 3, 4, 5, 6] rfl)
set_option maxHeartbeats 4000000 in
set_option maxRecDepth 100000 in
theorem law_22 {p : Program} {l : Launch} {e : Env} {s : State} {m : MethodId} {below : List Frame} {meth : Method} {c : Code} {Q : State → Prop} {G : gG} {b L : Nat} {xs : Nat → Int32} (hst : l.stackTraces = false) (hO : 403 ≤ gN G) (cx : gCx p s m c cL_law 7 RL G) (hX : gX s) (hZ : gZ (gA G s.heap.size) s s.heap) (hXs : va_X b L xs s s.heap) (hbl : b < s.heap.size) (hbA : ¬ gA G s.heap.size b) (hL : L ≤ 3072) {i cells slots : Nat} {x4 : Int32} (hx4 : x4 = nI i) (hi : i + 6 ≤ L) (hcs : cells + 1 ≤ room_1.cells ∧ slots + 6 ≤ room_1.slots) {S : Sg} {H : Heap} {locs : List Loc} {ls : Array Slot} (hw : gP G S H) (hS : va_S (gA G s.heap.size) s.heap H locs) (hl : lv_has ls 7 [(0, .ref b), (1, .ref (G.2.1 0)), (2, .ref (G.2.1 392)), (3, .ref (G.2.1 402)), (4, .int x4)]) (I : Sg → Prop) (hok : OkA (f_L_bankruptAfter (xs (i + 1))) (f_X11_bankruptAfter (xs (i + 1))) I S)
    (kk : ∀ (S' : Sg) (H : Heap) (locs : List Loc) (ls : Array Slot), I S' → gP G S' H → va_S (gA G s.heap.size) s.heap H locs → lv_has ls 7 [(0, .ref b), (1, .ref (G.2.1 0)), (2, .ref (G.2.1 392)), (3, .ref (G.2.1 402)), (4, .int x4)] → W p l e room_1 s m #[Value.ref b] below meth c H locs (cells + 1) (slots + 6) Q (F0 m 1911 ls [])) : W p l e room_1 s m #[Value.ref b] below meth c H locs cells slots Q (F0 m 1487 ls []) := by
  have hM : 402 ≤ gN G := by omega
  have hN := cx.2.2.2.2.hN
  obtain ⟨k9, b9, S1, S2, h1, h2, h3, h4, h5⟩ := hok
  refine lv_aload_n cx.1 cx.2.1 dL_law_1487 rfl (lv_at hl 1 rfl) ?_
  refine lv_aload_n cx.1 cx.2.1 dL_law_1488 rfl (lv_at hl 0 rfl) ?_
  refine lv_iload cx.1 cx.2.1 dL_law_1489 (lv_at hl 4 rfl) ?_
  refine lv_iconst (v := nI 1) cx.1 cx.2.1 dL_law_1491 (by decide) ?_
  refine lv_iadd cx.1 cx.2.1 dL_law_1492 ?_
  refine va_sld cx.1 cx.2.1 hXs hbl hbA hS (nI_inL (k := 1) hx4 (by omega) (by omega)) dL_law_1493 ?_
  refine W.eq (g2 := F0 m 1494 ls [.int (xs (i + 1)), .ref (G.2.1 0)]) (by rw [nI_ix hx4 (by omega)]) ?_
  refine lv_aload_n cx.1 cx.2.1 dL_law_1494 rfl (lv_at hl 3 rfl) ?_
  refine g_LS (As := [.ref (G.2.1 0), .int (xs (i + 1)), .ref (G.2.1 402)]) (rest := []) cx hX hZ hw hS (c_L_bankruptAfter l hst G hO (xs (i + 1)) S k9 S1 h1) gw_980 gw_166 gyw_L_bankruptAfter ⟨by decide, by decide⟩ ⟨Nat.le_of_ble_eq_true rfl, Nat.le_of_ble_eq_true rfl⟩ hcs rfl hl.1 rfl (Nat.le_of_ble_eq_true rfl) dL_law_1495 (fun H locs hw hS => ?_)
  refine W.eq (g2 := F0 m 1498 ls [.int k9]) rfl ?_
  refine lv_istore (lv' := [(5, .int k9), (0, .ref b), (1, .ref (G.2.1 0)), (2, .ref (G.2.1 392)), (3, .ref (G.2.1 402)), (4, .int x4)]) cx.1 cx.2.1 dL_law_1498 hl (by decide) rfl (fun ls hl => ?_)
  refine lv_aload_n cx.1 cx.2.1 dL_law_1500 rfl (lv_at hl 3 rfl) ?_
  refine lv_aload_n cx.1 cx.2.1 dL_law_1501 rfl (lv_at hl 1 rfl) ?_
  refine lv_iload cx.1 cx.2.1 dL_law_1502 (lv_at hl 5 rfl) ?_
  refine lv_iconst (v := nI 1) cx.1 cx.2.1 dL_law_1504 (by decide) ?_
  refine lv_iadd cx.1 cx.2.1 dL_law_1505 ?_
  refine va_sld cx.1 cx.2.1 hXs hbl hbA hS (nI_inL (k := 1) hx4 (by omega) (by omega)) dL_law_1506 ?_
  refine W.eq (g2 := F0 m 1507 ls [.int (xs (i + 1)), .ref (G.2.1 392)]) (by rw [nI_ix hx4 (by omega)]) ?_
  refine g_V (As := [.int (xs (i + 1))]) (rest := []) cx hw hS (c_X11_bankruptAfter l G hM (xs (i + 1)) S1 b9 S2 h2) (by omega) he_c392 rfl rfl gw_987 gy_X11_bankruptAfter gi_X11_bankruptAfter ⟨Nat.le_of_ble_eq_true rfl, Nat.le_of_ble_eq_true rfl⟩ hcs rfl hl.1 rfl (Nat.le_of_ble_eq_true rfl) dL_law_1507 (fun H locs hw hS => ?_)
  refine W.eq (g2 := F0 m 1510 ls [.int b9]) rfl ?_
  refine lv_istore (lv' := [(6, .int b9), (5, .int k9), (0, .ref b), (1, .ref (G.2.1 0)), (2, .ref (G.2.1 392)), (3, .ref (G.2.1 402)), (4, .int x4)]) cx.1 cx.2.1 dL_law_1510 hl (by decide) rfl (fun ls hl => ?_)
  refine lv_aload_n cx.1 cx.2.1 dL_law_1512 rfl (lv_at hl 4 rfl) ?_
  refine g_V (As := []) (rest := []) cx hw hS (c_X11_thrown l G hM S2 k9 S2 h3) (by omega) he_c392 rfl rfl gw_205 gy_X11_thrown gi_X11_thrown ⟨Nat.le_of_ble_eq_true rfl, Nat.le_of_ble_eq_true rfl⟩ hcs rfl hl.1 rfl (Nat.le_of_ble_eq_true rfl) dL_law_1513 (fun H locs hw hS => ?_)
  refine W.eq (g2 := F0 m 1516 ls [.int k9]) rfl ?_
  refine lv_iload cx.1 cx.2.1 dL_law_1516 (lv_at hl 1 rfl) ?_
  refine lv_icmp_eq (tgt := 1523) cx.1 cx.2.1 dL_law_1518 (by decide) (fun _ => ?_) (fun hc => absurd rfl hc)
  refine lv_iload cx.1 cx.2.1 dL_law_1523 (lv_at hl 1 rfl) ?_
  refine lv_if_ne (tgt := 1540) cx.1 cx.2.1 dL_law_1525 (by decide) (fun hc => ?_) (fun hc0 => ?_)
  · refine lv_goto (tgt := 1911) cx.1 cx.2.1 dL_law_1540 (by decide) ?_
    exact kk S2 _ _ _ h5 hw hS (lv_sub hl [2, 3, 4, 5, 6] rfl)
  refine lv_aload_n cx.1 cx.2.1 dL_law_1528 rfl (lv_at hl 5 rfl) ?_
  refine lv_iconst (v := (0 : Int32)) cx.1 cx.2.1 dL_law_1529 (by decide) ?_
  refine g_lald24 hO cx hw dL_law_1530 ?_
  refine lv_iload cx.1 cx.2.1 dL_law_1531 (lv_at hl 0 rfl) ?_
  refine lv_i2l cx.1 cx.2.1 dL_law_1533 rfl ?_
  refine W.lcmp cx.1 cx.2.1 dL_law_1534 ?_
  refine lv_if_eq (tgt := 1540) cx.1 cx.2.1 dL_law_1535 (by decide) (fun _ => ?_) (fun hc => absurd (by rw [h4 hc0]; exact lg_cmp_self _) hc)
  refine lv_goto (tgt := 1911) cx.1 cx.2.1 dL_law_1540 (by decide) ?_
  exact kk S2 _ _ _ h5 hw hS (lv_sub hl [2, 3, 4, 5, 6] rfl)
set_option maxHeartbeats 4000000 in
set_option maxRecDepth 100000 in
theorem law_23 {p : Program} {l : Launch} {e : Env} {s : State} {m : MethodId} {below : List Frame} {meth : Method} {c : Code} {Q : State → Prop} {G : gG} {b L : Nat} {xs : Nat → Int32} (hst : l.stackTraces = false) (hO : 403 ≤ gN G) (cx : gCx p s m c cL_law 7 RL G) (hX : gX s) (hZ : gZ (gA G s.heap.size) s s.heap) (hXs : va_X b L xs s s.heap) (hbl : b < s.heap.size) (hbA : ¬ gA G s.heap.size b) (hL : L ≤ 3072) {i cells slots : Nat} {x4 : Int32} (hx4 : x4 = nI i) (hi : i + 6 ≤ L) (hcs : cells + 1 ≤ room_1.cells ∧ slots + 6 ≤ room_1.slots) {S : Sg} {H : Heap} {locs : List Loc} {ls : Array Slot} (hw : gP G S H) (hS : va_S (gA G s.heap.size) s.heap H locs) (hl : lv_has ls 7 [(0, .ref b), (1, .ref (G.2.1 0)), (2, .ref (G.2.1 392)), (3, .ref (G.2.1 402)), (4, .int x4)]) (I : Sg → Prop) (hok : OkA (f_L_worth (xs (i + 1))) (f_X11_worth (xs (i + 1))) I S)
    (kk : ∀ (S' : Sg) (H : Heap) (locs : List Loc) (ls : Array Slot), I S' → gP G S' H → va_S (gA G s.heap.size) s.heap H locs → lv_has ls 7 [(0, .ref b), (1, .ref (G.2.1 0)), (2, .ref (G.2.1 392)), (3, .ref (G.2.1 402)), (4, .int x4)] → W p l e room_1 s m #[Value.ref b] below meth c H locs (cells + 1) (slots + 6) Q (F0 m 1911 ls [])) : W p l e room_1 s m #[Value.ref b] below meth c H locs cells slots Q (F0 m 1543 ls []) := by
  have hM : 402 ≤ gN G := by omega
  have hN := cx.2.2.2.2.hN
  obtain ⟨k9, b9, S1, S2, h1, h2, h3, h4, h5⟩ := hok
  refine lv_aload_n cx.1 cx.2.1 dL_law_1543 rfl (lv_at hl 1 rfl) ?_
  refine lv_aload_n cx.1 cx.2.1 dL_law_1544 rfl (lv_at hl 0 rfl) ?_
  refine lv_iload cx.1 cx.2.1 dL_law_1545 (lv_at hl 4 rfl) ?_
  refine lv_iconst (v := nI 1) cx.1 cx.2.1 dL_law_1547 (by decide) ?_
  refine lv_iadd cx.1 cx.2.1 dL_law_1548 ?_
  refine va_sld cx.1 cx.2.1 hXs hbl hbA hS (nI_inL (k := 1) hx4 (by omega) (by omega)) dL_law_1549 ?_
  refine W.eq (g2 := F0 m 1550 ls [.int (xs (i + 1)), .ref (G.2.1 0)]) (by rw [nI_ix hx4 (by omega)]) ?_
  refine lv_aload_n cx.1 cx.2.1 dL_law_1550 rfl (lv_at hl 3 rfl) ?_
  refine g_LS (As := [.ref (G.2.1 0), .int (xs (i + 1)), .ref (G.2.1 402)]) (rest := []) cx hX hZ hw hS (c_L_worth l hst G hO (xs (i + 1)) S k9 S1 h1) gw_991 gw_166 gyw_L_worth ⟨by decide, by decide⟩ ⟨Nat.le_of_ble_eq_true rfl, Nat.le_of_ble_eq_true rfl⟩ hcs rfl hl.1 rfl (Nat.le_of_ble_eq_true rfl) dL_law_1551 (fun H locs hw hS => ?_)
  refine W.eq (g2 := F0 m 1554 ls [.int k9]) rfl ?_
  refine lv_istore (lv' := [(5, .int k9), (0, .ref b), (1, .ref (G.2.1 0)), (2, .ref (G.2.1 392)), (3, .ref (G.2.1 402)), (4, .int x4)]) cx.1 cx.2.1 dL_law_1554 hl (by decide) rfl (fun ls hl => ?_)
  refine lv_aload_n cx.1 cx.2.1 dL_law_1556 rfl (lv_at hl 3 rfl) ?_
  refine lv_aload_n cx.1 cx.2.1 dL_law_1557 rfl (lv_at hl 1 rfl) ?_
  refine lv_iload cx.1 cx.2.1 dL_law_1558 (lv_at hl 5 rfl) ?_
  refine lv_iconst (v := nI 1) cx.1 cx.2.1 dL_law_1560 (by decide) ?_
  refine lv_iadd cx.1 cx.2.1 dL_law_1561 ?_
  refine va_sld cx.1 cx.2.1 hXs hbl hbA hS (nI_inL (k := 1) hx4 (by omega) (by omega)) dL_law_1562 ?_
  refine W.eq (g2 := F0 m 1563 ls [.int (xs (i + 1)), .ref (G.2.1 392)]) (by rw [nI_ix hx4 (by omega)]) ?_
  refine g_V (As := [.int (xs (i + 1))]) (rest := []) cx hw hS (c_X11_worth l G hM (xs (i + 1)) S1 b9 S2 h2) (by omega) he_c392 rfl rfl gw_1006 gy_X11_worth gi_X11_worth ⟨Nat.le_of_ble_eq_true rfl, Nat.le_of_ble_eq_true rfl⟩ hcs rfl hl.1 rfl (Nat.le_of_ble_eq_true rfl) dL_law_1563 (fun H locs hw hS => ?_)
  refine W.eq (g2 := F0 m 1566 ls [.int b9]) rfl ?_
  refine lv_istore (lv' := [(6, .int b9), (5, .int k9), (0, .ref b), (1, .ref (G.2.1 0)), (2, .ref (G.2.1 392)), (3, .ref (G.2.1 402)), (4, .int x4)]) cx.1 cx.2.1 dL_law_1566 hl (by decide) rfl (fun ls hl => ?_)
  refine lv_aload_n cx.1 cx.2.1 dL_law_1568 rfl (lv_at hl 4 rfl) ?_
  refine g_V (As := []) (rest := []) cx hw hS (c_X11_thrown l G hM S2 k9 S2 h3) (by omega) he_c392 rfl rfl gw_205 gy_X11_thrown gi_X11_thrown ⟨Nat.le_of_ble_eq_true rfl, Nat.le_of_ble_eq_true rfl⟩ hcs rfl hl.1 rfl (Nat.le_of_ble_eq_true rfl) dL_law_1569 (fun H locs hw hS => ?_)
  refine W.eq (g2 := F0 m 1572 ls [.int k9]) rfl ?_
  refine lv_iload cx.1 cx.2.1 dL_law_1572 (lv_at hl 1 rfl) ?_
  refine lv_icmp_eq (tgt := 1579) cx.1 cx.2.1 dL_law_1574 (by decide) (fun _ => ?_) (fun hc => absurd rfl hc)
  refine lv_iload cx.1 cx.2.1 dL_law_1579 (lv_at hl 1 rfl) ?_
  refine lv_if_ne (tgt := 1596) cx.1 cx.2.1 dL_law_1581 (by decide) (fun hc => ?_) (fun hc0 => ?_)
  · refine lv_goto (tgt := 1911) cx.1 cx.2.1 dL_law_1596 (by decide) ?_
    exact kk S2 _ _ _ h5 hw hS (lv_sub hl [2, 3, 4, 5, 6] rfl)
  refine lv_aload_n cx.1 cx.2.1 dL_law_1584 rfl (lv_at hl 5 rfl) ?_
  refine lv_iconst (v := (0 : Int32)) cx.1 cx.2.1 dL_law_1585 (by decide) ?_
  refine g_lald24 hO cx hw dL_law_1586 ?_
  refine lv_iload cx.1 cx.2.1 dL_law_1587 (lv_at hl 0 rfl) ?_
  refine lv_i2l cx.1 cx.2.1 dL_law_1589 rfl ?_
  refine W.lcmp cx.1 cx.2.1 dL_law_1590 ?_
  refine lv_if_eq (tgt := 1596) cx.1 cx.2.1 dL_law_1591 (by decide) (fun _ => ?_) (fun hc => absurd (by rw [h4 hc0]; exact lg_cmp_self _) hc)
  refine lv_goto (tgt := 1911) cx.1 cx.2.1 dL_law_1596 (by decide) ?_
  exact kk S2 _ _ _ h5 hw hS (lv_sub hl [2, 3, 4, 5, 6] rfl)
set_option maxHeartbeats 4000000 in
set_option maxRecDepth 100000 in
theorem law_24 {p : Program} {l : Launch} {e : Env} {s : State} {m : MethodId} {below : List Frame} {meth : Method} {c : Code} {Q : State → Prop} {G : gG} {b L : Nat} {xs : Nat → Int32} (hst : l.stackTraces = false) (hO : 403 ≤ gN G) (cx : gCx p s m c cL_law 7 RL G) (hX : gX s) (hZ : gZ (gA G s.heap.size) s s.heap) (hXs : va_X b L xs s s.heap) (hbl : b < s.heap.size) (hbA : ¬ gA G s.heap.size b) (hL : L ≤ 3072) {i cells slots : Nat} {x4 : Int32} (hx4 : x4 = nI i) (hi : i + 6 ≤ L) (hcs : cells + 2 ≤ room_1.cells ∧ slots + 12 ≤ room_1.slots) {S : Sg} {H : Heap} {locs : List Loc} {ls : Array Slot} (hw : gP G S H) (hS : va_S (gA G s.heap.size) s.heap H locs) (hl : lv_has ls 7 [(0, .ref b), (1, .ref (G.2.1 0)), (2, .ref (G.2.1 392)), (3, .ref (G.2.1 402)), (4, .int x4)]) (I : Sg → Prop) (hok : OkA (f_L_runScript (xs (i + 1)) ((((xs (i + 2)).toInt64) <<< ((32 : Int32).toInt64 &&& 63)) ||| (((xs (i + 3)).toInt64) &&& (4294967295 : Int64)))) (f_X11_runScript (xs (i + 1)) ((((xs (i + 2)).toInt64) <<< ((32 : Int32).toInt64 &&& 63)) ||| (((xs (i + 3)).toInt64) &&& (4294967295 : Int64)))) I S)
    (kk : ∀ (S' : Sg) (H : Heap) (locs : List Loc) (ls : Array Slot), I S' → gP G S' H → va_S (gA G s.heap.size) s.heap H locs → lv_has ls 7 [(0, .ref b), (1, .ref (G.2.1 0)), (2, .ref (G.2.1 392)), (3, .ref (G.2.1 402)), (4, .int x4)] → W p l e room_1 s m #[Value.ref b] below meth c H locs (cells + 2) (slots + 12) Q (F0 m 1911 ls [])) : W p l e room_1 s m #[Value.ref b] below meth c H locs cells slots Q (F0 m 1599 ls []) := by
  have hM : 402 ≤ gN G := by omega
  have hN := cx.2.2.2.2.hN
  obtain ⟨k9, b9, S1, S2, h1, h2, h3, h4, h5⟩ := hok
  refine lv_aload_n cx.1 cx.2.1 dL_law_1599 rfl (lv_at hl 1 rfl) ?_
  refine lv_aload_n cx.1 cx.2.1 dL_law_1600 rfl (lv_at hl 0 rfl) ?_
  refine lv_iload cx.1 cx.2.1 dL_law_1601 (lv_at hl 4 rfl) ?_
  refine lv_iconst (v := nI 1) cx.1 cx.2.1 dL_law_1603 (by decide) ?_
  refine lv_iadd cx.1 cx.2.1 dL_law_1604 ?_
  refine va_sld cx.1 cx.2.1 hXs hbl hbA hS (nI_inL (k := 1) hx4 (by omega) (by omega)) dL_law_1605 ?_
  refine W.eq (g2 := F0 m 1606 ls [.int (xs (i + 1)), .ref (G.2.1 0)]) (by rw [nI_ix hx4 (by omega)]) ?_
  refine lv_aload_n cx.1 cx.2.1 dL_law_1606 rfl (lv_at hl 0 rfl) ?_
  refine lv_iload cx.1 cx.2.1 dL_law_1607 (lv_at hl 4 rfl) ?_
  refine lv_iconst (v := nI 2) cx.1 cx.2.1 dL_law_1609 (by decide) ?_
  refine lv_iadd cx.1 cx.2.1 dL_law_1610 ?_
  refine va_sld cx.1 cx.2.1 hXs hbl hbA hS (nI_inL (k := 2) hx4 (by omega) (by omega)) dL_law_1611 ?_
  refine W.eq (g2 := F0 m 1612 ls [.int (xs (i + 2)), .int (xs (i + 1)), .ref (G.2.1 0)]) (by rw [nI_ix hx4 (by omega)]) ?_
  refine lv_i2l cx.1 cx.2.1 dL_law_1612 rfl ?_
  refine lv_bipush (v := (32 : Int32)) cx.1 cx.2.1 dL_law_1613 (by decide) ?_
  refine lv_lshl cx.1 cx.2.1 dL_law_1615 rfl ?_
  refine lv_aload_n cx.1 cx.2.1 dL_law_1616 rfl (lv_at hl 0 rfl) ?_
  refine lv_iload cx.1 cx.2.1 dL_law_1617 (lv_at hl 4 rfl) ?_
  refine lv_iconst (v := nI 3) cx.1 cx.2.1 dL_law_1619 (by decide) ?_
  refine lv_iadd cx.1 cx.2.1 dL_law_1620 ?_
  refine va_sld cx.1 cx.2.1 hXs hbl hbA hS (nI_inL (k := 3) hx4 (by omega) (by omega)) dL_law_1621 ?_
  refine W.eq (g2 := F0 m 1622 ls [.int (xs (i + 3)), .long (((xs (i + 2)).toInt64) <<< ((32 : Int32).toInt64 &&& 63)), .int (xs (i + 1)), .ref (G.2.1 0)]) (by rw [nI_ix hx4 (by omega)]) ?_
  refine lv_i2l cx.1 cx.2.1 dL_law_1622 rfl ?_
  refine lv_ldc2 cx.1 cx.2.1 cx.2.2.2.1 (cx.2.2.2.2.ts _ gw_7) dL_law_1623 ?_
  refine lv_land cx.1 cx.2.1 dL_law_1626 ?_
  refine lv_lor cx.1 cx.2.1 dL_law_1627 ?_
  refine lv_aload_n cx.1 cx.2.1 dL_law_1628 rfl (lv_at hl 3 rfl) ?_
  refine g_LS (As := [.ref (G.2.1 0), .int (xs (i + 1)), .long ((((xs (i + 2)).toInt64) <<< ((32 : Int32).toInt64 &&& 63)) ||| (((xs (i + 3)).toInt64) &&& (4294967295 : Int64))), .ref (G.2.1 402)]) (rest := []) cx hX hZ hw hS (c_L_runScript l hst G hO (xs (i + 1)) ((((xs (i + 2)).toInt64) <<< ((32 : Int32).toInt64 &&& 63)) ||| (((xs (i + 3)).toInt64) &&& (4294967295 : Int64))) S k9 S1 h1) gw_1013 gw_166 gyw_L_runScript ⟨by decide, by decide⟩ ⟨Nat.le_of_ble_eq_true rfl, Nat.le_of_ble_eq_true rfl⟩ hcs rfl hl.1 rfl (Nat.le_of_ble_eq_true rfl) dL_law_1629 (fun H locs hw hS => ?_)
  refine W.eq (g2 := F0 m 1632 ls [.int k9]) rfl ?_
  refine lv_istore (lv' := [(5, .int k9), (0, .ref b), (1, .ref (G.2.1 0)), (2, .ref (G.2.1 392)), (3, .ref (G.2.1 402)), (4, .int x4)]) cx.1 cx.2.1 dL_law_1632 hl (by decide) rfl (fun ls hl => ?_)
  refine lv_aload_n cx.1 cx.2.1 dL_law_1634 rfl (lv_at hl 3 rfl) ?_
  refine lv_aload_n cx.1 cx.2.1 dL_law_1635 rfl (lv_at hl 1 rfl) ?_
  refine lv_iload cx.1 cx.2.1 dL_law_1636 (lv_at hl 5 rfl) ?_
  refine lv_iconst (v := nI 1) cx.1 cx.2.1 dL_law_1638 (by decide) ?_
  refine lv_iadd cx.1 cx.2.1 dL_law_1639 ?_
  refine va_sld cx.1 cx.2.1 hXs hbl hbA hS (nI_inL (k := 1) hx4 (by omega) (by omega)) dL_law_1640 ?_
  refine W.eq (g2 := F0 m 1641 ls [.int (xs (i + 1)), .ref (G.2.1 392)]) (by rw [nI_ix hx4 (by omega)]) ?_
  refine lv_aload_n cx.1 cx.2.1 dL_law_1641 rfl (lv_at hl 1 rfl) ?_
  refine lv_iload cx.1 cx.2.1 dL_law_1642 (lv_at hl 5 rfl) ?_
  refine lv_iconst (v := nI 2) cx.1 cx.2.1 dL_law_1644 (by decide) ?_
  refine lv_iadd cx.1 cx.2.1 dL_law_1645 ?_
  refine va_sld cx.1 cx.2.1 hXs hbl hbA hS (nI_inL (k := 2) hx4 (by omega) (by omega)) dL_law_1646 ?_
  refine W.eq (g2 := F0 m 1647 ls [.int (xs (i + 2)), .int (xs (i + 1)), .ref (G.2.1 392)]) (by rw [nI_ix hx4 (by omega)]) ?_
  refine lv_i2l cx.1 cx.2.1 dL_law_1647 rfl ?_
  refine lv_bipush (v := (32 : Int32)) cx.1 cx.2.1 dL_law_1648 (by decide) ?_
  refine lv_lshl cx.1 cx.2.1 dL_law_1650 rfl ?_
  refine lv_aload_n cx.1 cx.2.1 dL_law_1651 rfl (lv_at hl 1 rfl) ?_
  refine lv_iload cx.1 cx.2.1 dL_law_1652 (lv_at hl 5 rfl) ?_
  refine lv_iconst (v := nI 3) cx.1 cx.2.1 dL_law_1654 (by decide) ?_
  refine lv_iadd cx.1 cx.2.1 dL_law_1655 ?_
  refine va_sld cx.1 cx.2.1 hXs hbl hbA hS (nI_inL (k := 3) hx4 (by omega) (by omega)) dL_law_1656 ?_
  refine W.eq (g2 := F0 m 1657 ls [.int (xs (i + 3)), .long (((xs (i + 2)).toInt64) <<< ((32 : Int32).toInt64 &&& 63)), .int (xs (i + 1)), .ref (G.2.1 392)]) (by rw [nI_ix hx4 (by omega)]) ?_
  refine lv_i2l cx.1 cx.2.1 dL_law_1657 rfl ?_
  refine lv_ldc2 cx.1 cx.2.1 cx.2.2.2.1 (cx.2.2.2.2.ts _ gw_7) dL_law_1658 ?_
  refine lv_land cx.1 cx.2.1 dL_law_1661 ?_
  refine lv_lor cx.1 cx.2.1 dL_law_1662 ?_
  refine g_V (As := [.int (xs (i + 1)), .long ((((xs (i + 2)).toInt64) <<< ((32 : Int32).toInt64 &&& 63)) ||| (((xs (i + 3)).toInt64) &&& (4294967295 : Int64)))]) (rest := []) cx hw hS (c_X11_runScript l G hM (xs (i + 1)) ((((xs (i + 2)).toInt64) <<< ((32 : Int32).toInt64 &&& 63)) ||| (((xs (i + 3)).toInt64) &&& (4294967295 : Int64))) S1 b9 S2 h2) (by omega) he_c392 rfl rfl gw_1070 gy_X11_runScript gi_X11_runScript ⟨Nat.le_of_ble_eq_true rfl, Nat.le_of_ble_eq_true rfl⟩ hcs rfl hl.1 rfl (Nat.le_of_ble_eq_true rfl) dL_law_1663 (fun H locs hw hS => ?_)
  refine W.eq (g2 := F0 m 1666 ls [.int b9]) rfl ?_
  refine lv_istore (lv' := [(6, .int b9), (5, .int k9), (0, .ref b), (1, .ref (G.2.1 0)), (2, .ref (G.2.1 392)), (3, .ref (G.2.1 402)), (4, .int x4)]) cx.1 cx.2.1 dL_law_1666 hl (by decide) rfl (fun ls hl => ?_)
  refine lv_aload_n cx.1 cx.2.1 dL_law_1668 rfl (lv_at hl 4 rfl) ?_
  refine g_V (As := []) (rest := []) cx hw hS (c_X11_thrown l G hM S2 k9 S2 h3) (by omega) he_c392 rfl rfl gw_205 gy_X11_thrown gi_X11_thrown ⟨Nat.le_of_ble_eq_true rfl, Nat.le_of_ble_eq_true rfl⟩ hcs rfl hl.1 rfl (Nat.le_of_ble_eq_true rfl) dL_law_1669 (fun H locs hw hS => ?_)
  refine W.eq (g2 := F0 m 1672 ls [.int k9]) rfl ?_
  refine lv_iload cx.1 cx.2.1 dL_law_1672 (lv_at hl 1 rfl) ?_
  refine lv_icmp_eq (tgt := 1679) cx.1 cx.2.1 dL_law_1674 (by decide) (fun _ => ?_) (fun hc => absurd rfl hc)
  refine lv_iload cx.1 cx.2.1 dL_law_1679 (lv_at hl 1 rfl) ?_
  refine lv_if_ne (tgt := 1696) cx.1 cx.2.1 dL_law_1681 (by decide) (fun hc => ?_) (fun hc0 => ?_)
  · refine lv_goto (tgt := 1911) cx.1 cx.2.1 dL_law_1696 (by decide) ?_
    exact kk S2 _ _ _ h5 hw hS (lv_sub hl [2, 3, 4, 5, 6] rfl)
  refine lv_aload_n cx.1 cx.2.1 dL_law_1684 rfl (lv_at hl 5 rfl) ?_
  refine lv_iconst (v := (0 : Int32)) cx.1 cx.2.1 dL_law_1685 (by decide) ?_
  refine g_lald24 hO cx hw dL_law_1686 ?_
  refine lv_iload cx.1 cx.2.1 dL_law_1687 (lv_at hl 0 rfl) ?_
  refine lv_i2l cx.1 cx.2.1 dL_law_1689 rfl ?_
  refine W.lcmp cx.1 cx.2.1 dL_law_1690 ?_
  refine lv_if_eq (tgt := 1696) cx.1 cx.2.1 dL_law_1691 (by decide) (fun _ => ?_) (fun hc => absurd (by rw [h4 hc0]; exact lg_cmp_self _) hc)
  refine lv_goto (tgt := 1911) cx.1 cx.2.1 dL_law_1696 (by decide) ?_
  exact kk S2 _ _ _ h5 hw hS (lv_sub hl [2, 3, 4, 5, 6] rfl)
set_option maxHeartbeats 4000000 in
set_option maxRecDepth 100000 in
theorem law_25 {p : Program} {l : Launch} {e : Env} {s : State} {m : MethodId} {below : List Frame} {meth : Method} {c : Code} {Q : State → Prop} {G : gG} {b L : Nat} {xs : Nat → Int32} (hst : l.stackTraces = false) (hO : 403 ≤ gN G) (cx : gCx p s m c cL_law 7 RL G) (hX : gX s) (hZ : gZ (gA G s.heap.size) s s.heap) (hXs : va_X b L xs s s.heap) (hbl : b < s.heap.size) (hbA : ¬ gA G s.heap.size b) (hL : L ≤ 3072) {i cells slots : Nat} {x4 : Int32} (hx4 : x4 = nI i) (hi : i + 6 ≤ L) (hcs : cells + 1 ≤ room_1.cells ∧ slots + 6 ≤ room_1.slots) {S : Sg} {H : Heap} {locs : List Loc} {ls : Array Slot} (hw : gP G S H) (hS : va_S (gA G s.heap.size) s.heap H locs) (hl : lv_has ls 7 [(0, .ref b), (1, .ref (G.2.1 0)), (2, .ref (G.2.1 392)), (3, .ref (G.2.1 402)), (4, .int x4)]) (I : Sg → Prop) (hok : OkA (f_L_simulate ((((xs (i + 1)).toInt64) <<< ((32 : Int32).toInt64 &&& 63)) ||| (((xs (i + 2)).toInt64) &&& (4294967295 : Int64))) (xs (i + 3))) (f_X11_simulate ((((xs (i + 1)).toInt64) <<< ((32 : Int32).toInt64 &&& 63)) ||| (((xs (i + 2)).toInt64) &&& (4294967295 : Int64))) (xs (i + 3))) I S)
    (kk : ∀ (S' : Sg) (H : Heap) (locs : List Loc) (ls : Array Slot), I S' → gP G S' H → va_S (gA G s.heap.size) s.heap H locs → lv_has ls 7 [(0, .ref b), (1, .ref (G.2.1 0)), (2, .ref (G.2.1 392)), (3, .ref (G.2.1 402)), (4, .int x4)] → W p l e room_1 s m #[Value.ref b] below meth c H locs (cells + 1) (slots + 6) Q (F0 m 1911 ls [])) : W p l e room_1 s m #[Value.ref b] below meth c H locs cells slots Q (F0 m 1699 ls []) := by
  have hM : 402 ≤ gN G := by omega
  have hN := cx.2.2.2.2.hN
  obtain ⟨k9, b9, S1, S2, h1, h2, h3, h4, h5⟩ := hok
  refine lv_aload_n cx.1 cx.2.1 dL_law_1699 rfl (lv_at hl 1 rfl) ?_
  refine lv_aload_n cx.1 cx.2.1 dL_law_1700 rfl (lv_at hl 0 rfl) ?_
  refine lv_iload cx.1 cx.2.1 dL_law_1701 (lv_at hl 4 rfl) ?_
  refine lv_iconst (v := nI 1) cx.1 cx.2.1 dL_law_1703 (by decide) ?_
  refine lv_iadd cx.1 cx.2.1 dL_law_1704 ?_
  refine va_sld cx.1 cx.2.1 hXs hbl hbA hS (nI_inL (k := 1) hx4 (by omega) (by omega)) dL_law_1705 ?_
  refine W.eq (g2 := F0 m 1706 ls [.int (xs (i + 1)), .ref (G.2.1 0)]) (by rw [nI_ix hx4 (by omega)]) ?_
  refine lv_i2l cx.1 cx.2.1 dL_law_1706 rfl ?_
  refine lv_bipush (v := (32 : Int32)) cx.1 cx.2.1 dL_law_1707 (by decide) ?_
  refine lv_lshl cx.1 cx.2.1 dL_law_1709 rfl ?_
  refine lv_aload_n cx.1 cx.2.1 dL_law_1710 rfl (lv_at hl 0 rfl) ?_
  refine lv_iload cx.1 cx.2.1 dL_law_1711 (lv_at hl 4 rfl) ?_
  refine lv_iconst (v := nI 2) cx.1 cx.2.1 dL_law_1713 (by decide) ?_
  refine lv_iadd cx.1 cx.2.1 dL_law_1714 ?_
  refine va_sld cx.1 cx.2.1 hXs hbl hbA hS (nI_inL (k := 2) hx4 (by omega) (by omega)) dL_law_1715 ?_
  refine W.eq (g2 := F0 m 1716 ls [.int (xs (i + 2)), .long (((xs (i + 1)).toInt64) <<< ((32 : Int32).toInt64 &&& 63)), .ref (G.2.1 0)]) (by rw [nI_ix hx4 (by omega)]) ?_
  refine lv_i2l cx.1 cx.2.1 dL_law_1716 rfl ?_
  refine lv_ldc2 cx.1 cx.2.1 cx.2.2.2.1 (cx.2.2.2.2.ts _ gw_7) dL_law_1717 ?_
  refine lv_land cx.1 cx.2.1 dL_law_1720 ?_
  refine lv_lor cx.1 cx.2.1 dL_law_1721 ?_
  refine lv_aload_n cx.1 cx.2.1 dL_law_1722 rfl (lv_at hl 0 rfl) ?_
  refine lv_iload cx.1 cx.2.1 dL_law_1723 (lv_at hl 4 rfl) ?_
  refine lv_iconst (v := nI 3) cx.1 cx.2.1 dL_law_1725 (by decide) ?_
  refine lv_iadd cx.1 cx.2.1 dL_law_1726 ?_
  refine va_sld cx.1 cx.2.1 hXs hbl hbA hS (nI_inL (k := 3) hx4 (by omega) (by omega)) dL_law_1727 ?_
  refine W.eq (g2 := F0 m 1728 ls [.int (xs (i + 3)), .long ((((xs (i + 1)).toInt64) <<< ((32 : Int32).toInt64 &&& 63)) ||| (((xs (i + 2)).toInt64) &&& (4294967295 : Int64))), .ref (G.2.1 0)]) (by rw [nI_ix hx4 (by omega)]) ?_
  refine lv_aload_n cx.1 cx.2.1 dL_law_1728 rfl (lv_at hl 3 rfl) ?_
  refine g_LS (As := [.ref (G.2.1 0), .long ((((xs (i + 1)).toInt64) <<< ((32 : Int32).toInt64 &&& 63)) ||| (((xs (i + 2)).toInt64) &&& (4294967295 : Int64))), .int (xs (i + 3)), .ref (G.2.1 402)]) (rest := []) cx hX hZ hw hS (c_L_simulate l hst G hO ((((xs (i + 1)).toInt64) <<< ((32 : Int32).toInt64 &&& 63)) ||| (((xs (i + 2)).toInt64) &&& (4294967295 : Int64))) (xs (i + 3)) S k9 S1 h1) gw_1081 gw_166 gyw_L_simulate ⟨by decide, by decide⟩ ⟨Nat.le_of_ble_eq_true rfl, Nat.le_of_ble_eq_true rfl⟩ hcs rfl hl.1 rfl (Nat.le_of_ble_eq_true rfl) dL_law_1729 (fun H locs hw hS => ?_)
  refine W.eq (g2 := F0 m 1732 ls [.int k9]) rfl ?_
  refine lv_istore (lv' := [(5, .int k9), (0, .ref b), (1, .ref (G.2.1 0)), (2, .ref (G.2.1 392)), (3, .ref (G.2.1 402)), (4, .int x4)]) cx.1 cx.2.1 dL_law_1732 hl (by decide) rfl (fun ls hl => ?_)
  refine lv_aload_n cx.1 cx.2.1 dL_law_1734 rfl (lv_at hl 3 rfl) ?_
  refine lv_aload_n cx.1 cx.2.1 dL_law_1735 rfl (lv_at hl 1 rfl) ?_
  refine lv_iload cx.1 cx.2.1 dL_law_1736 (lv_at hl 5 rfl) ?_
  refine lv_iconst (v := nI 1) cx.1 cx.2.1 dL_law_1738 (by decide) ?_
  refine lv_iadd cx.1 cx.2.1 dL_law_1739 ?_
  refine va_sld cx.1 cx.2.1 hXs hbl hbA hS (nI_inL (k := 1) hx4 (by omega) (by omega)) dL_law_1740 ?_
  refine W.eq (g2 := F0 m 1741 ls [.int (xs (i + 1)), .ref (G.2.1 392)]) (by rw [nI_ix hx4 (by omega)]) ?_
  refine lv_i2l cx.1 cx.2.1 dL_law_1741 rfl ?_
  refine lv_bipush (v := (32 : Int32)) cx.1 cx.2.1 dL_law_1742 (by decide) ?_
  refine lv_lshl cx.1 cx.2.1 dL_law_1744 rfl ?_
  refine lv_aload_n cx.1 cx.2.1 dL_law_1745 rfl (lv_at hl 1 rfl) ?_
  refine lv_iload cx.1 cx.2.1 dL_law_1746 (lv_at hl 5 rfl) ?_
  refine lv_iconst (v := nI 2) cx.1 cx.2.1 dL_law_1748 (by decide) ?_
  refine lv_iadd cx.1 cx.2.1 dL_law_1749 ?_
  refine va_sld cx.1 cx.2.1 hXs hbl hbA hS (nI_inL (k := 2) hx4 (by omega) (by omega)) dL_law_1750 ?_
  refine W.eq (g2 := F0 m 1751 ls [.int (xs (i + 2)), .long (((xs (i + 1)).toInt64) <<< ((32 : Int32).toInt64 &&& 63)), .ref (G.2.1 392)]) (by rw [nI_ix hx4 (by omega)]) ?_
  refine lv_i2l cx.1 cx.2.1 dL_law_1751 rfl ?_
  refine lv_ldc2 cx.1 cx.2.1 cx.2.2.2.1 (cx.2.2.2.2.ts _ gw_7) dL_law_1752 ?_
  refine lv_land cx.1 cx.2.1 dL_law_1755 ?_
  refine lv_lor cx.1 cx.2.1 dL_law_1756 ?_
  refine lv_aload_n cx.1 cx.2.1 dL_law_1757 rfl (lv_at hl 1 rfl) ?_
  refine lv_iload cx.1 cx.2.1 dL_law_1758 (lv_at hl 5 rfl) ?_
  refine lv_iconst (v := nI 3) cx.1 cx.2.1 dL_law_1760 (by decide) ?_
  refine lv_iadd cx.1 cx.2.1 dL_law_1761 ?_
  refine va_sld cx.1 cx.2.1 hXs hbl hbA hS (nI_inL (k := 3) hx4 (by omega) (by omega)) dL_law_1762 ?_
  refine W.eq (g2 := F0 m 1763 ls [.int (xs (i + 3)), .long ((((xs (i + 1)).toInt64) <<< ((32 : Int32).toInt64 &&& 63)) ||| (((xs (i + 2)).toInt64) &&& (4294967295 : Int64))), .ref (G.2.1 392)]) (by rw [nI_ix hx4 (by omega)]) ?_
  refine g_V (As := [.long ((((xs (i + 1)).toInt64) <<< ((32 : Int32).toInt64 &&& 63)) ||| (((xs (i + 2)).toInt64) &&& (4294967295 : Int64))), .int (xs (i + 3))]) (rest := []) cx hw hS (c_X11_simulate l G hM ((((xs (i + 1)).toInt64) <<< ((32 : Int32).toInt64 &&& 63)) ||| (((xs (i + 2)).toInt64) &&& (4294967295 : Int64))) (xs (i + 3)) S1 b9 S2 h2) (by omega) he_c392 rfl rfl gw_1108 gy_X11_simulate gi_X11_simulate ⟨Nat.le_of_ble_eq_true rfl, Nat.le_of_ble_eq_true rfl⟩ hcs rfl hl.1 rfl (Nat.le_of_ble_eq_true rfl) dL_law_1763 (fun H locs hw hS => ?_)
  refine W.eq (g2 := F0 m 1766 ls [.int b9]) rfl ?_
  refine lv_istore (lv' := [(6, .int b9), (5, .int k9), (0, .ref b), (1, .ref (G.2.1 0)), (2, .ref (G.2.1 392)), (3, .ref (G.2.1 402)), (4, .int x4)]) cx.1 cx.2.1 dL_law_1766 hl (by decide) rfl (fun ls hl => ?_)
  refine lv_aload_n cx.1 cx.2.1 dL_law_1768 rfl (lv_at hl 4 rfl) ?_
  refine g_V (As := []) (rest := []) cx hw hS (c_X11_thrown l G hM S2 k9 S2 h3) (by omega) he_c392 rfl rfl gw_205 gy_X11_thrown gi_X11_thrown ⟨Nat.le_of_ble_eq_true rfl, Nat.le_of_ble_eq_true rfl⟩ hcs rfl hl.1 rfl (Nat.le_of_ble_eq_true rfl) dL_law_1769 (fun H locs hw hS => ?_)
  refine W.eq (g2 := F0 m 1772 ls [.int k9]) rfl ?_
  refine lv_iload cx.1 cx.2.1 dL_law_1772 (lv_at hl 1 rfl) ?_
  refine lv_icmp_eq (tgt := 1779) cx.1 cx.2.1 dL_law_1774 (by decide) (fun _ => ?_) (fun hc => absurd rfl hc)
  refine lv_iload cx.1 cx.2.1 dL_law_1779 (lv_at hl 1 rfl) ?_
  refine lv_if_ne (tgt := 1796) cx.1 cx.2.1 dL_law_1781 (by decide) (fun hc => ?_) (fun hc0 => ?_)
  · refine lv_goto (tgt := 1911) cx.1 cx.2.1 dL_law_1796 (by decide) ?_
    exact kk S2 _ _ _ h5 hw hS (lv_sub hl [2, 3, 4, 5, 6] rfl)
  refine lv_aload_n cx.1 cx.2.1 dL_law_1784 rfl (lv_at hl 5 rfl) ?_
  refine lv_iconst (v := (0 : Int32)) cx.1 cx.2.1 dL_law_1785 (by decide) ?_
  refine g_lald24 hO cx hw dL_law_1786 ?_
  refine lv_iload cx.1 cx.2.1 dL_law_1787 (lv_at hl 0 rfl) ?_
  refine lv_i2l cx.1 cx.2.1 dL_law_1789 rfl ?_
  refine W.lcmp cx.1 cx.2.1 dL_law_1790 ?_
  refine lv_if_eq (tgt := 1796) cx.1 cx.2.1 dL_law_1791 (by decide) (fun _ => ?_) (fun hc => absurd (by rw [h4 hc0]; exact lg_cmp_self _) hc)
  refine lv_goto (tgt := 1911) cx.1 cx.2.1 dL_law_1796 (by decide) ?_
  exact kk S2 _ _ _ h5 hw hS (lv_sub hl [2, 3, 4, 5, 6] rfl)
set_option maxHeartbeats 4000000 in
set_option maxRecDepth 100000 in
theorem law_26 {p : Program} {l : Launch} {e : Env} {s : State} {m : MethodId} {below : List Frame} {meth : Method} {c : Code} {Q : State → Prop} {G : gG} {b L : Nat} {xs : Nat → Int32} (hst : l.stackTraces = false) (hO : 403 ≤ gN G) (cx : gCx p s m c cL_law 7 RL G) (hX : gX s) (hZ : gZ (gA G s.heap.size) s s.heap) (hXs : va_X b L xs s s.heap) (hbl : b < s.heap.size) (hbA : ¬ gA G s.heap.size b) (hL : L ≤ 3072) {i cells slots : Nat} {x4 : Int32} (hx4 : x4 = nI i) (hi : i + 6 ≤ L) (hcs : cells + 1 ≤ room_1.cells ∧ slots + 6 ≤ room_1.slots) {S : Sg} {H : Heap} {locs : List Loc} {ls : Array Slot} (hw : gP G S H) (hS : va_S (gA G s.heap.size) s.heap H locs) (hl : lv_has ls 7 [(0, .ref b), (1, .ref (G.2.1 0)), (2, .ref (G.2.1 392)), (3, .ref (G.2.1 402)), (4, .int x4)]) (I : Sg → Prop) (hok : OkA (f_L_save (xs (i + 1))) (f_X11_save (xs (i + 1))) I S)
    (kk : ∀ (S' : Sg) (H : Heap) (locs : List Loc) (ls : Array Slot), I S' → gP G S' H → va_S (gA G s.heap.size) s.heap H locs → lv_has ls 7 [(0, .ref b), (1, .ref (G.2.1 0)), (2, .ref (G.2.1 392)), (3, .ref (G.2.1 402)), (4, .int x4)] → W p l e room_1 s m #[Value.ref b] below meth c H locs (cells + 1) (slots + 6) Q (F0 m 1911 ls [])) : W p l e room_1 s m #[Value.ref b] below meth c H locs cells slots Q (F0 m 1799 ls []) := by
  have hM : 402 ≤ gN G := by omega
  have hN := cx.2.2.2.2.hN
  obtain ⟨k9, b9, S1, S2, h1, h2, h3, h4, h5⟩ := hok
  refine lv_aload_n cx.1 cx.2.1 dL_law_1799 rfl (lv_at hl 1 rfl) ?_
  refine lv_aload_n cx.1 cx.2.1 dL_law_1800 rfl (lv_at hl 0 rfl) ?_
  refine lv_iload cx.1 cx.2.1 dL_law_1801 (lv_at hl 4 rfl) ?_
  refine lv_iconst (v := nI 1) cx.1 cx.2.1 dL_law_1803 (by decide) ?_
  refine lv_iadd cx.1 cx.2.1 dL_law_1804 ?_
  refine va_sld cx.1 cx.2.1 hXs hbl hbA hS (nI_inL (k := 1) hx4 (by omega) (by omega)) dL_law_1805 ?_
  refine W.eq (g2 := F0 m 1806 ls [.int (xs (i + 1)), .ref (G.2.1 0)]) (by rw [nI_ix hx4 (by omega)]) ?_
  refine lv_aload_n cx.1 cx.2.1 dL_law_1806 rfl (lv_at hl 3 rfl) ?_
  refine g_LS (As := [.ref (G.2.1 0), .int (xs (i + 1)), .ref (G.2.1 402)]) (rest := []) cx hX hZ hw hS (c_L_save l hst G hO (xs (i + 1)) S k9 S1 h1) gw_1118 gw_166 gyw_L_save ⟨by decide, by decide⟩ ⟨Nat.le_of_ble_eq_true rfl, Nat.le_of_ble_eq_true rfl⟩ hcs rfl hl.1 rfl (Nat.le_of_ble_eq_true rfl) dL_law_1807 (fun H locs hw hS => ?_)
  refine W.eq (g2 := F0 m 1810 ls [.int k9]) rfl ?_
  refine lv_istore (lv' := [(5, .int k9), (0, .ref b), (1, .ref (G.2.1 0)), (2, .ref (G.2.1 392)), (3, .ref (G.2.1 402)), (4, .int x4)]) cx.1 cx.2.1 dL_law_1810 hl (by decide) rfl (fun ls hl => ?_)
  refine lv_aload_n cx.1 cx.2.1 dL_law_1812 rfl (lv_at hl 3 rfl) ?_
  refine lv_aload_n cx.1 cx.2.1 dL_law_1813 rfl (lv_at hl 1 rfl) ?_
  refine lv_iload cx.1 cx.2.1 dL_law_1814 (lv_at hl 5 rfl) ?_
  refine lv_iconst (v := nI 1) cx.1 cx.2.1 dL_law_1816 (by decide) ?_
  refine lv_iadd cx.1 cx.2.1 dL_law_1817 ?_
  refine va_sld cx.1 cx.2.1 hXs hbl hbA hS (nI_inL (k := 1) hx4 (by omega) (by omega)) dL_law_1818 ?_
  refine W.eq (g2 := F0 m 1819 ls [.int (xs (i + 1)), .ref (G.2.1 392)]) (by rw [nI_ix hx4 (by omega)]) ?_
  refine g_V (As := [.int (xs (i + 1))]) (rest := []) cx hw hS (c_X11_save l G hM (xs (i + 1)) S1 b9 S2 h2) (by omega) he_c392 rfl rfl gw_1136 gy_X11_save gi_X11_save ⟨Nat.le_of_ble_eq_true rfl, Nat.le_of_ble_eq_true rfl⟩ hcs rfl hl.1 rfl (Nat.le_of_ble_eq_true rfl) dL_law_1819 (fun H locs hw hS => ?_)
  refine W.eq (g2 := F0 m 1822 ls [.int b9]) rfl ?_
  refine lv_istore (lv' := [(6, .int b9), (5, .int k9), (0, .ref b), (1, .ref (G.2.1 0)), (2, .ref (G.2.1 392)), (3, .ref (G.2.1 402)), (4, .int x4)]) cx.1 cx.2.1 dL_law_1822 hl (by decide) rfl (fun ls hl => ?_)
  refine lv_aload_n cx.1 cx.2.1 dL_law_1824 rfl (lv_at hl 4 rfl) ?_
  refine g_V (As := []) (rest := []) cx hw hS (c_X11_thrown l G hM S2 k9 S2 h3) (by omega) he_c392 rfl rfl gw_205 gy_X11_thrown gi_X11_thrown ⟨Nat.le_of_ble_eq_true rfl, Nat.le_of_ble_eq_true rfl⟩ hcs rfl hl.1 rfl (Nat.le_of_ble_eq_true rfl) dL_law_1825 (fun H locs hw hS => ?_)
  refine W.eq (g2 := F0 m 1828 ls [.int k9]) rfl ?_
  refine lv_iload cx.1 cx.2.1 dL_law_1828 (lv_at hl 1 rfl) ?_
  refine lv_icmp_eq (tgt := 1835) cx.1 cx.2.1 dL_law_1830 (by decide) (fun _ => ?_) (fun hc => absurd rfl hc)
  refine lv_iload cx.1 cx.2.1 dL_law_1835 (lv_at hl 1 rfl) ?_
  refine lv_if_ne (tgt := 1852) cx.1 cx.2.1 dL_law_1837 (by decide) (fun hc => ?_) (fun hc0 => ?_)
  · refine lv_goto (tgt := 1911) cx.1 cx.2.1 dL_law_1852 (by decide) ?_
    exact kk S2 _ _ _ h5 hw hS (lv_sub hl [2, 3, 4, 5, 6] rfl)
  refine lv_aload_n cx.1 cx.2.1 dL_law_1840 rfl (lv_at hl 5 rfl) ?_
  refine lv_iconst (v := (0 : Int32)) cx.1 cx.2.1 dL_law_1841 (by decide) ?_
  refine g_lald24 hO cx hw dL_law_1842 ?_
  refine lv_iload cx.1 cx.2.1 dL_law_1843 (lv_at hl 0 rfl) ?_
  refine lv_i2l cx.1 cx.2.1 dL_law_1845 rfl ?_
  refine W.lcmp cx.1 cx.2.1 dL_law_1846 ?_
  refine lv_if_eq (tgt := 1852) cx.1 cx.2.1 dL_law_1847 (by decide) (fun _ => ?_) (fun hc => absurd (by rw [h4 hc0]; exact lg_cmp_self _) hc)
  refine lv_goto (tgt := 1911) cx.1 cx.2.1 dL_law_1852 (by decide) ?_
  exact kk S2 _ _ _ h5 hw hS (lv_sub hl [2, 3, 4, 5, 6] rfl)
set_option maxHeartbeats 4000000 in
set_option maxRecDepth 100000 in
theorem law_27 {p : Program} {l : Launch} {e : Env} {s : State} {m : MethodId} {below : List Frame} {meth : Method} {c : Code} {Q : State → Prop} {G : gG} {b L : Nat} {xs : Nat → Int32} (hst : l.stackTraces = false) (hO : 403 ≤ gN G) (cx : gCx p s m c cL_law 7 RL G) (hX : gX s) (hZ : gZ (gA G s.heap.size) s s.heap) (hXs : va_X b L xs s s.heap) (hbl : b < s.heap.size) (hbA : ¬ gA G s.heap.size b) (hL : L ≤ 3072) {i cells slots : Nat} {x4 : Int32} (hx4 : x4 = nI i) (hi : i + 6 ≤ L) (hcs : cells + 2 ≤ room_1.cells ∧ slots + 12 ≤ room_1.slots) {S : Sg} {H : Heap} {locs : List Loc} {ls : Array Slot} (hw : gP G S H) (hS : va_S (gA G s.heap.size) s.heap H locs) (hl : lv_has ls 7 [(0, .ref b), (1, .ref (G.2.1 0)), (2, .ref (G.2.1 392)), (3, .ref (G.2.1 402)), (4, .int x4)]) (I : Sg → Prop) (hok : OkA (f_L_restore (xs (i + 1))) (f_X11_restore (xs (i + 1))) I S)
    (kk : ∀ (S' : Sg) (H : Heap) (locs : List Loc) (ls : Array Slot), I S' → gP G S' H → va_S (gA G s.heap.size) s.heap H locs → lv_has ls 7 [(0, .ref b), (1, .ref (G.2.1 0)), (2, .ref (G.2.1 392)), (3, .ref (G.2.1 402)), (4, .int x4)] → W p l e room_1 s m #[Value.ref b] below meth c H locs (cells + 2) (slots + 12) Q (F0 m 1911 ls [])) : W p l e room_1 s m #[Value.ref b] below meth c H locs cells slots Q (F0 m 1855 ls []) := by
  have hM : 402 ≤ gN G := by omega
  have hN := cx.2.2.2.2.hN
  obtain ⟨k9, b9, S1, S2, h1, h2, h3, h4, h5⟩ := hok
  refine lv_aload_n cx.1 cx.2.1 dL_law_1855 rfl (lv_at hl 1 rfl) ?_
  refine lv_aload_n cx.1 cx.2.1 dL_law_1856 rfl (lv_at hl 0 rfl) ?_
  refine lv_iload cx.1 cx.2.1 dL_law_1857 (lv_at hl 4 rfl) ?_
  refine lv_iconst (v := nI 1) cx.1 cx.2.1 dL_law_1859 (by decide) ?_
  refine lv_iadd cx.1 cx.2.1 dL_law_1860 ?_
  refine va_sld cx.1 cx.2.1 hXs hbl hbA hS (nI_inL (k := 1) hx4 (by omega) (by omega)) dL_law_1861 ?_
  refine W.eq (g2 := F0 m 1862 ls [.int (xs (i + 1)), .ref (G.2.1 0)]) (by rw [nI_ix hx4 (by omega)]) ?_
  refine lv_aload_n cx.1 cx.2.1 dL_law_1862 rfl (lv_at hl 3 rfl) ?_
  refine g_LS (As := [.ref (G.2.1 0), .int (xs (i + 1)), .ref (G.2.1 402)]) (rest := []) cx hX hZ hw hS (c_L_restore l hst G hO (xs (i + 1)) S k9 S1 h1) gw_1140 gw_166 gyw_L_restore ⟨by decide, by decide⟩ ⟨Nat.le_of_ble_eq_true rfl, Nat.le_of_ble_eq_true rfl⟩ hcs rfl hl.1 rfl (Nat.le_of_ble_eq_true rfl) dL_law_1863 (fun H locs hw hS => ?_)
  refine W.eq (g2 := F0 m 1866 ls [.int k9]) rfl ?_
  refine lv_istore (lv' := [(5, .int k9), (0, .ref b), (1, .ref (G.2.1 0)), (2, .ref (G.2.1 392)), (3, .ref (G.2.1 402)), (4, .int x4)]) cx.1 cx.2.1 dL_law_1866 hl (by decide) rfl (fun ls hl => ?_)
  refine lv_aload_n cx.1 cx.2.1 dL_law_1868 rfl (lv_at hl 3 rfl) ?_
  refine lv_aload_n cx.1 cx.2.1 dL_law_1869 rfl (lv_at hl 1 rfl) ?_
  refine lv_iload cx.1 cx.2.1 dL_law_1870 (lv_at hl 5 rfl) ?_
  refine lv_iconst (v := nI 1) cx.1 cx.2.1 dL_law_1872 (by decide) ?_
  refine lv_iadd cx.1 cx.2.1 dL_law_1873 ?_
  refine va_sld cx.1 cx.2.1 hXs hbl hbA hS (nI_inL (k := 1) hx4 (by omega) (by omega)) dL_law_1874 ?_
  refine W.eq (g2 := F0 m 1875 ls [.int (xs (i + 1)), .ref (G.2.1 392)]) (by rw [nI_ix hx4 (by omega)]) ?_
  refine g_V (As := [.int (xs (i + 1))]) (rest := []) cx hw hS (c_X11_restore l G hM (xs (i + 1)) S1 b9 S2 h2) (by omega) he_c392 rfl rfl gw_1155 gy_X11_restore gi_X11_restore ⟨Nat.le_of_ble_eq_true rfl, Nat.le_of_ble_eq_true rfl⟩ hcs rfl hl.1 rfl (Nat.le_of_ble_eq_true rfl) dL_law_1875 (fun H locs hw hS => ?_)
  refine W.eq (g2 := F0 m 1878 ls [.int b9]) rfl ?_
  refine lv_istore (lv' := [(6, .int b9), (5, .int k9), (0, .ref b), (1, .ref (G.2.1 0)), (2, .ref (G.2.1 392)), (3, .ref (G.2.1 402)), (4, .int x4)]) cx.1 cx.2.1 dL_law_1878 hl (by decide) rfl (fun ls hl => ?_)
  refine lv_aload_n cx.1 cx.2.1 dL_law_1880 rfl (lv_at hl 4 rfl) ?_
  refine g_V (As := []) (rest := []) cx hw hS (c_X11_thrown l G hM S2 k9 S2 h3) (by omega) he_c392 rfl rfl gw_205 gy_X11_thrown gi_X11_thrown ⟨Nat.le_of_ble_eq_true rfl, Nat.le_of_ble_eq_true rfl⟩ hcs rfl hl.1 rfl (Nat.le_of_ble_eq_true rfl) dL_law_1881 (fun H locs hw hS => ?_)
  refine W.eq (g2 := F0 m 1884 ls [.int k9]) rfl ?_
  refine lv_iload cx.1 cx.2.1 dL_law_1884 (lv_at hl 1 rfl) ?_
  refine lv_icmp_eq (tgt := 1891) cx.1 cx.2.1 dL_law_1886 (by decide) (fun _ => ?_) (fun hc => absurd rfl hc)
  refine lv_iload cx.1 cx.2.1 dL_law_1891 (lv_at hl 1 rfl) ?_
  refine lv_if_ne (tgt := 1908) cx.1 cx.2.1 dL_law_1893 (by decide) (fun hc => ?_) (fun hc0 => ?_)
  · refine lv_goto (tgt := 1911) cx.1 cx.2.1 dL_law_1908 (by decide) ?_
    exact kk S2 _ _ _ h5 hw hS (lv_sub hl [2, 3, 4, 5, 6] rfl)
  refine lv_aload_n cx.1 cx.2.1 dL_law_1896 rfl (lv_at hl 5 rfl) ?_
  refine lv_iconst (v := (0 : Int32)) cx.1 cx.2.1 dL_law_1897 (by decide) ?_
  refine g_lald24 hO cx hw dL_law_1898 ?_
  refine lv_iload cx.1 cx.2.1 dL_law_1899 (lv_at hl 0 rfl) ?_
  refine lv_i2l cx.1 cx.2.1 dL_law_1901 rfl ?_
  refine W.lcmp cx.1 cx.2.1 dL_law_1902 ?_
  refine lv_if_eq (tgt := 1908) cx.1 cx.2.1 dL_law_1903 (by decide) (fun _ => ?_) (fun hc => absurd (by rw [h4 hc0]; exact lg_cmp_self _) hc)
  refine lv_goto (tgt := 1911) cx.1 cx.2.1 dL_law_1908 (by decide) ?_
  exact kk S2 _ _ _ h5 hw hS (lv_sub hl [2, 3, 4, 5, 6] rfl)
def LawOk (I : Nat → Sg → Prop) : Prop := (∀ (n : Nat) (S : Sg), n < 512 → I n S → ∀ (xs : Nat → Int32) (i : Nat), OkA (f_L_append (xs (i + 1))) (f_X11_append (xs (i + 1))) (I (n + 1)) S) ∧ (∀ (n : Nat) (S : Sg), n < 512 → I n S → ∀ (xs : Nat → Int32) (i : Nat), OkB (f_X10_clearText) (f_X11_clearText) (I (n + 1)) S) ∧ (∀ (n : Nat) (S : Sg), n < 512 → I n S → ∀ (xs : Nat → Int32) (i : Nat), OkB (f_X10_errorPosition) (f_X11_errorPosition) (I (n + 1)) S) ∧ (∀ (n : Nat) (S : Sg), n < 512 → I n S → ∀ (xs : Nat → Int32) (i : Nat), OkA (f_L_load) (f_X11_load) (I (n + 1)) S) ∧ (∀ (n : Nat) (S : Sg), n < 512 → I n S → ∀ (xs : Nat → Int32) (i : Nat), OkA (f_L_about (xs (i + 1))) (f_X11_about (xs (i + 1))) (I (n + 1)) S) ∧ (∀ (n : Nat) (S : Sg), n < 512 → I n S → ∀ (xs : Nat → Int32) (i : Nat), OkA (f_L_track (xs (i + 1)) (xs (i + 2))) (f_X11_track (xs (i + 1)) (xs (i + 2))) (I (n + 1)) S) ∧ (∀ (n : Nat) (S : Sg), n < 512 → I n S → ∀ (xs : Nat → Int32) (i : Nat), OkA (f_L_company (xs (i + 1)) (xs (i + 2))) (f_X11_company (xs (i + 1)) (xs (i + 2))) (I (n + 1)) S) ∧ (∀ (n : Nat) (S : Sg), n < 512 → I n S → ∀ (xs : Nat → Int32) (i : Nat), OkA (f_L_train (xs (i + 1)) (xs (i + 2)) (xs (i + 3))) (f_X11_train (xs (i + 1)) (xs (i + 2)) (xs (i + 3))) (I (n + 1)) S) ∧ (∀ (n : Nat) (S : Sg), n < 512 → I n S → ∀ (xs : Nat → Int32) (i : Nat), OkA (f_L_contract (xs (i + 1)) (xs (i + 2))) (f_X11_contract (xs (i + 1)) (xs (i + 2))) (I (n + 1)) S) ∧ (∀ (n : Nat) (S : Sg), n < 512 → I n S → ∀ (xs : Nat → Int32) (i : Nat), OkA (f_L_buyTrack (xs (i + 1)) (xs (i + 2))) (f_X11_buyTrack (xs (i + 1)) (xs (i + 2))) (I (n + 1)) S) ∧ (∀ (n : Nat) (S : Sg), n < 512 → I n S → ∀ (xs : Nat → Int32) (i : Nat), OkA (f_L_buyTrain (xs (i + 1)) (xs (i + 2))) (f_X11_buyTrain (xs (i + 1)) (xs (i + 2))) (I (n + 1)) S) ∧ (∀ (n : Nat) (S : Sg), n < 512 → I n S → ∀ (xs : Nat → Int32) (i : Nat), OkA (f_L_setRent (xs (i + 1)) (xs (i + 2))) (f_X11_setRent (xs (i + 1)) (xs (i + 2))) (I (n + 1)) S) ∧ (∀ (n : Nat) (S : Sg), n < 512 → I n S → ∀ (xs : Nat → Int32) (i : Nat), OkA (f_L_offer (xs (i + 1)) (xs (i + 2)) (xs (i + 3)) (xs (i + 4))) (f_X11_offer (xs (i + 1)) (xs (i + 2)) (xs (i + 3)) (xs (i + 4))) (I (n + 1)) S) ∧ (∀ (n : Nat) (S : Sg), n < 512 → I n S → ∀ (xs : Nat → Int32) (i : Nat), OkA (f_L_take (xs (i + 1)) (xs (i + 2))) (f_X11_take (xs (i + 1)) (xs (i + 2))) (I (n + 1)) S) ∧ (∀ (n : Nat) (S : Sg), n < 512 → I n S → ∀ (xs : Nat → Int32) (i : Nat), OkA (f_L_run (xs (i + 1)) (xs (i + 2))) (f_X11_run (xs (i + 1)) (xs (i + 2))) (I (n + 1)) S) ∧ (∀ (n : Nat) (S : Sg), n < 512 → I n S → ∀ (xs : Nat → Int32) (i : Nat), OkB (f_X10_endRound) (f_X11_endRound) (I (n + 1)) S) ∧ (∀ (n : Nat) (S : Sg), n < 512 → I n S → ∀ (xs : Nat → Int32) (i : Nat), OkA (f_L_undo) (f_X11_undo) (I (n + 1)) S) ∧ (∀ (n : Nat) (S : Sg), n < 512 → I n S → ∀ (xs : Nat → Int32) (i : Nat), OkA (f_L_way (xs (i + 1)) (xs (i + 2)) (xs (i + 3)) (xs (i + 4)) (xs (i + 5))) (f_X11_way (xs (i + 1)) (xs (i + 2)) (xs (i + 3)) (xs (i + 4)) (xs (i + 5))) (I (n + 1)) S) ∧ (∀ (n : Nat) (S : Sg), n < 512 → I n S → ∀ (xs : Nat → Int32) (i : Nat), OkA (f_L_whyNot (xs (i + 1)) (xs (i + 2))) (f_X11_whyNot (xs (i + 1)) (xs (i + 2))) (I (n + 1)) S) ∧ (∀ (n : Nat) (S : Sg), n < 512 → I n S → ∀ (xs : Nat → Int32) (i : Nat), OkA (f_L_levelFor (xs (i + 1)) (xs (i + 2))) (f_X11_levelFor (xs (i + 1)) (xs (i + 2))) (I (n + 1)) S) ∧ (∀ (n : Nat) (S : Sg), n < 512 → I n S → ∀ (xs : Nat → Int32) (i : Nat), OkA (f_L_bestContract (xs (i + 1))) (f_X11_bestContract (xs (i + 1))) (I (n + 1)) S) ∧ (∀ (n : Nat) (S : Sg), n < 512 → I n S → ∀ (xs : Nat → Int32) (i : Nat), OkA (f_L_coinsAfter (xs (i + 1)) (xs (i + 2))) (f_X11_coinsAfter (xs (i + 1)) (xs (i + 2))) (I (n + 1)) S) ∧ (∀ (n : Nat) (S : Sg), n < 512 → I n S → ∀ (xs : Nat → Int32) (i : Nat), OkA (f_L_bankruptAfter (xs (i + 1))) (f_X11_bankruptAfter (xs (i + 1))) (I (n + 1)) S) ∧ (∀ (n : Nat) (S : Sg), n < 512 → I n S → ∀ (xs : Nat → Int32) (i : Nat), OkA (f_L_worth (xs (i + 1))) (f_X11_worth (xs (i + 1))) (I (n + 1)) S) ∧ (∀ (n : Nat) (S : Sg), n < 512 → I n S → ∀ (xs : Nat → Int32) (i : Nat), OkA (f_L_runScript (xs (i + 1)) ((((xs (i + 2)).toInt64) <<< ((32 : Int32).toInt64 &&& 63)) ||| (((xs (i + 3)).toInt64) &&& (4294967295 : Int64)))) (f_X11_runScript (xs (i + 1)) ((((xs (i + 2)).toInt64) <<< ((32 : Int32).toInt64 &&& 63)) ||| (((xs (i + 3)).toInt64) &&& (4294967295 : Int64)))) (I (n + 1)) S) ∧ (∀ (n : Nat) (S : Sg), n < 512 → I n S → ∀ (xs : Nat → Int32) (i : Nat), OkA (f_L_simulate ((((xs (i + 1)).toInt64) <<< ((32 : Int32).toInt64 &&& 63)) ||| (((xs (i + 2)).toInt64) &&& (4294967295 : Int64))) (xs (i + 3))) (f_X11_simulate ((((xs (i + 1)).toInt64) <<< ((32 : Int32).toInt64 &&& 63)) ||| (((xs (i + 2)).toInt64) &&& (4294967295 : Int64))) (xs (i + 3))) (I (n + 1)) S) ∧ (∀ (n : Nat) (S : Sg), n < 512 → I n S → ∀ (xs : Nat → Int32) (i : Nat), OkA (f_L_save (xs (i + 1))) (f_X11_save (xs (i + 1))) (I (n + 1)) S) ∧ (∀ (n : Nat) (S : Sg), n < 512 → I n S → ∀ (xs : Nat → Int32) (i : Nat), OkA (f_L_restore (xs (i + 1))) (f_X11_restore (xs (i + 1))) (I (n + 1)) S)
set_option maxHeartbeats 4000000 in
set_option maxRecDepth 100000 in
theorem law_loop {p : Program} {l : Launch} {e : Env} {s : State} {m : MethodId} {below : List Frame} {meth : Method} {c : Code} {Q : State → Prop} {G : gG} {b L : Nat} {xs : Nat → Int32} (hst : l.stackTraces = false) (hO : 403 ≤ gN G) (cx : gCx p s m c cL_law 7 RL G) (hX : gX s) (hZ : gZ (gA G s.heap.size) s s.heap) (hXs : va_X b L xs s s.heap) (hbl : b < s.heap.size) (hbA : ¬ gA G s.heap.size b) (hL : L ≤ 3072) (I : Nat → Sg → Prop) (hok : LawOk I) (hkeep : ∀ (n : Nat) (S : Sg), n < 512 → I n S → I (n + 1) S)
    (hend : ∀ (H : Heap) (locs : List Loc) (ls : Array Slot) (cells slots : Nat), cells ≤ 601024 → slots ≤ 7293033 → va_S (gA G s.heap.size) s.heap H locs → W p l e room_1 s m #[Value.ref b] below meth c H locs cells slots Q (F0 m 1918 ls [.int 1])) :
    ∀ (n j : Nat) (x4 : Int32) (S : Sg) (H : Heap) (locs : List Loc) (ls : Array Slot) (cells slots : Nat), 512 < j + n → j ≤ 512 → x4 = nI (6 * j) → cells ≤ 1000 + 6 * j → slots ≤ 100000 + 36 * j → I j S → gP G S H → va_S (gA G s.heap.size) s.heap H locs → lv_has ls 7 [(0, .ref b), (1, .ref (G.2.1 0)), (2, .ref (G.2.1 392)), (3, .ref (G.2.1 402)), (4, .int x4)] → W p l e room_1 s m #[Value.ref b] below meth c H locs cells slots Q (F0 m 23 ls []) := by
  intro n
  induction n with
  | zero => intro j x4 S H locs ls cells slots h1 h2; exact absurd h1 (by omega)
  | succ n ih =>
    intro j x4 S H locs ls cells slots hn hj hx4 hcl hsl hI hw hS hl
    refine lv_iload cx.1 cx.2.1 dL_law_23 (lv_at hl 4 rfl) ?_
    refine lv_aload_n cx.1 cx.2.1 dL_law_25 rfl (lv_at hl 0 rfl) ?_
    refine va_slen cx.1 cx.2.1 hXs hbl hbA hS dL_law_26 ?_
    refine lv_bipush (v := 6) cx.1 cx.2.1 dL_law_27 (by decide) ?_
    refine lv_isub cx.1 cx.2.1 dL_law_29 ?_
    refine lv_icmp_gt (tgt := 1917) cx.1 cx.2.1 dL_law_30 (by decide) (fun hc => ?_) (fun hc => ?_)
    · refine lv_iconst (v := 1) cx.1 cx.2.1 dL_law_1917 (by decide) ?_
      exact hend _ _ _ _ _ (by omega) (by omega) hS
    · have hi : 6 * j + 6 ≤ L := law_more hx4 hL (by omega) hc
      have hj2 : j < 512 := by omega
      refine lv_aload_n cx.1 cx.2.1 dL_law_33 rfl (lv_at hl 0 rfl) ?_
      refine lv_iload cx.1 cx.2.1 dL_law_34 (lv_at hl 4 rfl) ?_
      refine va_sld cx.1 cx.2.1 hXs hbl hbA hS (by rw [hx4]; exact vp_in_nI (by omega) (by omega)) dL_law_36 ?_
      refine lv_bipush (v := 31) cx.1 cx.2.1 dL_law_37 (by decide) ?_
      refine lv_iand cx.1 cx.2.1 dL_law_39 ?_
      generalize (xs x4.toNatClampNeg) &&& 31 = z
      have hback : ∀ (S' : Sg) (H : Heap) (locs : List Loc) (ls : Array Slot) (cells slots : Nat), cells ≤ 1000 + 6 * (j + 1) → slots ≤ 100000 + 36 * (j + 1) → I (j + 1) S' → gP G S' H → va_S (gA G s.heap.size) s.heap H locs → lv_has ls 7 [(0, .ref b), (1, .ref (G.2.1 0)), (2, .ref (G.2.1 392)), (3, .ref (G.2.1 402)), (4, .int x4)] → W p l e room_1 s m #[Value.ref b] below meth c H locs cells slots Q (F0 m 1911 ls []) := by
        intro S' H locs ls cells slots h1 h2 hI hw hS hl
        obtain ⟨y4, ey4⟩ : ∃ y4 : Int32, y4 = x4 + 6 := ⟨_, rfl⟩
        refine lv_iinc (v := y4) (lv' := [(4, .int y4), (0, .ref b), (1, .ref (G.2.1 0)), (2, .ref (G.2.1 392)), (3, .ref (G.2.1 402))]) cx.1 cx.2.1 dL_law_1911 hl (k := 4) rfl (by rw [ey4]; rfl) (by decide) rfl (fun ls hl => ?_)
        refine lv_goto (tgt := 23) cx.1 cx.2.1 dL_law_1914 (by decide) ?_
        exact ih (j + 1) y4 S' _ _ _ _ _ (by omega) (by omega) (by rw [ey4, hx4]; exact nI_add (6 * j) 6) h1 h2 hI hw hS (lv_sub hl [1, 2, 3, 4, 0] rfl)
      by_cases hs0 : z = (0 : Int32)
      · refine lv_tableIn (off := 128) (tgt := 168) cx.1 cx.2.1 dL_law_40 (by rw [hs0]; decide) (by rw [hs0]; decide) (by rw [hs0]; decide) (by decide) ?_
        exact law_0 (i := 6 * j) hst hO cx hX hZ hXs hbl hbA hL hx4 hi ⟨by show cells + 2 ≤ 601024; omega, by show slots + 12 ≤ 7293033; omega⟩ hw hS hl (I (j + 1)) (hok.1 j S hj2 hI xs (6 * j)) (fun S' H locs ls hI hw hS hl => hback S' H locs ls _ _ (by omega) (by omega) hI hw hS hl)
      by_cases hs1 : z = (1 : Int32)
      · refine lv_tableIn (off := 184) (tgt := 224) cx.1 cx.2.1 dL_law_40 (by rw [hs1]; decide) (by rw [hs1]; decide) (by rw [hs1]; decide) (by decide) ?_
        exact law_1 (i := 6 * j) hst hO cx hX hZ hXs hbl hbA hL hx4 hi ⟨by show cells + 0 ≤ 601024; omega, by show slots + 0 ≤ 7293033; omega⟩ hw hS hl (I (j + 1)) (hok.2.1 j S hj2 hI xs (6 * j)) (fun S' H locs ls hI hw hS hl => hback S' H locs ls _ _ (by omega) (by omega) hI hw hS hl)
      by_cases hs2 : z = (2 : Int32)
      · refine lv_tableIn (off := 197) (tgt := 237) cx.1 cx.2.1 dL_law_40 (by rw [hs2]; decide) (by rw [hs2]; decide) (by rw [hs2]; decide) (by decide) ?_
        exact law_2 (i := 6 * j) hst hO cx hX hZ hXs hbl hbA hL hx4 hi ⟨by show cells + 0 ≤ 601024; omega, by show slots + 0 ≤ 7293033; omega⟩ hw hS hl (I (j + 1)) (hok.2.2.1 j S hj2 hI xs (6 * j)) (fun S' H locs ls hI hw hS hl => hback S' H locs ls _ _ (by omega) (by omega) hI hw hS hl)
      by_cases hs3 : z = (3 : Int32)
      · refine lv_tableIn (off := 210) (tgt := 250) cx.1 cx.2.1 dL_law_40 (by rw [hs3]; decide) (by rw [hs3]; decide) (by rw [hs3]; decide) (by decide) ?_
        exact law_3 (i := 6 * j) hst hO cx hX hZ hXs hbl hbA hL hx4 hi ⟨by show cells + 1 ≤ 601024; omega, by show slots + 6 ≤ 7293033; omega⟩ hw hS hl (I (j + 1)) (hok.2.2.2.1 j S hj2 hI xs (6 * j)) (fun S' H locs ls hI hw hS hl => hback S' H locs ls _ _ (by omega) (by omega) hI hw hS hl)
      by_cases hs4 : z = (4 : Int32)
      · refine lv_tableIn (off := 254) (tgt := 294) cx.1 cx.2.1 dL_law_40 (by rw [hs4]; decide) (by rw [hs4]; decide) (by rw [hs4]; decide) (by decide) ?_
        exact law_4 (i := 6 * j) hst hO cx hX hZ hXs hbl hbA hL hx4 hi ⟨by show cells + 1 ≤ 601024; omega, by show slots + 6 ≤ 7293033; omega⟩ hw hS hl (I (j + 1)) (hok.2.2.2.2.1 j S hj2 hI xs (6 * j)) (fun S' H locs ls hI hw hS hl => hback S' H locs ls _ _ (by omega) (by omega) hI hw hS hl)
      by_cases hs5 : z = (5 : Int32)
      · refine lv_tableIn (off := 310) (tgt := 350) cx.1 cx.2.1 dL_law_40 (by rw [hs5]; decide) (by rw [hs5]; decide) (by rw [hs5]; decide) (by decide) ?_
        exact law_5 (i := 6 * j) hst hO cx hX hZ hXs hbl hbA hL hx4 hi ⟨by show cells + 2 ≤ 601024; omega, by show slots + 12 ≤ 7293033; omega⟩ hw hS hl (I (j + 1)) (hok.2.2.2.2.2.1 j S hj2 hI xs (6 * j)) (fun S' H locs ls hI hw hS hl => hback S' H locs ls _ _ (by omega) (by omega) hI hw hS hl)
      by_cases hs6 : z = (6 : Int32)
      · refine lv_tableIn (off := 378) (tgt := 418) cx.1 cx.2.1 dL_law_40 (by rw [hs6]; decide) (by rw [hs6]; decide) (by rw [hs6]; decide) (by decide) ?_
        exact law_6 (i := 6 * j) hst hO cx hX hZ hXs hbl hbA hL hx4 hi ⟨by show cells + 2 ≤ 601024; omega, by show slots + 12 ≤ 7293033; omega⟩ hw hS hl (I (j + 1)) (hok.2.2.2.2.2.2.1 j S hj2 hI xs (6 * j)) (fun S' H locs ls hI hw hS hl => hback S' H locs ls _ _ (by omega) (by omega) hI hw hS hl)
      by_cases hs7 : z = (7 : Int32)
      · refine lv_tableIn (off := 446) (tgt := 486) cx.1 cx.2.1 dL_law_40 (by rw [hs7]; decide) (by rw [hs7]; decide) (by rw [hs7]; decide) (by decide) ?_
        exact law_7 (i := 6 * j) hst hO cx hX hZ hXs hbl hbA hL hx4 hi ⟨by show cells + 3 ≤ 601024; omega, by show slots + 18 ≤ 7293033; omega⟩ hw hS hl (I (j + 1)) (hok.2.2.2.2.2.2.2.1 j S hj2 hI xs (6 * j)) (fun S' H locs ls hI hw hS hl => hback S' H locs ls _ _ (by omega) (by omega) hI hw hS hl)
      by_cases hs8 : z = (8 : Int32)
      · refine lv_tableIn (off := 526) (tgt := 566) cx.1 cx.2.1 dL_law_40 (by rw [hs8]; decide) (by rw [hs8]; decide) (by rw [hs8]; decide) (by decide) ?_
        exact law_8 (i := 6 * j) hst hO cx hX hZ hXs hbl hbA hL hx4 hi ⟨by show cells + 2 ≤ 601024; omega, by show slots + 12 ≤ 7293033; omega⟩ hw hS hl (I (j + 1)) (hok.2.2.2.2.2.2.2.2.1 j S hj2 hI xs (6 * j)) (fun S' H locs ls hI hw hS hl => hback S' H locs ls _ _ (by omega) (by omega) hI hw hS hl)
      by_cases hs9 : z = (9 : Int32)
      · refine lv_tableIn (off := 594) (tgt := 634) cx.1 cx.2.1 dL_law_40 (by rw [hs9]; decide) (by rw [hs9]; decide) (by rw [hs9]; decide) (by decide) ?_
        exact law_9 (i := 6 * j) hst hO cx hX hZ hXs hbl hbA hL hx4 hi ⟨by show cells + 3 ≤ 601024; omega, by show slots + 18 ≤ 7293033; omega⟩ hw hS hl (I (j + 1)) (hok.2.2.2.2.2.2.2.2.2.1 j S hj2 hI xs (6 * j)) (fun S' H locs ls hI hw hS hl => hback S' H locs ls _ _ (by omega) (by omega) hI hw hS hl)
      by_cases hs10 : z = (10 : Int32)
      · refine lv_tableIn (off := 662) (tgt := 702) cx.1 cx.2.1 dL_law_40 (by rw [hs10]; decide) (by rw [hs10]; decide) (by rw [hs10]; decide) (by decide) ?_
        exact law_10 (i := 6 * j) hst hO cx hX hZ hXs hbl hbA hL hx4 hi ⟨by show cells + 3 ≤ 601024; omega, by show slots + 18 ≤ 7293033; omega⟩ hw hS hl (I (j + 1)) (hok.2.2.2.2.2.2.2.2.2.2.1 j S hj2 hI xs (6 * j)) (fun S' H locs ls hI hw hS hl => hback S' H locs ls _ _ (by omega) (by omega) hI hw hS hl)
      by_cases hs11 : z = (11 : Int32)
      · refine lv_tableIn (off := 730) (tgt := 770) cx.1 cx.2.1 dL_law_40 (by rw [hs11]; decide) (by rw [hs11]; decide) (by rw [hs11]; decide) (by decide) ?_
        exact law_11 (i := 6 * j) hst hO cx hX hZ hXs hbl hbA hL hx4 hi ⟨by show cells + 2 ≤ 601024; omega, by show slots + 12 ≤ 7293033; omega⟩ hw hS hl (I (j + 1)) (hok.2.2.2.2.2.2.2.2.2.2.2.1 j S hj2 hI xs (6 * j)) (fun S' H locs ls hI hw hS hl => hback S' H locs ls _ _ (by omega) (by omega) hI hw hS hl)
      by_cases hs12 : z = (12 : Int32)
      · refine lv_tableIn (off := 798) (tgt := 838) cx.1 cx.2.1 dL_law_40 (by rw [hs12]; decide) (by rw [hs12]; decide) (by rw [hs12]; decide) (by decide) ?_
        exact law_12 (i := 6 * j) hst hO cx hX hZ hXs hbl hbA hL hx4 hi ⟨by show cells + 6 ≤ 601024; omega, by show slots + 36 ≤ 7293033; omega⟩ hw hS hl (I (j + 1)) (hok.2.2.2.2.2.2.2.2.2.2.2.2.1 j S hj2 hI xs (6 * j)) (fun S' H locs ls hI hw hS hl => hback S' H locs ls _ _ (by omega) (by omega) hI hw hS hl)
      by_cases hs13 : z = (13 : Int32)
      · refine lv_tableIn (off := 890) (tgt := 930) cx.1 cx.2.1 dL_law_40 (by rw [hs13]; decide) (by rw [hs13]; decide) (by rw [hs13]; decide) (by decide) ?_
        exact law_13 (i := 6 * j) hst hO cx hX hZ hXs hbl hbA hL hx4 hi ⟨by show cells + 3 ≤ 601024; omega, by show slots + 18 ≤ 7293033; omega⟩ hw hS hl (I (j + 1)) (hok.2.2.2.2.2.2.2.2.2.2.2.2.2.1 j S hj2 hI xs (6 * j)) (fun S' H locs ls hI hw hS hl => hback S' H locs ls _ _ (by omega) (by omega) hI hw hS hl)
      by_cases hs14 : z = (14 : Int32)
      · refine lv_tableIn (off := 958) (tgt := 998) cx.1 cx.2.1 dL_law_40 (by rw [hs14]; decide) (by rw [hs14]; decide) (by rw [hs14]; decide) (by decide) ?_
        exact law_14 (i := 6 * j) hst hO cx hX hZ hXs hbl hbA hL hx4 hi ⟨by show cells + 3 ≤ 601024; omega, by show slots + 18 ≤ 7293033; omega⟩ hw hS hl (I (j + 1)) (hok.2.2.2.2.2.2.2.2.2.2.2.2.2.2.1 j S hj2 hI xs (6 * j)) (fun S' H locs ls hI hw hS hl => hback S' H locs ls _ _ (by omega) (by omega) hI hw hS hl)
      by_cases hs15 : z = (15 : Int32)
      · refine lv_tableIn (off := 1026) (tgt := 1066) cx.1 cx.2.1 dL_law_40 (by rw [hs15]; decide) (by rw [hs15]; decide) (by rw [hs15]; decide) (by decide) ?_
        exact law_15 (i := 6 * j) hst hO cx hX hZ hXs hbl hbA hL hx4 hi ⟨by show cells + 0 ≤ 601024; omega, by show slots + 0 ≤ 7293033; omega⟩ hw hS hl (I (j + 1)) (hok.2.2.2.2.2.2.2.2.2.2.2.2.2.2.2.1 j S hj2 hI xs (6 * j)) (fun S' H locs ls hI hw hS hl => hback S' H locs ls _ _ (by omega) (by omega) hI hw hS hl)
      by_cases hs16 : z = (16 : Int32)
      · refine lv_tableIn (off := 1039) (tgt := 1079) cx.1 cx.2.1 dL_law_40 (by rw [hs16]; decide) (by rw [hs16]; decide) (by rw [hs16]; decide) (by decide) ?_
        exact law_16 (i := 6 * j) hst hO cx hX hZ hXs hbl hbA hL hx4 hi ⟨by show cells + 1 ≤ 601024; omega, by show slots + 6 ≤ 7293033; omega⟩ hw hS hl (I (j + 1)) (hok.2.2.2.2.2.2.2.2.2.2.2.2.2.2.2.2.1 j S hj2 hI xs (6 * j)) (fun S' H locs ls hI hw hS hl => hback S' H locs ls _ _ (by omega) (by omega) hI hw hS hl)
      by_cases hs17 : z = (17 : Int32)
      · refine lv_tableIn (off := 1083) (tgt := 1123) cx.1 cx.2.1 dL_law_40 (by rw [hs17]; decide) (by rw [hs17]; decide) (by rw [hs17]; decide) (by decide) ?_
        exact law_17 (i := 6 * j) hst hO cx hX hZ hXs hbl hbA hL hx4 hi ⟨by show cells + 6 ≤ 601024; omega, by show slots + 36 ≤ 7293033; omega⟩ hw hS hl (I (j + 1)) (hok.2.2.2.2.2.2.2.2.2.2.2.2.2.2.2.2.2.1 j S hj2 hI xs (6 * j)) (fun S' H locs ls hI hw hS hl => hback S' H locs ls _ _ (by omega) (by omega) hI hw hS hl)
      by_cases hs18 : z = (18 : Int32)
      · refine lv_tableIn (off := 1187) (tgt := 1227) cx.1 cx.2.1 dL_law_40 (by rw [hs18]; decide) (by rw [hs18]; decide) (by rw [hs18]; decide) (by decide) ?_
        exact law_18 (i := 6 * j) hst hO cx hX hZ hXs hbl hbA hL hx4 hi ⟨by show cells + 2 ≤ 601024; omega, by show slots + 12 ≤ 7293033; omega⟩ hw hS hl (I (j + 1)) (hok.2.2.2.2.2.2.2.2.2.2.2.2.2.2.2.2.2.2.1 j S hj2 hI xs (6 * j)) (fun S' H locs ls hI hw hS hl => hback S' H locs ls _ _ (by omega) (by omega) hI hw hS hl)
      by_cases hs19 : z = (19 : Int32)
      · refine lv_tableIn (off := 1255) (tgt := 1295) cx.1 cx.2.1 dL_law_40 (by rw [hs19]; decide) (by rw [hs19]; decide) (by rw [hs19]; decide) (by decide) ?_
        exact law_19 (i := 6 * j) hst hO cx hX hZ hXs hbl hbA hL hx4 hi ⟨by show cells + 2 ≤ 601024; omega, by show slots + 12 ≤ 7293033; omega⟩ hw hS hl (I (j + 1)) (hok.2.2.2.2.2.2.2.2.2.2.2.2.2.2.2.2.2.2.2.1 j S hj2 hI xs (6 * j)) (fun S' H locs ls hI hw hS hl => hback S' H locs ls _ _ (by omega) (by omega) hI hw hS hl)
      by_cases hs20 : z = (20 : Int32)
      · refine lv_tableIn (off := 1323) (tgt := 1363) cx.1 cx.2.1 dL_law_40 (by rw [hs20]; decide) (by rw [hs20]; decide) (by rw [hs20]; decide) (by decide) ?_
        exact law_20 (i := 6 * j) hst hO cx hX hZ hXs hbl hbA hL hx4 hi ⟨by show cells + 1 ≤ 601024; omega, by show slots + 6 ≤ 7293033; omega⟩ hw hS hl (I (j + 1)) (hok.2.2.2.2.2.2.2.2.2.2.2.2.2.2.2.2.2.2.2.2.1 j S hj2 hI xs (6 * j)) (fun S' H locs ls hI hw hS hl => hback S' H locs ls _ _ (by omega) (by omega) hI hw hS hl)
      by_cases hs21 : z = (21 : Int32)
      · refine lv_tableIn (off := 1379) (tgt := 1419) cx.1 cx.2.1 dL_law_40 (by rw [hs21]; decide) (by rw [hs21]; decide) (by rw [hs21]; decide) (by decide) ?_
        exact law_21 (i := 6 * j) hst hO cx hX hZ hXs hbl hbA hL hx4 hi ⟨by show cells + 2 ≤ 601024; omega, by show slots + 12 ≤ 7293033; omega⟩ hw hS hl (I (j + 1)) (hok.2.2.2.2.2.2.2.2.2.2.2.2.2.2.2.2.2.2.2.2.2.1 j S hj2 hI xs (6 * j)) (fun S' H locs ls hI hw hS hl => hback S' H locs ls _ _ (by omega) (by omega) hI hw hS hl)
      by_cases hs22 : z = (22 : Int32)
      · refine lv_tableIn (off := 1447) (tgt := 1487) cx.1 cx.2.1 dL_law_40 (by rw [hs22]; decide) (by rw [hs22]; decide) (by rw [hs22]; decide) (by decide) ?_
        exact law_22 (i := 6 * j) hst hO cx hX hZ hXs hbl hbA hL hx4 hi ⟨by show cells + 1 ≤ 601024; omega, by show slots + 6 ≤ 7293033; omega⟩ hw hS hl (I (j + 1)) (hok.2.2.2.2.2.2.2.2.2.2.2.2.2.2.2.2.2.2.2.2.2.2.1 j S hj2 hI xs (6 * j)) (fun S' H locs ls hI hw hS hl => hback S' H locs ls _ _ (by omega) (by omega) hI hw hS hl)
      by_cases hs23 : z = (23 : Int32)
      · refine lv_tableIn (off := 1503) (tgt := 1543) cx.1 cx.2.1 dL_law_40 (by rw [hs23]; decide) (by rw [hs23]; decide) (by rw [hs23]; decide) (by decide) ?_
        exact law_23 (i := 6 * j) hst hO cx hX hZ hXs hbl hbA hL hx4 hi ⟨by show cells + 1 ≤ 601024; omega, by show slots + 6 ≤ 7293033; omega⟩ hw hS hl (I (j + 1)) (hok.2.2.2.2.2.2.2.2.2.2.2.2.2.2.2.2.2.2.2.2.2.2.2.1 j S hj2 hI xs (6 * j)) (fun S' H locs ls hI hw hS hl => hback S' H locs ls _ _ (by omega) (by omega) hI hw hS hl)
      by_cases hs24 : z = (24 : Int32)
      · refine lv_tableIn (off := 1559) (tgt := 1599) cx.1 cx.2.1 dL_law_40 (by rw [hs24]; decide) (by rw [hs24]; decide) (by rw [hs24]; decide) (by decide) ?_
        exact law_24 (i := 6 * j) hst hO cx hX hZ hXs hbl hbA hL hx4 hi ⟨by show cells + 2 ≤ 601024; omega, by show slots + 12 ≤ 7293033; omega⟩ hw hS hl (I (j + 1)) (hok.2.2.2.2.2.2.2.2.2.2.2.2.2.2.2.2.2.2.2.2.2.2.2.2.1 j S hj2 hI xs (6 * j)) (fun S' H locs ls hI hw hS hl => hback S' H locs ls _ _ (by omega) (by omega) hI hw hS hl)
      by_cases hs25 : z = (25 : Int32)
      · refine lv_tableIn (off := 1659) (tgt := 1699) cx.1 cx.2.1 dL_law_40 (by rw [hs25]; decide) (by rw [hs25]; decide) (by rw [hs25]; decide) (by decide) ?_
        exact law_25 (i := 6 * j) hst hO cx hX hZ hXs hbl hbA hL hx4 hi ⟨by show cells + 1 ≤ 601024; omega, by show slots + 6 ≤ 7293033; omega⟩ hw hS hl (I (j + 1)) (hok.2.2.2.2.2.2.2.2.2.2.2.2.2.2.2.2.2.2.2.2.2.2.2.2.2.1 j S hj2 hI xs (6 * j)) (fun S' H locs ls hI hw hS hl => hback S' H locs ls _ _ (by omega) (by omega) hI hw hS hl)
      by_cases hs26 : z = (26 : Int32)
      · refine lv_tableIn (off := 1759) (tgt := 1799) cx.1 cx.2.1 dL_law_40 (by rw [hs26]; decide) (by rw [hs26]; decide) (by rw [hs26]; decide) (by decide) ?_
        exact law_26 (i := 6 * j) hst hO cx hX hZ hXs hbl hbA hL hx4 hi ⟨by show cells + 1 ≤ 601024; omega, by show slots + 6 ≤ 7293033; omega⟩ hw hS hl (I (j + 1)) (hok.2.2.2.2.2.2.2.2.2.2.2.2.2.2.2.2.2.2.2.2.2.2.2.2.2.2.1 j S hj2 hI xs (6 * j)) (fun S' H locs ls hI hw hS hl => hback S' H locs ls _ _ (by omega) (by omega) hI hw hS hl)
      by_cases hs27 : z = (27 : Int32)
      · refine lv_tableIn (off := 1815) (tgt := 1855) cx.1 cx.2.1 dL_law_40 (by rw [hs27]; decide) (by rw [hs27]; decide) (by rw [hs27]; decide) (by decide) ?_
        exact law_27 (i := 6 * j) hst hO cx hX hZ hXs hbl hbA hL hx4 hi ⟨by show cells + 2 ≤ 601024; omega, by show slots + 12 ≤ 7293033; omega⟩ hw hS hl (I (j + 1)) (hok.2.2.2.2.2.2.2.2.2.2.2.2.2.2.2.2.2.2.2.2.2.2.2.2.2.2.2 j S hj2 hI xs (6 * j)) (fun S' H locs ls hI hw hS hl => hback S' H locs ls _ _ (by omega) (by omega) hI hw hS hl)
      refine lv_tableOut (tgt := 1911) cx.1 cx.2.1 dL_law_40 (by have := sw_nek (k := 0) hs0 (by decide); have := sw_nek (k := 1) hs1 (by decide); have := sw_nek (k := 2) hs2 (by decide); have := sw_nek (k := 3) hs3 (by decide); have := sw_nek (k := 4) hs4 (by decide); have := sw_nek (k := 5) hs5 (by decide); have := sw_nek (k := 6) hs6 (by decide); have := sw_nek (k := 7) hs7 (by decide); have := sw_nek (k := 8) hs8 (by decide); have := sw_nek (k := 9) hs9 (by decide); have := sw_nek (k := 10) hs10 (by decide); have := sw_nek (k := 11) hs11 (by decide); have := sw_nek (k := 12) hs12 (by decide); have := sw_nek (k := 13) hs13 (by decide); have := sw_nek (k := 14) hs14 (by decide); have := sw_nek (k := 15) hs15 (by decide); have := sw_nek (k := 16) hs16 (by decide); have := sw_nek (k := 17) hs17 (by decide); have := sw_nek (k := 18) hs18 (by decide); have := sw_nek (k := 19) hs19 (by decide); have := sw_nek (k := 20) hs20 (by decide); have := sw_nek (k := 21) hs21 (by decide); have := sw_nek (k := 22) hs22 (by decide); have := sw_nek (k := 23) hs23 (by decide); have := sw_nek (k := 24) hs24 (by decide); have := sw_nek (k := 25) hs25 (by decide); have := sw_nek (k := 26) hs26 (by decide); have := sw_nek (k := 27) hs27 (by decide); omega) (by decide) ?_
      exact hback S H locs ls _ _ (by omega) (by omega) (hkeep j S hj2 hI) hw hS hl
