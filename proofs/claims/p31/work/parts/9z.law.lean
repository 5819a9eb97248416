set_option maxHeartbeats 8000000 in
set_option maxRecDepth 100000 in
theorem law_hB_347 {p : Program} {l : Launch} {e : Env} {s : State} {m : MethodId} {below : List Frame} {meth : Method} {c : Code} {Q : State → Prop} {G K : gG} {b L : Nat} {xs : Nat → Int32} (hst : l.stackTraces = false) (cx : gCx p s m c cL_law 9 RL G) (hE : E2X G K b L xs s) (hX : gX s) (hZ : gZ (gAr (gN2 G K) s.heap.size) s s.heap) (hL : L ≤ 260) {S' : At2} (hend : ∀ (H : Heap) (locs : List Loc) (ls : Array Slot) (cells slots : Nat), cells ≤ 641088 → slots ≤ 7178434 → va_S (gAr (gN2 G K) s.heap.size) s.heap H locs → W p l e room_1 s m #[Value.ref b] below meth c H locs cells slots Q (F0 m 348 ls [.int 1])) : ∀ (S : At2) (tk : Nat) (x3 : Int32) (H : Heap) (locs : List Loc) (ls : Array Slot) (cells slots : Nat), cells + (0 + 25279 * (6 - tk)) ≤ 641088 → slots + (0 + 151674 * (6 - tk)) ≤ 7178434 → gPB G K S H → va_S (gAr (gN2 G K) s.heap.size) s.heap H locs → lv_has ls 9 [(0, .ref b), (1, .ref (G.2.1 0)), (2, .ref (K.2.1 0)), (3, .int x3)] → B_law_347 xs L S tk x3 = some (1, S') → W p l e room_1 s m #[Value.ref b] below meth c H locs cells slots Q (F0 m 347 ls []) := by
  have hN := cx.2.2.2.2.hN
  intro S tk x3 H locs ls cells slots hcl hsl hw hS hl hf
  unfold B_law_347 at hf
  refine lv_iload_n cx.1 cx.2.1 dL_law_347 rfl (lv_at hl 3 rfl) ?_
  obtain ⟨hbo, hf⟩ := gck_some hf
  have hx1 := (Prod.mk.inj (Option.some.inj hf)).1
  refine W.eq (g2 := F0 m 348 ls [.int 1]) (by rw [hx1]) ?_
  exact hend _ _ _ _ _ (by omega) (by omega) hS
set_option maxHeartbeats 8000000 in
set_option maxRecDepth 100000 in
theorem law_hB_341 {p : Program} {l : Launch} {e : Env} {s : State} {m : MethodId} {below : List Frame} {meth : Method} {c : Code} {Q : State → Prop} {G K : gG} {b L : Nat} {xs : Nat → Int32} (hst : l.stackTraces = false) (cx : gCx p s m c cL_law 9 RL G) (hE : E2X G K b L xs s) (hX : gX s) (hZ : gZ (gAr (gN2 G K) s.heap.size) s s.heap) (hL : L ≤ 260) {S' : At2} (hend : ∀ (H : Heap) (locs : List Loc) (ls : Array Slot) (cells slots : Nat), cells ≤ 641088 → slots ≤ 7178434 → va_S (gAr (gN2 G K) s.heap.size) s.heap H locs → W p l e room_1 s m #[Value.ref b] below meth c H locs cells slots Q (F0 m 348 ls [.int 1])) : ∀ (K85 : At2 → Nat → Int32 → Int32 → Option (Int32 × At2)) (n_85 : Nat) (hK85 : ∀ (S : At2) (tk : Nat) (x3 : Int32) (x4 : Int32) (H : Heap) (locs : List Loc) (ls : Array Slot) (cells slots : Nat), cells + (0 + 40198 * n_85 + 25279 * (6 - tk)) ≤ 641088 → slots + (0 + 241188 * n_85 + 151674 * (6 - tk)) ≤ 7178434 → gPB G K S H → va_S (gAr (gN2 G K) s.heap.size) s.heap H locs → lv_has ls 9 [(0, .ref b), (1, .ref (G.2.1 0)), (2, .ref (K.2.1 0)), (3, .int x3), (4, .int x4)] → K85 S tk x3 x4 = some (1, S') → W p l e room_1 s m #[Value.ref b] below meth c H locs cells slots Q (F0 m 85 ls [])), ∀ (S : At2) (tk : Nat) (x3 : Int32) (x4 : Int32) (H : Heap) (locs : List Loc) (ls : Array Slot) (cells slots : Nat), cells + (0 + 40198 * n_85 + 25279 * (6 - tk)) ≤ 641088 → slots + (0 + 241188 * n_85 + 151674 * (6 - tk)) ≤ 7178434 → gPB G K S H → va_S (gAr (gN2 G K) s.heap.size) s.heap H locs → lv_has ls 9 [(0, .ref b), (1, .ref (G.2.1 0)), (2, .ref (K.2.1 0)), (3, .int x3), (4, .int x4)] → B_law_341 xs L K85 S tk x3 x4 = some (1, S') → W p l e room_1 s m #[Value.ref b] below meth c H locs cells slots Q (F0 m 341 ls []) := by
  have hN := cx.2.2.2.2.hN
  intro K85 n_85 hK85 S tk x3 x4 H locs ls cells slots hcl hsl hw hS hl hf
  unfold B_law_341 at hf
  obtain ⟨x4_1, ex4_1, hf⟩ := gvi_ex hf
  refine lv_iinc (v := x4_1) (lv' := [(4, .int x4_1), (0, .ref b), (1, .ref (G.2.1 0)), (2, .ref (K.2.1 0)), (3, .int x3)]) cx.1 cx.2.1 dL_law_341 hl (k := 4) rfl (by rw [← ex4_1]; rfl) (by decide) rfl (fun ls hl => ?_)
  refine lv_goto (tgt := 85) cx.1 cx.2.1 dL_law_344 (by decide) ?_
  exact hK85 S tk x3 x4_1 _ _ _ _ _ (by omega) (by omega) hw hS (lv_sub hl [1, 2, 3, 4, 0] rfl) hf
set_option maxHeartbeats 8000000 in
set_option maxRecDepth 100000 in
theorem law_hB_335 {p : Program} {l : Launch} {e : Env} {s : State} {m : MethodId} {below : List Frame} {meth : Method} {c : Code} {Q : State → Prop} {G K : gG} {b L : Nat} {xs : Nat → Int32} (hst : l.stackTraces = false) (cx : gCx p s m c cL_law 9 RL G) (hE : E2X G K b L xs s) (hX : gX s) (hZ : gZ (gAr (gN2 G K) s.heap.size) s s.heap) (hL : L ≤ 260) {S' : At2} (hend : ∀ (H : Heap) (locs : List Loc) (ls : Array Slot) (cells slots : Nat), cells ≤ 641088 → slots ≤ 7178434 → va_S (gAr (gN2 G K) s.heap.size) s.heap H locs → W p l e room_1 s m #[Value.ref b] below meth c H locs cells slots Q (F0 m 348 ls [.int 1])) : ∀ (K85 : At2 → Nat → Int32 → Int32 → Option (Int32 × At2)) (n_85 : Nat) (hK85 : ∀ (S : At2) (tk : Nat) (x3 : Int32) (x4 : Int32) (H : Heap) (locs : List Loc) (ls : Array Slot) (cells slots : Nat), cells + (0 + 40198 * n_85 + 25279 * (6 - tk)) ≤ 641088 → slots + (0 + 241188 * n_85 + 151674 * (6 - tk)) ≤ 7178434 → gPB G K S H → va_S (gAr (gN2 G K) s.heap.size) s.heap H locs → lv_has ls 9 [(0, .ref b), (1, .ref (G.2.1 0)), (2, .ref (K.2.1 0)), (3, .int x3), (4, .int x4)] → K85 S tk x3 x4 = some (1, S') → W p l e room_1 s m #[Value.ref b] below meth c H locs cells slots Q (F0 m 85 ls [])) (K140 : At2 → Nat → Int32 → Int32 → Int32 → Option (Int32 × At2)) (n_140 : Nat) (hK140 : ∀ (S : At2) (tk : Nat) (x3 : Int32) (x4 : Int32) (x5 : Int32) (H : Heap) (locs : List Loc) (ls : Array Slot) (cells slots : Nat), cells + (0 + 2345 * n_140 + 40198 * n_85 + 25279 * (6 - tk)) ≤ 641088 → slots + (0 + 14070 * n_140 + 241188 * n_85 + 151674 * (6 - tk)) ≤ 7178434 → gPB G K S H → va_S (gAr (gN2 G K) s.heap.size) s.heap H locs → lv_has ls 9 [(0, .ref b), (1, .ref (G.2.1 0)), (2, .ref (K.2.1 0)), (3, .int x3), (4, .int x4), (5, .int x5)] → K140 S tk x3 x4 x5 = some (1, S') → W p l e room_1 s m #[Value.ref b] below meth c H locs cells slots Q (F0 m 140 ls [])), ∀ (S : At2) (tk : Nat) (x3 : Int32) (x4 : Int32) (x5 : Int32) (H : Heap) (locs : List Loc) (ls : Array Slot) (cells slots : Nat), cells + (0 + 40198 * n_85 + 2345 * n_140 + 25279 * (6 - tk)) ≤ 641088 → slots + (0 + 241188 * n_85 + 14070 * n_140 + 151674 * (6 - tk)) ≤ 7178434 → gPB G K S H → va_S (gAr (gN2 G K) s.heap.size) s.heap H locs → lv_has ls 9 [(0, .ref b), (1, .ref (G.2.1 0)), (2, .ref (K.2.1 0)), (3, .int x3), (4, .int x4), (5, .int x5)] → B_law_335 xs L K85 K140 S tk x3 x4 x5 = some (1, S') → W p l e room_1 s m #[Value.ref b] below meth c H locs cells slots Q (F0 m 335 ls []) := by
  have hN := cx.2.2.2.2.hN
  intro K85 n_85 hK85 K140 n_140 hK140 S tk x3 x4 x5 H locs ls cells slots hcl hsl hw hS hl hf
  unfold B_law_335 at hf
  obtain ⟨x5_2, ex5_2, hf⟩ := gvi_ex hf
  refine lv_iinc (v := x5_2) (lv' := [(5, .int x5_2), (0, .ref b), (1, .ref (G.2.1 0)), (2, .ref (K.2.1 0)), (3, .int x3), (4, .int x4)]) cx.1 cx.2.1 dL_law_335 hl (k := 5) rfl (by rw [← ex5_2]; rfl) (by decide) rfl (fun ls hl => ?_)
  refine lv_goto (tgt := 140) cx.1 cx.2.1 dL_law_338 (by decide) ?_
  exact hK140 S tk x3 x4 x5_2 _ _ _ _ _ (by omega) (by omega) hw hS (lv_sub hl [1, 2, 3, 4, 5, 0] rfl) hf
set_option maxHeartbeats 8000000 in
set_option maxRecDepth 100000 in
theorem law_hB_334 {p : Program} {l : Launch} {e : Env} {s : State} {m : MethodId} {below : List Frame} {meth : Method} {c : Code} {Q : State → Prop} {G K : gG} {b L : Nat} {xs : Nat → Int32} (hst : l.stackTraces = false) (cx : gCx p s m c cL_law 9 RL G) (hE : E2X G K b L xs s) (hX : gX s) (hZ : gZ (gAr (gN2 G K) s.heap.size) s s.heap) (hL : L ≤ 260) {S' : At2} (hend : ∀ (H : Heap) (locs : List Loc) (ls : Array Slot) (cells slots : Nat), cells ≤ 641088 → slots ≤ 7178434 → va_S (gAr (gN2 G K) s.heap.size) s.heap H locs → W p l e room_1 s m #[Value.ref b] below meth c H locs cells slots Q (F0 m 348 ls [.int 1])) : ∀ (K85 : At2 → Nat → Int32 → Int32 → Option (Int32 × At2)) (n_85 : Nat) (hK85 : ∀ (S : At2) (tk : Nat) (x3 : Int32) (x4 : Int32) (H : Heap) (locs : List Loc) (ls : Array Slot) (cells slots : Nat), cells + (0 + 40198 * n_85 + 25279 * (6 - tk)) ≤ 641088 → slots + (0 + 241188 * n_85 + 151674 * (6 - tk)) ≤ 7178434 → gPB G K S H → va_S (gAr (gN2 G K) s.heap.size) s.heap H locs → lv_has ls 9 [(0, .ref b), (1, .ref (G.2.1 0)), (2, .ref (K.2.1 0)), (3, .int x3), (4, .int x4)] → K85 S tk x3 x4 = some (1, S') → W p l e room_1 s m #[Value.ref b] below meth c H locs cells slots Q (F0 m 85 ls [])) (K140 : At2 → Nat → Int32 → Int32 → Int32 → Option (Int32 × At2)) (n_140 : Nat) (hK140 : ∀ (S : At2) (tk : Nat) (x3 : Int32) (x4 : Int32) (x5 : Int32) (H : Heap) (locs : List Loc) (ls : Array Slot) (cells slots : Nat), cells + (0 + 2345 * n_140 + 40198 * n_85 + 25279 * (6 - tk)) ≤ 641088 → slots + (0 + 14070 * n_140 + 241188 * n_85 + 151674 * (6 - tk)) ≤ 7178434 → gPB G K S H → va_S (gAr (gN2 G K) s.heap.size) s.heap H locs → lv_has ls 9 [(0, .ref b), (1, .ref (G.2.1 0)), (2, .ref (K.2.1 0)), (3, .int x3), (4, .int x4), (5, .int x5)] → K140 S tk x3 x4 x5 = some (1, S') → W p l e room_1 s m #[Value.ref b] below meth c H locs cells slots Q (F0 m 140 ls [])), ∀ (S : At2) (tk : Nat) (x4 : Int32) (x5 : Int32) (t0 : Int32) (H : Heap) (locs : List Loc) (ls : Array Slot) (cells slots : Nat), cells + (0 + 40198 * n_85 + 2345 * n_140 + 25279 * (6 - tk)) ≤ 641088 → slots + (0 + 241188 * n_85 + 14070 * n_140 + 151674 * (6 - tk)) ≤ 7178434 → gPB G K S H → va_S (gAr (gN2 G K) s.heap.size) s.heap H locs → lv_has ls 9 [(0, .ref b), (1, .ref (G.2.1 0)), (2, .ref (K.2.1 0)), (4, .int x4), (5, .int x5)] → B_law_334 xs L K85 K140 S tk x4 x5 t0 = some (1, S') → W p l e room_1 s m #[Value.ref b] below meth c H locs cells slots Q (F0 m 334 ls [.int t0]) := by
  have hN := cx.2.2.2.2.hN
  have hB_335 := law_hB_335 hst cx hE hX hZ hL (S' := S') hend
  intro K85 n_85 hK85 K140 n_140 hK140 S tk x4 x5 t0 H locs ls cells slots hcl hsl hw hS hl hf
  unfold B_law_334 at hf
  refine lv_istore_n (lv' := [(3, .int t0), (0, .ref b), (1, .ref (G.2.1 0)), (2, .ref (K.2.1 0)), (4, .int x4), (5, .int x5)]) cx.1 cx.2.1 dL_law_334 rfl hl (by decide) rfl (fun ls hl => ?_)
  exact hB_335 K85 n_85 hK85 K140 n_140 hK140 S tk t0 x4 x5 _ _ _ _ _ (by omega) (by omega) hw hS (lv_sub hl [1, 2, 3, 0, 4, 5] rfl) hf
set_option maxHeartbeats 8000000 in
set_option maxRecDepth 100000 in
theorem law_hB_333 {p : Program} {l : Launch} {e : Env} {s : State} {m : MethodId} {below : List Frame} {meth : Method} {c : Code} {Q : State → Prop} {G K : gG} {b L : Nat} {xs : Nat → Int32} (hst : l.stackTraces = false) (cx : gCx p s m c cL_law 9 RL G) (hE : E2X G K b L xs s) (hX : gX s) (hZ : gZ (gAr (gN2 G K) s.heap.size) s s.heap) (hL : L ≤ 260) {S' : At2} (hend : ∀ (H : Heap) (locs : List Loc) (ls : Array Slot) (cells slots : Nat), cells ≤ 641088 → slots ≤ 7178434 → va_S (gAr (gN2 G K) s.heap.size) s.heap H locs → W p l e room_1 s m #[Value.ref b] below meth c H locs cells slots Q (F0 m 348 ls [.int 1])) : ∀ (K85 : At2 → Nat → Int32 → Int32 → Option (Int32 × At2)) (n_85 : Nat) (hK85 : ∀ (S : At2) (tk : Nat) (x3 : Int32) (x4 : Int32) (H : Heap) (locs : List Loc) (ls : Array Slot) (cells slots : Nat), cells + (0 + 40198 * n_85 + 25279 * (6 - tk)) ≤ 641088 → slots + (0 + 241188 * n_85 + 151674 * (6 - tk)) ≤ 7178434 → gPB G K S H → va_S (gAr (gN2 G K) s.heap.size) s.heap H locs → lv_has ls 9 [(0, .ref b), (1, .ref (G.2.1 0)), (2, .ref (K.2.1 0)), (3, .int x3), (4, .int x4)] → K85 S tk x3 x4 = some (1, S') → W p l e room_1 s m #[Value.ref b] below meth c H locs cells slots Q (F0 m 85 ls [])) (K140 : At2 → Nat → Int32 → Int32 → Int32 → Option (Int32 × At2)) (n_140 : Nat) (hK140 : ∀ (S : At2) (tk : Nat) (x3 : Int32) (x4 : Int32) (x5 : Int32) (H : Heap) (locs : List Loc) (ls : Array Slot) (cells slots : Nat), cells + (0 + 2345 * n_140 + 40198 * n_85 + 25279 * (6 - tk)) ≤ 641088 → slots + (0 + 14070 * n_140 + 241188 * n_85 + 151674 * (6 - tk)) ≤ 7178434 → gPB G K S H → va_S (gAr (gN2 G K) s.heap.size) s.heap H locs → lv_has ls 9 [(0, .ref b), (1, .ref (G.2.1 0)), (2, .ref (K.2.1 0)), (3, .int x3), (4, .int x4), (5, .int x5)] → K140 S tk x3 x4 x5 = some (1, S') → W p l e room_1 s m #[Value.ref b] below meth c H locs cells slots Q (F0 m 140 ls [])), ∀ (S : At2) (tk : Nat) (x4 : Int32) (x5 : Int32) (H : Heap) (locs : List Loc) (ls : Array Slot) (cells slots : Nat), cells + (0 + 40198 * n_85 + 2345 * n_140 + 25279 * (6 - tk)) ≤ 641088 → slots + (0 + 241188 * n_85 + 14070 * n_140 + 151674 * (6 - tk)) ≤ 7178434 → gPB G K S H → va_S (gAr (gN2 G K) s.heap.size) s.heap H locs → lv_has ls 9 [(0, .ref b), (1, .ref (G.2.1 0)), (2, .ref (K.2.1 0)), (4, .int x4), (5, .int x5)] → B_law_333 xs L K85 K140 S tk x4 x5 = some (1, S') → W p l e room_1 s m #[Value.ref b] below meth c H locs cells slots Q (F0 m 333 ls []) := by
  have hN := cx.2.2.2.2.hN
  have hB_334 := law_hB_334 hst cx hE hX hZ hL (S' := S') hend
  intro K85 n_85 hK85 K140 n_140 hK140 S tk x4 x5 H locs ls cells slots hcl hsl hw hS hl hf
  unfold B_law_333 at hf
  refine lv_iconst (v := (0 : Int32)) cx.1 cx.2.1 dL_law_333 (by decide) ?_
  exact hB_334 K85 n_85 hK85 K140 n_140 hK140 S tk x4 x5 (0 : Int32) _ _ _ _ _ (by omega) (by omega) hw hS (lv_sub hl [0, 1, 2, 3, 4] rfl) hf
set_option maxHeartbeats 8000000 in
set_option maxRecDepth 100000 in
theorem law_hB_234 {p : Program} {l : Launch} {e : Env} {s : State} {m : MethodId} {below : List Frame} {meth : Method} {c : Code} {Q : State → Prop} {G K : gG} {b L : Nat} {xs : Nat → Int32} (hst : l.stackTraces = false) (cx : gCx p s m c cL_law 9 RL G) (hE : E2X G K b L xs s) (hX : gX s) (hZ : gZ (gAr (gN2 G K) s.heap.size) s s.heap) (hL : L ≤ 260) {S' : At2} (hend : ∀ (H : Heap) (locs : List Loc) (ls : Array Slot) (cells slots : Nat), cells ≤ 641088 → slots ≤ 7178434 → va_S (gAr (gN2 G K) s.heap.size) s.heap H locs → W p l e room_1 s m #[Value.ref b] below meth c H locs cells slots Q (F0 m 348 ls [.int 1])) : ∀ (K85 : At2 → Nat → Int32 → Int32 → Option (Int32 × At2)) (n_85 : Nat) (hK85 : ∀ (S : At2) (tk : Nat) (x3 : Int32) (x4 : Int32) (H : Heap) (locs : List Loc) (ls : Array Slot) (cells slots : Nat), cells + (0 + 40198 * n_85 + 25279 * (6 - tk)) ≤ 641088 → slots + (0 + 241188 * n_85 + 151674 * (6 - tk)) ≤ 7178434 → gPB G K S H → va_S (gAr (gN2 G K) s.heap.size) s.heap H locs → lv_has ls 9 [(0, .ref b), (1, .ref (G.2.1 0)), (2, .ref (K.2.1 0)), (3, .int x3), (4, .int x4)] → K85 S tk x3 x4 = some (1, S') → W p l e room_1 s m #[Value.ref b] below meth c H locs cells slots Q (F0 m 85 ls [])) (K140 : At2 → Nat → Int32 → Int32 → Int32 → Option (Int32 × At2)) (n_140 : Nat) (hK140 : ∀ (S : At2) (tk : Nat) (x3 : Int32) (x4 : Int32) (x5 : Int32) (H : Heap) (locs : List Loc) (ls : Array Slot) (cells slots : Nat), cells + (0 + 2345 * n_140 + 40198 * n_85 + 25279 * (6 - tk)) ≤ 641088 → slots + (0 + 14070 * n_140 + 241188 * n_85 + 151674 * (6 - tk)) ≤ 7178434 → gPB G K S H → va_S (gAr (gN2 G K) s.heap.size) s.heap H locs → lv_has ls 9 [(0, .ref b), (1, .ref (G.2.1 0)), (2, .ref (K.2.1 0)), (3, .int x3), (4, .int x4), (5, .int x5)] → K140 S tk x3 x4 x5 = some (1, S') → W p l e room_1 s m #[Value.ref b] below meth c H locs cells slots Q (F0 m 140 ls [])), ∀ (S : At2) (tk : Nat) (x4 : Int32) (x5 : Int32) (x6 : Int32) (x7 : Int32) (t0 : Int32) (H : Heap) (locs : List Loc) (ls : Array Slot) (cells slots : Nat), cells + (0 + 40198 * n_85 + 2345 * n_140 + 25279 * (6 - tk)) ≤ 641088 → slots + (0 + 241188 * n_85 + 14070 * n_140 + 151674 * (6 - tk)) ≤ 7178434 → gPB G K S H → va_S (gAr (gN2 G K) s.heap.size) s.heap H locs → lv_has ls 9 [(0, .ref b), (1, .ref (G.2.1 0)), (2, .ref (K.2.1 0)), (4, .int x4), (5, .int x5), (6, .int x6), (7, .int x7)] → B_law_234 xs L K85 K140 S tk x4 x5 x6 x7 t0 = some (1, S') → W p l e room_1 s m #[Value.ref b] below meth c H locs cells slots Q (F0 m 234 ls [.int t0]) := by
  have hN := cx.2.2.2.2.hN
  have hB_335 := law_hB_335 hst cx hE hX hZ hL (S' := S') hend
  have hB_334 := law_hB_334 hst cx hE hX hZ hL (S' := S') hend
  have hB_333 := law_hB_333 hst cx hE hX hZ hL (S' := S') hend
  intro K85 n_85 hK85 K140 n_140 hK140 S tk x4 x5 x6 x7 t0 H locs ls cells slots hcl hsl hw hS hl hf
  unfold B_law_234 at hf
  refine lv_istore_n (lv' := [(3, .int t0), (0, .ref b), (1, .ref (G.2.1 0)), (2, .ref (K.2.1 0)), (4, .int x4), (5, .int x5), (6, .int x6), (7, .int x7)]) cx.1 cx.2.1 dL_law_234 rfl hl (by decide) rfl (fun ls hl => ?_)
  refine lv_iload cx.1 cx.2.1 dL_law_235 (lv_at hl 5 rfl) ?_
  refine lv_iconst (v := (4 : Int32)) cx.1 cx.2.1 dL_law_237 (by decide) ?_
  refine lv_irem cx.1 cx.2.1 dL_law_238 (by decide) ?_
  refine lv_iconst (v := (3 : Int32)) cx.1 cx.2.1 dL_law_239 (by decide) ?_
  refine lv_icmp_ne (tgt := 335) cx.1 cx.2.1 dL_law_240 (by decide) (fun hc => ?_) (fun hc => ?_)
  · rw [if_neg hc] at hf
    exact hB_335 K85 n_85 hK85 K140 n_140 hK140 S tk t0 x4 x5 _ _ _ _ _ (by omega) (by omega) hw hS (lv_sub hl [1, 2, 3, 0, 4, 5] rfl) hf
  · rw [if_pos hc] at hf
    refine lv_iload_n cx.1 cx.2.1 dL_law_243 rfl (lv_at hl 0 rfl) ?_
    refine lv_if_eq (tgt := 335) cx.1 cx.2.1 dL_law_244 (by decide) (fun hc => ?_) (fun hc => ?_)
    · rw [if_pos hc] at hf
      exact hB_335 K85 n_85 hK85 K140 n_140 hK140 S tk t0 x4 x5 _ _ _ _ _ (by omega) (by omega) hw hS (lv_sub hl [1, 2, 3, 0, 4, 5] rfl) hf
    · rw [if_neg hc] at hf
      obtain ⟨htk, hf⟩ := gck_some hf
      have htk := of_decide_eq_true htk
      refine lv_aload_n cx.1 cx.2.1 dL_law_247 rfl (lv_at hl 2 rfl) ?_
      refine lv_iconst (v := (4 : Int32)) cx.1 cx.2.1 dL_law_248 (by decide) ?_
      obtain ⟨v_3, S_4, hv, hf⟩ := gbs_some hf
      refine b1_SW (As := [.ref (G.2.1 0), .int (4 : Int32)]) (rest := []) cx hE.1 hX hZ hw hS hv (fun t ht => a_tryAbout l hst G (4 : Int32) S.1 v_3 t ht) gw_185 gw_187 gyw_L_tryAbout ⟨by decide, by decide⟩ ⟨Nat.le_of_ble_eq_true rfl, Nat.le_of_ble_eq_true rfl⟩ (show cells + 1 ≤ 641088 ∧ slots + 6 ≤ 7178434 from ⟨by omega, by omega⟩) rfl hl.1 rfl (Nat.le_of_ble_eq_true rfl) dL_law_249 (fun H locs hw hS => ?_)
      refine W.eq (g2 := F0 m 252 ls [.int v_3]) rfl ?_
      refine lv_istore (lv' := [(8, .int v_3), (3, .int t0), (0, .ref b), (1, .ref (G.2.1 0)), (2, .ref (K.2.1 0)), (4, .int x4), (5, .int x5), (6, .int x6), (7, .int x7)]) cx.1 cx.2.1 dL_law_252 hl (by decide) rfl (fun ls hl => ?_)
      refine lv_aload_n cx.1 cx.2.1 dL_law_254 rfl (lv_at hl 3 rfl) ?_
      refine lv_iload cx.1 cx.2.1 dL_law_255 (lv_at hl 7 rfl) ?_
      obtain ⟨v_5, S_6, hv, hf⟩ := gbs_some hf
      refine b1_S (As := [.ref (G.2.1 0), .int x6]) (rest := []) cx hE.1 hX hZ hw hS hv (fun t ht => a_scripts l hst G x6 S_4.1 v_5 t ht) gw_871 gyl_L_scripts gil_L_scripts ⟨Nat.le_of_ble_eq_true rfl, Nat.le_of_ble_eq_true rfl⟩ (show cells + 1 + 45 ≤ 641088 ∧ slots + 6 + 270 ≤ 7178434 from ⟨by omega, by omega⟩) rfl hl.1 rfl (Nat.le_of_ble_eq_true rfl) dL_law_257 (fun H locs hw hS => ?_)
      refine W.eq (g2 := F0 m 260 ls [.int v_5]) rfl ?_
      refine lv_if_eq (tgt := 333) cx.1 cx.2.1 dL_law_260 (by decide) (fun hc => ?_) (fun hc => ?_)
      · rw [if_pos hc] at hf
        exact hB_333 K85 n_85 hK85 K140 n_140 hK140 S_6 (tk + 1) x4 x5 _ _ _ _ _ (by omega) (by omega) hw hS (lv_sub hl [2, 3, 4, 5, 6] rfl) hf
      · rw [if_neg hc] at hf
        refine lv_aload_n cx.1 cx.2.1 dL_law_263 rfl (lv_at hl 4 rfl) ?_
        refine lv_iconst (v := (0 : Int32)) cx.1 cx.2.1 dL_law_264 (by decide) ?_
        obtain ⟨v_7, S_8, hv, hf⟩ := gbs_some hf
        refine b2_SW (As := [.ref (K.2.1 0), .int (0 : Int32)]) (rest := []) cx hE.1 hX hZ hw hS hv (fun t ht => a_trySave l hst K (0 : Int32) S_6.2 v_7 t ht) gw_774 gw_187 gyw_L_trySave ⟨by decide, by decide⟩ ⟨Nat.le_of_ble_eq_true rfl, Nat.le_of_ble_eq_true rfl⟩ (show cells + 1 + 45 + 1 ≤ 641088 ∧ slots + 6 + 270 + 6 ≤ 7178434 from ⟨by omega, by omega⟩) rfl hl.1 rfl (Nat.le_of_ble_eq_true rfl) dL_law_265 (fun H locs hw hS => ?_)
        refine W.eq (g2 := F0 m 268 ls [.int v_7]) rfl ?_
        refine lv_iload cx.1 cx.2.1 dL_law_268 (lv_at hl 0 rfl) ?_
        refine lv_icmp_ne (tgt := 333) cx.1 cx.2.1 dL_law_270 (by decide) (fun hc => ?_) (fun hc => ?_)
        · rw [if_neg hc] at hf
          exact hB_333 K85 n_85 hK85 K140 n_140 hK140 S_8 (tk + 1) x4 x5 _ _ _ _ _ (by omega) (by omega) hw hS (lv_sub hl [2, 3, 4, 5, 6] rfl) hf
        · rw [if_pos hc] at hf
          refine lv_aload_n cx.1 cx.2.1 dL_law_273 rfl (lv_at hl 3 rfl) ?_
          refine lv_iconst (v := (0 : Int32)) cx.1 cx.2.1 dL_law_274 (by decide) ?_
          obtain ⟨v_9, S_10, hv, hf⟩ := gbs_some hf
          refine b1_SW (As := [.ref (G.2.1 0), .int (0 : Int32)]) (rest := []) cx hE.1 hX hZ hw hS hv (fun t ht => a_trySave l hst G (0 : Int32) S_8.1 v_9 t ht) gw_774 gw_187 gyw_L_trySave ⟨by decide, by decide⟩ ⟨Nat.le_of_ble_eq_true rfl, Nat.le_of_ble_eq_true rfl⟩ (show cells + 1 + 45 + 1 + 1 ≤ 641088 ∧ slots + 6 + 270 + 6 + 6 ≤ 7178434 from ⟨by omega, by omega⟩) rfl hl.1 rfl (Nat.le_of_ble_eq_true rfl) dL_law_275 (fun H locs hw hS => ?_)
          refine W.eq (g2 := F0 m 278 ls [.int v_9]) rfl ?_
          refine lv_iload cx.1 cx.2.1 dL_law_278 (lv_at hl 0 rfl) ?_
          refine lv_icmp_ne (tgt := 333) cx.1 cx.2.1 dL_law_280 (by decide) (fun hc => ?_) (fun hc => ?_)
          · rw [if_neg hc] at hf
            exact hB_333 K85 n_85 hK85 K140 n_140 hK140 S_10 (tk + 1) x4 x5 _ _ _ _ _ (by omega) (by omega) hw hS (lv_sub hl [2, 3, 4, 5, 6] rfl) hf
          · rw [if_pos hc] at hf
            refine lv_aload_n cx.1 cx.2.1 dL_law_283 rfl (lv_at hl 3 rfl) ?_
            refine lv_iconst (v := (0 : Int32)) cx.1 cx.2.1 dL_law_284 (by decide) ?_
            obtain ⟨v_11, S_12, hv, hf⟩ := gbs_some hf
            refine b1_SW (As := [.ref (G.2.1 0), .int (0 : Int32)]) (rest := []) cx hE.1 hX hZ hw hS hv (fun t ht => a_tryRestore l hst G (0 : Int32) S_10.1 v_11 t ht) gw_792 gw_187 gyw_L_tryRestore ⟨by decide, by decide⟩ ⟨Nat.le_of_ble_eq_true rfl, Nat.le_of_ble_eq_true rfl⟩ (show cells + 1 + 45 + 1 + 1 + 2 ≤ 641088 ∧ slots + 6 + 270 + 6 + 6 + 12 ≤ 7178434 from ⟨by omega, by omega⟩) rfl hl.1 rfl (Nat.le_of_ble_eq_true rfl) dL_law_285 (fun H locs hw hS => ?_)
            refine W.eq (g2 := F0 m 288 ls [.int v_11]) rfl ?_
            refine lv_iload cx.1 cx.2.1 dL_law_288 (lv_at hl 0 rfl) ?_
            refine lv_icmp_ne (tgt := 333) cx.1 cx.2.1 dL_law_290 (by decide) (fun hc => ?_) (fun hc => ?_)
            · rw [if_neg hc] at hf
              exact hB_333 K85 n_85 hK85 K140 n_140 hK140 S_12 (tk + 1) x4 x5 _ _ _ _ _ (by omega) (by omega) hw hS (lv_sub hl [2, 3, 4, 5, 6] rfl) hf
            · rw [if_pos hc] at hf
              refine lv_aload_n cx.1 cx.2.1 dL_law_293 rfl (lv_at hl 3 rfl) ?_
              refine lv_iload cx.1 cx.2.1 dL_law_294 (lv_at hl 8 rfl) ?_
              obtain ⟨v_13, S_14, hv, hf⟩ := gbs_some hf
              refine b1_S (As := [.ref (G.2.1 0), .int x7]) (rest := []) cx hE.1 hX hZ hw hS hv (fun t ht => a_hands l hst G x7 S_12.1 v_13 t ht) gw_892 gyl_L_hands gil_L_hands ⟨Nat.le_of_ble_eq_true rfl, Nat.le_of_ble_eq_true rfl⟩ (show cells + 1 + 45 + 1 + 1 + 2 + 24340 ≤ 641088 ∧ slots + 6 + 270 + 6 + 6 + 12 + 146040 ≤ 7178434 from ⟨by omega, by omega⟩) rfl hl.1 rfl (Nat.le_of_ble_eq_true rfl) dL_law_296 (fun H locs hw hS => ?_)
              refine W.eq (g2 := F0 m 299 ls [.int v_13]) rfl ?_
              refine lv_if_eq (tgt := 333) cx.1 cx.2.1 dL_law_299 (by decide) (fun hc => ?_) (fun hc => ?_)
              · rw [if_pos hc] at hf
                exact hB_333 K85 n_85 hK85 K140 n_140 hK140 S_14 (tk + 1) x4 x5 _ _ _ _ _ (by omega) (by omega) hw hS (lv_sub hl [2, 3, 4, 5, 6] rfl) hf
              · rw [if_neg hc] at hf
                refine lv_aload_n cx.1 cx.2.1 dL_law_302 rfl (lv_at hl 4 rfl) ?_
                refine lv_iconst (v := (0 : Int32)) cx.1 cx.2.1 dL_law_303 (by decide) ?_
                obtain ⟨v_15, S_16, hv, hf⟩ := gbs_some hf
                refine b2_SW (As := [.ref (K.2.1 0), .int (0 : Int32)]) (rest := []) cx hE.1 hX hZ hw hS hv (fun t ht => a_tryRestore l hst K (0 : Int32) S_14.2 v_15 t ht) gw_792 gw_187 gyw_L_tryRestore ⟨by decide, by decide⟩ ⟨Nat.le_of_ble_eq_true rfl, Nat.le_of_ble_eq_true rfl⟩ (show cells + 1 + 45 + 1 + 1 + 2 + 24340 + 2 ≤ 641088 ∧ slots + 6 + 270 + 6 + 6 + 12 + 146040 + 12 ≤ 7178434 from ⟨by omega, by omega⟩) rfl hl.1 rfl (Nat.le_of_ble_eq_true rfl) dL_law_304 (fun H locs hw hS => ?_)
                refine W.eq (g2 := F0 m 307 ls [.int v_15]) rfl ?_
                refine lv_iload cx.1 cx.2.1 dL_law_307 (lv_at hl 0 rfl) ?_
                refine lv_icmp_ne (tgt := 333) cx.1 cx.2.1 dL_law_309 (by decide) (fun hc => ?_) (fun hc => ?_)
                · rw [if_neg hc] at hf
                  exact hB_333 K85 n_85 hK85 K140 n_140 hK140 S_16 (tk + 1) x4 x5 _ _ _ _ _ (by omega) (by omega) hw hS (lv_sub hl [2, 3, 4, 5, 6] rfl) hf
                · rw [if_pos hc] at hf
                  refine lv_aload_n cx.1 cx.2.1 dL_law_312 rfl (lv_at hl 3 rfl) ?_
                  obtain ⟨v_17, S_18, hv, hf⟩ := gbs_some hf
                  refine b1_SW (As := [.ref (G.2.1 0)]) (rest := []) cx hE.1 hX hZ hw hS hv (fun t ht => a_tryUndo l hst G S_16.1 v_17 t ht) gw_294 gw_187 gyw_L_tryUndo ⟨by decide, by decide⟩ ⟨Nat.le_of_ble_eq_true rfl, Nat.le_of_ble_eq_true rfl⟩ (show cells + 1 + 45 + 1 + 1 + 2 + 24340 + 2 + 1 ≤ 641088 ∧ slots + 6 + 270 + 6 + 6 + 12 + 146040 + 12 + 6 ≤ 7178434 from ⟨by omega, by omega⟩) rfl hl.1 rfl (Nat.le_of_ble_eq_true rfl) dL_law_313 (fun H locs hw hS => ?_)
                  refine W.eq (g2 := F0 m 316 ls [.int v_17]) rfl ?_
                  refine lv_ldc cx.1 cx.2.1 cx.2.2.2.1 (cx.2.2.2.2.ts _ gw_3) dL_law_316 ?_
                  refine lv_icmp_ne (tgt := 333) cx.1 cx.2.1 dL_law_318 (by decide) (fun hc => ?_) (fun hc => ?_)
                  · rw [if_neg hc] at hf
                    exact hB_333 K85 n_85 hK85 K140 n_140 hK140 S_18 (tk + 1) x4 x5 _ _ _ _ _ (by omega) (by omega) hw hS (lv_sub hl [2, 3, 4, 5, 6] rfl) hf
                  · rw [if_pos hc] at hf
                    refine lv_aload_n cx.1 cx.2.1 dL_law_321 rfl (lv_at hl 3 rfl) ?_
                    refine lv_aload_n cx.1 cx.2.1 dL_law_322 rfl (lv_at hl 4 rfl) ?_
                    obtain ⟨v_19, S_20, hv, hf⟩ := gbs_some hf
                    refine b_S (As := [.ref (G.2.1 0), .ref (K.2.1 0)]) (rest := []) cx hE.1 hX hZ hw hS (a_alike l hst G K S_18 v_19 S_20 hv) gw_827 gyl_L_alike gil_L_alike ⟨Nat.le_of_ble_eq_true rfl, Nat.le_of_ble_eq_true rfl⟩ (show cells + 1 + 45 + 1 + 1 + 2 + 24340 + 2 + 1 + 886 ≤ 641088 ∧ slots + 6 + 270 + 6 + 6 + 12 + 146040 + 12 + 6 + 5316 ≤ 7178434 from ⟨by omega, by omega⟩) rfl hl.1 rfl (Nat.le_of_ble_eq_true rfl) dL_law_323 (fun H locs hw hS => ?_)
                    refine W.eq (g2 := F0 m 326 ls [.int v_19]) rfl ?_
                    refine lv_if_eq (tgt := 333) cx.1 cx.2.1 dL_law_326 (by decide) (fun hc => ?_) (fun hc => ?_)
                    · rw [if_pos hc] at hf
                      exact hB_333 K85 n_85 hK85 K140 n_140 hK140 S_20 (tk + 1) x4 x5 _ _ _ _ _ (by omega) (by omega) hw hS (lv_sub hl [2, 3, 4, 5, 6] rfl) hf
                    · rw [if_neg hc] at hf
                      refine lv_iconst (v := (1 : Int32)) cx.1 cx.2.1 dL_law_329 (by decide) ?_
                      refine lv_goto (tgt := 334) cx.1 cx.2.1 dL_law_330 (by decide) ?_
                      exact hB_334 K85 n_85 hK85 K140 n_140 hK140 S_20 (tk + 1) x4 x5 (1 : Int32) _ _ _ _ _ (by omega) (by omega) hw hS (lv_sub hl [2, 3, 4, 5, 6] rfl) hf
set_option maxHeartbeats 8000000 in
set_option maxRecDepth 100000 in
theorem law_hB_233 {p : Program} {l : Launch} {e : Env} {s : State} {m : MethodId} {below : List Frame} {meth : Method} {c : Code} {Q : State → Prop} {G K : gG} {b L : Nat} {xs : Nat → Int32} (hst : l.stackTraces = false) (cx : gCx p s m c cL_law 9 RL G) (hE : E2X G K b L xs s) (hX : gX s) (hZ : gZ (gAr (gN2 G K) s.heap.size) s s.heap) (hL : L ≤ 260) {S' : At2} (hend : ∀ (H : Heap) (locs : List Loc) (ls : Array Slot) (cells slots : Nat), cells ≤ 641088 → slots ≤ 7178434 → va_S (gAr (gN2 G K) s.heap.size) s.heap H locs → W p l e room_1 s m #[Value.ref b] below meth c H locs cells slots Q (F0 m 348 ls [.int 1])) : ∀ (K85 : At2 → Nat → Int32 → Int32 → Option (Int32 × At2)) (n_85 : Nat) (hK85 : ∀ (S : At2) (tk : Nat) (x3 : Int32) (x4 : Int32) (H : Heap) (locs : List Loc) (ls : Array Slot) (cells slots : Nat), cells + (0 + 40198 * n_85 + 25279 * (6 - tk)) ≤ 641088 → slots + (0 + 241188 * n_85 + 151674 * (6 - tk)) ≤ 7178434 → gPB G K S H → va_S (gAr (gN2 G K) s.heap.size) s.heap H locs → lv_has ls 9 [(0, .ref b), (1, .ref (G.2.1 0)), (2, .ref (K.2.1 0)), (3, .int x3), (4, .int x4)] → K85 S tk x3 x4 = some (1, S') → W p l e room_1 s m #[Value.ref b] below meth c H locs cells slots Q (F0 m 85 ls [])) (K140 : At2 → Nat → Int32 → Int32 → Int32 → Option (Int32 × At2)) (n_140 : Nat) (hK140 : ∀ (S : At2) (tk : Nat) (x3 : Int32) (x4 : Int32) (x5 : Int32) (H : Heap) (locs : List Loc) (ls : Array Slot) (cells slots : Nat), cells + (0 + 2345 * n_140 + 40198 * n_85 + 25279 * (6 - tk)) ≤ 641088 → slots + (0 + 14070 * n_140 + 241188 * n_85 + 151674 * (6 - tk)) ≤ 7178434 → gPB G K S H → va_S (gAr (gN2 G K) s.heap.size) s.heap H locs → lv_has ls 9 [(0, .ref b), (1, .ref (G.2.1 0)), (2, .ref (K.2.1 0)), (3, .int x3), (4, .int x4), (5, .int x5)] → K140 S tk x3 x4 x5 = some (1, S') → W p l e room_1 s m #[Value.ref b] below meth c H locs cells slots Q (F0 m 140 ls [])), ∀ (S : At2) (tk : Nat) (x4 : Int32) (x5 : Int32) (x6 : Int32) (x7 : Int32) (H : Heap) (locs : List Loc) (ls : Array Slot) (cells slots : Nat), cells + (0 + 40198 * n_85 + 2345 * n_140 + 25279 * (6 - tk)) ≤ 641088 → slots + (0 + 241188 * n_85 + 14070 * n_140 + 151674 * (6 - tk)) ≤ 7178434 → gPB G K S H → va_S (gAr (gN2 G K) s.heap.size) s.heap H locs → lv_has ls 9 [(0, .ref b), (1, .ref (G.2.1 0)), (2, .ref (K.2.1 0)), (4, .int x4), (5, .int x5), (6, .int x6), (7, .int x7)] → B_law_233 xs L K85 K140 S tk x4 x5 x6 x7 = some (1, S') → W p l e room_1 s m #[Value.ref b] below meth c H locs cells slots Q (F0 m 233 ls []) := by
  have hN := cx.2.2.2.2.hN
  have hB_234 := law_hB_234 hst cx hE hX hZ hL (S' := S') hend
  intro K85 n_85 hK85 K140 n_140 hK140 S tk x4 x5 x6 x7 H locs ls cells slots hcl hsl hw hS hl hf
  unfold B_law_233 at hf
  refine lv_iconst (v := (0 : Int32)) cx.1 cx.2.1 dL_law_233 (by decide) ?_
  exact hB_234 K85 n_85 hK85 K140 n_140 hK140 S tk x4 x5 x6 x7 (0 : Int32) _ _ _ _ _ (by omega) (by omega) hw hS (lv_sub hl [0, 1, 2, 3, 4, 5, 6] rfl) hf
set_option maxHeartbeats 8000000 in
set_option maxRecDepth 100000 in
theorem law_hL_140 {p : Program} {l : Launch} {e : Env} {s : State} {m : MethodId} {below : List Frame} {meth : Method} {c : Code} {Q : State → Prop} {G K : gG} {b L : Nat} {xs : Nat → Int32} (hst : l.stackTraces = false) (cx : gCx p s m c cL_law 9 RL G) (hE : E2X G K b L xs s) (hX : gX s) (hZ : gZ (gAr (gN2 G K) s.heap.size) s s.heap) (hL : L ≤ 260) {S' : At2} (hend : ∀ (H : Heap) (locs : List Loc) (ls : Array Slot) (cells slots : Nat), cells ≤ 641088 → slots ≤ 7178434 → va_S (gAr (gN2 G K) s.heap.size) s.heap H locs → W p l e room_1 s m #[Value.ref b] below meth c H locs cells slots Q (F0 m 348 ls [.int 1])) : ∀ (K85 : At2 → Nat → Int32 → Int32 → Option (Int32 × At2)) (n_85 : Nat) (hK85 : ∀ (S : At2) (tk : Nat) (x3 : Int32) (x4 : Int32) (H : Heap) (locs : List Loc) (ls : Array Slot) (cells slots : Nat), cells + (0 + 40198 * n_85 + 25279 * (6 - tk)) ≤ 641088 → slots + (0 + 241188 * n_85 + 151674 * (6 - tk)) ≤ 7178434 → gPB G K S H → va_S (gAr (gN2 G K) s.heap.size) s.heap H locs → lv_has ls 9 [(0, .ref b), (1, .ref (G.2.1 0)), (2, .ref (K.2.1 0)), (3, .int x3), (4, .int x4)] → K85 S tk x3 x4 = some (1, S') → W p l e room_1 s m #[Value.ref b] below meth c H locs cells slots Q (F0 m 85 ls [])), ∀ (n : Nat), ∀ (S : At2) (tk : Nat) (x3 : Int32) (x4 : Int32) (x5 : Int32) (H : Heap) (locs : List Loc) (ls : Array Slot) (cells slots : Nat), cells + (0 + 2345 * n + 40198 * n_85 + 25279 * (6 - tk)) ≤ 641088 → slots + (0 + 14070 * n + 241188 * n_85 + 151674 * (6 - tk)) ≤ 7178434 → gPB G K S H → va_S (gAr (gN2 G K) s.heap.size) s.heap H locs → lv_has ls 9 [(0, .ref b), (1, .ref (G.2.1 0)), (2, .ref (K.2.1 0)), (3, .int x3), (4, .int x4), (5, .int x5)] → L_law_140 xs L K85 n S tk x3 x4 x5 = some (1, S') → W p l e room_1 s m #[Value.ref b] below meth c H locs cells slots Q (F0 m 140 ls []) := by
  have hN := cx.2.2.2.2.hN
  have hB_341 := law_hB_341 hst cx hE hX hZ hL (S' := S') hend
  have hB_234 := law_hB_234 hst cx hE hX hZ hL (S' := S') hend
  have hB_233 := law_hB_233 hst cx hE hX hZ hL (S' := S') hend
  intro K85 n_85 hK85 n_140
  induction n_140 with
  | zero => intro S tk x3 x4 x5 H locs ls cells slots hcl hsl hw hS hl hf; cases hf
  | succ n_140 hK140 =>
    intro S tk x3 x4 x5 H locs ls cells slots hcl hsl hw hS hl hf
    have hf : Lb_law_140 xs L K85 (L_law_140 xs L K85 n_140) S tk x3 x4 x5 = some (1, S') := hf
    unfold Lb_law_140 at hf
    refine lv_iload cx.1 cx.2.1 dL_law_140 (lv_at hl 5 rfl) ?_
    refine lv_bipush (v := (15 : Int32)) cx.1 cx.2.1 dL_law_142 (by decide) ?_
    refine lv_icmp_ge (tgt := 341) cx.1 cx.2.1 dL_law_144 (by decide) (fun hc => ?_) (fun hc => ?_)
    · rw [if_pos hc] at hf
      exact hB_341 K85 n_85 hK85 S tk x3 x4 _ _ _ _ _ (by omega) (by omega) hw hS (lv_sub hl [0, 1, 2, 3, 4] rfl) hf
    · rw [if_neg hc] at hf
      refine lv_iload_n cx.1 cx.2.1 dL_law_147 rfl (lv_at hl 3 rfl) ?_
      refine lv_if_eq (tgt := 341) cx.1 cx.2.1 dL_law_148 (by decide) (fun hc => ?_) (fun hc => ?_)
      · rw [if_pos hc] at hf
        exact hB_341 K85 n_85 hK85 S tk x3 x4 _ _ _ _ _ (by omega) (by omega) hw hS (lv_sub hl [0, 1, 2, 3, 4] rfl) hf
      · rw [if_neg hc] at hf
        refine lv_aload_n cx.1 cx.2.1 dL_law_151 rfl (lv_at hl 0 rfl) ?_
        refine lv_bipush (v := (40 : Int32)) cx.1 cx.2.1 dL_law_152 (by decide) ?_
        refine lv_iload cx.1 cx.2.1 dL_law_154 (lv_at hl 4 rfl) ?_
        refine lv_imul cx.1 cx.2.1 dL_law_156 ?_
        refine lv_iconst (v := (5 : Int32)) cx.1 cx.2.1 dL_law_157 (by decide) ?_
        refine lv_iadd cx.1 cx.2.1 dL_law_158 ?_
        refine lv_iconst (v := (2 : Int32)) cx.1 cx.2.1 dL_law_159 (by decide) ?_
        refine lv_iload cx.1 cx.2.1 dL_law_160 (lv_at hl 5 rfl) ?_
        refine lv_imul cx.1 cx.2.1 dL_law_162 ?_
        refine lv_iadd cx.1 cx.2.1 dL_law_163 ?_
        obtain ⟨hnn, hf⟩ := gck_some hf
        obtain ⟨v_21, ev_21, hf⟩ := gvi_ex hf
        refine b_num (As := [.ref b, .int ((((40 : Int32) * x4) + (5 : Int32)) + ((2 : Int32) * x5))]) (rest := []) cx hE.2 hX hZ hw hS (a_number l G b L xs ((((40 : Int32) * x4) + (5 : Int32)) + ((2 : Int32) * x5)) hL (of_decide_eq_true hnn)) gw_836 gyl_L_number gil_L_number ⟨Nat.le_of_ble_eq_true rfl, Nat.le_of_ble_eq_true rfl⟩ (show cells + 0 ≤ 641088 ∧ slots + 0 ≤ 7178434 from ⟨by omega, by omega⟩) rfl hl.1 rfl (Nat.le_of_ble_eq_true rfl) dL_law_164 (fun H locs hw hS => ?_)
        refine W.eq (g2 := F0 m 167 ls [.int v_21]) (by rw [← ev_21]) ?_
        refine lv_istore (lv' := [(6, .int v_21), (0, .ref b), (1, .ref (G.2.1 0)), (2, .ref (K.2.1 0)), (3, .int x3), (4, .int x4), (5, .int x5)]) cx.1 cx.2.1 dL_law_167 hl (by decide) rfl (fun ls hl => ?_)
        refine lv_aload_n cx.1 cx.2.1 dL_law_169 rfl (lv_at hl 1 rfl) ?_
        refine lv_bipush (v := (40 : Int32)) cx.1 cx.2.1 dL_law_170 (by decide) ?_
        refine lv_iload cx.1 cx.2.1 dL_law_172 (lv_at hl 5 rfl) ?_
        refine lv_imul cx.1 cx.2.1 dL_law_174 ?_
        refine lv_bipush (v := (6 : Int32)) cx.1 cx.2.1 dL_law_175 (by decide) ?_
        refine lv_iadd cx.1 cx.2.1 dL_law_177 ?_
        refine lv_iconst (v := (2 : Int32)) cx.1 cx.2.1 dL_law_178 (by decide) ?_
        refine lv_iload cx.1 cx.2.1 dL_law_179 (lv_at hl 6 rfl) ?_
        refine lv_imul cx.1 cx.2.1 dL_law_181 ?_
        refine lv_iadd cx.1 cx.2.1 dL_law_182 ?_
        obtain ⟨hnn, hf⟩ := gck_some hf
        obtain ⟨v_22, ev_22, hf⟩ := gvi_ex hf
        refine b_num (As := [.ref b, .int ((((40 : Int32) * x4) + (6 : Int32)) + ((2 : Int32) * x5))]) (rest := []) cx hE.2 hX hZ hw hS (a_number l G b L xs ((((40 : Int32) * x4) + (6 : Int32)) + ((2 : Int32) * x5)) hL (of_decide_eq_true hnn)) gw_836 gyl_L_number gil_L_number ⟨Nat.le_of_ble_eq_true rfl, Nat.le_of_ble_eq_true rfl⟩ (show cells + 0 + 0 ≤ 641088 ∧ slots + 0 + 0 ≤ 7178434 from ⟨by omega, by omega⟩) rfl hl.1 rfl (Nat.le_of_ble_eq_true rfl) dL_law_183 (fun H locs hw hS => ?_)
        refine W.eq (g2 := F0 m 186 ls [.int v_22]) (by rw [← ev_22]) ?_
        refine lv_istore (lv' := [(7, .int v_22), (6, .int v_21), (0, .ref b), (1, .ref (G.2.1 0)), (2, .ref (K.2.1 0)), (3, .int x3), (4, .int x4), (5, .int x5)]) cx.1 cx.2.1 dL_law_186 hl (by decide) rfl (fun ls hl => ?_)
        refine lv_aload_n cx.1 cx.2.1 dL_law_188 rfl (lv_at hl 3 rfl) ?_
        refine lv_iload cx.1 cx.2.1 dL_law_189 (lv_at hl 1 rfl) ?_
        refine lv_iload cx.1 cx.2.1 dL_law_191 (lv_at hl 0 rfl) ?_
        obtain ⟨v_23, S_24, hv, hf⟩ := gbs_some hf
        refine b1_S (As := [.ref (G.2.1 0), .int v_21, .int v_22]) (rest := []) cx hE.1 hX hZ hw hS hv (fun t ht => a_act l hst G v_21 v_22 S.1 v_23 t ht) gw_863 gyl_L_act gil_L_act ⟨Nat.le_of_ble_eq_true rfl, Nat.le_of_ble_eq_true rfl⟩ (show cells + 0 + 0 + 9 ≤ 641088 ∧ slots + 0 + 0 + 54 ≤ 7178434 from ⟨by omega, by omega⟩) rfl hl.1 rfl (Nat.le_of_ble_eq_true rfl) dL_law_193 (fun H locs hw hS => ?_)
        refine W.eq (g2 := F0 m 196 ls [.int v_23]) rfl ?_
        refine lv_aload_n cx.1 cx.2.1 dL_law_196 rfl (lv_at hl 4 rfl) ?_
        refine lv_iload cx.1 cx.2.1 dL_law_197 (lv_at hl 1 rfl) ?_
        refine lv_iload cx.1 cx.2.1 dL_law_199 (lv_at hl 0 rfl) ?_
        obtain ⟨v_25, S_26, hv, hf⟩ := gbs_some hf
        refine b2_S (As := [.ref (K.2.1 0), .int v_21, .int v_22]) (rest := [.int v_23]) cx hE.1 hX hZ hw hS hv (fun t ht => a_act l hst K v_21 v_22 S_24.2 v_25 t ht) gw_863 gyl_L_act gil_L_act ⟨Nat.le_of_ble_eq_true rfl, Nat.le_of_ble_eq_true rfl⟩ (show cells + 0 + 0 + 9 + 9 ≤ 641088 ∧ slots + 0 + 0 + 54 + 54 ≤ 7178434 from ⟨by omega, by omega⟩) rfl hl.1 rfl (Nat.le_of_ble_eq_true rfl) dL_law_201 (fun H locs hw hS => ?_)
        refine W.eq (g2 := F0 m 204 ls [.int v_25, .int v_23]) rfl ?_
        refine lv_icmp_ne (tgt := 233) cx.1 cx.2.1 dL_law_204 (by decide) (fun hc => ?_) (fun hc => ?_)
        · rw [if_neg hc] at hf
          exact hB_233 K85 n_85 hK85 (L_law_140 xs L K85 n_140) n_140 hK140 S_26 tk x4 x5 v_21 v_22 _ _ _ _ _ (by omega) (by omega) hw hS (lv_sub hl [2, 3, 4, 6, 7, 1, 0] rfl) hf
        · rw [if_pos hc] at hf
          refine lv_aload_n cx.1 cx.2.1 dL_law_207 rfl (lv_at hl 4 rfl) ?_
          obtain ⟨v_27, S_28, hv, hf⟩ := gbs_some hf
          refine b2_S (As := [.ref (K.2.1 0)]) (rest := []) cx hE.1 hX hZ hw hS hv (fun t ht => a_refuses l hst K S_26.2 v_27 t ht) gw_345 gyl_L_refuses gil_L_refuses ⟨Nat.le_of_ble_eq_true rfl, Nat.le_of_ble_eq_true rfl⟩ (show cells + 0 + 0 + 9 + 9 + 143 ≤ 641088 ∧ slots + 0 + 0 + 54 + 54 + 858 ≤ 7178434 from ⟨by omega, by omega⟩) rfl hl.1 rfl (Nat.le_of_ble_eq_true rfl) dL_law_208 (fun H locs hw hS => ?_)
          refine W.eq (g2 := F0 m 211 ls [.int v_27]) rfl ?_
          refine lv_if_eq (tgt := 233) cx.1 cx.2.1 dL_law_211 (by decide) (fun hc => ?_) (fun hc => ?_)
          · rw [if_pos hc] at hf
            exact hB_233 K85 n_85 hK85 (L_law_140 xs L K85 n_140) n_140 hK140 S_28 tk x4 x5 v_21 v_22 _ _ _ _ _ (by omega) (by omega) hw hS (lv_sub hl [2, 3, 4, 6, 7, 1, 0] rfl) hf
          · rw [if_neg hc] at hf
            refine lv_aload_n cx.1 cx.2.1 dL_law_214 rfl (lv_at hl 3 rfl) ?_
            refine lv_aload_n cx.1 cx.2.1 dL_law_215 rfl (lv_at hl 4 rfl) ?_
            obtain ⟨v_29, S_30, hv, hf⟩ := gbs_some hf
            refine b_S (As := [.ref (G.2.1 0), .ref (K.2.1 0)]) (rest := []) cx hE.1 hX hZ hw hS (a_alike l hst G K S_28 v_29 S_30 hv) gw_827 gyl_L_alike gil_L_alike ⟨Nat.le_of_ble_eq_true rfl, Nat.le_of_ble_eq_true rfl⟩ (show cells + 0 + 0 + 9 + 9 + 143 + 886 ≤ 641088 ∧ slots + 0 + 0 + 54 + 54 + 858 + 5316 ≤ 7178434 from ⟨by omega, by omega⟩) rfl hl.1 rfl (Nat.le_of_ble_eq_true rfl) dL_law_216 (fun H locs hw hS => ?_)
            refine W.eq (g2 := F0 m 219 ls [.int v_29]) rfl ?_
            refine lv_if_eq (tgt := 233) cx.1 cx.2.1 dL_law_219 (by decide) (fun hc => ?_) (fun hc => ?_)
            · rw [if_pos hc] at hf
              exact hB_233 K85 n_85 hK85 (L_law_140 xs L K85 n_140) n_140 hK140 S_30 tk x4 x5 v_21 v_22 _ _ _ _ _ (by omega) (by omega) hw hS (lv_sub hl [2, 3, 4, 6, 7, 1, 0] rfl) hf
            · rw [if_neg hc] at hf
              refine lv_aload_n cx.1 cx.2.1 dL_law_222 rfl (lv_at hl 3 rfl) ?_
              obtain ⟨v_31, S_32, hv, hf⟩ := gbs_some hf
              refine b1_S (As := [.ref (G.2.1 0)]) (rest := []) cx hE.1 hX hZ hw hS hv (fun t ht => a_sound l hst G S_30.1 v_31 t ht) gw_830 gyl_L_sound gil_L_sound ⟨Nat.le_of_ble_eq_true rfl, Nat.le_of_ble_eq_true rfl⟩ (show cells + 0 + 0 + 9 + 9 + 143 + 886 + 1298 ≤ 641088 ∧ slots + 0 + 0 + 54 + 54 + 858 + 5316 + 7788 ≤ 7178434 from ⟨by omega, by omega⟩) rfl hl.1 rfl (Nat.le_of_ble_eq_true rfl) dL_law_223 (fun H locs hw hS => ?_)
              refine W.eq (g2 := F0 m 226 ls [.int v_31]) rfl ?_
              refine lv_if_eq (tgt := 233) cx.1 cx.2.1 dL_law_226 (by decide) (fun hc => ?_) (fun hc => ?_)
              · rw [if_pos hc] at hf
                exact hB_233 K85 n_85 hK85 (L_law_140 xs L K85 n_140) n_140 hK140 S_32 tk x4 x5 v_21 v_22 _ _ _ _ _ (by omega) (by omega) hw hS (lv_sub hl [2, 3, 4, 6, 7, 1, 0] rfl) hf
              · rw [if_neg hc] at hf
                refine lv_iconst (v := (1 : Int32)) cx.1 cx.2.1 dL_law_229 (by decide) ?_
                refine lv_goto (tgt := 234) cx.1 cx.2.1 dL_law_230 (by decide) ?_
                exact hB_234 K85 n_85 hK85 (L_law_140 xs L K85 n_140) n_140 hK140 S_32 tk x4 x5 v_21 v_22 (1 : Int32) _ _ _ _ _ (by omega) (by omega) hw hS (lv_sub hl [2, 3, 4, 6, 7, 1, 0] rfl) hf
set_option maxHeartbeats 8000000 in
set_option maxRecDepth 100000 in
theorem law_hB_136 {p : Program} {l : Launch} {e : Env} {s : State} {m : MethodId} {below : List Frame} {meth : Method} {c : Code} {Q : State → Prop} {G K : gG} {b L : Nat} {xs : Nat → Int32} (hst : l.stackTraces = false) (cx : gCx p s m c cL_law 9 RL G) (hE : E2X G K b L xs s) (hX : gX s) (hZ : gZ (gAr (gN2 G K) s.heap.size) s s.heap) (hL : L ≤ 260) {S' : At2} (hend : ∀ (H : Heap) (locs : List Loc) (ls : Array Slot) (cells slots : Nat), cells ≤ 641088 → slots ≤ 7178434 → va_S (gAr (gN2 G K) s.heap.size) s.heap H locs → W p l e room_1 s m #[Value.ref b] below meth c H locs cells slots Q (F0 m 348 ls [.int 1])) : ∀ (K85 : At2 → Nat → Int32 → Int32 → Option (Int32 × At2)) (n_85 : Nat) (hK85 : ∀ (S : At2) (tk : Nat) (x3 : Int32) (x4 : Int32) (H : Heap) (locs : List Loc) (ls : Array Slot) (cells slots : Nat), cells + (0 + 40198 * n_85 + 25279 * (6 - tk)) ≤ 641088 → slots + (0 + 241188 * n_85 + 151674 * (6 - tk)) ≤ 7178434 → gPB G K S H → va_S (gAr (gN2 G K) s.heap.size) s.heap H locs → lv_has ls 9 [(0, .ref b), (1, .ref (G.2.1 0)), (2, .ref (K.2.1 0)), (3, .int x3), (4, .int x4)] → K85 S tk x3 x4 = some (1, S') → W p l e room_1 s m #[Value.ref b] below meth c H locs cells slots Q (F0 m 85 ls [])), ∀ (S : At2) (tk : Nat) (x4 : Int32) (t0 : Int32) (H : Heap) (locs : List Loc) (ls : Array Slot) (cells slots : Nat), cells + (37520 + 40198 * n_85 + 25279 * (6 - tk)) ≤ 641088 → slots + (225120 + 241188 * n_85 + 151674 * (6 - tk)) ≤ 7178434 → gPB G K S H → va_S (gAr (gN2 G K) s.heap.size) s.heap H locs → lv_has ls 9 [(0, .ref b), (1, .ref (G.2.1 0)), (2, .ref (K.2.1 0)), (4, .int x4)] → B_law_136 xs L K85 S tk x4 t0 = some (1, S') → W p l e room_1 s m #[Value.ref b] below meth c H locs cells slots Q (F0 m 136 ls [.int t0]) := by
  have hN := cx.2.2.2.2.hN
  have hL_140 := law_hL_140 hst cx hE hX hZ hL (S' := S') hend
  intro K85 n_85 hK85 S tk x4 t0 H locs ls cells slots hcl hsl hw hS hl hf
  unfold B_law_136 at hf
  refine lv_istore_n (lv' := [(3, .int t0), (0, .ref b), (1, .ref (G.2.1 0)), (2, .ref (K.2.1 0)), (4, .int x4)]) cx.1 cx.2.1 dL_law_136 rfl hl (by decide) rfl (fun ls hl => ?_)
  refine lv_iconst (v := (0 : Int32)) cx.1 cx.2.1 dL_law_137 (by decide) ?_
  refine lv_istore (lv' := [(5, .int (0 : Int32)), (3, .int t0), (0, .ref b), (1, .ref (G.2.1 0)), (2, .ref (K.2.1 0)), (4, .int x4)]) cx.1 cx.2.1 dL_law_138 hl (by decide) rfl (fun ls hl => ?_)
  exact hL_140 K85 n_85 hK85 16 S tk t0 x4 (0 : Int32) _ _ _ _ _ (by omega) (by omega) hw hS (lv_sub hl [2, 3, 4, 1, 5, 0] rfl) hf
set_option maxHeartbeats 8000000 in
set_option maxRecDepth 100000 in
theorem law_hB_135 {p : Program} {l : Launch} {e : Env} {s : State} {m : MethodId} {below : List Frame} {meth : Method} {c : Code} {Q : State → Prop} {G K : gG} {b L : Nat} {xs : Nat → Int32} (hst : l.stackTraces = false) (cx : gCx p s m c cL_law 9 RL G) (hE : E2X G K b L xs s) (hX : gX s) (hZ : gZ (gAr (gN2 G K) s.heap.size) s s.heap) (hL : L ≤ 260) {S' : At2} (hend : ∀ (H : Heap) (locs : List Loc) (ls : Array Slot) (cells slots : Nat), cells ≤ 641088 → slots ≤ 7178434 → va_S (gAr (gN2 G K) s.heap.size) s.heap H locs → W p l e room_1 s m #[Value.ref b] below meth c H locs cells slots Q (F0 m 348 ls [.int 1])) : ∀ (K85 : At2 → Nat → Int32 → Int32 → Option (Int32 × At2)) (n_85 : Nat) (hK85 : ∀ (S : At2) (tk : Nat) (x3 : Int32) (x4 : Int32) (H : Heap) (locs : List Loc) (ls : Array Slot) (cells slots : Nat), cells + (0 + 40198 * n_85 + 25279 * (6 - tk)) ≤ 641088 → slots + (0 + 241188 * n_85 + 151674 * (6 - tk)) ≤ 7178434 → gPB G K S H → va_S (gAr (gN2 G K) s.heap.size) s.heap H locs → lv_has ls 9 [(0, .ref b), (1, .ref (G.2.1 0)), (2, .ref (K.2.1 0)), (3, .int x3), (4, .int x4)] → K85 S tk x3 x4 = some (1, S') → W p l e room_1 s m #[Value.ref b] below meth c H locs cells slots Q (F0 m 85 ls [])), ∀ (S : At2) (tk : Nat) (x4 : Int32) (H : Heap) (locs : List Loc) (ls : Array Slot) (cells slots : Nat), cells + (37520 + 40198 * n_85 + 25279 * (6 - tk)) ≤ 641088 → slots + (225120 + 241188 * n_85 + 151674 * (6 - tk)) ≤ 7178434 → gPB G K S H → va_S (gAr (gN2 G K) s.heap.size) s.heap H locs → lv_has ls 9 [(0, .ref b), (1, .ref (G.2.1 0)), (2, .ref (K.2.1 0)), (4, .int x4)] → B_law_135 xs L K85 S tk x4 = some (1, S') → W p l e room_1 s m #[Value.ref b] below meth c H locs cells slots Q (F0 m 135 ls []) := by
  have hN := cx.2.2.2.2.hN
  have hB_136 := law_hB_136 hst cx hE hX hZ hL (S' := S') hend
  intro K85 n_85 hK85 S tk x4 H locs ls cells slots hcl hsl hw hS hl hf
  unfold B_law_135 at hf
  refine lv_iconst (v := (0 : Int32)) cx.1 cx.2.1 dL_law_135 (by decide) ?_
  exact hB_136 K85 n_85 hK85 S tk x4 (0 : Int32) _ _ _ _ _ (by omega) (by omega) hw hS (lv_sub hl [0, 1, 2, 3] rfl) hf
set_option maxHeartbeats 8000000 in
set_option maxRecDepth 100000 in
theorem law_hL_85 {p : Program} {l : Launch} {e : Env} {s : State} {m : MethodId} {below : List Frame} {meth : Method} {c : Code} {Q : State → Prop} {G K : gG} {b L : Nat} {xs : Nat → Int32} (hst : l.stackTraces = false) (cx : gCx p s m c cL_law 9 RL G) (hE : E2X G K b L xs s) (hX : gX s) (hZ : gZ (gAr (gN2 G K) s.heap.size) s s.heap) (hL : L ≤ 260) {S' : At2} (hend : ∀ (H : Heap) (locs : List Loc) (ls : Array Slot) (cells slots : Nat), cells ≤ 641088 → slots ≤ 7178434 → va_S (gAr (gN2 G K) s.heap.size) s.heap H locs → W p l e room_1 s m #[Value.ref b] below meth c H locs cells slots Q (F0 m 348 ls [.int 1])) : ∀ (n : Nat), ∀ (S : At2) (tk : Nat) (x3 : Int32) (x4 : Int32) (H : Heap) (locs : List Loc) (ls : Array Slot) (cells slots : Nat), cells + (0 + 40198 * n + 25279 * (6 - tk)) ≤ 641088 → slots + (0 + 241188 * n + 151674 * (6 - tk)) ≤ 7178434 → gPB G K S H → va_S (gAr (gN2 G K) s.heap.size) s.heap H locs → lv_has ls 9 [(0, .ref b), (1, .ref (G.2.1 0)), (2, .ref (K.2.1 0)), (3, .int x3), (4, .int x4)] → L_law_85 xs L n S tk x3 x4 = some (1, S') → W p l e room_1 s m #[Value.ref b] below meth c H locs cells slots Q (F0 m 85 ls []) := by
  have hN := cx.2.2.2.2.hN
  have hB_347 := law_hB_347 hst cx hE hX hZ hL (S' := S') hend
  have hB_136 := law_hB_136 hst cx hE hX hZ hL (S' := S') hend
  have hB_135 := law_hB_135 hst cx hE hX hZ hL (S' := S') hend
  intro n_85
  induction n_85 with
  | zero => intro S tk x3 x4 H locs ls cells slots hcl hsl hw hS hl hf; cases hf
  | succ n_85 hK85 =>
    intro S tk x3 x4 H locs ls cells slots hcl hsl hw hS hl hf
    have hf : Lb_law_85 xs L (L_law_85 xs L n_85) S tk x3 x4 = some (1, S') := hf
    unfold Lb_law_85 at hf
    refine lv_iload cx.1 cx.2.1 dL_law_85 (lv_at hl 4 rfl) ?_
    refine lv_iconst (v := (2 : Int32)) cx.1 cx.2.1 dL_law_87 (by decide) ?_
    refine lv_icmp_ge (tgt := 347) cx.1 cx.2.1 dL_law_88 (by decide) (fun hc => ?_) (fun hc => ?_)
    · rw [if_pos hc] at hf
      exact hB_347 S tk x3 _ _ _ _ _ (by omega) (by omega) hw hS (lv_sub hl [0, 1, 2, 3] rfl) hf
    · rw [if_neg hc] at hf
      refine lv_iload_n cx.1 cx.2.1 dL_law_91 rfl (lv_at hl 3 rfl) ?_
      refine lv_if_eq (tgt := 347) cx.1 cx.2.1 dL_law_92 (by decide) (fun hc => ?_) (fun hc => ?_)
      · rw [if_pos hc] at hf
        exact hB_347 S tk x3 _ _ _ _ _ (by omega) (by omega) hw hS (lv_sub hl [0, 1, 2, 3] rfl) hf
      · rw [if_neg hc] at hf
        refine lv_aload_n cx.1 cx.2.1 dL_law_95 rfl (lv_at hl 1 rfl) ?_
        refine lv_aload_n cx.1 cx.2.1 dL_law_96 rfl (lv_at hl 2 rfl) ?_
        refine lv_aload_n cx.1 cx.2.1 dL_law_97 rfl (lv_at hl 0 rfl) ?_
        refine lv_bipush (v := (40 : Int32)) cx.1 cx.2.1 dL_law_98 (by decide) ?_
        refine lv_iload cx.1 cx.2.1 dL_law_100 (lv_at hl 4 rfl) ?_
        refine lv_imul cx.1 cx.2.1 dL_law_102 ?_
        obtain ⟨v_33, S_34, hv, hf⟩ := gbs_some hf
        refine b_SX (As := [.ref (G.2.1 0), .ref (K.2.1 0), .ref b, .int ((40 : Int32) * x4)]) (rest := []) cx hE.1 hE.2 hX hZ hw hS (a_told l hst G K b L xs hL ((40 : Int32) * x4) S v_33 S_34 hv) gw_833 gyl_L_told gil_L_told ⟨Nat.le_of_ble_eq_true rfl, Nat.le_of_ble_eq_true rfl⟩ (show cells + 351 ≤ 641088 ∧ slots + 2106 ≤ 7178434 from ⟨by omega, by omega⟩) rfl hl.1 rfl (Nat.le_of_ble_eq_true rfl) dL_law_103 (fun H locs hw hS => ?_)
        refine W.eq (g2 := F0 m 106 ls [.int v_33]) rfl ?_
        refine lv_if_eq (tgt := 135) cx.1 cx.2.1 dL_law_106 (by decide) (fun hc => ?_) (fun hc => ?_)
        · rw [if_pos hc] at hf
          exact hB_135 (L_law_85 xs L n_85) n_85 hK85 S_34 tk x4 _ _ _ _ _ (by omega) (by omega) hw hS (lv_sub hl [0, 1, 2, 4] rfl) hf
        · rw [if_neg hc] at hf
          refine lv_aload_n cx.1 cx.2.1 dL_law_109 rfl (lv_at hl 2 rfl) ?_
          obtain ⟨v_35, S_36, hv, hf⟩ := gbs_some hf
          refine b2_S (As := [.ref (K.2.1 0)]) (rest := []) cx hE.1 hX hZ hw hS hv (fun t ht => a_refuses l hst K S_34.2 v_35 t ht) gw_345 gyl_L_refuses gil_L_refuses ⟨Nat.le_of_ble_eq_true rfl, Nat.le_of_ble_eq_true rfl⟩ (show cells + 351 + 143 ≤ 641088 ∧ slots + 2106 + 858 ≤ 7178434 from ⟨by omega, by omega⟩) rfl hl.1 rfl (Nat.le_of_ble_eq_true rfl) dL_law_110 (fun H locs hw hS => ?_)
          refine W.eq (g2 := F0 m 113 ls [.int v_35]) rfl ?_
          refine lv_if_eq (tgt := 135) cx.1 cx.2.1 dL_law_113 (by decide) (fun hc => ?_) (fun hc => ?_)
          · rw [if_pos hc] at hf
            exact hB_135 (L_law_85 xs L n_85) n_85 hK85 S_36 tk x4 _ _ _ _ _ (by omega) (by omega) hw hS (lv_sub hl [0, 1, 2, 4] rfl) hf
          · rw [if_neg hc] at hf
            refine lv_aload_n cx.1 cx.2.1 dL_law_116 rfl (lv_at hl 1 rfl) ?_
            refine lv_aload_n cx.1 cx.2.1 dL_law_117 rfl (lv_at hl 2 rfl) ?_
            obtain ⟨v_37, S_38, hv, hf⟩ := gbs_some hf
            refine b_S (As := [.ref (G.2.1 0), .ref (K.2.1 0)]) (rest := []) cx hE.1 hX hZ hw hS (a_alike l hst G K S_36 v_37 S_38 hv) gw_827 gyl_L_alike gil_L_alike ⟨Nat.le_of_ble_eq_true rfl, Nat.le_of_ble_eq_true rfl⟩ (show cells + 351 + 143 + 886 ≤ 641088 ∧ slots + 2106 + 858 + 5316 ≤ 7178434 from ⟨by omega, by omega⟩) rfl hl.1 rfl (Nat.le_of_ble_eq_true rfl) dL_law_118 (fun H locs hw hS => ?_)
            refine W.eq (g2 := F0 m 121 ls [.int v_37]) rfl ?_
            refine lv_if_eq (tgt := 135) cx.1 cx.2.1 dL_law_121 (by decide) (fun hc => ?_) (fun hc => ?_)
            · rw [if_pos hc] at hf
              exact hB_135 (L_law_85 xs L n_85) n_85 hK85 S_38 tk x4 _ _ _ _ _ (by omega) (by omega) hw hS (lv_sub hl [0, 1, 2, 4] rfl) hf
            · rw [if_neg hc] at hf
              refine lv_aload_n cx.1 cx.2.1 dL_law_124 rfl (lv_at hl 1 rfl) ?_
              obtain ⟨v_39, S_40, hv, hf⟩ := gbs_some hf
              refine b1_S (As := [.ref (G.2.1 0)]) (rest := []) cx hE.1 hX hZ hw hS hv (fun t ht => a_sound l hst G S_38.1 v_39 t ht) gw_830 gyl_L_sound gil_L_sound ⟨Nat.le_of_ble_eq_true rfl, Nat.le_of_ble_eq_true rfl⟩ (show cells + 351 + 143 + 886 + 1298 ≤ 641088 ∧ slots + 2106 + 858 + 5316 + 7788 ≤ 7178434 from ⟨by omega, by omega⟩) rfl hl.1 rfl (Nat.le_of_ble_eq_true rfl) dL_law_125 (fun H locs hw hS => ?_)
              refine W.eq (g2 := F0 m 128 ls [.int v_39]) rfl ?_
              refine lv_if_eq (tgt := 135) cx.1 cx.2.1 dL_law_128 (by decide) (fun hc => ?_) (fun hc => ?_)
              · rw [if_pos hc] at hf
                exact hB_135 (L_law_85 xs L n_85) n_85 hK85 S_40 tk x4 _ _ _ _ _ (by omega) (by omega) hw hS (lv_sub hl [0, 1, 2, 4] rfl) hf
              · rw [if_neg hc] at hf
                refine lv_iconst (v := (1 : Int32)) cx.1 cx.2.1 dL_law_131 (by decide) ?_
                refine lv_goto (tgt := 136) cx.1 cx.2.1 dL_law_132 (by decide) ?_
                exact hB_136 (L_law_85 xs L n_85) n_85 hK85 S_40 tk x4 (1 : Int32) _ _ _ _ _ (by omega) (by omega) hw hS (lv_sub hl [0, 1, 2, 4] rfl) hf
set_option maxHeartbeats 8000000 in
set_option maxRecDepth 100000 in
theorem law_hB_81 {p : Program} {l : Launch} {e : Env} {s : State} {m : MethodId} {below : List Frame} {meth : Method} {c : Code} {Q : State → Prop} {G K : gG} {b L : Nat} {xs : Nat → Int32} (hst : l.stackTraces = false) (cx : gCx p s m c cL_law 9 RL G) (hE : E2X G K b L xs s) (hX : gX s) (hZ : gZ (gAr (gN2 G K) s.heap.size) s s.heap) (hL : L ≤ 260) {S' : At2} (hend : ∀ (H : Heap) (locs : List Loc) (ls : Array Slot) (cells slots : Nat), cells ≤ 641088 → slots ≤ 7178434 → va_S (gAr (gN2 G K) s.heap.size) s.heap H locs → W p l e room_1 s m #[Value.ref b] below meth c H locs cells slots Q (F0 m 348 ls [.int 1])) : ∀ (S : At2) (tk : Nat) (t0 : Int32) (H : Heap) (locs : List Loc) (ls : Array Slot) (cells slots : Nat), cells + (120594 + 25279 * (6 - tk)) ≤ 641088 → slots + (723564 + 151674 * (6 - tk)) ≤ 7178434 → gPB G K S H → va_S (gAr (gN2 G K) s.heap.size) s.heap H locs → lv_has ls 9 [(0, .ref b), (1, .ref (G.2.1 0)), (2, .ref (K.2.1 0))] → B_law_81 xs L S tk t0 = some (1, S') → W p l e room_1 s m #[Value.ref b] below meth c H locs cells slots Q (F0 m 81 ls [.int t0]) := by
  have hN := cx.2.2.2.2.hN
  have hL_85 := law_hL_85 hst cx hE hX hZ hL (S' := S') hend
  intro S tk t0 H locs ls cells slots hcl hsl hw hS hl hf
  unfold B_law_81 at hf
  refine lv_istore_n (lv' := [(3, .int t0), (0, .ref b), (1, .ref (G.2.1 0)), (2, .ref (K.2.1 0))]) cx.1 cx.2.1 dL_law_81 rfl hl (by decide) rfl (fun ls hl => ?_)
  refine lv_iconst (v := (0 : Int32)) cx.1 cx.2.1 dL_law_82 (by decide) ?_
  refine lv_istore (lv' := [(4, .int (0 : Int32)), (3, .int t0), (0, .ref b), (1, .ref (G.2.1 0)), (2, .ref (K.2.1 0))]) cx.1 cx.2.1 dL_law_83 hl (by decide) rfl (fun ls hl => ?_)
  exact hL_85 3 S tk t0 (0 : Int32) _ _ _ _ _ (by omega) (by omega) hw hS (lv_sub hl [2, 3, 4, 1, 0] rfl) hf
set_option maxHeartbeats 8000000 in
set_option maxRecDepth 100000 in
theorem law_hB_80 {p : Program} {l : Launch} {e : Env} {s : State} {m : MethodId} {below : List Frame} {meth : Method} {c : Code} {Q : State → Prop} {G K : gG} {b L : Nat} {xs : Nat → Int32} (hst : l.stackTraces = false) (cx : gCx p s m c cL_law 9 RL G) (hE : E2X G K b L xs s) (hX : gX s) (hZ : gZ (gAr (gN2 G K) s.heap.size) s s.heap) (hL : L ≤ 260) {S' : At2} (hend : ∀ (H : Heap) (locs : List Loc) (ls : Array Slot) (cells slots : Nat), cells ≤ 641088 → slots ≤ 7178434 → va_S (gAr (gN2 G K) s.heap.size) s.heap H locs → W p l e room_1 s m #[Value.ref b] below meth c H locs cells slots Q (F0 m 348 ls [.int 1])) : ∀ (S : At2) (tk : Nat) (H : Heap) (locs : List Loc) (ls : Array Slot) (cells slots : Nat), cells + (120594 + 25279 * (6 - tk)) ≤ 641088 → slots + (723564 + 151674 * (6 - tk)) ≤ 7178434 → gPB G K S H → va_S (gAr (gN2 G K) s.heap.size) s.heap H locs → lv_has ls 9 [(0, .ref b), (1, .ref (G.2.1 0)), (2, .ref (K.2.1 0))] → B_law_80 xs L S tk = some (1, S') → W p l e room_1 s m #[Value.ref b] below meth c H locs cells slots Q (F0 m 80 ls []) := by
  have hN := cx.2.2.2.2.hN
  have hB_81 := law_hB_81 hst cx hE hX hZ hL (S' := S') hend
  intro S tk H locs ls cells slots hcl hsl hw hS hl hf
  unfold B_law_80 at hf
  refine lv_iconst (v := (0 : Int32)) cx.1 cx.2.1 dL_law_80 (by decide) ?_
  exact hB_81 S tk (0 : Int32) _ _ _ _ _ (by omega) (by omega) hw hS (lv_sub hl [0, 1, 2] rfl) hf
set_option maxHeartbeats 8000000 in
set_option maxRecDepth 100000 in
theorem law_16 {p : Program} {l : Launch} {e : Env} {s : State} {m : MethodId} {below : List Frame} {meth : Method} {c : Code} {Q : State → Prop} {G K : gG} {b L : Nat} {xs : Nat → Int32} (hst : l.stackTraces = false) (cx : gCx p s m c cL_law 9 RL G) (hE : E2X G K b L xs s) (hX : gX s) (hZ : gZ (gAr (gN2 G K) s.heap.size) s s.heap) (hL : L ≤ 260) {S' : At2} (hend : ∀ (H : Heap) (locs : List Loc) (ls : Array Slot) (cells slots : Nat), cells ≤ 641088 → slots ≤ 7178434 → va_S (gAr (gN2 G K) s.heap.size) s.heap H locs → W p l e room_1 s m #[Value.ref b] below meth c H locs cells slots Q (F0 m 348 ls [.int 1])) {tk : Nat} {S : At2} {H : Heap} {locs : List Loc} {ls : Array Slot} {cells slots : Nat} (hcl : cells + (122929 + 25279 * (6 - tk)) ≤ 641088) (hsl : slots + (737574 + 151674 * (6 - tk)) ≤ 7178434) (hw : gPB G K S H) (hS : va_S (gAr (gN2 G K) s.heap.size) s.heap H locs) (hl : lv_has ls 9 [(0, .ref b), (1, .ref (G.2.1 0)), (2, .ref (K.2.1 0))]) (hf : h_law xs L tk S = some (1, S')) : W p l e room_1 s m #[Value.ref b] below meth c H locs cells slots Q (F0 m 16 ls []) := by
  have hN := cx.2.2.2.2.hN
  have hB_81 := law_hB_81 hst cx hE hX hZ hL (S' := S') hend
  have hB_80 := law_hB_80 hst cx hE hX hZ hL (S' := S') hend
  unfold h_law at hf
  refine lv_aload_n cx.1 cx.2.1 dL_law_16 rfl (lv_at hl 1 rfl) ?_
  obtain ⟨v_41, S_42, hv, hf⟩ := gbs_some hf
  refine b1_V (As := []) (rest := []) cx hE.1 hX hZ hw hS hv (fun t ht => a_X10_errorPosition l hst G S.1 v_41 t ht) rfl gw_134 gy_X10_errorPosition gi_X10_errorPosition ⟨Nat.le_of_ble_eq_true rfl, Nat.le_of_ble_eq_true rfl⟩ (show cells + 0 ≤ 641088 ∧ slots + 0 ≤ 7178434 from ⟨by omega, by omega⟩) rfl hl.1 rfl (Nat.le_of_ble_eq_true rfl) dL_law_17 (fun H locs hw hS => ?_)
  refine W.eq (g2 := F0 m 20 ls [.int v_41]) rfl ?_
  refine lv_if_ne (tgt := 80) cx.1 cx.2.1 dL_law_20 (by decide) (fun hc => ?_) (fun hc => ?_)
  · rw [if_neg hc] at hf
    exact hB_80 S_42 tk _ _ _ _ _ (by omega) (by omega) hw hS (lv_sub hl [0, 1, 2] rfl) hf
  · rw [if_pos hc] at hf
    refine lv_aload_n cx.1 cx.2.1 dL_law_23 rfl (lv_at hl 1 rfl) ?_
    refine lv_iconst (v := (1 : Int32)) cx.1 cx.2.1 dL_law_24 (by decide) ?_
    obtain ⟨v_43, S_44, hv, hf⟩ := gbs_some hf
    refine b1_SW (As := [.ref (G.2.1 0), .int (1 : Int32)]) (rest := []) cx hE.1 hX hZ hw hS hv (fun t ht => a_tryAbout l hst G (1 : Int32) S_42.1 v_43 t ht) gw_185 gw_187 gyw_L_tryAbout ⟨by decide, by decide⟩ ⟨Nat.le_of_ble_eq_true rfl, Nat.le_of_ble_eq_true rfl⟩ (show cells + 0 + 1 ≤ 641088 ∧ slots + 0 + 6 ≤ 7178434 from ⟨by omega, by omega⟩) rfl hl.1 rfl (Nat.le_of_ble_eq_true rfl) dL_law_25 (fun H locs hw hS => ?_)
    refine W.eq (g2 := F0 m 28 ls [.int v_43]) rfl ?_
    refine lv_iconst (v := (2 : Int32)) cx.1 cx.2.1 dL_law_28 (by decide) ?_
    refine lv_icmp_ne (tgt := 80) cx.1 cx.2.1 dL_law_29 (by decide) (fun hc => ?_) (fun hc => ?_)
    · rw [if_neg hc] at hf
      exact hB_80 S_44 tk _ _ _ _ _ (by omega) (by omega) hw hS (lv_sub hl [0, 1, 2] rfl) hf
    · rw [if_pos hc] at hf
      refine lv_aload_n cx.1 cx.2.1 dL_law_32 rfl (lv_at hl 1 rfl) ?_
      refine lv_iconst (v := (0 : Int32)) cx.1 cx.2.1 dL_law_33 (by decide) ?_
      refine lv_iconst (v := (0 : Int32)) cx.1 cx.2.1 dL_law_34 (by decide) ?_
      refine lv_iconst (v := (2 : Int32)) cx.1 cx.2.1 dL_law_35 (by decide) ?_
      refine lv_iconst (v := (4 : Int32)) cx.1 cx.2.1 dL_law_36 (by decide) ?_
      refine lv_iconst (v := (0 : Int32)) cx.1 cx.2.1 dL_law_37 (by decide) ?_
      obtain ⟨v_45, S_46, hv, hf⟩ := gbs_some hf
      refine b1_SW (As := [.ref (G.2.1 0), .int (0 : Int32), .int (0 : Int32), .int (2 : Int32), .int (4 : Int32), .int (0 : Int32)]) (rest := []) cx hE.1 hX hZ hw hS hv (fun t ht => a_tryWay l hst G (0 : Int32) (0 : Int32) (2 : Int32) (4 : Int32) (0 : Int32) S_44.1 v_45 t ht) gw_214 gw_187 gyw_L_tryWay ⟨by decide, by decide⟩ ⟨Nat.le_of_ble_eq_true rfl, Nat.le_of_ble_eq_true rfl⟩ (show cells + 0 + 1 + 6 ≤ 641088 ∧ slots + 0 + 6 + 36 ≤ 7178434 from ⟨by omega, by omega⟩) rfl hl.1 rfl (Nat.le_of_ble_eq_true rfl) dL_law_38 (fun H locs hw hS => ?_)
      refine W.eq (g2 := F0 m 41 ls [.int v_45]) rfl ?_
      refine lv_iconst (v := (4 : Int32)) cx.1 cx.2.1 dL_law_41 (by decide) ?_
      refine lv_icmp_ne (tgt := 80) cx.1 cx.2.1 dL_law_42 (by decide) (fun hc => ?_) (fun hc => ?_)
      · rw [if_neg hc] at hf
        exact hB_80 S_46 tk _ _ _ _ _ (by omega) (by omega) hw hS (lv_sub hl [0, 1, 2] rfl) hf
      · rw [if_pos hc] at hf
        refine lv_aload_n cx.1 cx.2.1 dL_law_45 rfl (lv_at hl 1 rfl) ?_
        obtain ⟨v_47, S_48, hv, hf⟩ := gbs_some hf
        refine b1_SW (As := [.ref (G.2.1 0)]) (rest := []) cx hE.1 hX hZ hw hS hv (fun t ht => a_tryUndo l hst G S_46.1 v_47 t ht) gw_294 gw_187 gyw_L_tryUndo ⟨by decide, by decide⟩ ⟨Nat.le_of_ble_eq_true rfl, Nat.le_of_ble_eq_true rfl⟩ (show cells + 0 + 1 + 6 + 1 ≤ 641088 ∧ slots + 0 + 6 + 36 + 6 ≤ 7178434 from ⟨by omega, by omega⟩) rfl hl.1 rfl (Nat.le_of_ble_eq_true rfl) dL_law_46 (fun H locs hw hS => ?_)
        refine W.eq (g2 := F0 m 49 ls [.int v_47]) rfl ?_
        refine lv_ldc cx.1 cx.2.1 cx.2.2.2.1 (cx.2.2.2.2.ts _ gw_3) dL_law_49 ?_
        refine lv_icmp_ne (tgt := 80) cx.1 cx.2.1 dL_law_51 (by decide) (fun hc => ?_) (fun hc => ?_)
        · rw [if_neg hc] at hf
          exact hB_80 S_48 tk _ _ _ _ _ (by omega) (by omega) hw hS (lv_sub hl [0, 1, 2] rfl) hf
        · rw [if_pos hc] at hf
          refine lv_aload_n cx.1 cx.2.1 dL_law_54 rfl (lv_at hl 2 rfl) ?_
          obtain ⟨v_49, S_50, hv, hf⟩ := gbs_some hf
          refine b2_S (As := [.ref (K.2.1 0)]) (rest := []) cx hE.1 hX hZ hw hS hv (fun t ht => a_refuses l hst K S_48.2 v_49 t ht) gw_345 gyl_L_refuses gil_L_refuses ⟨Nat.le_of_ble_eq_true rfl, Nat.le_of_ble_eq_true rfl⟩ (show cells + 0 + 1 + 6 + 1 + 143 ≤ 641088 ∧ slots + 0 + 6 + 36 + 6 + 858 ≤ 7178434 from ⟨by omega, by omega⟩) rfl hl.1 rfl (Nat.le_of_ble_eq_true rfl) dL_law_55 (fun H locs hw hS => ?_)
          refine W.eq (g2 := F0 m 58 ls [.int v_49]) rfl ?_
          refine lv_if_eq (tgt := 80) cx.1 cx.2.1 dL_law_58 (by decide) (fun hc => ?_) (fun hc => ?_)
          · rw [if_pos hc] at hf
            exact hB_80 S_50 tk _ _ _ _ _ (by omega) (by omega) hw hS (lv_sub hl [0, 1, 2] rfl) hf
          · rw [if_neg hc] at hf
            refine lv_aload_n cx.1 cx.2.1 dL_law_61 rfl (lv_at hl 1 rfl) ?_
            refine lv_aload_n cx.1 cx.2.1 dL_law_62 rfl (lv_at hl 2 rfl) ?_
            obtain ⟨v_51, S_52, hv, hf⟩ := gbs_some hf
            refine b_S (As := [.ref (G.2.1 0), .ref (K.2.1 0)]) (rest := []) cx hE.1 hX hZ hw hS (a_alike l hst G K S_50 v_51 S_52 hv) gw_827 gyl_L_alike gil_L_alike ⟨Nat.le_of_ble_eq_true rfl, Nat.le_of_ble_eq_true rfl⟩ (show cells + 0 + 1 + 6 + 1 + 143 + 886 ≤ 641088 ∧ slots + 0 + 6 + 36 + 6 + 858 + 5316 ≤ 7178434 from ⟨by omega, by omega⟩) rfl hl.1 rfl (Nat.le_of_ble_eq_true rfl) dL_law_63 (fun H locs hw hS => ?_)
            refine W.eq (g2 := F0 m 66 ls [.int v_51]) rfl ?_
            refine lv_if_eq (tgt := 80) cx.1 cx.2.1 dL_law_66 (by decide) (fun hc => ?_) (fun hc => ?_)
            · rw [if_pos hc] at hf
              exact hB_80 S_52 tk _ _ _ _ _ (by omega) (by omega) hw hS (lv_sub hl [0, 1, 2] rfl) hf
            · rw [if_neg hc] at hf
              refine lv_aload_n cx.1 cx.2.1 dL_law_69 rfl (lv_at hl 1 rfl) ?_
              obtain ⟨v_53, S_54, hv, hf⟩ := gbs_some hf
              refine b1_S (As := [.ref (G.2.1 0)]) (rest := []) cx hE.1 hX hZ hw hS hv (fun t ht => a_sound l hst G S_52.1 v_53 t ht) gw_830 gyl_L_sound gil_L_sound ⟨Nat.le_of_ble_eq_true rfl, Nat.le_of_ble_eq_true rfl⟩ (show cells + 0 + 1 + 6 + 1 + 143 + 886 + 1298 ≤ 641088 ∧ slots + 0 + 6 + 36 + 6 + 858 + 5316 + 7788 ≤ 7178434 from ⟨by omega, by omega⟩) rfl hl.1 rfl (Nat.le_of_ble_eq_true rfl) dL_law_70 (fun H locs hw hS => ?_)
              refine W.eq (g2 := F0 m 73 ls [.int v_53]) rfl ?_
              refine lv_if_eq (tgt := 80) cx.1 cx.2.1 dL_law_73 (by decide) (fun hc => ?_) (fun hc => ?_)
              · rw [if_pos hc] at hf
                exact hB_80 S_54 tk _ _ _ _ _ (by omega) (by omega) hw hS (lv_sub hl [0, 1, 2] rfl) hf
              · rw [if_neg hc] at hf
                refine lv_iconst (v := (1 : Int32)) cx.1 cx.2.1 dL_law_76 (by decide) ?_
                refine lv_goto (tgt := 81) cx.1 cx.2.1 dL_law_77 (by decide) ?_
                exact hB_81 S_54 tk (1 : Int32) _ _ _ _ _ (by omega) (by omega) hw hS (lv_sub hl [0, 1, 2] rfl) hf
