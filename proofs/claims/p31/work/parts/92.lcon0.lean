set_option maxHeartbeats 8000000 in
set_option maxRecDepth 100000 in
theorem a_put (l : Launch) (hst : l.stackTraces = false) (G K : gG) (a2 : Int32) (S : At2) (r : Int32) (S' : At2) (hf : h_put a2 S = some (r, S')) : gC l yL_put [Cond.code yL_put cL_put 3 (some .boolean)] (gRx 9 155 4 24) G (gN2 G K) (E2 G K) (gPB G K S) [.ref (G.2.1 0), .ref (K.2.1 0), .int a2] (some (.int r)) (gPB G K S') 4 24 := by
  refine gC_of (by decide) (Nat.le_of_ble_eq_true rfl) ?_
  intro p e s m below meth c ls cx hE hX hZ hr hlk hw hS hl
  have hN := cx.2.2.2.2.hN
  have hl : lv_has ls 3 [(0, .ref (G.2.1 0)), (1, .ref (K.2.1 0)), (2, .int a2)] := hl
  unfold h_put at hf
  refine lv_aload_n cx.1 cx.2.1 dL_put_0 rfl (lv_at hl 0 rfl) ?_
  refine lv_iload_n cx.1 cx.2.1 dL_put_1 rfl (lv_at hl 2 rfl) ?_
  obtain ⟨v_1, S_2, hv, hf⟩ := gbs_some hf
  refine b1_SW (As := [.ref (G.2.1 0), .int a2]) (rest := []) cx hE hX hZ hw hS hv (fun t ht => a_tryAppend l hst G a2 S.1 v_1 t ht) gw_811 gw_187 gyw_L_tryAppend ⟨by decide, by decide⟩ ⟨Nat.le_of_ble_eq_true rfl, Nat.le_of_ble_eq_true rfl⟩ (show 0 + 2 ≤ 4 ∧ 0 + 12 ≤ 24 from ⟨by omega, by omega⟩) rfl hl.1 rfl (Nat.le_of_ble_eq_true rfl) dL_put_2 (fun H locs hw hS => ?_)
  refine W.eq (g2 := F0 m 5 ls [.int v_1]) rfl ?_
  refine lv_if_le (tgt := 20) cx.1 cx.2.1 dL_put_5 (by decide) (fun hc => ?_) (fun hc => ?_)
  · rw [if_pos hc] at hf
    refine lv_iconst (v := (0 : Int32)) cx.1 cx.2.1 dL_put_20 (by decide) ?_
    exact al_zreti (P := (gPB G K)) cx hr hlk hw hS (by decide) hf dL_put_21 (by omega) (by omega)
  · rw [if_neg hc] at hf
    refine lv_aload_n cx.1 cx.2.1 dL_put_8 rfl (lv_at hl 1 rfl) ?_
    refine lv_iload_n cx.1 cx.2.1 dL_put_9 rfl (lv_at hl 2 rfl) ?_
    obtain ⟨v_3, S_4, hv, hf⟩ := gbs_some hf
    refine b2_SW (As := [.ref (K.2.1 0), .int a2]) (rest := []) cx hE hX hZ hw hS hv (fun t ht => a_tryAppend l hst K a2 S_2.2 v_3 t ht) gw_811 gw_187 gyw_L_tryAppend ⟨by decide, by decide⟩ ⟨Nat.le_of_ble_eq_true rfl, Nat.le_of_ble_eq_true rfl⟩ (show 0 + 2 + 2 ≤ 4 ∧ 0 + 12 + 12 ≤ 24 from ⟨by omega, by omega⟩) rfl hl.1 rfl (Nat.le_of_ble_eq_true rfl) dL_put_10 (fun H locs hw hS => ?_)
    refine W.eq (g2 := F0 m 13 ls [.int v_3]) rfl ?_
    refine lv_if_le (tgt := 20) cx.1 cx.2.1 dL_put_13 (by decide) (fun hc => ?_) (fun hc => ?_)
    · rw [if_pos hc] at hf
      refine lv_iconst (v := (0 : Int32)) cx.1 cx.2.1 dL_put_20 (by decide) ?_
      exact al_zreti (P := (gPB G K)) cx hr hlk hw hS (by decide) hf dL_put_21 (by omega) (by omega)
    · rw [if_neg hc] at hf
      refine lv_iconst (v := (1 : Int32)) cx.1 cx.2.1 dL_put_16 (by decide) ?_
      refine lv_goto (tgt := 21) cx.1 cx.2.1 dL_put_17 (by decide) ?_
      exact al_zreti (P := (gPB G K)) cx hr hlk hw hS (by decide) hf dL_put_21 (by omega) (by omega)
set_option maxHeartbeats 8000000 in
set_option maxRecDepth 100000 in
theorem a_alike (l : Launch) (hst : l.stackTraces = false) (G K : gG) (S : At2) (r : Int32) (S' : At2) (hf : h_alike S = some (r, S')) : gC l yL_alike [Cond.code yL_alike cL_alike 4 (some .boolean)] (gRx 10 179 886 5316) G (gN2 G K) (E2 G K) (gPB G K S) [.ref (G.2.1 0), .ref (K.2.1 0)] (some (.int r)) (gPB G K S') 886 5316 := by
  refine gC_of (by decide) (Nat.le_of_ble_eq_true rfl) ?_
  intro p e s m below meth c ls cx hE hX hZ hr hlk hw hS hl
  have hN := cx.2.2.2.2.hN
  have hL_181 : ∀ (n : Nat), ∀ (S : At2) (x2 : Int32) (x3 : Int32) (H : Heap) (locs : List Loc) (ls : Array Slot) (cells slots : Nat), cells + (1 + 5 * n) ≤ 886 → slots + (6 + 30 * n) ≤ 5316 → gPB G K S H → va_S (gAr (gN2 G K) s.heap.size) s.heap H locs → lv_has ls 4 [(0, .ref (G.2.1 0)), (1, .ref (K.2.1 0)), (2, .int x2), (3, .int x3)] → L_alike_181 n S x2 x3 = some (r, S') → W p l e (gRx 10 179 886 5316) s m ([.ref (G.2.1 0), .ref (K.2.1 0)] : List Value).toArray below meth c H locs cells slots (MQ below (gQr (gPB G K S') (some (.int r)) (gAr (gN2 G K) s.heap.size)) ([.ref (G.2.1 0), .ref (K.2.1 0)] : List Value).toArray s 886 5316 (gAr (gN2 G K) s.heap.size)) (F0 m 181 ls []) := by
    intro n_181
    induction n_181 with
    | zero => intro S x2 x3 H locs ls cells slots hcl hsl hw hS hl hf; cases hf
    | succ n_181 hK181 =>
      intro S x2 x3 H locs ls cells slots hcl hsl hw hS hl hf
      have hf : Lb_alike_181 (L_alike_181 n_181) S x2 x3 = some (r, S') := hf
      unfold Lb_alike_181 at hf
      refine lv_iload_n cx.1 cx.2.1 dL_alike_181 rfl (lv_at hl 3 rfl) ?_
      refine lv_bipush (v := (6 : Int32)) cx.1 cx.2.1 dL_alike_182 (by decide) ?_
      refine lv_aload_n cx.1 cx.2.1 dL_alike_184 rfl (lv_at hl 0 rfl) ?_
      refine lv_iconst (v := (2 : Int32)) cx.1 cx.2.1 dL_alike_185 (by decide) ?_
      obtain ⟨v_1, S_2, hv, hf⟩ := gbs_some hf
      refine b1_SW (As := [.ref (G.2.1 0), .int (2 : Int32)]) (rest := [.int (6 : Int32), .int x3]) cx hE hX hZ hw hS hv (fun t ht => a_tryAbout l hst G (2 : Int32) S.1 v_1 t ht) gw_185 gw_187 gyw_L_tryAbout ⟨by decide, by decide⟩ ⟨Nat.le_of_ble_eq_true rfl, Nat.le_of_ble_eq_true rfl⟩ (show cells + 1 ≤ 886 ∧ slots + 6 ≤ 5316 from ⟨by omega, by omega⟩) rfl hl.1 rfl (Nat.le_of_ble_eq_true rfl) dL_alike_186 (fun H locs hw hS => ?_)
      refine W.eq (g2 := F0 m 189 ls [.int v_1, .int (6 : Int32), .int x3]) rfl ?_
      refine lv_imul cx.1 cx.2.1 dL_alike_189 ?_
      refine lv_icmp_ge (tgt := 236) cx.1 cx.2.1 dL_alike_190 (by decide) (fun hc => ?_) (fun hc => ?_)
      · rw [if_pos hc] at hf
        refine lv_iload_n cx.1 cx.2.1 dL_alike_236 rfl (lv_at hl 2 rfl) ?_
        obtain ⟨hbo, hf⟩ := gck_some hf
        exact al_zreti (P := (gPB G K)) cx hr hlk hw hS hbo hf dL_alike_237 (by omega) (by omega)
      · rw [if_neg hc] at hf
        refine lv_iload_n cx.1 cx.2.1 dL_alike_193 rfl (lv_at hl 2 rfl) ?_
        refine lv_if_eq (tgt := 236) cx.1 cx.2.1 dL_alike_194 (by decide) (fun hc => ?_) (fun hc => ?_)
        · rw [if_pos hc] at hf
          refine lv_iload_n cx.1 cx.2.1 dL_alike_236 rfl (lv_at hl 2 rfl) ?_
          obtain ⟨hbo, hf⟩ := gck_some hf
          exact al_zreti (P := (gPB G K)) cx hr hlk hw hS hbo hf dL_alike_237 (by omega) (by omega)
        · rw [if_neg hc] at hf
          refine lv_aload_n cx.1 cx.2.1 dL_alike_197 rfl (lv_at hl 0 rfl) ?_
          refine lv_iload_n cx.1 cx.2.1 dL_alike_198 rfl (lv_at hl 3 rfl) ?_
          refine lv_bipush (v := (6 : Int32)) cx.1 cx.2.1 dL_alike_199 (by decide) ?_
          refine lv_idiv cx.1 cx.2.1 dL_alike_201 (by decide) ?_
          refine lv_iload_n cx.1 cx.2.1 dL_alike_202 rfl (lv_at hl 3 rfl) ?_
          refine lv_bipush (v := (6 : Int32)) cx.1 cx.2.1 dL_alike_203 (by decide) ?_
          refine lv_irem cx.1 cx.2.1 dL_alike_205 (by decide) ?_
          obtain ⟨v_3, S_4, hv, hf⟩ := gbs_some hf
          refine b1_SW (As := [.ref (G.2.1 0), .int (x3 / (6 : Int32)), .int (x3 - x3 / (6 : Int32) * (6 : Int32))]) (rest := []) cx hE hX hZ hw hS hv (fun t ht => a_tryContract l hst G (x3 / (6 : Int32)) (x3 - x3 / (6 : Int32) * (6 : Int32)) S_2.1 v_3 t ht) gw_416 gw_187 gyw_L_tryContract ⟨by decide, by decide⟩ ⟨Nat.le_of_ble_eq_true rfl, Nat.le_of_ble_eq_true rfl⟩ (show cells + 1 + 2 ≤ 886 ∧ slots + 6 + 12 ≤ 5316 from ⟨by omega, by omega⟩) rfl hl.1 rfl (Nat.le_of_ble_eq_true rfl) dL_alike_206 (fun H locs hw hS => ?_)
          refine W.eq (g2 := F0 m 209 ls [.int v_3]) rfl ?_
          refine lv_aload_n cx.1 cx.2.1 dL_alike_209 rfl (lv_at hl 1 rfl) ?_
          refine lv_iload_n cx.1 cx.2.1 dL_alike_210 rfl (lv_at hl 3 rfl) ?_
          refine lv_bipush (v := (6 : Int32)) cx.1 cx.2.1 dL_alike_211 (by decide) ?_
          refine lv_idiv cx.1 cx.2.1 dL_alike_213 (by decide) ?_
          refine lv_iload_n cx.1 cx.2.1 dL_alike_214 rfl (lv_at hl 3 rfl) ?_
          refine lv_bipush (v := (6 : Int32)) cx.1 cx.2.1 dL_alike_215 (by decide) ?_
          refine lv_irem cx.1 cx.2.1 dL_alike_217 (by decide) ?_
          obtain ⟨v_5, S_6, hv, hf⟩ := gbs_some hf
          refine b2_SW (As := [.ref (K.2.1 0), .int (x3 / (6 : Int32)), .int (x3 - x3 / (6 : Int32) * (6 : Int32))]) (rest := [.int v_3]) cx hE hX hZ hw hS hv (fun t ht => a_tryContract l hst K (x3 / (6 : Int32)) (x3 - x3 / (6 : Int32) * (6 : Int32)) S_4.2 v_5 t ht) gw_416 gw_187 gyw_L_tryContract ⟨by decide, by decide⟩ ⟨Nat.le_of_ble_eq_true rfl, Nat.le_of_ble_eq_true rfl⟩ (show cells + 1 + 2 + 2 ≤ 886 ∧ slots + 6 + 12 + 12 ≤ 5316 from ⟨by omega, by omega⟩) rfl hl.1 rfl (Nat.le_of_ble_eq_true rfl) dL_alike_218 (fun H locs hw hS => ?_)
          refine W.eq (g2 := F0 m 221 ls [.int v_5, .int v_3]) rfl ?_
          refine lv_icmp_ne (tgt := 228) cx.1 cx.2.1 dL_alike_221 (by decide) (fun hc => ?_) (fun hc => ?_)
          · rw [if_neg hc] at hf
            refine lv_iconst (v := (0 : Int32)) cx.1 cx.2.1 dL_alike_228 (by decide) ?_
            refine lv_istore_n (lv' := [(2, .int (0 : Int32)), (0, .ref (G.2.1 0)), (1, .ref (K.2.1 0)), (3, .int x3)]) cx.1 cx.2.1 dL_alike_229 rfl hl (by decide) rfl (fun ls hl => ?_)
            obtain ⟨x3_7, ex3_7, hf⟩ := gvi_ex hf
            refine lv_iinc (v := x3_7) (lv' := [(3, .int x3_7), (2, .int (0 : Int32)), (0, .ref (G.2.1 0)), (1, .ref (K.2.1 0))]) cx.1 cx.2.1 dL_alike_230 hl (k := 3) rfl (by rw [← ex3_7]; rfl) (by decide) rfl (fun ls hl => ?_)
            refine lv_goto (tgt := 181) cx.1 cx.2.1 dL_alike_233 (by decide) ?_
            exact hK181 S_6 (0 : Int32) x3_7 _ _ _ _ _ (by omega) (by omega) hw hS (lv_sub hl [2, 3, 1, 0] rfl) hf
          · rw [if_pos hc] at hf
            refine lv_iconst (v := (1 : Int32)) cx.1 cx.2.1 dL_alike_224 (by decide) ?_
            refine lv_goto (tgt := 229) cx.1 cx.2.1 dL_alike_225 (by decide) ?_
            refine lv_istore_n (lv' := [(2, .int (1 : Int32)), (0, .ref (G.2.1 0)), (1, .ref (K.2.1 0)), (3, .int x3)]) cx.1 cx.2.1 dL_alike_229 rfl hl (by decide) rfl (fun ls hl => ?_)
            obtain ⟨x3_8, ex3_8, hf⟩ := gvi_ex hf
            refine lv_iinc (v := x3_8) (lv' := [(3, .int x3_8), (2, .int (1 : Int32)), (0, .ref (G.2.1 0)), (1, .ref (K.2.1 0))]) cx.1 cx.2.1 dL_alike_230 hl (k := 3) rfl (by rw [← ex3_8]; rfl) (by decide) rfl (fun ls hl => ?_)
            refine lv_goto (tgt := 181) cx.1 cx.2.1 dL_alike_233 (by decide) ?_
            exact hK181 S_6 (1 : Int32) x3_8 _ _ _ _ _ (by omega) (by omega) hw hS (lv_sub hl [2, 3, 1, 0] rfl) hf
  have hL_129 : ∀ (n : Nat), ∀ (S : At2) (x2 : Int32) (x3 : Int32) (H : Heap) (locs : List Loc) (ls : Array Slot) (cells slots : Nat), cells + (247 + 5 * n) ≤ 886 → slots + (1482 + 30 * n) ≤ 5316 → gPB G K S H → va_S (gAr (gN2 G K) s.heap.size) s.heap H locs → lv_has ls 4 [(0, .ref (G.2.1 0)), (1, .ref (K.2.1 0)), (2, .int x2), (3, .int x3)] → L_alike_129 n S x2 x3 = some (r, S') → W p l e (gRx 10 179 886 5316) s m ([.ref (G.2.1 0), .ref (K.2.1 0)] : List Value).toArray below meth c H locs cells slots (MQ below (gQr (gPB G K S') (some (.int r)) (gAr (gN2 G K) s.heap.size)) ([.ref (G.2.1 0), .ref (K.2.1 0)] : List Value).toArray s 886 5316 (gAr (gN2 G K) s.heap.size)) (F0 m 129 ls []) := by
    intro n_129
    induction n_129 with
    | zero => intro S x2 x3 H locs ls cells slots hcl hsl hw hS hl hf; cases hf
    | succ n_129 hK129 =>
      intro S x2 x3 H locs ls cells slots hcl hsl hw hS hl hf
      have hf : Lb_alike_129 (L_alike_129 n_129) S x2 x3 = some (r, S') := hf
      unfold Lb_alike_129 at hf
      refine lv_iload_n cx.1 cx.2.1 dL_alike_129 rfl (lv_at hl 3 rfl) ?_
      refine lv_iconst (v := (4 : Int32)) cx.1 cx.2.1 dL_alike_130 (by decide) ?_
      refine lv_aload_n cx.1 cx.2.1 dL_alike_131 rfl (lv_at hl 0 rfl) ?_
      refine lv_iconst (v := (1 : Int32)) cx.1 cx.2.1 dL_alike_132 (by decide) ?_
      obtain ⟨v_9, S_10, hv, hf⟩ := gbs_some hf
      refine b1_SW (As := [.ref (G.2.1 0), .int (1 : Int32)]) (rest := [.int (4 : Int32), .int x3]) cx hE hX hZ hw hS hv (fun t ht => a_tryAbout l hst G (1 : Int32) S.1 v_9 t ht) gw_185 gw_187 gyw_L_tryAbout ⟨by decide, by decide⟩ ⟨Nat.le_of_ble_eq_true rfl, Nat.le_of_ble_eq_true rfl⟩ (show cells + 1 ≤ 886 ∧ slots + 6 ≤ 5316 from ⟨by omega, by omega⟩) rfl hl.1 rfl (Nat.le_of_ble_eq_true rfl) dL_alike_133 (fun H locs hw hS => ?_)
      refine W.eq (g2 := F0 m 136 ls [.int v_9, .int (4 : Int32), .int x3]) rfl ?_
      refine lv_imul cx.1 cx.2.1 dL_alike_136 ?_
      refine lv_icmp_ge (tgt := 179) cx.1 cx.2.1 dL_alike_137 (by decide) (fun hc => ?_) (fun hc => ?_)
      · rw [if_pos hc] at hf
        refine lv_iconst (v := (0 : Int32)) cx.1 cx.2.1 dL_alike_179 (by decide) ?_
        refine lv_istore_n (lv' := [(3, .int (0 : Int32)), (0, .ref (G.2.1 0)), (1, .ref (K.2.1 0)), (2, .int x2)]) cx.1 cx.2.1 dL_alike_180 rfl hl (by decide) rfl (fun ls hl => ?_)
        exact hL_181 49 S_10 x2 (0 : Int32) _ _ _ _ _ (by omega) (by omega) hw hS (lv_sub hl [1, 2, 3, 0] rfl) hf
      · rw [if_neg hc] at hf
        refine lv_iload_n cx.1 cx.2.1 dL_alike_140 rfl (lv_at hl 2 rfl) ?_
        refine lv_if_eq (tgt := 179) cx.1 cx.2.1 dL_alike_141 (by decide) (fun hc => ?_) (fun hc => ?_)
        · rw [if_pos hc] at hf
          refine lv_iconst (v := (0 : Int32)) cx.1 cx.2.1 dL_alike_179 (by decide) ?_
          refine lv_istore_n (lv' := [(3, .int (0 : Int32)), (0, .ref (G.2.1 0)), (1, .ref (K.2.1 0)), (2, .int x2)]) cx.1 cx.2.1 dL_alike_180 rfl hl (by decide) rfl (fun ls hl => ?_)
          exact hL_181 49 S_10 x2 (0 : Int32) _ _ _ _ _ (by omega) (by omega) hw hS (lv_sub hl [1, 2, 3, 0] rfl) hf
        · rw [if_neg hc] at hf
          refine lv_aload_n cx.1 cx.2.1 dL_alike_144 rfl (lv_at hl 0 rfl) ?_
          refine lv_iload_n cx.1 cx.2.1 dL_alike_145 rfl (lv_at hl 3 rfl) ?_
          refine lv_iconst (v := (4 : Int32)) cx.1 cx.2.1 dL_alike_146 (by decide) ?_
          refine lv_idiv cx.1 cx.2.1 dL_alike_147 (by decide) ?_
          refine lv_iload_n cx.1 cx.2.1 dL_alike_148 rfl (lv_at hl 3 rfl) ?_
          refine lv_iconst (v := (4 : Int32)) cx.1 cx.2.1 dL_alike_149 (by decide) ?_
          refine lv_irem cx.1 cx.2.1 dL_alike_150 (by decide) ?_
          obtain ⟨v_11, S_12, hv, hf⟩ := gbs_some hf
          refine b1_SW (As := [.ref (G.2.1 0), .int (x3 / (4 : Int32)), .int (x3 - x3 / (4 : Int32) * (4 : Int32))]) (rest := []) cx hE hX hZ hw hS hv (fun t ht => a_tryTrack l hst G (x3 / (4 : Int32)) (x3 - x3 / (4 : Int32) * (4 : Int32)) S_10.1 v_11 t ht) gw_366 gw_187 gyw_L_tryTrack ⟨by decide, by decide⟩ ⟨Nat.le_of_ble_eq_true rfl, Nat.le_of_ble_eq_true rfl⟩ (show cells + 1 + 2 ≤ 886 ∧ slots + 6 + 12 ≤ 5316 from ⟨by omega, by omega⟩) rfl hl.1 rfl (Nat.le_of_ble_eq_true rfl) dL_alike_151 (fun H locs hw hS => ?_)
          refine W.eq (g2 := F0 m 154 ls [.int v_11]) rfl ?_
          refine lv_aload_n cx.1 cx.2.1 dL_alike_154 rfl (lv_at hl 1 rfl) ?_
          refine lv_iload_n cx.1 cx.2.1 dL_alike_155 rfl (lv_at hl 3 rfl) ?_
          refine lv_iconst (v := (4 : Int32)) cx.1 cx.2.1 dL_alike_156 (by decide) ?_
          refine lv_idiv cx.1 cx.2.1 dL_alike_157 (by decide) ?_
          refine lv_iload_n cx.1 cx.2.1 dL_alike_158 rfl (lv_at hl 3 rfl) ?_
          refine lv_iconst (v := (4 : Int32)) cx.1 cx.2.1 dL_alike_159 (by decide) ?_
          refine lv_irem cx.1 cx.2.1 dL_alike_160 (by decide) ?_
          obtain ⟨v_13, S_14, hv, hf⟩ := gbs_some hf
          refine b2_SW (As := [.ref (K.2.1 0), .int (x3 / (4 : Int32)), .int (x3 - x3 / (4 : Int32) * (4 : Int32))]) (rest := [.int v_11]) cx hE hX hZ hw hS hv (fun t ht => a_tryTrack l hst K (x3 / (4 : Int32)) (x3 - x3 / (4 : Int32) * (4 : Int32)) S_12.2 v_13 t ht) gw_366 gw_187 gyw_L_tryTrack ⟨by decide, by decide⟩ ⟨Nat.le_of_ble_eq_true rfl, Nat.le_of_ble_eq_true rfl⟩ (show cells + 1 + 2 + 2 ≤ 886 ∧ slots + 6 + 12 + 12 ≤ 5316 from ⟨by omega, by omega⟩) rfl hl.1 rfl (Nat.le_of_ble_eq_true rfl) dL_alike_161 (fun H locs hw hS => ?_)
          refine W.eq (g2 := F0 m 164 ls [.int v_13, .int v_11]) rfl ?_
          refine lv_icmp_ne (tgt := 171) cx.1 cx.2.1 dL_alike_164 (by decide) (fun hc => ?_) (fun hc => ?_)
          · rw [if_neg hc] at hf
            refine lv_iconst (v := (0 : Int32)) cx.1 cx.2.1 dL_alike_171 (by decide) ?_
            refine lv_istore_n (lv' := [(2, .int (0 : Int32)), (0, .ref (G.2.1 0)), (1, .ref (K.2.1 0)), (3, .int x3)]) cx.1 cx.2.1 dL_alike_172 rfl hl (by decide) rfl (fun ls hl => ?_)
            obtain ⟨x3_15, ex3_15, hf⟩ := gvi_ex hf
            refine lv_iinc (v := x3_15) (lv' := [(3, .int x3_15), (2, .int (0 : Int32)), (0, .ref (G.2.1 0)), (1, .ref (K.2.1 0))]) cx.1 cx.2.1 dL_alike_173 hl (k := 3) rfl (by rw [← ex3_15]; rfl) (by decide) rfl (fun ls hl => ?_)
            refine lv_goto (tgt := 129) cx.1 cx.2.1 dL_alike_176 (by decide) ?_
            exact hK129 S_14 (0 : Int32) x3_15 _ _ _ _ _ (by omega) (by omega) hw hS (lv_sub hl [2, 3, 1, 0] rfl) hf
          · rw [if_pos hc] at hf
            refine lv_iconst (v := (1 : Int32)) cx.1 cx.2.1 dL_alike_167 (by decide) ?_
            refine lv_goto (tgt := 172) cx.1 cx.2.1 dL_alike_168 (by decide) ?_
            refine lv_istore_n (lv' := [(2, .int (1 : Int32)), (0, .ref (G.2.1 0)), (1, .ref (K.2.1 0)), (3, .int x3)]) cx.1 cx.2.1 dL_alike_172 rfl hl (by decide) rfl (fun ls hl => ?_)
            obtain ⟨x3_16, ex3_16, hf⟩ := gvi_ex hf
            refine lv_iinc (v := x3_16) (lv' := [(3, .int x3_16), (2, .int (1 : Int32)), (0, .ref (G.2.1 0)), (1, .ref (K.2.1 0))]) cx.1 cx.2.1 dL_alike_173 hl (k := 3) rfl (by rw [← ex3_16]; rfl) (by decide) rfl (fun ls hl => ?_)
            refine lv_goto (tgt := 129) cx.1 cx.2.1 dL_alike_176 (by decide) ?_
            exact hK129 S_14 (1 : Int32) x3_16 _ _ _ _ _ (by omega) (by omega) hw hS (lv_sub hl [2, 3, 1, 0] rfl) hf
  have hB_119 : ∀ (K41 : At2 → Int32 → Int32 → Option (Int32 × At2)) (n_41 : Nat) (hK41 : ∀ (S : At2) (x2 : Int32) (x3 : Int32) (H : Heap) (locs : List Loc) (ls : Array Slot) (cells slots : Nat), cells + (572 + 10 * n_41) ≤ 886 → slots + (3432 + 60 * n_41) ≤ 5316 → gPB G K S H → va_S (gAr (gN2 G K) s.heap.size) s.heap H locs → lv_has ls 4 [(0, .ref (G.2.1 0)), (1, .ref (K.2.1 0)), (2, .int x2), (3, .int x3)] → K41 S x2 x3 = some (r, S') → W p l e (gRx 10 179 886 5316) s m ([.ref (G.2.1 0), .ref (K.2.1 0)] : List Value).toArray below meth c H locs cells slots (MQ below (gQr (gPB G K S') (some (.int r)) (gAr (gN2 G K) s.heap.size)) ([.ref (G.2.1 0), .ref (K.2.1 0)] : List Value).toArray s 886 5316 (gAr (gN2 G K) s.heap.size)) (F0 m 41 ls [])), ∀ (S : At2) (x3 : Int32) (H : Heap) (locs : List Loc) (ls : Array Slot) (cells slots : Nat), cells + (572 + 10 * n_41) ≤ 886 → slots + (3432 + 60 * n_41) ≤ 5316 → gPB G K S H → va_S (gAr (gN2 G K) s.heap.size) s.heap H locs → lv_has ls 4 [(0, .ref (G.2.1 0)), (1, .ref (K.2.1 0)), (3, .int x3)] → B_alike_119 K41 S x3 = some (r, S') → W p l e (gRx 10 179 886 5316) s m ([.ref (G.2.1 0), .ref (K.2.1 0)] : List Value).toArray below meth c H locs cells slots (MQ below (gQr (gPB G K S') (some (.int r)) (gAr (gN2 G K) s.heap.size)) ([.ref (G.2.1 0), .ref (K.2.1 0)] : List Value).toArray s 886 5316 (gAr (gN2 G K) s.heap.size)) (F0 m 119 ls []) := by
    intro K41 n_41 hK41 S x3 H locs ls cells slots hcl hsl hw hS hl hf
    unfold B_alike_119 at hf
    refine lv_iconst (v := (0 : Int32)) cx.1 cx.2.1 dL_alike_119 (by decide) ?_
    refine lv_istore_n (lv' := [(2, .int (0 : Int32)), (0, .ref (G.2.1 0)), (1, .ref (K.2.1 0)), (3, .int x3)]) cx.1 cx.2.1 dL_alike_120 rfl hl (by decide) rfl (fun ls hl => ?_)
    obtain ⟨x3_17, ex3_17, hf⟩ := gvi_ex hf
    refine lv_iinc (v := x3_17) (lv' := [(3, .int x3_17), (2, .int (0 : Int32)), (0, .ref (G.2.1 0)), (1, .ref (K.2.1 0))]) cx.1 cx.2.1 dL_alike_121 hl (k := 3) rfl (by rw [← ex3_17]; rfl) (by decide) rfl (fun ls hl => ?_)
    refine lv_goto (tgt := 41) cx.1 cx.2.1 dL_alike_124 (by decide) ?_
    exact hK41 S (0 : Int32) x3_17 _ _ _ _ _ (by omega) (by omega) hw hS (lv_sub hl [2, 3, 1, 0] rfl) hf
  have hL_41 : ∀ (n : Nat), ∀ (S : At2) (x2 : Int32) (x3 : Int32) (H : Heap) (locs : List Loc) (ls : Array Slot) (cells slots : Nat), cells + (572 + 10 * n) ≤ 886 → slots + (3432 + 60 * n) ≤ 5316 → gPB G K S H → va_S (gAr (gN2 G K) s.heap.size) s.heap H locs → lv_has ls 4 [(0, .ref (G.2.1 0)), (1, .ref (K.2.1 0)), (2, .int x2), (3, .int x3)] → L_alike_41 n S x2 x3 = some (r, S') → W p l e (gRx 10 179 886 5316) s m ([.ref (G.2.1 0), .ref (K.2.1 0)] : List Value).toArray below meth c H locs cells slots (MQ below (gQr (gPB G K S') (some (.int r)) (gAr (gN2 G K) s.heap.size)) ([.ref (G.2.1 0), .ref (K.2.1 0)] : List Value).toArray s 886 5316 (gAr (gN2 G K) s.heap.size)) (F0 m 41 ls []) := by
    intro n_41
    induction n_41 with
    | zero => intro S x2 x3 H locs ls cells slots hcl hsl hw hS hl hf; cases hf
    | succ n_41 hK41 =>
      intro S x2 x3 H locs ls cells slots hcl hsl hw hS hl hf
      have hf : Lb_alike_41 (L_alike_41 n_41) S x2 x3 = some (r, S') := hf
      unfold Lb_alike_41 at hf
      refine lv_iload_n cx.1 cx.2.1 dL_alike_41 rfl (lv_at hl 3 rfl) ?_
      refine lv_bipush (v := (28 : Int32)) cx.1 cx.2.1 dL_alike_42 (by decide) ?_
      refine lv_icmp_ge (tgt := 127) cx.1 cx.2.1 dL_alike_44 (by decide) (fun hc => ?_) (fun hc => ?_)
      · rw [if_pos hc] at hf
        refine lv_iconst (v := (0 : Int32)) cx.1 cx.2.1 dL_alike_127 (by decide) ?_
        refine lv_istore_n (lv' := [(3, .int (0 : Int32)), (0, .ref (G.2.1 0)), (1, .ref (K.2.1 0)), (2, .int x2)]) cx.1 cx.2.1 dL_alike_128 rfl hl (by decide) rfl (fun ls hl => ?_)
        exact hL_129 65 S x2 (0 : Int32) _ _ _ _ _ (by omega) (by omega) hw hS (lv_sub hl [1, 2, 3, 0] rfl) hf
      · rw [if_neg hc] at hf
        refine lv_iload_n cx.1 cx.2.1 dL_alike_47 rfl (lv_at hl 2 rfl) ?_
        refine lv_if_eq (tgt := 127) cx.1 cx.2.1 dL_alike_48 (by decide) (fun hc => ?_) (fun hc => ?_)
        · rw [if_pos hc] at hf
          refine lv_iconst (v := (0 : Int32)) cx.1 cx.2.1 dL_alike_127 (by decide) ?_
          refine lv_istore_n (lv' := [(3, .int (0 : Int32)), (0, .ref (G.2.1 0)), (1, .ref (K.2.1 0)), (2, .int x2)]) cx.1 cx.2.1 dL_alike_128 rfl hl (by decide) rfl (fun ls hl => ?_)
          exact hL_129 65 S x2 (0 : Int32) _ _ _ _ _ (by omega) (by omega) hw hS (lv_sub hl [1, 2, 3, 0] rfl) hf
        · rw [if_neg hc] at hf
          refine lv_aload_n cx.1 cx.2.1 dL_alike_51 rfl (lv_at hl 0 rfl) ?_
          refine lv_iload_n cx.1 cx.2.1 dL_alike_52 rfl (lv_at hl 3 rfl) ?_
          refine lv_bipush (v := (7 : Int32)) cx.1 cx.2.1 dL_alike_53 (by decide) ?_
          refine lv_idiv cx.1 cx.2.1 dL_alike_55 (by decide) ?_
          refine lv_iload_n cx.1 cx.2.1 dL_alike_56 rfl (lv_at hl 3 rfl) ?_
          refine lv_bipush (v := (7 : Int32)) cx.1 cx.2.1 dL_alike_57 (by decide) ?_
          refine lv_irem cx.1 cx.2.1 dL_alike_59 (by decide) ?_
          obtain ⟨v_18, S_19, hv, hf⟩ := gbs_some hf
          refine b1_SW (As := [.ref (G.2.1 0), .int (x3 / (7 : Int32)), .int (x3 - x3 / (7 : Int32) * (7 : Int32))]) (rest := []) cx hE hX hZ hw hS hv (fun t ht => a_tryCompany l hst G (x3 / (7 : Int32)) (x3 - x3 / (7 : Int32) * (7 : Int32)) S.1 v_18 t ht) gw_349 gw_187 gyw_L_tryCompany ⟨by decide, by decide⟩ ⟨Nat.le_of_ble_eq_true rfl, Nat.le_of_ble_eq_true rfl⟩ (show cells + 2 ≤ 886 ∧ slots + 12 ≤ 5316 from ⟨by omega, by omega⟩) rfl hl.1 rfl (Nat.le_of_ble_eq_true rfl) dL_alike_60 (fun H locs hw hS => ?_)
          refine W.eq (g2 := F0 m 63 ls [.int v_18]) rfl ?_
          refine lv_aload_n cx.1 cx.2.1 dL_alike_63 rfl (lv_at hl 1 rfl) ?_
          refine lv_iload_n cx.1 cx.2.1 dL_alike_64 rfl (lv_at hl 3 rfl) ?_
          refine lv_bipush (v := (7 : Int32)) cx.1 cx.2.1 dL_alike_65 (by decide) ?_
          refine lv_idiv cx.1 cx.2.1 dL_alike_67 (by decide) ?_
          refine lv_iload_n cx.1 cx.2.1 dL_alike_68 rfl (lv_at hl 3 rfl) ?_
          refine lv_bipush (v := (7 : Int32)) cx.1 cx.2.1 dL_alike_69 (by decide) ?_
          refine lv_irem cx.1 cx.2.1 dL_alike_71 (by decide) ?_
          obtain ⟨v_20, S_21, hv, hf⟩ := gbs_some hf
          refine b2_SW (As := [.ref (K.2.1 0), .int (x3 / (7 : Int32)), .int (x3 - x3 / (7 : Int32) * (7 : Int32))]) (rest := [.int v_18]) cx hE hX hZ hw hS hv (fun t ht => a_tryCompany l hst K (x3 / (7 : Int32)) (x3 - x3 / (7 : Int32) * (7 : Int32)) S_19.2 v_20 t ht) gw_349 gw_187 gyw_L_tryCompany ⟨by decide, by decide⟩ ⟨Nat.le_of_ble_eq_true rfl, Nat.le_of_ble_eq_true rfl⟩ (show cells + 2 + 2 ≤ 886 ∧ slots + 12 + 12 ≤ 5316 from ⟨by omega, by omega⟩) rfl hl.1 rfl (Nat.le_of_ble_eq_true rfl) dL_alike_72 (fun H locs hw hS => ?_)
          refine W.eq (g2 := F0 m 75 ls [.int v_20, .int v_18]) rfl ?_
          refine lv_icmp_ne (tgt := 119) cx.1 cx.2.1 dL_alike_75 (by decide) (fun hc => ?_) (fun hc => ?_)
          · rw [if_neg hc] at hf
            exact hB_119 (L_alike_41 n_41) n_41 hK41 S_21 x3 _ _ _ _ _ (by omega) (by omega) hw hS (lv_sub hl [0, 1, 3] rfl) hf
          · rw [if_pos hc] at hf
            refine lv_aload_n cx.1 cx.2.1 dL_alike_78 rfl (lv_at hl 0 rfl) ?_
            refine lv_iload_n cx.1 cx.2.1 dL_alike_79 rfl (lv_at hl 3 rfl) ?_
            refine lv_bipush (v := (7 : Int32)) cx.1 cx.2.1 dL_alike_80 (by decide) ?_
            refine lv_idiv cx.1 cx.2.1 dL_alike_82 (by decide) ?_
            refine lv_iload_n cx.1 cx.2.1 dL_alike_83 rfl (lv_at hl 3 rfl) ?_
            refine lv_bipush (v := (7 : Int32)) cx.1 cx.2.1 dL_alike_84 (by decide) ?_
            refine lv_irem cx.1 cx.2.1 dL_alike_86 (by decide) ?_
            refine lv_iconst (v := (2 : Int32)) cx.1 cx.2.1 dL_alike_87 (by decide) ?_
            refine lv_idiv cx.1 cx.2.1 dL_alike_88 (by decide) ?_
            refine lv_iload_n cx.1 cx.2.1 dL_alike_89 rfl (lv_at hl 3 rfl) ?_
            refine lv_iconst (v := (2 : Int32)) cx.1 cx.2.1 dL_alike_90 (by decide) ?_
            refine lv_irem cx.1 cx.2.1 dL_alike_91 (by decide) ?_
            obtain ⟨v_22, S_23, hv, hf⟩ := gbs_some hf
            refine b1_SW (As := [.ref (G.2.1 0), .int (x3 / (7 : Int32)), .int ((x3 - x3 / (7 : Int32) * (7 : Int32)) / (2 : Int32)), .int (x3 - x3 / (2 : Int32) * (2 : Int32))]) (rest := []) cx hE hX hZ hw hS hv (fun t ht => a_tryTrain l hst G (x3 / (7 : Int32)) ((x3 - x3 / (7 : Int32) * (7 : Int32)) / (2 : Int32)) (x3 - x3 / (2 : Int32) * (2 : Int32)) S_21.1 v_22 t ht) gw_389 gw_187 gyw_L_tryTrain ⟨by decide, by decide⟩ ⟨Nat.le_of_ble_eq_true rfl, Nat.le_of_ble_eq_true rfl⟩ (show cells + 2 + 2 + 3 ≤ 886 ∧ slots + 12 + 12 + 18 ≤ 5316 from ⟨by omega, by omega⟩) rfl hl.1 rfl (Nat.le_of_ble_eq_true rfl) dL_alike_92 (fun H locs hw hS => ?_)
            refine W.eq (g2 := F0 m 95 ls [.int v_22]) rfl ?_
            refine lv_aload_n cx.1 cx.2.1 dL_alike_95 rfl (lv_at hl 1 rfl) ?_
            refine lv_iload_n cx.1 cx.2.1 dL_alike_96 rfl (lv_at hl 3 rfl) ?_
            refine lv_bipush (v := (7 : Int32)) cx.1 cx.2.1 dL_alike_97 (by decide) ?_
            refine lv_idiv cx.1 cx.2.1 dL_alike_99 (by decide) ?_
            refine lv_iload_n cx.1 cx.2.1 dL_alike_100 rfl (lv_at hl 3 rfl) ?_
            refine lv_bipush (v := (7 : Int32)) cx.1 cx.2.1 dL_alike_101 (by decide) ?_
            refine lv_irem cx.1 cx.2.1 dL_alike_103 (by decide) ?_
            refine lv_iconst (v := (2 : Int32)) cx.1 cx.2.1 dL_alike_104 (by decide) ?_
            refine lv_idiv cx.1 cx.2.1 dL_alike_105 (by decide) ?_
            refine lv_iload_n cx.1 cx.2.1 dL_alike_106 rfl (lv_at hl 3 rfl) ?_
            refine lv_iconst (v := (2 : Int32)) cx.1 cx.2.1 dL_alike_107 (by decide) ?_
            refine lv_irem cx.1 cx.2.1 dL_alike_108 (by decide) ?_
            obtain ⟨v_24, S_25, hv, hf⟩ := gbs_some hf
            refine b2_SW (As := [.ref (K.2.1 0), .int (x3 / (7 : Int32)), .int ((x3 - x3 / (7 : Int32) * (7 : Int32)) / (2 : Int32)), .int (x3 - x3 / (2 : Int32) * (2 : Int32))]) (rest := [.int v_22]) cx hE hX hZ hw hS hv (fun t ht => a_tryTrain l hst K (x3 / (7 : Int32)) ((x3 - x3 / (7 : Int32) * (7 : Int32)) / (2 : Int32)) (x3 - x3 / (2 : Int32) * (2 : Int32)) S_23.2 v_24 t ht) gw_389 gw_187 gyw_L_tryTrain ⟨by decide, by decide⟩ ⟨Nat.le_of_ble_eq_true rfl, Nat.le_of_ble_eq_true rfl⟩ (show cells + 2 + 2 + 3 + 3 ≤ 886 ∧ slots + 12 + 12 + 18 + 18 ≤ 5316 from ⟨by omega, by omega⟩) rfl hl.1 rfl (Nat.le_of_ble_eq_true rfl) dL_alike_109 (fun H locs hw hS => ?_)
            refine W.eq (g2 := F0 m 112 ls [.int v_24, .int v_22]) rfl ?_
            refine lv_icmp_ne (tgt := 119) cx.1 cx.2.1 dL_alike_112 (by decide) (fun hc => ?_) (fun hc => ?_)
            · rw [if_neg hc] at hf
              exact hB_119 (L_alike_41 n_41) n_41 hK41 S_25 x3 _ _ _ _ _ (by omega) (by omega) hw hS (lv_sub hl [0, 1, 3] rfl) hf
            · rw [if_pos hc] at hf
              refine lv_iconst (v := (1 : Int32)) cx.1 cx.2.1 dL_alike_115 (by decide) ?_
              refine lv_goto (tgt := 120) cx.1 cx.2.1 dL_alike_116 (by decide) ?_
              refine lv_istore_n (lv' := [(2, .int (1 : Int32)), (0, .ref (G.2.1 0)), (1, .ref (K.2.1 0)), (3, .int x3)]) cx.1 cx.2.1 dL_alike_120 rfl hl (by decide) rfl (fun ls hl => ?_)
              obtain ⟨x3_26, ex3_26, hf⟩ := gvi_ex hf
              refine lv_iinc (v := x3_26) (lv' := [(3, .int x3_26), (2, .int (1 : Int32)), (0, .ref (G.2.1 0)), (1, .ref (K.2.1 0))]) cx.1 cx.2.1 dL_alike_121 hl (k := 3) rfl (by rw [← ex3_26]; rfl) (by decide) rfl (fun ls hl => ?_)
              refine lv_goto (tgt := 41) cx.1 cx.2.1 dL_alike_124 (by decide) ?_
              exact hK41 S_25 (1 : Int32) x3_26 _ _ _ _ _ (by omega) (by omega) hw hS (lv_sub hl [2, 3, 1, 0] rfl) hf
  have hB_31 : ∀ (K4 : At2 → Int32 → Int32 → Option (Int32 × At2)) (n_4 : Nat) (hK4 : ∀ (S : At2) (x2 : Int32) (x3 : Int32) (H : Heap) (locs : List Loc) (ls : Array Slot) (cells slots : Nat), cells + (862 + 2 * n_4) ≤ 886 → slots + (5172 + 12 * n_4) ≤ 5316 → gPB G K S H → va_S (gAr (gN2 G K) s.heap.size) s.heap H locs → lv_has ls 4 [(0, .ref (G.2.1 0)), (1, .ref (K.2.1 0)), (2, .int x2), (3, .int x3)] → K4 S x2 x3 = some (r, S') → W p l e (gRx 10 179 886 5316) s m ([.ref (G.2.1 0), .ref (K.2.1 0)] : List Value).toArray below meth c H locs cells slots (MQ below (gQr (gPB G K S') (some (.int r)) (gAr (gN2 G K) s.heap.size)) ([.ref (G.2.1 0), .ref (K.2.1 0)] : List Value).toArray s 886 5316 (gAr (gN2 G K) s.heap.size)) (F0 m 4 ls [])), ∀ (S : At2) (x3 : Int32) (H : Heap) (locs : List Loc) (ls : Array Slot) (cells slots : Nat), cells + (862 + 2 * n_4) ≤ 886 → slots + (5172 + 12 * n_4) ≤ 5316 → gPB G K S H → va_S (gAr (gN2 G K) s.heap.size) s.heap H locs → lv_has ls 4 [(0, .ref (G.2.1 0)), (1, .ref (K.2.1 0)), (3, .int x3)] → B_alike_31 K4 S x3 = some (r, S') → W p l e (gRx 10 179 886 5316) s m ([.ref (G.2.1 0), .ref (K.2.1 0)] : List Value).toArray below meth c H locs cells slots (MQ below (gQr (gPB G K S') (some (.int r)) (gAr (gN2 G K) s.heap.size)) ([.ref (G.2.1 0), .ref (K.2.1 0)] : List Value).toArray s 886 5316 (gAr (gN2 G K) s.heap.size)) (F0 m 31 ls []) := by
    intro K4 n_4 hK4 S x3 H locs ls cells slots hcl hsl hw hS hl hf
    unfold B_alike_31 at hf
    refine lv_iconst (v := (0 : Int32)) cx.1 cx.2.1 dL_alike_31 (by decide) ?_
    refine lv_istore_n (lv' := [(2, .int (0 : Int32)), (0, .ref (G.2.1 0)), (1, .ref (K.2.1 0)), (3, .int x3)]) cx.1 cx.2.1 dL_alike_32 rfl hl (by decide) rfl (fun ls hl => ?_)
    obtain ⟨x3_27, ex3_27, hf⟩ := gvi_ex hf
    refine lv_iinc (v := x3_27) (lv' := [(3, .int x3_27), (2, .int (0 : Int32)), (0, .ref (G.2.1 0)), (1, .ref (K.2.1 0))]) cx.1 cx.2.1 dL_alike_33 hl (k := 3) rfl (by rw [← ex3_27]; rfl) (by decide) rfl (fun ls hl => ?_)
    refine lv_goto (tgt := 4) cx.1 cx.2.1 dL_alike_36 (by decide) ?_
    exact hK4 S (0 : Int32) x3_27 _ _ _ _ _ (by omega) (by omega) hw hS (lv_sub hl [2, 3, 1, 0] rfl) hf
  have hL_4 : ∀ (n : Nat), ∀ (S : At2) (x2 : Int32) (x3 : Int32) (H : Heap) (locs : List Loc) (ls : Array Slot) (cells slots : Nat), cells + (862 + 2 * n) ≤ 886 → slots + (5172 + 12 * n) ≤ 5316 → gPB G K S H → va_S (gAr (gN2 G K) s.heap.size) s.heap H locs → lv_has ls 4 [(0, .ref (G.2.1 0)), (1, .ref (K.2.1 0)), (2, .int x2), (3, .int x3)] → L_alike_4 n S x2 x3 = some (r, S') → W p l e (gRx 10 179 886 5316) s m ([.ref (G.2.1 0), .ref (K.2.1 0)] : List Value).toArray below meth c H locs cells slots (MQ below (gQr (gPB G K S') (some (.int r)) (gAr (gN2 G K) s.heap.size)) ([.ref (G.2.1 0), .ref (K.2.1 0)] : List Value).toArray s 886 5316 (gAr (gN2 G K) s.heap.size)) (F0 m 4 ls []) := by
    intro n_4
    induction n_4 with
    | zero => intro S x2 x3 H locs ls cells slots hcl hsl hw hS hl hf; cases hf
    | succ n_4 hK4 =>
      intro S x2 x3 H locs ls cells slots hcl hsl hw hS hl hf
      have hf : Lb_alike_4 (L_alike_4 n_4) S x2 x3 = some (r, S') := hf
      unfold Lb_alike_4 at hf
      refine lv_iload_n cx.1 cx.2.1 dL_alike_4 rfl (lv_at hl 3 rfl) ?_
      refine lv_bipush (v := (11 : Int32)) cx.1 cx.2.1 dL_alike_5 (by decide) ?_
      refine lv_icmp_ge (tgt := 39) cx.1 cx.2.1 dL_alike_7 (by decide) (fun hc => ?_) (fun hc => ?_)
      · rw [if_pos hc] at hf
        refine lv_iconst (v := (0 : Int32)) cx.1 cx.2.1 dL_alike_39 (by decide) ?_
        refine lv_istore_n (lv' := [(3, .int (0 : Int32)), (0, .ref (G.2.1 0)), (1, .ref (K.2.1 0)), (2, .int x2)]) cx.1 cx.2.1 dL_alike_40 rfl hl (by decide) rfl (fun ls hl => ?_)
        exact hL_41 29 S x2 (0 : Int32) _ _ _ _ _ (by omega) (by omega) hw hS (lv_sub hl [1, 2, 3, 0] rfl) hf
      · rw [if_neg hc] at hf
        refine lv_iload_n cx.1 cx.2.1 dL_alike_10 rfl (lv_at hl 2 rfl) ?_
        refine lv_if_eq (tgt := 31) cx.1 cx.2.1 dL_alike_11 (by decide) (fun hc => ?_) (fun hc => ?_)
        · rw [if_pos hc] at hf
          exact hB_31 (L_alike_4 n_4) n_4 hK4 S x3 _ _ _ _ _ (by omega) (by omega) hw hS (lv_sub hl [0, 1, 3] rfl) hf
        · rw [if_neg hc] at hf
          refine lv_aload_n cx.1 cx.2.1 dL_alike_14 rfl (lv_at hl 0 rfl) ?_
          refine lv_iload_n cx.1 cx.2.1 dL_alike_15 rfl (lv_at hl 3 rfl) ?_
          obtain ⟨v_28, S_29, hv, hf⟩ := gbs_some hf
          refine b1_SW (As := [.ref (G.2.1 0), .int x3]) (rest := []) cx hE hX hZ hw hS hv (fun t ht => a_tryAbout l hst G x3 S.1 v_28 t ht) gw_185 gw_187 gyw_L_tryAbout ⟨by decide, by decide⟩ ⟨Nat.le_of_ble_eq_true rfl, Nat.le_of_ble_eq_true rfl⟩ (show cells + 1 ≤ 886 ∧ slots + 6 ≤ 5316 from ⟨by omega, by omega⟩) rfl hl.1 rfl (Nat.le_of_ble_eq_true rfl) dL_alike_16 (fun H locs hw hS => ?_)
          refine W.eq (g2 := F0 m 19 ls [.int v_28]) rfl ?_
          refine lv_aload_n cx.1 cx.2.1 dL_alike_19 rfl (lv_at hl 1 rfl) ?_
          refine lv_iload_n cx.1 cx.2.1 dL_alike_20 rfl (lv_at hl 3 rfl) ?_
          obtain ⟨v_30, S_31, hv, hf⟩ := gbs_some hf
          refine b2_SW (As := [.ref (K.2.1 0), .int x3]) (rest := [.int v_28]) cx hE hX hZ hw hS hv (fun t ht => a_tryAbout l hst K x3 S_29.2 v_30 t ht) gw_185 gw_187 gyw_L_tryAbout ⟨by decide, by decide⟩ ⟨Nat.le_of_ble_eq_true rfl, Nat.le_of_ble_eq_true rfl⟩ (show cells + 1 + 1 ≤ 886 ∧ slots + 6 + 6 ≤ 5316 from ⟨by omega, by omega⟩) rfl hl.1 rfl (Nat.le_of_ble_eq_true rfl) dL_alike_21 (fun H locs hw hS => ?_)
          refine W.eq (g2 := F0 m 24 ls [.int v_30, .int v_28]) rfl ?_
          refine lv_icmp_ne (tgt := 31) cx.1 cx.2.1 dL_alike_24 (by decide) (fun hc => ?_) (fun hc => ?_)
          · rw [if_neg hc] at hf
            exact hB_31 (L_alike_4 n_4) n_4 hK4 S_31 x3 _ _ _ _ _ (by omega) (by omega) hw hS (lv_sub hl [0, 1, 3] rfl) hf
          · rw [if_pos hc] at hf
            refine lv_iconst (v := (1 : Int32)) cx.1 cx.2.1 dL_alike_27 (by decide) ?_
            refine lv_goto (tgt := 32) cx.1 cx.2.1 dL_alike_28 (by decide) ?_
            refine lv_istore_n (lv' := [(2, .int (1 : Int32)), (0, .ref (G.2.1 0)), (1, .ref (K.2.1 0)), (3, .int x3)]) cx.1 cx.2.1 dL_alike_32 rfl hl (by decide) rfl (fun ls hl => ?_)
            obtain ⟨x3_32, ex3_32, hf⟩ := gvi_ex hf
            refine lv_iinc (v := x3_32) (lv' := [(3, .int x3_32), (2, .int (1 : Int32)), (0, .ref (G.2.1 0)), (1, .ref (K.2.1 0))]) cx.1 cx.2.1 dL_alike_33 hl (k := 3) rfl (by rw [← ex3_32]; rfl) (by decide) rfl (fun ls hl => ?_)
            refine lv_goto (tgt := 4) cx.1 cx.2.1 dL_alike_36 (by decide) ?_
            exact hK4 S_31 (1 : Int32) x3_32 _ _ _ _ _ (by omega) (by omega) hw hS (lv_sub hl [2, 3, 1, 0] rfl) hf
  have hl : lv_has ls 4 [(0, .ref (G.2.1 0)), (1, .ref (K.2.1 0))] := hl
  unfold h_alike at hf
  refine lv_iconst (v := (1 : Int32)) cx.1 cx.2.1 dL_alike_0 (by decide) ?_
  refine lv_istore_n (lv' := [(2, .int (1 : Int32)), (0, .ref (G.2.1 0)), (1, .ref (K.2.1 0))]) cx.1 cx.2.1 dL_alike_1 rfl hl (by decide) rfl (fun ls hl => ?_)
  refine lv_iconst (v := (0 : Int32)) cx.1 cx.2.1 dL_alike_2 (by decide) ?_
  refine lv_istore_n (lv' := [(3, .int (0 : Int32)), (2, .int (1 : Int32)), (0, .ref (G.2.1 0)), (1, .ref (K.2.1 0))]) cx.1 cx.2.1 dL_alike_3 rfl hl (by decide) rfl (fun ls hl => ?_)
  exact hL_4 12 S (1 : Int32) (0 : Int32) _ _ _ _ _ (by omega) (by omega) hw hS (lv_sub hl [2, 3, 1, 0] rfl) hf
set_option maxHeartbeats 8000000 in
set_option maxRecDepth 100000 in
theorem a_refuses (l : Launch) (hst : l.stackTraces = false) (G : gG) (S : At) (r : Int32) (S' : At) (hf : h_refuses S = some (r, S')) : gC l yL_refuses [Cond.code yL_refuses cL_refuses 6 (some .boolean)] (gRx 11 223 143 858) G (gNo G) E0 (gPA G S) [.ref (G.2.1 0)] (some (.int r)) (gPA G S') 143 858 := by
  refine gC_of (by decide) (Nat.le_of_ble_eq_true rfl) ?_
  intro p e s m below meth c ls cx hE hX hZ hr hlk hw hS hl
  have hN := cx.2.2.2.2.hN
  have hB_377 : ∀ (S : At) (x1 : Int32) (x3 : Int32) (t0 : Int32) (H : Heap) (locs : List Loc) (ls : Array Slot) (cells slots : Nat), cells + (53) ≤ 143 → slots + (318) ≤ 858 → gPA G S H → va_S (gAr (gNo G) s.heap.size) s.heap H locs → lv_has ls 6 [(0, .ref (G.2.1 0)), (1, .int x1), (3, .int x3)] → B_refuses_377 S x1 x3 t0 = some (r, S') → W p l e (gRx 11 223 143 858) s m ([.ref (G.2.1 0)] : List Value).toArray below meth c H locs cells slots (MQ below (gQr (gPA G S') (some (.int r)) (gAr (gNo G) s.heap.size)) ([.ref (G.2.1 0)] : List Value).toArray s 143 858 (gAr (gNo G) s.heap.size)) (F0 m 377 ls [.int t0]) := by
    intro S x1 x3 t0 H locs ls cells slots hcl hsl hw hS hl hf
    unfold B_refuses_377 at hf
    refine lv_istore (lv' := [(5, .int t0), (0, .ref (G.2.1 0)), (1, .int x1), (3, .int x3)]) cx.1 cx.2.1 dL_refuses_377 hl (by decide) rfl (fun ls hl => ?_)
    refine lv_iload cx.1 cx.2.1 dL_refuses_379 (lv_at hl 0 rfl) ?_
    refine lv_if_eq (tgt := 614) cx.1 cx.2.1 dL_refuses_381 (by decide) (fun hc => ?_) (fun hc => ?_)
    · rw [if_pos hc] at hf
      refine lv_iconst (v := (0 : Int32)) cx.1 cx.2.1 dL_refuses_614 (by decide) ?_
      exact al_zreti (P := (gPA G)) cx hr hlk hw hS (by decide) hf dL_refuses_615 (by omega) (by omega)
    · rw [if_neg hc] at hf
      refine lv_aload_n cx.1 cx.2.1 dL_refuses_384 rfl (lv_at hl 1 rfl) ?_
      refine lv_iconst (v := (4 : Int32)) cx.1 cx.2.1 dL_refuses_385 (by decide) ?_
      refine lv_iconst (v := (0 : Int32)) cx.1 cx.2.1 dL_refuses_386 (by decide) ?_
      refine lv_iconst (v := (0 : Int32)) cx.1 cx.2.1 dL_refuses_387 (by decide) ?_
      refine lv_iconst (v := (0 : Int32)) cx.1 cx.2.1 dL_refuses_388 (by decide) ?_
      refine lv_iconst (v := (0 : Int32)) cx.1 cx.2.1 dL_refuses_389 (by decide) ?_
      obtain ⟨v_1, S_2, hv, hf⟩ := gbs_some hf
      refine a_SW (As := [.ref (G.2.1 0), .int (4 : Int32), .int (0 : Int32), .int (0 : Int32), .int (0 : Int32), .int (0 : Int32)]) (rest := []) cx hX hZ hw hS (a_tryWay l hst G (4 : Int32) (0 : Int32) (0 : Int32) (0 : Int32) (0 : Int32) S v_1 S_2 hv) gw_214 gw_187 gyw_L_tryWay ⟨by decide, by decide⟩ ⟨Nat.le_of_ble_eq_true rfl, Nat.le_of_ble_eq_true rfl⟩ (show cells + 6 ≤ 143 ∧ slots + 36 ≤ 858 from ⟨by omega, by omega⟩) rfl hl.1 rfl (Nat.le_of_ble_eq_true rfl) dL_refuses_390 (fun H locs hw hS => ?_)
      refine W.eq (g2 := F0 m 393 ls [.int v_1]) rfl ?_
      refine lv_ldc cx.1 cx.2.1 cx.2.2.2.1 (cx.2.2.2.2.ts _ gw_218) dL_refuses_393 ?_
      refine lv_icmp_ne (tgt := 614) cx.1 cx.2.1 dL_refuses_395 (by decide) (fun hc => ?_) (fun hc => ?_)
      · rw [if_neg hc] at hf
        refine lv_iconst (v := (0 : Int32)) cx.1 cx.2.1 dL_refuses_614 (by decide) ?_
        exact al_zreti (P := (gPA G)) cx hr hlk hw hS (by decide) hf dL_refuses_615 (by omega) (by omega)
      · rw [if_pos hc] at hf
        refine lv_aload_n cx.1 cx.2.1 dL_refuses_398 rfl (lv_at hl 1 rfl) ?_
        refine lv_iconst (v := (0 : Int32)) cx.1 cx.2.1 dL_refuses_399 (by decide) ?_
        refine lv_iload_n cx.1 cx.2.1 dL_refuses_400 rfl (lv_at hl 2 rfl) ?_
        refine lv_iconst (v := (0 : Int32)) cx.1 cx.2.1 dL_refuses_401 (by decide) ?_
        refine lv_iconst (v := (0 : Int32)) cx.1 cx.2.1 dL_refuses_402 (by decide) ?_
        refine lv_iconst (v := (0 : Int32)) cx.1 cx.2.1 dL_refuses_403 (by decide) ?_
        obtain ⟨v_3, S_4, hv, hf⟩ := gbs_some hf
        refine a_SW (As := [.ref (G.2.1 0), .int (0 : Int32), .int x1, .int (0 : Int32), .int (0 : Int32), .int (0 : Int32)]) (rest := []) cx hX hZ hw hS (a_tryWay l hst G (0 : Int32) x1 (0 : Int32) (0 : Int32) (0 : Int32) S_2 v_3 S_4 hv) gw_214 gw_187 gyw_L_tryWay ⟨by decide, by decide⟩ ⟨Nat.le_of_ble_eq_true rfl, Nat.le_of_ble_eq_true rfl⟩ (show cells + 6 + 6 ≤ 143 ∧ slots + 36 + 36 ≤ 858 from ⟨by omega, by omega⟩) rfl hl.1 rfl (Nat.le_of_ble_eq_true rfl) dL_refuses_404 (fun H locs hw hS => ?_)
        refine W.eq (g2 := F0 m 407 ls [.int v_3]) rfl ?_
        refine lv_ldc cx.1 cx.2.1 cx.2.2.2.1 (cx.2.2.2.2.ts _ gw_218) dL_refuses_407 ?_
        refine lv_icmp_ne (tgt := 614) cx.1 cx.2.1 dL_refuses_409 (by decide) (fun hc => ?_) (fun hc => ?_)
        · rw [if_neg hc] at hf
          refine lv_iconst (v := (0 : Int32)) cx.1 cx.2.1 dL_refuses_614 (by decide) ?_
          exact al_zreti (P := (gPA G)) cx hr hlk hw hS (by decide) hf dL_refuses_615 (by omega) (by omega)
        · rw [if_pos hc] at hf
          refine lv_aload_n cx.1 cx.2.1 dL_refuses_412 rfl (lv_at hl 1 rfl) ?_
          refine lv_iconst (v := (0 : Int32)) cx.1 cx.2.1 dL_refuses_413 (by decide) ?_
          refine lv_iconst (v := (1 : Int32)) cx.1 cx.2.1 dL_refuses_414 (by decide) ?_
          refine lv_iconst (v := (1 : Int32)) cx.1 cx.2.1 dL_refuses_415 (by decide) ?_
          refine lv_iconst (v := (1 : Int32)) cx.1 cx.2.1 dL_refuses_416 (by decide) ?_
          refine lv_iconst (v := (0 : Int32)) cx.1 cx.2.1 dL_refuses_417 (by decide) ?_
          obtain ⟨v_5, S_6, hv, hf⟩ := gbs_some hf
          refine a_SW (As := [.ref (G.2.1 0), .int (0 : Int32), .int (1 : Int32), .int (1 : Int32), .int (1 : Int32), .int (0 : Int32)]) (rest := []) cx hX hZ hw hS (a_tryWay l hst G (0 : Int32) (1 : Int32) (1 : Int32) (1 : Int32) (0 : Int32) S_4 v_5 S_6 hv) gw_214 gw_187 gyw_L_tryWay ⟨by decide, by decide⟩ ⟨Nat.le_of_ble_eq_true rfl, Nat.le_of_ble_eq_true rfl⟩ (show cells + 6 + 6 + 6 ≤ 143 ∧ slots + 36 + 36 + 36 ≤ 858 from ⟨by omega, by omega⟩) rfl hl.1 rfl (Nat.le_of_ble_eq_true rfl) dL_refuses_418 (fun H locs hw hS => ?_)
          refine W.eq (g2 := F0 m 421 ls [.int v_5]) rfl ?_
          refine lv_ldc cx.1 cx.2.1 cx.2.2.2.1 (cx.2.2.2.2.ts _ gw_190) dL_refuses_421 ?_
          refine lv_icmp_ne (tgt := 614) cx.1 cx.2.1 dL_refuses_423 (by decide) (fun hc => ?_) (fun hc => ?_)
          · rw [if_neg hc] at hf
            refine lv_iconst (v := (0 : Int32)) cx.1 cx.2.1 dL_refuses_614 (by decide) ?_
            exact al_zreti (P := (gPA G)) cx hr hlk hw hS (by decide) hf dL_refuses_615 (by omega) (by omega)
          · rw [if_pos hc] at hf
            refine lv_aload_n cx.1 cx.2.1 dL_refuses_426 rfl (lv_at hl 1 rfl) ?_
            refine lv_iconst (v := (0 : Int32)) cx.1 cx.2.1 dL_refuses_427 (by decide) ?_
            refine lv_iconst (v := (0 : Int32)) cx.1 cx.2.1 dL_refuses_428 (by decide) ?_
            refine lv_iconst (v := (1 : Int32)) cx.1 cx.2.1 dL_refuses_429 (by decide) ?_
            refine lv_bipush (v := (25 : Int32)) cx.1 cx.2.1 dL_refuses_430 (by decide) ?_
            refine lv_iconst (v := (0 : Int32)) cx.1 cx.2.1 dL_refuses_432 (by decide) ?_
            obtain ⟨v_7, S_8, hv, hf⟩ := gbs_some hf
            refine a_SW (As := [.ref (G.2.1 0), .int (0 : Int32), .int (0 : Int32), .int (1 : Int32), .int (25 : Int32), .int (0 : Int32)]) (rest := []) cx hX hZ hw hS (a_tryWay l hst G (0 : Int32) (0 : Int32) (1 : Int32) (25 : Int32) (0 : Int32) S_6 v_7 S_8 hv) gw_214 gw_187 gyw_L_tryWay ⟨by decide, by decide⟩ ⟨Nat.le_of_ble_eq_true rfl, Nat.le_of_ble_eq_true rfl⟩ (show cells + 6 + 6 + 6 + 6 ≤ 143 ∧ slots + 36 + 36 + 36 + 36 ≤ 858 from ⟨by omega, by omega⟩) rfl hl.1 rfl (Nat.le_of_ble_eq_true rfl) dL_refuses_433 (fun H locs hw hS => ?_)
            refine W.eq (g2 := F0 m 436 ls [.int v_7]) rfl ?_
            refine lv_ldc cx.1 cx.2.1 cx.2.2.2.1 (cx.2.2.2.2.ts _ gw_190) dL_refuses_436 ?_
            refine lv_icmp_ne (tgt := 614) cx.1 cx.2.1 dL_refuses_438 (by decide) (fun hc => ?_) (fun hc => ?_)
            · rw [if_neg hc] at hf
              refine lv_iconst (v := (0 : Int32)) cx.1 cx.2.1 dL_refuses_614 (by decide) ?_
              exact al_zreti (P := (gPA G)) cx hr hlk hw hS (by decide) hf dL_refuses_615 (by omega) (by omega)
            · rw [if_pos hc] at hf
              refine lv_aload_n cx.1 cx.2.1 dL_refuses_441 rfl (lv_at hl 1 rfl) ?_
              refine lv_iconst (v := (0 : Int32)) cx.1 cx.2.1 dL_refuses_442 (by decide) ?_
              refine lv_iconst (v := (0 : Int32)) cx.1 cx.2.1 dL_refuses_443 (by decide) ?_
              refine lv_iconst (v := (1 : Int32)) cx.1 cx.2.1 dL_refuses_444 (by decide) ?_
              refine lv_iconst (v := (1 : Int32)) cx.1 cx.2.1 dL_refuses_445 (by decide) ?_
              refine lv_iconst (v := (4 : Int32)) cx.1 cx.2.1 dL_refuses_446 (by decide) ?_
              obtain ⟨v_9, S_10, hv, hf⟩ := gbs_some hf
              refine a_SW (As := [.ref (G.2.1 0), .int (0 : Int32), .int (0 : Int32), .int (1 : Int32), .int (1 : Int32), .int (4 : Int32)]) (rest := []) cx hX hZ hw hS (a_tryWay l hst G (0 : Int32) (0 : Int32) (1 : Int32) (1 : Int32) (4 : Int32) S_8 v_9 S_10 hv) gw_214 gw_187 gyw_L_tryWay ⟨by decide, by decide⟩ ⟨Nat.le_of_ble_eq_true rfl, Nat.le_of_ble_eq_true rfl⟩ (show cells + 6 + 6 + 6 + 6 + 6 ≤ 143 ∧ slots + 36 + 36 + 36 + 36 + 36 ≤ 858 from ⟨by omega, by omega⟩) rfl hl.1 rfl (Nat.le_of_ble_eq_true rfl) dL_refuses_447 (fun H locs hw hS => ?_)
              refine W.eq (g2 := F0 m 450 ls [.int v_9]) rfl ?_
              refine lv_ldc cx.1 cx.2.1 cx.2.2.2.1 (cx.2.2.2.2.ts _ gw_190) dL_refuses_450 ?_
              refine lv_icmp_ne (tgt := 614) cx.1 cx.2.1 dL_refuses_452 (by decide) (fun hc => ?_) (fun hc => ?_)
              · rw [if_neg hc] at hf
                refine lv_iconst (v := (0 : Int32)) cx.1 cx.2.1 dL_refuses_614 (by decide) ?_
                exact al_zreti (P := (gPA G)) cx hr hlk hw hS (by decide) hf dL_refuses_615 (by omega) (by omega)
              · rw [if_pos hc] at hf
                refine lv_aload_n cx.1 cx.2.1 dL_refuses_455 rfl (lv_at hl 1 rfl) ?_
                refine lv_iload_n cx.1 cx.2.1 dL_refuses_456 rfl (lv_at hl 3 rfl) ?_
                refine lv_iconst (v := (0 : Int32)) cx.1 cx.2.1 dL_refuses_457 (by decide) ?_
                obtain ⟨v_11, S_12, hv, hf⟩ := gbs_some hf
                refine a_SW (As := [.ref (G.2.1 0), .int x3, .int (0 : Int32)]) (rest := []) cx hX hZ hw hS (a_tryWhyNot l hst G x3 (0 : Int32) S_10 v_11 S_12 hv) gw_577 gw_187 gyw_L_tryWhyNot ⟨by decide, by decide⟩ ⟨Nat.le_of_ble_eq_true rfl, Nat.le_of_ble_eq_true rfl⟩ (show cells + 6 + 6 + 6 + 6 + 6 + 2 ≤ 143 ∧ slots + 36 + 36 + 36 + 36 + 36 + 12 ≤ 858 from ⟨by omega, by omega⟩) rfl hl.1 rfl (Nat.le_of_ble_eq_true rfl) dL_refuses_458 (fun H locs hw hS => ?_)
                refine W.eq (g2 := F0 m 461 ls [.int v_11]) rfl ?_
                refine lv_ldc cx.1 cx.2.1 cx.2.2.2.1 (cx.2.2.2.2.ts _ gw_218) dL_refuses_461 ?_
                refine lv_icmp_ne (tgt := 614) cx.1 cx.2.1 dL_refuses_463 (by decide) (fun hc => ?_) (fun hc => ?_)
                · rw [if_neg hc] at hf
                  refine lv_iconst (v := (0 : Int32)) cx.1 cx.2.1 dL_refuses_614 (by decide) ?_
                  exact al_zreti (P := (gPA G)) cx hr hlk hw hS (by decide) hf dL_refuses_615 (by omega) (by omega)
                · rw [if_pos hc] at hf
                  refine lv_aload_n cx.1 cx.2.1 dL_refuses_466 rfl (lv_at hl 1 rfl) ?_
                  refine lv_iconst (v := (4 : Int32)) cx.1 cx.2.1 dL_refuses_467 (by decide) ?_
                  refine lv_iconst (v := (0 : Int32)) cx.1 cx.2.1 dL_refuses_468 (by decide) ?_
                  obtain ⟨v_13, S_14, hv, hf⟩ := gbs_some hf
                  refine a_SW (As := [.ref (G.2.1 0), .int (4 : Int32), .int (0 : Int32)]) (rest := []) cx hX hZ hw hS (a_tryLevelFor l hst G (4 : Int32) (0 : Int32) S_12 v_13 S_14 hv) gw_584 gw_187 gyw_L_tryLevelFor ⟨by decide, by decide⟩ ⟨Nat.le_of_ble_eq_true rfl, Nat.le_of_ble_eq_true rfl⟩ (show cells + 6 + 6 + 6 + 6 + 6 + 2 + 2 ≤ 143 ∧ slots + 36 + 36 + 36 + 36 + 36 + 12 + 12 ≤ 858 from ⟨by omega, by omega⟩) rfl hl.1 rfl (Nat.le_of_ble_eq_true rfl) dL_refuses_469 (fun H locs hw hS => ?_)
                  refine W.eq (g2 := F0 m 472 ls [.int v_13]) rfl ?_
                  refine lv_ldc cx.1 cx.2.1 cx.2.2.2.1 (cx.2.2.2.2.ts _ gw_218) dL_refuses_472 ?_
                  refine lv_icmp_ne (tgt := 614) cx.1 cx.2.1 dL_refuses_474 (by decide) (fun hc => ?_) (fun hc => ?_)
                  · rw [if_neg hc] at hf
                    refine lv_iconst (v := (0 : Int32)) cx.1 cx.2.1 dL_refuses_614 (by decide) ?_
                    exact al_zreti (P := (gPA G)) cx hr hlk hw hS (by decide) hf dL_refuses_615 (by omega) (by omega)
                  · rw [if_pos hc] at hf
                    refine lv_aload_n cx.1 cx.2.1 dL_refuses_477 rfl (lv_at hl 1 rfl) ?_
                    refine lv_iconst (v := (0 : Int32)) cx.1 cx.2.1 dL_refuses_478 (by decide) ?_
                    refine lv_iload_n cx.1 cx.2.1 dL_refuses_479 rfl (lv_at hl 3 rfl) ?_
                    obtain ⟨v_15, S_16, hv, hf⟩ := gbs_some hf
                    refine a_SW (As := [.ref (G.2.1 0), .int (0 : Int32), .int x3]) (rest := []) cx hX hZ hw hS (a_tryLevelFor l hst G (0 : Int32) x3 S_14 v_15 S_16 hv) gw_584 gw_187 gyw_L_tryLevelFor ⟨by decide, by decide⟩ ⟨Nat.le_of_ble_eq_true rfl, Nat.le_of_ble_eq_true rfl⟩ (show cells + 6 + 6 + 6 + 6 + 6 + 2 + 2 + 2 ≤ 143 ∧ slots + 36 + 36 + 36 + 36 + 36 + 12 + 12 + 12 ≤ 858 from ⟨by omega, by omega⟩) rfl hl.1 rfl (Nat.le_of_ble_eq_true rfl) dL_refuses_480 (fun H locs hw hS => ?_)
                    refine W.eq (g2 := F0 m 483 ls [.int v_15]) rfl ?_
                    refine lv_ldc cx.1 cx.2.1 cx.2.2.2.1 (cx.2.2.2.2.ts _ gw_218) dL_refuses_483 ?_
                    refine lv_icmp_ne (tgt := 614) cx.1 cx.2.1 dL_refuses_485 (by decide) (fun hc => ?_) (fun hc => ?_)
                    · rw [if_neg hc] at hf
                      refine lv_iconst (v := (0 : Int32)) cx.1 cx.2.1 dL_refuses_614 (by decide) ?_
                      exact al_zreti (P := (gPA G)) cx hr hlk hw hS (by decide) hf dL_refuses_615 (by omega) (by omega)
                    · rw [if_pos hc] at hf
                      refine lv_aload_n cx.1 cx.2.1 dL_refuses_488 rfl (lv_at hl 1 rfl) ?_
                      refine lv_iconst (v := (-1 : Int32)) cx.1 cx.2.1 dL_refuses_489 (by decide) ?_
                      obtain ⟨v_17, S_18, hv, hf⟩ := gbs_some hf
                      refine a_SW (As := [.ref (G.2.1 0), .int (-1 : Int32)]) (rest := []) cx hX hZ hw hS (a_tryBestContract l hst G (-1 : Int32) S_16 v_17 S_18 hv) gw_595 gw_187 gyw_L_tryBestContract ⟨by decide, by decide⟩ ⟨Nat.le_of_ble_eq_true rfl, Nat.le_of_ble_eq_true rfl⟩ (show cells + 6 + 6 + 6 + 6 + 6 + 2 + 2 + 2 + 1 ≤ 143 ∧ slots + 36 + 36 + 36 + 36 + 36 + 12 + 12 + 12 + 6 ≤ 858 from ⟨by omega, by omega⟩) rfl hl.1 rfl (Nat.le_of_ble_eq_true rfl) dL_refuses_490 (fun H locs hw hS => ?_)
                      refine W.eq (g2 := F0 m 493 ls [.int v_17]) rfl ?_
                      refine lv_ldc cx.1 cx.2.1 cx.2.2.2.1 (cx.2.2.2.2.ts _ gw_218) dL_refuses_493 ?_
                      refine lv_icmp_ne (tgt := 614) cx.1 cx.2.1 dL_refuses_495 (by decide) (fun hc => ?_) (fun hc => ?_)
                      · rw [if_neg hc] at hf
                        refine lv_iconst (v := (0 : Int32)) cx.1 cx.2.1 dL_refuses_614 (by decide) ?_
                        exact al_zreti (P := (gPA G)) cx hr hlk hw hS (by decide) hf dL_refuses_615 (by omega) (by omega)
                      · rw [if_pos hc] at hf
                        refine lv_aload_n cx.1 cx.2.1 dL_refuses_498 rfl (lv_at hl 1 rfl) ?_
                        refine lv_iconst (v := (4 : Int32)) cx.1 cx.2.1 dL_refuses_499 (by decide) ?_
                        refine lv_bipush (v := (51 : Int32)) cx.1 cx.2.1 dL_refuses_500 (by decide) ?_
                        obtain ⟨v_19, S_20, hv, hf⟩ := gbs_some hf
                        refine a_SW (As := [.ref (G.2.1 0), .int (4 : Int32), .int (51 : Int32)]) (rest := []) cx hX hZ hw hS (a_tryCoinsAfter l hst G (4 : Int32) (51 : Int32) S_18 v_19 S_20 hv) gw_615 gw_187 gyw_L_tryCoinsAfter ⟨by decide, by decide⟩ ⟨Nat.le_of_ble_eq_true rfl, Nat.le_of_ble_eq_true rfl⟩ (show cells + 6 + 6 + 6 + 6 + 6 + 2 + 2 + 2 + 1 + 2 ≤ 143 ∧ slots + 36 + 36 + 36 + 36 + 36 + 12 + 12 + 12 + 6 + 12 ≤ 858 from ⟨by omega, by omega⟩) rfl hl.1 rfl (Nat.le_of_ble_eq_true rfl) dL_refuses_502 (fun H locs hw hS => ?_)
                        refine W.eq (g2 := F0 m 505 ls [.int v_19]) rfl ?_
                        refine lv_ldc cx.1 cx.2.1 cx.2.2.2.1 (cx.2.2.2.2.ts _ gw_218) dL_refuses_505 ?_
                        refine lv_icmp_ne (tgt := 614) cx.1 cx.2.1 dL_refuses_507 (by decide) (fun hc => ?_) (fun hc => ?_)
                        · rw [if_neg hc] at hf
                          refine lv_iconst (v := (0 : Int32)) cx.1 cx.2.1 dL_refuses_614 (by decide) ?_
                          exact al_zreti (P := (gPA G)) cx hr hlk hw hS (by decide) hf dL_refuses_615 (by omega) (by omega)
                        · rw [if_pos hc] at hf
                          refine lv_aload_n cx.1 cx.2.1 dL_refuses_510 rfl (lv_at hl 1 rfl) ?_
                          refine lv_iconst (v := (0 : Int32)) cx.1 cx.2.1 dL_refuses_511 (by decide) ?_
                          refine lv_bipush (v := (51 : Int32)) cx.1 cx.2.1 dL_refuses_512 (by decide) ?_
                          obtain ⟨v_21, S_22, hv, hf⟩ := gbs_some hf
                          refine a_SW (As := [.ref (G.2.1 0), .int (0 : Int32), .int (51 : Int32)]) (rest := []) cx hX hZ hw hS (a_tryCoinsAfter l hst G (0 : Int32) (51 : Int32) S_20 v_21 S_22 hv) gw_615 gw_187 gyw_L_tryCoinsAfter ⟨by decide, by decide⟩ ⟨Nat.le_of_ble_eq_true rfl, Nat.le_of_ble_eq_true rfl⟩ (show cells + 6 + 6 + 6 + 6 + 6 + 2 + 2 + 2 + 1 + 2 + 2 ≤ 143 ∧ slots + 36 + 36 + 36 + 36 + 36 + 12 + 12 + 12 + 6 + 12 + 12 ≤ 858 from ⟨by omega, by omega⟩) rfl hl.1 rfl (Nat.le_of_ble_eq_true rfl) dL_refuses_514 (fun H locs hw hS => ?_)
                          refine W.eq (g2 := F0 m 517 ls [.int v_21]) rfl ?_
                          refine lv_ldc cx.1 cx.2.1 cx.2.2.2.1 (cx.2.2.2.2.ts _ gw_190) dL_refuses_517 ?_
                          refine lv_icmp_ne (tgt := 614) cx.1 cx.2.1 dL_refuses_519 (by decide) (fun hc => ?_) (fun hc => ?_)
                          · rw [if_neg hc] at hf
                            refine lv_iconst (v := (0 : Int32)) cx.1 cx.2.1 dL_refuses_614 (by decide) ?_
                            exact al_zreti (P := (gPA G)) cx hr hlk hw hS (by decide) hf dL_refuses_615 (by omega) (by omega)
                          · rw [if_pos hc] at hf
                            refine lv_aload_n cx.1 cx.2.1 dL_refuses_522 rfl (lv_at hl 1 rfl) ?_
                            refine lv_iconst (v := (4 : Int32)) cx.1 cx.2.1 dL_refuses_523 (by decide) ?_
                            obtain ⟨v_23, S_24, hv, hf⟩ := gbs_some hf
                            refine a_SW (As := [.ref (G.2.1 0), .int (4 : Int32)]) (rest := []) cx hX hZ hw hS (a_tryBankruptAfter l hst G (4 : Int32) S_22 v_23 S_24 hv) gw_668 gw_187 gyw_L_tryBankruptAfter ⟨by decide, by decide⟩ ⟨Nat.le_of_ble_eq_true rfl, Nat.le_of_ble_eq_true rfl⟩ (show cells + 6 + 6 + 6 + 6 + 6 + 2 + 2 + 2 + 1 + 2 + 2 + 1 ≤ 143 ∧ slots + 36 + 36 + 36 + 36 + 36 + 12 + 12 + 12 + 6 + 12 + 12 + 6 ≤ 858 from ⟨by omega, by omega⟩) rfl hl.1 rfl (Nat.le_of_ble_eq_true rfl) dL_refuses_524 (fun H locs hw hS => ?_)
                            refine W.eq (g2 := F0 m 527 ls [.int v_23]) rfl ?_
                            refine lv_ldc cx.1 cx.2.1 cx.2.2.2.1 (cx.2.2.2.2.ts _ gw_218) dL_refuses_527 ?_
                            refine lv_icmp_ne (tgt := 614) cx.1 cx.2.1 dL_refuses_529 (by decide) (fun hc => ?_) (fun hc => ?_)
                            · rw [if_neg hc] at hf
                              refine lv_iconst (v := (0 : Int32)) cx.1 cx.2.1 dL_refuses_614 (by decide) ?_
                              exact al_zreti (P := (gPA G)) cx hr hlk hw hS (by decide) hf dL_refuses_615 (by omega) (by omega)
                            · rw [if_pos hc] at hf
                              refine lv_aload_n cx.1 cx.2.1 dL_refuses_532 rfl (lv_at hl 1 rfl) ?_
                              refine lv_iconst (v := (-1 : Int32)) cx.1 cx.2.1 dL_refuses_533 (by decide) ?_
                              obtain ⟨v_25, S_26, hv, hf⟩ := gbs_some hf
                              refine a_SW (As := [.ref (G.2.1 0), .int (-1 : Int32)]) (rest := []) cx hX hZ hw hS (a_tryWorth l hst G (-1 : Int32) S_24 v_25 S_26 hv) gw_675 gw_187 gyw_L_tryWorth ⟨by decide, by decide⟩ ⟨Nat.le_of_ble_eq_true rfl, Nat.le_of_ble_eq_true rfl⟩ (show cells + 6 + 6 + 6 + 6 + 6 + 2 + 2 + 2 + 1 + 2 + 2 + 1 + 1 ≤ 143 ∧ slots + 36 + 36 + 36 + 36 + 36 + 12 + 12 + 12 + 6 + 12 + 12 + 6 + 6 ≤ 858 from ⟨by omega, by omega⟩) rfl hl.1 rfl (Nat.le_of_ble_eq_true rfl) dL_refuses_534 (fun H locs hw hS => ?_)
                              refine W.eq (g2 := F0 m 537 ls [.int v_25]) rfl ?_
                              refine lv_ldc cx.1 cx.2.1 cx.2.2.2.1 (cx.2.2.2.2.ts _ gw_218) dL_refuses_537 ?_
                              refine lv_icmp_ne (tgt := 614) cx.1 cx.2.1 dL_refuses_539 (by decide) (fun hc => ?_) (fun hc => ?_)
                              · rw [if_neg hc] at hf
                                refine lv_iconst (v := (0 : Int32)) cx.1 cx.2.1 dL_refuses_614 (by decide) ?_
                                exact al_zreti (P := (gPA G)) cx hr hlk hw hS (by decide) hf dL_refuses_615 (by omega) (by omega)
                              · rw [if_pos hc] at hf
                                refine lv_aload_n cx.1 cx.2.1 dL_refuses_542 rfl (lv_at hl 1 rfl) ?_
                                refine lv_iconst (v := (4 : Int32)) cx.1 cx.2.1 dL_refuses_543 (by decide) ?_
                                refine lv_lconst (v := (0 : Int64)) cx.1 cx.2.1 dL_refuses_544 (by decide) ?_
                                obtain ⟨v_27, S_28, hv, hf⟩ := gbs_some hf
                                refine a_SW (As := [.ref (G.2.1 0), .int (4 : Int32), .long (0 : Int64)]) (rest := []) cx hX hZ hw hS (a_tryScript l hst G (4 : Int32) (0 : Int64) S_26 v_27 S_28 hv) gw_690 gw_187 gyw_L_tryScript ⟨by decide, by decide⟩ ⟨Nat.le_of_ble_eq_true rfl, Nat.le_of_ble_eq_true rfl⟩ (show cells + 6 + 6 + 6 + 6 + 6 + 2 + 2 + 2 + 1 + 2 + 2 + 1 + 1 + 2 ≤ 143 ∧ slots + 36 + 36 + 36 + 36 + 36 + 12 + 12 + 12 + 6 + 12 + 12 + 6 + 6 + 12 ≤ 858 from ⟨by omega, by omega⟩) rfl hl.1 rfl (Nat.le_of_ble_eq_true rfl) dL_refuses_545 (fun H locs hw hS => ?_)
                                refine W.eq (g2 := F0 m 548 ls [.int v_27]) rfl ?_
                                refine lv_ldc cx.1 cx.2.1 cx.2.2.2.1 (cx.2.2.2.2.ts _ gw_190) dL_refuses_548 ?_
                                refine lv_icmp_ne (tgt := 614) cx.1 cx.2.1 dL_refuses_550 (by decide) (fun hc => ?_) (fun hc => ?_)
                                · rw [if_neg hc] at hf
                                  refine lv_iconst (v := (0 : Int32)) cx.1 cx.2.1 dL_refuses_614 (by decide) ?_
                                  exact al_zreti (P := (gPA G)) cx hr hlk hw hS (by decide) hf dL_refuses_615 (by omega) (by omega)
                                · rw [if_pos hc] at hf
                                  refine lv_aload_n cx.1 cx.2.1 dL_refuses_553 rfl (lv_at hl 1 rfl) ?_
                                  refine lv_iconst (v := (1 : Int32)) cx.1 cx.2.1 dL_refuses_554 (by decide) ?_
                                  refine lv_ldc2 cx.1 cx.2.1 cx.2.2.2.1 (cx.2.2.2.2.ts _ gw_348) dL_refuses_555 ?_
                                  obtain ⟨v_29, S_30, hv, hf⟩ := gbs_some hf
                                  refine a_SW (As := [.ref (G.2.1 0), .int (1 : Int32), .long (100000 : Int64)]) (rest := []) cx hX hZ hw hS (a_tryScript l hst G (1 : Int32) (100000 : Int64) S_28 v_29 S_30 hv) gw_690 gw_187 gyw_L_tryScript ⟨by decide, by decide⟩ ⟨Nat.le_of_ble_eq_true rfl, Nat.le_of_ble_eq_true rfl⟩ (show cells + 6 + 6 + 6 + 6 + 6 + 2 + 2 + 2 + 1 + 2 + 2 + 1 + 1 + 2 + 2 ≤ 143 ∧ slots + 36 + 36 + 36 + 36 + 36 + 12 + 12 + 12 + 6 + 12 + 12 + 6 + 6 + 12 + 12 ≤ 858 from ⟨by omega, by omega⟩) rfl hl.1 rfl (Nat.le_of_ble_eq_true rfl) dL_refuses_558 (fun H locs hw hS => ?_)
                                  refine W.eq (g2 := F0 m 561 ls [.int v_29]) rfl ?_
                                  refine lv_ldc cx.1 cx.2.1 cx.2.2.2.1 (cx.2.2.2.2.ts _ gw_190) dL_refuses_561 ?_
                                  refine lv_icmp_ne (tgt := 614) cx.1 cx.2.1 dL_refuses_563 (by decide) (fun hc => ?_) (fun hc => ?_)
                                  · rw [if_neg hc] at hf
                                    refine lv_iconst (v := (0 : Int32)) cx.1 cx.2.1 dL_refuses_614 (by decide) ?_
                                    exact al_zreti (P := (gPA G)) cx hr hlk hw hS (by decide) hf dL_refuses_615 (by omega) (by omega)
                                  · rw [if_pos hc] at hf
                                    refine lv_aload_n cx.1 cx.2.1 dL_refuses_566 rfl (lv_at hl 1 rfl) ?_
                                    refine lv_lconst (v := (1 : Int64)) cx.1 cx.2.1 dL_refuses_567 (by decide) ?_
                                    refine lv_bipush (v := (51 : Int32)) cx.1 cx.2.1 dL_refuses_568 (by decide) ?_
                                    obtain ⟨v_31, S_32, hv, hf⟩ := gbs_some hf
                                    refine a_SW (As := [.ref (G.2.1 0), .long (1 : Int64), .int (51 : Int32)]) (rest := []) cx hX hZ hw hS (a_trySimulate l hst G (1 : Int64) (51 : Int32) S_30 v_31 S_32 hv) gw_747 gw_187 gyw_L_trySimulate ⟨by decide, by decide⟩ ⟨Nat.le_of_ble_eq_true rfl, Nat.le_of_ble_eq_true rfl⟩ (show cells + 6 + 6 + 6 + 6 + 6 + 2 + 2 + 2 + 1 + 2 + 2 + 1 + 1 + 2 + 2 + 1 ≤ 143 ∧ slots + 36 + 36 + 36 + 36 + 36 + 12 + 12 + 12 + 6 + 12 + 12 + 6 + 6 + 12 + 12 + 6 ≤ 858 from ⟨by omega, by omega⟩) rfl hl.1 rfl (Nat.le_of_ble_eq_true rfl) dL_refuses_570 (fun H locs hw hS => ?_)
                                    refine W.eq (g2 := F0 m 573 ls [.int v_31]) rfl ?_
                                    refine lv_ldc cx.1 cx.2.1 cx.2.2.2.1 (cx.2.2.2.2.ts _ gw_190) dL_refuses_573 ?_
                                    refine lv_icmp_ne (tgt := 614) cx.1 cx.2.1 dL_refuses_575 (by decide) (fun hc => ?_) (fun hc => ?_)
                                    · rw [if_neg hc] at hf
                                      refine lv_iconst (v := (0 : Int32)) cx.1 cx.2.1 dL_refuses_614 (by decide) ?_
                                      exact al_zreti (P := (gPA G)) cx hr hlk hw hS (by decide) hf dL_refuses_615 (by omega) (by omega)
                                    · rw [if_pos hc] at hf
                                      refine lv_aload_n cx.1 cx.2.1 dL_refuses_578 rfl (lv_at hl 1 rfl) ?_
                                      refine lv_iconst (v := (2 : Int32)) cx.1 cx.2.1 dL_refuses_579 (by decide) ?_
                                      obtain ⟨v_33, S_34, hv, hf⟩ := gbs_some hf
                                      refine a_SW (As := [.ref (G.2.1 0), .int (2 : Int32)]) (rest := []) cx hX hZ hw hS (a_trySave l hst G (2 : Int32) S_32 v_33 S_34 hv) gw_774 gw_187 gyw_L_trySave ⟨by decide, by decide⟩ ⟨Nat.le_of_ble_eq_true rfl, Nat.le_of_ble_eq_true rfl⟩ (show cells + 6 + 6 + 6 + 6 + 6 + 2 + 2 + 2 + 1 + 2 + 2 + 1 + 1 + 2 + 2 + 1 + 1 ≤ 143 ∧ slots + 36 + 36 + 36 + 36 + 36 + 12 + 12 + 12 + 6 + 12 + 12 + 6 + 6 + 12 + 12 + 6 + 6 ≤ 858 from ⟨by omega, by omega⟩) rfl hl.1 rfl (Nat.le_of_ble_eq_true rfl) dL_refuses_580 (fun H locs hw hS => ?_)
                                      refine W.eq (g2 := F0 m 583 ls [.int v_33]) rfl ?_
                                      refine lv_ldc cx.1 cx.2.1 cx.2.2.2.1 (cx.2.2.2.2.ts _ gw_218) dL_refuses_583 ?_
                                      refine lv_icmp_ne (tgt := 614) cx.1 cx.2.1 dL_refuses_585 (by decide) (fun hc => ?_) (fun hc => ?_)
                                      · rw [if_neg hc] at hf
                                        refine lv_iconst (v := (0 : Int32)) cx.1 cx.2.1 dL_refuses_614 (by decide) ?_
                                        exact al_zreti (P := (gPA G)) cx hr hlk hw hS (by decide) hf dL_refuses_615 (by omega) (by omega)
                                      · rw [if_pos hc] at hf
                                        refine lv_aload_n cx.1 cx.2.1 dL_refuses_588 rfl (lv_at hl 1 rfl) ?_
                                        refine lv_iconst (v := (-1 : Int32)) cx.1 cx.2.1 dL_refuses_589 (by decide) ?_
                                        obtain ⟨v_35, S_36, hv, hf⟩ := gbs_some hf
                                        refine a_SW (As := [.ref (G.2.1 0), .int (-1 : Int32)]) (rest := []) cx hX hZ hw hS (a_tryRestore l hst G (-1 : Int32) S_34 v_35 S_36 hv) gw_792 gw_187 gyw_L_tryRestore ⟨by decide, by decide⟩ ⟨Nat.le_of_ble_eq_true rfl, Nat.le_of_ble_eq_true rfl⟩ (show cells + 6 + 6 + 6 + 6 + 6 + 2 + 2 + 2 + 1 + 2 + 2 + 1 + 1 + 2 + 2 + 1 + 1 + 2 ≤ 143 ∧ slots + 36 + 36 + 36 + 36 + 36 + 12 + 12 + 12 + 6 + 12 + 12 + 6 + 6 + 12 + 12 + 6 + 6 + 12 ≤ 858 from ⟨by omega, by omega⟩) rfl hl.1 rfl (Nat.le_of_ble_eq_true rfl) dL_refuses_590 (fun H locs hw hS => ?_)
                                        refine W.eq (g2 := F0 m 593 ls [.int v_35]) rfl ?_
                                        refine lv_ldc cx.1 cx.2.1 cx.2.2.2.1 (cx.2.2.2.2.ts _ gw_218) dL_refuses_593 ?_
                                        refine lv_icmp_ne (tgt := 614) cx.1 cx.2.1 dL_refuses_595 (by decide) (fun hc => ?_) (fun hc => ?_)
                                        · rw [if_neg hc] at hf
                                          refine lv_iconst (v := (0 : Int32)) cx.1 cx.2.1 dL_refuses_614 (by decide) ?_
                                          exact al_zreti (P := (gPA G)) cx hr hlk hw hS (by decide) hf dL_refuses_615 (by omega) (by omega)
                                        · rw [if_pos hc] at hf
                                          refine lv_aload_n cx.1 cx.2.1 dL_refuses_598 rfl (lv_at hl 1 rfl) ?_
                                          refine lv_sipush (v := (256 : Int32)) cx.1 cx.2.1 dL_refuses_599 (by decide) ?_
                                          obtain ⟨v_37, S_38, hv, hf⟩ := gbs_some hf
                                          refine a_SW (As := [.ref (G.2.1 0), .int (256 : Int32)]) (rest := []) cx hX hZ hw hS (a_tryAppend l hst G (256 : Int32) S_36 v_37 S_38 hv) gw_811 gw_187 gyw_L_tryAppend ⟨by decide, by decide⟩ ⟨Nat.le_of_ble_eq_true rfl, Nat.le_of_ble_eq_true rfl⟩ (show cells + 6 + 6 + 6 + 6 + 6 + 2 + 2 + 2 + 1 + 2 + 2 + 1 + 1 + 2 + 2 + 1 + 1 + 2 + 2 ≤ 143 ∧ slots + 36 + 36 + 36 + 36 + 36 + 12 + 12 + 12 + 6 + 12 + 12 + 6 + 6 + 12 + 12 + 6 + 6 + 12 + 12 ≤ 858 from ⟨by omega, by omega⟩) rfl hl.1 rfl (Nat.le_of_ble_eq_true rfl) dL_refuses_602 (fun H locs hw hS => ?_)
                                          refine W.eq (g2 := F0 m 605 ls [.int v_37]) rfl ?_
                                          refine lv_ldc cx.1 cx.2.1 cx.2.2.2.1 (cx.2.2.2.2.ts _ gw_190) dL_refuses_605 ?_
                                          refine lv_icmp_ne (tgt := 614) cx.1 cx.2.1 dL_refuses_607 (by decide) (fun hc => ?_) (fun hc => ?_)
                                          · rw [if_neg hc] at hf
                                            refine lv_iconst (v := (0 : Int32)) cx.1 cx.2.1 dL_refuses_614 (by decide) ?_
                                            exact al_zreti (P := (gPA G)) cx hr hlk hw hS (by decide) hf dL_refuses_615 (by omega) (by omega)
                                          · rw [if_pos hc] at hf
                                            refine lv_iconst (v := (1 : Int32)) cx.1 cx.2.1 dL_refuses_610 (by decide) ?_
                                            refine lv_goto (tgt := 615) cx.1 cx.2.1 dL_refuses_611 (by decide) ?_
                                            exact al_zreti (P := (gPA G)) cx hr hlk hw hS (by decide) hf dL_refuses_615 (by omega) (by omega)
  have hB_339 : ∀ (S : At) (x1 : Int32) (x3 : Int32) (H : Heap) (locs : List Loc) (ls : Array Slot) (cells slots : Nat), cells + (62) ≤ 143 → slots + (372) ≤ 858 → gPA G S H → va_S (gAr (gNo G) s.heap.size) s.heap H locs → lv_has ls 6 [(0, .ref (G.2.1 0)), (1, .int x1), (3, .int x3)] → B_refuses_339 S x1 x3 = some (r, S') → W p l e (gRx 11 223 143 858) s m ([.ref (G.2.1 0)] : List Value).toArray below meth c H locs cells slots (MQ below (gQr (gPA G S') (some (.int r)) (gAr (gNo G) s.heap.size)) ([.ref (G.2.1 0)] : List Value).toArray s 143 858 (gAr (gNo G) s.heap.size)) (F0 m 339 ls []) := by
    intro S x1 x3 H locs ls cells slots hcl hsl hw hS hl hf
    unfold B_refuses_339 at hf
    refine lv_aload_n cx.1 cx.2.1 dL_refuses_339 rfl (lv_at hl 0 rfl) ?_
    refine lv_iconst (v := (4 : Int32)) cx.1 cx.2.1 dL_refuses_340 (by decide) ?_
    refine lv_iconst (v := (0 : Int32)) cx.1 cx.2.1 dL_refuses_341 (by decide) ?_
    obtain ⟨v_39, S_40, hv, hf⟩ := gbs_some hf
    refine a_SW (As := [.ref (G.2.1 0), .int (4 : Int32), .int (0 : Int32)]) (rest := []) cx hX hZ hw hS (a_tryTake l hst G (4 : Int32) (0 : Int32) S v_39 S_40 hv) gw_512 gw_187 gyw_L_tryTake ⟨by decide, by decide⟩ ⟨Nat.le_of_ble_eq_true rfl, Nat.le_of_ble_eq_true rfl⟩ (show cells + 3 ≤ 143 ∧ slots + 18 ≤ 858 from ⟨by omega, by omega⟩) rfl hl.1 rfl (Nat.le_of_ble_eq_true rfl) dL_refuses_342 (fun H locs hw hS => ?_)
    refine W.eq (g2 := F0 m 345 ls [.int v_39]) rfl ?_
    refine lv_ldc cx.1 cx.2.1 cx.2.2.2.1 (cx.2.2.2.2.ts _ gw_218) dL_refuses_345 ?_
    refine lv_icmp_ne (tgt := 376) cx.1 cx.2.1 dL_refuses_347 (by decide) (fun hc => ?_) (fun hc => ?_)
    · rw [if_neg hc] at hf
      refine lv_iconst (v := (0 : Int32)) cx.1 cx.2.1 dL_refuses_376 (by decide) ?_
      exact hB_377 S_40 x1 x3 (0 : Int32) _ _ _ _ _ (by omega) (by omega) hw hS (lv_sub hl [0, 1, 2] rfl) hf
    · rw [if_pos hc] at hf
      refine lv_aload_n cx.1 cx.2.1 dL_refuses_350 rfl (lv_at hl 0 rfl) ?_
      refine lv_iconst (v := (0 : Int32)) cx.1 cx.2.1 dL_refuses_351 (by decide) ?_
      refine lv_iload_n cx.1 cx.2.1 dL_refuses_352 rfl (lv_at hl 2 rfl) ?_
      obtain ⟨v_41, S_42, hv, hf⟩ := gbs_some hf
      refine a_SW (As := [.ref (G.2.1 0), .int (0 : Int32), .int x3]) (rest := []) cx hX hZ hw hS (a_tryTake l hst G (0 : Int32) x3 S_40 v_41 S_42 hv) gw_512 gw_187 gyw_L_tryTake ⟨by decide, by decide⟩ ⟨Nat.le_of_ble_eq_true rfl, Nat.le_of_ble_eq_true rfl⟩ (show cells + 3 + 3 ≤ 143 ∧ slots + 18 + 18 ≤ 858 from ⟨by omega, by omega⟩) rfl hl.1 rfl (Nat.le_of_ble_eq_true rfl) dL_refuses_353 (fun H locs hw hS => ?_)
      refine W.eq (g2 := F0 m 356 ls [.int v_41]) rfl ?_
      refine lv_ldc cx.1 cx.2.1 cx.2.2.2.1 (cx.2.2.2.2.ts _ gw_218) dL_refuses_356 ?_
      refine lv_icmp_ne (tgt := 376) cx.1 cx.2.1 dL_refuses_358 (by decide) (fun hc => ?_) (fun hc => ?_)
      · rw [if_neg hc] at hf
        refine lv_iconst (v := (0 : Int32)) cx.1 cx.2.1 dL_refuses_376 (by decide) ?_
        exact hB_377 S_42 x1 x3 (0 : Int32) _ _ _ _ _ (by omega) (by omega) hw hS (lv_sub hl [0, 1, 2] rfl) hf
      · rw [if_pos hc] at hf
        refine lv_aload_n cx.1 cx.2.1 dL_refuses_361 rfl (lv_at hl 0 rfl) ?_
        refine lv_iload_n cx.1 cx.2.1 dL_refuses_362 rfl (lv_at hl 2 rfl) ?_
        refine lv_iconst (v := (0 : Int32)) cx.1 cx.2.1 dL_refuses_363 (by decide) ?_
        obtain ⟨v_43, S_44, hv, hf⟩ := gbs_some hf
        refine a_SW (As := [.ref (G.2.1 0), .int x3, .int (0 : Int32)]) (rest := []) cx hX hZ hw hS (a_tryRun l hst G x3 (0 : Int32) S_42 v_43 S_44 hv) gw_532 gw_187 gyw_L_tryRun ⟨by decide, by decide⟩ ⟨Nat.le_of_ble_eq_true rfl, Nat.le_of_ble_eq_true rfl⟩ (show cells + 3 + 3 + 3 ≤ 143 ∧ slots + 18 + 18 + 18 ≤ 858 from ⟨by omega, by omega⟩) rfl hl.1 rfl (Nat.le_of_ble_eq_true rfl) dL_refuses_364 (fun H locs hw hS => ?_)
        refine W.eq (g2 := F0 m 367 ls [.int v_43]) rfl ?_
        refine lv_ldc cx.1 cx.2.1 cx.2.2.2.1 (cx.2.2.2.2.ts _ gw_218) dL_refuses_367 ?_
        refine lv_icmp_ne (tgt := 376) cx.1 cx.2.1 dL_refuses_369 (by decide) (fun hc => ?_) (fun hc => ?_)
        · rw [if_neg hc] at hf
          refine lv_iconst (v := (0 : Int32)) cx.1 cx.2.1 dL_refuses_376 (by decide) ?_
          exact hB_377 S_44 x1 x3 (0 : Int32) _ _ _ _ _ (by omega) (by omega) hw hS (lv_sub hl [0, 1, 2] rfl) hf
        · rw [if_pos hc] at hf
          refine lv_iconst (v := (1 : Int32)) cx.1 cx.2.1 dL_refuses_372 (by decide) ?_
          refine lv_goto (tgt := 377) cx.1 cx.2.1 dL_refuses_373 (by decide) ?_
          exact hB_377 S_44 x1 x3 (1 : Int32) _ _ _ _ _ (by omega) (by omega) hw hS (lv_sub hl [0, 1, 2] rfl) hf
  have hB_243 : ∀ (S : At) (x1 : Int32) (x3 : Int32) (H : Heap) (locs : List Loc) (ls : Array Slot) (cells slots : Nat), cells + (96) ≤ 143 → slots + (576) ≤ 858 → gPA G S H → va_S (gAr (gNo G) s.heap.size) s.heap H locs → lv_has ls 6 [(0, .ref (G.2.1 0)), (1, .int x1), (3, .int x3)] → B_refuses_243 S x1 x3 = some (r, S') → W p l e (gRx 11 223 143 858) s m ([.ref (G.2.1 0)] : List Value).toArray below meth c H locs cells slots (MQ below (gQr (gPA G S') (some (.int r)) (gAr (gNo G) s.heap.size)) ([.ref (G.2.1 0)] : List Value).toArray s 143 858 (gAr (gNo G) s.heap.size)) (F0 m 243 ls []) := by
    intro S x1 x3 H locs ls cells slots hcl hsl hw hS hl hf
    unfold B_refuses_243 at hf
    refine lv_aload_n cx.1 cx.2.1 dL_refuses_243 rfl (lv_at hl 0 rfl) ?_
    refine lv_iconst (v := (-1 : Int32)) cx.1 cx.2.1 dL_refuses_244 (by decide) ?_
    refine lv_bipush (v := (10 : Int32)) cx.1 cx.2.1 dL_refuses_245 (by decide) ?_
    obtain ⟨v_45, S_46, hv, hf⟩ := gbs_some hf
    refine a_SW (As := [.ref (G.2.1 0), .int (-1 : Int32), .int (10 : Int32)]) (rest := []) cx hX hZ hw hS (a_trySetRent l hst G (-1 : Int32) (10 : Int32) S v_45 S_46 hv) gw_492 gw_187 gyw_L_trySetRent ⟨by decide, by decide⟩ ⟨Nat.le_of_ble_eq_true rfl, Nat.le_of_ble_eq_true rfl⟩ (show cells + 2 ≤ 143 ∧ slots + 12 ≤ 858 from ⟨by omega, by omega⟩) rfl hl.1 rfl (Nat.le_of_ble_eq_true rfl) dL_refuses_247 (fun H locs hw hS => ?_)
    refine W.eq (g2 := F0 m 250 ls [.int v_45]) rfl ?_
    refine lv_ldc cx.1 cx.2.1 cx.2.2.2.1 (cx.2.2.2.2.ts _ gw_218) dL_refuses_250 ?_
    refine lv_icmp_ne (tgt := 376) cx.1 cx.2.1 dL_refuses_252 (by decide) (fun hc => ?_) (fun hc => ?_)
    · rw [if_neg hc] at hf
      refine lv_iconst (v := (0 : Int32)) cx.1 cx.2.1 dL_refuses_376 (by decide) ?_
      exact hB_377 S_46 x1 x3 (0 : Int32) _ _ _ _ _ (by omega) (by omega) hw hS (lv_sub hl [0, 1, 2] rfl) hf
    · rw [if_pos hc] at hf
      refine lv_aload_n cx.1 cx.2.1 dL_refuses_255 rfl (lv_at hl 0 rfl) ?_
      refine lv_iconst (v := (0 : Int32)) cx.1 cx.2.1 dL_refuses_256 (by decide) ?_
      refine lv_bipush (v := (10 : Int32)) cx.1 cx.2.1 dL_refuses_257 (by decide) ?_
      obtain ⟨v_47, S_48, hv, hf⟩ := gbs_some hf
      refine a_SW (As := [.ref (G.2.1 0), .int (0 : Int32), .int (10 : Int32)]) (rest := []) cx hX hZ hw hS (a_trySetRent l hst G (0 : Int32) (10 : Int32) S_46 v_47 S_48 hv) gw_492 gw_187 gyw_L_trySetRent ⟨by decide, by decide⟩ ⟨Nat.le_of_ble_eq_true rfl, Nat.le_of_ble_eq_true rfl⟩ (show cells + 2 + 2 ≤ 143 ∧ slots + 12 + 12 ≤ 858 from ⟨by omega, by omega⟩) rfl hl.1 rfl (Nat.le_of_ble_eq_true rfl) dL_refuses_259 (fun H locs hw hS => ?_)
      refine W.eq (g2 := F0 m 262 ls [.int v_47]) rfl ?_
      refine lv_ldc cx.1 cx.2.1 cx.2.2.2.1 (cx.2.2.2.2.ts _ gw_190) dL_refuses_262 ?_
      refine lv_icmp_ne (tgt := 376) cx.1 cx.2.1 dL_refuses_264 (by decide) (fun hc => ?_) (fun hc => ?_)
      · rw [if_neg hc] at hf
        refine lv_iconst (v := (0 : Int32)) cx.1 cx.2.1 dL_refuses_376 (by decide) ?_
        exact hB_377 S_48 x1 x3 (0 : Int32) _ _ _ _ _ (by omega) (by omega) hw hS (lv_sub hl [0, 1, 2] rfl) hf
      · rw [if_pos hc] at hf
        refine lv_aload_n cx.1 cx.2.1 dL_refuses_267 rfl (lv_at hl 0 rfl) ?_
        refine lv_iload_n cx.1 cx.2.1 dL_refuses_268 rfl (lv_at hl 1 rfl) ?_
        refine lv_iconst (v := (0 : Int32)) cx.1 cx.2.1 dL_refuses_269 (by decide) ?_
        refine lv_iconst (v := (0 : Int32)) cx.1 cx.2.1 dL_refuses_270 (by decide) ?_
        refine lv_iconst (v := (0 : Int32)) cx.1 cx.2.1 dL_refuses_271 (by decide) ?_
        obtain ⟨v_49, S_50, hv, hf⟩ := gbs_some hf
        refine a_SW (As := [.ref (G.2.1 0), .int x1, .int (0 : Int32), .int (0 : Int32), .int (0 : Int32)]) (rest := []) cx hX hZ hw hS (a_tryOffer l hst G x1 (0 : Int32) (0 : Int32) (0 : Int32) S_48 v_49 S_50 hv) gw_503 gw_187 gyw_L_tryOffer ⟨by decide, by decide⟩ ⟨Nat.le_of_ble_eq_true rfl, Nat.le_of_ble_eq_true rfl⟩ (show cells + 2 + 2 + 6 ≤ 143 ∧ slots + 12 + 12 + 36 ≤ 858 from ⟨by omega, by omega⟩) rfl hl.1 rfl (Nat.le_of_ble_eq_true rfl) dL_refuses_272 (fun H locs hw hS => ?_)
        refine W.eq (g2 := F0 m 275 ls [.int v_49]) rfl ?_
        refine lv_ldc cx.1 cx.2.1 cx.2.2.2.1 (cx.2.2.2.2.ts _ gw_218) dL_refuses_275 ?_
        refine lv_icmp_ne (tgt := 376) cx.1 cx.2.1 dL_refuses_277 (by decide) (fun hc => ?_) (fun hc => ?_)
        · rw [if_neg hc] at hf
          refine lv_iconst (v := (0 : Int32)) cx.1 cx.2.1 dL_refuses_376 (by decide) ?_
          exact hB_377 S_50 x1 x3 (0 : Int32) _ _ _ _ _ (by omega) (by omega) hw hS (lv_sub hl [0, 1, 2] rfl) hf
        · rw [if_pos hc] at hf
          refine lv_aload_n cx.1 cx.2.1 dL_refuses_280 rfl (lv_at hl 0 rfl) ?_
          refine lv_iconst (v := (0 : Int32)) cx.1 cx.2.1 dL_refuses_281 (by decide) ?_
          refine lv_iconst (v := (0 : Int32)) cx.1 cx.2.1 dL_refuses_282 (by decide) ?_
          refine lv_iconst (v := (1 : Int32)) cx.1 cx.2.1 dL_refuses_283 (by decide) ?_
          refine lv_iconst (v := (1 : Int32)) cx.1 cx.2.1 dL_refuses_284 (by decide) ?_
          obtain ⟨v_51, S_52, hv, hf⟩ := gbs_some hf
          refine a_SW (As := [.ref (G.2.1 0), .int (0 : Int32), .int (0 : Int32), .int (1 : Int32), .int (1 : Int32)]) (rest := []) cx hX hZ hw hS (a_tryOffer l hst G (0 : Int32) (0 : Int32) (1 : Int32) (1 : Int32) S_50 v_51 S_52 hv) gw_503 gw_187 gyw_L_tryOffer ⟨by decide, by decide⟩ ⟨Nat.le_of_ble_eq_true rfl, Nat.le_of_ble_eq_true rfl⟩ (show cells + 2 + 2 + 6 + 6 ≤ 143 ∧ slots + 12 + 12 + 36 + 36 ≤ 858 from ⟨by omega, by omega⟩) rfl hl.1 rfl (Nat.le_of_ble_eq_true rfl) dL_refuses_285 (fun H locs hw hS => ?_)
          refine W.eq (g2 := F0 m 288 ls [.int v_51]) rfl ?_
          refine lv_ldc cx.1 cx.2.1 cx.2.2.2.1 (cx.2.2.2.2.ts _ gw_190) dL_refuses_288 ?_
          refine lv_icmp_ne (tgt := 376) cx.1 cx.2.1 dL_refuses_290 (by decide) (fun hc => ?_) (fun hc => ?_)
          · rw [if_neg hc] at hf
            refine lv_iconst (v := (0 : Int32)) cx.1 cx.2.1 dL_refuses_376 (by decide) ?_
            exact hB_377 S_52 x1 x3 (0 : Int32) _ _ _ _ _ (by omega) (by omega) hw hS (lv_sub hl [0, 1, 2] rfl) hf
          · rw [if_pos hc] at hf
            refine lv_aload_n cx.1 cx.2.1 dL_refuses_293 rfl (lv_at hl 0 rfl) ?_
            refine lv_iconst (v := (0 : Int32)) cx.1 cx.2.1 dL_refuses_294 (by decide) ?_
            refine lv_iconst (v := (1 : Int32)) cx.1 cx.2.1 dL_refuses_295 (by decide) ?_
            refine lv_iconst (v := (0 : Int32)) cx.1 cx.2.1 dL_refuses_296 (by decide) ?_
            refine lv_iconst (v := (1 : Int32)) cx.1 cx.2.1 dL_refuses_297 (by decide) ?_
            obtain ⟨v_53, S_54, hv, hf⟩ := gbs_some hf
            refine a_SW (As := [.ref (G.2.1 0), .int (0 : Int32), .int (1 : Int32), .int (0 : Int32), .int (1 : Int32)]) (rest := []) cx hX hZ hw hS (a_tryOffer l hst G (0 : Int32) (1 : Int32) (0 : Int32) (1 : Int32) S_52 v_53 S_54 hv) gw_503 gw_187 gyw_L_tryOffer ⟨by decide, by decide⟩ ⟨Nat.le_of_ble_eq_true rfl, Nat.le_of_ble_eq_true rfl⟩ (show cells + 2 + 2 + 6 + 6 + 6 ≤ 143 ∧ slots + 12 + 12 + 36 + 36 + 36 ≤ 858 from ⟨by omega, by omega⟩) rfl hl.1 rfl (Nat.le_of_ble_eq_true rfl) dL_refuses_298 (fun H locs hw hS => ?_)
            refine W.eq (g2 := F0 m 301 ls [.int v_53]) rfl ?_
            refine lv_ldc cx.1 cx.2.1 cx.2.2.2.1 (cx.2.2.2.2.ts _ gw_190) dL_refuses_301 ?_
            refine lv_icmp_ne (tgt := 376) cx.1 cx.2.1 dL_refuses_303 (by decide) (fun hc => ?_) (fun hc => ?_)
            · rw [if_neg hc] at hf
              refine lv_iconst (v := (0 : Int32)) cx.1 cx.2.1 dL_refuses_376 (by decide) ?_
              exact hB_377 S_54 x1 x3 (0 : Int32) _ _ _ _ _ (by omega) (by omega) hw hS (lv_sub hl [0, 1, 2] rfl) hf
            · rw [if_pos hc] at hf
              refine lv_aload_n cx.1 cx.2.1 dL_refuses_306 rfl (lv_at hl 0 rfl) ?_
              refine lv_iconst (v := (0 : Int32)) cx.1 cx.2.1 dL_refuses_307 (by decide) ?_
              refine lv_iconst (v := (1 : Int32)) cx.1 cx.2.1 dL_refuses_308 (by decide) ?_
              refine lv_iconst (v := (1 : Int32)) cx.1 cx.2.1 dL_refuses_309 (by decide) ?_
              refine lv_bipush (v := (10 : Int32)) cx.1 cx.2.1 dL_refuses_310 (by decide) ?_
              obtain ⟨v_55, S_56, hv, hf⟩ := gbs_some hf
              refine a_SW (As := [.ref (G.2.1 0), .int (0 : Int32), .int (1 : Int32), .int (1 : Int32), .int (10 : Int32)]) (rest := []) cx hX hZ hw hS (a_tryOffer l hst G (0 : Int32) (1 : Int32) (1 : Int32) (10 : Int32) S_54 v_55 S_56 hv) gw_503 gw_187 gyw_L_tryOffer ⟨by decide, by decide⟩ ⟨Nat.le_of_ble_eq_true rfl, Nat.le_of_ble_eq_true rfl⟩ (show cells + 2 + 2 + 6 + 6 + 6 + 6 ≤ 143 ∧ slots + 12 + 12 + 36 + 36 + 36 + 36 ≤ 858 from ⟨by omega, by omega⟩) rfl hl.1 rfl (Nat.le_of_ble_eq_true rfl) dL_refuses_312 (fun H locs hw hS => ?_)
              refine W.eq (g2 := F0 m 315 ls [.int v_55]) rfl ?_
              refine lv_ldc cx.1 cx.2.1 cx.2.2.2.1 (cx.2.2.2.2.ts _ gw_190) dL_refuses_315 ?_
              refine lv_icmp_ne (tgt := 376) cx.1 cx.2.1 dL_refuses_317 (by decide) (fun hc => ?_) (fun hc => ?_)
              · rw [if_neg hc] at hf
                refine lv_iconst (v := (0 : Int32)) cx.1 cx.2.1 dL_refuses_376 (by decide) ?_
                exact hB_377 S_56 x1 x3 (0 : Int32) _ _ _ _ _ (by omega) (by omega) hw hS (lv_sub hl [0, 1, 2] rfl) hf
              · rw [if_pos hc] at hf
                refine lv_iload_n cx.1 cx.2.1 dL_refuses_320 rfl (lv_at hl 2 rfl) ?_
                refine lv_bipush (v := (8 : Int32)) cx.1 cx.2.1 dL_refuses_321 (by decide) ?_
                refine lv_icmp_lt (tgt := 339) cx.1 cx.2.1 dL_refuses_323 (by decide) (fun hc => ?_) (fun hc => ?_)
                · rw [if_pos hc] at hf
                  exact hB_339 S_56 x1 x3 _ _ _ _ _ (by omega) (by omega) hw hS (lv_sub hl [0, 1, 2] rfl) hf
                · rw [if_neg hc] at hf
                  refine lv_aload_n cx.1 cx.2.1 dL_refuses_326 rfl (lv_at hl 0 rfl) ?_
                  refine lv_iconst (v := (0 : Int32)) cx.1 cx.2.1 dL_refuses_327 (by decide) ?_
                  refine lv_iconst (v := (1 : Int32)) cx.1 cx.2.1 dL_refuses_328 (by decide) ?_
                  refine lv_iconst (v := (1 : Int32)) cx.1 cx.2.1 dL_refuses_329 (by decide) ?_
                  refine lv_iconst (v := (1 : Int32)) cx.1 cx.2.1 dL_refuses_330 (by decide) ?_
                  obtain ⟨v_57, S_58, hv, hf⟩ := gbs_some hf
                  refine a_SW (As := [.ref (G.2.1 0), .int (0 : Int32), .int (1 : Int32), .int (1 : Int32), .int (1 : Int32)]) (rest := []) cx hX hZ hw hS (a_tryOffer l hst G (0 : Int32) (1 : Int32) (1 : Int32) (1 : Int32) S_56 v_57 S_58 hv) gw_503 gw_187 gyw_L_tryOffer ⟨by decide, by decide⟩ ⟨Nat.le_of_ble_eq_true rfl, Nat.le_of_ble_eq_true rfl⟩ (show cells + 2 + 2 + 6 + 6 + 6 + 6 + 6 ≤ 143 ∧ slots + 12 + 12 + 36 + 36 + 36 + 36 + 36 ≤ 858 from ⟨by omega, by omega⟩) rfl hl.1 rfl (Nat.le_of_ble_eq_true rfl) dL_refuses_331 (fun H locs hw hS => ?_)
                  refine W.eq (g2 := F0 m 334 ls [.int v_57]) rfl ?_
                  refine lv_ldc cx.1 cx.2.1 cx.2.2.2.1 (cx.2.2.2.2.ts _ gw_3) dL_refuses_334 ?_
                  refine lv_icmp_ne (tgt := 376) cx.1 cx.2.1 dL_refuses_336 (by decide) (fun hc => ?_) (fun hc => ?_)
                  · rw [if_neg hc] at hf
                    refine lv_iconst (v := (0 : Int32)) cx.1 cx.2.1 dL_refuses_376 (by decide) ?_
                    exact hB_377 S_58 x1 x3 (0 : Int32) _ _ _ _ _ (by omega) (by omega) hw hS (lv_sub hl [0, 1, 2] rfl) hf
                  · rw [if_pos hc] at hf
                    exact hB_339 S_58 x1 x3 _ _ _ _ _ (by omega) (by omega) hw hS (lv_sub hl [0, 1, 2] rfl) hf
  have hB_222 : ∀ (S : At) (x1 : Int32) (x3 : Int32) (x4 : Int32) (H : Heap) (locs : List Loc) (ls : Array Slot) (cells slots : Nat), cells + (100) ≤ 143 → slots + (600) ≤ 858 → gPA G S H → va_S (gAr (gNo G) s.heap.size) s.heap H locs → lv_has ls 6 [(0, .ref (G.2.1 0)), (1, .int x1), (3, .int x3), (4, .int x4)] → B_refuses_222 S x1 x3 x4 = some (r, S') → W p l e (gRx 11 223 143 858) s m ([.ref (G.2.1 0)] : List Value).toArray below meth c H locs cells slots (MQ below (gQr (gPA G S') (some (.int r)) (gAr (gNo G) s.heap.size)) ([.ref (G.2.1 0)] : List Value).toArray s 143 858 (gAr (gNo G) s.heap.size)) (F0 m 222 ls []) := by
    intro S x1 x3 x4 H locs ls cells slots hcl hsl hw hS hl hf
    unfold B_refuses_222 at hf
    refine lv_iload cx.1 cx.2.1 dL_refuses_222 (lv_at hl 3 rfl) ?_
    refine lv_iconst (v := (4 : Int32)) cx.1 cx.2.1 dL_refuses_224 (by decide) ?_
    refine lv_icmp_lt (tgt := 243) cx.1 cx.2.1 dL_refuses_225 (by decide) (fun hc => ?_) (fun hc => ?_)
    · rw [if_pos hc] at hf
      exact hB_243 S x1 x3 _ _ _ _ _ (by omega) (by omega) hw hS (lv_sub hl [0, 1, 2] rfl) hf
    · rw [if_neg hc] at hf
      refine lv_aload_n cx.1 cx.2.1 dL_refuses_228 rfl (lv_at hl 0 rfl) ?_
      refine lv_iconst (v := (0 : Int32)) cx.1 cx.2.1 dL_refuses_229 (by decide) ?_
      refine lv_aload_n cx.1 cx.2.1 dL_refuses_230 rfl (lv_at hl 0 rfl) ?_
      refine lv_iconst (v := (3 : Int32)) cx.1 cx.2.1 dL_refuses_231 (by decide) ?_
      obtain ⟨v_59, S_60, hv, hf⟩ := gbs_some hf
      refine a_SW (As := [.ref (G.2.1 0), .int (3 : Int32)]) (rest := [.int (0 : Int32), .ref (G.2.1 0)]) cx hX hZ hw hS (a_tryAbout l hst G (3 : Int32) S v_59 S_60 hv) gw_185 gw_187 gyw_L_tryAbout ⟨by decide, by decide⟩ ⟨Nat.le_of_ble_eq_true rfl, Nat.le_of_ble_eq_true rfl⟩ (show cells + 1 ≤ 143 ∧ slots + 6 ≤ 858 from ⟨by omega, by omega⟩) rfl hl.1 rfl (Nat.le_of_ble_eq_true rfl) dL_refuses_232 (fun H locs hw hS => ?_)
      refine W.eq (g2 := F0 m 235 ls [.int v_59, .int (0 : Int32), .ref (G.2.1 0)]) rfl ?_
      obtain ⟨v_61, S_62, hv, hf⟩ := gbs_some hf
      refine a_SW (As := [.ref (G.2.1 0), .int (0 : Int32), .int v_59]) (rest := []) cx hX hZ hw hS (a_tryBuyTrain l hst G (0 : Int32) v_59 S_60 v_61 S_62 hv) gw_468 gw_187 gyw_L_tryBuyTrain ⟨by decide, by decide⟩ ⟨Nat.le_of_ble_eq_true rfl, Nat.le_of_ble_eq_true rfl⟩ (show cells + 1 + 3 ≤ 143 ∧ slots + 6 + 18 ≤ 858 from ⟨by omega, by omega⟩) rfl hl.1 rfl (Nat.le_of_ble_eq_true rfl) dL_refuses_235 (fun H locs hw hS => ?_)
      refine W.eq (g2 := F0 m 238 ls [.int v_61]) rfl ?_
      refine lv_ldc cx.1 cx.2.1 cx.2.2.2.1 (cx.2.2.2.2.ts _ gw_3) dL_refuses_238 ?_
      refine lv_icmp_ne (tgt := 376) cx.1 cx.2.1 dL_refuses_240 (by decide) (fun hc => ?_) (fun hc => ?_)
      · rw [if_neg hc] at hf
        refine lv_iconst (v := (0 : Int32)) cx.1 cx.2.1 dL_refuses_376 (by decide) ?_
        exact hB_377 S_62 x1 x3 (0 : Int32) _ _ _ _ _ (by omega) (by omega) hw hS (lv_sub hl [0, 1, 2] rfl) hf
      · rw [if_pos hc] at hf
        exact hB_243 S_62 x1 x3 _ _ _ _ _ (by omega) (by omega) hw hS (lv_sub hl [0, 1, 2] rfl) hf
  have hB_145 : ∀ (S : At) (x1 : Int32) (x2 : Int32) (x3 : Int32) (x4 : Int32) (H : Heap) (locs : List Loc) (ls : Array Slot) (cells slots : Nat), cells + (119) ≤ 143 → slots + (714) ≤ 858 → gPA G S H → va_S (gAr (gNo G) s.heap.size) s.heap H locs → lv_has ls 6 [(0, .ref (G.2.1 0)), (1, .int x1), (2, .int x2), (3, .int x3), (4, .int x4)] → B_refuses_145 S x1 x2 x3 x4 = some (r, S') → W p l e (gRx 11 223 143 858) s m ([.ref (G.2.1 0)] : List Value).toArray below meth c H locs cells slots (MQ below (gQr (gPA G S') (some (.int r)) (gAr (gNo G) s.heap.size)) ([.ref (G.2.1 0)] : List Value).toArray s 143 858 (gAr (gNo G) s.heap.size)) (F0 m 145 ls []) := by
    intro S x1 x2 x3 x4 H locs ls cells slots hcl hsl hw hS hl hf
    unfold B_refuses_145 at hf
    refine lv_aload_n cx.1 cx.2.1 dL_refuses_145 rfl (lv_at hl 0 rfl) ?_
    refine lv_iconst (v := (4 : Int32)) cx.1 cx.2.1 dL_refuses_146 (by decide) ?_
    refine lv_iconst (v := (0 : Int32)) cx.1 cx.2.1 dL_refuses_147 (by decide) ?_
    obtain ⟨v_63, S_64, hv, hf⟩ := gbs_some hf
    refine a_SW (As := [.ref (G.2.1 0), .int (4 : Int32), .int (0 : Int32)]) (rest := []) cx hX hZ hw hS (a_tryBuyTrack l hst G (4 : Int32) (0 : Int32) S v_63 S_64 hv) gw_437 gw_187 gyw_L_tryBuyTrack ⟨by decide, by decide⟩ ⟨Nat.le_of_ble_eq_true rfl, Nat.le_of_ble_eq_true rfl⟩ (show cells + 3 ≤ 143 ∧ slots + 18 ≤ 858 from ⟨by omega, by omega⟩) rfl hl.1 rfl (Nat.le_of_ble_eq_true rfl) dL_refuses_148 (fun H locs hw hS => ?_)
    refine W.eq (g2 := F0 m 151 ls [.int v_63]) rfl ?_
    refine lv_ldc cx.1 cx.2.1 cx.2.2.2.1 (cx.2.2.2.2.ts _ gw_218) dL_refuses_151 ?_
    refine lv_icmp_ne (tgt := 376) cx.1 cx.2.1 dL_refuses_153 (by decide) (fun hc => ?_) (fun hc => ?_)
    · rw [if_neg hc] at hf
      refine lv_iconst (v := (0 : Int32)) cx.1 cx.2.1 dL_refuses_376 (by decide) ?_
      exact hB_377 S_64 x1 x3 (0 : Int32) _ _ _ _ _ (by omega) (by omega) hw hS (lv_sub hl [0, 1, 3] rfl) hf
    · rw [if_pos hc] at hf
      refine lv_aload_n cx.1 cx.2.1 dL_refuses_156 rfl (lv_at hl 0 rfl) ?_
      refine lv_iconst (v := (0 : Int32)) cx.1 cx.2.1 dL_refuses_157 (by decide) ?_
      refine lv_iload_n cx.1 cx.2.1 dL_refuses_158 rfl (lv_at hl 2 rfl) ?_
      obtain ⟨v_65, S_66, hv, hf⟩ := gbs_some hf
      refine a_SW (As := [.ref (G.2.1 0), .int (0 : Int32), .int x2]) (rest := []) cx hX hZ hw hS (a_tryBuyTrack l hst G (0 : Int32) x2 S_64 v_65 S_66 hv) gw_437 gw_187 gyw_L_tryBuyTrack ⟨by decide, by decide⟩ ⟨Nat.le_of_ble_eq_true rfl, Nat.le_of_ble_eq_true rfl⟩ (show cells + 3 + 3 ≤ 143 ∧ slots + 18 + 18 ≤ 858 from ⟨by omega, by omega⟩) rfl hl.1 rfl (Nat.le_of_ble_eq_true rfl) dL_refuses_159 (fun H locs hw hS => ?_)
      refine W.eq (g2 := F0 m 162 ls [.int v_65]) rfl ?_
      refine lv_ldc cx.1 cx.2.1 cx.2.2.2.1 (cx.2.2.2.2.ts _ gw_218) dL_refuses_162 ?_
      refine lv_icmp_ne (tgt := 376) cx.1 cx.2.1 dL_refuses_164 (by decide) (fun hc => ?_) (fun hc => ?_)
      · rw [if_neg hc] at hf
        refine lv_iconst (v := (0 : Int32)) cx.1 cx.2.1 dL_refuses_376 (by decide) ?_
        exact hB_377 S_66 x1 x3 (0 : Int32) _ _ _ _ _ (by omega) (by omega) hw hS (lv_sub hl [0, 1, 3] rfl) hf
      · rw [if_pos hc] at hf
        refine lv_aload_n cx.1 cx.2.1 dL_refuses_167 rfl (lv_at hl 0 rfl) ?_
        refine lv_iconst (v := (4 : Int32)) cx.1 cx.2.1 dL_refuses_168 (by decide) ?_
        refine lv_iconst (v := (0 : Int32)) cx.1 cx.2.1 dL_refuses_169 (by decide) ?_
        obtain ⟨v_67, S_68, hv, hf⟩ := gbs_some hf
        refine a_SW (As := [.ref (G.2.1 0), .int (4 : Int32), .int (0 : Int32)]) (rest := []) cx hX hZ hw hS (a_tryBuyTrain l hst G (4 : Int32) (0 : Int32) S_66 v_67 S_68 hv) gw_468 gw_187 gyw_L_tryBuyTrain ⟨by decide, by decide⟩ ⟨Nat.le_of_ble_eq_true rfl, Nat.le_of_ble_eq_true rfl⟩ (show cells + 3 + 3 + 3 ≤ 143 ∧ slots + 18 + 18 + 18 ≤ 858 from ⟨by omega, by omega⟩) rfl hl.1 rfl (Nat.le_of_ble_eq_true rfl) dL_refuses_170 (fun H locs hw hS => ?_)
        refine W.eq (g2 := F0 m 173 ls [.int v_67]) rfl ?_
        refine lv_ldc cx.1 cx.2.1 cx.2.2.2.1 (cx.2.2.2.2.ts _ gw_218) dL_refuses_173 ?_
        refine lv_icmp_ne (tgt := 376) cx.1 cx.2.1 dL_refuses_175 (by decide) (fun hc => ?_) (fun hc => ?_)
        · rw [if_neg hc] at hf
          refine lv_iconst (v := (0 : Int32)) cx.1 cx.2.1 dL_refuses_376 (by decide) ?_
          exact hB_377 S_68 x1 x3 (0 : Int32) _ _ _ _ _ (by omega) (by omega) hw hS (lv_sub hl [0, 1, 3] rfl) hf
        · rw [if_pos hc] at hf
          refine lv_aload_n cx.1 cx.2.1 dL_refuses_178 rfl (lv_at hl 0 rfl) ?_
          refine lv_iconst (v := (0 : Int32)) cx.1 cx.2.1 dL_refuses_179 (by decide) ?_
          refine lv_iconst (v := (0 : Int32)) cx.1 cx.2.1 dL_refuses_180 (by decide) ?_
          obtain ⟨v_69, S_70, hv, hf⟩ := gbs_some hf
          refine a_SW (As := [.ref (G.2.1 0), .int (0 : Int32), .int (0 : Int32)]) (rest := []) cx hX hZ hw hS (a_tryBuyTrain l hst G (0 : Int32) (0 : Int32) S_68 v_69 S_70 hv) gw_468 gw_187 gyw_L_tryBuyTrain ⟨by decide, by decide⟩ ⟨Nat.le_of_ble_eq_true rfl, Nat.le_of_ble_eq_true rfl⟩ (show cells + 3 + 3 + 3 + 3 ≤ 143 ∧ slots + 18 + 18 + 18 + 18 ≤ 858 from ⟨by omega, by omega⟩) rfl hl.1 rfl (Nat.le_of_ble_eq_true rfl) dL_refuses_181 (fun H locs hw hS => ?_)
          refine W.eq (g2 := F0 m 184 ls [.int v_69]) rfl ?_
          refine lv_ldc cx.1 cx.2.1 cx.2.2.2.1 (cx.2.2.2.2.ts _ gw_190) dL_refuses_184 ?_
          refine lv_icmp_ne (tgt := 376) cx.1 cx.2.1 dL_refuses_186 (by decide) (fun hc => ?_) (fun hc => ?_)
          · rw [if_neg hc] at hf
            refine lv_iconst (v := (0 : Int32)) cx.1 cx.2.1 dL_refuses_376 (by decide) ?_
            exact hB_377 S_70 x1 x3 (0 : Int32) _ _ _ _ _ (by omega) (by omega) hw hS (lv_sub hl [0, 1, 3] rfl) hf
          · rw [if_pos hc] at hf
            refine lv_aload_n cx.1 cx.2.1 dL_refuses_189 rfl (lv_at hl 0 rfl) ?_
            refine lv_iconst (v := (0 : Int32)) cx.1 cx.2.1 dL_refuses_190 (by decide) ?_
            refine lv_bipush (v := (7 : Int32)) cx.1 cx.2.1 dL_refuses_191 (by decide) ?_
            obtain ⟨v_71, S_72, hv, hf⟩ := gbs_some hf
            refine a_SW (As := [.ref (G.2.1 0), .int (0 : Int32), .int (7 : Int32)]) (rest := []) cx hX hZ hw hS (a_tryBuyTrain l hst G (0 : Int32) (7 : Int32) S_70 v_71 S_72 hv) gw_468 gw_187 gyw_L_tryBuyTrain ⟨by decide, by decide⟩ ⟨Nat.le_of_ble_eq_true rfl, Nat.le_of_ble_eq_true rfl⟩ (show cells + 3 + 3 + 3 + 3 + 3 ≤ 143 ∧ slots + 18 + 18 + 18 + 18 + 18 ≤ 858 from ⟨by omega, by omega⟩) rfl hl.1 rfl (Nat.le_of_ble_eq_true rfl) dL_refuses_193 (fun H locs hw hS => ?_)
            refine W.eq (g2 := F0 m 196 ls [.int v_71]) rfl ?_
            refine lv_ldc cx.1 cx.2.1 cx.2.2.2.1 (cx.2.2.2.2.ts _ gw_190) dL_refuses_196 ?_
            refine lv_icmp_ne (tgt := 376) cx.1 cx.2.1 dL_refuses_198 (by decide) (fun hc => ?_) (fun hc => ?_)
            · rw [if_neg hc] at hf
              refine lv_iconst (v := (0 : Int32)) cx.1 cx.2.1 dL_refuses_376 (by decide) ?_
              exact hB_377 S_72 x1 x3 (0 : Int32) _ _ _ _ _ (by omega) (by omega) hw hS (lv_sub hl [0, 1, 3] rfl) hf
            · rw [if_pos hc] at hf
              refine lv_aload_n cx.1 cx.2.1 dL_refuses_201 rfl (lv_at hl 0 rfl) ?_
              refine lv_iconst (v := (3 : Int32)) cx.1 cx.2.1 dL_refuses_202 (by decide) ?_
              obtain ⟨v_73, S_74, hv, hf⟩ := gbs_some hf
              refine a_SW (As := [.ref (G.2.1 0), .int (3 : Int32)]) (rest := []) cx hX hZ hw hS (a_tryAbout l hst G (3 : Int32) S_72 v_73 S_74 hv) gw_185 gw_187 gyw_L_tryAbout ⟨by decide, by decide⟩ ⟨Nat.le_of_ble_eq_true rfl, Nat.le_of_ble_eq_true rfl⟩ (show cells + 3 + 3 + 3 + 3 + 3 + 1 ≤ 143 ∧ slots + 18 + 18 + 18 + 18 + 18 + 6 ≤ 858 from ⟨by omega, by omega⟩) rfl hl.1 rfl (Nat.le_of_ble_eq_true rfl) dL_refuses_203 (fun H locs hw hS => ?_)
              refine W.eq (g2 := F0 m 206 ls [.int v_73]) rfl ?_
              refine lv_iconst (v := (3 : Int32)) cx.1 cx.2.1 dL_refuses_206 (by decide) ?_
              refine lv_icmp_gt (tgt := 222) cx.1 cx.2.1 dL_refuses_207 (by decide) (fun hc => ?_) (fun hc => ?_)
              · rw [if_pos hc] at hf
                exact hB_222 S_74 x1 x3 x4 _ _ _ _ _ (by omega) (by omega) hw hS (lv_sub hl [0, 1, 3, 4] rfl) hf
              · rw [if_neg hc] at hf
                refine lv_aload_n cx.1 cx.2.1 dL_refuses_210 rfl (lv_at hl 0 rfl) ?_
                refine lv_iconst (v := (0 : Int32)) cx.1 cx.2.1 dL_refuses_211 (by decide) ?_
                refine lv_bipush (v := (6 : Int32)) cx.1 cx.2.1 dL_refuses_212 (by decide) ?_
                obtain ⟨v_75, S_76, hv, hf⟩ := gbs_some hf
                refine a_SW (As := [.ref (G.2.1 0), .int (0 : Int32), .int (6 : Int32)]) (rest := []) cx hX hZ hw hS (a_tryBuyTrain l hst G (0 : Int32) (6 : Int32) S_74 v_75 S_76 hv) gw_468 gw_187 gyw_L_tryBuyTrain ⟨by decide, by decide⟩ ⟨Nat.le_of_ble_eq_true rfl, Nat.le_of_ble_eq_true rfl⟩ (show cells + 3 + 3 + 3 + 3 + 3 + 1 + 3 ≤ 143 ∧ slots + 18 + 18 + 18 + 18 + 18 + 6 + 18 ≤ 858 from ⟨by omega, by omega⟩) rfl hl.1 rfl (Nat.le_of_ble_eq_true rfl) dL_refuses_214 (fun H locs hw hS => ?_)
                refine W.eq (g2 := F0 m 217 ls [.int v_75]) rfl ?_
                refine lv_ldc cx.1 cx.2.1 cx.2.2.2.1 (cx.2.2.2.2.ts _ gw_3) dL_refuses_217 ?_
                refine lv_icmp_ne (tgt := 376) cx.1 cx.2.1 dL_refuses_219 (by decide) (fun hc => ?_) (fun hc => ?_)
                · rw [if_neg hc] at hf
                  refine lv_iconst (v := (0 : Int32)) cx.1 cx.2.1 dL_refuses_376 (by decide) ?_
                  exact hB_377 S_76 x1 x3 (0 : Int32) _ _ _ _ _ (by omega) (by omega) hw hS (lv_sub hl [0, 1, 3] rfl) hf
                · rw [if_pos hc] at hf
                  exact hB_222 S_76 x1 x3 x4 _ _ _ _ _ (by omega) (by omega) hw hS (lv_sub hl [0, 1, 3, 4] rfl) hf
  have hB_117 : ∀ (S : At) (x1 : Int32) (x2 : Int32) (x3 : Int32) (x4 : Int32) (H : Heap) (locs : List Loc) (ls : Array Slot) (cells slots : Nat), cells + (123) ≤ 143 → slots + (738) ≤ 858 → gPA G S H → va_S (gAr (gNo G) s.heap.size) s.heap H locs → lv_has ls 6 [(0, .ref (G.2.1 0)), (1, .int x1), (2, .int x2), (3, .int x3), (4, .int x4)] → B_refuses_117 S x1 x2 x3 x4 = some (r, S') → W p l e (gRx 11 223 143 858) s m ([.ref (G.2.1 0)] : List Value).toArray below meth c H locs cells slots (MQ below (gQr (gPA G S') (some (.int r)) (gAr (gNo G) s.heap.size)) ([.ref (G.2.1 0)] : List Value).toArray s 143 858 (gAr (gNo G) s.heap.size)) (F0 m 117 ls []) := by
    intro S x1 x2 x3 x4 H locs ls cells slots hcl hsl hw hS hl hf
    unfold B_refuses_117 at hf
    refine lv_aload_n cx.1 cx.2.1 dL_refuses_117 rfl (lv_at hl 0 rfl) ?_
    refine lv_iload_n cx.1 cx.2.1 dL_refuses_118 rfl (lv_at hl 3 rfl) ?_
    refine lv_bipush (v := (6 : Int32)) cx.1 cx.2.1 dL_refuses_119 (by decide) ?_
    obtain ⟨v_77, S_78, hv, hf⟩ := gbs_some hf
    refine a_SW (As := [.ref (G.2.1 0), .int x3, .int (6 : Int32)]) (rest := []) cx hX hZ hw hS (a_tryContract l hst G x3 (6 : Int32) S v_77 S_78 hv) gw_416 gw_187 gyw_L_tryContract ⟨by decide, by decide⟩ ⟨Nat.le_of_ble_eq_true rfl, Nat.le_of_ble_eq_true rfl⟩ (show cells + 2 ≤ 143 ∧ slots + 12 ≤ 858 from ⟨by omega, by omega⟩) rfl hl.1 rfl (Nat.le_of_ble_eq_true rfl) dL_refuses_121 (fun H locs hw hS => ?_)
    refine W.eq (g2 := F0 m 124 ls [.int v_77]) rfl ?_
    refine lv_ldc cx.1 cx.2.1 cx.2.2.2.1 (cx.2.2.2.2.ts _ gw_218) dL_refuses_124 ?_
    refine lv_icmp_ne (tgt := 376) cx.1 cx.2.1 dL_refuses_126 (by decide) (fun hc => ?_) (fun hc => ?_)
    · rw [if_neg hc] at hf
      refine lv_iconst (v := (0 : Int32)) cx.1 cx.2.1 dL_refuses_376 (by decide) ?_
      exact hB_377 S_78 x1 x3 (0 : Int32) _ _ _ _ _ (by omega) (by omega) hw hS (lv_sub hl [0, 1, 3] rfl) hf
    · rw [if_pos hc] at hf
      refine lv_iload_n cx.1 cx.2.1 dL_refuses_129 rfl (lv_at hl 3 rfl) ?_
      refine lv_if_eq (tgt := 145) cx.1 cx.2.1 dL_refuses_130 (by decide) (fun hc => ?_) (fun hc => ?_)
      · rw [if_pos hc] at hf
        exact hB_145 S_78 x1 x2 x3 x4 _ _ _ _ _ (by omega) (by omega) hw hS (lv_sub hl [0, 1, 2, 3, 4] rfl) hf
      · rw [if_neg hc] at hf
        refine lv_aload_n cx.1 cx.2.1 dL_refuses_133 rfl (lv_at hl 0 rfl) ?_
        refine lv_iconst (v := (0 : Int32)) cx.1 cx.2.1 dL_refuses_134 (by decide) ?_
        refine lv_bipush (v := (6 : Int32)) cx.1 cx.2.1 dL_refuses_135 (by decide) ?_
        obtain ⟨v_79, S_80, hv, hf⟩ := gbs_some hf
        refine a_SW (As := [.ref (G.2.1 0), .int (0 : Int32), .int (6 : Int32)]) (rest := []) cx hX hZ hw hS (a_tryContract l hst G (0 : Int32) (6 : Int32) S_78 v_79 S_80 hv) gw_416 gw_187 gyw_L_tryContract ⟨by decide, by decide⟩ ⟨Nat.le_of_ble_eq_true rfl, Nat.le_of_ble_eq_true rfl⟩ (show cells + 2 + 2 ≤ 143 ∧ slots + 12 + 12 ≤ 858 from ⟨by omega, by omega⟩) rfl hl.1 rfl (Nat.le_of_ble_eq_true rfl) dL_refuses_137 (fun H locs hw hS => ?_)
        refine W.eq (g2 := F0 m 140 ls [.int v_79]) rfl ?_
        refine lv_ldc cx.1 cx.2.1 cx.2.2.2.1 (cx.2.2.2.2.ts _ gw_190) dL_refuses_140 ?_
        refine lv_icmp_ne (tgt := 376) cx.1 cx.2.1 dL_refuses_142 (by decide) (fun hc => ?_) (fun hc => ?_)
        · rw [if_neg hc] at hf
          refine lv_iconst (v := (0 : Int32)) cx.1 cx.2.1 dL_refuses_376 (by decide) ?_
          exact hB_377 S_80 x1 x3 (0 : Int32) _ _ _ _ _ (by omega) (by omega) hw hS (lv_sub hl [0, 1, 3] rfl) hf
        · rw [if_pos hc] at hf
          exact hB_145 S_80 x1 x2 x3 x4 _ _ _ _ _ (by omega) (by omega) hw hS (lv_sub hl [0, 1, 2, 3, 4] rfl) hf
  have hB_63 : ∀ (S : At) (x1 : Int32) (x2 : Int32) (x3 : Int32) (x4 : Int32) (H : Heap) (locs : List Loc) (ls : Array Slot) (cells slots : Nat), cells + (133) ≤ 143 → slots + (798) ≤ 858 → gPA G S H → va_S (gAr (gNo G) s.heap.size) s.heap H locs → lv_has ls 6 [(0, .ref (G.2.1 0)), (1, .int x1), (2, .int x2), (3, .int x3), (4, .int x4)] → B_refuses_63 S x1 x2 x3 x4 = some (r, S') → W p l e (gRx 11 223 143 858) s m ([.ref (G.2.1 0)] : List Value).toArray below meth c H locs cells slots (MQ below (gQr (gPA G S') (some (.int r)) (gAr (gNo G) s.heap.size)) ([.ref (G.2.1 0)] : List Value).toArray s 143 858 (gAr (gNo G) s.heap.size)) (F0 m 63 ls []) := by
    intro S x1 x2 x3 x4 H locs ls cells slots hcl hsl hw hS hl hf
    unfold B_refuses_63 at hf
    refine lv_aload_n cx.1 cx.2.1 dL_refuses_63 rfl (lv_at hl 0 rfl) ?_
    refine lv_iconst (v := (4 : Int32)) cx.1 cx.2.1 dL_refuses_64 (by decide) ?_
    refine lv_bipush (v := (7 : Int32)) cx.1 cx.2.1 dL_refuses_65 (by decide) ?_
    obtain ⟨v_81, S_82, hv, hf⟩ := gbs_some hf
    refine a_SW (As := [.ref (G.2.1 0), .int (4 : Int32), .int (7 : Int32)]) (rest := []) cx hX hZ hw hS (a_tryCompany l hst G (4 : Int32) (7 : Int32) S v_81 S_82 hv) gw_349 gw_187 gyw_L_tryCompany ⟨by decide, by decide⟩ ⟨Nat.le_of_ble_eq_true rfl, Nat.le_of_ble_eq_true rfl⟩ (show cells + 2 ≤ 143 ∧ slots + 12 ≤ 858 from ⟨by omega, by omega⟩) rfl hl.1 rfl (Nat.le_of_ble_eq_true rfl) dL_refuses_67 (fun H locs hw hS => ?_)
    refine W.eq (g2 := F0 m 70 ls [.int v_81]) rfl ?_
    refine lv_ldc cx.1 cx.2.1 cx.2.2.2.1 (cx.2.2.2.2.ts _ gw_218) dL_refuses_70 ?_
    refine lv_icmp_ne (tgt := 376) cx.1 cx.2.1 dL_refuses_72 (by decide) (fun hc => ?_) (fun hc => ?_)
    · rw [if_neg hc] at hf
      refine lv_iconst (v := (0 : Int32)) cx.1 cx.2.1 dL_refuses_376 (by decide) ?_
      exact hB_377 S_82 x1 x3 (0 : Int32) _ _ _ _ _ (by omega) (by omega) hw hS (lv_sub hl [0, 1, 3] rfl) hf
    · rw [if_pos hc] at hf
      refine lv_aload_n cx.1 cx.2.1 dL_refuses_75 rfl (lv_at hl 0 rfl) ?_
      refine lv_iconst (v := (0 : Int32)) cx.1 cx.2.1 dL_refuses_76 (by decide) ?_
      refine lv_bipush (v := (7 : Int32)) cx.1 cx.2.1 dL_refuses_77 (by decide) ?_
      obtain ⟨v_83, S_84, hv, hf⟩ := gbs_some hf
      refine a_SW (As := [.ref (G.2.1 0), .int (0 : Int32), .int (7 : Int32)]) (rest := []) cx hX hZ hw hS (a_tryCompany l hst G (0 : Int32) (7 : Int32) S_82 v_83 S_84 hv) gw_349 gw_187 gyw_L_tryCompany ⟨by decide, by decide⟩ ⟨Nat.le_of_ble_eq_true rfl, Nat.le_of_ble_eq_true rfl⟩ (show cells + 2 + 2 ≤ 143 ∧ slots + 12 + 12 ≤ 858 from ⟨by omega, by omega⟩) rfl hl.1 rfl (Nat.le_of_ble_eq_true rfl) dL_refuses_79 (fun H locs hw hS => ?_)
      refine W.eq (g2 := F0 m 82 ls [.int v_83]) rfl ?_
      refine lv_ldc cx.1 cx.2.1 cx.2.2.2.1 (cx.2.2.2.2.ts _ gw_190) dL_refuses_82 ?_
      refine lv_icmp_ne (tgt := 376) cx.1 cx.2.1 dL_refuses_84 (by decide) (fun hc => ?_) (fun hc => ?_)
      · rw [if_neg hc] at hf
        refine lv_iconst (v := (0 : Int32)) cx.1 cx.2.1 dL_refuses_376 (by decide) ?_
        exact hB_377 S_84 x1 x3 (0 : Int32) _ _ _ _ _ (by omega) (by omega) hw hS (lv_sub hl [0, 1, 3] rfl) hf
      · rw [if_pos hc] at hf
        refine lv_aload_n cx.1 cx.2.1 dL_refuses_87 rfl (lv_at hl 0 rfl) ?_
        refine lv_iconst (v := (0 : Int32)) cx.1 cx.2.1 dL_refuses_88 (by decide) ?_
        refine lv_iload cx.1 cx.2.1 dL_refuses_89 (lv_at hl 4 rfl) ?_
        refine lv_iconst (v := (2 : Int32)) cx.1 cx.2.1 dL_refuses_91 (by decide) ?_
        obtain ⟨v_85, S_86, hv, hf⟩ := gbs_some hf
        refine a_SW (As := [.ref (G.2.1 0), .int (0 : Int32), .int x4, .int (2 : Int32)]) (rest := []) cx hX hZ hw hS (a_tryTrain l hst G (0 : Int32) x4 (2 : Int32) S_84 v_85 S_86 hv) gw_389 gw_187 gyw_L_tryTrain ⟨by decide, by decide⟩ ⟨Nat.le_of_ble_eq_true rfl, Nat.le_of_ble_eq_true rfl⟩ (show cells + 2 + 2 + 3 ≤ 143 ∧ slots + 12 + 12 + 18 ≤ 858 from ⟨by omega, by omega⟩) rfl hl.1 rfl (Nat.le_of_ble_eq_true rfl) dL_refuses_92 (fun H locs hw hS => ?_)
        refine W.eq (g2 := F0 m 95 ls [.int v_85]) rfl ?_
        refine lv_ldc cx.1 cx.2.1 cx.2.2.2.1 (cx.2.2.2.2.ts _ gw_218) dL_refuses_95 ?_
        refine lv_icmp_ne (tgt := 376) cx.1 cx.2.1 dL_refuses_97 (by decide) (fun hc => ?_) (fun hc => ?_)
        · rw [if_neg hc] at hf
          refine lv_iconst (v := (0 : Int32)) cx.1 cx.2.1 dL_refuses_376 (by decide) ?_
          exact hB_377 S_86 x1 x3 (0 : Int32) _ _ _ _ _ (by omega) (by omega) hw hS (lv_sub hl [0, 1, 3] rfl) hf
        · rw [if_pos hc] at hf
          refine lv_iload cx.1 cx.2.1 dL_refuses_100 (lv_at hl 4 rfl) ?_
          refine lv_if_eq (tgt := 117) cx.1 cx.2.1 dL_refuses_102 (by decide) (fun hc => ?_) (fun hc => ?_)
          · rw [if_pos hc] at hf
            exact hB_117 S_86 x1 x2 x3 x4 _ _ _ _ _ (by omega) (by omega) hw hS (lv_sub hl [0, 1, 2, 3, 4] rfl) hf
          · rw [if_neg hc] at hf
            refine lv_aload_n cx.1 cx.2.1 dL_refuses_105 rfl (lv_at hl 0 rfl) ?_
            refine lv_iconst (v := (0 : Int32)) cx.1 cx.2.1 dL_refuses_106 (by decide) ?_
            refine lv_iconst (v := (0 : Int32)) cx.1 cx.2.1 dL_refuses_107 (by decide) ?_
            refine lv_iconst (v := (2 : Int32)) cx.1 cx.2.1 dL_refuses_108 (by decide) ?_
            obtain ⟨v_87, S_88, hv, hf⟩ := gbs_some hf
            refine a_SW (As := [.ref (G.2.1 0), .int (0 : Int32), .int (0 : Int32), .int (2 : Int32)]) (rest := []) cx hX hZ hw hS (a_tryTrain l hst G (0 : Int32) (0 : Int32) (2 : Int32) S_86 v_87 S_88 hv) gw_389 gw_187 gyw_L_tryTrain ⟨by decide, by decide⟩ ⟨Nat.le_of_ble_eq_true rfl, Nat.le_of_ble_eq_true rfl⟩ (show cells + 2 + 2 + 3 + 3 ≤ 143 ∧ slots + 12 + 12 + 18 + 18 ≤ 858 from ⟨by omega, by omega⟩) rfl hl.1 rfl (Nat.le_of_ble_eq_true rfl) dL_refuses_109 (fun H locs hw hS => ?_)
            refine W.eq (g2 := F0 m 112 ls [.int v_87]) rfl ?_
            refine lv_ldc cx.1 cx.2.1 cx.2.2.2.1 (cx.2.2.2.2.ts _ gw_190) dL_refuses_112 ?_
            refine lv_icmp_ne (tgt := 376) cx.1 cx.2.1 dL_refuses_114 (by decide) (fun hc => ?_) (fun hc => ?_)
            · rw [if_neg hc] at hf
              refine lv_iconst (v := (0 : Int32)) cx.1 cx.2.1 dL_refuses_376 (by decide) ?_
              exact hB_377 S_88 x1 x3 (0 : Int32) _ _ _ _ _ (by omega) (by omega) hw hS (lv_sub hl [0, 1, 3] rfl) hf
            · rw [if_pos hc] at hf
              exact hB_117 S_88 x1 x2 x3 x4 _ _ _ _ _ (by omega) (by omega) hw hS (lv_sub hl [0, 1, 2, 3, 4] rfl) hf
  have hl : lv_has ls 6 [(0, .ref (G.2.1 0))] := hl
  unfold h_refuses at hf
  refine lv_aload_n cx.1 cx.2.1 dL_refuses_0 rfl (lv_at hl 0 rfl) ?_
  refine lv_iconst (v := (0 : Int32)) cx.1 cx.2.1 dL_refuses_1 (by decide) ?_
  obtain ⟨v_89, S_90, hv, hf⟩ := gbs_some hf
  refine a_SW (As := [.ref (G.2.1 0), .int (0 : Int32)]) (rest := []) cx hX hZ hw hS (a_tryAbout l hst G (0 : Int32) S v_89 S_90 hv) gw_185 gw_187 gyw_L_tryAbout ⟨by decide, by decide⟩ ⟨Nat.le_of_ble_eq_true rfl, Nat.le_of_ble_eq_true rfl⟩ (show 0 + 1 ≤ 143 ∧ 0 + 6 ≤ 858 from ⟨by omega, by omega⟩) rfl hl.1 rfl (Nat.le_of_ble_eq_true rfl) dL_refuses_2 (fun H locs hw hS => ?_)
  refine W.eq (g2 := F0 m 5 ls [.int v_89]) rfl ?_
  refine lv_istore_n (lv' := [(1, .int v_89), (0, .ref (G.2.1 0))]) cx.1 cx.2.1 dL_refuses_5 rfl hl (by decide) rfl (fun ls hl => ?_)
  refine lv_aload_n cx.1 cx.2.1 dL_refuses_6 rfl (lv_at hl 1 rfl) ?_
  refine lv_iconst (v := (1 : Int32)) cx.1 cx.2.1 dL_refuses_7 (by decide) ?_
  obtain ⟨v_91, S_92, hv, hf⟩ := gbs_some hf
  refine a_SW (As := [.ref (G.2.1 0), .int (1 : Int32)]) (rest := []) cx hX hZ hw hS (a_tryAbout l hst G (1 : Int32) S_90 v_91 S_92 hv) gw_185 gw_187 gyw_L_tryAbout ⟨by decide, by decide⟩ ⟨Nat.le_of_ble_eq_true rfl, Nat.le_of_ble_eq_true rfl⟩ (show 0 + 1 + 1 ≤ 143 ∧ 0 + 6 + 6 ≤ 858 from ⟨by omega, by omega⟩) rfl hl.1 rfl (Nat.le_of_ble_eq_true rfl) dL_refuses_8 (fun H locs hw hS => ?_)
  refine W.eq (g2 := F0 m 11 ls [.int v_91]) rfl ?_
  refine lv_istore_n (lv' := [(2, .int v_91), (1, .int v_89), (0, .ref (G.2.1 0))]) cx.1 cx.2.1 dL_refuses_11 rfl hl (by decide) rfl (fun ls hl => ?_)
  refine lv_aload_n cx.1 cx.2.1 dL_refuses_12 rfl (lv_at hl 2 rfl) ?_
  refine lv_iconst (v := (2 : Int32)) cx.1 cx.2.1 dL_refuses_13 (by decide) ?_
  obtain ⟨v_93, S_94, hv, hf⟩ := gbs_some hf
  refine a_SW (As := [.ref (G.2.1 0), .int (2 : Int32)]) (rest := []) cx hX hZ hw hS (a_tryAbout l hst G (2 : Int32) S_92 v_93 S_94 hv) gw_185 gw_187 gyw_L_tryAbout ⟨by decide, by decide⟩ ⟨Nat.le_of_ble_eq_true rfl, Nat.le_of_ble_eq_true rfl⟩ (show 0 + 1 + 1 + 1 ≤ 143 ∧ 0 + 6 + 6 + 6 ≤ 858 from ⟨by omega, by omega⟩) rfl hl.1 rfl (Nat.le_of_ble_eq_true rfl) dL_refuses_14 (fun H locs hw hS => ?_)
  refine W.eq (g2 := F0 m 17 ls [.int v_93]) rfl ?_
  refine lv_istore_n (lv' := [(3, .int v_93), (2, .int v_91), (1, .int v_89), (0, .ref (G.2.1 0))]) cx.1 cx.2.1 dL_refuses_17 rfl hl (by decide) rfl (fun ls hl => ?_)
  refine lv_aload_n cx.1 cx.2.1 dL_refuses_18 rfl (lv_at hl 3 rfl) ?_
  refine lv_iconst (v := (0 : Int32)) cx.1 cx.2.1 dL_refuses_19 (by decide) ?_
  refine lv_iconst (v := (2 : Int32)) cx.1 cx.2.1 dL_refuses_20 (by decide) ?_
  obtain ⟨v_95, S_96, hv, hf⟩ := gbs_some hf
  refine a_SW (As := [.ref (G.2.1 0), .int (0 : Int32), .int (2 : Int32)]) (rest := []) cx hX hZ hw hS (a_tryCompany l hst G (0 : Int32) (2 : Int32) S_94 v_95 S_96 hv) gw_349 gw_187 gyw_L_tryCompany ⟨by decide, by decide⟩ ⟨Nat.le_of_ble_eq_true rfl, Nat.le_of_ble_eq_true rfl⟩ (show 0 + 1 + 1 + 1 + 2 ≤ 143 ∧ 0 + 6 + 6 + 6 + 12 ≤ 858 from ⟨by omega, by omega⟩) rfl hl.1 rfl (Nat.le_of_ble_eq_true rfl) dL_refuses_21 (fun H locs hw hS => ?_)
  refine W.eq (g2 := F0 m 24 ls [.int v_95]) rfl ?_
  refine lv_istore (lv' := [(4, .int v_95), (3, .int v_93), (2, .int v_91), (1, .int v_89), (0, .ref (G.2.1 0))]) cx.1 cx.2.1 dL_refuses_24 hl (by decide) rfl (fun ls hl => ?_)
  refine lv_aload_n cx.1 cx.2.1 dL_refuses_26 rfl (lv_at hl 4 rfl) ?_
  refine lv_bipush (v := (11 : Int32)) cx.1 cx.2.1 dL_refuses_27 (by decide) ?_
  obtain ⟨v_97, S_98, hv, hf⟩ := gbs_some hf
  refine a_SW (As := [.ref (G.2.1 0), .int (11 : Int32)]) (rest := []) cx hX hZ hw hS (a_tryAbout l hst G (11 : Int32) S_96 v_97 S_98 hv) gw_185 gw_187 gyw_L_tryAbout ⟨by decide, by decide⟩ ⟨Nat.le_of_ble_eq_true rfl, Nat.le_of_ble_eq_true rfl⟩ (show 0 + 1 + 1 + 1 + 2 + 1 ≤ 143 ∧ 0 + 6 + 6 + 6 + 12 + 6 ≤ 858 from ⟨by omega, by omega⟩) rfl hl.1 rfl (Nat.le_of_ble_eq_true rfl) dL_refuses_29 (fun H locs hw hS => ?_)
  refine W.eq (g2 := F0 m 32 ls [.int v_97]) rfl ?_
  refine lv_ldc cx.1 cx.2.1 cx.2.2.2.1 (cx.2.2.2.2.ts _ gw_190) dL_refuses_32 ?_
  refine lv_icmp_ne (tgt := 376) cx.1 cx.2.1 dL_refuses_34 (by decide) (fun hc => ?_) (fun hc => ?_)
  · rw [if_neg hc] at hf
    refine lv_iconst (v := (0 : Int32)) cx.1 cx.2.1 dL_refuses_376 (by decide) ?_
    exact hB_377 S_98 v_89 v_93 (0 : Int32) _ _ _ _ _ (by omega) (by omega) hw hS (lv_sub hl [4, 3, 1] rfl) hf
  · rw [if_pos hc] at hf
    refine lv_aload_n cx.1 cx.2.1 dL_refuses_37 rfl (lv_at hl 4 rfl) ?_
    refine lv_iload_n cx.1 cx.2.1 dL_refuses_38 rfl (lv_at hl 2 rfl) ?_
    refine lv_iconst (v := (4 : Int32)) cx.1 cx.2.1 dL_refuses_39 (by decide) ?_
    obtain ⟨v_99, S_100, hv, hf⟩ := gbs_some hf
    refine a_SW (As := [.ref (G.2.1 0), .int v_91, .int (4 : Int32)]) (rest := []) cx hX hZ hw hS (a_tryTrack l hst G v_91 (4 : Int32) S_98 v_99 S_100 hv) gw_366 gw_187 gyw_L_tryTrack ⟨by decide, by decide⟩ ⟨Nat.le_of_ble_eq_true rfl, Nat.le_of_ble_eq_true rfl⟩ (show 0 + 1 + 1 + 1 + 2 + 1 + 2 ≤ 143 ∧ 0 + 6 + 6 + 6 + 12 + 6 + 12 ≤ 858 from ⟨by omega, by omega⟩) rfl hl.1 rfl (Nat.le_of_ble_eq_true rfl) dL_refuses_40 (fun H locs hw hS => ?_)
    refine W.eq (g2 := F0 m 43 ls [.int v_99]) rfl ?_
    refine lv_ldc cx.1 cx.2.1 cx.2.2.2.1 (cx.2.2.2.2.ts _ gw_218) dL_refuses_43 ?_
    refine lv_icmp_ne (tgt := 376) cx.1 cx.2.1 dL_refuses_45 (by decide) (fun hc => ?_) (fun hc => ?_)
    · rw [if_neg hc] at hf
      refine lv_iconst (v := (0 : Int32)) cx.1 cx.2.1 dL_refuses_376 (by decide) ?_
      exact hB_377 S_100 v_89 v_93 (0 : Int32) _ _ _ _ _ (by omega) (by omega) hw hS (lv_sub hl [4, 3, 1] rfl) hf
    · rw [if_pos hc] at hf
      refine lv_iload_n cx.1 cx.2.1 dL_refuses_48 rfl (lv_at hl 2 rfl) ?_
      refine lv_if_eq (tgt := 63) cx.1 cx.2.1 dL_refuses_49 (by decide) (fun hc => ?_) (fun hc => ?_)
      · rw [if_pos hc] at hf
        exact hB_63 S_100 v_89 v_91 v_93 v_95 _ _ _ _ _ (by omega) (by omega) hw hS (lv_sub hl [4, 3, 2, 1, 0] rfl) hf
      · rw [if_neg hc] at hf
        refine lv_aload_n cx.1 cx.2.1 dL_refuses_52 rfl (lv_at hl 4 rfl) ?_
        refine lv_iconst (v := (0 : Int32)) cx.1 cx.2.1 dL_refuses_53 (by decide) ?_
        refine lv_iconst (v := (4 : Int32)) cx.1 cx.2.1 dL_refuses_54 (by decide) ?_
        obtain ⟨v_101, S_102, hv, hf⟩ := gbs_some hf
        refine a_SW (As := [.ref (G.2.1 0), .int (0 : Int32), .int (4 : Int32)]) (rest := []) cx hX hZ hw hS (a_tryTrack l hst G (0 : Int32) (4 : Int32) S_100 v_101 S_102 hv) gw_366 gw_187 gyw_L_tryTrack ⟨by decide, by decide⟩ ⟨Nat.le_of_ble_eq_true rfl, Nat.le_of_ble_eq_true rfl⟩ (show 0 + 1 + 1 + 1 + 2 + 1 + 2 + 2 ≤ 143 ∧ 0 + 6 + 6 + 6 + 12 + 6 + 12 + 12 ≤ 858 from ⟨by omega, by omega⟩) rfl hl.1 rfl (Nat.le_of_ble_eq_true rfl) dL_refuses_55 (fun H locs hw hS => ?_)
        refine W.eq (g2 := F0 m 58 ls [.int v_101]) rfl ?_
        refine lv_ldc cx.1 cx.2.1 cx.2.2.2.1 (cx.2.2.2.2.ts _ gw_190) dL_refuses_58 ?_
        refine lv_icmp_ne (tgt := 376) cx.1 cx.2.1 dL_refuses_60 (by decide) (fun hc => ?_) (fun hc => ?_)
        · rw [if_neg hc] at hf
          refine lv_iconst (v := (0 : Int32)) cx.1 cx.2.1 dL_refuses_376 (by decide) ?_
          exact hB_377 S_102 v_89 v_93 (0 : Int32) _ _ _ _ _ (by omega) (by omega) hw hS (lv_sub hl [4, 3, 1] rfl) hf
        · rw [if_pos hc] at hf
          exact hB_63 S_102 v_89 v_91 v_93 v_95 _ _ _ _ _ (by omega) (by omega) hw hS (lv_sub hl [4, 3, 2, 1, 0] rfl) hf
