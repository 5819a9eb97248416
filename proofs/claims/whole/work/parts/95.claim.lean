/-! THE CLAIM OUT OF ONE WALK OF THE LAW'S BODY. Your part is whole_start (and what it stands on); all else here is the same for every law, but numbers. -/
def R_law : String := "RustRailsLaw"
def lw_P (b : Addr) (xs : List Int32) (args : Array Value) (s : State) : Prop := args = #[.ref b] ∧ s.IntsAt b xs ∧ xs.length ≤ 3072 ∧ (Jvm.Cond.and given_1 narrow_1).before args s = true
def lw_Q (_ : Array Value) (s : State) (o : Outcome) (t : State) : Prop := o = .returned (some (.int 1)) ∧ Framed s o t [] 601024 7293033
def lw_Z (below : List Frame) (a : Array Value) (s : State) : State → Prop := fun t => ∃ o, t.status = .running ∧ Ended t below o ∧ lw_Q a s o t
/-- the law's own end, with 1 on the stack, nothing written that was there before, its room as the claim has it -/
theorem lw_ret {p : Program} {l : Launch} {e : Env} {s : State} {m : MethodId} {below : List Frame} {meth : Method} {c : Code} {b : Nat} (hx : p.tables.exec = Jvm.exec) (hb : c.code = code) (hr : meth.sig.returnType = ret) (hlocks : meth.locks = false) {pc : Nat} {H : Heap} {ls : Array Slot} (hdg : decode code pc = .ok (.ireturn, 1)) : W p l e room_1 s m #[Value.ref b] below meth c H [] 601024 7293033 (lw_Z below #[Value.ref b] s) (F0 m pc ls [.int 1]) := by
  intro T hT X
  obtain ⟨fs, hret, hrun, hended, hW, hframe⟩ := X.leave (v := some (.int 1)) (hlocks := hlocks) (fun h => by rw [hr] at h; cases h)
  have hmeth' : T.vm.method? m = some meth := X.method'
  refine ⟨T.setFrames fs, ?_, .returned (some (.int 1)), hrun, hended, rfl, ⟨_, rfl⟩, hW, hframe⟩
  jvm_step X.here [X.here.top, hx, hb, hdg, hmeth', hr, ret, narrow_b1]
  (try refine ⟨rfl, ?_⟩); (try refine ⟨rfl, ?_⟩)
  first | (intro acts; rw [hret _ acts rfl rfl rfl]) | rw [hret _ _ rfl rfl rfl]
  exact Steps.refl _
/-- what holds at the law's entry: the machine, the code, the tables' words (any of lw_tbl by 'hts w (by decide +kernel)'), the script of L ints xs at the cell b, what the Statement gives of the start (any of its parts by flat_of_before) -/
def lw_At (p : Program) (s : State) (m : MethodId) (meth : Method) (c : Code) (b L : Nat) (xs : Nat → Int32) : Prop :=
  p.tables.exec = Jvm.exec ∧ c.code = code ∧ meth.sig.returnType = ret ∧ c.maxLocals = 7 ∧ s.vm.findClass R_law = some m.cls ∧ (∀ w ∈ lw_tbl, w.before #[Value.ref b] s = true) ∧ va_X b L xs s s.heap ∧ b < s.heap.size ∧ meth.locks = false ∧ (Jvm.Cond.and given_1 narrow_1).before #[Value.ref b] s = true
set_option maxHeartbeats 4000000 in
set_option maxRecDepth 100000 in
theorem whole_start {p : Program} {e : Env} {s : State} {m : MethodId} {below : List Frame} {meth : Method} {c : Code} (l : Launch) (hflags : l.flags = flags0) {b L : Nat} {xs : Nat → Int32} (hL : L ≤ 3072) (C0 : lw_At p s m meth c b L xs) : W p l e room_1 s m #[Value.ref b] below meth c s.heap [] 0 0 (lw_Z below #[Value.ref b] s) (entryFrame m ([Value.ref b] : List Value).toArray 7) := by
  obtain ⟨hx, hb, hr, hml, hown, hts, hX, hbl, hlocks, hgv⟩ := id C0
  have hst : l.stackTraces = false := by unfold Launch.stackTraces; rw [hflags]; decide
  obtain ⟨K, hF⟩ := start_nF hts
  have hgX := start_gX hF hts hgv
  obtain ⟨Sa, Sb, Sc, Sd, Se, Sf, ea, eb, ec, ed, ee, ef, hSc, hSf, hInv⟩ := start_ok (S := fun _ => zrow) (fun _ _ _ => rfl)
  have cx : nCx p s m c cL_law 7 RL K := ⟨hx, hb, hml, hown, hF⟩
  have hA : ∀ q : Nat, s.heap.size ≤ q → (fun q : Nat => s.heap.size ≤ q) q := fun _ h => h
  have hS : va_S (fun q : Nat => s.heap.size ≤ q) s.heap s.heap [] := va_S.rf
  have hP : va_P K.1 gcl [] s.heap := fun k q h => by simp at h
  have hD : va_D (fun q : Nat => s.heap.size ≤ q) [] := ⟨fun i j p q h => by simp at h, fun k q h => by simp at h⟩
  have hl := lv_entry ([.ref b]) (n := 7) (Nat.le_of_ble_eq_true rfl)
  rw [lg_entry_eq]
  generalize (lg_sl ([.ref b]) ++ List.replicate (7 - (lg_sl ([.ref b])).length) Slot.unset).toArray = ls at hl ⊢
  have hl : lv_has ls 7 [(0, .ref b)] := hl
  refine n_new (C := RX10) (T := TX10) (N := 6) (ci := 9) (fs := [.null, .null, .null, .null, .null, .null]) cx inlX10 tyX10 tyX10_ok gw_0 gw_1 gw_2 rfl (fun j hj => by rcases (show j = 0 ∨ j = 1 ∨ j = 2 ∨ j = 3 ∨ j = 4 ∨ j = 5 by omega) with rfl | rfl | rfl | rfl | rfl | rfl <;> rfl) hP hD hS hA ⟨(Nat.le_of_ble_eq_true rfl), (Nat.le_of_ble_eq_true rfl)⟩ dL_law_0 (fun q1 H hP hD hS => ?_)
  refine lv_dup cx.1 cx.2.1 dL_law_3 rfl ?_
  refine n_callI (rest := [.ref q1]) (ws := []) cx (c_X10_init l K ea eb ec) gw_8 gy_X10_init gi_X10_init rfl hP hD hS hA ⟨(Nat.le_of_ble_eq_true rfl), (Nat.le_of_ble_eq_true rfl)⟩ ⟨(Nat.le_of_ble_eq_true rfl), (Nat.le_of_ble_eq_true rfl)⟩ hl.1 (Nat.le_of_ble_eq_true rfl) dL_law_4 (fun a1 H locs hu hP' hD' hS => ?_)
  have hu : a1 0 = q1 := hu
  have hP : va_P K.1 gcl (gw (K.1, a1, kc K, 392) Sc) H := hP'
  have hD : va_D (fun q : Nat => s.heap.size ≤ q) (gw (K.1, a1, kc K, 392) Sc) := hD'
  refine W.eq (g2 := F0 m 7 ls [.ref q1]) rfl ?_
  refine lv_astore_n (lv' := [(1, .ref q1), (0, .ref b)]) cx.1 cx.2.1 dL_law_7 rfl hl (by decide) rfl (fun ls hl => ?_)
  refine n_new (C := RX11) (T := TX11) (N := 16) (ci := 10) (fs := [.int 0, .null, .int 0, .int 0, .null, .null, .null, .null, .int 0, .null, .null, .null, .int 0, .int 0, .null, .int 0]) cx inlX11 tyX11 tyX11_ok gw_3 gw_4 gw_5 rfl (fun j hj => by rcases (show j = 0 ∨ j = 1 ∨ j = 2 ∨ j = 3 ∨ j = 4 ∨ j = 5 ∨ j = 6 ∨ j = 7 ∨ j = 8 ∨ j = 9 ∨ j = 10 ∨ j = 11 ∨ j = 12 ∨ j = 13 ∨ j = 14 ∨ j = 15 by omega) with rfl | rfl | rfl | rfl | rfl | rfl | rfl | rfl | rfl | rfl | rfl | rfl | rfl | rfl | rfl | rfl <;> rfl) hP hD hS hA ⟨(Nat.le_of_ble_eq_true rfl), (Nat.le_of_ble_eq_true rfl)⟩ dL_law_8 (fun q2 H hP hD hS => ?_)
  refine lv_dup cx.1 cx.2.1 dL_law_11 rfl ?_
  have hlen : (gw (K.1, a1, kc K, 392) Sc).length = 392 := gw_len
  have hgo : ∀ (k : Nat) (x : Nat × va_E), ((q2, .inr (10, [.int 0, .null, .int 0, .int 0, .null, .null, .null, .null, .int 0, .null, .null, .null, .int 0, .int 0, .null, .int 0])) :: gw (K.1, a1, kc K, 392) Sc)[k]? = some x → (gw (K.1, a1, kc K, 392) Sc ++ [(q2, .inr (10, [.int 0, .null, .int 0, .int 0, .null, .null, .null, .null, .int 0, .null, .null, .null, .int 0, .int 0, .null, .int 0]))])[if k = 0 then 392 else k - 1]? = some x := by
    intro k x hk
    cases k with
    | zero => rw [if_pos rfl, List.getElem?_append_right (by omega), hlen]; exact hk
    | succ k =>
      rw [List.getElem?_cons_succ] at hk
      have hk2 := (List.getElem?_eq_some_iff.mp hk).1
      rw [if_neg (by omega), show k + 1 - 1 = k by omega, List.getElem?_append_left hk2]
      exact hk
  have hlt : ∀ (k : Nat) (x : Nat × va_E), ((q2, .inr (10, [.int 0, .null, .int 0, .int 0, .null, .null, .null, .null, .int 0, .null, .null, .null, .int 0, .int 0, .null, .int 0])) :: gw (K.1, a1, kc K, 392) Sc)[k]? = some x → k < 393 := fun k x hk => by
    have := (List.getElem?_eq_some_iff.mp hk).1
    simp only [List.length_cons, hlen] at this
    omega
  have hPm : va_P K.1 gcl ((q2, .inr (10, [.int 0, .null, .int 0, .int 0, .null, .null, .null, .null, .int 0, .null, .null, .null, .int 0, .int 0, .null, .int 0])) :: gw (K.1, a1, kc K, 392) Sc) H := fun k x hk => hP _ x (hgo k x hk)
  have hDm : va_D (fun q : Nat => s.heap.size ≤ q) ((q2, .inr (10, [.int 0, .null, .int 0, .int 0, .null, .null, .null, .null, .int 0, .null, .null, .null, .int 0, .int 0, .null, .int 0])) :: gw (K.1, a1, kc K, 392) Sc) := by
    refine ⟨fun i j x y hi hj hxy => ?_, fun k x hk => hD.2 _ x (hgo k x hk)⟩
    have h1 := hD.1 _ _ x y (hgo i x hi) (hgo j y hj) hxy
    have h2 := hlt i x hi
    have h3 := hlt j y hj
    split at h1 <;> split at h1 <;> omega
  have hFc : ∀ x, va_A ((q2, .inr (10, [.int 0, .null, .int 0, .int 0, .null, .null, .null, .null, .int 0, .null, .null, .null, .int 0, .int 0, .null, .int 0])) :: gw (K.1, a1, kc K, 392) Sc) H.size x → s.heap.size ≤ x := by
    intro x hx
    rcases hx with ⟨k, e', hx⟩ | hx
    · exact hDm.2 k _ hx
    · exact Nat.le_trans hS.1 hx
  have cw : CallB room_1 s #[Value.ref b] RL 101 yX11_init cX11_init 1 none [Cond.code yX11_init cX11_init 1 none] (gRx 2 44 9 3676) 9 3676 0 := by
    refine ⟨rfl, rfl, (Nat.le_of_ble_eq_true rfl), (Nat.le_of_ble_eq_true rfl), fun w hw a' U hW => ?_, List.mem_singleton.mpr rfl, cx.2.2.2.2.ts _ gy_X11_init.1, cx.2.2.2.2.ts _ gy_X11_init.2.1, ⟨gy_X11_init.2.2.1, gy_X11_init.2.2.2.1⟩, fun sig h => ?_, cx.2.2.2.2.ts _ gw_138⟩
    · rw [List.mem_singleton.mp hw]
      exact word_at hW (good_of_word (gw_good _ gy_X11_init.1)) (cx.2.2.2.2.2.1 _ gy_X11_init.1)
    · have h2 := gy_X11_init.2.2.2.2
      rw [h] at h2
      exact (Option.some.inj h2).symm
  refine va_callv (va_runI (As := []) (rest := [.ref q2]) ⟨cx.1, cx.2.1, cx.2.2.1, cx.2.2.2.1, cx.2.2.2.2.ts⟩ (c_X11_init l K (a1 := a1) (S := Sc) hSc ed ee ef q2 H.size) ⟨cw, rfl, cx.2.2.2.2.ts _ gi_X11_init⟩ ⟨fun a U g mk q => ⟨q.1, q.2.1, q.2.2.1, q.2.2.2.1.calling, q.2.2.2.2⟩, fun U hU hW => ⟨rfl, by rw [hU], by rw [hU]; exact hPm, hF.warm hW, hDm.weaken (fun _ _ _ _ => trivial)⟩⟩ rfl rfl hl.1 rfl (lv_room (Nat.le_of_ble_eq_true rfl)) dL_law_12 ⟨(Nat.le_of_ble_eq_true rfl), (Nat.le_of_ble_eq_true rfl)⟩) hS (fun x _ h => hFc x h) hFc (fun a2 t H1 locs1 ht hvm hu2 hB hz1 hk1 hS => ?_)
  obtain ⟨hP1, hD1⟩ := hB
  rw [ht] at hP1
  obtain ⟨hlo, ha2⟩ := hu2
  have hD2 : va_D (fun q : Nat => s.heap.size ≤ q) (gw (K.1, a2, kc K, 402) Sf) := hD1.weaken (fun k x _ h => hFc x.1 h)
  refine lv_astore_n (lv' := [(2, .ref q2), (1, .ref q1), (0, .ref b)]) cx.1 cx.2.1 dL_law_15 rfl hl (by decide) rfl (fun ls hl => ?_)
  refine lv_iconst (v := (1 : Int32)) cx.1 cx.2.1 dL_law_16 (by decide) ?_
  refine n_newl (N := 1) cx hP1 hD2 hS hA (by decide) (by decide) (Nat.le_of_ble_eq_true rfl) ⟨(Nat.le_of_ble_eq_true rfl), (Nat.le_of_ble_eq_true rfl)⟩ dL_law_17 (fun q3 H hP hD hS => ?_)
  refine lv_astore_n (lv' := [(3, .ref q3), (2, .ref q2), (1, .ref q1), (0, .ref b)]) cx.1 cx.2.1 dL_law_19 rfl hl (by decide) rfl (fun ls hl => ?_)
  refine lv_iconst (v := nI 0) cx.1 cx.2.1 dL_law_20 (by decide) ?_
  refine lv_istore (lv' := [(4, .int (nI 0)), (3, .ref q3), (2, .ref q2), (1, .ref q1), (0, .ref b)]) cx.1 cx.2.1 dL_law_21 hl (by decide) rfl (fun ls hl => ?_)
  obtain ⟨a3, ha3⟩ : ∃ a3 : Nat → Nat, a3 = fun k => if k < 402 then a2 k else q3 := ⟨_, rfl⟩
  have a3lo : ∀ k, k < 402 → a3 k = a2 k := fun k hk => by rw [ha3]; exact if_pos hk
  have a3hi : a3 402 = q3 := by rw [ha3]; exact if_neg (by omega)
  obtain ⟨G, hG⟩ : ∃ G : gG, G = (K.1, a3, kc K, 403) := ⟨_, rfl⟩
  have hlen2 : (gw (K.1, a2, kc K, 402) Sf).length = 402 := gw_len
  have hpos : ∀ k, k < 403 → ∃ en, (gw (K.1, a2, kc K, 402) Sf ++ [(q3, .inl (K.2.2.2.1, 1, .inr (.inl (fun j => (zrow j).toInt64))))])[k]? = some (a3 k, en) := by
    intro k hk
    by_cases h1 : k < 402
    · rw [List.getElem?_append_left (by omega), a3lo k h1]
      exact ⟨_, gw_at (G := (K.1, a2, kc K, 402)) h1⟩
    · have h2 : k = 402 := by omega
      subst h2
      rw [List.getElem?_append_right (by omega), hlen2, a3hi]
      exact ⟨_, rfl⟩
  have hi : gInj G := by
    rw [hG]
    intro i j hi hj he
    obtain ⟨e1, h1⟩ := hpos i hi
    obtain ⟨e2, h2⟩ := hpos j hj
    exact hD.1 i j _ _ h1 h2 he
  have hge : ∀ k, k < 403 → s.heap.size ≤ a3 k := fun k hk => by
    obtain ⟨e1, h1⟩ := hpos k hk
    exact hD.2 k _ h1
  have hw : gP G Sf H := by
    rw [hG]
    intro k x hx
    have hk : k < 403 := Decidable.byContradiction fun hn => by rw [gw_no (G := (K.1, a3, kc K, 403)) hn] at hx; cases hx
    rw [gw_at (G := (K.1, a3, kc K, 403)) hk] at hx
    rw [← Option.some.inj hx]
    by_cases h1 : k < 402
    · have h2 := hP k (a2 k, gE (K.1, a2, kc K, 402) k (Sf k)) (by rw [List.getElem?_append_left (by omega)]; exact gw_at (G := (K.1, a2, kc K, 402)) h1)
      exact va_at_cg (G := (K.1, a2, kc K, 402)) (G' := (K.1, a3, kc K, 403)) (Or.inr rfl) (fun x hx => (a3lo x hx).symm) rfl h1 h2
    · have h2 : k = 402 := by omega
      subst h2
      have h3 := hP 402 (q3, .inl (K.2.2.2.1, 1, .inr (.inl (fun j => (zrow j).toInt64)))) (by rw [List.getElem?_append_right (by omega), hlen2]; rfl)
      rw [hSf 402 (by omega), show ((K.1, a3, kc K, 403) : gG).2.1 402 = q3 from a3hi]
      exact h3
  have hO : 403 ≤ gN G := by rw [hG]; exact Nat.le_refl _
  have eA : gA G s.heap.size = fun q : Nat => s.heap.size ≤ q := by
    funext x
    refine propext ⟨fun hx => ?_, fun hx => Or.inr hx⟩
    rcases hx with ⟨k, hk, rfl⟩ | hx
    · rw [hG] at hk ⊢
      exact hge k hk
    · exact hx
  have cxg : gCx p s m c cL_law 7 RL G := ⟨hx, hb, hml, hown, hF.g (by rw [hG]) (by rw [hG]) hi (by omega)⟩
  have hZ : gZ (gA G s.heap.size) s s.heap := by
    rw [eA]
    exact start_gZ hts hgv (fun a h1 h2 => by have h2 : s.heap.size ≤ a := h2; omega)
  have hbA : ¬ gA G s.heap.size b := by
    rw [eA]
    exact Nat.not_le.mpr hbl
  have g0 : G.2.1 0 = q1 := by rw [hG]; show a3 0 = q1; rw [a3lo 0 (by omega), hlo 0 (by omega), hu]
  have g392 : G.2.1 392 = q2 := by rw [hG]; show a3 392 = q2; rw [a3lo 392 (by omega), ha2]
  have g402 : G.2.1 402 = q3 := by rw [hG]; exact a3hi
  rw [← eA] at hS
  refine law_loop hst hO cxg hgX hZ hX hbl hbA hL Inv inv_ok inv_keep (fun H locs ls cells slots h1 h2 hS => ?_) 513 0 (nI 0) Sf H _ ls _ _ (by omega) (by omega) rfl (Nat.le_of_ble_eq_true rfl) (Nat.le_of_ble_eq_true rfl) hInv hw hS ?_
  · rw [eA] at hS
    refine va_forget (fun q hq => hS.2.2 q hq) ?_
    refine W.widen h1 h2 ?_
    exact lw_ret hx hb hr hlocks dL_law_1918
  · rw [g0, g392, g402]
    exact lv_sub hl [4, 3, 2, 1, 0] rfl
set_option maxHeartbeats 4000000 in
theorem lw_walk (l : Launch) (hflags : l.flags = flags0) (b : Addr) (xs : List Int32) : MetFree l x (headSpec (Jvm.Cond.code x code maxLocals ret :: tables_1) room_1) (lw_P b xs) (fun _ _ _ _ _ => True) lw_Q := by
  refine MetFree.of_bodyS (code := code) (maxLocals := maxLocals) (ret := ret) (by decide) ?_ ?_
  · intro args s m h hn
    obtain ⟨meth, c, h1, h2, h3, h4, h5, h6, -, -⟩ := Cond.code_spec hn (atoms_spec (ws := Jvm.Cond.code x code maxLocals ret :: tables_1) h _ List.mem_cons_self)
    exact ⟨meth, c, h1, h2, h3, h4, h5, h6⟩
  · intro p e s m args below meth c s₁ B hml0 hP _
    obtain ⟨rfl, hx, hbd, hgv⟩ := hP
    obtain ⟨scr, harrAt, hlist, hof, hsmall⟩ := hx
    obtain ⟨hcb, hkn, -, -⟩ := State.arrayAt?_spec harrAt
    have hown : s.vm.findClass R_law = some m.cls := findClass_of_methodNamed B.named
    have hts0 : ∀ c ∈ (Jvm.Cond.code x code maxLocals ret :: tables_1), c.before #[Value.ref b] s = true := atoms_spec (ws := Jvm.Cond.code x code maxLocals ret :: tables_1) B.pre
    have hts : ∀ w ∈ lw_tbl, w.before #[Value.ref b] s = true := k2_hts_sels lw_privs (fun w hw => hts0 w (List.mem_cons_of_mem _ hw)) lw_privs_ok
    have hml : c.maxLocals = 7 := B.maxLocals_eq (hts0 _ List.mem_cons_self)
    have X₀ : Stand p l e room_1 s m #[Value.ref b] below meth c s₁ [] 0 0 := Stand.of_body B
    have hh0 : s₁.heap = s.heap := by rw [B.state]; rfl
    have hsz : scr.slots.size = xs.length := by rw [← Array.length_toList, hlist, List.length_map]
    have hval : ∀ j : Nat, j < xs.length → scr.slots[j]? = some (.int (xs.getD j 0)) := fun j hj => by
      rw [← Array.getElem?_toList, hlist]
      simp [hj]
    have hbl : b < s.heap.size := (Array.getElem?_eq_some_iff.mp hcb).1
    have hX : va_X b xs.length (fun j => xs.getD j 0) s s.heap := ⟨scr, hcb, hof, hkn, hsz, hval⟩
    have K : W p l e room_1 s m #[Value.ref b] below meth c s₁.heap [] 0 0 (lw_Z below #[Value.ref b] s) (entryFrame m ([Value.ref b] : List Value).toArray 7) := by
      rw [hh0]
      exact whole_start l hflags hbd ⟨B.exec, B.bytes, B.returns, hml, hown, hts, hX, hbl, B.notSynchronized, hgv⟩
    obtain ⟨t, a1, o, b1, b2, b3⟩ := K s₁ rfl X₀
    exact ⟨t, o, a1, b1, b2, b3⟩
theorem lw_pre_spec {args : Array Value} {s : State} (h : (Jvm.Cond.and given_1 narrow_1).before args s = true) (hr : rest_1_c.before args s = true) : ∃ (b : Addr) (xs : List Int32), lw_P b xs args s := by
  have hs := flat_of_before _ h
  have hq := flat_of_before _ hr
  have hc : (Cond.count 1).before args s = true := hs _ (by decide +kernel)
  have harr : (Cond.arrayOf (.arg 0) .int).before args s = true := hs _ (by decide +kernel)
  have hle : (Cond.le (.length (.arg 0)) (.int 3072)).before args s = true := hs _ (by decide +kernel)
  have hlen : (Cond.isInt (.length (.arg 0))).before args s = true := hq _ (by decide +kernel)
  have hall : (Cond.all (.arg 0) (.isInt (.elem (.arg 0) (.index 0)))).before args s = true := hq _ (by decide +kernel)
  obtain ⟨b, xs, hb, hx⟩ := State.ints_of_pre rfl harr hlen hall
  have hsm : xs.length < 2 ^ 31 := hx.choose_spec.2.2.2
  have hev : (Term.length (.arg 0)).eval args s none [] s = some (.int xs.length.toInt32) := hx.length_eval hb
  have hv := Cond.le_ints hev (show (Term.int 3072).eval args s none [] s = some (.int 3072) from rfl)
  have hd : xs.length.toInt32 ≤ 3072 := by
    simpa [Cond.before, Cond.holds, hv] using hle
  have hN : xs.length ≤ 3072 := (Int32.ofNat_le_ofNat hsm (by decide)).mp (show Int32.ofNat xs.length ≤ Int32.ofNat 3072 from hd)
  exact ⟨b, xs, Cond.one_arg hc (show args[0]? = some (.ref b) from hb), hx, hN, h⟩
theorem lw_comes (l : Launch) (hflags : l.flags = flags0) : Comes l x (Jvm.Cond.code x code maxLocals ret :: tables_1) room_1 (fun tb e args s => Calls_1 tb e args s ∧ rest_1 tb e args s ∧ Pre_1 tb e args s)
    (fun _ _ args s o t => lw_Q args s o t) := by
  intro p e ha hc hk s m args below hf hfit hheap happ hpre
  obtain ⟨b, xs, hP⟩ := lw_pre_spec hpre.2.2 hpre.2.1
  obtain ⟨k, o, h1, h2, h3, hQ⟩ := lw_walk l hflags b xs p e ha hc hk s m args below hf ((Spec.applies_iff_loose hf).mp happ).1 hP trivial
  exact ⟨k, o, h1, h2, h3, hQ⟩
theorem lw_frame {s t : State} {o : Outcome} {args : Array Value} (h : Framed s o t [] 601024 7293033) :
    Framed s o t (fieldLocs frame_1_writes args s ++ arrayLocs frame_1_arrays args s ++ staticLocs frame_1_statics s) 601024 7293033 := h
theorem lw_limb (L : Cond) (hL : ∀ (args : Array Value) (s t : State), L.after args s (.returned (some (.int 1))) t = true) :
    ArmFor flags0 classFile x code maxLocals ret World_1 tables_1 room_1 Calls_1 rest_1 Pre_1
      (fun tb e a s o t => postC L tb e a s o t ∧ Framed s o t (fieldLocs frame_1_writes a s ++ arrayLocs frame_1_arrays a s ++ staticLocs frame_1_statics s) 601024 7293033) := by
  intro l hflags _ _ p e ha hc hk s m args below hf hfit hheap happ hpre
  obtain ⟨k, o, h1, h2, h3, rfl, hF⟩ := lw_comes l hflags p e ha hc hk s m args below hf hfit hheap happ hpre
  exact ⟨k, _, h1, h2, h3, hL args s _, lw_frame hF⟩
theorem i_vc : Claimed_1_1 ∧ Claimed_1_2 := ⟨lw_limb limb_1_1 (fun args s t => by simp [limb_1_1, Cond.after, Cond.holds, Cond.value]), lw_limb limb_1_2 (fun args s t => Cond.after_iff.mpr (by
  first | (rw [show limb_1_2 = Cond.eq .result (.int 1) from rfl, Cond.eq_ints (x := 1) (y := 1) rfl rfl]; simp; done) | (simp [limb_1_2, Cond.value, Term.eval]; done)))⟩
