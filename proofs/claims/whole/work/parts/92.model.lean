/-! ===== the reference's world, made ===== -/
theorem gE0_cg {G G' : gG} {k : Nat} {R : Nat → Int32} (ha : ∀ x, x < 392 → G.2.1 x = G'.2.1 x) (hc : G.2.2.1 = G'.2.2.1) (hk : k < 14) (h4 : k ≠ 4) (h6 : k ≠ 6) : gE0 G k R = gE0 G' k R := by
  have hg : ∀ n, gia G n R = gia G' n R := fun n => by show (Sum.inl (G.2.2.1 0, n, .inl R) : va_E) = Sum.inl (G'.2.2.1 0, n, .inl R); rw [hc]
  have hr : k = 0 ∨ k = 1 ∨ k = 2 ∨ k = 3 ∨ k = 5 ∨ k = 7 ∨ k = 8 ∨ k = 9 ∨ k = 10 ∨ k = 11 ∨ k = 12 ∨ k = 13 := by omega
  rcases hr with rfl | rfl | rfl | rfl | rfl | rfl | rfl | rfl | rfl | rfl | rfl | rfl
  · show (Sum.inr (9, [.ref (G.2.1 1), .ref (G.2.1 14), .ref (G.2.1 35), .ref (G.2.1 3), .ref (G.2.1 5), .ref (G.2.1 8)]) : va_E) = Sum.inr (9, [.ref (G'.2.1 1), .ref (G'.2.1 14), .ref (G'.2.1 35), .ref (G'.2.1 3), .ref (G'.2.1 5), .ref (G'.2.1 8)])
    rw [ha 1 (by omega), ha 14 (by omega), ha 35 (by omega), ha 3 (by omega), ha 5 (by omega), ha 8 (by omega)]
  · show (Sum.inr (2, [.ref (G.2.1 2), .int (R 1)]) : va_E) = Sum.inr (2, [.ref (G'.2.1 2), .int (R 1)])
    rw [ha 2 (by omega)]
  · exact hg 100
  · show (Sum.inr (3, [.ref (G.2.1 4), .int (R 1), .int (R 2)]) : va_E) = Sum.inr (3, [.ref (G'.2.1 4), .int (R 1), .int (R 2)])
    rw [ha 4 (by omega)]
  · show (Sum.inr (5, [.ref (G.2.1 6), .ref (G.2.1 7)]) : va_E) = Sum.inr (5, [.ref (G'.2.1 6), .ref (G'.2.1 7)])
    rw [ha 6 (by omega), ha 7 (by omega)]
  · exact hg 2
  · show (Sum.inr (4, [.ref (G.2.1 9)]) : va_E) = Sum.inr (4, [.ref (G'.2.1 9)])
    rw [ha 9 (by omega)]
  · show (Sum.inr (8, [.ref (G.2.1 10), .ref (G.2.1 11), .ref (G.2.1 12), .ref (G.2.1 13), .int (R 4), .int (R 5), .int (R 6)]) : va_E) = Sum.inr (8, [.ref (G'.2.1 10), .ref (G'.2.1 11), .ref (G'.2.1 12), .ref (G'.2.1 13), .int (R 4), .int (R 5), .int (R 6)])
    rw [ha 10 (by omega), ha 11 (by omega), ha 12 (by omega), ha 13 (by omega)]
  · exact hg 225
  · exact hg 225
  · exact hg 16
  · exact hg 24
theorem gEm_cg {G G' : gG} {i : Nat} {R : Nat → Int32} (ha : ∀ x, x < 402 → G.2.1 x = G'.2.1 x) (hc : G.2.2.1 = G'.2.2.1) (hi : i < 10) : gEm G i R = gEm G' i R := by
  have hg : ∀ n, gia G n R = gia G' n R := fun n => by show (Sum.inl (G.2.2.1 0, n, .inl R) : va_E) = Sum.inl (G'.2.2.1 0, n, .inl R); rw [hc]
  have hr : i = 0 ∨ i = 1 ∨ i = 2 ∨ i = 3 ∨ i = 4 ∨ i = 5 ∨ i = 6 ∨ i = 7 ∨ i = 8 ∨ i = 9 := by omega
  rcases hr with rfl | rfl | rfl | rfl | rfl | rfl | rfl | rfl | rfl | rfl
  · show (Sum.inr (10, [.int (R 0), .ref (G.2.1 393), .int (R 2), .int (R 3), .ref (G.2.1 394), .ref (G.2.1 395), .ref (G.2.1 396), .ref (G.2.1 397), .int (R 8), .ref (G.2.1 398), .ref (G.2.1 399), .ref (G.2.1 400), .int (R 12), .int (R 13), .ref (G.2.1 401), .int (R 15)]) : va_E) = Sum.inr (10, [.int (R 0), .ref (G'.2.1 393), .int (R 2), .int (R 3), .ref (G'.2.1 394), .ref (G'.2.1 395), .ref (G'.2.1 396), .ref (G'.2.1 397), .int (R 8), .ref (G'.2.1 398), .ref (G'.2.1 399), .ref (G'.2.1 400), .int (R 12), .int (R 13), .ref (G'.2.1 401), .int (R 15)])
    rw [ha 393 (by omega), ha 394 (by omega), ha 395 (by omega), ha 396 (by omega), ha 397 (by omega), ha 398 (by omega), ha 399 (by omega), ha 400 (by omega), ha 401 (by omega)]
  · exact hg 100
  · exact hg 175
  · exact hg 175
  · exact hg 175
  · exact hg 2450
  · exact hg 350
  · show (Sum.inl (G.2.2.1 1, 2, .inl R) : va_E) = Sum.inl (G'.2.2.1 1, 2, .inl R)
    rw [hc]
  · exact hg 225
  · exact hg 24
/-- the same cells at the same places, told by another G -/
theorem va_at_cg {D : va_G} {G G' : gG} {n k : Nat} {R : Nat → Int32} {H : Heap} (hn : n = 392 ∨ n = 402) (ha : ∀ x, x < n → G.2.1 x = G'.2.1 x) (hc : G.2.2.1 = G'.2.2.1) (hk : k < n) (h : va_at D gcl (G.2.1 k, gE G k R) H) : va_at D gcl (G'.2.1 k, gE G' k R) H := by
  have ha0 : ∀ x, x < 392 → G.2.1 x = G'.2.1 x := fun x hx => ha x (by omega)
  rw [ha k hk] at h
  by_cases h4 : k = 4
  · subst h4
    have h1 : va_at D gcl (G'.2.1 4, .inl (G.2.2.1 3, 14, .inr (.inr (.inr (.inr (fun j => some (G.2.1 (56 + 21 * j)))))))) H := h
    rw [hc] at h1
    exact va_at_refs h1 (fun j hj => congrArg some (ha0 _ (by omega)))
  · by_cases h6 : k = 6
    · subst h6
      have h1 : va_at D gcl (G'.2.1 6, .inl (G.2.2.1 3, 2, .inr (.inr (.inr (.inr (fun j => some (G.2.1 (350 + 21 * j)))))))) H := h
      rw [hc] at h1
      exact va_at_refs h1 (fun j hj => congrArg some (ha0 _ (by omega)))
    · have e : gE G k R = gE G' k R := by
        unfold gE
        by_cases c14 : k < 14
        · rw [if_pos c14, if_pos c14]
          exact gE0_cg ha0 hc c14 h4 h6
        · rw [if_neg c14, if_neg c14]
          by_cases c392 : k < 392
          · rw [if_pos c392, if_pos c392]
            exact gEs_cg (fun x hx => ha0 _ (by omega)) hc (by omega)
          · rw [if_neg c392, if_neg c392]
            have h402 : n = 402 := by omega
            subst h402
            exact gEm_cg ha hc (by omega)
      rw [← e]
      exact h
theorem gw_len {G : gG} {S : Sg} : (gw G S).length = gN G := by unfold gw; rw [List.length_map, List.length_range]
theorem gInj_of {A : Nat → Prop} {G : gG} {S : Sg} (h : va_D A (gw G S)) : gInj G := fun i j hi hj he => h.1 i j _ _ (gw_at hi) (gw_at hj) he
def mpos (k : Nat) : Nat := if k < 392 then k + 1 else if k = 392 then 0 else k
theorem mpos_inj {i j : Nat} (h : mpos i = mpos j) : i = j := by
  unfold mpos at h
  repeat' split at h
  all_goals omega
def mAd (h0 : Nat) (a1 : Nat → Nat) (q : Nat → Nat) : Nat → Nat := fun k => if k < 392 then a1 k else if k = 392 then h0 else q (k - 392)
def MW (K : nK) (a1 : Nat → Nat) (S : Sg) (h0 : Nat) (q : Nat → Nat) : va_W := (h0, .inr (10, [.int 0, .ref (q 1), .int 0, .int 0, .ref (q 2), .ref (q 3), .ref (q 4), .ref (q 5), .int 0, .ref (q 6), .ref (q 7), .ref (q 8), .int 0, .int 0, .ref (q 9), .int 0])) :: (gw (K.1, a1, kc K, 392) S ++ [(q 1, .inl (K.2.1, 100, .inl zrow)), (q 2, .inl (K.2.1, 175, .inl zrow)), (q 3, .inl (K.2.1, 175, .inl zrow)), (q 4, .inl (K.2.1, 175, .inl zrow)), (q 5, .inl (K.2.1, 2450, .inl zrow)), (q 6, .inl (K.2.1, 350, .inl zrow)), (q 7, .inl (K.2.2.1, 2, .inl zrow)), (q 8, .inl (K.2.1, 225, .inl zrow)), (q 9, .inl (K.2.1, 24, .inl zrow))])
theorem MW_lo {K : nK} {a1 : Nat → Nat} {S : Sg} {h0 k : Nat} {q : Nat → Nat} (hk : k < 392) : (MW K a1 S h0 q)[k + 1]? = some (a1 k, gE (K.1, a1, kc K, 392) k (S k)) := by
  unfold MW
  rw [List.getElem?_cons_succ, List.getElem?_append_left (by rw [gw_len]; exact hk)]
  exact gw_at (G := (K.1, a1, kc K, 392)) hk
theorem MW_hi {K : nK} {a1 : Nat → Nat} {S : Sg} {h0 i : Nat} {q : Nat → Nat} : (MW K a1 S h0 q)[393 + i]? = ([(q 1, .inl (K.2.1, 100, .inl zrow)), (q 2, .inl (K.2.1, 175, .inl zrow)), (q 3, .inl (K.2.1, 175, .inl zrow)), (q 4, .inl (K.2.1, 175, .inl zrow)), (q 5, .inl (K.2.1, 2450, .inl zrow)), (q 6, .inl (K.2.1, 350, .inl zrow)), (q 7, .inl (K.2.2.1, 2, .inl zrow)), (q 8, .inl (K.2.1, 225, .inl zrow)), (q 9, .inl (K.2.1, 24, .inl zrow))] : va_W)[i]? := by
  unfold MW
  rw [show 393 + i = (i + 392) + 1 by omega, List.getElem?_cons_succ, List.getElem?_append_right (by rw [gw_len]; show 392 ≤ i + 392; omega), gw_len]
  show ([(q 1, .inl (K.2.1, 100, .inl zrow)), (q 2, .inl (K.2.1, 175, .inl zrow)), (q 3, .inl (K.2.1, 175, .inl zrow)), (q 4, .inl (K.2.1, 175, .inl zrow)), (q 5, .inl (K.2.1, 2450, .inl zrow)), (q 6, .inl (K.2.1, 350, .inl zrow)), (q 7, .inl (K.2.2.1, 2, .inl zrow)), (q 8, .inl (K.2.1, 225, .inl zrow)), (q 9, .inl (K.2.1, 24, .inl zrow))] : va_W)[i + 392 - 392]? = _
  rw [show i + 392 - 392 = i by omega]
theorem mAd_lo {h0 k : Nat} {a1 q : Nat → Nat} (hk : k < 392) : mAd h0 a1 q k = a1 k := by unfold mAd; rw [if_pos hk]
theorem MW_ad {K : nK} {a1 : Nat → Nat} {S : Sg} {h0 k : Nat} {q : Nat → Nat} (hk : k < 402) : ∃ en, (MW K a1 S h0 q)[mpos k]? = some (mAd h0 a1 q k, en) := by
  unfold mpos
  by_cases h1 : k < 392
  · rw [if_pos h1, mAd_lo h1]
    exact ⟨_, MW_lo h1⟩
  · rw [if_neg h1]
    by_cases h2 : k = 392
    · rw [if_pos h2, h2]
      exact ⟨_, rfl⟩
    · rw [if_neg h2]
      obtain ⟨i, hi, rfl⟩ : ∃ i, i < 9 ∧ k = 393 + i := ⟨k - 393, by omega, by omega⟩
      rw [MW_hi]
      have hr : i = 0 ∨ i = 1 ∨ i = 2 ∨ i = 3 ∨ i = 4 ∨ i = 5 ∨ i = 6 ∨ i = 7 ∨ i = 8 := by omega
      rcases hr with rfl | rfl | rfl | rfl | rfl | rfl | rfl | rfl | rfl <;> exact ⟨_, rfl⟩
theorem MW_gP {K : nK} {a1 : Nat → Nat} {S : Sg} {h0 : Nat} {q : Nat → Nat} {H : Heap} (hz : ∀ k, 392 ≤ k → S k = zrow) (h : va_P K.1 gcl (MW K a1 S h0 q) H) : gP (K.1, mAd h0 a1 q, kc K, 402) S H := by
  intro k x hx
  have hk : k < 402 := Decidable.byContradiction fun hn => by rw [gw_no (G := (K.1, mAd h0 a1 q, kc K, 402)) hn] at hx; cases hx
  rw [gw_at (G := (K.1, mAd h0 a1 q, kc K, 402)) hk] at hx
  rw [← Option.some.inj hx]
  by_cases h1 : k < 392
  · exact va_at_cg (G := (K.1, a1, kc K, 392)) (G' := (K.1, mAd h0 a1 q, kc K, 402)) (Or.inl rfl) (fun x hx => (mAd_lo hx).symm) rfl h1 (h _ _ (MW_lo h1))
  · rw [hz k (by omega)]
    by_cases h2 : k = 392
    · subst h2
      exact h 0 _ rfl
    · obtain ⟨i, hi, rfl⟩ : ∃ i, i < 9 ∧ k = 393 + i := ⟨k - 393, by omega, by omega⟩
      have hr : i = 0 ∨ i = 1 ∨ i = 2 ∨ i = 3 ∨ i = 4 ∨ i = 5 ∨ i = 6 ∨ i = 7 ∨ i = 8 := by omega
      rcases hr with rfl | rfl | rfl | rfl | rfl | rfl | rfl | rfl | rfl
      · exact h _ _ (MW_hi (i := 0))
      · exact h _ _ (MW_hi (i := 1))
      · exact h _ _ (MW_hi (i := 2))
      · exact h _ _ (MW_hi (i := 3))
      · exact h _ _ (MW_hi (i := 4))
      · exact h _ _ (MW_hi (i := 5))
      · exact h _ _ (MW_hi (i := 6))
      · exact h _ _ (MW_hi (i := 7))
      · exact h _ _ (MW_hi (i := 8))
theorem MW_inj {K : nK} {a1 : Nat → Nat} {S : Sg} {h0 : Nat} {q : Nat → Nat} {A : Nat → Prop} (h : va_D A (MW K a1 S h0 q)) : gInj (K.1, mAd h0 a1 q, kc K, 402) := by
  intro i j hi hj he
  obtain ⟨e1, h1⟩ := MW_ad (K := K) (a1 := a1) (S := S) (h0 := h0) (q := q) hi
  obtain ⟨e2, h2⟩ := MW_ad (K := K) (a1 := a1) (S := S) (h0 := h0) (q := q) hj
  exact mpos_inj (h.1 _ _ _ _ h1 h2 he)
theorem MW_A {K : nK} {a1 : Nat → Nat} {S : Sg} {h0 sz : Nat} {q : Nat → Nat} {en : va_E} (h : va_D (va_A ((h0, en) :: gw (K.1, a1, kc K, 392) S) sz) (MW K a1 S h0 q)) : gA (K.1, mAd h0 a1 q, kc K, 402) sz = va_A ((h0, en) :: gw (K.1, a1, kc K, 392) S) sz := by
  funext x
  refine propext ⟨fun hx => ?_, fun hx => ?_⟩
  · rcases hx with ⟨k, hk, rfl⟩ | hx
    · obtain ⟨e1, h1⟩ := MW_ad (K := K) (a1 := a1) (S := S) (h0 := h0) (q := q) hk
      exact h.2 _ _ h1
    · exact Or.inr hx
  · rcases hx with ⟨k, e1, hx⟩ | hx
    · cases k with
      | zero =>
        have hq2 : h0 = x := congrArg Prod.fst (Option.some.inj hx)
        refine Or.inl ⟨392, by show 392 < 402; omega, ?_⟩
        rw [← hq2]
        rfl
      | succ k =>
        rw [List.getElem?_cons_succ] at hx
        have hk : k < 392 := Decidable.byContradiction fun hn => by rw [gw_no (G := (K.1, a1, kc K, 392)) hn] at hx; cases hx
        rw [gw_at (G := (K.1, a1, kc K, 392)) hk] at hx
        have hq2 : a1 k = x := congrArg Prod.fst (Option.some.inj hx)
        refine Or.inl ⟨k, by show k < 402; omega, ?_⟩
        rw [← hq2]
        exact (mAd_lo hk).symm
    · exact Or.inr hx
def mPre (K : nK) (ws0 : va_W) (sz : Nat) : State → Prop := fun U => U.heap.size = sz ∧ va_P K.1 gcl ws0 U.heap ∧ nF K U ∧ va_D (fun _ => True) ws0
def mQ (K : nK) (h0 : Nat) (a1 : Nat → Nat) (Sf : Sg) (ws0 : va_W) (sz : Nat) : Array Value → State → Outcome → State → Prop := va_Qv (fun a : Nat → Nat => (∀ k, k < 392 → a k = a1 k) ∧ a 392 = h0) (fun a t => va_P K.1 gcl (gw (K.1, a, kc K, 402) Sf) t.heap ∧ va_D (va_A ws0 sz) (gw (K.1, a, kc K, 402) Sf)) (va_A ws0 sz)
set_option maxHeartbeats 4000000 in
set_option maxRecDepth 100000 in
theorem c_X11_init (l : Launch) (K : nK) {a1 : Nat → Nat} {S Sd Se Sf : Sg} (hz : ∀ k, 392 ≤ k → S k = zrow) (ed : f_X11_begin 395 S = some Sd) (ee : f_X11_addTrack 395 0 1 2 (u2 Sd 395 0 3) = some Se) (ef : f_X11_addTrack 395 1 2 2 Se = some Sf) (h0 sz : Nat) : Met l yX11_init [Cond.code yX11_init cX11_init 1 none] (gRx 2 44 9 3676) (va_Pc [.ref h0] (mPre K ((h0, .inr (10, [.int 0, .null, .int 0, .int 0, .null, .null, .null, .null, .int 0, .null, .null, .null, .int 0, .int 0, .null, .int 0])) :: gw (K.1, a1, kc K, 392) S) sz)) (mQ K h0 a1 Sf ((h0, .inr (10, [.int 0, .null, .int 0, .int 0, .null, .null, .null, .null, .int 0, .null, .null, .null, .int 0, .int 0, .null, .int 0])) :: gw (K.1, a1, kc K, 392) S) sz) 9 3676 (va_A ((h0, .inr (10, [.int 0, .null, .int 0, .int 0, .null, .null, .null, .null, .int 0, .null, .null, .null, .int 0, .int 0, .null, .int 0])) :: gw (K.1, a1, kc K, 392) S) sz) := by
  refine Met.ofW (cc := cX11_init) (maxL := 1) (ret := none) (by decide) rfl ?_
  intro p e s m args below meth c s₁ B hml hv
  obtain ⟨rfl, hsz, hP, hF, hD0⟩ := hv
  subst hsz
  have hl := lv_entry [.ref h0] (n := 1) (Nat.le_of_ble_eq_true rfl)
  rw [lg_entry_eq]
  generalize (lg_sl ([.ref h0]) ++ List.replicate (1 - (lg_sl ([.ref h0])).length) Slot.unset).toArray = ls at hl ⊢
  have hl : lv_has ls 1 [(0, .ref h0)] := hl
  have cx : nCx p s m c cX11_init 1 RX11 K := ⟨B.exec, B.bytes, hml, findClass_of_methodNamed B.named, hF⟩
  have hr := B.returns
  have hlk := B.notSynchronized
  have hin : meth.name = "<init>" := (name_of_methodNamed B.named B.method).1
  have hD := hD0.self (sz := s.heap.size)
  have hS : va_S (va_A ((h0, .inr (10, [.int 0, .null, .int 0, .int 0, .null, .null, .null, .null, .int 0, .null, .null, .null, .int 0, .int 0, .null, .int 0])) :: gw (K.1, a1, kc K, 392) S) s.heap.size) s.heap s.heap [] := va_S.rf
  have hA : ∀ q, s.heap.size ≤ q → va_A ((h0, .inr (10, [.int 0, .null, .int 0, .int 0, .null, .null, .null, .null, .int 0, .null, .null, .null, .int 0, .int 0, .null, .int 0])) :: gw (K.1, a1, kc K, 392) S) s.heap.size q := fun q h => Or.inr h
  refine lv_aload_n cx.1 cx.2.1 dX11_init_0 rfl (lv_at hl 0 rfl) ?_
  refine n_obj cx gw_141 hl.1 dX11_init_1 (by decide) (by decide) ?_
  refine lv_aload_n cx.1 cx.2.1 dX11_init_4 rfl (lv_at hl 0 rfl) ?_
  refine lv_bipush (v := (100 : Int32)) cx.1 cx.2.1 dX11_init_5 (by decide) ?_
  refine n_newa (N := 100) cx hP hD hS hA (by decide) (by decide) (Nat.le_of_ble_eq_true rfl) ⟨(Nat.le_of_ble_eq_true rfl), (Nat.le_of_ble_eq_true rfl)⟩ dX11_init_7 (fun q1 H hP hD hS => ?_)
  have hP : va_P K.1 gcl ((h0, .inr (10, [.int 0, .null, .int 0, .int 0, .null, .null, .null, .null, .int 0, .null, .null, .null, .int 0, .int 0, .null, .int 0])) :: (gw (K.1, a1, kc K, 392) S ++ [(q1, .inl (K.2.1, 100, .inl zrow))])) H := hP
  have hD : va_D (va_A ((h0, .inr (10, [.int 0, .null, .int 0, .int 0, .null, .null, .null, .null, .int 0, .null, .null, .null, .int 0, .int 0, .null, .int 0])) :: gw (K.1, a1, kc K, 392) S) s.heap.size) ((h0, .inr (10, [.int 0, .null, .int 0, .int 0, .null, .null, .null, .null, .int 0, .null, .null, .null, .int 0, .int 0, .null, .int 0])) :: (gw (K.1, a1, kc K, 392) S ++ [(q1, .inl (K.2.1, 100, .inl zrow))])) := hD
  refine n_putF (C := RX11) (T := TX11) (N := 16) (ci := 10) cx inlX11 tyX11 tyX11_ok nmX11 rfl hP hD hS 1 (by decide) gw_142 rfl rfl hin rfl rfl rfl (Nat.le_of_ble_eq_true rfl) dX11_init_9 (fun H locs hP hD hS => ?_)
  have hP : va_P K.1 gcl ((h0, .inr (10, [.int 0, .ref q1, .int 0, .int 0, .null, .null, .null, .null, .int 0, .null, .null, .null, .int 0, .int 0, .null, .int 0])) :: (gw (K.1, a1, kc K, 392) S ++ [(q1, .inl (K.2.1, 100, .inl zrow))])) H := hP
  have hD : va_D (va_A ((h0, .inr (10, [.int 0, .null, .int 0, .int 0, .null, .null, .null, .null, .int 0, .null, .null, .null, .int 0, .int 0, .null, .int 0])) :: gw (K.1, a1, kc K, 392) S) s.heap.size) ((h0, .inr (10, [.int 0, .ref q1, .int 0, .int 0, .null, .null, .null, .null, .int 0, .null, .null, .null, .int 0, .int 0, .null, .int 0])) :: (gw (K.1, a1, kc K, 392) S ++ [(q1, .inl (K.2.1, 100, .inl zrow))])) := hD
  refine lv_aload_n cx.1 cx.2.1 dX11_init_12 rfl (lv_at hl 0 rfl) ?_
  refine lv_sipush (v := (175 : Int32)) cx.1 cx.2.1 dX11_init_13 (by decide) ?_
  refine n_newa (N := 175) cx hP hD hS hA (by decide) (by decide) (Nat.le_of_ble_eq_true rfl) ⟨(Nat.le_of_ble_eq_true rfl), (Nat.le_of_ble_eq_true rfl)⟩ dX11_init_16 (fun q2 H hP hD hS => ?_)
  have hP : va_P K.1 gcl ((h0, .inr (10, [.int 0, .ref q1, .int 0, .int 0, .null, .null, .null, .null, .int 0, .null, .null, .null, .int 0, .int 0, .null, .int 0])) :: (gw (K.1, a1, kc K, 392) S ++ [(q1, .inl (K.2.1, 100, .inl zrow))] ++ [(q2, .inl (K.2.1, 175, .inl zrow))])) H := hP
  have hD : va_D (va_A ((h0, .inr (10, [.int 0, .null, .int 0, .int 0, .null, .null, .null, .null, .int 0, .null, .null, .null, .int 0, .int 0, .null, .int 0])) :: gw (K.1, a1, kc K, 392) S) s.heap.size) ((h0, .inr (10, [.int 0, .ref q1, .int 0, .int 0, .null, .null, .null, .null, .int 0, .null, .null, .null, .int 0, .int 0, .null, .int 0])) :: (gw (K.1, a1, kc K, 392) S ++ [(q1, .inl (K.2.1, 100, .inl zrow))] ++ [(q2, .inl (K.2.1, 175, .inl zrow))])) := hD
  refine n_putF (C := RX11) (T := TX11) (N := 16) (ci := 10) cx inlX11 tyX11 tyX11_ok nmX11 rfl hP hD hS 4 (by decide) gw_143 rfl rfl hin rfl rfl rfl (Nat.le_of_ble_eq_true rfl) dX11_init_18 (fun H locs hP hD hS => ?_)
  have hP : va_P K.1 gcl ((h0, .inr (10, [.int 0, .ref q1, .int 0, .int 0, .ref q2, .null, .null, .null, .int 0, .null, .null, .null, .int 0, .int 0, .null, .int 0])) :: (gw (K.1, a1, kc K, 392) S ++ [(q1, .inl (K.2.1, 100, .inl zrow))] ++ [(q2, .inl (K.2.1, 175, .inl zrow))])) H := hP
  have hD : va_D (va_A ((h0, .inr (10, [.int 0, .null, .int 0, .int 0, .null, .null, .null, .null, .int 0, .null, .null, .null, .int 0, .int 0, .null, .int 0])) :: gw (K.1, a1, kc K, 392) S) s.heap.size) ((h0, .inr (10, [.int 0, .ref q1, .int 0, .int 0, .ref q2, .null, .null, .null, .int 0, .null, .null, .null, .int 0, .int 0, .null, .int 0])) :: (gw (K.1, a1, kc K, 392) S ++ [(q1, .inl (K.2.1, 100, .inl zrow))] ++ [(q2, .inl (K.2.1, 175, .inl zrow))])) := hD
  refine lv_aload_n cx.1 cx.2.1 dX11_init_21 rfl (lv_at hl 0 rfl) ?_
  refine lv_sipush (v := (175 : Int32)) cx.1 cx.2.1 dX11_init_22 (by decide) ?_
  refine n_newa (N := 175) cx hP hD hS hA (by decide) (by decide) (Nat.le_of_ble_eq_true rfl) ⟨(Nat.le_of_ble_eq_true rfl), (Nat.le_of_ble_eq_true rfl)⟩ dX11_init_25 (fun q3 H hP hD hS => ?_)
  have hP : va_P K.1 gcl ((h0, .inr (10, [.int 0, .ref q1, .int 0, .int 0, .ref q2, .null, .null, .null, .int 0, .null, .null, .null, .int 0, .int 0, .null, .int 0])) :: (gw (K.1, a1, kc K, 392) S ++ [(q1, .inl (K.2.1, 100, .inl zrow))] ++ [(q2, .inl (K.2.1, 175, .inl zrow))] ++ [(q3, .inl (K.2.1, 175, .inl zrow))])) H := hP
  have hD : va_D (va_A ((h0, .inr (10, [.int 0, .null, .int 0, .int 0, .null, .null, .null, .null, .int 0, .null, .null, .null, .int 0, .int 0, .null, .int 0])) :: gw (K.1, a1, kc K, 392) S) s.heap.size) ((h0, .inr (10, [.int 0, .ref q1, .int 0, .int 0, .ref q2, .null, .null, .null, .int 0, .null, .null, .null, .int 0, .int 0, .null, .int 0])) :: (gw (K.1, a1, kc K, 392) S ++ [(q1, .inl (K.2.1, 100, .inl zrow))] ++ [(q2, .inl (K.2.1, 175, .inl zrow))] ++ [(q3, .inl (K.2.1, 175, .inl zrow))])) := hD
  refine n_putF (C := RX11) (T := TX11) (N := 16) (ci := 10) cx inlX11 tyX11 tyX11_ok nmX11 rfl hP hD hS 5 (by decide) gw_144 rfl rfl hin rfl rfl rfl (Nat.le_of_ble_eq_true rfl) dX11_init_27 (fun H locs hP hD hS => ?_)
  have hP : va_P K.1 gcl ((h0, .inr (10, [.int 0, .ref q1, .int 0, .int 0, .ref q2, .ref q3, .null, .null, .int 0, .null, .null, .null, .int 0, .int 0, .null, .int 0])) :: (gw (K.1, a1, kc K, 392) S ++ [(q1, .inl (K.2.1, 100, .inl zrow))] ++ [(q2, .inl (K.2.1, 175, .inl zrow))] ++ [(q3, .inl (K.2.1, 175, .inl zrow))])) H := hP
  have hD : va_D (va_A ((h0, .inr (10, [.int 0, .null, .int 0, .int 0, .null, .null, .null, .null, .int 0, .null, .null, .null, .int 0, .int 0, .null, .int 0])) :: gw (K.1, a1, kc K, 392) S) s.heap.size) ((h0, .inr (10, [.int 0, .ref q1, .int 0, .int 0, .ref q2, .ref q3, .null, .null, .int 0, .null, .null, .null, .int 0, .int 0, .null, .int 0])) :: (gw (K.1, a1, kc K, 392) S ++ [(q1, .inl (K.2.1, 100, .inl zrow))] ++ [(q2, .inl (K.2.1, 175, .inl zrow))] ++ [(q3, .inl (K.2.1, 175, .inl zrow))])) := hD
  refine lv_aload_n cx.1 cx.2.1 dX11_init_30 rfl (lv_at hl 0 rfl) ?_
  refine lv_sipush (v := (175 : Int32)) cx.1 cx.2.1 dX11_init_31 (by decide) ?_
  refine n_newa (N := 175) cx hP hD hS hA (by decide) (by decide) (Nat.le_of_ble_eq_true rfl) ⟨(Nat.le_of_ble_eq_true rfl), (Nat.le_of_ble_eq_true rfl)⟩ dX11_init_34 (fun q4 H hP hD hS => ?_)
  have hP : va_P K.1 gcl ((h0, .inr (10, [.int 0, .ref q1, .int 0, .int 0, .ref q2, .ref q3, .null, .null, .int 0, .null, .null, .null, .int 0, .int 0, .null, .int 0])) :: (gw (K.1, a1, kc K, 392) S ++ [(q1, .inl (K.2.1, 100, .inl zrow))] ++ [(q2, .inl (K.2.1, 175, .inl zrow))] ++ [(q3, .inl (K.2.1, 175, .inl zrow))] ++ [(q4, .inl (K.2.1, 175, .inl zrow))])) H := hP
  have hD : va_D (va_A ((h0, .inr (10, [.int 0, .null, .int 0, .int 0, .null, .null, .null, .null, .int 0, .null, .null, .null, .int 0, .int 0, .null, .int 0])) :: gw (K.1, a1, kc K, 392) S) s.heap.size) ((h0, .inr (10, [.int 0, .ref q1, .int 0, .int 0, .ref q2, .ref q3, .null, .null, .int 0, .null, .null, .null, .int 0, .int 0, .null, .int 0])) :: (gw (K.1, a1, kc K, 392) S ++ [(q1, .inl (K.2.1, 100, .inl zrow))] ++ [(q2, .inl (K.2.1, 175, .inl zrow))] ++ [(q3, .inl (K.2.1, 175, .inl zrow))] ++ [(q4, .inl (K.2.1, 175, .inl zrow))])) := hD
  refine n_putF (C := RX11) (T := TX11) (N := 16) (ci := 10) cx inlX11 tyX11 tyX11_ok nmX11 rfl hP hD hS 6 (by decide) gw_145 rfl rfl hin rfl rfl rfl (Nat.le_of_ble_eq_true rfl) dX11_init_36 (fun H locs hP hD hS => ?_)
  have hP : va_P K.1 gcl ((h0, .inr (10, [.int 0, .ref q1, .int 0, .int 0, .ref q2, .ref q3, .ref q4, .null, .int 0, .null, .null, .null, .int 0, .int 0, .null, .int 0])) :: (gw (K.1, a1, kc K, 392) S ++ [(q1, .inl (K.2.1, 100, .inl zrow))] ++ [(q2, .inl (K.2.1, 175, .inl zrow))] ++ [(q3, .inl (K.2.1, 175, .inl zrow))] ++ [(q4, .inl (K.2.1, 175, .inl zrow))])) H := hP
  have hD : va_D (va_A ((h0, .inr (10, [.int 0, .null, .int 0, .int 0, .null, .null, .null, .null, .int 0, .null, .null, .null, .int 0, .int 0, .null, .int 0])) :: gw (K.1, a1, kc K, 392) S) s.heap.size) ((h0, .inr (10, [.int 0, .ref q1, .int 0, .int 0, .ref q2, .ref q3, .ref q4, .null, .int 0, .null, .null, .null, .int 0, .int 0, .null, .int 0])) :: (gw (K.1, a1, kc K, 392) S ++ [(q1, .inl (K.2.1, 100, .inl zrow))] ++ [(q2, .inl (K.2.1, 175, .inl zrow))] ++ [(q3, .inl (K.2.1, 175, .inl zrow))] ++ [(q4, .inl (K.2.1, 175, .inl zrow))])) := hD
  refine lv_aload_n cx.1 cx.2.1 dX11_init_39 rfl (lv_at hl 0 rfl) ?_
  refine lv_sipush (v := (2450 : Int32)) cx.1 cx.2.1 dX11_init_40 (by decide) ?_
  refine n_newa (N := 2450) cx hP hD hS hA (by decide) (by decide) (Nat.le_of_ble_eq_true rfl) ⟨(Nat.le_of_ble_eq_true rfl), (Nat.le_of_ble_eq_true rfl)⟩ dX11_init_43 (fun q5 H hP hD hS => ?_)
  have hP : va_P K.1 gcl ((h0, .inr (10, [.int 0, .ref q1, .int 0, .int 0, .ref q2, .ref q3, .ref q4, .null, .int 0, .null, .null, .null, .int 0, .int 0, .null, .int 0])) :: (gw (K.1, a1, kc K, 392) S ++ [(q1, .inl (K.2.1, 100, .inl zrow))] ++ [(q2, .inl (K.2.1, 175, .inl zrow))] ++ [(q3, .inl (K.2.1, 175, .inl zrow))] ++ [(q4, .inl (K.2.1, 175, .inl zrow))] ++ [(q5, .inl (K.2.1, 2450, .inl zrow))])) H := hP
  have hD : va_D (va_A ((h0, .inr (10, [.int 0, .null, .int 0, .int 0, .null, .null, .null, .null, .int 0, .null, .null, .null, .int 0, .int 0, .null, .int 0])) :: gw (K.1, a1, kc K, 392) S) s.heap.size) ((h0, .inr (10, [.int 0, .ref q1, .int 0, .int 0, .ref q2, .ref q3, .ref q4, .null, .int 0, .null, .null, .null, .int 0, .int 0, .null, .int 0])) :: (gw (K.1, a1, kc K, 392) S ++ [(q1, .inl (K.2.1, 100, .inl zrow))] ++ [(q2, .inl (K.2.1, 175, .inl zrow))] ++ [(q3, .inl (K.2.1, 175, .inl zrow))] ++ [(q4, .inl (K.2.1, 175, .inl zrow))] ++ [(q5, .inl (K.2.1, 2450, .inl zrow))])) := hD
  refine n_putF (C := RX11) (T := TX11) (N := 16) (ci := 10) cx inlX11 tyX11 tyX11_ok nmX11 rfl hP hD hS 7 (by decide) gw_146 rfl rfl hin rfl rfl rfl (Nat.le_of_ble_eq_true rfl) dX11_init_45 (fun H locs hP hD hS => ?_)
  have hP : va_P K.1 gcl ((h0, .inr (10, [.int 0, .ref q1, .int 0, .int 0, .ref q2, .ref q3, .ref q4, .ref q5, .int 0, .null, .null, .null, .int 0, .int 0, .null, .int 0])) :: (gw (K.1, a1, kc K, 392) S ++ [(q1, .inl (K.2.1, 100, .inl zrow))] ++ [(q2, .inl (K.2.1, 175, .inl zrow))] ++ [(q3, .inl (K.2.1, 175, .inl zrow))] ++ [(q4, .inl (K.2.1, 175, .inl zrow))] ++ [(q5, .inl (K.2.1, 2450, .inl zrow))])) H := hP
  have hD : va_D (va_A ((h0, .inr (10, [.int 0, .null, .int 0, .int 0, .null, .null, .null, .null, .int 0, .null, .null, .null, .int 0, .int 0, .null, .int 0])) :: gw (K.1, a1, kc K, 392) S) s.heap.size) ((h0, .inr (10, [.int 0, .ref q1, .int 0, .int 0, .ref q2, .ref q3, .ref q4, .ref q5, .int 0, .null, .null, .null, .int 0, .int 0, .null, .int 0])) :: (gw (K.1, a1, kc K, 392) S ++ [(q1, .inl (K.2.1, 100, .inl zrow))] ++ [(q2, .inl (K.2.1, 175, .inl zrow))] ++ [(q3, .inl (K.2.1, 175, .inl zrow))] ++ [(q4, .inl (K.2.1, 175, .inl zrow))] ++ [(q5, .inl (K.2.1, 2450, .inl zrow))])) := hD
  refine lv_aload_n cx.1 cx.2.1 dX11_init_48 rfl (lv_at hl 0 rfl) ?_
  refine lv_sipush (v := (350 : Int32)) cx.1 cx.2.1 dX11_init_49 (by decide) ?_
  refine n_newa (N := 350) cx hP hD hS hA (by decide) (by decide) (Nat.le_of_ble_eq_true rfl) ⟨(Nat.le_of_ble_eq_true rfl), (Nat.le_of_ble_eq_true rfl)⟩ dX11_init_52 (fun q6 H hP hD hS => ?_)
  have hP : va_P K.1 gcl ((h0, .inr (10, [.int 0, .ref q1, .int 0, .int 0, .ref q2, .ref q3, .ref q4, .ref q5, .int 0, .null, .null, .null, .int 0, .int 0, .null, .int 0])) :: (gw (K.1, a1, kc K, 392) S ++ [(q1, .inl (K.2.1, 100, .inl zrow))] ++ [(q2, .inl (K.2.1, 175, .inl zrow))] ++ [(q3, .inl (K.2.1, 175, .inl zrow))] ++ [(q4, .inl (K.2.1, 175, .inl zrow))] ++ [(q5, .inl (K.2.1, 2450, .inl zrow))] ++ [(q6, .inl (K.2.1, 350, .inl zrow))])) H := hP
  have hD : va_D (va_A ((h0, .inr (10, [.int 0, .null, .int 0, .int 0, .null, .null, .null, .null, .int 0, .null, .null, .null, .int 0, .int 0, .null, .int 0])) :: gw (K.1, a1, kc K, 392) S) s.heap.size) ((h0, .inr (10, [.int 0, .ref q1, .int 0, .int 0, .ref q2, .ref q3, .ref q4, .ref q5, .int 0, .null, .null, .null, .int 0, .int 0, .null, .int 0])) :: (gw (K.1, a1, kc K, 392) S ++ [(q1, .inl (K.2.1, 100, .inl zrow))] ++ [(q2, .inl (K.2.1, 175, .inl zrow))] ++ [(q3, .inl (K.2.1, 175, .inl zrow))] ++ [(q4, .inl (K.2.1, 175, .inl zrow))] ++ [(q5, .inl (K.2.1, 2450, .inl zrow))] ++ [(q6, .inl (K.2.1, 350, .inl zrow))])) := hD
  refine n_putF (C := RX11) (T := TX11) (N := 16) (ci := 10) cx inlX11 tyX11 tyX11_ok nmX11 rfl hP hD hS 9 (by decide) gw_147 rfl rfl hin rfl rfl rfl (Nat.le_of_ble_eq_true rfl) dX11_init_54 (fun H locs hP hD hS => ?_)
  have hP : va_P K.1 gcl ((h0, .inr (10, [.int 0, .ref q1, .int 0, .int 0, .ref q2, .ref q3, .ref q4, .ref q5, .int 0, .ref q6, .null, .null, .int 0, .int 0, .null, .int 0])) :: (gw (K.1, a1, kc K, 392) S ++ [(q1, .inl (K.2.1, 100, .inl zrow))] ++ [(q2, .inl (K.2.1, 175, .inl zrow))] ++ [(q3, .inl (K.2.1, 175, .inl zrow))] ++ [(q4, .inl (K.2.1, 175, .inl zrow))] ++ [(q5, .inl (K.2.1, 2450, .inl zrow))] ++ [(q6, .inl (K.2.1, 350, .inl zrow))])) H := hP
  have hD : va_D (va_A ((h0, .inr (10, [.int 0, .null, .int 0, .int 0, .null, .null, .null, .null, .int 0, .null, .null, .null, .int 0, .int 0, .null, .int 0])) :: gw (K.1, a1, kc K, 392) S) s.heap.size) ((h0, .inr (10, [.int 0, .ref q1, .int 0, .int 0, .ref q2, .ref q3, .ref q4, .ref q5, .int 0, .ref q6, .null, .null, .int 0, .int 0, .null, .int 0])) :: (gw (K.1, a1, kc K, 392) S ++ [(q1, .inl (K.2.1, 100, .inl zrow))] ++ [(q2, .inl (K.2.1, 175, .inl zrow))] ++ [(q3, .inl (K.2.1, 175, .inl zrow))] ++ [(q4, .inl (K.2.1, 175, .inl zrow))] ++ [(q5, .inl (K.2.1, 2450, .inl zrow))] ++ [(q6, .inl (K.2.1, 350, .inl zrow))])) := hD
  refine lv_aload_n cx.1 cx.2.1 dX11_init_57 rfl (lv_at hl 0 rfl) ?_
  refine lv_iconst (v := (2 : Int32)) cx.1 cx.2.1 dX11_init_58 (by decide) ?_
  refine n_newz (N := 2) cx hP hD hS hA (by decide) (by decide) (Nat.le_of_ble_eq_true rfl) ⟨(Nat.le_of_ble_eq_true rfl), (Nat.le_of_ble_eq_true rfl)⟩ dX11_init_59 (fun q7 H hP hD hS => ?_)
  have hP : va_P K.1 gcl ((h0, .inr (10, [.int 0, .ref q1, .int 0, .int 0, .ref q2, .ref q3, .ref q4, .ref q5, .int 0, .ref q6, .null, .null, .int 0, .int 0, .null, .int 0])) :: (gw (K.1, a1, kc K, 392) S ++ [(q1, .inl (K.2.1, 100, .inl zrow))] ++ [(q2, .inl (K.2.1, 175, .inl zrow))] ++ [(q3, .inl (K.2.1, 175, .inl zrow))] ++ [(q4, .inl (K.2.1, 175, .inl zrow))] ++ [(q5, .inl (K.2.1, 2450, .inl zrow))] ++ [(q6, .inl (K.2.1, 350, .inl zrow))] ++ [(q7, .inl (K.2.2.1, 2, .inl zrow))])) H := hP
  have hD : va_D (va_A ((h0, .inr (10, [.int 0, .null, .int 0, .int 0, .null, .null, .null, .null, .int 0, .null, .null, .null, .int 0, .int 0, .null, .int 0])) :: gw (K.1, a1, kc K, 392) S) s.heap.size) ((h0, .inr (10, [.int 0, .ref q1, .int 0, .int 0, .ref q2, .ref q3, .ref q4, .ref q5, .int 0, .ref q6, .null, .null, .int 0, .int 0, .null, .int 0])) :: (gw (K.1, a1, kc K, 392) S ++ [(q1, .inl (K.2.1, 100, .inl zrow))] ++ [(q2, .inl (K.2.1, 175, .inl zrow))] ++ [(q3, .inl (K.2.1, 175, .inl zrow))] ++ [(q4, .inl (K.2.1, 175, .inl zrow))] ++ [(q5, .inl (K.2.1, 2450, .inl zrow))] ++ [(q6, .inl (K.2.1, 350, .inl zrow))] ++ [(q7, .inl (K.2.2.1, 2, .inl zrow))])) := hD
  refine n_putF (C := RX11) (T := TX11) (N := 16) (ci := 10) cx inlX11 tyX11 tyX11_ok nmX11 rfl hP hD hS 10 (by decide) gw_149 rfl rfl hin rfl rfl rfl (Nat.le_of_ble_eq_true rfl) dX11_init_61 (fun H locs hP hD hS => ?_)
  have hP : va_P K.1 gcl ((h0, .inr (10, [.int 0, .ref q1, .int 0, .int 0, .ref q2, .ref q3, .ref q4, .ref q5, .int 0, .ref q6, .ref q7, .null, .int 0, .int 0, .null, .int 0])) :: (gw (K.1, a1, kc K, 392) S ++ [(q1, .inl (K.2.1, 100, .inl zrow))] ++ [(q2, .inl (K.2.1, 175, .inl zrow))] ++ [(q3, .inl (K.2.1, 175, .inl zrow))] ++ [(q4, .inl (K.2.1, 175, .inl zrow))] ++ [(q5, .inl (K.2.1, 2450, .inl zrow))] ++ [(q6, .inl (K.2.1, 350, .inl zrow))] ++ [(q7, .inl (K.2.2.1, 2, .inl zrow))])) H := hP
  have hD : va_D (va_A ((h0, .inr (10, [.int 0, .null, .int 0, .int 0, .null, .null, .null, .null, .int 0, .null, .null, .null, .int 0, .int 0, .null, .int 0])) :: gw (K.1, a1, kc K, 392) S) s.heap.size) ((h0, .inr (10, [.int 0, .ref q1, .int 0, .int 0, .ref q2, .ref q3, .ref q4, .ref q5, .int 0, .ref q6, .ref q7, .null, .int 0, .int 0, .null, .int 0])) :: (gw (K.1, a1, kc K, 392) S ++ [(q1, .inl (K.2.1, 100, .inl zrow))] ++ [(q2, .inl (K.2.1, 175, .inl zrow))] ++ [(q3, .inl (K.2.1, 175, .inl zrow))] ++ [(q4, .inl (K.2.1, 175, .inl zrow))] ++ [(q5, .inl (K.2.1, 2450, .inl zrow))] ++ [(q6, .inl (K.2.1, 350, .inl zrow))] ++ [(q7, .inl (K.2.2.1, 2, .inl zrow))])) := hD
  refine lv_aload_n cx.1 cx.2.1 dX11_init_64 rfl (lv_at hl 0 rfl) ?_
  refine lv_sipush (v := (225 : Int32)) cx.1 cx.2.1 dX11_init_65 (by decide) ?_
  refine n_newa (N := 225) cx hP hD hS hA (by decide) (by decide) (Nat.le_of_ble_eq_true rfl) ⟨(Nat.le_of_ble_eq_true rfl), (Nat.le_of_ble_eq_true rfl)⟩ dX11_init_68 (fun q8 H hP hD hS => ?_)
  have hP : va_P K.1 gcl ((h0, .inr (10, [.int 0, .ref q1, .int 0, .int 0, .ref q2, .ref q3, .ref q4, .ref q5, .int 0, .ref q6, .ref q7, .null, .int 0, .int 0, .null, .int 0])) :: (gw (K.1, a1, kc K, 392) S ++ [(q1, .inl (K.2.1, 100, .inl zrow))] ++ [(q2, .inl (K.2.1, 175, .inl zrow))] ++ [(q3, .inl (K.2.1, 175, .inl zrow))] ++ [(q4, .inl (K.2.1, 175, .inl zrow))] ++ [(q5, .inl (K.2.1, 2450, .inl zrow))] ++ [(q6, .inl (K.2.1, 350, .inl zrow))] ++ [(q7, .inl (K.2.2.1, 2, .inl zrow))] ++ [(q8, .inl (K.2.1, 225, .inl zrow))])) H := hP
  have hD : va_D (va_A ((h0, .inr (10, [.int 0, .null, .int 0, .int 0, .null, .null, .null, .null, .int 0, .null, .null, .null, .int 0, .int 0, .null, .int 0])) :: gw (K.1, a1, kc K, 392) S) s.heap.size) ((h0, .inr (10, [.int 0, .ref q1, .int 0, .int 0, .ref q2, .ref q3, .ref q4, .ref q5, .int 0, .ref q6, .ref q7, .null, .int 0, .int 0, .null, .int 0])) :: (gw (K.1, a1, kc K, 392) S ++ [(q1, .inl (K.2.1, 100, .inl zrow))] ++ [(q2, .inl (K.2.1, 175, .inl zrow))] ++ [(q3, .inl (K.2.1, 175, .inl zrow))] ++ [(q4, .inl (K.2.1, 175, .inl zrow))] ++ [(q5, .inl (K.2.1, 2450, .inl zrow))] ++ [(q6, .inl (K.2.1, 350, .inl zrow))] ++ [(q7, .inl (K.2.2.1, 2, .inl zrow))] ++ [(q8, .inl (K.2.1, 225, .inl zrow))])) := hD
  refine n_putF (C := RX11) (T := TX11) (N := 16) (ci := 10) cx inlX11 tyX11 tyX11_ok nmX11 rfl hP hD hS 11 (by decide) gw_150 rfl rfl hin rfl rfl rfl (Nat.le_of_ble_eq_true rfl) dX11_init_70 (fun H locs hP hD hS => ?_)
  have hP : va_P K.1 gcl ((h0, .inr (10, [.int 0, .ref q1, .int 0, .int 0, .ref q2, .ref q3, .ref q4, .ref q5, .int 0, .ref q6, .ref q7, .ref q8, .int 0, .int 0, .null, .int 0])) :: (gw (K.1, a1, kc K, 392) S ++ [(q1, .inl (K.2.1, 100, .inl zrow))] ++ [(q2, .inl (K.2.1, 175, .inl zrow))] ++ [(q3, .inl (K.2.1, 175, .inl zrow))] ++ [(q4, .inl (K.2.1, 175, .inl zrow))] ++ [(q5, .inl (K.2.1, 2450, .inl zrow))] ++ [(q6, .inl (K.2.1, 350, .inl zrow))] ++ [(q7, .inl (K.2.2.1, 2, .inl zrow))] ++ [(q8, .inl (K.2.1, 225, .inl zrow))])) H := hP
  have hD : va_D (va_A ((h0, .inr (10, [.int 0, .null, .int 0, .int 0, .null, .null, .null, .null, .int 0, .null, .null, .null, .int 0, .int 0, .null, .int 0])) :: gw (K.1, a1, kc K, 392) S) s.heap.size) ((h0, .inr (10, [.int 0, .ref q1, .int 0, .int 0, .ref q2, .ref q3, .ref q4, .ref q5, .int 0, .ref q6, .ref q7, .ref q8, .int 0, .int 0, .null, .int 0])) :: (gw (K.1, a1, kc K, 392) S ++ [(q1, .inl (K.2.1, 100, .inl zrow))] ++ [(q2, .inl (K.2.1, 175, .inl zrow))] ++ [(q3, .inl (K.2.1, 175, .inl zrow))] ++ [(q4, .inl (K.2.1, 175, .inl zrow))] ++ [(q5, .inl (K.2.1, 2450, .inl zrow))] ++ [(q6, .inl (K.2.1, 350, .inl zrow))] ++ [(q7, .inl (K.2.2.1, 2, .inl zrow))] ++ [(q8, .inl (K.2.1, 225, .inl zrow))])) := hD
  refine lv_aload_n cx.1 cx.2.1 dX11_init_73 rfl (lv_at hl 0 rfl) ?_
  refine lv_bipush (v := (24 : Int32)) cx.1 cx.2.1 dX11_init_74 (by decide) ?_
  refine n_newa (N := 24) cx hP hD hS hA (by decide) (by decide) (Nat.le_of_ble_eq_true rfl) ⟨(Nat.le_of_ble_eq_true rfl), (Nat.le_of_ble_eq_true rfl)⟩ dX11_init_76 (fun q9 H hP hD hS => ?_)
  have hP : va_P K.1 gcl ((h0, .inr (10, [.int 0, .ref q1, .int 0, .int 0, .ref q2, .ref q3, .ref q4, .ref q5, .int 0, .ref q6, .ref q7, .ref q8, .int 0, .int 0, .null, .int 0])) :: (gw (K.1, a1, kc K, 392) S ++ [(q1, .inl (K.2.1, 100, .inl zrow))] ++ [(q2, .inl (K.2.1, 175, .inl zrow))] ++ [(q3, .inl (K.2.1, 175, .inl zrow))] ++ [(q4, .inl (K.2.1, 175, .inl zrow))] ++ [(q5, .inl (K.2.1, 2450, .inl zrow))] ++ [(q6, .inl (K.2.1, 350, .inl zrow))] ++ [(q7, .inl (K.2.2.1, 2, .inl zrow))] ++ [(q8, .inl (K.2.1, 225, .inl zrow))] ++ [(q9, .inl (K.2.1, 24, .inl zrow))])) H := hP
  have hD : va_D (va_A ((h0, .inr (10, [.int 0, .null, .int 0, .int 0, .null, .null, .null, .null, .int 0, .null, .null, .null, .int 0, .int 0, .null, .int 0])) :: gw (K.1, a1, kc K, 392) S) s.heap.size) ((h0, .inr (10, [.int 0, .ref q1, .int 0, .int 0, .ref q2, .ref q3, .ref q4, .ref q5, .int 0, .ref q6, .ref q7, .ref q8, .int 0, .int 0, .null, .int 0])) :: (gw (K.1, a1, kc K, 392) S ++ [(q1, .inl (K.2.1, 100, .inl zrow))] ++ [(q2, .inl (K.2.1, 175, .inl zrow))] ++ [(q3, .inl (K.2.1, 175, .inl zrow))] ++ [(q4, .inl (K.2.1, 175, .inl zrow))] ++ [(q5, .inl (K.2.1, 2450, .inl zrow))] ++ [(q6, .inl (K.2.1, 350, .inl zrow))] ++ [(q7, .inl (K.2.2.1, 2, .inl zrow))] ++ [(q8, .inl (K.2.1, 225, .inl zrow))] ++ [(q9, .inl (K.2.1, 24, .inl zrow))])) := hD
  refine n_putF (C := RX11) (T := TX11) (N := 16) (ci := 10) cx inlX11 tyX11 tyX11_ok nmX11 rfl hP hD hS 14 (by decide) gw_151 rfl rfl hin rfl rfl rfl (Nat.le_of_ble_eq_true rfl) dX11_init_78 (fun H locs hP hD hS => ?_)
  have hP : va_P K.1 gcl ((h0, .inr (10, [.int 0, .ref q1, .int 0, .int 0, .ref q2, .ref q3, .ref q4, .ref q5, .int 0, .ref q6, .ref q7, .ref q8, .int 0, .int 0, .ref q9, .int 0])) :: (gw (K.1, a1, kc K, 392) S ++ [(q1, .inl (K.2.1, 100, .inl zrow))] ++ [(q2, .inl (K.2.1, 175, .inl zrow))] ++ [(q3, .inl (K.2.1, 175, .inl zrow))] ++ [(q4, .inl (K.2.1, 175, .inl zrow))] ++ [(q5, .inl (K.2.1, 2450, .inl zrow))] ++ [(q6, .inl (K.2.1, 350, .inl zrow))] ++ [(q7, .inl (K.2.2.1, 2, .inl zrow))] ++ [(q8, .inl (K.2.1, 225, .inl zrow))] ++ [(q9, .inl (K.2.1, 24, .inl zrow))])) H := hP
  have hD : va_D (va_A ((h0, .inr (10, [.int 0, .null, .int 0, .int 0, .null, .null, .null, .null, .int 0, .null, .null, .null, .int 0, .int 0, .null, .int 0])) :: gw (K.1, a1, kc K, 392) S) s.heap.size) ((h0, .inr (10, [.int 0, .ref q1, .int 0, .int 0, .ref q2, .ref q3, .ref q4, .ref q5, .int 0, .ref q6, .ref q7, .ref q8, .int 0, .int 0, .ref q9, .int 0])) :: (gw (K.1, a1, kc K, 392) S ++ [(q1, .inl (K.2.1, 100, .inl zrow))] ++ [(q2, .inl (K.2.1, 175, .inl zrow))] ++ [(q3, .inl (K.2.1, 175, .inl zrow))] ++ [(q4, .inl (K.2.1, 175, .inl zrow))] ++ [(q5, .inl (K.2.1, 2450, .inl zrow))] ++ [(q6, .inl (K.2.1, 350, .inl zrow))] ++ [(q7, .inl (K.2.2.1, 2, .inl zrow))] ++ [(q8, .inl (K.2.1, 225, .inl zrow))] ++ [(q9, .inl (K.2.1, 24, .inl zrow))])) := hD
  have eW : ((h0, .inr (10, [.int 0, .ref q1, .int 0, .int 0, .ref q2, .ref q3, .ref q4, .ref q5, .int 0, .ref q6, .ref q7, .ref q8, .int 0, .int 0, .ref q9, .int 0])) :: (gw (K.1, a1, kc K, 392) S ++ [(q1, .inl (K.2.1, 100, .inl zrow))] ++ [(q2, .inl (K.2.1, 175, .inl zrow))] ++ [(q3, .inl (K.2.1, 175, .inl zrow))] ++ [(q4, .inl (K.2.1, 175, .inl zrow))] ++ [(q5, .inl (K.2.1, 2450, .inl zrow))] ++ [(q6, .inl (K.2.1, 350, .inl zrow))] ++ [(q7, .inl (K.2.2.1, 2, .inl zrow))] ++ [(q8, .inl (K.2.1, 225, .inl zrow))] ++ [(q9, .inl (K.2.1, 24, .inl zrow))])) = MW K a1 S h0 (fun j => ([0, q1, q2, q3, q4, q5, q6, q7, q8, q9] : List Nat).getD j 0) := by unfold MW; simp only [List.append_assoc, List.cons_append, List.nil_append]; rfl
  rw [eW] at hP hD
  obtain ⟨G, hG⟩ : ∃ G : gG, G = (K.1, mAd h0 a1 (fun j => ([0, q1, q2, q3, q4, q5, q6, q7, q8, q9] : List Nat).getD j 0), kc K, 402) := ⟨_, rfl⟩
  have hw : gP G S H := by rw [hG]; exact MW_gP hz hP
  have hi : gInj G := by rw [hG]; exact MW_inj hD
  have eA : gA G s.heap.size = va_A ((h0, .inr (10, [.int 0, .null, .int 0, .int 0, .null, .null, .null, .null, .int 0, .null, .null, .null, .int 0, .int 0, .null, .int 0])) :: gw (K.1, a1, kc K, 392) S) s.heap.size := by rw [hG]; exact MW_A hD
  have hM : 402 ≤ gN G := by rw [hG]; exact Nat.le_refl _
  have hN : 392 ≤ gN G := by omega
  have cx2 : gCx p s m c cX11_init 1 RX11 G := ⟨cx.1, cx.2.1, cx.2.2.1, cx.2.2.2.1, cx.2.2.2.2.g (by rw [hG]) (by rw [hG]) hi hN⟩
  have h00 : G.2.1 392 = h0 := by rw [hG]; rfl
  rw [← eA] at hS
  have hl : lv_has ls 1 [(0, .ref (G.2.1 392))] := by rw [h00]; exact hl
  refine lv_aload_n cx.1 cx.2.1 dX11_init_81 rfl (lv_at hl 0 rfl) ?_
  refine g_get (C := RX11) (T := TX11) (N := 16) (v := .ref (G.2.1 395)) cx2 hw inlX11 392 (by omega) he_c392 rfl 5 (by decide) gw_144 rfl rfl dX11_init_82 ?_
  refine g_S (As := [.ref (G.2.1 395)]) (rest := []) cx2 hw hS (c_X11_begin l G hM (ia_c395 hM) S Sd ed) gw_152 gy_X11_begin gi_X11_begin ⟨(Nat.le_of_ble_eq_true rfl), (Nat.le_of_ble_eq_true rfl)⟩ ⟨(Nat.le_of_ble_eq_true rfl), (Nat.le_of_ble_eq_true rfl)⟩ rfl hl.1 rfl (Nat.le_of_ble_eq_true rfl) dX11_init_85 (fun H locs hw hS => ?_)
  refine W.eq (g2 := F0 m 88 ls []) rfl ?_
  refine lv_aload_n cx.1 cx.2.1 dX11_init_88 rfl (lv_at hl 0 rfl) ?_
  refine g_get (C := RX11) (T := TX11) (N := 16) (v := .ref (G.2.1 395)) cx2 hw inlX11 392 (by omega) he_c392 rfl 5 (by decide) gw_144 rfl rfl dX11_init_89 ?_
  refine lv_iconst (v := (0 : Int32)) cx.1 cx.2.1 dX11_init_92 (by decide) ?_
  refine lv_iconst (v := (3 : Int32)) cx.1 cx.2.1 dX11_init_93 (by decide) ?_
  refine g_iast cx2 hw hS (ia_c395 hM) (by unfold vp_in; decide) dX11_init_94 (fun H locs hw hS => ?_)
  rw [show (Int32.toNatClampNeg 0) = 0 from ix_c0] at hw
  refine lv_aload_n cx.1 cx.2.1 dX11_init_95 rfl (lv_at hl 0 rfl) ?_
  refine g_get (C := RX11) (T := TX11) (N := 16) (v := .ref (G.2.1 395)) cx2 hw inlX11 392 (by omega) he_c392 rfl 5 (by decide) gw_144 rfl rfl dX11_init_96 ?_
  refine lv_iconst (v := (0 : Int32)) cx.1 cx.2.1 dX11_init_99 (by decide) ?_
  refine lv_iconst (v := (1 : Int32)) cx.1 cx.2.1 dX11_init_100 (by decide) ?_
  refine lv_iconst (v := (2 : Int32)) cx.1 cx.2.1 dX11_init_101 (by decide) ?_
  refine g_S (As := [.ref (G.2.1 395), .int 0, .int 1, .int 2]) (rest := []) cx2 hw hS (c_X11_addTrack l G hM (ia_c395 hM) 0 1 2 _ Se ee) gw_158 gy_X11_addTrack gi_X11_addTrack ⟨(Nat.le_of_ble_eq_true rfl), (Nat.le_of_ble_eq_true rfl)⟩ ⟨(Nat.le_of_ble_eq_true rfl), (Nat.le_of_ble_eq_true rfl)⟩ rfl hl.1 rfl (Nat.le_of_ble_eq_true rfl) dX11_init_102 (fun H locs hw hS => ?_)
  refine W.eq (g2 := F0 m 105 ls []) rfl ?_
  refine lv_aload_n cx.1 cx.2.1 dX11_init_105 rfl (lv_at hl 0 rfl) ?_
  refine g_get (C := RX11) (T := TX11) (N := 16) (v := .ref (G.2.1 395)) cx2 hw inlX11 392 (by omega) he_c392 rfl 5 (by decide) gw_144 rfl rfl dX11_init_106 ?_
  refine lv_iconst (v := (1 : Int32)) cx.1 cx.2.1 dX11_init_109 (by decide) ?_
  refine lv_iconst (v := (2 : Int32)) cx.1 cx.2.1 dX11_init_110 (by decide) ?_
  refine lv_iconst (v := (2 : Int32)) cx.1 cx.2.1 dX11_init_111 (by decide) ?_
  refine g_S (As := [.ref (G.2.1 395), .int 1, .int 2, .int 2]) (rest := []) cx2 hw hS (c_X11_addTrack l G hM (ia_c395 hM) 1 2 2 _ Sf ef) gw_158 gy_X11_addTrack gi_X11_addTrack ⟨(Nat.le_of_ble_eq_true rfl), (Nat.le_of_ble_eq_true rfl)⟩ ⟨(Nat.le_of_ble_eq_true rfl), (Nat.le_of_ble_eq_true rfl)⟩ rfl hl.1 rfl (Nat.le_of_ble_eq_true rfl) dX11_init_112 (fun H locs hw hS => ?_)
  refine W.eq (g2 := F0 m 115 ls []) rfl ?_
  have hDg : va_D (va_A ((h0, .inr (10, [.int 0, .null, .int 0, .int 0, .null, .null, .null, .null, .int 0, .null, .null, .null, .int 0, .int 0, .null, .int 0])) :: gw (K.1, a1, kc K, 392) S) s.heap.size) (gw G Sf) := by rw [← eA]; exact gD hi
  rw [eA] at hS
  rw [hG] at hDg
  have hw : va_P G.1 gcl (gw G Sf) H := hw
  rw [hG] at hw
  exact W.widen (Nat.le_of_ble_eq_true rfl) (Nat.le_of_ble_eq_true rfl) (W.vret cx.1 cx.2.1 hr (fun t ht hW => ⟨⟨mAd h0 a1 (fun j => ([0, q1, q2, q3, q4, q5, q6, q7, q8, q9] : List Nat).getD j 0), rfl, ⟨fun k hk => mAd_lo hk, rfl⟩, by rw [ht]; exact hw, hDg⟩, hS.F ht⟩) hS.2.2 dX11_init_115 hlk)
