/-! ===== slots and the text's size ===== -/
theorem bI_t : bI true = 1 := rfl
theorem ok_save {n : Nat} {S : Sg} (x : Int32) (h : Inv n S) : OkA (f_L_save x) (f_X11_save x) (Inv (n + 1)) S := by
  obtain ⟨s, hC, hM, hv⟩ := h
  obtain ⟨c, hV⟩ := hv.1
  have hvl := V.vl hV
  show OkA (fun S => gwr 1 0 0 (f_X10_save x S)) _ _ _
  cases hx : below 2 x with
  | false =>
    refine tA 1 1 hC hM hv (by decide) (fun _ => rfl) (fun S hS => ?_) (fun S hS => ?_)
    · unfold f_X10_save
      rw [nSl, hx, nd_f]
    · unfold f_X11_save B_X11_save_16
      rw [in_b (n := 2) (by omega) (by decide), gbiN, hx, if_pos (by decide), ref_1, gbiN]
      rfl
  | true =>
    obtain ⟨k, hk, rfl⟩ := below_of (by omega) hx
    refine okA0 (v := s.1.1 4) (s' := ((s.1, s.2.1, s.2.2.1, s.2.2.2.1, fun j => if j = k then some s.1 else s.2.2.2.2 j) : St)) hC hM (fun S hS => ?_) (fun S hS => ?_) ?_
    · obtain ⟨h1, h2, ⟨o, ho⟩, h4⟩ := hS
      obtain ⟨S1, e1, b1, b2, b3⟩ := C_keep h4 h1 hvl hk
      refine ⟨S1, ?_, ⟨b2, ⟨by rw [b3 1 (by omega) (by omega)]; exact h2.1, fun x hx => by rw [b3 2 (by omega) (by omega)]; exact h2.2 x hx⟩, ⟨o, ?_⟩, b1⟩, fun k hk => b3 k (by omega) (by omega)⟩
      · unfold f_X10_save
        rw [nSl, hx, nd_t, e1, gbvN, b2.1.2.2.1]
      · obtain ⟨a1, a2, a3, a4, a5⟩ := ho
        exact ⟨a1, a2, by rw [b3 3 (by omega) (by omega)]; exact a3, by rw [b3 3 (by omega) (by omega)]; exact a4, fun k g hg => CP_o (a5 k g hg) (fun j p1 p2 => b3 j (by omega) (by omega))⟩
    · obtain ⟨h1, h2, h3, h4⟩ := hS
      have hpg : PG s.1 395 0 (u2 (u2 S 392 0 0) 399 k 1) := by
        rw [PG_0 hvl, u2_n (by omega), u2_n (by omega)]
        exact h1
      obtain ⟨S2, e1, b1, b2, b3⟩ := M_copy (q := 175 * k) (n0 := 175) (k2 := 398) (n2 := 350) hpg hvl (by omega) (by omega) (by omega) (by omega) (by omega)
      have hb : ∀ a, a ≠ 398 → a ≠ 392 → a ≠ 399 → S2 a = S a := fun a x y z => by rw [b3 a x, u2_n z, u2_n y]
      have hc : ∀ x, x ≠ 0 → S2 392 x = S 392 x := fun x z => by rw [b3 392 (by omega), u2_n (by omega), u2_ni z]
      rw [nI_0] at e1
      refine ⟨S2, ?_, by rw [b3 392 (by omega), u2_n (by omega), u2_eq], ⟨by rw [hb 395 (by omega) (by omega) (by omega)]; exact h1, ⟨by rw [hc 2 (by omega)]; exact h2.1, fun x hx => by rw [hb 393 (by omega) (by omega) (by omega)]; exact h2.2 x hx⟩, ⟨by rw [hc 8 (by omega)]; exact h3.1, fun k x hx => ?_⟩, fun j hj => ?_⟩, fun k hk => hb k (by omega) (by omega) (by omega), hb 402 (by omega) (by omega) (by omega)⟩
      · unfold f_X11_save B_X11_save_16
        rw [in_b (n := 2) (by omega) (by decide), gbiN, hx, if_neg (by decide), ref_0, gbiN, if_pos rfl, gck_nI (by omega) (by omega), nI_c (by omega), gstN, show (175 : Int32) = nI 175 from rfl, pk_mul, e1, gbvN, gck_c4, ix_c4, hb 395 (by omega) (by omega) (by omega), h1.1.2.2.1]
      · unfold PG
        rw [hb 397 (by omega) (by omega) (by omega)]
        exact h3.2 k x hx
      · by_cases e : j = k
        · subst e
          refine ⟨?_, fun g hg => ?_⟩
          · show S2 399 j = bI (if j = j then some s.1 else s.2.2.2.2 j).isSome
            rw [if_pos rfl, b3 399 (by omega), u2_eq]
            rfl
          · have hg2 : (if j = j then some s.1 else s.2.2.2.2 j) = some g := hg
            rw [if_pos rfl] at hg2
            rw [← Option.some.inj hg2]
            exact b1
        · refine ⟨?_, fun g hg => ?_⟩
          · show S2 399 j = bI (if j = k then some s.1 else s.2.2.2.2 j).isSome
            rw [if_neg e, b3 399 (by omega), u2_ni e, u2_n (by omega)]
            exact (h4 j hj).1
          · have hg2 : (if j = k then some s.1 else s.2.2.2.2 j) = some g := hg
            rw [if_neg e] at hg2
            obtain ⟨cg, hVg⟩ := hv.2.2.2 j g hg2
            refine PG_ext ((h4 j hj).2 g hg2) (V.vl hVg) (fun x hx => ?_)
            rw [b2 _ (by omega), u2_n (by omega), u2_n (by omega)]
    · obtain ⟨v1, v2, v3, v4⟩ := IV_mono hv (Nat.le_succ n)
      refine ⟨v1, v2, v3, fun j x hj => ?_⟩
      have hj2 : (if j = k then some s.1 else s.2.2.2.2 j) = some x := hj
      by_cases e : j = k
      · rw [if_pos e] at hj2
        rw [← Option.some.inj hj2]
        exact v1
      · rw [if_neg e] at hj2
        exact v4 j x hj2
theorem ok_restore {n : Nat} {S : Sg} (x : Int32) (h : Inv n S) : OkA (f_L_restore x) (f_X11_restore x) (Inv (n + 1)) S := by
  obtain ⟨s, hC, hM, hv⟩ := h
  show OkA (fun S => gwr 1 0 2 (f_X10_restore x S)) _ _ _
  cases hx : below 2 x with
  | false =>
    refine tA 1 1 hC hM hv (by decide) (fun _ => rfl) (fun S hS => ?_) (fun S hS => ?_)
    · unfold f_X10_restore
      rw [nSl, hx, nd_f]
    · unfold f_X11_restore B_X11_restore_29
      rw [in_b (n := 2) (by omega) (by decide), gbiN, hx, if_pos (by decide), ref_1, gbiN]
      rfl
  | true =>
    obtain ⟨k, hk, rfl⟩ := below_of (by omega) hx
    have hfil : ∀ S, IC s S → f_X6_isFilled (nI k) S = some (bI (s.2.2.2.2 k).isSome, S) := fun S hS => by
      unfold f_X6_isFilled
      rw [at_ok hk (by omega), gbiN, (hS.2.2.2 k hk).1]
      cases (s.2.2.2.2 k).isSome <;> rfl
    cases hs : s.2.2.2.2 k with
    | none =>
      refine tA 3 2 hC hM hv (by decide) (fun _ => rfl) (fun S hS => ?_) (fun S hS => ?_)
      · unfold f_X10_restore
        rw [nSl, hx, nd_t, hfil S hS, gbiN, hs, nAl]
        rfl
      · unfold f_X11_restore B_X11_restore_29
        rw [in_b (n := 2) (by omega) (by decide), gbiN, hx, if_neg (by decide), gck_nI (by omega) (by omega), nI_c (by omega), (hS.2.2.2 k hk).1, hs, if_pos (by decide), ref_2, gbiN]
        rfl
    | some g =>
      obtain ⟨c, hVg⟩ := hv.2.2.2 k g hs
      have hvl := V.vl hVg
      refine okA0 (v := g.1 4) (s' := ((g, s.2.1, s.2.2.1, [], s.2.2.2.2) : St)) hC hM (fun S hS => ?_) (fun S hS => ?_) ?_
      · have hf := hfil S hS
        obtain ⟨h1, h2, ⟨o, ho⟩, h4⟩ := hS
        obtain ⟨S1, e1, b1, b3⟩ := C_fetch h4 hs hvl hk
        have hb : ∀ c, c ≠ 3 → (c < 14 ∨ 35 ≤ c) → u2 S1 3 2 0 c = S c := fun c y z => by rw [u2_n y, b3 c z]
        refine ⟨u2 S1 3 2 0, ?_, ⟨CP_o b1 (fun k p1 p2 => by rw [u2_n (by omega)]), ⟨by rw [hb 1 (by omega) (by omega)]; exact h2.1, fun x hx => by rw [hb 2 (by omega) (by omega)]; exact h2.2 x hx⟩, ⟨o, Nat.zero_le _, ho.2.1, by rw [u2_eq]; rfl, by rw [u2_ni (by omega), b3 3 (by omega)]; exact ho.2.2.2.1, fun k g hg => by simp at hg⟩, fun j hj => ⟨by rw [hb 7 (by omega) (by omega)]; exact (h4 j hj).1, fun g hg => CP_o ((h4 j hj).2 g hg) (fun j p1 p2 => hb j (by omega) (by omega))⟩⟩, fun k hk => hb k (by omega) (by omega)⟩
        unfold f_X10_restore f_X3_forget
        rw [nSl, hx, nd_t, hf, gbiN, hs, nAl, show (some g).isSome = true from rfl, nd_t, e1, gbvN, gstN, gbvN, u2_n (by omega), b1.1.2.2.1]
      · obtain ⟨h1, h2, h3, h4⟩ := hS
        have hpg : PG g 398 (175 * k) (u2 S 392 0 0) := by
          unfold PG
          rw [u2_n (by omega)]
          exact (h4 k hk).2 g hs
        obtain ⟨S2, e1, b1, -, b3⟩ := M_copy (q := 0) (n0 := 350) (k2 := 395) (n2 := 175) hpg hvl (by omega) (by omega) (by omega) (by omega) (by omega)
        rw [nI_0] at e1
        have b1' := (PG_0 hvl).mp b1
        have hb : ∀ a, a ≠ 395 → a ≠ 392 → u2 S2 392 8 0 a = S a := fun a x y => by rw [u2_n y, b3 a x, u2_n y]
        have hc : ∀ x, x ≠ 0 → x ≠ 8 → u2 S2 392 8 0 392 x = S 392 x := fun x y z => by rw [u2_ni z, b3 392 (by omega), u2_ni y]
        refine ⟨u2 S2 392 8 0, ?_, by rw [u2_ni (by omega), b3 392 (by omega), u2_eq], ⟨by rw [u2_n (by omega)]; exact b1', ⟨by rw [hc 2 (by omega) (by omega)]; exact h2.1, fun x hx => by rw [hb 393 (by omega) (by omega)]; exact h2.2 x hx⟩, ⟨by rw [u2_eq]; rfl, fun k x hx => by simp at hx⟩, fun j hj => ⟨by rw [hb 399 (by omega) (by omega)]; exact (h4 j hj).1, fun g hg => ?_⟩⟩, fun k hk => hb k (by omega) (by omega), hb 402 (by omega) (by omega)⟩
        · unfold f_X11_restore B_X11_restore_29
          rw [in_b (n := 2) (by omega) (by decide), gbiN, hx, if_neg (by decide), gck_nI (by omega) (by omega), nI_c (by omega), (h4 k hk).1, hs, show (some g).isSome = true from rfl, if_neg (by decide), ref_0, gbiN, if_pos rfl, show (175 : Int32) = nI 175 from rfl, pk_mul, e1, gbvN, gstN, gck_c4, ix_c4, u2_n (by omega), b1'.1.2.2.1]
        · unfold PG
          rw [hb 398 (by omega) (by omega)]
          exact (h4 j hj).2 g hg
      · obtain ⟨v1, v2, v3, v4⟩ := IV_mono hv (Nat.le_succ n)
        exact ⟨v4 k g hs, v2, ⟨Nat.zero_le _, fun x hx => by simp at hx⟩, v4⟩
theorem ok_clearText {n : Nat} {S : Sg} (h : Inv n S) : OkB f_X10_clearText f_X11_clearText (Inv (n + 1)) S := by
  obtain ⟨s, hC, hM, hv⟩ := h
  refine okB0 (v := nI s.2.2.1) (s' := ((s.1, s.2.1, 0, s.2.2.2) : St)) hC hM (fun S hS => ?_) (fun S hS => ?_) ?_
  · obtain ⟨h1, h2, ⟨o, ho⟩, h4⟩ := hS
    have hb : ∀ a, a ≠ 1 → u2 S 1 1 0 a = S a := fun a x => u2_n x
    refine ⟨u2 S 1 1 0, ?_, ⟨CP_o h1 (fun k p1 p2 => hb k (by omega)), ⟨u2_eq, fun x hx => absurd hx (Nat.not_lt_zero _)⟩, ⟨o, ?_⟩, fun j hj => ⟨by rw [hb 7 (by omega)]; exact (h4 j hj).1, fun g hg => CP_o ((h4 j hj).2 g hg) (fun j p1 p2 => hb j (by omega))⟩⟩, fun k hk => hb k (by omega)⟩
    · unfold f_X10_clearText f_X2_empty
      rw [gviN, gstN, h2.1, gbiN]
    · obtain ⟨a1, a2, a3, a4, a5⟩ := ho
      exact ⟨a1, a2, by rw [hb 3 (by omega)]; exact a3, by rw [hb 3 (by omega)]; exact a4, fun k g hg => CP_o (a5 k g hg) (fun j p1 p2 => hb j (by omega))⟩
  · obtain ⟨h1, h2, h3, h4⟩ := hS
    have hb : ∀ a, a ≠ 392 → u2 (u2 S 392 0 0) 392 2 0 a = S a := fun a x => by rw [u2_n x, u2_n x]
    refine ⟨u2 (u2 S 392 0 0) 392 2 0, ?_, by rw [u2_ni (by omega), u2_eq], ⟨by rw [hb 395 (by omega)]; exact h1, ⟨u2_eq, fun x hx => absurd hx (Nat.not_lt_zero _)⟩, ⟨by rw [u2_ni (by omega), u2_ni (by omega)]; exact h3.1, fun k x hx => ?_⟩, fun j hj => ⟨by rw [hb 399 (by omega)]; exact (h4 j hj).1, fun g hg => ?_⟩⟩, fun k hk => hb k (by omega), hb 402 (by omega)⟩
    · unfold f_X11_clearText
      rw [gstN, gviN, gstN, u2_ni (by omega), h2.1]
    · unfold PG
      rw [hb 397 (by omega)]
      exact h3.2 k x hx
    · unfold PG
      rw [hb 398 (by omega)]
      exact (h4 j hj).2 g hg
  · obtain ⟨v1, v2, v3, v4⟩ := IV_mono hv (Nat.le_succ n)
    exact ⟨v1, ⟨Nat.zero_le _, fun x hx => absurd hx (Nat.not_lt_zero _)⟩, v3, v4⟩
theorem ok_append {n : Nat} {S : Sg} (x : Int32) (h : Inv n S) : OkA (f_L_append x) (f_X11_append x) (Inv (n + 1)) S := by
  obtain ⟨s, hC, hM, hv⟩ := h
  have h100 := hv.2.1.1
  show OkA (fun S => gwr 0 1 2 (f_X10_append x S)) _ _ _
  cases hx : (decide ((0 : Int32) ≤ x) && decide (x ≤ (255 : Int32))) with
  | false =>
    refine tA 2 1 hC hM hv (by decide) (fun _ => rfl) (fun S hS => ?_) (fun S hS => ?_)
    · unfold f_X10_append
      rw [nRa, hx, nd_f]
    · unfold f_X11_append B_X11_append_31
      rw [in_r (a := 0) (b := 255) (by decide) (by decide), gbiN, hx, if_pos (by decide), ref_1, gbiN]
      rfl
  | true =>
    obtain ⟨q, -, hq, rfl⟩ := rg_of (a := 0) (b := 255) (by omega) (by omega) hx
    have hfull : ∀ S, TXs s.2.1 s.2.2.1 S → f_X2_isFull S = some (bI (decide (s.2.2.1 = 100)), S) := fun S hS => by
      unfold f_X2_isFull
      rw [hS.1, show (100 : Int32) = nI 100 from rfl]
      by_cases h8 : s.2.2.1 = 100
      · rw [decide_eq_true h8, if_neg (by rw [nIlt (by omega) (by omega)]; omega)]; rfl
      · rw [decide_eq_false h8, if_pos (by rw [nIlt (by omega) (by omega)]; omega)]; rfl
    by_cases h8 : s.2.2.1 = 100
    · refine tA 3 2 hC hM hv (by decide) (fun _ => rfl) (fun S hS => ?_) (fun S hS => ?_)
      · unfold f_X10_append
        rw [nRa, hx, nd_t, hfull S hS.2.1, gbiN, decide_eq_true h8, if_neg (by decide)]
      · unfold f_X11_append B_X11_append_31
        rw [in_r (a := 0) (b := 255) (by decide) (by decide), gbiN, hx, if_neg (by decide), hS.2.1.1, if_pos (by rw [h8]; decide), ref_2, gbiN]
        rfl
    · refine okA0 (v := nI (s.2.2.1 + 1)) (s' := ((s.1, fun j => if j = s.2.2.1 then q else s.2.1 j, s.2.2.1 + 1, s.2.2.2) : St)) hC hM (fun S hS => ?_) (fun S hS => ?_) ?_
      · have hf := hfull S hS.2.1
        obtain ⟨h1, h2, ⟨o, ho⟩, h4⟩ := hS
        have hb : ∀ a, a ≠ 1 → a ≠ 2 → u2 (u2 S 2 s.2.2.1 (nI q)) 1 1 (nI (s.2.2.1 + 1)) a = S a := fun a x y => by rw [u2_n x, u2_n y]
        refine ⟨u2 (u2 S 2 s.2.2.1 (nI q)) 1 1 (nI (s.2.2.1 + 1)), ?_, ⟨CP_o h1 (fun k p1 p2 => hb k (by omega) (by omega)), ⟨u2_eq, fun x hx => ?_⟩, ⟨o, ?_⟩, fun j hj => ⟨by rw [hb 7 (by omega) (by omega)]; exact (h4 j hj).1, fun g hg => CP_o ((h4 j hj).2 g hg) (fun j p1 p2 => hb j (by omega) (by omega))⟩⟩, fun k hk => hb k (by omega) (by omega)⟩
        · unfold f_X10_append f_X2_add
          rw [nRa, hx, nd_t, hf, gbiN, decide_eq_false h8, if_pos (by decide), hf, gbiN, decide_eq_false h8, if_pos (by decide), h2.1, put_ok (by omega) (by omega), gbvN, u2_nr (by omega), h2.1, nI_s, gstN, u2_eq, gbiN]
        · show u2 (u2 S 2 s.2.2.1 (nI q)) 1 1 (nI (s.2.2.1 + 1)) 2 x = nI (if x = s.2.2.1 then q else s.2.1 x)
          rw [u2_n (by omega)]
          by_cases e : x = s.2.2.1
          · rw [if_pos e, e, u2_eq]
          · rw [if_neg e, u2_ni e, h2.2 x (by have : x < s.2.2.1 + 1 := hx; omega)]
        · obtain ⟨a1, a2, a3, a4, a5⟩ := ho
          exact ⟨a1, a2, by rw [hb 3 (by omega) (by omega)]; exact a3, by rw [hb 3 (by omega) (by omega)]; exact a4, fun k g hg => CP_o (a5 k g hg) (fun j p1 p2 => hb j (by omega) (by omega))⟩
      · obtain ⟨h1, h2, h3, h4⟩ := hS
        have hb : ∀ a, a ≠ 392 → a ≠ 393 → u2 (u2 (u2 S 392 0 0) 393 s.2.2.1 (nI q)) 392 2 (nI (s.2.2.1 + 1)) a = S a := fun a x y => by rw [u2_n x, u2_n y, u2_n x]
        refine ⟨u2 (u2 (u2 S 392 0 0) 393 s.2.2.1 (nI q)) 392 2 (nI (s.2.2.1 + 1)), ?_, by rw [u2_ni (by omega), u2_n (by omega), u2_eq], ⟨by rw [hb 395 (by omega) (by omega)]; exact h1, ⟨u2_eq, fun x hx => ?_⟩, ⟨by rw [u2_ni (by omega), u2_n (by omega), u2_ni (by omega)]; exact h3.1, fun k x hx => ?_⟩, fun j hj => ⟨by rw [hb 399 (by omega) (by omega)]; exact (h4 j hj).1, fun g hg => ?_⟩⟩, fun k hk => hb k (by omega) (by omega), hb 402 (by omega) (by omega)⟩
        · unfold f_X11_append B_X11_append_31
          rw [in_r (a := 0) (b := 255) (by decide) (by decide), gbiN, hx, if_neg (by decide), h2.1, if_neg (by rw [show (100 : Int32) = nI 100 from rfl, nI_inj (by omega) (by omega)]; exact h8), ref_0, gbiN, if_pos rfl, u2_ni (by omega), h2.1, gck_nI (by omega) (by omega), nI_c (by omega), gstN, u2_n (a := 392) (by omega), u2_ni (by omega), h2.1, nI_s, gstN, u2_eq]
        · show u2 (u2 (u2 S 392 0 0) 393 s.2.2.1 (nI q)) 392 2 (nI (s.2.2.1 + 1)) 393 x = nI (if x = s.2.2.1 then q else s.2.1 x)
          rw [u2_n (by omega)]
          by_cases e : x = s.2.2.1
          · rw [if_pos e, e, u2_eq]
          · rw [if_neg e, u2_ni e, u2_n (by omega), h2.2 x (by have : x < s.2.2.1 + 1 := hx; omega)]
        · unfold PG
          rw [hb 397 (by omega) (by omega)]
          exact h3.2 k x hx
        · unfold PG
          rw [hb 398 (by omega) (by omega)]
          exact (h4 j hj).2 g hg
      · obtain ⟨v1, v2, v3, v4⟩ := IV_mono hv (Nat.le_succ n)
        refine ⟨v1, ⟨by show s.2.2.1 + 1 ≤ 100; omega, fun x hx => ?_⟩, v3, v4⟩
        show (if x = s.2.2.1 then q else s.2.1 x) ≤ 255
        by_cases e : x = s.2.2.1
        · rw [if_pos e]; exact hq
        · rw [if_neg e]; exact v2.2 x (by have : x < s.2.2.1 + 1 := hx; omega)
