/-! ===== forecasts ===== -/
def gEnds (g : Game) : Nat → Game
  | 0 => g
  | m + 1 => gEnds (gEnd g) m
theorem V_rounds {c n : Nat} {g : Game} (h : V c n g) : ∀ x ∈ g.2.2.2.2, iR 1 9 x.2.2.2.1 := fun x hx => (h.2.2.2.2.2.2 x hx).2.2.2.2.1
theorem C_coins_loop {c i M : Nat} (hi : i < 4) : ∀ (m k n : Nat) (g : Game) (S : Sg) (fu : Nat), k + m = M → M ≤ 50 → m < fu → CP 35 g S → V c n g → ∃ S', L_X10_coinsAfter_24 fu S (nI i) (nI M) (nI k) = some (0, (gEnds g m).2.2.1 i 0, S') ∧ Fb 35 S S' := by
  intro m
  induction m with
  | zero =>
    intro k n g S fu hk hM hf h hV
    obtain ⟨f, rfl, -⟩ := fuS hf
    refine ⟨S, ?_, Fb.rf S⟩
    show Lb_X10_coinsAfter_24 _ S (nI i) (nI M) (nI k) = _
    unfold Lb_X10_coinsAfter_24
    rw [if_pos (by rw [nIle (by omega) (by omega)]; omega), at_ok (by omega) (by omega), gbiN, (h.2.2.1 i hi).1]
    rfl
  | succ m ih =>
    intro k n g S fu hk hM hf h hV
    obtain ⟨f, rfl, hf⟩ := fuS hf
    obtain ⟨S1, e1, c1, f1⟩ := C_close h hV.vl
    obtain ⟨S2, e2, f2⟩ := ih (k + 1) (n + 1) (gEnd g) S1 f (by omega) hM (by omega) c1 (V_end hV)
    refine ⟨S2, ?_, (Fb.f f1).tr f2⟩
    show Lb_X10_coinsAfter_24 _ S (nI i) (nI M) (nI k) = _
    unfold Lb_X10_coinsAfter_24
    rw [if_neg (by rw [nIle (by omega) (by omega)]; omega), e1, gbiN, gviN, nI_s]
    exact e2
def bkA (g : Game) (i : Nat) : Nat → Nat → Int32
  | _, 0 => -9
  | k, m + 1 => if bad (gMid g) i = true then nI k else bkA (gEnd g) i (k + 1) m
theorem C_bk_loop {c i q : Nat} (hi : i < 4) (hq : q < 100000) : ∀ (m k n : Nat) (g : Game) (S : Sg) (fu : Nat), k + m = 51 → m < fu → CP 35 g S → V c n g → g.2.2.1 i 4 = nI q → ∃ S', L_X10_bankruptAfter_32 fu S (nI i) (nI q) (nI k) = some (0, bkA g i k m, S') ∧ Fb 35 S S' := by
  intro m
  induction m with
  | zero =>
    intro k n g S fu hk hf h hV h4
    obtain ⟨f, rfl, -⟩ := fuS hf
    refine ⟨S, ?_, Fb.rf S⟩
    show Lb_X10_bankruptAfter_32 _ S (nI i) (nI q) (nI k) = _
    unfold Lb_X10_bankruptAfter_32
    rw [if_pos (by rw [show (50 : Int32) = nI 50 from rfl, nIlt (by omega) (by omega)]; omega)]
    rfl
  | succ m ih =>
    intro k n g S fu hk hf h hV h4
    obtain ⟨f, rfl, hf⟩ := fuS hf
    obtain ⟨S1, e1, c1, f1⟩ := C_close h hV.vl
    have hb := end_co4 (g := g) hi
    rw [h4] at hb
    show ∃ S', Lb_X10_bankruptAfter_32 _ S (nI i) (nI q) (nI k) = _ ∧ _
    unfold Lb_X10_bankruptAfter_32 bkA
    rw [if_neg (by rw [show (50 : Int32) = nI 50 from rfl, nIlt (by omega) (by omega)]; omega), e1, gbiN, at_ok (by omega) (by omega), gbiN, (c1.2.2.1 i hi).2.2.2, hb]
    by_cases e : bad (gMid g) i = true
    · rw [if_pos e, if_pos e, nI_s, if_neg (by rw [nIle (by omega) (by omega)]; omega)]
      exact ⟨S1, rfl, Fb.f f1⟩
    · rw [if_neg e] at hb
      rw [if_neg e, if_neg e, if_pos (Int32.le_refl _), gviN, nI_s]
      obtain ⟨S2, e2, f2⟩ := ih (k + 1) (n + 1) (gEnd g) S1 f (by omega) (by omega) c1 (V_end hV) hb
      exact ⟨S2, e2, (Fb.f f1).tr f2⟩
theorem bit_fin : ∀ q : Fin 16, ∀ i : Fin 4, ((((nI q.val) >>> ((nI i.val) &&& 31)) &&& (1 : Int32)) = 1) ↔ (q.val / 2 ^ i.val) % 2 = 1 := by decide
theorem bit_v {g : Game} {i : Nat} (hi : i < 4) : ((((bSt g 0 4 0) >>> ((nI i) &&& 31)) &&& (1 : Int32)) = 1) ↔ bad g i = true := by
  obtain ⟨q, hq, e1, e2⟩ := bits_v g
  have h := bit_fin ⟨q, hq⟩ ⟨i, hi⟩
  simp only at h
  rw [e1, h, e2]
  have hi4 : i = 0 ∨ i = 1 ∨ i = 2 ∨ i = 3 := by omega
  rcases hi4 with rfl | rfl | rfl | rfl <;> cases bad g 0 <;> cases bad g 1 <;> cases bad g 2 <;> cases bad g 3 <;> simp
