/-! ===== save slots ===== -/
def SLs (sl : Nat → Option Game) (S : Sg) : Prop := ∀ k, k < 2 → S 7 k = bI (sl k).isSome ∧ ∀ g, sl k = some g → CP (350 + 21 * k) g S
theorem slotAt_ok {k : Nat} {S : Sg} (hk : k < 2) : f_X6_stateAt (nI k) S = some (350 + 21 * k, S) := by
  unfold f_X6_stateAt
  rw [if_neg (nI_ng (by omega)), if_neg (by rw [nIle (by omega) (by omega)]; omega), gck_nI hk (by omega), nI_c (by omega)]
theorem C_keep {sl : Nat → Option Game} {k : Nat} {g : Game} {S : Sg} (hs : SLs sl S) (hg : CP 14 g S) (hv : VL g) (hk : k < 2) : ∃ S', f_X6_keep 14 (nI k) S = some S' ∧ SLs (fun j => if j = k then some g else sl j) S' ∧ CP 14 g S' ∧ ∀ c, c ≠ 7 → (c < 350 ∨ 392 ≤ c) → S' c = S c := by
  obtain ⟨S1, e1, c1, f1⟩ := C_copy (b := 350 + 21 * k) (b1 := 14) hg hv (by omega)
  refine ⟨u2 S1 7 k 1, ?_, fun j hj => ?_, CP_o hg (fun c c1 c2 => by rw [u2_n (by omega), f1 c (by omega)]), fun c c1 c2 => by rw [u2_n c1, f1 c (by omega)]⟩
  · unfold f_X6_keep f_X10_copyState
    rw [slotAt_ok hk, gbnN, e1, gbvN, gbvN, put_ok (by omega) (by omega), gbvN]
  · by_cases e : j = k
    · subst e
      simp only [if_true]
      exact ⟨by rw [u2_eq]; rfl, fun g' hg' => by cases hg'; exact CP_o c1 (fun c _ _ => u2_n (by omega))⟩
    · simp only [if_neg e]
      exact ⟨by rw [u2_ni e, f1 7 (by omega)]; exact (hs j hj).1, fun g' hg' => CP_o ((hs j hj).2 g' hg') (fun c c1 c2 => by rw [u2_n (by omega), f1 c (by omega)])⟩
theorem C_fetch {sl : Nat → Option Game} {k : Nat} {g : Game} {S : Sg} (hs : SLs sl S) (hg : sl k = some g) (hv : VL g) (hk : k < 2) : ∃ S', f_X6_fetchInto 14 (nI k) S = some S' ∧ CP 14 g S' ∧ ∀ c, (c < 14 ∨ 35 ≤ c) → S' c = S c := by
  obtain ⟨S1, e1, c1, f1⟩ := C_copy (b := 14) (b1 := 350 + 21 * k) ((hs k hk).2 g hg) hv (by omega)
  refine ⟨S1, ?_, c1, fun c hc => f1 c (by omega)⟩
  unfold f_X6_fetchInto f_X10_copyState
  rw [slotAt_ok hk, gbnN, e1, gbvN, gbvN]
/-! ===== chance deals ===== -/
theorem drawn_ok (y : Int64) : ∃ d : Nat, d < 2147483648 ∧ (((y.toUInt64 >>> ((33 : Int32).toInt64.toUInt64 &&& Int64.toUInt64 63)).toInt64).toInt32) = nI d := by
  refine ⟨(y.toUInt64 >>> ((33 : Int32).toInt64.toUInt64 &&& Int64.toUInt64 63)).toNat, ?_, ?_⟩
  · have h1 : ((33 : Int32).toInt64.toUInt64 &&& Int64.toUInt64 63) = 33 := by decide
    rw [h1, UInt64.toNat_shiftRight]
    have h2 := y.toUInt64.toNat_lt
    have h3 : (33 : UInt64).toNat % 64 = 33 := by decide
    rw [h3, Nat.shiftRight_eq_div_pow]
    omega
  · generalize y.toUInt64 >>> ((33 : Int32).toInt64.toUInt64 &&& Int64.toUInt64 63) = u
    rw [← lN_i]
    congr 1
    unfold lN
    rw [← UInt64.toInt64_ofNat']
    simp

