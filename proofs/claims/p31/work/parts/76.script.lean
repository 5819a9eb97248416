/-! ===== scripts ===== -/
/-- the commands d(0) .. of a script, from the k-th on -/
def gScr (g : Game) (d : Nat → Nat) : Nat → Nat → Int32
  | _, 0 => -9
  | k, m + 1 => match gOb g (d k / 10000) (d k / 1000 % 10) (d k % 1000) with
    | none => nI k
    | some g' => gScr g' d (k + 1) m
theorem wlo_eq : ∀ (n s : Nat), wlo s (n + 1) = wlo s n / 100000 := by
  intro n
  induction n with
  | zero => intro s; rfl
  | succ n ih => intro s; exact ih (s / 100000)
theorem l_i (n : Nat) : (lN n).toInt32 = nI n := lN_i n
theorem C_scr_loop {c N s : Nat} (hN : N ≤ 3) (hs : s < 9223372036854775808) : ∀ (m k n : Nat) (g : Game) (S : Sg) (fu : Nat), k + m = N → m < fu → CP 35 g S → V c n g → ∃ S', L_X10_runScript_47 fu S (nI N) (lN s) (nI k) = some (0, gScr g (fun j => wlo s (N - 1 - j) % 100000) k m, S') ∧ Fb 35 S S' := by
  intro m
  induction m with
  | zero =>
    intro k n g S fu hk hf h hV
    obtain ⟨f, rfl, -⟩ := fuS hf
    refine ⟨S, ?_, Fb.rf S⟩
    show Lb_X10_runScript_47 _ S (nI N) (lN s) (nI k) = _
    unfold Lb_X10_runScript_47
    rw [if_pos (by rw [nIle (by omega) (by omega)]; omega)]
    rfl
  | succ m ih =>
    intro k n g S fu hk hf h hV
    obtain ⟨f, rfl, hf⟩ := fuS hf
    have hle := wlo_le (N - 1 - k) s
    have hd : wlo s (N - 1 - k) % 100000 < 100000 := Nat.mod_lt _ (by omega)
    obtain ⟨S1, e1, c1, f1⟩ := C_obey h hV hd
    show ∃ S', Lb_X10_runScript_47 _ S (nI N) (lN s) (nI k) = _ ∧ _
    unfold Lb_X10_runScript_47 gScr
    rw [if_neg (by rw [nIle (by omega) (by omega)]; omega), show (1 : Int32) = nI 1 from rfl, pk_sub (by omega), pk_sub (by omega), C_wlo (by omega) hs, show (100000 : Int64) = lN 100000 from rfl]
    rw [show gbl (some (lN (wlo s (N - 1 - k)), S)) = fun K : Int64 → Sg → Option (Nat × Int32 × Sg) => K (lN (wlo s (N - 1 - k))) S from rfl]
    simp only
    rw [l_rem (by omega) (by omega) (by omega), l_i, gviN, e1, gbiN]
    cases hg : gOb g (wlo s (N - 1 - k) % 100000 / 10000) (wlo s (N - 1 - k) % 100000 / 1000 % 10) (wlo s (N - 1 - k) % 100000 % 1000) with
    | none =>
      refine ⟨S1, ?_, f1⟩
      rw [if_pos (by decide)]
    | some g' =>
      obtain ⟨S2, e2, f2⟩ := ih (k + 1) (n + 1) g' S1 f (by omega) (by omega) (c1 g' hg) (V_ob hV hg)
      refine ⟨S2, ?_, f1.tr f2⟩
      rw [if_neg (by rw [Option.isSome_some]; decide), gviN, nI_add]
      exact e2

