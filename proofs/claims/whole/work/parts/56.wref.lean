/-! ===== ways: the reference ===== -/
def FrM (S S' : Sg) : Prop := (∀ k, k ≠ 392 → k ≠ 400 → k ≠ 401 → S' k = S k) ∧ ∀ x, x ≠ 12 → x ≠ 13 → x ≠ 15 → S' 392 x = S 392 x
theorem FrM.rf (S : Sg) : FrM S S := ⟨fun _ _ _ _ => rfl, fun _ _ _ _ => rfl⟩
theorem FrM.tr {S S1 S2 : Sg} (h1 : FrM S S1) (h2 : FrM S1 S2) : FrM S S2 := ⟨fun k a b c => (h2.1 k a b c).trans (h1.1 k a b c), fun x a b c => (h2.2 x a b c).trans (h1.2 x a b c)⟩
theorem FrM.u400 {S S1 : Sg} {x : Nat} {v : Int32} (h : FrM S S1) : FrM S (u2 S1 400 x v) := ⟨fun k a b c => by rw [u2_n b]; exact h.1 k a b c, fun x a b c => by rw [u2_nr (by omega)]; exact h.2 x a b c⟩
theorem FrM.u401 {S S1 : Sg} {x : Nat} {v : Int32} (h : FrM S S1) : FrM S (u2 S1 401 x v) := ⟨fun k a b c => by rw [u2_n c]; exact h.1 k a b c, fun x a b c => by rw [u2_nr (by omega)]; exact h.2 x a b c⟩
theorem FrM.u392 {S S1 : Sg} {y : Nat} {v : Int32} (h : FrM S S1) (hy : y = 12 ∨ y = 13 ∨ y = 15) : FrM S (u2 S1 392 y v) := ⟨fun k a b c => by rw [u2_n a]; exact h.1 k a b c, fun x a b c => by rw [u2_ni (by omega)]; exact h.2 x a b c⟩
theorem M_costOf {p i k : Nat} {g : Game} {S : Sg} {a : T4} (h : MP g (S p)) (hv : VL g) (ha : g.2.1[k]? = some a) : f_X11_costOf p (nI i) (nI k) S = some (prc g i a, S) := by
  have h1 := h.tr ha
  have h16 := hv.1
  have hk := lt_len ha
  have ho := hv.2.2.2.1 a (mem_get ha)
  unfold f_X11_costOf B_X11_costOf_36 prc
  rw [trackAt_ok, gbiN, nIp3, gck_nI (by omega) (by omega), nI_c (by omega), h1.2.2.2, gviN]
  have tail : ∀ x : Int32, (gbi (f_X11_trackAt (nI k) S) fun v_2 S_1 => gck (inb (v_2 + 2) 175) (some (x * S_1 p (v_2 + 2).toNatClampNeg, S_1))) = some (x * a.2.2.1, S) := by
    intro x
    rw [trackAt_ok, gbiN, nIp2, gck_nI (by omega) (by omega), nI_c (by omega), h1.2.2.1]
  by_cases e : a.2.2.2 = nI i
  · rw [if_pos e, if_pos e]; exact tail 0
  · rw [if_neg e, if_neg e]
    by_cases e2 : a.2.2.2 = -9
    · rw [if_pos e2, if_pos e2]; exact tail 1
    · rw [if_neg e2, if_neg e2]
      obtain ⟨j, hj, ej⟩ : ∃ j : Nat, j < 4 ∧ a.2.2.2 = nI j := ho.resolve_left e2
      rw [ej, companyAt_ok, gbiN, nIp1, gck_nI (by omega) (by omega), nI_c (by omega), (h.2.2.1 j hj).2.1, nI_c (by omega)]
      exact tail _
theorem M_across {p i k c cc : Nat} {g : Game} {S : Sg} {ks : List TK} {t : TK} (h : MP g (S p)) (hcc : cc ≤ 9) (hK : VK cc ks) (hT : KT g i ks) (ht : ks[k]? = some t) (hc : c < 9) : f_X11_across p (nI k) (nI c) S = some (if t.1 = c then nI t.2.1 else if t.2.1 = c then nI t.1 else -9, S) := by
  obtain ⟨a, ha, r1, r2, r3, -⟩ := hT.2 k t ht
  have h1 := h.tr ha
  have hv := hK.2 t (mem_get ht)
  have hk := lt_len ht
  have h16 := hK.1
  unfold f_X11_across
  rw [trackAt_ok, gbiN, gck_nI (by omega) (by omega), nI_c (by omega), h1.1, r1]
  by_cases e : t.1 = c
  · rw [if_pos e, if_pos (by rw [e]), nIp1, gck_nI (by omega) (by omega), nI_c (by omega), h1.2.1, r2]
  · rw [if_neg e, if_neg (by rw [nI_inj (by omega) (by omega)]; exact e), nIp1, gck_nI (by omega) (by omega), nI_c (by omega), h1.2.1, r2]
    by_cases e2 : t.2.1 = c
    · rw [if_pos e2, if_pos (by rw [e2]), gck_nI (by omega) (by omega)]
    · rw [if_neg e2, if_neg (by rw [nI_inj (by omega) (by omega)]; exact e2)]
theorem goneBy_ok {p i k c L cc : Nat} {T : Nat → Nat → Nat} {g : Game} {S : Sg} {ks : List TK} {t : TK} (h : MP g (S p)) (hv : VL g) (hcc : cc ≤ 9) (hK : VK cc ks) (hT : KT g i ks) (ht : ks[k]? = some t) (hc : c < 9) (hL : L ≤ 24) (hlow : ∀ L' c', L' < L → c' < cc → S 400 (9 * L' + c') = nI (T L' c')) :
    f_X11_goneBy p (nI i) (nI k) (nI c) (nI L) S = some (nI (thr T L c t), S) := by
  obtain ⟨a, ha, r1, r2, r3, r4⟩ := hT.2 k t ht
  have h1 := h.tr ha
  have hvt := hK.2 t (mem_get ht)
  have hk := lt_len ht
  have h16 := hK.1
  unfold f_X11_goneBy
  rw [M_across h hcc hK hT ht hc, gbiN, trackAt_ok, gbiN, nIp2, gck_nI (by omega) (by omega), nI_c (by omega), h1.2.2.1, r3, gviN]
  have cost := M_costOf (i := i) h hv ha
  rw [r4] at cost
  have inner : ∀ y, y < cc → (if nI y = -9 then some ((1000000 : Int32), S) else if 0 ≤ nI L - nI t.2.2.1 then gck (inb (9 * (nI L - nI t.2.2.1) + nI y) 225) (gbi (f_X11_costOf p (nI i) (nI k) S) fun v_7 S_6 => some (S 400 (9 * (nI L - nI t.2.2.1) + nI y).toNatClampNeg + v_7, S_6)) else some (1000000, S)) = some (nI (if t.2.2.1 ≤ L then T (L - t.2.2.1) y + t.2.2.2 else UN), S) := by
    intro y hy
    rw [if_neg (nI_m9 (by omega))]
    by_cases e : t.2.2.1 ≤ L
    · rw [pk_sub e, if_pos (nI_pos' (by omega)), if_pos e, show (9 : Int32) = nI 9 from rfl, pk_mul, nI_add, gck_nI (by omega) (by omega), cost, gbiN, nI_c (by omega), hlow _ _ (by omega) hy, nI_add]
    · rw [if_neg e, if_neg (Int32.not_le.mpr (pk_sneg (by omega) (by omega)))]
      rfl
  unfold thr
  by_cases e1 : t.1 = c
  · rw [if_pos e1, if_pos e1]
    exact inner t.2.1 hvt.2.1
  · rw [if_neg e1, if_neg e1]
    by_cases e2 : t.2.1 = c
    · rw [if_pos e2, if_pos e2]
      exact inner t.1 hvt.1
    · rw [if_neg e2, if_neg e2, if_pos rfl]
      have : (if t.2.2.1 ≤ L then UN else UN) = UN := by split <;> rfl
      rw [this]
      rfl
theorem rf_0 {T : Nat → Nat → Nat} {c : Nat} : ∀ (l : List TK) (k : Nat) (s : Nat × Nat), (∀ t ∈ l, 1 ≤ t.2.2.1) → s.1 ≤ UN → rf T 0 c l k s = s := by
  intro l
  induction l with
  | nil => intro k s _ _; rfl
  | cons t l ih =>
    intro k s hl hs
    have e : thr T 0 c t = UN := by
      unfold thr
      rw [if_neg (by have := hl t List.mem_cons_self; omega)]
    unfold rf wst
    rw [e, if_neg (by omega)]
    exact ih _ s (fun x hx => hl x (List.mem_cons_of_mem _ hx)) hs
theorem lay_in {p i c L cc goal : Nat} {T : Nat → Nat → Nat} {x4 : Int32} {g : Game} {ks : List TK} {S : Sg} {K3 : Sg → Int32 → Int32 → Int32 → Int32 → Option Sg} {K13 : Sg → Int32 → Int32 → Int32 → Int32 → Int32 → Option Sg} (h : MP g (S p)) (hv : VL g) (hcc : cc ≤ 9) (hK : VK cc ks) (hT : KT g i ks) (hc : c < 9) (hL : L ≤ 24) (hlow : ∀ L' c', L' < L → c' < cc → S 400 (9 * L' + c') = nI (T L' c')) (hle : ∀ L' c', T L' c' ≤ UN) : ∀ (l dn : List TK) (s : Nat × Nat) (fu : Nat), ks = dn ++ l → s.1 ≤ UN → l.length < fu →
    L_X11_layLeast_43 p K3 K13 fu S (nI i) (nI goal) x4 (nI L) (nI c) (nI s.1) (nI dn.length) = K13 (u2 S 400 (9 * L + c) (nI (rf T L c l dn.length s).1)) (nI i) (nI goal) x4 (nI L) (nI (c + 1)) := by
  intro l
  induction l with
  | nil =>
    intro dn s fu hks hs hf
    obtain ⟨f, rfl, -⟩ := fuS hf
    rw [List.append_nil] at hks
    have hU : UN = 1000000 := rfl
    show Lb_X11_layLeast_43 p K3 K13 _ S (nI i) (nI goal) x4 (nI L) (nI c) (nI s.1) (nI dn.length) = _
    unfold Lb_X11_layLeast_43 B_X11_layLeast_113
    have e9 : (9 : Int32) * nI L + nI c = nI (9 * L + c) := by rw [show (9 : Int32) = nI 9 from rfl, pk_mul, nI_add]
    rw [gck_c1, ix_c1, h.2.1.1, ← hT.1, hks, if_pos (Int32.le_refl _), e9, gck_nI (by omega) (by omega), gck_nI (by omega) (by omega), nI_c (by omega)]
    by_cases e : (1000000 : Int32) ≤ nI s.1
    · rw [if_pos e]
      rw [show (1000000 : Int32) = nI 1000000 from rfl, nIle (by omega) (by omega)] at e
      have : s.1 = 1000000 := by omega
      rw [gstN, gviN, nI_s]
      show K13 (u2 S 400 (9 * L + c) (nI 1000000)) _ _ _ _ _ = K13 (u2 S 400 (9 * L + c) (nI s.1)) _ _ _ _ _
      rw [this]
    · rw [if_neg e, gstN, gviN, nI_s]
      rfl
  | cons t l ih =>
    intro dn s fu hks hs hf
    obtain ⟨f, rfl, hf⟩ := fuS hf
    have hU : UN = 1000000 := rfl
    have hlen : dn.length + (l.length + 1) ≤ 16 := by
      have := hK.1
      rw [hks] at this
      simp only [List.length_append, List.length_cons] at this
      exact this
    have hget : ks[dn.length]? = some t := by rw [hks]; exact get_mid
    have hvt := hK.2 t (mem_get hget)
    have hcnt : g.2.1.length = dn.length + (l.length + 1) := by
      rw [← hT.1, hks]
      simp only [List.length_append, List.length_cons]
    have hthr : thr T L c t ≤ UN + 81 := by
      unfold thr
      split
      · split
        · have := hle (L - t.2.2.1) t.2.1; omega
        · split
          · have := hle (L - t.2.2.1) t.1; omega
          · omega
      · omega
    show Lb_X11_layLeast_43 p K3 K13 _ S (nI i) (nI goal) x4 (nI L) (nI c) (nI s.1) (nI dn.length) = _
    unfold Lb_X11_layLeast_43
    rw [gck_c1, ix_c1, h.2.1.1, hcnt, if_neg (by rw [nIle (by omega) (by omega)]; omega), goneBy_ok h hv hcc hK hT hget hc hL hlow, gbiN, gviN, gviN, nI_s]
    unfold rf wst
    have ih' := fun s hs => ih (dn ++ [t]) s f (by rw [List.append_assoc]; exact hks) hs (by simp only [List.length_cons] at hf; omega)
    rw [List.length_append, List.length_singleton] at ih'
    by_cases e : thr T L c t < s.1
    · rw [if_neg (by rw [nIle (by omega) (by omega)]; omega), if_pos e]
      exact ih' (thr T L c t, dn.length) (by simp only; omega)
    · rw [if_pos (by rw [nIle (by omega) (by omega)]; omega), if_neg e]
      exact ih' s hs
