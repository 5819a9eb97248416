/-! ===== sums and counts ===== -/
theorem fuS {n fu : Nat} (h : n < fu) : ∃ f, fu = f + 1 ∧ n ≤ f := ⟨fu - 1, by omega, by omega⟩
theorem add_sm (a b c : Int32) : a + b + c = a + (b + c) := Int32.add_assoc a b c
theorem eo_iff {x : Int32} {i : Nat} (hi : i < 4) (ho : oR x) : (if x = -9 then (4 : Int32) else x) = nI i ↔ x = nI i := by
  rcases ho with rfl | ⟨j, hj, rfl⟩
  · rw [if_pos rfl]
    constructor
    · intro h
      have h4 : nI 4 = nI i := h
      rw [nI_inj (by omega) (by omega)] at h4
      omega
    · intro h
      have h9 := congrArg Int32.toInt h
      rw [nI_toInt (by omega)] at h9
      have e9 : (-9 : Int32).toInt = -9 := by decide
      omega
  · rw [if_neg]
    intro h
    have h9 := congrArg Int32.toInt h
    rw [nI_toInt (by omega)] at h9
    have e9 : (-9 : Int32).toInt = -9 := by decide
    omega
theorem nI_m9 {j : Nat} (hj : j < 2147483648) : nI j ≠ -9 := by
  intro h
  have h9 := congrArg Int32.toInt h
  rw [nI_toInt hj] at h9
  have e9 : (-9 : Int32).toInt = -9 := by decide
  omega
theorem C_cnt_loop {b i : Nat} {S : Sg} (hi : i < 4) : ∀ (l : List T4) (t : Nat) (tot : Int32) (fu : Nat), S (b + 1) 4 = nI (t + l.length) → t + l.length ≤ 16 → Rp (ctr b S) t (l.map eo) → (∀ x ∈ l, oR x.2.2.2) → l.length < fu →
    L_X8_countOf_4 b fu S (nI i) tot (nI t) = some (tot + sm (fun x => if x.2.2.2 = nI i then 1 else 0) l, S) := by
  intro l
  induction l with
  | nil =>
    intro t tot fu hc hl hr ho hf
    obtain ⟨f, rfl, -⟩ := fuS hf
    show Lb_X8_countOf_4 b _ S (nI i) tot (nI t) = _
    unfold Lb_X8_countOf_4
    rw [hc, if_pos (by simp)]
    simp [sm]
  | cons a l ih =>
    intro t tot fu hc hl hr ho hf
    obtain ⟨f, rfl, hf⟩ := fuS hf
    simp only [List.length_cons] at hc hl hf
    show Lb_X8_countOf_4 b _ S (nI i) tot (nI t) = _
    unfold Lb_X8_countOf_4
    have h7 : S (b + 7) t = (eo a).2.2.2 := by rw [← hr.1]
    rw [hc, if_neg (by rw [nIle (by omega) (by omega)]; omega)]
    simp (disch := omega) only [gbi_ok, gbl_ok, gbn_ok, gbv_ok, gst_ok, gvi_ok, gvl_ok, at_ok, put_ok, at_4, put_4, at_0, place_ok, h7, nI_s]
    have hoa := ho a List.mem_cons_self
    have hol : ∀ x ∈ l, oR x.2.2.2 := fun x hx => ho x (List.mem_cons_of_mem _ hx)
    have e1 : (eo a).2.2.2 = nI i ↔ a.2.2.2 = nI i := eo_iff hi hoa
    by_cases ha : a.2.2.2 = nI i
    · rw [if_pos (e1.mpr ha)]
      rw [ih (t + 1) (tot + 1) f (by rw [hc]; congr 1; omega) (by omega) hr.2 hol (by omega)]
      simp [sm, ha, add_sm]
    · rw [if_neg (fun h => ha (e1.mp h))]
      rw [ih (t + 1) (tot + 0) f (by rw [hc]; congr 1; omega) (by omega) hr.2 hol (by omega)]
      simp [sm, ha]
def cntT (g : Game) (i : Nat) : Int32 := sm (fun (x : T4) => if x.2.2.2 = nI i then 1 else 0) g.2.1
def lenT (g : Game) (i : Nat) : Int32 := sm (fun (x : T4) => if x.2.2.2 = nI i then x.2.2.1 else 0) g.2.1
def cntC (g : Game) (i : Nat) : Int32 := sm (fun (x : T6) => if x.2.2.2.2.1 = nI i then 1 else 0) g.2.2.2.2
def lvl (g : Game) (i : Nat) : Int32 := sm (fun (x : T2) => x.1) (g.2.2.2.1 i)
/-- lengths, and owners that are known -/
def VL (g : Game) : Prop := g.2.1.length ≤ 16 ∧ (∀ i, i < 4 → (g.2.2.2.1 i).length ≤ 4) ∧ g.2.2.2.2.length ≤ 8 ∧ (∀ x ∈ g.2.1, oR x.2.2.2) ∧ (∀ x ∈ g.2.2.2.2, oR x.2.2.2.2.1)
theorem V.vl {c n : Nat} {g : Game} (h : V c n g) : VL g := ⟨h.2.2.1.1, fun i hi => (h.2.2.2.2.1 i hi).1, h.2.2.2.2.2.1, fun x hx => (h.2.2.1.2 x hx).2.2.2.2, fun x hx => (h.2.2.2.2.2.2 x hx).2.2.2.2.2.1⟩
theorem C_countOf {b i : Nat} {g : Game} {S : Sg} (h : CP b g S) (hv : VL g) (hi : i < 4) : f_X8_countOf b (nI i) S = some (cntT g i, S) := by
  unfold f_X8_countOf
  rw [show (0 : Int32) = nI 0 from rfl, C_cnt_loop hi g.2.1 0 (nI 0) gFu (by rw [h.2.1.1, Nat.zero_add]) (by have := hv.1; omega) h.2.1.2 hv.2.2.2.1 (by have := hv.1; unfold gFu; omega)]
  rw [show nI 0 = 0 from rfl, Int32.zero_add]
  rfl
theorem C_len_loop {b i : Nat} {S : Sg} (hi : i < 4) : ∀ (l : List T4) (t : Nat) (tot : Int32) (fu : Nat), S (b + 1) 4 = nI (t + l.length) → t + l.length ≤ 16 → Rp (ctr b S) t (l.map eo) → (∀ x ∈ l, oR x.2.2.2) → l.length < fu →
    L_X8_lengthsOf_4 b fu S (nI i) tot (nI t) = some (tot + sm (fun x => if x.2.2.2 = nI i then x.2.2.1 else 0) l, S) := by
  intro l
  induction l with
  | nil =>
    intro t tot fu hc hl hr ho hf
    obtain ⟨f, rfl, -⟩ := fuS hf
    show Lb_X8_lengthsOf_4 b _ S (nI i) tot (nI t) = _
    unfold Lb_X8_lengthsOf_4
    rw [hc, if_pos (by simp)]
    simp [sm]
  | cons a l ih =>
    intro t tot fu hc hl hr ho hf
    obtain ⟨f, rfl, hf⟩ := fuS hf
    simp only [List.length_cons] at hc hl hf
    show Lb_X8_lengthsOf_4 b _ S (nI i) tot (nI t) = _
    unfold Lb_X8_lengthsOf_4
    have h7 : S (b + 7) t = (eo a).2.2.2 := by rw [← hr.1]
    have h6 : S (b + 6) t = a.2.2.1 := by
      have := congrArg (fun z : T4 => z.2.2.1) hr.1
      exact this
    rw [hc, if_neg (by rw [nIle (by omega) (by omega)]; omega)]
    simp (disch := omega) only [gbi_ok, gbl_ok, gbn_ok, gbv_ok, gst_ok, gvi_ok, gvl_ok, at_ok, put_ok, at_4, put_4, at_0, place_ok, h7, h6, nI_s]
    have hoa := ho a List.mem_cons_self
    have hol : ∀ x ∈ l, oR x.2.2.2 := fun x hx => ho x (List.mem_cons_of_mem _ hx)
    have e1 : (eo a).2.2.2 = nI i ↔ a.2.2.2 = nI i := eo_iff hi hoa
    by_cases ha : a.2.2.2 = nI i
    · rw [if_pos (e1.mpr ha)]
      rw [ih (t + 1) (tot + a.2.2.1) f (by rw [hc]; congr 1; omega) (by omega) hr.2 hol (by omega)]
      simp [sm, ha, add_sm]
    · rw [if_neg (fun h => ha (e1.mp h))]
      rw [ih (t + 1) (tot + 0) f (by rw [hc]; congr 1; omega) (by omega) hr.2 hol (by omega)]
      simp [sm, ha]
theorem C_lengthsOf {b i : Nat} {g : Game} {S : Sg} (h : CP b g S) (hv : VL g) (hi : i < 4) : f_X8_lengthsOf b (nI i) S = some (lenT g i, S) := by
  unfold f_X8_lengthsOf
  rw [show (0 : Int32) = nI 0 from rfl, C_len_loop hi g.2.1 0 (nI 0) gFu (by rw [h.2.1.1, Nat.zero_add]) (by have := hv.1; omega) h.2.1.2 hv.2.2.2.1 (by have := hv.1; unfold gFu; omega)]
  rw [show nI 0 = 0 from rfl, Int32.zero_add]
  rfl
theorem C_cct_loop {b i : Nat} {S : Sg} : ∀ (l : List T6) (t : Nat) (tot : Int32) (fu : Nat), S (b + 2) 6 = nI (t + l.length) → t + l.length ≤ 8 → Rp (cct b S) t l → l.length < fu →
    L_X1_countOf_4 b fu S (nI i) tot (nI t) = some (tot + sm (fun x => if x.2.2.2.2.1 = nI i then 1 else 0) l, S) := by
  intro l
  induction l with
  | nil =>
    intro t tot fu hc hl hr hf
    obtain ⟨f, rfl, -⟩ := fuS hf
    show Lb_X1_countOf_4 b _ S (nI i) tot (nI t) = _
    unfold Lb_X1_countOf_4
    rw [hc, if_pos (by simp)]
    simp [sm]
  | cons a l ih =>
    intro t tot fu hc hl hr hf
    obtain ⟨f, rfl, hf⟩ := fuS hf
    simp only [List.length_cons] at hc hl hf
    show Lb_X1_countOf_4 b _ S (nI i) tot (nI t) = _
    unfold Lb_X1_countOf_4
    have h7 : S (b + 12) t = a.2.2.2.2.1 := by rw [← hr.1]
    rw [hc, if_neg (by rw [nIle (by omega) (by omega)]; omega)]
    simp (disch := omega) only [gbi_ok, gbl_ok, gbn_ok, gbv_ok, gst_ok, gvi_ok, gvl_ok, at_ok, put_ok, at_4, put_4, at_0, place_ok, h7, nI_s]
    by_cases ha : a.2.2.2.2.1 = nI i
    · rw [if_pos ha]
      rw [ih (t + 1) (tot + 1) f (by rw [hc]; congr 1; omega) (by omega) hr.2 (by omega)]
      simp [sm, ha, add_sm]
    · rw [if_neg ha]
      rw [ih (t + 1) (tot + 0) f (by rw [hc]; congr 1; omega) (by omega) hr.2 (by omega)]
      simp [sm, ha]
theorem C_ccountOf {b i : Nat} {g : Game} {S : Sg} (h : CP b g S) (hv : VL g) : f_X1_countOf b (nI i) S = some (cntC g i, S) := by
  unfold f_X1_countOf
  rw [show (0 : Int32) = nI 0 from rfl, C_cct_loop g.2.2.2.2 0 (nI 0) gFu (by rw [h.2.2.2.2.1, Nat.zero_add]) (by have := hv.2.2.1; omega) h.2.2.2.2.2 (by have := hv.2.2.1; unfold gFu; omega)]
  rw [show nI 0 = 0 from rfl, Int32.zero_add]
  rfl
theorem C_lvl_loop {b i : Nat} {S : Sg} (hi : i < 4) : ∀ (l : List T2) (t : Nat) (tot : Int32) (fu : Nat), S (b + 18) i = nI (t + l.length) → t + l.length ≤ 4 → Rp (ctn b S i) t l → l.length < fu →
    L_X0_levelsOf_4 b fu S (nI i) tot (nI t) = some (tot + sm (fun x => x.1) l, S) := by
  intro l
  induction l with
  | nil =>
    intro t tot fu hc hl hr hf
    obtain ⟨f, rfl, -⟩ := fuS hf
    show Lb_X0_levelsOf_4 b _ S (nI i) tot (nI t) = _
    unfold Lb_X0_levelsOf_4
    simp (disch := omega) only [gbi_ok, gbl_ok, gbn_ok, gbv_ok, gst_ok, gvi_ok, gvl_ok, at_ok, put_ok, at_4, put_4, at_0, place_ok]
    rw [hc, if_pos (by simp)]
    simp [sm]
  | cons a l ih =>
    intro t tot fu hc hl hr hf
    obtain ⟨f, rfl, hf⟩ := fuS hf
    simp only [List.length_cons] at hc hl hf
    show Lb_X0_levelsOf_4 b _ S (nI i) tot (nI t) = _
    unfold Lb_X0_levelsOf_4
    have h7 : S (b + 19) (4 * i + t) = a.1 := by rw [← hr.1]
    simp (disch := omega) only [gbi_ok, gbl_ok, gbn_ok, gbv_ok, gst_ok, gvi_ok, gvl_ok, at_ok, put_ok, at_4, put_4, at_0, place_ok, h7, nI_s]
    rw [hc, if_neg (by rw [nIle (by omega) (by omega)]; omega)]
    rw [ih (t + 1) (tot + a.1) f (by rw [hc]; congr 1; omega) (by omega) hr.2 (by omega)]
    simp [sm, add_sm]
theorem C_levelsOf {b i : Nat} {g : Game} {S : Sg} (h : CP b g S) (hv : VL g) (hi : i < 4) : f_X0_levelsOf b (nI i) S = some (lvl g i, S) := by
  unfold f_X0_levelsOf
  have h1 := h.2.2.2.1 i hi
  have h2 := hv.2.1 i hi
  rw [show (0 : Int32) = nI 0 from rfl, C_lvl_loop hi (g.2.2.2.1 i) 0 (nI 0) gFu (by rw [h1.1, Nat.zero_add]) (by omega) h1.2 (by unfold gFu; omega)]
  rw [show nI 0 = 0 from rfl, Int32.zero_add]
  rfl
