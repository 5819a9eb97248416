/-! ===== LAYER 2: the programs alone. Basics ===== -/
theorem gbi_ok {α : Type} {v : Int32} {s : Sg} {k : Int32 → Sg → Option α} : gbi (some (v, s)) k = k v s := rfl
theorem gbl_ok {α : Type} {v : Int64} {s : Sg} {k : Int64 → Sg → Option α} : gbl (some (v, s)) k = k v s := rfl
theorem gbn_ok {α : Type} {v : Nat} {s : Sg} {k : Nat → Sg → Option α} : gbn (some (v, s)) k = k v s := rfl
theorem gbv_ok {α : Type} {s : Sg} {k : Sg → Option α} : gbv (some s) k = k s := rfl
theorem gbx_ok {v : Int32} {s : Sg} {k : Int32 → Sg → Option (Nat × Int32 × Sg)} : gbx (some (0, v, s)) k = k v s := rfl
theorem gbx_er {j : Nat} {v : Int32} {s : Sg} {k : Int32 → Sg → Option (Nat × Int32 × Sg)} : gbx (some (j + 1, v, s)) k = some (j + 1, 0, s) := rfl
theorem gst_ok {α : Type} {x : Sg} {k : Sg → Option α} : gst x k = k x := rfl
theorem gvi_ok {α : Type} {x : Int32} {k : Int32 → Option α} : gvi x k = k x := rfl
theorem gvl_ok {α : Type} {x : Int64} {k : Int64 → Option α} : gvl x k = k x := rfl
theorem gck_ok {α : Type} {b : Bool} {x : Option α} (h : b = true) : gck b x = x := by unfold gck; rw [if_pos h]
theorem inb_ok {i n : Nat} (h : i < n) (hn : i < 2147483648) : inb (nI i) n = true := by
  unfold inb
  rw [nI_clamp hn]
  simp [nI_pos' hn, h]
theorem nI_c {n : Nat} (h : n < 2147483648) : (nI n).toNatClampNeg = n := nI_clamp h
theorem nI_inj {a b : Nat} (ha : a < 2147483648) (hb : b < 2147483648) : nI a = nI b ↔ a = b := nI_eq ha hb
theorem nIle {a b : Nat} (ha : a < 2147483648) (hb : b < 2147483648) : nI a ≤ nI b ↔ a ≤ b := nI_leI ha hb
theorem nIlt {a b : Nat} (ha : a < 2147483648) (hb : b < 2147483648) : nI a < nI b ↔ a < b := nI_ltI ha hb
theorem nI_s (a : Nat) : nI a + 1 = nI (a + 1) := nI_1 a
theorem nI_ng {n : Nat} (h : n < 2147483648) : ¬ nI n < 0 := nI_pos h
theorem u2_eq {S : Sg} {k j : Nat} {v : Int32} : u2 S k j v k j = v := by rw [u2_s]; simp [upd]
theorem u2_ni {S : Sg} {k j x : Nat} {v : Int32} (h : x ≠ j) : u2 S k j v k x = S k x := by rw [u2_s]; simp [upd, h]
theorem u2_nr {S : Sg} {k j a x : Nat} {v : Int32} (h : a ≠ k) : u2 S k j v a x = S a x := by rw [u2_n h]
theorem u2_ap {S : Sg} {k j a x : Nat} {v : Int32} : u2 S k j v a x = if a = k ∧ x = j then v else S a x := by
  by_cases h : a = k
  · subst h
    rw [u2_s]
    by_cases h2 : x = j <;> simp [upd, h2]
  · simp [u2_n h, h]
theorem uR_nr {S : Sg} {k a x : Nat} {r : Nat → Int32} (h : a ≠ k) : uR S k r a x = S a x := by rw [uR_n h]
theorem upd_eq {f : Nat → Int32} {k : Nat} {v : Int32} : upd f k v k = v := by simp [upd]
theorem upd_ne {f : Nat → Int32} {k j : Nat} {v : Int32} (h : j ≠ k) : upd f k v j = f j := by simp [upd, h]
/-- a list told by a row, from place o on -/
def Rp {α : Type} (g : Nat → α) : Nat → List α → Prop
  | _, [] => True
  | o, a :: l => g o = a ∧ Rp g (o + 1) l
theorem Rp_get {α : Type} {g : Nat → α} {l : List α} : ∀ {o k : Nat} {a : α}, Rp g o l → l[k]? = some a → g (o + k) = a := by
  induction l with
  | nil => intro o k a _ h; simp at h
  | cons x l ih =>
    intro o k a hr h
    cases k with
    | zero => simp at h; rw [Nat.add_zero, hr.1, h]
    | succ k =>
      simp at h
      have h1 := ih hr.2 h
      rw [← h1]
      congr 1
      omega
theorem Rp_get0 {α : Type} {g : Nat → α} {l : List α} {k : Nat} {a : α} (h : Rp g 0 l) (hk : l[k]? = some a) : g k = a := by
  have := Rp_get h hk
  rwa [Nat.zero_add] at this
theorem Rp_of {α : Type} {g : Nat → α} {l : List α} : ∀ {o : Nat}, (∀ k a, l[k]? = some a → g (o + k) = a) → Rp g o l := by
  induction l with
  | nil => intro o _; trivial
  | cons x l ih =>
    intro o h
    refine ⟨by have := h 0 x (by simp); rwa [Nat.add_zero] at this, ih (fun k a hk => ?_)⟩
    have := h (k + 1) a (by simpa using hk)
    rw [← this]
    congr 1
    omega
theorem Rp_congr {α : Type} {g g' : Nat → α} {l : List α} : ∀ {o : Nat}, (∀ x, o ≤ x → x < o + l.length → g' x = g x) → Rp g o l → Rp g' o l := by
  induction l with
  | nil => intro o _ _; trivial
  | cons x l ih =>
    intro o h hr
    refine ⟨by rw [h o (Nat.le_refl _) (by simp)]; exact hr.1, ih (fun y h1 h2 => h y (by omega) (by simp at h2 ⊢; omega)) hr.2⟩
theorem Rp_app {α : Type} {g : Nat → α} {l l' : List α} : ∀ {o : Nat}, Rp g o (l ++ l') ↔ Rp g o l ∧ Rp g (o + l.length) l' := by
  induction l with
  | nil => intro o; simp [Rp]
  | cons x l ih =>
    intro o
    simp only [List.cons_append, Rp, ih, List.length_cons]
    rw [show o + 1 + l.length = o + (l.length + 1) by omega]
    exact and_assoc.symm
theorem Rp_set {α : Type} {g g' : Nat → α} {l : List α} {k : Nat} {a : α} (h : Rp g 0 l) (hk : g' k = a) (ho : ∀ x, x < l.length → x ≠ k → g' x = g x) : Rp g' 0 (l.set k a) := by
  refine Rp_of (fun i x hi => ?_)
  rw [Nat.zero_add]
  rw [List.getElem?_set] at hi
  by_cases e : k = i
  · subst e
    rw [if_pos rfl] at hi
    split at hi
    · cases hi; exact hk
    · cases hi
  · rw [if_neg e] at hi
    have hl : i < l.length := (List.getElem?_eq_some_iff.mp hi).1
    rw [ho i hl (fun e2 => e e2.symm)]
    exact Rp_get0 h hi
theorem Rp_push {α : Type} {g g' : Nat → α} {l : List α} {a : α} (h : Rp g 0 l) (hk : g' l.length = a) (ho : ∀ x, x < l.length → g' x = g x) : Rp g' 0 (l ++ [a]) :=
  Rp_app.mpr ⟨Rp_congr (fun x _ h2 => ho x (by omega)) h, by rw [Nat.zero_add]; exact hk, trivial⟩
theorem Rp_map {α β : Type} {g : Nat → α} {f : α → β} {l : List α} : ∀ {o : Nat}, Rp g o l → Rp (fun x => f (g x)) o (l.map f) := by
  induction l with
  | nil => intro o _; trivial
  | cons x l ih => intro o h; exact ⟨by show f (g o) = f x; rw [h.1], ih h.2⟩
/-- sums of whole numbers -/
def sm {α : Type} (f : α → Int32) : List α → Int32
  | [] => 0
  | a :: l => f a + sm f l
theorem getD_some {α : Type} {l : List α} {k : Nat} {d a : α} (h : l[k]? = some a) : l.getD k d = a := by
  rw [List.getD_eq_getElem?_getD, h]; rfl
theorem some_of_lt {α : Type} {l : List α} {k : Nat} (h : k < l.length) : ∃ a, l[k]? = some a := ⟨l[k], List.getElem?_eq_getElem h⟩
/-- rows of the class: read and written -/
theorem at_ok {k n i : Nat} {S : Sg} (h : i < n) (hn : n < 2147483648) : f_X10_at k n (nI i) S = some (S k i, S) := by
  have hi : i < 2147483648 := by omega
  unfold f_X10_at
  rw [if_neg (nI_ng hi), if_neg (by rw [nIle hn hi]; omega), gck_ok (inb_ok h hi), nI_c hi]
theorem at_out {k n i : Nat} {S : Sg} (h : n ≤ i) (hi : i < 2147483648) : f_X10_at k n (nI i) S = some (0, S) := by
  unfold f_X10_at
  rw [if_neg (nI_ng hi), if_pos (by rw [nIle (by omega) hi]; exact h)]
theorem at_neg {k n : Nat} {x : Int32} {S : Sg} (h : x < 0) : f_X10_at k n x S = some (0, S) := by
  unfold f_X10_at
  rw [if_pos h]
theorem put_ok {k n i : Nat} {v : Int32} {S : Sg} (h : i < n) (hn : n < 2147483648) : f_X10_put k n (nI i) v S = some (u2 S k i v) := by
  have hi : i < 2147483648 := by omega
  unfold f_X10_put
  rw [if_neg (nI_ng hi), if_neg (by rw [nIle hn hi]; omega), gck_ok (inb_ok h hi), nI_c hi]
  rfl
theorem at_4 {k n : Nat} {S : Sg} (h : 4 < n) (hn : n < 2147483648) : f_X10_at k n 4 S = some (S k 4, S) := at_ok (i := 4) h hn
theorem at_0 {k n : Nat} {S : Sg} (h : 0 < n) (hn : n < 2147483648) : f_X10_at k n 0 S = some (S k 0, S) := at_ok (i := 0) h hn
theorem put_4 {k n : Nat} {v : Int32} {S : Sg} (h : 4 < n) (hn : n < 2147483648) : f_X10_put k n 4 v S = some (u2 S k 4 v) := put_ok (i := 4) h hn
theorem place_ok {i j : Nat} {S : Sg} : f_X0_place (nI i) (nI j) S = some (nI (4 * i + j), S) := by
  unfold f_X0_place
  rw [show (4 : Int32) = nI 4 from rfl, pk_mul, nI_add, Nat.mul_comm]
theorem transfer_ok {b i j : Nat} {x : Int32} {S : Sg} (hi : i < 5) (hj : j < 5) (hij : i ≠ j) : f_X0_transfer b (nI i) (nI j) x S = some (u2 (u2 S (b + 14) i (S (b + 14) i - x)) (b + 14) j (S (b + 14) j + x)) := by
  unfold f_X0_transfer
  simp (disch := omega) only [at_ok, put_ok, gbi_ok, gbv_ok, u2_ni]
theorem transfer_self {b i : Nat} {x : Int32} {S : Sg} (hi : i < 5) : f_X0_transfer b (nI i) (nI i) x S = some (u2 (u2 S (b + 14) i (S (b + 14) i - x)) (b + 14) i (S (b + 14) i - x + x)) := by
  unfold f_X0_transfer
  simp (disch := omega) only [at_ok, put_ok, gbi_ok, gbv_ok, u2_eq]
/-- the loop that fills a row -/
theorem fill_loop {k n : Nat} (hn : n < 2147483648) (v : Int32) : ∀ (m i : Nat) (S : Sg) (fu : Nat), i + m = n → m < fu → ∃ S', L_X10_fill_2 k n fu S v (nI i) = some S' ∧ (∀ a, a ≠ k → S' a = S a) ∧ (∀ x, i ≤ x → x < n → S' k x = v) ∧ (∀ x, x < i → S' k x = S k x) := by
  intro m
  induction m with
  | zero =>
    intro i S fu h hf
    obtain ⟨fu, rfl⟩ : ∃ f, fu = f + 1 := ⟨fu - 1, by omega⟩
    refine ⟨S, ?_, fun _ _ => rfl, fun x h1 h2 => by omega, fun _ _ => rfl⟩
    show Lb_X10_fill_2 k n _ S v (nI i) = _
    unfold Lb_X10_fill_2
    rw [if_pos (by rw [nIle (by omega) (by omega)]; omega)]
  | succ m ih =>
    intro i S fu h hf
    obtain ⟨fu, rfl⟩ : ∃ f, fu = f + 1 := ⟨fu - 1, by omega⟩
    obtain ⟨S', h1, h2, h3, h4⟩ := ih (i + 1) (u2 S k i v) fu (by omega) (by omega)
    refine ⟨S', ?_, fun a ha => by rw [h2 a ha, u2_n ha], fun x hx hx2 => ?_, fun x hx => by rw [h4 x (by omega), u2_ni (by omega)]⟩
    · show Lb_X10_fill_2 k n _ S v (nI i) = _
      unfold Lb_X10_fill_2
      rw [if_neg (by rw [nIle (by omega) (by omega)]; omega), gck_ok (inb_ok (by omega) (by omega)), gst_ok, gvi_ok, nI_c (by omega), nI_s]
      exact h1
    · rcases Nat.lt_or_ge i x with h5 | h5
      · exact h3 x h5 hx2
      · have : x = i := by omega
        subst this
        rw [h4 x (by omega), u2_eq]
theorem fill_ok {k n : Nat} (hn : n < 4096) (v : Int32) (S : Sg) : ∃ S', f_X10_fill k n v S = some S' ∧ (∀ a, a ≠ k → S' a = S a) ∧ ∀ x, x < n → S' k x = v := by
  obtain ⟨S', h1, h2, h3, -⟩ := fill_loop (k := k) (n := n) (by omega) v n 0 S gFu (by omega) hn
  exact ⟨S', h1, h2, fun x hx => h3 x (Nat.zero_le _) hx⟩

