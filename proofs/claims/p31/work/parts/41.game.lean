/-! ===== the game that both sides hold ===== -/
theorem ix_c0 : (0 : Int32).toNatClampNeg = 0 := by decide
theorem gck_c0 {α : Type} {x : Option α} : gck (inb (0 : Int32) 175) x = x := gck_ok (by decide)
theorem ix_c1 : (1 : Int32).toNatClampNeg = 1 := by decide
theorem gck_c1 {α : Type} {x : Option α} : gck (inb (1 : Int32) 175) x = x := gck_ok (by decide)
theorem ix_c2 : (2 : Int32).toNatClampNeg = 2 := by decide
theorem gck_c2 {α : Type} {x : Option α} : gck (inb (2 : Int32) 175) x = x := gck_ok (by decide)
theorem ix_c3 : (3 : Int32).toNatClampNeg = 3 := by decide
theorem gck_c3 {α : Type} {x : Option α} : gck (inb (3 : Int32) 175) x = x := gck_ok (by decide)
theorem ix_c4 : (4 : Int32).toNatClampNeg = 4 := by decide
theorem gck_c4 {α : Type} {x : Option α} : gck (inb (4 : Int32) 175) x = x := gck_ok (by decide)
theorem ix_c5 : (5 : Int32).toNatClampNeg = 5 := by decide
theorem gck_c5 {α : Type} {x : Option α} : gck (inb (5 : Int32) 175) x = x := gck_ok (by decide)
theorem ix_c6 : (6 : Int32).toNatClampNeg = 6 := by decide
theorem gck_c6 {α : Type} {x : Option α} : gck (inb (6 : Int32) 175) x = x := gck_ok (by decide)
theorem ix_c7 : (7 : Int32).toNatClampNeg = 7 := by decide
theorem gck_c7 {α : Type} {x : Option α} : gck (inb (7 : Int32) 175) x = x := gck_ok (by decide)
theorem ix_c8 : (8 : Int32).toNatClampNeg = 8 := by decide
theorem gck_c8 {α : Type} {x : Option α} : gck (inb (8 : Int32) 175) x = x := gck_ok (by decide)
theorem ix_c9 : (9 : Int32).toNatClampNeg = 9 := by decide
theorem gck_c9 {α : Type} {x : Option α} : gck (inb (9 : Int32) 175) x = x := gck_ok (by decide)
theorem ix_c10 : (10 : Int32).toNatClampNeg = 10 := by decide
theorem gck_c10 {α : Type} {x : Option α} : gck (inb (10 : Int32) 175) x = x := gck_ok (by decide)
theorem nIp1 (a : Nat) : nI a + (1 : Int32) = nI (a + 1) := nI_add a 1
theorem nIp2 (a : Nat) : nI a + (2 : Int32) = nI (a + 2) := nI_add a 2
theorem nIp3 (a : Nat) : nI a + (3 : Int32) = nI (a + 3) := nI_add a 3
theorem nIp4 (a : Nat) : nI a + (4 : Int32) = nI (a + 4) := nI_add a 4
theorem nIp5 (a : Nat) : nI a + (5 : Int32) = nI (a + 5) := nI_add a 5
theorem gck_nI {α : Type} {i n : Nat} {x : Option α} (h : i < n) (hn : n < 2147483648) : gck (inb (nI i) n) x = x := gck_ok (inb_ok h (by omega))
abbrev T4 : Type := Int32 × Int32 × Int32 × Int32
abbrev T2 : Type := Int32 × Int32
abbrev T6 : Type := Int32 × Int32 × Int32 × Int32 × Int32 × Int32
/-- numbers (by the page's places); tracks; coins 0, rent 1, rents got 3, bankruptcies 4 of each company; its trains; contracts -/
abbrev Game : Type := (Nat → Int32) × List T4 × (Nat → Nat → Int32) × (Nat → List T2) × List T6
def eo (t : T4) : T4 := (t.1, t.2.1, t.2.2.1, if t.2.2.2 = -9 then 4 else t.2.2.2)
abbrev ctr (b : Nat) (S : Sg) (t : Nat) : T4 := (S (b + 4) t, S (b + 5) t, S (b + 6) t, S (b + 7) t)
abbrev ctn (b : Nat) (S : Sg) (i j : Nat) : T2 := (S (b + 19) (4 * i + j), S (b + 20) (4 * i + j))
abbrev cct (b : Nat) (S : Sg) (k : Nat) : T6 := (S (b + 8) k, S (b + 9) k, S (b + 10) k, S (b + 11) k, S (b + 12) k, S (b + 13) k)
def CSc (b : Nat) (sc : Nat → Int32) (S : Sg) : Prop := S b 3 = sc 0 ∧ S b 4 = sc 3 ∧ S b 5 = sc 4 ∧ S (b + 14) 4 = sc 5 ∧ S (b + 16) 0 + S (b + 16) 1 + S (b + 16) 2 + S (b + 16) 3 + S (b + 16) 4 = sc 6 ∧ S b 6 = sc 7 ∧ S b 7 = sc 8 ∧ S (b + 17) 0 + S (b + 17) 1 + S (b + 17) 2 + S (b + 17) 3 = sc 9 ∧ S b 8 = sc 10 ∧ S (b + 15) 4 = 1
def CTr (b : Nat) (tr : List T4) (S : Sg) : Prop := S (b + 1) 4 = nI tr.length ∧ Rp (ctr b S) 0 (tr.map eo)
def CCo (b : Nat) (co : Nat → Nat → Int32) (S : Sg) : Prop := ∀ i, i < 4 → S (b + 14) i = co i 0 ∧ S (b + 15) i = co i 1 ∧ S (b + 16) i = co i 3 ∧ S (b + 17) i = co i 4
def CTn (b : Nat) (tn : Nat → List T2) (S : Sg) : Prop := ∀ i, i < 4 → S (b + 18) i = nI (tn i).length ∧ Rp (ctn b S i) 0 (tn i)
def CCt (b : Nat) (ct : List T6) (S : Sg) : Prop := S (b + 2) 6 = nI ct.length ∧ Rp (cct b S) 0 ct
/-- the class's State at b holds the game -/
def CP (b : Nat) (g : Game) (S : Sg) : Prop := CSc b g.1 S ∧ CTr b g.2.1 S ∧ CCo b g.2.2.1 S ∧ CTn b g.2.2.2.1 S ∧ CCt b g.2.2.2.2 S
abbrev mtr (r : Nat → Int32) (t : Nat) : T4 := (r (11 + 4 * t), r (11 + 4 * t + 1), r (11 + 4 * t + 2), r (11 + 4 * t + 3))
abbrev mtn (r : Nat → Int32) (i j : Nat) : T2 := (r (95 + 8 * i + 2 * j), r (95 + 8 * i + 2 * j + 1))
abbrev mct (r : Nat → Int32) (k : Nat) : T6 := (r (127 + 6 * k), r (127 + 6 * k + 1), r (127 + 6 * k + 2), r (127 + 6 * k + 3), r (127 + 6 * k + 4), r (127 + 6 * k + 5))
def MSc (sc : Nat → Int32) (r : Nat → Int32) : Prop := r 0 = sc 0 ∧ r 3 = sc 3 ∧ r 4 = sc 4 ∧ r 5 = sc 5 ∧ r 6 = sc 6 ∧ r 7 = sc 7 ∧ r 8 = sc 8 ∧ r 9 = sc 9 ∧ r 10 = sc 10
def MTr (tr : List T4) (r : Nat → Int32) : Prop := r 1 = nI tr.length ∧ Rp (mtr r) 0 tr
def MCo (co : Nat → Nat → Int32) (r : Nat → Int32) : Prop := ∀ i, i < 4 → r (75 + 5 * i) = co i 0 ∧ r (75 + 5 * i + 1) = co i 1 ∧ r (75 + 5 * i + 3) = co i 3 ∧ r (75 + 5 * i + 4) = co i 4
def MTn (tn : Nat → List T2) (r : Nat → Int32) : Prop := ∀ i, i < 4 → r (75 + 5 * i + 2) = nI (tn i).length ∧ Rp (mtn r i) 0 (tn i)
def MCt (ct : List T6) (r : Nat → Int32) : Prop := r 2 = nI ct.length ∧ Rp (mct r) 0 ct
def iR (lo hi : Nat) (x : Int32) : Prop := ∃ k : Nat, lo ≤ k ∧ k ≤ hi ∧ x = nI k
def oR (x : Int32) : Prop := x = -9 ∨ ∃ i : Nat, i < 4 ∧ x = nI i
def VT (c : Nat) (t : T4) : Prop := (∃ a : Nat, a < c ∧ t.1 = nI a) ∧ (∃ a : Nat, a < c ∧ t.2.1 = nI a) ∧ t.1 ≠ t.2.1 ∧ iR 1 9 t.2.2.1 ∧ oR t.2.2.2
def VC (c : Nat) (k : T6) : Prop := (∃ a : Nat, a < c ∧ k.1 = nI a) ∧ (∃ a : Nat, a < c ∧ k.2.1 = nI a) ∧ k.1 ≠ k.2.1 ∧ iR 1 99 k.2.2.1 ∧ iR 1 9 k.2.2.2.1 ∧ oR k.2.2.2.2.1 ∧ iR 0 1 k.2.2.2.2.2
/-- what holds of every game: c cities, at most n bankruptcies of each company -/
def V (c n : Nat) (g : Game) : Prop := (2 ≤ c ∧ c ≤ 9 ∧ g.1 0 = nI c) ∧ iR 1 6 (g.1 3) ∧ (g.2.1.length ≤ 16 ∧ ∀ t ∈ g.2.1, VT c t) ∧ (∀ i, i < 4 → iR 0 9 (g.2.2.1 i 1) ∧ iR 0 n (g.2.2.1 i 4)) ∧ (∀ i, i < 4 → (g.2.2.2.1 i).length ≤ 4 ∧ ∀ x ∈ g.2.2.2.1 i, iR 1 6 x.1 ∧ iR 0 1 x.2) ∧ (g.2.2.2.2.length ≤ 8 ∧ ∀ x ∈ g.2.2.2.2, VC c x)
/-- what a class method on the State at b leaves as it was -/
def Fr (b : Nat) (S S' : Sg) : Prop := ∀ k, (k < b ∨ b + 21 ≤ k) → S' k = S k
theorem Fr.rf {b : Nat} {S : Sg} : Fr b S S := fun _ _ => rfl
theorem Fr.tr {b : Nat} {S S1 S2 : Sg} (h1 : Fr b S S1) (h2 : Fr b S1 S2) : Fr b S S2 := fun k hk => (h2 k hk).trans (h1 k hk)
theorem Fr.u20 {b x : Nat} {v : Int32} {S S1 : Sg} (h : Fr b S S1) : Fr b S (u2 S1 b x v) := fun k hk => by rw [u2_n (by omega)]; exact h k hk
theorem Fr.ux {b j x : Nat} {v : Int32} {S S1 : Sg} (h : Fr b S S1) (hj : j < 21) : Fr b S (u2 S1 (b + j) x v) := fun k hk => by rw [u2_n (by omega)]; exact h k hk
/-- changes of a game -/
def gSc (g : Game) (j : Nat) (v : Int32) : Game := (fun x => if x = j then v else g.1 x, g.2)
def gCo (g : Game) (i f : Nat) (v : Int32) : Game := (g.1, g.2.1, fun a c => if a = i ∧ c = f then v else g.2.2.1 a c, g.2.2.2)
def gTn (g : Game) (i : Nat) (l : List T2) : Game := (g.1, g.2.1, g.2.2.1, fun a => if a = i then l else g.2.2.2.1 a, g.2.2.2.2)
def gTr (g : Game) (l : List T4) : Game := (g.1, l, g.2.2)
def gCt (g : Game) (l : List T6) : Game := (g.1, g.2.1, g.2.2.1, g.2.2.2.1, l)
def gBank (g : Game) (i : Nat) (x : Int32) : Game := gSc (gCo g i 0 (g.2.2.1 i 0 - x)) 5 (g.1 5 + x)
theorem CTr_fr {b : Nat} {tr : List T4} {S S' : Sg} (h : CTr b tr S) (e1 : S' (b + 1) = S (b + 1)) (e4 : S' (b + 4) = S (b + 4)) (e5 : S' (b + 5) = S (b + 5)) (e6 : S' (b + 6) = S (b + 6)) (e7 : S' (b + 7) = S (b + 7)) : CTr b tr S' :=
  ⟨by rw [e1]; exact h.1, Rp_congr (fun t _ _ => by simp only [ctr, e4, e5, e6, e7]) h.2⟩
theorem CCo_fr {b : Nat} {co : Nat → Nat → Int32} {S S' : Sg} (h : CCo b co S) (e4 : ∀ i, i < 4 → S' (b + 14) i = S (b + 14) i) (e5 : S' (b + 15) = S (b + 15)) (e6 : S' (b + 16) = S (b + 16)) (e7 : S' (b + 17) = S (b + 17)) : CCo b co S' :=
  fun i hi => by rw [e4 i hi, e5, e6, e7]; exact h i hi
theorem CTn_fr {b : Nat} {tn : Nat → List T2} {S S' : Sg} (h : CTn b tn S) (e8 : S' (b + 18) = S (b + 18)) (e9 : S' (b + 19) = S (b + 19)) (e0 : S' (b + 20) = S (b + 20)) : CTn b tn S' :=
  fun i hi => ⟨by rw [e8]; exact (h i hi).1, Rp_congr (fun t _ _ => by simp only [ctn, e9, e0]) (h i hi).2⟩
theorem CCt_fr {b : Nat} {ct : List T6} {S S' : Sg} (h : CCt b ct S) (e2 : S' (b + 2) = S (b + 2)) (e8 : S' (b + 8) = S (b + 8)) (e9 : S' (b + 9) = S (b + 9)) (e10 : S' (b + 10) = S (b + 10)) (e11 : S' (b + 11) = S (b + 11)) (e12 : S' (b + 12) = S (b + 12)) (e13 : S' (b + 13) = S (b + 13)) : CCt b ct S' :=
  ⟨by rw [e2]; exact h.1, Rp_congr (fun t _ _ => by simp only [cct, e8, e9, e10, e11, e12, e13]) h.2⟩
theorem MTr_fr {tr : List T4} {r r' : Nat → Int32} (h : MTr tr r) (hl : tr.length ≤ 16) (e : r' 1 = r 1) (e2 : ∀ x, 11 ≤ x → x < 75 → r' x = r x) : MTr tr r' :=
  ⟨by rw [e]; exact h.1, Rp_congr (fun t _ ht => by simp (disch := omega) only [mtr, e2]) h.2⟩
theorem MCo_fr {co : Nat → Nat → Int32} {r r' : Nat → Int32} (h : MCo co r) (e : ∀ i, i < 4 → r' (75 + 5 * i) = r (75 + 5 * i) ∧ r' (75 + 5 * i + 1) = r (75 + 5 * i + 1) ∧ r' (75 + 5 * i + 3) = r (75 + 5 * i + 3) ∧ r' (75 + 5 * i + 4) = r (75 + 5 * i + 4)) : MCo co r' :=
  fun i hi => by rw [(e i hi).1, (e i hi).2.1, (e i hi).2.2.1, (e i hi).2.2.2]; exact h i hi
theorem MTn_fr {tn : Nat → List T2} {r r' : Nat → Int32} (h : MTn tn r) (hl : ∀ i, i < 4 → (tn i).length ≤ 4) (e : ∀ i, i < 4 → r' (75 + 5 * i + 2) = r (75 + 5 * i + 2)) (e2 : ∀ x, 95 ≤ x → x < 127 → r' x = r x) : MTn tn r' :=
  fun i hi => ⟨by rw [e i hi]; exact (h i hi).1, Rp_congr (fun t _ ht => by have := hl i hi; simp (disch := omega) only [mtn, e2]) (h i hi).2⟩
theorem MCt_fr {ct : List T6} {r r' : Nat → Int32} (h : MCt ct r) (hl : ct.length ≤ 8) (e : r' 2 = r 2) (e2 : ∀ x, 127 ≤ x → x < 175 → r' x = r x) : MCt ct r' :=
  ⟨by rw [e]; exact h.1, Rp_congr (fun t _ ht => by simp (disch := omega) only [mct, e2]) h.2⟩
theorem C_toBank {b i : Nat} {x : Int32} {g : Game} {S : Sg} (h : CP b g S) (hi : i < 4) : ∃ S', f_X0_transfer b (nI i) 4 x S = some S' ∧ CP b (gBank g i x) S' ∧ Fr b S S' := by
  refine ⟨_, transfer_ok (i := i) (j := 4) (by omega) (by omega) (by omega), ?_, ((Fr.rf).ux (by omega)).ux (by omega)⟩
  obtain ⟨hSc, hTr, hCo, hTn, hCt⟩ := h
  refine ⟨?_, ?_, ?_, ?_, ?_⟩
  · unfold CSc at hSc ⊢
    simp (disch := omega) only [u2_eq, u2_ni, u2_nr]
    simp [gBank, gSc, gCo, hSc]
  · apply CTr_fr hTr <;> simp (disch := omega) only [u2_n]
  · intro j hj
    have h1 := hCo j hj
    by_cases e : j = i
    · subst e
      simp (disch := omega) only [u2_eq, u2_ni, u2_nr]
      simp [gBank, gSc, gCo, h1]
    · simp (disch := omega) only [u2_eq, u2_ni, u2_nr]
      simp [gBank, gSc, gCo, h1, e]
  · apply CTn_fr hTn <;> simp (disch := omega) only [u2_n]
  · apply CCt_fr hCt <;> simp (disch := omega) only [u2_n]
theorem V_bank {c n i : Nat} {x : Int32} {g : Game} (h : V c n g) : V c n (gBank g i x) := by
  obtain ⟨h1, h2, h3, h4, h5, h6⟩ := h
  refine ⟨?_, ?_, h3, ?_, h5, h6⟩
  · simpa [gBank, gSc, gCo] using h1
  · simpa [gBank, gSc, gCo] using h2
  · intro j hj
    have := h4 j hj
    simpa [gBank, gSc, gCo] using this

