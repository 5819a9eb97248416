/-! ===== each action keeps it ===== -/
theorem nI_ti {n : Nat} (h : n < 2147483648) : (nI n).toInt = (n : Int) := Int32.toInt_ofNat_of_lt (by omega)
theorem CB_pay {n p i : Nat} {o : Int32} {g : Game} (h : CBd n g) (hp : p ≤ 1000) (hi : i < 4) (ho : oR o) (hn : n ≤ 1000000000) : CBd (n + 2 * p) (gPay g i o (nI p)) := by
  have hx : (nI p).toInt = (p : Int) := nI_ti (by omega)
  have h1 : CBd (n + p) (gPay1 g o (nI p)) := by
    rcases ho with rfl | ⟨k, hk, rfl⟩
    · exact CB_mono h (by omega)
    · intro j hj
      have h9 : nI k ≠ -9 := nI_m9 (by omega)
      have ek : (nI k).toNatClampNeg = k := nI_c (by omega)
      have hj1 := h j hj
      have e : (gPay1 g (nI k) (nI p)).2.2.1 j 0 = if j = k then g.2.2.1 j 0 + nI p else g.2.2.1 j 0 := by
        simp only [gPay1, if_neg h9, ek, gCo]
        by_cases q : j = k
        · subst q; simp
        · simp [q]
      rw [e]
      split
      · rw [ti_add rfl hx (by omega) (by omega)]
        omega
      · omega
  intro j hj
  have hj1 := h1 j hj
  have e : (gPay g i o (nI p)).2.2.1 j 0 = if j = i then (gPay1 g o (nI p)).2.2.1 j 0 - nI p else (gPay1 g o (nI p)).2.2.1 j 0 := by
    simp only [gPay, gSc, gCo]
    by_cases q : j = i
    · subst q; simp
    · simp [q]
  rw [e]
  split
  · rw [ti_sub rfl hx (by omega) (by omega)]
    omega
  · omega
theorem CB_path {c m i : Nat} {g0 : Game} (hV : V c m g0) (hi : i < 4) : ∀ (l : List Nat) (g : Game) (n : Nat), n + 162 * l.length ≤ 1000000000 → CBd n g → CBd (n + 162 * l.length) (gPath g0 i l g) := by
  intro l
  induction l with
  | nil => intro g n _ h; exact h
  | cons t l ih =>
    intro g n hn h
    simp only [List.length_cons] at hn ⊢
    unfold gPath
    cases ha : g0.2.1[t]? with
    | none => exact CB_mono (ih g n (by omega) h) (by omega)
    | some a =>
      obtain ⟨p, hp, ep⟩ := prc_v (i := i) hV (mem_get ha)
      show CBd _ (gPath g0 i l (gPay g i a.2.2.2 (prc g0 i a)))
      rw [ep]
      have h2 := CB_mono (CB_pay (p := p) h (by omega) hi ((hV.2.2.1.2 a (mem_get ha)).2.2.2.2) (by omega)) (show n + 2 * p ≤ n + 162 by omega)
      exact CB_mono (ih _ _ (by omega) h2) (by omega)
theorem CB_mail {n k i : Nat} {x : Int32} {g : Game} (h : CBd n g) (hx : -(k : Int) ≤ x.toInt ∧ x.toInt ≤ k) (hn : n + k < 2147483648) : CBd (n + k) (gMail g i x) := by
  intro j hj
  have h1 := h j hj
  have e : (gMail g i x).2.2.1 j 0 = if j = i then g.2.2.1 j 0 + x else g.2.2.1 j 0 := by
    simp only [gMail, gSc, gCo]
    by_cases q : j = i
    · subst q; simp
    · simp [q]
  rw [e]
  split
  · rw [ti_add rfl rfl (by omega) (by omega)]
    omega
  · omega
theorem lvl_v : ∀ (l : List T2), (∀ x ∈ l, iR 1 6 x.1) → ∃ q, q ≤ 6 * l.length ∧ sm (fun (x : T2) => x.1) l = nI q := by
  intro l
  induction l with
  | nil => intro _; exact ⟨0, Nat.le_refl _, nI_0.symm⟩
  | cons x l ih =>
    intro h
    obtain ⟨q, h1, h2⟩ := ih (fun y hy => h y (List.mem_cons_of_mem _ hy))
    obtain ⟨k, k1, k2, k3⟩ := h x List.mem_cons_self
    refine ⟨k + q, by simp only [List.length_cons]; omega, ?_⟩
    show x.1 + sm _ l = _
    rw [h2, k3, nI_add]
theorem up_v {c m i : Nat} {g : Game} (hV : V c m g) (hi : i < 4) : ∃ q, q ≤ 40 ∧ cntT g i + lvl g i = nI q := by
  obtain ⟨-, -, ⟨hT, -⟩, -, ht, -⟩ := hV
  obtain ⟨a, a1, a2, -⟩ := sm_cnt (P := fun (x : T4) => x.2.2.2 = nI i) g.2.1
  obtain ⟨b, b1, b2⟩ := lvl_v (g.2.2.2.1 i) (fun x hx => ((ht i hi).2 x hx).1)
  have := (ht i hi).1
  refine ⟨a + b, by omega, ?_⟩
  show sm (fun (x : T4) => if x.2.2.2 = nI i then (1 : Int32) else 0) g.2.1 + sm (fun (x : T2) => x.1) (g.2.2.2.1 i) = _
  rw [a2, b2, nI_add]
theorem CB_ups {c m' : Nat} : ∀ (m i : Nat) (g : Game) (n : Nat), i + m ≤ 4 → n ≤ 1000000000 → V c m' g → CBd n g → CBd (n + 40 * m) (ups g i m) := by
  intro m
  induction m with
  | zero => intro i g n _ _ _ h; exact h
  | succ m ih =>
    intro i g n him hn hV h
    obtain ⟨q, hq, e⟩ := up_v hV (show i < 4 by omega)
    show CBd _ (ups (gBank g i (cntT g i + lvl g i)) (i + 1) m)
    rw [e]
    have h2 := CB_mono (CB_bank (k := 40) (x := nI q) (i := i) h (by rw [nI_ti (by omega)]; omega) (by omega)) (Nat.le_refl _)
    have h3 : ∀ n', n' = n + 40 → n' ≤ 1000000000 + 160 := fun n' hn' => by omega
    by_cases hb : n + 40 ≤ 1000000000
    · exact CB_mono (ih (i + 1) _ (n + 40) (by omega) hb (V_bank hV) h2) (by omega)
    · -- near the bound: by steps of the same kind, with room to spare
      have hm : m ≤ 3 := by omega
      clear ih
      have key : ∀ (m i : Nat) (g : Game) (n : Nat), i + m ≤ 4 → n ≤ 1000000000 + 40 * (4 - m) → V c m' g → CBd n g → CBd (n + 40 * m) (ups g i m) := by
        intro m
        induction m with
        | zero => intro i g n _ _ _ h; exact h
        | succ m ih =>
          intro i g n him hn hV h
          obtain ⟨q, hq, e⟩ := up_v hV (show i < 4 by omega)
          show CBd _ (ups (gBank g i (cntT g i + lvl g i)) (i + 1) m)
          rw [e]
          have h2 := CB_mono (CB_bank (k := 40) (x := nI q) (i := i) h (by rw [nI_ti (by omega)]; omega) (by omega)) (Nat.le_refl _)
          exact CB_mono (ih (i + 1) _ (n + 40) (by omega) (by omega) (V_bank hV) h2) (by omega)
      exact CB_mono (key m (i + 1) _ (n + 40) (by omega) (by omega) (V_bank hV) h2) (by omega)
theorem CB_fine {n : Nat} {g : Game} {x : T6} (h : CBd n g) (hn : n ≤ 2000000000) : CBd (n + 5) (gFine g x) := by
  unfold gFine
  split
  · exact CB_mono h (by omega)
  · split
    · exact CB_co (CB_bank (k := 5) (i := x.2.2.2.2.1.toNatClampNeg) (x := 5) h (by decide) (by omega)) (fun _ => rfl)
    · exact CB_mono h (by omega)
theorem CB_fold : ∀ (l : List T6) (n : Nat) (g : Game), n + 5 * l.length ≤ 2000000000 → CBd n g → CBd (n + 5 * l.length) (l.foldl gFine g) := by
  intro l
  induction l with
  | nil => intro n g _ h; exact h
  | cons x l ih =>
    intro n g hn h
    simp only [List.length_cons] at hn ⊢
    exact CB_mono (ih (n + 5) (gFine g x) (by omega) (CB_fine h (by omega))) (by omega)
theorem br2_co0 {g : Game} {i j : Nat} : (gBr2 g i).2.2.1 j 0 = if j = i then 0 else g.2.2.1 j 0 := by
  show (if j = i ∧ 0 = 4 then _ else if j = i ∧ 0 = 0 then g.2.2.1 i 0 - g.2.2.1 i 0 else g.2.2.1 j 0) = _
  rw [if_neg (by omega)]
  by_cases e : j = i
  · rw [if_pos ⟨e, rfl⟩, if_pos e, Int32.sub_self]
  · rw [if_neg (fun q => e q.1), if_neg e]
theorem CB_st {n : Nat} : ∀ (m i : Nat) (g : Game), CBd n g → CBd n (gSt g i m) := by
  intro m
  induction m with
  | zero => intro i g h; exact h
  | succ m ih =>
    intro i g h
    show CBd n (gSt (if 0 ≤ g.2.2.1 i 0 then g else gBr2 g i) (i + 1) m)
    split
    · exact ih _ _ h
    · refine ih _ _ (fun j hj => ?_)
      have := h j hj
      rw [br2_co0]
      split
      · rw [show (0 : Int32).toInt = 0 from by decide]; omega
      · exact this
theorem CB_ct {n : Nat} {g : Game} {l : List T6} (h : CBd n g) : CBd n (gCt g l) := CB_co h (fun _ => rfl)
theorem CB_zr {n : Nat} {g : Game} {v : Int32} (h : CBd n g) : CBd n (gZr (gSc g 4 v)) := CB_co h (fun _ => rfl)
theorem CB_end {c m n : Nat} {g : Game} (hV : V c m g) (h : CBd n g) (hn : n ≤ 900000000) : CBd (n + 200) (gEnd g) := by
  have hl := hV.2.2.2.2.2.1
  have h1 := CB_fold g.2.2.2.2 n g (by omega) h
  have h2 : CBd (n + 40) (gServe g) := by
    unfold gServe
    exact CB_mono (CB_ct h1) (by omega)
  have h3 := CB_ups 4 0 (gServe g) (n + 40) (by omega) (by omega) (V_serve hV) h2
  unfold gEnd gSet gMid
  exact CB_zr (CB_mono (CB_st 4 0 _ h3) (show n + 40 + 40 * 4 ≤ n + 200 by omega))
theorem Wf_mono {n n' : Nat} {g : Game} (h : Wf n g) (hn : n ≤ n') : Wf n' g := by
  obtain ⟨h1, h2, h3, h4, h5, h6, h7⟩ := h
  exact ⟨h1, h2, RB_mono h3 hn, FB_mono h4 hn, h5, h6, CB_mono h7 hn⟩
theorem Wf_sellT {c m n i t : Nat} {a : T4} {g : Game} (hV : V c m g) (h : Wf n g) (hi : i < 4) (ht : g.2.1[t]? = some a) (hn : n ≤ 800000000) : Wf (n + 5000) (gSellT g i t a) := by
  obtain ⟨h1, h2, h3, h4, h5, h6, h7⟩ := h
  obtain ⟨l, l1, l9, el⟩ := (hV.2.2.1.2 a (mem_get ht)).2.2.2.1
  have hx : (3 * a.2.2.1).toInt = ((3 * l : Nat) : Int) := by rw [el, show (3 : Int32) = nI 3 from rfl, pk_mul, nI_ti (by omega)]
  exact ⟨(cs_bank hi).trans h1, bs_bank.trans h2, RB_mono (RB_co (RB_bank h3) rfl (fun _ => rfl)) (by omega), FB_mono (FB_8 h4 rfl) (by omega), TL_eq h5 rfl rfl, RH_ct h6 rfl, CB_mono (CB_co (CB_bank (k := 27) (i := i) (x := 3 * a.2.2.1) h7 (by omega) (by omega)) (fun _ => rfl)) (by omega)⟩
theorem Wf_sellN {c m n i l : Nat} {g : Game} (hV : V c m g) (h : Wf n g) (hi : i < 4) (hm : mayN g i (nI l) = true) (hl1 : 1 ≤ l) (hl6 : l ≤ 6) (hn : n ≤ 800000000) : Wf (n + 5000) (gSellN g i (nI l)) := by
  obtain ⟨h1, h2, h3, h4, h5, h6, h7⟩ := h
  have hx : (20 * nI l).toInt = ((20 * l : Nat) : Int) := by rw [show (20 : Int32) = nI 20 from rfl, pk_mul, nI_ti (by omega)]
  have hT := TL_sellN hV h5 hm hl1 hl6
  have e5 : (gSellN g i (nI l)).1 5 = (gBank g i (20 * nI l)).1 5 := by unfold gSellN; split <;> rfl
  have e9 : (gSellN g i (nI l)).1 9 = (gBank g i (20 * nI l)).1 9 := by unfold gSellN; split <;> rfl
  have e6 : (gSellN g i (nI l)).1 6 = (gBank g i (20 * nI l)).1 6 := by unfold gSellN; split <;> rfl
  have e8 : (gSellN g i (nI l)).1 8 = (gBank g i (20 * nI l)).1 8 := by unfold gSellN; split <;> rfl
  have ec : (gSellN g i (nI l)).2.2.1 = (gBank g i (20 * nI l)).2.2.1 := by unfold gSellN; split <;> rfl
  have ek : (gSellN g i (nI l)).2.2.2.2 = g.2.2.2.2 := by unfold gSellN; split <;> rfl
  exact ⟨(cs_co e5 (fun _ => by rw [ec])).trans ((cs_bank hi).trans h1), (bs_co e9 (fun _ => by rw [ec])).trans (bs_bank.trans h2), RB_mono (RB_co (RB_bank h3) e6 (fun _ => by rw [ec])) (by omega), FB_mono (FB_8 h4 e8) (by omega), hT, RH_ct h6 ek, CB_mono (CB_co (CB_bank (k := 120) (i := i) (x := 20 * nI l) h7 (by omega) (by omega)) (fun _ => by rw [ec])) (by omega)⟩
theorem Wf_rent {n i : Nat} {v : Int32} {g : Game} (h : Wf n g) : Wf (n + 5000) (gCo g i 1 v) := by
  obtain ⟨h1, h2, h3, h4, h5, h6, h7⟩ := h
  have e : ∀ (j f : Nat), f ≠ 1 → (gCo g i 1 v).2.2.1 j f = g.2.2.1 j f := fun j f hf => by
    show (if j = i ∧ f = 1 then v else g.2.2.1 j f) = _
    rw [if_neg (fun q => hf q.2)]
  exact ⟨(cs_co (g := g) (g' := gCo g i 1 v) rfl (fun j => e j 0 (by omega))).trans h1, (bs_co (g := g) (g' := gCo g i 1 v) rfl (fun j => e j 4 (by omega))).trans h2, RB_mono (RB_co h3 rfl (fun j => e j 3 (by omega))) (by omega), FB_mono (FB_8 h4 rfl) (by omega), TL_eq h5 rfl rfl, RH_ct h6 rfl, CB_mono (CB_co h7 (fun j => e j 0 (by omega))) (by omega)⟩
theorem Wf_ct {n : Nat} {l : List T6} {g : Game} (h : Wf n g) (hl : ∀ x ∈ l, x.2.2.2.2.2 = 0 ∨ x.2.2.2.2.1 ≠ -9) : Wf (n + 5000) (gCt g l) := by
  obtain ⟨h1, h2, h3, h4, h5, h6, h7⟩ := h
  exact ⟨h1, h2, RB_mono (RB_co h3 rfl (fun _ => rfl)) (by omega), FB_mono (FB_8 h4 rfl) (by omega), TL_eq h5 rfl rfl, hl, CB_mono (CB_co h7 (fun _ => rfl)) (by omega)⟩
theorem Wf_take {c m n i k : Nat} {a : T6} {g : Game} (hV : V c m g) (h : Wf n g) (hi : i < 4) (hk : g.2.2.2.2[k]? = some a) : Wf (n + 5000) (gTake g i k a) := by
  refine Wf_ct h (fun x hx => ?_)
  rcases mem_set' hx with q | q
  · exact h.2.2.2.2.2.1 x q
  · rw [q]; exact Or.inr (nI_m9 (by omega))
theorem Wf_offer {n : Nat} {x : T6} {g : Game} (h : Wf n g) (hx : x.2.2.2.2.2 = 0) : Wf (n + 5000) (gOffer g x) := by
  refine Wf_ct h (fun y hy => ?_)
  rcases List.mem_append.mp hy with q | q
  · exact h.2.2.2.2.2.1 y q
  · rw [List.mem_singleton.mp q]; exact Or.inl hx
theorem Wf_car {c m n i k j : Nat} {a : T6} {t : T2} {ps : List Nat} {g : Game} (hV : V c m g) (h : Wf n g) (hi : i < 4) (hk : g.2.2.2.2[k]? = some a) (hj : (g.2.2.2.1 i)[j]? = some t) (ha : a.2.2.2.2.1 = nI i) (hp : ps.length ≤ 24) (hn : n ≤ 800000000) : Wf (n + 5000) (gCar g i k j a t ps) := by
  obtain ⟨h1, h2, h3, h4, h5, h6, h7⟩ := h
  obtain ⟨p, p1, p9, ep⟩ := (hV.2.2.2.2.2.2 a (mem_get hk)).2.2.2.1
  have hx : a.2.2.1.toInt = (p : Int) := by rw [ep, nI_ti (by omega)]
  have hl : (gPath g i ps g).2.2.2 = g.2.2.2 := (gPath_l ps g).2
  refine ⟨?_, ?_, ?_, ?_, TL_car h5 hj, ?_, ?_⟩
  · exact (cs_co (g := gMail (gPath g i ps g) i a.2.2.1) rfl (fun _ => rfl)).trans ((cs_mail hi).trans ((cs_path hi (V.vl hV).2.2.2.1 ps g).trans h1))
  · exact (bs_co (g := gMail (gPath g i ps g) i a.2.2.1) rfl (fun _ => rfl)).trans (bs_mail.trans ((bs_path ps g).trans h2))
  · exact RB_mono (RB_co (RB_mail (i := i) (x := a.2.2.1) (RB_path hV hi ps g n h3)) rfl (fun _ => rfl)) (by omega)
  · exact FB_mono (FB_8 (FB_path (i := i) ps g h4) rfl) (by omega)
  · intro x hx
    have hx : x ∈ (gPath g i ps g).2.2.2.2.set k (ran1 a) := hx
    rw [hl] at hx
    rcases mem_set' hx with q | q
    · exact h6 x q
    · rw [q]; exact Or.inr (by show a.2.2.2.2.1 ≠ -9; rw [ha]; exact nI_m9 (by omega))
  · have q1 := CB_path hV hi ps g n (by omega) h7
    exact CB_mono (CB_co (CB_mail (k := 99) (i := i) (x := a.2.2.1) q1 (by omega) (by omega)) (fun _ => rfl)) (by omega)
theorem Wf_end {c m n : Nat} {g : Game} (hV : V c m g) (h : Wf n g) (hn : n ≤ 800000000) : Wf (n + 5000) (gEnd g) := by
  obtain ⟨h1, h2, h3, h4, h5, h6, h7⟩ := h
  exact ⟨(cs_end (V.vl hV)).trans h1, bs_end.trans h2, RB_mono (RB_end h3) (by omega), FB_mono (FB_end (V.vl hV) h4) (by omega), TL_end h5, RH_end, CB_mono (CB_end hV h7 (by omega)) (by omega)⟩
theorem Wf_new {x : Int32} : Wf 100 (gNew x) := by
  refine ⟨show ((-400 : Int32) + 100 + 100 + 100 + 100 = 0) by decide, show ((0 : Int32) + 0 + 0 + 0 - 0 = 0) by decide, ⟨fun i hi => ⟨0, Nat.le_refl _, by omega, rfl⟩, 0, by omega, show ((0 : Int32) = 0 + 0 + 0 + 0 + nI 0) by decide⟩, ⟨0, by omega, rfl⟩, fun i _ x hx => (by cases hx), fun x hx => (by cases hx), fun i hi => ?_⟩
  show -((100 : Nat) : Int) ≤ (100 : Int32).toInt ∧ (100 : Int32).toInt ≤ ((100 : Nat) : Int)
  decide
theorem Wf_addT {n : Nat} {x : T4} {g : Game} (h : Wf n g) : Wf n (gAddT g x) := by
  obtain ⟨h1, h2, h3, h4, h5, h6, h7⟩ := h
  exact ⟨h1, h2, RB_co h3 rfl (fun _ => rfl), FB_8 h4 rfl, TL_eq h5 rfl rfl, RH_ct h6 rfl, CB_co h7 (fun _ => rfl)⟩
