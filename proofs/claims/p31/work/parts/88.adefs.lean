/-! ===== the calls as functions of the games ===== -/
def ixO (n : Nat) (x : Int32) : Option Nat := if below n x = true then some x.toNatClampNeg else none
theorem ixO_f {n : Nat} {x : Int32} (h : below n x = false) : ixO n x = none := by unfold ixO; rw [h]; rfl
theorem ixO_t {n j : Nat} (h : j < n) (hn : n < 2147483648) : ixO n (nI j) = some j := by
  unfold ixO
  rw [below_nI hn (by omega), decide_eq_true h, if_pos rfl, nI_c (by omega)]
theorem ixO_s {n j : Nat} {x : Int32} (hn : n < 2147483648) (h : ixO n x = some j) : j < n ∧ x = nI j := by
  unfold ixO at h
  split at h
  · rename_i q
    obtain ⟨i, hi, rfl⟩ := below_of hn q
    rw [nI_c (by omega)] at h
    cases h
    exact ⟨hi, rfl⟩
  · cases h
theorem ixO_n {n : Nat} {x : Int32} (h : ixO n x = none) : below n x = false := by
  unfold ixO at h
  split at h
  · cases h
  · rename_i q
    cases hb : below n x with
    | false => rfl
    | true => exact absurd hb q
def rgB (a b x : Int32) : Bool := decide (a ≤ x) && decide (x ≤ b)
def nAbout (g : Game) (x : Int32) : Int32 :=
  if x = 0 then g.1 0 else if x = 1 then nI g.2.1.length else if x = 2 then nI g.2.2.2.2.length else if x = 3 then g.1 3 else if x = 4 then g.1 4 else if x = 5 then g.1 5 else if x = 6 then g.1 6 else if x = 7 then g.1 7 else if x = 8 then g.1 8 else if x = 9 then g.1 9 else if x = 10 then g.1 10 else -9999002
def nTrack (g : Game) (t x : Int32) : Int32 := match ixO g.2.1.length t with
  | none => -9999001
  | some j => match g.2.1[j]? with
    | none => -9999001
    | some a => if x = 0 then a.1 else if x = 1 then a.2.1 else if x = 2 then a.2.2.1 else if x = 3 then a.2.2.2 else -9999002
def nCompany (g : Game) (i x : Int32) : Int32 := match ixO 4 i with
  | none => -9999001
  | some i => if x = 0 then g.2.2.1 i 0 else if x = 1 then g.2.2.1 i 1 else if x = 2 then nI (g.2.2.2.1 i).length else if x = 3 then cntT g i else if x = 4 then cntC g i else if x = 5 then g.2.2.1 i 3 else if x = 6 then g.2.2.1 i 4 else -9999002
def nTrain (g : Game) (i y x : Int32) : Int32 := match ixO 4 i with
  | none => -9999001
  | some i => match ixO (g.2.2.2.1 i).length y with
    | none => -9999001
    | some j => match (g.2.2.2.1 i)[j]? with
      | none => -9999001
      | some a => if x = 0 then a.1 else if x = 1 then a.2 else -9999002
def nContract (g : Game) (t x : Int32) : Int32 := match ixO g.2.2.2.2.length t with
  | none => -9999001
  | some j => match g.2.2.2.2[j]? with
    | none => -9999001
    | some a => if x = 0 then a.1 else if x = 1 then a.2.1 else if x = 2 then a.2.2.1 else if x = 3 then a.2.2.2.1 else if x = 4 then a.2.2.2.2.1 else if x = 5 then a.2.2.2.2.2 else -9999002
def aAct (u : At) (v : Int32) (g : Game) : Int32 × At := (v, (u.1 + 1, act u.2 g))
def aBuyTrack (i t : Int32) (u : At) : Int32 × At := match ixO 4 i with
  | none => (-9999001, u)
  | some i => match ixO u.2.1.2.1.length t with
    | none => (-9999001, u)
    | some j => match u.2.1.2.1[j]? with
      | none => (-9999001, u)
      | some a => if mayT u.2.1 i a = true then aAct u ((gSellT u.2.1 i j a).2.2.1 i 0) (gSellT u.2.1 i j a) else (-9999003, u)
def aBuyTrain (i x : Int32) (u : At) : Int32 × At := match ixO 4 i with
  | none => (-9999001, u)
  | some i => if rgB 1 6 x = true then (if mayN u.2.1 i x = true then aAct u (rSellN u.2.1 i x) (gSellN u.2.1 i x) else (-9999003, u)) else (-9999002, u)
def aSetRent (i x : Int32) (u : At) : Int32 × At := match ixO 4 i with
  | none => (-9999001, u)
  | some i => if rgB 0 9 x = true then aAct u (u.2.1.2.2.1 i 1) (gCo u.2.1 i 1 x) else (-9999002, u)
def nCit (g : Game) : Nat := (g.1 0).toNatClampNeg
def aOffer (x y p r : Int32) (u : At) : Int32 × At :=
  if below (nCit u.2.1) x = true then (if below (nCit u.2.1) y = true then (if (!decide (x = y) && (rgB 1 99 p && rgB 1 9 r)) = true then (if u.2.1.2.2.2.2.length = 8 then (-9999003, u) else aAct u (nI (gOffer u.2.1 (x, y, p, r, -9, 0)).2.2.2.2.length - 1) (gOffer u.2.1 (x, y, p, r, -9, 0))) else (-9999002, u)) else (-9999001, u)) else (-9999001, u)
def aTake (i t : Int32) (u : At) : Int32 × At := match ixO 4 i with
  | none => (-9999001, u)
  | some i => match ixO u.2.1.2.2.2.2.length t with
    | none => (-9999001, u)
    | some j => match u.2.1.2.2.2.2[j]? with
      | none => (-9999001, u)
      | some a => if a.2.2.2.2.1 = -9 then aAct u (cntC (gTake u.2.1 i j a) i) (gTake u.2.1 i j a) else (-9999003, u)
def aRun (t x : Int32) (u : At) : Int32 × At := match ixO u.2.1.2.2.2.2.length t with
  | none => (-9999001, u)
  | some k => match u.2.1.2.2.2.2[k]? with
    | none => (-9999001, u)
    | some a => if a.2.2.2.2.1 = -9 then (-9999003, u) else match ixO (u.2.1.2.2.2.1 a.2.2.2.2.1.toNatClampNeg).length x with
      | none => (-9999001, u)
      | some j => match (u.2.1.2.2.2.1 a.2.2.2.2.1.toNatClampNeg)[j]? with
        | none => (-9999001, u)
        | some b => if rsn u.2.1 a.2.2.2.2.1.toNatClampNeg a b a.1.toNatClampNeg a.2.1.toNatClampNeg b.1.toNatClampNeg = 0 then aAct u (nI (wC (wks u.2.1 a.2.2.2.2.1.toNatClampNeg) a.2.1.toNatClampNeg a.1.toNatClampNeg (4 * b.1.toNatClampNeg))) (gCar u.2.1 a.2.2.2.2.1.toNatClampNeg k j a b (wP (wks u.2.1 a.2.2.2.2.1.toNatClampNeg) a.2.1.toNatClampNeg a.1.toNatClampNeg (4 * b.1.toNatClampNeg))) else (-9999003, u)
def aEnd (u : At) : Int32 × At := aAct u (cSt (gMid u.2.1) 0 4 0) (gEnd u.2.1)
def aUndo (u : At) : Int32 × At := match u.2.2.2.2.1.getLast? with
  | none => (-9999003, u)
  | some g => (nI u.2.2.2.2.1.dropLast.length, (u.1 + 1, (g, u.2.2.1, u.2.2.2.1, u.2.2.2.2.1.dropLast, u.2.2.2.2.2)))
def nWay (g : Game) (i x y r w : Int32) : Int32 := match ixO 4 i with
  | none => -9999001
  | some i => match ixO (nCit g) x with
    | none => -9999001
    | some a => match ixO (nCit g) y with
      | none => -9999001
      | some b => if (!decide (x = y) && (rgB 1 24 r && rgB 0 3 w)) = true then (if wIs (wks g i) b a r.toNatClampNeg = true then (if w = 0 then nI (wC (wks g i) b a r.toNatClampNeg) else if w = 1 then nI (wL (wks g i) b a r.toNatClampNeg) else if w = 2 then nI (wP (wks g i) b a r.toNatClampNeg).length else nI ((wP (wks g i) b a r.toNatClampNeg).headD 0)) else -9) else -9999002
def nWhy (g : Game) (t x : Int32) : Int32 := match ixO g.2.2.2.2.length t with
  | none => -9999001
  | some k => match g.2.2.2.2[k]? with
    | none => -9999001
    | some a => if a.2.2.2.2.1 = -9 then 1 else match ixO (g.2.2.2.1 a.2.2.2.2.1.toNatClampNeg).length x with
      | none => -9999001
      | some j => match (g.2.2.2.1 a.2.2.2.2.1.toNatClampNeg)[j]? with
        | none => -9999001
        | some b => rsn g a.2.2.2.2.1.toNatClampNeg a b a.1.toNatClampNeg a.2.1.toNatClampNeg b.1.toNatClampNeg
def nLev (g : Game) (i t : Int32) : Int32 := match ixO 4 i with
  | none => -9999001
  | some i => match ixO g.2.2.2.2.length t with
    | none => -9999001
    | some k => match g.2.2.2.2[k]? with
      | none => -9999001
      | some a => smL g i a.1.toNatClampNeg a.2.1.toNatClampNeg 1 6
def nBest (g : Game) (i : Int32) : Int32 := match ixO 4 i with
  | none => -9999001
  | some i => bsC g i (grL (g.2.2.2.1 i) 0).toNatClampNeg g.2.2.2.2 0 (-9) 0
def nCoins (g : Game) (i x : Int32) : Int32 := match ixO 4 i with
  | none => -9999001
  | some i => if rgB 0 50 x = true then (gEnds g x.toNatClampNeg).2.2.1 i 0 else -9999002
def nBk (g : Game) (i : Int32) : Int32 := match ixO 4 i with
  | none => -9999001
  | some i => bkA g i 1 50
def nWorth (g : Game) (i : Int32) : Int32 := match ixO 4 i with
  | none => -9999001
  | some i => gWorth g i
def nScr (g : Game) (x : Int32) (y : Int64) : Int32 :=
  if rgB 1 3 x = true then (if y < 0 then -9999002 else if y.toNatClampNeg < 100000 ^ x.toNatClampNeg then gScr g (fun j => wlo y.toNatClampNeg (x.toNatClampNeg - 1 - j) % 100000) 0 x.toNatClampNeg else -9999002) else -9999002
def nSim (g : Game) (y : Int64) (x : Int32) : Int32 :=
  if rgB 1 50 x = true then gwM (gSims g y x.toNatClampNeg) 1 3 (gWorth (gSims g y x.toNatClampNeg) 0) + 10000 * (gSims g y x.toNatClampNeg).1 3 else -9999002
def aSave (x : Int32) (u : At) : Int32 × At := match ixO 2 x with
  | none => (-9999001, u)
  | some k => (u.2.1.1 4, (u.1 + 1, (u.2.1, u.2.2.1, u.2.2.2.1, u.2.2.2.2.1, fun j => if j = k then some u.2.1 else u.2.2.2.2.2 j)))
def aRestore (x : Int32) (u : At) : Int32 × At := match ixO 2 x with
  | none => (-9999001, u)
  | some k => match u.2.2.2.2.2 k with
    | none => (-9999003, u)
    | some g => (g.1 4, (u.1 + 1, (g, u.2.2.1, u.2.2.2.1, [], u.2.2.2.2.2)))
def aAppend (x : Int32) (u : At) : Int32 × At :=
  if rgB 0 255 x = true then (if u.2.2.2.1 = 100 then (-9999003, u) else (nI (u.2.2.2.1 + 1), (u.1 + 1, (u.2.1, fun j => if j = u.2.2.2.1 then x.toNatClampNeg else u.2.2.1 j, u.2.2.2.1 + 1, u.2.2.2.2)))) else (-9999002, u)
def aLoad (u : At) : Int32 × At := match pAll u.2.2.1 u.2.2.2.1 with
  | .error _ => (-9999003, u)
  | .ok g => (nI g.2.1.length, (u.1 + 1, (g, u.2.2.1, u.2.2.2.1, [], fun _ => none)))
def aClear (u : At) : Int32 × At := (nI u.2.2.2.1, (u.1 + 1, (u.2.1, u.2.2.1, 0, u.2.2.2.2)))
def nErr (s : St) : Int32 := eI (pAll s.2.1 s.2.2.1)
abbrev Ans : Type := Option (Int32 × At)
def h_tryAbout (x : Int32) (u : At) : Ans := some (nAbout u.2.1 x, u)
def h_tryTrack (t x : Int32) (u : At) : Ans := some (nTrack u.2.1 t x, u)
def h_tryCompany (i x : Int32) (u : At) : Ans := some (nCompany u.2.1 i x, u)
def h_tryTrain (i y x : Int32) (u : At) : Ans := some (nTrain u.2.1 i y x, u)
def h_tryContract (t x : Int32) (u : At) : Ans := some (nContract u.2.1 t x, u)
def h_tryBuyTrack (i t : Int32) (u : At) : Ans := some (aBuyTrack i t u)
def h_tryBuyTrain (i x : Int32) (u : At) : Ans := some (aBuyTrain i x u)
def h_trySetRent (i x : Int32) (u : At) : Ans := some (aSetRent i x u)
def h_tryOffer (x y p r : Int32) (u : At) : Ans := some (aOffer x y p r u)
def h_tryTake (i t : Int32) (u : At) : Ans := some (aTake i t u)
def h_tryRun (t x : Int32) (u : At) : Ans := some (aRun t x u)
def h_tryUndo (u : At) : Ans := some (aUndo u)
def h_tryWay (i x y r w : Int32) (u : At) : Ans := some (nWay u.2.1 i x y r w, u)
def h_tryWhyNot (t x : Int32) (u : At) : Ans := some (nWhy u.2.1 t x, u)
def h_tryLevelFor (i t : Int32) (u : At) : Ans := some (nLev u.2.1 i t, u)
def h_tryBestContract (i : Int32) (u : At) : Ans := some (nBest u.2.1 i, u)
def h_tryCoinsAfter (i x : Int32) (u : At) : Ans := some (nCoins u.2.1 i x, u)
def h_tryBankruptAfter (i : Int32) (u : At) : Ans := if u.1 < 90000 then some (nBk u.2.1 i, u) else none
def h_tryWorth (i : Int32) (u : At) : Ans := some (nWorth u.2.1 i, u)
def h_tryScript (x : Int32) (y : Int64) (u : At) : Ans := some (nScr u.2.1 x y, u)
def h_trySimulate (y : Int64) (x : Int32) (u : At) : Ans := some (nSim u.2.1 y x, u)
def h_trySave (x : Int32) (u : At) : Ans := some (aSave x u)
def h_tryRestore (x : Int32) (u : At) : Ans := some (aRestore x u)
def h_tryAppend (x : Int32) (u : At) : Ans := some (aAppend x u)
def h_tryLoad (u : At) : Ans := some (aLoad u)
def h_X10_clearText (u : At) : Ans := some (aClear u)
def h_X10_errorPosition (u : At) : Ans := some (nErr u.2, u)
def h_X10_endRound (u : At) : Ans := some (aEnd u)
/-! what a wrapper does, told so -/
def RF (F : Sg → Option (Int32 × Sg)) (u : At) (r : Int32 × At) : Prop := ∀ S, IAt u S → ∃ S1, F S = some (r.1, S1) ∧ IAt r.2 S1
theorem tR {f : Sg → Option (Nat × Int32 × Sg)} {c1 c2 c3 j : Int32} {n : Nat} {s : St} {r : Int32 × At} (k : Nat) (hv : IV n s) (hr : r = (j, (n, s))) (hg : ∀ S, gwr c1 c2 c3 (some (k, 0, S)) = some (j, S)) (hc : ∀ S, IC s S → f S = some (k, 0, S)) : RF (fun S => gwr c1 c2 c3 (f S)) (n, s) r := by
  intro S hS
  rw [hr]
  exact ⟨S, by show gwr c1 c2 c3 (f S) = _; rw [hc S hS.1, hg], hS⟩
theorem IC_35 {s : St} {S S1 : Sg} (h : IC s S) (f : Fb 35 S S1) : IC s S1 := IC_fr h (fun k a b _ => f k a b)
theorem tQ {f : Sg → Option (Nat × Int32 × Sg)} {c1 c2 c3 j : Int32} {n k : Nat} {s : St} {r : Int32 × At} (hv : IV n s) (hr : r = (j, (n, s))) (hg : ∀ S, gwr c1 c2 c3 (some (k, 0, S)) = some (j, S)) (hc : ∀ S, IC s S → ∃ S1, f S = some (k, 0, S1) ∧ Fb 35 S S1) : RF (fun S => gwr c1 c2 c3 (f S)) (n, s) r := by
  intro S hS
  rw [hr]
  obtain ⟨S1, e1, f1⟩ := hc S hS.1
  exact ⟨S1, by show gwr c1 c2 c3 (f S) = _; rw [e1, hg], IC_35 hS.1 f1, hv⟩
theorem qR {f : Sg → Option (Nat × Int32 × Sg)} {c1 c2 c3 : Int32} {n : Nat} {s : St} {r : Int32 × At} (v : Int32) (hv : IV n s) (hr : r = (v, (n, s))) (hc : ∀ S, IC s S → ∃ S1, f S = some (0, v, S1) ∧ Fb 35 S S1) : RF (fun S => gwr c1 c2 c3 (f S)) (n, s) r := by
  intro S hS
  rw [hr]
  obtain ⟨S1, e1, f1⟩ := hc S hS.1
  exact ⟨S1, by show gwr c1 c2 c3 (f S) = _; rw [e1]; rfl, IC_35 hS.1 f1, hv⟩
theorem q0R {f : Sg → Option (Nat × Int32 × Sg)} {c1 c2 c3 : Int32} {n : Nat} {s : St} {r : Int32 × At} (v : Int32) (hv : IV n s) (hr : r = (v, (n, s))) (hc : ∀ S, IC s S → f S = some (0, v, S)) : RF (fun S => gwr c1 c2 c3 (f S)) (n, s) r :=
  qR v hv hr (fun S hS => ⟨S, hc S hS, Fb.rf S⟩)
theorem oR' {f : Sg → Option (Nat × Int32 × Sg)} {c1 c2 c3 : Int32} {n : Nat} {s : St} {r : Int32 × At} (v : Int32) (s' : St) (hr : r = (v, (n + 1, s'))) (hc : ∀ S, IC s S → ∃ S1, f S = some (0, v, S1) ∧ IC s' S1 ∧ FC S S1) (hv : IV (n + 1) s') : RF (fun S => gwr c1 c2 c3 (f S)) (n, s) r := by
  intro S hS
  rw [hr]
  obtain ⟨S1, e1, f1, -⟩ := hc S hS.1
  exact ⟨S1, by show gwr c1 c2 c3 (f S) = _; rw [e1]; rfl, f1, hv⟩
theorem mR {f : Sg → Option (Nat × Int32 × Sg)} {c1 c2 c3 : Int32} {n c : Nat} {s : St} {r : Int32 × At} (v : Int32) (g : Game) (hv : IV n s) (hg : V c (n + 1) g) (hr : r = (v, (n + 1, act s g))) (hc : ∀ S, IC s S → ∃ S1, f S = some (0, v, S1) ∧ IC (act s g) S1 ∧ FC S S1) : RF (fun S => gwr c1 c2 c3 (f S)) (n, s) r :=
  oR' v (act s g) hr hc (IV_act hv hg)
theorem bR {F : Sg → Option (Int32 × Sg)} {n n' : Nat} {s : St} {r : Int32 × At} (v : Int32) (s' : St) (hr : r = (v, (n', s'))) (hc : ∀ S, IC s S → ∃ S1, F S = some (v, S1) ∧ IC s' S1 ∧ FC S S1) (hv : IV n' s') : RF F (n, s) r := by
  intro S hS
  rw [hr]
  obtain ⟨S1, e1, f1, -⟩ := hc S hS.1
  exact ⟨S1, e1, f1, hv⟩
