/-! ===== the world as one function: cell k of the world holds the row S k ===== -/
abbrev Sg : Type := Nat → Nat → Int32
def u2 (S : Sg) (k j : Nat) (v : Int32) : Sg := fun a => if a = k then upd (S k) j v else S a
theorem u2_s (S : Sg) (k j : Nat) (v : Int32) : u2 S k j v k = upd (S k) j v := by simp [u2]
theorem u2_n {S : Sg} {k j a : Nat} {v : Int32} (h : a ≠ k) : u2 S k j v a = S a := by simp [u2, h]
/-- a whole row put into a cell -/
def uR (S : Sg) (k : Nat) (r : Nat → Int32) : Sg := fun a => if a = k then r else S a
theorem uR_s (S : Sg) (k : Nat) (r : Nat → Int32) : uR S k r k = r := by simp [uR]
theorem uR_n {S : Sg} {k a : Nat} {r : Nat → Int32} (h : a ≠ k) : uR S k r a = S a := by simp [uR, h]
/-- the tables' numbers; each cell's address; the classes of the arrays -/
abbrev gG : Type := va_G × (Nat → Nat) × (Nat → ClassId) × Nat
/-- how many cells the world has by now: 392 those of the class, 402 with the reference's, 403 with the law's own row -/
def gN (G : gG) : Nat := G.2.2.2
abbrev gcl : List vw_C := [(RX0, TX0, 7), (RX1, TX1, 7), (RX2, TX2, 2), (RX3, TX3, 3), (RX4, TX4, 1), (RX6, TX6, 2), (RX7, TX7, 9), (RX8, TX8, 5), (RX9, TX9, 7), (RX10, TX10, 6)]
abbrev gtys (G : gG) : List (ClassId × FieldType) := [(G.2.2.1 0, .int), (G.2.2.1 3, .object "RustRails$State")]
abbrev gia (G : gG) (n : Nat) (R : Nat → Int32) : va_E := .inl (G.2.2.1 0, n, .inl R)
/-- the 21 cells of a State that lies at b -/
def gEs (G : gG) (b j : Nat) (R : Nat → Int32) : va_E := match j with
  | 0 => .inr (6, [.ref (G.2.1 (b + 1)), .ref (G.2.1 (b + 2)), .ref (G.2.1 (b + 3)), .int (R 3), .int (R 4), .int (R 5), .int (R 6), .int (R 7), .int (R 8)])
  | 1 => .inr (7, [.ref (G.2.1 (b + 4)), .ref (G.2.1 (b + 5)), .ref (G.2.1 (b + 6)), .ref (G.2.1 (b + 7)), .int (R 4)])
  | 2 => .inr (1, [.ref (G.2.1 (b + 8)), .ref (G.2.1 (b + 9)), .ref (G.2.1 (b + 10)), .ref (G.2.1 (b + 11)), .ref (G.2.1 (b + 12)), .ref (G.2.1 (b + 13)), .int (R 6)])
  | 3 => .inr (0, [.ref (G.2.1 (b + 14)), .ref (G.2.1 (b + 15)), .ref (G.2.1 (b + 16)), .ref (G.2.1 (b + 17)), .ref (G.2.1 (b + 18)), .ref (G.2.1 (b + 19)), .ref (G.2.1 (b + 20))])
  | 4 => gia G 16 R
  | 5 => gia G 16 R
  | 6 => gia G 16 R
  | 7 => gia G 16 R
  | 8 => gia G 8 R
  | 9 => gia G 8 R
  | 10 => gia G 8 R
  | 11 => gia G 8 R
  | 12 => gia G 8 R
  | 13 => gia G 8 R
  | 14 => gia G 5 R
  | 15 => gia G 5 R
  | 16 => gia G 5 R
  | 17 => gia G 4 R
  | 18 => gia G 4 R
  | 19 => gia G 16 R
  | _ => gia G 16 R
def gE0 (G : gG) (k : Nat) (R : Nat → Int32) : va_E := match k with
  | 0 => .inr (9, [.ref (G.2.1 1), .ref (G.2.1 14), .ref (G.2.1 35), .ref (G.2.1 3), .ref (G.2.1 5), .ref (G.2.1 8)])
  | 1 => .inr (2, [.ref (G.2.1 2), .int (R 1)])
  | 2 => gia G 100 R
  | 3 => .inr (3, [.ref (G.2.1 4), .int (R 1), .int (R 2)])
  | 4 => .inl (G.2.2.1 3, 14, .inr (.inr (.inr (.inr (fun j => some (G.2.1 (56 + 21 * j)))))))
  | 5 => .inr (5, [.ref (G.2.1 6), .ref (G.2.1 7)])
  | 6 => .inl (G.2.2.1 3, 2, .inr (.inr (.inr (.inr (fun j => some (G.2.1 (350 + 21 * j)))))))
  | 7 => gia G 2 R
  | 8 => .inr (4, [.ref (G.2.1 9)])
  | 9 => .inr (8, [.ref (G.2.1 10), .ref (G.2.1 11), .ref (G.2.1 12), .ref (G.2.1 13), .int (R 4), .int (R 5), .int (R 6)])
  | 10 => gia G 225 R
  | 11 => gia G 225 R
  | 12 => gia G 16 R
  | _ => gia G 24 R
def gE (G : gG) (k : Nat) (R : Nat → Int32) : va_E := if k < 14 then gE0 G k R else if k < 392 then gEs G (14 + 21 * ((k - 14) / 21)) ((k - 14) % 21) R else gia G 0 R
def IsSt (b : Nat) : Prop := ∃ i, i < 18 ∧ b = 14 + 21 * i
theorem gE_st {G : gG} {b j : Nat} {R : Nat → Int32} (hb : IsSt b) (hj : j < 21) : gE G (b + j) R = gEs G b j R := by
  obtain ⟨i, hi, rfl⟩ := hb
  unfold gE
  rw [if_neg (by omega), if_pos (by omega)]
  have h1 : (14 + 21 * i + j - 14) / 21 = i := by omega
  have h2 : (14 + 21 * i + j - 14) % 21 = j := by omega
  rw [h1, h2]
theorem IsSt.lt {b j : Nat} (hb : IsSt b) (hj : j < 21) : b + j < 392 := by
  obtain ⟨i, hi, rfl⟩ := hb
  omega
theorem IsSt.lt0 {b : Nat} (hb : IsSt b) : b < 392 := hb.lt (j := 0) (by omega)
theorem gE_st0 {G : gG} {b : Nat} {R : Nat → Int32} (hb : IsSt b) : gE G b R = gEs G b 0 R := gE_st (j := 0) hb (by omega)
theorem st_14 : IsSt 14 := ⟨0, by omega, rfl⟩
theorem st_35 : IsSt 35 := ⟨1, by omega, rfl⟩
theorem st_h {i : Nat} (h : i < 14) : IsSt (56 + 21 * i) := ⟨i + 2, by omega, by omega⟩
theorem st_s {i : Nat} (h : i < 2) : IsSt (350 + 21 * i) := ⟨i + 16, by omega, by omega⟩
/-- cell k is an int array of length n -/
def IA (G : gG) (k n : Nat) : Prop := k < gN G ∧ n < 2 ^ 31 ∧ ∀ (R : Nat → Int32), gE G k R = gia G n R
theorem ia_st {G : gG} {b j n : Nat} (hN : 392 ≤ gN G) (hb : IsSt b) (hj : j < 21) (h : ∀ (R : Nat → Int32), gEs G b j R = gia G n R) (hn : n < 2 ^ 31) : IA G (b + j) n := ⟨Nat.lt_of_lt_of_le (hb.lt hj) hN, hn, fun R => by rw [gE_st hb hj, h]⟩
def gw (G : gG) (S : Sg) : va_W := (List.range (gN G)).map (fun k => (G.2.1 k, gE G k (S k)))
theorem gw_at {G : gG} {S : Sg} {k : Nat} (hk : k < gN G) : (gw G S)[k]? = some (G.2.1 k, gE G k (S k)) := by
  simp [gw, hk]
theorem gw_no {G : gG} {S : Sg} {k : Nat} (hk : ¬ k < gN G) : (gw G S)[k]? = none := by
  simp [gw, hk]
theorem gw_set {G : gG} {S S' : Sg} {k : Nat} {e : va_E} (hk : k < gN G) (he : e = gE G k (S' k)) (ho : ∀ i, i ≠ k → S' i = S i) : (gw G S).set k (G.2.1 k, e) = gw G S' := by
  apply List.ext_getElem?
  intro i
  rw [List.getElem?_set]
  by_cases h : k = i
  · subst h
    rw [if_pos rfl, if_pos (by simp [gw, hk]), gw_at hk, he]
  · rw [if_neg h]
    by_cases hi : i < gN G
    · rw [gw_at hi, gw_at hi, ho i (fun e => h e.symm)]
    · rw [gw_no hi, gw_no hi]
def gInj (G : gG) : Prop := ∀ i j : Nat, i < gN G → j < gN G → G.2.1 i = G.2.1 j → i = j
def gA (G : gG) (sz : Nat) : Nat → Prop := fun q => (∃ k, k < gN G ∧ q = G.2.1 k) ∨ sz ≤ q
theorem gA_mono {G : gG} {a b : Nat} (h : a ≤ b) : ∀ q, gA G b q → gA G a q := fun q hq => hq.elim Or.inl (fun hq => Or.inr (Nat.le_trans h hq))
theorem gD {G : gG} {S : Sg} {sz : Nat} (h : gInj G) : va_D (gA G sz) (gw G S) := by
  refine ⟨fun i j p q hp hq e => ?_, fun k q hq => ?_⟩
  · have hi : i < gN G := Decidable.byContradiction fun hn => by rw [gw_no hn] at hp; cases hp
    have hj : j < gN G := Decidable.byContradiction fun hn => by rw [gw_no hn] at hq; cases hq
    rw [gw_at hi] at hp
    rw [gw_at hj] at hq
    cases hp
    cases hq
    exact h i j hi hj e
  · have hk : k < gN G := Decidable.byContradiction fun hn => by rw [gw_no hn] at hq; cases hq
    rw [gw_at hk] at hq
    cases hq
    exact Or.inl ⟨k, hk, rfl⟩
abbrev gP (G : gG) (S : Sg) (H : Heap) : Prop := va_P G.1 gcl (gw G S) H
/-- what the tables say, at a method's start -/
def gF (G : gG) (U : State) : Prop := va_K G.1 gcl (gtys G) U ∧ (∀ w ∈ wsL_law, w.before #[] U = true) ∧ (∀ q ∈ gNm, va_Nw (.methodLinkNest q.1 q.2.1 q.2.2.1 q.2.2.2) U) ∧ (∀ q ∈ gNf, va_Nw (.fieldLinkNest q.1 q.2.1 q.2.2.1 q.2.2.2.1 q.2.2.2.2.1 q.2.2.2.2.2) U) ∧ gInj G ∧ 392 ≤ gN G ∧ (402 ≤ gN G → va_K G.1 gcl [(G.2.2.1 1, .boolean)] U) ∧ (403 ≤ gN G → va_K G.1 gcl [(G.2.2.1 2, .long)] U)
theorem gF.warm {G : gG} {s U : State} (hW : s.WarmedH U.vm) (h : gF G s) : gF G U :=
  ⟨va_K.moved hW.alike h.1, fun w hw => word_at hW (good_of_word (gw_good w hw)) (h.2.1 w hw), fun q hq => va_Nw.warmM hW (h.2.2.1 q hq), fun q hq => va_Nw.warmF hW (h.2.2.2.1 q hq), h.2.2.2.2.1, h.2.2.2.2.2.1, fun hm => va_K.moved hW.alike (h.2.2.2.2.2.2.1 hm), fun hm => va_K.moved hW.alike (h.2.2.2.2.2.2.2 hm)⟩
theorem gF.hN {G : gG} {s : State} (h : gF G s) : 392 ≤ gN G := h.2.2.2.2.2.1
theorem gF.inj {G : gG} {s : State} (h : gF G s) : gInj G := h.2.2.2.2.1
theorem gF.ts {G : gG} {s : State} {args : Array Value} (h : gF G s) : ∀ w ∈ wsL_law, w.before args s = true := fun w hw => word_at (State.WarmedH.refl s) (good_of_word (gw_good w hw)) (h.2.1 w hw)
theorem gF.calling {G : gG} {U : State} {g : JFrame} {mk : MethodId} {a : Array Value} (h : gF G U) : gF G (U.calling g mk a) := gF.warm (State.WarmedH.refl U) h
def gPre (G : gG) (S : Sg) (sz : Nat) : State → Prop := fun U => U.heap.size = sz ∧ gP G S U.heap ∧ gF G U
def gQ (G : gG) (S' : Sg) (v : Option Value) (A : Nat → Prop) : Array Value → State → Outcome → State → Prop := fun _ st oc t => (oc = .returned v ∧ gP G S' t.heap) ∧ va_F A st t
abbrev gR (f lo : Nat) : Room := { frames := f, cells := 0, slots := 0, locals := lo }
/-- a contract: from the world S, with these arguments, the method returns v, and the world is S' -/
def Ct (l : Launch) (y : MethodName) (ws : List Cond) (rm : Room) (G : gG) (av : List Value) (S : Sg) (v : Option Value) (S' : Sg) : Prop := ∀ sz : Nat, Met l y ws rm (va_Pc av (gPre G S sz)) (gQ G S' v (gA G sz)) 0 0 (gA G sz)
abbrev gCx (p : Program) (s : State) (m : MethodId) (c : Code) (cc : ByteArray) (nL : Nat) (own : String) (G : gG) : Prop := p.tables.exec = Jvm.exec ∧ c.code = cc ∧ c.maxLocals = nL ∧ s.vm.findClass own = some m.cls ∧ gF G s
theorem Ct_of {l : Launch} {y : MethodName} {cc : ByteArray} {maxL : Nat} {ret : Option FieldType} {f lo : Nat} {G : gG} {av : List Value} {S S' : Sg} {v : Option Value} (hy : plainName y.cls = true) (hlen : (lg_sl av).length ≤ maxL)
    (body : ∀ (p : Program) (e : Env) (s : State) (m : MethodId) (below : List Frame) (meth : Method) (c : Code) (ls : Array Slot), gCx p s m c cc maxL y.cls G → meth.sig.returnType = ret → meth.locks = false → gP G S s.heap → va_S (gA G s.heap.size) s.heap s.heap [] → lv_has ls maxL (lv_args 0 av) →
      W p l e (gR f lo) s m av.toArray below meth c s.heap [] 0 0 (MQ below (gQ G S' v (gA G s.heap.size)) av.toArray s 0 0 (gA G s.heap.size)) (F0 m 0 ls [])) : Ct l y [Cond.code y cc maxL ret] (gR f lo) G av S v S' := by
  intro sz
  refine Met.ofW (cc := cc) (maxL := maxL) (ret := ret) hy rfl ?_
  intro p e s m args below meth c s₁ B hml hv
  obtain ⟨rfl, hsz, hP, hF⟩ := hv
  subst hsz
  have hl := lv_entry av (n := maxL) hlen
  rw [lg_entry_eq]
  exact body p e s m below meth c _ ⟨B.exec, B.bytes, hml, findClass_of_methodNamed B.named, hF⟩ B.returns B.notSynchronized hP va_S.rf hl
section GW
variable {p : Program} {l : Launch} {e : Env} {R : Room} {s : State} {m : MethodId} {args : Array Value} {below : List Frame} {meth : Method} {c : Code} {H : Heap} {locs : List Loc} {cells slots : Nat} {Q : State → Prop}
variable {cc : ByteArray} {nL pc : Nat} {ls : Array Slot} {rest : List Value} {G : gG} {S S' : Sg} {own : String} {H0 : Heap} {sz : Nat}
theorem g_get {C : String} {T : u_T} {N ci index : Nat} (cx : gCx p s m c cc nL own G) (hP : gP G S H) (hin : ∀ w ∈ u_ws C T N, w ∈ wsL_law) (k : Nat) (hk : k < gN G) {fs : List Value} (he : gE G k (S k) = .inr (ci, fs)) (hc : gcl[ci]? = some (C, T, N)) (f : Nat) (hf : f < N) (hlink : Cond.fieldLink own index C (T f).2.1 (T f).2.2.1 ∈ wsL_law) (hC : (T f).1 = C) {v : Value} (hv : fs[f]? = some v) (hdg : decode cc pc = .ok (.getfield index, 3))
    (kk : W p l e R s m args below meth c H locs cells slots Q (F0 m (pc + 3) ls (v :: rest))) : W p l e R s m args below meth c H locs cells slots Q (F0 m pc ls (.ref (G.2.1 k) :: rest)) :=
  va_get (D := G.1) (C := C) (T := T) (N := N) (ref := C) cx.1 cx.2.1 (Ts := wsL_law) cx.2.2.2.2.ts hin cx.2.2.2.1 cx.2.2.2.2.1 hP k (fs := fs) (by rw [gw_at hk, he]) hc f hf (cx.2.2.2.2.ts _ hlink) (fun x hx => by rw [hC] at hx; exact hx) hv hdg kk
theorem g_getN {host C : String} {T : u_T} {N ci index : Nat} (cx : gCx p s m c cc nL own G) (hP : gP G S H) (hin : ∀ w ∈ u_ws C T N, w ∈ wsL_law) (k : Nat) (hk : k < gN G) {fs : List Value} (he : gE G k (S k) = .inr (ci, fs)) (hc : gcl[ci]? = some (C, T, N)) (f : Nat) (hf : f < N) (hlink : (own, index, C, (T f).2.1, (T f).2.2.1, host) ∈ gNf) (hC : (T f).1 = C) {v : Value} (hv : fs[f]? = some v) (hdg : decode cc pc = .ok (.getfield index, 3))
    (kk : W p l e R s m args below meth c H locs cells slots Q (F0 m (pc + 3) ls (v :: rest))) : W p l e R s m args below meth c H locs cells slots Q (F0 m pc ls (.ref (G.2.1 k) :: rest)) :=
  va_getN (D := G.1) (C := C) (T := T) (N := N) (ref := C) (host := host) cx.1 cx.2.1 (Ts := wsL_law) cx.2.2.2.2.ts hin cx.2.2.2.1 cx.2.2.2.2.1 hP k (fs := fs) (by rw [gw_at hk, he]) hc f hf (va_Nw.use rfl (cx.2.2.2.2.2.2.2.1 _ hlink)) (fun x hx => by rw [hC] at hx; exact hx) hv hdg kk
theorem g_put {C : String} {T : u_T} {N ci index : Nat} (cx : gCx p s m c cc nL own G) (hP : gP G S H) (hS : va_S (gA G sz) H0 H locs) (hin : ∀ w ∈ u_ws C T N, w ∈ wsL_law) (ty0 : Nat → FieldType) (hty : ∀ k, k < N → parseFieldDescriptor (T k).2.2.1 = some (ty0 k)) (hnm : ∀ a, a < N → ∀ b, b < N → a ≠ b → (T a).2.1 ≠ (T b).2.1) (k : Nat) (hk : k < gN G) {fs : List Value} (he : gE G k (S k) = .inr (ci, fs)) (hc : gcl[ci]? = some (C, T, N)) (f : Nat) (hf : f < N) (hlink : Cond.fieldLink own index C (T f).2.1 (T f).2.2.1 ∈ wsL_law) (hC : (T f).1 = C) (hfin : (T f).2.2.2 = false) {x : Int32} (hd : parseFieldDescriptor (T f).2.2.1 = some .int) (hl : f < fs.length)
    (he2 : (Sum.inr (ci, fs.set f (.int x)) : va_E) = gE G k (u2 S k f x k)) (hdg : decode cc pc = .ok (.putfield index, 3))
    (kk : ∀ (H1 : Heap) (locs1 : List Loc), gP G (u2 S k f x) H1 → va_S (gA G sz) H0 H1 locs1 → W p l e R s m args below meth c H1 locs1 cells slots Q (F0 m (pc + 3) ls rest)) : W p l e R s m args below meth c H locs cells slots Q (F0 m pc ls (.int x :: .ref (G.2.1 k) :: rest)) := by
  refine va_put (D := G.1) (C := C) (T := T) (N := N) (ref := C) (A := gA G sz) cx.1 cx.2.1 (Ts := wsL_law) cx.2.2.2.2.ts hin ty0 hty hnm cx.2.2.2.1 cx.2.2.2.2.1 hP (gD cx.2.2.2.2.inj) hS k (fs := fs) (by rw [gw_at hk, he]) hc f hf (cx.2.2.2.2.ts _ hlink) (fun y hy => by rw [hC] at hy; exact hy) hfin hd (v := .int x) rfl rfl hl hdg (fun H1 locs1 hP1 _ hS1 => ?_)
  rw [gw_set hk he2 (fun i hi => u2_n hi)] at hP1
  exact kk H1 locs1 hP1 hS1
end GW
