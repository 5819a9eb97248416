def gFu : Nat := 4096
theorem he_s0 {G : gG} {b : Nat} {R : Nat → Int32} (hb : IsSt b) : gE G b R = .inr (6, [.ref (G.2.1 (b + 1)), .ref (G.2.1 (b + 2)), .ref (G.2.1 (b + 3)), .int (R 3), .int (R 4), .int (R 5), .int (R 6), .int (R 7), .int (R 8)]) := gE_st0 hb
theorem he_s1 {G : gG} {b : Nat} {R : Nat → Int32} (hb : IsSt b) : gE G (b + 1) R = .inr (7, [.ref (G.2.1 (b + 4)), .ref (G.2.1 (b + 5)), .ref (G.2.1 (b + 6)), .ref (G.2.1 (b + 7)), .int (R 4)]) := gE_st hb (by omega)
theorem he_s2 {G : gG} {b : Nat} {R : Nat → Int32} (hb : IsSt b) : gE G (b + 2) R = .inr (1, [.ref (G.2.1 (b + 8)), .ref (G.2.1 (b + 9)), .ref (G.2.1 (b + 10)), .ref (G.2.1 (b + 11)), .ref (G.2.1 (b + 12)), .ref (G.2.1 (b + 13)), .int (R 6)]) := gE_st hb (by omega)
theorem he_s3 {G : gG} {b : Nat} {R : Nat → Int32} (hb : IsSt b) : gE G (b + 3) R = .inr (0, [.ref (G.2.1 (b + 14)), .ref (G.2.1 (b + 15)), .ref (G.2.1 (b + 16)), .ref (G.2.1 (b + 17)), .ref (G.2.1 (b + 18)), .ref (G.2.1 (b + 19)), .ref (G.2.1 (b + 20))]) := gE_st hb (by omega)
theorem ia_s4 {G : gG} {b : Nat} (hN : 392 ≤ gN G) (hb : IsSt b) : IA G (b + 4) 16 := ia_st hN hb (by omega) (fun _ => rfl) (by omega)
theorem ia_s5 {G : gG} {b : Nat} (hN : 392 ≤ gN G) (hb : IsSt b) : IA G (b + 5) 16 := ia_st hN hb (by omega) (fun _ => rfl) (by omega)
theorem ia_s6 {G : gG} {b : Nat} (hN : 392 ≤ gN G) (hb : IsSt b) : IA G (b + 6) 16 := ia_st hN hb (by omega) (fun _ => rfl) (by omega)
theorem ia_s7 {G : gG} {b : Nat} (hN : 392 ≤ gN G) (hb : IsSt b) : IA G (b + 7) 16 := ia_st hN hb (by omega) (fun _ => rfl) (by omega)
theorem ia_s8 {G : gG} {b : Nat} (hN : 392 ≤ gN G) (hb : IsSt b) : IA G (b + 8) 8 := ia_st hN hb (by omega) (fun _ => rfl) (by omega)
theorem ia_s9 {G : gG} {b : Nat} (hN : 392 ≤ gN G) (hb : IsSt b) : IA G (b + 9) 8 := ia_st hN hb (by omega) (fun _ => rfl) (by omega)
theorem ia_s10 {G : gG} {b : Nat} (hN : 392 ≤ gN G) (hb : IsSt b) : IA G (b + 10) 8 := ia_st hN hb (by omega) (fun _ => rfl) (by omega)
theorem ia_s11 {G : gG} {b : Nat} (hN : 392 ≤ gN G) (hb : IsSt b) : IA G (b + 11) 8 := ia_st hN hb (by omega) (fun _ => rfl) (by omega)
theorem ia_s12 {G : gG} {b : Nat} (hN : 392 ≤ gN G) (hb : IsSt b) : IA G (b + 12) 8 := ia_st hN hb (by omega) (fun _ => rfl) (by omega)
theorem ia_s13 {G : gG} {b : Nat} (hN : 392 ≤ gN G) (hb : IsSt b) : IA G (b + 13) 8 := ia_st hN hb (by omega) (fun _ => rfl) (by omega)
theorem ia_s14 {G : gG} {b : Nat} (hN : 392 ≤ gN G) (hb : IsSt b) : IA G (b + 14) 5 := ia_st hN hb (by omega) (fun _ => rfl) (by omega)
theorem ia_s15 {G : gG} {b : Nat} (hN : 392 ≤ gN G) (hb : IsSt b) : IA G (b + 15) 5 := ia_st hN hb (by omega) (fun _ => rfl) (by omega)
theorem ia_s16 {G : gG} {b : Nat} (hN : 392 ≤ gN G) (hb : IsSt b) : IA G (b + 16) 5 := ia_st hN hb (by omega) (fun _ => rfl) (by omega)
theorem ia_s17 {G : gG} {b : Nat} (hN : 392 ≤ gN G) (hb : IsSt b) : IA G (b + 17) 4 := ia_st hN hb (by omega) (fun _ => rfl) (by omega)
theorem ia_s18 {G : gG} {b : Nat} (hN : 392 ≤ gN G) (hb : IsSt b) : IA G (b + 18) 4 := ia_st hN hb (by omega) (fun _ => rfl) (by omega)
theorem ia_s19 {G : gG} {b : Nat} (hN : 392 ≤ gN G) (hb : IsSt b) : IA G (b + 19) 16 := ia_st hN hb (by omega) (fun _ => rfl) (by omega)
theorem ia_s20 {G : gG} {b : Nat} (hN : 392 ≤ gN G) (hb : IsSt b) : IA G (b + 20) 16 := ia_st hN hb (by omega) (fun _ => rfl) (by omega)
theorem he_c0 {G : gG} {R : Nat → Int32} : gE G 0 R = .inr (9, [.ref (G.2.1 1), .ref (G.2.1 14), .ref (G.2.1 35), .ref (G.2.1 3), .ref (G.2.1 5), .ref (G.2.1 8)]) := rfl
theorem he_c1 {G : gG} {R : Nat → Int32} : gE G 1 R = .inr (2, [.ref (G.2.1 2), .int (R 1)]) := rfl
theorem he_c2 {G : gG} {R : Nat → Int32} : gE G 2 R = gia G 100 R := rfl
theorem ia_c2 {G : gG} (h : 392 ≤ gN G) : IA G 2 100 := ⟨by omega, by omega, fun _ => rfl⟩
theorem he_c3 {G : gG} {R : Nat → Int32} : gE G 3 R = .inr (3, [.ref (G.2.1 4), .int (R 1), .int (R 2)]) := rfl
theorem he_c4 {G : gG} {R : Nat → Int32} : gE G 4 R = .inl (G.2.2.1 3, 14, .inr (.inr (.inr (.inr (fun j => some (G.2.1 (56 + 21 * j))))))) := rfl
theorem he_c5 {G : gG} {R : Nat → Int32} : gE G 5 R = .inr (5, [.ref (G.2.1 6), .ref (G.2.1 7)]) := rfl
theorem he_c6 {G : gG} {R : Nat → Int32} : gE G 6 R = .inl (G.2.2.1 3, 2, .inr (.inr (.inr (.inr (fun j => some (G.2.1 (350 + 21 * j))))))) := rfl
theorem he_c7 {G : gG} {R : Nat → Int32} : gE G 7 R = gia G 2 R := rfl
theorem ia_c7 {G : gG} (h : 392 ≤ gN G) : IA G 7 2 := ⟨by omega, by omega, fun _ => rfl⟩
theorem he_c8 {G : gG} {R : Nat → Int32} : gE G 8 R = .inr (4, [.ref (G.2.1 9)]) := rfl
theorem he_c9 {G : gG} {R : Nat → Int32} : gE G 9 R = .inr (8, [.ref (G.2.1 10), .ref (G.2.1 11), .ref (G.2.1 12), .ref (G.2.1 13), .int (R 4), .int (R 5), .int (R 6)]) := rfl
theorem he_c10 {G : gG} {R : Nat → Int32} : gE G 10 R = gia G 225 R := rfl
theorem ia_c10 {G : gG} (h : 392 ≤ gN G) : IA G 10 225 := ⟨by omega, by omega, fun _ => rfl⟩
theorem he_c11 {G : gG} {R : Nat → Int32} : gE G 11 R = gia G 225 R := rfl
theorem ia_c11 {G : gG} (h : 392 ≤ gN G) : IA G 11 225 := ⟨by omega, by omega, fun _ => rfl⟩
theorem he_c12 {G : gG} {R : Nat → Int32} : gE G 12 R = gia G 16 R := rfl
theorem ia_c12 {G : gG} (h : 392 ≤ gN G) : IA G 12 16 := ⟨by omega, by omega, fun _ => rfl⟩
theorem he_c13 {G : gG} {R : Nat → Int32} : gE G 13 R = gia G 24 R := rfl
theorem ia_c13 {G : gG} (h : 392 ≤ gN G) : IA G 13 24 := ⟨by omega, by omega, fun _ => rfl⟩
theorem sw_nek {x y : Int32} {k : Int} (h : ¬ x = y) (hk : y.toInt = k) : x.toInt ≠ k := fun e => h (Int32.toInt_inj.mp (e.trans hk.symm))
section GR
variable {p : Program} {l : Launch} {e : Env} {R : Room} {s : State} {m : MethodId} {args : Array Value} {below : List Frame} {meth : Method} {c : Code} {H : Heap} {locs : List Loc} {cells slots : Nat}
variable {cc : ByteArray} {nL pc : Nat} {ls : Array Slot} {G : gG} {S S' : Sg} {own : String}
theorem g_ireti {x r : Int32} (cx : gCx p s m c cc nL own G) (hr : meth.sig.returnType = some .int) (hlocks : meth.locks = false) (hP : gP G S H) (hS : va_S (gA G s.heap.size) s.heap H locs) (hf : some (x, S) = some (r, S')) (hdg : decode cc pc = .ok (.ireturn, 1)) :
    W p l e R s m args below meth c H locs cells slots (MQ below (gQ G S' (some (.int r)) (gA G s.heap.size)) args s cells slots (gA G s.heap.size)) (F0 m pc ls [.int x]) := by
  obtain ⟨rfl, rfl⟩ := Prod.mk.inj (Option.some.inj hf)
  exact g_iret (sz := 0) cx hr hlocks hP hS rfl hdg
theorem g_zreti {x r : Int32} (cx : gCx p s m c cc nL own G) (hr : meth.sig.returnType = some .boolean) (hlocks : meth.locks = false) (hP : gP G S H) (hS : va_S (gA G s.heap.size) s.heap H locs) (hb : isb x = true) (hf : some (x, S) = some (r, S')) (hdg : decode cc pc = .ok (.ireturn, 1)) :
    W p l e R s m args below meth c H locs cells slots (MQ below (gQ G S' (some (.int r)) (gA G s.heap.size)) args s cells slots (gA G s.heap.size)) (F0 m pc ls [.int x]) := by
  obtain ⟨rfl, rfl⟩ := Prod.mk.inj (Option.some.inj hf)
  exact g_zret cx hr hlocks hP hS hb rfl hdg
theorem g_lreti {x r : Int64} (cx : gCx p s m c cc nL own G) (hr : meth.sig.returnType = some .long) (hlocks : meth.locks = false) (hP : gP G S H) (hS : va_S (gA G s.heap.size) s.heap H locs) (hf : some (x, S) = some (r, S')) (hdg : decode cc pc = .ok (.lreturn, 1)) :
    W p l e R s m args below meth c H locs cells slots (MQ below (gQ G S' (some (.long r)) (gA G s.heap.size)) args s cells slots (gA G s.heap.size)) (F0 m pc ls [.long x]) := by
  obtain ⟨rfl, rfl⟩ := Prod.mk.inj (Option.some.inj hf)
  exact g_lret cx hr hlocks hP hS rfl hdg
theorem g_areti {x r : Nat} {n : String} (cx : gCx p s m c cc nL own G) (hr : meth.sig.returnType = some (.object n)) (hlocks : meth.locks = false) (hP : gP G S H) (hS : va_S (gA G s.heap.size) s.heap H locs) (hf : some (x, S) = some (r, S')) (hdg : decode cc pc = .ok (.areturn, 1)) :
    W p l e R s m args below meth c H locs cells slots (MQ below (gQ G S' (some (.ref (G.2.1 r))) (gA G s.heap.size)) args s cells slots (gA G s.heap.size)) (F0 m pc ls [.ref (G.2.1 x)]) := by
  obtain ⟨rfl, rfl⟩ := Prod.mk.inj (Option.some.inj hf)
  exact g_aret cx hr hlocks hP hS rfl hdg
theorem g_vreti (cx : gCx p s m c cc nL own G) (hr : meth.sig.returnType = none) (hlocks : meth.locks = false) (hP : gP G S H) (hS : va_S (gA G s.heap.size) s.heap H locs) (hf : some S = some S') (hdg : decode cc pc = .ok (.return_, 1)) :
    W p l e R s m args below meth c H locs cells slots (MQ below (gQ G S' none (gA G s.heap.size)) args s cells slots (gA G s.heap.size)) (F0 m pc ls []) := by
  obtain rfl := Option.some.inj hf
  exact g_vret cx hr hlocks hP hS rfl hdg
end GR
