section
-- ===== PART A: goes FIRST, ahead of the names: the tables' words, and 'selects' of the private methods out of them =====
/-- a private method of a class that the tables say can be made, by its rows of tables_1 -/
def lw_okq (q : MethodName × Nat) : Prop := (q.1.cls ≠ "java/lang/invoke/MethodHandle" ∧ q.1.cls ≠ "java/lang/invoke/VarHandle") ∧ Cond.instantiable q.1.cls q.2 ∈ tables_1 ∧ Cond.privateMethod q.1 ∈ tables_1 ∧ Cond.instanceMethod q.1 ∈ tables_1
theorem lw_p0 : lw_okq (⟨"RustRails$GameText", "holds", "(IC)Z"⟩, 2) := ⟨⟨by decide +kernel, by decide +kernel⟩, List.mem_of_getElem? (i := 30) (by decide +kernel), List.mem_of_getElem? (i := 353) (by decide +kernel), List.mem_of_getElem? (i := 354) (by decide +kernel)⟩
theorem lw_p1 : lw_okq (⟨"RustRails$GameText", "digitAt", "(I)I"⟩, 2) := ⟨⟨by decide +kernel, by decide +kernel⟩, List.mem_of_getElem? (i := 30) (by decide +kernel), List.mem_of_getElem? (i := 360) (by decide +kernel), List.mem_of_getElem? (i := 361) (by decide +kernel)⟩
theorem lw_p2 : lw_okq (⟨"RustRails$GameText", "readPart", "(LRustRails$State;I)I"⟩, 2) := ⟨⟨by decide +kernel, by decide +kernel⟩, List.mem_of_getElem? (i := 30) (by decide +kernel), List.mem_of_getElem? (i := 365) (by decide +kernel), List.mem_of_getElem? (i := 366) (by decide +kernel)⟩
theorem lw_p3 : lw_okq (⟨"RustRails$GameText", "readTrack", "(LRustRails$State;I)I"⟩, 2) := ⟨⟨by decide +kernel, by decide +kernel⟩, List.mem_of_getElem? (i := 30) (by decide +kernel), List.mem_of_getElem? (i := 370) (by decide +kernel), List.mem_of_getElem? (i := 371) (by decide +kernel)⟩
theorem lw_p4 : lw_okq (⟨"RustRails$GameText", "errorOfCities", "(II)I"⟩, 2) := ⟨⟨by decide +kernel, by decide +kernel⟩, List.mem_of_getElem? (i := 30) (by decide +kernel), List.mem_of_getElem? (i := 374) (by decide +kernel), List.mem_of_getElem? (i := 375) (by decide +kernel)⟩
theorem lw_p5 : lw_okq (⟨"RustRails$GameText", "readContract", "(LRustRails$State;I)I"⟩, 2) := ⟨⟨by decide +kernel, by decide +kernel⟩, List.mem_of_getElem? (i := 30) (by decide +kernel), List.mem_of_getElem? (i := 383) (by decide +kernel), List.mem_of_getElem? (i := 384) (by decide +kernel)⟩
theorem lw_p6 : lw_okq (⟨"RustRails$History", "stateAt", "(I)LRustRails$State;"⟩, 3) := ⟨⟨by decide +kernel, by decide +kernel⟩, List.mem_of_getElem? (i := 213) (by decide +kernel), List.mem_of_getElem? (i := 401) (by decide +kernel), List.mem_of_getElem? (i := 402) (by decide +kernel)⟩
theorem lw_p7 : lw_okq (⟨"RustRails$State", "serveContracts", "()V"⟩, 9) := ⟨⟨by decide +kernel, by decide +kernel⟩, List.mem_of_getElem? (i := 44) (by decide +kernel), List.mem_of_getElem? (i := 439) (by decide +kernel), List.mem_of_getElem? (i := 440) (by decide +kernel)⟩
theorem lw_p8 : lw_okq (⟨"RustRails$Contracts", "move", "(II)V"⟩, 7) := ⟨⟨by decide +kernel, by decide +kernel⟩, List.mem_of_getElem? (i := 85) (by decide +kernel), List.mem_of_getElem? (i := 468) (by decide +kernel), List.mem_of_getElem? (i := 469) (by decide +kernel)⟩
theorem lw_p9 : lw_okq (⟨"RustRails$State", "payUpkeep", "()V"⟩, 9) := ⟨⟨by decide +kernel, by decide +kernel⟩, List.mem_of_getElem? (i := 44) (by decide +kernel), List.mem_of_getElem? (i := 472) (by decide +kernel), List.mem_of_getElem? (i := 473) (by decide +kernel)⟩
theorem lw_p10 : lw_okq (⟨"RustRails$State", "settle", "()I"⟩, 9) := ⟨⟨by decide +kernel, by decide +kernel⟩, List.mem_of_getElem? (i := 44) (by decide +kernel), List.mem_of_getElem? (i := 488) (by decide +kernel), List.mem_of_getElem? (i := 489) (by decide +kernel)⟩
theorem lw_p11 : lw_okq (⟨"java/lang/Throwable", "fillInStackTrace", "(I)Ljava/lang/Throwable;"⟩, 6) := ⟨⟨by decide +kernel, by decide +kernel⟩, List.mem_of_getElem? (i := 556) (by decide +kernel), List.mem_of_getElem? (i := 554) (by decide +kernel), List.mem_of_getElem? (i := 555) (by decide +kernel)⟩
theorem lw_p12 : lw_okq (⟨"RustRails", "needTrack", "(I)V"⟩, 6) := ⟨⟨by decide +kernel, by decide +kernel⟩, List.mem_of_getElem? (i := 22) (by decide +kernel), List.mem_of_getElem? (i := 649) (by decide +kernel), List.mem_of_getElem? (i := 650) (by decide +kernel)⟩
theorem lw_p13 : lw_okq (⟨"RustRails", "needTrain", "(II)V"⟩, 6) := ⟨⟨by decide +kernel, by decide +kernel⟩, List.mem_of_getElem? (i := 22) (by decide +kernel), List.mem_of_getElem? (i := 705) (by decide +kernel), List.mem_of_getElem? (i := 706) (by decide +kernel)⟩
theorem lw_p14 : lw_okq (⟨"RustRails", "needContract", "(I)V"⟩, 6) := ⟨⟨by decide +kernel, by decide +kernel⟩, List.mem_of_getElem? (i := 22) (by decide +kernel), List.mem_of_getElem? (i := 729) (by decide +kernel), List.mem_of_getElem? (i := 730) (by decide +kernel)⟩
theorem lw_p15 : lw_okq (⟨"RustRails", "needCity", "(I)V"⟩, 6) := ⟨⟨by decide +kernel, by decide +kernel⟩, List.mem_of_getElem? (i := 22) (by decide +kernel), List.mem_of_getElem? (i := 801) (by decide +kernel), List.mem_of_getElem? (i := 802) (by decide +kernel)⟩
def lw_privs_1 : List (MethodName × Nat) := [(⟨"RustRails$GameText", "holds", "(IC)Z"⟩, 2), (⟨"RustRails$GameText", "digitAt", "(I)I"⟩, 2), (⟨"RustRails$GameText", "readPart", "(LRustRails$State;I)I"⟩, 2), (⟨"RustRails$GameText", "readTrack", "(LRustRails$State;I)I"⟩, 2), (⟨"RustRails$GameText", "errorOfCities", "(II)I"⟩, 2), (⟨"RustRails$GameText", "readContract", "(LRustRails$State;I)I"⟩, 2), (⟨"RustRails$History", "stateAt", "(I)LRustRails$State;"⟩, 3), (⟨"RustRails$State", "serveContracts", "()V"⟩, 9), (⟨"RustRails$Contracts", "move", "(II)V"⟩, 7), (⟨"RustRails$State", "payUpkeep", "()V"⟩, 9), (⟨"RustRails$State", "settle", "()I"⟩, 9), (⟨"java/lang/Throwable", "fillInStackTrace", "(I)Ljava/lang/Throwable;"⟩, 6), (⟨"RustRails", "needTrack", "(I)V"⟩, 6), (⟨"RustRails", "needTrain", "(II)V"⟩, 6), (⟨"RustRails", "needContract", "(I)V"⟩, 6), (⟨"RustRails", "needCity", "(I)V"⟩, 6)]
theorem lw_r1 : ∀ q ∈ lw_privs_1, lw_okq q := List.forall_mem_cons.mpr ⟨lw_p0, List.forall_mem_cons.mpr ⟨lw_p1, List.forall_mem_cons.mpr ⟨lw_p2, List.forall_mem_cons.mpr ⟨lw_p3, List.forall_mem_cons.mpr ⟨lw_p4, List.forall_mem_cons.mpr ⟨lw_p5, List.forall_mem_cons.mpr ⟨lw_p6, List.forall_mem_cons.mpr ⟨lw_p7, List.forall_mem_cons.mpr ⟨lw_p8, List.forall_mem_cons.mpr ⟨lw_p9, List.forall_mem_cons.mpr ⟨lw_p10, List.forall_mem_cons.mpr ⟨lw_p11, List.forall_mem_cons.mpr ⟨lw_p12, List.forall_mem_cons.mpr ⟨lw_p13, List.forall_mem_cons.mpr ⟨lw_p14, List.forall_mem_cons.mpr ⟨lw_p15, fun _ h => absurd h List.not_mem_nil⟩⟩⟩⟩⟩⟩⟩⟩⟩⟩⟩⟩⟩⟩⟩⟩
theorem lw_p16 : lw_okq (⟨"RustRails", "needTrainOfHolder", "(II)V"⟩, 6) := ⟨⟨by decide +kernel, by decide +kernel⟩, List.mem_of_getElem? (i := 22) (by decide +kernel), List.mem_of_getElem? (i := 830) (by decide +kernel), List.mem_of_getElem? (i := 831) (by decide +kernel)⟩
theorem lw_p17 : lw_okq (⟨"RustRails$Ways", "setPrices", "(LRustRails$State;I)V"⟩, 7) := ⟨⟨by decide +kernel, by decide +kernel⟩, List.mem_of_getElem? (i := 254) (by decide +kernel), List.mem_of_getElem? (i := 847) (by decide +kernel), List.mem_of_getElem? (i := 848) (by decide +kernel)⟩
theorem lw_p18 : lw_okq (⟨"RustRails$Ways", "measure", "(LRustRails$Tracks;II)V"⟩, 7) := ⟨⟨by decide +kernel, by decide +kernel⟩, List.mem_of_getElem? (i := 254) (by decide +kernel), List.mem_of_getElem? (i := 857) (by decide +kernel), List.mem_of_getElem? (i := 858) (by decide +kernel)⟩
theorem lw_p19 : lw_okq (⟨"RustRails$Ways", "beginWith", "(III)V"⟩, 7) := ⟨⟨by decide +kernel, by decide +kernel⟩, List.mem_of_getElem? (i := 254) (by decide +kernel), List.mem_of_getElem? (i := 866) (by decide +kernel), List.mem_of_getElem? (i := 867) (by decide +kernel)⟩
theorem lw_p20 : lw_okq (⟨"RustRails$Ways", "leastAt", "(I)I"⟩, 7) := ⟨⟨by decide +kernel, by decide +kernel⟩, List.mem_of_getElem? (i := 254) (by decide +kernel), List.mem_of_getElem? (i := 870) (by decide +kernel), List.mem_of_getElem? (i := 871) (by decide +kernel)⟩
theorem lw_p21 : lw_okq (⟨"RustRails$Ways", "chooseLength", "(II)V"⟩, 7) := ⟨⟨by decide +kernel, by decide +kernel⟩, List.mem_of_getElem? (i := 254) (by decide +kernel), List.mem_of_getElem? (i := 874) (by decide +kernel), List.mem_of_getElem? (i := 875) (by decide +kernel)⟩
theorem lw_p22 : lw_okq (⟨"RustRails$Ways", "follow", "(LRustRails$Tracks;I)V"⟩, 7) := ⟨⟨by decide +kernel, by decide +kernel⟩, List.mem_of_getElem? (i := 254) (by decide +kernel), List.mem_of_getElem? (i := 878) (by decide +kernel), List.mem_of_getElem? (i := 879) (by decide +kernel)⟩
theorem lw_p23 : lw_okq (⟨"RustRails$Slots", "stateAt", "(I)LRustRails$State;"⟩, 2) := ⟨⟨by decide +kernel, by decide +kernel⟩, List.mem_of_getElem? (i := 233) (by decide +kernel), List.mem_of_getElem? (i := 1084) (by decide +kernel), List.mem_of_getElem? (i := 1085) (by decide +kernel)⟩
theorem lw_p24 : lw_okq (⟨"RustRailsModel", "refused", "(I)Z"⟩, 16) := ⟨⟨by decide +kernel, by decide +kernel⟩, List.mem_of_getElem? (i := 1106) (by decide +kernel), List.mem_of_getElem? (i := 1186) (by decide +kernel), List.mem_of_getElem? (i := 1187) (by decide +kernel)⟩
theorem lw_p25 : lw_okq (⟨"RustRailsModel", "readAll", "()Z"⟩, 16) := ⟨⟨by decide +kernel, by decide +kernel⟩, List.mem_of_getElem? (i := 1106) (by decide +kernel), List.mem_of_getElem? (i := 1198) (by decide +kernel), List.mem_of_getElem? (i := 1199) (by decide +kernel)⟩
theorem lw_p26 : lw_okq (⟨"RustRailsModel", "eat", "(I)Z"⟩, 16) := ⟨⟨by decide +kernel, by decide +kernel⟩, List.mem_of_getElem? (i := 1106) (by decide +kernel), List.mem_of_getElem? (i := 1202) (by decide +kernel), List.mem_of_getElem? (i := 1203) (by decide +kernel)⟩
theorem lw_p27 : lw_okq (⟨"RustRailsModel", "digit", "(III)I"⟩, 16) := ⟨⟨by decide +kernel, by decide +kernel⟩, List.mem_of_getElem? (i := 1106) (by decide +kernel), List.mem_of_getElem? (i := 1206) (by decide +kernel), List.mem_of_getElem? (i := 1207) (by decide +kernel)⟩
theorem lw_p28 : lw_okq (⟨"RustRailsModel", "readTrack", "()Z"⟩, 16) := ⟨⟨by decide +kernel, by decide +kernel⟩, List.mem_of_getElem? (i := 1106) (by decide +kernel), List.mem_of_getElem? (i := 1210) (by decide +kernel), List.mem_of_getElem? (i := 1211) (by decide +kernel)⟩
theorem lw_p29 : lw_okq (⟨"RustRailsModel", "readContract", "()Z"⟩, 16) := ⟨⟨by decide +kernel, by decide +kernel⟩, List.mem_of_getElem? (i := 1106) (by decide +kernel), List.mem_of_getElem? (i := 1214) (by decide +kernel), List.mem_of_getElem? (i := 1215) (by decide +kernel)⟩
theorem lw_p30 : lw_okq (⟨"RustRailsModel", "note", "()V"⟩, 16) := ⟨⟨by decide +kernel, by decide +kernel⟩, List.mem_of_getElem? (i := 1106) (by decide +kernel), List.mem_of_getElem? (i := 1286) (by decide +kernel), List.mem_of_getElem? (i := 1287) (by decide +kernel)⟩
theorem lw_p31 : lw_okq (⟨"RustRailsModel", "isCity", "(I)Z"⟩, 16) := ⟨⟨by decide +kernel, by decide +kernel⟩, List.mem_of_getElem? (i := 1106) (by decide +kernel), List.mem_of_getElem? (i := 1319) (by decide +kernel), List.mem_of_getElem? (i := 1320) (by decide +kernel)⟩
def lw_privs_2 : List (MethodName × Nat) := [(⟨"RustRails", "needTrainOfHolder", "(II)V"⟩, 6), (⟨"RustRails$Ways", "setPrices", "(LRustRails$State;I)V"⟩, 7), (⟨"RustRails$Ways", "measure", "(LRustRails$Tracks;II)V"⟩, 7), (⟨"RustRails$Ways", "beginWith", "(III)V"⟩, 7), (⟨"RustRails$Ways", "leastAt", "(I)I"⟩, 7), (⟨"RustRails$Ways", "chooseLength", "(II)V"⟩, 7), (⟨"RustRails$Ways", "follow", "(LRustRails$Tracks;I)V"⟩, 7), (⟨"RustRails$Slots", "stateAt", "(I)LRustRails$State;"⟩, 2), (⟨"RustRailsModel", "refused", "(I)Z"⟩, 16), (⟨"RustRailsModel", "readAll", "()Z"⟩, 16), (⟨"RustRailsModel", "eat", "(I)Z"⟩, 16), (⟨"RustRailsModel", "digit", "(III)I"⟩, 16), (⟨"RustRailsModel", "readTrack", "()Z"⟩, 16), (⟨"RustRailsModel", "readContract", "()Z"⟩, 16), (⟨"RustRailsModel", "note", "()V"⟩, 16), (⟨"RustRailsModel", "isCity", "(I)Z"⟩, 16)]
theorem lw_r2 : ∀ q ∈ lw_privs_2, lw_okq q := List.forall_mem_cons.mpr ⟨lw_p16, List.forall_mem_cons.mpr ⟨lw_p17, List.forall_mem_cons.mpr ⟨lw_p18, List.forall_mem_cons.mpr ⟨lw_p19, List.forall_mem_cons.mpr ⟨lw_p20, List.forall_mem_cons.mpr ⟨lw_p21, List.forall_mem_cons.mpr ⟨lw_p22, List.forall_mem_cons.mpr ⟨lw_p23, List.forall_mem_cons.mpr ⟨lw_p24, List.forall_mem_cons.mpr ⟨lw_p25, List.forall_mem_cons.mpr ⟨lw_p26, List.forall_mem_cons.mpr ⟨lw_p27, List.forall_mem_cons.mpr ⟨lw_p28, List.forall_mem_cons.mpr ⟨lw_p29, List.forall_mem_cons.mpr ⟨lw_p30, List.forall_mem_cons.mpr ⟨lw_p31, fun _ h => absurd h List.not_mem_nil⟩⟩⟩⟩⟩⟩⟩⟩⟩⟩⟩⟩⟩⟩⟩⟩
theorem lw_p32 : lw_okq (⟨"RustRailsModel", "why", "([III)I"⟩, 16) := ⟨⟨by decide +kernel, by decide +kernel⟩, List.mem_of_getElem? (i := 1106) (by decide +kernel), List.mem_of_getElem? (i := 1340) (by decide +kernel), List.mem_of_getElem? (i := 1341) (by decide +kernel)⟩
theorem lw_p33 : lw_okq (⟨"RustRailsModel", "findWay", "([IIIII)Z"⟩, 16) := ⟨⟨by decide +kernel, by decide +kernel⟩, List.mem_of_getElem? (i := 1106) (by decide +kernel), List.mem_of_getElem? (i := 1344) (by decide +kernel), List.mem_of_getElem? (i := 1345) (by decide +kernel)⟩
theorem lw_p34 : lw_okq (⟨"RustRailsModel", "layLeast", "([IIII)V"⟩, 16) := ⟨⟨by decide +kernel, by decide +kernel⟩, List.mem_of_getElem? (i := 1106) (by decide +kernel), List.mem_of_getElem? (i := 1348) (by decide +kernel), List.mem_of_getElem? (i := 1349) (by decide +kernel)⟩
theorem lw_p35 : lw_okq (⟨"RustRailsModel", "goneBy", "([IIIII)I"⟩, 16) := ⟨⟨by decide +kernel, by decide +kernel⟩, List.mem_of_getElem? (i := 1106) (by decide +kernel), List.mem_of_getElem? (i := 1353) (by decide +kernel), List.mem_of_getElem? (i := 1354) (by decide +kernel)⟩
theorem lw_p36 : lw_okq (⟨"RustRailsModel", "runOn", "([III)I"⟩, 16) := ⟨⟨by decide +kernel, by decide +kernel⟩, List.mem_of_getElem? (i := 1106) (by decide +kernel), List.mem_of_getElem? (i := 1363) (by decide +kernel), List.mem_of_getElem? (i := 1364) (by decide +kernel)⟩
theorem lw_p37 : lw_okq (⟨"RustRailsModel", "does", "(III)Z"⟩, 16) := ⟨⟨by decide +kernel, by decide +kernel⟩, List.mem_of_getElem? (i := 1106) (by decide +kernel), List.mem_of_getElem? (i := 1430) (by decide +kernel), List.mem_of_getElem? (i := 1431) (by decide +kernel)⟩
theorem lw_p38 : lw_okq (⟨"RustRailsModel", "runAll", "([I)V"⟩, 16) := ⟨⟨by decide +kernel, by decide +kernel⟩, List.mem_of_getElem? (i := 1106) (by decide +kernel), List.mem_of_getElem? (i := 1440) (by decide +kernel), List.mem_of_getElem? (i := 1441) (by decide +kernel)⟩
def lw_privs_3 : List (MethodName × Nat) := [(⟨"RustRailsModel", "why", "([III)I"⟩, 16), (⟨"RustRailsModel", "findWay", "([IIIII)Z"⟩, 16), (⟨"RustRailsModel", "layLeast", "([IIII)V"⟩, 16), (⟨"RustRailsModel", "goneBy", "([IIIII)I"⟩, 16), (⟨"RustRailsModel", "runOn", "([III)I"⟩, 16), (⟨"RustRailsModel", "does", "(III)Z"⟩, 16), (⟨"RustRailsModel", "runAll", "([I)V"⟩, 16)]
theorem lw_r3 : ∀ q ∈ lw_privs_3, lw_okq q := List.forall_mem_cons.mpr ⟨lw_p32, List.forall_mem_cons.mpr ⟨lw_p33, List.forall_mem_cons.mpr ⟨lw_p34, List.forall_mem_cons.mpr ⟨lw_p35, List.forall_mem_cons.mpr ⟨lw_p36, List.forall_mem_cons.mpr ⟨lw_p37, List.forall_mem_cons.mpr ⟨lw_p38, fun _ h => absurd h List.not_mem_nil⟩⟩⟩⟩⟩⟩⟩
def lw_privs : List (MethodName × Nat) := lw_privs_1 ++ (lw_privs_2 ++ (lw_privs_3))
def lw_tbl : List Cond := k2_sels lw_privs ++ tables_1
theorem lw_privs_ok : ∀ q ∈ lw_privs, lw_okq q := by
  show ∀ q ∈ lw_privs_1 ++ (lw_privs_2 ++ (lw_privs_3)), lw_okq q
  exact List.forall_mem_append.mpr ⟨lw_r1, List.forall_mem_append.mpr ⟨lw_r2, lw_r3⟩⟩
/-! ===== BEGIN words of one list among another's, by their places ===== -/
theorem goodIn_r {big : List Cond} (ws : List Cond) (ps : List Nat) (hp : ws = ps.filterMap (fun i => big[i]?)) (h : ws.all goodWord = true) : GoodIn big ws := by
  intro w hw
  have h1 := List.all_eq_true.mp h w hw
  rw [hp] at hw
  obtain ⟨i, -, hi⟩ := List.mem_filterMap.mp hw
  have hm : w ∈ big := by first | exact List.mem_of_getElem? hi | exact List.getElem?_mem hi
  exact ⟨hm, good_of_word h1⟩
theorem goodIn_app {big a b : List Cond} (ha : GoodIn big a) (hb : GoodIn big b) : GoodIn big (a ++ b) := fun w h => (List.mem_append.mp h).elim (ha w) (hb w)
theorem goodIn_ca {big a b : List Cond} {c : Cond} (ha : GoodIn big (c :: a)) (hb : GoodIn big b) : GoodIn big (c :: (a ++ b)) := fun w h => (List.mem_cons.mp h).elim (fun e => ha w (List.mem_cons.mpr (Or.inl e))) (fun h => (List.mem_append.mp h).elim (fun h => ha w (List.mem_cons.mpr (Or.inr h))) (hb w))
theorem goodIn_sub {big ws : List Cond} (hm : ∀ w ∈ ws, w ∈ big) (h : ws.all goodWord = true) : GoodIn big ws := fun w hw => ⟨hm w hw, good_of_word (List.all_eq_true.mp h w hw)⟩
/-! ===== END ===== -/

/-! ===== BEGIN exceptions that leave a method, and their catching by the caller (launches without stack traces) ===== -/
section VXA
/-! The laws vx_back, vx_callV, vx_callS, vx_callSW, vx_throw0, vx_throwS follow proofs of the library, with one case more: JvmDerived/Free/Laws.lean (Back.of_free), Shelf42/LK1.lean (callV, callS), Shelf/KitTraced.lean (throwNew0V, throwNewS). -/
/-- where a method has thrown q: the class by its name, the cell, what was written, the world -/
def vx_T (XC : String → State → State → Prop) (st : State) (q : Addr) (t : State) (mc ms : Nat) (free : Addr → Prop) : Prop :=
  ∃ (E : String) (ce : Cell) (L : List Loc), XC E st t ∧ t.heap[q]? = some ce ∧ ce.vm = .none ∧ st.vm.findClass E = some ce.cls ∧ st.WarmedH t.vm ∧ st.sameButNew ({ t with vm := st.vm } : State) L mc ms ∧ ∀ z ∈ L, free z.base
def vx_Q (Qc : Array Value → State → Outcome → State → Prop) (XC : String → State → State → Prop) (mc ms : Nat) (free : Addr → Prop) : Array Value → State → Outcome → State → Prop := fun a st o t =>
  (Qc a st o t ∧ ∃ L, FrameEnd st o t L mc ms ∧ ∀ q ∈ L, free q.base) ∨ ∃ q, o = .threw q ∧ vx_T XC st q t mc ms free
/-- a callee that returns or throws -/
def vx_Met (l : Launch) (y : MethodName) (ws : List Cond) (rm : Room) (Pc : Array Value → State → Prop) (Qc : Array Value → State → Outcome → State → Prop) (XC : String → State → State → Prop) (mc ms : Nat) (free : Addr → Prop) : Prop :=
  MetFree l y (headSpec ws rm) Pc (fun _ _ _ _ _ => True) (vx_Q Qc XC mc ms free)
def vx_Post (XC : String → State → State → Prop) (mc ms : Nat) (free : Addr → Prop) : Pt → Array Value → Addr → Pt → Prop := fun A a q B =>
  ∃ (g : JFrame) (mk : MethodId) (t : State) (L : List Loc) (E : String) (ce : Cell), B.U.heap = t.heap ∧ B.U.vm = t.vm ∧ XC E (A.U.calling g mk a) t ∧ t.heap[q]? = some ce ∧ ce.vm = .none ∧ A.U.vm.findClass E = some ce.cls ∧ B.locs = A.locs ++ L ∧ (∀ z ∈ L, free z.base) ∧ B.cells = A.cells + mc ∧ B.slots = A.slots + ms
def vx_Back (l : Launch) (R : Room) (p : Program) (e : Env) (below : List Frame) (s : State) (sargs : Array Value) (y : MethodName) (len W9 : Nat)
    (Pre : Pt → Array Value → Prop) (Post : Pt → Array Value → Option Value → Pt → Prop) (PostX : Pt → Array Value → Addr → Pt → Prop) : Prop :=
  ∀ (m : MethodId) (meth : Method) (c : Code) (A : Pt) (g : JFrame) (ig : Instr) (mk : MethodId) (a : Array Value),
    Stand p l e R s m sargs below meth c A.U A.locs A.cells A.slots → g.method = m → g.locals.size = c.maxLocals → decode c.code g.pc = .ok (ig, len) →
    2 * g.monitorRoom + (g.stack.map fun v => v.category).sum ≤ W9 → A.U.methodNamed? y = some mk → Pre A a →
    (∃ (v : Option Value) (B : Pt), Stand p l e R s m sargs below meth c B.U B.locs B.cells B.slots ∧ Post A a v B ∧
      Steps p.tables e below (doInvoke e (A.U.setTop g) [] mk a).1 (B.U.setTop { g with pc := g.pc + len, stack := v.toList ++ g.stack })) ∨
    (∃ (q : Addr) (B : Pt), Stand p l e R s m sargs below meth c B.U B.locs B.cells B.slots ∧ PostX A a q B ∧
      Steps p.tables e below (doInvoke e (A.U.setTop g) [] mk a).1 ((B.U.setTop g).pushFrame (.throwing q)))
section Payer
variable {l : Launch} {R : Room} {p : Program} {e : Env} {below : List Frame} {s : State} {sargs : Array Value} {y : MethodName} {len W9 : Nat}
theorem vx_back {ws : List Cond} {rm : Room} {Pc : Array Value → State → Prop} {Qc : Array Value → State → Outcome → State → Prop} {XC : String → State → State → Prop} {mc ms : Nat} {free : Addr → Prop} {bytes : ByteArray} {maxL : Nat} {ret : Option FieldType}
    (hM : vx_Met l y ws rm Pc Qc XC mc ms free) (hblind : FrameBlind Pc) (hrc : rm.cells = mc) (hrs : rm.slots = ms)
    (hframes : rm.frames + 1 ≤ R.frames) (hlocals : W9 + (maxL + 11) + rm.locals ≤ R.locals)
    (hws : ∀ w ∈ ws, ∀ a' U, s.WarmedH U.vm → w.before a' U = true) (hcode : Cond.code y bytes maxL ret ∈ ws) (hinit : ∀ a' U, s.WarmedH U.vm → (Cond.initialized y.cls).before a' U = true) :
    vx_Back l R p e below s sargs y len W9 (PreOf R mc ms Pc) (PostOf Qc mc ms free) (vx_Post XC mc ms free) := by
  intro m meth c A g ig mk a X hg hsize hdg hW hn hp
  have h1 : (headSpec ws rm).pre.before a A.U = true := atoms_intro fun w hw => hws w hw _ _ X.warmed
  have h2 : (Cond.code y bytes maxL ret).before a A.U = true := hws _ hcode _ _ X.warmed
  have h3 : (Cond.initialized y.cls).before a A.U = true := hinit _ _ X.warmed
  have h4 : A.cells + (headSpec ws rm).room.cells ≤ R.cells := by rw [show (headSpec ws rm).room.cells = mc from hrc]; exact hp.1
  have h5 : A.slots + (headSpec ws rm).room.slots ≤ R.slots := by rw [show (headSpec ws rm).room.slots = ms from hrs]; exact hp.2.1
  have hPc : Pc a (A.U.calling g mk a) := hblind _ _ _ _ hp.2.2
  obtain ⟨U, Ls, c0, s0⟩ := A
  dsimp only [Pt.U, Pt.locs, Pt.cells, Pt.slots] at h1 h2 h3 h4 h5 X hn hPc ⊢
  obtain ⟨methY, cY, hmY, hcY, -, hlY, -, -, -, -⟩ := Cond.code_spec hn h2
  obtain ⟨kY, hkY, -⟩ := className_of_methodNamed hn
  have hinitY : kY.init = .initialized := Cond.initialized_spec (findClass_of_methodNamed hn) hkY h3
  have h : At U g.method c below := by rw [hg]; exact X.here
  have hlocals9 : W9 + (maxL + 11) + (headSpec ws rm).room.locals ≤ R.locals := hlocals
  have happ : (headSpec ws rm).appliesLoose y e.platform (U.calling g mk a) = true :=
    Spec.appliesLoose_calling (g := g) h hdg hn hkY hinitY
      (X.room_calling (g := g) (R' := (headSpec ws rm).room) hsize hmY hcY hframes (by rw [hlY]; omega) h4 h5) h1
  obtain ⟨mid, hmid⟩ := h.above
  have hfr : (U.setTop g).frames = (.java g :: mid) ++ below := by rw [State.frames_setTop' g h.top, hmid]; rfl
  obtain ⟨o, s₂, hsteps, -, hend, hq⟩ := Steps.callFree hM p X.admits X.cas X.clock (acts := []) hfr happ hPc trivial
  have hq' : vx_Q Qc XC mc ms free a (U.calling g mk a) o s₂ := hq
  rw [State.frames_setTop' g h.top] at hend
  obtain ⟨g₀, hg0⟩ := Option.isSome_iff_exists.mp h.top
  obtain ⟨r, hr⟩ := State.topJava?_eq_some.mp hg0
  have hr' : (({ U with heap := s₂.heap, slotsUsed := s₂.slotsUsed } : State).setVm s₂.vm).frames = .java g₀ :: r := hr
  rcases hq' with ⟨hqc, L, hfe, hL⟩ | ⟨q, rfl, E, ce, L, hx, hce, hcv, hcl, hW₂, hsm, hL⟩
  · obtain ⟨⟨v, rfl⟩, hW₂, e2, q2, q3, q4, q5, q6⟩ := id hfe
    have e3 : s₂ = ({ (U.calling g mk a).setFrames s₂.frames with heap := s₂.heap, slotsUsed := s₂.slotsUsed } : State).setVm s₂.vm := by
      have : s₂ = ({ s₂ with vm := (U.calling g mk a).vm } : State).setVm s₂.vm := rfl
      rw [e2] at this
      exact this
    obtain ⟨c₂, i₂, len₂, hc₂, hd₂, hf₂⟩ := hend
    have hW' : U.WarmedH s₂.vm := hW₂
    have hcc : c₂ = c := by
      have h1 : s₂.code? g.method = U.code? g.method := by
        rw [State.code?_eq, State.code?_eq, hW'.alike.method?]
      exact Option.some.inj (hc₂.symm.trans (h1.trans h.code))
    subst hcc
    have hlen : len₂ = len := by rw [hdg] at hd₂; cases hd₂; rfl
    subst hlen
    have hs₂ : s₂ = (({ U with heap := s₂.heap, slotsUsed := s₂.slotsUsed } : State).setVm s₂.vm).setTop { g with pc := g.pc + len₂, stack := v.toList ++ g.stack } := by
      refine e3.trans ?_
      rw [hf₂, State.calling_eq h.top, State.setFrames_setFrames, State.setTop_of_frames _ hr', hr]
      rfl
    have hsame : U.sameButNew ({ U with heap := s₂.heap, slotsUsed := s₂.slotsUsed } : State) L mc ms := by
      refine ⟨?_, q2, q3, q4, q5, q6⟩
      obtain ⟨t, ht, -⟩ := State.frames_cons hr
      show ({ U with heap := s₂.heap, slotsUsed := s₂.slotsUsed } : State) = { U.setFrames U.frames with heap := s₂.heap, slotsUsed := s₂.slotsUsed }
      rw [State.setFrames_self ht]
    subst hg
    refine Or.inl ⟨v, ⟨(({ U with heap := s₂.heap, slotsUsed := s₂.slotsUsed } : State).setVm s₂.vm), Ls ++ L, c0 + mc, s0 + ms⟩,
      ⟨X.admits, X.cas, X.clock, X.frames, X.room, X.hears, X.method, X.code, (X.here.setHeapUsed s₂.heap s₂.slotsUsed).setVm hW'.alike, X.tail, State.WarmedH.trans X.warmed hW', X.limits, X.bytes, X.same.trans (hsame.setVm s.vm)⟩,
      ⟨g, mk, s₂, L, rfl, rfl, hqc, rfl, hL, rfl, rfl⟩, ?_⟩
    show Steps p.tables e below _ ((({ U with heap := s₂.heap, slotsUsed := s₂.slotsUsed } : State).setVm s₂.vm).setTop { g with pc := g.pc + len₂, stack := v.toList ++ g.stack })
    rw [← hs₂]
    exact hsteps
  · obtain ⟨e2, q2, q3, q4, q5, q6⟩ := id hsm
    have e3 : s₂ = ({ (U.calling g mk a).setFrames s₂.frames with heap := s₂.heap, slotsUsed := s₂.slotsUsed } : State).setVm s₂.vm := by
      have : s₂ = ({ s₂ with vm := (U.calling g mk a).vm } : State).setVm s₂.vm := rfl
      rw [e2] at this
      exact this
    have hf₂ : s₂.frames = .throwing q :: .java g :: U.frames.tail := hend
    have hW' : U.WarmedH s₂.vm := hW₂
    have hs₂ : s₂ = ((({ U with heap := s₂.heap, slotsUsed := s₂.slotsUsed } : State).setVm s₂.vm).setTop g).pushFrame (.throwing q) := by
      refine e3.trans ?_
      rw [hf₂, State.calling_eq h.top, State.setFrames_setFrames, State.pushFrame, State.frames_setTop _ hr', State.setTop_of_frames _ hr', State.setFrames_setFrames, hr]
      rfl
    have hsame : U.sameButNew ({ U with heap := s₂.heap, slotsUsed := s₂.slotsUsed } : State) L mc ms := by
      refine ⟨?_, q2, q3, q4, q5, q6⟩
      obtain ⟨t, ht, -⟩ := State.frames_cons hr
      show ({ U with heap := s₂.heap, slotsUsed := s₂.slotsUsed } : State) = { U.setFrames U.frames with heap := s₂.heap, slotsUsed := s₂.slotsUsed }
      rw [State.setFrames_self ht]
    subst hg
    refine Or.inr ⟨q, ⟨(({ U with heap := s₂.heap, slotsUsed := s₂.slotsUsed } : State).setVm s₂.vm), Ls ++ L, c0 + mc, s0 + ms⟩,
      ⟨X.admits, X.cas, X.clock, X.frames, X.room, X.hears, X.method, X.code, (X.here.setHeapUsed s₂.heap s₂.slotsUsed).setVm hW'.alike, X.tail, State.WarmedH.trans X.warmed hW', X.limits, X.bytes, X.same.trans (hsame.setVm s.vm)⟩,
      ⟨g, mk, s₂, L, E, ce, rfl, rfl, hx, hce, hcv, hcl, rfl, hL, rfl, rfl⟩, ?_⟩
    show Steps p.tables e below _ (((({ U with heap := s₂.heap, slotsUsed := s₂.slotsUsed } : State).setVm s₂.vm).setTop g).pushFrame (.throwing q))
    rw [← hs₂]
    exact hsteps
end Payer
section Calls
variable {p : Program} {l : Launch} {e : Env} {R : Room} {s : State} {m : MethodId} {args : Array Value} {below : List Frame} {meth : Method} {c : Code} {T : State} {locs : List Loc} {cells slots : Nat}
theorem vx_callV (X : Stand p l e R s m args below meth c T locs cells slots) (hexec : p.tables.exec = Jvm.exec) {own C : String} {index : Nat} {y : MethodName} {bytes : ByteArray} {maxL : Nat} {ret : Option FieldType}
    (hown : s.vm.findClass own = some m.cls) (hlink : (Cond.methodLink own index y).before args s = true) (hinst : (Cond.instanceMethod y).before args s = true) (hsel : (Cond.selects C y y).before args s = true)
    (hcode : (Cond.code y bytes maxL ret).before args s = true) (hy : y.cls ≠ "java/lang/invoke/MethodHandle" ∧ y.cls ≠ "java/lang/invoke/VarHandle")
    {W9 : Nat} {Pre : Pt → Array Value → Prop} {Post : Pt → Array Value → Option Value → Pt → Prop} {PostX : Pt → Array Value → Addr → Pt → Prop} (hK : vx_Back l R p e below s args y 3 W9 Pre Post PostX)
    {b : Addr} {cellB : Cell} (hcell : T.heap[b]? = some cellB) (hobj : cellB.vm.isStatics = false) (hcls : s.vm.findClass C = some cellB.cls)
    {g : JFrame} (hg : g.method = m) (hsize : g.locals.size = c.maxLocals) {argsL rest : List Value} (hlen : ∀ sig, parseMethodDescriptor y.desc = some sig → argsL.length = sig.parameters.length)
    (hstack : g.stack = argsL.reverse ++ .ref b :: rest) (hW : 2 * g.monitorRoom + (rest.map fun v => v.category).sum ≤ W9) (hdg : decode c.code g.pc = .ok (.invokevirtual index, 3))
    (hpre : ∀ vm₁, s.WarmedH vm₁ → Pre ⟨T.setVm vm₁, locs, cells, slots⟩ (Value.ref b :: argsL).toArray) :
    (∃ (v : Option Value) (vm₁ : Vm) (B : Pt), s.WarmedH vm₁ ∧ Stand p l e R s m args below meth c B.U B.locs B.cells B.slots ∧ Post ⟨T.setVm vm₁, locs, cells, slots⟩ (Value.ref b :: argsL).toArray v B ∧
      ∀ target, Steps p.tables e below (B.U.setTop { g with pc := g.pc + 3, stack := v.toList ++ rest }) target → Steps p.tables e below (T.setTop g) target) ∨
    (∃ (q : Addr) (vm₁ : Vm) (B : Pt), s.WarmedH vm₁ ∧ Stand p l e R s m args below meth c B.U B.locs B.cells B.slots ∧ PostX ⟨T.setVm vm₁, locs, cells, slots⟩ (Value.ref b :: argsL).toArray q B ∧
      Steps p.tables e below (T.setTop g) ((B.U.setTop { g with stack := rest }).pushFrame (.throwing q))) := by
  obtain ⟨mk, methM, hnamed, hmethM, hstM, habM⟩ := Cond.instanceMethod_spec hinst
  obtain ⟨methM', cM, hmethM', -, -, -, -, -, -, hsigM⟩ := Cond.code_spec hnamed hcode
  cases hmethM.symm.trans hmethM'
  obtain ⟨c2, r2, m2, q1, q2, q3, q4, kP, hkP, hkPi⟩ := Cond.selects_spec hsel
  cases hcls.symm.trans q1
  cases (State.methodFound?_of_named hnamed hy).symm.trans q2
  cases hnamed.symm.trans q3
  have hselP : selectMethod e.platform s.vm cellB.cls mk = .method mk := by rw [Launch.admits_selectMethod X.admits]; exact q4
  obtain ⟨vm₁, X₁, hstep₁⟩ := X.invokevirtual hexec hown hlink hnamed hmethM hstM hkP hkPi hy (a := b) (cell := cellB) hcell
    (fun z h => by rw [h] at hobj; cases hobj) hselP hmethM habM hkP hkPi (g := g) hg (argsL := argsL) (rest := rest) (hlen _ hsigM) hstack hdg
  rcases hK m meth c ⟨T.setVm vm₁, locs, cells, slots⟩ { g with stack := rest } (.invokevirtual index) mk (Value.ref b :: argsL).toArray X₁ hg hsize hdg hW (X₁.named hnamed) (hpre vm₁ X₁.warmed) with ⟨v, B, X', hpost, hsteps⟩ | ⟨q, B, X', hpost, hsteps⟩
  · exact Or.inl ⟨v, vm₁, B, X₁.warmed, X', hpost, fun target h => hstep₁ _ fun acts => by rw [doInvoke_state]; exact hsteps.trans h⟩
  · exact Or.inr ⟨q, vm₁, B, X₁.warmed, X', hpost, hstep₁ _ fun acts => by rw [doInvoke_state]; exact hsteps⟩
theorem vx_callS (X : Stand p l e R s m args below meth c T locs cells slots) (hexec : p.tables.exec = Jvm.exec) {own : String} {index : Nat} {y : MethodName} {bytes : ByteArray} {maxL : Nat} {ret : Option FieldType}
    (hown : s.vm.findClass own = some m.cls) (hlink : (Cond.methodLink own index y).before args s = true) (hstat : (Cond.static y).before args s = true) (hinit : (Cond.initialized y.cls).before args s = true)
    (hcode : (Cond.code y bytes maxL ret).before args s = true) (hy : y.cls ≠ "java/lang/invoke/MethodHandle" ∧ y.cls ≠ "java/lang/invoke/VarHandle")
    {W9 : Nat} {Pre : Pt → Array Value → Prop} {Post : Pt → Array Value → Option Value → Pt → Prop} {PostX : Pt → Array Value → Addr → Pt → Prop} (hK : vx_Back l R p e below s args y 3 W9 Pre Post PostX)
    {g : JFrame} (hg : g.method = m) (hsize : g.locals.size = c.maxLocals) {argsL rest : List Value} (hlen : ∀ sig, parseMethodDescriptor y.desc = some sig → argsL.length = sig.parameters.length)
    (hstack : g.stack = argsL.reverse ++ rest) (hW : 2 * g.monitorRoom + (rest.map fun v => v.category).sum ≤ W9) (hdg : decode c.code g.pc = .ok (.invokestatic index, 3))
    (hpre : ∀ vm₁, s.WarmedH vm₁ → Pre ⟨T.setVm vm₁, locs, cells, slots⟩ argsL.toArray) :
    (∃ (v : Option Value) (vm₁ : Vm) (B : Pt), s.WarmedH vm₁ ∧ Stand p l e R s m args below meth c B.U B.locs B.cells B.slots ∧ Post ⟨T.setVm vm₁, locs, cells, slots⟩ argsL.toArray v B ∧
      ∀ target, Steps p.tables e below (B.U.setTop { g with pc := g.pc + 3, stack := v.toList ++ rest }) target → Steps p.tables e below (T.setTop g) target) ∨
    (∃ (q : Addr) (vm₁ : Vm) (B : Pt), s.WarmedH vm₁ ∧ Stand p l e R s m args below meth c B.U B.locs B.cells B.slots ∧ PostX ⟨T.setVm vm₁, locs, cells, slots⟩ argsL.toArray q B ∧
      Steps p.tables e below (T.setTop g) ((B.U.setTop { g with stack := rest }).pushFrame (.throwing q))) := by
  obtain ⟨mk, hnamed⟩ := Cond.code_named hcode
  obtain ⟨methM, cM, hmethM, -, -, -, -, -, -, hsigM⟩ := Cond.code_spec hnamed hcode
  have hstatic : methM.isStatic = true := Cond.static_spec hnamed hmethM hstat
  obtain ⟨kP, hkP, -⟩ := className_of_methodNamed hnamed
  have hinitP : kP.init = .initialized := Cond.initialized_spec (findClass_of_methodNamed hnamed) hkP hinit
  obtain ⟨vm₁, X₁, hstep₁⟩ := X.invokestatic hexec hown hlink hnamed hmethM hstatic hkP hinitP hy (g := g) hg (argsL := argsL) (rest := rest) (hlen _ hsigM) hstack hdg
  rcases hK m meth c ⟨T.setVm vm₁, locs, cells, slots⟩ { g with stack := rest } (.invokestatic index) mk argsL.toArray X₁ hg hsize hdg hW (X₁.named hnamed) (hpre vm₁ X₁.warmed) with ⟨v, B, X', hpost, hsteps⟩ | ⟨q, B, X', hpost, hsteps⟩
  · exact Or.inl ⟨v, vm₁, B, X₁.warmed, X', hpost, fun target h => hstep₁ _ fun acts => by rw [doInvoke_state]; exact hsteps.trans h⟩
  · exact Or.inr ⟨q, vm₁, B, X₁.warmed, X', hpost, hstep₁ _ fun acts => by rw [doInvoke_state]; exact hsteps⟩
end Calls
theorem vx_cls {s : State} {T : State} {vm₁ : Vm} {E : String} {k : ClassId} (hW : s.WarmedH vm₁) (h : (T.setVm vm₁).vm.findClass E = some k) : s.vm.findClass E = some k := by
  have h1 : vm₁.findClass E = some k := h
  rw [hW.alike.findClass] at h1
  exact h1
/-- the method's frame g, with q thrown over it -/
def vx_W (p : Program) (l : Launch) (e : Env) (R : Room) (s : State) (m : MethodId) (args : Array Value) (below : List Frame) (meth : Method) (c : Code) (H : Heap) (locs : List Loc) (cells slots : Nat) (Q : State → Prop) (g : JFrame) (q : Addr) : Prop :=
  ∀ T : State, T.heap = H → Stand p l e R s m args below meth c T locs cells slots → ∃ t, Steps p.tables e below ((T.setTop g).pushFrame (.throwing q)) t ∧ Q t
def vx_Run (p : Program) (l : Launch) (e : Env) (R : Room) (s : State) (m : MethodId) (args : Array Value) (below : List Frame) (meth : Method) (c : Code) (H : Heap) (locs : List Loc) (cells slots mc ms : Nat) (g : JFrame) (rest : List Value) (Qa : State → Outcome → State → Prop) (XC : String → State → State → Prop) (free : Addr → Prop) : Prop :=
  ∀ T : State, T.heap = H → Stand p l e R s m args below meth c T locs cells slots →
    (∃ (v : Option Value) (st₀ t T' : State) (L : List Loc), st₀.heap = H ∧ Stand p l e R s m args below meth c T' (locs ++ L) (cells + mc) (slots + ms) ∧ (∀ q ∈ L, free q.base) ∧ T'.heap = t.heap ∧ T'.vm = t.vm ∧ Qa st₀ (.returned v) t ∧
      Goes p e below T g T' { g with pc := g.pc + 3, stack := v.toList ++ rest }) ∨
    (∃ (q : Addr) (st₀ t T' : State) (L : List Loc) (E : String) (ce : Cell), st₀.heap = H ∧ Stand p l e R s m args below meth c T' (locs ++ L) (cells + mc) (slots + ms) ∧ (∀ z ∈ L, free z.base) ∧ T'.heap = t.heap ∧ T'.vm = t.vm ∧ XC E st₀ t ∧ t.heap[q]? = some ce ∧ ce.vm = .none ∧ s.vm.findClass E = some ce.cls ∧
      Steps p.tables e below (T.setTop g) ((T'.setTop { g with stack := rest }).pushFrame (.throwing q)))
def vx_X {S : Type} (px : S → Prop) (B : String → S → State → Prop) (A : Nat → Prop) : String → State → State → Prop := fun E st t => ∃ u : S, px u ∧ B E u t ∧ va_F A st t
section Runs
variable {p : Program} {l : Launch} {e : Env} {R : Room} {s : State} {m : MethodId} {args : Array Value} {below : List Frame} {meth : Method} {c : Code} {H : Heap} {locs : List Loc} {cells slots : Nat}
variable {y : MethodName} {bytes cc : ByteArray} {maxL nL mc ms n index : Nat} {ret : Option FieldType} {ws : List Cond} {rm : Room} {Pc : Array Value → State → Prop} {Qc : Array Value → State → Outcome → State → Prop} {XC : String → State → State → Prop} {free : Addr → Prop} {Ts : List Cond} {own C : String} {b : Addr} {As rest : List Value} {g : JFrame}
theorem vx_callBack (cb : CallB R s args own index y bytes maxL ret ws rm mc ms n) (hM : vx_Met l y ws rm Pc Qc XC mc ms free) (hbl : FrameBlind Pc) : vx_Back l R p e below s args y 3 8 (PreOf R mc ms Pc) (PostOf Qc mc ms free) (vx_Post XC mc ms free) := by
  obtain ⟨hrc, hrs, hfr, hlo, hws, hcw, -, hini, -⟩ := cb
  exact vx_back (bytes := bytes) (maxL := maxL) (ret := ret) hM hbl hrc hrs hfr hlo hws hcw (fun a' U hW => word_at hW (Or.inl (by first | rfl | simp [Cond.onTables, Cond.keeps, Cond.steady])) hini)
theorem vx_runV (S : CallFix p m c cc nL s args Ts own) (hM : vx_Met l y ws rm Pc Qc XC mc ms free) (cw : CallW R s args own C index y bytes maxL ret ws rm mc ms n) (hp : PreV s H C b Pc As)
    (hg : g.method = m) (hn : As.length = n) (hsize : g.locals.size = nL) (hstack : g.stack = As.reverse ++ .ref b :: rest) (hW : 2 * g.monitorRoom + (rest.map fun v => v.category).sum ≤ 8) (hdg : decode cc g.pc = .ok (.invokevirtual index, 3)) (hf : cells + mc ≤ R.cells ∧ slots + ms ≤ R.slots) :
    vx_Run p l e R s m args below meth c H locs cells slots mc ms g rest (Qc (Value.ref b :: As).toArray) XC free := by
  have hK : vx_Back l R p e below s args y 3 8 (PreOf R mc ms Pc) (PostOf Qc mc ms free) (vx_Post XC mc ms free) := vx_callBack cw.1 hM hp.1
  obtain ⟨⟨-, -, -, -, -, -, hcode, -, hy, hlen, hl⟩, hin, hse⟩ := cw
  obtain ⟨hx, hb, hml, ho, -⟩ := S
  obtain ⟨-, ⟨cellB, hcB, hoB, hclB⟩, hPc⟩ := hp
  intro T hT X
  rcases vx_callV X hx (C := C) (bytes := bytes) (maxL := maxL) (ret := ret) ho hl hin hse hcode hy hK (by rw [hT]; exact hcB) hoB hclB hg (hsize.trans hml.symm) (argsL := As) (rest := rest) (fun sig h => hn.trans (hlen sig h)) hstack hW (by rw [hb]; exact hdg)
    (fun vm₁ hW₁ => ⟨hf.1, hf.2, hPc (T.setVm vm₁) hT hW₁⟩) with ⟨v, vm₁, ⟨U', l2, c2, s2⟩, hW₁, X', ⟨g', mk, t, L, e1, e2, hq, h1, hL, h2, h3⟩, st⟩ | ⟨q, vm₁, ⟨U', l2, c2, s2⟩, hW₁, X', ⟨g', mk, t, L, E, ce, e1, e2, hq, hce, hcv, hcl, h1, hL, h2, h3⟩, st⟩
  · dsimp only [Pt.U, Pt.locs, Pt.cells, Pt.slots] at X' e1 e2 h1 h2 h3 st
    subst h1; subst h2; subst h3
    exact Or.inl ⟨v, (T.setVm vm₁).calling g' mk (Value.ref b :: As).toArray, t, U', L, hT, X', hL, e1, e2, hq, st⟩
  · dsimp only [Pt.U, Pt.locs, Pt.cells, Pt.slots] at X' e1 e2 h1 h2 h3 st hcl
    subst h1; subst h2; subst h3
    exact Or.inr ⟨q, (T.setVm vm₁).calling g' mk (Value.ref b :: As).toArray, t, U', L, E, ce, hT, X', hL, e1, e2, hq, hce, hcv, vx_cls hW₁ hcl, st⟩
theorem vx_runS (S : CallFix p m c cc nL s args Ts own) (hM : vx_Met l y ws rm Pc Qc XC mc ms free) (cw : CallB R s args own index y bytes maxL ret ws rm mc ms n ∧ (Cond.static y).before args s = true) (hp : PreS s H Pc As)
    (hg : g.method = m) (hn : As.length = n) (hsize : g.locals.size = nL) (hstack : g.stack = As.reverse ++ rest) (hW : 2 * g.monitorRoom + (rest.map fun v => v.category).sum ≤ 8) (hdg : decode cc g.pc = .ok (.invokestatic index, 3)) (hf : cells + mc ≤ R.cells ∧ slots + ms ≤ R.slots) :
    vx_Run p l e R s m args below meth c H locs cells slots mc ms g rest (Qc As.toArray) XC free := by
  have hK : vx_Back l R p e below s args y 3 8 (PreOf R mc ms Pc) (PostOf Qc mc ms free) (vx_Post XC mc ms free) := vx_callBack cw.1 hM hp.1
  obtain ⟨⟨-, -, -, -, -, -, hcode, hini, hy, hlen, hl⟩, hstt⟩ := cw
  obtain ⟨hx, hb, hml, ho, -⟩ := S
  intro T hT X
  rcases vx_callS X hx (bytes := bytes) (maxL := maxL) (ret := ret) ho hl hstt hini hcode hy hK hg (hsize.trans hml.symm) (argsL := As) (rest := rest) (fun sig h => hn.trans (hlen sig h)) hstack hW (by rw [hb]; exact hdg)
    (fun vm₁ hW₁ => ⟨hf.1, hf.2, hp.2 (T.setVm vm₁) hT hW₁⟩) with ⟨v, vm₁, ⟨U', l2, c2, s2⟩, hW₁, X', ⟨g', mk, t, L, e1, e2, hq, h1, hL, h2, h3⟩, st⟩ | ⟨q, vm₁, ⟨U', l2, c2, s2⟩, hW₁, X', ⟨g', mk, t, L, E, ce, e1, e2, hq, hce, hcv, hcl, h1, hL, h2, h3⟩, st⟩
  · dsimp only [Pt.U, Pt.locs, Pt.cells, Pt.slots] at X' e1 e2 h1 h2 h3 st
    subst h1; subst h2; subst h3
    exact Or.inl ⟨v, (T.setVm vm₁).calling g' mk As.toArray, t, U', L, hT, X', hL, e1, e2, hq, st⟩
  · dsimp only [Pt.U, Pt.locs, Pt.cells, Pt.slots] at X' e1 e2 h1 h2 h3 st hcl
    subst h1; subst h2; subst h3
    exact Or.inr ⟨q, (T.setVm vm₁).calling g' mk As.toArray, t, U', L, E, ce, hT, X', hL, e1, e2, hq, hce, hcv, vx_cls hW₁ hcl, st⟩
end Runs
section Rows
variable {p : Program} {l : Launch} {e : Env} {R : Room} {s : State} {m : MethodId} {args : Array Value} {below : List Frame} {meth : Method} {c : Code} {H : Heap} {locs : List Loc} {cells slots : Nat} {Q : State → Prop}
variable {mc ms : Nat} {free : Addr → Prop} {A0 A1 : Nat → Prop} {H0 : Heap} {a : Array Value} {pc : Nat} {ls : Array Slot} {st0 rest : List Value}
theorem vx_keep {st₀ t T' : State} {L : List Loc} (h0 : st₀.heap = H) (e1 : T'.heap = t.heap) (hS : va_S A0 H0 H locs) (hA : ∀ q, q < H.size → A1 q → A0 q) (hf : ∀ q, free q → A0 q) (hL : ∀ q ∈ L, free q.base) (hF : va_F A1 st₀ t) :
    H.size ≤ T'.heap.size ∧ (∀ q : Nat, q < H.size → ¬ A1 q → T'.heap[q]? = H[q]?) ∧ va_S A0 H0 T'.heap (locs ++ L) := by
  obtain ⟨hz, hk⟩ := hF
  rw [h0] at hz hk
  exact ⟨by rw [e1]; exact hz, fun q h1 h2 => by rw [e1]; exact hk q h1 h2,
    ⟨Nat.le_trans hS.1 (by rw [e1]; exact hz), fun q h1 h2 => by rw [e1, hk q (Nat.lt_of_lt_of_le h1 hS.1) (fun z => h2 (hA q (Nat.lt_of_lt_of_le h1 hS.1) z))]; exact hS.2.1 q h1 h2, fun q hq => by
      rcases List.mem_append.mp hq with h | h
      · exact hS.2.2 q h
      · exact hf _ (hL q h)⟩⟩
theorem vx_calli {S SX : Type} {post : Int32 → S → Prop} {px : SX → Prop} {B : S → State → Prop} {BX : String → SX → State → Prop} {AX : Nat → Prop} (hr : vx_Run p l e R s m args below meth c H locs cells slots mc ms (F0 m pc ls st0) rest (va_Qi post B A1 a) (vx_X px BX AX) free) (hS : va_S A0 H0 H locs) (hA : ∀ q, q < H.size → A1 q → A0 q) (hf : ∀ q, free q → A0 q) (hAX : ∀ q, q < H.size → AX q → A0 q)
    (kx : ∀ (E : String) (ce : Cell) (q9 : Addr) (u : SX) (t : State) (H1 : Heap) (locs1 : List Loc), t.heap = H1 → s.vm.Alike t.vm → px u → BX E u t → H.size ≤ H1.size → (∀ q : Nat, q < H.size → ¬ AX q → H1[q]? = H[q]?) → va_S A0 H0 H1 locs1 → H1[q9]? = some ce → ce.vm = .none → s.vm.findClass E = some ce.cls → vx_W p l e R s m args below meth c H1 locs1 (cells + mc) (slots + ms) Q (F0 m pc ls rest) q9)
    (kk : ∀ (r : Int32) (u : S) (t : State) (H1 : Heap) (locs1 : List Loc), t.heap = H1 → s.vm.Alike t.vm → post r u → B u t → H.size ≤ H1.size → (∀ q : Nat, q < H.size → ¬ A1 q → H1[q]? = H[q]?) → va_S A0 H0 H1 locs1 → W p l e R s m args below meth c H1 locs1 (cells + mc) (slots + ms) Q (F0 m (pc + 3) ls (.int r :: rest))) : W p l e R s m args below meth c H locs cells slots Q (F0 m pc ls st0) := by
  intro T hT X
  rcases hr T hT X with ⟨v, st₀, t, T', L, h0, X', hL, e1, e2, ⟨⟨r, u, hv, hp, hb⟩, hF⟩, st⟩ | ⟨q, st₀, t, T', L, E, ce, h0, X', hL, e1, e2, ⟨u, hp, hb, hF⟩, hce, hcv, hcl, st⟩
  · cases hv
    obtain ⟨k1, k2, k3⟩ := vx_keep h0 e1 hS hA hf hL hF
    obtain ⟨t2, a1, b1⟩ := kk r u t T'.heap (locs ++ L) e1.symm (by rw [← e2]; exact X'.warmed.alike) hp hb k1 k2 k3 T' rfl X'
    exact ⟨t2, st t2 a1, b1⟩
  · obtain ⟨k1, k2, k3⟩ := vx_keep h0 e1 hS hAX hf hL hF
    obtain ⟨t2, a1, b1⟩ := kx E ce q u t T'.heap (locs ++ L) e1.symm (by rw [← e2]; exact X'.warmed.alike) hp hb k1 k2 k3 (by rw [e1]; exact hce) hcv hcl T' rfl X'
    exact ⟨t2, st.trans a1, b1⟩
theorem vx_calll {S SX : Type} {post : Int64 → S → Prop} {px : SX → Prop} {B : S → State → Prop} {BX : String → SX → State → Prop} {AX : Nat → Prop} (hr : vx_Run p l e R s m args below meth c H locs cells slots mc ms (F0 m pc ls st0) rest (va_Ql post B A1 a) (vx_X px BX AX) free) (hS : va_S A0 H0 H locs) (hA : ∀ q, q < H.size → A1 q → A0 q) (hf : ∀ q, free q → A0 q) (hAX : ∀ q, q < H.size → AX q → A0 q)
    (kx : ∀ (E : String) (ce : Cell) (q9 : Addr) (u : SX) (t : State) (H1 : Heap) (locs1 : List Loc), t.heap = H1 → s.vm.Alike t.vm → px u → BX E u t → H.size ≤ H1.size → (∀ q : Nat, q < H.size → ¬ AX q → H1[q]? = H[q]?) → va_S A0 H0 H1 locs1 → H1[q9]? = some ce → ce.vm = .none → s.vm.findClass E = some ce.cls → vx_W p l e R s m args below meth c H1 locs1 (cells + mc) (slots + ms) Q (F0 m pc ls rest) q9)
    (kk : ∀ (r : Int64) (u : S) (t : State) (H1 : Heap) (locs1 : List Loc), t.heap = H1 → s.vm.Alike t.vm → post r u → B u t → H.size ≤ H1.size → (∀ q : Nat, q < H.size → ¬ A1 q → H1[q]? = H[q]?) → va_S A0 H0 H1 locs1 → W p l e R s m args below meth c H1 locs1 (cells + mc) (slots + ms) Q (F0 m (pc + 3) ls (.long r :: rest))) : W p l e R s m args below meth c H locs cells slots Q (F0 m pc ls st0) := by
  intro T hT X
  rcases hr T hT X with ⟨v, st₀, t, T', L, h0, X', hL, e1, e2, ⟨⟨r, u, hv, hp, hb⟩, hF⟩, st⟩ | ⟨q, st₀, t, T', L, E, ce, h0, X', hL, e1, e2, ⟨u, hp, hb, hF⟩, hce, hcv, hcl, st⟩
  · cases hv
    obtain ⟨k1, k2, k3⟩ := vx_keep h0 e1 hS hA hf hL hF
    obtain ⟨t2, a1, b1⟩ := kk r u t T'.heap (locs ++ L) e1.symm (by rw [← e2]; exact X'.warmed.alike) hp hb k1 k2 k3 T' rfl X'
    exact ⟨t2, st t2 a1, b1⟩
  · obtain ⟨k1, k2, k3⟩ := vx_keep h0 e1 hS hAX hf hL hF
    obtain ⟨t2, a1, b1⟩ := kx E ce q u t T'.heap (locs ++ L) e1.symm (by rw [← e2]; exact X'.warmed.alike) hp hb k1 k2 k3 (by rw [e1]; exact hce) hcv hcl T' rfl X'
    exact ⟨t2, st.trans a1, b1⟩
theorem vx_callf {S SX : Type} {post : UInt32 → S → Prop} {px : SX → Prop} {B : S → State → Prop} {BX : String → SX → State → Prop} {AX : Nat → Prop} (hr : vx_Run p l e R s m args below meth c H locs cells slots mc ms (F0 m pc ls st0) rest (va_Qf post B A1 a) (vx_X px BX AX) free) (hS : va_S A0 H0 H locs) (hA : ∀ q, q < H.size → A1 q → A0 q) (hf : ∀ q, free q → A0 q) (hAX : ∀ q, q < H.size → AX q → A0 q)
    (kx : ∀ (E : String) (ce : Cell) (q9 : Addr) (u : SX) (t : State) (H1 : Heap) (locs1 : List Loc), t.heap = H1 → s.vm.Alike t.vm → px u → BX E u t → H.size ≤ H1.size → (∀ q : Nat, q < H.size → ¬ AX q → H1[q]? = H[q]?) → va_S A0 H0 H1 locs1 → H1[q9]? = some ce → ce.vm = .none → s.vm.findClass E = some ce.cls → vx_W p l e R s m args below meth c H1 locs1 (cells + mc) (slots + ms) Q (F0 m pc ls rest) q9)
    (kk : ∀ (r : UInt32) (u : S) (t : State) (H1 : Heap) (locs1 : List Loc), t.heap = H1 → s.vm.Alike t.vm → post r u → B u t → H.size ≤ H1.size → (∀ q : Nat, q < H.size → ¬ A1 q → H1[q]? = H[q]?) → va_S A0 H0 H1 locs1 → W p l e R s m args below meth c H1 locs1 (cells + mc) (slots + ms) Q (F0 m (pc + 3) ls (.float r :: rest))) : W p l e R s m args below meth c H locs cells slots Q (F0 m pc ls st0) := by
  intro T hT X
  rcases hr T hT X with ⟨v, st₀, t, T', L, h0, X', hL, e1, e2, ⟨⟨r, u, hv, hp, hb⟩, hF⟩, st⟩ | ⟨q, st₀, t, T', L, E, ce, h0, X', hL, e1, e2, ⟨u, hp, hb, hF⟩, hce, hcv, hcl, st⟩
  · cases hv
    obtain ⟨k1, k2, k3⟩ := vx_keep h0 e1 hS hA hf hL hF
    obtain ⟨t2, a1, b1⟩ := kk r u t T'.heap (locs ++ L) e1.symm (by rw [← e2]; exact X'.warmed.alike) hp hb k1 k2 k3 T' rfl X'
    exact ⟨t2, st t2 a1, b1⟩
  · obtain ⟨k1, k2, k3⟩ := vx_keep h0 e1 hS hAX hf hL hF
    obtain ⟨t2, a1, b1⟩ := kx E ce q u t T'.heap (locs ++ L) e1.symm (by rw [← e2]; exact X'.warmed.alike) hp hb k1 k2 k3 (by rw [e1]; exact hce) hcv hcl T' rfl X'
    exact ⟨t2, st.trans a1, b1⟩
theorem vx_calld {S SX : Type} {post : UInt64 → S → Prop} {px : SX → Prop} {B : S → State → Prop} {BX : String → SX → State → Prop} {AX : Nat → Prop} (hr : vx_Run p l e R s m args below meth c H locs cells slots mc ms (F0 m pc ls st0) rest (va_Qd post B A1 a) (vx_X px BX AX) free) (hS : va_S A0 H0 H locs) (hA : ∀ q, q < H.size → A1 q → A0 q) (hf : ∀ q, free q → A0 q) (hAX : ∀ q, q < H.size → AX q → A0 q)
    (kx : ∀ (E : String) (ce : Cell) (q9 : Addr) (u : SX) (t : State) (H1 : Heap) (locs1 : List Loc), t.heap = H1 → s.vm.Alike t.vm → px u → BX E u t → H.size ≤ H1.size → (∀ q : Nat, q < H.size → ¬ AX q → H1[q]? = H[q]?) → va_S A0 H0 H1 locs1 → H1[q9]? = some ce → ce.vm = .none → s.vm.findClass E = some ce.cls → vx_W p l e R s m args below meth c H1 locs1 (cells + mc) (slots + ms) Q (F0 m pc ls rest) q9)
    (kk : ∀ (r : UInt64) (u : S) (t : State) (H1 : Heap) (locs1 : List Loc), t.heap = H1 → s.vm.Alike t.vm → post r u → B u t → H.size ≤ H1.size → (∀ q : Nat, q < H.size → ¬ A1 q → H1[q]? = H[q]?) → va_S A0 H0 H1 locs1 → W p l e R s m args below meth c H1 locs1 (cells + mc) (slots + ms) Q (F0 m (pc + 3) ls (.double r :: rest))) : W p l e R s m args below meth c H locs cells slots Q (F0 m pc ls st0) := by
  intro T hT X
  rcases hr T hT X with ⟨v, st₀, t, T', L, h0, X', hL, e1, e2, ⟨⟨r, u, hv, hp, hb⟩, hF⟩, st⟩ | ⟨q, st₀, t, T', L, E, ce, h0, X', hL, e1, e2, ⟨u, hp, hb, hF⟩, hce, hcv, hcl, st⟩
  · cases hv
    obtain ⟨k1, k2, k3⟩ := vx_keep h0 e1 hS hA hf hL hF
    obtain ⟨t2, a1, b1⟩ := kk r u t T'.heap (locs ++ L) e1.symm (by rw [← e2]; exact X'.warmed.alike) hp hb k1 k2 k3 T' rfl X'
    exact ⟨t2, st t2 a1, b1⟩
  · obtain ⟨k1, k2, k3⟩ := vx_keep h0 e1 hS hAX hf hL hF
    obtain ⟨t2, a1, b1⟩ := kx E ce q u t T'.heap (locs ++ L) e1.symm (by rw [← e2]; exact X'.warmed.alike) hp hb k1 k2 k3 (by rw [e1]; exact hce) hcv hcl T' rfl X'
    exact ⟨t2, st.trans a1, b1⟩
theorem vx_callv {S SX : Type} {post : S → Prop} {px : SX → Prop} {B : S → State → Prop} {BX : String → SX → State → Prop} {AX : Nat → Prop} (hr : vx_Run p l e R s m args below meth c H locs cells slots mc ms (F0 m pc ls st0) rest (va_Qv post B A1 a) (vx_X px BX AX) free) (hS : va_S A0 H0 H locs) (hA : ∀ q, q < H.size → A1 q → A0 q) (hf : ∀ q, free q → A0 q) (hAX : ∀ q, q < H.size → AX q → A0 q)
    (kx : ∀ (E : String) (ce : Cell) (q9 : Addr) (u : SX) (t : State) (H1 : Heap) (locs1 : List Loc), t.heap = H1 → s.vm.Alike t.vm → px u → BX E u t → H.size ≤ H1.size → (∀ q : Nat, q < H.size → ¬ AX q → H1[q]? = H[q]?) → va_S A0 H0 H1 locs1 → H1[q9]? = some ce → ce.vm = .none → s.vm.findClass E = some ce.cls → vx_W p l e R s m args below meth c H1 locs1 (cells + mc) (slots + ms) Q (F0 m pc ls rest) q9)
    (kk : ∀ (u : S) (t : State) (H1 : Heap) (locs1 : List Loc), t.heap = H1 → s.vm.Alike t.vm → post u → B u t → H.size ≤ H1.size → (∀ q : Nat, q < H.size → ¬ A1 q → H1[q]? = H[q]?) → va_S A0 H0 H1 locs1 → W p l e R s m args below meth c H1 locs1 (cells + mc) (slots + ms) Q (F0 m (pc + 3) ls (rest))) : W p l e R s m args below meth c H locs cells slots Q (F0 m pc ls st0) := by
  intro T hT X
  rcases hr T hT X with ⟨v, st₀, t, T', L, h0, X', hL, e1, e2, ⟨⟨u, hv, hp, hb⟩, hF⟩, st⟩ | ⟨q, st₀, t, T', L, E, ce, h0, X', hL, e1, e2, ⟨u, hp, hb, hF⟩, hce, hcv, hcl, st⟩
  · cases hv
    obtain ⟨k1, k2, k3⟩ := vx_keep h0 e1 hS hA hf hL hF
    obtain ⟨t2, a1, b1⟩ := kk u t T'.heap (locs ++ L) e1.symm (by rw [← e2]; exact X'.warmed.alike) hp hb k1 k2 k3 T' rfl X'
    exact ⟨t2, st t2 a1, b1⟩
  · obtain ⟨k1, k2, k3⟩ := vx_keep h0 e1 hS hAX hf hL hF
    obtain ⟨t2, a1, b1⟩ := kx E ce q u t T'.heap (locs ++ L) e1.symm (by rw [← e2]; exact X'.warmed.alike) hp hb k1 k2 k3 (by rw [e1]; exact hce) hcv hcl T' rfl X'
    exact ⟨t2, st.trans a1, b1⟩
/-- caught by the row x of this method's table; the rows ahead don't take it -/
theorem vx_catch {own name : String} {E : String} {ce : Cell} {q : Addr} (hown : s.vm.findClass own = some m.cls) (pre : List ExceptionTableEntry) (x : ExceptionTableEntry) (suf : List ExceptionTableEntry) (hsplit : c.exceptionTable.toList = pre ++ x :: suf)
    (hpass : ∀ z ∈ pre, covers z pc = false ∨ (z.catchType ≠ 0 ∧ ∃ nm : String, (Cond.classLink own z.catchType nm).before args s = true ∧ va_Nc E nm s)) (hx : covers x pc = true) (h0 : x.catchType ≠ 0)
    (hlink : (Cond.classLink own x.catchType name).before args s = true) (hcast : (Cond.castable E name).before args s = true) (hcell : H[q]? = some ce) (hv : ce.vm = .none) (hcl : s.vm.findClass E = some ce.cls)
    (kk : W p l e R s m args below meth c H locs cells slots Q (F0 m x.handlerPc ls [.ref q])) : vx_W p l e R s m args below meth c H locs cells slots Q (F0 m pc ls rest) q := by
  intro T hT X
  have hpl : e.platform.magicAccessors = ({} : Platform).magicAccessors := by rw [X.admits.platform]
  obtain ⟨c3, c4, hc3, hc4, hasg⟩ := Cond.castable_spec hcast
  cases Option.some.inj (hc3.symm.trans hcl)
  obtain ⟨c5, hc5, hcl5⟩ := Cond.classLink_spec hown hlink e.platform hpl
  cases Option.some.inj (hc4.symm.trans hc5)
  obtain ⟨vm', X', st⟩ := X.thenCaughtThrough q (g := F0 m pc ls rest) rfl (Steps.refl _) (by rw [hT]; exact hcell) (by rw [hv]; rfl) (by obtain ⟨k9, h9, -⟩ := Vm.findClass_spec hcl; exact ⟨k9, h9⟩) pre x suf hsplit
    (fun z hz => by
      rcases hpass z hz with h | ⟨hz0, nm, hl1, hn1⟩
      · exact Or.inl h
      · obtain ⟨c6, hc6, hcl6⟩ := Cond.classLink_spec hown hl1 e.platform hpl
        obtain ⟨a8, b8, h1, h2, h3⟩ := hn1
        cases Option.some.inj (h1.symm.trans hcl)
        cases Option.some.inj (h2.symm.trans hc6)
        exact Or.inr ⟨hz0, _, hcl6, h3⟩) hx (Or.inr ⟨h0, c4, hcl5, hasg⟩)
  obtain ⟨t, a1, b1⟩ := kk (T.setVm vm') hT X'
  exact ⟨t, st.trans a1, b1⟩
end Rows
section Ends
variable {p : Program} {l : Launch} {e : Env} {R : Room} {s : State} {m : MethodId} {args : Array Value} {below : List Frame} {meth : Method} {c : Code} {H : Heap} {locs : List Loc} {cells slots : Nat} {Q : State → Prop}
variable {mc ms : Nat} {free : Addr → Prop} {A0 A1 : Nat → Prop} {H0 : Heap} {a : Array Value} {ls : Array Slot} {st0 rest : List Value}
variable {Qc : Array Value → State → Outcome → State → Prop} {XC : String → State → State → Prop}
/-- what a body that may throw owes at its end -/
def vx_MQ (below : List Frame) (Qc : Array Value → State → Outcome → State → Prop) (XC : String → State → State → Prop) (a : Array Value) (s : State) (mc ms : Nat) (free : Addr → Prop) : State → Prop := fun t =>
  ∃ o, t.status = .running ∧ Ended t below o ∧ vx_Q Qc XC mc ms free a s o t
theorem vx_ret {g : JFrame} {mc ms : Nat} (k : W p l e R s m args below meth c H locs cells slots (MQ below Qc args s mc ms free) g) : W p l e R s m args below meth c H locs cells slots (vx_MQ below Qc XC args s mc ms free) g := by
  intro T hT X
  obtain ⟨t, a1, o, b1, b2, b3, b4⟩ := k T hT X
  exact ⟨t, a1, o, b1, b2, Or.inl ⟨b3, b4⟩⟩
/-- not caught here: it goes on to the caller -/
theorem vx_widen {g : JFrame} {q : Addr} {k n : Nat} (h1 : cells ≤ k) (h2 : slots ≤ n) (kk : vx_W p l e R s m args below meth c H locs k n Q g q) : vx_W p l e R s m args below meth c H locs cells slots Q g q := fun T hT X => kk T hT (stand_widen X h1 h2)
theorem vx_out {pc : Nat} {E : String} {ce : Cell} {q : Addr} {mc ms : Nat} (hout : ∀ x ∈ c.exceptionTable.toList, covers x pc = false) (hlocks : meth.locks = false) (hcell : H[q]? = some ce) (hv : ce.vm = .none) (hcl : s.vm.findClass E = some ce.cls)
    (hx : ∀ t : State, t.heap = H → s.vm.Alike t.vm → XC E s t) (hf : ∀ z ∈ locs, free z.base) (hc : cells ≤ mc) (hs : slots ≤ ms) :
    vx_W p l e R s m args below meth c H locs cells slots (vx_MQ below Qc XC args s mc ms free) (F0 m pc ls rest) q := by
  intro T hT X
  obtain ⟨st1, hrun, hend, hW, hsm⟩ := X.leaveThrown q (g := F0 m pc ls rest) rfl rfl rfl hout hlocks
  have hcell9 : (T.setFrames (.throwing q :: below)).heap[q]? = some ce := by
    show T.heap[q]? = some ce
    rw [hT]; exact hcell
  exact ⟨_, st1, .threw q, hrun, hend, Or.inr ⟨q, rfl, E, ce, locs, hx _ hT hW.alike, hcell9, hv, hcl, hW, hsm.mono hc hs, hf⟩⟩
theorem vx_frame {U : State} {k n : Nat} (h : s.sameButNew ({ U with vm := s.vm } : State) locs k n) : s.heap.size ≤ U.heap.size ∧ ∀ q : Nat, q < s.heap.size → (∀ z ∈ locs, z.base ≠ q) → U.heap[q]? = s.heap[q]? := by
  obtain ⟨-, h2, -, -, -, h6⟩ := h
  refine ⟨h2, fun q hq hz => ?_⟩
  obtain ⟨c9, e1, e2, e3, e4⟩ := h6 q _ (Array.getElem?_eq_getElem hq)
  have hs : c9.slots = (s.heap[q]).slots := Array.ext_getElem? fun i => e4 i fun hm => hz _ hm rfl
  have h9 : c9 = s.heap[q] := by
    rw [hs] at e2
    exact e2
  have e5 : U.heap[q]? = some c9 := e1
  rw [e5, h9, Array.getElem?_eq_getElem hq]
/-- the words of a throw but the four that speak of the heap -/
def vx_no (w : Cond) : Bool := decide (w ≠ .isRef (.static Bundle.tN "UNASSIGNED_STACK" Bundle.steD)) && decide (w ≠ .isRef (.static Bundle.tN "SUPPRESSED_SENTINEL" Bundle.listD)) && decide (w ≠ .laysStatic Bundle.tN "UNASSIGNED_STACK" Bundle.steD) && decide (w ≠ .laysStatic Bundle.tN "SUPPRESSED_SENTINEL" Bundle.listD)
def vx_at0 (own : String) (ic : Nat) (X : String) (names : List String) : List Cond := (Bundle.ownAtoms0 own ic X names).filter vx_no
def vx_atS (own : String) (ic : Nat) (X : String) (names : List String) : List Cond := (Bundle.ownAtoms own ic X names).filter vx_no
/-- a word that the tables alone decide, or a good one -/
def vx_ot (w : Cond) : Bool := w.onTables || goodWord w
theorem vx_ot_at {args a' : Array Value} {s U : State} {w : Cond} (hW : s.WarmedH U.vm) (hvm : s.vm = U.vm) (hg : vx_ot w = true) (h : w.before args s = true) : w.before a' U = true := by
  simp only [vx_ot, Bool.or_eq_true] at hg
  rcases hg with hg | hg
  · exact va_tabs hg hvm h
  · exact word_at hW (good_of_word hg) h
/-- a list's words: the good ones out of the method's own list, the others by premises of their own -/
theorem vx_hat {args : Array Value} {s : State} {L B : List Cond} (h1 : ∀ w ∈ L.filter goodWord, w.before args s = true) (h2 : ∀ w ∈ L.filter (fun w => !goodWord w), w ∈ B) (h3 : ∀ w ∈ B, w.before args s = true) : ∀ w ∈ L, w.before args s = true := by
  intro w hw
  by_cases g : goodWord w = true
  · exact h1 w (List.mem_filter.mpr ⟨hw, g⟩)
  · refine h3 w (h2 w (List.mem_filter.mpr ⟨hw, ?_⟩))
    show (!goodWord w) = true
    cases hgw : goodWord w
    · rfl
    · exact absurd hgw g
theorem vx_c {args : Array Value} {s : State} {w : Cond} {B : List Cond} (h : w.before args s = true) (t : ∀ w ∈ B, w.before args s = true) : ∀ w' ∈ w :: B, w'.before args s = true := fun w' h' => (List.mem_cons.mp h').elim (fun e => by rw [e]; exact h) (t w')
theorem vx_n {args : Array Value} {s : State} : ∀ w ∈ ([] : List Cond), w.before args s = true := fun _ h => nomatch h
theorem vx_own {args : Array Value} {s : State} {L : List Cond} (h1 : ∀ w ∈ L.filter vx_no, w.before args s = true)
    (hU : (Cond.isRef (.static Bundle.tN "UNASSIGNED_STACK" Bundle.steD)).before args s = true) (hN : (Cond.isRef (.static Bundle.tN "SUPPRESSED_SENTINEL" Bundle.listD)).before args s = true)
    (lU : (Cond.laysStatic Bundle.tN "UNASSIGNED_STACK" Bundle.steD).before args s = true) (lN : (Cond.laysStatic Bundle.tN "SUPPRESSED_SENTINEL" Bundle.listD).before args s = true) : ∀ w ∈ L, w.before args s = true := by
  intro w hw
  by_cases e1 : w = .isRef (.static Bundle.tN "UNASSIGNED_STACK" Bundle.steD)
  · rw [e1]; exact hU
  · by_cases e2 : w = .isRef (.static Bundle.tN "SUPPRESSED_SENTINEL" Bundle.listD)
    · rw [e2]; exact hN
    · by_cases e3 : w = .laysStatic Bundle.tN "UNASSIGNED_STACK" Bundle.steD
      · rw [e3]; exact lU
      · by_cases e4 : w = .laysStatic Bundle.tN "SUPPRESSED_SENTINEL" Bundle.listD
        · rw [e4]; exact lN
        · exact h1 w (List.mem_filter.mpr ⟨hw, by unfold vx_no; rw [decide_eq_true e1, decide_eq_true e2, decide_eq_true e3, decide_eq_true e4]; rfl⟩)
/-- where a static field lies, its class's statics cell in H -/
def vx_L (C n d : String) (A : Nat → Prop) (U : State) (H : Heap) : Prop := ∃ (c : ClassId) (k : Class) (i : Nat) (f : Field) (a : Nat) (cell : Cell), U.vm.findClass C = some c ∧ U.fieldFound? C n d = some (c, k, i, f) ∧ f.isStatic = true ∧ k.statics = some a ∧ H[a]? = some cell ∧ cell.vm.isStatics = true ∧ cell.cls = c ∧ f.slot < cell.slots.size ∧ k.staticTypes[f.slot]? = some f.type ∧ ¬ A a
theorem vx_L.moved {C n d : String} {A : Nat → Prop} {u U : State} {H : Heap} (hvm : u.vm.Alike U.vm) (h : vx_L C n d A u H) : vx_L C n d A U H := by
  obtain ⟨c, k, i, f, a, cell, h1, h2, h3, h4, h5, h6, h7, h8, h9, h10⟩ := h
  obtain ⟨k', hi', he⟩ := State.fieldFound?_setVm hvm h2
  exact ⟨c, k', i, f, a, cell, by rw [hvm.findClass]; exact h1, hi', h3, by rw [he]; exact h4, h5, h6, h7, h8, by rw [he]; exact h9, h10⟩
theorem vx_L.kept {C n d : String} {A : Nat → Prop} {U : State} {H H1 : Heap} (h : vx_L C n d A U H) (hq : ∀ a : Nat, a < H.size → ¬ A a → H1[a]? = H[a]?) : vx_L C n d A U H1 := by
  obtain ⟨c, k, i, f, a, cell, h1, h2, h3, h4, h5, h6, h7, h8, h9, h10⟩ := h
  exact ⟨c, k, i, f, a, cell, h1, h2, h3, h4, by rw [hq a (Array.getElem?_eq_some_iff.mp h5).1 h10]; exact h5, h6, h7, h8, h9, h10⟩
theorem vx_L.narrow {C n d : String} {A B : Nat → Prop} {U : State} {H : Heap} (h : vx_L C n d A U H) (hAB : ∀ q, B q → A q) : vx_L C n d B U H := by
  obtain ⟨c, k, i, f, a, cell, h1, h2, h3, h4, h5, h6, h7, h8, h9, h10⟩ := h
  exact ⟨c, k, i, f, a, cell, h1, h2, h3, h4, h5, h6, h7, h8, h9, fun z => h10 (hAB _ z)⟩
theorem vx_L.word {C n d : String} {A : Nat → Prop} {s : State} {args : Array Value} (h : vx_L C n d A s s.heap) : (Cond.laysStatic C n d).before args s = true := by
  obtain ⟨c, k, i, f, a, cell, h1, h2, h3, h4, h5, h6, h7, h8, h9, -⟩ := h
  show (Cond.laysStatic C n d).holds args s none s [] = true
  exact Cond.laysStatic_of h1 h2 h3 h4 h5 h6 h7 h8 h9
/-- .. and what it holds: null or some reference -/
def vx_Zq (C n d : String) (A : Nat → Prop) (U : State) (H : Heap) : Prop := va_Zq C n d A U H ∧ vx_L C n d A U H
theorem vx_Zq.moved {C n d : String} {A : Nat → Prop} {u U : State} {H : Heap} (hvm : u.vm.Alike U.vm) (h : vx_Zq C n d A u H) : vx_Zq C n d A U H := ⟨va_Zq.moved hvm h.1, vx_L.moved hvm h.2⟩
theorem vx_Zq.kept {C n d : String} {A : Nat → Prop} {U : State} {H H1 : Heap} (h : vx_Zq C n d A U H) (hq : ∀ a : Nat, a < H.size → ¬ A a → H1[a]? = H[a]?) : vx_Zq C n d A U H1 := ⟨va_Zq.kept h.1 hq, vx_L.kept h.2 hq⟩
theorem vx_Zq.narrow {C n d : String} {A B : Nat → Prop} {U : State} {H : Heap} (h : vx_Zq C n d A U H) (hAB : ∀ q, B q → A q) : vx_Zq C n d B U H := ⟨va_Zq.narrow h.1 hAB, vx_L.narrow h.2 hAB⟩
theorem vx_Zqof {args : Array Value} {s : State} {C n d : String} {A : Nat → Prop} (hl : (Cond.laysStatic C n d).before args s = true) (hini : (Cond.initialized C).before args s = true) (h : (Cond.isRef (.static C n d)).before args s = true) (hA : ∀ a : Nat, a < s.heap.size → ¬ A a) : vx_Zq C n d A s s.heap := by
  refine ⟨va_Zqof hl hini h hA, ?_⟩
  obtain ⟨c, k, i, f, a, cell, h1, h2, h3, h4, h5, h6, h7, h8, h9⟩ := Cond.laysStatic_spec hl
  exact ⟨c, k, i, f, a, cell, h1, h2, h3, h4, h5, h6, h7, h8, h9, hA a (Array.getElem?_eq_some_iff.mp h5).1⟩
theorem vx_isRef {C n d : String} {v : Value} {A : Nat → Prop} {s : State} {args : Array Value} (h : va_Z C n d v A s s.heap) (hv : v.isRef = true) : (Cond.isRef (.static C n d)).before args s = true := by
  obtain ⟨cf, kf, fi, f, a, cell, h1, h2, h3, h4, h5, h6, h7, -⟩ := h
  have he : (Term.static C n d).eval args s none [] s = some v := by
    simp [Term.eval, State.fieldNamed?, h1, h2, h4, h5, h6, h7]
  simp only [Cond.before, Cond.holds, Cond.value, he]
  cases v <;> simp_all [Value.isRef]
theorem vx_isRefq {C n d : String} {A : Nat → Prop} {s : State} {args : Array Value} (h : va_Zq C n d A s s.heap) : (Cond.isRef (.static C n d)).before args s = true := by
  rcases h with h | ⟨t, h⟩
  · exact vx_isRef h rfl
  · exact vx_isRef h rfl
/-- the same frame, seen from here: as if the method were called anew in this heap -/
theorem vx_rebase {T : State} (X : Stand p l e R s m args below meth c T locs cells slots) {R' : Room} (hf : R'.frames ≤ R.frames) (hl : R'.locals ≤ R.locals) (hc : cells + R'.cells ≤ R.cells) (hs : slots + R'.slots ≤ R.slots) :
    Stand p l e R' ((T.setVm s.vm).setFrames (.invoking m args :: below)) m args below meth c T [] 0 0 := by
  have htop : (T.setVm s.vm).topJava?.isSome := X.here.top
  have hF : ((T.setVm s.vm).setFrames (.invoking m args :: below)).frames = .invoking m args :: below := State.frames_setFrames _ (State.cur_lt_of_top htop)
  obtain ⟨g₀, hg0⟩ := Option.isSome_iff_exists.mp htop
  obtain ⟨r, hr⟩ := State.topJava?_eq_some.mp hg0
  have hl9 : e.platform.stackLimits (T.setVm s.vm).me = e.platform.stackLimits s.me := X.limits
  have hb9 : (T.setVm s.vm).me.stackBytes = s.me.stackBytes := X.bytes
  refine ⟨X.admits, X.cas, X.clock, hF, ?_, X.hears, X.method, X.code, X.here, X.tail, X.warmed, ?_, ?_, ?_⟩
  · have h := X.room
    have hU : ((T.setVm s.vm).setFrames (.invoking m args :: below)).localsInUse = s.localsInUse := by
      rw [State.localsInUse_invoking hF (meth := meth) (c := c) X.method X.code, State.localsInUse_invoking X.frames X.method X.code]
    simp only [State.hasRoom, Bool.and_eq_true, decide_eq_true_eq] at h ⊢
    obtain ⟨⟨⟨⟨h1, h2, h3, h4, h5, h6⟩, h7⟩, h8⟩, h9⟩ := h
    rw [X.frames, List.length_cons] at h2 h3
    have q1 := X.heapSize
    have q2 := X.used
    simp only [hF, hU, List.length_cons, State.stackLimits_setFrames, State.stackBytes_setFrames, hl9, hb9]
    refine ⟨⟨⟨⟨by omega, by omega, by omega, by omega, by omega, h6⟩, ?_⟩, ?_⟩, X.book⟩
    · show T.heap.size + R'.cells ≤ e.platform.maxCells
      omega
    · show T.slotsUsed + R'.slots ≤ e.platform.maxSlots
      omega
  · rw [State.stackLimits_setFrames]; rfl
  · rw [State.stackBytes_setFrames]; rfl
  · refine ⟨?_, Nat.le_refl _, Nat.le_refl _, ?_, ?_, fun a c9 h9 => ⟨c9, h9, rfl, rfl, fun _ _ => rfl⟩⟩
    · obtain ⟨t, ht, -⟩ := State.frames_cons hr
      show T.setVm s.vm = { ((T.setVm s.vm).setFrames (.invoking m args :: below)).setFrames (T.setVm s.vm).frames with heap := T.heap, slotsUsed := T.slotsUsed }
      rw [State.setFrames_setFrames, State.setFrames_self ht]
      rfl
    · show T.slotsUsed = T.slotsUsed + ((T.heap.toList.drop T.heap.size).map (·.slots.size)).sum
      rw [List.drop_eq_nil_of_le (Nat.le_of_eq Array.length_toList)]
      rfl
    · show ((T.heap.toList.drop T.heap.size).map (·.slots.size)).sum ≤ 0
      rw [List.drop_eq_nil_of_le (Nat.le_of_eq Array.length_toList)]
      exact Nat.le_refl _
/-- 'throw new E()': new; dup; invokespecial; athrow -/
theorem vx_throw0 {cc : ByteArray} {pc : Nat} (hexec : p.tables.exec = Jvm.exec) (hb : c.code = cc) (hl : l.stackTraces = false) {own cls : String} {names : List String} {ik ic mc ms : Nat} {A : Nat → Prop}
    (hown : s.vm.findClass own = some m.cls) (hcls : Bundle.fit cls = true) (hnames : ∀ n ∈ names, Bundle.fit n = true)
    (hk : (Cond.classLink own ik cls).before args s = true) (hini : (Cond.initialized cls).before args s = true) (hat : ∀ w ∈ vx_at0 own ic cls names, w.before args s = true)
    (hgood : ∀ w ∈ Cond.classLink own ik cls :: Cond.initialized cls :: vx_at0 own ic cls names, vx_ot w = true)
    (hU : vx_Zq Bundle.tN "UNASSIGNED_STACK" Bundle.steD A s s.heap) (hN : vx_Zq Bundle.tN "SUPPRESSED_SENTINEL" Bundle.listD A s s.heap) (hS : va_S A s.heap H locs) (hsize : ls.size = c.maxLocals)
    (d0 : decode cc pc = .ok (.new ik, 3)) (d3 : decode cc (pc + 3) = .ok (.dup, 1)) (d4 : decode cc (pc + 4) = .ok (.invokespecial ic, 3)) (d7 : decode cc (pc + 7) = .ok (.athrow, 1))
    (hout : ∀ x ∈ c.exceptionTable.toList, covers x (pc + 7) = false)
    (hRframes : names.length + 3 < R.frames) (hRlocals : (rest.map fun v => v.category).sum + (13 * (names.length + 1) + 42) ≤ R.locals) (hRcells : cells + 1 ≤ R.cells) (hRslots : slots + 6 ≤ R.slots) (hlocks : meth.locks = false)
    (hx : ∀ t : State, s.vm.Alike t.vm → H.size ≤ t.heap.size → (∀ q : Nat, q < H.size → t.heap[q]? = H[q]?) → XC cls s t)
    (hf : ∀ z ∈ locs, free z.base) (hc : cells + 1 ≤ mc) (hs : slots + 6 ≤ ms) :
    W p l e R s m args below meth c H locs cells slots (vx_MQ below Qc XC args s mc ms free) (F0 m pc ls rest) := by
  intro T hT X
  have htr : e.platform.stackTraces = false := (show e.platform.stackTraces = l.stackTraces by rw [X.admits.platform]).trans hl
  have Y := vx_rebase X (R' := { frames := R.frames, locals := R.locals, cells := 1, slots := 6 }) (Nat.le_refl _) (Nat.le_refl _) hRcells hRslots
  obtain ⟨s', hA⟩ : ∃ z, z = (T.setVm s.vm).setFrames (.invoking m args :: below) := ⟨_, rfl⟩
  rw [← hA] at Y
  have hvm : s'.vm = s.vm := by rw [hA]; rfl
  have hhp : s'.heap = H := by rw [hA]; exact hT
  have hW0 : s.WarmedH s'.vm := by rw [hvm]; exact State.WarmedH.refl s
  have hat' : ∀ w ∈ vx_at0 own ic cls names, w.before args s' = true := fun w hw => vx_ot_at hW0 hvm.symm (hgood w (List.mem_cons_of_mem _ (List.mem_cons_of_mem _ hw))) (hat w hw)
  have hk' : (Cond.classLink own ik cls).before args s' = true := vx_ot_at hW0 hvm.symm (hgood _ List.mem_cons_self) hk
  have hini' : (Cond.initialized cls).before args s' = true := vx_ot_at hW0 hvm.symm (hgood _ (List.mem_cons_of_mem _ List.mem_cons_self)) hini
  have hU' : vx_Zq Bundle.tN "UNASSIGNED_STACK" Bundle.steD A s' s'.heap := by rw [hhp]; exact vx_Zq.moved hW0.alike (hU.kept hS.2.1)
  have hN' : vx_Zq Bundle.tN "SUPPRESSED_SENTINEL" Bundle.listD A s' s'.heap := by rw [hhp]; exact vx_Zq.moved hW0.alike (hN.kept hS.2.1)
  have h : ∀ w ∈ Bundle.ownAtoms0 own ic cls names, w.before args s' = true := vx_own hat' (vx_isRefq hU'.1) (vx_isRefq hN'.1) hU'.2.word hN'.2.word
  have hown' : s'.vm.findClass own = some m.cls := by rw [hvm]; exact hown
  have hins : (Cond.instantiable cls 6).before args s' = true := h _ (by simp [Bundle.ownAtoms0])
  obtain ⟨vm₁, cX, kX, hfX, hkX, -, -, X₁, st1⟩ := Y.newCold hexec (own := own) (C := cls) (index := ik) (n := 6) hown' hk' hins hini'
    (g := F0 m pc ls rest) rfl (by rw [hb]; exact d0) (Nat.le_refl _) (Nat.le_refl _)
  generalize hT1 : (T.setVm vm₁).pushCell { cls := cX, slots := kX.instanceTypes.map defaultValue, vm := .none } = T1 at X₁ st1
  have hcat : (Value.ref T.heap.size).category = 1 := rfl
  have hcellA : T1.heap[T.heap.size]? = some (freshCell cX kX) := by rw [← hT1]; exact State.heap_pushCell_size _ _
  have d3' : decode c.code (pc + 3) = .ok (.dup, 1) := by rw [hb]; exact d3
  obtain ⟨U, hsteps, hrun, hend, hW, hsame, ce, hce, hO⟩ := X₁.ctorThrow0 hexec htr (own := own) (cls := cls) (names := names) (ic := ic) hown' hcls hnames h (fun x hx => nomatch hx) hfX hkX hcellA (by rw [hhp, hT]; exact Nat.le_refl _)
    (g := { method := m, pc := pc + 4, locals := ls, stack := .ref T.heap.size :: .ref T.heap.size :: rest, locked := none }) rfl hsize rfl rfl (rest := rest) rfl
    (by rw [hb]; exact d4) (by rw [hb]; exact d7) hout hRframes (by simp only [List.map_cons, List.sum_cons, hcat]; omega) hlocks
  obtain ⟨f1, f2⟩ := vx_frame hsame
  rw [hhp] at f1 f2
  have hWs : s.WarmedH U.vm := State.WarmedH.trans hW0 hW
  have hcl : s.vm.findClass cls = some ce.cls := by
    have h9 := hO.cls
    rw [hvm] at h9
    exact h9
  have hall : s.sameButNew ({ U with vm := s.vm } : State) locs mc ms := by
    subst hA
    obtain ⟨e1, e2⟩ := hsame
    rw [State.setFrames_setFrames] at e1
    have h2 : (T.setVm s.vm).sameButNew ({ U with vm := s.vm } : State) [] (0 + 1) (0 + 6) := ⟨e1, e2⟩
    have h3 := X.same.trans h2
    rw [List.append_nil] at h3
    exact h3.mono hc hs
  refine ⟨U, ?_, .threw T.heap.size, hrun, hend, Or.inr ⟨T.heap.size, rfl, cls, ce, locs, hx U hWs.alike f1 (fun q hq => f2 q hq (fun z hz => nomatch hz)), hce, hO.vm, hcl, hWs, hall, hf⟩⟩
  refine st1 _ ?_
  show Steps p.tables e below (T1.setTop { method := m, pc := pc + 3, locals := ls, stack := .ref T.heap.size :: rest, locked := none }) _
  jvm_step X₁.here [X₁.here.top, hexec, d3', Value.category]
  exact hsteps
/-- 'throw new E("text")': new; dup; ldc; invokespecial; athrow -/
theorem vx_throwS {cc : ByteArray} {pc : Nat} (hexec : p.tables.exec = Jvm.exec) (hb : c.code = cc) (hl : l.stackTraces = false) {own cls text : String} {names : List String} {ik is ic mc ms sa : Nat} {A : Nat → Prop}
    (hown : s.vm.findClass own = some m.cls) (hcls : Bundle.fit cls = true) (hnames : ∀ n ∈ names, Bundle.fit n = true)
    (hk : (Cond.classLink own ik cls).before args s = true) (hini : (Cond.initialized cls).before args s = true) (hstr : vk_R own is text sa s) (hat : ∀ w ∈ vx_atS own ic cls names, w.before args s = true)
    (hgood : ∀ w ∈ Cond.classLink own ik cls :: Cond.initialized cls :: vx_atS own ic cls names, vx_ot w = true)
    (hU : vx_Zq Bundle.tN "UNASSIGNED_STACK" Bundle.steD A s s.heap) (hN : vx_Zq Bundle.tN "SUPPRESSED_SENTINEL" Bundle.listD A s s.heap) (hS : va_S A s.heap H locs) (hsize : ls.size = c.maxLocals)
    (d0 : decode cc pc = .ok (.new ik, 3)) (d3 : decode cc (pc + 3) = .ok (.dup, 1)) (d4 : decode cc (pc + 4) = .ok (.ldc is, 2)) (d6 : decode cc (pc + 6) = .ok (.invokespecial ic, 3)) (d9 : decode cc (pc + 9) = .ok (.athrow, 1))
    (hout : ∀ x ∈ c.exceptionTable.toList, covers x (pc + 9) = false)
    (hRframes : names.length + 3 < R.frames) (hRlocals : (rest.map fun v => v.category).sum + (13 * (names.length + 1) + 43) ≤ R.locals) (hRcells : cells + 1 ≤ R.cells) (hRslots : slots + 6 ≤ R.slots) (hlocks : meth.locks = false)
    (hx : ∀ t : State, s.vm.Alike t.vm → H.size ≤ t.heap.size → (∀ q : Nat, q < H.size → t.heap[q]? = H[q]?) → XC cls s t)
    (hf : ∀ z ∈ locs, free z.base) (hc : cells + 1 ≤ mc) (hs : slots + 6 ≤ ms) :
    W p l e R s m args below meth c H locs cells slots (vx_MQ below Qc XC args s mc ms free) (F0 m pc ls rest) := by
  intro T hT X
  have htr : e.platform.stackTraces = false := (show e.platform.stackTraces = l.stackTraces by rw [X.admits.platform]).trans hl
  have Y := vx_rebase X (R' := { frames := R.frames, locals := R.locals, cells := 1, slots := 6 }) (Nat.le_refl _) (Nat.le_refl _) hRcells hRslots
  obtain ⟨s', hA⟩ : ∃ z, z = (T.setVm s.vm).setFrames (.invoking m args :: below) := ⟨_, rfl⟩
  rw [← hA] at Y
  have hvm : s'.vm = s.vm := by rw [hA]; rfl
  have hhp : s'.heap = H := by rw [hA]; exact hT
  have hW0 : s.WarmedH s'.vm := by rw [hvm]; exact State.WarmedH.refl s
  have hat' : ∀ w ∈ vx_atS own ic cls names, w.before args s' = true := fun w hw => vx_ot_at hW0 hvm.symm (hgood w (List.mem_cons_of_mem _ (List.mem_cons_of_mem _ hw))) (hat w hw)
  have hk' : (Cond.classLink own ik cls).before args s' = true := vx_ot_at hW0 hvm.symm (hgood _ List.mem_cons_self) hk
  have hini' : (Cond.initialized cls).before args s' = true := vx_ot_at hW0 hvm.symm (hgood _ (List.mem_cons_of_mem _ List.mem_cons_self)) hini
  have hU' : vx_Zq Bundle.tN "UNASSIGNED_STACK" Bundle.steD A s' s'.heap := by rw [hhp]; exact vx_Zq.moved hW0.alike (hU.kept hS.2.1)
  have hN' : vx_Zq Bundle.tN "SUPPRESSED_SENTINEL" Bundle.listD A s' s'.heap := by rw [hhp]; exact vx_Zq.moved hW0.alike (hN.kept hS.2.1)
  have h : ∀ w ∈ Bundle.ownAtoms own ic cls names, w.before args s' = true := vx_own hat' (vx_isRefq hU'.1) (vx_isRefq hN'.1) hU'.2.word hN'.2.word
  have hown' : s'.vm.findClass own = some m.cls := by rw [hvm]; exact hown
  have hins : (Cond.instantiable cls 6).before args s' = true := h _ (by simp [Bundle.ownAtoms])
  obtain ⟨vm₁, cX, kX, hfX, hkX, -, -, X₁, st1⟩ := Y.newCold hexec (own := own) (C := cls) (index := ik) (n := 6) hown' hk' hins hini'
    (g := F0 m pc ls rest) rfl (by rw [hb]; exact d0) (Nat.le_refl _) (Nat.le_refl _)
  generalize hT1 : (T.setVm vm₁).pushCell { cls := cX, slots := kX.instanceTypes.map defaultValue, vm := .none } = T1 at X₁ st1
  have hcat : (Value.ref T.heap.size).category = 1 := rfl
  have hcellA : T1.heap[T.heap.size]? = some (freshCell cX kX) := by rw [← hT1]; exact State.heap_pushCell_size _ _
  have d3' : decode c.code (pc + 3) = .ok (.dup, 1) := by rw [hb]; exact d3
  have d4' : decode c.code (pc + 4) = .ok (.ldc is, 2) := by rw [hb]; exact d4
  have hstr' : vk_R own is text sa s' := vk_R.warm hW0 hstr
  obtain ⟨U, hsteps, hrun, hend, hW, hsame, ce, hce, hO⟩ := X₁.ctorThrowS hexec htr (own := own) (cls := cls) (names := names) (ic := ic) hown' hcls hnames h (fun x hx => nomatch hx) hfX hkX hcellA (by rw [hhp, hT]; exact Nat.le_refl _) (msg := .ref sa) rfl
    (g := { method := m, pc := pc + 6, locals := ls, stack := .ref sa :: .ref T.heap.size :: .ref T.heap.size :: rest, locked := none }) rfl hsize rfl rfl (rest := rest) rfl
    (by rw [hb]; exact d6) (by rw [hb]; exact d9) hout hRframes (by simp only [List.map_cons, List.sum_cons, hcat]; omega) hlocks
  obtain ⟨f1, f2⟩ := vx_frame hsame
  rw [hhp] at f1 f2
  have hWs : s.WarmedH U.vm := State.WarmedH.trans hW0 hW
  have hcl : s.vm.findClass cls = some ce.cls := by
    have h9 := hO.cls
    rw [hvm] at h9
    exact h9
  have hall : s.sameButNew ({ U with vm := s.vm } : State) locs mc ms := by
    subst hA
    obtain ⟨e1, e2⟩ := hsame
    rw [State.setFrames_setFrames] at e1
    have h2 : (T.setVm s.vm).sameButNew ({ U with vm := s.vm } : State) [] (0 + 1) (0 + 6) := ⟨e1, e2⟩
    have h3 := X.same.trans h2
    rw [List.append_nil] at h3
    exact h3.mono hc hs
  refine ⟨U, ?_, .threw T.heap.size, hrun, hend, Or.inr ⟨T.heap.size, rfl, cls, ce, locs, hx U hWs.alike f1 (fun q hq => f2 q hq (fun z hz => nomatch hz)), hce, hO.vm, hcl, hWs, hall, hf⟩⟩
  refine st1 _ ?_
  show Steps p.tables e below (T1.setTop { method := m, pc := pc + 3, locals := ls, stack := .ref T.heap.size :: rest, locked := none }) _
  jvm_step X₁.here [X₁.here.top, hexec, d3', Value.category]
  exact X₁.ldcString hexec (own := own) (text := text) (index := is) (a := sa) hown' hstr'.1 hstr'.2
    (g := { method := m, pc := pc + 4, locals := ls, stack := .ref T.heap.size :: .ref T.heap.size :: rest, locked := none }) rfl d4' _ hsteps
/-- 'throw new E("text")', the text by a wide index -/
theorem vx_throwSW {cc : ByteArray} {pc : Nat} (hexec : p.tables.exec = Jvm.exec) (hb : c.code = cc) (hl : l.stackTraces = false) {own cls text : String} {names : List String} {ik is ic mc ms sa : Nat} {A : Nat → Prop}
    (hown : s.vm.findClass own = some m.cls) (hcls : Bundle.fit cls = true) (hnames : ∀ n ∈ names, Bundle.fit n = true)
    (hk : (Cond.classLink own ik cls).before args s = true) (hini : (Cond.initialized cls).before args s = true) (hstr : vk_R own is text sa s) (hat : ∀ w ∈ vx_atS own ic cls names, w.before args s = true)
    (hgood : ∀ w ∈ Cond.classLink own ik cls :: Cond.initialized cls :: vx_atS own ic cls names, vx_ot w = true)
    (hU : vx_Zq Bundle.tN "UNASSIGNED_STACK" Bundle.steD A s s.heap) (hN : vx_Zq Bundle.tN "SUPPRESSED_SENTINEL" Bundle.listD A s s.heap) (hS : va_S A s.heap H locs) (hsize : ls.size = c.maxLocals)
    (d0 : decode cc pc = .ok (.new ik, 3)) (d3 : decode cc (pc + 3) = .ok (.dup, 1)) (d4 : decode cc (pc + 4) = .ok (.ldc_w is, 3)) (d7 : decode cc (pc + 7) = .ok (.invokespecial ic, 3)) (d10 : decode cc (pc + 10) = .ok (.athrow, 1))
    (hout : ∀ x ∈ c.exceptionTable.toList, covers x (pc + 10) = false)
    (hRframes : names.length + 3 < R.frames) (hRlocals : (rest.map fun v => v.category).sum + (13 * (names.length + 1) + 43) ≤ R.locals) (hRcells : cells + 1 ≤ R.cells) (hRslots : slots + 6 ≤ R.slots) (hlocks : meth.locks = false)
    (hx : ∀ t : State, s.vm.Alike t.vm → H.size ≤ t.heap.size → (∀ q : Nat, q < H.size → t.heap[q]? = H[q]?) → XC cls s t)
    (hf : ∀ z ∈ locs, free z.base) (hc : cells + 1 ≤ mc) (hs : slots + 6 ≤ ms) :
    W p l e R s m args below meth c H locs cells slots (vx_MQ below Qc XC args s mc ms free) (F0 m pc ls rest) := by
  intro T hT X
  have htr : e.platform.stackTraces = false := (show e.platform.stackTraces = l.stackTraces by rw [X.admits.platform]).trans hl
  have Y := vx_rebase X (R' := { frames := R.frames, locals := R.locals, cells := 1, slots := 6 }) (Nat.le_refl _) (Nat.le_refl _) hRcells hRslots
  obtain ⟨s', hA⟩ : ∃ z, z = (T.setVm s.vm).setFrames (.invoking m args :: below) := ⟨_, rfl⟩
  rw [← hA] at Y
  have hvm : s'.vm = s.vm := by rw [hA]; rfl
  have hhp : s'.heap = H := by rw [hA]; exact hT
  have hW0 : s.WarmedH s'.vm := by rw [hvm]; exact State.WarmedH.refl s
  have hat' : ∀ w ∈ vx_atS own ic cls names, w.before args s' = true := fun w hw => vx_ot_at hW0 hvm.symm (hgood w (List.mem_cons_of_mem _ (List.mem_cons_of_mem _ hw))) (hat w hw)
  have hk' : (Cond.classLink own ik cls).before args s' = true := vx_ot_at hW0 hvm.symm (hgood _ List.mem_cons_self) hk
  have hini' : (Cond.initialized cls).before args s' = true := vx_ot_at hW0 hvm.symm (hgood _ (List.mem_cons_of_mem _ List.mem_cons_self)) hini
  have hU' : vx_Zq Bundle.tN "UNASSIGNED_STACK" Bundle.steD A s' s'.heap := by rw [hhp]; exact vx_Zq.moved hW0.alike (hU.kept hS.2.1)
  have hN' : vx_Zq Bundle.tN "SUPPRESSED_SENTINEL" Bundle.listD A s' s'.heap := by rw [hhp]; exact vx_Zq.moved hW0.alike (hN.kept hS.2.1)
  have h : ∀ w ∈ Bundle.ownAtoms own ic cls names, w.before args s' = true := vx_own hat' (vx_isRefq hU'.1) (vx_isRefq hN'.1) hU'.2.word hN'.2.word
  have hown' : s'.vm.findClass own = some m.cls := by rw [hvm]; exact hown
  have hins : (Cond.instantiable cls 6).before args s' = true := h _ (by simp [Bundle.ownAtoms])
  obtain ⟨vm₁, cX, kX, hfX, hkX, -, -, X₁, st1⟩ := Y.newCold hexec (own := own) (C := cls) (index := ik) (n := 6) hown' hk' hins hini'
    (g := F0 m pc ls rest) rfl (by rw [hb]; exact d0) (Nat.le_refl _) (Nat.le_refl _)
  generalize hT1 : (T.setVm vm₁).pushCell { cls := cX, slots := kX.instanceTypes.map defaultValue, vm := .none } = T1 at X₁ st1
  have hcat : (Value.ref T.heap.size).category = 1 := rfl
  have hcellA : T1.heap[T.heap.size]? = some (freshCell cX kX) := by rw [← hT1]; exact State.heap_pushCell_size _ _
  have d3' : decode c.code (pc + 3) = .ok (.dup, 1) := by rw [hb]; exact d3
  have d4' : decode c.code (pc + 4) = .ok (.ldc_w is, 3) := by rw [hb]; exact d4
  have hstr' : vk_R own is text sa s' := vk_R.warm hW0 hstr
  obtain ⟨U, hsteps, hrun, hend, hW, hsame, ce, hce, hO⟩ := X₁.ctorThrowS hexec htr (own := own) (cls := cls) (names := names) (ic := ic) hown' hcls hnames h (fun x hx => nomatch hx) hfX hkX hcellA (by rw [hhp, hT]; exact Nat.le_refl _) (msg := .ref sa) rfl
    (g := { method := m, pc := pc + 7, locals := ls, stack := .ref sa :: .ref T.heap.size :: .ref T.heap.size :: rest, locked := none }) rfl hsize rfl rfl (rest := rest) rfl
    (by rw [hb]; exact d7) (by rw [hb]; exact d10) hout hRframes (by simp only [List.map_cons, List.sum_cons, hcat]; omega) hlocks
  obtain ⟨f1, f2⟩ := vx_frame hsame
  rw [hhp] at f1 f2
  have hWs : s.WarmedH U.vm := State.WarmedH.trans hW0 hW
  have hcl : s.vm.findClass cls = some ce.cls := by
    have h9 := hO.cls
    rw [hvm] at h9
    exact h9
  have hall : s.sameButNew ({ U with vm := s.vm } : State) locs mc ms := by
    subst hA
    obtain ⟨e1, e2⟩ := hsame
    rw [State.setFrames_setFrames] at e1
    have h2 : (T.setVm s.vm).sameButNew ({ U with vm := s.vm } : State) [] (0 + 1) (0 + 6) := ⟨e1, e2⟩
    have h3 := X.same.trans h2
    rw [List.append_nil] at h3
    exact h3.mono hc hs
  refine ⟨U, ?_, .threw T.heap.size, hrun, hend, Or.inr ⟨T.heap.size, rfl, cls, ce, locs, hx U hWs.alike f1 (fun q hq => f2 q hq (fun z hz => nomatch hz)), hce, hO.vm, hcl, hWs, hall, hf⟩⟩
  refine st1 _ ?_
  show Steps p.tables e below (T1.setTop { method := m, pc := pc + 3, locals := ls, stack := .ref T.heap.size :: rest, locked := none }) _
  jvm_step X₁.here [X₁.here.top, hexec, d3', Value.category]
  exact X₁.ldcStringW hexec (own := own) (text := text) (index := is) (a := sa) hown' hstr'.1 hstr'.2
    (g := { method := m, pc := pc + 4, locals := ls, stack := .ref T.heap.size :: .ref T.heap.size :: rest, locked := none }) rfl d4' _ hsteps
end Ends
section Bodies
variable {l : Launch}
theorem vx_ofW {y : MethodName} {ws ws' : List Cond} {rm : Room} {Pc : Array Value → State → Prop} {Qc : Array Value → State → Outcome → State → Prop} {XC : String → State → State → Prop} {mc ms : Nat} {free : Addr → Prop} {cc : ByteArray} {maxL : Nat} {ret : Option FieldType}
    (hy : plainName y.cls = true) (hw : ws = Cond.code y cc maxL ret :: ws')
    (body : ∀ p e s m args below meth c s₁, BodyLoose p l y (headSpec ws rm) cc maxL ret e s m args below meth c s₁ → c.maxLocals = maxL → (∀ x ∈ c.exceptionTable.toList, False) → Pc args s →
      W p l e (headSpec ws rm).room s m args below meth c s.heap [] 0 0 (vx_MQ below Qc XC args s mc ms free) (entryFrame m args maxL)) : vx_Met l y ws rm Pc Qc XC mc ms free := by
  refine MetFree.of_bodyS (code := cc) (maxLocals := maxL) (ret := ret) hy ?_ ?_
  · intro args s m h hn
    obtain ⟨meth, c, h1, h2, h3, h4, h5, h6, -, -⟩ := Cond.code_spec hn (atoms_spec (ws := ws) h _ (by rw [hw]; exact List.mem_cons_self))
    exact ⟨meth, c, h1, h2, h3, h4, h5, h6⟩
  · intro p e s m args below meth c s₁ B hml hP _
    have hh0 : s₁.heap = s.heap := by rw [B.state]; rfl
    have ht : ∀ x ∈ c.exceptionTable.toList, False := by
      obtain ⟨meth9, c9, h1, h2, -, -, -, -, h7, -⟩ := Cond.code_spec B.named (atoms_spec (ws := ws) B.pre _ (by rw [hw]; exact List.mem_cons_self))
      cases Option.some.inj (h1.symm.trans B.method)
      cases Option.some.inj (h2.symm.trans (Stand.of_body B).code)
      intro x hx
      rw [Array.isEmpty_iff.mp h7] at hx
      cases hx
    obtain ⟨t, a1, o, b1, b2, b3⟩ := body p e s m args below meth c s₁ B hml ht hP s₁ hh0 (Stand.of_body B)
    exact ⟨t, o, a1, b1, b2, b3⟩
/-- the table of a body with handlers -/
theorem vx_table {p : Program} {x y : MethodName} {S : Spec} {cc bytes : ByteArray} {maxL maxL' : Nat} {ret ret' : Option FieldType} {e : Env} {s s₁ : State} {m : MethodId} {args : Array Value} {below : List Frame} {meth : Method} {c : Code} {hh : List (Nat × Nat × Nat × Nat)}
    (B : BodyLoose p l y S cc maxL ret e s m args below meth c s₁) (h : (Cond.codeWith y bytes maxL' ret' hh).before args s = true) : c.exceptionTable.toList = tableOf hh := by
  obtain ⟨m9, meth9, c9, hn9, h1, h2, -, -, h6, -⟩ := Cond.codeWith_spec h
  cases Option.some.inj (hn9.symm.trans B.named)
  cases Option.some.inj (h1.symm.trans B.method)
  cases Option.some.inj (h2.symm.trans (Stand.of_body B).code)
  rw [← h6, table_eq]
end Bodies
end VXA
/-! ===== END ===== -/
/-! ===== BEGIN a static call of a method with an exception table ===== -/
section VXS
variable {p : Program} {l : Launch} {e : Env} {R : Room} {s : State} {m : MethodId} {args : Array Value} {below : List Frame} {meth : Method} {c : Code} {T : State} {H : Heap} {locs : List Loc} {cells slots : Nat}
abbrev vx_CSW (R : Room) (s : State) (args : Array Value) (own : String) (index : Nat) (y : MethodName) (bytes : ByteArray) (maxL : Nat) (ret : Option FieldType) (hh : List (Nat × Nat × Nat × Nat)) (ws : List Cond) (rm : Room) (mc ms n : Nat) : Prop :=
  (rm.cells = mc ∧ rm.slots = ms ∧ rm.frames + 1 ≤ R.frames ∧ 8 + (maxL + 11) + rm.locals ≤ R.locals ∧ (∀ w ∈ ws, ∀ (a' : Array Value) (U : State), s.WarmedH U.vm → w.before a' U = true) ∧ Cond.codeWith y bytes maxL ret hh ∈ ws) ∧
  (Cond.codeWith y bytes maxL ret hh).before args s = true ∧ (Cond.initialized y.cls).before args s = true ∧ (y.cls ≠ "java/lang/invoke/MethodHandle" ∧ y.cls ≠ "java/lang/invoke/VarHandle") ∧
  (∀ sig, parseMethodDescriptor y.desc = some sig → n = sig.parameters.length) ∧ (Cond.methodLink own index y).before args s = true ∧ (Cond.static y).before args s = true
theorem vx_cwSW {own : String} {index maxL mc ms : Nat} {y : MethodName} {bytes : ByteArray} {ret : Option FieldType} {hh : List (Nat × Nat × Nat × Nat)} {Ts ws ws' : List Cond} {rm : Room} (n : Nat) (ht : ∀ w ∈ Ts, w.before args s = true) (hT : GoodIn Ts (va_wsS own index y ws)) (hw : ws = Cond.codeWith y bytes maxL ret hh :: ws') (hrc : rm.cells = mc) (hrs : rm.slots = ms)
    (hd : y.cls ≠ "java/lang/invoke/MethodHandle" ∧ y.cls ≠ "java/lang/invoke/VarHandle" ∧ (parseMethodDescriptor y.desc).map (fun d => d.parameters.length) = some n) (hR : rm.frames + 1 ≤ R.frames ∧ 8 + (maxL + 11) + rm.locals ≤ R.locals) :
    vx_CSW R s args own index y bytes maxL ret hh ws rm mc ms n := by
  have ok : ∀ w ∈ va_wsS own index y ws, w.before args s = true := fun w h => ht w (hT w h).1
  have hG : GoodIn Ts ws := fun w h => hT w (by unfold va_wsS; exact List.mem_append_right _ h)
  have hc : Cond.codeWith y bytes maxL ret hh ∈ ws := by rw [hw]; exact List.mem_cons_self
  refine ⟨⟨hrc, hrs, hR.1, hR.2, pay_in ht hG, hc⟩, ht _ (hG _ hc).1, ok _ (by simp [va_wsS]), ⟨hd.1, hd.2.1⟩, fun sig h => ?_, ok _ (by simp [va_wsS]), ok _ (by simp [va_wsS])⟩
  have h2 := hd.2.2
  rw [h] at h2
  exact (Option.some.inj h2).symm
theorem vx_callSW (X : Stand p l e R s m args below meth c T locs cells slots) (hexec : p.tables.exec = Jvm.exec) {own : String} {index : Nat} {y : MethodName} {bytes : ByteArray} {maxL : Nat} {ret : Option FieldType} {hh : List (Nat × Nat × Nat × Nat)}
    (hown : s.vm.findClass own = some m.cls) (hlink : (Cond.methodLink own index y).before args s = true) (hstat : (Cond.static y).before args s = true) (hinit : (Cond.initialized y.cls).before args s = true)
    (hcode : (Cond.codeWith y bytes maxL ret hh).before args s = true) (hy : y.cls ≠ "java/lang/invoke/MethodHandle" ∧ y.cls ≠ "java/lang/invoke/VarHandle")
    {W9 : Nat} {Pre : Pt → Array Value → Prop} {Post : Pt → Array Value → Option Value → Pt → Prop} (hK : Back l R p e below s args y 3 W9 Pre Post)
    {g : JFrame} (hg : g.method = m) (hsize : g.locals.size = c.maxLocals) {argsL rest : List Value} (hlen : ∀ sig, parseMethodDescriptor y.desc = some sig → argsL.length = sig.parameters.length)
    (hstack : g.stack = argsL.reverse ++ rest) (hW : 2 * g.monitorRoom + (rest.map fun v => v.category).sum ≤ W9) (hdg : decode c.code g.pc = .ok (.invokestatic index, 3))
    (hpre : ∀ vm₁, s.WarmedH vm₁ → Pre ⟨T.setVm vm₁, locs, cells, slots⟩ argsL.toArray) :
    ∃ (v : Option Value) (vm₁ : Vm) (B : Pt), s.WarmedH vm₁ ∧ Stand p l e R s m args below meth c B.U B.locs B.cells B.slots ∧ Post ⟨T.setVm vm₁, locs, cells, slots⟩ argsL.toArray v B ∧
      ∀ target, Steps p.tables e below (B.U.setTop { g with pc := g.pc + 3, stack := v.toList ++ rest }) target → Steps p.tables e below (T.setTop g) target := by
  obtain ⟨mk, methM, cM, hnamed, hmethM, -, -, -, -, -, -, hsigM⟩ := Cond.codeWith_spec hcode
  have hstatic : methM.isStatic = true := Cond.static_spec hnamed hmethM hstat
  obtain ⟨kP, hkP, -⟩ := className_of_methodNamed hnamed
  have hinitP : kP.init = .initialized := Cond.initialized_spec (findClass_of_methodNamed hnamed) hkP hinit
  obtain ⟨vm₁, X₁, hstep₁⟩ := X.invokestatic hexec hown hlink hnamed hmethM hstatic hkP hinitP hy (g := g) hg (argsL := argsL) (rest := rest) (hlen _ hsigM) hstack hdg
  obtain ⟨v, B, X', hpost, hsteps⟩ := hK m meth c ⟨T.setVm vm₁, locs, cells, slots⟩ { g with stack := rest } (.invokestatic index) mk argsL.toArray X₁ hg hsize hdg hW (X₁.named hnamed) (hpre vm₁ X₁.warmed)
  exact ⟨v, vm₁, B, X₁.warmed, X', hpost, fun target h => hstep₁ _ fun acts => by rw [doInvoke_state]; exact hsteps.trans h⟩
theorem vx_runSW {y : MethodName} {bytes cc : ByteArray} {maxL nL mc ms n index : Nat} {ret : Option FieldType} {hh : List (Nat × Nat × Nat × Nat)} {ws : List Cond} {rm : Room} {Pc : Array Value → State → Prop} {Qc : Array Value → State → Outcome → State → Prop} {free : Addr → Prop} {Ts : List Cond} {own : String} {As rest : List Value} {g : JFrame}
    (S : CallFix p m c cc nL s args Ts own) (hM : Met l y ws rm Pc Qc mc ms free) (cw : vx_CSW R s args own index y bytes maxL ret hh ws rm mc ms n) (hp : PreS s H Pc As)
    (hg : g.method = m) (hn : As.length = n) (hsize : g.locals.size = nL) (hstack : g.stack = As.reverse ++ rest) (hW : 2 * g.monitorRoom + (rest.map fun v => v.category).sum ≤ 8) (hdg : decode cc g.pc = .ok (.invokestatic index, 3)) (hf : cells + mc ≤ R.cells ∧ slots + ms ≤ R.slots) :
    va_Run p l e R s m args below meth c H locs cells slots mc ms g rest (Qc As.toArray) (free) := by
  obtain ⟨⟨hrc, hrs, hfr, hlo, hws, hcw⟩, hcode, hini, hy, hlen, hl, hstt⟩ := cw
  have hK : Back l R p e below s args y 3 8 (PreOf R mc ms Pc) (PostOf Qc mc ms free) := va_backW (hh := hh) (bytes := bytes) (maxL := maxL) (ret := ret) hM hp.1 hrc hrs hfr hlo hws hcw (fun a' U hW => word_at hW (Or.inl (by first | rfl | simp [Cond.onTables, Cond.keeps, Cond.steady])) hini)
  obtain ⟨hx, hb, hml, ho, -⟩ := S
  intro T hT X
  obtain ⟨v, vm₁, ⟨U', l2, c2, s2⟩, hW₁, X', ⟨g', mk, t, L, e1, e2, hq, h1, hL, h2, h3⟩, st⟩ := vx_callSW X hx (hh := hh) (bytes := bytes) (maxL := maxL) (ret := ret) ho hl hstt hini hcode hy hK hg (hsize.trans hml.symm) (argsL := As) (rest := rest) (fun sig h => hn.trans (hlen sig h)) hstack hW (by rw [hb]; exact hdg)
    (fun vm₁ hW₁ => ⟨hf.1, hf.2, hp.2 (T.setVm vm₁) hT hW₁⟩)
  dsimp only [Pt.U, Pt.locs, Pt.cells, Pt.slots] at X' e1 e2 h1 h2 h3 st
  subst h1; subst h2; subst h3
  exact ⟨v, (T.setVm vm₁).calling g' mk As.toArray, t, U', L, hT, X', hL, e1, e2, hq, st⟩
/-- not caught here, past rows that name other classes: it goes on to the caller -/
theorem vx_outP {p : Program} {l : Launch} {e : Env} {R : Room} {s : State} {m : MethodId} {args : Array Value} {below : List Frame} {meth : Method} {c : Code} {H : Heap} {locs : List Loc} {cells slots : Nat} {free : Addr → Prop} {ls : Array Slot} {rest : List Value} {Qc : Array Value → State → Outcome → State → Prop} {XC : String → State → State → Prop}
    {pc : Nat} {own E : String} {ce : Cell} {q : Addr} {mc ms : Nat} (hown : s.vm.findClass own = some m.cls) (hlocks : meth.locks = false)
    (hpass : ∀ z ∈ c.exceptionTable.toList, covers z pc = false ∨ (z.catchType ≠ 0 ∧ ∃ nm : String, (Cond.classLink own z.catchType nm).before args s = true ∧ va_Nc E nm s)) (hcell : H[q]? = some ce) (hv : ce.vm = .none) (hcl : s.vm.findClass E = some ce.cls)
    (hx : ∀ t : State, t.heap = H → s.vm.Alike t.vm → XC E s t) (hf : ∀ z ∈ locs, free z.base) (hc : cells ≤ mc) (hs : slots ≤ ms) :
    vx_W p l e R s m args below meth c H locs cells slots (vx_MQ below Qc XC args s mc ms free) (F0 m pc ls rest) q := by
  intro T hT X
  have hpl : e.platform.magicAccessors = ({} : Platform).magicAccessors := by rw [X.admits.platform]
  obtain ⟨vm', hW', X', st⟩ := X.outThrough hlocks q (g := F0 m pc ls rest) rfl rfl rfl (cell := ce) (by rw [hT]; exact hcell) (by rw [hv]; rfl)
    (by obtain ⟨k9, h9, -⟩ := Vm.findClass_spec hcl; exact ⟨k9, h9⟩) (fun z hz => by
      rcases hpass z hz with h | ⟨hz0, nm, hl1, hn1⟩
      · exact Or.inl h
      · obtain ⟨c6, hc6, hcl6⟩ := Cond.classLink_spec hown hl1 e.platform hpl
        obtain ⟨a8, b8, h1, h2, h3⟩ := hn1
        cases Option.some.inj (h1.symm.trans hcl)
        cases Option.some.inj (h2.symm.trans hc6)
        exact Or.inr ⟨hz0, _, hcl6, h3⟩)
  obtain ⟨g₀, hfr⟩ := X'.frames_eq
  have hcell9 : ((T.setVm vm').setFrames (.throwing q :: below)).heap[q]? = some ce := by
    show T.heap[q]? = some ce
    rw [hT]; exact hcell
  have hend : Ended ((T.setVm vm').setFrames (.throwing q :: below)) below (.threw q) := State.frames_setFrames _ (State.cur_lt_of_frames hfr)
  refine ⟨(T.setVm vm').setFrames (.throwing q :: below), ?_, .threw q, X'.here.running, hend, Or.inr ⟨q, rfl, E, ce, locs, hx _ hT (X'.ends _).1.alike, hcell9, hv, hcl, (X'.ends _).1, (X'.ends _).2.mono hc hs, hf⟩⟩
  rw [X.pushThrowing_eq]
  exact st
/-- a thing of a world lies in the heap -/
theorem vx_lt {D : va_G} {cl : List vw_C} {ws : va_W} {H1 : Heap} (h : va_P D cl ws H1) {k : Nat} {q : Nat × va_E} (hk : ws[k]? = some q) : q.1 < H1.size := (h k q hk).lt
end VXS
/-! ===== END ===== -/
/-! ===== BEGIN methods with a table of their own: called by a name, returning or throwing ===== -/
section VXH
/-! vx_backW, vx_callVX, vx_callSX, vx_callVW, vx_runVW, vx_runVX, vx_runSX, vx_ofWH follow the same proofs as their sisters above (Free/Laws.lean, Shelf42/LK1.lean); vx_outP calls Shelf42/NT130.lean (outThrough). -/
section
variable {l : Launch} {R : Room} {p : Program} {e : Env} {below : List Frame} {s : State} {sargs : Array Value} {y : MethodName} {len W9 : Nat}
theorem vx_backW {ws : List Cond} {rm : Room} {Pc : Array Value → State → Prop} {Qc : Array Value → State → Outcome → State → Prop} {XC : String → State → State → Prop} {mc ms : Nat} {free : Addr → Prop} {bytes : ByteArray} {maxL : Nat} {ret : Option FieldType} {hh : List (Nat × Nat × Nat × Nat)}
    (hM : vx_Met l y ws rm Pc Qc XC mc ms free) (hblind : FrameBlind Pc) (hrc : rm.cells = mc) (hrs : rm.slots = ms)
    (hframes : rm.frames + 1 ≤ R.frames) (hlocals : W9 + (maxL + 11) + rm.locals ≤ R.locals)
    (hws : ∀ w ∈ ws, ∀ a' U, s.WarmedH U.vm → w.before a' U = true) (hcode : Cond.codeWith y bytes maxL ret hh ∈ ws) (hinit : ∀ a' U, s.WarmedH U.vm → (Cond.initialized y.cls).before a' U = true) :
    vx_Back l R p e below s sargs y len W9 (PreOf R mc ms Pc) (PostOf Qc mc ms free) (vx_Post XC mc ms free) := by
  intro m meth c A g ig mk a X hg hsize hdg hW hn hp
  have h1 : (headSpec ws rm).pre.before a A.U = true := atoms_intro fun w hw => hws w hw _ _ X.warmed
  have h2 : (Cond.codeWith y bytes maxL ret hh).before a A.U = true := hws _ hcode _ _ X.warmed
  have h3 : (Cond.initialized y.cls).before a A.U = true := hinit _ _ X.warmed
  have h4 : A.cells + (headSpec ws rm).room.cells ≤ R.cells := by rw [show (headSpec ws rm).room.cells = mc from hrc]; exact hp.1
  have h5 : A.slots + (headSpec ws rm).room.slots ≤ R.slots := by rw [show (headSpec ws rm).room.slots = ms from hrs]; exact hp.2.1
  have hPc : Pc a (A.U.calling g mk a) := hblind _ _ _ _ hp.2.2
  obtain ⟨U, Ls, c0, s0⟩ := A
  dsimp only [Pt.U, Pt.locs, Pt.cells, Pt.slots] at h1 h2 h3 h4 h5 X hn hPc ⊢
  obtain ⟨m9, methY, cY, hn9, hmY, hcY, -, hlY, -⟩ := Cond.codeWith_spec h2
  cases Option.some.inj (hn9.symm.trans hn)
  obtain ⟨kY, hkY, -⟩ := className_of_methodNamed hn
  have hinitY : kY.init = .initialized := Cond.initialized_spec (findClass_of_methodNamed hn) hkY h3
  have h : At U g.method c below := by rw [hg]; exact X.here
  have hlocals9 : W9 + (maxL + 11) + (headSpec ws rm).room.locals ≤ R.locals := hlocals
  have happ : (headSpec ws rm).appliesLoose y e.platform (U.calling g mk a) = true :=
    Spec.appliesLoose_calling (g := g) h hdg hn hkY hinitY
      (X.room_calling (g := g) (R' := (headSpec ws rm).room) hsize hmY hcY hframes (by rw [hlY]; omega) h4 h5) h1
  obtain ⟨mid, hmid⟩ := h.above
  have hfr : (U.setTop g).frames = (.java g :: mid) ++ below := by rw [State.frames_setTop' g h.top, hmid]; rfl
  obtain ⟨o, s₂, hsteps, -, hend, hq⟩ := Steps.callFree hM p X.admits X.cas X.clock (acts := []) hfr happ hPc trivial
  have hq' : vx_Q Qc XC mc ms free a (U.calling g mk a) o s₂ := hq
  rw [State.frames_setTop' g h.top] at hend
  obtain ⟨g₀, hg0⟩ := Option.isSome_iff_exists.mp h.top
  obtain ⟨r, hr⟩ := State.topJava?_eq_some.mp hg0
  have hr' : (({ U with heap := s₂.heap, slotsUsed := s₂.slotsUsed } : State).setVm s₂.vm).frames = .java g₀ :: r := hr
  rcases hq' with ⟨hqc, L, hfe, hL⟩ | ⟨q, rfl, E, ce, L, hx, hce, hcv, hcl, hW₂, hsm, hL⟩
  · obtain ⟨⟨v, rfl⟩, hW₂, e2, q2, q3, q4, q5, q6⟩ := id hfe
    have e3 : s₂ = ({ (U.calling g mk a).setFrames s₂.frames with heap := s₂.heap, slotsUsed := s₂.slotsUsed } : State).setVm s₂.vm := by
      have : s₂ = ({ s₂ with vm := (U.calling g mk a).vm } : State).setVm s₂.vm := rfl
      rw [e2] at this
      exact this
    obtain ⟨c₂, i₂, len₂, hc₂, hd₂, hf₂⟩ := hend
    have hW' : U.WarmedH s₂.vm := hW₂
    have hcc : c₂ = c := by
      have h1 : s₂.code? g.method = U.code? g.method := by
        rw [State.code?_eq, State.code?_eq, hW'.alike.method?]
      exact Option.some.inj (hc₂.symm.trans (h1.trans h.code))
    subst hcc
    have hlen : len₂ = len := by rw [hdg] at hd₂; cases hd₂; rfl
    subst hlen
    have hs₂ : s₂ = (({ U with heap := s₂.heap, slotsUsed := s₂.slotsUsed } : State).setVm s₂.vm).setTop { g with pc := g.pc + len₂, stack := v.toList ++ g.stack } := by
      refine e3.trans ?_
      rw [hf₂, State.calling_eq h.top, State.setFrames_setFrames, State.setTop_of_frames _ hr', hr]
      rfl
    have hsame : U.sameButNew ({ U with heap := s₂.heap, slotsUsed := s₂.slotsUsed } : State) L mc ms := by
      refine ⟨?_, q2, q3, q4, q5, q6⟩
      obtain ⟨t, ht, -⟩ := State.frames_cons hr
      show ({ U with heap := s₂.heap, slotsUsed := s₂.slotsUsed } : State) = { U.setFrames U.frames with heap := s₂.heap, slotsUsed := s₂.slotsUsed }
      rw [State.setFrames_self ht]
    subst hg
    refine Or.inl ⟨v, ⟨(({ U with heap := s₂.heap, slotsUsed := s₂.slotsUsed } : State).setVm s₂.vm), Ls ++ L, c0 + mc, s0 + ms⟩,
      ⟨X.admits, X.cas, X.clock, X.frames, X.room, X.hears, X.method, X.code, (X.here.setHeapUsed s₂.heap s₂.slotsUsed).setVm hW'.alike, X.tail, State.WarmedH.trans X.warmed hW', X.limits, X.bytes, X.same.trans (hsame.setVm s.vm)⟩,
      ⟨g, mk, s₂, L, rfl, rfl, hqc, rfl, hL, rfl, rfl⟩, ?_⟩
    show Steps p.tables e below _ ((({ U with heap := s₂.heap, slotsUsed := s₂.slotsUsed } : State).setVm s₂.vm).setTop { g with pc := g.pc + len₂, stack := v.toList ++ g.stack })
    rw [← hs₂]
    exact hsteps
  · obtain ⟨e2, q2, q3, q4, q5, q6⟩ := id hsm
    have e3 : s₂ = ({ (U.calling g mk a).setFrames s₂.frames with heap := s₂.heap, slotsUsed := s₂.slotsUsed } : State).setVm s₂.vm := by
      have : s₂ = ({ s₂ with vm := (U.calling g mk a).vm } : State).setVm s₂.vm := rfl
      rw [e2] at this
      exact this
    have hf₂ : s₂.frames = .throwing q :: .java g :: U.frames.tail := hend
    have hW' : U.WarmedH s₂.vm := hW₂
    have hs₂ : s₂ = ((({ U with heap := s₂.heap, slotsUsed := s₂.slotsUsed } : State).setVm s₂.vm).setTop g).pushFrame (.throwing q) := by
      refine e3.trans ?_
      rw [hf₂, State.calling_eq h.top, State.setFrames_setFrames, State.pushFrame, State.frames_setTop _ hr', State.setTop_of_frames _ hr', State.setFrames_setFrames, hr]
      rfl
    have hsame : U.sameButNew ({ U with heap := s₂.heap, slotsUsed := s₂.slotsUsed } : State) L mc ms := by
      refine ⟨?_, q2, q3, q4, q5, q6⟩
      obtain ⟨t, ht, -⟩ := State.frames_cons hr
      show ({ U with heap := s₂.heap, slotsUsed := s₂.slotsUsed } : State) = { U.setFrames U.frames with heap := s₂.heap, slotsUsed := s₂.slotsUsed }
      rw [State.setFrames_self ht]
    subst hg
    refine Or.inr ⟨q, ⟨(({ U with heap := s₂.heap, slotsUsed := s₂.slotsUsed } : State).setVm s₂.vm), Ls ++ L, c0 + mc, s0 + ms⟩,
      ⟨X.admits, X.cas, X.clock, X.frames, X.room, X.hears, X.method, X.code, (X.here.setHeapUsed s₂.heap s₂.slotsUsed).setVm hW'.alike, X.tail, State.WarmedH.trans X.warmed hW', X.limits, X.bytes, X.same.trans (hsame.setVm s.vm)⟩,
      ⟨g, mk, s₂, L, E, ce, rfl, rfl, hx, hce, hcv, hcl, rfl, hL, rfl, rfl⟩, ?_⟩
    show Steps p.tables e below _ (((({ U with heap := s₂.heap, slotsUsed := s₂.slotsUsed } : State).setVm s₂.vm).setTop g).pushFrame (.throwing q))
    rw [← hs₂]
    exact hsteps
end
variable {p : Program} {l : Launch} {e : Env} {R : Room} {s : State} {m : MethodId} {args : Array Value} {below : List Frame} {meth : Method} {c : Code} {T : State} {H : Heap} {locs : List Loc} {cells slots : Nat}
theorem vx_callVX (X : Stand p l e R s m args below meth c T locs cells slots) (hexec : p.tables.exec = Jvm.exec) {own C : String} {index : Nat} {y : MethodName} {bytes : ByteArray} {maxL : Nat} {ret : Option FieldType} {hh : List (Nat × Nat × Nat × Nat)}
    (hown : s.vm.findClass own = some m.cls) (hlink : (Cond.methodLink own index y).before args s = true) (hinst : (Cond.instanceMethod y).before args s = true) (hsel : (Cond.selects C y y).before args s = true)
    (hcode : (Cond.codeWith y bytes maxL ret hh).before args s = true) (hy : y.cls ≠ "java/lang/invoke/MethodHandle" ∧ y.cls ≠ "java/lang/invoke/VarHandle")
    {W9 : Nat} {Pre : Pt → Array Value → Prop} {Post : Pt → Array Value → Option Value → Pt → Prop} {PostX : Pt → Array Value → Addr → Pt → Prop} (hK : vx_Back l R p e below s args y 3 W9 Pre Post PostX)
    {b : Addr} {cellB : Cell} (hcell : T.heap[b]? = some cellB) (hobj : cellB.vm.isStatics = false) (hcls : s.vm.findClass C = some cellB.cls)
    {g : JFrame} (hg : g.method = m) (hsize : g.locals.size = c.maxLocals) {argsL rest : List Value} (hlen : ∀ sig, parseMethodDescriptor y.desc = some sig → argsL.length = sig.parameters.length)
    (hstack : g.stack = argsL.reverse ++ .ref b :: rest) (hW : 2 * g.monitorRoom + (rest.map fun v => v.category).sum ≤ W9) (hdg : decode c.code g.pc = .ok (.invokevirtual index, 3))
    (hpre : ∀ vm₁, s.WarmedH vm₁ → Pre ⟨T.setVm vm₁, locs, cells, slots⟩ (Value.ref b :: argsL).toArray) :
    (∃ (v : Option Value) (vm₁ : Vm) (B : Pt), s.WarmedH vm₁ ∧ Stand p l e R s m args below meth c B.U B.locs B.cells B.slots ∧ Post ⟨T.setVm vm₁, locs, cells, slots⟩ (Value.ref b :: argsL).toArray v B ∧
      ∀ target, Steps p.tables e below (B.U.setTop { g with pc := g.pc + 3, stack := v.toList ++ rest }) target → Steps p.tables e below (T.setTop g) target) ∨
    (∃ (q : Addr) (vm₁ : Vm) (B : Pt), s.WarmedH vm₁ ∧ Stand p l e R s m args below meth c B.U B.locs B.cells B.slots ∧ PostX ⟨T.setVm vm₁, locs, cells, slots⟩ (Value.ref b :: argsL).toArray q B ∧
      Steps p.tables e below (T.setTop g) ((B.U.setTop { g with stack := rest }).pushFrame (.throwing q))) := by
  obtain ⟨mk, methM, hnamed, hmethM, hstM, habM⟩ := Cond.instanceMethod_spec hinst
  obtain ⟨m8, methM', cM, hn8, hmethM', -, -, -, -, -, -, hsigM⟩ := Cond.codeWith_spec hcode
  cases Option.some.inj (hn8.symm.trans hnamed)
  cases hmethM.symm.trans hmethM'
  obtain ⟨c2, r2, m2, q1, q2, q3, q4, kP, hkP, hkPi⟩ := Cond.selects_spec hsel
  cases hcls.symm.trans q1
  cases (State.methodFound?_of_named hnamed hy).symm.trans q2
  cases hnamed.symm.trans q3
  have hselP : selectMethod e.platform s.vm cellB.cls mk = .method mk := by rw [Launch.admits_selectMethod X.admits]; exact q4
  obtain ⟨vm₁, X₁, hstep₁⟩ := X.invokevirtual hexec hown hlink hnamed hmethM hstM hkP hkPi hy (a := b) (cell := cellB) hcell
    (fun z h => by rw [h] at hobj; cases hobj) hselP hmethM habM hkP hkPi (g := g) hg (argsL := argsL) (rest := rest) (hlen _ hsigM) hstack hdg
  rcases hK m meth c ⟨T.setVm vm₁, locs, cells, slots⟩ { g with stack := rest } (.invokevirtual index) mk (Value.ref b :: argsL).toArray X₁ hg hsize hdg hW (X₁.named hnamed) (hpre vm₁ X₁.warmed) with ⟨v, B, X', hpost, hsteps⟩ | ⟨q, B, X', hpost, hsteps⟩
  · exact Or.inl ⟨v, vm₁, B, X₁.warmed, X', hpost, fun target h => hstep₁ _ fun acts => by rw [doInvoke_state]; exact hsteps.trans h⟩
  · exact Or.inr ⟨q, vm₁, B, X₁.warmed, X', hpost, hstep₁ _ fun acts => by rw [doInvoke_state]; exact hsteps⟩
theorem vx_callSX (X : Stand p l e R s m args below meth c T locs cells slots) (hexec : p.tables.exec = Jvm.exec) {own : String} {index : Nat} {y : MethodName} {bytes : ByteArray} {maxL : Nat} {ret : Option FieldType} {hh : List (Nat × Nat × Nat × Nat)}
    (hown : s.vm.findClass own = some m.cls) (hlink : (Cond.methodLink own index y).before args s = true) (hstat : (Cond.static y).before args s = true) (hinit : (Cond.initialized y.cls).before args s = true)
    (hcode : (Cond.codeWith y bytes maxL ret hh).before args s = true) (hy : y.cls ≠ "java/lang/invoke/MethodHandle" ∧ y.cls ≠ "java/lang/invoke/VarHandle")
    {W9 : Nat} {Pre : Pt → Array Value → Prop} {Post : Pt → Array Value → Option Value → Pt → Prop} {PostX : Pt → Array Value → Addr → Pt → Prop} (hK : vx_Back l R p e below s args y 3 W9 Pre Post PostX)
    {g : JFrame} (hg : g.method = m) (hsize : g.locals.size = c.maxLocals) {argsL rest : List Value} (hlen : ∀ sig, parseMethodDescriptor y.desc = some sig → argsL.length = sig.parameters.length)
    (hstack : g.stack = argsL.reverse ++ rest) (hW : 2 * g.monitorRoom + (rest.map fun v => v.category).sum ≤ W9) (hdg : decode c.code g.pc = .ok (.invokestatic index, 3))
    (hpre : ∀ vm₁, s.WarmedH vm₁ → Pre ⟨T.setVm vm₁, locs, cells, slots⟩ argsL.toArray) :
    (∃ (v : Option Value) (vm₁ : Vm) (B : Pt), s.WarmedH vm₁ ∧ Stand p l e R s m args below meth c B.U B.locs B.cells B.slots ∧ Post ⟨T.setVm vm₁, locs, cells, slots⟩ argsL.toArray v B ∧
      ∀ target, Steps p.tables e below (B.U.setTop { g with pc := g.pc + 3, stack := v.toList ++ rest }) target → Steps p.tables e below (T.setTop g) target) ∨
    (∃ (q : Addr) (vm₁ : Vm) (B : Pt), s.WarmedH vm₁ ∧ Stand p l e R s m args below meth c B.U B.locs B.cells B.slots ∧ PostX ⟨T.setVm vm₁, locs, cells, slots⟩ argsL.toArray q B ∧
      Steps p.tables e below (T.setTop g) ((B.U.setTop { g with stack := rest }).pushFrame (.throwing q))) := by
  obtain ⟨mk, methM, cM, hnamed, hmethM, -, -, -, -, -, -, hsigM⟩ := Cond.codeWith_spec hcode
  have hstatic : methM.isStatic = true := Cond.static_spec hnamed hmethM hstat
  obtain ⟨kP, hkP, -⟩ := className_of_methodNamed hnamed
  have hinitP : kP.init = .initialized := Cond.initialized_spec (findClass_of_methodNamed hnamed) hkP hinit
  obtain ⟨vm₁, X₁, hstep₁⟩ := X.invokestatic hexec hown hlink hnamed hmethM hstatic hkP hinitP hy (g := g) hg (argsL := argsL) (rest := rest) (hlen _ hsigM) hstack hdg
  rcases hK m meth c ⟨T.setVm vm₁, locs, cells, slots⟩ { g with stack := rest } (.invokestatic index) mk argsL.toArray X₁ hg hsize hdg hW (X₁.named hnamed) (hpre vm₁ X₁.warmed) with ⟨v, B, X', hpost, hsteps⟩ | ⟨q, B, X', hpost, hsteps⟩
  · exact Or.inl ⟨v, vm₁, B, X₁.warmed, X', hpost, fun target h => hstep₁ _ fun acts => by rw [doInvoke_state]; exact hsteps.trans h⟩
  · exact Or.inr ⟨q, vm₁, B, X₁.warmed, X', hpost, hstep₁ _ fun acts => by rw [doInvoke_state]; exact hsteps⟩
theorem vx_callVW (X : Stand p l e R s m args below meth c T locs cells slots) (hexec : p.tables.exec = Jvm.exec) {own C : String} {index : Nat} {y : MethodName} {bytes : ByteArray} {maxL : Nat} {ret : Option FieldType} {hh : List (Nat × Nat × Nat × Nat)}
    (hown : s.vm.findClass own = some m.cls) (hlink : (Cond.methodLink own index y).before args s = true) (hinst : (Cond.instanceMethod y).before args s = true) (hsel : (Cond.selects C y y).before args s = true)
    (hcode : (Cond.codeWith y bytes maxL ret hh).before args s = true) (hy : y.cls ≠ "java/lang/invoke/MethodHandle" ∧ y.cls ≠ "java/lang/invoke/VarHandle")
    {W9 : Nat} {Pre : Pt → Array Value → Prop} {Post : Pt → Array Value → Option Value → Pt → Prop} (hK : Back l R p e below s args y 3 W9 Pre Post)
    {b : Addr} {cellB : Cell} (hcell : T.heap[b]? = some cellB) (hobj : cellB.vm.isStatics = false) (hcls : s.vm.findClass C = some cellB.cls)
    {g : JFrame} (hg : g.method = m) (hsize : g.locals.size = c.maxLocals) {argsL rest : List Value} (hlen : ∀ sig, parseMethodDescriptor y.desc = some sig → argsL.length = sig.parameters.length)
    (hstack : g.stack = argsL.reverse ++ .ref b :: rest) (hW : 2 * g.monitorRoom + (rest.map fun v => v.category).sum ≤ W9) (hdg : decode c.code g.pc = .ok (.invokevirtual index, 3))
    (hpre : ∀ vm₁, s.WarmedH vm₁ → Pre ⟨T.setVm vm₁, locs, cells, slots⟩ (Value.ref b :: argsL).toArray) :
    ∃ (v : Option Value) (vm₁ : Vm) (B : Pt), s.WarmedH vm₁ ∧ Stand p l e R s m args below meth c B.U B.locs B.cells B.slots ∧ Post ⟨T.setVm vm₁, locs, cells, slots⟩ (Value.ref b :: argsL).toArray v B ∧
      ∀ target, Steps p.tables e below (B.U.setTop { g with pc := g.pc + 3, stack := v.toList ++ rest }) target → Steps p.tables e below (T.setTop g) target := by
  obtain ⟨mk, methM, hnamed, hmethM, hstM, habM⟩ := Cond.instanceMethod_spec hinst
  obtain ⟨m8, methM', cM, hn8, hmethM', -, -, -, -, -, -, hsigM⟩ := Cond.codeWith_spec hcode
  cases Option.some.inj (hn8.symm.trans hnamed)
  cases hmethM.symm.trans hmethM'
  obtain ⟨c2, r2, m2, q1, q2, q3, q4, kP, hkP, hkPi⟩ := Cond.selects_spec hsel
  cases hcls.symm.trans q1
  cases (State.methodFound?_of_named hnamed hy).symm.trans q2
  cases hnamed.symm.trans q3
  have hselP : selectMethod e.platform s.vm cellB.cls mk = .method mk := by rw [Launch.admits_selectMethod X.admits]; exact q4
  obtain ⟨vm₁, X₁, hstep₁⟩ := X.invokevirtual hexec hown hlink hnamed hmethM hstM hkP hkPi hy (a := b) (cell := cellB) hcell
    (fun z h => by rw [h] at hobj; cases hobj) hselP hmethM habM hkP hkPi (g := g) hg (argsL := argsL) (rest := rest) (hlen _ hsigM) hstack hdg
  obtain ⟨v, B, X', hpost, hsteps⟩ := hK m meth c ⟨T.setVm vm₁, locs, cells, slots⟩ { g with stack := rest } (.invokevirtual index) mk (Value.ref b :: argsL).toArray X₁ hg hsize hdg hW (X₁.named hnamed) (hpre vm₁ X₁.warmed)
  exact ⟨v, vm₁, B, X₁.warmed, X', hpost, fun target h => hstep₁ _ fun acts => by rw [doInvoke_state]; exact hsteps.trans h⟩
abbrev vx_CVW (R : Room) (s : State) (args : Array Value) (own C : String) (index : Nat) (y : MethodName) (bytes : ByteArray) (maxL : Nat) (ret : Option FieldType) (hh : List (Nat × Nat × Nat × Nat)) (ws : List Cond) (rm : Room) (mc ms n : Nat) : Prop :=
  (rm.cells = mc ∧ rm.slots = ms ∧ rm.frames + 1 ≤ R.frames ∧ 8 + (maxL + 11) + rm.locals ≤ R.locals ∧ (∀ w ∈ ws, ∀ (a' : Array Value) (U : State), s.WarmedH U.vm → w.before a' U = true) ∧ Cond.codeWith y bytes maxL ret hh ∈ ws) ∧
  (Cond.codeWith y bytes maxL ret hh).before args s = true ∧ (Cond.initialized y.cls).before args s = true ∧ (y.cls ≠ "java/lang/invoke/MethodHandle" ∧ y.cls ≠ "java/lang/invoke/VarHandle") ∧
  (∀ sig, parseMethodDescriptor y.desc = some sig → n = sig.parameters.length) ∧ (Cond.methodLink own index y).before args s = true ∧ (Cond.instanceMethod y).before args s = true ∧ (Cond.selects C y y).before args s = true
theorem vx_cwVW {own C : String} {index maxL mc ms : Nat} {y : MethodName} {bytes : ByteArray} {ret : Option FieldType} {hh : List (Nat × Nat × Nat × Nat)} {Ts ws ws' : List Cond} {rm : Room} (n : Nat) (ht : ∀ w ∈ Ts, w.before args s = true) (hT : GoodIn Ts (wsV own index C y ws)) (hw : ws = Cond.codeWith y bytes maxL ret hh :: ws') (hrc : rm.cells = mc) (hrs : rm.slots = ms)
    (hd : y.cls = C ∧ y.cls ≠ "java/lang/invoke/MethodHandle" ∧ y.cls ≠ "java/lang/invoke/VarHandle" ∧ (parseMethodDescriptor y.desc).map (fun d => d.parameters.length) = some n) (hR : rm.frames + 1 ≤ R.frames ∧ 8 + (maxL + 11) + rm.locals ≤ R.locals) :
    vx_CVW R s args own C index y bytes maxL ret hh ws rm mc ms n := by
  obtain ⟨hC, hd⟩ := hd
  subst hC
  have ok : ∀ w ∈ wsV own index y.cls y ws, w.before args s = true := fun w h => ht w (hT w h).1
  have hG : GoodIn Ts ws := fun w h => hT w (by unfold wsV; exact List.mem_append_right _ h)
  have hc : Cond.codeWith y bytes maxL ret hh ∈ ws := by rw [hw]; exact List.mem_cons_self
  refine ⟨⟨hrc, hrs, hR.1, hR.2, pay_in ht hG, hc⟩, ht _ (hG _ hc).1, ok _ (by simp [wsV]), ⟨hd.1, hd.2.1⟩, fun sig h => ?_, ok _ (by simp [wsV]), ok _ (by simp [wsV]), ok _ (by simp [wsV])⟩
  have h2 := hd.2.2
  rw [h] at h2
  exact (Option.some.inj h2).symm
theorem vx_runVW {y : MethodName} {bytes cc : ByteArray} {maxL nL mc ms n index : Nat} {ret : Option FieldType} {hh : List (Nat × Nat × Nat × Nat)} {ws : List Cond} {rm : Room} {Pc : Array Value → State → Prop} {Qc : Array Value → State → Outcome → State → Prop} {free : Addr → Prop} {Ts : List Cond} {own C : String} {b : Addr} {As rest : List Value} {g : JFrame}
    (S : CallFix p m c cc nL s args Ts own) (hM : Met l y ws rm Pc Qc mc ms free) (cw : vx_CVW R s args own C index y bytes maxL ret hh ws rm mc ms n) (hp : PreV s H C b Pc As)
    (hg : g.method = m) (hn : As.length = n) (hsize : g.locals.size = nL) (hstack : g.stack = As.reverse ++ .ref b :: rest) (hW : 2 * g.monitorRoom + (rest.map fun v => v.category).sum ≤ 8) (hdg : decode cc g.pc = .ok (.invokevirtual index, 3)) (hf : cells + mc ≤ R.cells ∧ slots + ms ≤ R.slots) :
    va_Run p l e R s m args below meth c H locs cells slots mc ms g rest (Qc (Value.ref b :: As).toArray) free := by
  obtain ⟨⟨hrc, hrs, hfr, hlo, hws, hcw⟩, hcode, hini, hy, hlen, hl, hin, hse⟩ := cw
  have hK : Back l R p e below s args y 3 8 (PreOf R mc ms Pc) (PostOf Qc mc ms free) := va_backW (hh := hh) (bytes := bytes) (maxL := maxL) (ret := ret) hM hp.1 hrc hrs hfr hlo hws hcw (fun a' U hW => word_at hW (Or.inl (by first | rfl | simp [Cond.onTables, Cond.keeps, Cond.steady])) hini)
  obtain ⟨hx, hb, hml, ho, -⟩ := S
  obtain ⟨-, ⟨cellB, hcB, hoB, hclB⟩, hPc⟩ := hp
  intro T hT X
  obtain ⟨v, vm₁, ⟨U', l2, c2, s2⟩, hW₁, X', ⟨g', mk, t, L, e1, e2, hq, h1, hL, h2, h3⟩, st⟩ := vx_callVW X hx (C := C) (hh := hh) (bytes := bytes) (maxL := maxL) (ret := ret) ho hl hin hse hcode hy hK (by rw [hT]; exact hcB) hoB hclB hg (hsize.trans hml.symm) (argsL := As) (rest := rest) (fun sig h => hn.trans (hlen sig h)) hstack hW (by rw [hb]; exact hdg)
    (fun vm₁ hW₁ => ⟨hf.1, hf.2, hPc (T.setVm vm₁) hT hW₁⟩)
  dsimp only [Pt.U, Pt.locs, Pt.cells, Pt.slots] at X' e1 e2 h1 h2 h3 st
  subst h1; subst h2; subst h3
  exact ⟨v, (T.setVm vm₁).calling g' mk (Value.ref b :: As).toArray, t, U', L, hT, X', hL, e1, e2, hq, st⟩
section
variable {y : MethodName} {bytes cc : ByteArray} {maxL nL mc ms n index : Nat} {ret : Option FieldType} {ws : List Cond} {rm : Room} {Pc : Array Value → State → Prop} {Qc : Array Value → State → Outcome → State → Prop} {XC : String → State → State → Prop} {free : Addr → Prop} {Ts : List Cond} {own C : String} {b : Addr} {As rest : List Value} {g : JFrame}
theorem vx_runVX {hh : List (Nat × Nat × Nat × Nat)} (S : CallFix p m c cc nL s args Ts own) (hM : vx_Met l y ws rm Pc Qc XC mc ms free) (cw : vx_CVW R s args own C index y bytes maxL ret hh ws rm mc ms n) (hp : PreV s H C b Pc As)
    (hg : g.method = m) (hn : As.length = n) (hsize : g.locals.size = nL) (hstack : g.stack = As.reverse ++ .ref b :: rest) (hW : 2 * g.monitorRoom + (rest.map fun v => v.category).sum ≤ 8) (hdg : decode cc g.pc = .ok (.invokevirtual index, 3)) (hf : cells + mc ≤ R.cells ∧ slots + ms ≤ R.slots) :
    vx_Run p l e R s m args below meth c H locs cells slots mc ms g rest (Qc (Value.ref b :: As).toArray) XC free := by
  obtain ⟨⟨hrc, hrs, hfr, hlo, hws, hcw⟩, hcode, hini, hy, hlen, hl, hin, hse⟩ := cw
  have hK : vx_Back l R p e below s args y 3 8 (PreOf R mc ms Pc) (PostOf Qc mc ms free) (vx_Post XC mc ms free) := vx_backW (hh := hh) (bytes := bytes) (maxL := maxL) (ret := ret) hM hp.1 hrc hrs hfr hlo hws hcw (fun a' U hW => word_at hW (Or.inl (by first | rfl | simp [Cond.onTables, Cond.keeps, Cond.steady])) hini)
  obtain ⟨hx, hb, hml, ho, -⟩ := S
  obtain ⟨-, ⟨cellB, hcB, hoB, hclB⟩, hPc⟩ := hp
  intro T hT X
  rcases vx_callVX X hx (C := C) (hh := hh) (bytes := bytes) (maxL := maxL) (ret := ret) ho hl hin hse hcode hy hK (by rw [hT]; exact hcB) hoB hclB hg (hsize.trans hml.symm) (argsL := As) (rest := rest) (fun sig h => hn.trans (hlen sig h)) hstack hW (by rw [hb]; exact hdg)
    (fun vm₁ hW₁ => ⟨hf.1, hf.2, hPc (T.setVm vm₁) hT hW₁⟩) with ⟨v, vm₁, ⟨U', l2, c2, s2⟩, hW₁, X', ⟨g', mk, t, L, e1, e2, hq, h1, hL, h2, h3⟩, st⟩ | ⟨q, vm₁, ⟨U', l2, c2, s2⟩, hW₁, X', ⟨g', mk, t, L, E, ce, e1, e2, hq, hce, hcv, hcl, h1, hL, h2, h3⟩, st⟩
  · dsimp only [Pt.U, Pt.locs, Pt.cells, Pt.slots] at X' e1 e2 h1 h2 h3 st
    subst h1; subst h2; subst h3
    exact Or.inl ⟨v, (T.setVm vm₁).calling g' mk (Value.ref b :: As).toArray, t, U', L, hT, X', hL, e1, e2, hq, st⟩
  · dsimp only [Pt.U, Pt.locs, Pt.cells, Pt.slots] at X' e1 e2 h1 h2 h3 st hcl
    subst h1; subst h2; subst h3
    exact Or.inr ⟨q, (T.setVm vm₁).calling g' mk (Value.ref b :: As).toArray, t, U', L, E, ce, hT, X', hL, e1, e2, hq, hce, hcv, vx_cls hW₁ hcl, st⟩
theorem vx_runSX {hh : List (Nat × Nat × Nat × Nat)} (S : CallFix p m c cc nL s args Ts own) (hM : vx_Met l y ws rm Pc Qc XC mc ms free) (cw : vx_CSW R s args own index y bytes maxL ret hh ws rm mc ms n) (hp : PreS s H Pc As)
    (hg : g.method = m) (hn : As.length = n) (hsize : g.locals.size = nL) (hstack : g.stack = As.reverse ++ rest) (hW : 2 * g.monitorRoom + (rest.map fun v => v.category).sum ≤ 8) (hdg : decode cc g.pc = .ok (.invokestatic index, 3)) (hf : cells + mc ≤ R.cells ∧ slots + ms ≤ R.slots) :
    vx_Run p l e R s m args below meth c H locs cells slots mc ms g rest (Qc As.toArray) XC free := by
  obtain ⟨⟨hrc, hrs, hfr, hlo, hws, hcw⟩, hcode, hini, hy, hlen, hl, hstt⟩ := cw
  have hK : vx_Back l R p e below s args y 3 8 (PreOf R mc ms Pc) (PostOf Qc mc ms free) (vx_Post XC mc ms free) := vx_backW (hh := hh) (bytes := bytes) (maxL := maxL) (ret := ret) hM hp.1 hrc hrs hfr hlo hws hcw (fun a' U hW => word_at hW (Or.inl (by first | rfl | simp [Cond.onTables, Cond.keeps, Cond.steady])) hini)
  obtain ⟨hx, hb, hml, ho, -⟩ := S
  intro T hT X
  rcases vx_callSX X hx (hh := hh) (bytes := bytes) (maxL := maxL) (ret := ret) ho hl hstt hini hcode hy hK hg (hsize.trans hml.symm) (argsL := As) (rest := rest) (fun sig h => hn.trans (hlen sig h)) hstack hW (by rw [hb]; exact hdg)
    (fun vm₁ hW₁ => ⟨hf.1, hf.2, hp.2 (T.setVm vm₁) hT hW₁⟩) with ⟨v, vm₁, ⟨U', l2, c2, s2⟩, hW₁, X', ⟨g', mk, t, L, e1, e2, hq, h1, hL, h2, h3⟩, st⟩ | ⟨q, vm₁, ⟨U', l2, c2, s2⟩, hW₁, X', ⟨g', mk, t, L, E, ce, e1, e2, hq, hce, hcv, hcl, h1, hL, h2, h3⟩, st⟩
  · dsimp only [Pt.U, Pt.locs, Pt.cells, Pt.slots] at X' e1 e2 h1 h2 h3 st
    subst h1; subst h2; subst h3
    exact Or.inl ⟨v, (T.setVm vm₁).calling g' mk As.toArray, t, U', L, hT, X', hL, e1, e2, hq, st⟩
  · dsimp only [Pt.U, Pt.locs, Pt.cells, Pt.slots] at X' e1 e2 h1 h2 h3 st hcl
    subst h1; subst h2; subst h3
    exact Or.inr ⟨q, (T.setVm vm₁).calling g' mk As.toArray, t, U', L, E, ce, hT, X', hL, e1, e2, hq, hce, hcv, vx_cls hW₁ hcl, st⟩
end
end VXH
theorem vx_ofWH {l : Launch} {y : MethodName} {ws ws' : List Cond} {rm : Room} {Pc : Array Value → State → Prop} {Qc : Array Value → State → Outcome → State → Prop} {XC : String → State → State → Prop} {mc ms : Nat} {free : Addr → Prop} {cc : ByteArray} {maxL : Nat} {ret : Option FieldType} {hh : List (Nat × Nat × Nat × Nat)}
    (hy : plainName y.cls = true) (hw : ws = Cond.codeWith y cc maxL ret hh :: ws')
    (body : ∀ p e s m args below meth c s₁, BodyLoose p l y (headSpec ws rm) cc maxL ret e s m args below meth c s₁ → c.maxLocals = maxL → Pc args s →
      W p l e (headSpec ws rm).room s m args below meth c s.heap [] 0 0 (vx_MQ below Qc XC args s mc ms free) (entryFrame m args maxL)) : vx_Met l y ws rm Pc Qc XC mc ms free := by
  refine MetFree.of_bodyS (code := cc) (maxLocals := maxL) (ret := ret) hy ?_ ?_
  · intro args s m h hn
    obtain ⟨m9, meth, c, hn9, h1, h2, h3, h4, -, h5, h6, -⟩ := Cond.codeWith_spec (atoms_spec (ws := ws) h _ (by rw [hw]; exact List.mem_cons_self))
    cases hn.symm.trans hn9
    exact ⟨meth, c, h1, h2, h3, h4, h5, h6⟩
  · intro p e s m args below meth c s₁ B hml hP _
    have hh0 : s₁.heap = s.heap := by rw [B.state]; rfl
    obtain ⟨t, a1, o, b1, b2, b3⟩ := body p e s m args below meth c s₁ B hml hP s₁ hh0 (Stand.of_body B)
    exact ⟨t, o, a1, b1, b2, b3⟩
/-! ===== END ===== -/
end
section
def RX0 : String := "RustRails$Companies"
def TX0 : u_T := fun k => match k with
  | 0 => ("RustRails$Companies", "coins", "[I", true)
  | 1 => ("RustRails$Companies", "rent", "[I", true)
  | 2 => ("RustRails$Companies", "rentsGot", "[I", true)
  | 3 => ("RustRails$Companies", "bankruptcies", "[I", true)
  | 4 => ("RustRails$Companies", "trains", "[I", true)
  | 5 => ("RustRails$Companies", "level", "[I", true)
  | _ => ("RustRails$Companies", "ran", "[I", true)
def tyX0 : Nat → FieldType := fun k => match k with
  | 0 => .array .int
  | 1 => .array .int
  | 2 => .array .int
  | 3 => .array .int
  | 4 => .array .int
  | 5 => .array .int
  | _ => .array .int
abbrev wsX00 : List Cond := u_ws RX0 TX0 7
theorem nmX0 : ∀ a, a < 7 → ∀ b, b < 7 → a ≠ b → (TX0 a).2.1 ≠ (TX0 b).2.1 := by decide +kernel
theorem tyX0_ok : ∀ k, k < 7 → parseFieldDescriptor (TX0 k).2.2.1 = some (tyX0 k) := by decide +kernel
abbrev cX0_init : ByteArray := prog_2_method_1_code
def yX0_init : MethodName := ⟨RX0, "<init>", "()V"⟩
abbrev cX0_begin : ByteArray := prog_2_method_2_code
def yX0_begin : MethodName := ⟨RX0, "begin", "()V"⟩
abbrev cX0_transfer : ByteArray := prog_2_method_3_code
def yX0_transfer : MethodName := ⟨RX0, "transfer", "(III)V"⟩
abbrev cX0_payRent : ByteArray := prog_2_method_4_code
def yX0_payRent : MethodName := ⟨RX0, "payRent", "(III)V"⟩
abbrev cX0_changeRent : ByteArray := prog_2_method_5_code
def yX0_changeRent : MethodName := ⟨RX0, "changeRent", "(II)V"⟩
abbrev cX0_rentFor : ByteArray := prog_2_method_6_code
def yX0_rentFor : MethodName := ⟨RX0, "rentFor", "(II)I"⟩
abbrev cX0_hasTrain : ByteArray := prog_2_method_7_code
def yX0_hasTrain : MethodName := ⟨RX0, "hasTrain", "(II)Z"⟩
abbrev cX0_hasRun : ByteArray := prog_2_method_8_code
def yX0_hasRun : MethodName := ⟨RX0, "hasRun", "(II)Z"⟩
abbrev cX0_markRun : ByteArray := prog_2_method_9_code
def yX0_markRun : MethodName := ⟨RX0, "markRun", "(II)V"⟩
abbrev cX0_levelOf : ByteArray := prog_2_method_10_code
def yX0_levelOf : MethodName := ⟨RX0, "levelOf", "(II)I"⟩
abbrev cX0_levelsOf : ByteArray := prog_2_method_11_code
def yX0_levelsOf : MethodName := ⟨RX0, "levelsOf", "(I)I"⟩
abbrev cX0_greatestLevel : ByteArray := prog_2_method_12_code
def yX0_greatestLevel : MethodName := ⟨RX0, "greatestLevel", "(I)I"⟩
abbrev cX0_addTrain : ByteArray := prog_2_method_13_code
def yX0_addTrain : MethodName := ⟨RX0, "addTrain", "(II)V"⟩
abbrev cX0_dropBelow : ByteArray := prog_2_method_14_code
def yX0_dropBelow : MethodName := ⟨RX0, "dropBelow", "(I)I"⟩
abbrev cX0_goBankrupt : ByteArray := prog_2_method_15_code
def yX0_goBankrupt : MethodName := ⟨RX0, "goBankrupt", "(I)V"⟩
abbrev cX0_place : ByteArray := prog_2_method_16_code
def yX0_place : MethodName := ⟨RX0, "place", "(II)I"⟩
abbrev cX0_copyFrom : ByteArray := prog_2_method_17_code
def yX0_copyFrom : MethodName := ⟨RX0, "copyFrom", "(LRustRails$Companies;)V"⟩
def RX1 : String := "RustRails$Contracts"
def TX1 : u_T := fun k => match k with
  | 0 => ("RustRails$Contracts", "from", "[I", true)
  | 1 => ("RustRails$Contracts", "to", "[I", true)
  | 2 => ("RustRails$Contracts", "pay", "[I", true)
  | 3 => ("RustRails$Contracts", "rounds", "[I", true)
  | 4 => ("RustRails$Contracts", "holder", "[I", true)
  | 5 => ("RustRails$Contracts", "ran", "[I", true)
  | _ => ("RustRails$Contracts", "count", "I", false)
def tyX1 : Nat → FieldType := fun k => match k with
  | 0 => .array .int
  | 1 => .array .int
  | 2 => .array .int
  | 3 => .array .int
  | 4 => .array .int
  | 5 => .array .int
  | _ => .int
abbrev wsX10 : List Cond := u_ws RX1 TX1 7
theorem nmX1 : ∀ a, a < 7 → ∀ b, b < 7 → a ≠ b → (TX1 a).2.1 ≠ (TX1 b).2.1 := by decide +kernel
theorem tyX1_ok : ∀ k, k < 7 → parseFieldDescriptor (TX1 k).2.2.1 = some (tyX1 k) := by decide +kernel
abbrev cX1_init : ByteArray := prog_3_method_1_code
def yX1_init : MethodName := ⟨RX1, "<init>", "()V"⟩
abbrev cX1_has : ByteArray := prog_3_method_2_code
def yX1_has : MethodName := ⟨RX1, "has", "(I)Z"⟩
abbrev cX1_areFull : ByteArray := prog_3_method_3_code
def yX1_areFull : MethodName := ⟨RX1, "areFull", "()Z"⟩
abbrev cX1_isFree : ByteArray := prog_3_method_4_code
def yX1_isFree : MethodName := ⟨RX1, "isFree", "(I)Z"⟩
abbrev cX1_holderOf : ByteArray := prog_3_method_5_code
def yX1_holderOf : MethodName := ⟨RX1, "holderOf", "(I)I"⟩
abbrev cX1_add : ByteArray := prog_3_method_6_code
def yX1_add : MethodName := ⟨RX1, "add", "(IIII)V"⟩
abbrev cX1_give : ByteArray := prog_3_method_7_code
def yX1_give : MethodName := ⟨RX1, "give", "(II)V"⟩
abbrev cX1_countOf : ByteArray := prog_3_method_8_code
def yX1_countOf : MethodName := ⟨RX1, "countOf", "(I)I"⟩
abbrev cX1_leaveHolder : ByteArray := prog_3_method_9_code
def yX1_leaveHolder : MethodName := ⟨RX1, "leaveHolder", "(I)V"⟩
abbrev cX1_dropEnded : ByteArray := prog_3_method_10_code
def yX1_dropEnded : MethodName := ⟨RX1, "dropEnded", "()V"⟩
abbrev cX1_move : ByteArray := prog_3_method_11_code
def yX1_move : MethodName := ⟨RX1, "move", "(II)V"⟩
abbrev cX1_copyFrom : ByteArray := prog_3_method_12_code
def yX1_copyFrom : MethodName := ⟨RX1, "copyFrom", "(LRustRails$Contracts;)V"⟩
def RX2 : String := "RustRails$GameText"
def TX2 : u_T := fun k => match k with
  | 0 => ("RustRails$GameText", "characters", "[I", true)
  | _ => ("RustRails$GameText", "size", "I", false)
def tyX2 : Nat → FieldType := fun k => match k with
  | 0 => .array .int
  | _ => .int
abbrev wsX20 : List Cond := u_ws RX2 TX2 2
theorem nmX2 : ∀ a, a < 2 → ∀ b, b < 2 → a ≠ b → (TX2 a).2.1 ≠ (TX2 b).2.1 := by decide +kernel
theorem tyX2_ok : ∀ k, k < 2 → parseFieldDescriptor (TX2 k).2.2.1 = some (tyX2 k) := by decide +kernel
abbrev cX2_init : ByteArray := prog_4_method_1_code
def yX2_init : MethodName := ⟨RX2, "<init>", "()V"⟩
abbrev cX2_isFull : ByteArray := prog_4_method_2_code
def yX2_isFull : MethodName := ⟨RX2, "isFull", "()Z"⟩
abbrev cX2_add : ByteArray := prog_4_method_3_code
def yX2_add : MethodName := ⟨RX2, "add", "(I)I"⟩
abbrev cX2_empty : ByteArray := prog_4_method_4_code
def yX2_empty : MethodName := ⟨RX2, "empty", "()I"⟩
abbrev cX2_readInto : ByteArray := prog_4_method_5_code
def yX2_readInto : MethodName := ⟨RX2, "readInto", "(LRustRails$State;)I"⟩
abbrev cX2_readPart : ByteArray := prog_4_method_6_code
def yX2_readPart : MethodName := ⟨RX2, "readPart", "(LRustRails$State;I)I"⟩
abbrev cX2_readTrack : ByteArray := prog_4_method_7_code
def yX2_readTrack : MethodName := ⟨RX2, "readTrack", "(LRustRails$State;I)I"⟩
abbrev cX2_readContract : ByteArray := prog_4_method_8_code
def yX2_readContract : MethodName := ⟨RX2, "readContract", "(LRustRails$State;I)I"⟩
abbrev cX2_errorOfCities : ByteArray := prog_4_method_9_code
def yX2_errorOfCities : MethodName := ⟨RX2, "errorOfCities", "(II)I"⟩
abbrev cX2_holds : ByteArray := prog_4_method_10_code
def yX2_holds : MethodName := ⟨RX2, "holds", "(IC)Z"⟩
abbrev cX2_digitAt : ByteArray := prog_4_method_11_code
def yX2_digitAt : MethodName := ⟨RX2, "digitAt", "(I)I"⟩
def RX3 : String := "RustRails$History"
def TX3 : u_T := fun k => match k with
  | 0 => ("RustRails$History", "states", "[LRustRails$State;", true)
  | 1 => ("RustRails$History", "oldest", "I", false)
  | _ => ("RustRails$History", "count", "I", false)
def tyX3 : Nat → FieldType := fun k => match k with
  | 0 => .array (.object "RustRails$State")
  | 1 => .int
  | _ => .int
abbrev wsX30 : List Cond := u_ws RX3 TX3 3
theorem nmX3 : ∀ a, a < 3 → ∀ b, b < 3 → a ≠ b → (TX3 a).2.1 ≠ (TX3 b).2.1 := by decide +kernel
theorem tyX3_ok : ∀ k, k < 3 → parseFieldDescriptor (TX3 k).2.2.1 = some (tyX3 k) := by decide +kernel
abbrev cX3_init : ByteArray := prog_5_method_1_code
def yX3_init : MethodName := ⟨RX3, "<init>", "()V"⟩
abbrev cX3_remember : ByteArray := prog_5_method_2_code
def yX3_remember : MethodName := ⟨RX3, "remember", "(LRustRails$State;)V"⟩
abbrev cX3_takeBackInto : ByteArray := prog_5_method_3_code
def yX3_takeBackInto : MethodName := ⟨RX3, "takeBackInto", "(LRustRails$State;)V"⟩
abbrev cX3_forget : ByteArray := prog_5_method_4_code
def yX3_forget : MethodName := ⟨RX3, "forget", "()V"⟩
abbrev cX3_stateAt : ByteArray := prog_5_method_5_code
def yX3_stateAt : MethodName := ⟨RX3, "stateAt", "(I)LRustRails$State;"⟩
def RX4 : String := "RustRails$Mail"
def TX4 : u_T := fun k => match k with
  | _ => ("RustRails$Mail", "ways", "LRustRails$Ways;", true)
def tyX4 : Nat → FieldType := fun k => match k with
  | _ => .object "RustRails$Ways"
abbrev wsX40 : List Cond := u_ws RX4 TX4 1
theorem nmX4 : ∀ a, a < 1 → ∀ b, b < 1 → a ≠ b → (TX4 a).2.1 ≠ (TX4 b).2.1 := by decide +kernel
theorem tyX4_ok : ∀ k, k < 1 → parseFieldDescriptor (TX4 k).2.2.1 = some (tyX4 k) := by decide +kernel
abbrev cX4_init : ByteArray := prog_6_method_1_code
def yX4_init : MethodName := ⟨RX4, "<init>", "()V"⟩
abbrev cX4_reasonAgainst : ByteArray := prog_6_method_2_code
def yX4_reasonAgainst : MethodName := ⟨RX4, "reasonAgainst", "(LRustRails$State;II)I"⟩
abbrev cX4_carry : ByteArray := prog_6_method_3_code
def yX4_carry : MethodName := ⟨RX4, "carry", "(LRustRails$State;II)I"⟩
abbrev cX4_tryCarry : ByteArray := prog_6_method_4_code
def yX4_tryCarry : MethodName := ⟨RX4, "tryCarry", "(LRustRails$State;II)Z"⟩
abbrev cX4_carryAll : ByteArray := prog_6_method_5_code
def yX4_carryAll : MethodName := ⟨RX4, "carryAll", "(LRustRails$State;)V"⟩
abbrev cX4_smallestLevel : ByteArray := prog_6_method_6_code
def yX4_smallestLevel : MethodName := ⟨RX4, "smallestLevel", "(LRustRails$State;II)I"⟩
abbrev cX4_bestFree : ByteArray := prog_6_method_7_code
def yX4_bestFree : MethodName := ⟨RX4, "bestFree", "(LRustRails$State;I)I"⟩
def RX5 : String := "RustRails$Script"
def TX5 : u_T := fun k => match k with
  | _ => ("", "", "", false)
def tyX5 : Nat → FieldType := fun k => match k with
  | _ => .int
abbrev wsX50 : List Cond := u_ws RX5 TX5 0
theorem nmX5 : ∀ a, a < 0 → ∀ b, b < 0 → a ≠ b → (TX5 a).2.1 ≠ (TX5 b).2.1 := by decide +kernel
theorem tyX5_ok : ∀ k, k < 0 → parseFieldDescriptor (TX5 k).2.2.1 = some (tyX5 k) := by decide +kernel
abbrev cX5_withoutLowest : ByteArray := prog_7_method_2_code
def yX5_withoutLowest : MethodName := ⟨RX5, "withoutLowest", "(JI)J"⟩
abbrev cX5_obey : ByteArray := prog_7_method_3_code
def yX5_obey : MethodName := ⟨RX5, "obey", "(LRustRails$State;LRustRails$Mail;I)Z"⟩
abbrev cX5_endOfRound : ByteArray := prog_7_method_4_code
def yX5_endOfRound : MethodName := ⟨RX5, "endOfRound", "(LRustRails$State;)Z"⟩
abbrev cX5_changeRent : ByteArray := prog_7_method_5_code
def yX5_changeRent : MethodName := ⟨RX5, "changeRent", "(LRustRails$State;II)Z"⟩
def RX6 : String := "RustRails$Slots"
def TX6 : u_T := fun k => match k with
  | 0 => ("RustRails$Slots", "states", "[LRustRails$State;", true)
  | _ => ("RustRails$Slots", "filled", "[I", true)
def tyX6 : Nat → FieldType := fun k => match k with
  | 0 => .array (.object "RustRails$State")
  | _ => .array .int
abbrev wsX60 : List Cond := u_ws RX6 TX6 2
theorem nmX6 : ∀ a, a < 2 → ∀ b, b < 2 → a ≠ b → (TX6 a).2.1 ≠ (TX6 b).2.1 := by decide +kernel
theorem tyX6_ok : ∀ k, k < 2 → parseFieldDescriptor (TX6 k).2.2.1 = some (tyX6 k) := by decide +kernel
abbrev cX6_init : ByteArray := prog_8_method_1_code
def yX6_init : MethodName := ⟨RX6, "<init>", "()V"⟩
abbrev cX6_isFilled : ByteArray := prog_8_method_2_code
def yX6_isFilled : MethodName := ⟨RX6, "isFilled", "(I)Z"⟩
abbrev cX6_keep : ByteArray := prog_8_method_3_code
def yX6_keep : MethodName := ⟨RX6, "keep", "(ILRustRails$State;)V"⟩
abbrev cX6_fetchInto : ByteArray := prog_8_method_4_code
def yX6_fetchInto : MethodName := ⟨RX6, "fetchInto", "(ILRustRails$State;)V"⟩
abbrev cX6_empty : ByteArray := prog_8_method_5_code
def yX6_empty : MethodName := ⟨RX6, "empty", "()V"⟩
abbrev cX6_stateAt : ByteArray := prog_8_method_6_code
def yX6_stateAt : MethodName := ⟨RX6, "stateAt", "(I)LRustRails$State;"⟩
def RX7 : String := "RustRails$State"
def TX7 : u_T := fun k => match k with
  | 0 => ("RustRails$State", "tracks", "LRustRails$Tracks;", true)
  | 1 => ("RustRails$State", "contracts", "LRustRails$Contracts;", true)
  | 2 => ("RustRails$State", "companies", "LRustRails$Companies;", true)
  | 3 => ("RustRails$State", "cities", "I", false)
  | 4 => ("RustRails$State", "phase", "I", false)
  | 5 => ("RustRails$State", "round", "I", false)
  | 6 => ("RustRails$State", "pays", "I", false)
  | 7 => ("RustRails$State", "fines", "I", false)
  | _ => ("RustRails$State", "rusted", "I", false)
def tyX7 : Nat → FieldType := fun k => match k with
  | 0 => .object "RustRails$Tracks"
  | 1 => .object "RustRails$Contracts"
  | 2 => .object "RustRails$Companies"
  | 3 => .int
  | 4 => .int
  | 5 => .int
  | 6 => .int
  | 7 => .int
  | _ => .int
abbrev wsX70 : List Cond := u_ws RX7 TX7 9
theorem nmX7 : ∀ a, a < 9 → ∀ b, b < 9 → a ≠ b → (TX7 a).2.1 ≠ (TX7 b).2.1 := by decide +kernel
theorem tyX7_ok : ∀ k, k < 9 → parseFieldDescriptor (TX7 k).2.2.1 = some (tyX7 k) := by decide +kernel
abbrev cX7_init : ByteArray := prog_9_method_1_code
def yX7_init : MethodName := ⟨RX7, "<init>", "()V"⟩
abbrev cX7_begin : ByteArray := prog_9_method_2_code
def yX7_begin : MethodName := ⟨RX7, "begin", "(I)V"⟩
abbrev cX7_copyFrom : ByteArray := prog_9_method_3_code
def yX7_copyFrom : MethodName := ⟨RX7, "copyFrom", "(LRustRails$State;)V"⟩
abbrev cX7_maySellTrack : ByteArray := prog_9_method_4_code
def yX7_maySellTrack : MethodName := ⟨RX7, "maySellTrack", "(II)Z"⟩
abbrev cX7_sellTrack : ByteArray := prog_9_method_5_code
def yX7_sellTrack : MethodName := ⟨RX7, "sellTrack", "(II)V"⟩
abbrev cX7_maySellTrain : ByteArray := prog_9_method_6_code
def yX7_maySellTrain : MethodName := ⟨RX7, "maySellTrain", "(II)Z"⟩
abbrev cX7_sellTrain : ByteArray := prog_9_method_7_code
def yX7_sellTrain : MethodName := ⟨RX7, "sellTrain", "(II)I"⟩
abbrev cX7_mayGive : ByteArray := prog_9_method_8_code
def yX7_mayGive : MethodName := ⟨RX7, "mayGive", "(II)Z"⟩
abbrev cX7_payMail : ByteArray := prog_9_method_9_code
def yX7_payMail : MethodName := ⟨RX7, "payMail", "(II)V"⟩
abbrev cX7_closeRound : ByteArray := prog_9_method_10_code
def yX7_closeRound : MethodName := ⟨RX7, "closeRound", "()I"⟩
abbrev cX7_serveContracts : ByteArray := prog_9_method_11_code
def yX7_serveContracts : MethodName := ⟨RX7, "serveContracts", "()V"⟩
abbrev cX7_payUpkeep : ByteArray := prog_9_method_12_code
def yX7_payUpkeep : MethodName := ⟨RX7, "payUpkeep", "()V"⟩
abbrev cX7_settle : ByteArray := prog_9_method_13_code
def yX7_settle : MethodName := ⟨RX7, "settle", "()I"⟩
abbrev cX7_worthOf : ByteArray := prog_9_method_14_code
def yX7_worthOf : MethodName := ⟨RX7, "worthOf", "(I)I"⟩
abbrev cX7_greatestWorth : ByteArray := prog_9_method_15_code
def yX7_greatestWorth : MethodName := ⟨RX7, "greatestWorth", "()I"⟩
abbrev cX7_dealByChance : ByteArray := prog_9_method_16_code
def yX7_dealByChance : MethodName := ⟨RX7, "dealByChance", "(I)V"⟩
abbrev cX7_tryTrack : ByteArray := prog_9_method_17_code
def yX7_tryTrack : MethodName := ⟨RX7, "tryTrack", "(II)Z"⟩
abbrev cX7_tryTrain : ByteArray := prog_9_method_18_code
def yX7_tryTrain : MethodName := ⟨RX7, "tryTrain", "(II)Z"⟩
abbrev cX7_tryContract : ByteArray := prog_9_method_19_code
def yX7_tryContract : MethodName := ⟨RX7, "tryContract", "(II)Z"⟩
def RX8 : String := "RustRails$Tracks"
def TX8 : u_T := fun k => match k with
  | 0 => ("RustRails$Tracks", "first", "[I", true)
  | 1 => ("RustRails$Tracks", "second", "[I", true)
  | 2 => ("RustRails$Tracks", "length", "[I", true)
  | 3 => ("RustRails$Tracks", "owner", "[I", true)
  | _ => ("RustRails$Tracks", "count", "I", false)
def tyX8 : Nat → FieldType := fun k => match k with
  | 0 => .array .int
  | 1 => .array .int
  | 2 => .array .int
  | 3 => .array .int
  | _ => .int
abbrev wsX80 : List Cond := u_ws RX8 TX8 5
theorem nmX8 : ∀ a, a < 5 → ∀ b, b < 5 → a ≠ b → (TX8 a).2.1 ≠ (TX8 b).2.1 := by decide +kernel
theorem tyX8_ok : ∀ k, k < 5 → parseFieldDescriptor (TX8 k).2.2.1 = some (tyX8 k) := by decide +kernel
abbrev cX8_init : ByteArray := prog_10_method_1_code
def yX8_init : MethodName := ⟨RX8, "<init>", "()V"⟩
abbrev cX8_has : ByteArray := prog_10_method_2_code
def yX8_has : MethodName := ⟨RX8, "has", "(I)Z"⟩
abbrev cX8_areFull : ByteArray := prog_10_method_3_code
def yX8_areFull : MethodName := ⟨RX8, "areFull", "()Z"⟩
abbrev cX8_isOfBank : ByteArray := prog_10_method_4_code
def yX8_isOfBank : MethodName := ⟨RX8, "isOfBank", "(I)Z"⟩
abbrev cX8_add : ByteArray := prog_10_method_5_code
def yX8_add : MethodName := ⟨RX8, "add", "(III)V"⟩
abbrev cX8_priceOf : ByteArray := prog_10_method_6_code
def yX8_priceOf : MethodName := ⟨RX8, "priceOf", "(I)I"⟩
abbrev cX8_countOf : ByteArray := prog_10_method_7_code
def yX8_countOf : MethodName := ⟨RX8, "countOf", "(I)I"⟩
abbrev cX8_lengthsOf : ByteArray := prog_10_method_8_code
def yX8_lengthsOf : MethodName := ⟨RX8, "lengthsOf", "(I)I"⟩
abbrev cX8_farEnd : ByteArray := prog_10_method_9_code
def yX8_farEnd : MethodName := ⟨RX8, "farEnd", "(II)I"⟩
abbrev cX8_returnToBank : ByteArray := prog_10_method_10_code
def yX8_returnToBank : MethodName := ⟨RX8, "returnToBank", "(I)V"⟩
abbrev cX8_copyFrom : ByteArray := prog_10_method_11_code
def yX8_copyFrom : MethodName := ⟨RX8, "copyFrom", "(LRustRails$Tracks;)V"⟩
def RX9 : String := "RustRails$Ways"
def TX9 : u_T := fun k => match k with
  | 0 => ("RustRails$Ways", "least", "[I", true)
  | 1 => ("RustRails$Ways", "opening", "[I", true)
  | 2 => ("RustRails$Ways", "price", "[I", true)
  | 3 => ("RustRails$Ways", "found", "[I", true)
  | 4 => ("RustRails$Ways", "count", "I", false)
  | 5 => ("RustRails$Ways", "cost", "I", false)
  | _ => ("RustRails$Ways", "length", "I", false)
def tyX9 : Nat → FieldType := fun k => match k with
  | 0 => .array .int
  | 1 => .array .int
  | 2 => .array .int
  | 3 => .array .int
  | 4 => .int
  | 5 => .int
  | _ => .int
abbrev wsX90 : List Cond := u_ws RX9 TX9 7
theorem nmX9 : ∀ a, a < 7 → ∀ b, b < 7 → a ≠ b → (TX9 a).2.1 ≠ (TX9 b).2.1 := by decide +kernel
theorem tyX9_ok : ∀ k, k < 7 → parseFieldDescriptor (TX9 k).2.2.1 = some (tyX9 k) := by decide +kernel
abbrev cX9_init : ByteArray := prog_11_method_1_code
def yX9_init : MethodName := ⟨RX9, "<init>", "()V"⟩
abbrev cX9_find : ByteArray := prog_11_method_2_code
def yX9_find : MethodName := ⟨RX9, "find", "(LRustRails$State;IIII)Z"⟩
abbrev cX9_setPrices : ByteArray := prog_11_method_3_code
def yX9_setPrices : MethodName := ⟨RX9, "setPrices", "(LRustRails$State;I)V"⟩
abbrev cX9_measure : ByteArray := prog_11_method_4_code
def yX9_measure : MethodName := ⟨RX9, "measure", "(LRustRails$Tracks;II)V"⟩
abbrev cX9_beginWith : ByteArray := prog_11_method_5_code
def yX9_beginWith : MethodName := ⟨RX9, "beginWith", "(III)V"⟩
abbrev cX9_leastAt : ByteArray := prog_11_method_6_code
def yX9_leastAt : MethodName := ⟨RX9, "leastAt", "(I)I"⟩
abbrev cX9_chooseLength : ByteArray := prog_11_method_7_code
def yX9_chooseLength : MethodName := ⟨RX9, "chooseLength", "(II)V"⟩
abbrev cX9_follow : ByteArray := prog_11_method_8_code
def yX9_follow : MethodName := ⟨RX9, "follow", "(LRustRails$Tracks;I)V"⟩
abbrev cX9_place : ByteArray := prog_11_method_9_code
def yX9_place : MethodName := ⟨RX9, "place", "(II)I"⟩
def RX10 : String := "RustRails"
def TX10 : u_T := fun k => match k with
  | 0 => ("RustRails", "text", "LRustRails$GameText;", true)
  | 1 => ("RustRails", "present", "LRustRails$State;", true)
  | 2 => ("RustRails", "trial", "LRustRails$State;", true)
  | 3 => ("RustRails", "history", "LRustRails$History;", true)
  | 4 => ("RustRails", "slots", "LRustRails$Slots;", true)
  | _ => ("RustRails", "mail", "LRustRails$Mail;", true)
def tyX10 : Nat → FieldType := fun k => match k with
  | 0 => .object "RustRails$GameText"
  | 1 => .object "RustRails$State"
  | 2 => .object "RustRails$State"
  | 3 => .object "RustRails$History"
  | 4 => .object "RustRails$Slots"
  | _ => .object "RustRails$Mail"
abbrev wsX100 : List Cond := u_ws RX10 TX10 6
theorem nmX10 : ∀ a, a < 6 → ∀ b, b < 6 → a ≠ b → (TX10 a).2.1 ≠ (TX10 b).2.1 := by decide +kernel
theorem tyX10_ok : ∀ k, k < 6 → parseFieldDescriptor (TX10 k).2.2.1 = some (tyX10 k) := by decide +kernel
abbrev cX10_init : ByteArray := prog_1_method_1_code
def yX10_init : MethodName := ⟨RX10, "<init>", "()V"⟩
abbrev cX10_append : ByteArray := prog_1_method_2_code
def yX10_append : MethodName := ⟨RX10, "append", "(I)I"⟩
abbrev cX10_clearText : ByteArray := prog_1_method_3_code
def yX10_clearText : MethodName := ⟨RX10, "clearText", "()I"⟩
abbrev cX10_errorPosition : ByteArray := prog_1_method_4_code
def yX10_errorPosition : MethodName := ⟨RX10, "errorPosition", "()I"⟩
abbrev cX10_load : ByteArray := prog_1_method_5_code
def yX10_load : MethodName := ⟨RX10, "load", "()I"⟩
abbrev cX10_about : ByteArray := prog_1_method_6_code
def yX10_about : MethodName := ⟨RX10, "about", "(I)I"⟩
abbrev cX10_track : ByteArray := prog_1_method_7_code
def yX10_track : MethodName := ⟨RX10, "track", "(II)I"⟩
abbrev cX10_company : ByteArray := prog_1_method_8_code
def yX10_company : MethodName := ⟨RX10, "company", "(II)I"⟩
abbrev cX10_train : ByteArray := prog_1_method_9_code
def yX10_train : MethodName := ⟨RX10, "train", "(III)I"⟩
abbrev cX10_contract : ByteArray := prog_1_method_10_code
def yX10_contract : MethodName := ⟨RX10, "contract", "(II)I"⟩
abbrev cX10_buyTrack : ByteArray := prog_1_method_11_code
def yX10_buyTrack : MethodName := ⟨RX10, "buyTrack", "(II)I"⟩
abbrev cX10_buyTrain : ByteArray := prog_1_method_12_code
def yX10_buyTrain : MethodName := ⟨RX10, "buyTrain", "(II)I"⟩
abbrev cX10_setRent : ByteArray := prog_1_method_13_code
def yX10_setRent : MethodName := ⟨RX10, "setRent", "(II)I"⟩
abbrev cX10_offer : ByteArray := prog_1_method_14_code
def yX10_offer : MethodName := ⟨RX10, "offer", "(IIII)I"⟩
abbrev cX10_take : ByteArray := prog_1_method_15_code
def yX10_take : MethodName := ⟨RX10, "take", "(II)I"⟩
abbrev cX10_run : ByteArray := prog_1_method_16_code
def yX10_run : MethodName := ⟨RX10, "run", "(II)I"⟩
abbrev cX10_endRound : ByteArray := prog_1_method_17_code
def yX10_endRound : MethodName := ⟨RX10, "endRound", "()I"⟩
abbrev cX10_undo : ByteArray := prog_1_method_18_code
def yX10_undo : MethodName := ⟨RX10, "undo", "()I"⟩
abbrev cX10_way : ByteArray := prog_1_method_19_code
def yX10_way : MethodName := ⟨RX10, "way", "(IIIII)I"⟩
abbrev cX10_whyNot : ByteArray := prog_1_method_20_code
def yX10_whyNot : MethodName := ⟨RX10, "whyNot", "(II)I"⟩
abbrev cX10_levelFor : ByteArray := prog_1_method_21_code
def yX10_levelFor : MethodName := ⟨RX10, "levelFor", "(II)I"⟩
abbrev cX10_bestContract : ByteArray := prog_1_method_22_code
def yX10_bestContract : MethodName := ⟨RX10, "bestContract", "(I)I"⟩
abbrev cX10_coinsAfter : ByteArray := prog_1_method_23_code
def yX10_coinsAfter : MethodName := ⟨RX10, "coinsAfter", "(II)I"⟩
abbrev cX10_bankruptAfter : ByteArray := prog_1_method_24_code
def yX10_bankruptAfter : MethodName := ⟨RX10, "bankruptAfter", "(I)I"⟩
abbrev cX10_worth : ByteArray := prog_1_method_25_code
def yX10_worth : MethodName := ⟨RX10, "worth", "(I)I"⟩
abbrev cX10_runScript : ByteArray := prog_1_method_26_code
def yX10_runScript : MethodName := ⟨RX10, "runScript", "(IJ)I"⟩
abbrev cX10_simulate : ByteArray := prog_1_method_27_code
def yX10_simulate : MethodName := ⟨RX10, "simulate", "(JI)I"⟩
abbrev cX10_save : ByteArray := prog_1_method_28_code
def yX10_save : MethodName := ⟨RX10, "save", "(I)I"⟩
abbrev cX10_restore : ByteArray := prog_1_method_29_code
def yX10_restore : MethodName := ⟨RX10, "restore", "(I)I"⟩
abbrev cX10_needCity : ByteArray := prog_1_method_30_code
def yX10_needCity : MethodName := ⟨RX10, "needCity", "(I)V"⟩
abbrev cX10_needTrack : ByteArray := prog_1_method_31_code
def yX10_needTrack : MethodName := ⟨RX10, "needTrack", "(I)V"⟩
abbrev cX10_needContract : ByteArray := prog_1_method_32_code
def yX10_needContract : MethodName := ⟨RX10, "needContract", "(I)V"⟩
abbrev cX10_needTrain : ByteArray := prog_1_method_33_code
def yX10_needTrain : MethodName := ⟨RX10, "needTrain", "(II)V"⟩
abbrev cX10_needTrainOfHolder : ByteArray := prog_1_method_34_code
def yX10_needTrainOfHolder : MethodName := ⟨RX10, "needTrainOfHolder", "(II)V"⟩
abbrev cX10_needCompany : ByteArray := prog_1_method_35_code
def yX10_needCompany : MethodName := ⟨RX10, "needCompany", "(I)V"⟩
abbrev cX10_needSlot : ByteArray := prog_1_method_36_code
def yX10_needSlot : MethodName := ⟨RX10, "needSlot", "(I)V"⟩
abbrev cX10_needIndex : ByteArray := prog_1_method_37_code
def yX10_needIndex : MethodName := ⟨RX10, "needIndex", "(Z)V"⟩
abbrev cX10_needRange : ByteArray := prog_1_method_38_code
def yX10_needRange : MethodName := ⟨RX10, "needRange", "(III)V"⟩
abbrev cX10_needDifferent : ByteArray := prog_1_method_39_code
def yX10_needDifferent : MethodName := ⟨RX10, "needDifferent", "(II)V"⟩
abbrev cX10_needAllowed : ByteArray := prog_1_method_40_code
def yX10_needAllowed : MethodName := ⟨RX10, "needAllowed", "(Z)V"⟩
abbrev cX10_isCompany : ByteArray := prog_1_method_41_code
def yX10_isCompany : MethodName := ⟨RX10, "isCompany", "(I)Z"⟩
abbrev cX10_at : ByteArray := prog_1_method_42_code
def yX10_at : MethodName := ⟨RX10, "at", "([II)I"⟩
abbrev cX10_put : ByteArray := prog_1_method_43_code
def yX10_put : MethodName := ⟨RX10, "put", "([III)V"⟩
abbrev cX10_sum : ByteArray := prog_1_method_44_code
def yX10_sum : MethodName := ⟨RX10, "sum", "([I)I"⟩
abbrev cX10_fill : ByteArray := prog_1_method_45_code
def yX10_fill : MethodName := ⟨RX10, "fill", "([II)V"⟩
abbrev cX10_copyRow : ByteArray := prog_1_method_46_code
def yX10_copyRow : MethodName := ⟨RX10, "copyRow", "([I[I)V"⟩
abbrev cX10_copyState : ByteArray := prog_1_method_47_code
def yX10_copyState : MethodName := ⟨RX10, "copyState", "(LRustRails$State;LRustRails$State;)V"⟩
def RX11 : String := "RustRailsModel"
def TX11 : u_T := fun k => match k with
  | 0 => ("RustRailsModel", "refusal", "I", false)
  | 1 => ("RustRailsModel", "text", "[I", true)
  | 2 => ("RustRailsModel", "textSize", "I", false)
  | 3 => ("RustRailsModel", "spot", "I", false)
  | 4 => ("RustRailsModel", "read", "[I", true)
  | 5 => ("RustRailsModel", "now", "[I", true)
  | 6 => ("RustRailsModel", "trial", "[I", true)
  | 7 => ("RustRailsModel", "diary", "[I", true)
  | 8 => ("RustRailsModel", "acts", "I", false)
  | 9 => ("RustRailsModel", "kept", "[I", true)
  | 10 => ("RustRailsModel", "isKept", "[Z", true)
  | 11 => ("RustRailsModel", "least", "[I", true)
  | 12 => ("RustRailsModel", "wayCost", "I", false)
  | 13 => ("RustRailsModel", "wayLength", "I", false)
  | 14 => ("RustRailsModel", "way", "[I", true)
  | _ => ("RustRailsModel", "wayTracks", "I", false)
def tyX11 : Nat → FieldType := fun k => match k with
  | 0 => .int
  | 1 => .array .int
  | 2 => .int
  | 3 => .int
  | 4 => .array .int
  | 5 => .array .int
  | 6 => .array .int
  | 7 => .array .int
  | 8 => .int
  | 9 => .array .int
  | 10 => .array .boolean
  | 11 => .array .int
  | 12 => .int
  | 13 => .int
  | 14 => .array .int
  | _ => .int
abbrev wsX110 : List Cond := u_ws RX11 TX11 16
theorem nmX11 : ∀ a, a < 16 → ∀ b, b < 16 → a ≠ b → (TX11 a).2.1 ≠ (TX11 b).2.1 := by decide +kernel
theorem tyX11_ok : ∀ k, k < 16 → parseFieldDescriptor (TX11 k).2.2.1 = some (tyX11 k) := by decide +kernel
abbrev cX11_init : ByteArray := prog_13_method_1_code
def yX11_init : MethodName := ⟨RX11, "<init>", "()V"⟩
abbrev cX11_thrown : ByteArray := prog_13_method_2_code
def yX11_thrown : MethodName := ⟨RX11, "thrown", "()I"⟩
abbrev cX11_refused : ByteArray := prog_13_method_3_code
def yX11_refused : MethodName := ⟨RX11, "refused", "(I)Z"⟩
abbrev cX11_in : ByteArray := prog_13_method_4_code
def yX11_in : MethodName := ⟨RX11, "in", "(JJJ)Z"⟩
abbrev cX11_copyPage : ByteArray := prog_13_method_5_code
def yX11_copyPage : MethodName := ⟨RX11, "copyPage", "([II[II)V"⟩
abbrev cX11_trackAt : ByteArray := prog_13_method_6_code
def yX11_trackAt : MethodName := ⟨RX11, "trackAt", "(I)I"⟩
abbrev cX11_companyAt : ByteArray := prog_13_method_7_code
def yX11_companyAt : MethodName := ⟨RX11, "companyAt", "(I)I"⟩
abbrev cX11_trainAt : ByteArray := prog_13_method_8_code
def yX11_trainAt : MethodName := ⟨RX11, "trainAt", "(II)I"⟩
abbrev cX11_contractAt : ByteArray := prog_13_method_9_code
def yX11_contractAt : MethodName := ⟨RX11, "contractAt", "(I)I"⟩
abbrev cX11_begin : ByteArray := prog_13_method_10_code
def yX11_begin : MethodName := ⟨RX11, "begin", "([I)V"⟩
abbrev cX11_addTrack : ByteArray := prog_13_method_11_code
def yX11_addTrack : MethodName := ⟨RX11, "addTrack", "([IIII)V"⟩
abbrev cX11_addContract : ByteArray := prog_13_method_12_code
def yX11_addContract : MethodName := ⟨RX11, "addContract", "([IIIII)V"⟩
abbrev cX11_isCompany : ByteArray := prog_13_method_13_code
def yX11_isCompany : MethodName := ⟨RX11, "isCompany", "(I)Z"⟩
abbrev cX11_isTrack : ByteArray := prog_13_method_14_code
def yX11_isTrack : MethodName := ⟨RX11, "isTrack", "([II)Z"⟩
abbrev cX11_isContract : ByteArray := prog_13_method_15_code
def yX11_isContract : MethodName := ⟨RX11, "isContract", "([II)Z"⟩
abbrev cX11_trainsOf : ByteArray := prog_13_method_16_code
def yX11_trainsOf : MethodName := ⟨RX11, "trainsOf", "([II)I"⟩
abbrev cX11_isTrain : ByteArray := prog_13_method_17_code
def yX11_isTrain : MethodName := ⟨RX11, "isTrain", "([III)Z"⟩
abbrev cX11_costOf : ByteArray := prog_13_method_18_code
def yX11_costOf : MethodName := ⟨RX11, "costOf", "([III)I"⟩
abbrev cX11_across : ByteArray := prog_13_method_19_code
def yX11_across : MethodName := ⟨RX11, "across", "([III)I"⟩
abbrev cX11_goneBy : ByteArray := prog_13_method_20_code
def yX11_goneBy : MethodName := ⟨RX11, "goneBy", "([IIIII)I"⟩
abbrev cX11_layLeast : ByteArray := prog_13_method_21_code
def yX11_layLeast : MethodName := ⟨RX11, "layLeast", "([IIII)V"⟩
abbrev cX11_findWay : ByteArray := prog_13_method_22_code
def yX11_findWay : MethodName := ⟨RX11, "findWay", "([IIIII)Z"⟩
abbrev cX11_why : ByteArray := prog_13_method_23_code
def yX11_why : MethodName := ⟨RX11, "why", "([III)I"⟩
abbrev cX11_runOn : ByteArray := prog_13_method_24_code
def yX11_runOn : MethodName := ⟨RX11, "runOn", "([III)I"⟩
abbrev cX11_toBank : ByteArray := prog_13_method_25_code
def yX11_toBank : MethodName := ⟨RX11, "toBank", "([III)V"⟩
abbrev cX11_dropContract : ByteArray := prog_13_method_26_code
def yX11_dropContract : MethodName := ⟨RX11, "dropContract", "([II)V"⟩
abbrev cX11_endContracts : ByteArray := prog_13_method_27_code
def yX11_endContracts : MethodName := ⟨RX11, "endContracts", "([I)V"⟩
abbrev cX11_tracksOf : ByteArray := prog_13_method_28_code
def yX11_tracksOf : MethodName := ⟨RX11, "tracksOf", "([IIZ)I"⟩
abbrev cX11_levelsOf : ByteArray := prog_13_method_29_code
def yX11_levelsOf : MethodName := ⟨RX11, "levelsOf", "([II)I"⟩
abbrev cX11_contractsOf : ByteArray := prog_13_method_30_code
def yX11_contractsOf : MethodName := ⟨RX11, "contractsOf", "([II)I"⟩
abbrev cX11_goBroke : ByteArray := prog_13_method_31_code
def yX11_goBroke : MethodName := ⟨RX11, "goBroke", "([II)V"⟩
abbrev cX11_endOn : ByteArray := prog_13_method_32_code
def yX11_endOn : MethodName := ⟨RX11, "endOn", "([I)I"⟩
abbrev cX11_canBuyTrack : ByteArray := prog_13_method_33_code
def yX11_canBuyTrack : MethodName := ⟨RX11, "canBuyTrack", "([III)Z"⟩
abbrev cX11_buyTrackOn : ByteArray := prog_13_method_34_code
def yX11_buyTrackOn : MethodName := ⟨RX11, "buyTrackOn", "([III)I"⟩
abbrev cX11_canBuyTrain : ByteArray := prog_13_method_35_code
def yX11_canBuyTrain : MethodName := ⟨RX11, "canBuyTrain", "([III)Z"⟩
abbrev cX11_rust : ByteArray := prog_13_method_36_code
def yX11_rust : MethodName := ⟨RX11, "rust", "([III)I"⟩
abbrev cX11_buyTrainOn : ByteArray := prog_13_method_37_code
def yX11_buyTrainOn : MethodName := ⟨RX11, "buyTrainOn", "([III)I"⟩
abbrev cX11_canTake : ByteArray := prog_13_method_38_code
def yX11_canTake : MethodName := ⟨RX11, "canTake", "([II)Z"⟩
abbrev cX11_takeOn : ByteArray := prog_13_method_39_code
def yX11_takeOn : MethodName := ⟨RX11, "takeOn", "([III)I"⟩
abbrev cX11_worthOf : ByteArray := prog_13_method_40_code
def yX11_worthOf : MethodName := ⟨RX11, "worthOf", "([II)I"⟩
abbrev cX11_append : ByteArray := prog_13_method_41_code
def yX11_append : MethodName := ⟨RX11, "append", "(I)I"⟩
abbrev cX11_clearText : ByteArray := prog_13_method_42_code
def yX11_clearText : MethodName := ⟨RX11, "clearText", "()I"⟩
abbrev cX11_eat : ByteArray := prog_13_method_43_code
def yX11_eat : MethodName := ⟨RX11, "eat", "(I)Z"⟩
abbrev cX11_digit : ByteArray := prog_13_method_44_code
def yX11_digit : MethodName := ⟨RX11, "digit", "(III)I"⟩
abbrev cX11_readTrack : ByteArray := prog_13_method_45_code
def yX11_readTrack : MethodName := ⟨RX11, "readTrack", "()Z"⟩
abbrev cX11_readContract : ByteArray := prog_13_method_46_code
def yX11_readContract : MethodName := ⟨RX11, "readContract", "()Z"⟩
abbrev cX11_readAll : ByteArray := prog_13_method_47_code
def yX11_readAll : MethodName := ⟨RX11, "readAll", "()Z"⟩
abbrev cX11_errorPosition : ByteArray := prog_13_method_48_code
def yX11_errorPosition : MethodName := ⟨RX11, "errorPosition", "()I"⟩
abbrev cX11_load : ByteArray := prog_13_method_49_code
def yX11_load : MethodName := ⟨RX11, "load", "()I"⟩
abbrev cX11_about : ByteArray := prog_13_method_50_code
def yX11_about : MethodName := ⟨RX11, "about", "(I)I"⟩
abbrev cX11_track : ByteArray := prog_13_method_51_code
def yX11_track : MethodName := ⟨RX11, "track", "(II)I"⟩
abbrev cX11_company : ByteArray := prog_13_method_52_code
def yX11_company : MethodName := ⟨RX11, "company", "(II)I"⟩
abbrev cX11_train : ByteArray := prog_13_method_53_code
def yX11_train : MethodName := ⟨RX11, "train", "(III)I"⟩
abbrev cX11_contract : ByteArray := prog_13_method_54_code
def yX11_contract : MethodName := ⟨RX11, "contract", "(II)I"⟩
abbrev cX11_note : ByteArray := prog_13_method_55_code
def yX11_note : MethodName := ⟨RX11, "note", "()V"⟩
abbrev cX11_buyTrack : ByteArray := prog_13_method_56_code
def yX11_buyTrack : MethodName := ⟨RX11, "buyTrack", "(II)I"⟩
abbrev cX11_buyTrain : ByteArray := prog_13_method_57_code
def yX11_buyTrain : MethodName := ⟨RX11, "buyTrain", "(II)I"⟩
abbrev cX11_setRent : ByteArray := prog_13_method_58_code
def yX11_setRent : MethodName := ⟨RX11, "setRent", "(II)I"⟩
abbrev cX11_isCity : ByteArray := prog_13_method_59_code
def yX11_isCity : MethodName := ⟨RX11, "isCity", "(I)Z"⟩
abbrev cX11_offer : ByteArray := prog_13_method_60_code
def yX11_offer : MethodName := ⟨RX11, "offer", "(IIII)I"⟩
abbrev cX11_take : ByteArray := prog_13_method_61_code
def yX11_take : MethodName := ⟨RX11, "take", "(II)I"⟩
abbrev cX11_isRun : ByteArray := prog_13_method_62_code
def yX11_isRun : MethodName := ⟨RX11, "isRun", "([III)Z"⟩
abbrev cX11_run : ByteArray := prog_13_method_63_code
def yX11_run : MethodName := ⟨RX11, "run", "(II)I"⟩
abbrev cX11_endRound : ByteArray := prog_13_method_64_code
def yX11_endRound : MethodName := ⟨RX11, "endRound", "()I"⟩
abbrev cX11_undo : ByteArray := prog_13_method_65_code
def yX11_undo : MethodName := ⟨RX11, "undo", "()I"⟩
abbrev cX11_way : ByteArray := prog_13_method_66_code
def yX11_way : MethodName := ⟨RX11, "way", "(IIIII)I"⟩
abbrev cX11_whyNot : ByteArray := prog_13_method_67_code
def yX11_whyNot : MethodName := ⟨RX11, "whyNot", "(II)I"⟩
abbrev cX11_levelFor : ByteArray := prog_13_method_68_code
def yX11_levelFor : MethodName := ⟨RX11, "levelFor", "(II)I"⟩
abbrev cX11_bestContract : ByteArray := prog_13_method_69_code
def yX11_bestContract : MethodName := ⟨RX11, "bestContract", "(I)I"⟩
abbrev cX11_coinsAfter : ByteArray := prog_13_method_70_code
def yX11_coinsAfter : MethodName := ⟨RX11, "coinsAfter", "(II)I"⟩
abbrev cX11_bankruptAfter : ByteArray := prog_13_method_71_code
def yX11_bankruptAfter : MethodName := ⟨RX11, "bankruptAfter", "(I)I"⟩
abbrev cX11_worth : ByteArray := prog_13_method_72_code
def yX11_worth : MethodName := ⟨RX11, "worth", "(I)I"⟩
abbrev cX11_does : ByteArray := prog_13_method_73_code
def yX11_does : MethodName := ⟨RX11, "does", "(III)Z"⟩
abbrev cX11_runScript : ByteArray := prog_13_method_74_code
def yX11_runScript : MethodName := ⟨RX11, "runScript", "(IJ)I"⟩
abbrev cX11_runAll : ByteArray := prog_13_method_75_code
def yX11_runAll : MethodName := ⟨RX11, "runAll", "([I)V"⟩
abbrev cX11_simulate : ByteArray := prog_13_method_76_code
def yX11_simulate : MethodName := ⟨RX11, "simulate", "(JI)I"⟩
abbrev cX11_save : ByteArray := prog_13_method_77_code
def yX11_save : MethodName := ⟨RX11, "save", "(I)I"⟩
abbrev cX11_restore : ByteArray := prog_13_method_78_code
def yX11_restore : MethodName := ⟨RX11, "restore", "(I)I"⟩
def RJ9 : String := "java/lang/Math"
def TJ9 : u_T := fun k => match k with
  | _ => ("", "", "", false)
def tyJ9 : Nat → FieldType := fun k => match k with
  | _ => .int
abbrev wsJ90 : List Cond := u_ws RJ9 TJ9 0
theorem nmJ9 : ∀ a, a < 0 → ∀ b, b < 0 → a ≠ b → (TJ9 a).2.1 ≠ (TJ9 b).2.1 := by decide +kernel
theorem tyJ9_ok : ∀ k, k < 0 → parseFieldDescriptor (TJ9 k).2.2.1 = some (tyJ9 k) := by decide +kernel
abbrev cJ9_max_7cf53 : ByteArray := prog_18_method_65_code
def yJ9_max_7cf53 : MethodName := ⟨RJ9, "max", "(II)I"⟩
abbrev cJ9_min_7cf53 : ByteArray := prog_18_method_69_code
def yJ9_min_7cf53 : MethodName := ⟨RJ9, "min", "(II)I"⟩
def RJ0 : String := "java/lang/String"
def TJ0 : u_T := fun k => match k with
  | _ => ("", "", "", false)
def tyJ0 : Nat → FieldType := fun k => match k with
  | _ => .int
abbrev wsJ00 : List Cond := u_ws RJ0 TJ0 0
theorem nmJ0 : ∀ a, a < 0 → ∀ b, b < 0 → a ≠ b → (TJ0 a).2.1 ≠ (TJ0 b).2.1 := by decide +kernel
theorem tyJ0_ok : ∀ k, k < 0 → parseFieldDescriptor (TJ0 k).2.2.1 = some (tyJ0 k) := by decide +kernel
def RJ10 : String := "java/lang/System"
def TJ10 : u_T := fun k => match k with
  | _ => ("", "", "", false)
def tyJ10 : Nat → FieldType := fun k => match k with
  | _ => .int
abbrev wsJ100 : List Cond := u_ws RJ10 TJ10 0
theorem nmJ10 : ∀ a, a < 0 → ∀ b, b < 0 → a ≠ b → (TJ10 a).2.1 ≠ (TJ10 b).2.1 := by decide +kernel
theorem tyJ10_ok : ∀ k, k < 0 → parseFieldDescriptor (TJ10 k).2.2.1 = some (tyJ10 k) := by decide +kernel
def RL : String := "RustRailsLaw"
abbrev cL_append : ByteArray := method_3_code
def yL_append : MethodName := ⟨RL, "append", "(LRustRails;I[J)I"⟩
abbrev cL_load : ByteArray := method_4_code
def yL_load : MethodName := ⟨RL, "load", "(LRustRails;[J)I"⟩
abbrev cL_about : ByteArray := method_5_code
def yL_about : MethodName := ⟨RL, "about", "(LRustRails;I[J)I"⟩
abbrev cL_track : ByteArray := method_6_code
def yL_track : MethodName := ⟨RL, "track", "(LRustRails;II[J)I"⟩
abbrev cL_company : ByteArray := method_7_code
def yL_company : MethodName := ⟨RL, "company", "(LRustRails;II[J)I"⟩
abbrev cL_train : ByteArray := method_8_code
def yL_train : MethodName := ⟨RL, "train", "(LRustRails;III[J)I"⟩
abbrev cL_contract : ByteArray := method_9_code
def yL_contract : MethodName := ⟨RL, "contract", "(LRustRails;II[J)I"⟩
abbrev cL_buyTrack : ByteArray := method_10_code
def yL_buyTrack : MethodName := ⟨RL, "buyTrack", "(LRustRails;II[J)I"⟩
abbrev cL_buyTrain : ByteArray := method_11_code
def yL_buyTrain : MethodName := ⟨RL, "buyTrain", "(LRustRails;II[J)I"⟩
abbrev cL_setRent : ByteArray := method_12_code
def yL_setRent : MethodName := ⟨RL, "setRent", "(LRustRails;II[J)I"⟩
abbrev cL_offer : ByteArray := method_13_code
def yL_offer : MethodName := ⟨RL, "offer", "(LRustRails;IIII[J)I"⟩
abbrev cL_take : ByteArray := method_14_code
def yL_take : MethodName := ⟨RL, "take", "(LRustRails;II[J)I"⟩
abbrev cL_run : ByteArray := method_15_code
def yL_run : MethodName := ⟨RL, "run", "(LRustRails;II[J)I"⟩
abbrev cL_undo : ByteArray := method_16_code
def yL_undo : MethodName := ⟨RL, "undo", "(LRustRails;[J)I"⟩
abbrev cL_way : ByteArray := method_17_code
def yL_way : MethodName := ⟨RL, "way", "(LRustRails;IIIII[J)I"⟩
abbrev cL_whyNot : ByteArray := method_18_code
def yL_whyNot : MethodName := ⟨RL, "whyNot", "(LRustRails;II[J)I"⟩
abbrev cL_levelFor : ByteArray := method_19_code
def yL_levelFor : MethodName := ⟨RL, "levelFor", "(LRustRails;II[J)I"⟩
abbrev cL_bestContract : ByteArray := method_20_code
def yL_bestContract : MethodName := ⟨RL, "bestContract", "(LRustRails;I[J)I"⟩
abbrev cL_coinsAfter : ByteArray := method_21_code
def yL_coinsAfter : MethodName := ⟨RL, "coinsAfter", "(LRustRails;II[J)I"⟩
abbrev cL_bankruptAfter : ByteArray := method_22_code
def yL_bankruptAfter : MethodName := ⟨RL, "bankruptAfter", "(LRustRails;I[J)I"⟩
abbrev cL_worth : ByteArray := method_23_code
def yL_worth : MethodName := ⟨RL, "worth", "(LRustRails;I[J)I"⟩
abbrev cL_runScript : ByteArray := method_24_code
def yL_runScript : MethodName := ⟨RL, "runScript", "(LRustRails;IJ[J)I"⟩
abbrev cL_simulate : ByteArray := method_25_code
def yL_simulate : MethodName := ⟨RL, "simulate", "(LRustRails;JI[J)I"⟩
abbrev cL_save : ByteArray := method_26_code
def yL_save : MethodName := ⟨RL, "save", "(LRustRails;I[J)I"⟩
abbrev cL_restore : ByteArray := method_27_code
def yL_restore : MethodName := ⟨RL, "restore", "(LRustRails;I[J)I"⟩
abbrev cL_law : ByteArray := code
def yL_law : MethodName := ⟨RL, "law", "([I)Z"⟩
def wsL_law0_r1 : List Cond := [Cond.classLink RL 8 RX10, Cond.instantiable RX10 6, Cond.initialized RX10, Cond.classLink RL 99 RX11, Cond.instantiable RX11 16, Cond.initialized RX11, Cond.arrayClass .long, Cond.constantLong RL 188 (4294967295), Cond.methodLink RL 98 yX10_init, Cond.instanceMethod yX10_init, Cond.code yX10_init cX10_init 1 none, Cond.methodLink RX10 3 objectInit, Cond.instanceMethod objectInit, Cond.code objectInit ⟨#[0xb1]⟩ 1 none, Cond.classLink RX10 9 RX2, Cond.instantiable RX2 2, Cond.initialized RX2, Cond.fieldLink RX10 12 "RustRails" "text" "LRustRails$GameText;", Cond.classLink RX10 16 RX7, Cond.instantiable RX7 9, Cond.initialized RX7, Cond.fieldLink RX10 19 "RustRails" "present" "LRustRails$State;", Cond.fieldLink RX10 23 "RustRails" "trial" "LRustRails$State;", Cond.classLink RX10 26 RX3]
def wsL_law0_r2 : List Cond := [Cond.instantiable RX3 3, Cond.initialized RX3, Cond.fieldLink RX10 29 "RustRails" "history" "LRustRails$History;", Cond.classLink RX10 33 RX6, Cond.instantiable RX6 2, Cond.initialized RX6, Cond.fieldLink RX10 36 "RustRails" "slots" "LRustRails$Slots;", Cond.classLink RX10 40 RX4, Cond.instantiable RX4 1, Cond.initialized RX4, Cond.fieldLink RX10 43 "RustRails" "mail" "LRustRails$Mail;", Cond.fieldLink RX10 51 "RustRails$State" "tracks" "LRustRails$Tracks;", Cond.instanceMethod yX2_init, Cond.code yX2_init cX2_init 1 none, Cond.methodLink RX2 3 objectInit, Cond.arrayClass .int, Cond.fieldLink RX2 9 "RustRails$GameText" "characters" "[I", Cond.instanceMethod yX7_init, Cond.code yX7_init cX7_init 1 none, Cond.methodLink RX7 3 objectInit, Cond.classLink RX7 9 RX8, Cond.instantiable RX8 5, Cond.initialized RX8, Cond.fieldLink RX7 12 "RustRails$State" "tracks" "LRustRails$Tracks;"]
def wsL_law0_r3 : List Cond := [Cond.classLink RX7 18 RX1, Cond.instantiable RX1 7, Cond.initialized RX1, Cond.fieldLink RX7 21 "RustRails$State" "contracts" "LRustRails$Contracts;", Cond.classLink RX7 25 RX0, Cond.instantiable RX0 7, Cond.initialized RX0, Cond.fieldLink RX7 28 "RustRails$State" "companies" "LRustRails$Companies;", Cond.instanceMethod yX8_init, Cond.code yX8_init cX8_init 1 none, Cond.methodLink RX8 3 objectInit, Cond.fieldLink RX8 9 "RustRails$Tracks" "first" "[I", Cond.fieldLink RX8 15 "RustRails$Tracks" "second" "[I", Cond.fieldLink RX8 18 "RustRails$Tracks" "length" "[I", Cond.fieldLink RX8 21 "RustRails$Tracks" "owner" "[I", Cond.instanceMethod yX1_init, Cond.code yX1_init cX1_init 1 none, Cond.methodLink RX1 3 objectInit, Cond.fieldLink RX1 9 "RustRails$Contracts" "from" "[I", Cond.fieldLink RX1 15 "RustRails$Contracts" "to" "[I", Cond.fieldLink RX1 18 "RustRails$Contracts" "pay" "[I", Cond.fieldLink RX1 21 "RustRails$Contracts" "rounds" "[I", Cond.fieldLink RX1 24 "RustRails$Contracts" "holder" "[I", Cond.fieldLink RX1 27 "RustRails$Contracts" "ran" "[I"]
def wsL_law0_r4 : List Cond := [Cond.instanceMethod yX0_init, Cond.code yX0_init cX0_init 1 none, Cond.methodLink RX0 3 objectInit, Cond.fieldLink RX0 9 "RustRails$Companies" "coins" "[I", Cond.fieldLink RX0 15 "RustRails$Companies" "rent" "[I", Cond.fieldLink RX0 18 "RustRails$Companies" "rentsGot" "[I", Cond.fieldLink RX0 21 "RustRails$Companies" "bankruptcies" "[I", Cond.fieldLink RX0 24 "RustRails$Companies" "trains" "[I", Cond.fieldLink RX0 27 "RustRails$Companies" "level" "[I", Cond.fieldLink RX0 30 "RustRails$Companies" "ran" "[I", Cond.methodLink RX10 28 yX3_init, Cond.instanceMethod yX3_init, Cond.code yX3_init cX3_init 2 none, Cond.methodLink RX3 3 objectInit, Cond.classLink RX3 9 RX7, Cond.fieldLink RX3 11 "RustRails$History" "states" "[LRustRails$State;", Cond.methodLink RX10 35 yX6_init, Cond.instanceMethod yX6_init, Cond.code yX6_init cX6_init 2 none, Cond.methodLink RX6 3 objectInit, Cond.classLink RX6 9 RX7, Cond.fieldLink RX6 11 "RustRails$Slots" "states" "[LRustRails$State;", Cond.fieldLink RX6 17 "RustRails$Slots" "filled" "[I", Cond.instanceMethod yX4_init]
def wsL_law0_r5 : List Cond := [Cond.code yX4_init cX4_init 1 none, Cond.methodLink RX4 3 objectInit, Cond.classLink RX4 9 RX9, Cond.instantiable RX9 7, Cond.initialized RX9, Cond.fieldLink RX4 12 "RustRails$Mail" "ways" "LRustRails$Ways;", Cond.instanceMethod yX9_init, Cond.code yX9_init cX9_init 1 none, Cond.methodLink RX9 3 objectInit, Cond.fieldLink RX9 9 "RustRails$Ways" "least" "[I", Cond.fieldLink RX9 15 "RustRails$Ways" "opening" "[I", Cond.fieldLink RX9 18 "RustRails$Ways" "price" "[I", Cond.fieldLink RX9 21 "RustRails$Ways" "found" "[I", Cond.methodLink RX10 47 yX7_begin, Cond.instanceMethod yX7_begin, Cond.selects RX7 yX7_begin yX7_begin, Cond.code yX7_begin cX7_begin 2 none, Cond.fieldLink RX7 32 "RustRails$Tracks" "count" "I", Cond.fieldLink RX7 36 "RustRails$Contracts" "count" "I", Cond.fieldLink RX7 40 "RustRails$State" "cities" "I", Cond.fieldLink RX7 43 "RustRails$State" "phase" "I", Cond.fieldLink RX7 46 "RustRails$State" "round" "I", Cond.fieldLink RX7 49 "RustRails$State" "pays" "I", Cond.fieldLink RX7 52 "RustRails$State" "fines" "I"]
def wsL_law0_r6 : List Cond := [Cond.fieldLink RX7 55 "RustRails$State" "rusted" "I", Cond.methodLink RX7 37 yX0_begin, Cond.instanceMethod yX0_begin, Cond.selects RX0 yX0_begin yX0_begin, Cond.code yX0_begin cX0_begin 1 none, Cond.static yX10_fill, Cond.code yX10_fill cX10_fill 3 none, Cond.static yX10_put, Cond.code yX10_put cX10_put 3 none, Cond.methodLink RX10 55 yX8_add, Cond.instanceMethod yX8_add, Cond.selects RX8 yX8_add yX8_add, Cond.code yX8_add cX8_add 4 none, Cond.fieldLink RX8 24 "RustRails$Tracks" "count" "I", Cond.methodLink RX8 32 yX8_areFull, Cond.instanceMethod yX8_areFull, Cond.selects RX8 yX8_areFull yX8_areFull, Cond.code yX8_areFull cX8_areFull 1 (some .boolean), Cond.methodLink RL 101 yX11_init, Cond.instanceMethod yX11_init, Cond.code yX11_init cX11_init 1 none, Cond.methodLink RX11 1 objectInit, Cond.fieldLink RX11 7 "RustRailsModel" "text" "[I", Cond.fieldLink RX11 13 "RustRailsModel" "read" "[I"]
def wsL_law0_r7 : List Cond := [Cond.fieldLink RX11 16 "RustRailsModel" "now" "[I", Cond.fieldLink RX11 19 "RustRailsModel" "trial" "[I", Cond.fieldLink RX11 22 "RustRailsModel" "diary" "[I", Cond.fieldLink RX11 25 "RustRailsModel" "kept" "[I", Cond.arrayClass .boolean, Cond.fieldLink RX11 28 "RustRailsModel" "isKept" "[Z", Cond.fieldLink RX11 32 "RustRailsModel" "least" "[I", Cond.fieldLink RX11 35 "RustRailsModel" "way" "[I", Cond.methodLink RX11 38 yX11_begin, Cond.static yX11_begin, Cond.code yX11_begin cX11_begin 2 none, Cond.methodLink RX11 50 yX11_companyAt, Cond.static yX11_companyAt, Cond.code yX11_companyAt cX11_companyAt 1 (some .int), Cond.methodLink RX11 42 yX11_addTrack, Cond.static yX11_addTrack, Cond.code yX11_addTrack cX11_addTrack 5 none, Cond.methodLink RX11 54 yX11_trackAt, Cond.static yX11_trackAt, Cond.code yX11_trackAt cX11_trackAt 1 (some .int), Cond.methodLink RL 102 yL_append, Cond.static yL_append, Cond.initialized RL, Cond.codeWith yL_append cL_append 4 (some .int) [(0, 9, 12, 13), (0, 9, 15, 15)]]
def wsL_law0_r8 : List Cond := [Cond.classLink RL 13 "java/lang/IllegalArgumentException", Cond.classLink RL 15 "java/lang/IllegalStateException", Cond.methodLink RL 7 yX10_append, Cond.instanceMethod yX10_append, Cond.selects RX10 yX10_append yX10_append, Cond.code yX10_append cX10_append 2 (some .int), Cond.classLink RX10 68 "java/lang/IllegalStateException", Cond.initialized "java/lang/IllegalStateException", Cond.methodLink RX10 61 yX10_needRange, Cond.static yX10_needRange, Cond.code yX10_needRange cX10_needRange 3 none, Cond.classLink RX10 150 "java/lang/IllegalArgumentException", Cond.initialized "java/lang/IllegalArgumentException", Cond.methodLink RX10 64 yX2_isFull, Cond.instanceMethod yX2_isFull, Cond.selects RX2 yX2_isFull yX2_isFull, Cond.code yX2_isFull cX2_isFull 1 (some .boolean), Cond.fieldLink RX2 15 "RustRails$GameText" "size" "I", Cond.methodLink RX10 75 yX2_add, Cond.instanceMethod yX2_add, Cond.selects RX2 yX2_add yX2_add, Cond.code yX2_add cX2_add 2 (some .int), Cond.methodLink RX2 19 yX2_isFull, Cond.methodLink RL 107 yX11_append]
def wsL_law0_r9 : List Cond := [Cond.instanceMethod yX11_append, Cond.selects RX11 yX11_append yX11_append, Cond.code yX11_append cX11_append 2 (some .int), Cond.constantLong RX11 129 (255), Cond.fieldLink RX11 131 "RustRailsModel" "textSize" "I", Cond.methodLink RX11 62 yX11_in, Cond.static yX11_in, Cond.code yX11_in cX11_in 6 (some .boolean), Cond.methodLink RX11 134 yX11_refused, Cond.instanceMethod yX11_refused, Cond.selects RX11 yX11_refused yX11_refused, Cond.code yX11_refused cX11_refused 2 (some .boolean), Cond.fieldLink RX11 46 "RustRailsModel" "refusal" "I", Cond.methodLink RL 108 yX11_thrown, Cond.instanceMethod yX11_thrown, Cond.selects RX11 yX11_thrown yX11_thrown, Cond.code yX11_thrown cX11_thrown 1 (some .int), Cond.methodLink RL 111 yX10_clearText, Cond.instanceMethod yX10_clearText, Cond.selects RX10 yX10_clearText yX10_clearText, Cond.code yX10_clearText cX10_clearText 1 (some .int), Cond.methodLink RX10 78 yX2_empty, Cond.instanceMethod yX2_empty, Cond.selects RX2 yX2_empty yX2_empty]
def wsL_law0_r10 : List Cond := [Cond.code yX2_empty cX2_empty 2 (some .int), Cond.methodLink RL 114 yX11_clearText, Cond.instanceMethod yX11_clearText, Cond.selects RX11 yX11_clearText yX11_clearText, Cond.code yX11_clearText cX11_clearText 2 (some .int), Cond.methodLink RL 115 yX10_errorPosition, Cond.instanceMethod yX10_errorPosition, Cond.selects RX10 yX10_errorPosition yX10_errorPosition, Cond.code yX10_errorPosition cX10_errorPosition 1 (some .int), Cond.methodLink RX10 82 yX2_readInto, Cond.instanceMethod yX2_readInto, Cond.selects RX2 yX2_readInto yX2_readInto, Cond.code yX2_readInto cX2_readInto 5 (some .int), Cond.methodLink RX2 27 yX2_holds, Cond.instanceMethod yX2_holds, Cond.selects RX2 yX2_holds yX2_holds, Cond.code yX2_holds cX2_holds 3 (some .boolean), Cond.static yX10_at, Cond.code yX10_at cX10_at 2 (some .int), Cond.methodLink RX2 31 yX2_digitAt, Cond.instanceMethod yX2_digitAt, Cond.selects RX2 yX2_digitAt yX2_digitAt, Cond.code yX2_digitAt cX2_digitAt 3 (some .int), Cond.methodLink RX2 35 yX7_begin]
def wsL_law0_r11 : List Cond := [Cond.methodLink RX2 41 yX2_readPart, Cond.instanceMethod yX2_readPart, Cond.selects RX2 yX2_readPart yX2_readPart, Cond.code yX2_readPart cX2_readPart 3 (some .int), Cond.fieldLink RX2 45 "RustRails$State" "tracks" "LRustRails$Tracks;", Cond.fieldLink RX2 57 "RustRails$State" "contracts" "LRustRails$Contracts;", Cond.methodLink RX2 49 yX8_areFull, Cond.methodLink RX2 54 yX2_readTrack, Cond.instanceMethod yX2_readTrack, Cond.selects RX2 yX2_readTrack yX2_readTrack, Cond.code yX2_readTrack cX2_readTrack 5 (some .int), Cond.fieldLink RX2 67 "RustRails$State" "cities" "I", Cond.methodLink RX2 70 yX2_errorOfCities, Cond.instanceMethod yX2_errorOfCities, Cond.selects RX2 yX2_errorOfCities yX2_errorOfCities, Cond.code yX2_errorOfCities cX2_errorOfCities 5 (some .int), Cond.methodLink RX2 74 yX8_add, Cond.methodLink RX2 61 yX1_areFull, Cond.instanceMethod yX1_areFull, Cond.selects RX1 yX1_areFull yX1_areFull, Cond.code yX1_areFull cX1_areFull 1 (some .boolean), Cond.fieldLink RX1 30 "RustRails$Contracts" "count" "I", Cond.methodLink RX2 64 yX2_readContract, Cond.instanceMethod yX2_readContract]
def wsL_law0_r12 : List Cond := [Cond.selects RX2 yX2_readContract yX2_readContract, Cond.code yX2_readContract cX2_readContract 7 (some .int), Cond.methodLink RX2 78 yX1_add, Cond.instanceMethod yX1_add, Cond.selects RX1 yX1_add yX1_add, Cond.code yX1_add cX1_add 5 none, Cond.methodLink RX1 46 yX1_areFull, Cond.methodLink RL 118 yX11_errorPosition, Cond.instanceMethod yX11_errorPosition, Cond.selects RX11 yX11_errorPosition yX11_errorPosition, Cond.code yX11_errorPosition cX11_errorPosition 1 (some .int), Cond.fieldLink RX11 138 "RustRailsModel" "spot" "I", Cond.methodLink RX11 159 yX11_readAll, Cond.instanceMethod yX11_readAll, Cond.selects RX11 yX11_readAll yX11_readAll, Cond.code yX11_readAll cX11_readAll 3 (some .boolean), Cond.methodLink RX11 149 yX11_eat, Cond.instanceMethod yX11_eat, Cond.selects RX11 yX11_eat yX11_eat, Cond.code yX11_eat cX11_eat 3 (some .boolean), Cond.methodLink RX11 141 yX11_digit, Cond.instanceMethod yX11_digit, Cond.selects RX11 yX11_digit yX11_digit, Cond.code yX11_digit cX11_digit 6 (some .int)]
def wsL_law0_r13 : List Cond := [Cond.methodLink RX11 152 yX11_readTrack, Cond.instanceMethod yX11_readTrack, Cond.selects RX11 yX11_readTrack yX11_readTrack, Cond.code yX11_readTrack cX11_readTrack 4 (some .boolean), Cond.methodLink RX11 156 yX11_readContract, Cond.instanceMethod yX11_readContract, Cond.selects RX11 yX11_readContract yX11_readContract, Cond.code yX11_readContract cX11_readContract 6 (some .boolean), Cond.methodLink RX11 145 yX11_addContract, Cond.static yX11_addContract, Cond.code yX11_addContract cX11_addContract 6 none, Cond.methodLink RX11 57 yX11_contractAt, Cond.static yX11_contractAt, Cond.code yX11_contractAt cX11_contractAt 1 (some .int), Cond.methodLink RL 119 yL_load, Cond.static yL_load, Cond.codeWith yL_load cL_load 3 (some .int) [(0, 8, 11, 15)], Cond.methodLink RL 17 yX10_load, Cond.instanceMethod yX10_load, Cond.selects RX10 yX10_load yX10_load, Cond.code yX10_load cX10_load 1 (some .int), Cond.fieldLink RX10 97 "RustRails$Tracks" "count" "I", Cond.methodLink RX10 88 yX7_copyFrom, Cond.instanceMethod yX7_copyFrom]
def wsL_law0_r14 : List Cond := [Cond.selects RX7 yX7_copyFrom yX7_copyFrom, Cond.code yX7_copyFrom cX7_copyFrom 2 none, Cond.methodLink RX7 58 yX8_copyFrom, Cond.instanceMethod yX8_copyFrom, Cond.selects RX8 yX8_copyFrom yX8_copyFrom, Cond.code yX8_copyFrom cX8_copyFrom 2 none, Cond.static yX10_copyRow, Cond.code yX10_copyRow cX10_copyRow 2 none, Cond.methodLink RX10 373 Lib.Math.min.name, Cond.static Lib.Math.min.name, Cond.initialized "java/lang/Math", Cond.code Lib.Math.min.name Lib.Math.min.code 2 (some .int), Cond.methodLink RX10 378 arraycopyName, Cond.native arraycopyName, Cond.static arraycopyName, Cond.initialized "java/lang/System", Cond.methodLink RX7 62 yX1_copyFrom, Cond.instanceMethod yX1_copyFrom, Cond.selects RX1 yX1_copyFrom yX1_copyFrom, Cond.code yX1_copyFrom cX1_copyFrom 2 none, Cond.methodLink RX7 65 yX0_copyFrom, Cond.instanceMethod yX0_copyFrom, Cond.selects RX0 yX0_copyFrom yX0_copyFrom, Cond.code yX0_copyFrom cX0_copyFrom 2 none]
def wsL_law0_r15 : List Cond := [Cond.methodLink RX10 92 yX3_forget, Cond.instanceMethod yX3_forget, Cond.selects RX3 yX3_forget yX3_forget, Cond.code yX3_forget cX3_forget 1 none, Cond.fieldLink RX3 18 "RustRails$History" "count" "I", Cond.methodLink RX10 95 yX6_empty, Cond.instanceMethod yX6_empty, Cond.selects RX6 yX6_empty yX6_empty, Cond.code yX6_empty cX6_empty 1 none, Cond.methodLink RL 122 yX11_load, Cond.instanceMethod yX11_load, Cond.selects RX11 yX11_load yX11_load, Cond.code yX11_load cX11_load 1 (some .int), Cond.fieldLink RX11 166 "RustRailsModel" "acts" "I", Cond.methodLink RX11 162 yX11_copyPage, Cond.static yX11_copyPage, Cond.code yX11_copyPage cX11_copyPage 5 none, Cond.methodLink RL 123 yL_about, Cond.static yL_about, Cond.codeWith yL_about cL_about 4 (some .int) [(0, 9, 12, 13)], Cond.methodLink RL 21 yX10_about, Cond.instanceMethod yX10_about, Cond.selects RX10 yX10_about yX10_about, Cond.code yX10_about cX10_about 2 (some .int)]
def wsL_law0_r16 : List Cond := [Cond.fieldLink RX10 101 "RustRails$State" "cities" "I", Cond.fieldLink RX10 104 "RustRails$State" "contracts" "LRustRails$Contracts;", Cond.fieldLink RX10 108 "RustRails$Contracts" "count" "I", Cond.fieldLink RX10 111 "RustRails$State" "phase" "I", Cond.fieldLink RX10 114 "RustRails$State" "round" "I", Cond.fieldLink RX10 117 "RustRails$State" "companies" "LRustRails$Companies;", Cond.fieldLink RX10 121 "RustRails$Companies" "coins" "[I", Cond.fieldLink RX10 131 "RustRails$Companies" "rentsGot" "[I", Cond.fieldLink RX10 138 "RustRails$State" "pays" "I", Cond.fieldLink RX10 141 "RustRails$State" "fines" "I", Cond.fieldLink RX10 144 "RustRails$Companies" "bankruptcies" "[I", Cond.fieldLink RX10 147 "RustRails$State" "rusted" "I", Cond.methodLink RX10 127 yX10_at, Cond.methodLink RX10 134 yX10_sum, Cond.static yX10_sum, Cond.code yX10_sum cX10_sum 3 (some .int), Cond.methodLink RL 125 yX11_about, Cond.instanceMethod yX11_about, Cond.selects RX11 yX11_about yX11_about, Cond.code yX11_about cX11_about 2 (some .int), Cond.constantLong RX11 169 (10), Cond.methodLink RL 126 yL_track, Cond.static yL_track, Cond.codeWith yL_track cL_track 5 (some .int) [(0, 10, 13, 28), (0, 10, 17, 13)]]
def wsL_law0_r17 : List Cond := [Cond.classLink RL 28 "java/lang/IndexOutOfBoundsException", Cond.methodLink RL 24 yX10_track, Cond.instanceMethod yX10_track, Cond.selects RX10 yX10_track yX10_track, Cond.code yX10_track cX10_track 4 (some .int), Cond.fieldLink RX10 158 "RustRails$Tracks" "first" "[I", Cond.fieldLink RX10 161 "RustRails$Tracks" "second" "[I", Cond.fieldLink RX10 164 "RustRails$Tracks" "length" "[I", Cond.fieldLink RX10 171 "RustRails$Tracks" "owner" "[I", Cond.methodLink RX10 155 yX10_needTrack, Cond.instanceMethod yX10_needTrack, Cond.selects RX10 yX10_needTrack yX10_needTrack, Cond.code yX10_needTrack cX10_needTrack 2 none, Cond.methodLink RX10 349 yX8_has, Cond.instanceMethod yX8_has, Cond.selects RX8 yX8_has yX8_has, Cond.code yX8_has cX8_has 2 (some .boolean), Cond.methodLink RX10 346 yX10_needIndex, Cond.static yX10_needIndex, Cond.code yX10_needIndex cX10_needIndex 1 none, Cond.classLink RX10 362 "java/lang/IndexOutOfBoundsException", Cond.initialized "java/lang/IndexOutOfBoundsException", Cond.methodLink RX10 167 yX8_isOfBank, Cond.instanceMethod yX8_isOfBank]
def wsL_law0_r18 : List Cond := [Cond.selects RX8 yX8_isOfBank yX8_isOfBank, Cond.code yX8_isOfBank cX8_isOfBank 2 (some .boolean), Cond.methodLink RL 129 yX11_track, Cond.instanceMethod yX11_track, Cond.selects RX11 yX11_track yX11_track, Cond.code yX11_track cX11_track 3 (some .int), Cond.constantLong RX11 60 (3), Cond.methodLink RX11 171 yX11_isTrack, Cond.static yX11_isTrack, Cond.code yX11_isTrack cX11_isTrack 2 (some .boolean), Cond.methodLink RL 130 yL_company, Cond.static yL_company, Cond.codeWith yL_company cL_company 5 (some .int) [(0, 10, 13, 28), (0, 10, 17, 13)], Cond.methodLink RL 30 yX10_company, Cond.instanceMethod yX10_company, Cond.selects RX10 yX10_company yX10_company, Cond.code yX10_company cX10_company 4 (some .int), Cond.fieldLink RX10 177 "RustRails$Companies" "rent" "[I", Cond.fieldLink RX10 180 "RustRails$Companies" "trains" "[I", Cond.methodLink RX10 174 yX10_needCompany, Cond.static yX10_needCompany, Cond.code yX10_needCompany cX10_needCompany 1 none, Cond.methodLink RX10 359 yX10_isCompany, Cond.static yX10_isCompany]
def wsL_law0_r19 : List Cond := [Cond.code yX10_isCompany cX10_isCompany 1 (some .boolean), Cond.methodLink RX10 183 yX8_countOf, Cond.instanceMethod yX8_countOf, Cond.selects RX8 yX8_countOf yX8_countOf, Cond.code yX8_countOf cX8_countOf 4 (some .int), Cond.methodLink RX10 186 yX1_countOf, Cond.instanceMethod yX1_countOf, Cond.selects RX1 yX1_countOf yX1_countOf, Cond.code yX1_countOf cX1_countOf 4 (some .int), Cond.methodLink RL 132 yX11_company, Cond.instanceMethod yX11_company, Cond.selects RX11 yX11_company yX11_company, Cond.code yX11_company cX11_company 4 (some .int), Cond.constantLong RX11 178 (6), Cond.methodLink RX11 175 yX11_isCompany, Cond.static yX11_isCompany, Cond.code yX11_isCompany cX11_isCompany 1 (some .boolean), Cond.methodLink RX11 113 yX11_tracksOf, Cond.static yX11_tracksOf, Cond.code yX11_tracksOf cX11_tracksOf 5 (some .int), Cond.methodLink RX11 126 yX11_contractsOf, Cond.static yX11_contractsOf, Cond.code yX11_contractsOf cX11_contractsOf 4 (some .int), Cond.methodLink RL 133 yL_train]
def wsL_law0_r20 : List Cond := [Cond.static yL_train, Cond.codeWith yL_train cL_train 6 (some .int) [(0, 12, 15, 28), (0, 12, 19, 13)], Cond.methodLink RL 33 yX10_train, Cond.instanceMethod yX10_train, Cond.selects RX10 yX10_train yX10_train, Cond.code yX10_train cX10_train 4 (some .int), Cond.methodLink RX10 187 yX10_needTrain, Cond.instanceMethod yX10_needTrain, Cond.selects RX10 yX10_needTrain yX10_needTrain, Cond.code yX10_needTrain cX10_needTrain 3 none, Cond.methodLink RX10 353 yX0_hasTrain, Cond.instanceMethod yX0_hasTrain, Cond.selects RX0 yX0_hasTrain yX0_hasTrain, Cond.code yX0_hasTrain cX0_hasTrain 3 (some .boolean), Cond.methodLink RX10 191 yX0_levelOf, Cond.instanceMethod yX0_levelOf, Cond.selects RX0 yX0_levelOf yX0_levelOf, Cond.code yX0_levelOf cX0_levelOf 3 (some .int), Cond.methodLink RX0 49 yX0_hasTrain, Cond.methodLink RX0 53 yX0_place, Cond.static yX0_place, Cond.code yX0_place cX0_place 2 (some .int), Cond.methodLink RX10 195 yX0_hasRun, Cond.instanceMethod yX0_hasRun]
def wsL_law0_r21 : List Cond := [Cond.selects RX0 yX0_hasRun yX0_hasRun, Cond.code yX0_hasRun cX0_hasRun 3 (some .boolean), Cond.methodLink RL 136 yX11_train, Cond.instanceMethod yX11_train, Cond.selects RX11 yX11_train yX11_train, Cond.code yX11_train cX11_train 4 (some .int), Cond.methodLink RX11 180 yX11_isTrain, Cond.static yX11_isTrain, Cond.code yX11_isTrain cX11_isTrain 3 (some .boolean), Cond.methodLink RX11 66 yX11_trainsOf, Cond.static yX11_trainsOf, Cond.code yX11_trainsOf cX11_trainsOf 2 (some .int), Cond.methodLink RX11 94 yX11_trainAt, Cond.static yX11_trainAt, Cond.code yX11_trainAt cX11_trainAt 2 (some .int), Cond.methodLink RL 137 yL_contract, Cond.static yL_contract, Cond.codeWith yL_contract cL_contract 5 (some .int) [(0, 10, 13, 28), (0, 10, 17, 13)], Cond.methodLink RL 37 yX10_contract, Cond.instanceMethod yX10_contract, Cond.selects RX10 yX10_contract yX10_contract, Cond.code yX10_contract cX10_contract 4 (some .int), Cond.fieldLink RX10 202 "RustRails$Contracts" "from" "[I", Cond.fieldLink RX10 205 "RustRails$Contracts" "to" "[I"]
def wsL_law0_r22 : List Cond := [Cond.fieldLink RX10 208 "RustRails$Contracts" "pay" "[I", Cond.fieldLink RX10 211 "RustRails$Contracts" "rounds" "[I", Cond.fieldLink RX10 214 "RustRails$Contracts" "holder" "[I", Cond.fieldLink RX10 217 "RustRails$Contracts" "ran" "[I", Cond.methodLink RX10 199 yX10_needContract, Cond.instanceMethod yX10_needContract, Cond.selects RX10 yX10_needContract yX10_needContract, Cond.code yX10_needContract cX10_needContract 2 none, Cond.methodLink RX10 352 yX1_has, Cond.instanceMethod yX1_has, Cond.selects RX1 yX1_has yX1_has, Cond.code yX1_has cX1_has 2 (some .boolean), Cond.methodLink RL 139 yX11_contract, Cond.instanceMethod yX11_contract, Cond.selects RX11 yX11_contract yX11_contract, Cond.code yX11_contract cX11_contract 3 (some .int), Cond.constantLong RX11 187 (5), Cond.methodLink RX11 184 yX11_isContract, Cond.static yX11_isContract, Cond.code yX11_isContract cX11_isContract 2 (some .boolean), Cond.methodLink RL 140 yL_buyTrack, Cond.static yL_buyTrack, Cond.codeWith yL_buyTrack cL_buyTrack 5 (some .int) [(0, 10, 13, 28), (0, 10, 17, 15)], Cond.methodLink RL 40 yX10_buyTrack]
def wsL_law0_r23 : List Cond := [Cond.instanceMethod yX10_buyTrack, Cond.selects RX10 yX10_buyTrack yX10_buyTrack, Cond.code yX10_buyTrack cX10_buyTrack 3 (some .int), Cond.methodLink RX10 220 yX7_maySellTrack, Cond.instanceMethod yX7_maySellTrack, Cond.selects RX7 yX7_maySellTrack yX7_maySellTrack, Cond.code yX7_maySellTrack cX7_maySellTrack 3 (some .boolean), Cond.fieldLink RX7 78 "RustRails$Companies" "coins" "[I", Cond.methodLink RX7 72 yX8_has, Cond.methodLink RX7 75 yX8_isOfBank, Cond.methodLink RX7 86 yX8_priceOf, Cond.instanceMethod yX8_priceOf, Cond.selects RX8 yX8_priceOf yX8_priceOf, Cond.code yX8_priceOf cX8_priceOf 2 (some .int), Cond.methodLink RX10 223 yX10_needAllowed, Cond.static yX10_needAllowed, Cond.code yX10_needAllowed cX10_needAllowed 1 none, Cond.methodLink RX10 227 yX3_remember, Cond.instanceMethod yX3_remember, Cond.selects RX3 yX3_remember yX3_remember, Cond.code yX3_remember cX3_remember 2 none, Cond.fieldLink RX3 30 "RustRails$History" "oldest" "I", Cond.methodLink RX3 22 yX3_stateAt, Cond.instanceMethod yX3_stateAt]
def wsL_law0_r24 : List Cond := [Cond.selects RX3 yX3_stateAt yX3_stateAt, Cond.code yX3_stateAt cX3_stateAt 3 (some (.object "RustRails$State")), Cond.static yX10_copyState, Cond.code yX10_copyState cX10_copyState 2 none, Cond.methodLink RX10 230 yX7_sellTrack, Cond.instanceMethod yX7_sellTrack, Cond.selects RX7 yX7_sellTrack yX7_sellTrack, Cond.code yX7_sellTrack cX7_sellTrack 3 none, Cond.fieldLink RX7 94 "RustRails$Tracks" "owner" "[I", Cond.methodLink RX7 90 yX0_transfer, Cond.instanceMethod yX0_transfer, Cond.selects RX0 yX0_transfer yX0_transfer, Cond.code yX0_transfer cX0_transfer 4 none, Cond.methodLink RL 142 yX11_buyTrack, Cond.instanceMethod yX11_buyTrack, Cond.selects RX11 yX11_buyTrack yX11_buyTrack, Cond.code yX11_buyTrack cX11_buyTrack 3 (some .int), Cond.methodLink RX11 189 yX11_canBuyTrack, Cond.static yX11_canBuyTrack, Cond.code yX11_canBuyTrack cX11_canBuyTrack 3 (some .boolean), Cond.methodLink RX11 192 yX11_note, Cond.instanceMethod yX11_note, Cond.selects RX11 yX11_note yX11_note, Cond.code yX11_note cX11_note 2 none]
def wsL_law0_r25 : List Cond := [Cond.methodLink RX11 195 yX11_buyTrackOn, Cond.static yX11_buyTrackOn, Cond.code yX11_buyTrackOn cX11_buyTrackOn 3 (some .int), Cond.methodLink RX11 102 yX11_toBank, Cond.static yX11_toBank, Cond.code yX11_toBank cX11_toBank 3 none, Cond.methodLink RL 143 yL_buyTrain, Cond.static yL_buyTrain, Cond.codeWith yL_buyTrain cL_buyTrain 5 (some .int) [(0, 10, 13, 28), (0, 10, 17, 13), (0, 10, 21, 15)], Cond.methodLink RL 43 yX10_buyTrain, Cond.instanceMethod yX10_buyTrain, Cond.selects RX10 yX10_buyTrain yX10_buyTrain, Cond.code yX10_buyTrain cX10_buyTrain 3 (some .int), Cond.methodLink RX10 233 yX7_maySellTrain, Cond.instanceMethod yX7_maySellTrain, Cond.selects RX7 yX7_maySellTrain yX7_maySellTrain, Cond.code yX7_maySellTrain cX7_maySellTrain 3 (some .boolean), Cond.fieldLink RX7 101 "RustRails$Companies" "trains" "[I", Cond.methodLink RX10 236 yX7_sellTrain, Cond.instanceMethod yX7_sellTrain, Cond.selects RX7 yX7_sellTrain yX7_sellTrain, Cond.code yX7_sellTrain cX7_sellTrain 4 (some .int), Cond.methodLink RX7 104 yX0_addTrain, Cond.instanceMethod yX0_addTrain]
def wsL_law0_r26 : List Cond := [Cond.selects RX0 yX0_addTrain yX0_addTrain, Cond.code yX0_addTrain cX0_addTrain 4 none, Cond.methodLink RX7 108 yX0_dropBelow, Cond.instanceMethod yX0_dropBelow, Cond.selects RX0 yX0_dropBelow yX0_dropBelow, Cond.code yX0_dropBelow cX0_dropBelow 6 (some .int), Cond.methodLink RL 145 yX11_buyTrain, Cond.instanceMethod yX11_buyTrain, Cond.selects RX11 yX11_buyTrain yX11_buyTrain, Cond.code yX11_buyTrain cX11_buyTrain 3 (some .int), Cond.methodLink RX11 198 yX11_canBuyTrain, Cond.static yX11_canBuyTrain, Cond.code yX11_canBuyTrain cX11_canBuyTrain 3 (some .boolean), Cond.methodLink RX11 201 yX11_buyTrainOn, Cond.static yX11_buyTrainOn, Cond.code yX11_buyTrainOn cX11_buyTrainOn 6 (some .int), Cond.methodLink RX11 123 yX11_rust, Cond.static yX11_rust, Cond.code yX11_rust cX11_rust 6 (some .int), Cond.methodLink RL 146 yL_setRent, Cond.static yL_setRent, Cond.codeWith yL_setRent cL_setRent 5 (some .int) [(0, 10, 13, 28), (0, 10, 17, 13)], Cond.methodLink RL 46 yX10_setRent, Cond.instanceMethod yX10_setRent]
def wsL_law0_r27 : List Cond := [Cond.selects RX10 yX10_setRent yX10_setRent, Cond.code yX10_setRent cX10_setRent 4 (some .int), Cond.methodLink RX10 239 yX0_changeRent, Cond.instanceMethod yX0_changeRent, Cond.selects RX0 yX0_changeRent yX0_changeRent, Cond.code yX0_changeRent cX0_changeRent 3 none, Cond.methodLink RL 148 yX11_setRent, Cond.instanceMethod yX11_setRent, Cond.selects RX11 yX11_setRent yX11_setRent, Cond.code yX11_setRent cX11_setRent 4 (some .int), Cond.constantLong RX11 204 (9), Cond.methodLink RL 149 yL_offer, Cond.static yL_offer, Cond.codeWith yL_offer cL_offer 7 (some .int) [(0, 14, 17, 28), (0, 14, 21, 13), (0, 14, 25, 15)], Cond.methodLink RL 49 yX10_offer, Cond.instanceMethod yX10_offer, Cond.selects RX10 yX10_offer yX10_offer, Cond.code yX10_offer cX10_offer 5 (some .int), Cond.methodLink RX10 242 yX10_needCity, Cond.instanceMethod yX10_needCity, Cond.selects RX10 yX10_needCity yX10_needCity, Cond.code yX10_needCity cX10_needCity 2 none, Cond.methodLink RX10 245 yX10_needDifferent, Cond.static yX10_needDifferent]
def wsL_law0_r28 : List Cond := [Cond.code yX10_needDifferent cX10_needDifferent 2 none, Cond.methodLink RX10 248 yX1_areFull, Cond.methodLink RX10 251 yX1_add, Cond.methodLink RL 152 yX11_offer, Cond.instanceMethod yX11_offer, Cond.selects RX11 yX11_offer yX11_offer, Cond.code yX11_offer cX11_offer 6 (some .int), Cond.constantLong RX11 206 (99), Cond.methodLink RX11 208 yX11_isCity, Cond.instanceMethod yX11_isCity, Cond.selects RX11 yX11_isCity yX11_isCity, Cond.code yX11_isCity cX11_isCity 2 (some .boolean), Cond.methodLink RL 153 yL_take, Cond.static yL_take, Cond.codeWith yL_take cL_take 5 (some .int) [(0, 10, 13, 28), (0, 10, 17, 15)], Cond.methodLink RL 53 yX10_take, Cond.instanceMethod yX10_take, Cond.selects RX10 yX10_take yX10_take, Cond.code yX10_take cX10_take 3 (some .int), Cond.methodLink RX10 254 yX1_isFree, Cond.instanceMethod yX1_isFree, Cond.selects RX1 yX1_isFree yX1_isFree, Cond.code yX1_isFree cX1_isFree 2 (some .boolean), Cond.methodLink RX1 34 yX1_holderOf]
def wsL_law0_r29 : List Cond := [Cond.instanceMethod yX1_holderOf, Cond.selects RX1 yX1_holderOf yX1_holderOf, Cond.code yX1_holderOf cX1_holderOf 2 (some .int), Cond.methodLink RX1 38 yX1_has, Cond.methodLink RX10 257 yX1_give, Cond.instanceMethod yX1_give, Cond.selects RX1 yX1_give yX1_give, Cond.code yX1_give cX1_give 3 none, Cond.methodLink RL 155 yX11_take, Cond.instanceMethod yX11_take, Cond.selects RX11 yX11_take yX11_take, Cond.code yX11_take cX11_take 3 (some .int), Cond.methodLink RX11 211 yX11_canTake, Cond.static yX11_canTake, Cond.code yX11_canTake cX11_canTake 2 (some .boolean), Cond.methodLink RX11 214 yX11_takeOn, Cond.static yX11_takeOn, Cond.code yX11_takeOn cX11_takeOn 3 (some .int), Cond.methodLink RL 156 yL_run, Cond.static yL_run, Cond.codeWith yL_run cL_run 5 (some .int) [(0, 10, 13, 28), (0, 10, 17, 15)], Cond.methodLink RL 56 yX10_run, Cond.instanceMethod yX10_run, Cond.selects RX10 yX10_run yX10_run]
def wsL_law0_r30 : List Cond := [Cond.code yX10_run cX10_run 3 (some .int), Cond.methodLink RX10 260 yX10_needTrainOfHolder, Cond.instanceMethod yX10_needTrainOfHolder, Cond.selects RX10 yX10_needTrainOfHolder yX10_needTrainOfHolder, Cond.code yX10_needTrainOfHolder cX10_needTrainOfHolder 3 none, Cond.methodLink RX10 356 yX1_holderOf, Cond.methodLink RX10 263 yX4_reasonAgainst, Cond.instanceMethod yX4_reasonAgainst, Cond.selects RX4 yX4_reasonAgainst yX4_reasonAgainst, Cond.code yX4_reasonAgainst cX4_reasonAgainst 7 (some .int), Cond.fieldLink RX4 18 "RustRails$State" "contracts" "LRustRails$Contracts;", Cond.fieldLink RX4 30 "RustRails$Contracts" "ran" "[I", Cond.fieldLink RX4 38 "RustRails$State" "companies" "LRustRails$Companies;", Cond.fieldLink RX4 52 "RustRails$Contracts" "from" "[I", Cond.fieldLink RX4 55 "RustRails$Contracts" "to" "[I", Cond.methodLink RX4 24 yX1_holderOf, Cond.methodLink RX4 42 yX0_hasRun, Cond.methodLink RX4 48 yX0_levelOf, Cond.methodLink RX4 58 yX9_find, Cond.instanceMethod yX9_find, Cond.selects RX9 yX9_find yX9_find, Cond.code yX9_find cX9_find 6 (some .boolean), Cond.fieldLink RX9 28 "RustRails$State" "tracks" "LRustRails$Tracks;", Cond.fieldLink RX9 46 "RustRails$Ways" "cost" "I"]
def wsL_law0_r31 : List Cond := [Cond.constant RX9 50 (1000000), Cond.methodLink RX9 24 yX9_setPrices, Cond.instanceMethod yX9_setPrices, Cond.selects RX9 yX9_setPrices yX9_setPrices, Cond.code yX9_setPrices cX9_setPrices 5 none, Cond.fieldLink RX9 51 "RustRails$Tracks" "count" "I", Cond.fieldLink RX9 56 "RustRails$Tracks" "length" "[I", Cond.fieldLink RX9 63 "RustRails$State" "companies" "LRustRails$Companies;", Cond.fieldLink RX9 67 "RustRails$Tracks" "owner" "[I", Cond.methodLink RX9 70 yX0_rentFor, Cond.instanceMethod yX0_rentFor, Cond.selects RX0 yX0_rentFor yX0_rentFor, Cond.code yX0_rentFor cX0_rentFor 3 (some .int), Cond.methodLink RX9 34 yX9_measure, Cond.instanceMethod yX9_measure, Cond.selects RX9 yX9_measure yX9_measure, Cond.code yX9_measure cX9_measure 7 none, Cond.fieldLink RX9 87 "RustRails$Tracks" "first" "[I", Cond.fieldLink RX9 90 "RustRails$Tracks" "second" "[I", Cond.methodLink RX9 84 yX9_place, Cond.static yX9_place, Cond.code yX9_place cX9_place 2 (some .int), Cond.methodLink RX9 93 yX9_beginWith, Cond.instanceMethod yX9_beginWith]
def wsL_law0_r32 : List Cond := [Cond.selects RX9 yX9_beginWith yX9_beginWith, Cond.code yX9_beginWith cX9_beginWith 5 none, Cond.methodLink RX9 97 yX9_leastAt, Cond.instanceMethod yX9_leastAt, Cond.selects RX9 yX9_leastAt yX9_leastAt, Cond.code yX9_leastAt cX9_leastAt 2 (some .int), Cond.methodLink RX9 38 yX9_chooseLength, Cond.instanceMethod yX9_chooseLength, Cond.selects RX9 yX9_chooseLength yX9_chooseLength, Cond.code yX9_chooseLength cX9_chooseLength 4 none, Cond.fieldLink RX9 101 "RustRails$Ways" "length" "I", Cond.methodLink RX9 42 yX9_follow, Cond.instanceMethod yX9_follow, Cond.selects RX9 yX9_follow yX9_follow, Cond.code yX9_follow cX9_follow 6 none, Cond.fieldLink RX9 103 "RustRails$Ways" "count" "I", Cond.methodLink RX9 104 yX8_farEnd, Cond.instanceMethod yX8_farEnd, Cond.selects RX8 yX8_farEnd yX8_farEnd, Cond.code yX8_farEnd cX8_farEnd 3 (some .int), Cond.methodLink RX10 267 yX4_carry, Cond.instanceMethod yX4_carry, Cond.selects RX4 yX4_carry yX4_carry, Cond.code yX4_carry cX4_carry 9 (some .int)]
def wsL_law0_r33 : List Cond := [Cond.fieldLink RX4 69 "RustRails$State" "tracks" "LRustRails$Tracks;", Cond.fieldLink RX4 73 "RustRails$Tracks" "owner" "[I", Cond.fieldLink RX4 85 "RustRails$Contracts" "pay" "[I", Cond.methodLink RX4 81 yX0_payRent, Cond.instanceMethod yX0_payRent, Cond.selects RX0 yX0_payRent yX0_payRent, Cond.code yX0_payRent cX0_payRent 4 none, Cond.methodLink RX0 45 yX0_transfer, Cond.methodLink RX4 88 yX7_payMail, Cond.instanceMethod yX7_payMail, Cond.selects RX7 yX7_payMail yX7_payMail, Cond.code yX7_payMail cX7_payMail 3 none, Cond.methodLink RX4 96 yX0_markRun, Cond.instanceMethod yX0_markRun, Cond.selects RX0 yX0_markRun yX0_markRun, Cond.code yX0_markRun cX0_markRun 3 none, Cond.methodLink RL 158 yX11_run, Cond.instanceMethod yX11_run, Cond.selects RX11 yX11_run yX11_run, Cond.code yX11_run cX11_run 3 (some .int), Cond.methodLink RX11 217 yX11_isRun, Cond.static yX11_isRun, Cond.code yX11_isRun cX11_isRun 3 (some .boolean), Cond.methodLink RX11 220 yX11_why]
def wsL_law0_r34 : List Cond := [Cond.instanceMethod yX11_why, Cond.selects RX11 yX11_why yX11_why, Cond.code yX11_why cX11_why 6 (some .int), Cond.methodLink RX11 98 yX11_findWay, Cond.instanceMethod yX11_findWay, Cond.selects RX11 yX11_findWay yX11_findWay, Cond.code yX11_findWay cX11_findWay 9 (some .boolean), Cond.constant RX11 74 (1000000), Cond.fieldLink RX11 85 "RustRailsModel" "wayCost" "I", Cond.fieldLink RX11 88 "RustRailsModel" "wayLength" "I", Cond.fieldLink RX11 91 "RustRailsModel" "wayTracks" "I", Cond.methodLink RX11 82 yX11_layLeast, Cond.instanceMethod yX11_layLeast, Cond.selects RX11 yX11_layLeast yX11_layLeast, Cond.code yX11_layLeast cX11_layLeast 10 none, Cond.methodLink RX11 78 yX11_goneBy, Cond.instanceMethod yX11_goneBy, Cond.selects RX11 yX11_goneBy yX11_goneBy, Cond.code yX11_goneBy cX11_goneBy 8 (some .int), Cond.methodLink RX11 70 yX11_across, Cond.static yX11_across, Cond.code yX11_across cX11_across 4 (some .int), Cond.methodLink RX11 75 yX11_costOf, Cond.static yX11_costOf]
def wsL_law0_r35 : List Cond := [Cond.code yX11_costOf cX11_costOf 5 (some .int), Cond.methodLink RX11 223 yX11_runOn, Cond.instanceMethod yX11_runOn, Cond.selects RX11 yX11_runOn yX11_runOn, Cond.code yX11_runOn cX11_runOn 9 (some .int), Cond.methodLink RL 159 yX10_endRound, Cond.instanceMethod yX10_endRound, Cond.selects RX10 yX10_endRound yX10_endRound, Cond.code yX10_endRound cX10_endRound 1 (some .int), Cond.methodLink RX10 270 yX7_closeRound, Cond.instanceMethod yX7_closeRound, Cond.selects RX7 yX7_closeRound yX7_closeRound, Cond.code yX7_closeRound cX7_closeRound 2 (some .int), Cond.fieldLink RX7 125 "RustRails$Contracts" "ran" "[I", Cond.fieldLink RX7 132 "RustRails$Companies" "ran" "[I", Cond.methodLink RX7 115 yX7_serveContracts, Cond.instanceMethod yX7_serveContracts, Cond.selects RX7 yX7_serveContracts yX7_serveContracts, Cond.code yX7_serveContracts cX7_serveContracts 2 none, Cond.fieldLink RX7 136 "RustRails$Contracts" "rounds" "[I", Cond.methodLink RX7 112 yX1_isFree, Cond.methodLink RX7 133 yX1_holderOf, Cond.methodLink RX7 139 yX1_dropEnded, Cond.instanceMethod yX1_dropEnded]
def wsL_law0_r36 : List Cond := [Cond.selects RX1 yX1_dropEnded yX1_dropEnded, Cond.code yX1_dropEnded cX1_dropEnded 3 none, Cond.methodLink RX1 54 yX1_move, Cond.instanceMethod yX1_move, Cond.selects RX1 yX1_move yX1_move, Cond.code yX1_move cX1_move 3 none, Cond.methodLink RX7 118 yX7_payUpkeep, Cond.instanceMethod yX7_payUpkeep, Cond.selects RX7 yX7_payUpkeep yX7_payUpkeep, Cond.code yX7_payUpkeep cX7_payUpkeep 2 none, Cond.methodLink RX7 142 yX8_countOf, Cond.methodLink RX7 145 yX0_levelsOf, Cond.instanceMethod yX0_levelsOf, Cond.selects RX0 yX0_levelsOf yX0_levelsOf, Cond.code yX0_levelsOf cX0_levelsOf 4 (some .int), Cond.methodLink RX7 121 yX7_settle, Cond.instanceMethod yX7_settle, Cond.selects RX7 yX7_settle yX7_settle, Cond.code yX7_settle cX7_settle 3 (some .int), Cond.methodLink RX7 148 yX0_goBankrupt, Cond.instanceMethod yX0_goBankrupt, Cond.selects RX0 yX0_goBankrupt yX0_goBankrupt, Cond.code yX0_goBankrupt cX0_goBankrupt 2 none, Cond.methodLink RX7 152 yX8_returnToBank]
def wsL_law0_r37 : List Cond := [Cond.instanceMethod yX8_returnToBank, Cond.selects RX8 yX8_returnToBank yX8_returnToBank, Cond.code yX8_returnToBank cX8_returnToBank 3 none, Cond.methodLink RX7 155 yX1_leaveHolder, Cond.instanceMethod yX1_leaveHolder, Cond.selects RX1 yX1_leaveHolder yX1_leaveHolder, Cond.code yX1_leaveHolder cX1_leaveHolder 3 none, Cond.methodLink RL 162 yX11_endRound, Cond.instanceMethod yX11_endRound, Cond.selects RX11 yX11_endRound yX11_endRound, Cond.code yX11_endRound cX11_endRound 2 (some .int), Cond.methodLink RX11 226 yX11_endOn, Cond.static yX11_endOn, Cond.code yX11_endOn cX11_endOn 4 (some .int), Cond.methodLink RX11 110 yX11_endContracts, Cond.static yX11_endContracts, Cond.code yX11_endContracts cX11_endContracts 4 none, Cond.methodLink RX11 106 yX11_dropContract, Cond.static yX11_dropContract, Cond.code yX11_dropContract cX11_dropContract 3 none, Cond.methodLink RX11 117 yX11_levelsOf, Cond.static yX11_levelsOf, Cond.code yX11_levelsOf cX11_levelsOf 4 (some .int), Cond.methodLink RX11 120 yX11_goBroke]
def wsL_law0_r38 : List Cond := [Cond.static yX11_goBroke, Cond.code yX11_goBroke cX11_goBroke 3 none, Cond.methodLink RL 163 yL_undo, Cond.static yL_undo, Cond.codeWith yL_undo cL_undo 3 (some .int) [(0, 8, 11, 15)], Cond.methodLink RL 59 yX10_undo, Cond.instanceMethod yX10_undo, Cond.selects RX10 yX10_undo yX10_undo, Cond.code yX10_undo cX10_undo 1 (some .int), Cond.methodLink RX10 274 yX3_takeBackInto, Cond.instanceMethod yX3_takeBackInto, Cond.selects RX3 yX3_takeBackInto yX3_takeBackInto, Cond.code yX3_takeBackInto cX3_takeBackInto 2 none, Cond.methodLink RL 165 yX11_undo, Cond.instanceMethod yX11_undo, Cond.selects RX11 yX11_undo yX11_undo, Cond.code yX11_undo cX11_undo 1 (some .int), Cond.methodLink RL 166 yL_way, Cond.static yL_way, Cond.codeWith yL_way cL_way 8 (some .int) [(0, 16, 19, 28), (0, 16, 23, 13)], Cond.methodLink RL 62 yX10_way, Cond.instanceMethod yX10_way, Cond.selects RX10 yX10_way yX10_way, Cond.code yX10_way cX10_way 7 (some .int)]
def wsL_law0_r39 : List Cond := [Cond.methodLink RX10 281 yX9_find, Cond.methodLink RL 169 yX11_way, Cond.instanceMethod yX11_way, Cond.selects RX11 yX11_way yX11_way, Cond.code yX11_way cX11_way 7 (some .int), Cond.constantLong RX11 230 (24), Cond.methodLink RL 170 yL_whyNot, Cond.static yL_whyNot, Cond.codeWith yL_whyNot cL_whyNot 5 (some .int) [(0, 10, 13, 28)], Cond.methodLink RL 66 yX10_whyNot, Cond.instanceMethod yX10_whyNot, Cond.selects RX10 yX10_whyNot yX10_whyNot, Cond.code yX10_whyNot cX10_whyNot 3 (some .int), Cond.methodLink RL 172 yX11_whyNot, Cond.instanceMethod yX11_whyNot, Cond.selects RX11 yX11_whyNot yX11_whyNot, Cond.code yX11_whyNot cX11_whyNot 3 (some .int), Cond.methodLink RL 173 yL_levelFor, Cond.static yL_levelFor, Cond.codeWith yL_levelFor cL_levelFor 5 (some .int) [(0, 10, 13, 28)], Cond.methodLink RL 69 yX10_levelFor, Cond.instanceMethod yX10_levelFor, Cond.selects RX10 yX10_levelFor yX10_levelFor, Cond.code yX10_levelFor cX10_levelFor 3 (some .int)]
def wsL_law0_r40 : List Cond := [Cond.methodLink RX10 296 yX4_smallestLevel, Cond.instanceMethod yX4_smallestLevel, Cond.selects RX4 yX4_smallestLevel yX4_smallestLevel, Cond.code yX4_smallestLevel cX4_smallestLevel 6 (some .int), Cond.methodLink RL 175 yX11_levelFor, Cond.instanceMethod yX11_levelFor, Cond.selects RX11 yX11_levelFor yX11_levelFor, Cond.code yX11_levelFor cX11_levelFor 4 (some .int), Cond.methodLink RL 176 yL_bestContract, Cond.static yL_bestContract, Cond.codeWith yL_bestContract cL_bestContract 4 (some .int) [(0, 9, 12, 28)], Cond.methodLink RL 72 yX10_bestContract, Cond.instanceMethod yX10_bestContract, Cond.selects RX10 yX10_bestContract yX10_bestContract, Cond.code yX10_bestContract cX10_bestContract 2 (some .int), Cond.methodLink RX10 299 yX4_bestFree, Cond.instanceMethod yX4_bestFree, Cond.selects RX4 yX4_bestFree yX4_bestFree, Cond.code yX4_bestFree cX4_bestFree 9 (some .int), Cond.fieldLink RX4 112 "RustRails$Contracts" "count" "I", Cond.methodLink RX4 117 yX0_greatestLevel, Cond.instanceMethod yX0_greatestLevel, Cond.selects RX0 yX0_greatestLevel yX0_greatestLevel, Cond.code yX0_greatestLevel cX0_greatestLevel 4 (some .int)]
def wsL_law0_r41 : List Cond := [Cond.methodLink RX0 57 Lib.Math.max.name, Cond.static Lib.Math.max.name, Cond.code Lib.Math.max.name Lib.Math.max.code 2 (some .int), Cond.methodLink RX4 120 yX1_isFree, Cond.methodLink RL 178 yX11_bestContract, Cond.instanceMethod yX11_bestContract, Cond.selects RX11 yX11_bestContract yX11_bestContract, Cond.code yX11_bestContract cX11_bestContract 9 (some .int), Cond.methodLink RL 179 yL_coinsAfter, Cond.static yL_coinsAfter, Cond.codeWith yL_coinsAfter cL_coinsAfter 5 (some .int) [(0, 10, 13, 28), (0, 10, 17, 13)], Cond.methodLink RL 75 yX10_coinsAfter, Cond.instanceMethod yX10_coinsAfter, Cond.selects RX10 yX10_coinsAfter yX10_coinsAfter, Cond.code yX10_coinsAfter cX10_coinsAfter 4 (some .int), Cond.methodLink RL 181 yX11_coinsAfter, Cond.instanceMethod yX11_coinsAfter, Cond.selects RX11 yX11_coinsAfter yX11_coinsAfter, Cond.code yX11_coinsAfter cX11_coinsAfter 4 (some .int), Cond.constantLong RX11 232 (50), Cond.methodLink RL 182 yL_bankruptAfter, Cond.static yL_bankruptAfter, Cond.codeWith yL_bankruptAfter cL_bankruptAfter 4 (some .int) [(0, 9, 12, 28)], Cond.methodLink RL 78 yX10_bankruptAfter]
def wsL_law0_r42 : List Cond := [Cond.instanceMethod yX10_bankruptAfter, Cond.selects RX10 yX10_bankruptAfter yX10_bankruptAfter, Cond.code yX10_bankruptAfter cX10_bankruptAfter 4 (some .int), Cond.methodLink RL 184 yX11_bankruptAfter, Cond.instanceMethod yX11_bankruptAfter, Cond.selects RX11 yX11_bankruptAfter yX11_bankruptAfter, Cond.code yX11_bankruptAfter cX11_bankruptAfter 3 (some .int), Cond.methodLink RL 185 yL_worth, Cond.static yL_worth, Cond.codeWith yL_worth cL_worth 4 (some .int) [(0, 9, 12, 28)], Cond.methodLink RL 81 yX10_worth, Cond.instanceMethod yX10_worth, Cond.selects RX10 yX10_worth yX10_worth, Cond.code yX10_worth cX10_worth 2 (some .int), Cond.methodLink RX10 303 yX7_worthOf, Cond.instanceMethod yX7_worthOf, Cond.selects RX7 yX7_worthOf yX7_worthOf, Cond.code yX7_worthOf cX7_worthOf 2 (some .int), Cond.methodLink RX7 158 yX8_lengthsOf, Cond.instanceMethod yX8_lengthsOf, Cond.selects RX8 yX8_lengthsOf yX8_lengthsOf, Cond.code yX8_lengthsOf cX8_lengthsOf 4 (some .int), Cond.methodLink RL 187 yX11_worth, Cond.instanceMethod yX11_worth]
def wsL_law0_r43 : List Cond := [Cond.selects RX11 yX11_worth yX11_worth, Cond.code yX11_worth cX11_worth 2 (some .int), Cond.methodLink RX11 234 yX11_worthOf, Cond.static yX11_worthOf, Cond.code yX11_worthOf cX11_worthOf 2 (some .int), Cond.methodLink RL 190 yL_runScript, Cond.static yL_runScript, Cond.codeWith yL_runScript cL_runScript 6 (some .int) [(0, 11, 14, 13)], Cond.methodLink RL 84 yX10_runScript, Cond.instanceMethod yX10_runScript, Cond.selects RX10 yX10_runScript yX10_runScript, Cond.code yX10_runScript cX10_runScript 6 (some .int), Cond.constantLong RX10 314 (100000), Cond.methodLink RX10 306 yX5_withoutLowest, Cond.static yX5_withoutLowest, Cond.initialized RX5, Cond.code yX5_withoutLowest cX5_withoutLowest 6 (some .long), Cond.constantLong RX5 9 (100000), Cond.methodLink RX10 316 yX5_obey, Cond.static yX5_obey, Cond.code yX5_obey cX5_obey 6 (some .boolean), Cond.fieldLink RX5 42 "RustRails$State" "companies" "LRustRails$Companies;", Cond.fieldLink RX5 46 "RustRails$Companies" "coins" "[I", Cond.fieldLink RX5 56 "RustRails$State" "phase" "I"]
def wsL_law0_r44 : List Cond := [Cond.fieldLink RX5 60 "RustRails$Companies" "trains" "[I", Cond.methodLink RX5 11 yX7_tryTrack, Cond.instanceMethod yX7_tryTrack, Cond.selects RX7 yX7_tryTrack yX7_tryTrack, Cond.code yX7_tryTrack cX7_tryTrack 4 (some .boolean), Cond.methodLink RX7 180 yX7_maySellTrack, Cond.methodLink RX7 183 yX7_sellTrack, Cond.methodLink RX5 17 yX7_tryTrain, Cond.instanceMethod yX7_tryTrain, Cond.selects RX7 yX7_tryTrain yX7_tryTrain, Cond.code yX7_tryTrain cX7_tryTrain 4 (some .boolean), Cond.methodLink RX7 186 yX7_maySellTrain, Cond.methodLink RX7 189 yX7_sellTrain, Cond.methodLink RX5 20 yX5_changeRent, Cond.static yX5_changeRent, Cond.code yX5_changeRent cX5_changeRent 4 (some .boolean), Cond.methodLink RX5 67 yX0_changeRent, Cond.methodLink RX5 24 yX7_tryContract, Cond.instanceMethod yX7_tryContract, Cond.selects RX7 yX7_tryContract yX7_tryContract, Cond.code yX7_tryContract cX7_tryContract 4 (some .boolean), Cond.methodLink RX7 192 yX7_mayGive, Cond.instanceMethod yX7_mayGive, Cond.selects RX7 yX7_mayGive yX7_mayGive]
def wsL_law0_r45 : List Cond := [Cond.code yX7_mayGive cX7_mayGive 3 (some .boolean), Cond.methodLink RX7 111 yX1_has, Cond.methodLink RX7 195 yX1_give, Cond.methodLink RX5 27 yX4_tryCarry, Cond.instanceMethod yX4_tryCarry, Cond.selects RX4 yX4_tryCarry yX4_tryCarry, Cond.code yX4_tryCarry cX4_tryCarry 5 (some .boolean), Cond.methodLink RX4 102 yX0_hasTrain, Cond.methodLink RX4 105 yX4_reasonAgainst, Cond.methodLink RX4 109 yX4_carry, Cond.methodLink RX5 32 yX5_endOfRound, Cond.static yX5_endOfRound, Cond.code yX5_endOfRound cX5_endOfRound 1 (some .boolean), Cond.methodLink RX5 63 yX7_closeRound, Cond.methodLink RL 193 yX11_runScript, Cond.instanceMethod yX11_runScript, Cond.selects RX11 yX11_runScript yX11_runScript, Cond.code yX11_runScript cX11_runScript 10 (some .int), Cond.constantLong RX11 237 (100000), Cond.constantLong RX11 239 (10000000000), Cond.constantLong RX11 241 (1000000000000000), Cond.methodLink RX11 243 yX11_does, Cond.instanceMethod yX11_does, Cond.selects RX11 yX11_does yX11_does]
def wsL_law0_r46 : List Cond := [Cond.code yX11_does cX11_does 6 (some .boolean), Cond.methodLink RL 194 yL_simulate, Cond.static yL_simulate, Cond.codeWith yL_simulate cL_simulate 6 (some .int) [(0, 11, 14, 13)], Cond.methodLink RL 88 yX10_simulate, Cond.instanceMethod yX10_simulate, Cond.selects RX10 yX10_simulate yX10_simulate, Cond.code yX10_simulate cX10_simulate 7 (some .int), Cond.constantLong RX10 320 (6364136223846793005), Cond.constantLong RX10 322 (1442695040888963407), Cond.methodLink RX10 324 yX7_dealByChance, Cond.instanceMethod yX7_dealByChance, Cond.selects RX7 yX7_dealByChance yX7_dealByChance, Cond.code yX7_dealByChance cX7_dealByChance 4 none, Cond.methodLink RX7 170 yX7_tryTrain, Cond.methodLink RX7 174 yX7_tryTrack, Cond.methodLink RX7 177 yX7_tryContract, Cond.methodLink RX10 327 yX4_carryAll, Cond.instanceMethod yX4_carryAll, Cond.selects RX4 yX4_carryAll yX4_carryAll, Cond.code yX4_carryAll cX4_carryAll 4 none, Cond.methodLink RX4 113 yX4_tryCarry, Cond.methodLink RX10 330 yX7_greatestWorth, Cond.instanceMethod yX7_greatestWorth]
def wsL_law0_r47 : List Cond := [Cond.selects RX7 yX7_greatestWorth yX7_greatestWorth, Cond.code yX7_greatestWorth cX7_greatestWorth 3 (some .int), Cond.methodLink RX7 164 Lib.Math.max.name, Cond.methodLink RX7 161 yX7_worthOf, Cond.methodLink RL 197 yX11_simulate, Cond.instanceMethod yX11_simulate, Cond.selects RX11 yX11_simulate yX11_simulate, Cond.code yX11_simulate cX11_simulate 10 (some .int), Cond.constantLong RX11 247 (6364136223846793005), Cond.constantLong RX11 249 (1442695040888963407), Cond.methodLink RX11 251 yX11_runAll, Cond.instanceMethod yX11_runAll, Cond.selects RX11 yX11_runAll yX11_runAll, Cond.code yX11_runAll cX11_runAll 7 none, Cond.methodLink RL 198 yL_save, Cond.static yL_save, Cond.codeWith yL_save cL_save 4 (some .int) [(0, 9, 12, 28)], Cond.methodLink RL 92 yX10_save, Cond.instanceMethod yX10_save, Cond.selects RX10 yX10_save yX10_save, Cond.code yX10_save cX10_save 2 (some .int), Cond.methodLink RX10 333 yX10_needSlot, Cond.static yX10_needSlot, Cond.code yX10_needSlot cX10_needSlot 1 none]
def wsL_law0_r48 : List Cond := [Cond.methodLink RX10 336 yX6_keep, Cond.instanceMethod yX6_keep, Cond.selects RX6 yX6_keep yX6_keep, Cond.code yX6_keep cX6_keep 3 none, Cond.methodLink RX6 26 yX6_stateAt, Cond.instanceMethod yX6_stateAt, Cond.selects RX6 yX6_stateAt yX6_stateAt, Cond.code yX6_stateAt cX6_stateAt 2 (some (.object "RustRails$State")), Cond.methodLink RL 200 yX11_save, Cond.instanceMethod yX11_save, Cond.selects RX11 yX11_save yX11_save, Cond.code yX11_save cX11_save 2 (some .int), Cond.methodLink RL 201 yL_restore, Cond.static yL_restore, Cond.codeWith yL_restore cL_restore 4 (some .int) [(0, 9, 12, 28), (0, 9, 15, 15)], Cond.methodLink RL 95 yX10_restore, Cond.instanceMethod yX10_restore, Cond.selects RX10 yX10_restore yX10_restore, Cond.code yX10_restore cX10_restore 2 (some .int), Cond.methodLink RX10 340 yX6_isFilled, Cond.instanceMethod yX6_isFilled, Cond.selects RX6 yX6_isFilled yX6_isFilled, Cond.code yX6_isFilled cX6_isFilled 2 (some .boolean), Cond.methodLink RX10 343 yX6_fetchInto]
def wsL_law0_r49 : List Cond := [Cond.instanceMethod yX6_fetchInto, Cond.selects RX6 yX6_fetchInto yX6_fetchInto, Cond.code yX6_fetchInto cX6_fetchInto 3 none, Cond.methodLink RL 203 yX11_restore, Cond.instanceMethod yX11_restore, Cond.selects RX11 yX11_restore yX11_restore, Cond.code yX11_restore cX11_restore 2 (some .int)]
def wsL_law0 : List Cond := (wsL_law0_r1 ++ (wsL_law0_r2 ++ (wsL_law0_r3 ++ (wsL_law0_r4 ++ (wsL_law0_r5 ++ (wsL_law0_r6 ++ (wsL_law0_r7 ++ (wsL_law0_r8 ++ (wsL_law0_r9 ++ (wsL_law0_r10 ++ (wsL_law0_r11 ++ (wsL_law0_r12 ++ (wsL_law0_r13 ++ (wsL_law0_r14 ++ (wsL_law0_r15 ++ (wsL_law0_r16 ++ (wsL_law0_r17 ++ (wsL_law0_r18 ++ (wsL_law0_r19 ++ (wsL_law0_r20 ++ (wsL_law0_r21 ++ (wsL_law0_r22 ++ (wsL_law0_r23 ++ (wsL_law0_r24 ++ (wsL_law0_r25 ++ (wsL_law0_r26 ++ (wsL_law0_r27 ++ (wsL_law0_r28 ++ (wsL_law0_r29 ++ (wsL_law0_r30 ++ (wsL_law0_r31 ++ (wsL_law0_r32 ++ (wsL_law0_r33 ++ (wsL_law0_r34 ++ (wsL_law0_r35 ++ (wsL_law0_r36 ++ (wsL_law0_r37 ++ (wsL_law0_r38 ++ (wsL_law0_r39 ++ (wsL_law0_r40 ++ (wsL_law0_r41 ++ (wsL_law0_r42 ++ (wsL_law0_r43 ++ (wsL_law0_r44 ++ (wsL_law0_r45 ++ (wsL_law0_r46 ++ (wsL_law0_r47 ++ (wsL_law0_r48 ++ wsL_law0_r49)))))))))))))))))))))))))))))))))))))))))))))))) ++ wsX100 ++ wsX110 ++ wsX20 ++ wsX70 ++ wsX30 ++ wsX60 ++ wsX40 ++ wsX80 ++ wsX10 ++ wsX00 ++ wsX90 ++ ([] : List Cond)
def wsL_law : List Cond := wsL_law0 ++ (vx_atS RX10 72 "java/lang/IllegalStateException" ["java/lang/RuntimeException", "java/lang/Exception"]).filter goodWord ++ (vx_atS RX10 154 "java/lang/IllegalArgumentException" ["java/lang/RuntimeException", "java/lang/Exception"]).filter goodWord ++ (vx_atS RX10 366 "java/lang/IndexOutOfBoundsException" ["java/lang/RuntimeException", "java/lang/Exception"]).filter goodWord
set_option maxRecDepth 20000 in
theorem wsL_law_in0 : ∀ w ∈ wsL_law0, w ∈ lw_tbl := fun w h => (goodIn_p wsL_law0 [64, 67, 72, 86, 92, 127, 170, 255, 275, 290, 296, 336, 340, 343, 346, 350, 354, 1148, 1152, 1155, 1158, 1161, 552, 555, 627, 647, 1219, 1223, 1227, 1215, 378, 382, 1231, 386, 390, 394, 397, 401, 406, 411, 415, 420, 424, 428, 1235, 1239, 1243, 1247, 1251, 1255, 1258, 1261, 656, 449, 453, 456, 459, 466, 471, 661, 665, 1265, 1268, 673, 677, 1272, 686, 690, 694, 697, 717, 1277, 1280, 724, 727, 730, 517, 735, 1285, 1288, 1292, 1295, 742, 746, 750, 754, 525, 759, 1299, 1302, 1305, 1308, 766, 770, 492, 1312, 1315, 778, 782, 789, 792, 438, 442, 445, 797, 499, 1320, 1323, 1327, 1330, 1333, 804, 808, 812, 816, 820, 1337, 1340, 1343, 1346, 827, 831, 1350, 838, 842, 845, 1355, 1360, 855, 484, 488, 860, 1364, 1367, 1370, 867, 871, 876, 884, 888, 893, 898, 903, 907, 911, 915, 919, 923, 927, 931, 935, 940, 1374, 1377, 1381, 1385, 1389, 1394, 1397, 1400, 1404, 434, 476, 480, 505, 509, 513, 522, 529, 533, 538, 542, 1408, 1411, 1414, 1417, 1420, 1423, 947, 951, 1427, 958, 1431, 966, 1436, 973, 977, 1440, 984, 988, 992, 995, 1444, 1003, 1448, 1010, 1453, 1017, 1021, 1025, 1457, 1460, 1032, 1035, 1041, 1045, 1051, 1056, 1062, 1066, 1072, 1078, 1464, 1471, 1087, 1093, 1100, 1105, 1475, 1481, 1114, 1117, 1121, 1125, 1485, 1134, 1138, 1143, 1489] (by decide +kernel) (by decide +kernel) w h).1
theorem wsL_law_x0 : ∀ w ∈ (vx_atS RX10 72 "java/lang/IllegalStateException" ["java/lang/RuntimeException", "java/lang/Exception"]).filter goodWord, w ∈ lw_tbl := by decide +kernel
theorem wsL_law_x1 : ∀ w ∈ (vx_atS RX10 154 "java/lang/IllegalArgumentException" ["java/lang/RuntimeException", "java/lang/Exception"]).filter goodWord, w ∈ lw_tbl := by decide +kernel
theorem wsL_law_x2 : ∀ w ∈ (vx_atS RX10 366 "java/lang/IndexOutOfBoundsException" ["java/lang/RuntimeException", "java/lang/Exception"]).filter goodWord, w ∈ lw_tbl := by decide +kernel
theorem wsL_law_in : ∀ w ∈ wsL_law, w ∈ lw_tbl := fun w h => (List.mem_append.mp h).elim (fun h => (List.mem_append.mp h).elim (fun h => (List.mem_append.mp h).elim (fun h => wsL_law_in0 w h) (fun h => wsL_law_x0 w h)) (fun h => wsL_law_x1 w h)) (fun h => wsL_law_x2 w h)
theorem inlX0 : ∀ w ∈ wsX00, w ∈ wsL_law := fun _ h => List.mem_append_left _ (List.mem_append_left _ (List.mem_append_left _ (List.mem_append_left _ (List.mem_append_left _ (List.mem_append_right _ h)))))
theorem inX0 : ∀ w ∈ wsX00, w ∈ lw_tbl := fun w h => wsL_law_in w (inlX0 w h)
theorem inlX1 : ∀ w ∈ wsX10, w ∈ wsL_law := fun _ h => List.mem_append_left _ (List.mem_append_left _ (List.mem_append_left _ (List.mem_append_left _ (List.mem_append_left _ (List.mem_append_left _ (List.mem_append_right _ h))))))
theorem inX1 : ∀ w ∈ wsX10, w ∈ lw_tbl := fun w h => wsL_law_in w (inlX1 w h)
theorem inlX2 : ∀ w ∈ wsX20, w ∈ wsL_law := fun _ h => List.mem_append_left _ (List.mem_append_left _ (List.mem_append_left _ (List.mem_append_left _ (List.mem_append_left _ (List.mem_append_left _ (List.mem_append_left _ (List.mem_append_left _ (List.mem_append_left _ (List.mem_append_left _ (List.mem_append_left _ (List.mem_append_left _ (List.mem_append_right _ h))))))))))))
theorem inX2 : ∀ w ∈ wsX20, w ∈ lw_tbl := fun w h => wsL_law_in w (inlX2 w h)
theorem inlX3 : ∀ w ∈ wsX30, w ∈ wsL_law := fun _ h => List.mem_append_left _ (List.mem_append_left _ (List.mem_append_left _ (List.mem_append_left _ (List.mem_append_left _ (List.mem_append_left _ (List.mem_append_left _ (List.mem_append_left _ (List.mem_append_left _ (List.mem_append_left _ (List.mem_append_right _ h))))))))))
theorem inX3 : ∀ w ∈ wsX30, w ∈ lw_tbl := fun w h => wsL_law_in w (inlX3 w h)
theorem inlX4 : ∀ w ∈ wsX40, w ∈ wsL_law := fun _ h => List.mem_append_left _ (List.mem_append_left _ (List.mem_append_left _ (List.mem_append_left _ (List.mem_append_left _ (List.mem_append_left _ (List.mem_append_left _ (List.mem_append_left _ (List.mem_append_right _ h))))))))
theorem inX4 : ∀ w ∈ wsX40, w ∈ lw_tbl := fun w h => wsL_law_in w (inlX4 w h)
theorem inX5 : ∀ w ∈ wsX50, w ∈ lw_tbl := by decide +kernel
theorem inlX6 : ∀ w ∈ wsX60, w ∈ wsL_law := fun _ h => List.mem_append_left _ (List.mem_append_left _ (List.mem_append_left _ (List.mem_append_left _ (List.mem_append_left _ (List.mem_append_left _ (List.mem_append_left _ (List.mem_append_left _ (List.mem_append_left _ (List.mem_append_right _ h)))))))))
theorem inX6 : ∀ w ∈ wsX60, w ∈ lw_tbl := fun w h => wsL_law_in w (inlX6 w h)
theorem inlX7 : ∀ w ∈ wsX70, w ∈ wsL_law := fun _ h => List.mem_append_left _ (List.mem_append_left _ (List.mem_append_left _ (List.mem_append_left _ (List.mem_append_left _ (List.mem_append_left _ (List.mem_append_left _ (List.mem_append_left _ (List.mem_append_left _ (List.mem_append_left _ (List.mem_append_left _ (List.mem_append_right _ h)))))))))))
theorem inX7 : ∀ w ∈ wsX70, w ∈ lw_tbl := fun w h => wsL_law_in w (inlX7 w h)
theorem inlX8 : ∀ w ∈ wsX80, w ∈ wsL_law := fun _ h => List.mem_append_left _ (List.mem_append_left _ (List.mem_append_left _ (List.mem_append_left _ (List.mem_append_left _ (List.mem_append_left _ (List.mem_append_left _ (List.mem_append_right _ h)))))))
theorem inX8 : ∀ w ∈ wsX80, w ∈ lw_tbl := fun w h => wsL_law_in w (inlX8 w h)
theorem inlX9 : ∀ w ∈ wsX90, w ∈ wsL_law := fun _ h => List.mem_append_left _ (List.mem_append_left _ (List.mem_append_left _ (List.mem_append_left _ (List.mem_append_right _ h))))
theorem inX9 : ∀ w ∈ wsX90, w ∈ lw_tbl := fun w h => wsL_law_in w (inlX9 w h)
theorem inlX10 : ∀ w ∈ wsX100, w ∈ wsL_law := fun _ h => List.mem_append_left _ (List.mem_append_left _ (List.mem_append_left _ (List.mem_append_left _ (List.mem_append_left _ (List.mem_append_left _ (List.mem_append_left _ (List.mem_append_left _ (List.mem_append_left _ (List.mem_append_left _ (List.mem_append_left _ (List.mem_append_left _ (List.mem_append_left _ (List.mem_append_left _ (List.mem_append_right _ h))))))))))))))
theorem inX10 : ∀ w ∈ wsX100, w ∈ lw_tbl := fun w h => wsL_law_in w (inlX10 w h)
theorem inlX11 : ∀ w ∈ wsX110, w ∈ wsL_law := fun _ h => List.mem_append_left _ (List.mem_append_left _ (List.mem_append_left _ (List.mem_append_left _ (List.mem_append_left _ (List.mem_append_left _ (List.mem_append_left _ (List.mem_append_left _ (List.mem_append_left _ (List.mem_append_left _ (List.mem_append_left _ (List.mem_append_left _ (List.mem_append_left _ (List.mem_append_right _ h)))))))))))))
theorem inX11 : ∀ w ∈ wsX110, w ∈ lw_tbl := fun w h => wsL_law_in w (inlX11 w h)
theorem inJ9 : ∀ w ∈ wsJ90, w ∈ lw_tbl := by decide +kernel
theorem inJ0 : ∀ w ∈ wsJ00, w ∈ lw_tbl := by decide +kernel
theorem inJ10 : ∀ w ∈ wsJ100, w ∈ lw_tbl := by decide +kernel
end
section
theorem dX0_init_0 : decode cX0_init 0 = .ok (.aload_n 0, 1) := by decide +kernel
theorem dX0_init_1 : decode cX0_init 1 = .ok (.invokespecial 3, 3) := by decide +kernel
theorem dX0_init_4 : decode cX0_init 4 = .ok (.aload_n 0, 1) := by decide +kernel
theorem dX0_init_5 : decode cX0_init 5 = .ok (.iconst 5, 1) := by decide +kernel
theorem dX0_init_6 : decode cX0_init 6 = .ok (.newarray .int, 2) := by decide +kernel
theorem dX0_init_8 : decode cX0_init 8 = .ok (.putfield 9, 3) := by decide +kernel
theorem dX0_init_11 : decode cX0_init 11 = .ok (.aload_n 0, 1) := by decide +kernel
theorem dX0_init_12 : decode cX0_init 12 = .ok (.iconst 5, 1) := by decide +kernel
theorem dX0_init_13 : decode cX0_init 13 = .ok (.newarray .int, 2) := by decide +kernel
theorem dX0_init_15 : decode cX0_init 15 = .ok (.putfield 15, 3) := by decide +kernel
theorem dX0_init_18 : decode cX0_init 18 = .ok (.aload_n 0, 1) := by decide +kernel
theorem dX0_init_19 : decode cX0_init 19 = .ok (.iconst 5, 1) := by decide +kernel
theorem dX0_init_20 : decode cX0_init 20 = .ok (.newarray .int, 2) := by decide +kernel
theorem dX0_init_22 : decode cX0_init 22 = .ok (.putfield 18, 3) := by decide +kernel
theorem dX0_init_25 : decode cX0_init 25 = .ok (.aload_n 0, 1) := by decide +kernel
theorem dX0_init_26 : decode cX0_init 26 = .ok (.iconst 4, 1) := by decide +kernel
theorem dX0_init_27 : decode cX0_init 27 = .ok (.newarray .int, 2) := by decide +kernel
theorem dX0_init_29 : decode cX0_init 29 = .ok (.putfield 21, 3) := by decide +kernel
theorem dX0_init_32 : decode cX0_init 32 = .ok (.aload_n 0, 1) := by decide +kernel
theorem dX0_init_33 : decode cX0_init 33 = .ok (.iconst 4, 1) := by decide +kernel
theorem dX0_init_34 : decode cX0_init 34 = .ok (.newarray .int, 2) := by decide +kernel
theorem dX0_init_36 : decode cX0_init 36 = .ok (.putfield 24, 3) := by decide +kernel
theorem dX0_init_39 : decode cX0_init 39 = .ok (.aload_n 0, 1) := by decide +kernel
theorem dX0_init_40 : decode cX0_init 40 = .ok (.bipush 16, 2) := by decide +kernel
theorem dX0_init_42 : decode cX0_init 42 = .ok (.newarray .int, 2) := by decide +kernel
theorem dX0_init_44 : decode cX0_init 44 = .ok (.putfield 27, 3) := by decide +kernel
theorem dX0_init_47 : decode cX0_init 47 = .ok (.aload_n 0, 1) := by decide +kernel
theorem dX0_init_48 : decode cX0_init 48 = .ok (.bipush 16, 2) := by decide +kernel
theorem dX0_init_50 : decode cX0_init 50 = .ok (.newarray .int, 2) := by decide +kernel
theorem dX0_init_52 : decode cX0_init 52 = .ok (.putfield 30, 3) := by decide +kernel
theorem dX0_init_55 : decode cX0_init 55 = .ok (.return_, 1) := by decide +kernel
theorem dX0_begin_0 : decode cX0_begin 0 = .ok (.aload_n 0, 1) := by decide +kernel
theorem dX0_begin_1 : decode cX0_begin 1 = .ok (.getfield 9, 3) := by decide +kernel
theorem dX0_begin_4 : decode cX0_begin 4 = .ok (.bipush 100, 2) := by decide +kernel
theorem dX0_begin_6 : decode cX0_begin 6 = .ok (.invokestatic 33, 3) := by decide +kernel
theorem dX0_begin_9 : decode cX0_begin 9 = .ok (.aload_n 0, 1) := by decide +kernel
theorem dX0_begin_10 : decode cX0_begin 10 = .ok (.getfield 9, 3) := by decide +kernel
theorem dX0_begin_13 : decode cX0_begin 13 = .ok (.iconst 4, 1) := by decide +kernel
theorem dX0_begin_14 : decode cX0_begin 14 = .ok (.sipush (-400), 3) := by decide +kernel
theorem dX0_begin_17 : decode cX0_begin 17 = .ok (.invokestatic 37, 3) := by decide +kernel
theorem dX0_begin_20 : decode cX0_begin 20 = .ok (.aload_n 0, 1) := by decide +kernel
theorem dX0_begin_21 : decode cX0_begin 21 = .ok (.getfield 15, 3) := by decide +kernel
theorem dX0_begin_24 : decode cX0_begin 24 = .ok (.iconst 1, 1) := by decide +kernel
theorem dX0_begin_25 : decode cX0_begin 25 = .ok (.invokestatic 33, 3) := by decide +kernel
theorem dX0_begin_28 : decode cX0_begin 28 = .ok (.aload_n 0, 1) := by decide +kernel
theorem dX0_begin_29 : decode cX0_begin 29 = .ok (.getfield 18, 3) := by decide +kernel
theorem dX0_begin_32 : decode cX0_begin 32 = .ok (.iconst 0, 1) := by decide +kernel
theorem dX0_begin_33 : decode cX0_begin 33 = .ok (.invokestatic 33, 3) := by decide +kernel
theorem dX0_begin_36 : decode cX0_begin 36 = .ok (.aload_n 0, 1) := by decide +kernel
theorem dX0_begin_37 : decode cX0_begin 37 = .ok (.getfield 21, 3) := by decide +kernel
theorem dX0_begin_40 : decode cX0_begin 40 = .ok (.iconst 0, 1) := by decide +kernel
theorem dX0_begin_41 : decode cX0_begin 41 = .ok (.invokestatic 33, 3) := by decide +kernel
theorem dX0_begin_44 : decode cX0_begin 44 = .ok (.aload_n 0, 1) := by decide +kernel
theorem dX0_begin_45 : decode cX0_begin 45 = .ok (.getfield 24, 3) := by decide +kernel
theorem dX0_begin_48 : decode cX0_begin 48 = .ok (.iconst 0, 1) := by decide +kernel
theorem dX0_begin_49 : decode cX0_begin 49 = .ok (.invokestatic 33, 3) := by decide +kernel
theorem dX0_begin_52 : decode cX0_begin 52 = .ok (.return_, 1) := by decide +kernel
theorem dX0_transfer_0 : decode cX0_transfer 0 = .ok (.aload_n 0, 1) := by decide +kernel
theorem dX0_transfer_1 : decode cX0_transfer 1 = .ok (.getfield 9, 3) := by decide +kernel
theorem dX0_transfer_4 : decode cX0_transfer 4 = .ok (.iload_n 1, 1) := by decide +kernel
theorem dX0_transfer_5 : decode cX0_transfer 5 = .ok (.aload_n 0, 1) := by decide +kernel
theorem dX0_transfer_6 : decode cX0_transfer 6 = .ok (.getfield 9, 3) := by decide +kernel
theorem dX0_transfer_9 : decode cX0_transfer 9 = .ok (.iload_n 1, 1) := by decide +kernel
theorem dX0_transfer_10 : decode cX0_transfer 10 = .ok (.invokestatic 41, 3) := by decide +kernel
theorem dX0_transfer_13 : decode cX0_transfer 13 = .ok (.iload_n 3, 1) := by decide +kernel
theorem dX0_transfer_14 : decode cX0_transfer 14 = .ok (.isub, 1) := by decide +kernel
theorem dX0_transfer_15 : decode cX0_transfer 15 = .ok (.invokestatic 37, 3) := by decide +kernel
theorem dX0_transfer_18 : decode cX0_transfer 18 = .ok (.aload_n 0, 1) := by decide +kernel
theorem dX0_transfer_19 : decode cX0_transfer 19 = .ok (.getfield 9, 3) := by decide +kernel
theorem dX0_transfer_22 : decode cX0_transfer 22 = .ok (.iload_n 2, 1) := by decide +kernel
theorem dX0_transfer_23 : decode cX0_transfer 23 = .ok (.aload_n 0, 1) := by decide +kernel
theorem dX0_transfer_24 : decode cX0_transfer 24 = .ok (.getfield 9, 3) := by decide +kernel
theorem dX0_transfer_27 : decode cX0_transfer 27 = .ok (.iload_n 2, 1) := by decide +kernel
theorem dX0_transfer_28 : decode cX0_transfer 28 = .ok (.invokestatic 41, 3) := by decide +kernel
theorem dX0_transfer_31 : decode cX0_transfer 31 = .ok (.iload_n 3, 1) := by decide +kernel
theorem dX0_transfer_32 : decode cX0_transfer 32 = .ok (.iadd, 1) := by decide +kernel
theorem dX0_transfer_33 : decode cX0_transfer 33 = .ok (.invokestatic 37, 3) := by decide +kernel
theorem dX0_transfer_36 : decode cX0_transfer 36 = .ok (.return_, 1) := by decide +kernel
theorem dX0_payRent_0 : decode cX0_payRent 0 = .ok (.aload_n 0, 1) := by decide +kernel
theorem dX0_payRent_1 : decode cX0_payRent 1 = .ok (.iload_n 1, 1) := by decide +kernel
theorem dX0_payRent_2 : decode cX0_payRent 2 = .ok (.iload_n 2, 1) := by decide +kernel
theorem dX0_payRent_3 : decode cX0_payRent 3 = .ok (.iload_n 3, 1) := by decide +kernel
theorem dX0_payRent_4 : decode cX0_payRent 4 = .ok (.invokevirtual 45, 3) := by decide +kernel
theorem dX0_payRent_7 : decode cX0_payRent 7 = .ok (.aload_n 0, 1) := by decide +kernel
theorem dX0_payRent_8 : decode cX0_payRent 8 = .ok (.getfield 18, 3) := by decide +kernel
theorem dX0_payRent_11 : decode cX0_payRent 11 = .ok (.iload_n 2, 1) := by decide +kernel
theorem dX0_payRent_12 : decode cX0_payRent 12 = .ok (.aload_n 0, 1) := by decide +kernel
theorem dX0_payRent_13 : decode cX0_payRent 13 = .ok (.getfield 18, 3) := by decide +kernel
theorem dX0_payRent_16 : decode cX0_payRent 16 = .ok (.iload_n 2, 1) := by decide +kernel
theorem dX0_payRent_17 : decode cX0_payRent 17 = .ok (.invokestatic 41, 3) := by decide +kernel
theorem dX0_payRent_20 : decode cX0_payRent 20 = .ok (.iload_n 3, 1) := by decide +kernel
theorem dX0_payRent_21 : decode cX0_payRent 21 = .ok (.iadd, 1) := by decide +kernel
theorem dX0_payRent_22 : decode cX0_payRent 22 = .ok (.invokestatic 37, 3) := by decide +kernel
theorem dX0_payRent_25 : decode cX0_payRent 25 = .ok (.return_, 1) := by decide +kernel
theorem dX0_changeRent_0 : decode cX0_changeRent 0 = .ok (.aload_n 0, 1) := by decide +kernel
theorem dX0_changeRent_1 : decode cX0_changeRent 1 = .ok (.getfield 15, 3) := by decide +kernel
theorem dX0_changeRent_4 : decode cX0_changeRent 4 = .ok (.iload_n 1, 1) := by decide +kernel
theorem dX0_changeRent_5 : decode cX0_changeRent 5 = .ok (.iload_n 2, 1) := by decide +kernel
theorem dX0_changeRent_6 : decode cX0_changeRent 6 = .ok (.invokestatic 37, 3) := by decide +kernel
theorem dX0_changeRent_9 : decode cX0_changeRent 9 = .ok (.return_, 1) := by decide +kernel
theorem dX0_rentFor_0 : decode cX0_rentFor 0 = .ok (.iload_n 1, 1) := by decide +kernel
theorem dX0_rentFor_1 : decode cX0_rentFor 1 = .ok (.iload_n 2, 1) := by decide +kernel
theorem dX0_rentFor_2 : decode cX0_rentFor 2 = .ok (.if_icmp .ne 7, 3) := by decide +kernel
theorem dX0_rentFor_5 : decode cX0_rentFor 5 = .ok (.iconst 0, 1) := by decide +kernel
theorem dX0_rentFor_6 : decode cX0_rentFor 6 = .ok (.goto 11, 3) := by decide +kernel
theorem dX0_rentFor_9 : decode cX0_rentFor 9 = .ok (.aload_n 0, 1) := by decide +kernel
theorem dX0_rentFor_10 : decode cX0_rentFor 10 = .ok (.getfield 15, 3) := by decide +kernel
theorem dX0_rentFor_13 : decode cX0_rentFor 13 = .ok (.iload_n 2, 1) := by decide +kernel
theorem dX0_rentFor_14 : decode cX0_rentFor 14 = .ok (.invokestatic 41, 3) := by decide +kernel
theorem dX0_rentFor_17 : decode cX0_rentFor 17 = .ok (.ireturn, 1) := by decide +kernel
theorem dX0_hasTrain_0 : decode cX0_hasTrain 0 = .ok (.iload_n 2, 1) := by decide +kernel
theorem dX0_hasTrain_1 : decode cX0_hasTrain 1 = .ok (.ifCond .lt 19, 3) := by decide +kernel
theorem dX0_hasTrain_4 : decode cX0_hasTrain 4 = .ok (.iload_n 2, 1) := by decide +kernel
theorem dX0_hasTrain_5 : decode cX0_hasTrain 5 = .ok (.aload_n 0, 1) := by decide +kernel
theorem dX0_hasTrain_6 : decode cX0_hasTrain 6 = .ok (.getfield 24, 3) := by decide +kernel
theorem dX0_hasTrain_9 : decode cX0_hasTrain 9 = .ok (.iload_n 1, 1) := by decide +kernel
theorem dX0_hasTrain_10 : decode cX0_hasTrain 10 = .ok (.invokestatic 41, 3) := by decide +kernel
theorem dX0_hasTrain_13 : decode cX0_hasTrain 13 = .ok (.if_icmp .ge 7, 3) := by decide +kernel
theorem dX0_hasTrain_16 : decode cX0_hasTrain 16 = .ok (.iconst 1, 1) := by decide +kernel
theorem dX0_hasTrain_17 : decode cX0_hasTrain 17 = .ok (.goto 4, 3) := by decide +kernel
theorem dX0_hasTrain_20 : decode cX0_hasTrain 20 = .ok (.iconst 0, 1) := by decide +kernel
theorem dX0_hasTrain_21 : decode cX0_hasTrain 21 = .ok (.ireturn, 1) := by decide +kernel
theorem dX0_hasRun_0 : decode cX0_hasRun 0 = .ok (.aload_n 0, 1) := by decide +kernel
theorem dX0_hasRun_1 : decode cX0_hasRun 1 = .ok (.iload_n 1, 1) := by decide +kernel
theorem dX0_hasRun_2 : decode cX0_hasRun 2 = .ok (.iload_n 2, 1) := by decide +kernel
theorem dX0_hasRun_3 : decode cX0_hasRun 3 = .ok (.invokevirtual 49, 3) := by decide +kernel
theorem dX0_hasRun_6 : decode cX0_hasRun 6 = .ok (.ifCond .eq 23, 3) := by decide +kernel
theorem dX0_hasRun_9 : decode cX0_hasRun 9 = .ok (.aload_n 0, 1) := by decide +kernel
theorem dX0_hasRun_10 : decode cX0_hasRun 10 = .ok (.getfield 30, 3) := by decide +kernel
theorem dX0_hasRun_13 : decode cX0_hasRun 13 = .ok (.iload_n 1, 1) := by decide +kernel
theorem dX0_hasRun_14 : decode cX0_hasRun 14 = .ok (.iload_n 2, 1) := by decide +kernel
theorem dX0_hasRun_15 : decode cX0_hasRun 15 = .ok (.invokestatic 53, 3) := by decide +kernel
theorem dX0_hasRun_18 : decode cX0_hasRun 18 = .ok (.invokestatic 41, 3) := by decide +kernel
theorem dX0_hasRun_21 : decode cX0_hasRun 21 = .ok (.iconst 1, 1) := by decide +kernel
theorem dX0_hasRun_22 : decode cX0_hasRun 22 = .ok (.if_icmp .ne 7, 3) := by decide +kernel
theorem dX0_hasRun_25 : decode cX0_hasRun 25 = .ok (.iconst 1, 1) := by decide +kernel
theorem dX0_hasRun_26 : decode cX0_hasRun 26 = .ok (.goto 4, 3) := by decide +kernel
theorem dX0_hasRun_29 : decode cX0_hasRun 29 = .ok (.iconst 0, 1) := by decide +kernel
theorem dX0_hasRun_30 : decode cX0_hasRun 30 = .ok (.ireturn, 1) := by decide +kernel
theorem dX0_markRun_0 : decode cX0_markRun 0 = .ok (.aload_n 0, 1) := by decide +kernel
theorem dX0_markRun_1 : decode cX0_markRun 1 = .ok (.iload_n 1, 1) := by decide +kernel
theorem dX0_markRun_2 : decode cX0_markRun 2 = .ok (.iload_n 2, 1) := by decide +kernel
theorem dX0_markRun_3 : decode cX0_markRun 3 = .ok (.invokevirtual 49, 3) := by decide +kernel
theorem dX0_markRun_6 : decode cX0_markRun 6 = .ok (.ifCond .eq 16, 3) := by decide +kernel
theorem dX0_markRun_9 : decode cX0_markRun 9 = .ok (.aload_n 0, 1) := by decide +kernel
theorem dX0_markRun_10 : decode cX0_markRun 10 = .ok (.getfield 30, 3) := by decide +kernel
theorem dX0_markRun_13 : decode cX0_markRun 13 = .ok (.iload_n 1, 1) := by decide +kernel
theorem dX0_markRun_14 : decode cX0_markRun 14 = .ok (.iload_n 2, 1) := by decide +kernel
theorem dX0_markRun_15 : decode cX0_markRun 15 = .ok (.invokestatic 53, 3) := by decide +kernel
theorem dX0_markRun_18 : decode cX0_markRun 18 = .ok (.iconst 1, 1) := by decide +kernel
theorem dX0_markRun_19 : decode cX0_markRun 19 = .ok (.invokestatic 37, 3) := by decide +kernel
theorem dX0_markRun_22 : decode cX0_markRun 22 = .ok (.return_, 1) := by decide +kernel
theorem dX0_levelOf_0 : decode cX0_levelOf 0 = .ok (.aload_n 0, 1) := by decide +kernel
theorem dX0_levelOf_1 : decode cX0_levelOf 1 = .ok (.iload_n 1, 1) := by decide +kernel
theorem dX0_levelOf_2 : decode cX0_levelOf 2 = .ok (.iload_n 2, 1) := by decide +kernel
theorem dX0_levelOf_3 : decode cX0_levelOf 3 = .ok (.invokevirtual 49, 3) := by decide +kernel
theorem dX0_levelOf_6 : decode cX0_levelOf 6 = .ok (.ifCond .eq 18, 3) := by decide +kernel
theorem dX0_levelOf_9 : decode cX0_levelOf 9 = .ok (.aload_n 0, 1) := by decide +kernel
theorem dX0_levelOf_10 : decode cX0_levelOf 10 = .ok (.getfield 27, 3) := by decide +kernel
theorem dX0_levelOf_13 : decode cX0_levelOf 13 = .ok (.iload_n 1, 1) := by decide +kernel
theorem dX0_levelOf_14 : decode cX0_levelOf 14 = .ok (.iload_n 2, 1) := by decide +kernel
theorem dX0_levelOf_15 : decode cX0_levelOf 15 = .ok (.invokestatic 53, 3) := by decide +kernel
theorem dX0_levelOf_18 : decode cX0_levelOf 18 = .ok (.invokestatic 41, 3) := by decide +kernel
theorem dX0_levelOf_21 : decode cX0_levelOf 21 = .ok (.goto 4, 3) := by decide +kernel
theorem dX0_levelOf_24 : decode cX0_levelOf 24 = .ok (.iconst 0, 1) := by decide +kernel
theorem dX0_levelOf_25 : decode cX0_levelOf 25 = .ok (.ireturn, 1) := by decide +kernel
theorem dX0_levelsOf_0 : decode cX0_levelsOf 0 = .ok (.iconst 0, 1) := by decide +kernel
theorem dX0_levelsOf_1 : decode cX0_levelsOf 1 = .ok (.istore_n 2, 1) := by decide +kernel
theorem dX0_levelsOf_2 : decode cX0_levelsOf 2 = .ok (.iconst 0, 1) := by decide +kernel
theorem dX0_levelsOf_3 : decode cX0_levelsOf 3 = .ok (.istore_n 3, 1) := by decide +kernel
theorem dX0_levelsOf_4 : decode cX0_levelsOf 4 = .ok (.iload_n 3, 1) := by decide +kernel
theorem dX0_levelsOf_5 : decode cX0_levelsOf 5 = .ok (.aload_n 0, 1) := by decide +kernel
theorem dX0_levelsOf_6 : decode cX0_levelsOf 6 = .ok (.getfield 24, 3) := by decide +kernel
theorem dX0_levelsOf_9 : decode cX0_levelsOf 9 = .ok (.iload_n 1, 1) := by decide +kernel
theorem dX0_levelsOf_10 : decode cX0_levelsOf 10 = .ok (.invokestatic 41, 3) := by decide +kernel
theorem dX0_levelsOf_13 : decode cX0_levelsOf 13 = .ok (.if_icmp .ge 24, 3) := by decide +kernel
theorem dX0_levelsOf_16 : decode cX0_levelsOf 16 = .ok (.iload_n 2, 1) := by decide +kernel
theorem dX0_levelsOf_17 : decode cX0_levelsOf 17 = .ok (.aload_n 0, 1) := by decide +kernel
theorem dX0_levelsOf_18 : decode cX0_levelsOf 18 = .ok (.getfield 27, 3) := by decide +kernel
theorem dX0_levelsOf_21 : decode cX0_levelsOf 21 = .ok (.iload_n 1, 1) := by decide +kernel
theorem dX0_levelsOf_22 : decode cX0_levelsOf 22 = .ok (.iload_n 3, 1) := by decide +kernel
theorem dX0_levelsOf_23 : decode cX0_levelsOf 23 = .ok (.invokestatic 53, 3) := by decide +kernel
theorem dX0_levelsOf_26 : decode cX0_levelsOf 26 = .ok (.invokestatic 41, 3) := by decide +kernel
theorem dX0_levelsOf_29 : decode cX0_levelsOf 29 = .ok (.iadd, 1) := by decide +kernel
theorem dX0_levelsOf_30 : decode cX0_levelsOf 30 = .ok (.istore_n 2, 1) := by decide +kernel
theorem dX0_levelsOf_31 : decode cX0_levelsOf 31 = .ok (.iinc 3 1, 3) := by decide +kernel
theorem dX0_levelsOf_34 : decode cX0_levelsOf 34 = .ok (.goto (-30), 3) := by decide +kernel
theorem dX0_levelsOf_37 : decode cX0_levelsOf 37 = .ok (.iload_n 2, 1) := by decide +kernel
theorem dX0_levelsOf_38 : decode cX0_levelsOf 38 = .ok (.ireturn, 1) := by decide +kernel
theorem dX0_greatestLevel_0 : decode cX0_greatestLevel 0 = .ok (.iconst 0, 1) := by decide +kernel
theorem dX0_greatestLevel_1 : decode cX0_greatestLevel 1 = .ok (.istore_n 2, 1) := by decide +kernel
theorem dX0_greatestLevel_2 : decode cX0_greatestLevel 2 = .ok (.iconst 0, 1) := by decide +kernel
theorem dX0_greatestLevel_3 : decode cX0_greatestLevel 3 = .ok (.istore_n 3, 1) := by decide +kernel
theorem dX0_greatestLevel_4 : decode cX0_greatestLevel 4 = .ok (.iload_n 3, 1) := by decide +kernel
theorem dX0_greatestLevel_5 : decode cX0_greatestLevel 5 = .ok (.aload_n 0, 1) := by decide +kernel
theorem dX0_greatestLevel_6 : decode cX0_greatestLevel 6 = .ok (.getfield 24, 3) := by decide +kernel
theorem dX0_greatestLevel_9 : decode cX0_greatestLevel 9 = .ok (.iload_n 1, 1) := by decide +kernel
theorem dX0_greatestLevel_10 : decode cX0_greatestLevel 10 = .ok (.invokestatic 41, 3) := by decide +kernel
theorem dX0_greatestLevel_13 : decode cX0_greatestLevel 13 = .ok (.if_icmp .ge 26, 3) := by decide +kernel
theorem dX0_greatestLevel_16 : decode cX0_greatestLevel 16 = .ok (.iload_n 2, 1) := by decide +kernel
theorem dX0_greatestLevel_17 : decode cX0_greatestLevel 17 = .ok (.aload_n 0, 1) := by decide +kernel
theorem dX0_greatestLevel_18 : decode cX0_greatestLevel 18 = .ok (.getfield 27, 3) := by decide +kernel
theorem dX0_greatestLevel_21 : decode cX0_greatestLevel 21 = .ok (.iload_n 1, 1) := by decide +kernel
theorem dX0_greatestLevel_22 : decode cX0_greatestLevel 22 = .ok (.iload_n 3, 1) := by decide +kernel
theorem dX0_greatestLevel_23 : decode cX0_greatestLevel 23 = .ok (.invokestatic 53, 3) := by decide +kernel
theorem dX0_greatestLevel_26 : decode cX0_greatestLevel 26 = .ok (.invokestatic 41, 3) := by decide +kernel
theorem dX0_greatestLevel_29 : decode cX0_greatestLevel 29 = .ok (.invokestatic 57, 3) := by decide +kernel
theorem dX0_greatestLevel_32 : decode cX0_greatestLevel 32 = .ok (.istore_n 2, 1) := by decide +kernel
theorem dX0_greatestLevel_33 : decode cX0_greatestLevel 33 = .ok (.iinc 3 1, 3) := by decide +kernel
theorem dX0_greatestLevel_36 : decode cX0_greatestLevel 36 = .ok (.goto (-32), 3) := by decide +kernel
theorem dX0_greatestLevel_39 : decode cX0_greatestLevel 39 = .ok (.iload_n 2, 1) := by decide +kernel
theorem dX0_greatestLevel_40 : decode cX0_greatestLevel 40 = .ok (.ireturn, 1) := by decide +kernel
theorem dX0_addTrain_0 : decode cX0_addTrain 0 = .ok (.aload_n 0, 1) := by decide +kernel
theorem dX0_addTrain_1 : decode cX0_addTrain 1 = .ok (.getfield 24, 3) := by decide +kernel
theorem dX0_addTrain_4 : decode cX0_addTrain 4 = .ok (.iload_n 1, 1) := by decide +kernel
theorem dX0_addTrain_5 : decode cX0_addTrain 5 = .ok (.invokestatic 41, 3) := by decide +kernel
theorem dX0_addTrain_8 : decode cX0_addTrain 8 = .ok (.istore_n 3, 1) := by decide +kernel
theorem dX0_addTrain_9 : decode cX0_addTrain 9 = .ok (.iload_n 3, 1) := by decide +kernel
theorem dX0_addTrain_10 : decode cX0_addTrain 10 = .ok (.iconst 4, 1) := by decide +kernel
theorem dX0_addTrain_11 : decode cX0_addTrain 11 = .ok (.if_icmp .ge 40, 3) := by decide +kernel
theorem dX0_addTrain_14 : decode cX0_addTrain 14 = .ok (.aload_n 0, 1) := by decide +kernel
theorem dX0_addTrain_15 : decode cX0_addTrain 15 = .ok (.getfield 27, 3) := by decide +kernel
theorem dX0_addTrain_18 : decode cX0_addTrain 18 = .ok (.iload_n 1, 1) := by decide +kernel
theorem dX0_addTrain_19 : decode cX0_addTrain 19 = .ok (.iload_n 3, 1) := by decide +kernel
theorem dX0_addTrain_20 : decode cX0_addTrain 20 = .ok (.invokestatic 53, 3) := by decide +kernel
theorem dX0_addTrain_23 : decode cX0_addTrain 23 = .ok (.iload_n 2, 1) := by decide +kernel
theorem dX0_addTrain_24 : decode cX0_addTrain 24 = .ok (.invokestatic 37, 3) := by decide +kernel
theorem dX0_addTrain_27 : decode cX0_addTrain 27 = .ok (.aload_n 0, 1) := by decide +kernel
theorem dX0_addTrain_28 : decode cX0_addTrain 28 = .ok (.getfield 30, 3) := by decide +kernel
theorem dX0_addTrain_31 : decode cX0_addTrain 31 = .ok (.iload_n 1, 1) := by decide +kernel
theorem dX0_addTrain_32 : decode cX0_addTrain 32 = .ok (.iload_n 3, 1) := by decide +kernel
theorem dX0_addTrain_33 : decode cX0_addTrain 33 = .ok (.invokestatic 53, 3) := by decide +kernel
theorem dX0_addTrain_36 : decode cX0_addTrain 36 = .ok (.iconst 0, 1) := by decide +kernel
theorem dX0_addTrain_37 : decode cX0_addTrain 37 = .ok (.invokestatic 37, 3) := by decide +kernel
theorem dX0_addTrain_40 : decode cX0_addTrain 40 = .ok (.aload_n 0, 1) := by decide +kernel
theorem dX0_addTrain_41 : decode cX0_addTrain 41 = .ok (.getfield 24, 3) := by decide +kernel
theorem dX0_addTrain_44 : decode cX0_addTrain 44 = .ok (.iload_n 1, 1) := by decide +kernel
theorem dX0_addTrain_45 : decode cX0_addTrain 45 = .ok (.iload_n 3, 1) := by decide +kernel
theorem dX0_addTrain_46 : decode cX0_addTrain 46 = .ok (.iconst 1, 1) := by decide +kernel
theorem dX0_addTrain_47 : decode cX0_addTrain 47 = .ok (.iadd, 1) := by decide +kernel
theorem dX0_addTrain_48 : decode cX0_addTrain 48 = .ok (.invokestatic 37, 3) := by decide +kernel
theorem dX0_addTrain_51 : decode cX0_addTrain 51 = .ok (.return_, 1) := by decide +kernel
theorem dX0_dropBelow_0 : decode cX0_dropBelow 0 = .ok (.iconst 0, 1) := by decide +kernel
theorem dX0_dropBelow_1 : decode cX0_dropBelow 1 = .ok (.istore_n 2, 1) := by decide +kernel
theorem dX0_dropBelow_2 : decode cX0_dropBelow 2 = .ok (.iconst 0, 1) := by decide +kernel
theorem dX0_dropBelow_3 : decode cX0_dropBelow 3 = .ok (.istore_n 3, 1) := by decide +kernel
theorem dX0_dropBelow_4 : decode cX0_dropBelow 4 = .ok (.iload_n 3, 1) := by decide +kernel
theorem dX0_dropBelow_5 : decode cX0_dropBelow 5 = .ok (.iconst 4, 1) := by decide +kernel
theorem dX0_dropBelow_6 : decode cX0_dropBelow 6 = .ok (.if_icmp .ge 130, 3) := by decide +kernel
theorem dX0_dropBelow_9 : decode cX0_dropBelow 9 = .ok (.iconst 0, 1) := by decide +kernel
theorem dX0_dropBelow_10 : decode cX0_dropBelow 10 = .ok (.istore 4, 2) := by decide +kernel
theorem dX0_dropBelow_12 : decode cX0_dropBelow 12 = .ok (.iconst 0, 1) := by decide +kernel
theorem dX0_dropBelow_13 : decode cX0_dropBelow 13 = .ok (.istore 5, 2) := by decide +kernel
theorem dX0_dropBelow_15 : decode cX0_dropBelow 15 = .ok (.iload 5, 2) := by decide +kernel
theorem dX0_dropBelow_17 : decode cX0_dropBelow 17 = .ok (.aload_n 0, 1) := by decide +kernel
theorem dX0_dropBelow_18 : decode cX0_dropBelow 18 = .ok (.getfield 24, 3) := by decide +kernel
theorem dX0_dropBelow_21 : decode cX0_dropBelow 21 = .ok (.iload_n 3, 1) := by decide +kernel
theorem dX0_dropBelow_22 : decode cX0_dropBelow 22 = .ok (.invokestatic 41, 3) := by decide +kernel
theorem dX0_dropBelow_25 : decode cX0_dropBelow 25 = .ok (.if_icmp .ge 81, 3) := by decide +kernel
theorem dX0_dropBelow_28 : decode cX0_dropBelow 28 = .ok (.aload_n 0, 1) := by decide +kernel
theorem dX0_dropBelow_29 : decode cX0_dropBelow 29 = .ok (.getfield 27, 3) := by decide +kernel
theorem dX0_dropBelow_32 : decode cX0_dropBelow 32 = .ok (.iload_n 3, 1) := by decide +kernel
theorem dX0_dropBelow_33 : decode cX0_dropBelow 33 = .ok (.iload 5, 2) := by decide +kernel
theorem dX0_dropBelow_35 : decode cX0_dropBelow 35 = .ok (.invokestatic 53, 3) := by decide +kernel
theorem dX0_dropBelow_38 : decode cX0_dropBelow 38 = .ok (.invokestatic 41, 3) := by decide +kernel
theorem dX0_dropBelow_41 : decode cX0_dropBelow 41 = .ok (.iload_n 1, 1) := by decide +kernel
theorem dX0_dropBelow_42 : decode cX0_dropBelow 42 = .ok (.if_icmp .lt 58, 3) := by decide +kernel
theorem dX0_dropBelow_45 : decode cX0_dropBelow 45 = .ok (.aload_n 0, 1) := by decide +kernel
theorem dX0_dropBelow_46 : decode cX0_dropBelow 46 = .ok (.getfield 27, 3) := by decide +kernel
theorem dX0_dropBelow_49 : decode cX0_dropBelow 49 = .ok (.iload_n 3, 1) := by decide +kernel
theorem dX0_dropBelow_50 : decode cX0_dropBelow 50 = .ok (.iload 4, 2) := by decide +kernel
theorem dX0_dropBelow_52 : decode cX0_dropBelow 52 = .ok (.invokestatic 53, 3) := by decide +kernel
theorem dX0_dropBelow_55 : decode cX0_dropBelow 55 = .ok (.aload_n 0, 1) := by decide +kernel
theorem dX0_dropBelow_56 : decode cX0_dropBelow 56 = .ok (.getfield 27, 3) := by decide +kernel
theorem dX0_dropBelow_59 : decode cX0_dropBelow 59 = .ok (.iload_n 3, 1) := by decide +kernel
theorem dX0_dropBelow_60 : decode cX0_dropBelow 60 = .ok (.iload 5, 2) := by decide +kernel
theorem dX0_dropBelow_62 : decode cX0_dropBelow 62 = .ok (.invokestatic 53, 3) := by decide +kernel
theorem dX0_dropBelow_65 : decode cX0_dropBelow 65 = .ok (.invokestatic 41, 3) := by decide +kernel
theorem dX0_dropBelow_68 : decode cX0_dropBelow 68 = .ok (.invokestatic 37, 3) := by decide +kernel
theorem dX0_dropBelow_71 : decode cX0_dropBelow 71 = .ok (.aload_n 0, 1) := by decide +kernel
theorem dX0_dropBelow_72 : decode cX0_dropBelow 72 = .ok (.getfield 30, 3) := by decide +kernel
theorem dX0_dropBelow_75 : decode cX0_dropBelow 75 = .ok (.iload_n 3, 1) := by decide +kernel
theorem dX0_dropBelow_76 : decode cX0_dropBelow 76 = .ok (.iload 4, 2) := by decide +kernel
theorem dX0_dropBelow_78 : decode cX0_dropBelow 78 = .ok (.invokestatic 53, 3) := by decide +kernel
theorem dX0_dropBelow_81 : decode cX0_dropBelow 81 = .ok (.aload_n 0, 1) := by decide +kernel
theorem dX0_dropBelow_82 : decode cX0_dropBelow 82 = .ok (.getfield 30, 3) := by decide +kernel
theorem dX0_dropBelow_85 : decode cX0_dropBelow 85 = .ok (.iload_n 3, 1) := by decide +kernel
theorem dX0_dropBelow_86 : decode cX0_dropBelow 86 = .ok (.iload 5, 2) := by decide +kernel
theorem dX0_dropBelow_88 : decode cX0_dropBelow 88 = .ok (.invokestatic 53, 3) := by decide +kernel
theorem dX0_dropBelow_91 : decode cX0_dropBelow 91 = .ok (.invokestatic 41, 3) := by decide +kernel
theorem dX0_dropBelow_94 : decode cX0_dropBelow 94 = .ok (.invokestatic 37, 3) := by decide +kernel
theorem dX0_dropBelow_97 : decode cX0_dropBelow 97 = .ok (.iinc 4 1, 3) := by decide +kernel
theorem dX0_dropBelow_100 : decode cX0_dropBelow 100 = .ok (.iinc 5 1, 3) := by decide +kernel
theorem dX0_dropBelow_103 : decode cX0_dropBelow 103 = .ok (.goto (-88), 3) := by decide +kernel
theorem dX0_dropBelow_106 : decode cX0_dropBelow 106 = .ok (.iload_n 2, 1) := by decide +kernel
theorem dX0_dropBelow_107 : decode cX0_dropBelow 107 = .ok (.aload_n 0, 1) := by decide +kernel
theorem dX0_dropBelow_108 : decode cX0_dropBelow 108 = .ok (.getfield 24, 3) := by decide +kernel
theorem dX0_dropBelow_111 : decode cX0_dropBelow 111 = .ok (.iload_n 3, 1) := by decide +kernel
theorem dX0_dropBelow_112 : decode cX0_dropBelow 112 = .ok (.invokestatic 41, 3) := by decide +kernel
theorem dX0_dropBelow_115 : decode cX0_dropBelow 115 = .ok (.iload 4, 2) := by decide +kernel
theorem dX0_dropBelow_117 : decode cX0_dropBelow 117 = .ok (.isub, 1) := by decide +kernel
theorem dX0_dropBelow_118 : decode cX0_dropBelow 118 = .ok (.iadd, 1) := by decide +kernel
theorem dX0_dropBelow_119 : decode cX0_dropBelow 119 = .ok (.istore_n 2, 1) := by decide +kernel
theorem dX0_dropBelow_120 : decode cX0_dropBelow 120 = .ok (.aload_n 0, 1) := by decide +kernel
theorem dX0_dropBelow_121 : decode cX0_dropBelow 121 = .ok (.getfield 24, 3) := by decide +kernel
theorem dX0_dropBelow_124 : decode cX0_dropBelow 124 = .ok (.iload_n 3, 1) := by decide +kernel
theorem dX0_dropBelow_125 : decode cX0_dropBelow 125 = .ok (.iload 4, 2) := by decide +kernel
theorem dX0_dropBelow_127 : decode cX0_dropBelow 127 = .ok (.invokestatic 37, 3) := by decide +kernel
theorem dX0_dropBelow_130 : decode cX0_dropBelow 130 = .ok (.iinc 3 1, 3) := by decide +kernel
theorem dX0_dropBelow_133 : decode cX0_dropBelow 133 = .ok (.goto (-129), 3) := by decide +kernel
theorem dX0_dropBelow_136 : decode cX0_dropBelow 136 = .ok (.iload_n 2, 1) := by decide +kernel
theorem dX0_dropBelow_137 : decode cX0_dropBelow 137 = .ok (.ireturn, 1) := by decide +kernel
theorem dX0_goBankrupt_0 : decode cX0_goBankrupt 0 = .ok (.aload_n 0, 1) := by decide +kernel
theorem dX0_goBankrupt_1 : decode cX0_goBankrupt 1 = .ok (.iconst 4, 1) := by decide +kernel
theorem dX0_goBankrupt_2 : decode cX0_goBankrupt 2 = .ok (.iload_n 1, 1) := by decide +kernel
theorem dX0_goBankrupt_3 : decode cX0_goBankrupt 3 = .ok (.aload_n 0, 1) := by decide +kernel
theorem dX0_goBankrupt_4 : decode cX0_goBankrupt 4 = .ok (.getfield 9, 3) := by decide +kernel
theorem dX0_goBankrupt_7 : decode cX0_goBankrupt 7 = .ok (.iload_n 1, 1) := by decide +kernel
theorem dX0_goBankrupt_8 : decode cX0_goBankrupt 8 = .ok (.invokestatic 41, 3) := by decide +kernel
theorem dX0_goBankrupt_11 : decode cX0_goBankrupt 11 = .ok (.ineg, 1) := by decide +kernel
theorem dX0_goBankrupt_12 : decode cX0_goBankrupt 12 = .ok (.invokevirtual 45, 3) := by decide +kernel
theorem dX0_goBankrupt_15 : decode cX0_goBankrupt 15 = .ok (.aload_n 0, 1) := by decide +kernel
theorem dX0_goBankrupt_16 : decode cX0_goBankrupt 16 = .ok (.getfield 24, 3) := by decide +kernel
theorem dX0_goBankrupt_19 : decode cX0_goBankrupt 19 = .ok (.iload_n 1, 1) := by decide +kernel
theorem dX0_goBankrupt_20 : decode cX0_goBankrupt 20 = .ok (.iconst 0, 1) := by decide +kernel
theorem dX0_goBankrupt_21 : decode cX0_goBankrupt 21 = .ok (.invokestatic 37, 3) := by decide +kernel
theorem dX0_goBankrupt_24 : decode cX0_goBankrupt 24 = .ok (.aload_n 0, 1) := by decide +kernel
theorem dX0_goBankrupt_25 : decode cX0_goBankrupt 25 = .ok (.getfield 21, 3) := by decide +kernel
theorem dX0_goBankrupt_28 : decode cX0_goBankrupt 28 = .ok (.iload_n 1, 1) := by decide +kernel
theorem dX0_goBankrupt_29 : decode cX0_goBankrupt 29 = .ok (.aload_n 0, 1) := by decide +kernel
theorem dX0_goBankrupt_30 : decode cX0_goBankrupt 30 = .ok (.getfield 21, 3) := by decide +kernel
theorem dX0_goBankrupt_33 : decode cX0_goBankrupt 33 = .ok (.iload_n 1, 1) := by decide +kernel
theorem dX0_goBankrupt_34 : decode cX0_goBankrupt 34 = .ok (.invokestatic 41, 3) := by decide +kernel
theorem dX0_goBankrupt_37 : decode cX0_goBankrupt 37 = .ok (.iconst 1, 1) := by decide +kernel
theorem dX0_goBankrupt_38 : decode cX0_goBankrupt 38 = .ok (.iadd, 1) := by decide +kernel
theorem dX0_goBankrupt_39 : decode cX0_goBankrupt 39 = .ok (.invokestatic 37, 3) := by decide +kernel
theorem dX0_goBankrupt_42 : decode cX0_goBankrupt 42 = .ok (.return_, 1) := by decide +kernel
theorem dX0_place_0 : decode cX0_place 0 = .ok (.iload_n 0, 1) := by decide +kernel
theorem dX0_place_1 : decode cX0_place 1 = .ok (.iconst 4, 1) := by decide +kernel
theorem dX0_place_2 : decode cX0_place 2 = .ok (.imul, 1) := by decide +kernel
theorem dX0_place_3 : decode cX0_place 3 = .ok (.iload_n 1, 1) := by decide +kernel
theorem dX0_place_4 : decode cX0_place 4 = .ok (.iadd, 1) := by decide +kernel
theorem dX0_place_5 : decode cX0_place 5 = .ok (.ireturn, 1) := by decide +kernel
theorem dX0_copyFrom_0 : decode cX0_copyFrom 0 = .ok (.aload_n 1, 1) := by decide +kernel
theorem dX0_copyFrom_1 : decode cX0_copyFrom 1 = .ok (.getfield 9, 3) := by decide +kernel
theorem dX0_copyFrom_4 : decode cX0_copyFrom 4 = .ok (.aload_n 0, 1) := by decide +kernel
theorem dX0_copyFrom_5 : decode cX0_copyFrom 5 = .ok (.getfield 9, 3) := by decide +kernel
theorem dX0_copyFrom_8 : decode cX0_copyFrom 8 = .ok (.invokestatic 62, 3) := by decide +kernel
theorem dX0_copyFrom_11 : decode cX0_copyFrom 11 = .ok (.aload_n 1, 1) := by decide +kernel
theorem dX0_copyFrom_12 : decode cX0_copyFrom 12 = .ok (.getfield 15, 3) := by decide +kernel
theorem dX0_copyFrom_15 : decode cX0_copyFrom 15 = .ok (.aload_n 0, 1) := by decide +kernel
theorem dX0_copyFrom_16 : decode cX0_copyFrom 16 = .ok (.getfield 15, 3) := by decide +kernel
theorem dX0_copyFrom_19 : decode cX0_copyFrom 19 = .ok (.invokestatic 62, 3) := by decide +kernel
theorem dX0_copyFrom_22 : decode cX0_copyFrom 22 = .ok (.aload_n 1, 1) := by decide +kernel
theorem dX0_copyFrom_23 : decode cX0_copyFrom 23 = .ok (.getfield 18, 3) := by decide +kernel
theorem dX0_copyFrom_26 : decode cX0_copyFrom 26 = .ok (.aload_n 0, 1) := by decide +kernel
theorem dX0_copyFrom_27 : decode cX0_copyFrom 27 = .ok (.getfield 18, 3) := by decide +kernel
theorem dX0_copyFrom_30 : decode cX0_copyFrom 30 = .ok (.invokestatic 62, 3) := by decide +kernel
theorem dX0_copyFrom_33 : decode cX0_copyFrom 33 = .ok (.aload_n 1, 1) := by decide +kernel
theorem dX0_copyFrom_34 : decode cX0_copyFrom 34 = .ok (.getfield 21, 3) := by decide +kernel
theorem dX0_copyFrom_37 : decode cX0_copyFrom 37 = .ok (.aload_n 0, 1) := by decide +kernel
theorem dX0_copyFrom_38 : decode cX0_copyFrom 38 = .ok (.getfield 21, 3) := by decide +kernel
theorem dX0_copyFrom_41 : decode cX0_copyFrom 41 = .ok (.invokestatic 62, 3) := by decide +kernel
theorem dX0_copyFrom_44 : decode cX0_copyFrom 44 = .ok (.aload_n 1, 1) := by decide +kernel
theorem dX0_copyFrom_45 : decode cX0_copyFrom 45 = .ok (.getfield 24, 3) := by decide +kernel
theorem dX0_copyFrom_48 : decode cX0_copyFrom 48 = .ok (.aload_n 0, 1) := by decide +kernel
theorem dX0_copyFrom_49 : decode cX0_copyFrom 49 = .ok (.getfield 24, 3) := by decide +kernel
theorem dX0_copyFrom_52 : decode cX0_copyFrom 52 = .ok (.invokestatic 62, 3) := by decide +kernel
theorem dX0_copyFrom_55 : decode cX0_copyFrom 55 = .ok (.aload_n 1, 1) := by decide +kernel
theorem dX0_copyFrom_56 : decode cX0_copyFrom 56 = .ok (.getfield 27, 3) := by decide +kernel
theorem dX0_copyFrom_59 : decode cX0_copyFrom 59 = .ok (.aload_n 0, 1) := by decide +kernel
theorem dX0_copyFrom_60 : decode cX0_copyFrom 60 = .ok (.getfield 27, 3) := by decide +kernel
theorem dX0_copyFrom_63 : decode cX0_copyFrom 63 = .ok (.invokestatic 62, 3) := by decide +kernel
theorem dX0_copyFrom_66 : decode cX0_copyFrom 66 = .ok (.aload_n 1, 1) := by decide +kernel
theorem dX0_copyFrom_67 : decode cX0_copyFrom 67 = .ok (.getfield 30, 3) := by decide +kernel
theorem dX0_copyFrom_70 : decode cX0_copyFrom 70 = .ok (.aload_n 0, 1) := by decide +kernel
theorem dX0_copyFrom_71 : decode cX0_copyFrom 71 = .ok (.getfield 30, 3) := by decide +kernel
theorem dX0_copyFrom_74 : decode cX0_copyFrom 74 = .ok (.invokestatic 62, 3) := by decide +kernel
theorem dX0_copyFrom_77 : decode cX0_copyFrom 77 = .ok (.return_, 1) := by decide +kernel
theorem dX1_init_0 : decode cX1_init 0 = .ok (.aload_n 0, 1) := by decide +kernel
theorem dX1_init_1 : decode cX1_init 1 = .ok (.invokespecial 3, 3) := by decide +kernel
theorem dX1_init_4 : decode cX1_init 4 = .ok (.aload_n 0, 1) := by decide +kernel
theorem dX1_init_5 : decode cX1_init 5 = .ok (.bipush 8, 2) := by decide +kernel
theorem dX1_init_7 : decode cX1_init 7 = .ok (.newarray .int, 2) := by decide +kernel
theorem dX1_init_9 : decode cX1_init 9 = .ok (.putfield 9, 3) := by decide +kernel
theorem dX1_init_12 : decode cX1_init 12 = .ok (.aload_n 0, 1) := by decide +kernel
theorem dX1_init_13 : decode cX1_init 13 = .ok (.bipush 8, 2) := by decide +kernel
theorem dX1_init_15 : decode cX1_init 15 = .ok (.newarray .int, 2) := by decide +kernel
theorem dX1_init_17 : decode cX1_init 17 = .ok (.putfield 15, 3) := by decide +kernel
theorem dX1_init_20 : decode cX1_init 20 = .ok (.aload_n 0, 1) := by decide +kernel
theorem dX1_init_21 : decode cX1_init 21 = .ok (.bipush 8, 2) := by decide +kernel
theorem dX1_init_23 : decode cX1_init 23 = .ok (.newarray .int, 2) := by decide +kernel
theorem dX1_init_25 : decode cX1_init 25 = .ok (.putfield 18, 3) := by decide +kernel
theorem dX1_init_28 : decode cX1_init 28 = .ok (.aload_n 0, 1) := by decide +kernel
theorem dX1_init_29 : decode cX1_init 29 = .ok (.bipush 8, 2) := by decide +kernel
theorem dX1_init_31 : decode cX1_init 31 = .ok (.newarray .int, 2) := by decide +kernel
theorem dX1_init_33 : decode cX1_init 33 = .ok (.putfield 21, 3) := by decide +kernel
theorem dX1_init_36 : decode cX1_init 36 = .ok (.aload_n 0, 1) := by decide +kernel
theorem dX1_init_37 : decode cX1_init 37 = .ok (.bipush 8, 2) := by decide +kernel
theorem dX1_init_39 : decode cX1_init 39 = .ok (.newarray .int, 2) := by decide +kernel
theorem dX1_init_41 : decode cX1_init 41 = .ok (.putfield 24, 3) := by decide +kernel
theorem dX1_init_44 : decode cX1_init 44 = .ok (.aload_n 0, 1) := by decide +kernel
theorem dX1_init_45 : decode cX1_init 45 = .ok (.bipush 8, 2) := by decide +kernel
theorem dX1_init_47 : decode cX1_init 47 = .ok (.newarray .int, 2) := by decide +kernel
theorem dX1_init_49 : decode cX1_init 49 = .ok (.putfield 27, 3) := by decide +kernel
theorem dX1_init_52 : decode cX1_init 52 = .ok (.return_, 1) := by decide +kernel
theorem dX1_has_0 : decode cX1_has 0 = .ok (.iload_n 1, 1) := by decide +kernel
theorem dX1_has_1 : decode cX1_has 1 = .ok (.ifCond .lt 15, 3) := by decide +kernel
theorem dX1_has_4 : decode cX1_has 4 = .ok (.iload_n 1, 1) := by decide +kernel
theorem dX1_has_5 : decode cX1_has 5 = .ok (.aload_n 0, 1) := by decide +kernel
theorem dX1_has_6 : decode cX1_has 6 = .ok (.getfield 30, 3) := by decide +kernel
theorem dX1_has_9 : decode cX1_has 9 = .ok (.if_icmp .ge 7, 3) := by decide +kernel
theorem dX1_has_12 : decode cX1_has 12 = .ok (.iconst 1, 1) := by decide +kernel
theorem dX1_has_13 : decode cX1_has 13 = .ok (.goto 4, 3) := by decide +kernel
theorem dX1_has_16 : decode cX1_has 16 = .ok (.iconst 0, 1) := by decide +kernel
theorem dX1_has_17 : decode cX1_has 17 = .ok (.ireturn, 1) := by decide +kernel
theorem dX1_areFull_0 : decode cX1_areFull 0 = .ok (.aload_n 0, 1) := by decide +kernel
theorem dX1_areFull_1 : decode cX1_areFull 1 = .ok (.getfield 30, 3) := by decide +kernel
theorem dX1_areFull_4 : decode cX1_areFull 4 = .ok (.bipush 8, 2) := by decide +kernel
theorem dX1_areFull_6 : decode cX1_areFull 6 = .ok (.if_icmp .lt 7, 3) := by decide +kernel
theorem dX1_areFull_9 : decode cX1_areFull 9 = .ok (.iconst 1, 1) := by decide +kernel
theorem dX1_areFull_10 : decode cX1_areFull 10 = .ok (.goto 4, 3) := by decide +kernel
theorem dX1_areFull_13 : decode cX1_areFull 13 = .ok (.iconst 0, 1) := by decide +kernel
theorem dX1_areFull_14 : decode cX1_areFull 14 = .ok (.ireturn, 1) := by decide +kernel
theorem dX1_isFree_0 : decode cX1_isFree 0 = .ok (.aload_n 0, 1) := by decide +kernel
theorem dX1_isFree_1 : decode cX1_isFree 1 = .ok (.iload_n 1, 1) := by decide +kernel
theorem dX1_isFree_2 : decode cX1_isFree 2 = .ok (.invokevirtual 34, 3) := by decide +kernel
theorem dX1_isFree_5 : decode cX1_isFree 5 = .ok (.bipush (-9), 2) := by decide +kernel
theorem dX1_isFree_7 : decode cX1_isFree 7 = .ok (.if_icmp .ne 7, 3) := by decide +kernel
theorem dX1_isFree_10 : decode cX1_isFree 10 = .ok (.iconst 1, 1) := by decide +kernel
theorem dX1_isFree_11 : decode cX1_isFree 11 = .ok (.goto 4, 3) := by decide +kernel
theorem dX1_isFree_14 : decode cX1_isFree 14 = .ok (.iconst 0, 1) := by decide +kernel
theorem dX1_isFree_15 : decode cX1_isFree 15 = .ok (.ireturn, 1) := by decide +kernel
theorem dX1_holderOf_0 : decode cX1_holderOf 0 = .ok (.aload_n 0, 1) := by decide +kernel
theorem dX1_holderOf_1 : decode cX1_holderOf 1 = .ok (.iload_n 1, 1) := by decide +kernel
theorem dX1_holderOf_2 : decode cX1_holderOf 2 = .ok (.invokevirtual 38, 3) := by decide +kernel
theorem dX1_holderOf_5 : decode cX1_holderOf 5 = .ok (.ifCond .eq 14, 3) := by decide +kernel
theorem dX1_holderOf_8 : decode cX1_holderOf 8 = .ok (.aload_n 0, 1) := by decide +kernel
theorem dX1_holderOf_9 : decode cX1_holderOf 9 = .ok (.getfield 24, 3) := by decide +kernel
theorem dX1_holderOf_12 : decode cX1_holderOf 12 = .ok (.iload_n 1, 1) := by decide +kernel
theorem dX1_holderOf_13 : decode cX1_holderOf 13 = .ok (.invokestatic 42, 3) := by decide +kernel
theorem dX1_holderOf_16 : decode cX1_holderOf 16 = .ok (.goto 5, 3) := by decide +kernel
theorem dX1_holderOf_19 : decode cX1_holderOf 19 = .ok (.bipush (-9), 2) := by decide +kernel
theorem dX1_holderOf_21 : decode cX1_holderOf 21 = .ok (.ireturn, 1) := by decide +kernel
theorem dX1_add_0 : decode cX1_add 0 = .ok (.aload_n 0, 1) := by decide +kernel
theorem dX1_add_1 : decode cX1_add 1 = .ok (.invokevirtual 46, 3) := by decide +kernel
theorem dX1_add_4 : decode cX1_add 4 = .ok (.ifCond .ne 87, 3) := by decide +kernel
theorem dX1_add_7 : decode cX1_add 7 = .ok (.aload_n 0, 1) := by decide +kernel
theorem dX1_add_8 : decode cX1_add 8 = .ok (.getfield 9, 3) := by decide +kernel
theorem dX1_add_11 : decode cX1_add 11 = .ok (.aload_n 0, 1) := by decide +kernel
theorem dX1_add_12 : decode cX1_add 12 = .ok (.getfield 30, 3) := by decide +kernel
theorem dX1_add_15 : decode cX1_add 15 = .ok (.iload_n 1, 1) := by decide +kernel
theorem dX1_add_16 : decode cX1_add 16 = .ok (.invokestatic 50, 3) := by decide +kernel
theorem dX1_add_19 : decode cX1_add 19 = .ok (.aload_n 0, 1) := by decide +kernel
theorem dX1_add_20 : decode cX1_add 20 = .ok (.getfield 15, 3) := by decide +kernel
theorem dX1_add_23 : decode cX1_add 23 = .ok (.aload_n 0, 1) := by decide +kernel
theorem dX1_add_24 : decode cX1_add 24 = .ok (.getfield 30, 3) := by decide +kernel
theorem dX1_add_27 : decode cX1_add 27 = .ok (.iload_n 2, 1) := by decide +kernel
theorem dX1_add_28 : decode cX1_add 28 = .ok (.invokestatic 50, 3) := by decide +kernel
theorem dX1_add_31 : decode cX1_add 31 = .ok (.aload_n 0, 1) := by decide +kernel
theorem dX1_add_32 : decode cX1_add 32 = .ok (.getfield 18, 3) := by decide +kernel
theorem dX1_add_35 : decode cX1_add 35 = .ok (.aload_n 0, 1) := by decide +kernel
theorem dX1_add_36 : decode cX1_add 36 = .ok (.getfield 30, 3) := by decide +kernel
theorem dX1_add_39 : decode cX1_add 39 = .ok (.iload_n 3, 1) := by decide +kernel
theorem dX1_add_40 : decode cX1_add 40 = .ok (.invokestatic 50, 3) := by decide +kernel
theorem dX1_add_43 : decode cX1_add 43 = .ok (.aload_n 0, 1) := by decide +kernel
theorem dX1_add_44 : decode cX1_add 44 = .ok (.getfield 21, 3) := by decide +kernel
theorem dX1_add_47 : decode cX1_add 47 = .ok (.aload_n 0, 1) := by decide +kernel
theorem dX1_add_48 : decode cX1_add 48 = .ok (.getfield 30, 3) := by decide +kernel
theorem dX1_add_51 : decode cX1_add 51 = .ok (.iload 4, 2) := by decide +kernel
theorem dX1_add_53 : decode cX1_add 53 = .ok (.invokestatic 50, 3) := by decide +kernel
theorem dX1_add_56 : decode cX1_add 56 = .ok (.aload_n 0, 1) := by decide +kernel
theorem dX1_add_57 : decode cX1_add 57 = .ok (.getfield 24, 3) := by decide +kernel
theorem dX1_add_60 : decode cX1_add 60 = .ok (.aload_n 0, 1) := by decide +kernel
theorem dX1_add_61 : decode cX1_add 61 = .ok (.getfield 30, 3) := by decide +kernel
theorem dX1_add_64 : decode cX1_add 64 = .ok (.bipush (-9), 2) := by decide +kernel
theorem dX1_add_66 : decode cX1_add 66 = .ok (.invokestatic 50, 3) := by decide +kernel
theorem dX1_add_69 : decode cX1_add 69 = .ok (.aload_n 0, 1) := by decide +kernel
theorem dX1_add_70 : decode cX1_add 70 = .ok (.getfield 27, 3) := by decide +kernel
theorem dX1_add_73 : decode cX1_add 73 = .ok (.aload_n 0, 1) := by decide +kernel
theorem dX1_add_74 : decode cX1_add 74 = .ok (.getfield 30, 3) := by decide +kernel
theorem dX1_add_77 : decode cX1_add 77 = .ok (.iconst 0, 1) := by decide +kernel
theorem dX1_add_78 : decode cX1_add 78 = .ok (.invokestatic 50, 3) := by decide +kernel
theorem dX1_add_81 : decode cX1_add 81 = .ok (.aload_n 0, 1) := by decide +kernel
theorem dX1_add_82 : decode cX1_add 82 = .ok (.dup, 1) := by decide +kernel
theorem dX1_add_83 : decode cX1_add 83 = .ok (.getfield 30, 3) := by decide +kernel
theorem dX1_add_86 : decode cX1_add 86 = .ok (.iconst 1, 1) := by decide +kernel
theorem dX1_add_87 : decode cX1_add 87 = .ok (.iadd, 1) := by decide +kernel
theorem dX1_add_88 : decode cX1_add 88 = .ok (.putfield 30, 3) := by decide +kernel
theorem dX1_add_91 : decode cX1_add 91 = .ok (.return_, 1) := by decide +kernel
theorem dX1_give_0 : decode cX1_give 0 = .ok (.aload_n 0, 1) := by decide +kernel
theorem dX1_give_1 : decode cX1_give 1 = .ok (.getfield 24, 3) := by decide +kernel
theorem dX1_give_4 : decode cX1_give 4 = .ok (.iload_n 1, 1) := by decide +kernel
theorem dX1_give_5 : decode cX1_give 5 = .ok (.iload_n 2, 1) := by decide +kernel
theorem dX1_give_6 : decode cX1_give 6 = .ok (.invokestatic 50, 3) := by decide +kernel
theorem dX1_give_9 : decode cX1_give 9 = .ok (.return_, 1) := by decide +kernel
theorem dX1_countOf_0 : decode cX1_countOf 0 = .ok (.iconst 0, 1) := by decide +kernel
theorem dX1_countOf_1 : decode cX1_countOf 1 = .ok (.istore_n 2, 1) := by decide +kernel
theorem dX1_countOf_2 : decode cX1_countOf 2 = .ok (.iconst 0, 1) := by decide +kernel
theorem dX1_countOf_3 : decode cX1_countOf 3 = .ok (.istore_n 3, 1) := by decide +kernel
theorem dX1_countOf_4 : decode cX1_countOf 4 = .ok (.iload_n 3, 1) := by decide +kernel
theorem dX1_countOf_5 : decode cX1_countOf 5 = .ok (.aload_n 0, 1) := by decide +kernel
theorem dX1_countOf_6 : decode cX1_countOf 6 = .ok (.getfield 30, 3) := by decide +kernel
theorem dX1_countOf_9 : decode cX1_countOf 9 = .ok (.if_icmp .ge 29, 3) := by decide +kernel
theorem dX1_countOf_12 : decode cX1_countOf 12 = .ok (.iload_n 2, 1) := by decide +kernel
theorem dX1_countOf_13 : decode cX1_countOf 13 = .ok (.aload_n 0, 1) := by decide +kernel
theorem dX1_countOf_14 : decode cX1_countOf 14 = .ok (.getfield 24, 3) := by decide +kernel
theorem dX1_countOf_17 : decode cX1_countOf 17 = .ok (.iload_n 3, 1) := by decide +kernel
theorem dX1_countOf_18 : decode cX1_countOf 18 = .ok (.invokestatic 42, 3) := by decide +kernel
theorem dX1_countOf_21 : decode cX1_countOf 21 = .ok (.iload_n 1, 1) := by decide +kernel
theorem dX1_countOf_22 : decode cX1_countOf 22 = .ok (.if_icmp .ne 7, 3) := by decide +kernel
theorem dX1_countOf_25 : decode cX1_countOf 25 = .ok (.iconst 1, 1) := by decide +kernel
theorem dX1_countOf_26 : decode cX1_countOf 26 = .ok (.goto 4, 3) := by decide +kernel
theorem dX1_countOf_29 : decode cX1_countOf 29 = .ok (.iconst 0, 1) := by decide +kernel
theorem dX1_countOf_30 : decode cX1_countOf 30 = .ok (.iadd, 1) := by decide +kernel
theorem dX1_countOf_31 : decode cX1_countOf 31 = .ok (.istore_n 2, 1) := by decide +kernel
theorem dX1_countOf_32 : decode cX1_countOf 32 = .ok (.iinc 3 1, 3) := by decide +kernel
theorem dX1_countOf_35 : decode cX1_countOf 35 = .ok (.goto (-31), 3) := by decide +kernel
theorem dX1_countOf_38 : decode cX1_countOf 38 = .ok (.iload_n 2, 1) := by decide +kernel
theorem dX1_countOf_39 : decode cX1_countOf 39 = .ok (.ireturn, 1) := by decide +kernel
theorem dX1_leaveHolder_0 : decode cX1_leaveHolder 0 = .ok (.iconst 0, 1) := by decide +kernel
theorem dX1_leaveHolder_1 : decode cX1_leaveHolder 1 = .ok (.istore_n 2, 1) := by decide +kernel
theorem dX1_leaveHolder_2 : decode cX1_leaveHolder 2 = .ok (.iload_n 2, 1) := by decide +kernel
theorem dX1_leaveHolder_3 : decode cX1_leaveHolder 3 = .ok (.aload_n 0, 1) := by decide +kernel
theorem dX1_leaveHolder_4 : decode cX1_leaveHolder 4 = .ok (.getfield 30, 3) := by decide +kernel
theorem dX1_leaveHolder_7 : decode cX1_leaveHolder 7 = .ok (.if_icmp .ge 31, 3) := by decide +kernel
theorem dX1_leaveHolder_10 : decode cX1_leaveHolder 10 = .ok (.aload_n 0, 1) := by decide +kernel
theorem dX1_leaveHolder_11 : decode cX1_leaveHolder 11 = .ok (.getfield 24, 3) := by decide +kernel
theorem dX1_leaveHolder_14 : decode cX1_leaveHolder 14 = .ok (.iload_n 2, 1) := by decide +kernel
theorem dX1_leaveHolder_15 : decode cX1_leaveHolder 15 = .ok (.invokestatic 42, 3) := by decide +kernel
theorem dX1_leaveHolder_18 : decode cX1_leaveHolder 18 = .ok (.iload_n 1, 1) := by decide +kernel
theorem dX1_leaveHolder_19 : decode cX1_leaveHolder 19 = .ok (.if_icmp .ne 13, 3) := by decide +kernel
theorem dX1_leaveHolder_22 : decode cX1_leaveHolder 22 = .ok (.aload_n 0, 1) := by decide +kernel
theorem dX1_leaveHolder_23 : decode cX1_leaveHolder 23 = .ok (.getfield 24, 3) := by decide +kernel
theorem dX1_leaveHolder_26 : decode cX1_leaveHolder 26 = .ok (.iload_n 2, 1) := by decide +kernel
theorem dX1_leaveHolder_27 : decode cX1_leaveHolder 27 = .ok (.bipush (-9), 2) := by decide +kernel
theorem dX1_leaveHolder_29 : decode cX1_leaveHolder 29 = .ok (.invokestatic 50, 3) := by decide +kernel
theorem dX1_leaveHolder_32 : decode cX1_leaveHolder 32 = .ok (.iinc 2 1, 3) := by decide +kernel
theorem dX1_leaveHolder_35 : decode cX1_leaveHolder 35 = .ok (.goto (-33), 3) := by decide +kernel
theorem dX1_leaveHolder_38 : decode cX1_leaveHolder 38 = .ok (.return_, 1) := by decide +kernel
theorem dX1_dropEnded_0 : decode cX1_dropEnded 0 = .ok (.iconst 0, 1) := by decide +kernel
theorem dX1_dropEnded_1 : decode cX1_dropEnded 1 = .ok (.istore_n 1, 1) := by decide +kernel
theorem dX1_dropEnded_2 : decode cX1_dropEnded 2 = .ok (.iconst 0, 1) := by decide +kernel
theorem dX1_dropEnded_3 : decode cX1_dropEnded 3 = .ok (.istore_n 2, 1) := by decide +kernel
theorem dX1_dropEnded_4 : decode cX1_dropEnded 4 = .ok (.iload_n 2, 1) := by decide +kernel
theorem dX1_dropEnded_5 : decode cX1_dropEnded 5 = .ok (.aload_n 0, 1) := by decide +kernel
theorem dX1_dropEnded_6 : decode cX1_dropEnded 6 = .ok (.getfield 30, 3) := by decide +kernel
theorem dX1_dropEnded_9 : decode cX1_dropEnded 9 = .ok (.if_icmp .ge 29, 3) := by decide +kernel
theorem dX1_dropEnded_12 : decode cX1_dropEnded 12 = .ok (.aload_n 0, 1) := by decide +kernel
theorem dX1_dropEnded_13 : decode cX1_dropEnded 13 = .ok (.getfield 21, 3) := by decide +kernel
theorem dX1_dropEnded_16 : decode cX1_dropEnded 16 = .ok (.iload_n 2, 1) := by decide +kernel
theorem dX1_dropEnded_17 : decode cX1_dropEnded 17 = .ok (.invokestatic 42, 3) := by decide +kernel
theorem dX1_dropEnded_20 : decode cX1_dropEnded 20 = .ok (.ifCond .le 12, 3) := by decide +kernel
theorem dX1_dropEnded_23 : decode cX1_dropEnded 23 = .ok (.aload_n 0, 1) := by decide +kernel
theorem dX1_dropEnded_24 : decode cX1_dropEnded 24 = .ok (.iload_n 2, 1) := by decide +kernel
theorem dX1_dropEnded_25 : decode cX1_dropEnded 25 = .ok (.iload_n 1, 1) := by decide +kernel
theorem dX1_dropEnded_26 : decode cX1_dropEnded 26 = .ok (.invokevirtual 54, 3) := by decide +kernel
theorem dX1_dropEnded_29 : decode cX1_dropEnded 29 = .ok (.iinc 1 1, 3) := by decide +kernel
theorem dX1_dropEnded_32 : decode cX1_dropEnded 32 = .ok (.iinc 2 1, 3) := by decide +kernel
theorem dX1_dropEnded_35 : decode cX1_dropEnded 35 = .ok (.goto (-31), 3) := by decide +kernel
theorem dX1_dropEnded_38 : decode cX1_dropEnded 38 = .ok (.aload_n 0, 1) := by decide +kernel
theorem dX1_dropEnded_39 : decode cX1_dropEnded 39 = .ok (.iload_n 1, 1) := by decide +kernel
theorem dX1_dropEnded_40 : decode cX1_dropEnded 40 = .ok (.putfield 30, 3) := by decide +kernel
theorem dX1_dropEnded_43 : decode cX1_dropEnded 43 = .ok (.return_, 1) := by decide +kernel
theorem dX1_move_0 : decode cX1_move 0 = .ok (.aload_n 0, 1) := by decide +kernel
theorem dX1_move_1 : decode cX1_move 1 = .ok (.getfield 9, 3) := by decide +kernel
theorem dX1_move_4 : decode cX1_move 4 = .ok (.iload_n 2, 1) := by decide +kernel
theorem dX1_move_5 : decode cX1_move 5 = .ok (.aload_n 0, 1) := by decide +kernel
theorem dX1_move_6 : decode cX1_move 6 = .ok (.getfield 9, 3) := by decide +kernel
theorem dX1_move_9 : decode cX1_move 9 = .ok (.iload_n 1, 1) := by decide +kernel
theorem dX1_move_10 : decode cX1_move 10 = .ok (.invokestatic 42, 3) := by decide +kernel
theorem dX1_move_13 : decode cX1_move 13 = .ok (.invokestatic 50, 3) := by decide +kernel
theorem dX1_move_16 : decode cX1_move 16 = .ok (.aload_n 0, 1) := by decide +kernel
theorem dX1_move_17 : decode cX1_move 17 = .ok (.getfield 15, 3) := by decide +kernel
theorem dX1_move_20 : decode cX1_move 20 = .ok (.iload_n 2, 1) := by decide +kernel
theorem dX1_move_21 : decode cX1_move 21 = .ok (.aload_n 0, 1) := by decide +kernel
theorem dX1_move_22 : decode cX1_move 22 = .ok (.getfield 15, 3) := by decide +kernel
theorem dX1_move_25 : decode cX1_move 25 = .ok (.iload_n 1, 1) := by decide +kernel
theorem dX1_move_26 : decode cX1_move 26 = .ok (.invokestatic 42, 3) := by decide +kernel
theorem dX1_move_29 : decode cX1_move 29 = .ok (.invokestatic 50, 3) := by decide +kernel
theorem dX1_move_32 : decode cX1_move 32 = .ok (.aload_n 0, 1) := by decide +kernel
theorem dX1_move_33 : decode cX1_move 33 = .ok (.getfield 18, 3) := by decide +kernel
theorem dX1_move_36 : decode cX1_move 36 = .ok (.iload_n 2, 1) := by decide +kernel
theorem dX1_move_37 : decode cX1_move 37 = .ok (.aload_n 0, 1) := by decide +kernel
theorem dX1_move_38 : decode cX1_move 38 = .ok (.getfield 18, 3) := by decide +kernel
theorem dX1_move_41 : decode cX1_move 41 = .ok (.iload_n 1, 1) := by decide +kernel
theorem dX1_move_42 : decode cX1_move 42 = .ok (.invokestatic 42, 3) := by decide +kernel
theorem dX1_move_45 : decode cX1_move 45 = .ok (.invokestatic 50, 3) := by decide +kernel
theorem dX1_move_48 : decode cX1_move 48 = .ok (.aload_n 0, 1) := by decide +kernel
theorem dX1_move_49 : decode cX1_move 49 = .ok (.getfield 21, 3) := by decide +kernel
theorem dX1_move_52 : decode cX1_move 52 = .ok (.iload_n 2, 1) := by decide +kernel
theorem dX1_move_53 : decode cX1_move 53 = .ok (.aload_n 0, 1) := by decide +kernel
theorem dX1_move_54 : decode cX1_move 54 = .ok (.getfield 21, 3) := by decide +kernel
theorem dX1_move_57 : decode cX1_move 57 = .ok (.iload_n 1, 1) := by decide +kernel
theorem dX1_move_58 : decode cX1_move 58 = .ok (.invokestatic 42, 3) := by decide +kernel
theorem dX1_move_61 : decode cX1_move 61 = .ok (.invokestatic 50, 3) := by decide +kernel
theorem dX1_move_64 : decode cX1_move 64 = .ok (.aload_n 0, 1) := by decide +kernel
theorem dX1_move_65 : decode cX1_move 65 = .ok (.getfield 24, 3) := by decide +kernel
theorem dX1_move_68 : decode cX1_move 68 = .ok (.iload_n 2, 1) := by decide +kernel
theorem dX1_move_69 : decode cX1_move 69 = .ok (.aload_n 0, 1) := by decide +kernel
theorem dX1_move_70 : decode cX1_move 70 = .ok (.getfield 24, 3) := by decide +kernel
theorem dX1_move_73 : decode cX1_move 73 = .ok (.iload_n 1, 1) := by decide +kernel
theorem dX1_move_74 : decode cX1_move 74 = .ok (.invokestatic 42, 3) := by decide +kernel
theorem dX1_move_77 : decode cX1_move 77 = .ok (.invokestatic 50, 3) := by decide +kernel
theorem dX1_move_80 : decode cX1_move 80 = .ok (.aload_n 0, 1) := by decide +kernel
theorem dX1_move_81 : decode cX1_move 81 = .ok (.getfield 27, 3) := by decide +kernel
theorem dX1_move_84 : decode cX1_move 84 = .ok (.iload_n 2, 1) := by decide +kernel
theorem dX1_move_85 : decode cX1_move 85 = .ok (.aload_n 0, 1) := by decide +kernel
theorem dX1_move_86 : decode cX1_move 86 = .ok (.getfield 27, 3) := by decide +kernel
theorem dX1_move_89 : decode cX1_move 89 = .ok (.iload_n 1, 1) := by decide +kernel
theorem dX1_move_90 : decode cX1_move 90 = .ok (.invokestatic 42, 3) := by decide +kernel
theorem dX1_move_93 : decode cX1_move 93 = .ok (.invokestatic 50, 3) := by decide +kernel
theorem dX1_move_96 : decode cX1_move 96 = .ok (.return_, 1) := by decide +kernel
theorem dX1_copyFrom_0 : decode cX1_copyFrom 0 = .ok (.aload_n 1, 1) := by decide +kernel
theorem dX1_copyFrom_1 : decode cX1_copyFrom 1 = .ok (.getfield 9, 3) := by decide +kernel
theorem dX1_copyFrom_4 : decode cX1_copyFrom 4 = .ok (.aload_n 0, 1) := by decide +kernel
theorem dX1_copyFrom_5 : decode cX1_copyFrom 5 = .ok (.getfield 9, 3) := by decide +kernel
theorem dX1_copyFrom_8 : decode cX1_copyFrom 8 = .ok (.invokestatic 58, 3) := by decide +kernel
theorem dX1_copyFrom_11 : decode cX1_copyFrom 11 = .ok (.aload_n 1, 1) := by decide +kernel
theorem dX1_copyFrom_12 : decode cX1_copyFrom 12 = .ok (.getfield 15, 3) := by decide +kernel
theorem dX1_copyFrom_15 : decode cX1_copyFrom 15 = .ok (.aload_n 0, 1) := by decide +kernel
theorem dX1_copyFrom_16 : decode cX1_copyFrom 16 = .ok (.getfield 15, 3) := by decide +kernel
theorem dX1_copyFrom_19 : decode cX1_copyFrom 19 = .ok (.invokestatic 58, 3) := by decide +kernel
theorem dX1_copyFrom_22 : decode cX1_copyFrom 22 = .ok (.aload_n 1, 1) := by decide +kernel
theorem dX1_copyFrom_23 : decode cX1_copyFrom 23 = .ok (.getfield 18, 3) := by decide +kernel
theorem dX1_copyFrom_26 : decode cX1_copyFrom 26 = .ok (.aload_n 0, 1) := by decide +kernel
theorem dX1_copyFrom_27 : decode cX1_copyFrom 27 = .ok (.getfield 18, 3) := by decide +kernel
theorem dX1_copyFrom_30 : decode cX1_copyFrom 30 = .ok (.invokestatic 58, 3) := by decide +kernel
theorem dX1_copyFrom_33 : decode cX1_copyFrom 33 = .ok (.aload_n 1, 1) := by decide +kernel
theorem dX1_copyFrom_34 : decode cX1_copyFrom 34 = .ok (.getfield 21, 3) := by decide +kernel
theorem dX1_copyFrom_37 : decode cX1_copyFrom 37 = .ok (.aload_n 0, 1) := by decide +kernel
theorem dX1_copyFrom_38 : decode cX1_copyFrom 38 = .ok (.getfield 21, 3) := by decide +kernel
theorem dX1_copyFrom_41 : decode cX1_copyFrom 41 = .ok (.invokestatic 58, 3) := by decide +kernel
theorem dX1_copyFrom_44 : decode cX1_copyFrom 44 = .ok (.aload_n 1, 1) := by decide +kernel
theorem dX1_copyFrom_45 : decode cX1_copyFrom 45 = .ok (.getfield 24, 3) := by decide +kernel
theorem dX1_copyFrom_48 : decode cX1_copyFrom 48 = .ok (.aload_n 0, 1) := by decide +kernel
theorem dX1_copyFrom_49 : decode cX1_copyFrom 49 = .ok (.getfield 24, 3) := by decide +kernel
theorem dX1_copyFrom_52 : decode cX1_copyFrom 52 = .ok (.invokestatic 58, 3) := by decide +kernel
theorem dX1_copyFrom_55 : decode cX1_copyFrom 55 = .ok (.aload_n 1, 1) := by decide +kernel
theorem dX1_copyFrom_56 : decode cX1_copyFrom 56 = .ok (.getfield 27, 3) := by decide +kernel
theorem dX1_copyFrom_59 : decode cX1_copyFrom 59 = .ok (.aload_n 0, 1) := by decide +kernel
theorem dX1_copyFrom_60 : decode cX1_copyFrom 60 = .ok (.getfield 27, 3) := by decide +kernel
theorem dX1_copyFrom_63 : decode cX1_copyFrom 63 = .ok (.invokestatic 58, 3) := by decide +kernel
theorem dX1_copyFrom_66 : decode cX1_copyFrom 66 = .ok (.aload_n 0, 1) := by decide +kernel
theorem dX1_copyFrom_67 : decode cX1_copyFrom 67 = .ok (.aload_n 1, 1) := by decide +kernel
theorem dX1_copyFrom_68 : decode cX1_copyFrom 68 = .ok (.getfield 30, 3) := by decide +kernel
theorem dX1_copyFrom_71 : decode cX1_copyFrom 71 = .ok (.putfield 30, 3) := by decide +kernel
theorem dX1_copyFrom_74 : decode cX1_copyFrom 74 = .ok (.return_, 1) := by decide +kernel
theorem dX2_init_0 : decode cX2_init 0 = .ok (.aload_n 0, 1) := by decide +kernel
theorem dX2_init_1 : decode cX2_init 1 = .ok (.invokespecial 3, 3) := by decide +kernel
theorem dX2_init_4 : decode cX2_init 4 = .ok (.aload_n 0, 1) := by decide +kernel
theorem dX2_init_5 : decode cX2_init 5 = .ok (.bipush 100, 2) := by decide +kernel
theorem dX2_init_7 : decode cX2_init 7 = .ok (.newarray .int, 2) := by decide +kernel
theorem dX2_init_9 : decode cX2_init 9 = .ok (.putfield 9, 3) := by decide +kernel
theorem dX2_init_12 : decode cX2_init 12 = .ok (.return_, 1) := by decide +kernel
theorem dX2_isFull_0 : decode cX2_isFull 0 = .ok (.aload_n 0, 1) := by decide +kernel
theorem dX2_isFull_1 : decode cX2_isFull 1 = .ok (.getfield 15, 3) := by decide +kernel
theorem dX2_isFull_4 : decode cX2_isFull 4 = .ok (.bipush 100, 2) := by decide +kernel
theorem dX2_isFull_6 : decode cX2_isFull 6 = .ok (.if_icmp .lt 7, 3) := by decide +kernel
theorem dX2_isFull_9 : decode cX2_isFull 9 = .ok (.iconst 1, 1) := by decide +kernel
theorem dX2_isFull_10 : decode cX2_isFull 10 = .ok (.goto 4, 3) := by decide +kernel
theorem dX2_isFull_13 : decode cX2_isFull 13 = .ok (.iconst 0, 1) := by decide +kernel
theorem dX2_isFull_14 : decode cX2_isFull 14 = .ok (.ireturn, 1) := by decide +kernel
theorem dX2_add_0 : decode cX2_add 0 = .ok (.aload_n 0, 1) := by decide +kernel
theorem dX2_add_1 : decode cX2_add 1 = .ok (.invokevirtual 19, 3) := by decide +kernel
theorem dX2_add_4 : decode cX2_add 4 = .ok (.ifCond .ne 25, 3) := by decide +kernel
theorem dX2_add_7 : decode cX2_add 7 = .ok (.aload_n 0, 1) := by decide +kernel
theorem dX2_add_8 : decode cX2_add 8 = .ok (.getfield 9, 3) := by decide +kernel
theorem dX2_add_11 : decode cX2_add 11 = .ok (.aload_n 0, 1) := by decide +kernel
theorem dX2_add_12 : decode cX2_add 12 = .ok (.getfield 15, 3) := by decide +kernel
theorem dX2_add_15 : decode cX2_add 15 = .ok (.iload_n 1, 1) := by decide +kernel
theorem dX2_add_16 : decode cX2_add 16 = .ok (.invokestatic 23, 3) := by decide +kernel
theorem dX2_add_19 : decode cX2_add 19 = .ok (.aload_n 0, 1) := by decide +kernel
theorem dX2_add_20 : decode cX2_add 20 = .ok (.dup, 1) := by decide +kernel
theorem dX2_add_21 : decode cX2_add 21 = .ok (.getfield 15, 3) := by decide +kernel
theorem dX2_add_24 : decode cX2_add 24 = .ok (.iconst 1, 1) := by decide +kernel
theorem dX2_add_25 : decode cX2_add 25 = .ok (.iadd, 1) := by decide +kernel
theorem dX2_add_26 : decode cX2_add 26 = .ok (.putfield 15, 3) := by decide +kernel
theorem dX2_add_29 : decode cX2_add 29 = .ok (.aload_n 0, 1) := by decide +kernel
theorem dX2_add_30 : decode cX2_add 30 = .ok (.getfield 15, 3) := by decide +kernel
theorem dX2_add_33 : decode cX2_add 33 = .ok (.ireturn, 1) := by decide +kernel
theorem dX2_empty_0 : decode cX2_empty 0 = .ok (.aload_n 0, 1) := by decide +kernel
theorem dX2_empty_1 : decode cX2_empty 1 = .ok (.getfield 15, 3) := by decide +kernel
theorem dX2_empty_4 : decode cX2_empty 4 = .ok (.istore_n 1, 1) := by decide +kernel
theorem dX2_empty_5 : decode cX2_empty 5 = .ok (.aload_n 0, 1) := by decide +kernel
theorem dX2_empty_6 : decode cX2_empty 6 = .ok (.iconst 0, 1) := by decide +kernel
theorem dX2_empty_7 : decode cX2_empty 7 = .ok (.putfield 15, 3) := by decide +kernel
theorem dX2_empty_10 : decode cX2_empty 10 = .ok (.iload_n 1, 1) := by decide +kernel
theorem dX2_empty_11 : decode cX2_empty 11 = .ok (.ireturn, 1) := by decide +kernel
theorem dX2_readInto_0 : decode cX2_readInto 0 = .ok (.aload_n 0, 1) := by decide +kernel
theorem dX2_readInto_1 : decode cX2_readInto 1 = .ok (.iconst 0, 1) := by decide +kernel
theorem dX2_readInto_2 : decode cX2_readInto 2 = .ok (.bipush 82, 2) := by decide +kernel
theorem dX2_readInto_4 : decode cX2_readInto 4 = .ok (.invokevirtual 27, 3) := by decide +kernel
theorem dX2_readInto_7 : decode cX2_readInto 7 = .ok (.ifCond .ne 5, 3) := by decide +kernel
theorem dX2_readInto_10 : decode cX2_readInto 10 = .ok (.iconst 0, 1) := by decide +kernel
theorem dX2_readInto_11 : decode cX2_readInto 11 = .ok (.ireturn, 1) := by decide +kernel
theorem dX2_readInto_12 : decode cX2_readInto 12 = .ok (.aload_n 0, 1) := by decide +kernel
theorem dX2_readInto_13 : decode cX2_readInto 13 = .ok (.iconst 1, 1) := by decide +kernel
theorem dX2_readInto_14 : decode cX2_readInto 14 = .ok (.invokevirtual 31, 3) := by decide +kernel
theorem dX2_readInto_17 : decode cX2_readInto 17 = .ok (.istore_n 2, 1) := by decide +kernel
theorem dX2_readInto_18 : decode cX2_readInto 18 = .ok (.iload_n 2, 1) := by decide +kernel
theorem dX2_readInto_19 : decode cX2_readInto 19 = .ok (.iconst 2, 1) := by decide +kernel
theorem dX2_readInto_20 : decode cX2_readInto 20 = .ok (.if_icmp .ge 5, 3) := by decide +kernel
theorem dX2_readInto_23 : decode cX2_readInto 23 = .ok (.iconst 1, 1) := by decide +kernel
theorem dX2_readInto_24 : decode cX2_readInto 24 = .ok (.ireturn, 1) := by decide +kernel
theorem dX2_readInto_25 : decode cX2_readInto 25 = .ok (.aload_n 1, 1) := by decide +kernel
theorem dX2_readInto_26 : decode cX2_readInto 26 = .ok (.iload_n 2, 1) := by decide +kernel
theorem dX2_readInto_27 : decode cX2_readInto 27 = .ok (.invokevirtual 35, 3) := by decide +kernel
theorem dX2_readInto_30 : decode cX2_readInto 30 = .ok (.iconst 2, 1) := by decide +kernel
theorem dX2_readInto_31 : decode cX2_readInto 31 = .ok (.istore_n 3, 1) := by decide +kernel
theorem dX2_readInto_32 : decode cX2_readInto 32 = .ok (.iload_n 3, 1) := by decide +kernel
theorem dX2_readInto_33 : decode cX2_readInto 33 = .ok (.aload_n 0, 1) := by decide +kernel
theorem dX2_readInto_34 : decode cX2_readInto 34 = .ok (.getfield 15, 3) := by decide +kernel
theorem dX2_readInto_37 : decode cX2_readInto 37 = .ok (.if_icmp .ge 43, 3) := by decide +kernel
theorem dX2_readInto_40 : decode cX2_readInto 40 = .ok (.aload_n 0, 1) := by decide +kernel
theorem dX2_readInto_41 : decode cX2_readInto 41 = .ok (.aload_n 1, 1) := by decide +kernel
theorem dX2_readInto_42 : decode cX2_readInto 42 = .ok (.iload_n 3, 1) := by decide +kernel
theorem dX2_readInto_43 : decode cX2_readInto 43 = .ok (.invokevirtual 41, 3) := by decide +kernel
theorem dX2_readInto_46 : decode cX2_readInto 46 = .ok (.istore 4, 2) := by decide +kernel
theorem dX2_readInto_48 : decode cX2_readInto 48 = .ok (.iload 4, 2) := by decide +kernel
theorem dX2_readInto_50 : decode cX2_readInto 50 = .ok (.bipush (-9), 2) := by decide +kernel
theorem dX2_readInto_52 : decode cX2_readInto 52 = .ok (.if_icmp .eq 6, 3) := by decide +kernel
theorem dX2_readInto_55 : decode cX2_readInto 55 = .ok (.iload 4, 2) := by decide +kernel
theorem dX2_readInto_57 : decode cX2_readInto 57 = .ok (.ireturn, 1) := by decide +kernel
theorem dX2_readInto_58 : decode cX2_readInto 58 = .ok (.iload_n 3, 1) := by decide +kernel
theorem dX2_readInto_59 : decode cX2_readInto 59 = .ok (.aload_n 0, 1) := by decide +kernel
theorem dX2_readInto_60 : decode cX2_readInto 60 = .ok (.iload_n 3, 1) := by decide +kernel
theorem dX2_readInto_61 : decode cX2_readInto 61 = .ok (.bipush 116, 2) := by decide +kernel
theorem dX2_readInto_63 : decode cX2_readInto 63 = .ok (.invokevirtual 27, 3) := by decide +kernel
theorem dX2_readInto_66 : decode cX2_readInto 66 = .ok (.ifCond .eq 7, 3) := by decide +kernel
theorem dX2_readInto_69 : decode cX2_readInto 69 = .ok (.iconst 4, 1) := by decide +kernel
theorem dX2_readInto_70 : decode cX2_readInto 70 = .ok (.goto 5, 3) := by decide +kernel
theorem dX2_readInto_73 : decode cX2_readInto 73 = .ok (.bipush 6, 2) := by decide +kernel
theorem dX2_readInto_75 : decode cX2_readInto 75 = .ok (.iadd, 1) := by decide +kernel
theorem dX2_readInto_76 : decode cX2_readInto 76 = .ok (.istore_n 3, 1) := by decide +kernel
theorem dX2_readInto_77 : decode cX2_readInto 77 = .ok (.goto (-45), 3) := by decide +kernel
theorem dX2_readInto_80 : decode cX2_readInto 80 = .ok (.bipush (-9), 2) := by decide +kernel
theorem dX2_readInto_82 : decode cX2_readInto 82 = .ok (.ireturn, 1) := by decide +kernel
theorem dX2_readPart_0 : decode cX2_readPart 0 = .ok (.aload_n 0, 1) := by decide +kernel
theorem dX2_readPart_1 : decode cX2_readPart 1 = .ok (.iload_n 2, 1) := by decide +kernel
theorem dX2_readPart_2 : decode cX2_readPart 2 = .ok (.bipush 116, 2) := by decide +kernel
theorem dX2_readPart_4 : decode cX2_readPart 4 = .ok (.invokevirtual 27, 3) := by decide +kernel
theorem dX2_readPart_7 : decode cX2_readPart 7 = .ok (.ifCond .eq 20, 3) := by decide +kernel
theorem dX2_readPart_10 : decode cX2_readPart 10 = .ok (.aload_n 1, 1) := by decide +kernel
theorem dX2_readPart_11 : decode cX2_readPart 11 = .ok (.getfield 45, 3) := by decide +kernel
theorem dX2_readPart_14 : decode cX2_readPart 14 = .ok (.invokevirtual 49, 3) := by decide +kernel
theorem dX2_readPart_17 : decode cX2_readPart 17 = .ok (.ifCond .ne 10, 3) := by decide +kernel
theorem dX2_readPart_20 : decode cX2_readPart 20 = .ok (.aload_n 0, 1) := by decide +kernel
theorem dX2_readPart_21 : decode cX2_readPart 21 = .ok (.aload_n 1, 1) := by decide +kernel
theorem dX2_readPart_22 : decode cX2_readPart 22 = .ok (.iload_n 2, 1) := by decide +kernel
theorem dX2_readPart_23 : decode cX2_readPart 23 = .ok (.invokevirtual 54, 3) := by decide +kernel
theorem dX2_readPart_26 : decode cX2_readPart 26 = .ok (.ireturn, 1) := by decide +kernel
theorem dX2_readPart_27 : decode cX2_readPart 27 = .ok (.aload_n 0, 1) := by decide +kernel
theorem dX2_readPart_28 : decode cX2_readPart 28 = .ok (.iload_n 2, 1) := by decide +kernel
theorem dX2_readPart_29 : decode cX2_readPart 29 = .ok (.bipush 99, 2) := by decide +kernel
theorem dX2_readPart_31 : decode cX2_readPart 31 = .ok (.invokevirtual 27, 3) := by decide +kernel
theorem dX2_readPart_34 : decode cX2_readPart 34 = .ok (.ifCond .eq 20, 3) := by decide +kernel
theorem dX2_readPart_37 : decode cX2_readPart 37 = .ok (.aload_n 1, 1) := by decide +kernel
theorem dX2_readPart_38 : decode cX2_readPart 38 = .ok (.getfield 57, 3) := by decide +kernel
theorem dX2_readPart_41 : decode cX2_readPart 41 = .ok (.invokevirtual 61, 3) := by decide +kernel
theorem dX2_readPart_44 : decode cX2_readPart 44 = .ok (.ifCond .ne 10, 3) := by decide +kernel
theorem dX2_readPart_47 : decode cX2_readPart 47 = .ok (.aload_n 0, 1) := by decide +kernel
theorem dX2_readPart_48 : decode cX2_readPart 48 = .ok (.aload_n 1, 1) := by decide +kernel
theorem dX2_readPart_49 : decode cX2_readPart 49 = .ok (.iload_n 2, 1) := by decide +kernel
theorem dX2_readPart_50 : decode cX2_readPart 50 = .ok (.invokevirtual 64, 3) := by decide +kernel
theorem dX2_readPart_53 : decode cX2_readPart 53 = .ok (.ireturn, 1) := by decide +kernel
theorem dX2_readPart_54 : decode cX2_readPart 54 = .ok (.iload_n 2, 1) := by decide +kernel
theorem dX2_readPart_55 : decode cX2_readPart 55 = .ok (.ireturn, 1) := by decide +kernel
theorem dX2_readTrack_0 : decode cX2_readTrack 0 = .ok (.aload_n 0, 1) := by decide +kernel
theorem dX2_readTrack_1 : decode cX2_readTrack 1 = .ok (.aload_n 1, 1) := by decide +kernel
theorem dX2_readTrack_2 : decode cX2_readTrack 2 = .ok (.getfield 67, 3) := by decide +kernel
theorem dX2_readTrack_5 : decode cX2_readTrack 5 = .ok (.iload_n 2, 1) := by decide +kernel
theorem dX2_readTrack_6 : decode cX2_readTrack 6 = .ok (.iconst 1, 1) := by decide +kernel
theorem dX2_readTrack_7 : decode cX2_readTrack 7 = .ok (.iadd, 1) := by decide +kernel
theorem dX2_readTrack_8 : decode cX2_readTrack 8 = .ok (.invokevirtual 70, 3) := by decide +kernel
theorem dX2_readTrack_11 : decode cX2_readTrack 11 = .ok (.istore_n 3, 1) := by decide +kernel
theorem dX2_readTrack_12 : decode cX2_readTrack 12 = .ok (.iload_n 3, 1) := by decide +kernel
theorem dX2_readTrack_13 : decode cX2_readTrack 13 = .ok (.bipush (-9), 2) := by decide +kernel
theorem dX2_readTrack_15 : decode cX2_readTrack 15 = .ok (.if_icmp .eq 5, 3) := by decide +kernel
theorem dX2_readTrack_18 : decode cX2_readTrack 18 = .ok (.iload_n 3, 1) := by decide +kernel
theorem dX2_readTrack_19 : decode cX2_readTrack 19 = .ok (.ireturn, 1) := by decide +kernel
theorem dX2_readTrack_20 : decode cX2_readTrack 20 = .ok (.aload_n 0, 1) := by decide +kernel
theorem dX2_readTrack_21 : decode cX2_readTrack 21 = .ok (.iload_n 2, 1) := by decide +kernel
theorem dX2_readTrack_22 : decode cX2_readTrack 22 = .ok (.iconst 3, 1) := by decide +kernel
theorem dX2_readTrack_23 : decode cX2_readTrack 23 = .ok (.iadd, 1) := by decide +kernel
theorem dX2_readTrack_24 : decode cX2_readTrack 24 = .ok (.invokevirtual 31, 3) := by decide +kernel
theorem dX2_readTrack_27 : decode cX2_readTrack 27 = .ok (.istore 4, 2) := by decide +kernel
theorem dX2_readTrack_29 : decode cX2_readTrack 29 = .ok (.iload 4, 2) := by decide +kernel
theorem dX2_readTrack_31 : decode cX2_readTrack 31 = .ok (.iconst 1, 1) := by decide +kernel
theorem dX2_readTrack_32 : decode cX2_readTrack 32 = .ok (.if_icmp .ge 7, 3) := by decide +kernel
theorem dX2_readTrack_35 : decode cX2_readTrack 35 = .ok (.iload_n 2, 1) := by decide +kernel
theorem dX2_readTrack_36 : decode cX2_readTrack 36 = .ok (.iconst 3, 1) := by decide +kernel
theorem dX2_readTrack_37 : decode cX2_readTrack 37 = .ok (.iadd, 1) := by decide +kernel
theorem dX2_readTrack_38 : decode cX2_readTrack 38 = .ok (.ireturn, 1) := by decide +kernel
theorem dX2_readTrack_39 : decode cX2_readTrack 39 = .ok (.aload_n 1, 1) := by decide +kernel
theorem dX2_readTrack_40 : decode cX2_readTrack 40 = .ok (.getfield 45, 3) := by decide +kernel
theorem dX2_readTrack_43 : decode cX2_readTrack 43 = .ok (.aload_n 0, 1) := by decide +kernel
theorem dX2_readTrack_44 : decode cX2_readTrack 44 = .ok (.iload_n 2, 1) := by decide +kernel
theorem dX2_readTrack_45 : decode cX2_readTrack 45 = .ok (.iconst 1, 1) := by decide +kernel
theorem dX2_readTrack_46 : decode cX2_readTrack 46 = .ok (.iadd, 1) := by decide +kernel
theorem dX2_readTrack_47 : decode cX2_readTrack 47 = .ok (.invokevirtual 31, 3) := by decide +kernel
theorem dX2_readTrack_50 : decode cX2_readTrack 50 = .ok (.aload_n 0, 1) := by decide +kernel
theorem dX2_readTrack_51 : decode cX2_readTrack 51 = .ok (.iload_n 2, 1) := by decide +kernel
theorem dX2_readTrack_52 : decode cX2_readTrack 52 = .ok (.iconst 2, 1) := by decide +kernel
theorem dX2_readTrack_53 : decode cX2_readTrack 53 = .ok (.iadd, 1) := by decide +kernel
theorem dX2_readTrack_54 : decode cX2_readTrack 54 = .ok (.invokevirtual 31, 3) := by decide +kernel
theorem dX2_readTrack_57 : decode cX2_readTrack 57 = .ok (.iload 4, 2) := by decide +kernel
theorem dX2_readTrack_59 : decode cX2_readTrack 59 = .ok (.invokevirtual 74, 3) := by decide +kernel
theorem dX2_readTrack_62 : decode cX2_readTrack 62 = .ok (.bipush (-9), 2) := by decide +kernel
theorem dX2_readTrack_64 : decode cX2_readTrack 64 = .ok (.ireturn, 1) := by decide +kernel
theorem dX2_readContract_0 : decode cX2_readContract 0 = .ok (.aload_n 0, 1) := by decide +kernel
theorem dX2_readContract_1 : decode cX2_readContract 1 = .ok (.aload_n 1, 1) := by decide +kernel
theorem dX2_readContract_2 : decode cX2_readContract 2 = .ok (.getfield 67, 3) := by decide +kernel
theorem dX2_readContract_5 : decode cX2_readContract 5 = .ok (.iload_n 2, 1) := by decide +kernel
theorem dX2_readContract_6 : decode cX2_readContract 6 = .ok (.iconst 1, 1) := by decide +kernel
theorem dX2_readContract_7 : decode cX2_readContract 7 = .ok (.iadd, 1) := by decide +kernel
theorem dX2_readContract_8 : decode cX2_readContract 8 = .ok (.invokevirtual 70, 3) := by decide +kernel
theorem dX2_readContract_11 : decode cX2_readContract 11 = .ok (.istore_n 3, 1) := by decide +kernel
theorem dX2_readContract_12 : decode cX2_readContract 12 = .ok (.iload_n 3, 1) := by decide +kernel
theorem dX2_readContract_13 : decode cX2_readContract 13 = .ok (.bipush (-9), 2) := by decide +kernel
theorem dX2_readContract_15 : decode cX2_readContract 15 = .ok (.if_icmp .eq 5, 3) := by decide +kernel
theorem dX2_readContract_18 : decode cX2_readContract 18 = .ok (.iload_n 3, 1) := by decide +kernel
theorem dX2_readContract_19 : decode cX2_readContract 19 = .ok (.ireturn, 1) := by decide +kernel
theorem dX2_readContract_20 : decode cX2_readContract 20 = .ok (.aload_n 0, 1) := by decide +kernel
theorem dX2_readContract_21 : decode cX2_readContract 21 = .ok (.iload_n 2, 1) := by decide +kernel
theorem dX2_readContract_22 : decode cX2_readContract 22 = .ok (.iconst 3, 1) := by decide +kernel
theorem dX2_readContract_23 : decode cX2_readContract 23 = .ok (.iadd, 1) := by decide +kernel
theorem dX2_readContract_24 : decode cX2_readContract 24 = .ok (.invokevirtual 31, 3) := by decide +kernel
theorem dX2_readContract_27 : decode cX2_readContract 27 = .ok (.istore 4, 2) := by decide +kernel
theorem dX2_readContract_29 : decode cX2_readContract 29 = .ok (.iload 4, 2) := by decide +kernel
theorem dX2_readContract_31 : decode cX2_readContract 31 = .ok (.ifCond .ge 7, 3) := by decide +kernel
theorem dX2_readContract_34 : decode cX2_readContract 34 = .ok (.iload_n 2, 1) := by decide +kernel
theorem dX2_readContract_35 : decode cX2_readContract 35 = .ok (.iconst 3, 1) := by decide +kernel
theorem dX2_readContract_36 : decode cX2_readContract 36 = .ok (.iadd, 1) := by decide +kernel
theorem dX2_readContract_37 : decode cX2_readContract 37 = .ok (.ireturn, 1) := by decide +kernel
theorem dX2_readContract_38 : decode cX2_readContract 38 = .ok (.aload_n 0, 1) := by decide +kernel
theorem dX2_readContract_39 : decode cX2_readContract 39 = .ok (.iload_n 2, 1) := by decide +kernel
theorem dX2_readContract_40 : decode cX2_readContract 40 = .ok (.iconst 4, 1) := by decide +kernel
theorem dX2_readContract_41 : decode cX2_readContract 41 = .ok (.iadd, 1) := by decide +kernel
theorem dX2_readContract_42 : decode cX2_readContract 42 = .ok (.invokevirtual 31, 3) := by decide +kernel
theorem dX2_readContract_45 : decode cX2_readContract 45 = .ok (.istore 5, 2) := by decide +kernel
theorem dX2_readContract_47 : decode cX2_readContract 47 = .ok (.iload 5, 2) := by decide +kernel
theorem dX2_readContract_49 : decode cX2_readContract 49 = .ok (.ifCond .lt 11, 3) := by decide +kernel
theorem dX2_readContract_52 : decode cX2_readContract 52 = .ok (.iload 4, 2) := by decide +kernel
theorem dX2_readContract_54 : decode cX2_readContract 54 = .ok (.iload 5, 2) := by decide +kernel
theorem dX2_readContract_56 : decode cX2_readContract 56 = .ok (.iadd, 1) := by decide +kernel
theorem dX2_readContract_57 : decode cX2_readContract 57 = .ok (.ifCond .ne 7, 3) := by decide +kernel
theorem dX2_readContract_60 : decode cX2_readContract 60 = .ok (.iload_n 2, 1) := by decide +kernel
theorem dX2_readContract_61 : decode cX2_readContract 61 = .ok (.iconst 4, 1) := by decide +kernel
theorem dX2_readContract_62 : decode cX2_readContract 62 = .ok (.iadd, 1) := by decide +kernel
theorem dX2_readContract_63 : decode cX2_readContract 63 = .ok (.ireturn, 1) := by decide +kernel
theorem dX2_readContract_64 : decode cX2_readContract 64 = .ok (.aload_n 0, 1) := by decide +kernel
theorem dX2_readContract_65 : decode cX2_readContract 65 = .ok (.iload_n 2, 1) := by decide +kernel
theorem dX2_readContract_66 : decode cX2_readContract 66 = .ok (.iconst 5, 1) := by decide +kernel
theorem dX2_readContract_67 : decode cX2_readContract 67 = .ok (.iadd, 1) := by decide +kernel
theorem dX2_readContract_68 : decode cX2_readContract 68 = .ok (.invokevirtual 31, 3) := by decide +kernel
theorem dX2_readContract_71 : decode cX2_readContract 71 = .ok (.istore 6, 2) := by decide +kernel
theorem dX2_readContract_73 : decode cX2_readContract 73 = .ok (.iload 6, 2) := by decide +kernel
theorem dX2_readContract_75 : decode cX2_readContract 75 = .ok (.iconst 1, 1) := by decide +kernel
theorem dX2_readContract_76 : decode cX2_readContract 76 = .ok (.if_icmp .ge 7, 3) := by decide +kernel
theorem dX2_readContract_79 : decode cX2_readContract 79 = .ok (.iload_n 2, 1) := by decide +kernel
theorem dX2_readContract_80 : decode cX2_readContract 80 = .ok (.iconst 5, 1) := by decide +kernel
theorem dX2_readContract_81 : decode cX2_readContract 81 = .ok (.iadd, 1) := by decide +kernel
theorem dX2_readContract_82 : decode cX2_readContract 82 = .ok (.ireturn, 1) := by decide +kernel
theorem dX2_readContract_83 : decode cX2_readContract 83 = .ok (.aload_n 1, 1) := by decide +kernel
theorem dX2_readContract_84 : decode cX2_readContract 84 = .ok (.getfield 57, 3) := by decide +kernel
theorem dX2_readContract_87 : decode cX2_readContract 87 = .ok (.aload_n 0, 1) := by decide +kernel
theorem dX2_readContract_88 : decode cX2_readContract 88 = .ok (.iload_n 2, 1) := by decide +kernel
theorem dX2_readContract_89 : decode cX2_readContract 89 = .ok (.iconst 1, 1) := by decide +kernel
theorem dX2_readContract_90 : decode cX2_readContract 90 = .ok (.iadd, 1) := by decide +kernel
theorem dX2_readContract_91 : decode cX2_readContract 91 = .ok (.invokevirtual 31, 3) := by decide +kernel
theorem dX2_readContract_94 : decode cX2_readContract 94 = .ok (.aload_n 0, 1) := by decide +kernel
theorem dX2_readContract_95 : decode cX2_readContract 95 = .ok (.iload_n 2, 1) := by decide +kernel
theorem dX2_readContract_96 : decode cX2_readContract 96 = .ok (.iconst 2, 1) := by decide +kernel
theorem dX2_readContract_97 : decode cX2_readContract 97 = .ok (.iadd, 1) := by decide +kernel
theorem dX2_readContract_98 : decode cX2_readContract 98 = .ok (.invokevirtual 31, 3) := by decide +kernel
theorem dX2_readContract_101 : decode cX2_readContract 101 = .ok (.bipush 10, 2) := by decide +kernel
theorem dX2_readContract_103 : decode cX2_readContract 103 = .ok (.iload 4, 2) := by decide +kernel
theorem dX2_readContract_105 : decode cX2_readContract 105 = .ok (.imul, 1) := by decide +kernel
theorem dX2_readContract_106 : decode cX2_readContract 106 = .ok (.iload 5, 2) := by decide +kernel
theorem dX2_readContract_108 : decode cX2_readContract 108 = .ok (.iadd, 1) := by decide +kernel
theorem dX2_readContract_109 : decode cX2_readContract 109 = .ok (.iload 6, 2) := by decide +kernel
theorem dX2_readContract_111 : decode cX2_readContract 111 = .ok (.invokevirtual 78, 3) := by decide +kernel
theorem dX2_readContract_114 : decode cX2_readContract 114 = .ok (.bipush (-9), 2) := by decide +kernel
theorem dX2_readContract_116 : decode cX2_readContract 116 = .ok (.ireturn, 1) := by decide +kernel
theorem dX2_errorOfCities_0 : decode cX2_errorOfCities 0 = .ok (.aload_n 0, 1) := by decide +kernel
theorem dX2_errorOfCities_1 : decode cX2_errorOfCities 1 = .ok (.iload_n 2, 1) := by decide +kernel
theorem dX2_errorOfCities_2 : decode cX2_errorOfCities 2 = .ok (.invokevirtual 31, 3) := by decide +kernel
theorem dX2_errorOfCities_5 : decode cX2_errorOfCities 5 = .ok (.istore_n 3, 1) := by decide +kernel
theorem dX2_errorOfCities_6 : decode cX2_errorOfCities 6 = .ok (.iload_n 3, 1) := by decide +kernel
theorem dX2_errorOfCities_7 : decode cX2_errorOfCities 7 = .ok (.ifCond .lt 8, 3) := by decide +kernel
theorem dX2_errorOfCities_10 : decode cX2_errorOfCities 10 = .ok (.iload_n 3, 1) := by decide +kernel
theorem dX2_errorOfCities_11 : decode cX2_errorOfCities 11 = .ok (.iload_n 1, 1) := by decide +kernel
theorem dX2_errorOfCities_12 : decode cX2_errorOfCities 12 = .ok (.if_icmp .lt 5, 3) := by decide +kernel
theorem dX2_errorOfCities_15 : decode cX2_errorOfCities 15 = .ok (.iload_n 2, 1) := by decide +kernel
theorem dX2_errorOfCities_16 : decode cX2_errorOfCities 16 = .ok (.ireturn, 1) := by decide +kernel
theorem dX2_errorOfCities_17 : decode cX2_errorOfCities 17 = .ok (.aload_n 0, 1) := by decide +kernel
theorem dX2_errorOfCities_18 : decode cX2_errorOfCities 18 = .ok (.iload_n 2, 1) := by decide +kernel
theorem dX2_errorOfCities_19 : decode cX2_errorOfCities 19 = .ok (.iconst 1, 1) := by decide +kernel
theorem dX2_errorOfCities_20 : decode cX2_errorOfCities 20 = .ok (.iadd, 1) := by decide +kernel
theorem dX2_errorOfCities_21 : decode cX2_errorOfCities 21 = .ok (.invokevirtual 31, 3) := by decide +kernel
theorem dX2_errorOfCities_24 : decode cX2_errorOfCities 24 = .ok (.istore 4, 2) := by decide +kernel
theorem dX2_errorOfCities_26 : decode cX2_errorOfCities 26 = .ok (.iload 4, 2) := by decide +kernel
theorem dX2_errorOfCities_28 : decode cX2_errorOfCities 28 = .ok (.ifCond .lt 15, 3) := by decide +kernel
theorem dX2_errorOfCities_31 : decode cX2_errorOfCities 31 = .ok (.iload 4, 2) := by decide +kernel
theorem dX2_errorOfCities_33 : decode cX2_errorOfCities 33 = .ok (.iload_n 1, 1) := by decide +kernel
theorem dX2_errorOfCities_34 : decode cX2_errorOfCities 34 = .ok (.if_icmp .ge 9, 3) := by decide +kernel
theorem dX2_errorOfCities_37 : decode cX2_errorOfCities 37 = .ok (.iload 4, 2) := by decide +kernel
theorem dX2_errorOfCities_39 : decode cX2_errorOfCities 39 = .ok (.iload_n 3, 1) := by decide +kernel
theorem dX2_errorOfCities_40 : decode cX2_errorOfCities 40 = .ok (.if_icmp .ne 9, 3) := by decide +kernel
theorem dX2_errorOfCities_43 : decode cX2_errorOfCities 43 = .ok (.iload_n 2, 1) := by decide +kernel
theorem dX2_errorOfCities_44 : decode cX2_errorOfCities 44 = .ok (.iconst 1, 1) := by decide +kernel
theorem dX2_errorOfCities_45 : decode cX2_errorOfCities 45 = .ok (.iadd, 1) := by decide +kernel
theorem dX2_errorOfCities_46 : decode cX2_errorOfCities 46 = .ok (.goto 5, 3) := by decide +kernel
theorem dX2_errorOfCities_49 : decode cX2_errorOfCities 49 = .ok (.bipush (-9), 2) := by decide +kernel
theorem dX2_errorOfCities_51 : decode cX2_errorOfCities 51 = .ok (.ireturn, 1) := by decide +kernel
theorem dX2_holds_0 : decode cX2_holds 0 = .ok (.iload_n 1, 1) := by decide +kernel
theorem dX2_holds_1 : decode cX2_holds 1 = .ok (.ifCond .lt 27, 3) := by decide +kernel
theorem dX2_holds_4 : decode cX2_holds 4 = .ok (.iload_n 1, 1) := by decide +kernel
theorem dX2_holds_5 : decode cX2_holds 5 = .ok (.aload_n 0, 1) := by decide +kernel
theorem dX2_holds_6 : decode cX2_holds 6 = .ok (.getfield 15, 3) := by decide +kernel
theorem dX2_holds_9 : decode cX2_holds 9 = .ok (.if_icmp .ge 19, 3) := by decide +kernel
theorem dX2_holds_12 : decode cX2_holds 12 = .ok (.aload_n 0, 1) := by decide +kernel
theorem dX2_holds_13 : decode cX2_holds 13 = .ok (.getfield 9, 3) := by decide +kernel
theorem dX2_holds_16 : decode cX2_holds 16 = .ok (.iload_n 1, 1) := by decide +kernel
theorem dX2_holds_17 : decode cX2_holds 17 = .ok (.invokestatic 81, 3) := by decide +kernel
theorem dX2_holds_20 : decode cX2_holds 20 = .ok (.iload_n 2, 1) := by decide +kernel
theorem dX2_holds_21 : decode cX2_holds 21 = .ok (.if_icmp .ne 7, 3) := by decide +kernel
theorem dX2_holds_24 : decode cX2_holds 24 = .ok (.iconst 1, 1) := by decide +kernel
theorem dX2_holds_25 : decode cX2_holds 25 = .ok (.goto 4, 3) := by decide +kernel
theorem dX2_holds_28 : decode cX2_holds 28 = .ok (.iconst 0, 1) := by decide +kernel
theorem dX2_holds_29 : decode cX2_holds 29 = .ok (.ireturn, 1) := by decide +kernel
theorem dX2_digitAt_0 : decode cX2_digitAt 0 = .ok (.iload_n 1, 1) := by decide +kernel
theorem dX2_digitAt_1 : decode cX2_digitAt 1 = .ok (.ifCond .lt 11, 3) := by decide +kernel
theorem dX2_digitAt_4 : decode cX2_digitAt 4 = .ok (.iload_n 1, 1) := by decide +kernel
theorem dX2_digitAt_5 : decode cX2_digitAt 5 = .ok (.aload_n 0, 1) := by decide +kernel
theorem dX2_digitAt_6 : decode cX2_digitAt 6 = .ok (.getfield 15, 3) := by decide +kernel
theorem dX2_digitAt_9 : decode cX2_digitAt 9 = .ok (.if_icmp .lt 5, 3) := by decide +kernel
theorem dX2_digitAt_12 : decode cX2_digitAt 12 = .ok (.iconst (-1), 1) := by decide +kernel
theorem dX2_digitAt_13 : decode cX2_digitAt 13 = .ok (.ireturn, 1) := by decide +kernel
theorem dX2_digitAt_14 : decode cX2_digitAt 14 = .ok (.aload_n 0, 1) := by decide +kernel
theorem dX2_digitAt_15 : decode cX2_digitAt 15 = .ok (.getfield 9, 3) := by decide +kernel
theorem dX2_digitAt_18 : decode cX2_digitAt 18 = .ok (.iload_n 1, 1) := by decide +kernel
theorem dX2_digitAt_19 : decode cX2_digitAt 19 = .ok (.invokestatic 81, 3) := by decide +kernel
theorem dX2_digitAt_22 : decode cX2_digitAt 22 = .ok (.istore_n 2, 1) := by decide +kernel
theorem dX2_digitAt_23 : decode cX2_digitAt 23 = .ok (.iload_n 2, 1) := by decide +kernel
theorem dX2_digitAt_24 : decode cX2_digitAt 24 = .ok (.bipush 48, 2) := by decide +kernel
theorem dX2_digitAt_26 : decode cX2_digitAt 26 = .ok (.if_icmp .lt 16, 3) := by decide +kernel
theorem dX2_digitAt_29 : decode cX2_digitAt 29 = .ok (.iload_n 2, 1) := by decide +kernel
theorem dX2_digitAt_30 : decode cX2_digitAt 30 = .ok (.bipush 57, 2) := by decide +kernel
theorem dX2_digitAt_32 : decode cX2_digitAt 32 = .ok (.if_icmp .gt 10, 3) := by decide +kernel
theorem dX2_digitAt_35 : decode cX2_digitAt 35 = .ok (.iload_n 2, 1) := by decide +kernel
theorem dX2_digitAt_36 : decode cX2_digitAt 36 = .ok (.bipush 48, 2) := by decide +kernel
theorem dX2_digitAt_38 : decode cX2_digitAt 38 = .ok (.isub, 1) := by decide +kernel
theorem dX2_digitAt_39 : decode cX2_digitAt 39 = .ok (.goto 4, 3) := by decide +kernel
theorem dX2_digitAt_42 : decode cX2_digitAt 42 = .ok (.iconst (-1), 1) := by decide +kernel
theorem dX2_digitAt_43 : decode cX2_digitAt 43 = .ok (.ireturn, 1) := by decide +kernel
theorem dX3_init_0 : decode cX3_init 0 = .ok (.aload_n 0, 1) := by decide +kernel
theorem dX3_init_1 : decode cX3_init 1 = .ok (.invokespecial 3, 3) := by decide +kernel
theorem dX3_init_4 : decode cX3_init 4 = .ok (.aload_n 0, 1) := by decide +kernel
theorem dX3_init_5 : decode cX3_init 5 = .ok (.bipush 14, 2) := by decide +kernel
theorem dX3_init_7 : decode cX3_init 7 = .ok (.anewarray 9, 3) := by decide +kernel
theorem dX3_init_10 : decode cX3_init 10 = .ok (.putfield 11, 3) := by decide +kernel
theorem dX3_init_13 : decode cX3_init 13 = .ok (.iconst 0, 1) := by decide +kernel
theorem dX3_init_14 : decode cX3_init 14 = .ok (.istore_n 1, 1) := by decide +kernel
theorem dX3_init_15 : decode cX3_init 15 = .ok (.iload_n 1, 1) := by decide +kernel
theorem dX3_init_16 : decode cX3_init 16 = .ok (.bipush 14, 2) := by decide +kernel
theorem dX3_init_18 : decode cX3_init 18 = .ok (.if_icmp .ge 22, 3) := by decide +kernel
theorem dX3_init_21 : decode cX3_init 21 = .ok (.aload_n 0, 1) := by decide +kernel
theorem dX3_init_22 : decode cX3_init 22 = .ok (.getfield 11, 3) := by decide +kernel
theorem dX3_init_25 : decode cX3_init 25 = .ok (.iload_n 1, 1) := by decide +kernel
theorem dX3_init_26 : decode cX3_init 26 = .ok (.new 9, 3) := by decide +kernel
theorem dX3_init_29 : decode cX3_init 29 = .ok (.dup, 1) := by decide +kernel
theorem dX3_init_30 : decode cX3_init 30 = .ok (.invokespecial 17, 3) := by decide +kernel
theorem dX3_init_33 : decode cX3_init 33 = .ok (.aastore, 1) := by decide +kernel
theorem dX3_init_34 : decode cX3_init 34 = .ok (.iinc 1 1, 3) := by decide +kernel
theorem dX3_init_37 : decode cX3_init 37 = .ok (.goto (-22), 3) := by decide +kernel
theorem dX3_init_40 : decode cX3_init 40 = .ok (.return_, 1) := by decide +kernel
theorem dX3_remember_0 : decode cX3_remember 0 = .ok (.aload_n 1, 1) := by decide +kernel
theorem dX3_remember_1 : decode cX3_remember 1 = .ok (.aload_n 0, 1) := by decide +kernel
theorem dX3_remember_2 : decode cX3_remember 2 = .ok (.aload_n 0, 1) := by decide +kernel
theorem dX3_remember_3 : decode cX3_remember 3 = .ok (.getfield 18, 3) := by decide +kernel
theorem dX3_remember_6 : decode cX3_remember 6 = .ok (.invokevirtual 22, 3) := by decide +kernel
theorem dX3_remember_9 : decode cX3_remember 9 = .ok (.invokestatic 26, 3) := by decide +kernel
theorem dX3_remember_12 : decode cX3_remember 12 = .ok (.aload_n 0, 1) := by decide +kernel
theorem dX3_remember_13 : decode cX3_remember 13 = .ok (.getfield 18, 3) := by decide +kernel
theorem dX3_remember_16 : decode cX3_remember 16 = .ok (.bipush 14, 2) := by decide +kernel
theorem dX3_remember_18 : decode cX3_remember 18 = .ok (.if_icmp .ge 16, 3) := by decide +kernel
theorem dX3_remember_21 : decode cX3_remember 21 = .ok (.aload_n 0, 1) := by decide +kernel
theorem dX3_remember_22 : decode cX3_remember 22 = .ok (.dup, 1) := by decide +kernel
theorem dX3_remember_23 : decode cX3_remember 23 = .ok (.getfield 18, 3) := by decide +kernel
theorem dX3_remember_26 : decode cX3_remember 26 = .ok (.iconst 1, 1) := by decide +kernel
theorem dX3_remember_27 : decode cX3_remember 27 = .ok (.iadd, 1) := by decide +kernel
theorem dX3_remember_28 : decode cX3_remember 28 = .ok (.putfield 18, 3) := by decide +kernel
theorem dX3_remember_31 : decode cX3_remember 31 = .ok (.goto 16, 3) := by decide +kernel
theorem dX3_remember_34 : decode cX3_remember 34 = .ok (.aload_n 0, 1) := by decide +kernel
theorem dX3_remember_35 : decode cX3_remember 35 = .ok (.aload_n 0, 1) := by decide +kernel
theorem dX3_remember_36 : decode cX3_remember 36 = .ok (.getfield 30, 3) := by decide +kernel
theorem dX3_remember_39 : decode cX3_remember 39 = .ok (.iconst 1, 1) := by decide +kernel
theorem dX3_remember_40 : decode cX3_remember 40 = .ok (.iadd, 1) := by decide +kernel
theorem dX3_remember_41 : decode cX3_remember 41 = .ok (.bipush 14, 2) := by decide +kernel
theorem dX3_remember_43 : decode cX3_remember 43 = .ok (.irem, 1) := by decide +kernel
theorem dX3_remember_44 : decode cX3_remember 44 = .ok (.putfield 30, 3) := by decide +kernel
theorem dX3_remember_47 : decode cX3_remember 47 = .ok (.return_, 1) := by decide +kernel
theorem dX3_takeBackInto_0 : decode cX3_takeBackInto 0 = .ok (.aload_n 0, 1) := by decide +kernel
theorem dX3_takeBackInto_1 : decode cX3_takeBackInto 1 = .ok (.getfield 18, 3) := by decide +kernel
theorem dX3_takeBackInto_4 : decode cX3_takeBackInto 4 = .ok (.ifCond .le 25, 3) := by decide +kernel
theorem dX3_takeBackInto_7 : decode cX3_takeBackInto 7 = .ok (.aload_n 0, 1) := by decide +kernel
theorem dX3_takeBackInto_8 : decode cX3_takeBackInto 8 = .ok (.dup, 1) := by decide +kernel
theorem dX3_takeBackInto_9 : decode cX3_takeBackInto 9 = .ok (.getfield 18, 3) := by decide +kernel
theorem dX3_takeBackInto_12 : decode cX3_takeBackInto 12 = .ok (.iconst 1, 1) := by decide +kernel
theorem dX3_takeBackInto_13 : decode cX3_takeBackInto 13 = .ok (.isub, 1) := by decide +kernel
theorem dX3_takeBackInto_14 : decode cX3_takeBackInto 14 = .ok (.putfield 18, 3) := by decide +kernel
theorem dX3_takeBackInto_17 : decode cX3_takeBackInto 17 = .ok (.aload_n 0, 1) := by decide +kernel
theorem dX3_takeBackInto_18 : decode cX3_takeBackInto 18 = .ok (.aload_n 0, 1) := by decide +kernel
theorem dX3_takeBackInto_19 : decode cX3_takeBackInto 19 = .ok (.getfield 18, 3) := by decide +kernel
theorem dX3_takeBackInto_22 : decode cX3_takeBackInto 22 = .ok (.invokevirtual 22, 3) := by decide +kernel
theorem dX3_takeBackInto_25 : decode cX3_takeBackInto 25 = .ok (.aload_n 1, 1) := by decide +kernel
theorem dX3_takeBackInto_26 : decode cX3_takeBackInto 26 = .ok (.invokestatic 26, 3) := by decide +kernel
theorem dX3_takeBackInto_29 : decode cX3_takeBackInto 29 = .ok (.return_, 1) := by decide +kernel
theorem dX3_forget_0 : decode cX3_forget 0 = .ok (.aload_n 0, 1) := by decide +kernel
theorem dX3_forget_1 : decode cX3_forget 1 = .ok (.iconst 0, 1) := by decide +kernel
theorem dX3_forget_2 : decode cX3_forget 2 = .ok (.putfield 18, 3) := by decide +kernel
theorem dX3_forget_5 : decode cX3_forget 5 = .ok (.return_, 1) := by decide +kernel
theorem dX3_stateAt_0 : decode cX3_stateAt 0 = .ok (.aload_n 0, 1) := by decide +kernel
theorem dX3_stateAt_1 : decode cX3_stateAt 1 = .ok (.getfield 30, 3) := by decide +kernel
theorem dX3_stateAt_4 : decode cX3_stateAt 4 = .ok (.iload_n 1, 1) := by decide +kernel
theorem dX3_stateAt_5 : decode cX3_stateAt 5 = .ok (.iadd, 1) := by decide +kernel
theorem dX3_stateAt_6 : decode cX3_stateAt 6 = .ok (.bipush 14, 2) := by decide +kernel
theorem dX3_stateAt_8 : decode cX3_stateAt 8 = .ok (.irem, 1) := by decide +kernel
theorem dX3_stateAt_9 : decode cX3_stateAt 9 = .ok (.istore_n 2, 1) := by decide +kernel
theorem dX3_stateAt_10 : decode cX3_stateAt 10 = .ok (.iload_n 2, 1) := by decide +kernel
theorem dX3_stateAt_11 : decode cX3_stateAt 11 = .ok (.ifCond .lt 21, 3) := by decide +kernel
theorem dX3_stateAt_14 : decode cX3_stateAt 14 = .ok (.iload_n 2, 1) := by decide +kernel
theorem dX3_stateAt_15 : decode cX3_stateAt 15 = .ok (.aload_n 0, 1) := by decide +kernel
theorem dX3_stateAt_16 : decode cX3_stateAt 16 = .ok (.getfield 11, 3) := by decide +kernel
theorem dX3_stateAt_19 : decode cX3_stateAt 19 = .ok (.arraylength, 1) := by decide +kernel
theorem dX3_stateAt_20 : decode cX3_stateAt 20 = .ok (.if_icmp .ge 12, 3) := by decide +kernel
theorem dX3_stateAt_23 : decode cX3_stateAt 23 = .ok (.aload_n 0, 1) := by decide +kernel
theorem dX3_stateAt_24 : decode cX3_stateAt 24 = .ok (.getfield 11, 3) := by decide +kernel
theorem dX3_stateAt_27 : decode cX3_stateAt 27 = .ok (.iload_n 2, 1) := by decide +kernel
theorem dX3_stateAt_28 : decode cX3_stateAt 28 = .ok (.aaload, 1) := by decide +kernel
theorem dX3_stateAt_29 : decode cX3_stateAt 29 = .ok (.goto 4, 3) := by decide +kernel
theorem dX3_stateAt_32 : decode cX3_stateAt 32 = .ok (.aconst_null, 1) := by decide +kernel
theorem dX3_stateAt_33 : decode cX3_stateAt 33 = .ok (.areturn, 1) := by decide +kernel
theorem dX4_init_0 : decode cX4_init 0 = .ok (.aload_n 0, 1) := by decide +kernel
theorem dX4_init_1 : decode cX4_init 1 = .ok (.invokespecial 3, 3) := by decide +kernel
theorem dX4_init_4 : decode cX4_init 4 = .ok (.aload_n 0, 1) := by decide +kernel
theorem dX4_init_5 : decode cX4_init 5 = .ok (.new 9, 3) := by decide +kernel
theorem dX4_init_8 : decode cX4_init 8 = .ok (.dup, 1) := by decide +kernel
theorem dX4_init_9 : decode cX4_init 9 = .ok (.invokespecial 11, 3) := by decide +kernel
theorem dX4_init_12 : decode cX4_init 12 = .ok (.putfield 12, 3) := by decide +kernel
theorem dX4_init_15 : decode cX4_init 15 = .ok (.return_, 1) := by decide +kernel
theorem dX4_reasonAgainst_0 : decode cX4_reasonAgainst 0 = .ok (.aload_n 1, 1) := by decide +kernel
theorem dX4_reasonAgainst_1 : decode cX4_reasonAgainst 1 = .ok (.getfield 18, 3) := by decide +kernel
theorem dX4_reasonAgainst_4 : decode cX4_reasonAgainst 4 = .ok (.astore 4, 2) := by decide +kernel
theorem dX4_reasonAgainst_6 : decode cX4_reasonAgainst 6 = .ok (.aload 4, 2) := by decide +kernel
theorem dX4_reasonAgainst_8 : decode cX4_reasonAgainst 8 = .ok (.iload_n 2, 1) := by decide +kernel
theorem dX4_reasonAgainst_9 : decode cX4_reasonAgainst 9 = .ok (.invokevirtual 24, 3) := by decide +kernel
theorem dX4_reasonAgainst_12 : decode cX4_reasonAgainst 12 = .ok (.istore 5, 2) := by decide +kernel
theorem dX4_reasonAgainst_14 : decode cX4_reasonAgainst 14 = .ok (.iload 5, 2) := by decide +kernel
theorem dX4_reasonAgainst_16 : decode cX4_reasonAgainst 16 = .ok (.bipush (-9), 2) := by decide +kernel
theorem dX4_reasonAgainst_18 : decode cX4_reasonAgainst 18 = .ok (.if_icmp .ne 5, 3) := by decide +kernel
theorem dX4_reasonAgainst_21 : decode cX4_reasonAgainst 21 = .ok (.iconst 1, 1) := by decide +kernel
theorem dX4_reasonAgainst_22 : decode cX4_reasonAgainst 22 = .ok (.ireturn, 1) := by decide +kernel
theorem dX4_reasonAgainst_23 : decode cX4_reasonAgainst 23 = .ok (.aload 4, 2) := by decide +kernel
theorem dX4_reasonAgainst_25 : decode cX4_reasonAgainst 25 = .ok (.getfield 30, 3) := by decide +kernel
theorem dX4_reasonAgainst_28 : decode cX4_reasonAgainst 28 = .ok (.iload_n 2, 1) := by decide +kernel
theorem dX4_reasonAgainst_29 : decode cX4_reasonAgainst 29 = .ok (.invokestatic 34, 3) := by decide +kernel
theorem dX4_reasonAgainst_32 : decode cX4_reasonAgainst 32 = .ok (.iconst 1, 1) := by decide +kernel
theorem dX4_reasonAgainst_33 : decode cX4_reasonAgainst 33 = .ok (.if_icmp .ne 5, 3) := by decide +kernel
theorem dX4_reasonAgainst_36 : decode cX4_reasonAgainst 36 = .ok (.iconst 2, 1) := by decide +kernel
theorem dX4_reasonAgainst_37 : decode cX4_reasonAgainst 37 = .ok (.ireturn, 1) := by decide +kernel
theorem dX4_reasonAgainst_38 : decode cX4_reasonAgainst 38 = .ok (.aload_n 1, 1) := by decide +kernel
theorem dX4_reasonAgainst_39 : decode cX4_reasonAgainst 39 = .ok (.getfield 38, 3) := by decide +kernel
theorem dX4_reasonAgainst_42 : decode cX4_reasonAgainst 42 = .ok (.iload 5, 2) := by decide +kernel
theorem dX4_reasonAgainst_44 : decode cX4_reasonAgainst 44 = .ok (.iload_n 3, 1) := by decide +kernel
theorem dX4_reasonAgainst_45 : decode cX4_reasonAgainst 45 = .ok (.invokevirtual 42, 3) := by decide +kernel
theorem dX4_reasonAgainst_48 : decode cX4_reasonAgainst 48 = .ok (.ifCond .eq 5, 3) := by decide +kernel
theorem dX4_reasonAgainst_51 : decode cX4_reasonAgainst 51 = .ok (.iconst 3, 1) := by decide +kernel
theorem dX4_reasonAgainst_52 : decode cX4_reasonAgainst 52 = .ok (.ireturn, 1) := by decide +kernel
theorem dX4_reasonAgainst_53 : decode cX4_reasonAgainst 53 = .ok (.iconst 4, 1) := by decide +kernel
theorem dX4_reasonAgainst_54 : decode cX4_reasonAgainst 54 = .ok (.aload_n 1, 1) := by decide +kernel
theorem dX4_reasonAgainst_55 : decode cX4_reasonAgainst 55 = .ok (.getfield 38, 3) := by decide +kernel
theorem dX4_reasonAgainst_58 : decode cX4_reasonAgainst 58 = .ok (.iload 5, 2) := by decide +kernel
theorem dX4_reasonAgainst_60 : decode cX4_reasonAgainst 60 = .ok (.iload_n 3, 1) := by decide +kernel
theorem dX4_reasonAgainst_61 : decode cX4_reasonAgainst 61 = .ok (.invokevirtual 48, 3) := by decide +kernel
theorem dX4_reasonAgainst_64 : decode cX4_reasonAgainst 64 = .ok (.imul, 1) := by decide +kernel
theorem dX4_reasonAgainst_65 : decode cX4_reasonAgainst 65 = .ok (.istore 6, 2) := by decide +kernel
theorem dX4_reasonAgainst_67 : decode cX4_reasonAgainst 67 = .ok (.aload_n 0, 1) := by decide +kernel
theorem dX4_reasonAgainst_68 : decode cX4_reasonAgainst 68 = .ok (.getfield 12, 3) := by decide +kernel
theorem dX4_reasonAgainst_71 : decode cX4_reasonAgainst 71 = .ok (.aload_n 1, 1) := by decide +kernel
theorem dX4_reasonAgainst_72 : decode cX4_reasonAgainst 72 = .ok (.iload 5, 2) := by decide +kernel
theorem dX4_reasonAgainst_74 : decode cX4_reasonAgainst 74 = .ok (.aload 4, 2) := by decide +kernel
theorem dX4_reasonAgainst_76 : decode cX4_reasonAgainst 76 = .ok (.getfield 52, 3) := by decide +kernel
theorem dX4_reasonAgainst_79 : decode cX4_reasonAgainst 79 = .ok (.iload_n 2, 1) := by decide +kernel
theorem dX4_reasonAgainst_80 : decode cX4_reasonAgainst 80 = .ok (.invokestatic 34, 3) := by decide +kernel
theorem dX4_reasonAgainst_83 : decode cX4_reasonAgainst 83 = .ok (.aload 4, 2) := by decide +kernel
theorem dX4_reasonAgainst_85 : decode cX4_reasonAgainst 85 = .ok (.getfield 55, 3) := by decide +kernel
theorem dX4_reasonAgainst_88 : decode cX4_reasonAgainst 88 = .ok (.iload_n 2, 1) := by decide +kernel
theorem dX4_reasonAgainst_89 : decode cX4_reasonAgainst 89 = .ok (.invokestatic 34, 3) := by decide +kernel
theorem dX4_reasonAgainst_92 : decode cX4_reasonAgainst 92 = .ok (.iload 6, 2) := by decide +kernel
theorem dX4_reasonAgainst_94 : decode cX4_reasonAgainst 94 = .ok (.invokevirtual 58, 3) := by decide +kernel
theorem dX4_reasonAgainst_97 : decode cX4_reasonAgainst 97 = .ok (.ifCond .eq 7, 3) := by decide +kernel
theorem dX4_reasonAgainst_100 : decode cX4_reasonAgainst 100 = .ok (.iconst 0, 1) := by decide +kernel
theorem dX4_reasonAgainst_101 : decode cX4_reasonAgainst 101 = .ok (.goto 4, 3) := by decide +kernel
theorem dX4_reasonAgainst_104 : decode cX4_reasonAgainst 104 = .ok (.iconst 4, 1) := by decide +kernel
theorem dX4_reasonAgainst_105 : decode cX4_reasonAgainst 105 = .ok (.ireturn, 1) := by decide +kernel
theorem dX4_carry_0 : decode cX4_carry 0 = .ok (.aload_n 1, 1) := by decide +kernel
theorem dX4_carry_1 : decode cX4_carry 1 = .ok (.getfield 18, 3) := by decide +kernel
theorem dX4_carry_4 : decode cX4_carry 4 = .ok (.astore 4, 2) := by decide +kernel
theorem dX4_carry_6 : decode cX4_carry 6 = .ok (.aload 4, 2) := by decide +kernel
theorem dX4_carry_8 : decode cX4_carry 8 = .ok (.iload_n 2, 1) := by decide +kernel
theorem dX4_carry_9 : decode cX4_carry 9 = .ok (.invokevirtual 24, 3) := by decide +kernel
theorem dX4_carry_12 : decode cX4_carry 12 = .ok (.istore 5, 2) := by decide +kernel
theorem dX4_carry_14 : decode cX4_carry 14 = .ok (.iconst 4, 1) := by decide +kernel
theorem dX4_carry_15 : decode cX4_carry 15 = .ok (.aload_n 1, 1) := by decide +kernel
theorem dX4_carry_16 : decode cX4_carry 16 = .ok (.getfield 38, 3) := by decide +kernel
theorem dX4_carry_19 : decode cX4_carry 19 = .ok (.iload 5, 2) := by decide +kernel
theorem dX4_carry_21 : decode cX4_carry 21 = .ok (.iload_n 3, 1) := by decide +kernel
theorem dX4_carry_22 : decode cX4_carry 22 = .ok (.invokevirtual 48, 3) := by decide +kernel
theorem dX4_carry_25 : decode cX4_carry 25 = .ok (.imul, 1) := by decide +kernel
theorem dX4_carry_26 : decode cX4_carry 26 = .ok (.istore 6, 2) := by decide +kernel
theorem dX4_carry_28 : decode cX4_carry 28 = .ok (.aload_n 0, 1) := by decide +kernel
theorem dX4_carry_29 : decode cX4_carry 29 = .ok (.getfield 12, 3) := by decide +kernel
theorem dX4_carry_32 : decode cX4_carry 32 = .ok (.aload_n 1, 1) := by decide +kernel
theorem dX4_carry_33 : decode cX4_carry 33 = .ok (.iload 5, 2) := by decide +kernel
theorem dX4_carry_35 : decode cX4_carry 35 = .ok (.aload 4, 2) := by decide +kernel
theorem dX4_carry_37 : decode cX4_carry 37 = .ok (.getfield 52, 3) := by decide +kernel
theorem dX4_carry_40 : decode cX4_carry 40 = .ok (.iload_n 2, 1) := by decide +kernel
theorem dX4_carry_41 : decode cX4_carry 41 = .ok (.invokestatic 34, 3) := by decide +kernel
theorem dX4_carry_44 : decode cX4_carry 44 = .ok (.aload 4, 2) := by decide +kernel
theorem dX4_carry_46 : decode cX4_carry 46 = .ok (.getfield 55, 3) := by decide +kernel
theorem dX4_carry_49 : decode cX4_carry 49 = .ok (.iload_n 2, 1) := by decide +kernel
theorem dX4_carry_50 : decode cX4_carry 50 = .ok (.invokestatic 34, 3) := by decide +kernel
theorem dX4_carry_53 : decode cX4_carry 53 = .ok (.iload 6, 2) := by decide +kernel
theorem dX4_carry_55 : decode cX4_carry 55 = .ok (.invokevirtual 58, 3) := by decide +kernel
theorem dX4_carry_58 : decode cX4_carry 58 = .ok (.pop, 1) := by decide +kernel
theorem dX4_carry_59 : decode cX4_carry 59 = .ok (.iconst 0, 1) := by decide +kernel
theorem dX4_carry_60 : decode cX4_carry 60 = .ok (.istore 7, 2) := by decide +kernel
theorem dX4_carry_62 : decode cX4_carry 62 = .ok (.iload 7, 2) := by decide +kernel
theorem dX4_carry_64 : decode cX4_carry 64 = .ok (.aload_n 0, 1) := by decide +kernel
theorem dX4_carry_65 : decode cX4_carry 65 = .ok (.getfield 12, 3) := by decide +kernel
theorem dX4_carry_68 : decode cX4_carry 68 = .ok (.getfield 62, 3) := by decide +kernel
theorem dX4_carry_71 : decode cX4_carry 71 = .ok (.if_icmp .ge 56, 3) := by decide +kernel
theorem dX4_carry_74 : decode cX4_carry 74 = .ok (.aload_n 0, 1) := by decide +kernel
theorem dX4_carry_75 : decode cX4_carry 75 = .ok (.getfield 12, 3) := by decide +kernel
theorem dX4_carry_78 : decode cX4_carry 78 = .ok (.getfield 66, 3) := by decide +kernel
theorem dX4_carry_81 : decode cX4_carry 81 = .ok (.iload 7, 2) := by decide +kernel
theorem dX4_carry_83 : decode cX4_carry 83 = .ok (.invokestatic 34, 3) := by decide +kernel
theorem dX4_carry_86 : decode cX4_carry 86 = .ok (.istore 8, 2) := by decide +kernel
theorem dX4_carry_88 : decode cX4_carry 88 = .ok (.aload_n 1, 1) := by decide +kernel
theorem dX4_carry_89 : decode cX4_carry 89 = .ok (.getfield 38, 3) := by decide +kernel
theorem dX4_carry_92 : decode cX4_carry 92 = .ok (.iload 5, 2) := by decide +kernel
theorem dX4_carry_94 : decode cX4_carry 94 = .ok (.aload_n 1, 1) := by decide +kernel
theorem dX4_carry_95 : decode cX4_carry 95 = .ok (.getfield 69, 3) := by decide +kernel
theorem dX4_carry_98 : decode cX4_carry 98 = .ok (.getfield 73, 3) := by decide +kernel
theorem dX4_carry_101 : decode cX4_carry 101 = .ok (.iload 8, 2) := by decide +kernel
theorem dX4_carry_103 : decode cX4_carry 103 = .ok (.invokestatic 34, 3) := by decide +kernel
theorem dX4_carry_106 : decode cX4_carry 106 = .ok (.aload_n 0, 1) := by decide +kernel
theorem dX4_carry_107 : decode cX4_carry 107 = .ok (.getfield 12, 3) := by decide +kernel
theorem dX4_carry_110 : decode cX4_carry 110 = .ok (.getfield 78, 3) := by decide +kernel
theorem dX4_carry_113 : decode cX4_carry 113 = .ok (.iload 8, 2) := by decide +kernel
theorem dX4_carry_115 : decode cX4_carry 115 = .ok (.invokestatic 34, 3) := by decide +kernel
theorem dX4_carry_118 : decode cX4_carry 118 = .ok (.invokevirtual 81, 3) := by decide +kernel
theorem dX4_carry_121 : decode cX4_carry 121 = .ok (.iinc 7 1, 3) := by decide +kernel
theorem dX4_carry_124 : decode cX4_carry 124 = .ok (.goto (-62), 3) := by decide +kernel
theorem dX4_carry_127 : decode cX4_carry 127 = .ok (.aload_n 1, 1) := by decide +kernel
theorem dX4_carry_128 : decode cX4_carry 128 = .ok (.iload 5, 2) := by decide +kernel
theorem dX4_carry_130 : decode cX4_carry 130 = .ok (.aload 4, 2) := by decide +kernel
theorem dX4_carry_132 : decode cX4_carry 132 = .ok (.getfield 85, 3) := by decide +kernel
theorem dX4_carry_135 : decode cX4_carry 135 = .ok (.iload_n 2, 1) := by decide +kernel
theorem dX4_carry_136 : decode cX4_carry 136 = .ok (.invokestatic 34, 3) := by decide +kernel
theorem dX4_carry_139 : decode cX4_carry 139 = .ok (.invokevirtual 88, 3) := by decide +kernel
theorem dX4_carry_142 : decode cX4_carry 142 = .ok (.aload 4, 2) := by decide +kernel
theorem dX4_carry_144 : decode cX4_carry 144 = .ok (.getfield 30, 3) := by decide +kernel
theorem dX4_carry_147 : decode cX4_carry 147 = .ok (.iload_n 2, 1) := by decide +kernel
theorem dX4_carry_148 : decode cX4_carry 148 = .ok (.iconst 1, 1) := by decide +kernel
theorem dX4_carry_149 : decode cX4_carry 149 = .ok (.invokestatic 92, 3) := by decide +kernel
theorem dX4_carry_152 : decode cX4_carry 152 = .ok (.aload_n 1, 1) := by decide +kernel
theorem dX4_carry_153 : decode cX4_carry 153 = .ok (.getfield 38, 3) := by decide +kernel
theorem dX4_carry_156 : decode cX4_carry 156 = .ok (.iload 5, 2) := by decide +kernel
theorem dX4_carry_158 : decode cX4_carry 158 = .ok (.iload_n 3, 1) := by decide +kernel
theorem dX4_carry_159 : decode cX4_carry 159 = .ok (.invokevirtual 96, 3) := by decide +kernel
theorem dX4_carry_162 : decode cX4_carry 162 = .ok (.aload_n 0, 1) := by decide +kernel
theorem dX4_carry_163 : decode cX4_carry 163 = .ok (.getfield 12, 3) := by decide +kernel
theorem dX4_carry_166 : decode cX4_carry 166 = .ok (.getfield 99, 3) := by decide +kernel
theorem dX4_carry_169 : decode cX4_carry 169 = .ok (.ireturn, 1) := by decide +kernel
theorem dX4_tryCarry_0 : decode cX4_tryCarry 0 = .ok (.aload_n 1, 1) := by decide +kernel
theorem dX4_tryCarry_1 : decode cX4_tryCarry 1 = .ok (.getfield 38, 3) := by decide +kernel
theorem dX4_tryCarry_4 : decode cX4_tryCarry 4 = .ok (.aload_n 1, 1) := by decide +kernel
theorem dX4_tryCarry_5 : decode cX4_tryCarry 5 = .ok (.getfield 18, 3) := by decide +kernel
theorem dX4_tryCarry_8 : decode cX4_tryCarry 8 = .ok (.iload_n 2, 1) := by decide +kernel
theorem dX4_tryCarry_9 : decode cX4_tryCarry 9 = .ok (.invokevirtual 24, 3) := by decide +kernel
theorem dX4_tryCarry_12 : decode cX4_tryCarry 12 = .ok (.iload_n 3, 1) := by decide +kernel
theorem dX4_tryCarry_13 : decode cX4_tryCarry 13 = .ok (.invokevirtual 102, 3) := by decide +kernel
theorem dX4_tryCarry_16 : decode cX4_tryCarry 16 = .ok (.ifCond .eq 17, 3) := by decide +kernel
theorem dX4_tryCarry_19 : decode cX4_tryCarry 19 = .ok (.aload_n 0, 1) := by decide +kernel
theorem dX4_tryCarry_20 : decode cX4_tryCarry 20 = .ok (.aload_n 1, 1) := by decide +kernel
theorem dX4_tryCarry_21 : decode cX4_tryCarry 21 = .ok (.iload_n 2, 1) := by decide +kernel
theorem dX4_tryCarry_22 : decode cX4_tryCarry 22 = .ok (.iload_n 3, 1) := by decide +kernel
theorem dX4_tryCarry_23 : decode cX4_tryCarry 23 = .ok (.invokevirtual 105, 3) := by decide +kernel
theorem dX4_tryCarry_26 : decode cX4_tryCarry 26 = .ok (.ifCond .ne 7, 3) := by decide +kernel
theorem dX4_tryCarry_29 : decode cX4_tryCarry 29 = .ok (.iconst 1, 1) := by decide +kernel
theorem dX4_tryCarry_30 : decode cX4_tryCarry 30 = .ok (.goto 4, 3) := by decide +kernel
theorem dX4_tryCarry_33 : decode cX4_tryCarry 33 = .ok (.iconst 0, 1) := by decide +kernel
theorem dX4_tryCarry_34 : decode cX4_tryCarry 34 = .ok (.istore 4, 2) := by decide +kernel
theorem dX4_tryCarry_36 : decode cX4_tryCarry 36 = .ok (.iload 4, 2) := by decide +kernel
theorem dX4_tryCarry_38 : decode cX4_tryCarry 38 = .ok (.ifCond .eq 11, 3) := by decide +kernel
theorem dX4_tryCarry_41 : decode cX4_tryCarry 41 = .ok (.aload_n 0, 1) := by decide +kernel
theorem dX4_tryCarry_42 : decode cX4_tryCarry 42 = .ok (.aload_n 1, 1) := by decide +kernel
theorem dX4_tryCarry_43 : decode cX4_tryCarry 43 = .ok (.iload_n 2, 1) := by decide +kernel
theorem dX4_tryCarry_44 : decode cX4_tryCarry 44 = .ok (.iload_n 3, 1) := by decide +kernel
theorem dX4_tryCarry_45 : decode cX4_tryCarry 45 = .ok (.invokevirtual 109, 3) := by decide +kernel
theorem dX4_tryCarry_48 : decode cX4_tryCarry 48 = .ok (.pop, 1) := by decide +kernel
theorem dX4_tryCarry_49 : decode cX4_tryCarry 49 = .ok (.iload 4, 2) := by decide +kernel
theorem dX4_tryCarry_51 : decode cX4_tryCarry 51 = .ok (.ireturn, 1) := by decide +kernel
theorem dX4_carryAll_0 : decode cX4_carryAll 0 = .ok (.iconst 0, 1) := by decide +kernel
theorem dX4_carryAll_1 : decode cX4_carryAll 1 = .ok (.istore_n 2, 1) := by decide +kernel
theorem dX4_carryAll_2 : decode cX4_carryAll 2 = .ok (.iload_n 2, 1) := by decide +kernel
theorem dX4_carryAll_3 : decode cX4_carryAll 3 = .ok (.aload_n 1, 1) := by decide +kernel
theorem dX4_carryAll_4 : decode cX4_carryAll 4 = .ok (.getfield 18, 3) := by decide +kernel
theorem dX4_carryAll_7 : decode cX4_carryAll 7 = .ok (.getfield 112, 3) := by decide +kernel
theorem dX4_carryAll_10 : decode cX4_carryAll 10 = .ok (.if_icmp .ge 35, 3) := by decide +kernel
theorem dX4_carryAll_13 : decode cX4_carryAll 13 = .ok (.iconst 0, 1) := by decide +kernel
theorem dX4_carryAll_14 : decode cX4_carryAll 14 = .ok (.istore_n 3, 1) := by decide +kernel
theorem dX4_carryAll_15 : decode cX4_carryAll 15 = .ok (.iload_n 3, 1) := by decide +kernel
theorem dX4_carryAll_16 : decode cX4_carryAll 16 = .ok (.iconst 4, 1) := by decide +kernel
theorem dX4_carryAll_17 : decode cX4_carryAll 17 = .ok (.if_icmp .ge 22, 3) := by decide +kernel
theorem dX4_carryAll_20 : decode cX4_carryAll 20 = .ok (.aload_n 0, 1) := by decide +kernel
theorem dX4_carryAll_21 : decode cX4_carryAll 21 = .ok (.aload_n 1, 1) := by decide +kernel
theorem dX4_carryAll_22 : decode cX4_carryAll 22 = .ok (.iload_n 2, 1) := by decide +kernel
theorem dX4_carryAll_23 : decode cX4_carryAll 23 = .ok (.iload_n 3, 1) := by decide +kernel
theorem dX4_carryAll_24 : decode cX4_carryAll 24 = .ok (.invokevirtual 113, 3) := by decide +kernel
theorem dX4_carryAll_27 : decode cX4_carryAll 27 = .ok (.ifCond .eq 6, 3) := by decide +kernel
theorem dX4_carryAll_30 : decode cX4_carryAll 30 = .ok (.goto 9, 3) := by decide +kernel
theorem dX4_carryAll_33 : decode cX4_carryAll 33 = .ok (.iinc 3 1, 3) := by decide +kernel
theorem dX4_carryAll_36 : decode cX4_carryAll 36 = .ok (.goto (-21), 3) := by decide +kernel
theorem dX4_carryAll_39 : decode cX4_carryAll 39 = .ok (.iinc 2 1, 3) := by decide +kernel
theorem dX4_carryAll_42 : decode cX4_carryAll 42 = .ok (.goto (-40), 3) := by decide +kernel
theorem dX4_carryAll_45 : decode cX4_carryAll 45 = .ok (.return_, 1) := by decide +kernel
theorem dX4_smallestLevel_0 : decode cX4_smallestLevel 0 = .ok (.aload_n 1, 1) := by decide +kernel
theorem dX4_smallestLevel_1 : decode cX4_smallestLevel 1 = .ok (.getfield 18, 3) := by decide +kernel
theorem dX4_smallestLevel_4 : decode cX4_smallestLevel 4 = .ok (.astore 4, 2) := by decide +kernel
theorem dX4_smallestLevel_6 : decode cX4_smallestLevel 6 = .ok (.iconst 1, 1) := by decide +kernel
theorem dX4_smallestLevel_7 : decode cX4_smallestLevel 7 = .ok (.istore 5, 2) := by decide +kernel
theorem dX4_smallestLevel_9 : decode cX4_smallestLevel 9 = .ok (.iload 5, 2) := by decide +kernel
theorem dX4_smallestLevel_11 : decode cX4_smallestLevel 11 = .ok (.bipush 6, 2) := by decide +kernel
theorem dX4_smallestLevel_13 : decode cX4_smallestLevel 13 = .ok (.if_icmp .gt 46, 3) := by decide +kernel
theorem dX4_smallestLevel_16 : decode cX4_smallestLevel 16 = .ok (.aload_n 0, 1) := by decide +kernel
theorem dX4_smallestLevel_17 : decode cX4_smallestLevel 17 = .ok (.getfield 12, 3) := by decide +kernel
theorem dX4_smallestLevel_20 : decode cX4_smallestLevel 20 = .ok (.aload_n 1, 1) := by decide +kernel
theorem dX4_smallestLevel_21 : decode cX4_smallestLevel 21 = .ok (.iload_n 2, 1) := by decide +kernel
theorem dX4_smallestLevel_22 : decode cX4_smallestLevel 22 = .ok (.aload 4, 2) := by decide +kernel
theorem dX4_smallestLevel_24 : decode cX4_smallestLevel 24 = .ok (.getfield 52, 3) := by decide +kernel
theorem dX4_smallestLevel_27 : decode cX4_smallestLevel 27 = .ok (.iload_n 3, 1) := by decide +kernel
theorem dX4_smallestLevel_28 : decode cX4_smallestLevel 28 = .ok (.invokestatic 34, 3) := by decide +kernel
theorem dX4_smallestLevel_31 : decode cX4_smallestLevel 31 = .ok (.aload 4, 2) := by decide +kernel
theorem dX4_smallestLevel_33 : decode cX4_smallestLevel 33 = .ok (.getfield 55, 3) := by decide +kernel
theorem dX4_smallestLevel_36 : decode cX4_smallestLevel 36 = .ok (.iload_n 3, 1) := by decide +kernel
theorem dX4_smallestLevel_37 : decode cX4_smallestLevel 37 = .ok (.invokestatic 34, 3) := by decide +kernel
theorem dX4_smallestLevel_40 : decode cX4_smallestLevel 40 = .ok (.iconst 4, 1) := by decide +kernel
theorem dX4_smallestLevel_41 : decode cX4_smallestLevel 41 = .ok (.iload 5, 2) := by decide +kernel
theorem dX4_smallestLevel_43 : decode cX4_smallestLevel 43 = .ok (.imul, 1) := by decide +kernel
theorem dX4_smallestLevel_44 : decode cX4_smallestLevel 44 = .ok (.invokevirtual 58, 3) := by decide +kernel
theorem dX4_smallestLevel_47 : decode cX4_smallestLevel 47 = .ok (.ifCond .eq 6, 3) := by decide +kernel
theorem dX4_smallestLevel_50 : decode cX4_smallestLevel 50 = .ok (.iload 5, 2) := by decide +kernel
theorem dX4_smallestLevel_52 : decode cX4_smallestLevel 52 = .ok (.ireturn, 1) := by decide +kernel
theorem dX4_smallestLevel_53 : decode cX4_smallestLevel 53 = .ok (.iinc 5 1, 3) := by decide +kernel
theorem dX4_smallestLevel_56 : decode cX4_smallestLevel 56 = .ok (.goto (-47), 3) := by decide +kernel
theorem dX4_smallestLevel_59 : decode cX4_smallestLevel 59 = .ok (.bipush (-9), 2) := by decide +kernel
theorem dX4_smallestLevel_61 : decode cX4_smallestLevel 61 = .ok (.ireturn, 1) := by decide +kernel
theorem dX4_bestFree_0 : decode cX4_bestFree 0 = .ok (.aload_n 1, 1) := by decide +kernel
theorem dX4_bestFree_1 : decode cX4_bestFree 1 = .ok (.getfield 18, 3) := by decide +kernel
theorem dX4_bestFree_4 : decode cX4_bestFree 4 = .ok (.astore_n 3, 1) := by decide +kernel
theorem dX4_bestFree_5 : decode cX4_bestFree 5 = .ok (.iconst 4, 1) := by decide +kernel
theorem dX4_bestFree_6 : decode cX4_bestFree 6 = .ok (.aload_n 1, 1) := by decide +kernel
theorem dX4_bestFree_7 : decode cX4_bestFree 7 = .ok (.getfield 38, 3) := by decide +kernel
theorem dX4_bestFree_10 : decode cX4_bestFree 10 = .ok (.iload_n 2, 1) := by decide +kernel
theorem dX4_bestFree_11 : decode cX4_bestFree 11 = .ok (.invokevirtual 117, 3) := by decide +kernel
theorem dX4_bestFree_14 : decode cX4_bestFree 14 = .ok (.imul, 1) := by decide +kernel
theorem dX4_bestFree_15 : decode cX4_bestFree 15 = .ok (.istore 4, 2) := by decide +kernel
theorem dX4_bestFree_17 : decode cX4_bestFree 17 = .ok (.bipush (-9), 2) := by decide +kernel
theorem dX4_bestFree_19 : decode cX4_bestFree 19 = .ok (.istore 5, 2) := by decide +kernel
theorem dX4_bestFree_21 : decode cX4_bestFree 21 = .ok (.iconst 0, 1) := by decide +kernel
theorem dX4_bestFree_22 : decode cX4_bestFree 22 = .ok (.istore 6, 2) := by decide +kernel
theorem dX4_bestFree_24 : decode cX4_bestFree 24 = .ok (.iconst 0, 1) := by decide +kernel
theorem dX4_bestFree_25 : decode cX4_bestFree 25 = .ok (.istore 7, 2) := by decide +kernel
theorem dX4_bestFree_27 : decode cX4_bestFree 27 = .ok (.iload 7, 2) := by decide +kernel
theorem dX4_bestFree_29 : decode cX4_bestFree 29 = .ok (.aload_n 3, 1) := by decide +kernel
theorem dX4_bestFree_30 : decode cX4_bestFree 30 = .ok (.getfield 112, 3) := by decide +kernel
theorem dX4_bestFree_33 : decode cX4_bestFree 33 = .ok (.if_icmp .ge 91, 3) := by decide +kernel
theorem dX4_bestFree_36 : decode cX4_bestFree 36 = .ok (.aload_n 3, 1) := by decide +kernel
theorem dX4_bestFree_37 : decode cX4_bestFree 37 = .ok (.iload 7, 2) := by decide +kernel
theorem dX4_bestFree_39 : decode cX4_bestFree 39 = .ok (.invokevirtual 120, 3) := by decide +kernel
theorem dX4_bestFree_42 : decode cX4_bestFree 42 = .ok (.ifCond .eq 76, 3) := by decide +kernel
theorem dX4_bestFree_45 : decode cX4_bestFree 45 = .ok (.aload_n 0, 1) := by decide +kernel
theorem dX4_bestFree_46 : decode cX4_bestFree 46 = .ok (.getfield 12, 3) := by decide +kernel
theorem dX4_bestFree_49 : decode cX4_bestFree 49 = .ok (.aload_n 1, 1) := by decide +kernel
theorem dX4_bestFree_50 : decode cX4_bestFree 50 = .ok (.iload_n 2, 1) := by decide +kernel
theorem dX4_bestFree_51 : decode cX4_bestFree 51 = .ok (.aload_n 3, 1) := by decide +kernel
theorem dX4_bestFree_52 : decode cX4_bestFree 52 = .ok (.getfield 52, 3) := by decide +kernel
theorem dX4_bestFree_55 : decode cX4_bestFree 55 = .ok (.iload 7, 2) := by decide +kernel
theorem dX4_bestFree_57 : decode cX4_bestFree 57 = .ok (.invokestatic 34, 3) := by decide +kernel
theorem dX4_bestFree_60 : decode cX4_bestFree 60 = .ok (.aload_n 3, 1) := by decide +kernel
theorem dX4_bestFree_61 : decode cX4_bestFree 61 = .ok (.getfield 55, 3) := by decide +kernel
theorem dX4_bestFree_64 : decode cX4_bestFree 64 = .ok (.iload 7, 2) := by decide +kernel
theorem dX4_bestFree_66 : decode cX4_bestFree 66 = .ok (.invokestatic 34, 3) := by decide +kernel
theorem dX4_bestFree_69 : decode cX4_bestFree 69 = .ok (.iload 4, 2) := by decide +kernel
theorem dX4_bestFree_71 : decode cX4_bestFree 71 = .ok (.invokevirtual 58, 3) := by decide +kernel
theorem dX4_bestFree_74 : decode cX4_bestFree 74 = .ok (.ifCond .eq 44, 3) := by decide +kernel
theorem dX4_bestFree_77 : decode cX4_bestFree 77 = .ok (.aload_n 3, 1) := by decide +kernel
theorem dX4_bestFree_78 : decode cX4_bestFree 78 = .ok (.getfield 85, 3) := by decide +kernel
theorem dX4_bestFree_81 : decode cX4_bestFree 81 = .ok (.iload 7, 2) := by decide +kernel
theorem dX4_bestFree_83 : decode cX4_bestFree 83 = .ok (.invokestatic 34, 3) := by decide +kernel
theorem dX4_bestFree_86 : decode cX4_bestFree 86 = .ok (.aload_n 0, 1) := by decide +kernel
theorem dX4_bestFree_87 : decode cX4_bestFree 87 = .ok (.getfield 12, 3) := by decide +kernel
theorem dX4_bestFree_90 : decode cX4_bestFree 90 = .ok (.getfield 99, 3) := by decide +kernel
theorem dX4_bestFree_93 : decode cX4_bestFree 93 = .ok (.isub, 1) := by decide +kernel
theorem dX4_bestFree_94 : decode cX4_bestFree 94 = .ok (.istore 8, 2) := by decide +kernel
theorem dX4_bestFree_96 : decode cX4_bestFree 96 = .ok (.iload 5, 2) := by decide +kernel
theorem dX4_bestFree_98 : decode cX4_bestFree 98 = .ok (.bipush (-9), 2) := by decide +kernel
theorem dX4_bestFree_100 : decode cX4_bestFree 100 = .ok (.if_icmp .eq 10, 3) := by decide +kernel
theorem dX4_bestFree_103 : decode cX4_bestFree 103 = .ok (.iload 8, 2) := by decide +kernel
theorem dX4_bestFree_105 : decode cX4_bestFree 105 = .ok (.iload 6, 2) := by decide +kernel
theorem dX4_bestFree_107 : decode cX4_bestFree 107 = .ok (.if_icmp .le 11, 3) := by decide +kernel
theorem dX4_bestFree_110 : decode cX4_bestFree 110 = .ok (.iload 7, 2) := by decide +kernel
theorem dX4_bestFree_112 : decode cX4_bestFree 112 = .ok (.istore 5, 2) := by decide +kernel
theorem dX4_bestFree_114 : decode cX4_bestFree 114 = .ok (.iload 8, 2) := by decide +kernel
theorem dX4_bestFree_116 : decode cX4_bestFree 116 = .ok (.istore 6, 2) := by decide +kernel
theorem dX4_bestFree_118 : decode cX4_bestFree 118 = .ok (.iinc 7 1, 3) := by decide +kernel
theorem dX4_bestFree_121 : decode cX4_bestFree 121 = .ok (.goto (-94), 3) := by decide +kernel
theorem dX4_bestFree_124 : decode cX4_bestFree 124 = .ok (.iload 5, 2) := by decide +kernel
theorem dX4_bestFree_126 : decode cX4_bestFree 126 = .ok (.ireturn, 1) := by decide +kernel
theorem dX5_withoutLowest_0 : decode cX5_withoutLowest 0 = .ok (.lload_n 0, 1) := by decide +kernel
theorem dX5_withoutLowest_1 : decode cX5_withoutLowest 1 = .ok (.lstore_n 3, 1) := by decide +kernel
theorem dX5_withoutLowest_2 : decode cX5_withoutLowest 2 = .ok (.iconst 0, 1) := by decide +kernel
theorem dX5_withoutLowest_3 : decode cX5_withoutLowest 3 = .ok (.istore 5, 2) := by decide +kernel
theorem dX5_withoutLowest_5 : decode cX5_withoutLowest 5 = .ok (.iload 5, 2) := by decide +kernel
theorem dX5_withoutLowest_7 : decode cX5_withoutLowest 7 = .ok (.iload_n 2, 1) := by decide +kernel
theorem dX5_withoutLowest_8 : decode cX5_withoutLowest 8 = .ok (.if_icmp .ge 15, 3) := by decide +kernel
theorem dX5_withoutLowest_11 : decode cX5_withoutLowest 11 = .ok (.lload_n 3, 1) := by decide +kernel
theorem dX5_withoutLowest_12 : decode cX5_withoutLowest 12 = .ok (.ldc2_w 9, 3) := by decide +kernel
theorem dX5_withoutLowest_15 : decode cX5_withoutLowest 15 = .ok (.ldiv, 1) := by decide +kernel
theorem dX5_withoutLowest_16 : decode cX5_withoutLowest 16 = .ok (.lstore_n 3, 1) := by decide +kernel
theorem dX5_withoutLowest_17 : decode cX5_withoutLowest 17 = .ok (.iinc 5 1, 3) := by decide +kernel
theorem dX5_withoutLowest_20 : decode cX5_withoutLowest 20 = .ok (.goto (-15), 3) := by decide +kernel
theorem dX5_withoutLowest_23 : decode cX5_withoutLowest 23 = .ok (.lload_n 3, 1) := by decide +kernel
theorem dX5_withoutLowest_24 : decode cX5_withoutLowest 24 = .ok (.lreturn, 1) := by decide +kernel
theorem dX5_obey_0 : decode cX5_obey 0 = .ok (.iload_n 2, 1) := by decide +kernel
theorem dX5_obey_1 : decode cX5_obey 1 = .ok (.sipush 1000, 3) := by decide +kernel
theorem dX5_obey_4 : decode cX5_obey 4 = .ok (.idiv, 1) := by decide +kernel
theorem dX5_obey_5 : decode cX5_obey 5 = .ok (.bipush 10, 2) := by decide +kernel
theorem dX5_obey_7 : decode cX5_obey 7 = .ok (.irem, 1) := by decide +kernel
theorem dX5_obey_8 : decode cX5_obey 8 = .ok (.istore_n 3, 1) := by decide +kernel
theorem dX5_obey_9 : decode cX5_obey 9 = .ok (.iload_n 2, 1) := by decide +kernel
theorem dX5_obey_10 : decode cX5_obey 10 = .ok (.sipush 1000, 3) := by decide +kernel
theorem dX5_obey_13 : decode cX5_obey 13 = .ok (.irem, 1) := by decide +kernel
theorem dX5_obey_14 : decode cX5_obey 14 = .ok (.istore 4, 2) := by decide +kernel
theorem dX5_obey_16 : decode cX5_obey 16 = .ok (.iload 4, 2) := by decide +kernel
theorem dX5_obey_18 : decode cX5_obey 18 = .ok (.bipush 10, 2) := by decide +kernel
theorem dX5_obey_20 : decode cX5_obey 20 = .ok (.if_icmp .ge 7, 3) := by decide +kernel
theorem dX5_obey_23 : decode cX5_obey 23 = .ok (.iconst 1, 1) := by decide +kernel
theorem dX5_obey_24 : decode cX5_obey 24 = .ok (.goto 4, 3) := by decide +kernel
theorem dX5_obey_27 : decode cX5_obey 27 = .ok (.iconst 0, 1) := by decide +kernel
theorem dX5_obey_28 : decode cX5_obey 28 = .ok (.istore 5, 2) := by decide +kernel
theorem dX5_obey_30 : decode cX5_obey 30 = .ok (.iload_n 2, 1) := by decide +kernel
theorem dX5_obey_31 : decode cX5_obey 31 = .ok (.sipush 10000, 3) := by decide +kernel
theorem dX5_obey_34 : decode cX5_obey 34 = .ok (.idiv, 1) := by decide +kernel
theorem dX5_obey_35 : decode cX5_obey 35 = .ok (.tableswitch 266 1 9 #[49, 72, 93, 114, 135, 157, 179, 208, 232], 49) := by decide +kernel
theorem dX5_obey_84 : decode cX5_obey 84 = .ok (.iload 4, 2) := by decide +kernel
theorem dX5_obey_86 : decode cX5_obey 86 = .ok (.bipush 100, 2) := by decide +kernel
theorem dX5_obey_88 : decode cX5_obey 88 = .ok (.if_icmp .ge 17, 3) := by decide +kernel
theorem dX5_obey_91 : decode cX5_obey 91 = .ok (.aload_n 0, 1) := by decide +kernel
theorem dX5_obey_92 : decode cX5_obey 92 = .ok (.iload_n 3, 1) := by decide +kernel
theorem dX5_obey_93 : decode cX5_obey 93 = .ok (.iload 4, 2) := by decide +kernel
theorem dX5_obey_95 : decode cX5_obey 95 = .ok (.invokevirtual 11, 3) := by decide +kernel
theorem dX5_obey_98 : decode cX5_obey 98 = .ok (.ifCond .eq 7, 3) := by decide +kernel
theorem dX5_obey_101 : decode cX5_obey 101 = .ok (.iconst 1, 1) := by decide +kernel
theorem dX5_obey_102 : decode cX5_obey 102 = .ok (.goto 4, 3) := by decide +kernel
theorem dX5_obey_105 : decode cX5_obey 105 = .ok (.iconst 0, 1) := by decide +kernel
theorem dX5_obey_106 : decode cX5_obey 106 = .ok (.ireturn, 1) := by decide +kernel
theorem dX5_obey_107 : decode cX5_obey 107 = .ok (.iload 5, 2) := by decide +kernel
theorem dX5_obey_109 : decode cX5_obey 109 = .ok (.ifCond .eq 17, 3) := by decide +kernel
theorem dX5_obey_112 : decode cX5_obey 112 = .ok (.aload_n 0, 1) := by decide +kernel
theorem dX5_obey_113 : decode cX5_obey 113 = .ok (.iload_n 3, 1) := by decide +kernel
theorem dX5_obey_114 : decode cX5_obey 114 = .ok (.iload 4, 2) := by decide +kernel
theorem dX5_obey_116 : decode cX5_obey 116 = .ok (.invokevirtual 17, 3) := by decide +kernel
theorem dX5_obey_119 : decode cX5_obey 119 = .ok (.ifCond .eq 7, 3) := by decide +kernel
theorem dX5_obey_122 : decode cX5_obey 122 = .ok (.iconst 1, 1) := by decide +kernel
theorem dX5_obey_123 : decode cX5_obey 123 = .ok (.goto 4, 3) := by decide +kernel
theorem dX5_obey_126 : decode cX5_obey 126 = .ok (.iconst 0, 1) := by decide +kernel
theorem dX5_obey_127 : decode cX5_obey 127 = .ok (.ireturn, 1) := by decide +kernel
theorem dX5_obey_128 : decode cX5_obey 128 = .ok (.iload 5, 2) := by decide +kernel
theorem dX5_obey_130 : decode cX5_obey 130 = .ok (.ifCond .eq 17, 3) := by decide +kernel
theorem dX5_obey_133 : decode cX5_obey 133 = .ok (.aload_n 0, 1) := by decide +kernel
theorem dX5_obey_134 : decode cX5_obey 134 = .ok (.iload_n 3, 1) := by decide +kernel
theorem dX5_obey_135 : decode cX5_obey 135 = .ok (.iload 4, 2) := by decide +kernel
theorem dX5_obey_137 : decode cX5_obey 137 = .ok (.invokestatic 20, 3) := by decide +kernel
theorem dX5_obey_140 : decode cX5_obey 140 = .ok (.ifCond .eq 7, 3) := by decide +kernel
theorem dX5_obey_143 : decode cX5_obey 143 = .ok (.iconst 1, 1) := by decide +kernel
theorem dX5_obey_144 : decode cX5_obey 144 = .ok (.goto 4, 3) := by decide +kernel
theorem dX5_obey_147 : decode cX5_obey 147 = .ok (.iconst 0, 1) := by decide +kernel
theorem dX5_obey_148 : decode cX5_obey 148 = .ok (.ireturn, 1) := by decide +kernel
theorem dX5_obey_149 : decode cX5_obey 149 = .ok (.iload 5, 2) := by decide +kernel
theorem dX5_obey_151 : decode cX5_obey 151 = .ok (.ifCond .eq 17, 3) := by decide +kernel
theorem dX5_obey_154 : decode cX5_obey 154 = .ok (.aload_n 0, 1) := by decide +kernel
theorem dX5_obey_155 : decode cX5_obey 155 = .ok (.iload_n 3, 1) := by decide +kernel
theorem dX5_obey_156 : decode cX5_obey 156 = .ok (.iload 4, 2) := by decide +kernel
theorem dX5_obey_158 : decode cX5_obey 158 = .ok (.invokevirtual 24, 3) := by decide +kernel
theorem dX5_obey_161 : decode cX5_obey 161 = .ok (.ifCond .eq 7, 3) := by decide +kernel
theorem dX5_obey_164 : decode cX5_obey 164 = .ok (.iconst 1, 1) := by decide +kernel
theorem dX5_obey_165 : decode cX5_obey 165 = .ok (.goto 4, 3) := by decide +kernel
theorem dX5_obey_168 : decode cX5_obey 168 = .ok (.iconst 0, 1) := by decide +kernel
theorem dX5_obey_169 : decode cX5_obey 169 = .ok (.ireturn, 1) := by decide +kernel
theorem dX5_obey_170 : decode cX5_obey 170 = .ok (.iload 5, 2) := by decide +kernel
theorem dX5_obey_172 : decode cX5_obey 172 = .ok (.ifCond .eq 18, 3) := by decide +kernel
theorem dX5_obey_175 : decode cX5_obey 175 = .ok (.aload_n 1, 1) := by decide +kernel
theorem dX5_obey_176 : decode cX5_obey 176 = .ok (.aload_n 0, 1) := by decide +kernel
theorem dX5_obey_177 : decode cX5_obey 177 = .ok (.iload_n 3, 1) := by decide +kernel
theorem dX5_obey_178 : decode cX5_obey 178 = .ok (.iload 4, 2) := by decide +kernel
theorem dX5_obey_180 : decode cX5_obey 180 = .ok (.invokevirtual 27, 3) := by decide +kernel
theorem dX5_obey_183 : decode cX5_obey 183 = .ok (.ifCond .eq 7, 3) := by decide +kernel
theorem dX5_obey_186 : decode cX5_obey 186 = .ok (.iconst 1, 1) := by decide +kernel
theorem dX5_obey_187 : decode cX5_obey 187 = .ok (.goto 4, 3) := by decide +kernel
theorem dX5_obey_190 : decode cX5_obey 190 = .ok (.iconst 0, 1) := by decide +kernel
theorem dX5_obey_191 : decode cX5_obey 191 = .ok (.ireturn, 1) := by decide +kernel
theorem dX5_obey_192 : decode cX5_obey 192 = .ok (.iload_n 3, 1) := by decide +kernel
theorem dX5_obey_193 : decode cX5_obey 193 = .ok (.ifCond .ne 19, 3) := by decide +kernel
theorem dX5_obey_196 : decode cX5_obey 196 = .ok (.iload 4, 2) := by decide +kernel
theorem dX5_obey_198 : decode cX5_obey 198 = .ok (.ifCond .ne 14, 3) := by decide +kernel
theorem dX5_obey_201 : decode cX5_obey 201 = .ok (.aload_n 0, 1) := by decide +kernel
theorem dX5_obey_202 : decode cX5_obey 202 = .ok (.invokestatic 32, 3) := by decide +kernel
theorem dX5_obey_205 : decode cX5_obey 205 = .ok (.ifCond .eq 7, 3) := by decide +kernel
theorem dX5_obey_208 : decode cX5_obey 208 = .ok (.iconst 1, 1) := by decide +kernel
theorem dX5_obey_209 : decode cX5_obey 209 = .ok (.goto 4, 3) := by decide +kernel
theorem dX5_obey_212 : decode cX5_obey 212 = .ok (.iconst 0, 1) := by decide +kernel
theorem dX5_obey_213 : decode cX5_obey 213 = .ok (.ireturn, 1) := by decide +kernel
theorem dX5_obey_214 : decode cX5_obey 214 = .ok (.iload_n 3, 1) := by decide +kernel
theorem dX5_obey_215 : decode cX5_obey 215 = .ok (.invokestatic 36, 3) := by decide +kernel
theorem dX5_obey_218 : decode cX5_obey 218 = .ok (.ifCond .eq 23, 3) := by decide +kernel
theorem dX5_obey_221 : decode cX5_obey 221 = .ok (.aload_n 0, 1) := by decide +kernel
theorem dX5_obey_222 : decode cX5_obey 222 = .ok (.getfield 42, 3) := by decide +kernel
theorem dX5_obey_225 : decode cX5_obey 225 = .ok (.getfield 46, 3) := by decide +kernel
theorem dX5_obey_228 : decode cX5_obey 228 = .ok (.iload_n 3, 1) := by decide +kernel
theorem dX5_obey_229 : decode cX5_obey 229 = .ok (.invokestatic 52, 3) := by decide +kernel
theorem dX5_obey_232 : decode cX5_obey 232 = .ok (.iload 4, 2) := by decide +kernel
theorem dX5_obey_234 : decode cX5_obey 234 = .ok (.if_icmp .lt 7, 3) := by decide +kernel
theorem dX5_obey_237 : decode cX5_obey 237 = .ok (.iconst 1, 1) := by decide +kernel
theorem dX5_obey_238 : decode cX5_obey 238 = .ok (.goto 4, 3) := by decide +kernel
theorem dX5_obey_241 : decode cX5_obey 241 = .ok (.iconst 0, 1) := by decide +kernel
theorem dX5_obey_242 : decode cX5_obey 242 = .ok (.ireturn, 1) := by decide +kernel
theorem dX5_obey_243 : decode cX5_obey 243 = .ok (.iload_n 3, 1) := by decide +kernel
theorem dX5_obey_244 : decode cX5_obey 244 = .ok (.ifCond .ne 21, 3) := by decide +kernel
theorem dX5_obey_247 : decode cX5_obey 247 = .ok (.iload 5, 2) := by decide +kernel
theorem dX5_obey_249 : decode cX5_obey 249 = .ok (.ifCond .eq 16, 3) := by decide +kernel
theorem dX5_obey_252 : decode cX5_obey 252 = .ok (.aload_n 0, 1) := by decide +kernel
theorem dX5_obey_253 : decode cX5_obey 253 = .ok (.getfield 56, 3) := by decide +kernel
theorem dX5_obey_256 : decode cX5_obey 256 = .ok (.iload 4, 2) := by decide +kernel
theorem dX5_obey_258 : decode cX5_obey 258 = .ok (.if_icmp .ne 7, 3) := by decide +kernel
theorem dX5_obey_261 : decode cX5_obey 261 = .ok (.iconst 1, 1) := by decide +kernel
theorem dX5_obey_262 : decode cX5_obey 262 = .ok (.goto 4, 3) := by decide +kernel
theorem dX5_obey_265 : decode cX5_obey 265 = .ok (.iconst 0, 1) := by decide +kernel
theorem dX5_obey_266 : decode cX5_obey 266 = .ok (.ireturn, 1) := by decide +kernel
theorem dX5_obey_267 : decode cX5_obey 267 = .ok (.iload_n 3, 1) := by decide +kernel
theorem dX5_obey_268 : decode cX5_obey 268 = .ok (.invokestatic 36, 3) := by decide +kernel
theorem dX5_obey_271 : decode cX5_obey 271 = .ok (.ifCond .eq 28, 3) := by decide +kernel
theorem dX5_obey_274 : decode cX5_obey 274 = .ok (.iload 5, 2) := by decide +kernel
theorem dX5_obey_276 : decode cX5_obey 276 = .ok (.ifCond .eq 23, 3) := by decide +kernel
theorem dX5_obey_279 : decode cX5_obey 279 = .ok (.aload_n 0, 1) := by decide +kernel
theorem dX5_obey_280 : decode cX5_obey 280 = .ok (.getfield 42, 3) := by decide +kernel
theorem dX5_obey_283 : decode cX5_obey 283 = .ok (.getfield 60, 3) := by decide +kernel
theorem dX5_obey_286 : decode cX5_obey 286 = .ok (.iload_n 3, 1) := by decide +kernel
theorem dX5_obey_287 : decode cX5_obey 287 = .ok (.invokestatic 52, 3) := by decide +kernel
theorem dX5_obey_290 : decode cX5_obey 290 = .ok (.iload 4, 2) := by decide +kernel
theorem dX5_obey_292 : decode cX5_obey 292 = .ok (.if_icmp .ne 7, 3) := by decide +kernel
theorem dX5_obey_295 : decode cX5_obey 295 = .ok (.iconst 1, 1) := by decide +kernel
theorem dX5_obey_296 : decode cX5_obey 296 = .ok (.goto 4, 3) := by decide +kernel
theorem dX5_obey_299 : decode cX5_obey 299 = .ok (.iconst 0, 1) := by decide +kernel
theorem dX5_obey_300 : decode cX5_obey 300 = .ok (.ireturn, 1) := by decide +kernel
theorem dX5_obey_301 : decode cX5_obey 301 = .ok (.iconst 0, 1) := by decide +kernel
theorem dX5_obey_302 : decode cX5_obey 302 = .ok (.ireturn, 1) := by decide +kernel
theorem dX5_endOfRound_0 : decode cX5_endOfRound 0 = .ok (.aload_n 0, 1) := by decide +kernel
theorem dX5_endOfRound_1 : decode cX5_endOfRound 1 = .ok (.invokevirtual 63, 3) := by decide +kernel
theorem dX5_endOfRound_4 : decode cX5_endOfRound 4 = .ok (.pop, 1) := by decide +kernel
theorem dX5_endOfRound_5 : decode cX5_endOfRound 5 = .ok (.iconst 1, 1) := by decide +kernel
theorem dX5_endOfRound_6 : decode cX5_endOfRound 6 = .ok (.ireturn, 1) := by decide +kernel
theorem dX5_changeRent_0 : decode cX5_changeRent 0 = .ok (.iload_n 1, 1) := by decide +kernel
theorem dX5_changeRent_1 : decode cX5_changeRent 1 = .ok (.invokestatic 36, 3) := by decide +kernel
theorem dX5_changeRent_4 : decode cX5_changeRent 4 = .ok (.istore_n 3, 1) := by decide +kernel
theorem dX5_changeRent_5 : decode cX5_changeRent 5 = .ok (.iload_n 3, 1) := by decide +kernel
theorem dX5_changeRent_6 : decode cX5_changeRent 6 = .ok (.ifCond .eq 12, 3) := by decide +kernel
theorem dX5_changeRent_9 : decode cX5_changeRent 9 = .ok (.aload_n 0, 1) := by decide +kernel
theorem dX5_changeRent_10 : decode cX5_changeRent 10 = .ok (.getfield 42, 3) := by decide +kernel
theorem dX5_changeRent_13 : decode cX5_changeRent 13 = .ok (.iload_n 1, 1) := by decide +kernel
theorem dX5_changeRent_14 : decode cX5_changeRent 14 = .ok (.iload_n 2, 1) := by decide +kernel
theorem dX5_changeRent_15 : decode cX5_changeRent 15 = .ok (.invokevirtual 67, 3) := by decide +kernel
theorem dX5_changeRent_18 : decode cX5_changeRent 18 = .ok (.iload_n 3, 1) := by decide +kernel
theorem dX5_changeRent_19 : decode cX5_changeRent 19 = .ok (.ireturn, 1) := by decide +kernel
theorem dX6_init_0 : decode cX6_init 0 = .ok (.aload_n 0, 1) := by decide +kernel
theorem dX6_init_1 : decode cX6_init 1 = .ok (.invokespecial 3, 3) := by decide +kernel
theorem dX6_init_4 : decode cX6_init 4 = .ok (.aload_n 0, 1) := by decide +kernel
theorem dX6_init_5 : decode cX6_init 5 = .ok (.iconst 2, 1) := by decide +kernel
theorem dX6_init_6 : decode cX6_init 6 = .ok (.anewarray 9, 3) := by decide +kernel
theorem dX6_init_9 : decode cX6_init 9 = .ok (.putfield 11, 3) := by decide +kernel
theorem dX6_init_12 : decode cX6_init 12 = .ok (.aload_n 0, 1) := by decide +kernel
theorem dX6_init_13 : decode cX6_init 13 = .ok (.iconst 2, 1) := by decide +kernel
theorem dX6_init_14 : decode cX6_init 14 = .ok (.newarray .int, 2) := by decide +kernel
theorem dX6_init_16 : decode cX6_init 16 = .ok (.putfield 17, 3) := by decide +kernel
theorem dX6_init_19 : decode cX6_init 19 = .ok (.iconst 0, 1) := by decide +kernel
theorem dX6_init_20 : decode cX6_init 20 = .ok (.istore_n 1, 1) := by decide +kernel
theorem dX6_init_21 : decode cX6_init 21 = .ok (.iload_n 1, 1) := by decide +kernel
theorem dX6_init_22 : decode cX6_init 22 = .ok (.iconst 2, 1) := by decide +kernel
theorem dX6_init_23 : decode cX6_init 23 = .ok (.if_icmp .ge 22, 3) := by decide +kernel
theorem dX6_init_26 : decode cX6_init 26 = .ok (.aload_n 0, 1) := by decide +kernel
theorem dX6_init_27 : decode cX6_init 27 = .ok (.getfield 11, 3) := by decide +kernel
theorem dX6_init_30 : decode cX6_init 30 = .ok (.iload_n 1, 1) := by decide +kernel
theorem dX6_init_31 : decode cX6_init 31 = .ok (.new 9, 3) := by decide +kernel
theorem dX6_init_34 : decode cX6_init 34 = .ok (.dup, 1) := by decide +kernel
theorem dX6_init_35 : decode cX6_init 35 = .ok (.invokespecial 21, 3) := by decide +kernel
theorem dX6_init_38 : decode cX6_init 38 = .ok (.aastore, 1) := by decide +kernel
theorem dX6_init_39 : decode cX6_init 39 = .ok (.iinc 1 1, 3) := by decide +kernel
theorem dX6_init_42 : decode cX6_init 42 = .ok (.goto (-21), 3) := by decide +kernel
theorem dX6_init_45 : decode cX6_init 45 = .ok (.return_, 1) := by decide +kernel
theorem dX6_isFilled_0 : decode cX6_isFilled 0 = .ok (.aload_n 0, 1) := by decide +kernel
theorem dX6_isFilled_1 : decode cX6_isFilled 1 = .ok (.getfield 17, 3) := by decide +kernel
theorem dX6_isFilled_4 : decode cX6_isFilled 4 = .ok (.iload_n 1, 1) := by decide +kernel
theorem dX6_isFilled_5 : decode cX6_isFilled 5 = .ok (.invokestatic 22, 3) := by decide +kernel
theorem dX6_isFilled_8 : decode cX6_isFilled 8 = .ok (.iconst 1, 1) := by decide +kernel
theorem dX6_isFilled_9 : decode cX6_isFilled 9 = .ok (.if_icmp .ne 7, 3) := by decide +kernel
theorem dX6_isFilled_12 : decode cX6_isFilled 12 = .ok (.iconst 1, 1) := by decide +kernel
theorem dX6_isFilled_13 : decode cX6_isFilled 13 = .ok (.goto 4, 3) := by decide +kernel
theorem dX6_isFilled_16 : decode cX6_isFilled 16 = .ok (.iconst 0, 1) := by decide +kernel
theorem dX6_isFilled_17 : decode cX6_isFilled 17 = .ok (.ireturn, 1) := by decide +kernel
theorem dX6_keep_0 : decode cX6_keep 0 = .ok (.aload_n 2, 1) := by decide +kernel
theorem dX6_keep_1 : decode cX6_keep 1 = .ok (.aload_n 0, 1) := by decide +kernel
theorem dX6_keep_2 : decode cX6_keep 2 = .ok (.iload_n 1, 1) := by decide +kernel
theorem dX6_keep_3 : decode cX6_keep 3 = .ok (.invokevirtual 26, 3) := by decide +kernel
theorem dX6_keep_6 : decode cX6_keep 6 = .ok (.invokestatic 30, 3) := by decide +kernel
theorem dX6_keep_9 : decode cX6_keep 9 = .ok (.aload_n 0, 1) := by decide +kernel
theorem dX6_keep_10 : decode cX6_keep 10 = .ok (.getfield 17, 3) := by decide +kernel
theorem dX6_keep_13 : decode cX6_keep 13 = .ok (.iload_n 1, 1) := by decide +kernel
theorem dX6_keep_14 : decode cX6_keep 14 = .ok (.iconst 1, 1) := by decide +kernel
theorem dX6_keep_15 : decode cX6_keep 15 = .ok (.invokestatic 34, 3) := by decide +kernel
theorem dX6_keep_18 : decode cX6_keep 18 = .ok (.return_, 1) := by decide +kernel
theorem dX6_fetchInto_0 : decode cX6_fetchInto 0 = .ok (.aload_n 0, 1) := by decide +kernel
theorem dX6_fetchInto_1 : decode cX6_fetchInto 1 = .ok (.iload_n 1, 1) := by decide +kernel
theorem dX6_fetchInto_2 : decode cX6_fetchInto 2 = .ok (.invokevirtual 26, 3) := by decide +kernel
theorem dX6_fetchInto_5 : decode cX6_fetchInto 5 = .ok (.aload_n 2, 1) := by decide +kernel
theorem dX6_fetchInto_6 : decode cX6_fetchInto 6 = .ok (.invokestatic 30, 3) := by decide +kernel
theorem dX6_fetchInto_9 : decode cX6_fetchInto 9 = .ok (.return_, 1) := by decide +kernel
theorem dX6_empty_0 : decode cX6_empty 0 = .ok (.aload_n 0, 1) := by decide +kernel
theorem dX6_empty_1 : decode cX6_empty 1 = .ok (.getfield 17, 3) := by decide +kernel
theorem dX6_empty_4 : decode cX6_empty 4 = .ok (.iconst 0, 1) := by decide +kernel
theorem dX6_empty_5 : decode cX6_empty 5 = .ok (.invokestatic 38, 3) := by decide +kernel
theorem dX6_empty_8 : decode cX6_empty 8 = .ok (.return_, 1) := by decide +kernel
theorem dX6_stateAt_0 : decode cX6_stateAt 0 = .ok (.iload_n 1, 1) := by decide +kernel
theorem dX6_stateAt_1 : decode cX6_stateAt 1 = .ok (.ifCond .lt 21, 3) := by decide +kernel
theorem dX6_stateAt_4 : decode cX6_stateAt 4 = .ok (.iload_n 1, 1) := by decide +kernel
theorem dX6_stateAt_5 : decode cX6_stateAt 5 = .ok (.aload_n 0, 1) := by decide +kernel
theorem dX6_stateAt_6 : decode cX6_stateAt 6 = .ok (.getfield 11, 3) := by decide +kernel
theorem dX6_stateAt_9 : decode cX6_stateAt 9 = .ok (.arraylength, 1) := by decide +kernel
theorem dX6_stateAt_10 : decode cX6_stateAt 10 = .ok (.if_icmp .ge 12, 3) := by decide +kernel
theorem dX6_stateAt_13 : decode cX6_stateAt 13 = .ok (.aload_n 0, 1) := by decide +kernel
theorem dX6_stateAt_14 : decode cX6_stateAt 14 = .ok (.getfield 11, 3) := by decide +kernel
theorem dX6_stateAt_17 : decode cX6_stateAt 17 = .ok (.iload_n 1, 1) := by decide +kernel
theorem dX6_stateAt_18 : decode cX6_stateAt 18 = .ok (.aaload, 1) := by decide +kernel
theorem dX6_stateAt_19 : decode cX6_stateAt 19 = .ok (.goto 4, 3) := by decide +kernel
theorem dX6_stateAt_22 : decode cX6_stateAt 22 = .ok (.aconst_null, 1) := by decide +kernel
theorem dX6_stateAt_23 : decode cX6_stateAt 23 = .ok (.areturn, 1) := by decide +kernel
theorem dX7_init_0 : decode cX7_init 0 = .ok (.aload_n 0, 1) := by decide +kernel
theorem dX7_init_1 : decode cX7_init 1 = .ok (.invokespecial 3, 3) := by decide +kernel
theorem dX7_init_4 : decode cX7_init 4 = .ok (.aload_n 0, 1) := by decide +kernel
theorem dX7_init_5 : decode cX7_init 5 = .ok (.new 9, 3) := by decide +kernel
theorem dX7_init_8 : decode cX7_init 8 = .ok (.dup, 1) := by decide +kernel
theorem dX7_init_9 : decode cX7_init 9 = .ok (.invokespecial 11, 3) := by decide +kernel
theorem dX7_init_12 : decode cX7_init 12 = .ok (.putfield 12, 3) := by decide +kernel
theorem dX7_init_15 : decode cX7_init 15 = .ok (.aload_n 0, 1) := by decide +kernel
theorem dX7_init_16 : decode cX7_init 16 = .ok (.new 18, 3) := by decide +kernel
theorem dX7_init_19 : decode cX7_init 19 = .ok (.dup, 1) := by decide +kernel
theorem dX7_init_20 : decode cX7_init 20 = .ok (.invokespecial 20, 3) := by decide +kernel
theorem dX7_init_23 : decode cX7_init 23 = .ok (.putfield 21, 3) := by decide +kernel
theorem dX7_init_26 : decode cX7_init 26 = .ok (.aload_n 0, 1) := by decide +kernel
theorem dX7_init_27 : decode cX7_init 27 = .ok (.new 25, 3) := by decide +kernel
theorem dX7_init_30 : decode cX7_init 30 = .ok (.dup, 1) := by decide +kernel
theorem dX7_init_31 : decode cX7_init 31 = .ok (.invokespecial 27, 3) := by decide +kernel
theorem dX7_init_34 : decode cX7_init 34 = .ok (.putfield 28, 3) := by decide +kernel
theorem dX7_init_37 : decode cX7_init 37 = .ok (.return_, 1) := by decide +kernel
theorem dX7_begin_0 : decode cX7_begin 0 = .ok (.aload_n 0, 1) := by decide +kernel
theorem dX7_begin_1 : decode cX7_begin 1 = .ok (.getfield 12, 3) := by decide +kernel
theorem dX7_begin_4 : decode cX7_begin 4 = .ok (.iconst 0, 1) := by decide +kernel
theorem dX7_begin_5 : decode cX7_begin 5 = .ok (.putfield 32, 3) := by decide +kernel
theorem dX7_begin_8 : decode cX7_begin 8 = .ok (.aload_n 0, 1) := by decide +kernel
theorem dX7_begin_9 : decode cX7_begin 9 = .ok (.getfield 21, 3) := by decide +kernel
theorem dX7_begin_12 : decode cX7_begin 12 = .ok (.iconst 0, 1) := by decide +kernel
theorem dX7_begin_13 : decode cX7_begin 13 = .ok (.putfield 36, 3) := by decide +kernel
theorem dX7_begin_16 : decode cX7_begin 16 = .ok (.aload_n 0, 1) := by decide +kernel
theorem dX7_begin_17 : decode cX7_begin 17 = .ok (.getfield 28, 3) := by decide +kernel
theorem dX7_begin_20 : decode cX7_begin 20 = .ok (.invokevirtual 37, 3) := by decide +kernel
theorem dX7_begin_23 : decode cX7_begin 23 = .ok (.aload_n 0, 1) := by decide +kernel
theorem dX7_begin_24 : decode cX7_begin 24 = .ok (.iload_n 1, 1) := by decide +kernel
theorem dX7_begin_25 : decode cX7_begin 25 = .ok (.putfield 40, 3) := by decide +kernel
theorem dX7_begin_28 : decode cX7_begin 28 = .ok (.aload_n 0, 1) := by decide +kernel
theorem dX7_begin_29 : decode cX7_begin 29 = .ok (.iconst 1, 1) := by decide +kernel
theorem dX7_begin_30 : decode cX7_begin 30 = .ok (.putfield 43, 3) := by decide +kernel
theorem dX7_begin_33 : decode cX7_begin 33 = .ok (.aload_n 0, 1) := by decide +kernel
theorem dX7_begin_34 : decode cX7_begin 34 = .ok (.iconst 0, 1) := by decide +kernel
theorem dX7_begin_35 : decode cX7_begin 35 = .ok (.putfield 46, 3) := by decide +kernel
theorem dX7_begin_38 : decode cX7_begin 38 = .ok (.aload_n 0, 1) := by decide +kernel
theorem dX7_begin_39 : decode cX7_begin 39 = .ok (.iconst 0, 1) := by decide +kernel
theorem dX7_begin_40 : decode cX7_begin 40 = .ok (.putfield 49, 3) := by decide +kernel
theorem dX7_begin_43 : decode cX7_begin 43 = .ok (.aload_n 0, 1) := by decide +kernel
theorem dX7_begin_44 : decode cX7_begin 44 = .ok (.iconst 0, 1) := by decide +kernel
theorem dX7_begin_45 : decode cX7_begin 45 = .ok (.putfield 52, 3) := by decide +kernel
theorem dX7_begin_48 : decode cX7_begin 48 = .ok (.aload_n 0, 1) := by decide +kernel
theorem dX7_begin_49 : decode cX7_begin 49 = .ok (.iconst 0, 1) := by decide +kernel
theorem dX7_begin_50 : decode cX7_begin 50 = .ok (.putfield 55, 3) := by decide +kernel
theorem dX7_begin_53 : decode cX7_begin 53 = .ok (.return_, 1) := by decide +kernel
theorem dX7_copyFrom_0 : decode cX7_copyFrom 0 = .ok (.aload_n 0, 1) := by decide +kernel
theorem dX7_copyFrom_1 : decode cX7_copyFrom 1 = .ok (.getfield 12, 3) := by decide +kernel
theorem dX7_copyFrom_4 : decode cX7_copyFrom 4 = .ok (.aload_n 1, 1) := by decide +kernel
theorem dX7_copyFrom_5 : decode cX7_copyFrom 5 = .ok (.getfield 12, 3) := by decide +kernel
theorem dX7_copyFrom_8 : decode cX7_copyFrom 8 = .ok (.invokevirtual 58, 3) := by decide +kernel
theorem dX7_copyFrom_11 : decode cX7_copyFrom 11 = .ok (.aload_n 0, 1) := by decide +kernel
theorem dX7_copyFrom_12 : decode cX7_copyFrom 12 = .ok (.getfield 21, 3) := by decide +kernel
theorem dX7_copyFrom_15 : decode cX7_copyFrom 15 = .ok (.aload_n 1, 1) := by decide +kernel
theorem dX7_copyFrom_16 : decode cX7_copyFrom 16 = .ok (.getfield 21, 3) := by decide +kernel
theorem dX7_copyFrom_19 : decode cX7_copyFrom 19 = .ok (.invokevirtual 62, 3) := by decide +kernel
theorem dX7_copyFrom_22 : decode cX7_copyFrom 22 = .ok (.aload_n 0, 1) := by decide +kernel
theorem dX7_copyFrom_23 : decode cX7_copyFrom 23 = .ok (.getfield 28, 3) := by decide +kernel
theorem dX7_copyFrom_26 : decode cX7_copyFrom 26 = .ok (.aload_n 1, 1) := by decide +kernel
theorem dX7_copyFrom_27 : decode cX7_copyFrom 27 = .ok (.getfield 28, 3) := by decide +kernel
theorem dX7_copyFrom_30 : decode cX7_copyFrom 30 = .ok (.invokevirtual 65, 3) := by decide +kernel
theorem dX7_copyFrom_33 : decode cX7_copyFrom 33 = .ok (.aload_n 0, 1) := by decide +kernel
theorem dX7_copyFrom_34 : decode cX7_copyFrom 34 = .ok (.aload_n 1, 1) := by decide +kernel
theorem dX7_copyFrom_35 : decode cX7_copyFrom 35 = .ok (.getfield 40, 3) := by decide +kernel
theorem dX7_copyFrom_38 : decode cX7_copyFrom 38 = .ok (.putfield 40, 3) := by decide +kernel
theorem dX7_copyFrom_41 : decode cX7_copyFrom 41 = .ok (.aload_n 0, 1) := by decide +kernel
theorem dX7_copyFrom_42 : decode cX7_copyFrom 42 = .ok (.aload_n 1, 1) := by decide +kernel
theorem dX7_copyFrom_43 : decode cX7_copyFrom 43 = .ok (.getfield 43, 3) := by decide +kernel
theorem dX7_copyFrom_46 : decode cX7_copyFrom 46 = .ok (.putfield 43, 3) := by decide +kernel
theorem dX7_copyFrom_49 : decode cX7_copyFrom 49 = .ok (.aload_n 0, 1) := by decide +kernel
theorem dX7_copyFrom_50 : decode cX7_copyFrom 50 = .ok (.aload_n 1, 1) := by decide +kernel
theorem dX7_copyFrom_51 : decode cX7_copyFrom 51 = .ok (.getfield 46, 3) := by decide +kernel
theorem dX7_copyFrom_54 : decode cX7_copyFrom 54 = .ok (.putfield 46, 3) := by decide +kernel
theorem dX7_copyFrom_57 : decode cX7_copyFrom 57 = .ok (.aload_n 0, 1) := by decide +kernel
theorem dX7_copyFrom_58 : decode cX7_copyFrom 58 = .ok (.aload_n 1, 1) := by decide +kernel
theorem dX7_copyFrom_59 : decode cX7_copyFrom 59 = .ok (.getfield 49, 3) := by decide +kernel
theorem dX7_copyFrom_62 : decode cX7_copyFrom 62 = .ok (.putfield 49, 3) := by decide +kernel
theorem dX7_copyFrom_65 : decode cX7_copyFrom 65 = .ok (.aload_n 0, 1) := by decide +kernel
theorem dX7_copyFrom_66 : decode cX7_copyFrom 66 = .ok (.aload_n 1, 1) := by decide +kernel
theorem dX7_copyFrom_67 : decode cX7_copyFrom 67 = .ok (.getfield 52, 3) := by decide +kernel
theorem dX7_copyFrom_70 : decode cX7_copyFrom 70 = .ok (.putfield 52, 3) := by decide +kernel
theorem dX7_copyFrom_73 : decode cX7_copyFrom 73 = .ok (.aload_n 0, 1) := by decide +kernel
theorem dX7_copyFrom_74 : decode cX7_copyFrom 74 = .ok (.aload_n 1, 1) := by decide +kernel
theorem dX7_copyFrom_75 : decode cX7_copyFrom 75 = .ok (.getfield 55, 3) := by decide +kernel
theorem dX7_copyFrom_78 : decode cX7_copyFrom 78 = .ok (.putfield 55, 3) := by decide +kernel
theorem dX7_copyFrom_81 : decode cX7_copyFrom 81 = .ok (.return_, 1) := by decide +kernel
theorem dX7_maySellTrack_0 : decode cX7_maySellTrack 0 = .ok (.iload_n 1, 1) := by decide +kernel
theorem dX7_maySellTrack_1 : decode cX7_maySellTrack 1 = .ok (.invokestatic 68, 3) := by decide +kernel
theorem dX7_maySellTrack_4 : decode cX7_maySellTrack 4 = .ok (.ifCond .eq 51, 3) := by decide +kernel
theorem dX7_maySellTrack_7 : decode cX7_maySellTrack 7 = .ok (.aload_n 0, 1) := by decide +kernel
theorem dX7_maySellTrack_8 : decode cX7_maySellTrack 8 = .ok (.getfield 12, 3) := by decide +kernel
theorem dX7_maySellTrack_11 : decode cX7_maySellTrack 11 = .ok (.iload_n 2, 1) := by decide +kernel
theorem dX7_maySellTrack_12 : decode cX7_maySellTrack 12 = .ok (.invokevirtual 72, 3) := by decide +kernel
theorem dX7_maySellTrack_15 : decode cX7_maySellTrack 15 = .ok (.ifCond .eq 40, 3) := by decide +kernel
theorem dX7_maySellTrack_18 : decode cX7_maySellTrack 18 = .ok (.aload_n 0, 1) := by decide +kernel
theorem dX7_maySellTrack_19 : decode cX7_maySellTrack 19 = .ok (.getfield 12, 3) := by decide +kernel
theorem dX7_maySellTrack_22 : decode cX7_maySellTrack 22 = .ok (.iload_n 2, 1) := by decide +kernel
theorem dX7_maySellTrack_23 : decode cX7_maySellTrack 23 = .ok (.invokevirtual 75, 3) := by decide +kernel
theorem dX7_maySellTrack_26 : decode cX7_maySellTrack 26 = .ok (.ifCond .eq 29, 3) := by decide +kernel
theorem dX7_maySellTrack_29 : decode cX7_maySellTrack 29 = .ok (.aload_n 0, 1) := by decide +kernel
theorem dX7_maySellTrack_30 : decode cX7_maySellTrack 30 = .ok (.getfield 28, 3) := by decide +kernel
theorem dX7_maySellTrack_33 : decode cX7_maySellTrack 33 = .ok (.getfield 78, 3) := by decide +kernel
theorem dX7_maySellTrack_36 : decode cX7_maySellTrack 36 = .ok (.iload_n 1, 1) := by decide +kernel
theorem dX7_maySellTrack_37 : decode cX7_maySellTrack 37 = .ok (.invokestatic 82, 3) := by decide +kernel
theorem dX7_maySellTrack_40 : decode cX7_maySellTrack 40 = .ok (.aload_n 0, 1) := by decide +kernel
theorem dX7_maySellTrack_41 : decode cX7_maySellTrack 41 = .ok (.getfield 12, 3) := by decide +kernel
theorem dX7_maySellTrack_44 : decode cX7_maySellTrack 44 = .ok (.iload_n 2, 1) := by decide +kernel
theorem dX7_maySellTrack_45 : decode cX7_maySellTrack 45 = .ok (.invokevirtual 86, 3) := by decide +kernel
theorem dX7_maySellTrack_48 : decode cX7_maySellTrack 48 = .ok (.if_icmp .lt 7, 3) := by decide +kernel
theorem dX7_maySellTrack_51 : decode cX7_maySellTrack 51 = .ok (.iconst 1, 1) := by decide +kernel
theorem dX7_maySellTrack_52 : decode cX7_maySellTrack 52 = .ok (.goto 4, 3) := by decide +kernel
theorem dX7_maySellTrack_55 : decode cX7_maySellTrack 55 = .ok (.iconst 0, 1) := by decide +kernel
theorem dX7_maySellTrack_56 : decode cX7_maySellTrack 56 = .ok (.ireturn, 1) := by decide +kernel
theorem dX7_sellTrack_0 : decode cX7_sellTrack 0 = .ok (.aload_n 0, 1) := by decide +kernel
theorem dX7_sellTrack_1 : decode cX7_sellTrack 1 = .ok (.getfield 28, 3) := by decide +kernel
theorem dX7_sellTrack_4 : decode cX7_sellTrack 4 = .ok (.iload_n 1, 1) := by decide +kernel
theorem dX7_sellTrack_5 : decode cX7_sellTrack 5 = .ok (.iconst 4, 1) := by decide +kernel
theorem dX7_sellTrack_6 : decode cX7_sellTrack 6 = .ok (.aload_n 0, 1) := by decide +kernel
theorem dX7_sellTrack_7 : decode cX7_sellTrack 7 = .ok (.getfield 12, 3) := by decide +kernel
theorem dX7_sellTrack_10 : decode cX7_sellTrack 10 = .ok (.iload_n 2, 1) := by decide +kernel
theorem dX7_sellTrack_11 : decode cX7_sellTrack 11 = .ok (.invokevirtual 86, 3) := by decide +kernel
theorem dX7_sellTrack_14 : decode cX7_sellTrack 14 = .ok (.invokevirtual 90, 3) := by decide +kernel
theorem dX7_sellTrack_17 : decode cX7_sellTrack 17 = .ok (.aload_n 0, 1) := by decide +kernel
theorem dX7_sellTrack_18 : decode cX7_sellTrack 18 = .ok (.getfield 12, 3) := by decide +kernel
theorem dX7_sellTrack_21 : decode cX7_sellTrack 21 = .ok (.getfield 94, 3) := by decide +kernel
theorem dX7_sellTrack_24 : decode cX7_sellTrack 24 = .ok (.iload_n 2, 1) := by decide +kernel
theorem dX7_sellTrack_25 : decode cX7_sellTrack 25 = .ok (.iload_n 1, 1) := by decide +kernel
theorem dX7_sellTrack_26 : decode cX7_sellTrack 26 = .ok (.invokestatic 97, 3) := by decide +kernel
theorem dX7_sellTrack_29 : decode cX7_sellTrack 29 = .ok (.return_, 1) := by decide +kernel
theorem dX7_maySellTrain_0 : decode cX7_maySellTrain 0 = .ok (.iload_n 1, 1) := by decide +kernel
theorem dX7_maySellTrain_1 : decode cX7_maySellTrain 1 = .ok (.invokestatic 68, 3) := by decide +kernel
theorem dX7_maySellTrain_4 : decode cX7_maySellTrain 4 = .ok (.ifCond .eq 71, 3) := by decide +kernel
theorem dX7_maySellTrain_7 : decode cX7_maySellTrain 7 = .ok (.iload_n 2, 1) := by decide +kernel
theorem dX7_maySellTrain_8 : decode cX7_maySellTrain 8 = .ok (.iconst 1, 1) := by decide +kernel
theorem dX7_maySellTrain_9 : decode cX7_maySellTrain 9 = .ok (.if_icmp .lt 66, 3) := by decide +kernel
theorem dX7_maySellTrain_12 : decode cX7_maySellTrain 12 = .ok (.iload_n 2, 1) := by decide +kernel
theorem dX7_maySellTrain_13 : decode cX7_maySellTrain 13 = .ok (.bipush 6, 2) := by decide +kernel
theorem dX7_maySellTrain_15 : decode cX7_maySellTrain 15 = .ok (.if_icmp .gt 60, 3) := by decide +kernel
theorem dX7_maySellTrain_18 : decode cX7_maySellTrain 18 = .ok (.iload_n 2, 1) := by decide +kernel
theorem dX7_maySellTrain_19 : decode cX7_maySellTrain 19 = .ok (.aload_n 0, 1) := by decide +kernel
theorem dX7_maySellTrain_20 : decode cX7_maySellTrain 20 = .ok (.getfield 43, 3) := by decide +kernel
theorem dX7_maySellTrain_23 : decode cX7_maySellTrain 23 = .ok (.iconst 1, 1) := by decide +kernel
theorem dX7_maySellTrain_24 : decode cX7_maySellTrain 24 = .ok (.isub, 1) := by decide +kernel
theorem dX7_maySellTrain_25 : decode cX7_maySellTrain 25 = .ok (.if_icmp .lt 50, 3) := by decide +kernel
theorem dX7_maySellTrain_28 : decode cX7_maySellTrain 28 = .ok (.iload_n 2, 1) := by decide +kernel
theorem dX7_maySellTrain_29 : decode cX7_maySellTrain 29 = .ok (.aload_n 0, 1) := by decide +kernel
theorem dX7_maySellTrain_30 : decode cX7_maySellTrain 30 = .ok (.getfield 43, 3) := by decide +kernel
theorem dX7_maySellTrain_33 : decode cX7_maySellTrain 33 = .ok (.iconst 1, 1) := by decide +kernel
theorem dX7_maySellTrain_34 : decode cX7_maySellTrain 34 = .ok (.iadd, 1) := by decide +kernel
theorem dX7_maySellTrain_35 : decode cX7_maySellTrain 35 = .ok (.if_icmp .gt 40, 3) := by decide +kernel
theorem dX7_maySellTrain_38 : decode cX7_maySellTrain 38 = .ok (.aload_n 0, 1) := by decide +kernel
theorem dX7_maySellTrain_39 : decode cX7_maySellTrain 39 = .ok (.getfield 28, 3) := by decide +kernel
theorem dX7_maySellTrain_42 : decode cX7_maySellTrain 42 = .ok (.getfield 101, 3) := by decide +kernel
theorem dX7_maySellTrain_45 : decode cX7_maySellTrain 45 = .ok (.iload_n 1, 1) := by decide +kernel
theorem dX7_maySellTrain_46 : decode cX7_maySellTrain 46 = .ok (.invokestatic 82, 3) := by decide +kernel
theorem dX7_maySellTrain_49 : decode cX7_maySellTrain 49 = .ok (.iconst 4, 1) := by decide +kernel
theorem dX7_maySellTrain_50 : decode cX7_maySellTrain 50 = .ok (.if_icmp .ge 25, 3) := by decide +kernel
theorem dX7_maySellTrain_53 : decode cX7_maySellTrain 53 = .ok (.aload_n 0, 1) := by decide +kernel
theorem dX7_maySellTrain_54 : decode cX7_maySellTrain 54 = .ok (.getfield 28, 3) := by decide +kernel
theorem dX7_maySellTrain_57 : decode cX7_maySellTrain 57 = .ok (.getfield 78, 3) := by decide +kernel
theorem dX7_maySellTrain_60 : decode cX7_maySellTrain 60 = .ok (.iload_n 1, 1) := by decide +kernel
theorem dX7_maySellTrain_61 : decode cX7_maySellTrain 61 = .ok (.invokestatic 82, 3) := by decide +kernel
theorem dX7_maySellTrain_64 : decode cX7_maySellTrain 64 = .ok (.bipush 20, 2) := by decide +kernel
theorem dX7_maySellTrain_66 : decode cX7_maySellTrain 66 = .ok (.iload_n 2, 1) := by decide +kernel
theorem dX7_maySellTrain_67 : decode cX7_maySellTrain 67 = .ok (.imul, 1) := by decide +kernel
theorem dX7_maySellTrain_68 : decode cX7_maySellTrain 68 = .ok (.if_icmp .lt 7, 3) := by decide +kernel
theorem dX7_maySellTrain_71 : decode cX7_maySellTrain 71 = .ok (.iconst 1, 1) := by decide +kernel
theorem dX7_maySellTrain_72 : decode cX7_maySellTrain 72 = .ok (.goto 4, 3) := by decide +kernel
theorem dX7_maySellTrain_75 : decode cX7_maySellTrain 75 = .ok (.iconst 0, 1) := by decide +kernel
theorem dX7_maySellTrain_76 : decode cX7_maySellTrain 76 = .ok (.ireturn, 1) := by decide +kernel
theorem dX7_sellTrain_0 : decode cX7_sellTrain 0 = .ok (.aload_n 0, 1) := by decide +kernel
theorem dX7_sellTrain_1 : decode cX7_sellTrain 1 = .ok (.getfield 28, 3) := by decide +kernel
theorem dX7_sellTrain_4 : decode cX7_sellTrain 4 = .ok (.iload_n 1, 1) := by decide +kernel
theorem dX7_sellTrain_5 : decode cX7_sellTrain 5 = .ok (.iconst 4, 1) := by decide +kernel
theorem dX7_sellTrain_6 : decode cX7_sellTrain 6 = .ok (.bipush 20, 2) := by decide +kernel
theorem dX7_sellTrain_8 : decode cX7_sellTrain 8 = .ok (.iload_n 2, 1) := by decide +kernel
theorem dX7_sellTrain_9 : decode cX7_sellTrain 9 = .ok (.imul, 1) := by decide +kernel
theorem dX7_sellTrain_10 : decode cX7_sellTrain 10 = .ok (.invokevirtual 90, 3) := by decide +kernel
theorem dX7_sellTrain_13 : decode cX7_sellTrain 13 = .ok (.aload_n 0, 1) := by decide +kernel
theorem dX7_sellTrain_14 : decode cX7_sellTrain 14 = .ok (.getfield 28, 3) := by decide +kernel
theorem dX7_sellTrain_17 : decode cX7_sellTrain 17 = .ok (.iload_n 1, 1) := by decide +kernel
theorem dX7_sellTrain_18 : decode cX7_sellTrain 18 = .ok (.iload_n 2, 1) := by decide +kernel
theorem dX7_sellTrain_19 : decode cX7_sellTrain 19 = .ok (.invokevirtual 104, 3) := by decide +kernel
theorem dX7_sellTrain_22 : decode cX7_sellTrain 22 = .ok (.iload_n 2, 1) := by decide +kernel
theorem dX7_sellTrain_23 : decode cX7_sellTrain 23 = .ok (.aload_n 0, 1) := by decide +kernel
theorem dX7_sellTrain_24 : decode cX7_sellTrain 24 = .ok (.getfield 43, 3) := by decide +kernel
theorem dX7_sellTrain_27 : decode cX7_sellTrain 27 = .ok (.if_icmp .gt 5, 3) := by decide +kernel
theorem dX7_sellTrain_30 : decode cX7_sellTrain 30 = .ok (.iconst 0, 1) := by decide +kernel
theorem dX7_sellTrain_31 : decode cX7_sellTrain 31 = .ok (.ireturn, 1) := by decide +kernel
theorem dX7_sellTrain_32 : decode cX7_sellTrain 32 = .ok (.aload_n 0, 1) := by decide +kernel
theorem dX7_sellTrain_33 : decode cX7_sellTrain 33 = .ok (.iload_n 2, 1) := by decide +kernel
theorem dX7_sellTrain_34 : decode cX7_sellTrain 34 = .ok (.putfield 43, 3) := by decide +kernel
theorem dX7_sellTrain_37 : decode cX7_sellTrain 37 = .ok (.aload_n 0, 1) := by decide +kernel
theorem dX7_sellTrain_38 : decode cX7_sellTrain 38 = .ok (.getfield 28, 3) := by decide +kernel
theorem dX7_sellTrain_41 : decode cX7_sellTrain 41 = .ok (.aload_n 0, 1) := by decide +kernel
theorem dX7_sellTrain_42 : decode cX7_sellTrain 42 = .ok (.getfield 43, 3) := by decide +kernel
theorem dX7_sellTrain_45 : decode cX7_sellTrain 45 = .ok (.iconst 1, 1) := by decide +kernel
theorem dX7_sellTrain_46 : decode cX7_sellTrain 46 = .ok (.isub, 1) := by decide +kernel
theorem dX7_sellTrain_47 : decode cX7_sellTrain 47 = .ok (.invokevirtual 108, 3) := by decide +kernel
theorem dX7_sellTrain_50 : decode cX7_sellTrain 50 = .ok (.istore_n 3, 1) := by decide +kernel
theorem dX7_sellTrain_51 : decode cX7_sellTrain 51 = .ok (.aload_n 0, 1) := by decide +kernel
theorem dX7_sellTrain_52 : decode cX7_sellTrain 52 = .ok (.dup, 1) := by decide +kernel
theorem dX7_sellTrain_53 : decode cX7_sellTrain 53 = .ok (.getfield 55, 3) := by decide +kernel
theorem dX7_sellTrain_56 : decode cX7_sellTrain 56 = .ok (.iload_n 3, 1) := by decide +kernel
theorem dX7_sellTrain_57 : decode cX7_sellTrain 57 = .ok (.iadd, 1) := by decide +kernel
theorem dX7_sellTrain_58 : decode cX7_sellTrain 58 = .ok (.putfield 55, 3) := by decide +kernel
theorem dX7_sellTrain_61 : decode cX7_sellTrain 61 = .ok (.iload_n 3, 1) := by decide +kernel
theorem dX7_sellTrain_62 : decode cX7_sellTrain 62 = .ok (.ireturn, 1) := by decide +kernel
theorem dX7_mayGive_0 : decode cX7_mayGive 0 = .ok (.iload_n 1, 1) := by decide +kernel
theorem dX7_mayGive_1 : decode cX7_mayGive 1 = .ok (.invokestatic 68, 3) := by decide +kernel
theorem dX7_mayGive_4 : decode cX7_mayGive 4 = .ok (.ifCond .eq 29, 3) := by decide +kernel
theorem dX7_mayGive_7 : decode cX7_mayGive 7 = .ok (.aload_n 0, 1) := by decide +kernel
theorem dX7_mayGive_8 : decode cX7_mayGive 8 = .ok (.getfield 21, 3) := by decide +kernel
theorem dX7_mayGive_11 : decode cX7_mayGive 11 = .ok (.iload_n 2, 1) := by decide +kernel
theorem dX7_mayGive_12 : decode cX7_mayGive 12 = .ok (.invokevirtual 111, 3) := by decide +kernel
theorem dX7_mayGive_15 : decode cX7_mayGive 15 = .ok (.ifCond .eq 18, 3) := by decide +kernel
theorem dX7_mayGive_18 : decode cX7_mayGive 18 = .ok (.aload_n 0, 1) := by decide +kernel
theorem dX7_mayGive_19 : decode cX7_mayGive 19 = .ok (.getfield 21, 3) := by decide +kernel
theorem dX7_mayGive_22 : decode cX7_mayGive 22 = .ok (.iload_n 2, 1) := by decide +kernel
theorem dX7_mayGive_23 : decode cX7_mayGive 23 = .ok (.invokevirtual 112, 3) := by decide +kernel
theorem dX7_mayGive_26 : decode cX7_mayGive 26 = .ok (.ifCond .eq 7, 3) := by decide +kernel
theorem dX7_mayGive_29 : decode cX7_mayGive 29 = .ok (.iconst 1, 1) := by decide +kernel
theorem dX7_mayGive_30 : decode cX7_mayGive 30 = .ok (.goto 4, 3) := by decide +kernel
theorem dX7_mayGive_33 : decode cX7_mayGive 33 = .ok (.iconst 0, 1) := by decide +kernel
theorem dX7_mayGive_34 : decode cX7_mayGive 34 = .ok (.ireturn, 1) := by decide +kernel
theorem dX7_payMail_0 : decode cX7_payMail 0 = .ok (.aload_n 0, 1) := by decide +kernel
theorem dX7_payMail_1 : decode cX7_payMail 1 = .ok (.getfield 28, 3) := by decide +kernel
theorem dX7_payMail_4 : decode cX7_payMail 4 = .ok (.iconst 4, 1) := by decide +kernel
theorem dX7_payMail_5 : decode cX7_payMail 5 = .ok (.iload_n 1, 1) := by decide +kernel
theorem dX7_payMail_6 : decode cX7_payMail 6 = .ok (.iload_n 2, 1) := by decide +kernel
theorem dX7_payMail_7 : decode cX7_payMail 7 = .ok (.invokevirtual 90, 3) := by decide +kernel
theorem dX7_payMail_10 : decode cX7_payMail 10 = .ok (.aload_n 0, 1) := by decide +kernel
theorem dX7_payMail_11 : decode cX7_payMail 11 = .ok (.dup, 1) := by decide +kernel
theorem dX7_payMail_12 : decode cX7_payMail 12 = .ok (.getfield 49, 3) := by decide +kernel
theorem dX7_payMail_15 : decode cX7_payMail 15 = .ok (.iload_n 2, 1) := by decide +kernel
theorem dX7_payMail_16 : decode cX7_payMail 16 = .ok (.iadd, 1) := by decide +kernel
theorem dX7_payMail_17 : decode cX7_payMail 17 = .ok (.putfield 49, 3) := by decide +kernel
theorem dX7_payMail_20 : decode cX7_payMail 20 = .ok (.return_, 1) := by decide +kernel
theorem dX7_closeRound_0 : decode cX7_closeRound 0 = .ok (.aload_n 0, 1) := by decide +kernel
theorem dX7_closeRound_1 : decode cX7_closeRound 1 = .ok (.invokevirtual 115, 3) := by decide +kernel
theorem dX7_closeRound_4 : decode cX7_closeRound 4 = .ok (.aload_n 0, 1) := by decide +kernel
theorem dX7_closeRound_5 : decode cX7_closeRound 5 = .ok (.invokevirtual 118, 3) := by decide +kernel
theorem dX7_closeRound_8 : decode cX7_closeRound 8 = .ok (.aload_n 0, 1) := by decide +kernel
theorem dX7_closeRound_9 : decode cX7_closeRound 9 = .ok (.invokevirtual 121, 3) := by decide +kernel
theorem dX7_closeRound_12 : decode cX7_closeRound 12 = .ok (.istore_n 1, 1) := by decide +kernel
theorem dX7_closeRound_13 : decode cX7_closeRound 13 = .ok (.aload_n 0, 1) := by decide +kernel
theorem dX7_closeRound_14 : decode cX7_closeRound 14 = .ok (.dup, 1) := by decide +kernel
theorem dX7_closeRound_15 : decode cX7_closeRound 15 = .ok (.getfield 46, 3) := by decide +kernel
theorem dX7_closeRound_18 : decode cX7_closeRound 18 = .ok (.iconst 1, 1) := by decide +kernel
theorem dX7_closeRound_19 : decode cX7_closeRound 19 = .ok (.iadd, 1) := by decide +kernel
theorem dX7_closeRound_20 : decode cX7_closeRound 20 = .ok (.putfield 46, 3) := by decide +kernel
theorem dX7_closeRound_23 : decode cX7_closeRound 23 = .ok (.aload_n 0, 1) := by decide +kernel
theorem dX7_closeRound_24 : decode cX7_closeRound 24 = .ok (.getfield 21, 3) := by decide +kernel
theorem dX7_closeRound_27 : decode cX7_closeRound 27 = .ok (.getfield 125, 3) := by decide +kernel
theorem dX7_closeRound_30 : decode cX7_closeRound 30 = .ok (.iconst 0, 1) := by decide +kernel
theorem dX7_closeRound_31 : decode cX7_closeRound 31 = .ok (.invokestatic 128, 3) := by decide +kernel
theorem dX7_closeRound_34 : decode cX7_closeRound 34 = .ok (.aload_n 0, 1) := by decide +kernel
theorem dX7_closeRound_35 : decode cX7_closeRound 35 = .ok (.getfield 28, 3) := by decide +kernel
theorem dX7_closeRound_38 : decode cX7_closeRound 38 = .ok (.getfield 132, 3) := by decide +kernel
theorem dX7_closeRound_41 : decode cX7_closeRound 41 = .ok (.iconst 0, 1) := by decide +kernel
theorem dX7_closeRound_42 : decode cX7_closeRound 42 = .ok (.invokestatic 128, 3) := by decide +kernel
theorem dX7_closeRound_45 : decode cX7_closeRound 45 = .ok (.iload_n 1, 1) := by decide +kernel
theorem dX7_closeRound_46 : decode cX7_closeRound 46 = .ok (.ireturn, 1) := by decide +kernel
theorem dX7_serveContracts_0 : decode cX7_serveContracts 0 = .ok (.iconst 0, 1) := by decide +kernel
theorem dX7_serveContracts_1 : decode cX7_serveContracts 1 = .ok (.istore_n 1, 1) := by decide +kernel
theorem dX7_serveContracts_2 : decode cX7_serveContracts 2 = .ok (.iload_n 1, 1) := by decide +kernel
theorem dX7_serveContracts_3 : decode cX7_serveContracts 3 = .ok (.aload_n 0, 1) := by decide +kernel
theorem dX7_serveContracts_4 : decode cX7_serveContracts 4 = .ok (.getfield 21, 3) := by decide +kernel
theorem dX7_serveContracts_7 : decode cX7_serveContracts 7 = .ok (.getfield 36, 3) := by decide +kernel
theorem dX7_serveContracts_10 : decode cX7_serveContracts 10 = .ok (.if_icmp .ge 85, 3) := by decide +kernel
theorem dX7_serveContracts_13 : decode cX7_serveContracts 13 = .ok (.aload_n 0, 1) := by decide +kernel
theorem dX7_serveContracts_14 : decode cX7_serveContracts 14 = .ok (.getfield 21, 3) := by decide +kernel
theorem dX7_serveContracts_17 : decode cX7_serveContracts 17 = .ok (.iload_n 1, 1) := by decide +kernel
theorem dX7_serveContracts_18 : decode cX7_serveContracts 18 = .ok (.invokevirtual 112, 3) := by decide +kernel
theorem dX7_serveContracts_21 : decode cX7_serveContracts 21 = .ok (.ifCond .ne 68, 3) := by decide +kernel
theorem dX7_serveContracts_24 : decode cX7_serveContracts 24 = .ok (.aload_n 0, 1) := by decide +kernel
theorem dX7_serveContracts_25 : decode cX7_serveContracts 25 = .ok (.getfield 21, 3) := by decide +kernel
theorem dX7_serveContracts_28 : decode cX7_serveContracts 28 = .ok (.getfield 125, 3) := by decide +kernel
theorem dX7_serveContracts_31 : decode cX7_serveContracts 31 = .ok (.iload_n 1, 1) := by decide +kernel
theorem dX7_serveContracts_32 : decode cX7_serveContracts 32 = .ok (.invokestatic 82, 3) := by decide +kernel
theorem dX7_serveContracts_35 : decode cX7_serveContracts 35 = .ok (.ifCond .ne 30, 3) := by decide +kernel
theorem dX7_serveContracts_38 : decode cX7_serveContracts 38 = .ok (.aload_n 0, 1) := by decide +kernel
theorem dX7_serveContracts_39 : decode cX7_serveContracts 39 = .ok (.getfield 28, 3) := by decide +kernel
theorem dX7_serveContracts_42 : decode cX7_serveContracts 42 = .ok (.aload_n 0, 1) := by decide +kernel
theorem dX7_serveContracts_43 : decode cX7_serveContracts 43 = .ok (.getfield 21, 3) := by decide +kernel
theorem dX7_serveContracts_46 : decode cX7_serveContracts 46 = .ok (.iload_n 1, 1) := by decide +kernel
theorem dX7_serveContracts_47 : decode cX7_serveContracts 47 = .ok (.invokevirtual 133, 3) := by decide +kernel
theorem dX7_serveContracts_50 : decode cX7_serveContracts 50 = .ok (.iconst 4, 1) := by decide +kernel
theorem dX7_serveContracts_51 : decode cX7_serveContracts 51 = .ok (.iconst 5, 1) := by decide +kernel
theorem dX7_serveContracts_52 : decode cX7_serveContracts 52 = .ok (.invokevirtual 90, 3) := by decide +kernel
theorem dX7_serveContracts_55 : decode cX7_serveContracts 55 = .ok (.aload_n 0, 1) := by decide +kernel
theorem dX7_serveContracts_56 : decode cX7_serveContracts 56 = .ok (.dup, 1) := by decide +kernel
theorem dX7_serveContracts_57 : decode cX7_serveContracts 57 = .ok (.getfield 52, 3) := by decide +kernel
theorem dX7_serveContracts_60 : decode cX7_serveContracts 60 = .ok (.iconst 5, 1) := by decide +kernel
theorem dX7_serveContracts_61 : decode cX7_serveContracts 61 = .ok (.iadd, 1) := by decide +kernel
theorem dX7_serveContracts_62 : decode cX7_serveContracts 62 = .ok (.putfield 52, 3) := by decide +kernel
theorem dX7_serveContracts_65 : decode cX7_serveContracts 65 = .ok (.aload_n 0, 1) := by decide +kernel
theorem dX7_serveContracts_66 : decode cX7_serveContracts 66 = .ok (.getfield 21, 3) := by decide +kernel
theorem dX7_serveContracts_69 : decode cX7_serveContracts 69 = .ok (.getfield 136, 3) := by decide +kernel
theorem dX7_serveContracts_72 : decode cX7_serveContracts 72 = .ok (.iload_n 1, 1) := by decide +kernel
theorem dX7_serveContracts_73 : decode cX7_serveContracts 73 = .ok (.aload_n 0, 1) := by decide +kernel
theorem dX7_serveContracts_74 : decode cX7_serveContracts 74 = .ok (.getfield 21, 3) := by decide +kernel
theorem dX7_serveContracts_77 : decode cX7_serveContracts 77 = .ok (.getfield 136, 3) := by decide +kernel
theorem dX7_serveContracts_80 : decode cX7_serveContracts 80 = .ok (.iload_n 1, 1) := by decide +kernel
theorem dX7_serveContracts_81 : decode cX7_serveContracts 81 = .ok (.invokestatic 82, 3) := by decide +kernel
theorem dX7_serveContracts_84 : decode cX7_serveContracts 84 = .ok (.iconst 1, 1) := by decide +kernel
theorem dX7_serveContracts_85 : decode cX7_serveContracts 85 = .ok (.isub, 1) := by decide +kernel
theorem dX7_serveContracts_86 : decode cX7_serveContracts 86 = .ok (.invokestatic 97, 3) := by decide +kernel
theorem dX7_serveContracts_89 : decode cX7_serveContracts 89 = .ok (.iinc 1 1, 3) := by decide +kernel
theorem dX7_serveContracts_92 : decode cX7_serveContracts 92 = .ok (.goto (-90), 3) := by decide +kernel
theorem dX7_serveContracts_95 : decode cX7_serveContracts 95 = .ok (.aload_n 0, 1) := by decide +kernel
theorem dX7_serveContracts_96 : decode cX7_serveContracts 96 = .ok (.getfield 21, 3) := by decide +kernel
theorem dX7_serveContracts_99 : decode cX7_serveContracts 99 = .ok (.invokevirtual 139, 3) := by decide +kernel
theorem dX7_serveContracts_102 : decode cX7_serveContracts 102 = .ok (.return_, 1) := by decide +kernel
theorem dX7_payUpkeep_0 : decode cX7_payUpkeep 0 = .ok (.iconst 0, 1) := by decide +kernel
theorem dX7_payUpkeep_1 : decode cX7_payUpkeep 1 = .ok (.istore_n 1, 1) := by decide +kernel
theorem dX7_payUpkeep_2 : decode cX7_payUpkeep 2 = .ok (.iload_n 1, 1) := by decide +kernel
theorem dX7_payUpkeep_3 : decode cX7_payUpkeep 3 = .ok (.iconst 4, 1) := by decide +kernel
theorem dX7_payUpkeep_4 : decode cX7_payUpkeep 4 = .ok (.if_icmp .ge 35, 3) := by decide +kernel
theorem dX7_payUpkeep_7 : decode cX7_payUpkeep 7 = .ok (.aload_n 0, 1) := by decide +kernel
theorem dX7_payUpkeep_8 : decode cX7_payUpkeep 8 = .ok (.getfield 28, 3) := by decide +kernel
theorem dX7_payUpkeep_11 : decode cX7_payUpkeep 11 = .ok (.iload_n 1, 1) := by decide +kernel
theorem dX7_payUpkeep_12 : decode cX7_payUpkeep 12 = .ok (.iconst 4, 1) := by decide +kernel
theorem dX7_payUpkeep_13 : decode cX7_payUpkeep 13 = .ok (.aload_n 0, 1) := by decide +kernel
theorem dX7_payUpkeep_14 : decode cX7_payUpkeep 14 = .ok (.getfield 12, 3) := by decide +kernel
theorem dX7_payUpkeep_17 : decode cX7_payUpkeep 17 = .ok (.iload_n 1, 1) := by decide +kernel
theorem dX7_payUpkeep_18 : decode cX7_payUpkeep 18 = .ok (.invokevirtual 142, 3) := by decide +kernel
theorem dX7_payUpkeep_21 : decode cX7_payUpkeep 21 = .ok (.aload_n 0, 1) := by decide +kernel
theorem dX7_payUpkeep_22 : decode cX7_payUpkeep 22 = .ok (.getfield 28, 3) := by decide +kernel
theorem dX7_payUpkeep_25 : decode cX7_payUpkeep 25 = .ok (.iload_n 1, 1) := by decide +kernel
theorem dX7_payUpkeep_26 : decode cX7_payUpkeep 26 = .ok (.invokevirtual 145, 3) := by decide +kernel
theorem dX7_payUpkeep_29 : decode cX7_payUpkeep 29 = .ok (.iadd, 1) := by decide +kernel
theorem dX7_payUpkeep_30 : decode cX7_payUpkeep 30 = .ok (.invokevirtual 90, 3) := by decide +kernel
theorem dX7_payUpkeep_33 : decode cX7_payUpkeep 33 = .ok (.iinc 1 1, 3) := by decide +kernel
theorem dX7_payUpkeep_36 : decode cX7_payUpkeep 36 = .ok (.goto (-34), 3) := by decide +kernel
theorem dX7_payUpkeep_39 : decode cX7_payUpkeep 39 = .ok (.return_, 1) := by decide +kernel
theorem dX7_settle_0 : decode cX7_settle 0 = .ok (.iconst 0, 1) := by decide +kernel
theorem dX7_settle_1 : decode cX7_settle 1 = .ok (.istore_n 1, 1) := by decide +kernel
theorem dX7_settle_2 : decode cX7_settle 2 = .ok (.iconst 0, 1) := by decide +kernel
theorem dX7_settle_3 : decode cX7_settle 3 = .ok (.istore_n 2, 1) := by decide +kernel
theorem dX7_settle_4 : decode cX7_settle 4 = .ok (.iload_n 2, 1) := by decide +kernel
theorem dX7_settle_5 : decode cX7_settle 5 = .ok (.iconst 4, 1) := by decide +kernel
theorem dX7_settle_6 : decode cX7_settle 6 = .ok (.if_icmp .ge 50, 3) := by decide +kernel
theorem dX7_settle_9 : decode cX7_settle 9 = .ok (.aload_n 0, 1) := by decide +kernel
theorem dX7_settle_10 : decode cX7_settle 10 = .ok (.getfield 28, 3) := by decide +kernel
theorem dX7_settle_13 : decode cX7_settle 13 = .ok (.getfield 78, 3) := by decide +kernel
theorem dX7_settle_16 : decode cX7_settle 16 = .ok (.iload_n 2, 1) := by decide +kernel
theorem dX7_settle_17 : decode cX7_settle 17 = .ok (.invokestatic 82, 3) := by decide +kernel
theorem dX7_settle_20 : decode cX7_settle 20 = .ok (.ifCond .ge 30, 3) := by decide +kernel
theorem dX7_settle_23 : decode cX7_settle 23 = .ok (.aload_n 0, 1) := by decide +kernel
theorem dX7_settle_24 : decode cX7_settle 24 = .ok (.getfield 28, 3) := by decide +kernel
theorem dX7_settle_27 : decode cX7_settle 27 = .ok (.iload_n 2, 1) := by decide +kernel
theorem dX7_settle_28 : decode cX7_settle 28 = .ok (.invokevirtual 148, 3) := by decide +kernel
theorem dX7_settle_31 : decode cX7_settle 31 = .ok (.aload_n 0, 1) := by decide +kernel
theorem dX7_settle_32 : decode cX7_settle 32 = .ok (.getfield 12, 3) := by decide +kernel
theorem dX7_settle_35 : decode cX7_settle 35 = .ok (.iload_n 2, 1) := by decide +kernel
theorem dX7_settle_36 : decode cX7_settle 36 = .ok (.invokevirtual 152, 3) := by decide +kernel
theorem dX7_settle_39 : decode cX7_settle 39 = .ok (.aload_n 0, 1) := by decide +kernel
theorem dX7_settle_40 : decode cX7_settle 40 = .ok (.getfield 21, 3) := by decide +kernel
theorem dX7_settle_43 : decode cX7_settle 43 = .ok (.iload_n 2, 1) := by decide +kernel
theorem dX7_settle_44 : decode cX7_settle 44 = .ok (.invokevirtual 155, 3) := by decide +kernel
theorem dX7_settle_47 : decode cX7_settle 47 = .ok (.iinc 1 1, 3) := by decide +kernel
theorem dX7_settle_50 : decode cX7_settle 50 = .ok (.iinc 2 1, 3) := by decide +kernel
theorem dX7_settle_53 : decode cX7_settle 53 = .ok (.goto (-49), 3) := by decide +kernel
theorem dX7_settle_56 : decode cX7_settle 56 = .ok (.iload_n 1, 1) := by decide +kernel
theorem dX7_settle_57 : decode cX7_settle 57 = .ok (.ireturn, 1) := by decide +kernel
theorem dX7_worthOf_0 : decode cX7_worthOf 0 = .ok (.aload_n 0, 1) := by decide +kernel
theorem dX7_worthOf_1 : decode cX7_worthOf 1 = .ok (.getfield 28, 3) := by decide +kernel
theorem dX7_worthOf_4 : decode cX7_worthOf 4 = .ok (.getfield 78, 3) := by decide +kernel
theorem dX7_worthOf_7 : decode cX7_worthOf 7 = .ok (.iload_n 1, 1) := by decide +kernel
theorem dX7_worthOf_8 : decode cX7_worthOf 8 = .ok (.invokestatic 82, 3) := by decide +kernel
theorem dX7_worthOf_11 : decode cX7_worthOf 11 = .ok (.iconst 3, 1) := by decide +kernel
theorem dX7_worthOf_12 : decode cX7_worthOf 12 = .ok (.aload_n 0, 1) := by decide +kernel
theorem dX7_worthOf_13 : decode cX7_worthOf 13 = .ok (.getfield 12, 3) := by decide +kernel
theorem dX7_worthOf_16 : decode cX7_worthOf 16 = .ok (.iload_n 1, 1) := by decide +kernel
theorem dX7_worthOf_17 : decode cX7_worthOf 17 = .ok (.invokevirtual 158, 3) := by decide +kernel
theorem dX7_worthOf_20 : decode cX7_worthOf 20 = .ok (.imul, 1) := by decide +kernel
theorem dX7_worthOf_21 : decode cX7_worthOf 21 = .ok (.iadd, 1) := by decide +kernel
theorem dX7_worthOf_22 : decode cX7_worthOf 22 = .ok (.bipush 10, 2) := by decide +kernel
theorem dX7_worthOf_24 : decode cX7_worthOf 24 = .ok (.aload_n 0, 1) := by decide +kernel
theorem dX7_worthOf_25 : decode cX7_worthOf 25 = .ok (.getfield 28, 3) := by decide +kernel
theorem dX7_worthOf_28 : decode cX7_worthOf 28 = .ok (.iload_n 1, 1) := by decide +kernel
theorem dX7_worthOf_29 : decode cX7_worthOf 29 = .ok (.invokevirtual 145, 3) := by decide +kernel
theorem dX7_worthOf_32 : decode cX7_worthOf 32 = .ok (.imul, 1) := by decide +kernel
theorem dX7_worthOf_33 : decode cX7_worthOf 33 = .ok (.iadd, 1) := by decide +kernel
theorem dX7_worthOf_34 : decode cX7_worthOf 34 = .ok (.ireturn, 1) := by decide +kernel
theorem dX7_greatestWorth_0 : decode cX7_greatestWorth 0 = .ok (.aload_n 0, 1) := by decide +kernel
theorem dX7_greatestWorth_1 : decode cX7_greatestWorth 1 = .ok (.iconst 0, 1) := by decide +kernel
theorem dX7_greatestWorth_2 : decode cX7_greatestWorth 2 = .ok (.invokevirtual 161, 3) := by decide +kernel
theorem dX7_greatestWorth_5 : decode cX7_greatestWorth 5 = .ok (.istore_n 1, 1) := by decide +kernel
theorem dX7_greatestWorth_6 : decode cX7_greatestWorth 6 = .ok (.iconst 1, 1) := by decide +kernel
theorem dX7_greatestWorth_7 : decode cX7_greatestWorth 7 = .ok (.istore_n 2, 1) := by decide +kernel
theorem dX7_greatestWorth_8 : decode cX7_greatestWorth 8 = .ok (.iload_n 2, 1) := by decide +kernel
theorem dX7_greatestWorth_9 : decode cX7_greatestWorth 9 = .ok (.iconst 4, 1) := by decide +kernel
theorem dX7_greatestWorth_10 : decode cX7_greatestWorth 10 = .ok (.if_icmp .ge 19, 3) := by decide +kernel
theorem dX7_greatestWorth_13 : decode cX7_greatestWorth 13 = .ok (.iload_n 1, 1) := by decide +kernel
theorem dX7_greatestWorth_14 : decode cX7_greatestWorth 14 = .ok (.aload_n 0, 1) := by decide +kernel
theorem dX7_greatestWorth_15 : decode cX7_greatestWorth 15 = .ok (.iload_n 2, 1) := by decide +kernel
theorem dX7_greatestWorth_16 : decode cX7_greatestWorth 16 = .ok (.invokevirtual 161, 3) := by decide +kernel
theorem dX7_greatestWorth_19 : decode cX7_greatestWorth 19 = .ok (.invokestatic 164, 3) := by decide +kernel
theorem dX7_greatestWorth_22 : decode cX7_greatestWorth 22 = .ok (.istore_n 1, 1) := by decide +kernel
theorem dX7_greatestWorth_23 : decode cX7_greatestWorth 23 = .ok (.iinc 2 1, 3) := by decide +kernel
theorem dX7_greatestWorth_26 : decode cX7_greatestWorth 26 = .ok (.goto (-18), 3) := by decide +kernel
theorem dX7_greatestWorth_29 : decode cX7_greatestWorth 29 = .ok (.iload_n 1, 1) := by decide +kernel
theorem dX7_greatestWorth_30 : decode cX7_greatestWorth 30 = .ok (.ireturn, 1) := by decide +kernel
theorem dX7_dealByChance_0 : decode cX7_dealByChance 0 = .ok (.iload_n 1, 1) := by decide +kernel
theorem dX7_dealByChance_1 : decode cX7_dealByChance 1 = .ok (.bipush 8, 2) := by decide +kernel
theorem dX7_dealByChance_3 : decode cX7_dealByChance 3 = .ok (.idiv, 1) := by decide +kernel
theorem dX7_dealByChance_4 : decode cX7_dealByChance 4 = .ok (.iconst 4, 1) := by decide +kernel
theorem dX7_dealByChance_5 : decode cX7_dealByChance 5 = .ok (.irem, 1) := by decide +kernel
theorem dX7_dealByChance_6 : decode cX7_dealByChance 6 = .ok (.istore_n 2, 1) := by decide +kernel
theorem dX7_dealByChance_7 : decode cX7_dealByChance 7 = .ok (.iload_n 1, 1) := by decide +kernel
theorem dX7_dealByChance_8 : decode cX7_dealByChance 8 = .ok (.bipush 32, 2) := by decide +kernel
theorem dX7_dealByChance_10 : decode cX7_dealByChance 10 = .ok (.idiv, 1) := by decide +kernel
theorem dX7_dealByChance_11 : decode cX7_dealByChance 11 = .ok (.istore_n 3, 1) := by decide +kernel
theorem dX7_dealByChance_12 : decode cX7_dealByChance 12 = .ok (.iload_n 1, 1) := by decide +kernel
theorem dX7_dealByChance_13 : decode cX7_dealByChance 13 = .ok (.bipush 8, 2) := by decide +kernel
theorem dX7_dealByChance_15 : decode cX7_dealByChance 15 = .ok (.irem, 1) := by decide +kernel
theorem dX7_dealByChance_16 : decode cX7_dealByChance 16 = .ok (.tableswitch 109 0 2 #[28, 43, 76], 28) := by decide +kernel
theorem dX7_dealByChance_44 : decode cX7_dealByChance 44 = .ok (.aload_n 0, 1) := by decide +kernel
theorem dX7_dealByChance_45 : decode cX7_dealByChance 45 = .ok (.iload_n 2, 1) := by decide +kernel
theorem dX7_dealByChance_46 : decode cX7_dealByChance 46 = .ok (.iconst 1, 1) := by decide +kernel
theorem dX7_dealByChance_47 : decode cX7_dealByChance 47 = .ok (.iload_n 3, 1) := by decide +kernel
theorem dX7_dealByChance_48 : decode cX7_dealByChance 48 = .ok (.bipush 6, 2) := by decide +kernel
theorem dX7_dealByChance_50 : decode cX7_dealByChance 50 = .ok (.irem, 1) := by decide +kernel
theorem dX7_dealByChance_51 : decode cX7_dealByChance 51 = .ok (.iadd, 1) := by decide +kernel
theorem dX7_dealByChance_52 : decode cX7_dealByChance 52 = .ok (.invokevirtual 170, 3) := by decide +kernel
theorem dX7_dealByChance_55 : decode cX7_dealByChance 55 = .ok (.pop, 1) := by decide +kernel
theorem dX7_dealByChance_56 : decode cX7_dealByChance 56 = .ok (.goto 69, 3) := by decide +kernel
theorem dX7_dealByChance_59 : decode cX7_dealByChance 59 = .ok (.aload_n 0, 1) := by decide +kernel
theorem dX7_dealByChance_60 : decode cX7_dealByChance 60 = .ok (.iload_n 2, 1) := by decide +kernel
theorem dX7_dealByChance_61 : decode cX7_dealByChance 61 = .ok (.aload_n 0, 1) := by decide +kernel
theorem dX7_dealByChance_62 : decode cX7_dealByChance 62 = .ok (.getfield 12, 3) := by decide +kernel
theorem dX7_dealByChance_65 : decode cX7_dealByChance 65 = .ok (.getfield 32, 3) := by decide +kernel
theorem dX7_dealByChance_68 : decode cX7_dealByChance 68 = .ok (.ifCond .le 15, 3) := by decide +kernel
theorem dX7_dealByChance_71 : decode cX7_dealByChance 71 = .ok (.iload_n 3, 1) := by decide +kernel
theorem dX7_dealByChance_72 : decode cX7_dealByChance 72 = .ok (.aload_n 0, 1) := by decide +kernel
theorem dX7_dealByChance_73 : decode cX7_dealByChance 73 = .ok (.getfield 12, 3) := by decide +kernel
theorem dX7_dealByChance_76 : decode cX7_dealByChance 76 = .ok (.getfield 32, 3) := by decide +kernel
theorem dX7_dealByChance_79 : decode cX7_dealByChance 79 = .ok (.irem, 1) := by decide +kernel
theorem dX7_dealByChance_80 : decode cX7_dealByChance 80 = .ok (.goto 5, 3) := by decide +kernel
theorem dX7_dealByChance_83 : decode cX7_dealByChance 83 = .ok (.bipush (-9), 2) := by decide +kernel
theorem dX7_dealByChance_85 : decode cX7_dealByChance 85 = .ok (.invokevirtual 174, 3) := by decide +kernel
theorem dX7_dealByChance_88 : decode cX7_dealByChance 88 = .ok (.pop, 1) := by decide +kernel
theorem dX7_dealByChance_89 : decode cX7_dealByChance 89 = .ok (.goto 36, 3) := by decide +kernel
theorem dX7_dealByChance_92 : decode cX7_dealByChance 92 = .ok (.aload_n 0, 1) := by decide +kernel
theorem dX7_dealByChance_93 : decode cX7_dealByChance 93 = .ok (.iload_n 2, 1) := by decide +kernel
theorem dX7_dealByChance_94 : decode cX7_dealByChance 94 = .ok (.aload_n 0, 1) := by decide +kernel
theorem dX7_dealByChance_95 : decode cX7_dealByChance 95 = .ok (.getfield 21, 3) := by decide +kernel
theorem dX7_dealByChance_98 : decode cX7_dealByChance 98 = .ok (.getfield 36, 3) := by decide +kernel
theorem dX7_dealByChance_101 : decode cX7_dealByChance 101 = .ok (.ifCond .le 15, 3) := by decide +kernel
theorem dX7_dealByChance_104 : decode cX7_dealByChance 104 = .ok (.iload_n 3, 1) := by decide +kernel
theorem dX7_dealByChance_105 : decode cX7_dealByChance 105 = .ok (.aload_n 0, 1) := by decide +kernel
theorem dX7_dealByChance_106 : decode cX7_dealByChance 106 = .ok (.getfield 21, 3) := by decide +kernel
theorem dX7_dealByChance_109 : decode cX7_dealByChance 109 = .ok (.getfield 36, 3) := by decide +kernel
theorem dX7_dealByChance_112 : decode cX7_dealByChance 112 = .ok (.irem, 1) := by decide +kernel
theorem dX7_dealByChance_113 : decode cX7_dealByChance 113 = .ok (.goto 5, 3) := by decide +kernel
theorem dX7_dealByChance_116 : decode cX7_dealByChance 116 = .ok (.bipush (-9), 2) := by decide +kernel
theorem dX7_dealByChance_118 : decode cX7_dealByChance 118 = .ok (.invokevirtual 177, 3) := by decide +kernel
theorem dX7_dealByChance_121 : decode cX7_dealByChance 121 = .ok (.pop, 1) := by decide +kernel
theorem dX7_dealByChance_122 : decode cX7_dealByChance 122 = .ok (.goto 3, 3) := by decide +kernel
theorem dX7_dealByChance_125 : decode cX7_dealByChance 125 = .ok (.return_, 1) := by decide +kernel
theorem dX7_tryTrack_0 : decode cX7_tryTrack 0 = .ok (.aload_n 0, 1) := by decide +kernel
theorem dX7_tryTrack_1 : decode cX7_tryTrack 1 = .ok (.iload_n 1, 1) := by decide +kernel
theorem dX7_tryTrack_2 : decode cX7_tryTrack 2 = .ok (.iload_n 2, 1) := by decide +kernel
theorem dX7_tryTrack_3 : decode cX7_tryTrack 3 = .ok (.invokevirtual 180, 3) := by decide +kernel
theorem dX7_tryTrack_6 : decode cX7_tryTrack 6 = .ok (.istore_n 3, 1) := by decide +kernel
theorem dX7_tryTrack_7 : decode cX7_tryTrack 7 = .ok (.iload_n 3, 1) := by decide +kernel
theorem dX7_tryTrack_8 : decode cX7_tryTrack 8 = .ok (.ifCond .eq 9, 3) := by decide +kernel
theorem dX7_tryTrack_11 : decode cX7_tryTrack 11 = .ok (.aload_n 0, 1) := by decide +kernel
theorem dX7_tryTrack_12 : decode cX7_tryTrack 12 = .ok (.iload_n 1, 1) := by decide +kernel
theorem dX7_tryTrack_13 : decode cX7_tryTrack 13 = .ok (.iload_n 2, 1) := by decide +kernel
theorem dX7_tryTrack_14 : decode cX7_tryTrack 14 = .ok (.invokevirtual 183, 3) := by decide +kernel
theorem dX7_tryTrack_17 : decode cX7_tryTrack 17 = .ok (.iload_n 3, 1) := by decide +kernel
theorem dX7_tryTrack_18 : decode cX7_tryTrack 18 = .ok (.ireturn, 1) := by decide +kernel
theorem dX7_tryTrain_0 : decode cX7_tryTrain 0 = .ok (.aload_n 0, 1) := by decide +kernel
theorem dX7_tryTrain_1 : decode cX7_tryTrain 1 = .ok (.iload_n 1, 1) := by decide +kernel
theorem dX7_tryTrain_2 : decode cX7_tryTrain 2 = .ok (.iload_n 2, 1) := by decide +kernel
theorem dX7_tryTrain_3 : decode cX7_tryTrain 3 = .ok (.invokevirtual 186, 3) := by decide +kernel
theorem dX7_tryTrain_6 : decode cX7_tryTrain 6 = .ok (.istore_n 3, 1) := by decide +kernel
theorem dX7_tryTrain_7 : decode cX7_tryTrain 7 = .ok (.iload_n 3, 1) := by decide +kernel
theorem dX7_tryTrain_8 : decode cX7_tryTrain 8 = .ok (.ifCond .eq 10, 3) := by decide +kernel
theorem dX7_tryTrain_11 : decode cX7_tryTrain 11 = .ok (.aload_n 0, 1) := by decide +kernel
theorem dX7_tryTrain_12 : decode cX7_tryTrain 12 = .ok (.iload_n 1, 1) := by decide +kernel
theorem dX7_tryTrain_13 : decode cX7_tryTrain 13 = .ok (.iload_n 2, 1) := by decide +kernel
theorem dX7_tryTrain_14 : decode cX7_tryTrain 14 = .ok (.invokevirtual 189, 3) := by decide +kernel
theorem dX7_tryTrain_17 : decode cX7_tryTrain 17 = .ok (.pop, 1) := by decide +kernel
theorem dX7_tryTrain_18 : decode cX7_tryTrain 18 = .ok (.iload_n 3, 1) := by decide +kernel
theorem dX7_tryTrain_19 : decode cX7_tryTrain 19 = .ok (.ireturn, 1) := by decide +kernel
theorem dX7_tryContract_0 : decode cX7_tryContract 0 = .ok (.aload_n 0, 1) := by decide +kernel
theorem dX7_tryContract_1 : decode cX7_tryContract 1 = .ok (.iload_n 1, 1) := by decide +kernel
theorem dX7_tryContract_2 : decode cX7_tryContract 2 = .ok (.iload_n 2, 1) := by decide +kernel
theorem dX7_tryContract_3 : decode cX7_tryContract 3 = .ok (.invokevirtual 192, 3) := by decide +kernel
theorem dX7_tryContract_6 : decode cX7_tryContract 6 = .ok (.istore_n 3, 1) := by decide +kernel
theorem dX7_tryContract_7 : decode cX7_tryContract 7 = .ok (.iload_n 3, 1) := by decide +kernel
theorem dX7_tryContract_8 : decode cX7_tryContract 8 = .ok (.ifCond .eq 12, 3) := by decide +kernel
theorem dX7_tryContract_11 : decode cX7_tryContract 11 = .ok (.aload_n 0, 1) := by decide +kernel
theorem dX7_tryContract_12 : decode cX7_tryContract 12 = .ok (.getfield 21, 3) := by decide +kernel
theorem dX7_tryContract_15 : decode cX7_tryContract 15 = .ok (.iload_n 2, 1) := by decide +kernel
theorem dX7_tryContract_16 : decode cX7_tryContract 16 = .ok (.iload_n 1, 1) := by decide +kernel
theorem dX7_tryContract_17 : decode cX7_tryContract 17 = .ok (.invokevirtual 195, 3) := by decide +kernel
theorem dX7_tryContract_20 : decode cX7_tryContract 20 = .ok (.iload_n 3, 1) := by decide +kernel
theorem dX7_tryContract_21 : decode cX7_tryContract 21 = .ok (.ireturn, 1) := by decide +kernel
theorem dX8_init_0 : decode cX8_init 0 = .ok (.aload_n 0, 1) := by decide +kernel
theorem dX8_init_1 : decode cX8_init 1 = .ok (.invokespecial 3, 3) := by decide +kernel
theorem dX8_init_4 : decode cX8_init 4 = .ok (.aload_n 0, 1) := by decide +kernel
theorem dX8_init_5 : decode cX8_init 5 = .ok (.bipush 16, 2) := by decide +kernel
theorem dX8_init_7 : decode cX8_init 7 = .ok (.newarray .int, 2) := by decide +kernel
theorem dX8_init_9 : decode cX8_init 9 = .ok (.putfield 9, 3) := by decide +kernel
theorem dX8_init_12 : decode cX8_init 12 = .ok (.aload_n 0, 1) := by decide +kernel
theorem dX8_init_13 : decode cX8_init 13 = .ok (.bipush 16, 2) := by decide +kernel
theorem dX8_init_15 : decode cX8_init 15 = .ok (.newarray .int, 2) := by decide +kernel
theorem dX8_init_17 : decode cX8_init 17 = .ok (.putfield 15, 3) := by decide +kernel
theorem dX8_init_20 : decode cX8_init 20 = .ok (.aload_n 0, 1) := by decide +kernel
theorem dX8_init_21 : decode cX8_init 21 = .ok (.bipush 16, 2) := by decide +kernel
theorem dX8_init_23 : decode cX8_init 23 = .ok (.newarray .int, 2) := by decide +kernel
theorem dX8_init_25 : decode cX8_init 25 = .ok (.putfield 18, 3) := by decide +kernel
theorem dX8_init_28 : decode cX8_init 28 = .ok (.aload_n 0, 1) := by decide +kernel
theorem dX8_init_29 : decode cX8_init 29 = .ok (.bipush 16, 2) := by decide +kernel
theorem dX8_init_31 : decode cX8_init 31 = .ok (.newarray .int, 2) := by decide +kernel
theorem dX8_init_33 : decode cX8_init 33 = .ok (.putfield 21, 3) := by decide +kernel
theorem dX8_init_36 : decode cX8_init 36 = .ok (.return_, 1) := by decide +kernel
theorem dX8_has_0 : decode cX8_has 0 = .ok (.iload_n 1, 1) := by decide +kernel
theorem dX8_has_1 : decode cX8_has 1 = .ok (.ifCond .lt 15, 3) := by decide +kernel
theorem dX8_has_4 : decode cX8_has 4 = .ok (.iload_n 1, 1) := by decide +kernel
theorem dX8_has_5 : decode cX8_has 5 = .ok (.aload_n 0, 1) := by decide +kernel
theorem dX8_has_6 : decode cX8_has 6 = .ok (.getfield 24, 3) := by decide +kernel
theorem dX8_has_9 : decode cX8_has 9 = .ok (.if_icmp .ge 7, 3) := by decide +kernel
theorem dX8_has_12 : decode cX8_has 12 = .ok (.iconst 1, 1) := by decide +kernel
theorem dX8_has_13 : decode cX8_has 13 = .ok (.goto 4, 3) := by decide +kernel
theorem dX8_has_16 : decode cX8_has 16 = .ok (.iconst 0, 1) := by decide +kernel
theorem dX8_has_17 : decode cX8_has 17 = .ok (.ireturn, 1) := by decide +kernel
theorem dX8_areFull_0 : decode cX8_areFull 0 = .ok (.aload_n 0, 1) := by decide +kernel
theorem dX8_areFull_1 : decode cX8_areFull 1 = .ok (.getfield 24, 3) := by decide +kernel
theorem dX8_areFull_4 : decode cX8_areFull 4 = .ok (.bipush 16, 2) := by decide +kernel
theorem dX8_areFull_6 : decode cX8_areFull 6 = .ok (.if_icmp .lt 7, 3) := by decide +kernel
theorem dX8_areFull_9 : decode cX8_areFull 9 = .ok (.iconst 1, 1) := by decide +kernel
theorem dX8_areFull_10 : decode cX8_areFull 10 = .ok (.goto 4, 3) := by decide +kernel
theorem dX8_areFull_13 : decode cX8_areFull 13 = .ok (.iconst 0, 1) := by decide +kernel
theorem dX8_areFull_14 : decode cX8_areFull 14 = .ok (.ireturn, 1) := by decide +kernel
theorem dX8_isOfBank_0 : decode cX8_isOfBank 0 = .ok (.aload_n 0, 1) := by decide +kernel
theorem dX8_isOfBank_1 : decode cX8_isOfBank 1 = .ok (.getfield 21, 3) := by decide +kernel
theorem dX8_isOfBank_4 : decode cX8_isOfBank 4 = .ok (.iload_n 1, 1) := by decide +kernel
theorem dX8_isOfBank_5 : decode cX8_isOfBank 5 = .ok (.invokestatic 28, 3) := by decide +kernel
theorem dX8_isOfBank_8 : decode cX8_isOfBank 8 = .ok (.iconst 4, 1) := by decide +kernel
theorem dX8_isOfBank_9 : decode cX8_isOfBank 9 = .ok (.if_icmp .ne 7, 3) := by decide +kernel
theorem dX8_isOfBank_12 : decode cX8_isOfBank 12 = .ok (.iconst 1, 1) := by decide +kernel
theorem dX8_isOfBank_13 : decode cX8_isOfBank 13 = .ok (.goto 4, 3) := by decide +kernel
theorem dX8_isOfBank_16 : decode cX8_isOfBank 16 = .ok (.iconst 0, 1) := by decide +kernel
theorem dX8_isOfBank_17 : decode cX8_isOfBank 17 = .ok (.ireturn, 1) := by decide +kernel
theorem dX8_add_0 : decode cX8_add 0 = .ok (.aload_n 0, 1) := by decide +kernel
theorem dX8_add_1 : decode cX8_add 1 = .ok (.invokevirtual 32, 3) := by decide +kernel
theorem dX8_add_4 : decode cX8_add 4 = .ok (.ifCond .ne 61, 3) := by decide +kernel
theorem dX8_add_7 : decode cX8_add 7 = .ok (.aload_n 0, 1) := by decide +kernel
theorem dX8_add_8 : decode cX8_add 8 = .ok (.getfield 9, 3) := by decide +kernel
theorem dX8_add_11 : decode cX8_add 11 = .ok (.aload_n 0, 1) := by decide +kernel
theorem dX8_add_12 : decode cX8_add 12 = .ok (.getfield 24, 3) := by decide +kernel
theorem dX8_add_15 : decode cX8_add 15 = .ok (.iload_n 1, 1) := by decide +kernel
theorem dX8_add_16 : decode cX8_add 16 = .ok (.invokestatic 36, 3) := by decide +kernel
theorem dX8_add_19 : decode cX8_add 19 = .ok (.aload_n 0, 1) := by decide +kernel
theorem dX8_add_20 : decode cX8_add 20 = .ok (.getfield 15, 3) := by decide +kernel
theorem dX8_add_23 : decode cX8_add 23 = .ok (.aload_n 0, 1) := by decide +kernel
theorem dX8_add_24 : decode cX8_add 24 = .ok (.getfield 24, 3) := by decide +kernel
theorem dX8_add_27 : decode cX8_add 27 = .ok (.iload_n 2, 1) := by decide +kernel
theorem dX8_add_28 : decode cX8_add 28 = .ok (.invokestatic 36, 3) := by decide +kernel
theorem dX8_add_31 : decode cX8_add 31 = .ok (.aload_n 0, 1) := by decide +kernel
theorem dX8_add_32 : decode cX8_add 32 = .ok (.getfield 18, 3) := by decide +kernel
theorem dX8_add_35 : decode cX8_add 35 = .ok (.aload_n 0, 1) := by decide +kernel
theorem dX8_add_36 : decode cX8_add 36 = .ok (.getfield 24, 3) := by decide +kernel
theorem dX8_add_39 : decode cX8_add 39 = .ok (.iload_n 3, 1) := by decide +kernel
theorem dX8_add_40 : decode cX8_add 40 = .ok (.invokestatic 36, 3) := by decide +kernel
theorem dX8_add_43 : decode cX8_add 43 = .ok (.aload_n 0, 1) := by decide +kernel
theorem dX8_add_44 : decode cX8_add 44 = .ok (.getfield 21, 3) := by decide +kernel
theorem dX8_add_47 : decode cX8_add 47 = .ok (.aload_n 0, 1) := by decide +kernel
theorem dX8_add_48 : decode cX8_add 48 = .ok (.getfield 24, 3) := by decide +kernel
theorem dX8_add_51 : decode cX8_add 51 = .ok (.iconst 4, 1) := by decide +kernel
theorem dX8_add_52 : decode cX8_add 52 = .ok (.invokestatic 36, 3) := by decide +kernel
theorem dX8_add_55 : decode cX8_add 55 = .ok (.aload_n 0, 1) := by decide +kernel
theorem dX8_add_56 : decode cX8_add 56 = .ok (.dup, 1) := by decide +kernel
theorem dX8_add_57 : decode cX8_add 57 = .ok (.getfield 24, 3) := by decide +kernel
theorem dX8_add_60 : decode cX8_add 60 = .ok (.iconst 1, 1) := by decide +kernel
theorem dX8_add_61 : decode cX8_add 61 = .ok (.iadd, 1) := by decide +kernel
theorem dX8_add_62 : decode cX8_add 62 = .ok (.putfield 24, 3) := by decide +kernel
theorem dX8_add_65 : decode cX8_add 65 = .ok (.return_, 1) := by decide +kernel
theorem dX8_priceOf_0 : decode cX8_priceOf 0 = .ok (.iconst 3, 1) := by decide +kernel
theorem dX8_priceOf_1 : decode cX8_priceOf 1 = .ok (.aload_n 0, 1) := by decide +kernel
theorem dX8_priceOf_2 : decode cX8_priceOf 2 = .ok (.getfield 18, 3) := by decide +kernel
theorem dX8_priceOf_5 : decode cX8_priceOf 5 = .ok (.iload_n 1, 1) := by decide +kernel
theorem dX8_priceOf_6 : decode cX8_priceOf 6 = .ok (.invokestatic 28, 3) := by decide +kernel
theorem dX8_priceOf_9 : decode cX8_priceOf 9 = .ok (.imul, 1) := by decide +kernel
theorem dX8_priceOf_10 : decode cX8_priceOf 10 = .ok (.ireturn, 1) := by decide +kernel
theorem dX8_countOf_0 : decode cX8_countOf 0 = .ok (.iconst 0, 1) := by decide +kernel
theorem dX8_countOf_1 : decode cX8_countOf 1 = .ok (.istore_n 2, 1) := by decide +kernel
theorem dX8_countOf_2 : decode cX8_countOf 2 = .ok (.iconst 0, 1) := by decide +kernel
theorem dX8_countOf_3 : decode cX8_countOf 3 = .ok (.istore_n 3, 1) := by decide +kernel
theorem dX8_countOf_4 : decode cX8_countOf 4 = .ok (.iload_n 3, 1) := by decide +kernel
theorem dX8_countOf_5 : decode cX8_countOf 5 = .ok (.aload_n 0, 1) := by decide +kernel
theorem dX8_countOf_6 : decode cX8_countOf 6 = .ok (.getfield 24, 3) := by decide +kernel
theorem dX8_countOf_9 : decode cX8_countOf 9 = .ok (.if_icmp .ge 29, 3) := by decide +kernel
theorem dX8_countOf_12 : decode cX8_countOf 12 = .ok (.iload_n 2, 1) := by decide +kernel
theorem dX8_countOf_13 : decode cX8_countOf 13 = .ok (.aload_n 0, 1) := by decide +kernel
theorem dX8_countOf_14 : decode cX8_countOf 14 = .ok (.getfield 21, 3) := by decide +kernel
theorem dX8_countOf_17 : decode cX8_countOf 17 = .ok (.iload_n 3, 1) := by decide +kernel
theorem dX8_countOf_18 : decode cX8_countOf 18 = .ok (.invokestatic 28, 3) := by decide +kernel
theorem dX8_countOf_21 : decode cX8_countOf 21 = .ok (.iload_n 1, 1) := by decide +kernel
theorem dX8_countOf_22 : decode cX8_countOf 22 = .ok (.if_icmp .ne 7, 3) := by decide +kernel
theorem dX8_countOf_25 : decode cX8_countOf 25 = .ok (.iconst 1, 1) := by decide +kernel
theorem dX8_countOf_26 : decode cX8_countOf 26 = .ok (.goto 4, 3) := by decide +kernel
theorem dX8_countOf_29 : decode cX8_countOf 29 = .ok (.iconst 0, 1) := by decide +kernel
theorem dX8_countOf_30 : decode cX8_countOf 30 = .ok (.iadd, 1) := by decide +kernel
theorem dX8_countOf_31 : decode cX8_countOf 31 = .ok (.istore_n 2, 1) := by decide +kernel
theorem dX8_countOf_32 : decode cX8_countOf 32 = .ok (.iinc 3 1, 3) := by decide +kernel
theorem dX8_countOf_35 : decode cX8_countOf 35 = .ok (.goto (-31), 3) := by decide +kernel
theorem dX8_countOf_38 : decode cX8_countOf 38 = .ok (.iload_n 2, 1) := by decide +kernel
theorem dX8_countOf_39 : decode cX8_countOf 39 = .ok (.ireturn, 1) := by decide +kernel
theorem dX8_lengthsOf_0 : decode cX8_lengthsOf 0 = .ok (.iconst 0, 1) := by decide +kernel
theorem dX8_lengthsOf_1 : decode cX8_lengthsOf 1 = .ok (.istore_n 2, 1) := by decide +kernel
theorem dX8_lengthsOf_2 : decode cX8_lengthsOf 2 = .ok (.iconst 0, 1) := by decide +kernel
theorem dX8_lengthsOf_3 : decode cX8_lengthsOf 3 = .ok (.istore_n 3, 1) := by decide +kernel
theorem dX8_lengthsOf_4 : decode cX8_lengthsOf 4 = .ok (.iload_n 3, 1) := by decide +kernel
theorem dX8_lengthsOf_5 : decode cX8_lengthsOf 5 = .ok (.aload_n 0, 1) := by decide +kernel
theorem dX8_lengthsOf_6 : decode cX8_lengthsOf 6 = .ok (.getfield 24, 3) := by decide +kernel
theorem dX8_lengthsOf_9 : decode cX8_lengthsOf 9 = .ok (.if_icmp .ge 36, 3) := by decide +kernel
theorem dX8_lengthsOf_12 : decode cX8_lengthsOf 12 = .ok (.iload_n 2, 1) := by decide +kernel
theorem dX8_lengthsOf_13 : decode cX8_lengthsOf 13 = .ok (.aload_n 0, 1) := by decide +kernel
theorem dX8_lengthsOf_14 : decode cX8_lengthsOf 14 = .ok (.getfield 21, 3) := by decide +kernel
theorem dX8_lengthsOf_17 : decode cX8_lengthsOf 17 = .ok (.iload_n 3, 1) := by decide +kernel
theorem dX8_lengthsOf_18 : decode cX8_lengthsOf 18 = .ok (.invokestatic 28, 3) := by decide +kernel
theorem dX8_lengthsOf_21 : decode cX8_lengthsOf 21 = .ok (.iload_n 1, 1) := by decide +kernel
theorem dX8_lengthsOf_22 : decode cX8_lengthsOf 22 = .ok (.if_icmp .ne 14, 3) := by decide +kernel
theorem dX8_lengthsOf_25 : decode cX8_lengthsOf 25 = .ok (.aload_n 0, 1) := by decide +kernel
theorem dX8_lengthsOf_26 : decode cX8_lengthsOf 26 = .ok (.getfield 18, 3) := by decide +kernel
theorem dX8_lengthsOf_29 : decode cX8_lengthsOf 29 = .ok (.iload_n 3, 1) := by decide +kernel
theorem dX8_lengthsOf_30 : decode cX8_lengthsOf 30 = .ok (.invokestatic 28, 3) := by decide +kernel
theorem dX8_lengthsOf_33 : decode cX8_lengthsOf 33 = .ok (.goto 4, 3) := by decide +kernel
theorem dX8_lengthsOf_36 : decode cX8_lengthsOf 36 = .ok (.iconst 0, 1) := by decide +kernel
theorem dX8_lengthsOf_37 : decode cX8_lengthsOf 37 = .ok (.iadd, 1) := by decide +kernel
theorem dX8_lengthsOf_38 : decode cX8_lengthsOf 38 = .ok (.istore_n 2, 1) := by decide +kernel
theorem dX8_lengthsOf_39 : decode cX8_lengthsOf 39 = .ok (.iinc 3 1, 3) := by decide +kernel
theorem dX8_lengthsOf_42 : decode cX8_lengthsOf 42 = .ok (.goto (-38), 3) := by decide +kernel
theorem dX8_lengthsOf_45 : decode cX8_lengthsOf 45 = .ok (.iload_n 2, 1) := by decide +kernel
theorem dX8_lengthsOf_46 : decode cX8_lengthsOf 46 = .ok (.ireturn, 1) := by decide +kernel
theorem dX8_farEnd_0 : decode cX8_farEnd 0 = .ok (.aload_n 0, 1) := by decide +kernel
theorem dX8_farEnd_1 : decode cX8_farEnd 1 = .ok (.getfield 9, 3) := by decide +kernel
theorem dX8_farEnd_4 : decode cX8_farEnd 4 = .ok (.iload_n 1, 1) := by decide +kernel
theorem dX8_farEnd_5 : decode cX8_farEnd 5 = .ok (.invokestatic 28, 3) := by decide +kernel
theorem dX8_farEnd_8 : decode cX8_farEnd 8 = .ok (.iload_n 2, 1) := by decide +kernel
theorem dX8_farEnd_9 : decode cX8_farEnd 9 = .ok (.if_icmp .ne 12, 3) := by decide +kernel
theorem dX8_farEnd_12 : decode cX8_farEnd 12 = .ok (.aload_n 0, 1) := by decide +kernel
theorem dX8_farEnd_13 : decode cX8_farEnd 13 = .ok (.getfield 15, 3) := by decide +kernel
theorem dX8_farEnd_16 : decode cX8_farEnd 16 = .ok (.iload_n 1, 1) := by decide +kernel
theorem dX8_farEnd_17 : decode cX8_farEnd 17 = .ok (.invokestatic 28, 3) := by decide +kernel
theorem dX8_farEnd_20 : decode cX8_farEnd 20 = .ok (.ireturn, 1) := by decide +kernel
theorem dX8_farEnd_21 : decode cX8_farEnd 21 = .ok (.aload_n 0, 1) := by decide +kernel
theorem dX8_farEnd_22 : decode cX8_farEnd 22 = .ok (.getfield 15, 3) := by decide +kernel
theorem dX8_farEnd_25 : decode cX8_farEnd 25 = .ok (.iload_n 1, 1) := by decide +kernel
theorem dX8_farEnd_26 : decode cX8_farEnd 26 = .ok (.invokestatic 28, 3) := by decide +kernel
theorem dX8_farEnd_29 : decode cX8_farEnd 29 = .ok (.iload_n 2, 1) := by decide +kernel
theorem dX8_farEnd_30 : decode cX8_farEnd 30 = .ok (.if_icmp .ne 14, 3) := by decide +kernel
theorem dX8_farEnd_33 : decode cX8_farEnd 33 = .ok (.aload_n 0, 1) := by decide +kernel
theorem dX8_farEnd_34 : decode cX8_farEnd 34 = .ok (.getfield 9, 3) := by decide +kernel
theorem dX8_farEnd_37 : decode cX8_farEnd 37 = .ok (.iload_n 1, 1) := by decide +kernel
theorem dX8_farEnd_38 : decode cX8_farEnd 38 = .ok (.invokestatic 28, 3) := by decide +kernel
theorem dX8_farEnd_41 : decode cX8_farEnd 41 = .ok (.goto 5, 3) := by decide +kernel
theorem dX8_farEnd_44 : decode cX8_farEnd 44 = .ok (.bipush (-9), 2) := by decide +kernel
theorem dX8_farEnd_46 : decode cX8_farEnd 46 = .ok (.ireturn, 1) := by decide +kernel
theorem dX8_returnToBank_0 : decode cX8_returnToBank 0 = .ok (.iconst 0, 1) := by decide +kernel
theorem dX8_returnToBank_1 : decode cX8_returnToBank 1 = .ok (.istore_n 2, 1) := by decide +kernel
theorem dX8_returnToBank_2 : decode cX8_returnToBank 2 = .ok (.iload_n 2, 1) := by decide +kernel
theorem dX8_returnToBank_3 : decode cX8_returnToBank 3 = .ok (.aload_n 0, 1) := by decide +kernel
theorem dX8_returnToBank_4 : decode cX8_returnToBank 4 = .ok (.getfield 24, 3) := by decide +kernel
theorem dX8_returnToBank_7 : decode cX8_returnToBank 7 = .ok (.if_icmp .ge 30, 3) := by decide +kernel
theorem dX8_returnToBank_10 : decode cX8_returnToBank 10 = .ok (.aload_n 0, 1) := by decide +kernel
theorem dX8_returnToBank_11 : decode cX8_returnToBank 11 = .ok (.getfield 21, 3) := by decide +kernel
theorem dX8_returnToBank_14 : decode cX8_returnToBank 14 = .ok (.iload_n 2, 1) := by decide +kernel
theorem dX8_returnToBank_15 : decode cX8_returnToBank 15 = .ok (.invokestatic 28, 3) := by decide +kernel
theorem dX8_returnToBank_18 : decode cX8_returnToBank 18 = .ok (.iload_n 1, 1) := by decide +kernel
theorem dX8_returnToBank_19 : decode cX8_returnToBank 19 = .ok (.if_icmp .ne 12, 3) := by decide +kernel
theorem dX8_returnToBank_22 : decode cX8_returnToBank 22 = .ok (.aload_n 0, 1) := by decide +kernel
theorem dX8_returnToBank_23 : decode cX8_returnToBank 23 = .ok (.getfield 21, 3) := by decide +kernel
theorem dX8_returnToBank_26 : decode cX8_returnToBank 26 = .ok (.iload_n 2, 1) := by decide +kernel
theorem dX8_returnToBank_27 : decode cX8_returnToBank 27 = .ok (.iconst 4, 1) := by decide +kernel
theorem dX8_returnToBank_28 : decode cX8_returnToBank 28 = .ok (.invokestatic 36, 3) := by decide +kernel
theorem dX8_returnToBank_31 : decode cX8_returnToBank 31 = .ok (.iinc 2 1, 3) := by decide +kernel
theorem dX8_returnToBank_34 : decode cX8_returnToBank 34 = .ok (.goto (-32), 3) := by decide +kernel
theorem dX8_returnToBank_37 : decode cX8_returnToBank 37 = .ok (.return_, 1) := by decide +kernel
theorem dX8_copyFrom_0 : decode cX8_copyFrom 0 = .ok (.aload_n 1, 1) := by decide +kernel
theorem dX8_copyFrom_1 : decode cX8_copyFrom 1 = .ok (.getfield 9, 3) := by decide +kernel
theorem dX8_copyFrom_4 : decode cX8_copyFrom 4 = .ok (.aload_n 0, 1) := by decide +kernel
theorem dX8_copyFrom_5 : decode cX8_copyFrom 5 = .ok (.getfield 9, 3) := by decide +kernel
theorem dX8_copyFrom_8 : decode cX8_copyFrom 8 = .ok (.invokestatic 40, 3) := by decide +kernel
theorem dX8_copyFrom_11 : decode cX8_copyFrom 11 = .ok (.aload_n 1, 1) := by decide +kernel
theorem dX8_copyFrom_12 : decode cX8_copyFrom 12 = .ok (.getfield 15, 3) := by decide +kernel
theorem dX8_copyFrom_15 : decode cX8_copyFrom 15 = .ok (.aload_n 0, 1) := by decide +kernel
theorem dX8_copyFrom_16 : decode cX8_copyFrom 16 = .ok (.getfield 15, 3) := by decide +kernel
theorem dX8_copyFrom_19 : decode cX8_copyFrom 19 = .ok (.invokestatic 40, 3) := by decide +kernel
theorem dX8_copyFrom_22 : decode cX8_copyFrom 22 = .ok (.aload_n 1, 1) := by decide +kernel
theorem dX8_copyFrom_23 : decode cX8_copyFrom 23 = .ok (.getfield 18, 3) := by decide +kernel
theorem dX8_copyFrom_26 : decode cX8_copyFrom 26 = .ok (.aload_n 0, 1) := by decide +kernel
theorem dX8_copyFrom_27 : decode cX8_copyFrom 27 = .ok (.getfield 18, 3) := by decide +kernel
theorem dX8_copyFrom_30 : decode cX8_copyFrom 30 = .ok (.invokestatic 40, 3) := by decide +kernel
theorem dX8_copyFrom_33 : decode cX8_copyFrom 33 = .ok (.aload_n 1, 1) := by decide +kernel
theorem dX8_copyFrom_34 : decode cX8_copyFrom 34 = .ok (.getfield 21, 3) := by decide +kernel
theorem dX8_copyFrom_37 : decode cX8_copyFrom 37 = .ok (.aload_n 0, 1) := by decide +kernel
theorem dX8_copyFrom_38 : decode cX8_copyFrom 38 = .ok (.getfield 21, 3) := by decide +kernel
theorem dX8_copyFrom_41 : decode cX8_copyFrom 41 = .ok (.invokestatic 40, 3) := by decide +kernel
theorem dX8_copyFrom_44 : decode cX8_copyFrom 44 = .ok (.aload_n 0, 1) := by decide +kernel
theorem dX8_copyFrom_45 : decode cX8_copyFrom 45 = .ok (.aload_n 1, 1) := by decide +kernel
theorem dX8_copyFrom_46 : decode cX8_copyFrom 46 = .ok (.getfield 24, 3) := by decide +kernel
theorem dX8_copyFrom_49 : decode cX8_copyFrom 49 = .ok (.putfield 24, 3) := by decide +kernel
theorem dX8_copyFrom_52 : decode cX8_copyFrom 52 = .ok (.return_, 1) := by decide +kernel
theorem dX9_init_0 : decode cX9_init 0 = .ok (.aload_n 0, 1) := by decide +kernel
theorem dX9_init_1 : decode cX9_init 1 = .ok (.invokespecial 3, 3) := by decide +kernel
theorem dX9_init_4 : decode cX9_init 4 = .ok (.aload_n 0, 1) := by decide +kernel
theorem dX9_init_5 : decode cX9_init 5 = .ok (.sipush 225, 3) := by decide +kernel
theorem dX9_init_8 : decode cX9_init 8 = .ok (.newarray .int, 2) := by decide +kernel
theorem dX9_init_10 : decode cX9_init 10 = .ok (.putfield 9, 3) := by decide +kernel
theorem dX9_init_13 : decode cX9_init 13 = .ok (.aload_n 0, 1) := by decide +kernel
theorem dX9_init_14 : decode cX9_init 14 = .ok (.sipush 225, 3) := by decide +kernel
theorem dX9_init_17 : decode cX9_init 17 = .ok (.newarray .int, 2) := by decide +kernel
theorem dX9_init_19 : decode cX9_init 19 = .ok (.putfield 15, 3) := by decide +kernel
theorem dX9_init_22 : decode cX9_init 22 = .ok (.aload_n 0, 1) := by decide +kernel
theorem dX9_init_23 : decode cX9_init 23 = .ok (.bipush 16, 2) := by decide +kernel
theorem dX9_init_25 : decode cX9_init 25 = .ok (.newarray .int, 2) := by decide +kernel
theorem dX9_init_27 : decode cX9_init 27 = .ok (.putfield 18, 3) := by decide +kernel
theorem dX9_init_30 : decode cX9_init 30 = .ok (.aload_n 0, 1) := by decide +kernel
theorem dX9_init_31 : decode cX9_init 31 = .ok (.bipush 24, 2) := by decide +kernel
theorem dX9_init_33 : decode cX9_init 33 = .ok (.newarray .int, 2) := by decide +kernel
theorem dX9_init_35 : decode cX9_init 35 = .ok (.putfield 21, 3) := by decide +kernel
theorem dX9_init_38 : decode cX9_init 38 = .ok (.return_, 1) := by decide +kernel
theorem dX9_find_0 : decode cX9_find 0 = .ok (.aload_n 0, 1) := by decide +kernel
theorem dX9_find_1 : decode cX9_find 1 = .ok (.aload_n 1, 1) := by decide +kernel
theorem dX9_find_2 : decode cX9_find 2 = .ok (.iload_n 2, 1) := by decide +kernel
theorem dX9_find_3 : decode cX9_find 3 = .ok (.invokevirtual 24, 3) := by decide +kernel
theorem dX9_find_6 : decode cX9_find 6 = .ok (.aload_n 0, 1) := by decide +kernel
theorem dX9_find_7 : decode cX9_find 7 = .ok (.aload_n 1, 1) := by decide +kernel
theorem dX9_find_8 : decode cX9_find 8 = .ok (.getfield 28, 3) := by decide +kernel
theorem dX9_find_11 : decode cX9_find 11 = .ok (.iload 4, 2) := by decide +kernel
theorem dX9_find_13 : decode cX9_find 13 = .ok (.iload 5, 2) := by decide +kernel
theorem dX9_find_15 : decode cX9_find 15 = .ok (.invokevirtual 34, 3) := by decide +kernel
theorem dX9_find_18 : decode cX9_find 18 = .ok (.aload_n 0, 1) := by decide +kernel
theorem dX9_find_19 : decode cX9_find 19 = .ok (.iload_n 3, 1) := by decide +kernel
theorem dX9_find_20 : decode cX9_find 20 = .ok (.iload 5, 2) := by decide +kernel
theorem dX9_find_22 : decode cX9_find 22 = .ok (.invokevirtual 38, 3) := by decide +kernel
theorem dX9_find_25 : decode cX9_find 25 = .ok (.aload_n 0, 1) := by decide +kernel
theorem dX9_find_26 : decode cX9_find 26 = .ok (.aload_n 1, 1) := by decide +kernel
theorem dX9_find_27 : decode cX9_find 27 = .ok (.getfield 28, 3) := by decide +kernel
theorem dX9_find_30 : decode cX9_find 30 = .ok (.iload_n 3, 1) := by decide +kernel
theorem dX9_find_31 : decode cX9_find 31 = .ok (.invokevirtual 42, 3) := by decide +kernel
theorem dX9_find_34 : decode cX9_find 34 = .ok (.aload_n 0, 1) := by decide +kernel
theorem dX9_find_35 : decode cX9_find 35 = .ok (.getfield 46, 3) := by decide +kernel
theorem dX9_find_38 : decode cX9_find 38 = .ok (.ldc 50, 2) := by decide +kernel
theorem dX9_find_40 : decode cX9_find 40 = .ok (.if_icmp .ge 7, 3) := by decide +kernel
theorem dX9_find_43 : decode cX9_find 43 = .ok (.iconst 1, 1) := by decide +kernel
theorem dX9_find_44 : decode cX9_find 44 = .ok (.goto 4, 3) := by decide +kernel
theorem dX9_find_47 : decode cX9_find 47 = .ok (.iconst 0, 1) := by decide +kernel
theorem dX9_find_48 : decode cX9_find 48 = .ok (.ireturn, 1) := by decide +kernel
theorem dX9_setPrices_0 : decode cX9_setPrices 0 = .ok (.aload_n 1, 1) := by decide +kernel
theorem dX9_setPrices_1 : decode cX9_setPrices 1 = .ok (.getfield 28, 3) := by decide +kernel
theorem dX9_setPrices_4 : decode cX9_setPrices 4 = .ok (.astore_n 3, 1) := by decide +kernel
theorem dX9_setPrices_5 : decode cX9_setPrices 5 = .ok (.iconst 0, 1) := by decide +kernel
theorem dX9_setPrices_6 : decode cX9_setPrices 6 = .ok (.istore 4, 2) := by decide +kernel
theorem dX9_setPrices_8 : decode cX9_setPrices 8 = .ok (.iload 4, 2) := by decide +kernel
theorem dX9_setPrices_10 : decode cX9_setPrices 10 = .ok (.aload_n 3, 1) := by decide +kernel
theorem dX9_setPrices_11 : decode cX9_setPrices 11 = .ok (.getfield 51, 3) := by decide +kernel
theorem dX9_setPrices_14 : decode cX9_setPrices 14 = .ok (.if_icmp .ge 45, 3) := by decide +kernel
theorem dX9_setPrices_17 : decode cX9_setPrices 17 = .ok (.aload_n 0, 1) := by decide +kernel
theorem dX9_setPrices_18 : decode cX9_setPrices 18 = .ok (.getfield 18, 3) := by decide +kernel
theorem dX9_setPrices_21 : decode cX9_setPrices 21 = .ok (.iload 4, 2) := by decide +kernel
theorem dX9_setPrices_23 : decode cX9_setPrices 23 = .ok (.aload_n 3, 1) := by decide +kernel
theorem dX9_setPrices_24 : decode cX9_setPrices 24 = .ok (.getfield 56, 3) := by decide +kernel
theorem dX9_setPrices_27 : decode cX9_setPrices 27 = .ok (.iload 4, 2) := by decide +kernel
theorem dX9_setPrices_29 : decode cX9_setPrices 29 = .ok (.invokestatic 59, 3) := by decide +kernel
theorem dX9_setPrices_32 : decode cX9_setPrices 32 = .ok (.aload_n 1, 1) := by decide +kernel
theorem dX9_setPrices_33 : decode cX9_setPrices 33 = .ok (.getfield 63, 3) := by decide +kernel
theorem dX9_setPrices_36 : decode cX9_setPrices 36 = .ok (.iload_n 2, 1) := by decide +kernel
theorem dX9_setPrices_37 : decode cX9_setPrices 37 = .ok (.aload_n 3, 1) := by decide +kernel
theorem dX9_setPrices_38 : decode cX9_setPrices 38 = .ok (.getfield 67, 3) := by decide +kernel
theorem dX9_setPrices_41 : decode cX9_setPrices 41 = .ok (.iload 4, 2) := by decide +kernel
theorem dX9_setPrices_43 : decode cX9_setPrices 43 = .ok (.invokestatic 59, 3) := by decide +kernel
theorem dX9_setPrices_46 : decode cX9_setPrices 46 = .ok (.invokevirtual 70, 3) := by decide +kernel
theorem dX9_setPrices_49 : decode cX9_setPrices 49 = .ok (.imul, 1) := by decide +kernel
theorem dX9_setPrices_50 : decode cX9_setPrices 50 = .ok (.invokestatic 76, 3) := by decide +kernel
theorem dX9_setPrices_53 : decode cX9_setPrices 53 = .ok (.iinc 4 1, 3) := by decide +kernel
theorem dX9_setPrices_56 : decode cX9_setPrices 56 = .ok (.goto (-48), 3) := by decide +kernel
theorem dX9_setPrices_59 : decode cX9_setPrices 59 = .ok (.return_, 1) := by decide +kernel
theorem dX9_measure_0 : decode cX9_measure 0 = .ok (.aload_n 0, 1) := by decide +kernel
theorem dX9_measure_1 : decode cX9_measure 1 = .ok (.getfield 9, 3) := by decide +kernel
theorem dX9_measure_4 : decode cX9_measure 4 = .ok (.ldc 50, 2) := by decide +kernel
theorem dX9_measure_6 : decode cX9_measure 6 = .ok (.invokestatic 80, 3) := by decide +kernel
theorem dX9_measure_9 : decode cX9_measure 9 = .ok (.aload_n 0, 1) := by decide +kernel
theorem dX9_measure_10 : decode cX9_measure 10 = .ok (.getfield 9, 3) := by decide +kernel
theorem dX9_measure_13 : decode cX9_measure 13 = .ok (.iconst 0, 1) := by decide +kernel
theorem dX9_measure_14 : decode cX9_measure 14 = .ok (.iload_n 2, 1) := by decide +kernel
theorem dX9_measure_15 : decode cX9_measure 15 = .ok (.invokestatic 84, 3) := by decide +kernel
theorem dX9_measure_18 : decode cX9_measure 18 = .ok (.iconst 0, 1) := by decide +kernel
theorem dX9_measure_19 : decode cX9_measure 19 = .ok (.invokestatic 76, 3) := by decide +kernel
theorem dX9_measure_22 : decode cX9_measure 22 = .ok (.iconst 1, 1) := by decide +kernel
theorem dX9_measure_23 : decode cX9_measure 23 = .ok (.istore 4, 2) := by decide +kernel
theorem dX9_measure_25 : decode cX9_measure 25 = .ok (.iload 4, 2) := by decide +kernel
theorem dX9_measure_27 : decode cX9_measure 27 = .ok (.iload_n 3, 1) := by decide +kernel
theorem dX9_measure_28 : decode cX9_measure 28 = .ok (.if_icmp .gt 109, 3) := by decide +kernel
theorem dX9_measure_31 : decode cX9_measure 31 = .ok (.iconst 0, 1) := by decide +kernel
theorem dX9_measure_32 : decode cX9_measure 32 = .ok (.istore 5, 2) := by decide +kernel
theorem dX9_measure_34 : decode cX9_measure 34 = .ok (.iload 5, 2) := by decide +kernel
theorem dX9_measure_36 : decode cX9_measure 36 = .ok (.aload_n 1, 1) := by decide +kernel
theorem dX9_measure_37 : decode cX9_measure 37 = .ok (.getfield 51, 3) := by decide +kernel
theorem dX9_measure_40 : decode cX9_measure 40 = .ok (.if_icmp .ge 91, 3) := by decide +kernel
theorem dX9_measure_43 : decode cX9_measure 43 = .ok (.iload 4, 2) := by decide +kernel
theorem dX9_measure_45 : decode cX9_measure 45 = .ok (.aload_n 1, 1) := by decide +kernel
theorem dX9_measure_46 : decode cX9_measure 46 = .ok (.getfield 56, 3) := by decide +kernel
theorem dX9_measure_49 : decode cX9_measure 49 = .ok (.iload 5, 2) := by decide +kernel
theorem dX9_measure_51 : decode cX9_measure 51 = .ok (.invokestatic 59, 3) := by decide +kernel
theorem dX9_measure_54 : decode cX9_measure 54 = .ok (.isub, 1) := by decide +kernel
theorem dX9_measure_55 : decode cX9_measure 55 = .ok (.istore 6, 2) := by decide +kernel
theorem dX9_measure_57 : decode cX9_measure 57 = .ok (.aload_n 0, 1) := by decide +kernel
theorem dX9_measure_58 : decode cX9_measure 58 = .ok (.iload 5, 2) := by decide +kernel
theorem dX9_measure_60 : decode cX9_measure 60 = .ok (.iload 4, 2) := by decide +kernel
theorem dX9_measure_62 : decode cX9_measure 62 = .ok (.aload_n 1, 1) := by decide +kernel
theorem dX9_measure_63 : decode cX9_measure 63 = .ok (.getfield 87, 3) := by decide +kernel
theorem dX9_measure_66 : decode cX9_measure 66 = .ok (.iload 5, 2) := by decide +kernel
theorem dX9_measure_68 : decode cX9_measure 68 = .ok (.invokestatic 59, 3) := by decide +kernel
theorem dX9_measure_71 : decode cX9_measure 71 = .ok (.invokestatic 84, 3) := by decide +kernel
theorem dX9_measure_74 : decode cX9_measure 74 = .ok (.iload 6, 2) := by decide +kernel
theorem dX9_measure_76 : decode cX9_measure 76 = .ok (.aload_n 1, 1) := by decide +kernel
theorem dX9_measure_77 : decode cX9_measure 77 = .ok (.getfield 90, 3) := by decide +kernel
theorem dX9_measure_80 : decode cX9_measure 80 = .ok (.iload 5, 2) := by decide +kernel
theorem dX9_measure_82 : decode cX9_measure 82 = .ok (.invokestatic 59, 3) := by decide +kernel
theorem dX9_measure_85 : decode cX9_measure 85 = .ok (.invokestatic 84, 3) := by decide +kernel
theorem dX9_measure_88 : decode cX9_measure 88 = .ok (.invokevirtual 93, 3) := by decide +kernel
theorem dX9_measure_91 : decode cX9_measure 91 = .ok (.aload_n 0, 1) := by decide +kernel
theorem dX9_measure_92 : decode cX9_measure 92 = .ok (.iload 5, 2) := by decide +kernel
theorem dX9_measure_94 : decode cX9_measure 94 = .ok (.iload 4, 2) := by decide +kernel
theorem dX9_measure_96 : decode cX9_measure 96 = .ok (.aload_n 1, 1) := by decide +kernel
theorem dX9_measure_97 : decode cX9_measure 97 = .ok (.getfield 90, 3) := by decide +kernel
theorem dX9_measure_100 : decode cX9_measure 100 = .ok (.iload 5, 2) := by decide +kernel
theorem dX9_measure_102 : decode cX9_measure 102 = .ok (.invokestatic 59, 3) := by decide +kernel
theorem dX9_measure_105 : decode cX9_measure 105 = .ok (.invokestatic 84, 3) := by decide +kernel
theorem dX9_measure_108 : decode cX9_measure 108 = .ok (.iload 6, 2) := by decide +kernel
theorem dX9_measure_110 : decode cX9_measure 110 = .ok (.aload_n 1, 1) := by decide +kernel
theorem dX9_measure_111 : decode cX9_measure 111 = .ok (.getfield 87, 3) := by decide +kernel
theorem dX9_measure_114 : decode cX9_measure 114 = .ok (.iload 5, 2) := by decide +kernel
theorem dX9_measure_116 : decode cX9_measure 116 = .ok (.invokestatic 59, 3) := by decide +kernel
theorem dX9_measure_119 : decode cX9_measure 119 = .ok (.invokestatic 84, 3) := by decide +kernel
theorem dX9_measure_122 : decode cX9_measure 122 = .ok (.invokevirtual 93, 3) := by decide +kernel
theorem dX9_measure_125 : decode cX9_measure 125 = .ok (.iinc 5 1, 3) := by decide +kernel
theorem dX9_measure_128 : decode cX9_measure 128 = .ok (.goto (-94), 3) := by decide +kernel
theorem dX9_measure_131 : decode cX9_measure 131 = .ok (.iinc 4 1, 3) := by decide +kernel
theorem dX9_measure_134 : decode cX9_measure 134 = .ok (.goto (-109), 3) := by decide +kernel
theorem dX9_measure_137 : decode cX9_measure 137 = .ok (.return_, 1) := by decide +kernel
theorem dX9_beginWith_0 : decode cX9_beginWith 0 = .ok (.aload_n 0, 1) := by decide +kernel
theorem dX9_beginWith_1 : decode cX9_beginWith 1 = .ok (.iload_n 3, 1) := by decide +kernel
theorem dX9_beginWith_2 : decode cX9_beginWith 2 = .ok (.invokevirtual 97, 3) := by decide +kernel
theorem dX9_beginWith_5 : decode cX9_beginWith 5 = .ok (.aload_n 0, 1) := by decide +kernel
theorem dX9_beginWith_6 : decode cX9_beginWith 6 = .ok (.getfield 18, 3) := by decide +kernel
theorem dX9_beginWith_9 : decode cX9_beginWith 9 = .ok (.iload_n 1, 1) := by decide +kernel
theorem dX9_beginWith_10 : decode cX9_beginWith 10 = .ok (.invokestatic 59, 3) := by decide +kernel
theorem dX9_beginWith_13 : decode cX9_beginWith 13 = .ok (.iadd, 1) := by decide +kernel
theorem dX9_beginWith_14 : decode cX9_beginWith 14 = .ok (.istore 4, 2) := by decide +kernel
theorem dX9_beginWith_16 : decode cX9_beginWith 16 = .ok (.iload 4, 2) := by decide +kernel
theorem dX9_beginWith_18 : decode cX9_beginWith 18 = .ok (.aload_n 0, 1) := by decide +kernel
theorem dX9_beginWith_19 : decode cX9_beginWith 19 = .ok (.iload_n 2, 1) := by decide +kernel
theorem dX9_beginWith_20 : decode cX9_beginWith 20 = .ok (.invokevirtual 97, 3) := by decide +kernel
theorem dX9_beginWith_23 : decode cX9_beginWith 23 = .ok (.if_icmp .ge 22, 3) := by decide +kernel
theorem dX9_beginWith_26 : decode cX9_beginWith 26 = .ok (.aload_n 0, 1) := by decide +kernel
theorem dX9_beginWith_27 : decode cX9_beginWith 27 = .ok (.getfield 9, 3) := by decide +kernel
theorem dX9_beginWith_30 : decode cX9_beginWith 30 = .ok (.iload_n 2, 1) := by decide +kernel
theorem dX9_beginWith_31 : decode cX9_beginWith 31 = .ok (.iload 4, 2) := by decide +kernel
theorem dX9_beginWith_33 : decode cX9_beginWith 33 = .ok (.invokestatic 76, 3) := by decide +kernel
theorem dX9_beginWith_36 : decode cX9_beginWith 36 = .ok (.aload_n 0, 1) := by decide +kernel
theorem dX9_beginWith_37 : decode cX9_beginWith 37 = .ok (.getfield 15, 3) := by decide +kernel
theorem dX9_beginWith_40 : decode cX9_beginWith 40 = .ok (.iload_n 2, 1) := by decide +kernel
theorem dX9_beginWith_41 : decode cX9_beginWith 41 = .ok (.iload_n 1, 1) := by decide +kernel
theorem dX9_beginWith_42 : decode cX9_beginWith 42 = .ok (.invokestatic 76, 3) := by decide +kernel
theorem dX9_beginWith_45 : decode cX9_beginWith 45 = .ok (.return_, 1) := by decide +kernel
theorem dX9_leastAt_0 : decode cX9_leastAt 0 = .ok (.iload_n 1, 1) := by decide +kernel
theorem dX9_leastAt_1 : decode cX9_leastAt 1 = .ok (.ifCond .lt 21, 3) := by decide +kernel
theorem dX9_leastAt_4 : decode cX9_leastAt 4 = .ok (.iload_n 1, 1) := by decide +kernel
theorem dX9_leastAt_5 : decode cX9_leastAt 5 = .ok (.aload_n 0, 1) := by decide +kernel
theorem dX9_leastAt_6 : decode cX9_leastAt 6 = .ok (.getfield 9, 3) := by decide +kernel
theorem dX9_leastAt_9 : decode cX9_leastAt 9 = .ok (.arraylength, 1) := by decide +kernel
theorem dX9_leastAt_10 : decode cX9_leastAt 10 = .ok (.if_icmp .ge 12, 3) := by decide +kernel
theorem dX9_leastAt_13 : decode cX9_leastAt 13 = .ok (.aload_n 0, 1) := by decide +kernel
theorem dX9_leastAt_14 : decode cX9_leastAt 14 = .ok (.getfield 9, 3) := by decide +kernel
theorem dX9_leastAt_17 : decode cX9_leastAt 17 = .ok (.iload_n 1, 1) := by decide +kernel
theorem dX9_leastAt_18 : decode cX9_leastAt 18 = .ok (.iaload, 1) := by decide +kernel
theorem dX9_leastAt_19 : decode cX9_leastAt 19 = .ok (.goto 5, 3) := by decide +kernel
theorem dX9_leastAt_22 : decode cX9_leastAt 22 = .ok (.ldc 50, 2) := by decide +kernel
theorem dX9_leastAt_24 : decode cX9_leastAt 24 = .ok (.ireturn, 1) := by decide +kernel
theorem dX9_chooseLength_0 : decode cX9_chooseLength 0 = .ok (.aload_n 0, 1) := by decide +kernel
theorem dX9_chooseLength_1 : decode cX9_chooseLength 1 = .ok (.ldc 50, 2) := by decide +kernel
theorem dX9_chooseLength_3 : decode cX9_chooseLength 3 = .ok (.putfield 46, 3) := by decide +kernel
theorem dX9_chooseLength_6 : decode cX9_chooseLength 6 = .ok (.aload_n 0, 1) := by decide +kernel
theorem dX9_chooseLength_7 : decode cX9_chooseLength 7 = .ok (.iconst 0, 1) := by decide +kernel
theorem dX9_chooseLength_8 : decode cX9_chooseLength 8 = .ok (.putfield 101, 3) := by decide +kernel
theorem dX9_chooseLength_11 : decode cX9_chooseLength 11 = .ok (.iconst 1, 1) := by decide +kernel
theorem dX9_chooseLength_12 : decode cX9_chooseLength 12 = .ok (.istore_n 3, 1) := by decide +kernel
theorem dX9_chooseLength_13 : decode cX9_chooseLength 13 = .ok (.iload_n 3, 1) := by decide +kernel
theorem dX9_chooseLength_14 : decode cX9_chooseLength 14 = .ok (.iload_n 2, 1) := by decide +kernel
theorem dX9_chooseLength_15 : decode cX9_chooseLength 15 = .ok (.if_icmp .gt 43, 3) := by decide +kernel
theorem dX9_chooseLength_18 : decode cX9_chooseLength 18 = .ok (.aload_n 0, 1) := by decide +kernel
theorem dX9_chooseLength_19 : decode cX9_chooseLength 19 = .ok (.iload_n 3, 1) := by decide +kernel
theorem dX9_chooseLength_20 : decode cX9_chooseLength 20 = .ok (.iload_n 1, 1) := by decide +kernel
theorem dX9_chooseLength_21 : decode cX9_chooseLength 21 = .ok (.invokestatic 84, 3) := by decide +kernel
theorem dX9_chooseLength_24 : decode cX9_chooseLength 24 = .ok (.invokevirtual 97, 3) := by decide +kernel
theorem dX9_chooseLength_27 : decode cX9_chooseLength 27 = .ok (.aload_n 0, 1) := by decide +kernel
theorem dX9_chooseLength_28 : decode cX9_chooseLength 28 = .ok (.getfield 46, 3) := by decide +kernel
theorem dX9_chooseLength_31 : decode cX9_chooseLength 31 = .ok (.if_icmp .ge 21, 3) := by decide +kernel
theorem dX9_chooseLength_34 : decode cX9_chooseLength 34 = .ok (.aload_n 0, 1) := by decide +kernel
theorem dX9_chooseLength_35 : decode cX9_chooseLength 35 = .ok (.aload_n 0, 1) := by decide +kernel
theorem dX9_chooseLength_36 : decode cX9_chooseLength 36 = .ok (.iload_n 3, 1) := by decide +kernel
theorem dX9_chooseLength_37 : decode cX9_chooseLength 37 = .ok (.iload_n 1, 1) := by decide +kernel
theorem dX9_chooseLength_38 : decode cX9_chooseLength 38 = .ok (.invokestatic 84, 3) := by decide +kernel
theorem dX9_chooseLength_41 : decode cX9_chooseLength 41 = .ok (.invokevirtual 97, 3) := by decide +kernel
theorem dX9_chooseLength_44 : decode cX9_chooseLength 44 = .ok (.putfield 46, 3) := by decide +kernel
theorem dX9_chooseLength_47 : decode cX9_chooseLength 47 = .ok (.aload_n 0, 1) := by decide +kernel
theorem dX9_chooseLength_48 : decode cX9_chooseLength 48 = .ok (.iload_n 3, 1) := by decide +kernel
theorem dX9_chooseLength_49 : decode cX9_chooseLength 49 = .ok (.putfield 101, 3) := by decide +kernel
theorem dX9_chooseLength_52 : decode cX9_chooseLength 52 = .ok (.iinc 3 1, 3) := by decide +kernel
theorem dX9_chooseLength_55 : decode cX9_chooseLength 55 = .ok (.goto (-42), 3) := by decide +kernel
theorem dX9_chooseLength_58 : decode cX9_chooseLength 58 = .ok (.return_, 1) := by decide +kernel
theorem dX9_follow_0 : decode cX9_follow 0 = .ok (.iload_n 2, 1) := by decide +kernel
theorem dX9_follow_1 : decode cX9_follow 1 = .ok (.istore_n 3, 1) := by decide +kernel
theorem dX9_follow_2 : decode cX9_follow 2 = .ok (.aload_n 0, 1) := by decide +kernel
theorem dX9_follow_3 : decode cX9_follow 3 = .ok (.getfield 101, 3) := by decide +kernel
theorem dX9_follow_6 : decode cX9_follow 6 = .ok (.istore 4, 2) := by decide +kernel
theorem dX9_follow_8 : decode cX9_follow 8 = .ok (.aload_n 0, 1) := by decide +kernel
theorem dX9_follow_9 : decode cX9_follow 9 = .ok (.iconst 0, 1) := by decide +kernel
theorem dX9_follow_10 : decode cX9_follow 10 = .ok (.putfield 103, 3) := by decide +kernel
theorem dX9_follow_13 : decode cX9_follow 13 = .ok (.iload 4, 2) := by decide +kernel
theorem dX9_follow_15 : decode cX9_follow 15 = .ok (.ifCond .le 75, 3) := by decide +kernel
theorem dX9_follow_18 : decode cX9_follow 18 = .ok (.aload_n 0, 1) := by decide +kernel
theorem dX9_follow_19 : decode cX9_follow 19 = .ok (.getfield 103, 3) := by decide +kernel
theorem dX9_follow_22 : decode cX9_follow 22 = .ok (.bipush 24, 2) := by decide +kernel
theorem dX9_follow_24 : decode cX9_follow 24 = .ok (.if_icmp .ge 66, 3) := by decide +kernel
theorem dX9_follow_27 : decode cX9_follow 27 = .ok (.aload_n 0, 1) := by decide +kernel
theorem dX9_follow_28 : decode cX9_follow 28 = .ok (.getfield 15, 3) := by decide +kernel
theorem dX9_follow_31 : decode cX9_follow 31 = .ok (.iload 4, 2) := by decide +kernel
theorem dX9_follow_33 : decode cX9_follow 33 = .ok (.iload_n 3, 1) := by decide +kernel
theorem dX9_follow_34 : decode cX9_follow 34 = .ok (.invokestatic 84, 3) := by decide +kernel
theorem dX9_follow_37 : decode cX9_follow 37 = .ok (.invokestatic 59, 3) := by decide +kernel
theorem dX9_follow_40 : decode cX9_follow 40 = .ok (.istore 5, 2) := by decide +kernel
theorem dX9_follow_42 : decode cX9_follow 42 = .ok (.aload_n 0, 1) := by decide +kernel
theorem dX9_follow_43 : decode cX9_follow 43 = .ok (.getfield 21, 3) := by decide +kernel
theorem dX9_follow_46 : decode cX9_follow 46 = .ok (.aload_n 0, 1) := by decide +kernel
theorem dX9_follow_47 : decode cX9_follow 47 = .ok (.getfield 103, 3) := by decide +kernel
theorem dX9_follow_50 : decode cX9_follow 50 = .ok (.iload 5, 2) := by decide +kernel
theorem dX9_follow_52 : decode cX9_follow 52 = .ok (.invokestatic 76, 3) := by decide +kernel
theorem dX9_follow_55 : decode cX9_follow 55 = .ok (.aload_n 0, 1) := by decide +kernel
theorem dX9_follow_56 : decode cX9_follow 56 = .ok (.dup, 1) := by decide +kernel
theorem dX9_follow_57 : decode cX9_follow 57 = .ok (.getfield 103, 3) := by decide +kernel
theorem dX9_follow_60 : decode cX9_follow 60 = .ok (.iconst 1, 1) := by decide +kernel
theorem dX9_follow_61 : decode cX9_follow 61 = .ok (.iadd, 1) := by decide +kernel
theorem dX9_follow_62 : decode cX9_follow 62 = .ok (.putfield 103, 3) := by decide +kernel
theorem dX9_follow_65 : decode cX9_follow 65 = .ok (.aload_n 1, 1) := by decide +kernel
theorem dX9_follow_66 : decode cX9_follow 66 = .ok (.iload 5, 2) := by decide +kernel
theorem dX9_follow_68 : decode cX9_follow 68 = .ok (.iload_n 3, 1) := by decide +kernel
theorem dX9_follow_69 : decode cX9_follow 69 = .ok (.invokevirtual 104, 3) := by decide +kernel
theorem dX9_follow_72 : decode cX9_follow 72 = .ok (.istore_n 3, 1) := by decide +kernel
theorem dX9_follow_73 : decode cX9_follow 73 = .ok (.iload 4, 2) := by decide +kernel
theorem dX9_follow_75 : decode cX9_follow 75 = .ok (.aload_n 1, 1) := by decide +kernel
theorem dX9_follow_76 : decode cX9_follow 76 = .ok (.getfield 56, 3) := by decide +kernel
theorem dX9_follow_79 : decode cX9_follow 79 = .ok (.iload 5, 2) := by decide +kernel
theorem dX9_follow_81 : decode cX9_follow 81 = .ok (.invokestatic 59, 3) := by decide +kernel
theorem dX9_follow_84 : decode cX9_follow 84 = .ok (.isub, 1) := by decide +kernel
theorem dX9_follow_85 : decode cX9_follow 85 = .ok (.istore 4, 2) := by decide +kernel
theorem dX9_follow_87 : decode cX9_follow 87 = .ok (.goto (-74), 3) := by decide +kernel
theorem dX9_follow_90 : decode cX9_follow 90 = .ok (.return_, 1) := by decide +kernel
theorem dX9_place_0 : decode cX9_place 0 = .ok (.iload_n 0, 1) := by decide +kernel
theorem dX9_place_1 : decode cX9_place 1 = .ok (.bipush 9, 2) := by decide +kernel
theorem dX9_place_3 : decode cX9_place 3 = .ok (.imul, 1) := by decide +kernel
theorem dX9_place_4 : decode cX9_place 4 = .ok (.iload_n 1, 1) := by decide +kernel
theorem dX9_place_5 : decode cX9_place 5 = .ok (.iadd, 1) := by decide +kernel
theorem dX9_place_6 : decode cX9_place 6 = .ok (.ireturn, 1) := by decide +kernel
theorem dX10_init_0 : decode cX10_init 0 = .ok (.aload_n 0, 1) := by decide +kernel
theorem dX10_init_1 : decode cX10_init 1 = .ok (.invokespecial 3, 3) := by decide +kernel
theorem dX10_init_4 : decode cX10_init 4 = .ok (.aload_n 0, 1) := by decide +kernel
theorem dX10_init_5 : decode cX10_init 5 = .ok (.new 9, 3) := by decide +kernel
theorem dX10_init_8 : decode cX10_init 8 = .ok (.dup, 1) := by decide +kernel
theorem dX10_init_9 : decode cX10_init 9 = .ok (.invokespecial 11, 3) := by decide +kernel
theorem dX10_init_12 : decode cX10_init 12 = .ok (.putfield 12, 3) := by decide +kernel
theorem dX10_init_15 : decode cX10_init 15 = .ok (.aload_n 0, 1) := by decide +kernel
theorem dX10_init_16 : decode cX10_init 16 = .ok (.new 16, 3) := by decide +kernel
theorem dX10_init_19 : decode cX10_init 19 = .ok (.dup, 1) := by decide +kernel
theorem dX10_init_20 : decode cX10_init 20 = .ok (.invokespecial 18, 3) := by decide +kernel
theorem dX10_init_23 : decode cX10_init 23 = .ok (.putfield 19, 3) := by decide +kernel
theorem dX10_init_26 : decode cX10_init 26 = .ok (.aload_n 0, 1) := by decide +kernel
theorem dX10_init_27 : decode cX10_init 27 = .ok (.new 16, 3) := by decide +kernel
theorem dX10_init_30 : decode cX10_init 30 = .ok (.dup, 1) := by decide +kernel
theorem dX10_init_31 : decode cX10_init 31 = .ok (.invokespecial 18, 3) := by decide +kernel
theorem dX10_init_34 : decode cX10_init 34 = .ok (.putfield 23, 3) := by decide +kernel
theorem dX10_init_37 : decode cX10_init 37 = .ok (.aload_n 0, 1) := by decide +kernel
theorem dX10_init_38 : decode cX10_init 38 = .ok (.new 26, 3) := by decide +kernel
theorem dX10_init_41 : decode cX10_init 41 = .ok (.dup, 1) := by decide +kernel
theorem dX10_init_42 : decode cX10_init 42 = .ok (.invokespecial 28, 3) := by decide +kernel
theorem dX10_init_45 : decode cX10_init 45 = .ok (.putfield 29, 3) := by decide +kernel
theorem dX10_init_48 : decode cX10_init 48 = .ok (.aload_n 0, 1) := by decide +kernel
theorem dX10_init_49 : decode cX10_init 49 = .ok (.new 33, 3) := by decide +kernel
theorem dX10_init_52 : decode cX10_init 52 = .ok (.dup, 1) := by decide +kernel
theorem dX10_init_53 : decode cX10_init 53 = .ok (.invokespecial 35, 3) := by decide +kernel
theorem dX10_init_56 : decode cX10_init 56 = .ok (.putfield 36, 3) := by decide +kernel
theorem dX10_init_59 : decode cX10_init 59 = .ok (.aload_n 0, 1) := by decide +kernel
theorem dX10_init_60 : decode cX10_init 60 = .ok (.new 40, 3) := by decide +kernel
theorem dX10_init_63 : decode cX10_init 63 = .ok (.dup, 1) := by decide +kernel
theorem dX10_init_64 : decode cX10_init 64 = .ok (.invokespecial 42, 3) := by decide +kernel
theorem dX10_init_67 : decode cX10_init 67 = .ok (.putfield 43, 3) := by decide +kernel
theorem dX10_init_70 : decode cX10_init 70 = .ok (.aload_n 0, 1) := by decide +kernel
theorem dX10_init_71 : decode cX10_init 71 = .ok (.getfield 19, 3) := by decide +kernel
theorem dX10_init_74 : decode cX10_init 74 = .ok (.iconst 3, 1) := by decide +kernel
theorem dX10_init_75 : decode cX10_init 75 = .ok (.invokevirtual 47, 3) := by decide +kernel
theorem dX10_init_78 : decode cX10_init 78 = .ok (.aload_n 0, 1) := by decide +kernel
theorem dX10_init_79 : decode cX10_init 79 = .ok (.getfield 19, 3) := by decide +kernel
theorem dX10_init_82 : decode cX10_init 82 = .ok (.getfield 51, 3) := by decide +kernel
theorem dX10_init_85 : decode cX10_init 85 = .ok (.iconst 0, 1) := by decide +kernel
theorem dX10_init_86 : decode cX10_init 86 = .ok (.iconst 1, 1) := by decide +kernel
theorem dX10_init_87 : decode cX10_init 87 = .ok (.iconst 2, 1) := by decide +kernel
theorem dX10_init_88 : decode cX10_init 88 = .ok (.invokevirtual 55, 3) := by decide +kernel
theorem dX10_init_91 : decode cX10_init 91 = .ok (.aload_n 0, 1) := by decide +kernel
theorem dX10_init_92 : decode cX10_init 92 = .ok (.getfield 19, 3) := by decide +kernel
theorem dX10_init_95 : decode cX10_init 95 = .ok (.getfield 51, 3) := by decide +kernel
theorem dX10_init_98 : decode cX10_init 98 = .ok (.iconst 1, 1) := by decide +kernel
theorem dX10_init_99 : decode cX10_init 99 = .ok (.iconst 2, 1) := by decide +kernel
theorem dX10_init_100 : decode cX10_init 100 = .ok (.iconst 2, 1) := by decide +kernel
theorem dX10_init_101 : decode cX10_init 101 = .ok (.invokevirtual 55, 3) := by decide +kernel
theorem dX10_init_104 : decode cX10_init 104 = .ok (.return_, 1) := by decide +kernel
theorem dX10_append_0 : decode cX10_append 0 = .ok (.iload_n 1, 1) := by decide +kernel
theorem dX10_append_1 : decode cX10_append 1 = .ok (.iconst 0, 1) := by decide +kernel
theorem dX10_append_2 : decode cX10_append 2 = .ok (.sipush 255, 3) := by decide +kernel
theorem dX10_append_5 : decode cX10_append 5 = .ok (.invokestatic 61, 3) := by decide +kernel
theorem dX10_append_8 : decode cX10_append 8 = .ok (.aload_n 0, 1) := by decide +kernel
theorem dX10_append_9 : decode cX10_append 9 = .ok (.getfield 12, 3) := by decide +kernel
theorem dX10_append_12 : decode cX10_append 12 = .ok (.invokevirtual 64, 3) := by decide +kernel
theorem dX10_append_15 : decode cX10_append 15 = .ok (.ifCond .eq 13, 3) := by decide +kernel
theorem dX10_append_18 : decode cX10_append 18 = .ok (.new 68, 3) := by decide +kernel
theorem dX10_append_21 : decode cX10_append 21 = .ok (.dup, 1) := by decide +kernel
theorem dX10_append_22 : decode cX10_append 22 = .ok (.ldc 70, 2) := by decide +kernel
theorem dX10_append_24 : decode cX10_append 24 = .ok (.invokespecial 72, 3) := by decide +kernel
theorem dX10_append_27 : decode cX10_append 27 = .ok (.athrow, 1) := by decide +kernel
theorem dX10_append_28 : decode cX10_append 28 = .ok (.aload_n 0, 1) := by decide +kernel
theorem dX10_append_29 : decode cX10_append 29 = .ok (.getfield 12, 3) := by decide +kernel
theorem dX10_append_32 : decode cX10_append 32 = .ok (.iload_n 1, 1) := by decide +kernel
theorem dX10_append_33 : decode cX10_append 33 = .ok (.invokevirtual 75, 3) := by decide +kernel
theorem dX10_append_36 : decode cX10_append 36 = .ok (.ireturn, 1) := by decide +kernel
theorem dX10_clearText_0 : decode cX10_clearText 0 = .ok (.aload_n 0, 1) := by decide +kernel
theorem dX10_clearText_1 : decode cX10_clearText 1 = .ok (.getfield 12, 3) := by decide +kernel
theorem dX10_clearText_4 : decode cX10_clearText 4 = .ok (.invokevirtual 78, 3) := by decide +kernel
theorem dX10_clearText_7 : decode cX10_clearText 7 = .ok (.ireturn, 1) := by decide +kernel
theorem dX10_errorPosition_0 : decode cX10_errorPosition 0 = .ok (.aload_n 0, 1) := by decide +kernel
theorem dX10_errorPosition_1 : decode cX10_errorPosition 1 = .ok (.getfield 12, 3) := by decide +kernel
theorem dX10_errorPosition_4 : decode cX10_errorPosition 4 = .ok (.aload_n 0, 1) := by decide +kernel
theorem dX10_errorPosition_5 : decode cX10_errorPosition 5 = .ok (.getfield 23, 3) := by decide +kernel
theorem dX10_errorPosition_8 : decode cX10_errorPosition 8 = .ok (.invokevirtual 82, 3) := by decide +kernel
theorem dX10_errorPosition_11 : decode cX10_errorPosition 11 = .ok (.ireturn, 1) := by decide +kernel
theorem dX10_load_0 : decode cX10_load 0 = .ok (.aload_n 0, 1) := by decide +kernel
theorem dX10_load_1 : decode cX10_load 1 = .ok (.getfield 12, 3) := by decide +kernel
theorem dX10_load_4 : decode cX10_load 4 = .ok (.aload_n 0, 1) := by decide +kernel
theorem dX10_load_5 : decode cX10_load 5 = .ok (.getfield 23, 3) := by decide +kernel
theorem dX10_load_8 : decode cX10_load 8 = .ok (.invokevirtual 82, 3) := by decide +kernel
theorem dX10_load_11 : decode cX10_load 11 = .ok (.bipush (-9), 2) := by decide +kernel
theorem dX10_load_13 : decode cX10_load 13 = .ok (.if_icmp .eq 13, 3) := by decide +kernel
theorem dX10_load_16 : decode cX10_load 16 = .ok (.new 68, 3) := by decide +kernel
theorem dX10_load_19 : decode cX10_load 19 = .ok (.dup, 1) := by decide +kernel
theorem dX10_load_20 : decode cX10_load 20 = .ok (.ldc 86, 2) := by decide +kernel
theorem dX10_load_22 : decode cX10_load 22 = .ok (.invokespecial 72, 3) := by decide +kernel
theorem dX10_load_25 : decode cX10_load 25 = .ok (.athrow, 1) := by decide +kernel
theorem dX10_load_26 : decode cX10_load 26 = .ok (.aload_n 0, 1) := by decide +kernel
theorem dX10_load_27 : decode cX10_load 27 = .ok (.getfield 19, 3) := by decide +kernel
theorem dX10_load_30 : decode cX10_load 30 = .ok (.aload_n 0, 1) := by decide +kernel
theorem dX10_load_31 : decode cX10_load 31 = .ok (.getfield 23, 3) := by decide +kernel
theorem dX10_load_34 : decode cX10_load 34 = .ok (.invokevirtual 88, 3) := by decide +kernel
theorem dX10_load_37 : decode cX10_load 37 = .ok (.aload_n 0, 1) := by decide +kernel
theorem dX10_load_38 : decode cX10_load 38 = .ok (.getfield 29, 3) := by decide +kernel
theorem dX10_load_41 : decode cX10_load 41 = .ok (.invokevirtual 92, 3) := by decide +kernel
theorem dX10_load_44 : decode cX10_load 44 = .ok (.aload_n 0, 1) := by decide +kernel
theorem dX10_load_45 : decode cX10_load 45 = .ok (.getfield 36, 3) := by decide +kernel
theorem dX10_load_48 : decode cX10_load 48 = .ok (.invokevirtual 95, 3) := by decide +kernel
theorem dX10_load_51 : decode cX10_load 51 = .ok (.aload_n 0, 1) := by decide +kernel
theorem dX10_load_52 : decode cX10_load 52 = .ok (.getfield 19, 3) := by decide +kernel
theorem dX10_load_55 : decode cX10_load 55 = .ok (.getfield 51, 3) := by decide +kernel
theorem dX10_load_58 : decode cX10_load 58 = .ok (.getfield 97, 3) := by decide +kernel
theorem dX10_load_61 : decode cX10_load 61 = .ok (.ireturn, 1) := by decide +kernel
theorem dX10_about_0 : decode cX10_about 0 = .ok (.iload_n 1, 1) := by decide +kernel
theorem dX10_about_1 : decode cX10_about 1 = .ok (.tableswitch 172 0 10 #[59, 67, 78, 89, 97, 105, 120, 134, 142, 150, 164], 59) := by decide +kernel
theorem dX10_about_60 : decode cX10_about 60 = .ok (.aload_n 0, 1) := by decide +kernel
theorem dX10_about_61 : decode cX10_about 61 = .ok (.getfield 19, 3) := by decide +kernel
theorem dX10_about_64 : decode cX10_about 64 = .ok (.getfield 101, 3) := by decide +kernel
theorem dX10_about_67 : decode cX10_about 67 = .ok (.ireturn, 1) := by decide +kernel
theorem dX10_about_68 : decode cX10_about 68 = .ok (.aload_n 0, 1) := by decide +kernel
theorem dX10_about_69 : decode cX10_about 69 = .ok (.getfield 19, 3) := by decide +kernel
theorem dX10_about_72 : decode cX10_about 72 = .ok (.getfield 51, 3) := by decide +kernel
theorem dX10_about_75 : decode cX10_about 75 = .ok (.getfield 97, 3) := by decide +kernel
theorem dX10_about_78 : decode cX10_about 78 = .ok (.ireturn, 1) := by decide +kernel
theorem dX10_about_79 : decode cX10_about 79 = .ok (.aload_n 0, 1) := by decide +kernel
theorem dX10_about_80 : decode cX10_about 80 = .ok (.getfield 19, 3) := by decide +kernel
theorem dX10_about_83 : decode cX10_about 83 = .ok (.getfield 104, 3) := by decide +kernel
theorem dX10_about_86 : decode cX10_about 86 = .ok (.getfield 108, 3) := by decide +kernel
theorem dX10_about_89 : decode cX10_about 89 = .ok (.ireturn, 1) := by decide +kernel
theorem dX10_about_90 : decode cX10_about 90 = .ok (.aload_n 0, 1) := by decide +kernel
theorem dX10_about_91 : decode cX10_about 91 = .ok (.getfield 19, 3) := by decide +kernel
theorem dX10_about_94 : decode cX10_about 94 = .ok (.getfield 111, 3) := by decide +kernel
theorem dX10_about_97 : decode cX10_about 97 = .ok (.ireturn, 1) := by decide +kernel
theorem dX10_about_98 : decode cX10_about 98 = .ok (.aload_n 0, 1) := by decide +kernel
theorem dX10_about_99 : decode cX10_about 99 = .ok (.getfield 19, 3) := by decide +kernel
theorem dX10_about_102 : decode cX10_about 102 = .ok (.getfield 114, 3) := by decide +kernel
theorem dX10_about_105 : decode cX10_about 105 = .ok (.ireturn, 1) := by decide +kernel
theorem dX10_about_106 : decode cX10_about 106 = .ok (.aload_n 0, 1) := by decide +kernel
theorem dX10_about_107 : decode cX10_about 107 = .ok (.getfield 19, 3) := by decide +kernel
theorem dX10_about_110 : decode cX10_about 110 = .ok (.getfield 117, 3) := by decide +kernel
theorem dX10_about_113 : decode cX10_about 113 = .ok (.getfield 121, 3) := by decide +kernel
theorem dX10_about_116 : decode cX10_about 116 = .ok (.iconst 4, 1) := by decide +kernel
theorem dX10_about_117 : decode cX10_about 117 = .ok (.invokestatic 127, 3) := by decide +kernel
theorem dX10_about_120 : decode cX10_about 120 = .ok (.ireturn, 1) := by decide +kernel
theorem dX10_about_121 : decode cX10_about 121 = .ok (.aload_n 0, 1) := by decide +kernel
theorem dX10_about_122 : decode cX10_about 122 = .ok (.getfield 19, 3) := by decide +kernel
theorem dX10_about_125 : decode cX10_about 125 = .ok (.getfield 117, 3) := by decide +kernel
theorem dX10_about_128 : decode cX10_about 128 = .ok (.getfield 131, 3) := by decide +kernel
theorem dX10_about_131 : decode cX10_about 131 = .ok (.invokestatic 134, 3) := by decide +kernel
theorem dX10_about_134 : decode cX10_about 134 = .ok (.ireturn, 1) := by decide +kernel
theorem dX10_about_135 : decode cX10_about 135 = .ok (.aload_n 0, 1) := by decide +kernel
theorem dX10_about_136 : decode cX10_about 136 = .ok (.getfield 19, 3) := by decide +kernel
theorem dX10_about_139 : decode cX10_about 139 = .ok (.getfield 138, 3) := by decide +kernel
theorem dX10_about_142 : decode cX10_about 142 = .ok (.ireturn, 1) := by decide +kernel
theorem dX10_about_143 : decode cX10_about 143 = .ok (.aload_n 0, 1) := by decide +kernel
theorem dX10_about_144 : decode cX10_about 144 = .ok (.getfield 19, 3) := by decide +kernel
theorem dX10_about_147 : decode cX10_about 147 = .ok (.getfield 141, 3) := by decide +kernel
theorem dX10_about_150 : decode cX10_about 150 = .ok (.ireturn, 1) := by decide +kernel
theorem dX10_about_151 : decode cX10_about 151 = .ok (.aload_n 0, 1) := by decide +kernel
theorem dX10_about_152 : decode cX10_about 152 = .ok (.getfield 19, 3) := by decide +kernel
theorem dX10_about_155 : decode cX10_about 155 = .ok (.getfield 117, 3) := by decide +kernel
theorem dX10_about_158 : decode cX10_about 158 = .ok (.getfield 144, 3) := by decide +kernel
theorem dX10_about_161 : decode cX10_about 161 = .ok (.invokestatic 134, 3) := by decide +kernel
theorem dX10_about_164 : decode cX10_about 164 = .ok (.ireturn, 1) := by decide +kernel
theorem dX10_about_165 : decode cX10_about 165 = .ok (.aload_n 0, 1) := by decide +kernel
theorem dX10_about_166 : decode cX10_about 166 = .ok (.getfield 19, 3) := by decide +kernel
theorem dX10_about_169 : decode cX10_about 169 = .ok (.getfield 147, 3) := by decide +kernel
theorem dX10_about_172 : decode cX10_about 172 = .ok (.ireturn, 1) := by decide +kernel
theorem dX10_about_173 : decode cX10_about 173 = .ok (.new 150, 3) := by decide +kernel
theorem dX10_about_176 : decode cX10_about 176 = .ok (.dup, 1) := by decide +kernel
theorem dX10_about_177 : decode cX10_about 177 = .ok (.ldc 152, 2) := by decide +kernel
theorem dX10_about_179 : decode cX10_about 179 = .ok (.invokespecial 154, 3) := by decide +kernel
theorem dX10_about_182 : decode cX10_about 182 = .ok (.athrow, 1) := by decide +kernel
theorem dX10_track_0 : decode cX10_track 0 = .ok (.aload_n 0, 1) := by decide +kernel
theorem dX10_track_1 : decode cX10_track 1 = .ok (.iload_n 1, 1) := by decide +kernel
theorem dX10_track_2 : decode cX10_track 2 = .ok (.invokevirtual 155, 3) := by decide +kernel
theorem dX10_track_5 : decode cX10_track 5 = .ok (.aload_n 0, 1) := by decide +kernel
theorem dX10_track_6 : decode cX10_track 6 = .ok (.getfield 19, 3) := by decide +kernel
theorem dX10_track_9 : decode cX10_track 9 = .ok (.getfield 51, 3) := by decide +kernel
theorem dX10_track_12 : decode cX10_track 12 = .ok (.astore_n 3, 1) := by decide +kernel
theorem dX10_track_13 : decode cX10_track 13 = .ok (.iload_n 2, 1) := by decide +kernel
theorem dX10_track_14 : decode cX10_track 14 = .ok (.tableswitch 79 0 3 #[30, 39, 48, 57], 30) := by decide +kernel
theorem dX10_track_44 : decode cX10_track 44 = .ok (.aload_n 3, 1) := by decide +kernel
theorem dX10_track_45 : decode cX10_track 45 = .ok (.getfield 158, 3) := by decide +kernel
theorem dX10_track_48 : decode cX10_track 48 = .ok (.iload_n 1, 1) := by decide +kernel
theorem dX10_track_49 : decode cX10_track 49 = .ok (.invokestatic 127, 3) := by decide +kernel
theorem dX10_track_52 : decode cX10_track 52 = .ok (.ireturn, 1) := by decide +kernel
theorem dX10_track_53 : decode cX10_track 53 = .ok (.aload_n 3, 1) := by decide +kernel
theorem dX10_track_54 : decode cX10_track 54 = .ok (.getfield 161, 3) := by decide +kernel
theorem dX10_track_57 : decode cX10_track 57 = .ok (.iload_n 1, 1) := by decide +kernel
theorem dX10_track_58 : decode cX10_track 58 = .ok (.invokestatic 127, 3) := by decide +kernel
theorem dX10_track_61 : decode cX10_track 61 = .ok (.ireturn, 1) := by decide +kernel
theorem dX10_track_62 : decode cX10_track 62 = .ok (.aload_n 3, 1) := by decide +kernel
theorem dX10_track_63 : decode cX10_track 63 = .ok (.getfield 164, 3) := by decide +kernel
theorem dX10_track_66 : decode cX10_track 66 = .ok (.iload_n 1, 1) := by decide +kernel
theorem dX10_track_67 : decode cX10_track 67 = .ok (.invokestatic 127, 3) := by decide +kernel
theorem dX10_track_70 : decode cX10_track 70 = .ok (.ireturn, 1) := by decide +kernel
theorem dX10_track_71 : decode cX10_track 71 = .ok (.aload_n 3, 1) := by decide +kernel
theorem dX10_track_72 : decode cX10_track 72 = .ok (.iload_n 1, 1) := by decide +kernel
theorem dX10_track_73 : decode cX10_track 73 = .ok (.invokevirtual 167, 3) := by decide +kernel
theorem dX10_track_76 : decode cX10_track 76 = .ok (.ifCond .eq 8, 3) := by decide +kernel
theorem dX10_track_79 : decode cX10_track 79 = .ok (.bipush (-9), 2) := by decide +kernel
theorem dX10_track_81 : decode cX10_track 81 = .ok (.goto 11, 3) := by decide +kernel
theorem dX10_track_84 : decode cX10_track 84 = .ok (.aload_n 3, 1) := by decide +kernel
theorem dX10_track_85 : decode cX10_track 85 = .ok (.getfield 171, 3) := by decide +kernel
theorem dX10_track_88 : decode cX10_track 88 = .ok (.iload_n 1, 1) := by decide +kernel
theorem dX10_track_89 : decode cX10_track 89 = .ok (.invokestatic 127, 3) := by decide +kernel
theorem dX10_track_92 : decode cX10_track 92 = .ok (.ireturn, 1) := by decide +kernel
theorem dX10_track_93 : decode cX10_track 93 = .ok (.new 150, 3) := by decide +kernel
theorem dX10_track_96 : decode cX10_track 96 = .ok (.dup, 1) := by decide +kernel
theorem dX10_track_97 : decode cX10_track 97 = .ok (.ldc 152, 2) := by decide +kernel
theorem dX10_track_99 : decode cX10_track 99 = .ok (.invokespecial 154, 3) := by decide +kernel
theorem dX10_track_102 : decode cX10_track 102 = .ok (.athrow, 1) := by decide +kernel
theorem dX10_company_0 : decode cX10_company 0 = .ok (.iload_n 1, 1) := by decide +kernel
theorem dX10_company_1 : decode cX10_company 1 = .ok (.invokestatic 174, 3) := by decide +kernel
theorem dX10_company_4 : decode cX10_company 4 = .ok (.aload_n 0, 1) := by decide +kernel
theorem dX10_company_5 : decode cX10_company 5 = .ok (.getfield 19, 3) := by decide +kernel
theorem dX10_company_8 : decode cX10_company 8 = .ok (.getfield 117, 3) := by decide +kernel
theorem dX10_company_11 : decode cX10_company 11 = .ok (.astore_n 3, 1) := by decide +kernel
theorem dX10_company_12 : decode cX10_company 12 = .ok (.iload_n 2, 1) := by decide +kernel
theorem dX10_company_13 : decode cX10_company 13 = .ok (.tableswitch 112 0 6 #[43, 52, 61, 70, 82, 94, 103], 43) := by decide +kernel
theorem dX10_company_56 : decode cX10_company 56 = .ok (.aload_n 3, 1) := by decide +kernel
theorem dX10_company_57 : decode cX10_company 57 = .ok (.getfield 121, 3) := by decide +kernel
theorem dX10_company_60 : decode cX10_company 60 = .ok (.iload_n 1, 1) := by decide +kernel
theorem dX10_company_61 : decode cX10_company 61 = .ok (.invokestatic 127, 3) := by decide +kernel
theorem dX10_company_64 : decode cX10_company 64 = .ok (.ireturn, 1) := by decide +kernel
theorem dX10_company_65 : decode cX10_company 65 = .ok (.aload_n 3, 1) := by decide +kernel
theorem dX10_company_66 : decode cX10_company 66 = .ok (.getfield 177, 3) := by decide +kernel
theorem dX10_company_69 : decode cX10_company 69 = .ok (.iload_n 1, 1) := by decide +kernel
theorem dX10_company_70 : decode cX10_company 70 = .ok (.invokestatic 127, 3) := by decide +kernel
theorem dX10_company_73 : decode cX10_company 73 = .ok (.ireturn, 1) := by decide +kernel
theorem dX10_company_74 : decode cX10_company 74 = .ok (.aload_n 3, 1) := by decide +kernel
theorem dX10_company_75 : decode cX10_company 75 = .ok (.getfield 180, 3) := by decide +kernel
theorem dX10_company_78 : decode cX10_company 78 = .ok (.iload_n 1, 1) := by decide +kernel
theorem dX10_company_79 : decode cX10_company 79 = .ok (.invokestatic 127, 3) := by decide +kernel
theorem dX10_company_82 : decode cX10_company 82 = .ok (.ireturn, 1) := by decide +kernel
theorem dX10_company_83 : decode cX10_company 83 = .ok (.aload_n 0, 1) := by decide +kernel
theorem dX10_company_84 : decode cX10_company 84 = .ok (.getfield 19, 3) := by decide +kernel
theorem dX10_company_87 : decode cX10_company 87 = .ok (.getfield 51, 3) := by decide +kernel
theorem dX10_company_90 : decode cX10_company 90 = .ok (.iload_n 1, 1) := by decide +kernel
theorem dX10_company_91 : decode cX10_company 91 = .ok (.invokevirtual 183, 3) := by decide +kernel
theorem dX10_company_94 : decode cX10_company 94 = .ok (.ireturn, 1) := by decide +kernel
theorem dX10_company_95 : decode cX10_company 95 = .ok (.aload_n 0, 1) := by decide +kernel
theorem dX10_company_96 : decode cX10_company 96 = .ok (.getfield 19, 3) := by decide +kernel
theorem dX10_company_99 : decode cX10_company 99 = .ok (.getfield 104, 3) := by decide +kernel
theorem dX10_company_102 : decode cX10_company 102 = .ok (.iload_n 1, 1) := by decide +kernel
theorem dX10_company_103 : decode cX10_company 103 = .ok (.invokevirtual 186, 3) := by decide +kernel
theorem dX10_company_106 : decode cX10_company 106 = .ok (.ireturn, 1) := by decide +kernel
theorem dX10_company_107 : decode cX10_company 107 = .ok (.aload_n 3, 1) := by decide +kernel
theorem dX10_company_108 : decode cX10_company 108 = .ok (.getfield 131, 3) := by decide +kernel
theorem dX10_company_111 : decode cX10_company 111 = .ok (.iload_n 1, 1) := by decide +kernel
theorem dX10_company_112 : decode cX10_company 112 = .ok (.invokestatic 127, 3) := by decide +kernel
theorem dX10_company_115 : decode cX10_company 115 = .ok (.ireturn, 1) := by decide +kernel
theorem dX10_company_116 : decode cX10_company 116 = .ok (.aload_n 3, 1) := by decide +kernel
theorem dX10_company_117 : decode cX10_company 117 = .ok (.getfield 144, 3) := by decide +kernel
theorem dX10_company_120 : decode cX10_company 120 = .ok (.iload_n 1, 1) := by decide +kernel
theorem dX10_company_121 : decode cX10_company 121 = .ok (.invokestatic 127, 3) := by decide +kernel
theorem dX10_company_124 : decode cX10_company 124 = .ok (.ireturn, 1) := by decide +kernel
theorem dX10_company_125 : decode cX10_company 125 = .ok (.new 150, 3) := by decide +kernel
theorem dX10_company_128 : decode cX10_company 128 = .ok (.dup, 1) := by decide +kernel
theorem dX10_company_129 : decode cX10_company 129 = .ok (.ldc 152, 2) := by decide +kernel
theorem dX10_company_131 : decode cX10_company 131 = .ok (.invokespecial 154, 3) := by decide +kernel
theorem dX10_company_134 : decode cX10_company 134 = .ok (.athrow, 1) := by decide +kernel
theorem dX10_train_0 : decode cX10_train 0 = .ok (.iload_n 1, 1) := by decide +kernel
theorem dX10_train_1 : decode cX10_train 1 = .ok (.invokestatic 174, 3) := by decide +kernel
theorem dX10_train_4 : decode cX10_train 4 = .ok (.aload_n 0, 1) := by decide +kernel
theorem dX10_train_5 : decode cX10_train 5 = .ok (.iload_n 1, 1) := by decide +kernel
theorem dX10_train_6 : decode cX10_train 6 = .ok (.iload_n 2, 1) := by decide +kernel
theorem dX10_train_7 : decode cX10_train 7 = .ok (.invokevirtual 187, 3) := by decide +kernel
theorem dX10_train_10 : decode cX10_train 10 = .ok (.iload_n 3, 1) := by decide +kernel
theorem dX10_train_11 : decode cX10_train 11 = .ok (.lookupswitch 59 #[(0, 25), (1, 38)], 25) := by decide +kernel
theorem dX10_train_36 : decode cX10_train 36 = .ok (.aload_n 0, 1) := by decide +kernel
theorem dX10_train_37 : decode cX10_train 37 = .ok (.getfield 19, 3) := by decide +kernel
theorem dX10_train_40 : decode cX10_train 40 = .ok (.getfield 117, 3) := by decide +kernel
theorem dX10_train_43 : decode cX10_train 43 = .ok (.iload_n 1, 1) := by decide +kernel
theorem dX10_train_44 : decode cX10_train 44 = .ok (.iload_n 2, 1) := by decide +kernel
theorem dX10_train_45 : decode cX10_train 45 = .ok (.invokevirtual 191, 3) := by decide +kernel
theorem dX10_train_48 : decode cX10_train 48 = .ok (.ireturn, 1) := by decide +kernel
theorem dX10_train_49 : decode cX10_train 49 = .ok (.aload_n 0, 1) := by decide +kernel
theorem dX10_train_50 : decode cX10_train 50 = .ok (.getfield 19, 3) := by decide +kernel
theorem dX10_train_53 : decode cX10_train 53 = .ok (.getfield 117, 3) := by decide +kernel
theorem dX10_train_56 : decode cX10_train 56 = .ok (.iload_n 1, 1) := by decide +kernel
theorem dX10_train_57 : decode cX10_train 57 = .ok (.iload_n 2, 1) := by decide +kernel
theorem dX10_train_58 : decode cX10_train 58 = .ok (.invokevirtual 195, 3) := by decide +kernel
theorem dX10_train_61 : decode cX10_train 61 = .ok (.ifCond .eq 7, 3) := by decide +kernel
theorem dX10_train_64 : decode cX10_train 64 = .ok (.iconst 1, 1) := by decide +kernel
theorem dX10_train_65 : decode cX10_train 65 = .ok (.goto 4, 3) := by decide +kernel
theorem dX10_train_68 : decode cX10_train 68 = .ok (.iconst 0, 1) := by decide +kernel
theorem dX10_train_69 : decode cX10_train 69 = .ok (.ireturn, 1) := by decide +kernel
theorem dX10_train_70 : decode cX10_train 70 = .ok (.new 150, 3) := by decide +kernel
theorem dX10_train_73 : decode cX10_train 73 = .ok (.dup, 1) := by decide +kernel
theorem dX10_train_74 : decode cX10_train 74 = .ok (.ldc 152, 2) := by decide +kernel
theorem dX10_train_76 : decode cX10_train 76 = .ok (.invokespecial 154, 3) := by decide +kernel
theorem dX10_train_79 : decode cX10_train 79 = .ok (.athrow, 1) := by decide +kernel
theorem dX10_contract_0 : decode cX10_contract 0 = .ok (.aload_n 0, 1) := by decide +kernel
theorem dX10_contract_1 : decode cX10_contract 1 = .ok (.iload_n 1, 1) := by decide +kernel
theorem dX10_contract_2 : decode cX10_contract 2 = .ok (.invokevirtual 199, 3) := by decide +kernel
theorem dX10_contract_5 : decode cX10_contract 5 = .ok (.aload_n 0, 1) := by decide +kernel
theorem dX10_contract_6 : decode cX10_contract 6 = .ok (.getfield 19, 3) := by decide +kernel
theorem dX10_contract_9 : decode cX10_contract 9 = .ok (.getfield 104, 3) := by decide +kernel
theorem dX10_contract_12 : decode cX10_contract 12 = .ok (.astore_n 3, 1) := by decide +kernel
theorem dX10_contract_13 : decode cX10_contract 13 = .ok (.iload_n 2, 1) := by decide +kernel
theorem dX10_contract_14 : decode cX10_contract 14 = .ok (.tableswitch 92 0 5 #[38, 47, 56, 65, 74, 83], 38) := by decide +kernel
theorem dX10_contract_52 : decode cX10_contract 52 = .ok (.aload_n 3, 1) := by decide +kernel
theorem dX10_contract_53 : decode cX10_contract 53 = .ok (.getfield 202, 3) := by decide +kernel
theorem dX10_contract_56 : decode cX10_contract 56 = .ok (.iload_n 1, 1) := by decide +kernel
theorem dX10_contract_57 : decode cX10_contract 57 = .ok (.invokestatic 127, 3) := by decide +kernel
theorem dX10_contract_60 : decode cX10_contract 60 = .ok (.ireturn, 1) := by decide +kernel
theorem dX10_contract_61 : decode cX10_contract 61 = .ok (.aload_n 3, 1) := by decide +kernel
theorem dX10_contract_62 : decode cX10_contract 62 = .ok (.getfield 205, 3) := by decide +kernel
theorem dX10_contract_65 : decode cX10_contract 65 = .ok (.iload_n 1, 1) := by decide +kernel
theorem dX10_contract_66 : decode cX10_contract 66 = .ok (.invokestatic 127, 3) := by decide +kernel
theorem dX10_contract_69 : decode cX10_contract 69 = .ok (.ireturn, 1) := by decide +kernel
theorem dX10_contract_70 : decode cX10_contract 70 = .ok (.aload_n 3, 1) := by decide +kernel
theorem dX10_contract_71 : decode cX10_contract 71 = .ok (.getfield 208, 3) := by decide +kernel
theorem dX10_contract_74 : decode cX10_contract 74 = .ok (.iload_n 1, 1) := by decide +kernel
theorem dX10_contract_75 : decode cX10_contract 75 = .ok (.invokestatic 127, 3) := by decide +kernel
theorem dX10_contract_78 : decode cX10_contract 78 = .ok (.ireturn, 1) := by decide +kernel
theorem dX10_contract_79 : decode cX10_contract 79 = .ok (.aload_n 3, 1) := by decide +kernel
theorem dX10_contract_80 : decode cX10_contract 80 = .ok (.getfield 211, 3) := by decide +kernel
theorem dX10_contract_83 : decode cX10_contract 83 = .ok (.iload_n 1, 1) := by decide +kernel
theorem dX10_contract_84 : decode cX10_contract 84 = .ok (.invokestatic 127, 3) := by decide +kernel
theorem dX10_contract_87 : decode cX10_contract 87 = .ok (.ireturn, 1) := by decide +kernel
theorem dX10_contract_88 : decode cX10_contract 88 = .ok (.aload_n 3, 1) := by decide +kernel
theorem dX10_contract_89 : decode cX10_contract 89 = .ok (.getfield 214, 3) := by decide +kernel
theorem dX10_contract_92 : decode cX10_contract 92 = .ok (.iload_n 1, 1) := by decide +kernel
theorem dX10_contract_93 : decode cX10_contract 93 = .ok (.invokestatic 127, 3) := by decide +kernel
theorem dX10_contract_96 : decode cX10_contract 96 = .ok (.ireturn, 1) := by decide +kernel
theorem dX10_contract_97 : decode cX10_contract 97 = .ok (.aload_n 3, 1) := by decide +kernel
theorem dX10_contract_98 : decode cX10_contract 98 = .ok (.getfield 217, 3) := by decide +kernel
theorem dX10_contract_101 : decode cX10_contract 101 = .ok (.iload_n 1, 1) := by decide +kernel
theorem dX10_contract_102 : decode cX10_contract 102 = .ok (.invokestatic 127, 3) := by decide +kernel
theorem dX10_contract_105 : decode cX10_contract 105 = .ok (.ireturn, 1) := by decide +kernel
theorem dX10_contract_106 : decode cX10_contract 106 = .ok (.new 150, 3) := by decide +kernel
theorem dX10_contract_109 : decode cX10_contract 109 = .ok (.dup, 1) := by decide +kernel
theorem dX10_contract_110 : decode cX10_contract 110 = .ok (.ldc 152, 2) := by decide +kernel
theorem dX10_contract_112 : decode cX10_contract 112 = .ok (.invokespecial 154, 3) := by decide +kernel
theorem dX10_contract_115 : decode cX10_contract 115 = .ok (.athrow, 1) := by decide +kernel
theorem dX10_buyTrack_0 : decode cX10_buyTrack 0 = .ok (.iload_n 1, 1) := by decide +kernel
theorem dX10_buyTrack_1 : decode cX10_buyTrack 1 = .ok (.invokestatic 174, 3) := by decide +kernel
theorem dX10_buyTrack_4 : decode cX10_buyTrack 4 = .ok (.aload_n 0, 1) := by decide +kernel
theorem dX10_buyTrack_5 : decode cX10_buyTrack 5 = .ok (.iload_n 2, 1) := by decide +kernel
theorem dX10_buyTrack_6 : decode cX10_buyTrack 6 = .ok (.invokevirtual 155, 3) := by decide +kernel
theorem dX10_buyTrack_9 : decode cX10_buyTrack 9 = .ok (.aload_n 0, 1) := by decide +kernel
theorem dX10_buyTrack_10 : decode cX10_buyTrack 10 = .ok (.getfield 19, 3) := by decide +kernel
theorem dX10_buyTrack_13 : decode cX10_buyTrack 13 = .ok (.iload_n 1, 1) := by decide +kernel
theorem dX10_buyTrack_14 : decode cX10_buyTrack 14 = .ok (.iload_n 2, 1) := by decide +kernel
theorem dX10_buyTrack_15 : decode cX10_buyTrack 15 = .ok (.invokevirtual 220, 3) := by decide +kernel
theorem dX10_buyTrack_18 : decode cX10_buyTrack 18 = .ok (.invokestatic 223, 3) := by decide +kernel
theorem dX10_buyTrack_21 : decode cX10_buyTrack 21 = .ok (.aload_n 0, 1) := by decide +kernel
theorem dX10_buyTrack_22 : decode cX10_buyTrack 22 = .ok (.getfield 29, 3) := by decide +kernel
theorem dX10_buyTrack_25 : decode cX10_buyTrack 25 = .ok (.aload_n 0, 1) := by decide +kernel
theorem dX10_buyTrack_26 : decode cX10_buyTrack 26 = .ok (.getfield 19, 3) := by decide +kernel
theorem dX10_buyTrack_29 : decode cX10_buyTrack 29 = .ok (.invokevirtual 227, 3) := by decide +kernel
theorem dX10_buyTrack_32 : decode cX10_buyTrack 32 = .ok (.aload_n 0, 1) := by decide +kernel
theorem dX10_buyTrack_33 : decode cX10_buyTrack 33 = .ok (.getfield 19, 3) := by decide +kernel
theorem dX10_buyTrack_36 : decode cX10_buyTrack 36 = .ok (.iload_n 1, 1) := by decide +kernel
theorem dX10_buyTrack_37 : decode cX10_buyTrack 37 = .ok (.iload_n 2, 1) := by decide +kernel
theorem dX10_buyTrack_38 : decode cX10_buyTrack 38 = .ok (.invokevirtual 230, 3) := by decide +kernel
theorem dX10_buyTrack_41 : decode cX10_buyTrack 41 = .ok (.aload_n 0, 1) := by decide +kernel
theorem dX10_buyTrack_42 : decode cX10_buyTrack 42 = .ok (.getfield 19, 3) := by decide +kernel
theorem dX10_buyTrack_45 : decode cX10_buyTrack 45 = .ok (.getfield 117, 3) := by decide +kernel
theorem dX10_buyTrack_48 : decode cX10_buyTrack 48 = .ok (.getfield 121, 3) := by decide +kernel
theorem dX10_buyTrack_51 : decode cX10_buyTrack 51 = .ok (.iload_n 1, 1) := by decide +kernel
theorem dX10_buyTrack_52 : decode cX10_buyTrack 52 = .ok (.invokestatic 127, 3) := by decide +kernel
theorem dX10_buyTrack_55 : decode cX10_buyTrack 55 = .ok (.ireturn, 1) := by decide +kernel
theorem dX10_buyTrain_0 : decode cX10_buyTrain 0 = .ok (.iload_n 1, 1) := by decide +kernel
theorem dX10_buyTrain_1 : decode cX10_buyTrain 1 = .ok (.invokestatic 174, 3) := by decide +kernel
theorem dX10_buyTrain_4 : decode cX10_buyTrain 4 = .ok (.iload_n 2, 1) := by decide +kernel
theorem dX10_buyTrain_5 : decode cX10_buyTrain 5 = .ok (.iconst 1, 1) := by decide +kernel
theorem dX10_buyTrain_6 : decode cX10_buyTrain 6 = .ok (.bipush 6, 2) := by decide +kernel
theorem dX10_buyTrain_8 : decode cX10_buyTrain 8 = .ok (.invokestatic 61, 3) := by decide +kernel
theorem dX10_buyTrain_11 : decode cX10_buyTrain 11 = .ok (.aload_n 0, 1) := by decide +kernel
theorem dX10_buyTrain_12 : decode cX10_buyTrain 12 = .ok (.getfield 19, 3) := by decide +kernel
theorem dX10_buyTrain_15 : decode cX10_buyTrain 15 = .ok (.iload_n 1, 1) := by decide +kernel
theorem dX10_buyTrain_16 : decode cX10_buyTrain 16 = .ok (.iload_n 2, 1) := by decide +kernel
theorem dX10_buyTrain_17 : decode cX10_buyTrain 17 = .ok (.invokevirtual 233, 3) := by decide +kernel
theorem dX10_buyTrain_20 : decode cX10_buyTrain 20 = .ok (.invokestatic 223, 3) := by decide +kernel
theorem dX10_buyTrain_23 : decode cX10_buyTrain 23 = .ok (.aload_n 0, 1) := by decide +kernel
theorem dX10_buyTrain_24 : decode cX10_buyTrain 24 = .ok (.getfield 29, 3) := by decide +kernel
theorem dX10_buyTrain_27 : decode cX10_buyTrain 27 = .ok (.aload_n 0, 1) := by decide +kernel
theorem dX10_buyTrain_28 : decode cX10_buyTrain 28 = .ok (.getfield 19, 3) := by decide +kernel
theorem dX10_buyTrain_31 : decode cX10_buyTrain 31 = .ok (.invokevirtual 227, 3) := by decide +kernel
theorem dX10_buyTrain_34 : decode cX10_buyTrain 34 = .ok (.aload_n 0, 1) := by decide +kernel
theorem dX10_buyTrain_35 : decode cX10_buyTrain 35 = .ok (.getfield 19, 3) := by decide +kernel
theorem dX10_buyTrain_38 : decode cX10_buyTrain 38 = .ok (.iload_n 1, 1) := by decide +kernel
theorem dX10_buyTrain_39 : decode cX10_buyTrain 39 = .ok (.iload_n 2, 1) := by decide +kernel
theorem dX10_buyTrain_40 : decode cX10_buyTrain 40 = .ok (.invokevirtual 236, 3) := by decide +kernel
theorem dX10_buyTrain_43 : decode cX10_buyTrain 43 = .ok (.ireturn, 1) := by decide +kernel
theorem dX10_setRent_0 : decode cX10_setRent 0 = .ok (.iload_n 1, 1) := by decide +kernel
theorem dX10_setRent_1 : decode cX10_setRent 1 = .ok (.invokestatic 174, 3) := by decide +kernel
theorem dX10_setRent_4 : decode cX10_setRent 4 = .ok (.iload_n 2, 1) := by decide +kernel
theorem dX10_setRent_5 : decode cX10_setRent 5 = .ok (.iconst 0, 1) := by decide +kernel
theorem dX10_setRent_6 : decode cX10_setRent 6 = .ok (.bipush 9, 2) := by decide +kernel
theorem dX10_setRent_8 : decode cX10_setRent 8 = .ok (.invokestatic 61, 3) := by decide +kernel
theorem dX10_setRent_11 : decode cX10_setRent 11 = .ok (.aload_n 0, 1) := by decide +kernel
theorem dX10_setRent_12 : decode cX10_setRent 12 = .ok (.getfield 29, 3) := by decide +kernel
theorem dX10_setRent_15 : decode cX10_setRent 15 = .ok (.aload_n 0, 1) := by decide +kernel
theorem dX10_setRent_16 : decode cX10_setRent 16 = .ok (.getfield 19, 3) := by decide +kernel
theorem dX10_setRent_19 : decode cX10_setRent 19 = .ok (.invokevirtual 227, 3) := by decide +kernel
theorem dX10_setRent_22 : decode cX10_setRent 22 = .ok (.aload_n 0, 1) := by decide +kernel
theorem dX10_setRent_23 : decode cX10_setRent 23 = .ok (.getfield 19, 3) := by decide +kernel
theorem dX10_setRent_26 : decode cX10_setRent 26 = .ok (.getfield 117, 3) := by decide +kernel
theorem dX10_setRent_29 : decode cX10_setRent 29 = .ok (.getfield 177, 3) := by decide +kernel
theorem dX10_setRent_32 : decode cX10_setRent 32 = .ok (.iload_n 1, 1) := by decide +kernel
theorem dX10_setRent_33 : decode cX10_setRent 33 = .ok (.invokestatic 127, 3) := by decide +kernel
theorem dX10_setRent_36 : decode cX10_setRent 36 = .ok (.istore_n 3, 1) := by decide +kernel
theorem dX10_setRent_37 : decode cX10_setRent 37 = .ok (.aload_n 0, 1) := by decide +kernel
theorem dX10_setRent_38 : decode cX10_setRent 38 = .ok (.getfield 19, 3) := by decide +kernel
theorem dX10_setRent_41 : decode cX10_setRent 41 = .ok (.getfield 117, 3) := by decide +kernel
theorem dX10_setRent_44 : decode cX10_setRent 44 = .ok (.iload_n 1, 1) := by decide +kernel
theorem dX10_setRent_45 : decode cX10_setRent 45 = .ok (.iload_n 2, 1) := by decide +kernel
theorem dX10_setRent_46 : decode cX10_setRent 46 = .ok (.invokevirtual 239, 3) := by decide +kernel
theorem dX10_setRent_49 : decode cX10_setRent 49 = .ok (.iload_n 3, 1) := by decide +kernel
theorem dX10_setRent_50 : decode cX10_setRent 50 = .ok (.ireturn, 1) := by decide +kernel
theorem dX10_offer_0 : decode cX10_offer 0 = .ok (.aload_n 0, 1) := by decide +kernel
theorem dX10_offer_1 : decode cX10_offer 1 = .ok (.iload_n 1, 1) := by decide +kernel
theorem dX10_offer_2 : decode cX10_offer 2 = .ok (.invokevirtual 242, 3) := by decide +kernel
theorem dX10_offer_5 : decode cX10_offer 5 = .ok (.aload_n 0, 1) := by decide +kernel
theorem dX10_offer_6 : decode cX10_offer 6 = .ok (.iload_n 2, 1) := by decide +kernel
theorem dX10_offer_7 : decode cX10_offer 7 = .ok (.invokevirtual 242, 3) := by decide +kernel
theorem dX10_offer_10 : decode cX10_offer 10 = .ok (.iload_n 1, 1) := by decide +kernel
theorem dX10_offer_11 : decode cX10_offer 11 = .ok (.iload_n 2, 1) := by decide +kernel
theorem dX10_offer_12 : decode cX10_offer 12 = .ok (.invokestatic 245, 3) := by decide +kernel
theorem dX10_offer_15 : decode cX10_offer 15 = .ok (.iload_n 3, 1) := by decide +kernel
theorem dX10_offer_16 : decode cX10_offer 16 = .ok (.iconst 1, 1) := by decide +kernel
theorem dX10_offer_17 : decode cX10_offer 17 = .ok (.bipush 99, 2) := by decide +kernel
theorem dX10_offer_19 : decode cX10_offer 19 = .ok (.invokestatic 61, 3) := by decide +kernel
theorem dX10_offer_22 : decode cX10_offer 22 = .ok (.iload 4, 2) := by decide +kernel
theorem dX10_offer_24 : decode cX10_offer 24 = .ok (.iconst 1, 1) := by decide +kernel
theorem dX10_offer_25 : decode cX10_offer 25 = .ok (.bipush 9, 2) := by decide +kernel
theorem dX10_offer_27 : decode cX10_offer 27 = .ok (.invokestatic 61, 3) := by decide +kernel
theorem dX10_offer_30 : decode cX10_offer 30 = .ok (.aload_n 0, 1) := by decide +kernel
theorem dX10_offer_31 : decode cX10_offer 31 = .ok (.getfield 19, 3) := by decide +kernel
theorem dX10_offer_34 : decode cX10_offer 34 = .ok (.getfield 104, 3) := by decide +kernel
theorem dX10_offer_37 : decode cX10_offer 37 = .ok (.invokevirtual 248, 3) := by decide +kernel
theorem dX10_offer_40 : decode cX10_offer 40 = .ok (.ifCond .ne 7, 3) := by decide +kernel
theorem dX10_offer_43 : decode cX10_offer 43 = .ok (.iconst 1, 1) := by decide +kernel
theorem dX10_offer_44 : decode cX10_offer 44 = .ok (.goto 4, 3) := by decide +kernel
theorem dX10_offer_47 : decode cX10_offer 47 = .ok (.iconst 0, 1) := by decide +kernel
theorem dX10_offer_48 : decode cX10_offer 48 = .ok (.invokestatic 223, 3) := by decide +kernel
theorem dX10_offer_51 : decode cX10_offer 51 = .ok (.aload_n 0, 1) := by decide +kernel
theorem dX10_offer_52 : decode cX10_offer 52 = .ok (.getfield 29, 3) := by decide +kernel
theorem dX10_offer_55 : decode cX10_offer 55 = .ok (.aload_n 0, 1) := by decide +kernel
theorem dX10_offer_56 : decode cX10_offer 56 = .ok (.getfield 19, 3) := by decide +kernel
theorem dX10_offer_59 : decode cX10_offer 59 = .ok (.invokevirtual 227, 3) := by decide +kernel
theorem dX10_offer_62 : decode cX10_offer 62 = .ok (.aload_n 0, 1) := by decide +kernel
theorem dX10_offer_63 : decode cX10_offer 63 = .ok (.getfield 19, 3) := by decide +kernel
theorem dX10_offer_66 : decode cX10_offer 66 = .ok (.getfield 104, 3) := by decide +kernel
theorem dX10_offer_69 : decode cX10_offer 69 = .ok (.iload_n 1, 1) := by decide +kernel
theorem dX10_offer_70 : decode cX10_offer 70 = .ok (.iload_n 2, 1) := by decide +kernel
theorem dX10_offer_71 : decode cX10_offer 71 = .ok (.iload_n 3, 1) := by decide +kernel
theorem dX10_offer_72 : decode cX10_offer 72 = .ok (.iload 4, 2) := by decide +kernel
theorem dX10_offer_74 : decode cX10_offer 74 = .ok (.invokevirtual 251, 3) := by decide +kernel
theorem dX10_offer_77 : decode cX10_offer 77 = .ok (.aload_n 0, 1) := by decide +kernel
theorem dX10_offer_78 : decode cX10_offer 78 = .ok (.getfield 19, 3) := by decide +kernel
theorem dX10_offer_81 : decode cX10_offer 81 = .ok (.getfield 104, 3) := by decide +kernel
theorem dX10_offer_84 : decode cX10_offer 84 = .ok (.getfield 108, 3) := by decide +kernel
theorem dX10_offer_87 : decode cX10_offer 87 = .ok (.iconst 1, 1) := by decide +kernel
theorem dX10_offer_88 : decode cX10_offer 88 = .ok (.isub, 1) := by decide +kernel
theorem dX10_offer_89 : decode cX10_offer 89 = .ok (.ireturn, 1) := by decide +kernel
theorem dX10_take_0 : decode cX10_take 0 = .ok (.iload_n 1, 1) := by decide +kernel
theorem dX10_take_1 : decode cX10_take 1 = .ok (.invokestatic 174, 3) := by decide +kernel
theorem dX10_take_4 : decode cX10_take 4 = .ok (.aload_n 0, 1) := by decide +kernel
theorem dX10_take_5 : decode cX10_take 5 = .ok (.iload_n 2, 1) := by decide +kernel
theorem dX10_take_6 : decode cX10_take 6 = .ok (.invokevirtual 199, 3) := by decide +kernel
theorem dX10_take_9 : decode cX10_take 9 = .ok (.aload_n 0, 1) := by decide +kernel
theorem dX10_take_10 : decode cX10_take 10 = .ok (.getfield 19, 3) := by decide +kernel
theorem dX10_take_13 : decode cX10_take 13 = .ok (.getfield 104, 3) := by decide +kernel
theorem dX10_take_16 : decode cX10_take 16 = .ok (.iload_n 2, 1) := by decide +kernel
theorem dX10_take_17 : decode cX10_take 17 = .ok (.invokevirtual 254, 3) := by decide +kernel
theorem dX10_take_20 : decode cX10_take 20 = .ok (.invokestatic 223, 3) := by decide +kernel
theorem dX10_take_23 : decode cX10_take 23 = .ok (.aload_n 0, 1) := by decide +kernel
theorem dX10_take_24 : decode cX10_take 24 = .ok (.getfield 29, 3) := by decide +kernel
theorem dX10_take_27 : decode cX10_take 27 = .ok (.aload_n 0, 1) := by decide +kernel
theorem dX10_take_28 : decode cX10_take 28 = .ok (.getfield 19, 3) := by decide +kernel
theorem dX10_take_31 : decode cX10_take 31 = .ok (.invokevirtual 227, 3) := by decide +kernel
theorem dX10_take_34 : decode cX10_take 34 = .ok (.aload_n 0, 1) := by decide +kernel
theorem dX10_take_35 : decode cX10_take 35 = .ok (.getfield 19, 3) := by decide +kernel
theorem dX10_take_38 : decode cX10_take 38 = .ok (.getfield 104, 3) := by decide +kernel
theorem dX10_take_41 : decode cX10_take 41 = .ok (.iload_n 2, 1) := by decide +kernel
theorem dX10_take_42 : decode cX10_take 42 = .ok (.iload_n 1, 1) := by decide +kernel
theorem dX10_take_43 : decode cX10_take 43 = .ok (.invokevirtual 257, 3) := by decide +kernel
theorem dX10_take_46 : decode cX10_take 46 = .ok (.aload_n 0, 1) := by decide +kernel
theorem dX10_take_47 : decode cX10_take 47 = .ok (.getfield 19, 3) := by decide +kernel
theorem dX10_take_50 : decode cX10_take 50 = .ok (.getfield 104, 3) := by decide +kernel
theorem dX10_take_53 : decode cX10_take 53 = .ok (.iload_n 1, 1) := by decide +kernel
theorem dX10_take_54 : decode cX10_take 54 = .ok (.invokevirtual 186, 3) := by decide +kernel
theorem dX10_take_57 : decode cX10_take 57 = .ok (.ireturn, 1) := by decide +kernel
theorem dX10_run_0 : decode cX10_run 0 = .ok (.aload_n 0, 1) := by decide +kernel
theorem dX10_run_1 : decode cX10_run 1 = .ok (.iload_n 1, 1) := by decide +kernel
theorem dX10_run_2 : decode cX10_run 2 = .ok (.invokevirtual 199, 3) := by decide +kernel
theorem dX10_run_5 : decode cX10_run 5 = .ok (.aload_n 0, 1) := by decide +kernel
theorem dX10_run_6 : decode cX10_run 6 = .ok (.iload_n 1, 1) := by decide +kernel
theorem dX10_run_7 : decode cX10_run 7 = .ok (.iload_n 2, 1) := by decide +kernel
theorem dX10_run_8 : decode cX10_run 8 = .ok (.invokevirtual 260, 3) := by decide +kernel
theorem dX10_run_11 : decode cX10_run 11 = .ok (.aload_n 0, 1) := by decide +kernel
theorem dX10_run_12 : decode cX10_run 12 = .ok (.getfield 43, 3) := by decide +kernel
theorem dX10_run_15 : decode cX10_run 15 = .ok (.aload_n 0, 1) := by decide +kernel
theorem dX10_run_16 : decode cX10_run 16 = .ok (.getfield 19, 3) := by decide +kernel
theorem dX10_run_19 : decode cX10_run 19 = .ok (.iload_n 1, 1) := by decide +kernel
theorem dX10_run_20 : decode cX10_run 20 = .ok (.iload_n 2, 1) := by decide +kernel
theorem dX10_run_21 : decode cX10_run 21 = .ok (.invokevirtual 263, 3) := by decide +kernel
theorem dX10_run_24 : decode cX10_run 24 = .ok (.ifCond .ne 7, 3) := by decide +kernel
theorem dX10_run_27 : decode cX10_run 27 = .ok (.iconst 1, 1) := by decide +kernel
theorem dX10_run_28 : decode cX10_run 28 = .ok (.goto 4, 3) := by decide +kernel
theorem dX10_run_31 : decode cX10_run 31 = .ok (.iconst 0, 1) := by decide +kernel
theorem dX10_run_32 : decode cX10_run 32 = .ok (.invokestatic 223, 3) := by decide +kernel
theorem dX10_run_35 : decode cX10_run 35 = .ok (.aload_n 0, 1) := by decide +kernel
theorem dX10_run_36 : decode cX10_run 36 = .ok (.getfield 29, 3) := by decide +kernel
theorem dX10_run_39 : decode cX10_run 39 = .ok (.aload_n 0, 1) := by decide +kernel
theorem dX10_run_40 : decode cX10_run 40 = .ok (.getfield 19, 3) := by decide +kernel
theorem dX10_run_43 : decode cX10_run 43 = .ok (.invokevirtual 227, 3) := by decide +kernel
theorem dX10_run_46 : decode cX10_run 46 = .ok (.aload_n 0, 1) := by decide +kernel
theorem dX10_run_47 : decode cX10_run 47 = .ok (.getfield 43, 3) := by decide +kernel
theorem dX10_run_50 : decode cX10_run 50 = .ok (.aload_n 0, 1) := by decide +kernel
theorem dX10_run_51 : decode cX10_run 51 = .ok (.getfield 19, 3) := by decide +kernel
theorem dX10_run_54 : decode cX10_run 54 = .ok (.iload_n 1, 1) := by decide +kernel
theorem dX10_run_55 : decode cX10_run 55 = .ok (.iload_n 2, 1) := by decide +kernel
theorem dX10_run_56 : decode cX10_run 56 = .ok (.invokevirtual 267, 3) := by decide +kernel
theorem dX10_run_59 : decode cX10_run 59 = .ok (.ireturn, 1) := by decide +kernel
theorem dX10_endRound_0 : decode cX10_endRound 0 = .ok (.aload_n 0, 1) := by decide +kernel
theorem dX10_endRound_1 : decode cX10_endRound 1 = .ok (.getfield 29, 3) := by decide +kernel
theorem dX10_endRound_4 : decode cX10_endRound 4 = .ok (.aload_n 0, 1) := by decide +kernel
theorem dX10_endRound_5 : decode cX10_endRound 5 = .ok (.getfield 19, 3) := by decide +kernel
theorem dX10_endRound_8 : decode cX10_endRound 8 = .ok (.invokevirtual 227, 3) := by decide +kernel
theorem dX10_endRound_11 : decode cX10_endRound 11 = .ok (.aload_n 0, 1) := by decide +kernel
theorem dX10_endRound_12 : decode cX10_endRound 12 = .ok (.getfield 19, 3) := by decide +kernel
theorem dX10_endRound_15 : decode cX10_endRound 15 = .ok (.invokevirtual 270, 3) := by decide +kernel
theorem dX10_endRound_18 : decode cX10_endRound 18 = .ok (.ireturn, 1) := by decide +kernel
theorem dX10_undo_0 : decode cX10_undo 0 = .ok (.aload_n 0, 1) := by decide +kernel
theorem dX10_undo_1 : decode cX10_undo 1 = .ok (.getfield 29, 3) := by decide +kernel
theorem dX10_undo_4 : decode cX10_undo 4 = .ok (.getfield 273, 3) := by decide +kernel
theorem dX10_undo_7 : decode cX10_undo 7 = .ok (.ifCond .le 7, 3) := by decide +kernel
theorem dX10_undo_10 : decode cX10_undo 10 = .ok (.iconst 1, 1) := by decide +kernel
theorem dX10_undo_11 : decode cX10_undo 11 = .ok (.goto 4, 3) := by decide +kernel
theorem dX10_undo_14 : decode cX10_undo 14 = .ok (.iconst 0, 1) := by decide +kernel
theorem dX10_undo_15 : decode cX10_undo 15 = .ok (.invokestatic 223, 3) := by decide +kernel
theorem dX10_undo_18 : decode cX10_undo 18 = .ok (.aload_n 0, 1) := by decide +kernel
theorem dX10_undo_19 : decode cX10_undo 19 = .ok (.getfield 29, 3) := by decide +kernel
theorem dX10_undo_22 : decode cX10_undo 22 = .ok (.aload_n 0, 1) := by decide +kernel
theorem dX10_undo_23 : decode cX10_undo 23 = .ok (.getfield 19, 3) := by decide +kernel
theorem dX10_undo_26 : decode cX10_undo 26 = .ok (.invokevirtual 274, 3) := by decide +kernel
theorem dX10_undo_29 : decode cX10_undo 29 = .ok (.aload_n 0, 1) := by decide +kernel
theorem dX10_undo_30 : decode cX10_undo 30 = .ok (.getfield 29, 3) := by decide +kernel
theorem dX10_undo_33 : decode cX10_undo 33 = .ok (.getfield 273, 3) := by decide +kernel
theorem dX10_undo_36 : decode cX10_undo 36 = .ok (.ireturn, 1) := by decide +kernel
theorem dX10_way_0 : decode cX10_way 0 = .ok (.iload_n 1, 1) := by decide +kernel
theorem dX10_way_1 : decode cX10_way 1 = .ok (.invokestatic 174, 3) := by decide +kernel
theorem dX10_way_4 : decode cX10_way 4 = .ok (.aload_n 0, 1) := by decide +kernel
theorem dX10_way_5 : decode cX10_way 5 = .ok (.iload_n 2, 1) := by decide +kernel
theorem dX10_way_6 : decode cX10_way 6 = .ok (.invokevirtual 242, 3) := by decide +kernel
theorem dX10_way_9 : decode cX10_way 9 = .ok (.aload_n 0, 1) := by decide +kernel
theorem dX10_way_10 : decode cX10_way 10 = .ok (.iload_n 3, 1) := by decide +kernel
theorem dX10_way_11 : decode cX10_way 11 = .ok (.invokevirtual 242, 3) := by decide +kernel
theorem dX10_way_14 : decode cX10_way 14 = .ok (.iload_n 2, 1) := by decide +kernel
theorem dX10_way_15 : decode cX10_way 15 = .ok (.iload_n 3, 1) := by decide +kernel
theorem dX10_way_16 : decode cX10_way 16 = .ok (.invokestatic 245, 3) := by decide +kernel
theorem dX10_way_19 : decode cX10_way 19 = .ok (.iload 4, 2) := by decide +kernel
theorem dX10_way_21 : decode cX10_way 21 = .ok (.iconst 1, 1) := by decide +kernel
theorem dX10_way_22 : decode cX10_way 22 = .ok (.bipush 24, 2) := by decide +kernel
theorem dX10_way_24 : decode cX10_way 24 = .ok (.invokestatic 61, 3) := by decide +kernel
theorem dX10_way_27 : decode cX10_way 27 = .ok (.iload 5, 2) := by decide +kernel
theorem dX10_way_29 : decode cX10_way 29 = .ok (.iconst 0, 1) := by decide +kernel
theorem dX10_way_30 : decode cX10_way 30 = .ok (.iconst 3, 1) := by decide +kernel
theorem dX10_way_31 : decode cX10_way 31 = .ok (.invokestatic 61, 3) := by decide +kernel
theorem dX10_way_34 : decode cX10_way 34 = .ok (.aload_n 0, 1) := by decide +kernel
theorem dX10_way_35 : decode cX10_way 35 = .ok (.getfield 43, 3) := by decide +kernel
theorem dX10_way_38 : decode cX10_way 38 = .ok (.getfield 277, 3) := by decide +kernel
theorem dX10_way_41 : decode cX10_way 41 = .ok (.astore 6, 2) := by decide +kernel
theorem dX10_way_43 : decode cX10_way 43 = .ok (.aload 6, 2) := by decide +kernel
theorem dX10_way_45 : decode cX10_way 45 = .ok (.aload_n 0, 1) := by decide +kernel
theorem dX10_way_46 : decode cX10_way 46 = .ok (.getfield 19, 3) := by decide +kernel
theorem dX10_way_49 : decode cX10_way 49 = .ok (.iload_n 1, 1) := by decide +kernel
theorem dX10_way_50 : decode cX10_way 50 = .ok (.iload_n 2, 1) := by decide +kernel
theorem dX10_way_51 : decode cX10_way 51 = .ok (.iload_n 3, 1) := by decide +kernel
theorem dX10_way_52 : decode cX10_way 52 = .ok (.iload 4, 2) := by decide +kernel
theorem dX10_way_54 : decode cX10_way 54 = .ok (.invokevirtual 281, 3) := by decide +kernel
theorem dX10_way_57 : decode cX10_way 57 = .ok (.ifCond .ne 6, 3) := by decide +kernel
theorem dX10_way_60 : decode cX10_way 60 = .ok (.bipush (-9), 2) := by decide +kernel
theorem dX10_way_62 : decode cX10_way 62 = .ok (.ireturn, 1) := by decide +kernel
theorem dX10_way_63 : decode cX10_way 63 = .ok (.iload 5, 2) := by decide +kernel
theorem dX10_way_65 : decode cX10_way 65 = .ok (.tableswitch 45 0 2 #[27, 33, 39], 27) := by decide +kernel
theorem dX10_way_92 : decode cX10_way 92 = .ok (.aload 6, 2) := by decide +kernel
theorem dX10_way_94 : decode cX10_way 94 = .ok (.getfield 287, 3) := by decide +kernel
theorem dX10_way_97 : decode cX10_way 97 = .ok (.ireturn, 1) := by decide +kernel
theorem dX10_way_98 : decode cX10_way 98 = .ok (.aload 6, 2) := by decide +kernel
theorem dX10_way_100 : decode cX10_way 100 = .ok (.getfield 290, 3) := by decide +kernel
theorem dX10_way_103 : decode cX10_way 103 = .ok (.ireturn, 1) := by decide +kernel
theorem dX10_way_104 : decode cX10_way 104 = .ok (.aload 6, 2) := by decide +kernel
theorem dX10_way_106 : decode cX10_way 106 = .ok (.getfield 292, 3) := by decide +kernel
theorem dX10_way_109 : decode cX10_way 109 = .ok (.ireturn, 1) := by decide +kernel
theorem dX10_way_110 : decode cX10_way 110 = .ok (.aload 6, 2) := by decide +kernel
theorem dX10_way_112 : decode cX10_way 112 = .ok (.getfield 293, 3) := by decide +kernel
theorem dX10_way_115 : decode cX10_way 115 = .ok (.iconst 0, 1) := by decide +kernel
theorem dX10_way_116 : decode cX10_way 116 = .ok (.invokestatic 127, 3) := by decide +kernel
theorem dX10_way_119 : decode cX10_way 119 = .ok (.ireturn, 1) := by decide +kernel
theorem dX10_whyNot_0 : decode cX10_whyNot 0 = .ok (.aload_n 0, 1) := by decide +kernel
theorem dX10_whyNot_1 : decode cX10_whyNot 1 = .ok (.iload_n 1, 1) := by decide +kernel
theorem dX10_whyNot_2 : decode cX10_whyNot 2 = .ok (.invokevirtual 199, 3) := by decide +kernel
theorem dX10_whyNot_5 : decode cX10_whyNot 5 = .ok (.aload_n 0, 1) := by decide +kernel
theorem dX10_whyNot_6 : decode cX10_whyNot 6 = .ok (.iload_n 1, 1) := by decide +kernel
theorem dX10_whyNot_7 : decode cX10_whyNot 7 = .ok (.iload_n 2, 1) := by decide +kernel
theorem dX10_whyNot_8 : decode cX10_whyNot 8 = .ok (.invokevirtual 260, 3) := by decide +kernel
theorem dX10_whyNot_11 : decode cX10_whyNot 11 = .ok (.aload_n 0, 1) := by decide +kernel
theorem dX10_whyNot_12 : decode cX10_whyNot 12 = .ok (.getfield 43, 3) := by decide +kernel
theorem dX10_whyNot_15 : decode cX10_whyNot 15 = .ok (.aload_n 0, 1) := by decide +kernel
theorem dX10_whyNot_16 : decode cX10_whyNot 16 = .ok (.getfield 19, 3) := by decide +kernel
theorem dX10_whyNot_19 : decode cX10_whyNot 19 = .ok (.iload_n 1, 1) := by decide +kernel
theorem dX10_whyNot_20 : decode cX10_whyNot 20 = .ok (.iload_n 2, 1) := by decide +kernel
theorem dX10_whyNot_21 : decode cX10_whyNot 21 = .ok (.invokevirtual 263, 3) := by decide +kernel
theorem dX10_whyNot_24 : decode cX10_whyNot 24 = .ok (.ireturn, 1) := by decide +kernel
theorem dX10_levelFor_0 : decode cX10_levelFor 0 = .ok (.iload_n 1, 1) := by decide +kernel
theorem dX10_levelFor_1 : decode cX10_levelFor 1 = .ok (.invokestatic 174, 3) := by decide +kernel
theorem dX10_levelFor_4 : decode cX10_levelFor 4 = .ok (.aload_n 0, 1) := by decide +kernel
theorem dX10_levelFor_5 : decode cX10_levelFor 5 = .ok (.iload_n 2, 1) := by decide +kernel
theorem dX10_levelFor_6 : decode cX10_levelFor 6 = .ok (.invokevirtual 199, 3) := by decide +kernel
theorem dX10_levelFor_9 : decode cX10_levelFor 9 = .ok (.aload_n 0, 1) := by decide +kernel
theorem dX10_levelFor_10 : decode cX10_levelFor 10 = .ok (.getfield 43, 3) := by decide +kernel
theorem dX10_levelFor_13 : decode cX10_levelFor 13 = .ok (.aload_n 0, 1) := by decide +kernel
theorem dX10_levelFor_14 : decode cX10_levelFor 14 = .ok (.getfield 19, 3) := by decide +kernel
theorem dX10_levelFor_17 : decode cX10_levelFor 17 = .ok (.iload_n 1, 1) := by decide +kernel
theorem dX10_levelFor_18 : decode cX10_levelFor 18 = .ok (.iload_n 2, 1) := by decide +kernel
theorem dX10_levelFor_19 : decode cX10_levelFor 19 = .ok (.invokevirtual 296, 3) := by decide +kernel
theorem dX10_levelFor_22 : decode cX10_levelFor 22 = .ok (.ireturn, 1) := by decide +kernel
theorem dX10_bestContract_0 : decode cX10_bestContract 0 = .ok (.iload_n 1, 1) := by decide +kernel
theorem dX10_bestContract_1 : decode cX10_bestContract 1 = .ok (.invokestatic 174, 3) := by decide +kernel
theorem dX10_bestContract_4 : decode cX10_bestContract 4 = .ok (.aload_n 0, 1) := by decide +kernel
theorem dX10_bestContract_5 : decode cX10_bestContract 5 = .ok (.getfield 43, 3) := by decide +kernel
theorem dX10_bestContract_8 : decode cX10_bestContract 8 = .ok (.aload_n 0, 1) := by decide +kernel
theorem dX10_bestContract_9 : decode cX10_bestContract 9 = .ok (.getfield 19, 3) := by decide +kernel
theorem dX10_bestContract_12 : decode cX10_bestContract 12 = .ok (.iload_n 1, 1) := by decide +kernel
theorem dX10_bestContract_13 : decode cX10_bestContract 13 = .ok (.invokevirtual 299, 3) := by decide +kernel
theorem dX10_bestContract_16 : decode cX10_bestContract 16 = .ok (.ireturn, 1) := by decide +kernel
theorem dX10_coinsAfter_0 : decode cX10_coinsAfter 0 = .ok (.iload_n 1, 1) := by decide +kernel
theorem dX10_coinsAfter_1 : decode cX10_coinsAfter 1 = .ok (.invokestatic 174, 3) := by decide +kernel
theorem dX10_coinsAfter_4 : decode cX10_coinsAfter 4 = .ok (.iload_n 2, 1) := by decide +kernel
theorem dX10_coinsAfter_5 : decode cX10_coinsAfter 5 = .ok (.iconst 0, 1) := by decide +kernel
theorem dX10_coinsAfter_6 : decode cX10_coinsAfter 6 = .ok (.bipush 50, 2) := by decide +kernel
theorem dX10_coinsAfter_8 : decode cX10_coinsAfter 8 = .ok (.invokestatic 61, 3) := by decide +kernel
theorem dX10_coinsAfter_11 : decode cX10_coinsAfter 11 = .ok (.aload_n 0, 1) := by decide +kernel
theorem dX10_coinsAfter_12 : decode cX10_coinsAfter 12 = .ok (.getfield 23, 3) := by decide +kernel
theorem dX10_coinsAfter_15 : decode cX10_coinsAfter 15 = .ok (.aload_n 0, 1) := by decide +kernel
theorem dX10_coinsAfter_16 : decode cX10_coinsAfter 16 = .ok (.getfield 19, 3) := by decide +kernel
theorem dX10_coinsAfter_19 : decode cX10_coinsAfter 19 = .ok (.invokevirtual 88, 3) := by decide +kernel
theorem dX10_coinsAfter_22 : decode cX10_coinsAfter 22 = .ok (.iconst 0, 1) := by decide +kernel
theorem dX10_coinsAfter_23 : decode cX10_coinsAfter 23 = .ok (.istore_n 3, 1) := by decide +kernel
theorem dX10_coinsAfter_24 : decode cX10_coinsAfter 24 = .ok (.iload_n 3, 1) := by decide +kernel
theorem dX10_coinsAfter_25 : decode cX10_coinsAfter 25 = .ok (.iload_n 2, 1) := by decide +kernel
theorem dX10_coinsAfter_26 : decode cX10_coinsAfter 26 = .ok (.if_icmp .ge 17, 3) := by decide +kernel
theorem dX10_coinsAfter_29 : decode cX10_coinsAfter 29 = .ok (.aload_n 0, 1) := by decide +kernel
theorem dX10_coinsAfter_30 : decode cX10_coinsAfter 30 = .ok (.getfield 23, 3) := by decide +kernel
theorem dX10_coinsAfter_33 : decode cX10_coinsAfter 33 = .ok (.invokevirtual 270, 3) := by decide +kernel
theorem dX10_coinsAfter_36 : decode cX10_coinsAfter 36 = .ok (.pop, 1) := by decide +kernel
theorem dX10_coinsAfter_37 : decode cX10_coinsAfter 37 = .ok (.iinc 3 1, 3) := by decide +kernel
theorem dX10_coinsAfter_40 : decode cX10_coinsAfter 40 = .ok (.goto (-16), 3) := by decide +kernel
theorem dX10_coinsAfter_43 : decode cX10_coinsAfter 43 = .ok (.aload_n 0, 1) := by decide +kernel
theorem dX10_coinsAfter_44 : decode cX10_coinsAfter 44 = .ok (.getfield 23, 3) := by decide +kernel
theorem dX10_coinsAfter_47 : decode cX10_coinsAfter 47 = .ok (.getfield 117, 3) := by decide +kernel
theorem dX10_coinsAfter_50 : decode cX10_coinsAfter 50 = .ok (.getfield 121, 3) := by decide +kernel
theorem dX10_coinsAfter_53 : decode cX10_coinsAfter 53 = .ok (.iload_n 1, 1) := by decide +kernel
theorem dX10_coinsAfter_54 : decode cX10_coinsAfter 54 = .ok (.invokestatic 127, 3) := by decide +kernel
theorem dX10_coinsAfter_57 : decode cX10_coinsAfter 57 = .ok (.ireturn, 1) := by decide +kernel
theorem dX10_bankruptAfter_0 : decode cX10_bankruptAfter 0 = .ok (.iload_n 1, 1) := by decide +kernel
theorem dX10_bankruptAfter_1 : decode cX10_bankruptAfter 1 = .ok (.invokestatic 174, 3) := by decide +kernel
theorem dX10_bankruptAfter_4 : decode cX10_bankruptAfter 4 = .ok (.aload_n 0, 1) := by decide +kernel
theorem dX10_bankruptAfter_5 : decode cX10_bankruptAfter 5 = .ok (.getfield 23, 3) := by decide +kernel
theorem dX10_bankruptAfter_8 : decode cX10_bankruptAfter 8 = .ok (.aload_n 0, 1) := by decide +kernel
theorem dX10_bankruptAfter_9 : decode cX10_bankruptAfter 9 = .ok (.getfield 19, 3) := by decide +kernel
theorem dX10_bankruptAfter_12 : decode cX10_bankruptAfter 12 = .ok (.invokevirtual 88, 3) := by decide +kernel
theorem dX10_bankruptAfter_15 : decode cX10_bankruptAfter 15 = .ok (.aload_n 0, 1) := by decide +kernel
theorem dX10_bankruptAfter_16 : decode cX10_bankruptAfter 16 = .ok (.getfield 19, 3) := by decide +kernel
theorem dX10_bankruptAfter_19 : decode cX10_bankruptAfter 19 = .ok (.getfield 117, 3) := by decide +kernel
theorem dX10_bankruptAfter_22 : decode cX10_bankruptAfter 22 = .ok (.getfield 144, 3) := by decide +kernel
theorem dX10_bankruptAfter_25 : decode cX10_bankruptAfter 25 = .ok (.iload_n 1, 1) := by decide +kernel
theorem dX10_bankruptAfter_26 : decode cX10_bankruptAfter 26 = .ok (.invokestatic 127, 3) := by decide +kernel
theorem dX10_bankruptAfter_29 : decode cX10_bankruptAfter 29 = .ok (.istore_n 2, 1) := by decide +kernel
theorem dX10_bankruptAfter_30 : decode cX10_bankruptAfter 30 = .ok (.iconst 1, 1) := by decide +kernel
theorem dX10_bankruptAfter_31 : decode cX10_bankruptAfter 31 = .ok (.istore_n 3, 1) := by decide +kernel
theorem dX10_bankruptAfter_32 : decode cX10_bankruptAfter 32 = .ok (.iload_n 3, 1) := by decide +kernel
theorem dX10_bankruptAfter_33 : decode cX10_bankruptAfter 33 = .ok (.bipush 50, 2) := by decide +kernel
theorem dX10_bankruptAfter_35 : decode cX10_bankruptAfter 35 = .ok (.if_icmp .gt 37, 3) := by decide +kernel
theorem dX10_bankruptAfter_38 : decode cX10_bankruptAfter 38 = .ok (.aload_n 0, 1) := by decide +kernel
theorem dX10_bankruptAfter_39 : decode cX10_bankruptAfter 39 = .ok (.getfield 23, 3) := by decide +kernel
theorem dX10_bankruptAfter_42 : decode cX10_bankruptAfter 42 = .ok (.invokevirtual 270, 3) := by decide +kernel
theorem dX10_bankruptAfter_45 : decode cX10_bankruptAfter 45 = .ok (.pop, 1) := by decide +kernel
theorem dX10_bankruptAfter_46 : decode cX10_bankruptAfter 46 = .ok (.aload_n 0, 1) := by decide +kernel
theorem dX10_bankruptAfter_47 : decode cX10_bankruptAfter 47 = .ok (.getfield 23, 3) := by decide +kernel
theorem dX10_bankruptAfter_50 : decode cX10_bankruptAfter 50 = .ok (.getfield 117, 3) := by decide +kernel
theorem dX10_bankruptAfter_53 : decode cX10_bankruptAfter 53 = .ok (.getfield 144, 3) := by decide +kernel
theorem dX10_bankruptAfter_56 : decode cX10_bankruptAfter 56 = .ok (.iload_n 1, 1) := by decide +kernel
theorem dX10_bankruptAfter_57 : decode cX10_bankruptAfter 57 = .ok (.invokestatic 127, 3) := by decide +kernel
theorem dX10_bankruptAfter_60 : decode cX10_bankruptAfter 60 = .ok (.iload_n 2, 1) := by decide +kernel
theorem dX10_bankruptAfter_61 : decode cX10_bankruptAfter 61 = .ok (.if_icmp .le 5, 3) := by decide +kernel
theorem dX10_bankruptAfter_64 : decode cX10_bankruptAfter 64 = .ok (.iload_n 3, 1) := by decide +kernel
theorem dX10_bankruptAfter_65 : decode cX10_bankruptAfter 65 = .ok (.ireturn, 1) := by decide +kernel
theorem dX10_bankruptAfter_66 : decode cX10_bankruptAfter 66 = .ok (.iinc 3 1, 3) := by decide +kernel
theorem dX10_bankruptAfter_69 : decode cX10_bankruptAfter 69 = .ok (.goto (-37), 3) := by decide +kernel
theorem dX10_bankruptAfter_72 : decode cX10_bankruptAfter 72 = .ok (.bipush (-9), 2) := by decide +kernel
theorem dX10_bankruptAfter_74 : decode cX10_bankruptAfter 74 = .ok (.ireturn, 1) := by decide +kernel
theorem dX10_worth_0 : decode cX10_worth 0 = .ok (.iload_n 1, 1) := by decide +kernel
theorem dX10_worth_1 : decode cX10_worth 1 = .ok (.invokestatic 174, 3) := by decide +kernel
theorem dX10_worth_4 : decode cX10_worth 4 = .ok (.aload_n 0, 1) := by decide +kernel
theorem dX10_worth_5 : decode cX10_worth 5 = .ok (.getfield 19, 3) := by decide +kernel
theorem dX10_worth_8 : decode cX10_worth 8 = .ok (.iload_n 1, 1) := by decide +kernel
theorem dX10_worth_9 : decode cX10_worth 9 = .ok (.invokevirtual 303, 3) := by decide +kernel
theorem dX10_worth_12 : decode cX10_worth 12 = .ok (.ireturn, 1) := by decide +kernel
theorem dX10_runScript_0 : decode cX10_runScript 0 = .ok (.iload_n 1, 1) := by decide +kernel
theorem dX10_runScript_1 : decode cX10_runScript 1 = .ok (.iconst 1, 1) := by decide +kernel
theorem dX10_runScript_2 : decode cX10_runScript 2 = .ok (.iconst 3, 1) := by decide +kernel
theorem dX10_runScript_3 : decode cX10_runScript 3 = .ok (.invokestatic 61, 3) := by decide +kernel
theorem dX10_runScript_6 : decode cX10_runScript 6 = .ok (.lload_n 2, 1) := by decide +kernel
theorem dX10_runScript_7 : decode cX10_runScript 7 = .ok (.lconst 0, 1) := by decide +kernel
theorem dX10_runScript_8 : decode cX10_runScript 8 = .ok (.lcmp, 1) := by decide +kernel
theorem dX10_runScript_9 : decode cX10_runScript 9 = .ok (.ifCond .lt 13, 3) := by decide +kernel
theorem dX10_runScript_12 : decode cX10_runScript 12 = .ok (.lload_n 2, 1) := by decide +kernel
theorem dX10_runScript_13 : decode cX10_runScript 13 = .ok (.iload_n 1, 1) := by decide +kernel
theorem dX10_runScript_14 : decode cX10_runScript 14 = .ok (.invokestatic 306, 3) := by decide +kernel
theorem dX10_runScript_17 : decode cX10_runScript 17 = .ok (.lconst 0, 1) := by decide +kernel
theorem dX10_runScript_18 : decode cX10_runScript 18 = .ok (.lcmp, 1) := by decide +kernel
theorem dX10_runScript_19 : decode cX10_runScript 19 = .ok (.ifCond .le 14, 3) := by decide +kernel
theorem dX10_runScript_22 : decode cX10_runScript 22 = .ok (.new 150, 3) := by decide +kernel
theorem dX10_runScript_25 : decode cX10_runScript 25 = .ok (.dup, 1) := by decide +kernel
theorem dX10_runScript_26 : decode cX10_runScript 26 = .ok (.ldc_w 312, 3) := by decide +kernel
theorem dX10_runScript_29 : decode cX10_runScript 29 = .ok (.invokespecial 154, 3) := by decide +kernel
theorem dX10_runScript_32 : decode cX10_runScript 32 = .ok (.athrow, 1) := by decide +kernel
theorem dX10_runScript_33 : decode cX10_runScript 33 = .ok (.aload_n 0, 1) := by decide +kernel
theorem dX10_runScript_34 : decode cX10_runScript 34 = .ok (.getfield 23, 3) := by decide +kernel
theorem dX10_runScript_37 : decode cX10_runScript 37 = .ok (.aload_n 0, 1) := by decide +kernel
theorem dX10_runScript_38 : decode cX10_runScript 38 = .ok (.getfield 19, 3) := by decide +kernel
theorem dX10_runScript_41 : decode cX10_runScript 41 = .ok (.invokevirtual 88, 3) := by decide +kernel
theorem dX10_runScript_44 : decode cX10_runScript 44 = .ok (.iconst 0, 1) := by decide +kernel
theorem dX10_runScript_45 : decode cX10_runScript 45 = .ok (.istore 4, 2) := by decide +kernel
theorem dX10_runScript_47 : decode cX10_runScript 47 = .ok (.iload 4, 2) := by decide +kernel
theorem dX10_runScript_49 : decode cX10_runScript 49 = .ok (.iload_n 1, 1) := by decide +kernel
theorem dX10_runScript_50 : decode cX10_runScript 50 = .ok (.if_icmp .ge 45, 3) := by decide +kernel
theorem dX10_runScript_53 : decode cX10_runScript 53 = .ok (.lload_n 2, 1) := by decide +kernel
theorem dX10_runScript_54 : decode cX10_runScript 54 = .ok (.iload_n 1, 1) := by decide +kernel
theorem dX10_runScript_55 : decode cX10_runScript 55 = .ok (.iconst 1, 1) := by decide +kernel
theorem dX10_runScript_56 : decode cX10_runScript 56 = .ok (.isub, 1) := by decide +kernel
theorem dX10_runScript_57 : decode cX10_runScript 57 = .ok (.iload 4, 2) := by decide +kernel
theorem dX10_runScript_59 : decode cX10_runScript 59 = .ok (.isub, 1) := by decide +kernel
theorem dX10_runScript_60 : decode cX10_runScript 60 = .ok (.invokestatic 306, 3) := by decide +kernel
theorem dX10_runScript_63 : decode cX10_runScript 63 = .ok (.ldc2_w 314, 3) := by decide +kernel
theorem dX10_runScript_66 : decode cX10_runScript 66 = .ok (.lrem, 1) := by decide +kernel
theorem dX10_runScript_67 : decode cX10_runScript 67 = .ok (.l2i, 1) := by decide +kernel
theorem dX10_runScript_68 : decode cX10_runScript 68 = .ok (.istore 5, 2) := by decide +kernel
theorem dX10_runScript_70 : decode cX10_runScript 70 = .ok (.aload_n 0, 1) := by decide +kernel
theorem dX10_runScript_71 : decode cX10_runScript 71 = .ok (.getfield 23, 3) := by decide +kernel
theorem dX10_runScript_74 : decode cX10_runScript 74 = .ok (.aload_n 0, 1) := by decide +kernel
theorem dX10_runScript_75 : decode cX10_runScript 75 = .ok (.getfield 43, 3) := by decide +kernel
theorem dX10_runScript_78 : decode cX10_runScript 78 = .ok (.iload 5, 2) := by decide +kernel
theorem dX10_runScript_80 : decode cX10_runScript 80 = .ok (.invokestatic 316, 3) := by decide +kernel
theorem dX10_runScript_83 : decode cX10_runScript 83 = .ok (.ifCond .ne 6, 3) := by decide +kernel
theorem dX10_runScript_86 : decode cX10_runScript 86 = .ok (.iload 4, 2) := by decide +kernel
theorem dX10_runScript_88 : decode cX10_runScript 88 = .ok (.ireturn, 1) := by decide +kernel
theorem dX10_runScript_89 : decode cX10_runScript 89 = .ok (.iinc 4 1, 3) := by decide +kernel
theorem dX10_runScript_92 : decode cX10_runScript 92 = .ok (.goto (-45), 3) := by decide +kernel
theorem dX10_runScript_95 : decode cX10_runScript 95 = .ok (.bipush (-9), 2) := by decide +kernel
theorem dX10_runScript_97 : decode cX10_runScript 97 = .ok (.ireturn, 1) := by decide +kernel
theorem dX10_simulate_0 : decode cX10_simulate 0 = .ok (.iload_n 3, 1) := by decide +kernel
theorem dX10_simulate_1 : decode cX10_simulate 1 = .ok (.iconst 1, 1) := by decide +kernel
theorem dX10_simulate_2 : decode cX10_simulate 2 = .ok (.bipush 50, 2) := by decide +kernel
theorem dX10_simulate_4 : decode cX10_simulate 4 = .ok (.invokestatic 61, 3) := by decide +kernel
theorem dX10_simulate_7 : decode cX10_simulate 7 = .ok (.aload_n 0, 1) := by decide +kernel
theorem dX10_simulate_8 : decode cX10_simulate 8 = .ok (.getfield 23, 3) := by decide +kernel
theorem dX10_simulate_11 : decode cX10_simulate 11 = .ok (.aload_n 0, 1) := by decide +kernel
theorem dX10_simulate_12 : decode cX10_simulate 12 = .ok (.getfield 19, 3) := by decide +kernel
theorem dX10_simulate_15 : decode cX10_simulate 15 = .ok (.invokevirtual 88, 3) := by decide +kernel
theorem dX10_simulate_18 : decode cX10_simulate 18 = .ok (.lload_n 1, 1) := by decide +kernel
theorem dX10_simulate_19 : decode cX10_simulate 19 = .ok (.lstore 4, 2) := by decide +kernel
theorem dX10_simulate_21 : decode cX10_simulate 21 = .ok (.iconst 0, 1) := by decide +kernel
theorem dX10_simulate_22 : decode cX10_simulate 22 = .ok (.istore 6, 2) := by decide +kernel
theorem dX10_simulate_24 : decode cX10_simulate 24 = .ok (.iload 6, 2) := by decide +kernel
theorem dX10_simulate_26 : decode cX10_simulate 26 = .ok (.iload_n 3, 1) := by decide +kernel
theorem dX10_simulate_27 : decode cX10_simulate 27 = .ok (.if_icmp .ge 53, 3) := by decide +kernel
theorem dX10_simulate_30 : decode cX10_simulate 30 = .ok (.lload 4, 2) := by decide +kernel
theorem dX10_simulate_32 : decode cX10_simulate 32 = .ok (.ldc2_w 320, 3) := by decide +kernel
theorem dX10_simulate_35 : decode cX10_simulate 35 = .ok (.lmul, 1) := by decide +kernel
theorem dX10_simulate_36 : decode cX10_simulate 36 = .ok (.ldc2_w 322, 3) := by decide +kernel
theorem dX10_simulate_39 : decode cX10_simulate 39 = .ok (.ladd, 1) := by decide +kernel
theorem dX10_simulate_40 : decode cX10_simulate 40 = .ok (.lstore 4, 2) := by decide +kernel
theorem dX10_simulate_42 : decode cX10_simulate 42 = .ok (.aload_n 0, 1) := by decide +kernel
theorem dX10_simulate_43 : decode cX10_simulate 43 = .ok (.getfield 23, 3) := by decide +kernel
theorem dX10_simulate_46 : decode cX10_simulate 46 = .ok (.lload 4, 2) := by decide +kernel
theorem dX10_simulate_48 : decode cX10_simulate 48 = .ok (.bipush 33, 2) := by decide +kernel
theorem dX10_simulate_50 : decode cX10_simulate 50 = .ok (.lushr, 1) := by decide +kernel
theorem dX10_simulate_51 : decode cX10_simulate 51 = .ok (.l2i, 1) := by decide +kernel
theorem dX10_simulate_52 : decode cX10_simulate 52 = .ok (.invokevirtual 324, 3) := by decide +kernel
theorem dX10_simulate_55 : decode cX10_simulate 55 = .ok (.aload_n 0, 1) := by decide +kernel
theorem dX10_simulate_56 : decode cX10_simulate 56 = .ok (.getfield 43, 3) := by decide +kernel
theorem dX10_simulate_59 : decode cX10_simulate 59 = .ok (.aload_n 0, 1) := by decide +kernel
theorem dX10_simulate_60 : decode cX10_simulate 60 = .ok (.getfield 23, 3) := by decide +kernel
theorem dX10_simulate_63 : decode cX10_simulate 63 = .ok (.invokevirtual 327, 3) := by decide +kernel
theorem dX10_simulate_66 : decode cX10_simulate 66 = .ok (.aload_n 0, 1) := by decide +kernel
theorem dX10_simulate_67 : decode cX10_simulate 67 = .ok (.getfield 23, 3) := by decide +kernel
theorem dX10_simulate_70 : decode cX10_simulate 70 = .ok (.invokevirtual 270, 3) := by decide +kernel
theorem dX10_simulate_73 : decode cX10_simulate 73 = .ok (.pop, 1) := by decide +kernel
theorem dX10_simulate_74 : decode cX10_simulate 74 = .ok (.iinc 6 1, 3) := by decide +kernel
theorem dX10_simulate_77 : decode cX10_simulate 77 = .ok (.goto (-53), 3) := by decide +kernel
theorem dX10_simulate_80 : decode cX10_simulate 80 = .ok (.aload_n 0, 1) := by decide +kernel
theorem dX10_simulate_81 : decode cX10_simulate 81 = .ok (.getfield 23, 3) := by decide +kernel
theorem dX10_simulate_84 : decode cX10_simulate 84 = .ok (.invokevirtual 330, 3) := by decide +kernel
theorem dX10_simulate_87 : decode cX10_simulate 87 = .ok (.sipush 10000, 3) := by decide +kernel
theorem dX10_simulate_90 : decode cX10_simulate 90 = .ok (.aload_n 0, 1) := by decide +kernel
theorem dX10_simulate_91 : decode cX10_simulate 91 = .ok (.getfield 23, 3) := by decide +kernel
theorem dX10_simulate_94 : decode cX10_simulate 94 = .ok (.getfield 111, 3) := by decide +kernel
theorem dX10_simulate_97 : decode cX10_simulate 97 = .ok (.imul, 1) := by decide +kernel
theorem dX10_simulate_98 : decode cX10_simulate 98 = .ok (.iadd, 1) := by decide +kernel
theorem dX10_simulate_99 : decode cX10_simulate 99 = .ok (.ireturn, 1) := by decide +kernel
theorem dX10_save_0 : decode cX10_save 0 = .ok (.iload_n 1, 1) := by decide +kernel
theorem dX10_save_1 : decode cX10_save 1 = .ok (.invokestatic 333, 3) := by decide +kernel
theorem dX10_save_4 : decode cX10_save 4 = .ok (.aload_n 0, 1) := by decide +kernel
theorem dX10_save_5 : decode cX10_save 5 = .ok (.getfield 36, 3) := by decide +kernel
theorem dX10_save_8 : decode cX10_save 8 = .ok (.iload_n 1, 1) := by decide +kernel
theorem dX10_save_9 : decode cX10_save 9 = .ok (.aload_n 0, 1) := by decide +kernel
theorem dX10_save_10 : decode cX10_save 10 = .ok (.getfield 19, 3) := by decide +kernel
theorem dX10_save_13 : decode cX10_save 13 = .ok (.invokevirtual 336, 3) := by decide +kernel
theorem dX10_save_16 : decode cX10_save 16 = .ok (.aload_n 0, 1) := by decide +kernel
theorem dX10_save_17 : decode cX10_save 17 = .ok (.getfield 19, 3) := by decide +kernel
theorem dX10_save_20 : decode cX10_save 20 = .ok (.getfield 114, 3) := by decide +kernel
theorem dX10_save_23 : decode cX10_save 23 = .ok (.ireturn, 1) := by decide +kernel
theorem dX10_restore_0 : decode cX10_restore 0 = .ok (.iload_n 1, 1) := by decide +kernel
theorem dX10_restore_1 : decode cX10_restore 1 = .ok (.invokestatic 333, 3) := by decide +kernel
theorem dX10_restore_4 : decode cX10_restore 4 = .ok (.aload_n 0, 1) := by decide +kernel
theorem dX10_restore_5 : decode cX10_restore 5 = .ok (.getfield 36, 3) := by decide +kernel
theorem dX10_restore_8 : decode cX10_restore 8 = .ok (.iload_n 1, 1) := by decide +kernel
theorem dX10_restore_9 : decode cX10_restore 9 = .ok (.invokevirtual 340, 3) := by decide +kernel
theorem dX10_restore_12 : decode cX10_restore 12 = .ok (.invokestatic 223, 3) := by decide +kernel
theorem dX10_restore_15 : decode cX10_restore 15 = .ok (.aload_n 0, 1) := by decide +kernel
theorem dX10_restore_16 : decode cX10_restore 16 = .ok (.getfield 36, 3) := by decide +kernel
theorem dX10_restore_19 : decode cX10_restore 19 = .ok (.iload_n 1, 1) := by decide +kernel
theorem dX10_restore_20 : decode cX10_restore 20 = .ok (.aload_n 0, 1) := by decide +kernel
theorem dX10_restore_21 : decode cX10_restore 21 = .ok (.getfield 19, 3) := by decide +kernel
theorem dX10_restore_24 : decode cX10_restore 24 = .ok (.invokevirtual 343, 3) := by decide +kernel
theorem dX10_restore_27 : decode cX10_restore 27 = .ok (.aload_n 0, 1) := by decide +kernel
theorem dX10_restore_28 : decode cX10_restore 28 = .ok (.getfield 29, 3) := by decide +kernel
theorem dX10_restore_31 : decode cX10_restore 31 = .ok (.invokevirtual 92, 3) := by decide +kernel
theorem dX10_restore_34 : decode cX10_restore 34 = .ok (.aload_n 0, 1) := by decide +kernel
theorem dX10_restore_35 : decode cX10_restore 35 = .ok (.getfield 19, 3) := by decide +kernel
theorem dX10_restore_38 : decode cX10_restore 38 = .ok (.getfield 114, 3) := by decide +kernel
theorem dX10_restore_41 : decode cX10_restore 41 = .ok (.ireturn, 1) := by decide +kernel
theorem dX10_needCity_0 : decode cX10_needCity 0 = .ok (.iload_n 1, 1) := by decide +kernel
theorem dX10_needCity_1 : decode cX10_needCity 1 = .ok (.ifCond .lt 18, 3) := by decide +kernel
theorem dX10_needCity_4 : decode cX10_needCity 4 = .ok (.iload_n 1, 1) := by decide +kernel
theorem dX10_needCity_5 : decode cX10_needCity 5 = .ok (.aload_n 0, 1) := by decide +kernel
theorem dX10_needCity_6 : decode cX10_needCity 6 = .ok (.getfield 19, 3) := by decide +kernel
theorem dX10_needCity_9 : decode cX10_needCity 9 = .ok (.getfield 101, 3) := by decide +kernel
theorem dX10_needCity_12 : decode cX10_needCity 12 = .ok (.if_icmp .ge 7, 3) := by decide +kernel
theorem dX10_needCity_15 : decode cX10_needCity 15 = .ok (.iconst 1, 1) := by decide +kernel
theorem dX10_needCity_16 : decode cX10_needCity 16 = .ok (.goto 4, 3) := by decide +kernel
theorem dX10_needCity_19 : decode cX10_needCity 19 = .ok (.iconst 0, 1) := by decide +kernel
theorem dX10_needCity_20 : decode cX10_needCity 20 = .ok (.invokestatic 346, 3) := by decide +kernel
theorem dX10_needCity_23 : decode cX10_needCity 23 = .ok (.return_, 1) := by decide +kernel
theorem dX10_needTrack_0 : decode cX10_needTrack 0 = .ok (.aload_n 0, 1) := by decide +kernel
theorem dX10_needTrack_1 : decode cX10_needTrack 1 = .ok (.getfield 19, 3) := by decide +kernel
theorem dX10_needTrack_4 : decode cX10_needTrack 4 = .ok (.getfield 51, 3) := by decide +kernel
end
section
theorem dX10_needTrack_7 : decode cX10_needTrack 7 = .ok (.iload_n 1, 1) := by decide +kernel
theorem dX10_needTrack_8 : decode cX10_needTrack 8 = .ok (.invokevirtual 349, 3) := by decide +kernel
theorem dX10_needTrack_11 : decode cX10_needTrack 11 = .ok (.invokestatic 346, 3) := by decide +kernel
theorem dX10_needTrack_14 : decode cX10_needTrack 14 = .ok (.return_, 1) := by decide +kernel
theorem dX10_needContract_0 : decode cX10_needContract 0 = .ok (.aload_n 0, 1) := by decide +kernel
theorem dX10_needContract_1 : decode cX10_needContract 1 = .ok (.getfield 19, 3) := by decide +kernel
theorem dX10_needContract_4 : decode cX10_needContract 4 = .ok (.getfield 104, 3) := by decide +kernel
theorem dX10_needContract_7 : decode cX10_needContract 7 = .ok (.iload_n 1, 1) := by decide +kernel
theorem dX10_needContract_8 : decode cX10_needContract 8 = .ok (.invokevirtual 352, 3) := by decide +kernel
theorem dX10_needContract_11 : decode cX10_needContract 11 = .ok (.invokestatic 346, 3) := by decide +kernel
theorem dX10_needContract_14 : decode cX10_needContract 14 = .ok (.return_, 1) := by decide +kernel
theorem dX10_needTrain_0 : decode cX10_needTrain 0 = .ok (.aload_n 0, 1) := by decide +kernel
theorem dX10_needTrain_1 : decode cX10_needTrain 1 = .ok (.getfield 19, 3) := by decide +kernel
theorem dX10_needTrain_4 : decode cX10_needTrain 4 = .ok (.getfield 117, 3) := by decide +kernel
theorem dX10_needTrain_7 : decode cX10_needTrain 7 = .ok (.iload_n 1, 1) := by decide +kernel
theorem dX10_needTrain_8 : decode cX10_needTrain 8 = .ok (.iload_n 2, 1) := by decide +kernel
theorem dX10_needTrain_9 : decode cX10_needTrain 9 = .ok (.invokevirtual 353, 3) := by decide +kernel
theorem dX10_needTrain_12 : decode cX10_needTrain 12 = .ok (.invokestatic 346, 3) := by decide +kernel
theorem dX10_needTrain_15 : decode cX10_needTrain 15 = .ok (.return_, 1) := by decide +kernel
theorem dX10_needTrainOfHolder_0 : decode cX10_needTrainOfHolder 0 = .ok (.aload_n 0, 1) := by decide +kernel
theorem dX10_needTrainOfHolder_1 : decode cX10_needTrainOfHolder 1 = .ok (.getfield 19, 3) := by decide +kernel
theorem dX10_needTrainOfHolder_4 : decode cX10_needTrainOfHolder 4 = .ok (.getfield 104, 3) := by decide +kernel
theorem dX10_needTrainOfHolder_7 : decode cX10_needTrainOfHolder 7 = .ok (.iload_n 1, 1) := by decide +kernel
theorem dX10_needTrainOfHolder_8 : decode cX10_needTrainOfHolder 8 = .ok (.invokevirtual 254, 3) := by decide +kernel
theorem dX10_needTrainOfHolder_11 : decode cX10_needTrainOfHolder 11 = .ok (.ifCond .ne 19, 3) := by decide +kernel
theorem dX10_needTrainOfHolder_14 : decode cX10_needTrainOfHolder 14 = .ok (.aload_n 0, 1) := by decide +kernel
theorem dX10_needTrainOfHolder_15 : decode cX10_needTrainOfHolder 15 = .ok (.aload_n 0, 1) := by decide +kernel
theorem dX10_needTrainOfHolder_16 : decode cX10_needTrainOfHolder 16 = .ok (.getfield 19, 3) := by decide +kernel
theorem dX10_needTrainOfHolder_19 : decode cX10_needTrainOfHolder 19 = .ok (.getfield 104, 3) := by decide +kernel
theorem dX10_needTrainOfHolder_22 : decode cX10_needTrainOfHolder 22 = .ok (.iload_n 1, 1) := by decide +kernel
theorem dX10_needTrainOfHolder_23 : decode cX10_needTrainOfHolder 23 = .ok (.invokevirtual 356, 3) := by decide +kernel
theorem dX10_needTrainOfHolder_26 : decode cX10_needTrainOfHolder 26 = .ok (.iload_n 2, 1) := by decide +kernel
theorem dX10_needTrainOfHolder_27 : decode cX10_needTrainOfHolder 27 = .ok (.invokevirtual 187, 3) := by decide +kernel
theorem dX10_needTrainOfHolder_30 : decode cX10_needTrainOfHolder 30 = .ok (.return_, 1) := by decide +kernel
theorem dX10_needCompany_0 : decode cX10_needCompany 0 = .ok (.iload_n 0, 1) := by decide +kernel
theorem dX10_needCompany_1 : decode cX10_needCompany 1 = .ok (.invokestatic 359, 3) := by decide +kernel
theorem dX10_needCompany_4 : decode cX10_needCompany 4 = .ok (.invokestatic 346, 3) := by decide +kernel
theorem dX10_needCompany_7 : decode cX10_needCompany 7 = .ok (.return_, 1) := by decide +kernel
theorem dX10_needSlot_0 : decode cX10_needSlot 0 = .ok (.iload_n 0, 1) := by decide +kernel
theorem dX10_needSlot_1 : decode cX10_needSlot 1 = .ok (.ifCond .lt 12, 3) := by decide +kernel
theorem dX10_needSlot_4 : decode cX10_needSlot 4 = .ok (.iload_n 0, 1) := by decide +kernel
theorem dX10_needSlot_5 : decode cX10_needSlot 5 = .ok (.iconst 2, 1) := by decide +kernel
theorem dX10_needSlot_6 : decode cX10_needSlot 6 = .ok (.if_icmp .ge 7, 3) := by decide +kernel
theorem dX10_needSlot_9 : decode cX10_needSlot 9 = .ok (.iconst 1, 1) := by decide +kernel
theorem dX10_needSlot_10 : decode cX10_needSlot 10 = .ok (.goto 4, 3) := by decide +kernel
theorem dX10_needSlot_13 : decode cX10_needSlot 13 = .ok (.iconst 0, 1) := by decide +kernel
theorem dX10_needSlot_14 : decode cX10_needSlot 14 = .ok (.invokestatic 346, 3) := by decide +kernel
theorem dX10_needSlot_17 : decode cX10_needSlot 17 = .ok (.return_, 1) := by decide +kernel
theorem dX10_needIndex_0 : decode cX10_needIndex 0 = .ok (.iload_n 0, 1) := by decide +kernel
theorem dX10_needIndex_1 : decode cX10_needIndex 1 = .ok (.ifCond .ne 14, 3) := by decide +kernel
theorem dX10_needIndex_4 : decode cX10_needIndex 4 = .ok (.new 362, 3) := by decide +kernel
theorem dX10_needIndex_7 : decode cX10_needIndex 7 = .ok (.dup, 1) := by decide +kernel
theorem dX10_needIndex_8 : decode cX10_needIndex 8 = .ok (.ldc_w 364, 3) := by decide +kernel
theorem dX10_needIndex_11 : decode cX10_needIndex 11 = .ok (.invokespecial 366, 3) := by decide +kernel
theorem dX10_needIndex_14 : decode cX10_needIndex 14 = .ok (.athrow, 1) := by decide +kernel
theorem dX10_needIndex_15 : decode cX10_needIndex 15 = .ok (.return_, 1) := by decide +kernel
theorem dX10_needRange_0 : decode cX10_needRange 0 = .ok (.iload_n 0, 1) := by decide +kernel
theorem dX10_needRange_1 : decode cX10_needRange 1 = .ok (.iload_n 1, 1) := by decide +kernel
theorem dX10_needRange_2 : decode cX10_needRange 2 = .ok (.if_icmp .lt 8, 3) := by decide +kernel
theorem dX10_needRange_5 : decode cX10_needRange 5 = .ok (.iload_n 0, 1) := by decide +kernel
theorem dX10_needRange_6 : decode cX10_needRange 6 = .ok (.iload_n 2, 1) := by decide +kernel
theorem dX10_needRange_7 : decode cX10_needRange 7 = .ok (.if_icmp .le 14, 3) := by decide +kernel
theorem dX10_needRange_10 : decode cX10_needRange 10 = .ok (.new 150, 3) := by decide +kernel
theorem dX10_needRange_13 : decode cX10_needRange 13 = .ok (.dup, 1) := by decide +kernel
theorem dX10_needRange_14 : decode cX10_needRange 14 = .ok (.ldc_w 367, 3) := by decide +kernel
theorem dX10_needRange_17 : decode cX10_needRange 17 = .ok (.invokespecial 154, 3) := by decide +kernel
theorem dX10_needRange_20 : decode cX10_needRange 20 = .ok (.athrow, 1) := by decide +kernel
theorem dX10_needRange_21 : decode cX10_needRange 21 = .ok (.return_, 1) := by decide +kernel
theorem dX10_needDifferent_0 : decode cX10_needDifferent 0 = .ok (.iload_n 0, 1) := by decide +kernel
theorem dX10_needDifferent_1 : decode cX10_needDifferent 1 = .ok (.iload_n 1, 1) := by decide +kernel
theorem dX10_needDifferent_2 : decode cX10_needDifferent 2 = .ok (.if_icmp .ne 14, 3) := by decide +kernel
theorem dX10_needDifferent_5 : decode cX10_needDifferent 5 = .ok (.new 150, 3) := by decide +kernel
theorem dX10_needDifferent_8 : decode cX10_needDifferent 8 = .ok (.dup, 1) := by decide +kernel
theorem dX10_needDifferent_9 : decode cX10_needDifferent 9 = .ok (.ldc_w 369, 3) := by decide +kernel
theorem dX10_needDifferent_12 : decode cX10_needDifferent 12 = .ok (.invokespecial 154, 3) := by decide +kernel
theorem dX10_needDifferent_15 : decode cX10_needDifferent 15 = .ok (.athrow, 1) := by decide +kernel
theorem dX10_needDifferent_16 : decode cX10_needDifferent 16 = .ok (.return_, 1) := by decide +kernel
theorem dX10_needAllowed_0 : decode cX10_needAllowed 0 = .ok (.iload_n 0, 1) := by decide +kernel
theorem dX10_needAllowed_1 : decode cX10_needAllowed 1 = .ok (.ifCond .ne 14, 3) := by decide +kernel
theorem dX10_needAllowed_4 : decode cX10_needAllowed 4 = .ok (.new 68, 3) := by decide +kernel
theorem dX10_needAllowed_7 : decode cX10_needAllowed 7 = .ok (.dup, 1) := by decide +kernel
theorem dX10_needAllowed_8 : decode cX10_needAllowed 8 = .ok (.ldc_w 371, 3) := by decide +kernel
theorem dX10_needAllowed_11 : decode cX10_needAllowed 11 = .ok (.invokespecial 72, 3) := by decide +kernel
theorem dX10_needAllowed_14 : decode cX10_needAllowed 14 = .ok (.athrow, 1) := by decide +kernel
theorem dX10_needAllowed_15 : decode cX10_needAllowed 15 = .ok (.return_, 1) := by decide +kernel
theorem dX10_isCompany_0 : decode cX10_isCompany 0 = .ok (.iload_n 0, 1) := by decide +kernel
theorem dX10_isCompany_1 : decode cX10_isCompany 1 = .ok (.ifCond .lt 12, 3) := by decide +kernel
theorem dX10_isCompany_4 : decode cX10_isCompany 4 = .ok (.iload_n 0, 1) := by decide +kernel
theorem dX10_isCompany_5 : decode cX10_isCompany 5 = .ok (.iconst 4, 1) := by decide +kernel
theorem dX10_isCompany_6 : decode cX10_isCompany 6 = .ok (.if_icmp .ge 7, 3) := by decide +kernel
theorem dX10_isCompany_9 : decode cX10_isCompany 9 = .ok (.iconst 1, 1) := by decide +kernel
theorem dX10_isCompany_10 : decode cX10_isCompany 10 = .ok (.goto 4, 3) := by decide +kernel
theorem dX10_isCompany_13 : decode cX10_isCompany 13 = .ok (.iconst 0, 1) := by decide +kernel
theorem dX10_isCompany_14 : decode cX10_isCompany 14 = .ok (.ireturn, 1) := by decide +kernel
theorem dX10_at_0 : decode cX10_at 0 = .ok (.iload_n 1, 1) := by decide +kernel
theorem dX10_at_1 : decode cX10_at 1 = .ok (.ifCond .lt 15, 3) := by decide +kernel
theorem dX10_at_4 : decode cX10_at 4 = .ok (.iload_n 1, 1) := by decide +kernel
theorem dX10_at_5 : decode cX10_at 5 = .ok (.aload_n 0, 1) := by decide +kernel
theorem dX10_at_6 : decode cX10_at 6 = .ok (.arraylength, 1) := by decide +kernel
theorem dX10_at_7 : decode cX10_at 7 = .ok (.if_icmp .ge 9, 3) := by decide +kernel
theorem dX10_at_10 : decode cX10_at 10 = .ok (.aload_n 0, 1) := by decide +kernel
theorem dX10_at_11 : decode cX10_at 11 = .ok (.iload_n 1, 1) := by decide +kernel
theorem dX10_at_12 : decode cX10_at 12 = .ok (.iaload, 1) := by decide +kernel
theorem dX10_at_13 : decode cX10_at 13 = .ok (.goto 4, 3) := by decide +kernel
theorem dX10_at_16 : decode cX10_at 16 = .ok (.iconst 0, 1) := by decide +kernel
theorem dX10_at_17 : decode cX10_at 17 = .ok (.ireturn, 1) := by decide +kernel
theorem dX10_put_0 : decode cX10_put 0 = .ok (.iload_n 1, 1) := by decide +kernel
theorem dX10_put_1 : decode cX10_put 1 = .ok (.ifCond .lt 13, 3) := by decide +kernel
theorem dX10_put_4 : decode cX10_put 4 = .ok (.iload_n 1, 1) := by decide +kernel
theorem dX10_put_5 : decode cX10_put 5 = .ok (.aload_n 0, 1) := by decide +kernel
theorem dX10_put_6 : decode cX10_put 6 = .ok (.arraylength, 1) := by decide +kernel
theorem dX10_put_7 : decode cX10_put 7 = .ok (.if_icmp .ge 7, 3) := by decide +kernel
theorem dX10_put_10 : decode cX10_put 10 = .ok (.aload_n 0, 1) := by decide +kernel
theorem dX10_put_11 : decode cX10_put 11 = .ok (.iload_n 1, 1) := by decide +kernel
theorem dX10_put_12 : decode cX10_put 12 = .ok (.iload_n 2, 1) := by decide +kernel
theorem dX10_put_13 : decode cX10_put 13 = .ok (.iastore, 1) := by decide +kernel
theorem dX10_put_14 : decode cX10_put 14 = .ok (.return_, 1) := by decide +kernel
theorem dX10_sum_0 : decode cX10_sum 0 = .ok (.iconst 0, 1) := by decide +kernel
theorem dX10_sum_1 : decode cX10_sum 1 = .ok (.istore_n 1, 1) := by decide +kernel
theorem dX10_sum_2 : decode cX10_sum 2 = .ok (.iconst 0, 1) := by decide +kernel
theorem dX10_sum_3 : decode cX10_sum 3 = .ok (.istore_n 2, 1) := by decide +kernel
theorem dX10_sum_4 : decode cX10_sum 4 = .ok (.iload_n 2, 1) := by decide +kernel
theorem dX10_sum_5 : decode cX10_sum 5 = .ok (.aload_n 0, 1) := by decide +kernel
theorem dX10_sum_6 : decode cX10_sum 6 = .ok (.arraylength, 1) := by decide +kernel
theorem dX10_sum_7 : decode cX10_sum 7 = .ok (.if_icmp .ge 15, 3) := by decide +kernel
theorem dX10_sum_10 : decode cX10_sum 10 = .ok (.iload_n 1, 1) := by decide +kernel
theorem dX10_sum_11 : decode cX10_sum 11 = .ok (.aload_n 0, 1) := by decide +kernel
theorem dX10_sum_12 : decode cX10_sum 12 = .ok (.iload_n 2, 1) := by decide +kernel
theorem dX10_sum_13 : decode cX10_sum 13 = .ok (.iaload, 1) := by decide +kernel
theorem dX10_sum_14 : decode cX10_sum 14 = .ok (.iadd, 1) := by decide +kernel
theorem dX10_sum_15 : decode cX10_sum 15 = .ok (.istore_n 1, 1) := by decide +kernel
theorem dX10_sum_16 : decode cX10_sum 16 = .ok (.iinc 2 1, 3) := by decide +kernel
theorem dX10_sum_19 : decode cX10_sum 19 = .ok (.goto (-15), 3) := by decide +kernel
theorem dX10_sum_22 : decode cX10_sum 22 = .ok (.iload_n 1, 1) := by decide +kernel
theorem dX10_sum_23 : decode cX10_sum 23 = .ok (.ireturn, 1) := by decide +kernel
theorem dX10_fill_0 : decode cX10_fill 0 = .ok (.iconst 0, 1) := by decide +kernel
theorem dX10_fill_1 : decode cX10_fill 1 = .ok (.istore_n 2, 1) := by decide +kernel
theorem dX10_fill_2 : decode cX10_fill 2 = .ok (.iload_n 2, 1) := by decide +kernel
theorem dX10_fill_3 : decode cX10_fill 3 = .ok (.aload_n 0, 1) := by decide +kernel
theorem dX10_fill_4 : decode cX10_fill 4 = .ok (.arraylength, 1) := by decide +kernel
theorem dX10_fill_5 : decode cX10_fill 5 = .ok (.if_icmp .ge 13, 3) := by decide +kernel
theorem dX10_fill_8 : decode cX10_fill 8 = .ok (.aload_n 0, 1) := by decide +kernel
theorem dX10_fill_9 : decode cX10_fill 9 = .ok (.iload_n 2, 1) := by decide +kernel
theorem dX10_fill_10 : decode cX10_fill 10 = .ok (.iload_n 1, 1) := by decide +kernel
theorem dX10_fill_11 : decode cX10_fill 11 = .ok (.iastore, 1) := by decide +kernel
theorem dX10_fill_12 : decode cX10_fill 12 = .ok (.iinc 2 1, 3) := by decide +kernel
theorem dX10_fill_15 : decode cX10_fill 15 = .ok (.goto (-13), 3) := by decide +kernel
theorem dX10_fill_18 : decode cX10_fill 18 = .ok (.return_, 1) := by decide +kernel
theorem dX10_copyRow_0 : decode cX10_copyRow 0 = .ok (.aload_n 0, 1) := by decide +kernel
theorem dX10_copyRow_1 : decode cX10_copyRow 1 = .ok (.iconst 0, 1) := by decide +kernel
theorem dX10_copyRow_2 : decode cX10_copyRow 2 = .ok (.aload_n 1, 1) := by decide +kernel
theorem dX10_copyRow_3 : decode cX10_copyRow 3 = .ok (.iconst 0, 1) := by decide +kernel
theorem dX10_copyRow_4 : decode cX10_copyRow 4 = .ok (.aload_n 0, 1) := by decide +kernel
theorem dX10_copyRow_5 : decode cX10_copyRow 5 = .ok (.arraylength, 1) := by decide +kernel
theorem dX10_copyRow_6 : decode cX10_copyRow 6 = .ok (.aload_n 1, 1) := by decide +kernel
theorem dX10_copyRow_7 : decode cX10_copyRow 7 = .ok (.arraylength, 1) := by decide +kernel
theorem dX10_copyRow_8 : decode cX10_copyRow 8 = .ok (.invokestatic 373, 3) := by decide +kernel
theorem dX10_copyRow_11 : decode cX10_copyRow 11 = .ok (.invokestatic 378, 3) := by decide +kernel
theorem dX10_copyRow_14 : decode cX10_copyRow 14 = .ok (.return_, 1) := by decide +kernel
theorem dX10_copyState_0 : decode cX10_copyState 0 = .ok (.aload_n 0, 1) := by decide +kernel
theorem dX10_copyState_1 : decode cX10_copyState 1 = .ok (.ifnull 12, 3) := by decide +kernel
theorem dX10_copyState_4 : decode cX10_copyState 4 = .ok (.aload_n 1, 1) := by decide +kernel
theorem dX10_copyState_5 : decode cX10_copyState 5 = .ok (.ifnull 8, 3) := by decide +kernel
theorem dX10_copyState_8 : decode cX10_copyState 8 = .ok (.aload_n 1, 1) := by decide +kernel
theorem dX10_copyState_9 : decode cX10_copyState 9 = .ok (.aload_n 0, 1) := by decide +kernel
theorem dX10_copyState_10 : decode cX10_copyState 10 = .ok (.invokevirtual 88, 3) := by decide +kernel
theorem dX10_copyState_13 : decode cX10_copyState 13 = .ok (.return_, 1) := by decide +kernel
theorem dX11_init_0 : decode cX11_init 0 = .ok (.aload_n 0, 1) := by decide +kernel
theorem dX11_init_1 : decode cX11_init 1 = .ok (.invokespecial 1, 3) := by decide +kernel
theorem dX11_init_4 : decode cX11_init 4 = .ok (.aload_n 0, 1) := by decide +kernel
theorem dX11_init_5 : decode cX11_init 5 = .ok (.bipush 100, 2) := by decide +kernel
theorem dX11_init_7 : decode cX11_init 7 = .ok (.newarray .int, 2) := by decide +kernel
theorem dX11_init_9 : decode cX11_init 9 = .ok (.putfield 7, 3) := by decide +kernel
theorem dX11_init_12 : decode cX11_init 12 = .ok (.aload_n 0, 1) := by decide +kernel
theorem dX11_init_13 : decode cX11_init 13 = .ok (.sipush 175, 3) := by decide +kernel
theorem dX11_init_16 : decode cX11_init 16 = .ok (.newarray .int, 2) := by decide +kernel
theorem dX11_init_18 : decode cX11_init 18 = .ok (.putfield 13, 3) := by decide +kernel
theorem dX11_init_21 : decode cX11_init 21 = .ok (.aload_n 0, 1) := by decide +kernel
theorem dX11_init_22 : decode cX11_init 22 = .ok (.sipush 175, 3) := by decide +kernel
theorem dX11_init_25 : decode cX11_init 25 = .ok (.newarray .int, 2) := by decide +kernel
theorem dX11_init_27 : decode cX11_init 27 = .ok (.putfield 16, 3) := by decide +kernel
theorem dX11_init_30 : decode cX11_init 30 = .ok (.aload_n 0, 1) := by decide +kernel
theorem dX11_init_31 : decode cX11_init 31 = .ok (.sipush 175, 3) := by decide +kernel
theorem dX11_init_34 : decode cX11_init 34 = .ok (.newarray .int, 2) := by decide +kernel
theorem dX11_init_36 : decode cX11_init 36 = .ok (.putfield 19, 3) := by decide +kernel
theorem dX11_init_39 : decode cX11_init 39 = .ok (.aload_n 0, 1) := by decide +kernel
theorem dX11_init_40 : decode cX11_init 40 = .ok (.sipush 2450, 3) := by decide +kernel
theorem dX11_init_43 : decode cX11_init 43 = .ok (.newarray .int, 2) := by decide +kernel
theorem dX11_init_45 : decode cX11_init 45 = .ok (.putfield 22, 3) := by decide +kernel
theorem dX11_init_48 : decode cX11_init 48 = .ok (.aload_n 0, 1) := by decide +kernel
theorem dX11_init_49 : decode cX11_init 49 = .ok (.sipush 350, 3) := by decide +kernel
theorem dX11_init_52 : decode cX11_init 52 = .ok (.newarray .int, 2) := by decide +kernel
theorem dX11_init_54 : decode cX11_init 54 = .ok (.putfield 25, 3) := by decide +kernel
theorem dX11_init_57 : decode cX11_init 57 = .ok (.aload_n 0, 1) := by decide +kernel
theorem dX11_init_58 : decode cX11_init 58 = .ok (.iconst 2, 1) := by decide +kernel
theorem dX11_init_59 : decode cX11_init 59 = .ok (.newarray .boolean, 2) := by decide +kernel
theorem dX11_init_61 : decode cX11_init 61 = .ok (.putfield 28, 3) := by decide +kernel
theorem dX11_init_64 : decode cX11_init 64 = .ok (.aload_n 0, 1) := by decide +kernel
theorem dX11_init_65 : decode cX11_init 65 = .ok (.sipush 225, 3) := by decide +kernel
theorem dX11_init_68 : decode cX11_init 68 = .ok (.newarray .int, 2) := by decide +kernel
theorem dX11_init_70 : decode cX11_init 70 = .ok (.putfield 32, 3) := by decide +kernel
theorem dX11_init_73 : decode cX11_init 73 = .ok (.aload_n 0, 1) := by decide +kernel
theorem dX11_init_74 : decode cX11_init 74 = .ok (.bipush 24, 2) := by decide +kernel
theorem dX11_init_76 : decode cX11_init 76 = .ok (.newarray .int, 2) := by decide +kernel
theorem dX11_init_78 : decode cX11_init 78 = .ok (.putfield 35, 3) := by decide +kernel
theorem dX11_init_81 : decode cX11_init 81 = .ok (.aload_n 0, 1) := by decide +kernel
theorem dX11_init_82 : decode cX11_init 82 = .ok (.getfield 16, 3) := by decide +kernel
theorem dX11_init_85 : decode cX11_init 85 = .ok (.invokestatic 38, 3) := by decide +kernel
theorem dX11_init_88 : decode cX11_init 88 = .ok (.aload_n 0, 1) := by decide +kernel
theorem dX11_init_89 : decode cX11_init 89 = .ok (.getfield 16, 3) := by decide +kernel
theorem dX11_init_92 : decode cX11_init 92 = .ok (.iconst 0, 1) := by decide +kernel
theorem dX11_init_93 : decode cX11_init 93 = .ok (.iconst 3, 1) := by decide +kernel
theorem dX11_init_94 : decode cX11_init 94 = .ok (.iastore, 1) := by decide +kernel
theorem dX11_init_95 : decode cX11_init 95 = .ok (.aload_n 0, 1) := by decide +kernel
theorem dX11_init_96 : decode cX11_init 96 = .ok (.getfield 16, 3) := by decide +kernel
theorem dX11_init_99 : decode cX11_init 99 = .ok (.iconst 0, 1) := by decide +kernel
theorem dX11_init_100 : decode cX11_init 100 = .ok (.iconst 1, 1) := by decide +kernel
theorem dX11_init_101 : decode cX11_init 101 = .ok (.iconst 2, 1) := by decide +kernel
theorem dX11_init_102 : decode cX11_init 102 = .ok (.invokestatic 42, 3) := by decide +kernel
theorem dX11_init_105 : decode cX11_init 105 = .ok (.aload_n 0, 1) := by decide +kernel
theorem dX11_init_106 : decode cX11_init 106 = .ok (.getfield 16, 3) := by decide +kernel
theorem dX11_init_109 : decode cX11_init 109 = .ok (.iconst 1, 1) := by decide +kernel
theorem dX11_init_110 : decode cX11_init 110 = .ok (.iconst 2, 1) := by decide +kernel
theorem dX11_init_111 : decode cX11_init 111 = .ok (.iconst 2, 1) := by decide +kernel
theorem dX11_init_112 : decode cX11_init 112 = .ok (.invokestatic 42, 3) := by decide +kernel
theorem dX11_init_115 : decode cX11_init 115 = .ok (.return_, 1) := by decide +kernel
theorem dX11_thrown_0 : decode cX11_thrown 0 = .ok (.aload_n 0, 1) := by decide +kernel
theorem dX11_thrown_1 : decode cX11_thrown 1 = .ok (.getfield 46, 3) := by decide +kernel
theorem dX11_thrown_4 : decode cX11_thrown 4 = .ok (.ireturn, 1) := by decide +kernel
theorem dX11_refused_0 : decode cX11_refused 0 = .ok (.aload_n 0, 1) := by decide +kernel
theorem dX11_refused_1 : decode cX11_refused 1 = .ok (.iload_n 1, 1) := by decide +kernel
theorem dX11_refused_2 : decode cX11_refused 2 = .ok (.putfield 46, 3) := by decide +kernel
theorem dX11_refused_5 : decode cX11_refused 5 = .ok (.iload_n 1, 1) := by decide +kernel
theorem dX11_refused_6 : decode cX11_refused 6 = .ok (.ifCond .le 7, 3) := by decide +kernel
theorem dX11_refused_9 : decode cX11_refused 9 = .ok (.iconst 1, 1) := by decide +kernel
theorem dX11_refused_10 : decode cX11_refused 10 = .ok (.goto 4, 3) := by decide +kernel
theorem dX11_refused_13 : decode cX11_refused 13 = .ok (.iconst 0, 1) := by decide +kernel
theorem dX11_refused_14 : decode cX11_refused 14 = .ok (.ireturn, 1) := by decide +kernel
theorem dX11_in_0 : decode cX11_in 0 = .ok (.lload_n 0, 1) := by decide +kernel
theorem dX11_in_1 : decode cX11_in 1 = .ok (.lload_n 2, 1) := by decide +kernel
theorem dX11_in_2 : decode cX11_in 2 = .ok (.lcmp, 1) := by decide +kernel
theorem dX11_in_3 : decode cX11_in 3 = .ok (.ifCond .lt 14, 3) := by decide +kernel
theorem dX11_in_6 : decode cX11_in 6 = .ok (.lload_n 0, 1) := by decide +kernel
theorem dX11_in_7 : decode cX11_in 7 = .ok (.lload 4, 2) := by decide +kernel
theorem dX11_in_9 : decode cX11_in 9 = .ok (.lcmp, 1) := by decide +kernel
theorem dX11_in_10 : decode cX11_in 10 = .ok (.ifCond .gt 7, 3) := by decide +kernel
theorem dX11_in_13 : decode cX11_in 13 = .ok (.iconst 1, 1) := by decide +kernel
theorem dX11_in_14 : decode cX11_in 14 = .ok (.goto 4, 3) := by decide +kernel
theorem dX11_in_17 : decode cX11_in 17 = .ok (.iconst 0, 1) := by decide +kernel
theorem dX11_in_18 : decode cX11_in 18 = .ok (.ireturn, 1) := by decide +kernel
theorem dX11_copyPage_0 : decode cX11_copyPage 0 = .ok (.iconst 0, 1) := by decide +kernel
theorem dX11_copyPage_1 : decode cX11_copyPage 1 = .ok (.istore 4, 2) := by decide +kernel
theorem dX11_copyPage_3 : decode cX11_copyPage 3 = .ok (.iload 4, 2) := by decide +kernel
theorem dX11_copyPage_5 : decode cX11_copyPage 5 = .ok (.sipush 175, 3) := by decide +kernel
theorem dX11_copyPage_8 : decode cX11_copyPage 8 = .ok (.if_icmp .ge 21, 3) := by decide +kernel
theorem dX11_copyPage_11 : decode cX11_copyPage 11 = .ok (.aload_n 2, 1) := by decide +kernel
theorem dX11_copyPage_12 : decode cX11_copyPage 12 = .ok (.iload_n 3, 1) := by decide +kernel
theorem dX11_copyPage_13 : decode cX11_copyPage 13 = .ok (.iload 4, 2) := by decide +kernel
theorem dX11_copyPage_15 : decode cX11_copyPage 15 = .ok (.iadd, 1) := by decide +kernel
theorem dX11_copyPage_16 : decode cX11_copyPage 16 = .ok (.aload_n 0, 1) := by decide +kernel
theorem dX11_copyPage_17 : decode cX11_copyPage 17 = .ok (.iload_n 1, 1) := by decide +kernel
theorem dX11_copyPage_18 : decode cX11_copyPage 18 = .ok (.iload 4, 2) := by decide +kernel
theorem dX11_copyPage_20 : decode cX11_copyPage 20 = .ok (.iadd, 1) := by decide +kernel
theorem dX11_copyPage_21 : decode cX11_copyPage 21 = .ok (.iaload, 1) := by decide +kernel
theorem dX11_copyPage_22 : decode cX11_copyPage 22 = .ok (.iastore, 1) := by decide +kernel
theorem dX11_copyPage_23 : decode cX11_copyPage 23 = .ok (.iinc 4 1, 3) := by decide +kernel
theorem dX11_copyPage_26 : decode cX11_copyPage 26 = .ok (.goto (-23), 3) := by decide +kernel
theorem dX11_copyPage_29 : decode cX11_copyPage 29 = .ok (.return_, 1) := by decide +kernel
theorem dX11_trackAt_0 : decode cX11_trackAt 0 = .ok (.bipush 11, 2) := by decide +kernel
theorem dX11_trackAt_2 : decode cX11_trackAt 2 = .ok (.iconst 4, 1) := by decide +kernel
theorem dX11_trackAt_3 : decode cX11_trackAt 3 = .ok (.iload_n 0, 1) := by decide +kernel
theorem dX11_trackAt_4 : decode cX11_trackAt 4 = .ok (.imul, 1) := by decide +kernel
theorem dX11_trackAt_5 : decode cX11_trackAt 5 = .ok (.iadd, 1) := by decide +kernel
theorem dX11_trackAt_6 : decode cX11_trackAt 6 = .ok (.ireturn, 1) := by decide +kernel
theorem dX11_companyAt_0 : decode cX11_companyAt 0 = .ok (.bipush 75, 2) := by decide +kernel
theorem dX11_companyAt_2 : decode cX11_companyAt 2 = .ok (.iconst 5, 1) := by decide +kernel
theorem dX11_companyAt_3 : decode cX11_companyAt 3 = .ok (.iload_n 0, 1) := by decide +kernel
theorem dX11_companyAt_4 : decode cX11_companyAt 4 = .ok (.imul, 1) := by decide +kernel
theorem dX11_companyAt_5 : decode cX11_companyAt 5 = .ok (.iadd, 1) := by decide +kernel
theorem dX11_companyAt_6 : decode cX11_companyAt 6 = .ok (.ireturn, 1) := by decide +kernel
theorem dX11_trainAt_0 : decode cX11_trainAt 0 = .ok (.bipush 95, 2) := by decide +kernel
theorem dX11_trainAt_2 : decode cX11_trainAt 2 = .ok (.bipush 8, 2) := by decide +kernel
theorem dX11_trainAt_4 : decode cX11_trainAt 4 = .ok (.iload_n 0, 1) := by decide +kernel
theorem dX11_trainAt_5 : decode cX11_trainAt 5 = .ok (.imul, 1) := by decide +kernel
theorem dX11_trainAt_6 : decode cX11_trainAt 6 = .ok (.iadd, 1) := by decide +kernel
theorem dX11_trainAt_7 : decode cX11_trainAt 7 = .ok (.iconst 2, 1) := by decide +kernel
theorem dX11_trainAt_8 : decode cX11_trainAt 8 = .ok (.iload_n 1, 1) := by decide +kernel
theorem dX11_trainAt_9 : decode cX11_trainAt 9 = .ok (.imul, 1) := by decide +kernel
theorem dX11_trainAt_10 : decode cX11_trainAt 10 = .ok (.iadd, 1) := by decide +kernel
theorem dX11_trainAt_11 : decode cX11_trainAt 11 = .ok (.ireturn, 1) := by decide +kernel
theorem dX11_contractAt_0 : decode cX11_contractAt 0 = .ok (.bipush 127, 2) := by decide +kernel
theorem dX11_contractAt_2 : decode cX11_contractAt 2 = .ok (.bipush 6, 2) := by decide +kernel
theorem dX11_contractAt_4 : decode cX11_contractAt 4 = .ok (.iload_n 0, 1) := by decide +kernel
theorem dX11_contractAt_5 : decode cX11_contractAt 5 = .ok (.imul, 1) := by decide +kernel
theorem dX11_contractAt_6 : decode cX11_contractAt 6 = .ok (.iadd, 1) := by decide +kernel
theorem dX11_contractAt_7 : decode cX11_contractAt 7 = .ok (.ireturn, 1) := by decide +kernel
theorem dX11_begin_0 : decode cX11_begin 0 = .ok (.iconst 0, 1) := by decide +kernel
theorem dX11_begin_1 : decode cX11_begin 1 = .ok (.istore_n 1, 1) := by decide +kernel
theorem dX11_begin_2 : decode cX11_begin 2 = .ok (.iload_n 1, 1) := by decide +kernel
theorem dX11_begin_3 : decode cX11_begin 3 = .ok (.sipush 175, 3) := by decide +kernel
theorem dX11_begin_6 : decode cX11_begin 6 = .ok (.if_icmp .ge 13, 3) := by decide +kernel
theorem dX11_begin_9 : decode cX11_begin 9 = .ok (.aload_n 0, 1) := by decide +kernel
theorem dX11_begin_10 : decode cX11_begin 10 = .ok (.iload_n 1, 1) := by decide +kernel
theorem dX11_begin_11 : decode cX11_begin 11 = .ok (.iconst 0, 1) := by decide +kernel
theorem dX11_begin_12 : decode cX11_begin 12 = .ok (.iastore, 1) := by decide +kernel
theorem dX11_begin_13 : decode cX11_begin 13 = .ok (.iinc 1 1, 3) := by decide +kernel
theorem dX11_begin_16 : decode cX11_begin 16 = .ok (.goto (-14), 3) := by decide +kernel
theorem dX11_begin_19 : decode cX11_begin 19 = .ok (.aload_n 0, 1) := by decide +kernel
theorem dX11_begin_20 : decode cX11_begin 20 = .ok (.iconst 3, 1) := by decide +kernel
theorem dX11_begin_21 : decode cX11_begin 21 = .ok (.iconst 1, 1) := by decide +kernel
theorem dX11_begin_22 : decode cX11_begin 22 = .ok (.iastore, 1) := by decide +kernel
theorem dX11_begin_23 : decode cX11_begin 23 = .ok (.aload_n 0, 1) := by decide +kernel
theorem dX11_begin_24 : decode cX11_begin 24 = .ok (.iconst 5, 1) := by decide +kernel
theorem dX11_begin_25 : decode cX11_begin 25 = .ok (.sipush (-400), 3) := by decide +kernel
theorem dX11_begin_28 : decode cX11_begin 28 = .ok (.iastore, 1) := by decide +kernel
theorem dX11_begin_29 : decode cX11_begin 29 = .ok (.iconst 0, 1) := by decide +kernel
theorem dX11_begin_30 : decode cX11_begin 30 = .ok (.istore_n 1, 1) := by decide +kernel
theorem dX11_begin_31 : decode cX11_begin 31 = .ok (.iload_n 1, 1) := by decide +kernel
theorem dX11_begin_32 : decode cX11_begin 32 = .ok (.iconst 4, 1) := by decide +kernel
theorem dX11_begin_33 : decode cX11_begin 33 = .ok (.if_icmp .ge 26, 3) := by decide +kernel
theorem dX11_begin_36 : decode cX11_begin 36 = .ok (.aload_n 0, 1) := by decide +kernel
theorem dX11_begin_37 : decode cX11_begin 37 = .ok (.iload_n 1, 1) := by decide +kernel
theorem dX11_begin_38 : decode cX11_begin 38 = .ok (.invokestatic 50, 3) := by decide +kernel
theorem dX11_begin_41 : decode cX11_begin 41 = .ok (.bipush 100, 2) := by decide +kernel
theorem dX11_begin_43 : decode cX11_begin 43 = .ok (.iastore, 1) := by decide +kernel
theorem dX11_begin_44 : decode cX11_begin 44 = .ok (.aload_n 0, 1) := by decide +kernel
theorem dX11_begin_45 : decode cX11_begin 45 = .ok (.iload_n 1, 1) := by decide +kernel
theorem dX11_begin_46 : decode cX11_begin 46 = .ok (.invokestatic 50, 3) := by decide +kernel
theorem dX11_begin_49 : decode cX11_begin 49 = .ok (.iconst 1, 1) := by decide +kernel
theorem dX11_begin_50 : decode cX11_begin 50 = .ok (.iadd, 1) := by decide +kernel
theorem dX11_begin_51 : decode cX11_begin 51 = .ok (.iconst 1, 1) := by decide +kernel
theorem dX11_begin_52 : decode cX11_begin 52 = .ok (.iastore, 1) := by decide +kernel
theorem dX11_begin_53 : decode cX11_begin 53 = .ok (.iinc 1 1, 3) := by decide +kernel
theorem dX11_begin_56 : decode cX11_begin 56 = .ok (.goto (-25), 3) := by decide +kernel
theorem dX11_begin_59 : decode cX11_begin 59 = .ok (.return_, 1) := by decide +kernel
theorem dX11_addTrack_0 : decode cX11_addTrack 0 = .ok (.aload_n 0, 1) := by decide +kernel
theorem dX11_addTrack_1 : decode cX11_addTrack 1 = .ok (.iconst 1, 1) := by decide +kernel
theorem dX11_addTrack_2 : decode cX11_addTrack 2 = .ok (.iaload, 1) := by decide +kernel
theorem dX11_addTrack_3 : decode cX11_addTrack 3 = .ok (.invokestatic 54, 3) := by decide +kernel
theorem dX11_addTrack_6 : decode cX11_addTrack 6 = .ok (.istore 4, 2) := by decide +kernel
theorem dX11_addTrack_8 : decode cX11_addTrack 8 = .ok (.aload_n 0, 1) := by decide +kernel
theorem dX11_addTrack_9 : decode cX11_addTrack 9 = .ok (.iload 4, 2) := by decide +kernel
theorem dX11_addTrack_11 : decode cX11_addTrack 11 = .ok (.iload_n 1, 1) := by decide +kernel
theorem dX11_addTrack_12 : decode cX11_addTrack 12 = .ok (.iastore, 1) := by decide +kernel
theorem dX11_addTrack_13 : decode cX11_addTrack 13 = .ok (.aload_n 0, 1) := by decide +kernel
theorem dX11_addTrack_14 : decode cX11_addTrack 14 = .ok (.iload 4, 2) := by decide +kernel
theorem dX11_addTrack_16 : decode cX11_addTrack 16 = .ok (.iconst 1, 1) := by decide +kernel
theorem dX11_addTrack_17 : decode cX11_addTrack 17 = .ok (.iadd, 1) := by decide +kernel
theorem dX11_addTrack_18 : decode cX11_addTrack 18 = .ok (.iload_n 2, 1) := by decide +kernel
theorem dX11_addTrack_19 : decode cX11_addTrack 19 = .ok (.iastore, 1) := by decide +kernel
theorem dX11_addTrack_20 : decode cX11_addTrack 20 = .ok (.aload_n 0, 1) := by decide +kernel
theorem dX11_addTrack_21 : decode cX11_addTrack 21 = .ok (.iload 4, 2) := by decide +kernel
theorem dX11_addTrack_23 : decode cX11_addTrack 23 = .ok (.iconst 2, 1) := by decide +kernel
theorem dX11_addTrack_24 : decode cX11_addTrack 24 = .ok (.iadd, 1) := by decide +kernel
theorem dX11_addTrack_25 : decode cX11_addTrack 25 = .ok (.iload_n 3, 1) := by decide +kernel
theorem dX11_addTrack_26 : decode cX11_addTrack 26 = .ok (.iastore, 1) := by decide +kernel
theorem dX11_addTrack_27 : decode cX11_addTrack 27 = .ok (.aload_n 0, 1) := by decide +kernel
theorem dX11_addTrack_28 : decode cX11_addTrack 28 = .ok (.iload 4, 2) := by decide +kernel
theorem dX11_addTrack_30 : decode cX11_addTrack 30 = .ok (.iconst 3, 1) := by decide +kernel
theorem dX11_addTrack_31 : decode cX11_addTrack 31 = .ok (.iadd, 1) := by decide +kernel
theorem dX11_addTrack_32 : decode cX11_addTrack 32 = .ok (.bipush (-9), 2) := by decide +kernel
theorem dX11_addTrack_34 : decode cX11_addTrack 34 = .ok (.iastore, 1) := by decide +kernel
theorem dX11_addTrack_35 : decode cX11_addTrack 35 = .ok (.aload_n 0, 1) := by decide +kernel
theorem dX11_addTrack_36 : decode cX11_addTrack 36 = .ok (.iconst 1, 1) := by decide +kernel
theorem dX11_addTrack_37 : decode cX11_addTrack 37 = .ok (.dup2, 1) := by decide +kernel
theorem dX11_addTrack_38 : decode cX11_addTrack 38 = .ok (.iaload, 1) := by decide +kernel
theorem dX11_addTrack_39 : decode cX11_addTrack 39 = .ok (.iconst 1, 1) := by decide +kernel
theorem dX11_addTrack_40 : decode cX11_addTrack 40 = .ok (.iadd, 1) := by decide +kernel
theorem dX11_addTrack_41 : decode cX11_addTrack 41 = .ok (.iastore, 1) := by decide +kernel
theorem dX11_addTrack_42 : decode cX11_addTrack 42 = .ok (.return_, 1) := by decide +kernel
theorem dX11_addContract_0 : decode cX11_addContract 0 = .ok (.aload_n 0, 1) := by decide +kernel
theorem dX11_addContract_1 : decode cX11_addContract 1 = .ok (.iconst 2, 1) := by decide +kernel
theorem dX11_addContract_2 : decode cX11_addContract 2 = .ok (.iaload, 1) := by decide +kernel
theorem dX11_addContract_3 : decode cX11_addContract 3 = .ok (.invokestatic 57, 3) := by decide +kernel
theorem dX11_addContract_6 : decode cX11_addContract 6 = .ok (.istore 5, 2) := by decide +kernel
theorem dX11_addContract_8 : decode cX11_addContract 8 = .ok (.aload_n 0, 1) := by decide +kernel
theorem dX11_addContract_9 : decode cX11_addContract 9 = .ok (.iload 5, 2) := by decide +kernel
theorem dX11_addContract_11 : decode cX11_addContract 11 = .ok (.iload_n 1, 1) := by decide +kernel
theorem dX11_addContract_12 : decode cX11_addContract 12 = .ok (.iastore, 1) := by decide +kernel
theorem dX11_addContract_13 : decode cX11_addContract 13 = .ok (.aload_n 0, 1) := by decide +kernel
theorem dX11_addContract_14 : decode cX11_addContract 14 = .ok (.iload 5, 2) := by decide +kernel
theorem dX11_addContract_16 : decode cX11_addContract 16 = .ok (.iconst 1, 1) := by decide +kernel
theorem dX11_addContract_17 : decode cX11_addContract 17 = .ok (.iadd, 1) := by decide +kernel
theorem dX11_addContract_18 : decode cX11_addContract 18 = .ok (.iload_n 2, 1) := by decide +kernel
theorem dX11_addContract_19 : decode cX11_addContract 19 = .ok (.iastore, 1) := by decide +kernel
theorem dX11_addContract_20 : decode cX11_addContract 20 = .ok (.aload_n 0, 1) := by decide +kernel
theorem dX11_addContract_21 : decode cX11_addContract 21 = .ok (.iload 5, 2) := by decide +kernel
theorem dX11_addContract_23 : decode cX11_addContract 23 = .ok (.iconst 2, 1) := by decide +kernel
theorem dX11_addContract_24 : decode cX11_addContract 24 = .ok (.iadd, 1) := by decide +kernel
theorem dX11_addContract_25 : decode cX11_addContract 25 = .ok (.iload_n 3, 1) := by decide +kernel
theorem dX11_addContract_26 : decode cX11_addContract 26 = .ok (.iastore, 1) := by decide +kernel
theorem dX11_addContract_27 : decode cX11_addContract 27 = .ok (.aload_n 0, 1) := by decide +kernel
theorem dX11_addContract_28 : decode cX11_addContract 28 = .ok (.iload 5, 2) := by decide +kernel
theorem dX11_addContract_30 : decode cX11_addContract 30 = .ok (.iconst 3, 1) := by decide +kernel
theorem dX11_addContract_31 : decode cX11_addContract 31 = .ok (.iadd, 1) := by decide +kernel
theorem dX11_addContract_32 : decode cX11_addContract 32 = .ok (.iload 4, 2) := by decide +kernel
theorem dX11_addContract_34 : decode cX11_addContract 34 = .ok (.iastore, 1) := by decide +kernel
theorem dX11_addContract_35 : decode cX11_addContract 35 = .ok (.aload_n 0, 1) := by decide +kernel
theorem dX11_addContract_36 : decode cX11_addContract 36 = .ok (.iload 5, 2) := by decide +kernel
theorem dX11_addContract_38 : decode cX11_addContract 38 = .ok (.iconst 4, 1) := by decide +kernel
theorem dX11_addContract_39 : decode cX11_addContract 39 = .ok (.iadd, 1) := by decide +kernel
theorem dX11_addContract_40 : decode cX11_addContract 40 = .ok (.bipush (-9), 2) := by decide +kernel
theorem dX11_addContract_42 : decode cX11_addContract 42 = .ok (.iastore, 1) := by decide +kernel
theorem dX11_addContract_43 : decode cX11_addContract 43 = .ok (.aload_n 0, 1) := by decide +kernel
theorem dX11_addContract_44 : decode cX11_addContract 44 = .ok (.iload 5, 2) := by decide +kernel
theorem dX11_addContract_46 : decode cX11_addContract 46 = .ok (.iconst 5, 1) := by decide +kernel
theorem dX11_addContract_47 : decode cX11_addContract 47 = .ok (.iadd, 1) := by decide +kernel
theorem dX11_addContract_48 : decode cX11_addContract 48 = .ok (.iconst 0, 1) := by decide +kernel
theorem dX11_addContract_49 : decode cX11_addContract 49 = .ok (.iastore, 1) := by decide +kernel
theorem dX11_addContract_50 : decode cX11_addContract 50 = .ok (.aload_n 0, 1) := by decide +kernel
theorem dX11_addContract_51 : decode cX11_addContract 51 = .ok (.iconst 2, 1) := by decide +kernel
theorem dX11_addContract_52 : decode cX11_addContract 52 = .ok (.dup2, 1) := by decide +kernel
theorem dX11_addContract_53 : decode cX11_addContract 53 = .ok (.iaload, 1) := by decide +kernel
theorem dX11_addContract_54 : decode cX11_addContract 54 = .ok (.iconst 1, 1) := by decide +kernel
theorem dX11_addContract_55 : decode cX11_addContract 55 = .ok (.iadd, 1) := by decide +kernel
theorem dX11_addContract_56 : decode cX11_addContract 56 = .ok (.iastore, 1) := by decide +kernel
theorem dX11_addContract_57 : decode cX11_addContract 57 = .ok (.return_, 1) := by decide +kernel
theorem dX11_isCompany_0 : decode cX11_isCompany 0 = .ok (.iload_n 0, 1) := by decide +kernel
theorem dX11_isCompany_1 : decode cX11_isCompany 1 = .ok (.i2l, 1) := by decide +kernel
theorem dX11_isCompany_2 : decode cX11_isCompany 2 = .ok (.lconst 0, 1) := by decide +kernel
theorem dX11_isCompany_3 : decode cX11_isCompany 3 = .ok (.ldc2_w 60, 3) := by decide +kernel
theorem dX11_isCompany_6 : decode cX11_isCompany 6 = .ok (.invokestatic 62, 3) := by decide +kernel
theorem dX11_isCompany_9 : decode cX11_isCompany 9 = .ok (.ireturn, 1) := by decide +kernel
theorem dX11_isTrack_0 : decode cX11_isTrack 0 = .ok (.iload_n 1, 1) := by decide +kernel
theorem dX11_isTrack_1 : decode cX11_isTrack 1 = .ok (.i2l, 1) := by decide +kernel
theorem dX11_isTrack_2 : decode cX11_isTrack 2 = .ok (.lconst 0, 1) := by decide +kernel
theorem dX11_isTrack_3 : decode cX11_isTrack 3 = .ok (.aload_n 0, 1) := by decide +kernel
theorem dX11_isTrack_4 : decode cX11_isTrack 4 = .ok (.iconst 1, 1) := by decide +kernel
theorem dX11_isTrack_5 : decode cX11_isTrack 5 = .ok (.iaload, 1) := by decide +kernel
theorem dX11_isTrack_6 : decode cX11_isTrack 6 = .ok (.iconst 1, 1) := by decide +kernel
theorem dX11_isTrack_7 : decode cX11_isTrack 7 = .ok (.isub, 1) := by decide +kernel
theorem dX11_isTrack_8 : decode cX11_isTrack 8 = .ok (.i2l, 1) := by decide +kernel
theorem dX11_isTrack_9 : decode cX11_isTrack 9 = .ok (.invokestatic 62, 3) := by decide +kernel
theorem dX11_isTrack_12 : decode cX11_isTrack 12 = .ok (.ireturn, 1) := by decide +kernel
theorem dX11_isContract_0 : decode cX11_isContract 0 = .ok (.iload_n 1, 1) := by decide +kernel
theorem dX11_isContract_1 : decode cX11_isContract 1 = .ok (.i2l, 1) := by decide +kernel
theorem dX11_isContract_2 : decode cX11_isContract 2 = .ok (.lconst 0, 1) := by decide +kernel
theorem dX11_isContract_3 : decode cX11_isContract 3 = .ok (.aload_n 0, 1) := by decide +kernel
theorem dX11_isContract_4 : decode cX11_isContract 4 = .ok (.iconst 2, 1) := by decide +kernel
theorem dX11_isContract_5 : decode cX11_isContract 5 = .ok (.iaload, 1) := by decide +kernel
theorem dX11_isContract_6 : decode cX11_isContract 6 = .ok (.iconst 1, 1) := by decide +kernel
theorem dX11_isContract_7 : decode cX11_isContract 7 = .ok (.isub, 1) := by decide +kernel
theorem dX11_isContract_8 : decode cX11_isContract 8 = .ok (.i2l, 1) := by decide +kernel
theorem dX11_isContract_9 : decode cX11_isContract 9 = .ok (.invokestatic 62, 3) := by decide +kernel
theorem dX11_isContract_12 : decode cX11_isContract 12 = .ok (.ireturn, 1) := by decide +kernel
theorem dX11_trainsOf_0 : decode cX11_trainsOf 0 = .ok (.aload_n 0, 1) := by decide +kernel
theorem dX11_trainsOf_1 : decode cX11_trainsOf 1 = .ok (.iload_n 1, 1) := by decide +kernel
theorem dX11_trainsOf_2 : decode cX11_trainsOf 2 = .ok (.invokestatic 50, 3) := by decide +kernel
theorem dX11_trainsOf_5 : decode cX11_trainsOf 5 = .ok (.iconst 2, 1) := by decide +kernel
theorem dX11_trainsOf_6 : decode cX11_trainsOf 6 = .ok (.iadd, 1) := by decide +kernel
theorem dX11_trainsOf_7 : decode cX11_trainsOf 7 = .ok (.iaload, 1) := by decide +kernel
theorem dX11_trainsOf_8 : decode cX11_trainsOf 8 = .ok (.ireturn, 1) := by decide +kernel
theorem dX11_isTrain_0 : decode cX11_isTrain 0 = .ok (.iload_n 2, 1) := by decide +kernel
theorem dX11_isTrain_1 : decode cX11_isTrain 1 = .ok (.i2l, 1) := by decide +kernel
theorem dX11_isTrain_2 : decode cX11_isTrain 2 = .ok (.lconst 0, 1) := by decide +kernel
theorem dX11_isTrain_3 : decode cX11_isTrain 3 = .ok (.aload_n 0, 1) := by decide +kernel
theorem dX11_isTrain_4 : decode cX11_isTrain 4 = .ok (.iload_n 1, 1) := by decide +kernel
theorem dX11_isTrain_5 : decode cX11_isTrain 5 = .ok (.invokestatic 66, 3) := by decide +kernel
theorem dX11_isTrain_8 : decode cX11_isTrain 8 = .ok (.iconst 1, 1) := by decide +kernel
theorem dX11_isTrain_9 : decode cX11_isTrain 9 = .ok (.isub, 1) := by decide +kernel
theorem dX11_isTrain_10 : decode cX11_isTrain 10 = .ok (.i2l, 1) := by decide +kernel
theorem dX11_isTrain_11 : decode cX11_isTrain 11 = .ok (.invokestatic 62, 3) := by decide +kernel
theorem dX11_isTrain_14 : decode cX11_isTrain 14 = .ok (.ireturn, 1) := by decide +kernel
theorem dX11_costOf_0 : decode cX11_costOf 0 = .ok (.aload_n 0, 1) := by decide +kernel
theorem dX11_costOf_1 : decode cX11_costOf 1 = .ok (.iload_n 2, 1) := by decide +kernel
theorem dX11_costOf_2 : decode cX11_costOf 2 = .ok (.invokestatic 54, 3) := by decide +kernel
theorem dX11_costOf_5 : decode cX11_costOf 5 = .ok (.iconst 3, 1) := by decide +kernel
theorem dX11_costOf_6 : decode cX11_costOf 6 = .ok (.iadd, 1) := by decide +kernel
theorem dX11_costOf_7 : decode cX11_costOf 7 = .ok (.iaload, 1) := by decide +kernel
theorem dX11_costOf_8 : decode cX11_costOf 8 = .ok (.istore_n 3, 1) := by decide +kernel
theorem dX11_costOf_9 : decode cX11_costOf 9 = .ok (.iload_n 3, 1) := by decide +kernel
theorem dX11_costOf_10 : decode cX11_costOf 10 = .ok (.iload_n 1, 1) := by decide +kernel
theorem dX11_costOf_11 : decode cX11_costOf 11 = .ok (.if_icmp .ne 7, 3) := by decide +kernel
theorem dX11_costOf_14 : decode cX11_costOf 14 = .ok (.iconst 0, 1) := by decide +kernel
theorem dX11_costOf_15 : decode cX11_costOf 15 = .ok (.goto 21, 3) := by decide +kernel
theorem dX11_costOf_18 : decode cX11_costOf 18 = .ok (.iload_n 3, 1) := by decide +kernel
theorem dX11_costOf_19 : decode cX11_costOf 19 = .ok (.bipush (-9), 2) := by decide +kernel
theorem dX11_costOf_21 : decode cX11_costOf 21 = .ok (.if_icmp .ne 7, 3) := by decide +kernel
theorem dX11_costOf_24 : decode cX11_costOf 24 = .ok (.iconst 1, 1) := by decide +kernel
theorem dX11_costOf_25 : decode cX11_costOf 25 = .ok (.goto 11, 3) := by decide +kernel
theorem dX11_costOf_28 : decode cX11_costOf 28 = .ok (.aload_n 0, 1) := by decide +kernel
theorem dX11_costOf_29 : decode cX11_costOf 29 = .ok (.iload_n 3, 1) := by decide +kernel
theorem dX11_costOf_30 : decode cX11_costOf 30 = .ok (.invokestatic 50, 3) := by decide +kernel
theorem dX11_costOf_33 : decode cX11_costOf 33 = .ok (.iconst 1, 1) := by decide +kernel
theorem dX11_costOf_34 : decode cX11_costOf 34 = .ok (.iadd, 1) := by decide +kernel
theorem dX11_costOf_35 : decode cX11_costOf 35 = .ok (.iaload, 1) := by decide +kernel
theorem dX11_costOf_36 : decode cX11_costOf 36 = .ok (.istore 4, 2) := by decide +kernel
theorem dX11_costOf_38 : decode cX11_costOf 38 = .ok (.iload 4, 2) := by decide +kernel
theorem dX11_costOf_40 : decode cX11_costOf 40 = .ok (.aload_n 0, 1) := by decide +kernel
theorem dX11_costOf_41 : decode cX11_costOf 41 = .ok (.iload_n 2, 1) := by decide +kernel
theorem dX11_costOf_42 : decode cX11_costOf 42 = .ok (.invokestatic 54, 3) := by decide +kernel
theorem dX11_costOf_45 : decode cX11_costOf 45 = .ok (.iconst 2, 1) := by decide +kernel
theorem dX11_costOf_46 : decode cX11_costOf 46 = .ok (.iadd, 1) := by decide +kernel
theorem dX11_costOf_47 : decode cX11_costOf 47 = .ok (.iaload, 1) := by decide +kernel
theorem dX11_costOf_48 : decode cX11_costOf 48 = .ok (.imul, 1) := by decide +kernel
theorem dX11_costOf_49 : decode cX11_costOf 49 = .ok (.ireturn, 1) := by decide +kernel
theorem dX11_across_0 : decode cX11_across 0 = .ok (.iload_n 1, 1) := by decide +kernel
theorem dX11_across_1 : decode cX11_across 1 = .ok (.invokestatic 54, 3) := by decide +kernel
theorem dX11_across_4 : decode cX11_across 4 = .ok (.istore_n 3, 1) := by decide +kernel
theorem dX11_across_5 : decode cX11_across 5 = .ok (.aload_n 0, 1) := by decide +kernel
theorem dX11_across_6 : decode cX11_across 6 = .ok (.iload_n 3, 1) := by decide +kernel
theorem dX11_across_7 : decode cX11_across 7 = .ok (.iaload, 1) := by decide +kernel
theorem dX11_across_8 : decode cX11_across 8 = .ok (.iload_n 2, 1) := by decide +kernel
theorem dX11_across_9 : decode cX11_across 9 = .ok (.if_icmp .ne 11, 3) := by decide +kernel
theorem dX11_across_12 : decode cX11_across 12 = .ok (.aload_n 0, 1) := by decide +kernel
theorem dX11_across_13 : decode cX11_across 13 = .ok (.iload_n 3, 1) := by decide +kernel
theorem dX11_across_14 : decode cX11_across 14 = .ok (.iconst 1, 1) := by decide +kernel
theorem dX11_across_15 : decode cX11_across 15 = .ok (.iadd, 1) := by decide +kernel
theorem dX11_across_16 : decode cX11_across 16 = .ok (.iaload, 1) := by decide +kernel
theorem dX11_across_17 : decode cX11_across 17 = .ok (.goto 20, 3) := by decide +kernel
theorem dX11_across_20 : decode cX11_across 20 = .ok (.aload_n 0, 1) := by decide +kernel
theorem dX11_across_21 : decode cX11_across 21 = .ok (.iload_n 3, 1) := by decide +kernel
theorem dX11_across_22 : decode cX11_across 22 = .ok (.iconst 1, 1) := by decide +kernel
theorem dX11_across_23 : decode cX11_across 23 = .ok (.iadd, 1) := by decide +kernel
theorem dX11_across_24 : decode cX11_across 24 = .ok (.iaload, 1) := by decide +kernel
theorem dX11_across_25 : decode cX11_across 25 = .ok (.iload_n 2, 1) := by decide +kernel
theorem dX11_across_26 : decode cX11_across 26 = .ok (.if_icmp .ne 9, 3) := by decide +kernel
theorem dX11_across_29 : decode cX11_across 29 = .ok (.aload_n 0, 1) := by decide +kernel
theorem dX11_across_30 : decode cX11_across 30 = .ok (.iload_n 3, 1) := by decide +kernel
theorem dX11_across_31 : decode cX11_across 31 = .ok (.iaload, 1) := by decide +kernel
theorem dX11_across_32 : decode cX11_across 32 = .ok (.goto 5, 3) := by decide +kernel
theorem dX11_across_35 : decode cX11_across 35 = .ok (.bipush (-9), 2) := by decide +kernel
theorem dX11_across_37 : decode cX11_across 37 = .ok (.ireturn, 1) := by decide +kernel
theorem dX11_goneBy_0 : decode cX11_goneBy 0 = .ok (.aload_n 1, 1) := by decide +kernel
theorem dX11_goneBy_1 : decode cX11_goneBy 1 = .ok (.iload_n 3, 1) := by decide +kernel
theorem dX11_goneBy_2 : decode cX11_goneBy 2 = .ok (.iload 4, 2) := by decide +kernel
theorem dX11_goneBy_4 : decode cX11_goneBy 4 = .ok (.invokestatic 70, 3) := by decide +kernel
theorem dX11_goneBy_7 : decode cX11_goneBy 7 = .ok (.istore 6, 2) := by decide +kernel
theorem dX11_goneBy_9 : decode cX11_goneBy 9 = .ok (.iload 5, 2) := by decide +kernel
theorem dX11_goneBy_11 : decode cX11_goneBy 11 = .ok (.aload_n 1, 1) := by decide +kernel
theorem dX11_goneBy_12 : decode cX11_goneBy 12 = .ok (.iload_n 3, 1) := by decide +kernel
theorem dX11_goneBy_13 : decode cX11_goneBy 13 = .ok (.invokestatic 54, 3) := by decide +kernel
theorem dX11_goneBy_16 : decode cX11_goneBy 16 = .ok (.iconst 2, 1) := by decide +kernel
theorem dX11_goneBy_17 : decode cX11_goneBy 17 = .ok (.iadd, 1) := by decide +kernel
theorem dX11_goneBy_18 : decode cX11_goneBy 18 = .ok (.iaload, 1) := by decide +kernel
theorem dX11_goneBy_19 : decode cX11_goneBy 19 = .ok (.isub, 1) := by decide +kernel
theorem dX11_goneBy_20 : decode cX11_goneBy 20 = .ok (.istore 7, 2) := by decide +kernel
theorem dX11_goneBy_22 : decode cX11_goneBy 22 = .ok (.iload 6, 2) := by decide +kernel
theorem dX11_goneBy_24 : decode cX11_goneBy 24 = .ok (.bipush (-9), 2) := by decide +kernel
theorem dX11_goneBy_26 : decode cX11_goneBy 26 = .ok (.if_icmp .eq 8, 3) := by decide +kernel
theorem dX11_goneBy_29 : decode cX11_goneBy 29 = .ok (.iload 7, 2) := by decide +kernel
theorem dX11_goneBy_31 : decode cX11_goneBy 31 = .ok (.ifCond .ge 8, 3) := by decide +kernel
theorem dX11_goneBy_34 : decode cX11_goneBy 34 = .ok (.ldc 74, 2) := by decide +kernel
theorem dX11_goneBy_36 : decode cX11_goneBy 36 = .ok (.goto 23, 3) := by decide +kernel
theorem dX11_goneBy_39 : decode cX11_goneBy 39 = .ok (.aload_n 0, 1) := by decide +kernel
theorem dX11_goneBy_40 : decode cX11_goneBy 40 = .ok (.getfield 32, 3) := by decide +kernel
theorem dX11_goneBy_43 : decode cX11_goneBy 43 = .ok (.bipush 9, 2) := by decide +kernel
theorem dX11_goneBy_45 : decode cX11_goneBy 45 = .ok (.iload 7, 2) := by decide +kernel
theorem dX11_goneBy_47 : decode cX11_goneBy 47 = .ok (.imul, 1) := by decide +kernel
theorem dX11_goneBy_48 : decode cX11_goneBy 48 = .ok (.iload 6, 2) := by decide +kernel
theorem dX11_goneBy_50 : decode cX11_goneBy 50 = .ok (.iadd, 1) := by decide +kernel
theorem dX11_goneBy_51 : decode cX11_goneBy 51 = .ok (.iaload, 1) := by decide +kernel
theorem dX11_goneBy_52 : decode cX11_goneBy 52 = .ok (.aload_n 1, 1) := by decide +kernel
theorem dX11_goneBy_53 : decode cX11_goneBy 53 = .ok (.iload_n 2, 1) := by decide +kernel
theorem dX11_goneBy_54 : decode cX11_goneBy 54 = .ok (.iload_n 3, 1) := by decide +kernel
theorem dX11_goneBy_55 : decode cX11_goneBy 55 = .ok (.invokestatic 75, 3) := by decide +kernel
theorem dX11_goneBy_58 : decode cX11_goneBy 58 = .ok (.iadd, 1) := by decide +kernel
theorem dX11_goneBy_59 : decode cX11_goneBy 59 = .ok (.ireturn, 1) := by decide +kernel
theorem dX11_layLeast_0 : decode cX11_layLeast 0 = .ok (.iconst 0, 1) := by decide +kernel
theorem dX11_layLeast_1 : decode cX11_layLeast 1 = .ok (.istore 5, 2) := by decide +kernel
theorem dX11_layLeast_3 : decode cX11_layLeast 3 = .ok (.iload 5, 2) := by decide +kernel
theorem dX11_layLeast_5 : decode cX11_layLeast 5 = .ok (.iload 4, 2) := by decide +kernel
theorem dX11_layLeast_7 : decode cX11_layLeast 7 = .ok (.if_icmp .gt 119, 3) := by decide +kernel
theorem dX11_layLeast_10 : decode cX11_layLeast 10 = .ok (.iconst 0, 1) := by decide +kernel
theorem dX11_layLeast_11 : decode cX11_layLeast 11 = .ok (.istore 6, 2) := by decide +kernel
theorem dX11_layLeast_13 : decode cX11_layLeast 13 = .ok (.iload 6, 2) := by decide +kernel
theorem dX11_layLeast_15 : decode cX11_layLeast 15 = .ok (.aload_n 1, 1) := by decide +kernel
theorem dX11_layLeast_16 : decode cX11_layLeast 16 = .ok (.iconst 0, 1) := by decide +kernel
theorem dX11_layLeast_17 : decode cX11_layLeast 17 = .ok (.iaload, 1) := by decide +kernel
theorem dX11_layLeast_18 : decode cX11_layLeast 18 = .ok (.if_icmp .ge 102, 3) := by decide +kernel
theorem dX11_layLeast_21 : decode cX11_layLeast 21 = .ok (.iload 5, 2) := by decide +kernel
theorem dX11_layLeast_23 : decode cX11_layLeast 23 = .ok (.ifCond .ne 13, 3) := by decide +kernel
theorem dX11_layLeast_26 : decode cX11_layLeast 26 = .ok (.iload 6, 2) := by decide +kernel
theorem dX11_layLeast_28 : decode cX11_layLeast 28 = .ok (.iload_n 3, 1) := by decide +kernel
theorem dX11_layLeast_29 : decode cX11_layLeast 29 = .ok (.if_icmp .ne 7, 3) := by decide +kernel
theorem dX11_layLeast_32 : decode cX11_layLeast 32 = .ok (.iconst 0, 1) := by decide +kernel
theorem dX11_layLeast_33 : decode cX11_layLeast 33 = .ok (.goto 5, 3) := by decide +kernel
theorem dX11_layLeast_36 : decode cX11_layLeast 36 = .ok (.ldc 74, 2) := by decide +kernel
theorem dX11_layLeast_38 : decode cX11_layLeast 38 = .ok (.istore 7, 2) := by decide +kernel
theorem dX11_layLeast_40 : decode cX11_layLeast 40 = .ok (.iconst 0, 1) := by decide +kernel
theorem dX11_layLeast_41 : decode cX11_layLeast 41 = .ok (.istore 8, 2) := by decide +kernel
theorem dX11_layLeast_43 : decode cX11_layLeast 43 = .ok (.iload 8, 2) := by decide +kernel
theorem dX11_layLeast_45 : decode cX11_layLeast 45 = .ok (.aload_n 1, 1) := by decide +kernel
theorem dX11_layLeast_46 : decode cX11_layLeast 46 = .ok (.iconst 1, 1) := by decide +kernel
theorem dX11_layLeast_47 : decode cX11_layLeast 47 = .ok (.iaload, 1) := by decide +kernel
theorem dX11_layLeast_48 : decode cX11_layLeast 48 = .ok (.if_icmp .ge 39, 3) := by decide +kernel
theorem dX11_layLeast_51 : decode cX11_layLeast 51 = .ok (.aload_n 0, 1) := by decide +kernel
theorem dX11_layLeast_52 : decode cX11_layLeast 52 = .ok (.aload_n 1, 1) := by decide +kernel
theorem dX11_layLeast_53 : decode cX11_layLeast 53 = .ok (.iload_n 2, 1) := by decide +kernel
theorem dX11_layLeast_54 : decode cX11_layLeast 54 = .ok (.iload 8, 2) := by decide +kernel
theorem dX11_layLeast_56 : decode cX11_layLeast 56 = .ok (.iload 6, 2) := by decide +kernel
theorem dX11_layLeast_58 : decode cX11_layLeast 58 = .ok (.iload 5, 2) := by decide +kernel
theorem dX11_layLeast_60 : decode cX11_layLeast 60 = .ok (.invokevirtual 78, 3) := by decide +kernel
theorem dX11_layLeast_63 : decode cX11_layLeast 63 = .ok (.istore 9, 2) := by decide +kernel
theorem dX11_layLeast_65 : decode cX11_layLeast 65 = .ok (.iload 9, 2) := by decide +kernel
theorem dX11_layLeast_67 : decode cX11_layLeast 67 = .ok (.iload 7, 2) := by decide +kernel
theorem dX11_layLeast_69 : decode cX11_layLeast 69 = .ok (.if_icmp .ge 8, 3) := by decide +kernel
theorem dX11_layLeast_72 : decode cX11_layLeast 72 = .ok (.iload 9, 2) := by decide +kernel
theorem dX11_layLeast_74 : decode cX11_layLeast 74 = .ok (.goto 5, 3) := by decide +kernel
theorem dX11_layLeast_77 : decode cX11_layLeast 77 = .ok (.iload 7, 2) := by decide +kernel
theorem dX11_layLeast_79 : decode cX11_layLeast 79 = .ok (.istore 7, 2) := by decide +kernel
theorem dX11_layLeast_81 : decode cX11_layLeast 81 = .ok (.iinc 8 1, 3) := by decide +kernel
theorem dX11_layLeast_84 : decode cX11_layLeast 84 = .ok (.goto (-41), 3) := by decide +kernel
theorem dX11_layLeast_87 : decode cX11_layLeast 87 = .ok (.aload_n 0, 1) := by decide +kernel
theorem dX11_layLeast_88 : decode cX11_layLeast 88 = .ok (.getfield 32, 3) := by decide +kernel
theorem dX11_layLeast_91 : decode cX11_layLeast 91 = .ok (.bipush 9, 2) := by decide +kernel
theorem dX11_layLeast_93 : decode cX11_layLeast 93 = .ok (.iload 5, 2) := by decide +kernel
theorem dX11_layLeast_95 : decode cX11_layLeast 95 = .ok (.imul, 1) := by decide +kernel
theorem dX11_layLeast_96 : decode cX11_layLeast 96 = .ok (.iload 6, 2) := by decide +kernel
theorem dX11_layLeast_98 : decode cX11_layLeast 98 = .ok (.iadd, 1) := by decide +kernel
theorem dX11_layLeast_99 : decode cX11_layLeast 99 = .ok (.iload 7, 2) := by decide +kernel
theorem dX11_layLeast_101 : decode cX11_layLeast 101 = .ok (.ldc 74, 2) := by decide +kernel
theorem dX11_layLeast_103 : decode cX11_layLeast 103 = .ok (.if_icmp .ge 8, 3) := by decide +kernel
theorem dX11_layLeast_106 : decode cX11_layLeast 106 = .ok (.iload 7, 2) := by decide +kernel
theorem dX11_layLeast_108 : decode cX11_layLeast 108 = .ok (.goto 5, 3) := by decide +kernel
theorem dX11_layLeast_111 : decode cX11_layLeast 111 = .ok (.ldc 74, 2) := by decide +kernel
theorem dX11_layLeast_113 : decode cX11_layLeast 113 = .ok (.iastore, 1) := by decide +kernel
theorem dX11_layLeast_114 : decode cX11_layLeast 114 = .ok (.iinc 6 1, 3) := by decide +kernel
theorem dX11_layLeast_117 : decode cX11_layLeast 117 = .ok (.goto (-104), 3) := by decide +kernel
theorem dX11_layLeast_120 : decode cX11_layLeast 120 = .ok (.iinc 5 1, 3) := by decide +kernel
theorem dX11_layLeast_123 : decode cX11_layLeast 123 = .ok (.goto (-120), 3) := by decide +kernel
theorem dX11_layLeast_126 : decode cX11_layLeast 126 = .ok (.return_, 1) := by decide +kernel
theorem dX11_findWay_0 : decode cX11_findWay 0 = .ok (.aload_n 0, 1) := by decide +kernel
theorem dX11_findWay_1 : decode cX11_findWay 1 = .ok (.aload_n 1, 1) := by decide +kernel
theorem dX11_findWay_2 : decode cX11_findWay 2 = .ok (.iload_n 2, 1) := by decide +kernel
theorem dX11_findWay_3 : decode cX11_findWay 3 = .ok (.iload 4, 2) := by decide +kernel
theorem dX11_findWay_5 : decode cX11_findWay 5 = .ok (.iload 5, 2) := by decide +kernel
theorem dX11_findWay_7 : decode cX11_findWay 7 = .ok (.invokevirtual 82, 3) := by decide +kernel
theorem dX11_findWay_10 : decode cX11_findWay 10 = .ok (.aload_n 0, 1) := by decide +kernel
theorem dX11_findWay_11 : decode cX11_findWay 11 = .ok (.ldc 74, 2) := by decide +kernel
theorem dX11_findWay_13 : decode cX11_findWay 13 = .ok (.putfield 85, 3) := by decide +kernel
theorem dX11_findWay_16 : decode cX11_findWay 16 = .ok (.iconst 1, 1) := by decide +kernel
theorem dX11_findWay_17 : decode cX11_findWay 17 = .ok (.istore 6, 2) := by decide +kernel
theorem dX11_findWay_19 : decode cX11_findWay 19 = .ok (.iload 6, 2) := by decide +kernel
theorem dX11_findWay_21 : decode cX11_findWay 21 = .ok (.iload 5, 2) := by decide +kernel
theorem dX11_findWay_23 : decode cX11_findWay 23 = .ok (.if_icmp .gt 50, 3) := by decide +kernel
theorem dX11_findWay_26 : decode cX11_findWay 26 = .ok (.aload_n 0, 1) := by decide +kernel
theorem dX11_findWay_27 : decode cX11_findWay 27 = .ok (.getfield 32, 3) := by decide +kernel
theorem dX11_findWay_30 : decode cX11_findWay 30 = .ok (.bipush 9, 2) := by decide +kernel
theorem dX11_findWay_32 : decode cX11_findWay 32 = .ok (.iload 6, 2) := by decide +kernel
theorem dX11_findWay_34 : decode cX11_findWay 34 = .ok (.imul, 1) := by decide +kernel
theorem dX11_findWay_35 : decode cX11_findWay 35 = .ok (.iload_n 3, 1) := by decide +kernel
theorem dX11_findWay_36 : decode cX11_findWay 36 = .ok (.iadd, 1) := by decide +kernel
theorem dX11_findWay_37 : decode cX11_findWay 37 = .ok (.iaload, 1) := by decide +kernel
theorem dX11_findWay_38 : decode cX11_findWay 38 = .ok (.aload_n 0, 1) := by decide +kernel
theorem dX11_findWay_39 : decode cX11_findWay 39 = .ok (.getfield 85, 3) := by decide +kernel
theorem dX11_findWay_42 : decode cX11_findWay 42 = .ok (.if_icmp .ge 25, 3) := by decide +kernel
theorem dX11_findWay_45 : decode cX11_findWay 45 = .ok (.aload_n 0, 1) := by decide +kernel
theorem dX11_findWay_46 : decode cX11_findWay 46 = .ok (.aload_n 0, 1) := by decide +kernel
theorem dX11_findWay_47 : decode cX11_findWay 47 = .ok (.getfield 32, 3) := by decide +kernel
theorem dX11_findWay_50 : decode cX11_findWay 50 = .ok (.bipush 9, 2) := by decide +kernel
theorem dX11_findWay_52 : decode cX11_findWay 52 = .ok (.iload 6, 2) := by decide +kernel
theorem dX11_findWay_54 : decode cX11_findWay 54 = .ok (.imul, 1) := by decide +kernel
theorem dX11_findWay_55 : decode cX11_findWay 55 = .ok (.iload_n 3, 1) := by decide +kernel
theorem dX11_findWay_56 : decode cX11_findWay 56 = .ok (.iadd, 1) := by decide +kernel
theorem dX11_findWay_57 : decode cX11_findWay 57 = .ok (.iaload, 1) := by decide +kernel
theorem dX11_findWay_58 : decode cX11_findWay 58 = .ok (.putfield 85, 3) := by decide +kernel
theorem dX11_findWay_61 : decode cX11_findWay 61 = .ok (.aload_n 0, 1) := by decide +kernel
theorem dX11_findWay_62 : decode cX11_findWay 62 = .ok (.iload 6, 2) := by decide +kernel
theorem dX11_findWay_64 : decode cX11_findWay 64 = .ok (.putfield 88, 3) := by decide +kernel
theorem dX11_findWay_67 : decode cX11_findWay 67 = .ok (.iinc 6 1, 3) := by decide +kernel
theorem dX11_findWay_70 : decode cX11_findWay 70 = .ok (.goto (-51), 3) := by decide +kernel
theorem dX11_findWay_73 : decode cX11_findWay 73 = .ok (.aload_n 0, 1) := by decide +kernel
theorem dX11_findWay_74 : decode cX11_findWay 74 = .ok (.getfield 85, 3) := by decide +kernel
theorem dX11_findWay_77 : decode cX11_findWay 77 = .ok (.ldc 74, 2) := by decide +kernel
theorem dX11_findWay_79 : decode cX11_findWay 79 = .ok (.if_icmp .ne 5, 3) := by decide +kernel
theorem dX11_findWay_82 : decode cX11_findWay 82 = .ok (.iconst 0, 1) := by decide +kernel
theorem dX11_findWay_83 : decode cX11_findWay 83 = .ok (.ireturn, 1) := by decide +kernel
theorem dX11_findWay_84 : decode cX11_findWay 84 = .ok (.aload_n 0, 1) := by decide +kernel
theorem dX11_findWay_85 : decode cX11_findWay 85 = .ok (.iconst 0, 1) := by decide +kernel
theorem dX11_findWay_86 : decode cX11_findWay 86 = .ok (.putfield 91, 3) := by decide +kernel
theorem dX11_findWay_89 : decode cX11_findWay 89 = .ok (.iload_n 3, 1) := by decide +kernel
theorem dX11_findWay_90 : decode cX11_findWay 90 = .ok (.istore 6, 2) := by decide +kernel
theorem dX11_findWay_92 : decode cX11_findWay 92 = .ok (.aload_n 0, 1) := by decide +kernel
theorem dX11_findWay_93 : decode cX11_findWay 93 = .ok (.getfield 88, 3) := by decide +kernel
theorem dX11_findWay_96 : decode cX11_findWay 96 = .ok (.istore 7, 2) := by decide +kernel
theorem dX11_findWay_98 : decode cX11_findWay 98 = .ok (.iload 7, 2) := by decide +kernel
theorem dX11_findWay_100 : decode cX11_findWay 100 = .ok (.ifCond .le 88, 3) := by decide +kernel
theorem dX11_findWay_103 : decode cX11_findWay 103 = .ok (.iconst 0, 1) := by decide +kernel
theorem dX11_findWay_104 : decode cX11_findWay 104 = .ok (.istore 8, 2) := by decide +kernel
theorem dX11_findWay_106 : decode cX11_findWay 106 = .ok (.aload_n 0, 1) := by decide +kernel
theorem dX11_findWay_107 : decode cX11_findWay 107 = .ok (.aload_n 1, 1) := by decide +kernel
theorem dX11_findWay_108 : decode cX11_findWay 108 = .ok (.iload_n 2, 1) := by decide +kernel
theorem dX11_findWay_109 : decode cX11_findWay 109 = .ok (.iload 8, 2) := by decide +kernel
theorem dX11_findWay_111 : decode cX11_findWay 111 = .ok (.iload 6, 2) := by decide +kernel
theorem dX11_findWay_113 : decode cX11_findWay 113 = .ok (.iload 7, 2) := by decide +kernel
theorem dX11_findWay_115 : decode cX11_findWay 115 = .ok (.invokevirtual 78, 3) := by decide +kernel
theorem dX11_findWay_118 : decode cX11_findWay 118 = .ok (.aload_n 0, 1) := by decide +kernel
theorem dX11_findWay_119 : decode cX11_findWay 119 = .ok (.getfield 32, 3) := by decide +kernel
theorem dX11_findWay_122 : decode cX11_findWay 122 = .ok (.bipush 9, 2) := by decide +kernel
theorem dX11_findWay_124 : decode cX11_findWay 124 = .ok (.iload 7, 2) := by decide +kernel
theorem dX11_findWay_126 : decode cX11_findWay 126 = .ok (.imul, 1) := by decide +kernel
theorem dX11_findWay_127 : decode cX11_findWay 127 = .ok (.iload 6, 2) := by decide +kernel
theorem dX11_findWay_129 : decode cX11_findWay 129 = .ok (.iadd, 1) := by decide +kernel
theorem dX11_findWay_130 : decode cX11_findWay 130 = .ok (.iaload, 1) := by decide +kernel
theorem dX11_findWay_131 : decode cX11_findWay 131 = .ok (.if_icmp .eq 9, 3) := by decide +kernel
theorem dX11_findWay_134 : decode cX11_findWay 134 = .ok (.iinc 8 1, 3) := by decide +kernel
theorem dX11_findWay_137 : decode cX11_findWay 137 = .ok (.goto (-31), 3) := by decide +kernel
theorem dX11_findWay_140 : decode cX11_findWay 140 = .ok (.aload_n 0, 1) := by decide +kernel
theorem dX11_findWay_141 : decode cX11_findWay 141 = .ok (.getfield 35, 3) := by decide +kernel
theorem dX11_findWay_144 : decode cX11_findWay 144 = .ok (.aload_n 0, 1) := by decide +kernel
theorem dX11_findWay_145 : decode cX11_findWay 145 = .ok (.getfield 91, 3) := by decide +kernel
theorem dX11_findWay_148 : decode cX11_findWay 148 = .ok (.iload 8, 2) := by decide +kernel
theorem dX11_findWay_150 : decode cX11_findWay 150 = .ok (.iastore, 1) := by decide +kernel
theorem dX11_findWay_151 : decode cX11_findWay 151 = .ok (.aload_n 0, 1) := by decide +kernel
theorem dX11_findWay_152 : decode cX11_findWay 152 = .ok (.dup, 1) := by decide +kernel
theorem dX11_findWay_153 : decode cX11_findWay 153 = .ok (.getfield 91, 3) := by decide +kernel
theorem dX11_findWay_156 : decode cX11_findWay 156 = .ok (.iconst 1, 1) := by decide +kernel
theorem dX11_findWay_157 : decode cX11_findWay 157 = .ok (.iadd, 1) := by decide +kernel
theorem dX11_findWay_158 : decode cX11_findWay 158 = .ok (.putfield 91, 3) := by decide +kernel
theorem dX11_findWay_161 : decode cX11_findWay 161 = .ok (.iload 7, 2) := by decide +kernel
theorem dX11_findWay_163 : decode cX11_findWay 163 = .ok (.aload_n 1, 1) := by decide +kernel
theorem dX11_findWay_164 : decode cX11_findWay 164 = .ok (.iload 8, 2) := by decide +kernel
theorem dX11_findWay_166 : decode cX11_findWay 166 = .ok (.invokestatic 54, 3) := by decide +kernel
theorem dX11_findWay_169 : decode cX11_findWay 169 = .ok (.iconst 2, 1) := by decide +kernel
theorem dX11_findWay_170 : decode cX11_findWay 170 = .ok (.iadd, 1) := by decide +kernel
theorem dX11_findWay_171 : decode cX11_findWay 171 = .ok (.iaload, 1) := by decide +kernel
theorem dX11_findWay_172 : decode cX11_findWay 172 = .ok (.isub, 1) := by decide +kernel
theorem dX11_findWay_173 : decode cX11_findWay 173 = .ok (.istore 7, 2) := by decide +kernel
theorem dX11_findWay_175 : decode cX11_findWay 175 = .ok (.aload_n 1, 1) := by decide +kernel
theorem dX11_findWay_176 : decode cX11_findWay 176 = .ok (.iload 8, 2) := by decide +kernel
theorem dX11_findWay_178 : decode cX11_findWay 178 = .ok (.iload 6, 2) := by decide +kernel
theorem dX11_findWay_180 : decode cX11_findWay 180 = .ok (.invokestatic 70, 3) := by decide +kernel
theorem dX11_findWay_183 : decode cX11_findWay 183 = .ok (.istore 6, 2) := by decide +kernel
theorem dX11_findWay_185 : decode cX11_findWay 185 = .ok (.goto (-87), 3) := by decide +kernel
theorem dX11_findWay_188 : decode cX11_findWay 188 = .ok (.iconst 1, 1) := by decide +kernel
theorem dX11_findWay_189 : decode cX11_findWay 189 = .ok (.ireturn, 1) := by decide +kernel
theorem dX11_why_0 : decode cX11_why 0 = .ok (.iload_n 2, 1) := by decide +kernel
theorem dX11_why_1 : decode cX11_why 1 = .ok (.invokestatic 57, 3) := by decide +kernel
theorem dX11_why_4 : decode cX11_why 4 = .ok (.istore 4, 2) := by decide +kernel
theorem dX11_why_6 : decode cX11_why 6 = .ok (.aload_n 1, 1) := by decide +kernel
theorem dX11_why_7 : decode cX11_why 7 = .ok (.iload 4, 2) := by decide +kernel
theorem dX11_why_9 : decode cX11_why 9 = .ok (.iconst 4, 1) := by decide +kernel
theorem dX11_why_10 : decode cX11_why 10 = .ok (.iadd, 1) := by decide +kernel
theorem dX11_why_11 : decode cX11_why 11 = .ok (.iaload, 1) := by decide +kernel
theorem dX11_why_12 : decode cX11_why 12 = .ok (.istore 5, 2) := by decide +kernel
theorem dX11_why_14 : decode cX11_why 14 = .ok (.iload 5, 2) := by decide +kernel
theorem dX11_why_16 : decode cX11_why 16 = .ok (.bipush (-9), 2) := by decide +kernel
theorem dX11_why_18 : decode cX11_why 18 = .ok (.if_icmp .ne 5, 3) := by decide +kernel
theorem dX11_why_21 : decode cX11_why 21 = .ok (.iconst 1, 1) := by decide +kernel
theorem dX11_why_22 : decode cX11_why 22 = .ok (.ireturn, 1) := by decide +kernel
theorem dX11_why_23 : decode cX11_why 23 = .ok (.aload_n 1, 1) := by decide +kernel
theorem dX11_why_24 : decode cX11_why 24 = .ok (.iload 4, 2) := by decide +kernel
theorem dX11_why_26 : decode cX11_why 26 = .ok (.iconst 5, 1) := by decide +kernel
theorem dX11_why_27 : decode cX11_why 27 = .ok (.iadd, 1) := by decide +kernel
theorem dX11_why_28 : decode cX11_why 28 = .ok (.iaload, 1) := by decide +kernel
theorem dX11_why_29 : decode cX11_why 29 = .ok (.iconst 1, 1) := by decide +kernel
theorem dX11_why_30 : decode cX11_why 30 = .ok (.if_icmp .ne 5, 3) := by decide +kernel
theorem dX11_why_33 : decode cX11_why 33 = .ok (.iconst 2, 1) := by decide +kernel
theorem dX11_why_34 : decode cX11_why 34 = .ok (.ireturn, 1) := by decide +kernel
theorem dX11_why_35 : decode cX11_why 35 = .ok (.aload_n 1, 1) := by decide +kernel
theorem dX11_why_36 : decode cX11_why 36 = .ok (.iload 5, 2) := by decide +kernel
theorem dX11_why_38 : decode cX11_why 38 = .ok (.iload_n 3, 1) := by decide +kernel
theorem dX11_why_39 : decode cX11_why 39 = .ok (.invokestatic 94, 3) := by decide +kernel
theorem dX11_why_42 : decode cX11_why 42 = .ok (.iconst 1, 1) := by decide +kernel
theorem dX11_why_43 : decode cX11_why 43 = .ok (.iadd, 1) := by decide +kernel
theorem dX11_why_44 : decode cX11_why 44 = .ok (.iaload, 1) := by decide +kernel
theorem dX11_why_45 : decode cX11_why 45 = .ok (.iconst 1, 1) := by decide +kernel
theorem dX11_why_46 : decode cX11_why 46 = .ok (.if_icmp .ne 5, 3) := by decide +kernel
theorem dX11_why_49 : decode cX11_why 49 = .ok (.iconst 3, 1) := by decide +kernel
theorem dX11_why_50 : decode cX11_why 50 = .ok (.ireturn, 1) := by decide +kernel
theorem dX11_why_51 : decode cX11_why 51 = .ok (.aload_n 0, 1) := by decide +kernel
theorem dX11_why_52 : decode cX11_why 52 = .ok (.aload_n 1, 1) := by decide +kernel
theorem dX11_why_53 : decode cX11_why 53 = .ok (.iload 5, 2) := by decide +kernel
theorem dX11_why_55 : decode cX11_why 55 = .ok (.aload_n 1, 1) := by decide +kernel
theorem dX11_why_56 : decode cX11_why 56 = .ok (.iload 4, 2) := by decide +kernel
theorem dX11_why_58 : decode cX11_why 58 = .ok (.iaload, 1) := by decide +kernel
theorem dX11_why_59 : decode cX11_why 59 = .ok (.aload_n 1, 1) := by decide +kernel
theorem dX11_why_60 : decode cX11_why 60 = .ok (.iload 4, 2) := by decide +kernel
theorem dX11_why_62 : decode cX11_why 62 = .ok (.iconst 1, 1) := by decide +kernel
theorem dX11_why_63 : decode cX11_why 63 = .ok (.iadd, 1) := by decide +kernel
theorem dX11_why_64 : decode cX11_why 64 = .ok (.iaload, 1) := by decide +kernel
theorem dX11_why_65 : decode cX11_why 65 = .ok (.iconst 4, 1) := by decide +kernel
theorem dX11_why_66 : decode cX11_why 66 = .ok (.aload_n 1, 1) := by decide +kernel
theorem dX11_why_67 : decode cX11_why 67 = .ok (.iload 5, 2) := by decide +kernel
theorem dX11_why_69 : decode cX11_why 69 = .ok (.iload_n 3, 1) := by decide +kernel
theorem dX11_why_70 : decode cX11_why 70 = .ok (.invokestatic 94, 3) := by decide +kernel
theorem dX11_why_73 : decode cX11_why 73 = .ok (.iaload, 1) := by decide +kernel
theorem dX11_why_74 : decode cX11_why 74 = .ok (.imul, 1) := by decide +kernel
theorem dX11_why_75 : decode cX11_why 75 = .ok (.invokevirtual 98, 3) := by decide +kernel
theorem dX11_why_78 : decode cX11_why 78 = .ok (.ifCond .eq 7, 3) := by decide +kernel
theorem dX11_why_81 : decode cX11_why 81 = .ok (.iconst 0, 1) := by decide +kernel
theorem dX11_why_82 : decode cX11_why 82 = .ok (.goto 4, 3) := by decide +kernel
theorem dX11_why_85 : decode cX11_why 85 = .ok (.iconst 4, 1) := by decide +kernel
theorem dX11_why_86 : decode cX11_why 86 = .ok (.ireturn, 1) := by decide +kernel
theorem dX11_runOn_0 : decode cX11_runOn 0 = .ok (.iload_n 2, 1) := by decide +kernel
theorem dX11_runOn_1 : decode cX11_runOn 1 = .ok (.invokestatic 57, 3) := by decide +kernel
theorem dX11_runOn_4 : decode cX11_runOn 4 = .ok (.istore 4, 2) := by decide +kernel
theorem dX11_runOn_6 : decode cX11_runOn 6 = .ok (.aload_n 1, 1) := by decide +kernel
theorem dX11_runOn_7 : decode cX11_runOn 7 = .ok (.iload 4, 2) := by decide +kernel
theorem dX11_runOn_9 : decode cX11_runOn 9 = .ok (.iconst 4, 1) := by decide +kernel
theorem dX11_runOn_10 : decode cX11_runOn 10 = .ok (.iadd, 1) := by decide +kernel
theorem dX11_runOn_11 : decode cX11_runOn 11 = .ok (.iaload, 1) := by decide +kernel
theorem dX11_runOn_12 : decode cX11_runOn 12 = .ok (.istore 5, 2) := by decide +kernel
theorem dX11_runOn_14 : decode cX11_runOn 14 = .ok (.aload_n 0, 1) := by decide +kernel
theorem dX11_runOn_15 : decode cX11_runOn 15 = .ok (.aload_n 1, 1) := by decide +kernel
theorem dX11_runOn_16 : decode cX11_runOn 16 = .ok (.iload 5, 2) := by decide +kernel
theorem dX11_runOn_18 : decode cX11_runOn 18 = .ok (.aload_n 1, 1) := by decide +kernel
theorem dX11_runOn_19 : decode cX11_runOn 19 = .ok (.iload 4, 2) := by decide +kernel
theorem dX11_runOn_21 : decode cX11_runOn 21 = .ok (.iaload, 1) := by decide +kernel
theorem dX11_runOn_22 : decode cX11_runOn 22 = .ok (.aload_n 1, 1) := by decide +kernel
theorem dX11_runOn_23 : decode cX11_runOn 23 = .ok (.iload 4, 2) := by decide +kernel
theorem dX11_runOn_25 : decode cX11_runOn 25 = .ok (.iconst 1, 1) := by decide +kernel
theorem dX11_runOn_26 : decode cX11_runOn 26 = .ok (.iadd, 1) := by decide +kernel
theorem dX11_runOn_27 : decode cX11_runOn 27 = .ok (.iaload, 1) := by decide +kernel
theorem dX11_runOn_28 : decode cX11_runOn 28 = .ok (.iconst 4, 1) := by decide +kernel
theorem dX11_runOn_29 : decode cX11_runOn 29 = .ok (.aload_n 1, 1) := by decide +kernel
theorem dX11_runOn_30 : decode cX11_runOn 30 = .ok (.iload 5, 2) := by decide +kernel
theorem dX11_runOn_32 : decode cX11_runOn 32 = .ok (.iload_n 3, 1) := by decide +kernel
theorem dX11_runOn_33 : decode cX11_runOn 33 = .ok (.invokestatic 94, 3) := by decide +kernel
theorem dX11_runOn_36 : decode cX11_runOn 36 = .ok (.iaload, 1) := by decide +kernel
theorem dX11_runOn_37 : decode cX11_runOn 37 = .ok (.imul, 1) := by decide +kernel
theorem dX11_runOn_38 : decode cX11_runOn 38 = .ok (.invokevirtual 98, 3) := by decide +kernel
theorem dX11_runOn_41 : decode cX11_runOn 41 = .ok (.pop, 1) := by decide +kernel
theorem dX11_runOn_42 : decode cX11_runOn 42 = .ok (.iconst 0, 1) := by decide +kernel
theorem dX11_runOn_43 : decode cX11_runOn 43 = .ok (.istore 6, 2) := by decide +kernel
theorem dX11_runOn_45 : decode cX11_runOn 45 = .ok (.iload 6, 2) := by decide +kernel
theorem dX11_runOn_47 : decode cX11_runOn 47 = .ok (.aload_n 0, 1) := by decide +kernel
theorem dX11_runOn_48 : decode cX11_runOn 48 = .ok (.getfield 91, 3) := by decide +kernel
theorem dX11_runOn_51 : decode cX11_runOn 51 = .ok (.if_icmp .ge 105, 3) := by decide +kernel
theorem dX11_runOn_54 : decode cX11_runOn 54 = .ok (.aload_n 1, 1) := by decide +kernel
theorem dX11_runOn_55 : decode cX11_runOn 55 = .ok (.iload 5, 2) := by decide +kernel
theorem dX11_runOn_57 : decode cX11_runOn 57 = .ok (.aload_n 0, 1) := by decide +kernel
theorem dX11_runOn_58 : decode cX11_runOn 58 = .ok (.getfield 35, 3) := by decide +kernel
theorem dX11_runOn_61 : decode cX11_runOn 61 = .ok (.iload 6, 2) := by decide +kernel
theorem dX11_runOn_63 : decode cX11_runOn 63 = .ok (.iaload, 1) := by decide +kernel
theorem dX11_runOn_64 : decode cX11_runOn 64 = .ok (.invokestatic 75, 3) := by decide +kernel
theorem dX11_runOn_67 : decode cX11_runOn 67 = .ok (.istore 7, 2) := by decide +kernel
theorem dX11_runOn_69 : decode cX11_runOn 69 = .ok (.aload_n 1, 1) := by decide +kernel
theorem dX11_runOn_70 : decode cX11_runOn 70 = .ok (.aload_n 0, 1) := by decide +kernel
theorem dX11_runOn_71 : decode cX11_runOn 71 = .ok (.getfield 35, 3) := by decide +kernel
theorem dX11_runOn_74 : decode cX11_runOn 74 = .ok (.iload 6, 2) := by decide +kernel
theorem dX11_runOn_76 : decode cX11_runOn 76 = .ok (.iaload, 1) := by decide +kernel
theorem dX11_runOn_77 : decode cX11_runOn 77 = .ok (.invokestatic 54, 3) := by decide +kernel
theorem dX11_runOn_80 : decode cX11_runOn 80 = .ok (.iconst 3, 1) := by decide +kernel
theorem dX11_runOn_81 : decode cX11_runOn 81 = .ok (.iadd, 1) := by decide +kernel
theorem dX11_runOn_82 : decode cX11_runOn 82 = .ok (.iaload, 1) := by decide +kernel
theorem dX11_runOn_83 : decode cX11_runOn 83 = .ok (.istore 8, 2) := by decide +kernel
theorem dX11_runOn_85 : decode cX11_runOn 85 = .ok (.iload 8, 2) := by decide +kernel
theorem dX11_runOn_87 : decode cX11_runOn 87 = .ok (.bipush (-9), 2) := by decide +kernel
theorem dX11_runOn_89 : decode cX11_runOn 89 = .ok (.if_icmp .ne 14, 3) := by decide +kernel
theorem dX11_runOn_92 : decode cX11_runOn 92 = .ok (.aload_n 1, 1) := by decide +kernel
theorem dX11_runOn_93 : decode cX11_runOn 93 = .ok (.iconst 5, 1) := by decide +kernel
theorem dX11_runOn_94 : decode cX11_runOn 94 = .ok (.dup2, 1) := by decide +kernel
theorem dX11_runOn_95 : decode cX11_runOn 95 = .ok (.iaload, 1) := by decide +kernel
theorem dX11_runOn_96 : decode cX11_runOn 96 = .ok (.iload 7, 2) := by decide +kernel
theorem dX11_runOn_98 : decode cX11_runOn 98 = .ok (.iadd, 1) := by decide +kernel
theorem dX11_runOn_99 : decode cX11_runOn 99 = .ok (.iastore, 1) := by decide +kernel
theorem dX11_runOn_100 : decode cX11_runOn 100 = .ok (.goto 29, 3) := by decide +kernel
theorem dX11_runOn_103 : decode cX11_runOn 103 = .ok (.aload_n 1, 1) := by decide +kernel
theorem dX11_runOn_104 : decode cX11_runOn 104 = .ok (.iload 8, 2) := by decide +kernel
theorem dX11_runOn_106 : decode cX11_runOn 106 = .ok (.invokestatic 50, 3) := by decide +kernel
theorem dX11_runOn_109 : decode cX11_runOn 109 = .ok (.dup2, 1) := by decide +kernel
theorem dX11_runOn_110 : decode cX11_runOn 110 = .ok (.iaload, 1) := by decide +kernel
theorem dX11_runOn_111 : decode cX11_runOn 111 = .ok (.iload 7, 2) := by decide +kernel
theorem dX11_runOn_113 : decode cX11_runOn 113 = .ok (.iadd, 1) := by decide +kernel
theorem dX11_runOn_114 : decode cX11_runOn 114 = .ok (.iastore, 1) := by decide +kernel
theorem dX11_runOn_115 : decode cX11_runOn 115 = .ok (.aload_n 1, 1) := by decide +kernel
theorem dX11_runOn_116 : decode cX11_runOn 116 = .ok (.iload 8, 2) := by decide +kernel
theorem dX11_runOn_118 : decode cX11_runOn 118 = .ok (.invokestatic 50, 3) := by decide +kernel
theorem dX11_runOn_121 : decode cX11_runOn 121 = .ok (.iconst 3, 1) := by decide +kernel
theorem dX11_runOn_122 : decode cX11_runOn 122 = .ok (.iadd, 1) := by decide +kernel
theorem dX11_runOn_123 : decode cX11_runOn 123 = .ok (.dup2, 1) := by decide +kernel
theorem dX11_runOn_124 : decode cX11_runOn 124 = .ok (.iaload, 1) := by decide +kernel
theorem dX11_runOn_125 : decode cX11_runOn 125 = .ok (.iload 7, 2) := by decide +kernel
theorem dX11_runOn_127 : decode cX11_runOn 127 = .ok (.iadd, 1) := by decide +kernel
theorem dX11_runOn_128 : decode cX11_runOn 128 = .ok (.iastore, 1) := by decide +kernel
theorem dX11_runOn_129 : decode cX11_runOn 129 = .ok (.aload_n 1, 1) := by decide +kernel
theorem dX11_runOn_130 : decode cX11_runOn 130 = .ok (.iload 5, 2) := by decide +kernel
theorem dX11_runOn_132 : decode cX11_runOn 132 = .ok (.invokestatic 50, 3) := by decide +kernel
theorem dX11_runOn_135 : decode cX11_runOn 135 = .ok (.dup2, 1) := by decide +kernel
theorem dX11_runOn_136 : decode cX11_runOn 136 = .ok (.iaload, 1) := by decide +kernel
theorem dX11_runOn_137 : decode cX11_runOn 137 = .ok (.iload 7, 2) := by decide +kernel
theorem dX11_runOn_139 : decode cX11_runOn 139 = .ok (.isub, 1) := by decide +kernel
theorem dX11_runOn_140 : decode cX11_runOn 140 = .ok (.iastore, 1) := by decide +kernel
theorem dX11_runOn_141 : decode cX11_runOn 141 = .ok (.aload_n 1, 1) := by decide +kernel
theorem dX11_runOn_142 : decode cX11_runOn 142 = .ok (.bipush 6, 2) := by decide +kernel
theorem dX11_runOn_144 : decode cX11_runOn 144 = .ok (.dup2, 1) := by decide +kernel
theorem dX11_runOn_145 : decode cX11_runOn 145 = .ok (.iaload, 1) := by decide +kernel
theorem dX11_runOn_146 : decode cX11_runOn 146 = .ok (.iload 7, 2) := by decide +kernel
theorem dX11_runOn_148 : decode cX11_runOn 148 = .ok (.iadd, 1) := by decide +kernel
theorem dX11_runOn_149 : decode cX11_runOn 149 = .ok (.iastore, 1) := by decide +kernel
theorem dX11_runOn_150 : decode cX11_runOn 150 = .ok (.iinc 6 1, 3) := by decide +kernel
theorem dX11_runOn_153 : decode cX11_runOn 153 = .ok (.goto (-108), 3) := by decide +kernel
theorem dX11_runOn_156 : decode cX11_runOn 156 = .ok (.aload_n 1, 1) := by decide +kernel
theorem dX11_runOn_157 : decode cX11_runOn 157 = .ok (.iconst 5, 1) := by decide +kernel
theorem dX11_runOn_158 : decode cX11_runOn 158 = .ok (.dup2, 1) := by decide +kernel
theorem dX11_runOn_159 : decode cX11_runOn 159 = .ok (.iaload, 1) := by decide +kernel
theorem dX11_runOn_160 : decode cX11_runOn 160 = .ok (.aload_n 1, 1) := by decide +kernel
theorem dX11_runOn_161 : decode cX11_runOn 161 = .ok (.iload 4, 2) := by decide +kernel
theorem dX11_runOn_163 : decode cX11_runOn 163 = .ok (.iconst 2, 1) := by decide +kernel
theorem dX11_runOn_164 : decode cX11_runOn 164 = .ok (.iadd, 1) := by decide +kernel
theorem dX11_runOn_165 : decode cX11_runOn 165 = .ok (.iaload, 1) := by decide +kernel
theorem dX11_runOn_166 : decode cX11_runOn 166 = .ok (.isub, 1) := by decide +kernel
theorem dX11_runOn_167 : decode cX11_runOn 167 = .ok (.iastore, 1) := by decide +kernel
theorem dX11_runOn_168 : decode cX11_runOn 168 = .ok (.aload_n 1, 1) := by decide +kernel
theorem dX11_runOn_169 : decode cX11_runOn 169 = .ok (.iload 5, 2) := by decide +kernel
theorem dX11_runOn_171 : decode cX11_runOn 171 = .ok (.invokestatic 50, 3) := by decide +kernel
theorem dX11_runOn_174 : decode cX11_runOn 174 = .ok (.dup2, 1) := by decide +kernel
theorem dX11_runOn_175 : decode cX11_runOn 175 = .ok (.iaload, 1) := by decide +kernel
theorem dX11_runOn_176 : decode cX11_runOn 176 = .ok (.aload_n 1, 1) := by decide +kernel
theorem dX11_runOn_177 : decode cX11_runOn 177 = .ok (.iload 4, 2) := by decide +kernel
theorem dX11_runOn_179 : decode cX11_runOn 179 = .ok (.iconst 2, 1) := by decide +kernel
theorem dX11_runOn_180 : decode cX11_runOn 180 = .ok (.iadd, 1) := by decide +kernel
theorem dX11_runOn_181 : decode cX11_runOn 181 = .ok (.iaload, 1) := by decide +kernel
theorem dX11_runOn_182 : decode cX11_runOn 182 = .ok (.iadd, 1) := by decide +kernel
theorem dX11_runOn_183 : decode cX11_runOn 183 = .ok (.iastore, 1) := by decide +kernel
theorem dX11_runOn_184 : decode cX11_runOn 184 = .ok (.aload_n 1, 1) := by decide +kernel
theorem dX11_runOn_185 : decode cX11_runOn 185 = .ok (.bipush 7, 2) := by decide +kernel
theorem dX11_runOn_187 : decode cX11_runOn 187 = .ok (.dup2, 1) := by decide +kernel
theorem dX11_runOn_188 : decode cX11_runOn 188 = .ok (.iaload, 1) := by decide +kernel
theorem dX11_runOn_189 : decode cX11_runOn 189 = .ok (.aload_n 1, 1) := by decide +kernel
theorem dX11_runOn_190 : decode cX11_runOn 190 = .ok (.iload 4, 2) := by decide +kernel
theorem dX11_runOn_192 : decode cX11_runOn 192 = .ok (.iconst 2, 1) := by decide +kernel
theorem dX11_runOn_193 : decode cX11_runOn 193 = .ok (.iadd, 1) := by decide +kernel
theorem dX11_runOn_194 : decode cX11_runOn 194 = .ok (.iaload, 1) := by decide +kernel
theorem dX11_runOn_195 : decode cX11_runOn 195 = .ok (.iadd, 1) := by decide +kernel
theorem dX11_runOn_196 : decode cX11_runOn 196 = .ok (.iastore, 1) := by decide +kernel
theorem dX11_runOn_197 : decode cX11_runOn 197 = .ok (.aload_n 1, 1) := by decide +kernel
theorem dX11_runOn_198 : decode cX11_runOn 198 = .ok (.iload 4, 2) := by decide +kernel
theorem dX11_runOn_200 : decode cX11_runOn 200 = .ok (.iconst 5, 1) := by decide +kernel
theorem dX11_runOn_201 : decode cX11_runOn 201 = .ok (.iadd, 1) := by decide +kernel
theorem dX11_runOn_202 : decode cX11_runOn 202 = .ok (.iconst 1, 1) := by decide +kernel
theorem dX11_runOn_203 : decode cX11_runOn 203 = .ok (.iastore, 1) := by decide +kernel
theorem dX11_runOn_204 : decode cX11_runOn 204 = .ok (.aload_n 1, 1) := by decide +kernel
theorem dX11_runOn_205 : decode cX11_runOn 205 = .ok (.iload 5, 2) := by decide +kernel
theorem dX11_runOn_207 : decode cX11_runOn 207 = .ok (.iload_n 3, 1) := by decide +kernel
theorem dX11_runOn_208 : decode cX11_runOn 208 = .ok (.invokestatic 94, 3) := by decide +kernel
theorem dX11_runOn_211 : decode cX11_runOn 211 = .ok (.iconst 1, 1) := by decide +kernel
theorem dX11_runOn_212 : decode cX11_runOn 212 = .ok (.iadd, 1) := by decide +kernel
theorem dX11_runOn_213 : decode cX11_runOn 213 = .ok (.iconst 1, 1) := by decide +kernel
theorem dX11_runOn_214 : decode cX11_runOn 214 = .ok (.iastore, 1) := by decide +kernel
theorem dX11_runOn_215 : decode cX11_runOn 215 = .ok (.aload_n 0, 1) := by decide +kernel
theorem dX11_runOn_216 : decode cX11_runOn 216 = .ok (.getfield 85, 3) := by decide +kernel
theorem dX11_runOn_219 : decode cX11_runOn 219 = .ok (.ireturn, 1) := by decide +kernel
theorem dX11_toBank_0 : decode cX11_toBank 0 = .ok (.aload_n 0, 1) := by decide +kernel
theorem dX11_toBank_1 : decode cX11_toBank 1 = .ok (.iload_n 1, 1) := by decide +kernel
theorem dX11_toBank_2 : decode cX11_toBank 2 = .ok (.invokestatic 50, 3) := by decide +kernel
theorem dX11_toBank_5 : decode cX11_toBank 5 = .ok (.dup2, 1) := by decide +kernel
theorem dX11_toBank_6 : decode cX11_toBank 6 = .ok (.iaload, 1) := by decide +kernel
theorem dX11_toBank_7 : decode cX11_toBank 7 = .ok (.iload_n 2, 1) := by decide +kernel
theorem dX11_toBank_8 : decode cX11_toBank 8 = .ok (.isub, 1) := by decide +kernel
theorem dX11_toBank_9 : decode cX11_toBank 9 = .ok (.iastore, 1) := by decide +kernel
theorem dX11_toBank_10 : decode cX11_toBank 10 = .ok (.aload_n 0, 1) := by decide +kernel
theorem dX11_toBank_11 : decode cX11_toBank 11 = .ok (.iconst 5, 1) := by decide +kernel
theorem dX11_toBank_12 : decode cX11_toBank 12 = .ok (.dup2, 1) := by decide +kernel
theorem dX11_toBank_13 : decode cX11_toBank 13 = .ok (.iaload, 1) := by decide +kernel
theorem dX11_toBank_14 : decode cX11_toBank 14 = .ok (.iload_n 2, 1) := by decide +kernel
theorem dX11_toBank_15 : decode cX11_toBank 15 = .ok (.iadd, 1) := by decide +kernel
theorem dX11_toBank_16 : decode cX11_toBank 16 = .ok (.iastore, 1) := by decide +kernel
theorem dX11_toBank_17 : decode cX11_toBank 17 = .ok (.return_, 1) := by decide +kernel
theorem dX11_dropContract_0 : decode cX11_dropContract 0 = .ok (.iload_n 1, 1) := by decide +kernel
theorem dX11_dropContract_1 : decode cX11_dropContract 1 = .ok (.invokestatic 57, 3) := by decide +kernel
theorem dX11_dropContract_4 : decode cX11_dropContract 4 = .ok (.istore_n 2, 1) := by decide +kernel
theorem dX11_dropContract_5 : decode cX11_dropContract 5 = .ok (.iload_n 2, 1) := by decide +kernel
theorem dX11_dropContract_6 : decode cX11_dropContract 6 = .ok (.bipush 6, 2) := by decide +kernel
theorem dX11_dropContract_8 : decode cX11_dropContract 8 = .ok (.iadd, 1) := by decide +kernel
theorem dX11_dropContract_9 : decode cX11_dropContract 9 = .ok (.sipush 175, 3) := by decide +kernel
theorem dX11_dropContract_12 : decode cX11_dropContract 12 = .ok (.if_icmp .ge 18, 3) := by decide +kernel
theorem dX11_dropContract_15 : decode cX11_dropContract 15 = .ok (.aload_n 0, 1) := by decide +kernel
theorem dX11_dropContract_16 : decode cX11_dropContract 16 = .ok (.iload_n 2, 1) := by decide +kernel
theorem dX11_dropContract_17 : decode cX11_dropContract 17 = .ok (.aload_n 0, 1) := by decide +kernel
theorem dX11_dropContract_18 : decode cX11_dropContract 18 = .ok (.iload_n 2, 1) := by decide +kernel
theorem dX11_dropContract_19 : decode cX11_dropContract 19 = .ok (.bipush 6, 2) := by decide +kernel
theorem dX11_dropContract_21 : decode cX11_dropContract 21 = .ok (.iadd, 1) := by decide +kernel
theorem dX11_dropContract_22 : decode cX11_dropContract 22 = .ok (.iaload, 1) := by decide +kernel
theorem dX11_dropContract_23 : decode cX11_dropContract 23 = .ok (.iastore, 1) := by decide +kernel
theorem dX11_dropContract_24 : decode cX11_dropContract 24 = .ok (.iinc 2 1, 3) := by decide +kernel
theorem dX11_dropContract_27 : decode cX11_dropContract 27 = .ok (.goto (-22), 3) := by decide +kernel
theorem dX11_dropContract_30 : decode cX11_dropContract 30 = .ok (.aload_n 0, 1) := by decide +kernel
theorem dX11_dropContract_31 : decode cX11_dropContract 31 = .ok (.iconst 2, 1) := by decide +kernel
theorem dX11_dropContract_32 : decode cX11_dropContract 32 = .ok (.dup2, 1) := by decide +kernel
theorem dX11_dropContract_33 : decode cX11_dropContract 33 = .ok (.iaload, 1) := by decide +kernel
theorem dX11_dropContract_34 : decode cX11_dropContract 34 = .ok (.iconst 1, 1) := by decide +kernel
theorem dX11_dropContract_35 : decode cX11_dropContract 35 = .ok (.isub, 1) := by decide +kernel
theorem dX11_dropContract_36 : decode cX11_dropContract 36 = .ok (.iastore, 1) := by decide +kernel
theorem dX11_dropContract_37 : decode cX11_dropContract 37 = .ok (.return_, 1) := by decide +kernel
theorem dX11_endContracts_0 : decode cX11_endContracts 0 = .ok (.iconst 0, 1) := by decide +kernel
theorem dX11_endContracts_1 : decode cX11_endContracts 1 = .ok (.istore_n 1, 1) := by decide +kernel
theorem dX11_endContracts_2 : decode cX11_endContracts 2 = .ok (.iload_n 1, 1) := by decide +kernel
theorem dX11_endContracts_3 : decode cX11_endContracts 3 = .ok (.aload_n 0, 1) := by decide +kernel
theorem dX11_endContracts_4 : decode cX11_endContracts 4 = .ok (.iconst 2, 1) := by decide +kernel
theorem dX11_endContracts_5 : decode cX11_endContracts 5 = .ok (.iaload, 1) := by decide +kernel
theorem dX11_endContracts_6 : decode cX11_endContracts 6 = .ok (.if_icmp .ge 79, 3) := by decide +kernel
theorem dX11_endContracts_9 : decode cX11_endContracts 9 = .ok (.iload_n 1, 1) := by decide +kernel
theorem dX11_endContracts_10 : decode cX11_endContracts 10 = .ok (.invokestatic 57, 3) := by decide +kernel
theorem dX11_endContracts_13 : decode cX11_endContracts 13 = .ok (.istore_n 2, 1) := by decide +kernel
theorem dX11_endContracts_14 : decode cX11_endContracts 14 = .ok (.aload_n 0, 1) := by decide +kernel
theorem dX11_endContracts_15 : decode cX11_endContracts 15 = .ok (.iload_n 2, 1) := by decide +kernel
theorem dX11_endContracts_16 : decode cX11_endContracts 16 = .ok (.iconst 4, 1) := by decide +kernel
theorem dX11_endContracts_17 : decode cX11_endContracts 17 = .ok (.iadd, 1) := by decide +kernel
theorem dX11_endContracts_18 : decode cX11_endContracts 18 = .ok (.iaload, 1) := by decide +kernel
theorem dX11_endContracts_19 : decode cX11_endContracts 19 = .ok (.istore_n 3, 1) := by decide +kernel
theorem dX11_endContracts_20 : decode cX11_endContracts 20 = .ok (.iload_n 3, 1) := by decide +kernel
theorem dX11_endContracts_21 : decode cX11_endContracts 21 = .ok (.bipush (-9), 2) := by decide +kernel
theorem dX11_endContracts_23 : decode cX11_endContracts 23 = .ok (.if_icmp .eq 34, 3) := by decide +kernel
theorem dX11_endContracts_26 : decode cX11_endContracts 26 = .ok (.aload_n 0, 1) := by decide +kernel
theorem dX11_endContracts_27 : decode cX11_endContracts 27 = .ok (.iload_n 2, 1) := by decide +kernel
theorem dX11_endContracts_28 : decode cX11_endContracts 28 = .ok (.iconst 5, 1) := by decide +kernel
theorem dX11_endContracts_29 : decode cX11_endContracts 29 = .ok (.iadd, 1) := by decide +kernel
theorem dX11_endContracts_30 : decode cX11_endContracts 30 = .ok (.iaload, 1) := by decide +kernel
theorem dX11_endContracts_31 : decode cX11_endContracts 31 = .ok (.ifCond .ne 17, 3) := by decide +kernel
theorem dX11_endContracts_34 : decode cX11_endContracts 34 = .ok (.aload_n 0, 1) := by decide +kernel
theorem dX11_endContracts_35 : decode cX11_endContracts 35 = .ok (.iload_n 3, 1) := by decide +kernel
theorem dX11_endContracts_36 : decode cX11_endContracts 36 = .ok (.iconst 5, 1) := by decide +kernel
theorem dX11_endContracts_37 : decode cX11_endContracts 37 = .ok (.invokestatic 102, 3) := by decide +kernel
theorem dX11_endContracts_40 : decode cX11_endContracts 40 = .ok (.aload_n 0, 1) := by decide +kernel
theorem dX11_endContracts_41 : decode cX11_endContracts 41 = .ok (.bipush 8, 2) := by decide +kernel
theorem dX11_endContracts_43 : decode cX11_endContracts 43 = .ok (.dup2, 1) := by decide +kernel
theorem dX11_endContracts_44 : decode cX11_endContracts 44 = .ok (.iaload, 1) := by decide +kernel
theorem dX11_endContracts_45 : decode cX11_endContracts 45 = .ok (.iconst 5, 1) := by decide +kernel
theorem dX11_endContracts_46 : decode cX11_endContracts 46 = .ok (.iadd, 1) := by decide +kernel
theorem dX11_endContracts_47 : decode cX11_endContracts 47 = .ok (.iastore, 1) := by decide +kernel
theorem dX11_endContracts_48 : decode cX11_endContracts 48 = .ok (.aload_n 0, 1) := by decide +kernel
theorem dX11_endContracts_49 : decode cX11_endContracts 49 = .ok (.iload_n 2, 1) := by decide +kernel
theorem dX11_endContracts_50 : decode cX11_endContracts 50 = .ok (.iconst 3, 1) := by decide +kernel
theorem dX11_endContracts_51 : decode cX11_endContracts 51 = .ok (.iadd, 1) := by decide +kernel
theorem dX11_endContracts_52 : decode cX11_endContracts 52 = .ok (.dup2, 1) := by decide +kernel
theorem dX11_endContracts_53 : decode cX11_endContracts 53 = .ok (.iaload, 1) := by decide +kernel
theorem dX11_endContracts_54 : decode cX11_endContracts 54 = .ok (.iconst 1, 1) := by decide +kernel
theorem dX11_endContracts_55 : decode cX11_endContracts 55 = .ok (.isub, 1) := by decide +kernel
theorem dX11_endContracts_56 : decode cX11_endContracts 56 = .ok (.iastore, 1) := by decide +kernel
theorem dX11_endContracts_57 : decode cX11_endContracts 57 = .ok (.aload_n 0, 1) := by decide +kernel
theorem dX11_endContracts_58 : decode cX11_endContracts 58 = .ok (.iload_n 2, 1) := by decide +kernel
theorem dX11_endContracts_59 : decode cX11_endContracts 59 = .ok (.iconst 5, 1) := by decide +kernel
theorem dX11_endContracts_60 : decode cX11_endContracts 60 = .ok (.iadd, 1) := by decide +kernel
theorem dX11_endContracts_61 : decode cX11_endContracts 61 = .ok (.iconst 0, 1) := by decide +kernel
theorem dX11_endContracts_62 : decode cX11_endContracts 62 = .ok (.iastore, 1) := by decide +kernel
theorem dX11_endContracts_63 : decode cX11_endContracts 63 = .ok (.aload_n 0, 1) := by decide +kernel
theorem dX11_endContracts_64 : decode cX11_endContracts 64 = .ok (.iload_n 2, 1) := by decide +kernel
theorem dX11_endContracts_65 : decode cX11_endContracts 65 = .ok (.iconst 3, 1) := by decide +kernel
theorem dX11_endContracts_66 : decode cX11_endContracts 66 = .ok (.iadd, 1) := by decide +kernel
theorem dX11_endContracts_67 : decode cX11_endContracts 67 = .ok (.iaload, 1) := by decide +kernel
theorem dX11_endContracts_68 : decode cX11_endContracts 68 = .ok (.ifCond .ne 11, 3) := by decide +kernel
theorem dX11_endContracts_71 : decode cX11_endContracts 71 = .ok (.aload_n 0, 1) := by decide +kernel
theorem dX11_endContracts_72 : decode cX11_endContracts 72 = .ok (.iload_n 1, 1) := by decide +kernel
theorem dX11_endContracts_73 : decode cX11_endContracts 73 = .ok (.invokestatic 106, 3) := by decide +kernel
theorem dX11_endContracts_76 : decode cX11_endContracts 76 = .ok (.goto 6, 3) := by decide +kernel
theorem dX11_endContracts_79 : decode cX11_endContracts 79 = .ok (.iinc 1 1, 3) := by decide +kernel
theorem dX11_endContracts_82 : decode cX11_endContracts 82 = .ok (.goto (-80), 3) := by decide +kernel
theorem dX11_endContracts_85 : decode cX11_endContracts 85 = .ok (.return_, 1) := by decide +kernel
theorem dX11_tracksOf_0 : decode cX11_tracksOf 0 = .ok (.iconst 0, 1) := by decide +kernel
theorem dX11_tracksOf_1 : decode cX11_tracksOf 1 = .ok (.istore_n 3, 1) := by decide +kernel
theorem dX11_tracksOf_2 : decode cX11_tracksOf 2 = .ok (.iconst 0, 1) := by decide +kernel
theorem dX11_tracksOf_3 : decode cX11_tracksOf 3 = .ok (.istore 4, 2) := by decide +kernel
theorem dX11_tracksOf_5 : decode cX11_tracksOf 5 = .ok (.iload 4, 2) := by decide +kernel
theorem dX11_tracksOf_7 : decode cX11_tracksOf 7 = .ok (.aload_n 0, 1) := by decide +kernel
theorem dX11_tracksOf_8 : decode cX11_tracksOf 8 = .ok (.iconst 1, 1) := by decide +kernel
theorem dX11_tracksOf_9 : decode cX11_tracksOf 9 = .ok (.iaload, 1) := by decide +kernel
theorem dX11_tracksOf_10 : decode cX11_tracksOf 10 = .ok (.if_icmp .ge 46, 3) := by decide +kernel
theorem dX11_tracksOf_13 : decode cX11_tracksOf 13 = .ok (.iload_n 3, 1) := by decide +kernel
theorem dX11_tracksOf_14 : decode cX11_tracksOf 14 = .ok (.aload_n 0, 1) := by decide +kernel
theorem dX11_tracksOf_15 : decode cX11_tracksOf 15 = .ok (.iload 4, 2) := by decide +kernel
theorem dX11_tracksOf_17 : decode cX11_tracksOf 17 = .ok (.invokestatic 54, 3) := by decide +kernel
theorem dX11_tracksOf_20 : decode cX11_tracksOf 20 = .ok (.iconst 3, 1) := by decide +kernel
theorem dX11_tracksOf_21 : decode cX11_tracksOf 21 = .ok (.iadd, 1) := by decide +kernel
theorem dX11_tracksOf_22 : decode cX11_tracksOf 22 = .ok (.iaload, 1) := by decide +kernel
theorem dX11_tracksOf_23 : decode cX11_tracksOf 23 = .ok (.iload_n 1, 1) := by decide +kernel
theorem dX11_tracksOf_24 : decode cX11_tracksOf 24 = .ok (.if_icmp .ne 23, 3) := by decide +kernel
theorem dX11_tracksOf_27 : decode cX11_tracksOf 27 = .ok (.iload_n 2, 1) := by decide +kernel
theorem dX11_tracksOf_28 : decode cX11_tracksOf 28 = .ok (.ifCond .eq 15, 3) := by decide +kernel
theorem dX11_tracksOf_31 : decode cX11_tracksOf 31 = .ok (.aload_n 0, 1) := by decide +kernel
theorem dX11_tracksOf_32 : decode cX11_tracksOf 32 = .ok (.iload 4, 2) := by decide +kernel
theorem dX11_tracksOf_34 : decode cX11_tracksOf 34 = .ok (.invokestatic 54, 3) := by decide +kernel
theorem dX11_tracksOf_37 : decode cX11_tracksOf 37 = .ok (.iconst 2, 1) := by decide +kernel
theorem dX11_tracksOf_38 : decode cX11_tracksOf 38 = .ok (.iadd, 1) := by decide +kernel
theorem dX11_tracksOf_39 : decode cX11_tracksOf 39 = .ok (.iaload, 1) := by decide +kernel
theorem dX11_tracksOf_40 : decode cX11_tracksOf 40 = .ok (.goto 8, 3) := by decide +kernel
theorem dX11_tracksOf_43 : decode cX11_tracksOf 43 = .ok (.iconst 1, 1) := by decide +kernel
theorem dX11_tracksOf_44 : decode cX11_tracksOf 44 = .ok (.goto 4, 3) := by decide +kernel
theorem dX11_tracksOf_47 : decode cX11_tracksOf 47 = .ok (.iconst 0, 1) := by decide +kernel
theorem dX11_tracksOf_48 : decode cX11_tracksOf 48 = .ok (.iadd, 1) := by decide +kernel
theorem dX11_tracksOf_49 : decode cX11_tracksOf 49 = .ok (.istore_n 3, 1) := by decide +kernel
theorem dX11_tracksOf_50 : decode cX11_tracksOf 50 = .ok (.iinc 4 1, 3) := by decide +kernel
theorem dX11_tracksOf_53 : decode cX11_tracksOf 53 = .ok (.goto (-48), 3) := by decide +kernel
theorem dX11_tracksOf_56 : decode cX11_tracksOf 56 = .ok (.iload_n 3, 1) := by decide +kernel
theorem dX11_tracksOf_57 : decode cX11_tracksOf 57 = .ok (.ireturn, 1) := by decide +kernel
theorem dX11_levelsOf_0 : decode cX11_levelsOf 0 = .ok (.iconst 0, 1) := by decide +kernel
theorem dX11_levelsOf_1 : decode cX11_levelsOf 1 = .ok (.istore_n 2, 1) := by decide +kernel
theorem dX11_levelsOf_2 : decode cX11_levelsOf 2 = .ok (.iconst 0, 1) := by decide +kernel
theorem dX11_levelsOf_3 : decode cX11_levelsOf 3 = .ok (.istore_n 3, 1) := by decide +kernel
theorem dX11_levelsOf_4 : decode cX11_levelsOf 4 = .ok (.iload_n 3, 1) := by decide +kernel
theorem dX11_levelsOf_5 : decode cX11_levelsOf 5 = .ok (.aload_n 0, 1) := by decide +kernel
theorem dX11_levelsOf_6 : decode cX11_levelsOf 6 = .ok (.iload_n 1, 1) := by decide +kernel
theorem dX11_levelsOf_7 : decode cX11_levelsOf 7 = .ok (.invokestatic 66, 3) := by decide +kernel
theorem dX11_levelsOf_10 : decode cX11_levelsOf 10 = .ok (.if_icmp .ge 19, 3) := by decide +kernel
theorem dX11_levelsOf_13 : decode cX11_levelsOf 13 = .ok (.iload_n 2, 1) := by decide +kernel
theorem dX11_levelsOf_14 : decode cX11_levelsOf 14 = .ok (.aload_n 0, 1) := by decide +kernel
theorem dX11_levelsOf_15 : decode cX11_levelsOf 15 = .ok (.iload_n 1, 1) := by decide +kernel
theorem dX11_levelsOf_16 : decode cX11_levelsOf 16 = .ok (.iload_n 3, 1) := by decide +kernel
theorem dX11_levelsOf_17 : decode cX11_levelsOf 17 = .ok (.invokestatic 94, 3) := by decide +kernel
theorem dX11_levelsOf_20 : decode cX11_levelsOf 20 = .ok (.iaload, 1) := by decide +kernel
theorem dX11_levelsOf_21 : decode cX11_levelsOf 21 = .ok (.iadd, 1) := by decide +kernel
theorem dX11_levelsOf_22 : decode cX11_levelsOf 22 = .ok (.istore_n 2, 1) := by decide +kernel
theorem dX11_levelsOf_23 : decode cX11_levelsOf 23 = .ok (.iinc 3 1, 3) := by decide +kernel
theorem dX11_levelsOf_26 : decode cX11_levelsOf 26 = .ok (.goto (-22), 3) := by decide +kernel
theorem dX11_levelsOf_29 : decode cX11_levelsOf 29 = .ok (.iload_n 2, 1) := by decide +kernel
theorem dX11_levelsOf_30 : decode cX11_levelsOf 30 = .ok (.ireturn, 1) := by decide +kernel
theorem dX11_contractsOf_0 : decode cX11_contractsOf 0 = .ok (.iconst 0, 1) := by decide +kernel
theorem dX11_contractsOf_1 : decode cX11_contractsOf 1 = .ok (.istore_n 2, 1) := by decide +kernel
theorem dX11_contractsOf_2 : decode cX11_contractsOf 2 = .ok (.iconst 0, 1) := by decide +kernel
theorem dX11_contractsOf_3 : decode cX11_contractsOf 3 = .ok (.istore_n 3, 1) := by decide +kernel
theorem dX11_contractsOf_4 : decode cX11_contractsOf 4 = .ok (.iload_n 3, 1) := by decide +kernel
theorem dX11_contractsOf_5 : decode cX11_contractsOf 5 = .ok (.aload_n 0, 1) := by decide +kernel
theorem dX11_contractsOf_6 : decode cX11_contractsOf 6 = .ok (.iconst 2, 1) := by decide +kernel
theorem dX11_contractsOf_7 : decode cX11_contractsOf 7 = .ok (.iaload, 1) := by decide +kernel
theorem dX11_contractsOf_8 : decode cX11_contractsOf 8 = .ok (.if_icmp .ge 29, 3) := by decide +kernel
theorem dX11_contractsOf_11 : decode cX11_contractsOf 11 = .ok (.iload_n 2, 1) := by decide +kernel
theorem dX11_contractsOf_12 : decode cX11_contractsOf 12 = .ok (.aload_n 0, 1) := by decide +kernel
theorem dX11_contractsOf_13 : decode cX11_contractsOf 13 = .ok (.iload_n 3, 1) := by decide +kernel
theorem dX11_contractsOf_14 : decode cX11_contractsOf 14 = .ok (.invokestatic 57, 3) := by decide +kernel
theorem dX11_contractsOf_17 : decode cX11_contractsOf 17 = .ok (.iconst 4, 1) := by decide +kernel
theorem dX11_contractsOf_18 : decode cX11_contractsOf 18 = .ok (.iadd, 1) := by decide +kernel
theorem dX11_contractsOf_19 : decode cX11_contractsOf 19 = .ok (.iaload, 1) := by decide +kernel
theorem dX11_contractsOf_20 : decode cX11_contractsOf 20 = .ok (.iload_n 1, 1) := by decide +kernel
theorem dX11_contractsOf_21 : decode cX11_contractsOf 21 = .ok (.if_icmp .ne 7, 3) := by decide +kernel
theorem dX11_contractsOf_24 : decode cX11_contractsOf 24 = .ok (.iconst 1, 1) := by decide +kernel
theorem dX11_contractsOf_25 : decode cX11_contractsOf 25 = .ok (.goto 4, 3) := by decide +kernel
theorem dX11_contractsOf_28 : decode cX11_contractsOf 28 = .ok (.iconst 0, 1) := by decide +kernel
theorem dX11_contractsOf_29 : decode cX11_contractsOf 29 = .ok (.iadd, 1) := by decide +kernel
theorem dX11_contractsOf_30 : decode cX11_contractsOf 30 = .ok (.istore_n 2, 1) := by decide +kernel
theorem dX11_contractsOf_31 : decode cX11_contractsOf 31 = .ok (.iinc 3 1, 3) := by decide +kernel
theorem dX11_contractsOf_34 : decode cX11_contractsOf 34 = .ok (.goto (-30), 3) := by decide +kernel
theorem dX11_contractsOf_37 : decode cX11_contractsOf 37 = .ok (.iload_n 2, 1) := by decide +kernel
theorem dX11_contractsOf_38 : decode cX11_contractsOf 38 = .ok (.ireturn, 1) := by decide +kernel
theorem dX11_goBroke_0 : decode cX11_goBroke 0 = .ok (.aload_n 0, 1) := by decide +kernel
theorem dX11_goBroke_1 : decode cX11_goBroke 1 = .ok (.iload_n 1, 1) := by decide +kernel
theorem dX11_goBroke_2 : decode cX11_goBroke 2 = .ok (.aload_n 0, 1) := by decide +kernel
theorem dX11_goBroke_3 : decode cX11_goBroke 3 = .ok (.iload_n 1, 1) := by decide +kernel
theorem dX11_goBroke_4 : decode cX11_goBroke 4 = .ok (.invokestatic 50, 3) := by decide +kernel
theorem dX11_goBroke_7 : decode cX11_goBroke 7 = .ok (.iaload, 1) := by decide +kernel
theorem dX11_goBroke_8 : decode cX11_goBroke 8 = .ok (.invokestatic 102, 3) := by decide +kernel
theorem dX11_goBroke_11 : decode cX11_goBroke 11 = .ok (.aload_n 0, 1) := by decide +kernel
theorem dX11_goBroke_12 : decode cX11_goBroke 12 = .ok (.iload_n 1, 1) := by decide +kernel
theorem dX11_goBroke_13 : decode cX11_goBroke 13 = .ok (.invokestatic 50, 3) := by decide +kernel
theorem dX11_goBroke_16 : decode cX11_goBroke 16 = .ok (.iconst 2, 1) := by decide +kernel
theorem dX11_goBroke_17 : decode cX11_goBroke 17 = .ok (.iadd, 1) := by decide +kernel
theorem dX11_goBroke_18 : decode cX11_goBroke 18 = .ok (.iconst 0, 1) := by decide +kernel
theorem dX11_goBroke_19 : decode cX11_goBroke 19 = .ok (.iastore, 1) := by decide +kernel
theorem dX11_goBroke_20 : decode cX11_goBroke 20 = .ok (.aload_n 0, 1) := by decide +kernel
theorem dX11_goBroke_21 : decode cX11_goBroke 21 = .ok (.iload_n 1, 1) := by decide +kernel
theorem dX11_goBroke_22 : decode cX11_goBroke 22 = .ok (.invokestatic 50, 3) := by decide +kernel
theorem dX11_goBroke_25 : decode cX11_goBroke 25 = .ok (.iconst 4, 1) := by decide +kernel
theorem dX11_goBroke_26 : decode cX11_goBroke 26 = .ok (.iadd, 1) := by decide +kernel
theorem dX11_goBroke_27 : decode cX11_goBroke 27 = .ok (.dup2, 1) := by decide +kernel
theorem dX11_goBroke_28 : decode cX11_goBroke 28 = .ok (.iaload, 1) := by decide +kernel
theorem dX11_goBroke_29 : decode cX11_goBroke 29 = .ok (.iconst 1, 1) := by decide +kernel
theorem dX11_goBroke_30 : decode cX11_goBroke 30 = .ok (.iadd, 1) := by decide +kernel
theorem dX11_goBroke_31 : decode cX11_goBroke 31 = .ok (.iastore, 1) := by decide +kernel
theorem dX11_goBroke_32 : decode cX11_goBroke 32 = .ok (.aload_n 0, 1) := by decide +kernel
theorem dX11_goBroke_33 : decode cX11_goBroke 33 = .ok (.bipush 9, 2) := by decide +kernel
theorem dX11_goBroke_35 : decode cX11_goBroke 35 = .ok (.dup2, 1) := by decide +kernel
theorem dX11_goBroke_36 : decode cX11_goBroke 36 = .ok (.iaload, 1) := by decide +kernel
theorem dX11_goBroke_37 : decode cX11_goBroke 37 = .ok (.iconst 1, 1) := by decide +kernel
theorem dX11_goBroke_38 : decode cX11_goBroke 38 = .ok (.iadd, 1) := by decide +kernel
theorem dX11_goBroke_39 : decode cX11_goBroke 39 = .ok (.iastore, 1) := by decide +kernel
theorem dX11_goBroke_40 : decode cX11_goBroke 40 = .ok (.iconst 0, 1) := by decide +kernel
theorem dX11_goBroke_41 : decode cX11_goBroke 41 = .ok (.istore_n 2, 1) := by decide +kernel
theorem dX11_goBroke_42 : decode cX11_goBroke 42 = .ok (.iload_n 2, 1) := by decide +kernel
theorem dX11_goBroke_43 : decode cX11_goBroke 43 = .ok (.aload_n 0, 1) := by decide +kernel
theorem dX11_goBroke_44 : decode cX11_goBroke 44 = .ok (.iconst 1, 1) := by decide +kernel
theorem dX11_goBroke_45 : decode cX11_goBroke 45 = .ok (.iaload, 1) := by decide +kernel
theorem dX11_goBroke_46 : decode cX11_goBroke 46 = .ok (.if_icmp .ge 42, 3) := by decide +kernel
theorem dX11_goBroke_49 : decode cX11_goBroke 49 = .ok (.aload_n 0, 1) := by decide +kernel
theorem dX11_goBroke_50 : decode cX11_goBroke 50 = .ok (.iload_n 2, 1) := by decide +kernel
theorem dX11_goBroke_51 : decode cX11_goBroke 51 = .ok (.invokestatic 54, 3) := by decide +kernel
theorem dX11_goBroke_54 : decode cX11_goBroke 54 = .ok (.iconst 3, 1) := by decide +kernel
theorem dX11_goBroke_55 : decode cX11_goBroke 55 = .ok (.iadd, 1) := by decide +kernel
theorem dX11_goBroke_56 : decode cX11_goBroke 56 = .ok (.aload_n 0, 1) := by decide +kernel
theorem dX11_goBroke_57 : decode cX11_goBroke 57 = .ok (.iload_n 2, 1) := by decide +kernel
theorem dX11_goBroke_58 : decode cX11_goBroke 58 = .ok (.invokestatic 54, 3) := by decide +kernel
theorem dX11_goBroke_61 : decode cX11_goBroke 61 = .ok (.iconst 3, 1) := by decide +kernel
theorem dX11_goBroke_62 : decode cX11_goBroke 62 = .ok (.iadd, 1) := by decide +kernel
theorem dX11_goBroke_63 : decode cX11_goBroke 63 = .ok (.iaload, 1) := by decide +kernel
theorem dX11_goBroke_64 : decode cX11_goBroke 64 = .ok (.iload_n 1, 1) := by decide +kernel
theorem dX11_goBroke_65 : decode cX11_goBroke 65 = .ok (.if_icmp .ne 8, 3) := by decide +kernel
theorem dX11_goBroke_68 : decode cX11_goBroke 68 = .ok (.bipush (-9), 2) := by decide +kernel
theorem dX11_goBroke_70 : decode cX11_goBroke 70 = .ok (.goto 11, 3) := by decide +kernel
theorem dX11_goBroke_73 : decode cX11_goBroke 73 = .ok (.aload_n 0, 1) := by decide +kernel
theorem dX11_goBroke_74 : decode cX11_goBroke 74 = .ok (.iload_n 2, 1) := by decide +kernel
theorem dX11_goBroke_75 : decode cX11_goBroke 75 = .ok (.invokestatic 54, 3) := by decide +kernel
theorem dX11_goBroke_78 : decode cX11_goBroke 78 = .ok (.iconst 3, 1) := by decide +kernel
theorem dX11_goBroke_79 : decode cX11_goBroke 79 = .ok (.iadd, 1) := by decide +kernel
theorem dX11_goBroke_80 : decode cX11_goBroke 80 = .ok (.iaload, 1) := by decide +kernel
theorem dX11_goBroke_81 : decode cX11_goBroke 81 = .ok (.iastore, 1) := by decide +kernel
theorem dX11_goBroke_82 : decode cX11_goBroke 82 = .ok (.iinc 2 1, 3) := by decide +kernel
theorem dX11_goBroke_85 : decode cX11_goBroke 85 = .ok (.goto (-43), 3) := by decide +kernel
theorem dX11_goBroke_88 : decode cX11_goBroke 88 = .ok (.iconst 0, 1) := by decide +kernel
theorem dX11_goBroke_89 : decode cX11_goBroke 89 = .ok (.istore_n 2, 1) := by decide +kernel
theorem dX11_goBroke_90 : decode cX11_goBroke 90 = .ok (.iload_n 2, 1) := by decide +kernel
theorem dX11_goBroke_91 : decode cX11_goBroke 91 = .ok (.aload_n 0, 1) := by decide +kernel
theorem dX11_goBroke_92 : decode cX11_goBroke 92 = .ok (.iconst 2, 1) := by decide +kernel
theorem dX11_goBroke_93 : decode cX11_goBroke 93 = .ok (.iaload, 1) := by decide +kernel
theorem dX11_goBroke_94 : decode cX11_goBroke 94 = .ok (.if_icmp .ge 42, 3) := by decide +kernel
theorem dX11_goBroke_97 : decode cX11_goBroke 97 = .ok (.aload_n 0, 1) := by decide +kernel
theorem dX11_goBroke_98 : decode cX11_goBroke 98 = .ok (.iload_n 2, 1) := by decide +kernel
theorem dX11_goBroke_99 : decode cX11_goBroke 99 = .ok (.invokestatic 57, 3) := by decide +kernel
theorem dX11_goBroke_102 : decode cX11_goBroke 102 = .ok (.iconst 4, 1) := by decide +kernel
theorem dX11_goBroke_103 : decode cX11_goBroke 103 = .ok (.iadd, 1) := by decide +kernel
theorem dX11_goBroke_104 : decode cX11_goBroke 104 = .ok (.aload_n 0, 1) := by decide +kernel
theorem dX11_goBroke_105 : decode cX11_goBroke 105 = .ok (.iload_n 2, 1) := by decide +kernel
theorem dX11_goBroke_106 : decode cX11_goBroke 106 = .ok (.invokestatic 57, 3) := by decide +kernel
theorem dX11_goBroke_109 : decode cX11_goBroke 109 = .ok (.iconst 4, 1) := by decide +kernel
theorem dX11_goBroke_110 : decode cX11_goBroke 110 = .ok (.iadd, 1) := by decide +kernel
theorem dX11_goBroke_111 : decode cX11_goBroke 111 = .ok (.iaload, 1) := by decide +kernel
theorem dX11_goBroke_112 : decode cX11_goBroke 112 = .ok (.iload_n 1, 1) := by decide +kernel
theorem dX11_goBroke_113 : decode cX11_goBroke 113 = .ok (.if_icmp .ne 8, 3) := by decide +kernel
theorem dX11_goBroke_116 : decode cX11_goBroke 116 = .ok (.bipush (-9), 2) := by decide +kernel
theorem dX11_goBroke_118 : decode cX11_goBroke 118 = .ok (.goto 11, 3) := by decide +kernel
theorem dX11_goBroke_121 : decode cX11_goBroke 121 = .ok (.aload_n 0, 1) := by decide +kernel
theorem dX11_goBroke_122 : decode cX11_goBroke 122 = .ok (.iload_n 2, 1) := by decide +kernel
theorem dX11_goBroke_123 : decode cX11_goBroke 123 = .ok (.invokestatic 57, 3) := by decide +kernel
theorem dX11_goBroke_126 : decode cX11_goBroke 126 = .ok (.iconst 4, 1) := by decide +kernel
theorem dX11_goBroke_127 : decode cX11_goBroke 127 = .ok (.iadd, 1) := by decide +kernel
theorem dX11_goBroke_128 : decode cX11_goBroke 128 = .ok (.iaload, 1) := by decide +kernel
theorem dX11_goBroke_129 : decode cX11_goBroke 129 = .ok (.iastore, 1) := by decide +kernel
theorem dX11_goBroke_130 : decode cX11_goBroke 130 = .ok (.iinc 2 1, 3) := by decide +kernel
theorem dX11_goBroke_133 : decode cX11_goBroke 133 = .ok (.goto (-43), 3) := by decide +kernel
theorem dX11_goBroke_136 : decode cX11_goBroke 136 = .ok (.return_, 1) := by decide +kernel
theorem dX11_endOn_0 : decode cX11_endOn 0 = .ok (.aload_n 0, 1) := by decide +kernel
theorem dX11_endOn_1 : decode cX11_endOn 1 = .ok (.invokestatic 110, 3) := by decide +kernel
theorem dX11_endOn_4 : decode cX11_endOn 4 = .ok (.iconst 0, 1) := by decide +kernel
theorem dX11_endOn_5 : decode cX11_endOn 5 = .ok (.istore_n 1, 1) := by decide +kernel
theorem dX11_endOn_6 : decode cX11_endOn 6 = .ok (.iload_n 1, 1) := by decide +kernel
theorem dX11_endOn_7 : decode cX11_endOn 7 = .ok (.iconst 4, 1) := by decide +kernel
theorem dX11_endOn_8 : decode cX11_endOn 8 = .ok (.if_icmp .ge 26, 3) := by decide +kernel
theorem dX11_endOn_11 : decode cX11_endOn 11 = .ok (.aload_n 0, 1) := by decide +kernel
theorem dX11_endOn_12 : decode cX11_endOn 12 = .ok (.iload_n 1, 1) := by decide +kernel
theorem dX11_endOn_13 : decode cX11_endOn 13 = .ok (.aload_n 0, 1) := by decide +kernel
theorem dX11_endOn_14 : decode cX11_endOn 14 = .ok (.iload_n 1, 1) := by decide +kernel
theorem dX11_endOn_15 : decode cX11_endOn 15 = .ok (.iconst 0, 1) := by decide +kernel
theorem dX11_endOn_16 : decode cX11_endOn 16 = .ok (.invokestatic 113, 3) := by decide +kernel
theorem dX11_endOn_19 : decode cX11_endOn 19 = .ok (.aload_n 0, 1) := by decide +kernel
theorem dX11_endOn_20 : decode cX11_endOn 20 = .ok (.iload_n 1, 1) := by decide +kernel
theorem dX11_endOn_21 : decode cX11_endOn 21 = .ok (.invokestatic 117, 3) := by decide +kernel
theorem dX11_endOn_24 : decode cX11_endOn 24 = .ok (.iadd, 1) := by decide +kernel
theorem dX11_endOn_25 : decode cX11_endOn 25 = .ok (.invokestatic 102, 3) := by decide +kernel
theorem dX11_endOn_28 : decode cX11_endOn 28 = .ok (.iinc 1 1, 3) := by decide +kernel
theorem dX11_endOn_31 : decode cX11_endOn 31 = .ok (.goto (-25), 3) := by decide +kernel
theorem dX11_endOn_34 : decode cX11_endOn 34 = .ok (.iconst 0, 1) := by decide +kernel
theorem dX11_endOn_35 : decode cX11_endOn 35 = .ok (.istore_n 1, 1) := by decide +kernel
theorem dX11_endOn_36 : decode cX11_endOn 36 = .ok (.iconst 0, 1) := by decide +kernel
theorem dX11_endOn_37 : decode cX11_endOn 37 = .ok (.istore_n 2, 1) := by decide +kernel
theorem dX11_endOn_38 : decode cX11_endOn 38 = .ok (.iload_n 2, 1) := by decide +kernel
theorem dX11_endOn_39 : decode cX11_endOn 39 = .ok (.iconst 4, 1) := by decide +kernel
theorem dX11_endOn_40 : decode cX11_endOn 40 = .ok (.if_icmp .ge 56, 3) := by decide +kernel
theorem dX11_endOn_43 : decode cX11_endOn 43 = .ok (.aload_n 0, 1) := by decide +kernel
theorem dX11_endOn_44 : decode cX11_endOn 44 = .ok (.iload_n 2, 1) := by decide +kernel
theorem dX11_endOn_45 : decode cX11_endOn 45 = .ok (.invokestatic 50, 3) := by decide +kernel
theorem dX11_endOn_48 : decode cX11_endOn 48 = .ok (.iaload, 1) := by decide +kernel
theorem dX11_endOn_49 : decode cX11_endOn 49 = .ok (.ifCond .ge 14, 3) := by decide +kernel
theorem dX11_endOn_52 : decode cX11_endOn 52 = .ok (.aload_n 0, 1) := by decide +kernel
theorem dX11_endOn_53 : decode cX11_endOn 53 = .ok (.iload_n 2, 1) := by decide +kernel
theorem dX11_endOn_54 : decode cX11_endOn 54 = .ok (.invokestatic 120, 3) := by decide +kernel
theorem dX11_endOn_57 : decode cX11_endOn 57 = .ok (.iload_n 1, 1) := by decide +kernel
theorem dX11_endOn_58 : decode cX11_endOn 58 = .ok (.iconst 1, 1) := by decide +kernel
theorem dX11_endOn_59 : decode cX11_endOn 59 = .ok (.iload_n 2, 1) := by decide +kernel
theorem dX11_endOn_60 : decode cX11_endOn 60 = .ok (.ishl, 1) := by decide +kernel
theorem dX11_endOn_61 : decode cX11_endOn 61 = .ok (.ior, 1) := by decide +kernel
theorem dX11_endOn_62 : decode cX11_endOn 62 = .ok (.istore_n 1, 1) := by decide +kernel
theorem dX11_endOn_63 : decode cX11_endOn 63 = .ok (.iconst 0, 1) := by decide +kernel
theorem dX11_endOn_64 : decode cX11_endOn 64 = .ok (.istore_n 3, 1) := by decide +kernel
theorem dX11_endOn_65 : decode cX11_endOn 65 = .ok (.iload_n 3, 1) := by decide +kernel
theorem dX11_endOn_66 : decode cX11_endOn 66 = .ok (.aload_n 0, 1) := by decide +kernel
theorem dX11_endOn_67 : decode cX11_endOn 67 = .ok (.iload_n 2, 1) := by decide +kernel
theorem dX11_endOn_68 : decode cX11_endOn 68 = .ok (.invokestatic 66, 3) := by decide +kernel
theorem dX11_endOn_71 : decode cX11_endOn 71 = .ok (.if_icmp .ge 19, 3) := by decide +kernel
theorem dX11_endOn_74 : decode cX11_endOn 74 = .ok (.aload_n 0, 1) := by decide +kernel
theorem dX11_endOn_75 : decode cX11_endOn 75 = .ok (.iload_n 2, 1) := by decide +kernel
theorem dX11_endOn_76 : decode cX11_endOn 76 = .ok (.iload_n 3, 1) := by decide +kernel
theorem dX11_endOn_77 : decode cX11_endOn 77 = .ok (.invokestatic 94, 3) := by decide +kernel
theorem dX11_endOn_80 : decode cX11_endOn 80 = .ok (.iconst 1, 1) := by decide +kernel
theorem dX11_endOn_81 : decode cX11_endOn 81 = .ok (.iadd, 1) := by decide +kernel
theorem dX11_endOn_82 : decode cX11_endOn 82 = .ok (.iconst 0, 1) := by decide +kernel
theorem dX11_endOn_83 : decode cX11_endOn 83 = .ok (.iastore, 1) := by decide +kernel
theorem dX11_endOn_84 : decode cX11_endOn 84 = .ok (.iinc 3 1, 3) := by decide +kernel
theorem dX11_endOn_87 : decode cX11_endOn 87 = .ok (.goto (-22), 3) := by decide +kernel
theorem dX11_endOn_90 : decode cX11_endOn 90 = .ok (.iinc 2 1, 3) := by decide +kernel
theorem dX11_endOn_93 : decode cX11_endOn 93 = .ok (.goto (-55), 3) := by decide +kernel
theorem dX11_endOn_96 : decode cX11_endOn 96 = .ok (.aload_n 0, 1) := by decide +kernel
theorem dX11_endOn_97 : decode cX11_endOn 97 = .ok (.iconst 4, 1) := by decide +kernel
theorem dX11_endOn_98 : decode cX11_endOn 98 = .ok (.dup2, 1) := by decide +kernel
theorem dX11_endOn_99 : decode cX11_endOn 99 = .ok (.iaload, 1) := by decide +kernel
theorem dX11_endOn_100 : decode cX11_endOn 100 = .ok (.iconst 1, 1) := by decide +kernel
theorem dX11_endOn_101 : decode cX11_endOn 101 = .ok (.iadd, 1) := by decide +kernel
theorem dX11_endOn_102 : decode cX11_endOn 102 = .ok (.iastore, 1) := by decide +kernel
theorem dX11_endOn_103 : decode cX11_endOn 103 = .ok (.iload_n 1, 1) := by decide +kernel
theorem dX11_endOn_104 : decode cX11_endOn 104 = .ok (.ireturn, 1) := by decide +kernel
theorem dX11_canBuyTrack_0 : decode cX11_canBuyTrack 0 = .ok (.aload_n 0, 1) := by decide +kernel
theorem dX11_canBuyTrack_1 : decode cX11_canBuyTrack 1 = .ok (.iload_n 2, 1) := by decide +kernel
theorem dX11_canBuyTrack_2 : decode cX11_canBuyTrack 2 = .ok (.invokestatic 54, 3) := by decide +kernel
theorem dX11_canBuyTrack_5 : decode cX11_canBuyTrack 5 = .ok (.iconst 3, 1) := by decide +kernel
theorem dX11_canBuyTrack_6 : decode cX11_canBuyTrack 6 = .ok (.iadd, 1) := by decide +kernel
theorem dX11_canBuyTrack_7 : decode cX11_canBuyTrack 7 = .ok (.iaload, 1) := by decide +kernel
theorem dX11_canBuyTrack_8 : decode cX11_canBuyTrack 8 = .ok (.bipush (-9), 2) := by decide +kernel
theorem dX11_canBuyTrack_10 : decode cX11_canBuyTrack 10 = .ok (.if_icmp .ne 26, 3) := by decide +kernel
theorem dX11_canBuyTrack_13 : decode cX11_canBuyTrack 13 = .ok (.aload_n 0, 1) := by decide +kernel
theorem dX11_canBuyTrack_14 : decode cX11_canBuyTrack 14 = .ok (.iload_n 1, 1) := by decide +kernel
theorem dX11_canBuyTrack_15 : decode cX11_canBuyTrack 15 = .ok (.invokestatic 50, 3) := by decide +kernel
theorem dX11_canBuyTrack_18 : decode cX11_canBuyTrack 18 = .ok (.iaload, 1) := by decide +kernel
theorem dX11_canBuyTrack_19 : decode cX11_canBuyTrack 19 = .ok (.iconst 3, 1) := by decide +kernel
theorem dX11_canBuyTrack_20 : decode cX11_canBuyTrack 20 = .ok (.aload_n 0, 1) := by decide +kernel
theorem dX11_canBuyTrack_21 : decode cX11_canBuyTrack 21 = .ok (.iload_n 2, 1) := by decide +kernel
theorem dX11_canBuyTrack_22 : decode cX11_canBuyTrack 22 = .ok (.invokestatic 54, 3) := by decide +kernel
theorem dX11_canBuyTrack_25 : decode cX11_canBuyTrack 25 = .ok (.iconst 2, 1) := by decide +kernel
theorem dX11_canBuyTrack_26 : decode cX11_canBuyTrack 26 = .ok (.iadd, 1) := by decide +kernel
theorem dX11_canBuyTrack_27 : decode cX11_canBuyTrack 27 = .ok (.iaload, 1) := by decide +kernel
theorem dX11_canBuyTrack_28 : decode cX11_canBuyTrack 28 = .ok (.imul, 1) := by decide +kernel
theorem dX11_canBuyTrack_29 : decode cX11_canBuyTrack 29 = .ok (.if_icmp .lt 7, 3) := by decide +kernel
theorem dX11_canBuyTrack_32 : decode cX11_canBuyTrack 32 = .ok (.iconst 1, 1) := by decide +kernel
theorem dX11_canBuyTrack_33 : decode cX11_canBuyTrack 33 = .ok (.goto 4, 3) := by decide +kernel
theorem dX11_canBuyTrack_36 : decode cX11_canBuyTrack 36 = .ok (.iconst 0, 1) := by decide +kernel
theorem dX11_canBuyTrack_37 : decode cX11_canBuyTrack 37 = .ok (.ireturn, 1) := by decide +kernel
theorem dX11_buyTrackOn_0 : decode cX11_buyTrackOn 0 = .ok (.aload_n 0, 1) := by decide +kernel
theorem dX11_buyTrackOn_1 : decode cX11_buyTrackOn 1 = .ok (.iload_n 1, 1) := by decide +kernel
theorem dX11_buyTrackOn_2 : decode cX11_buyTrackOn 2 = .ok (.iconst 3, 1) := by decide +kernel
theorem dX11_buyTrackOn_3 : decode cX11_buyTrackOn 3 = .ok (.aload_n 0, 1) := by decide +kernel
theorem dX11_buyTrackOn_4 : decode cX11_buyTrackOn 4 = .ok (.iload_n 2, 1) := by decide +kernel
theorem dX11_buyTrackOn_5 : decode cX11_buyTrackOn 5 = .ok (.invokestatic 54, 3) := by decide +kernel
theorem dX11_buyTrackOn_8 : decode cX11_buyTrackOn 8 = .ok (.iconst 2, 1) := by decide +kernel
theorem dX11_buyTrackOn_9 : decode cX11_buyTrackOn 9 = .ok (.iadd, 1) := by decide +kernel
theorem dX11_buyTrackOn_10 : decode cX11_buyTrackOn 10 = .ok (.iaload, 1) := by decide +kernel
theorem dX11_buyTrackOn_11 : decode cX11_buyTrackOn 11 = .ok (.imul, 1) := by decide +kernel
theorem dX11_buyTrackOn_12 : decode cX11_buyTrackOn 12 = .ok (.invokestatic 102, 3) := by decide +kernel
theorem dX11_buyTrackOn_15 : decode cX11_buyTrackOn 15 = .ok (.aload_n 0, 1) := by decide +kernel
theorem dX11_buyTrackOn_16 : decode cX11_buyTrackOn 16 = .ok (.iload_n 2, 1) := by decide +kernel
theorem dX11_buyTrackOn_17 : decode cX11_buyTrackOn 17 = .ok (.invokestatic 54, 3) := by decide +kernel
theorem dX11_buyTrackOn_20 : decode cX11_buyTrackOn 20 = .ok (.iconst 3, 1) := by decide +kernel
theorem dX11_buyTrackOn_21 : decode cX11_buyTrackOn 21 = .ok (.iadd, 1) := by decide +kernel
theorem dX11_buyTrackOn_22 : decode cX11_buyTrackOn 22 = .ok (.iload_n 1, 1) := by decide +kernel
theorem dX11_buyTrackOn_23 : decode cX11_buyTrackOn 23 = .ok (.iastore, 1) := by decide +kernel
theorem dX11_buyTrackOn_24 : decode cX11_buyTrackOn 24 = .ok (.aload_n 0, 1) := by decide +kernel
theorem dX11_buyTrackOn_25 : decode cX11_buyTrackOn 25 = .ok (.iload_n 1, 1) := by decide +kernel
theorem dX11_buyTrackOn_26 : decode cX11_buyTrackOn 26 = .ok (.invokestatic 50, 3) := by decide +kernel
theorem dX11_buyTrackOn_29 : decode cX11_buyTrackOn 29 = .ok (.iaload, 1) := by decide +kernel
theorem dX11_buyTrackOn_30 : decode cX11_buyTrackOn 30 = .ok (.ireturn, 1) := by decide +kernel
theorem dX11_canBuyTrain_0 : decode cX11_canBuyTrain 0 = .ok (.iload_n 2, 1) := by decide +kernel
theorem dX11_canBuyTrain_1 : decode cX11_canBuyTrain 1 = .ok (.i2l, 1) := by decide +kernel
theorem dX11_canBuyTrain_2 : decode cX11_canBuyTrain 2 = .ok (.aload_n 0, 1) := by decide +kernel
theorem dX11_canBuyTrain_3 : decode cX11_canBuyTrain 3 = .ok (.iconst 3, 1) := by decide +kernel
theorem dX11_canBuyTrain_4 : decode cX11_canBuyTrain 4 = .ok (.iaload, 1) := by decide +kernel
theorem dX11_canBuyTrain_5 : decode cX11_canBuyTrain 5 = .ok (.iconst 1, 1) := by decide +kernel
theorem dX11_canBuyTrain_6 : decode cX11_canBuyTrain 6 = .ok (.isub, 1) := by decide +kernel
theorem dX11_canBuyTrain_7 : decode cX11_canBuyTrain 7 = .ok (.i2l, 1) := by decide +kernel
theorem dX11_canBuyTrain_8 : decode cX11_canBuyTrain 8 = .ok (.aload_n 0, 1) := by decide +kernel
theorem dX11_canBuyTrain_9 : decode cX11_canBuyTrain 9 = .ok (.iconst 3, 1) := by decide +kernel
theorem dX11_canBuyTrain_10 : decode cX11_canBuyTrain 10 = .ok (.iaload, 1) := by decide +kernel
theorem dX11_canBuyTrain_11 : decode cX11_canBuyTrain 11 = .ok (.iconst 1, 1) := by decide +kernel
theorem dX11_canBuyTrain_12 : decode cX11_canBuyTrain 12 = .ok (.iadd, 1) := by decide +kernel
theorem dX11_canBuyTrain_13 : decode cX11_canBuyTrain 13 = .ok (.i2l, 1) := by decide +kernel
theorem dX11_canBuyTrain_14 : decode cX11_canBuyTrain 14 = .ok (.invokestatic 62, 3) := by decide +kernel
theorem dX11_canBuyTrain_17 : decode cX11_canBuyTrain 17 = .ok (.ifCond .eq 29, 3) := by decide +kernel
theorem dX11_canBuyTrain_20 : decode cX11_canBuyTrain 20 = .ok (.aload_n 0, 1) := by decide +kernel
theorem dX11_canBuyTrain_21 : decode cX11_canBuyTrain 21 = .ok (.iload_n 1, 1) := by decide +kernel
theorem dX11_canBuyTrain_22 : decode cX11_canBuyTrain 22 = .ok (.invokestatic 66, 3) := by decide +kernel
theorem dX11_canBuyTrain_25 : decode cX11_canBuyTrain 25 = .ok (.iconst 4, 1) := by decide +kernel
theorem dX11_canBuyTrain_26 : decode cX11_canBuyTrain 26 = .ok (.if_icmp .ge 20, 3) := by decide +kernel
theorem dX11_canBuyTrain_29 : decode cX11_canBuyTrain 29 = .ok (.aload_n 0, 1) := by decide +kernel
theorem dX11_canBuyTrain_30 : decode cX11_canBuyTrain 30 = .ok (.iload_n 1, 1) := by decide +kernel
theorem dX11_canBuyTrain_31 : decode cX11_canBuyTrain 31 = .ok (.invokestatic 50, 3) := by decide +kernel
theorem dX11_canBuyTrain_34 : decode cX11_canBuyTrain 34 = .ok (.iaload, 1) := by decide +kernel
theorem dX11_canBuyTrain_35 : decode cX11_canBuyTrain 35 = .ok (.bipush 20, 2) := by decide +kernel
theorem dX11_canBuyTrain_37 : decode cX11_canBuyTrain 37 = .ok (.iload_n 2, 1) := by decide +kernel
theorem dX11_canBuyTrain_38 : decode cX11_canBuyTrain 38 = .ok (.imul, 1) := by decide +kernel
theorem dX11_canBuyTrain_39 : decode cX11_canBuyTrain 39 = .ok (.if_icmp .lt 7, 3) := by decide +kernel
theorem dX11_canBuyTrain_42 : decode cX11_canBuyTrain 42 = .ok (.iconst 1, 1) := by decide +kernel
theorem dX11_canBuyTrain_43 : decode cX11_canBuyTrain 43 = .ok (.goto 4, 3) := by decide +kernel
theorem dX11_canBuyTrain_46 : decode cX11_canBuyTrain 46 = .ok (.iconst 0, 1) := by decide +kernel
theorem dX11_canBuyTrain_47 : decode cX11_canBuyTrain 47 = .ok (.ireturn, 1) := by decide +kernel
theorem dX11_rust_0 : decode cX11_rust 0 = .ok (.iconst 0, 1) := by decide +kernel
theorem dX11_rust_1 : decode cX11_rust 1 = .ok (.istore_n 3, 1) := by decide +kernel
theorem dX11_rust_2 : decode cX11_rust 2 = .ok (.aload_n 0, 1) := by decide +kernel
theorem dX11_rust_3 : decode cX11_rust 3 = .ok (.iload_n 1, 1) := by decide +kernel
theorem dX11_rust_4 : decode cX11_rust 4 = .ok (.invokestatic 66, 3) := by decide +kernel
theorem dX11_rust_7 : decode cX11_rust 7 = .ok (.istore 4, 2) := by decide +kernel
theorem dX11_rust_9 : decode cX11_rust 9 = .ok (.iconst 0, 1) := by decide +kernel
theorem dX11_rust_10 : decode cX11_rust 10 = .ok (.istore 5, 2) := by decide +kernel
theorem dX11_rust_12 : decode cX11_rust 12 = .ok (.iload 5, 2) := by decide +kernel
theorem dX11_rust_14 : decode cX11_rust 14 = .ok (.iload 4, 2) := by decide +kernel
theorem dX11_rust_16 : decode cX11_rust 16 = .ok (.if_icmp .ge 58, 3) := by decide +kernel
theorem dX11_rust_19 : decode cX11_rust 19 = .ok (.aload_n 0, 1) := by decide +kernel
theorem dX11_rust_20 : decode cX11_rust 20 = .ok (.iload_n 1, 1) := by decide +kernel
theorem dX11_rust_21 : decode cX11_rust 21 = .ok (.iload 5, 2) := by decide +kernel
theorem dX11_rust_23 : decode cX11_rust 23 = .ok (.invokestatic 94, 3) := by decide +kernel
theorem dX11_rust_26 : decode cX11_rust 26 = .ok (.iaload, 1) := by decide +kernel
theorem dX11_rust_27 : decode cX11_rust 27 = .ok (.iload_n 2, 1) := by decide +kernel
theorem dX11_rust_28 : decode cX11_rust 28 = .ok (.if_icmp .lt 40, 3) := by decide +kernel
theorem dX11_rust_31 : decode cX11_rust 31 = .ok (.aload_n 0, 1) := by decide +kernel
theorem dX11_rust_32 : decode cX11_rust 32 = .ok (.iload_n 1, 1) := by decide +kernel
theorem dX11_rust_33 : decode cX11_rust 33 = .ok (.iload_n 3, 1) := by decide +kernel
theorem dX11_rust_34 : decode cX11_rust 34 = .ok (.invokestatic 94, 3) := by decide +kernel
theorem dX11_rust_37 : decode cX11_rust 37 = .ok (.aload_n 0, 1) := by decide +kernel
theorem dX11_rust_38 : decode cX11_rust 38 = .ok (.iload_n 1, 1) := by decide +kernel
theorem dX11_rust_39 : decode cX11_rust 39 = .ok (.iload 5, 2) := by decide +kernel
theorem dX11_rust_41 : decode cX11_rust 41 = .ok (.invokestatic 94, 3) := by decide +kernel
theorem dX11_rust_44 : decode cX11_rust 44 = .ok (.iaload, 1) := by decide +kernel
theorem dX11_rust_45 : decode cX11_rust 45 = .ok (.iastore, 1) := by decide +kernel
theorem dX11_rust_46 : decode cX11_rust 46 = .ok (.aload_n 0, 1) := by decide +kernel
theorem dX11_rust_47 : decode cX11_rust 47 = .ok (.iload_n 1, 1) := by decide +kernel
theorem dX11_rust_48 : decode cX11_rust 48 = .ok (.iload_n 3, 1) := by decide +kernel
theorem dX11_rust_49 : decode cX11_rust 49 = .ok (.invokestatic 94, 3) := by decide +kernel
theorem dX11_rust_52 : decode cX11_rust 52 = .ok (.iconst 1, 1) := by decide +kernel
theorem dX11_rust_53 : decode cX11_rust 53 = .ok (.iadd, 1) := by decide +kernel
theorem dX11_rust_54 : decode cX11_rust 54 = .ok (.aload_n 0, 1) := by decide +kernel
theorem dX11_rust_55 : decode cX11_rust 55 = .ok (.iload_n 1, 1) := by decide +kernel
theorem dX11_rust_56 : decode cX11_rust 56 = .ok (.iload 5, 2) := by decide +kernel
theorem dX11_rust_58 : decode cX11_rust 58 = .ok (.invokestatic 94, 3) := by decide +kernel
theorem dX11_rust_61 : decode cX11_rust 61 = .ok (.iconst 1, 1) := by decide +kernel
theorem dX11_rust_62 : decode cX11_rust 62 = .ok (.iadd, 1) := by decide +kernel
theorem dX11_rust_63 : decode cX11_rust 63 = .ok (.iaload, 1) := by decide +kernel
theorem dX11_rust_64 : decode cX11_rust 64 = .ok (.iastore, 1) := by decide +kernel
theorem dX11_rust_65 : decode cX11_rust 65 = .ok (.iinc 3 1, 3) := by decide +kernel
theorem dX11_rust_68 : decode cX11_rust 68 = .ok (.iinc 5 1, 3) := by decide +kernel
theorem dX11_rust_71 : decode cX11_rust 71 = .ok (.goto (-59), 3) := by decide +kernel
theorem dX11_rust_74 : decode cX11_rust 74 = .ok (.aload_n 0, 1) := by decide +kernel
theorem dX11_rust_75 : decode cX11_rust 75 = .ok (.iload_n 1, 1) := by decide +kernel
theorem dX11_rust_76 : decode cX11_rust 76 = .ok (.invokestatic 50, 3) := by decide +kernel
theorem dX11_rust_79 : decode cX11_rust 79 = .ok (.iconst 2, 1) := by decide +kernel
theorem dX11_rust_80 : decode cX11_rust 80 = .ok (.iadd, 1) := by decide +kernel
theorem dX11_rust_81 : decode cX11_rust 81 = .ok (.iload_n 3, 1) := by decide +kernel
theorem dX11_rust_82 : decode cX11_rust 82 = .ok (.iastore, 1) := by decide +kernel
theorem dX11_rust_83 : decode cX11_rust 83 = .ok (.iload 4, 2) := by decide +kernel
theorem dX11_rust_85 : decode cX11_rust 85 = .ok (.iload_n 3, 1) := by decide +kernel
theorem dX11_rust_86 : decode cX11_rust 86 = .ok (.isub, 1) := by decide +kernel
theorem dX11_rust_87 : decode cX11_rust 87 = .ok (.ireturn, 1) := by decide +kernel
theorem dX11_buyTrainOn_0 : decode cX11_buyTrainOn 0 = .ok (.aload_n 0, 1) := by decide +kernel
theorem dX11_buyTrainOn_1 : decode cX11_buyTrainOn 1 = .ok (.iload_n 1, 1) := by decide +kernel
theorem dX11_buyTrainOn_2 : decode cX11_buyTrainOn 2 = .ok (.bipush 20, 2) := by decide +kernel
theorem dX11_buyTrainOn_4 : decode cX11_buyTrainOn 4 = .ok (.iload_n 2, 1) := by decide +kernel
theorem dX11_buyTrainOn_5 : decode cX11_buyTrainOn 5 = .ok (.imul, 1) := by decide +kernel
theorem dX11_buyTrainOn_6 : decode cX11_buyTrainOn 6 = .ok (.invokestatic 102, 3) := by decide +kernel
theorem dX11_buyTrainOn_9 : decode cX11_buyTrainOn 9 = .ok (.iload_n 1, 1) := by decide +kernel
theorem dX11_buyTrainOn_10 : decode cX11_buyTrainOn 10 = .ok (.aload_n 0, 1) := by decide +kernel
theorem dX11_buyTrainOn_11 : decode cX11_buyTrainOn 11 = .ok (.iload_n 1, 1) := by decide +kernel
theorem dX11_buyTrainOn_12 : decode cX11_buyTrainOn 12 = .ok (.invokestatic 66, 3) := by decide +kernel
theorem dX11_buyTrainOn_15 : decode cX11_buyTrainOn 15 = .ok (.invokestatic 94, 3) := by decide +kernel
theorem dX11_buyTrainOn_18 : decode cX11_buyTrainOn 18 = .ok (.istore_n 3, 1) := by decide +kernel
theorem dX11_buyTrainOn_19 : decode cX11_buyTrainOn 19 = .ok (.aload_n 0, 1) := by decide +kernel
theorem dX11_buyTrainOn_20 : decode cX11_buyTrainOn 20 = .ok (.iload_n 3, 1) := by decide +kernel
theorem dX11_buyTrainOn_21 : decode cX11_buyTrainOn 21 = .ok (.iload_n 2, 1) := by decide +kernel
theorem dX11_buyTrainOn_22 : decode cX11_buyTrainOn 22 = .ok (.iastore, 1) := by decide +kernel
theorem dX11_buyTrainOn_23 : decode cX11_buyTrainOn 23 = .ok (.aload_n 0, 1) := by decide +kernel
theorem dX11_buyTrainOn_24 : decode cX11_buyTrainOn 24 = .ok (.iload_n 3, 1) := by decide +kernel
theorem dX11_buyTrainOn_25 : decode cX11_buyTrainOn 25 = .ok (.iconst 1, 1) := by decide +kernel
theorem dX11_buyTrainOn_26 : decode cX11_buyTrainOn 26 = .ok (.iadd, 1) := by decide +kernel
theorem dX11_buyTrainOn_27 : decode cX11_buyTrainOn 27 = .ok (.iconst 0, 1) := by decide +kernel
theorem dX11_buyTrainOn_28 : decode cX11_buyTrainOn 28 = .ok (.iastore, 1) := by decide +kernel
theorem dX11_buyTrainOn_29 : decode cX11_buyTrainOn 29 = .ok (.aload_n 0, 1) := by decide +kernel
theorem dX11_buyTrainOn_30 : decode cX11_buyTrainOn 30 = .ok (.iload_n 1, 1) := by decide +kernel
theorem dX11_buyTrainOn_31 : decode cX11_buyTrainOn 31 = .ok (.invokestatic 50, 3) := by decide +kernel
theorem dX11_buyTrainOn_34 : decode cX11_buyTrainOn 34 = .ok (.iconst 2, 1) := by decide +kernel
theorem dX11_buyTrainOn_35 : decode cX11_buyTrainOn 35 = .ok (.iadd, 1) := by decide +kernel
theorem dX11_buyTrainOn_36 : decode cX11_buyTrainOn 36 = .ok (.dup2, 1) := by decide +kernel
theorem dX11_buyTrainOn_37 : decode cX11_buyTrainOn 37 = .ok (.iaload, 1) := by decide +kernel
theorem dX11_buyTrainOn_38 : decode cX11_buyTrainOn 38 = .ok (.iconst 1, 1) := by decide +kernel
theorem dX11_buyTrainOn_39 : decode cX11_buyTrainOn 39 = .ok (.iadd, 1) := by decide +kernel
theorem dX11_buyTrainOn_40 : decode cX11_buyTrainOn 40 = .ok (.iastore, 1) := by decide +kernel
theorem dX11_buyTrainOn_41 : decode cX11_buyTrainOn 41 = .ok (.iload_n 2, 1) := by decide +kernel
theorem dX11_buyTrainOn_42 : decode cX11_buyTrainOn 42 = .ok (.aload_n 0, 1) := by decide +kernel
theorem dX11_buyTrainOn_43 : decode cX11_buyTrainOn 43 = .ok (.iconst 3, 1) := by decide +kernel
theorem dX11_buyTrainOn_44 : decode cX11_buyTrainOn 44 = .ok (.iaload, 1) := by decide +kernel
theorem dX11_buyTrainOn_45 : decode cX11_buyTrainOn 45 = .ok (.if_icmp .gt 5, 3) := by decide +kernel
theorem dX11_buyTrainOn_48 : decode cX11_buyTrainOn 48 = .ok (.iconst 0, 1) := by decide +kernel
theorem dX11_buyTrainOn_49 : decode cX11_buyTrainOn 49 = .ok (.ireturn, 1) := by decide +kernel
theorem dX11_buyTrainOn_50 : decode cX11_buyTrainOn 50 = .ok (.aload_n 0, 1) := by decide +kernel
theorem dX11_buyTrainOn_51 : decode cX11_buyTrainOn 51 = .ok (.iconst 3, 1) := by decide +kernel
theorem dX11_buyTrainOn_52 : decode cX11_buyTrainOn 52 = .ok (.dup2, 1) := by decide +kernel
theorem dX11_buyTrainOn_53 : decode cX11_buyTrainOn 53 = .ok (.iaload, 1) := by decide +kernel
theorem dX11_buyTrainOn_54 : decode cX11_buyTrainOn 54 = .ok (.iconst 1, 1) := by decide +kernel
theorem dX11_buyTrainOn_55 : decode cX11_buyTrainOn 55 = .ok (.iadd, 1) := by decide +kernel
theorem dX11_buyTrainOn_56 : decode cX11_buyTrainOn 56 = .ok (.iastore, 1) := by decide +kernel
theorem dX11_buyTrainOn_57 : decode cX11_buyTrainOn 57 = .ok (.iconst 0, 1) := by decide +kernel
theorem dX11_buyTrainOn_58 : decode cX11_buyTrainOn 58 = .ok (.istore 4, 2) := by decide +kernel
theorem dX11_buyTrainOn_60 : decode cX11_buyTrainOn 60 = .ok (.iconst 0, 1) := by decide +kernel
theorem dX11_buyTrainOn_61 : decode cX11_buyTrainOn 61 = .ok (.istore 5, 2) := by decide +kernel
theorem dX11_buyTrainOn_63 : decode cX11_buyTrainOn 63 = .ok (.iload 5, 2) := by decide +kernel
theorem dX11_buyTrainOn_65 : decode cX11_buyTrainOn 65 = .ok (.iconst 4, 1) := by decide +kernel
theorem dX11_buyTrainOn_66 : decode cX11_buyTrainOn 66 = .ok (.if_icmp .ge 25, 3) := by decide +kernel
theorem dX11_buyTrainOn_69 : decode cX11_buyTrainOn 69 = .ok (.iload 4, 2) := by decide +kernel
theorem dX11_buyTrainOn_71 : decode cX11_buyTrainOn 71 = .ok (.aload_n 0, 1) := by decide +kernel
theorem dX11_buyTrainOn_72 : decode cX11_buyTrainOn 72 = .ok (.iload 5, 2) := by decide +kernel
theorem dX11_buyTrainOn_74 : decode cX11_buyTrainOn 74 = .ok (.aload_n 0, 1) := by decide +kernel
theorem dX11_buyTrainOn_75 : decode cX11_buyTrainOn 75 = .ok (.iconst 3, 1) := by decide +kernel
theorem dX11_buyTrainOn_76 : decode cX11_buyTrainOn 76 = .ok (.iaload, 1) := by decide +kernel
theorem dX11_buyTrainOn_77 : decode cX11_buyTrainOn 77 = .ok (.iconst 1, 1) := by decide +kernel
theorem dX11_buyTrainOn_78 : decode cX11_buyTrainOn 78 = .ok (.isub, 1) := by decide +kernel
theorem dX11_buyTrainOn_79 : decode cX11_buyTrainOn 79 = .ok (.invokestatic 123, 3) := by decide +kernel
theorem dX11_buyTrainOn_82 : decode cX11_buyTrainOn 82 = .ok (.iadd, 1) := by decide +kernel
theorem dX11_buyTrainOn_83 : decode cX11_buyTrainOn 83 = .ok (.istore 4, 2) := by decide +kernel
theorem dX11_buyTrainOn_85 : decode cX11_buyTrainOn 85 = .ok (.iinc 5 1, 3) := by decide +kernel
theorem dX11_buyTrainOn_88 : decode cX11_buyTrainOn 88 = .ok (.goto (-25), 3) := by decide +kernel
theorem dX11_buyTrainOn_91 : decode cX11_buyTrainOn 91 = .ok (.aload_n 0, 1) := by decide +kernel
theorem dX11_buyTrainOn_92 : decode cX11_buyTrainOn 92 = .ok (.bipush 10, 2) := by decide +kernel
theorem dX11_buyTrainOn_94 : decode cX11_buyTrainOn 94 = .ok (.dup2, 1) := by decide +kernel
theorem dX11_buyTrainOn_95 : decode cX11_buyTrainOn 95 = .ok (.iaload, 1) := by decide +kernel
theorem dX11_buyTrainOn_96 : decode cX11_buyTrainOn 96 = .ok (.iload 4, 2) := by decide +kernel
theorem dX11_buyTrainOn_98 : decode cX11_buyTrainOn 98 = .ok (.iadd, 1) := by decide +kernel
theorem dX11_buyTrainOn_99 : decode cX11_buyTrainOn 99 = .ok (.iastore, 1) := by decide +kernel
theorem dX11_buyTrainOn_100 : decode cX11_buyTrainOn 100 = .ok (.iload 4, 2) := by decide +kernel
theorem dX11_buyTrainOn_102 : decode cX11_buyTrainOn 102 = .ok (.ireturn, 1) := by decide +kernel
theorem dX11_canTake_0 : decode cX11_canTake 0 = .ok (.aload_n 0, 1) := by decide +kernel
theorem dX11_canTake_1 : decode cX11_canTake 1 = .ok (.iload_n 1, 1) := by decide +kernel
theorem dX11_canTake_2 : decode cX11_canTake 2 = .ok (.invokestatic 57, 3) := by decide +kernel
theorem dX11_canTake_5 : decode cX11_canTake 5 = .ok (.iconst 4, 1) := by decide +kernel
theorem dX11_canTake_6 : decode cX11_canTake 6 = .ok (.iadd, 1) := by decide +kernel
theorem dX11_canTake_7 : decode cX11_canTake 7 = .ok (.iaload, 1) := by decide +kernel
theorem dX11_canTake_8 : decode cX11_canTake 8 = .ok (.bipush (-9), 2) := by decide +kernel
theorem dX11_canTake_10 : decode cX11_canTake 10 = .ok (.if_icmp .ne 7, 3) := by decide +kernel
theorem dX11_canTake_13 : decode cX11_canTake 13 = .ok (.iconst 1, 1) := by decide +kernel
theorem dX11_canTake_14 : decode cX11_canTake 14 = .ok (.goto 4, 3) := by decide +kernel
theorem dX11_canTake_17 : decode cX11_canTake 17 = .ok (.iconst 0, 1) := by decide +kernel
theorem dX11_canTake_18 : decode cX11_canTake 18 = .ok (.ireturn, 1) := by decide +kernel
theorem dX11_takeOn_0 : decode cX11_takeOn 0 = .ok (.aload_n 0, 1) := by decide +kernel
theorem dX11_takeOn_1 : decode cX11_takeOn 1 = .ok (.iload_n 2, 1) := by decide +kernel
theorem dX11_takeOn_2 : decode cX11_takeOn 2 = .ok (.invokestatic 57, 3) := by decide +kernel
theorem dX11_takeOn_5 : decode cX11_takeOn 5 = .ok (.iconst 4, 1) := by decide +kernel
theorem dX11_takeOn_6 : decode cX11_takeOn 6 = .ok (.iadd, 1) := by decide +kernel
theorem dX11_takeOn_7 : decode cX11_takeOn 7 = .ok (.iload_n 1, 1) := by decide +kernel
theorem dX11_takeOn_8 : decode cX11_takeOn 8 = .ok (.iastore, 1) := by decide +kernel
theorem dX11_takeOn_9 : decode cX11_takeOn 9 = .ok (.aload_n 0, 1) := by decide +kernel
theorem dX11_takeOn_10 : decode cX11_takeOn 10 = .ok (.iload_n 1, 1) := by decide +kernel
theorem dX11_takeOn_11 : decode cX11_takeOn 11 = .ok (.invokestatic 126, 3) := by decide +kernel
theorem dX11_takeOn_14 : decode cX11_takeOn 14 = .ok (.ireturn, 1) := by decide +kernel
theorem dX11_worthOf_0 : decode cX11_worthOf 0 = .ok (.aload_n 0, 1) := by decide +kernel
theorem dX11_worthOf_1 : decode cX11_worthOf 1 = .ok (.iload_n 1, 1) := by decide +kernel
theorem dX11_worthOf_2 : decode cX11_worthOf 2 = .ok (.invokestatic 50, 3) := by decide +kernel
theorem dX11_worthOf_5 : decode cX11_worthOf 5 = .ok (.iaload, 1) := by decide +kernel
theorem dX11_worthOf_6 : decode cX11_worthOf 6 = .ok (.iconst 3, 1) := by decide +kernel
theorem dX11_worthOf_7 : decode cX11_worthOf 7 = .ok (.aload_n 0, 1) := by decide +kernel
theorem dX11_worthOf_8 : decode cX11_worthOf 8 = .ok (.iload_n 1, 1) := by decide +kernel
theorem dX11_worthOf_9 : decode cX11_worthOf 9 = .ok (.iconst 1, 1) := by decide +kernel
theorem dX11_worthOf_10 : decode cX11_worthOf 10 = .ok (.invokestatic 113, 3) := by decide +kernel
theorem dX11_worthOf_13 : decode cX11_worthOf 13 = .ok (.imul, 1) := by decide +kernel
theorem dX11_worthOf_14 : decode cX11_worthOf 14 = .ok (.iadd, 1) := by decide +kernel
theorem dX11_worthOf_15 : decode cX11_worthOf 15 = .ok (.bipush 10, 2) := by decide +kernel
theorem dX11_worthOf_17 : decode cX11_worthOf 17 = .ok (.aload_n 0, 1) := by decide +kernel
theorem dX11_worthOf_18 : decode cX11_worthOf 18 = .ok (.iload_n 1, 1) := by decide +kernel
theorem dX11_worthOf_19 : decode cX11_worthOf 19 = .ok (.invokestatic 117, 3) := by decide +kernel
theorem dX11_worthOf_22 : decode cX11_worthOf 22 = .ok (.imul, 1) := by decide +kernel
theorem dX11_worthOf_23 : decode cX11_worthOf 23 = .ok (.iadd, 1) := by decide +kernel
theorem dX11_worthOf_24 : decode cX11_worthOf 24 = .ok (.ireturn, 1) := by decide +kernel
theorem dX11_append_0 : decode cX11_append 0 = .ok (.aload_n 0, 1) := by decide +kernel
theorem dX11_append_1 : decode cX11_append 1 = .ok (.iload_n 1, 1) := by decide +kernel
theorem dX11_append_2 : decode cX11_append 2 = .ok (.i2l, 1) := by decide +kernel
theorem dX11_append_3 : decode cX11_append 3 = .ok (.lconst 0, 1) := by decide +kernel
theorem dX11_append_4 : decode cX11_append 4 = .ok (.ldc2_w 129, 3) := by decide +kernel
theorem dX11_append_7 : decode cX11_append 7 = .ok (.invokestatic 62, 3) := by decide +kernel
theorem dX11_append_10 : decode cX11_append 10 = .ok (.ifCond .ne 7, 3) := by decide +kernel
theorem dX11_append_13 : decode cX11_append 13 = .ok (.iconst 1, 1) := by decide +kernel
theorem dX11_append_14 : decode cX11_append 14 = .ok (.goto 17, 3) := by decide +kernel
theorem dX11_append_17 : decode cX11_append 17 = .ok (.aload_n 0, 1) := by decide +kernel
theorem dX11_append_18 : decode cX11_append 18 = .ok (.getfield 131, 3) := by decide +kernel
theorem dX11_append_21 : decode cX11_append 21 = .ok (.bipush 100, 2) := by decide +kernel
theorem dX11_append_23 : decode cX11_append 23 = .ok (.if_icmp .ne 7, 3) := by decide +kernel
theorem dX11_append_26 : decode cX11_append 26 = .ok (.iconst 2, 1) := by decide +kernel
theorem dX11_append_27 : decode cX11_append 27 = .ok (.goto 4, 3) := by decide +kernel
theorem dX11_append_30 : decode cX11_append 30 = .ok (.iconst 0, 1) := by decide +kernel
theorem dX11_append_31 : decode cX11_append 31 = .ok (.invokevirtual 134, 3) := by decide +kernel
theorem dX11_append_34 : decode cX11_append 34 = .ok (.ifCond .eq 5, 3) := by decide +kernel
theorem dX11_append_37 : decode cX11_append 37 = .ok (.iconst 0, 1) := by decide +kernel
theorem dX11_append_38 : decode cX11_append 38 = .ok (.ireturn, 1) := by decide +kernel
theorem dX11_append_39 : decode cX11_append 39 = .ok (.aload_n 0, 1) := by decide +kernel
theorem dX11_append_40 : decode cX11_append 40 = .ok (.getfield 7, 3) := by decide +kernel
theorem dX11_append_43 : decode cX11_append 43 = .ok (.aload_n 0, 1) := by decide +kernel
theorem dX11_append_44 : decode cX11_append 44 = .ok (.getfield 131, 3) := by decide +kernel
theorem dX11_append_47 : decode cX11_append 47 = .ok (.iload_n 1, 1) := by decide +kernel
theorem dX11_append_48 : decode cX11_append 48 = .ok (.iastore, 1) := by decide +kernel
theorem dX11_append_49 : decode cX11_append 49 = .ok (.aload_n 0, 1) := by decide +kernel
theorem dX11_append_50 : decode cX11_append 50 = .ok (.dup, 1) := by decide +kernel
theorem dX11_append_51 : decode cX11_append 51 = .ok (.getfield 131, 3) := by decide +kernel
theorem dX11_append_54 : decode cX11_append 54 = .ok (.iconst 1, 1) := by decide +kernel
theorem dX11_append_55 : decode cX11_append 55 = .ok (.iadd, 1) := by decide +kernel
theorem dX11_append_56 : decode cX11_append 56 = .ok (.putfield 131, 3) := by decide +kernel
theorem dX11_append_59 : decode cX11_append 59 = .ok (.aload_n 0, 1) := by decide +kernel
theorem dX11_append_60 : decode cX11_append 60 = .ok (.getfield 131, 3) := by decide +kernel
theorem dX11_append_63 : decode cX11_append 63 = .ok (.ireturn, 1) := by decide +kernel
theorem dX11_clearText_0 : decode cX11_clearText 0 = .ok (.aload_n 0, 1) := by decide +kernel
theorem dX11_clearText_1 : decode cX11_clearText 1 = .ok (.iconst 0, 1) := by decide +kernel
theorem dX11_clearText_2 : decode cX11_clearText 2 = .ok (.putfield 46, 3) := by decide +kernel
theorem dX11_clearText_5 : decode cX11_clearText 5 = .ok (.aload_n 0, 1) := by decide +kernel
theorem dX11_clearText_6 : decode cX11_clearText 6 = .ok (.getfield 131, 3) := by decide +kernel
theorem dX11_clearText_9 : decode cX11_clearText 9 = .ok (.istore_n 1, 1) := by decide +kernel
theorem dX11_clearText_10 : decode cX11_clearText 10 = .ok (.aload_n 0, 1) := by decide +kernel
theorem dX11_clearText_11 : decode cX11_clearText 11 = .ok (.iconst 0, 1) := by decide +kernel
theorem dX11_clearText_12 : decode cX11_clearText 12 = .ok (.putfield 131, 3) := by decide +kernel
theorem dX11_clearText_15 : decode cX11_clearText 15 = .ok (.iload_n 1, 1) := by decide +kernel
theorem dX11_clearText_16 : decode cX11_clearText 16 = .ok (.ireturn, 1) := by decide +kernel
theorem dX11_eat_0 : decode cX11_eat 0 = .ok (.aload_n 0, 1) := by decide +kernel
theorem dX11_eat_1 : decode cX11_eat 1 = .ok (.getfield 138, 3) := by decide +kernel
theorem dX11_eat_4 : decode cX11_eat 4 = .ok (.aload_n 0, 1) := by decide +kernel
theorem dX11_eat_5 : decode cX11_eat 5 = .ok (.getfield 131, 3) := by decide +kernel
theorem dX11_eat_8 : decode cX11_eat 8 = .ok (.if_icmp .ge 20, 3) := by decide +kernel
theorem dX11_eat_11 : decode cX11_eat 11 = .ok (.aload_n 0, 1) := by decide +kernel
theorem dX11_eat_12 : decode cX11_eat 12 = .ok (.getfield 7, 3) := by decide +kernel
theorem dX11_eat_15 : decode cX11_eat 15 = .ok (.aload_n 0, 1) := by decide +kernel
theorem dX11_eat_16 : decode cX11_eat 16 = .ok (.getfield 138, 3) := by decide +kernel
theorem dX11_eat_19 : decode cX11_eat 19 = .ok (.iaload, 1) := by decide +kernel
theorem dX11_eat_20 : decode cX11_eat 20 = .ok (.iload_n 1, 1) := by decide +kernel
theorem dX11_eat_21 : decode cX11_eat 21 = .ok (.if_icmp .ne 7, 3) := by decide +kernel
theorem dX11_eat_24 : decode cX11_eat 24 = .ok (.iconst 1, 1) := by decide +kernel
theorem dX11_eat_25 : decode cX11_eat 25 = .ok (.goto 4, 3) := by decide +kernel
theorem dX11_eat_28 : decode cX11_eat 28 = .ok (.iconst 0, 1) := by decide +kernel
theorem dX11_eat_29 : decode cX11_eat 29 = .ok (.istore_n 2, 1) := by decide +kernel
theorem dX11_eat_30 : decode cX11_eat 30 = .ok (.aload_n 0, 1) := by decide +kernel
theorem dX11_eat_31 : decode cX11_eat 31 = .ok (.dup, 1) := by decide +kernel
theorem dX11_eat_32 : decode cX11_eat 32 = .ok (.getfield 138, 3) := by decide +kernel
theorem dX11_eat_35 : decode cX11_eat 35 = .ok (.iload_n 2, 1) := by decide +kernel
theorem dX11_eat_36 : decode cX11_eat 36 = .ok (.ifCond .eq 7, 3) := by decide +kernel
theorem dX11_eat_39 : decode cX11_eat 39 = .ok (.iconst 1, 1) := by decide +kernel
theorem dX11_eat_40 : decode cX11_eat 40 = .ok (.goto 4, 3) := by decide +kernel
theorem dX11_eat_43 : decode cX11_eat 43 = .ok (.iconst 0, 1) := by decide +kernel
theorem dX11_eat_44 : decode cX11_eat 44 = .ok (.iadd, 1) := by decide +kernel
theorem dX11_eat_45 : decode cX11_eat 45 = .ok (.putfield 138, 3) := by decide +kernel
theorem dX11_eat_48 : decode cX11_eat 48 = .ok (.iload_n 2, 1) := by decide +kernel
theorem dX11_eat_49 : decode cX11_eat 49 = .ok (.ireturn, 1) := by decide +kernel
theorem dX11_digit_0 : decode cX11_digit 0 = .ok (.aload_n 0, 1) := by decide +kernel
theorem dX11_digit_1 : decode cX11_digit 1 = .ok (.getfield 138, 3) := by decide +kernel
theorem dX11_digit_4 : decode cX11_digit 4 = .ok (.aload_n 0, 1) := by decide +kernel
theorem dX11_digit_5 : decode cX11_digit 5 = .ok (.getfield 131, 3) := by decide +kernel
theorem dX11_digit_8 : decode cX11_digit 8 = .ok (.if_icmp .ge 18, 3) := by decide +kernel
theorem dX11_digit_11 : decode cX11_digit 11 = .ok (.aload_n 0, 1) := by decide +kernel
theorem dX11_digit_12 : decode cX11_digit 12 = .ok (.getfield 7, 3) := by decide +kernel
theorem dX11_digit_15 : decode cX11_digit 15 = .ok (.aload_n 0, 1) := by decide +kernel
theorem dX11_digit_16 : decode cX11_digit 16 = .ok (.getfield 138, 3) := by decide +kernel
theorem dX11_digit_19 : decode cX11_digit 19 = .ok (.iaload, 1) := by decide +kernel
theorem dX11_digit_20 : decode cX11_digit 20 = .ok (.bipush 48, 2) := by decide +kernel
theorem dX11_digit_22 : decode cX11_digit 22 = .ok (.isub, 1) := by decide +kernel
theorem dX11_digit_23 : decode cX11_digit 23 = .ok (.goto 4, 3) := by decide +kernel
theorem dX11_digit_26 : decode cX11_digit 26 = .ok (.iconst (-1), 1) := by decide +kernel
theorem dX11_digit_27 : decode cX11_digit 27 = .ok (.istore 4, 2) := by decide +kernel
theorem dX11_digit_29 : decode cX11_digit 29 = .ok (.iload 4, 2) := by decide +kernel
theorem dX11_digit_31 : decode cX11_digit 31 = .ok (.i2l, 1) := by decide +kernel
theorem dX11_digit_32 : decode cX11_digit 32 = .ok (.iload_n 1, 1) := by decide +kernel
theorem dX11_digit_33 : decode cX11_digit 33 = .ok (.i2l, 1) := by decide +kernel
theorem dX11_digit_34 : decode cX11_digit 34 = .ok (.iload_n 2, 1) := by decide +kernel
theorem dX11_digit_35 : decode cX11_digit 35 = .ok (.i2l, 1) := by decide +kernel
theorem dX11_digit_36 : decode cX11_digit 36 = .ok (.invokestatic 62, 3) := by decide +kernel
theorem dX11_digit_39 : decode cX11_digit 39 = .ok (.ifCond .eq 13, 3) := by decide +kernel
theorem dX11_digit_42 : decode cX11_digit 42 = .ok (.iload 4, 2) := by decide +kernel
theorem dX11_digit_44 : decode cX11_digit 44 = .ok (.iload_n 3, 1) := by decide +kernel
theorem dX11_digit_45 : decode cX11_digit 45 = .ok (.if_icmp .eq 7, 3) := by decide +kernel
theorem dX11_digit_48 : decode cX11_digit 48 = .ok (.iconst 1, 1) := by decide +kernel
theorem dX11_digit_49 : decode cX11_digit 49 = .ok (.goto 4, 3) := by decide +kernel
theorem dX11_digit_52 : decode cX11_digit 52 = .ok (.iconst 0, 1) := by decide +kernel
theorem dX11_digit_53 : decode cX11_digit 53 = .ok (.istore 5, 2) := by decide +kernel
theorem dX11_digit_55 : decode cX11_digit 55 = .ok (.aload_n 0, 1) := by decide +kernel
theorem dX11_digit_56 : decode cX11_digit 56 = .ok (.dup, 1) := by decide +kernel
theorem dX11_digit_57 : decode cX11_digit 57 = .ok (.getfield 138, 3) := by decide +kernel
theorem dX11_digit_60 : decode cX11_digit 60 = .ok (.iload 5, 2) := by decide +kernel
theorem dX11_digit_62 : decode cX11_digit 62 = .ok (.ifCond .eq 7, 3) := by decide +kernel
theorem dX11_digit_65 : decode cX11_digit 65 = .ok (.iconst 1, 1) := by decide +kernel
theorem dX11_digit_66 : decode cX11_digit 66 = .ok (.goto 4, 3) := by decide +kernel
theorem dX11_digit_69 : decode cX11_digit 69 = .ok (.iconst 0, 1) := by decide +kernel
theorem dX11_digit_70 : decode cX11_digit 70 = .ok (.iadd, 1) := by decide +kernel
theorem dX11_digit_71 : decode cX11_digit 71 = .ok (.putfield 138, 3) := by decide +kernel
theorem dX11_digit_74 : decode cX11_digit 74 = .ok (.iload 5, 2) := by decide +kernel
theorem dX11_digit_76 : decode cX11_digit 76 = .ok (.ifCond .eq 8, 3) := by decide +kernel
theorem dX11_digit_79 : decode cX11_digit 79 = .ok (.iload 4, 2) := by decide +kernel
theorem dX11_digit_81 : decode cX11_digit 81 = .ok (.goto 5, 3) := by decide +kernel
theorem dX11_digit_84 : decode cX11_digit 84 = .ok (.bipush (-9), 2) := by decide +kernel
theorem dX11_digit_86 : decode cX11_digit 86 = .ok (.ireturn, 1) := by decide +kernel
theorem dX11_readTrack_0 : decode cX11_readTrack 0 = .ok (.aload_n 0, 1) := by decide +kernel
theorem dX11_readTrack_1 : decode cX11_readTrack 1 = .ok (.iconst 0, 1) := by decide +kernel
theorem dX11_readTrack_2 : decode cX11_readTrack 2 = .ok (.aload_n 0, 1) := by decide +kernel
theorem dX11_readTrack_3 : decode cX11_readTrack 3 = .ok (.getfield 13, 3) := by decide +kernel
theorem dX11_readTrack_6 : decode cX11_readTrack 6 = .ok (.iconst 0, 1) := by decide +kernel
theorem dX11_readTrack_7 : decode cX11_readTrack 7 = .ok (.iaload, 1) := by decide +kernel
theorem dX11_readTrack_8 : decode cX11_readTrack 8 = .ok (.iconst 1, 1) := by decide +kernel
theorem dX11_readTrack_9 : decode cX11_readTrack 9 = .ok (.isub, 1) := by decide +kernel
theorem dX11_readTrack_10 : decode cX11_readTrack 10 = .ok (.bipush (-9), 2) := by decide +kernel
theorem dX11_readTrack_12 : decode cX11_readTrack 12 = .ok (.invokevirtual 141, 3) := by decide +kernel
theorem dX11_readTrack_15 : decode cX11_readTrack 15 = .ok (.istore_n 1, 1) := by decide +kernel
theorem dX11_readTrack_16 : decode cX11_readTrack 16 = .ok (.iload_n 1, 1) := by decide +kernel
theorem dX11_readTrack_17 : decode cX11_readTrack 17 = .ok (.bipush (-9), 2) := by decide +kernel
theorem dX11_readTrack_19 : decode cX11_readTrack 19 = .ok (.if_icmp .ne 8, 3) := by decide +kernel
theorem dX11_readTrack_22 : decode cX11_readTrack 22 = .ok (.bipush (-9), 2) := by decide +kernel
theorem dX11_readTrack_24 : decode cX11_readTrack 24 = .ok (.goto 17, 3) := by decide +kernel
theorem dX11_readTrack_27 : decode cX11_readTrack 27 = .ok (.aload_n 0, 1) := by decide +kernel
theorem dX11_readTrack_28 : decode cX11_readTrack 28 = .ok (.iconst 0, 1) := by decide +kernel
theorem dX11_readTrack_29 : decode cX11_readTrack 29 = .ok (.aload_n 0, 1) := by decide +kernel
theorem dX11_readTrack_30 : decode cX11_readTrack 30 = .ok (.getfield 13, 3) := by decide +kernel
theorem dX11_readTrack_33 : decode cX11_readTrack 33 = .ok (.iconst 0, 1) := by decide +kernel
theorem dX11_readTrack_34 : decode cX11_readTrack 34 = .ok (.iaload, 1) := by decide +kernel
theorem dX11_readTrack_35 : decode cX11_readTrack 35 = .ok (.iconst 1, 1) := by decide +kernel
theorem dX11_readTrack_36 : decode cX11_readTrack 36 = .ok (.isub, 1) := by decide +kernel
theorem dX11_readTrack_37 : decode cX11_readTrack 37 = .ok (.iload_n 1, 1) := by decide +kernel
theorem dX11_readTrack_38 : decode cX11_readTrack 38 = .ok (.invokevirtual 141, 3) := by decide +kernel
theorem dX11_readTrack_41 : decode cX11_readTrack 41 = .ok (.istore_n 2, 1) := by decide +kernel
theorem dX11_readTrack_42 : decode cX11_readTrack 42 = .ok (.iload_n 2, 1) := by decide +kernel
theorem dX11_readTrack_43 : decode cX11_readTrack 43 = .ok (.bipush (-9), 2) := by decide +kernel
theorem dX11_readTrack_45 : decode cX11_readTrack 45 = .ok (.if_icmp .ne 8, 3) := by decide +kernel
theorem dX11_readTrack_48 : decode cX11_readTrack 48 = .ok (.bipush (-9), 2) := by decide +kernel
theorem dX11_readTrack_50 : decode cX11_readTrack 50 = .ok (.goto 12, 3) := by decide +kernel
theorem dX11_readTrack_53 : decode cX11_readTrack 53 = .ok (.aload_n 0, 1) := by decide +kernel
theorem dX11_readTrack_54 : decode cX11_readTrack 54 = .ok (.iconst 1, 1) := by decide +kernel
theorem dX11_readTrack_55 : decode cX11_readTrack 55 = .ok (.bipush 9, 2) := by decide +kernel
theorem dX11_readTrack_57 : decode cX11_readTrack 57 = .ok (.bipush (-9), 2) := by decide +kernel
theorem dX11_readTrack_59 : decode cX11_readTrack 59 = .ok (.invokevirtual 141, 3) := by decide +kernel
theorem dX11_readTrack_62 : decode cX11_readTrack 62 = .ok (.istore_n 3, 1) := by decide +kernel
theorem dX11_readTrack_63 : decode cX11_readTrack 63 = .ok (.iload_n 3, 1) := by decide +kernel
theorem dX11_readTrack_64 : decode cX11_readTrack 64 = .ok (.bipush (-9), 2) := by decide +kernel
theorem dX11_readTrack_66 : decode cX11_readTrack 66 = .ok (.if_icmp .ne 5, 3) := by decide +kernel
theorem dX11_readTrack_69 : decode cX11_readTrack 69 = .ok (.iconst 0, 1) := by decide +kernel
theorem dX11_readTrack_70 : decode cX11_readTrack 70 = .ok (.ireturn, 1) := by decide +kernel
theorem dX11_readTrack_71 : decode cX11_readTrack 71 = .ok (.aload_n 0, 1) := by decide +kernel
theorem dX11_readTrack_72 : decode cX11_readTrack 72 = .ok (.getfield 13, 3) := by decide +kernel
theorem dX11_readTrack_75 : decode cX11_readTrack 75 = .ok (.iload_n 1, 1) := by decide +kernel
theorem dX11_readTrack_76 : decode cX11_readTrack 76 = .ok (.iload_n 2, 1) := by decide +kernel
theorem dX11_readTrack_77 : decode cX11_readTrack 77 = .ok (.iload_n 3, 1) := by decide +kernel
theorem dX11_readTrack_78 : decode cX11_readTrack 78 = .ok (.invokestatic 42, 3) := by decide +kernel
theorem dX11_readTrack_81 : decode cX11_readTrack 81 = .ok (.iconst 1, 1) := by decide +kernel
theorem dX11_readTrack_82 : decode cX11_readTrack 82 = .ok (.ireturn, 1) := by decide +kernel
theorem dX11_readContract_0 : decode cX11_readContract 0 = .ok (.aload_n 0, 1) := by decide +kernel
theorem dX11_readContract_1 : decode cX11_readContract 1 = .ok (.iconst 0, 1) := by decide +kernel
theorem dX11_readContract_2 : decode cX11_readContract 2 = .ok (.aload_n 0, 1) := by decide +kernel
theorem dX11_readContract_3 : decode cX11_readContract 3 = .ok (.getfield 13, 3) := by decide +kernel
theorem dX11_readContract_6 : decode cX11_readContract 6 = .ok (.iconst 0, 1) := by decide +kernel
theorem dX11_readContract_7 : decode cX11_readContract 7 = .ok (.iaload, 1) := by decide +kernel
theorem dX11_readContract_8 : decode cX11_readContract 8 = .ok (.iconst 1, 1) := by decide +kernel
theorem dX11_readContract_9 : decode cX11_readContract 9 = .ok (.isub, 1) := by decide +kernel
theorem dX11_readContract_10 : decode cX11_readContract 10 = .ok (.bipush (-9), 2) := by decide +kernel
theorem dX11_readContract_12 : decode cX11_readContract 12 = .ok (.invokevirtual 141, 3) := by decide +kernel
theorem dX11_readContract_15 : decode cX11_readContract 15 = .ok (.istore_n 1, 1) := by decide +kernel
theorem dX11_readContract_16 : decode cX11_readContract 16 = .ok (.iload_n 1, 1) := by decide +kernel
theorem dX11_readContract_17 : decode cX11_readContract 17 = .ok (.bipush (-9), 2) := by decide +kernel
theorem dX11_readContract_19 : decode cX11_readContract 19 = .ok (.if_icmp .ne 8, 3) := by decide +kernel
theorem dX11_readContract_22 : decode cX11_readContract 22 = .ok (.bipush (-9), 2) := by decide +kernel
theorem dX11_readContract_24 : decode cX11_readContract 24 = .ok (.goto 17, 3) := by decide +kernel
theorem dX11_readContract_27 : decode cX11_readContract 27 = .ok (.aload_n 0, 1) := by decide +kernel
theorem dX11_readContract_28 : decode cX11_readContract 28 = .ok (.iconst 0, 1) := by decide +kernel
theorem dX11_readContract_29 : decode cX11_readContract 29 = .ok (.aload_n 0, 1) := by decide +kernel
theorem dX11_readContract_30 : decode cX11_readContract 30 = .ok (.getfield 13, 3) := by decide +kernel
theorem dX11_readContract_33 : decode cX11_readContract 33 = .ok (.iconst 0, 1) := by decide +kernel
theorem dX11_readContract_34 : decode cX11_readContract 34 = .ok (.iaload, 1) := by decide +kernel
theorem dX11_readContract_35 : decode cX11_readContract 35 = .ok (.iconst 1, 1) := by decide +kernel
theorem dX11_readContract_36 : decode cX11_readContract 36 = .ok (.isub, 1) := by decide +kernel
theorem dX11_readContract_37 : decode cX11_readContract 37 = .ok (.iload_n 1, 1) := by decide +kernel
theorem dX11_readContract_38 : decode cX11_readContract 38 = .ok (.invokevirtual 141, 3) := by decide +kernel
theorem dX11_readContract_41 : decode cX11_readContract 41 = .ok (.istore_n 2, 1) := by decide +kernel
theorem dX11_readContract_42 : decode cX11_readContract 42 = .ok (.iload_n 2, 1) := by decide +kernel
theorem dX11_readContract_43 : decode cX11_readContract 43 = .ok (.bipush (-9), 2) := by decide +kernel
theorem dX11_readContract_45 : decode cX11_readContract 45 = .ok (.if_icmp .ne 8, 3) := by decide +kernel
theorem dX11_readContract_48 : decode cX11_readContract 48 = .ok (.bipush (-9), 2) := by decide +kernel
theorem dX11_readContract_50 : decode cX11_readContract 50 = .ok (.goto 12, 3) := by decide +kernel
theorem dX11_readContract_53 : decode cX11_readContract 53 = .ok (.aload_n 0, 1) := by decide +kernel
theorem dX11_readContract_54 : decode cX11_readContract 54 = .ok (.iconst 0, 1) := by decide +kernel
theorem dX11_readContract_55 : decode cX11_readContract 55 = .ok (.bipush 9, 2) := by decide +kernel
theorem dX11_readContract_57 : decode cX11_readContract 57 = .ok (.bipush (-9), 2) := by decide +kernel
theorem dX11_readContract_59 : decode cX11_readContract 59 = .ok (.invokevirtual 141, 3) := by decide +kernel
theorem dX11_readContract_62 : decode cX11_readContract 62 = .ok (.istore_n 3, 1) := by decide +kernel
theorem dX11_readContract_63 : decode cX11_readContract 63 = .ok (.iload_n 3, 1) := by decide +kernel
theorem dX11_readContract_64 : decode cX11_readContract 64 = .ok (.bipush (-9), 2) := by decide +kernel
theorem dX11_readContract_66 : decode cX11_readContract 66 = .ok (.if_icmp .ne 8, 3) := by decide +kernel
theorem dX11_readContract_69 : decode cX11_readContract 69 = .ok (.bipush (-9), 2) := by decide +kernel
theorem dX11_readContract_71 : decode cX11_readContract 71 = .ok (.goto 20, 3) := by decide +kernel
theorem dX11_readContract_74 : decode cX11_readContract 74 = .ok (.aload_n 0, 1) := by decide +kernel
theorem dX11_readContract_75 : decode cX11_readContract 75 = .ok (.iload_n 3, 1) := by decide +kernel
theorem dX11_readContract_76 : decode cX11_readContract 76 = .ok (.ifCond .ne 7, 3) := by decide +kernel
theorem dX11_readContract_79 : decode cX11_readContract 79 = .ok (.iconst 1, 1) := by decide +kernel
theorem dX11_readContract_80 : decode cX11_readContract 80 = .ok (.goto 4, 3) := by decide +kernel
theorem dX11_readContract_83 : decode cX11_readContract 83 = .ok (.iconst 0, 1) := by decide +kernel
theorem dX11_readContract_84 : decode cX11_readContract 84 = .ok (.bipush 9, 2) := by decide +kernel
theorem dX11_readContract_86 : decode cX11_readContract 86 = .ok (.bipush (-9), 2) := by decide +kernel
theorem dX11_readContract_88 : decode cX11_readContract 88 = .ok (.invokevirtual 141, 3) := by decide +kernel
theorem dX11_readContract_91 : decode cX11_readContract 91 = .ok (.istore 4, 2) := by decide +kernel
theorem dX11_readContract_93 : decode cX11_readContract 93 = .ok (.iload 4, 2) := by decide +kernel
theorem dX11_readContract_95 : decode cX11_readContract 95 = .ok (.bipush (-9), 2) := by decide +kernel
theorem dX11_readContract_97 : decode cX11_readContract 97 = .ok (.if_icmp .ne 8, 3) := by decide +kernel
theorem dX11_readContract_100 : decode cX11_readContract 100 = .ok (.bipush (-9), 2) := by decide +kernel
theorem dX11_readContract_102 : decode cX11_readContract 102 = .ok (.goto 12, 3) := by decide +kernel
theorem dX11_readContract_105 : decode cX11_readContract 105 = .ok (.aload_n 0, 1) := by decide +kernel
theorem dX11_readContract_106 : decode cX11_readContract 106 = .ok (.iconst 1, 1) := by decide +kernel
theorem dX11_readContract_107 : decode cX11_readContract 107 = .ok (.bipush 9, 2) := by decide +kernel
theorem dX11_readContract_109 : decode cX11_readContract 109 = .ok (.bipush (-9), 2) := by decide +kernel
theorem dX11_readContract_111 : decode cX11_readContract 111 = .ok (.invokevirtual 141, 3) := by decide +kernel
theorem dX11_readContract_114 : decode cX11_readContract 114 = .ok (.istore 5, 2) := by decide +kernel
theorem dX11_readContract_116 : decode cX11_readContract 116 = .ok (.iload 5, 2) := by decide +kernel
theorem dX11_readContract_118 : decode cX11_readContract 118 = .ok (.bipush (-9), 2) := by decide +kernel
theorem dX11_readContract_120 : decode cX11_readContract 120 = .ok (.if_icmp .ne 5, 3) := by decide +kernel
theorem dX11_readContract_123 : decode cX11_readContract 123 = .ok (.iconst 0, 1) := by decide +kernel
theorem dX11_readContract_124 : decode cX11_readContract 124 = .ok (.ireturn, 1) := by decide +kernel
theorem dX11_readContract_125 : decode cX11_readContract 125 = .ok (.aload_n 0, 1) := by decide +kernel
theorem dX11_readContract_126 : decode cX11_readContract 126 = .ok (.getfield 13, 3) := by decide +kernel
theorem dX11_readContract_129 : decode cX11_readContract 129 = .ok (.iload_n 1, 1) := by decide +kernel
theorem dX11_readContract_130 : decode cX11_readContract 130 = .ok (.iload_n 2, 1) := by decide +kernel
theorem dX11_readContract_131 : decode cX11_readContract 131 = .ok (.bipush 10, 2) := by decide +kernel
theorem dX11_readContract_133 : decode cX11_readContract 133 = .ok (.iload_n 3, 1) := by decide +kernel
theorem dX11_readContract_134 : decode cX11_readContract 134 = .ok (.imul, 1) := by decide +kernel
theorem dX11_readContract_135 : decode cX11_readContract 135 = .ok (.iload 4, 2) := by decide +kernel
theorem dX11_readContract_137 : decode cX11_readContract 137 = .ok (.iadd, 1) := by decide +kernel
theorem dX11_readContract_138 : decode cX11_readContract 138 = .ok (.iload 5, 2) := by decide +kernel
theorem dX11_readContract_140 : decode cX11_readContract 140 = .ok (.invokestatic 145, 3) := by decide +kernel
theorem dX11_readContract_143 : decode cX11_readContract 143 = .ok (.iconst 1, 1) := by decide +kernel
theorem dX11_readContract_144 : decode cX11_readContract 144 = .ok (.ireturn, 1) := by decide +kernel
theorem dX11_readAll_0 : decode cX11_readAll 0 = .ok (.aload_n 0, 1) := by decide +kernel
theorem dX11_readAll_1 : decode cX11_readAll 1 = .ok (.iconst 0, 1) := by decide +kernel
theorem dX11_readAll_2 : decode cX11_readAll 2 = .ok (.putfield 138, 3) := by decide +kernel
theorem dX11_readAll_5 : decode cX11_readAll 5 = .ok (.aload_n 0, 1) := by decide +kernel
theorem dX11_readAll_6 : decode cX11_readAll 6 = .ok (.getfield 13, 3) := by decide +kernel
theorem dX11_readAll_9 : decode cX11_readAll 9 = .ok (.invokestatic 38, 3) := by decide +kernel
theorem dX11_readAll_12 : decode cX11_readAll 12 = .ok (.aload_n 0, 1) := by decide +kernel
theorem dX11_readAll_13 : decode cX11_readAll 13 = .ok (.bipush 82, 2) := by decide +kernel
theorem dX11_readAll_15 : decode cX11_readAll 15 = .ok (.invokevirtual 149, 3) := by decide +kernel
theorem dX11_readAll_18 : decode cX11_readAll 18 = .ok (.ifCond .ne 5, 3) := by decide +kernel
theorem dX11_readAll_21 : decode cX11_readAll 21 = .ok (.iconst 0, 1) := by decide +kernel
theorem dX11_readAll_22 : decode cX11_readAll 22 = .ok (.ireturn, 1) := by decide +kernel
theorem dX11_readAll_23 : decode cX11_readAll 23 = .ok (.aload_n 0, 1) := by decide +kernel
theorem dX11_readAll_24 : decode cX11_readAll 24 = .ok (.iconst 2, 1) := by decide +kernel
theorem dX11_readAll_25 : decode cX11_readAll 25 = .ok (.bipush 9, 2) := by decide +kernel
theorem dX11_readAll_27 : decode cX11_readAll 27 = .ok (.bipush (-9), 2) := by decide +kernel
theorem dX11_readAll_29 : decode cX11_readAll 29 = .ok (.invokevirtual 141, 3) := by decide +kernel
theorem dX11_readAll_32 : decode cX11_readAll 32 = .ok (.istore_n 1, 1) := by decide +kernel
theorem dX11_readAll_33 : decode cX11_readAll 33 = .ok (.iload_n 1, 1) := by decide +kernel
theorem dX11_readAll_34 : decode cX11_readAll 34 = .ok (.bipush (-9), 2) := by decide +kernel
theorem dX11_readAll_36 : decode cX11_readAll 36 = .ok (.if_icmp .ne 5, 3) := by decide +kernel
theorem dX11_readAll_39 : decode cX11_readAll 39 = .ok (.iconst 0, 1) := by decide +kernel
theorem dX11_readAll_40 : decode cX11_readAll 40 = .ok (.ireturn, 1) := by decide +kernel
theorem dX11_readAll_41 : decode cX11_readAll 41 = .ok (.aload_n 0, 1) := by decide +kernel
theorem dX11_readAll_42 : decode cX11_readAll 42 = .ok (.getfield 13, 3) := by decide +kernel
theorem dX11_readAll_45 : decode cX11_readAll 45 = .ok (.iconst 0, 1) := by decide +kernel
theorem dX11_readAll_46 : decode cX11_readAll 46 = .ok (.iload_n 1, 1) := by decide +kernel
theorem dX11_readAll_47 : decode cX11_readAll 47 = .ok (.iastore, 1) := by decide +kernel
theorem dX11_readAll_48 : decode cX11_readAll 48 = .ok (.aload_n 0, 1) := by decide +kernel
theorem dX11_readAll_49 : decode cX11_readAll 49 = .ok (.getfield 138, 3) := by decide +kernel
theorem dX11_readAll_52 : decode cX11_readAll 52 = .ok (.aload_n 0, 1) := by decide +kernel
theorem dX11_readAll_53 : decode cX11_readAll 53 = .ok (.getfield 131, 3) := by decide +kernel
theorem dX11_readAll_56 : decode cX11_readAll 56 = .ok (.if_icmp .ge 72, 3) := by decide +kernel
theorem dX11_readAll_59 : decode cX11_readAll 59 = .ok (.aload_n 0, 1) := by decide +kernel
theorem dX11_readAll_60 : decode cX11_readAll 60 = .ok (.getfield 13, 3) := by decide +kernel
theorem dX11_readAll_63 : decode cX11_readAll 63 = .ok (.iconst 1, 1) := by decide +kernel
theorem dX11_readAll_64 : decode cX11_readAll 64 = .ok (.iaload, 1) := by decide +kernel
theorem dX11_readAll_65 : decode cX11_readAll 65 = .ok (.bipush 16, 2) := by decide +kernel
theorem dX11_readAll_67 : decode cX11_readAll 67 = .ok (.if_icmp .ge 19, 3) := by decide +kernel
theorem dX11_readAll_70 : decode cX11_readAll 70 = .ok (.aload_n 0, 1) := by decide +kernel
theorem dX11_readAll_71 : decode cX11_readAll 71 = .ok (.bipush 116, 2) := by decide +kernel
theorem dX11_readAll_73 : decode cX11_readAll 73 = .ok (.invokevirtual 149, 3) := by decide +kernel
theorem dX11_readAll_76 : decode cX11_readAll 76 = .ok (.ifCond .eq 10, 3) := by decide +kernel
theorem dX11_readAll_79 : decode cX11_readAll 79 = .ok (.aload_n 0, 1) := by decide +kernel
theorem dX11_readAll_80 : decode cX11_readAll 80 = .ok (.invokevirtual 152, 3) := by decide +kernel
theorem dX11_readAll_83 : decode cX11_readAll 83 = .ok (.goto 35, 3) := by decide +kernel
theorem dX11_readAll_86 : decode cX11_readAll 86 = .ok (.aload_n 0, 1) := by decide +kernel
theorem dX11_readAll_87 : decode cX11_readAll 87 = .ok (.getfield 13, 3) := by decide +kernel
theorem dX11_readAll_90 : decode cX11_readAll 90 = .ok (.iconst 2, 1) := by decide +kernel
theorem dX11_readAll_91 : decode cX11_readAll 91 = .ok (.iaload, 1) := by decide +kernel
theorem dX11_readAll_92 : decode cX11_readAll 92 = .ok (.bipush 8, 2) := by decide +kernel
theorem dX11_readAll_94 : decode cX11_readAll 94 = .ok (.if_icmp .ge 23, 3) := by decide +kernel
theorem dX11_readAll_97 : decode cX11_readAll 97 = .ok (.aload_n 0, 1) := by decide +kernel
theorem dX11_readAll_98 : decode cX11_readAll 98 = .ok (.bipush 99, 2) := by decide +kernel
theorem dX11_readAll_100 : decode cX11_readAll 100 = .ok (.invokevirtual 149, 3) := by decide +kernel
theorem dX11_readAll_103 : decode cX11_readAll 103 = .ok (.ifCond .eq 14, 3) := by decide +kernel
theorem dX11_readAll_106 : decode cX11_readAll 106 = .ok (.aload_n 0, 1) := by decide +kernel
theorem dX11_readAll_107 : decode cX11_readAll 107 = .ok (.invokevirtual 156, 3) := by decide +kernel
theorem dX11_readAll_110 : decode cX11_readAll 110 = .ok (.ifCond .eq 7, 3) := by decide +kernel
theorem dX11_readAll_113 : decode cX11_readAll 113 = .ok (.iconst 1, 1) := by decide +kernel
theorem dX11_readAll_114 : decode cX11_readAll 114 = .ok (.goto 4, 3) := by decide +kernel
theorem dX11_readAll_117 : decode cX11_readAll 117 = .ok (.iconst 0, 1) := by decide +kernel
theorem dX11_readAll_118 : decode cX11_readAll 118 = .ok (.istore_n 2, 1) := by decide +kernel
theorem dX11_readAll_119 : decode cX11_readAll 119 = .ok (.iload_n 2, 1) := by decide +kernel
theorem dX11_readAll_120 : decode cX11_readAll 120 = .ok (.ifCond .ne 5, 3) := by decide +kernel
theorem dX11_readAll_123 : decode cX11_readAll 123 = .ok (.iconst 0, 1) := by decide +kernel
theorem dX11_readAll_124 : decode cX11_readAll 124 = .ok (.ireturn, 1) := by decide +kernel
theorem dX11_readAll_125 : decode cX11_readAll 125 = .ok (.goto (-77), 3) := by decide +kernel
theorem dX11_readAll_128 : decode cX11_readAll 128 = .ok (.iconst 1, 1) := by decide +kernel
theorem dX11_readAll_129 : decode cX11_readAll 129 = .ok (.ireturn, 1) := by decide +kernel
theorem dX11_errorPosition_0 : decode cX11_errorPosition 0 = .ok (.aload_n 0, 1) := by decide +kernel
theorem dX11_errorPosition_1 : decode cX11_errorPosition 1 = .ok (.iconst 0, 1) := by decide +kernel
theorem dX11_errorPosition_2 : decode cX11_errorPosition 2 = .ok (.putfield 46, 3) := by decide +kernel
theorem dX11_errorPosition_5 : decode cX11_errorPosition 5 = .ok (.aload_n 0, 1) := by decide +kernel
theorem dX11_errorPosition_6 : decode cX11_errorPosition 6 = .ok (.invokevirtual 159, 3) := by decide +kernel
theorem dX11_errorPosition_9 : decode cX11_errorPosition 9 = .ok (.ifCond .eq 8, 3) := by decide +kernel
theorem dX11_errorPosition_12 : decode cX11_errorPosition 12 = .ok (.bipush (-9), 2) := by decide +kernel
theorem dX11_errorPosition_14 : decode cX11_errorPosition 14 = .ok (.goto 7, 3) := by decide +kernel
theorem dX11_errorPosition_17 : decode cX11_errorPosition 17 = .ok (.aload_n 0, 1) := by decide +kernel
theorem dX11_errorPosition_18 : decode cX11_errorPosition 18 = .ok (.getfield 138, 3) := by decide +kernel
theorem dX11_errorPosition_21 : decode cX11_errorPosition 21 = .ok (.ireturn, 1) := by decide +kernel
theorem dX11_load_0 : decode cX11_load 0 = .ok (.aload_n 0, 1) := by decide +kernel
theorem dX11_load_1 : decode cX11_load 1 = .ok (.aload_n 0, 1) := by decide +kernel
theorem dX11_load_2 : decode cX11_load 2 = .ok (.invokevirtual 159, 3) := by decide +kernel
theorem dX11_load_5 : decode cX11_load 5 = .ok (.ifCond .eq 7, 3) := by decide +kernel
theorem dX11_load_8 : decode cX11_load 8 = .ok (.iconst 0, 1) := by decide +kernel
theorem dX11_load_9 : decode cX11_load 9 = .ok (.goto 4, 3) := by decide +kernel
theorem dX11_load_12 : decode cX11_load 12 = .ok (.iconst 1, 1) := by decide +kernel
theorem dX11_load_13 : decode cX11_load 13 = .ok (.invokevirtual 134, 3) := by decide +kernel
theorem dX11_load_16 : decode cX11_load 16 = .ok (.ifCond .eq 5, 3) := by decide +kernel
theorem dX11_load_19 : decode cX11_load 19 = .ok (.iconst 0, 1) := by decide +kernel
theorem dX11_load_20 : decode cX11_load 20 = .ok (.ireturn, 1) := by decide +kernel
theorem dX11_load_21 : decode cX11_load 21 = .ok (.aload_n 0, 1) := by decide +kernel
theorem dX11_load_22 : decode cX11_load 22 = .ok (.getfield 13, 3) := by decide +kernel
theorem dX11_load_25 : decode cX11_load 25 = .ok (.iconst 0, 1) := by decide +kernel
theorem dX11_load_26 : decode cX11_load 26 = .ok (.aload_n 0, 1) := by decide +kernel
theorem dX11_load_27 : decode cX11_load 27 = .ok (.getfield 16, 3) := by decide +kernel
theorem dX11_load_30 : decode cX11_load 30 = .ok (.iconst 0, 1) := by decide +kernel
theorem dX11_load_31 : decode cX11_load 31 = .ok (.invokestatic 162, 3) := by decide +kernel
theorem dX11_load_34 : decode cX11_load 34 = .ok (.aload_n 0, 1) := by decide +kernel
theorem dX11_load_35 : decode cX11_load 35 = .ok (.iconst 0, 1) := by decide +kernel
theorem dX11_load_36 : decode cX11_load 36 = .ok (.putfield 166, 3) := by decide +kernel
theorem dX11_load_39 : decode cX11_load 39 = .ok (.aload_n 0, 1) := by decide +kernel
theorem dX11_load_40 : decode cX11_load 40 = .ok (.getfield 28, 3) := by decide +kernel
theorem dX11_load_43 : decode cX11_load 43 = .ok (.iconst 0, 1) := by decide +kernel
theorem dX11_load_44 : decode cX11_load 44 = .ok (.iconst 0, 1) := by decide +kernel
theorem dX11_load_45 : decode cX11_load 45 = .ok (.bastore, 1) := by decide +kernel
theorem dX11_load_46 : decode cX11_load 46 = .ok (.aload_n 0, 1) := by decide +kernel
theorem dX11_load_47 : decode cX11_load 47 = .ok (.getfield 28, 3) := by decide +kernel
theorem dX11_load_50 : decode cX11_load 50 = .ok (.iconst 1, 1) := by decide +kernel
theorem dX11_load_51 : decode cX11_load 51 = .ok (.iconst 0, 1) := by decide +kernel
theorem dX11_load_52 : decode cX11_load 52 = .ok (.bastore, 1) := by decide +kernel
theorem dX11_load_53 : decode cX11_load 53 = .ok (.aload_n 0, 1) := by decide +kernel
theorem dX11_load_54 : decode cX11_load 54 = .ok (.getfield 16, 3) := by decide +kernel
theorem dX11_load_57 : decode cX11_load 57 = .ok (.iconst 1, 1) := by decide +kernel
theorem dX11_load_58 : decode cX11_load 58 = .ok (.iaload, 1) := by decide +kernel
theorem dX11_load_59 : decode cX11_load 59 = .ok (.ireturn, 1) := by decide +kernel
theorem dX11_about_0 : decode cX11_about 0 = .ok (.aload_n 0, 1) := by decide +kernel
theorem dX11_about_1 : decode cX11_about 1 = .ok (.iload_n 1, 1) := by decide +kernel
theorem dX11_about_2 : decode cX11_about 2 = .ok (.i2l, 1) := by decide +kernel
theorem dX11_about_3 : decode cX11_about 3 = .ok (.lconst 0, 1) := by decide +kernel
theorem dX11_about_4 : decode cX11_about 4 = .ok (.ldc2_w 169, 3) := by decide +kernel
theorem dX11_about_7 : decode cX11_about 7 = .ok (.invokestatic 62, 3) := by decide +kernel
theorem dX11_about_10 : decode cX11_about 10 = .ok (.ifCond .eq 7, 3) := by decide +kernel
theorem dX11_about_13 : decode cX11_about 13 = .ok (.iconst 0, 1) := by decide +kernel
theorem dX11_about_14 : decode cX11_about 14 = .ok (.goto 4, 3) := by decide +kernel
theorem dX11_about_17 : decode cX11_about 17 = .ok (.iconst 1, 1) := by decide +kernel
theorem dX11_about_18 : decode cX11_about 18 = .ok (.invokevirtual 134, 3) := by decide +kernel
theorem dX11_about_21 : decode cX11_about 21 = .ok (.ifCond .eq 7, 3) := by decide +kernel
theorem dX11_about_24 : decode cX11_about 24 = .ok (.iconst 0, 1) := by decide +kernel
theorem dX11_about_25 : decode cX11_about 25 = .ok (.goto 9, 3) := by decide +kernel
theorem dX11_about_28 : decode cX11_about 28 = .ok (.aload_n 0, 1) := by decide +kernel
theorem dX11_about_29 : decode cX11_about 29 = .ok (.getfield 16, 3) := by decide +kernel
theorem dX11_about_32 : decode cX11_about 32 = .ok (.iload_n 1, 1) := by decide +kernel
theorem dX11_about_33 : decode cX11_about 33 = .ok (.iaload, 1) := by decide +kernel
theorem dX11_about_34 : decode cX11_about 34 = .ok (.ireturn, 1) := by decide +kernel
theorem dX11_track_0 : decode cX11_track 0 = .ok (.aload_n 0, 1) := by decide +kernel
theorem dX11_track_1 : decode cX11_track 1 = .ok (.aload_n 0, 1) := by decide +kernel
theorem dX11_track_2 : decode cX11_track 2 = .ok (.getfield 16, 3) := by decide +kernel
theorem dX11_track_5 : decode cX11_track 5 = .ok (.iload_n 1, 1) := by decide +kernel
theorem dX11_track_6 : decode cX11_track 6 = .ok (.invokestatic 171, 3) := by decide +kernel
theorem dX11_track_9 : decode cX11_track 9 = .ok (.ifCond .ne 7, 3) := by decide +kernel
theorem dX11_track_12 : decode cX11_track 12 = .ok (.iconst 1, 1) := by decide +kernel
theorem dX11_track_13 : decode cX11_track 13 = .ok (.goto 20, 3) := by decide +kernel
theorem dX11_track_16 : decode cX11_track 16 = .ok (.iload_n 2, 1) := by decide +kernel
theorem dX11_track_17 : decode cX11_track 17 = .ok (.i2l, 1) := by decide +kernel
theorem dX11_track_18 : decode cX11_track 18 = .ok (.lconst 0, 1) := by decide +kernel
theorem dX11_track_19 : decode cX11_track 19 = .ok (.ldc2_w 60, 3) := by decide +kernel
theorem dX11_track_22 : decode cX11_track 22 = .ok (.invokestatic 62, 3) := by decide +kernel
theorem dX11_track_25 : decode cX11_track 25 = .ok (.ifCond .ne 7, 3) := by decide +kernel
theorem dX11_track_28 : decode cX11_track 28 = .ok (.iconst 2, 1) := by decide +kernel
theorem dX11_track_29 : decode cX11_track 29 = .ok (.goto 4, 3) := by decide +kernel
theorem dX11_track_32 : decode cX11_track 32 = .ok (.iconst 0, 1) := by decide +kernel
theorem dX11_track_33 : decode cX11_track 33 = .ok (.invokevirtual 134, 3) := by decide +kernel
theorem dX11_track_36 : decode cX11_track 36 = .ok (.ifCond .eq 7, 3) := by decide +kernel
theorem dX11_track_39 : decode cX11_track 39 = .ok (.iconst 0, 1) := by decide +kernel
theorem dX11_track_40 : decode cX11_track 40 = .ok (.goto 14, 3) := by decide +kernel
theorem dX11_track_43 : decode cX11_track 43 = .ok (.aload_n 0, 1) := by decide +kernel
theorem dX11_track_44 : decode cX11_track 44 = .ok (.getfield 16, 3) := by decide +kernel
theorem dX11_track_47 : decode cX11_track 47 = .ok (.iload_n 1, 1) := by decide +kernel
theorem dX11_track_48 : decode cX11_track 48 = .ok (.invokestatic 54, 3) := by decide +kernel
theorem dX11_track_51 : decode cX11_track 51 = .ok (.iload_n 2, 1) := by decide +kernel
theorem dX11_track_52 : decode cX11_track 52 = .ok (.iadd, 1) := by decide +kernel
theorem dX11_track_53 : decode cX11_track 53 = .ok (.iaload, 1) := by decide +kernel
theorem dX11_track_54 : decode cX11_track 54 = .ok (.ireturn, 1) := by decide +kernel
theorem dX11_company_0 : decode cX11_company 0 = .ok (.aload_n 0, 1) := by decide +kernel
theorem dX11_company_1 : decode cX11_company 1 = .ok (.iload_n 1, 1) := by decide +kernel
theorem dX11_company_2 : decode cX11_company 2 = .ok (.invokestatic 175, 3) := by decide +kernel
theorem dX11_company_5 : decode cX11_company 5 = .ok (.ifCond .ne 7, 3) := by decide +kernel
theorem dX11_company_8 : decode cX11_company 8 = .ok (.iconst 1, 1) := by decide +kernel
theorem dX11_company_9 : decode cX11_company 9 = .ok (.goto 20, 3) := by decide +kernel
theorem dX11_company_12 : decode cX11_company 12 = .ok (.iload_n 2, 1) := by decide +kernel
theorem dX11_company_13 : decode cX11_company 13 = .ok (.i2l, 1) := by decide +kernel
theorem dX11_company_14 : decode cX11_company 14 = .ok (.lconst 0, 1) := by decide +kernel
theorem dX11_company_15 : decode cX11_company 15 = .ok (.ldc2_w 178, 3) := by decide +kernel
theorem dX11_company_18 : decode cX11_company 18 = .ok (.invokestatic 62, 3) := by decide +kernel
theorem dX11_company_21 : decode cX11_company 21 = .ok (.ifCond .ne 7, 3) := by decide +kernel
theorem dX11_company_24 : decode cX11_company 24 = .ok (.iconst 2, 1) := by decide +kernel
theorem dX11_company_25 : decode cX11_company 25 = .ok (.goto 4, 3) := by decide +kernel
theorem dX11_company_28 : decode cX11_company 28 = .ok (.iconst 0, 1) := by decide +kernel
theorem dX11_company_29 : decode cX11_company 29 = .ok (.invokevirtual 134, 3) := by decide +kernel
theorem dX11_company_32 : decode cX11_company 32 = .ok (.ifCond .eq 5, 3) := by decide +kernel
theorem dX11_company_35 : decode cX11_company 35 = .ok (.iconst 0, 1) := by decide +kernel
theorem dX11_company_36 : decode cX11_company 36 = .ok (.ireturn, 1) := by decide +kernel
theorem dX11_company_37 : decode cX11_company 37 = .ok (.iload_n 1, 1) := by decide +kernel
theorem dX11_company_38 : decode cX11_company 38 = .ok (.invokestatic 50, 3) := by decide +kernel
theorem dX11_company_41 : decode cX11_company 41 = .ok (.istore_n 3, 1) := by decide +kernel
theorem dX11_company_42 : decode cX11_company 42 = .ok (.iload_n 2, 1) := by decide +kernel
theorem dX11_company_43 : decode cX11_company 43 = .ok (.iconst 3, 1) := by decide +kernel
theorem dX11_company_44 : decode cX11_company 44 = .ok (.if_icmp .ge 14, 3) := by decide +kernel
theorem dX11_company_47 : decode cX11_company 47 = .ok (.aload_n 0, 1) := by decide +kernel
theorem dX11_company_48 : decode cX11_company 48 = .ok (.getfield 16, 3) := by decide +kernel
theorem dX11_company_51 : decode cX11_company 51 = .ok (.iload_n 3, 1) := by decide +kernel
theorem dX11_company_52 : decode cX11_company 52 = .ok (.iload_n 2, 1) := by decide +kernel
theorem dX11_company_53 : decode cX11_company 53 = .ok (.iadd, 1) := by decide +kernel
theorem dX11_company_54 : decode cX11_company 54 = .ok (.iaload, 1) := by decide +kernel
theorem dX11_company_55 : decode cX11_company 55 = .ok (.goto 46, 3) := by decide +kernel
theorem dX11_company_58 : decode cX11_company 58 = .ok (.iload_n 2, 1) := by decide +kernel
theorem dX11_company_59 : decode cX11_company 59 = .ok (.iconst 3, 1) := by decide +kernel
theorem dX11_company_60 : decode cX11_company 60 = .ok (.if_icmp .ne 15, 3) := by decide +kernel
theorem dX11_company_63 : decode cX11_company 63 = .ok (.aload_n 0, 1) := by decide +kernel
theorem dX11_company_64 : decode cX11_company 64 = .ok (.getfield 16, 3) := by decide +kernel
theorem dX11_company_67 : decode cX11_company 67 = .ok (.iload_n 1, 1) := by decide +kernel
theorem dX11_company_68 : decode cX11_company 68 = .ok (.iconst 0, 1) := by decide +kernel
theorem dX11_company_69 : decode cX11_company 69 = .ok (.invokestatic 113, 3) := by decide +kernel
theorem dX11_company_72 : decode cX11_company 72 = .ok (.goto 29, 3) := by decide +kernel
theorem dX11_company_75 : decode cX11_company 75 = .ok (.iload_n 2, 1) := by decide +kernel
theorem dX11_company_76 : decode cX11_company 76 = .ok (.iconst 4, 1) := by decide +kernel
theorem dX11_company_77 : decode cX11_company 77 = .ok (.if_icmp .ne 14, 3) := by decide +kernel
theorem dX11_company_80 : decode cX11_company 80 = .ok (.aload_n 0, 1) := by decide +kernel
theorem dX11_company_81 : decode cX11_company 81 = .ok (.getfield 16, 3) := by decide +kernel
theorem dX11_company_84 : decode cX11_company 84 = .ok (.iload_n 1, 1) := by decide +kernel
theorem dX11_company_85 : decode cX11_company 85 = .ok (.invokestatic 126, 3) := by decide +kernel
theorem dX11_company_88 : decode cX11_company 88 = .ok (.goto 13, 3) := by decide +kernel
theorem dX11_company_91 : decode cX11_company 91 = .ok (.aload_n 0, 1) := by decide +kernel
theorem dX11_company_92 : decode cX11_company 92 = .ok (.getfield 16, 3) := by decide +kernel
theorem dX11_company_95 : decode cX11_company 95 = .ok (.iload_n 3, 1) := by decide +kernel
theorem dX11_company_96 : decode cX11_company 96 = .ok (.iload_n 2, 1) := by decide +kernel
theorem dX11_company_97 : decode cX11_company 97 = .ok (.iadd, 1) := by decide +kernel
theorem dX11_company_98 : decode cX11_company 98 = .ok (.iconst 2, 1) := by decide +kernel
theorem dX11_company_99 : decode cX11_company 99 = .ok (.isub, 1) := by decide +kernel
theorem dX11_company_100 : decode cX11_company 100 = .ok (.iaload, 1) := by decide +kernel
theorem dX11_company_101 : decode cX11_company 101 = .ok (.ireturn, 1) := by decide +kernel
theorem dX11_train_0 : decode cX11_train 0 = .ok (.aload_n 0, 1) := by decide +kernel
theorem dX11_train_1 : decode cX11_train 1 = .ok (.iload_n 1, 1) := by decide +kernel
theorem dX11_train_2 : decode cX11_train 2 = .ok (.invokestatic 175, 3) := by decide +kernel
theorem dX11_train_5 : decode cX11_train 5 = .ok (.ifCond .eq 15, 3) := by decide +kernel
theorem dX11_train_8 : decode cX11_train 8 = .ok (.aload_n 0, 1) := by decide +kernel
theorem dX11_train_9 : decode cX11_train 9 = .ok (.getfield 16, 3) := by decide +kernel
theorem dX11_train_12 : decode cX11_train 12 = .ok (.iload_n 1, 1) := by decide +kernel
theorem dX11_train_13 : decode cX11_train 13 = .ok (.iload_n 2, 1) := by decide +kernel
theorem dX11_train_14 : decode cX11_train 14 = .ok (.invokestatic 180, 3) := by decide +kernel
theorem dX11_train_17 : decode cX11_train 17 = .ok (.ifCond .ne 7, 3) := by decide +kernel
theorem dX11_train_20 : decode cX11_train 20 = .ok (.iconst 1, 1) := by decide +kernel
theorem dX11_train_21 : decode cX11_train 21 = .ok (.goto 18, 3) := by decide +kernel
theorem dX11_train_24 : decode cX11_train 24 = .ok (.iload_n 3, 1) := by decide +kernel
theorem dX11_train_25 : decode cX11_train 25 = .ok (.i2l, 1) := by decide +kernel
theorem dX11_train_26 : decode cX11_train 26 = .ok (.lconst 0, 1) := by decide +kernel
theorem dX11_train_27 : decode cX11_train 27 = .ok (.lconst 1, 1) := by decide +kernel
theorem dX11_train_28 : decode cX11_train 28 = .ok (.invokestatic 62, 3) := by decide +kernel
theorem dX11_train_31 : decode cX11_train 31 = .ok (.ifCond .ne 7, 3) := by decide +kernel
theorem dX11_train_34 : decode cX11_train 34 = .ok (.iconst 2, 1) := by decide +kernel
theorem dX11_train_35 : decode cX11_train 35 = .ok (.goto 4, 3) := by decide +kernel
theorem dX11_train_38 : decode cX11_train 38 = .ok (.iconst 0, 1) := by decide +kernel
theorem dX11_train_39 : decode cX11_train 39 = .ok (.invokevirtual 134, 3) := by decide +kernel
theorem dX11_train_42 : decode cX11_train 42 = .ok (.ifCond .eq 7, 3) := by decide +kernel
theorem dX11_train_45 : decode cX11_train 45 = .ok (.iconst 0, 1) := by decide +kernel
theorem dX11_train_46 : decode cX11_train 46 = .ok (.goto 15, 3) := by decide +kernel
theorem dX11_train_49 : decode cX11_train 49 = .ok (.aload_n 0, 1) := by decide +kernel
theorem dX11_train_50 : decode cX11_train 50 = .ok (.getfield 16, 3) := by decide +kernel
theorem dX11_train_53 : decode cX11_train 53 = .ok (.iload_n 1, 1) := by decide +kernel
theorem dX11_train_54 : decode cX11_train 54 = .ok (.iload_n 2, 1) := by decide +kernel
theorem dX11_train_55 : decode cX11_train 55 = .ok (.invokestatic 94, 3) := by decide +kernel
theorem dX11_train_58 : decode cX11_train 58 = .ok (.iload_n 3, 1) := by decide +kernel
theorem dX11_train_59 : decode cX11_train 59 = .ok (.iadd, 1) := by decide +kernel
theorem dX11_train_60 : decode cX11_train 60 = .ok (.iaload, 1) := by decide +kernel
theorem dX11_train_61 : decode cX11_train 61 = .ok (.ireturn, 1) := by decide +kernel
theorem dX11_contract_0 : decode cX11_contract 0 = .ok (.aload_n 0, 1) := by decide +kernel
theorem dX11_contract_1 : decode cX11_contract 1 = .ok (.aload_n 0, 1) := by decide +kernel
theorem dX11_contract_2 : decode cX11_contract 2 = .ok (.getfield 16, 3) := by decide +kernel
theorem dX11_contract_5 : decode cX11_contract 5 = .ok (.iload_n 1, 1) := by decide +kernel
theorem dX11_contract_6 : decode cX11_contract 6 = .ok (.invokestatic 184, 3) := by decide +kernel
theorem dX11_contract_9 : decode cX11_contract 9 = .ok (.ifCond .ne 7, 3) := by decide +kernel
theorem dX11_contract_12 : decode cX11_contract 12 = .ok (.iconst 1, 1) := by decide +kernel
theorem dX11_contract_13 : decode cX11_contract 13 = .ok (.goto 20, 3) := by decide +kernel
theorem dX11_contract_16 : decode cX11_contract 16 = .ok (.iload_n 2, 1) := by decide +kernel
theorem dX11_contract_17 : decode cX11_contract 17 = .ok (.i2l, 1) := by decide +kernel
theorem dX11_contract_18 : decode cX11_contract 18 = .ok (.lconst 0, 1) := by decide +kernel
theorem dX11_contract_19 : decode cX11_contract 19 = .ok (.ldc2_w 187, 3) := by decide +kernel
theorem dX11_contract_22 : decode cX11_contract 22 = .ok (.invokestatic 62, 3) := by decide +kernel
theorem dX11_contract_25 : decode cX11_contract 25 = .ok (.ifCond .ne 7, 3) := by decide +kernel
theorem dX11_contract_28 : decode cX11_contract 28 = .ok (.iconst 2, 1) := by decide +kernel
theorem dX11_contract_29 : decode cX11_contract 29 = .ok (.goto 4, 3) := by decide +kernel
theorem dX11_contract_32 : decode cX11_contract 32 = .ok (.iconst 0, 1) := by decide +kernel
theorem dX11_contract_33 : decode cX11_contract 33 = .ok (.invokevirtual 134, 3) := by decide +kernel
theorem dX11_contract_36 : decode cX11_contract 36 = .ok (.ifCond .eq 7, 3) := by decide +kernel
theorem dX11_contract_39 : decode cX11_contract 39 = .ok (.iconst 0, 1) := by decide +kernel
theorem dX11_contract_40 : decode cX11_contract 40 = .ok (.goto 14, 3) := by decide +kernel
theorem dX11_contract_43 : decode cX11_contract 43 = .ok (.aload_n 0, 1) := by decide +kernel
theorem dX11_contract_44 : decode cX11_contract 44 = .ok (.getfield 16, 3) := by decide +kernel
theorem dX11_contract_47 : decode cX11_contract 47 = .ok (.iload_n 1, 1) := by decide +kernel
theorem dX11_contract_48 : decode cX11_contract 48 = .ok (.invokestatic 57, 3) := by decide +kernel
theorem dX11_contract_51 : decode cX11_contract 51 = .ok (.iload_n 2, 1) := by decide +kernel
theorem dX11_contract_52 : decode cX11_contract 52 = .ok (.iadd, 1) := by decide +kernel
theorem dX11_contract_53 : decode cX11_contract 53 = .ok (.iaload, 1) := by decide +kernel
theorem dX11_contract_54 : decode cX11_contract 54 = .ok (.ireturn, 1) := by decide +kernel
theorem dX11_note_0 : decode cX11_note 0 = .ok (.aload_n 0, 1) := by decide +kernel
theorem dX11_note_1 : decode cX11_note 1 = .ok (.getfield 166, 3) := by decide +kernel
theorem dX11_note_4 : decode cX11_note 4 = .ok (.bipush 14, 2) := by decide +kernel
theorem dX11_note_6 : decode cX11_note 6 = .ok (.if_icmp .ne 44, 3) := by decide +kernel
theorem dX11_note_9 : decode cX11_note 9 = .ok (.iconst 0, 1) := by decide +kernel
theorem dX11_note_10 : decode cX11_note 10 = .ok (.istore_n 1, 1) := by decide +kernel
theorem dX11_note_11 : decode cX11_note 11 = .ok (.iload_n 1, 1) := by decide +kernel
theorem dX11_note_12 : decode cX11_note 12 = .ok (.sipush 2275, 3) := by decide +kernel
theorem dX11_note_15 : decode cX11_note 15 = .ok (.if_icmp .ge 25, 3) := by decide +kernel
theorem dX11_note_18 : decode cX11_note 18 = .ok (.aload_n 0, 1) := by decide +kernel
theorem dX11_note_19 : decode cX11_note 19 = .ok (.getfield 22, 3) := by decide +kernel
theorem dX11_note_22 : decode cX11_note 22 = .ok (.iload_n 1, 1) := by decide +kernel
theorem dX11_note_23 : decode cX11_note 23 = .ok (.aload_n 0, 1) := by decide +kernel
theorem dX11_note_24 : decode cX11_note 24 = .ok (.getfield 22, 3) := by decide +kernel
theorem dX11_note_27 : decode cX11_note 27 = .ok (.iload_n 1, 1) := by decide +kernel
theorem dX11_note_28 : decode cX11_note 28 = .ok (.sipush 175, 3) := by decide +kernel
theorem dX11_note_31 : decode cX11_note 31 = .ok (.iadd, 1) := by decide +kernel
theorem dX11_note_32 : decode cX11_note 32 = .ok (.iaload, 1) := by decide +kernel
theorem dX11_note_33 : decode cX11_note 33 = .ok (.iastore, 1) := by decide +kernel
theorem dX11_note_34 : decode cX11_note 34 = .ok (.iinc 1 1, 3) := by decide +kernel
theorem dX11_note_37 : decode cX11_note 37 = .ok (.goto (-26), 3) := by decide +kernel
theorem dX11_note_40 : decode cX11_note 40 = .ok (.aload_n 0, 1) := by decide +kernel
theorem dX11_note_41 : decode cX11_note 41 = .ok (.dup, 1) := by decide +kernel
theorem dX11_note_42 : decode cX11_note 42 = .ok (.getfield 166, 3) := by decide +kernel
theorem dX11_note_45 : decode cX11_note 45 = .ok (.iconst 1, 1) := by decide +kernel
theorem dX11_note_46 : decode cX11_note 46 = .ok (.isub, 1) := by decide +kernel
theorem dX11_note_47 : decode cX11_note 47 = .ok (.putfield 166, 3) := by decide +kernel
theorem dX11_note_50 : decode cX11_note 50 = .ok (.aload_n 0, 1) := by decide +kernel
theorem dX11_note_51 : decode cX11_note 51 = .ok (.getfield 16, 3) := by decide +kernel
theorem dX11_note_54 : decode cX11_note 54 = .ok (.iconst 0, 1) := by decide +kernel
theorem dX11_note_55 : decode cX11_note 55 = .ok (.aload_n 0, 1) := by decide +kernel
theorem dX11_note_56 : decode cX11_note 56 = .ok (.getfield 22, 3) := by decide +kernel
theorem dX11_note_59 : decode cX11_note 59 = .ok (.sipush 175, 3) := by decide +kernel
theorem dX11_note_62 : decode cX11_note 62 = .ok (.aload_n 0, 1) := by decide +kernel
theorem dX11_note_63 : decode cX11_note 63 = .ok (.getfield 166, 3) := by decide +kernel
theorem dX11_note_66 : decode cX11_note 66 = .ok (.imul, 1) := by decide +kernel
theorem dX11_note_67 : decode cX11_note 67 = .ok (.invokestatic 162, 3) := by decide +kernel
theorem dX11_note_70 : decode cX11_note 70 = .ok (.aload_n 0, 1) := by decide +kernel
theorem dX11_note_71 : decode cX11_note 71 = .ok (.dup, 1) := by decide +kernel
theorem dX11_note_72 : decode cX11_note 72 = .ok (.getfield 166, 3) := by decide +kernel
theorem dX11_note_75 : decode cX11_note 75 = .ok (.iconst 1, 1) := by decide +kernel
theorem dX11_note_76 : decode cX11_note 76 = .ok (.iadd, 1) := by decide +kernel
theorem dX11_note_77 : decode cX11_note 77 = .ok (.putfield 166, 3) := by decide +kernel
theorem dX11_note_80 : decode cX11_note 80 = .ok (.return_, 1) := by decide +kernel
theorem dX11_buyTrack_0 : decode cX11_buyTrack 0 = .ok (.aload_n 0, 1) := by decide +kernel
theorem dX11_buyTrack_1 : decode cX11_buyTrack 1 = .ok (.iload_n 1, 1) := by decide +kernel
theorem dX11_buyTrack_2 : decode cX11_buyTrack 2 = .ok (.invokestatic 175, 3) := by decide +kernel
theorem dX11_buyTrack_5 : decode cX11_buyTrack 5 = .ok (.ifCond .eq 14, 3) := by decide +kernel
theorem dX11_buyTrack_8 : decode cX11_buyTrack 8 = .ok (.aload_n 0, 1) := by decide +kernel
theorem dX11_buyTrack_9 : decode cX11_buyTrack 9 = .ok (.getfield 16, 3) := by decide +kernel
theorem dX11_buyTrack_12 : decode cX11_buyTrack 12 = .ok (.iload_n 2, 1) := by decide +kernel
theorem dX11_buyTrack_13 : decode cX11_buyTrack 13 = .ok (.invokestatic 171, 3) := by decide +kernel
theorem dX11_buyTrack_16 : decode cX11_buyTrack 16 = .ok (.ifCond .ne 7, 3) := by decide +kernel
theorem dX11_buyTrack_19 : decode cX11_buyTrack 19 = .ok (.iconst 1, 1) := by decide +kernel
theorem dX11_buyTrack_20 : decode cX11_buyTrack 20 = .ok (.goto 20, 3) := by decide +kernel
theorem dX11_buyTrack_23 : decode cX11_buyTrack 23 = .ok (.aload_n 0, 1) := by decide +kernel
theorem dX11_buyTrack_24 : decode cX11_buyTrack 24 = .ok (.getfield 16, 3) := by decide +kernel
theorem dX11_buyTrack_27 : decode cX11_buyTrack 27 = .ok (.iload_n 1, 1) := by decide +kernel
theorem dX11_buyTrack_28 : decode cX11_buyTrack 28 = .ok (.iload_n 2, 1) := by decide +kernel
theorem dX11_buyTrack_29 : decode cX11_buyTrack 29 = .ok (.invokestatic 189, 3) := by decide +kernel
theorem dX11_buyTrack_32 : decode cX11_buyTrack 32 = .ok (.ifCond .ne 7, 3) := by decide +kernel
theorem dX11_buyTrack_35 : decode cX11_buyTrack 35 = .ok (.iconst 2, 1) := by decide +kernel
theorem dX11_buyTrack_36 : decode cX11_buyTrack 36 = .ok (.goto 4, 3) := by decide +kernel
theorem dX11_buyTrack_39 : decode cX11_buyTrack 39 = .ok (.iconst 0, 1) := by decide +kernel
theorem dX11_buyTrack_40 : decode cX11_buyTrack 40 = .ok (.invokevirtual 134, 3) := by decide +kernel
theorem dX11_buyTrack_43 : decode cX11_buyTrack 43 = .ok (.ifCond .eq 5, 3) := by decide +kernel
theorem dX11_buyTrack_46 : decode cX11_buyTrack 46 = .ok (.iconst 0, 1) := by decide +kernel
theorem dX11_buyTrack_47 : decode cX11_buyTrack 47 = .ok (.ireturn, 1) := by decide +kernel
theorem dX11_buyTrack_48 : decode cX11_buyTrack 48 = .ok (.aload_n 0, 1) := by decide +kernel
theorem dX11_buyTrack_49 : decode cX11_buyTrack 49 = .ok (.invokevirtual 192, 3) := by decide +kernel
theorem dX11_buyTrack_52 : decode cX11_buyTrack 52 = .ok (.aload_n 0, 1) := by decide +kernel
theorem dX11_buyTrack_53 : decode cX11_buyTrack 53 = .ok (.getfield 16, 3) := by decide +kernel
theorem dX11_buyTrack_56 : decode cX11_buyTrack 56 = .ok (.iload_n 1, 1) := by decide +kernel
theorem dX11_buyTrack_57 : decode cX11_buyTrack 57 = .ok (.iload_n 2, 1) := by decide +kernel
theorem dX11_buyTrack_58 : decode cX11_buyTrack 58 = .ok (.invokestatic 195, 3) := by decide +kernel
theorem dX11_buyTrack_61 : decode cX11_buyTrack 61 = .ok (.ireturn, 1) := by decide +kernel
theorem dX11_buyTrain_0 : decode cX11_buyTrain 0 = .ok (.aload_n 0, 1) := by decide +kernel
theorem dX11_buyTrain_1 : decode cX11_buyTrain 1 = .ok (.iload_n 1, 1) := by decide +kernel
theorem dX11_buyTrain_2 : decode cX11_buyTrain 2 = .ok (.invokestatic 175, 3) := by decide +kernel
theorem dX11_buyTrain_5 : decode cX11_buyTrain 5 = .ok (.ifCond .ne 7, 3) := by decide +kernel
theorem dX11_buyTrain_8 : decode cX11_buyTrain 8 = .ok (.iconst 1, 1) := by decide +kernel
theorem dX11_buyTrain_9 : decode cX11_buyTrain 9 = .ok (.goto 36, 3) := by decide +kernel
theorem dX11_buyTrain_12 : decode cX11_buyTrain 12 = .ok (.iload_n 2, 1) := by decide +kernel
theorem dX11_buyTrain_13 : decode cX11_buyTrain 13 = .ok (.i2l, 1) := by decide +kernel
theorem dX11_buyTrain_14 : decode cX11_buyTrain 14 = .ok (.lconst 1, 1) := by decide +kernel
theorem dX11_buyTrain_15 : decode cX11_buyTrain 15 = .ok (.ldc2_w 178, 3) := by decide +kernel
theorem dX11_buyTrain_18 : decode cX11_buyTrain 18 = .ok (.invokestatic 62, 3) := by decide +kernel
theorem dX11_buyTrain_21 : decode cX11_buyTrain 21 = .ok (.ifCond .ne 7, 3) := by decide +kernel
theorem dX11_buyTrain_24 : decode cX11_buyTrain 24 = .ok (.iconst 2, 1) := by decide +kernel
theorem dX11_buyTrain_25 : decode cX11_buyTrain 25 = .ok (.goto 20, 3) := by decide +kernel
theorem dX11_buyTrain_28 : decode cX11_buyTrain 28 = .ok (.aload_n 0, 1) := by decide +kernel
theorem dX11_buyTrain_29 : decode cX11_buyTrain 29 = .ok (.getfield 16, 3) := by decide +kernel
theorem dX11_buyTrain_32 : decode cX11_buyTrain 32 = .ok (.iload_n 1, 1) := by decide +kernel
theorem dX11_buyTrain_33 : decode cX11_buyTrain 33 = .ok (.iload_n 2, 1) := by decide +kernel
theorem dX11_buyTrain_34 : decode cX11_buyTrain 34 = .ok (.invokestatic 198, 3) := by decide +kernel
theorem dX11_buyTrain_37 : decode cX11_buyTrain 37 = .ok (.ifCond .ne 7, 3) := by decide +kernel
theorem dX11_buyTrain_40 : decode cX11_buyTrain 40 = .ok (.iconst 3, 1) := by decide +kernel
theorem dX11_buyTrain_41 : decode cX11_buyTrain 41 = .ok (.goto 4, 3) := by decide +kernel
theorem dX11_buyTrain_44 : decode cX11_buyTrain 44 = .ok (.iconst 0, 1) := by decide +kernel
theorem dX11_buyTrain_45 : decode cX11_buyTrain 45 = .ok (.invokevirtual 134, 3) := by decide +kernel
theorem dX11_buyTrain_48 : decode cX11_buyTrain 48 = .ok (.ifCond .eq 5, 3) := by decide +kernel
theorem dX11_buyTrain_51 : decode cX11_buyTrain 51 = .ok (.iconst 0, 1) := by decide +kernel
theorem dX11_buyTrain_52 : decode cX11_buyTrain 52 = .ok (.ireturn, 1) := by decide +kernel
theorem dX11_buyTrain_53 : decode cX11_buyTrain 53 = .ok (.aload_n 0, 1) := by decide +kernel
theorem dX11_buyTrain_54 : decode cX11_buyTrain 54 = .ok (.invokevirtual 192, 3) := by decide +kernel
theorem dX11_buyTrain_57 : decode cX11_buyTrain 57 = .ok (.aload_n 0, 1) := by decide +kernel
theorem dX11_buyTrain_58 : decode cX11_buyTrain 58 = .ok (.getfield 16, 3) := by decide +kernel
theorem dX11_buyTrain_61 : decode cX11_buyTrain 61 = .ok (.iload_n 1, 1) := by decide +kernel
theorem dX11_buyTrain_62 : decode cX11_buyTrain 62 = .ok (.iload_n 2, 1) := by decide +kernel
theorem dX11_buyTrain_63 : decode cX11_buyTrain 63 = .ok (.invokestatic 201, 3) := by decide +kernel
theorem dX11_buyTrain_66 : decode cX11_buyTrain 66 = .ok (.ireturn, 1) := by decide +kernel
theorem dX11_setRent_0 : decode cX11_setRent 0 = .ok (.aload_n 0, 1) := by decide +kernel
theorem dX11_setRent_1 : decode cX11_setRent 1 = .ok (.iload_n 1, 1) := by decide +kernel
theorem dX11_setRent_2 : decode cX11_setRent 2 = .ok (.invokestatic 175, 3) := by decide +kernel
theorem dX11_setRent_5 : decode cX11_setRent 5 = .ok (.ifCond .ne 7, 3) := by decide +kernel
theorem dX11_setRent_8 : decode cX11_setRent 8 = .ok (.iconst 1, 1) := by decide +kernel
theorem dX11_setRent_9 : decode cX11_setRent 9 = .ok (.goto 20, 3) := by decide +kernel
theorem dX11_setRent_12 : decode cX11_setRent 12 = .ok (.iload_n 2, 1) := by decide +kernel
theorem dX11_setRent_13 : decode cX11_setRent 13 = .ok (.i2l, 1) := by decide +kernel
theorem dX11_setRent_14 : decode cX11_setRent 14 = .ok (.lconst 0, 1) := by decide +kernel
theorem dX11_setRent_15 : decode cX11_setRent 15 = .ok (.ldc2_w 204, 3) := by decide +kernel
theorem dX11_setRent_18 : decode cX11_setRent 18 = .ok (.invokestatic 62, 3) := by decide +kernel
theorem dX11_setRent_21 : decode cX11_setRent 21 = .ok (.ifCond .ne 7, 3) := by decide +kernel
theorem dX11_setRent_24 : decode cX11_setRent 24 = .ok (.iconst 2, 1) := by decide +kernel
theorem dX11_setRent_25 : decode cX11_setRent 25 = .ok (.goto 4, 3) := by decide +kernel
theorem dX11_setRent_28 : decode cX11_setRent 28 = .ok (.iconst 0, 1) := by decide +kernel
theorem dX11_setRent_29 : decode cX11_setRent 29 = .ok (.invokevirtual 134, 3) := by decide +kernel
theorem dX11_setRent_32 : decode cX11_setRent 32 = .ok (.ifCond .eq 5, 3) := by decide +kernel
theorem dX11_setRent_35 : decode cX11_setRent 35 = .ok (.iconst 0, 1) := by decide +kernel
theorem dX11_setRent_36 : decode cX11_setRent 36 = .ok (.ireturn, 1) := by decide +kernel
theorem dX11_setRent_37 : decode cX11_setRent 37 = .ok (.aload_n 0, 1) := by decide +kernel
theorem dX11_setRent_38 : decode cX11_setRent 38 = .ok (.invokevirtual 192, 3) := by decide +kernel
theorem dX11_setRent_41 : decode cX11_setRent 41 = .ok (.aload_n 0, 1) := by decide +kernel
theorem dX11_setRent_42 : decode cX11_setRent 42 = .ok (.getfield 16, 3) := by decide +kernel
theorem dX11_setRent_45 : decode cX11_setRent 45 = .ok (.iload_n 1, 1) := by decide +kernel
theorem dX11_setRent_46 : decode cX11_setRent 46 = .ok (.invokestatic 50, 3) := by decide +kernel
theorem dX11_setRent_49 : decode cX11_setRent 49 = .ok (.iconst 1, 1) := by decide +kernel
theorem dX11_setRent_50 : decode cX11_setRent 50 = .ok (.iadd, 1) := by decide +kernel
theorem dX11_setRent_51 : decode cX11_setRent 51 = .ok (.iaload, 1) := by decide +kernel
theorem dX11_setRent_52 : decode cX11_setRent 52 = .ok (.istore_n 3, 1) := by decide +kernel
theorem dX11_setRent_53 : decode cX11_setRent 53 = .ok (.aload_n 0, 1) := by decide +kernel
theorem dX11_setRent_54 : decode cX11_setRent 54 = .ok (.getfield 16, 3) := by decide +kernel
theorem dX11_setRent_57 : decode cX11_setRent 57 = .ok (.iload_n 1, 1) := by decide +kernel
theorem dX11_setRent_58 : decode cX11_setRent 58 = .ok (.invokestatic 50, 3) := by decide +kernel
theorem dX11_setRent_61 : decode cX11_setRent 61 = .ok (.iconst 1, 1) := by decide +kernel
theorem dX11_setRent_62 : decode cX11_setRent 62 = .ok (.iadd, 1) := by decide +kernel
theorem dX11_setRent_63 : decode cX11_setRent 63 = .ok (.iload_n 2, 1) := by decide +kernel
theorem dX11_setRent_64 : decode cX11_setRent 64 = .ok (.iastore, 1) := by decide +kernel
theorem dX11_setRent_65 : decode cX11_setRent 65 = .ok (.iload_n 3, 1) := by decide +kernel
theorem dX11_setRent_66 : decode cX11_setRent 66 = .ok (.ireturn, 1) := by decide +kernel
theorem dX11_isCity_0 : decode cX11_isCity 0 = .ok (.iload_n 1, 1) := by decide +kernel
theorem dX11_isCity_1 : decode cX11_isCity 1 = .ok (.i2l, 1) := by decide +kernel
theorem dX11_isCity_2 : decode cX11_isCity 2 = .ok (.lconst 0, 1) := by decide +kernel
theorem dX11_isCity_3 : decode cX11_isCity 3 = .ok (.aload_n 0, 1) := by decide +kernel
theorem dX11_isCity_4 : decode cX11_isCity 4 = .ok (.getfield 16, 3) := by decide +kernel
theorem dX11_isCity_7 : decode cX11_isCity 7 = .ok (.iconst 0, 1) := by decide +kernel
theorem dX11_isCity_8 : decode cX11_isCity 8 = .ok (.iaload, 1) := by decide +kernel
theorem dX11_isCity_9 : decode cX11_isCity 9 = .ok (.iconst 1, 1) := by decide +kernel
theorem dX11_isCity_10 : decode cX11_isCity 10 = .ok (.isub, 1) := by decide +kernel
theorem dX11_isCity_11 : decode cX11_isCity 11 = .ok (.i2l, 1) := by decide +kernel
theorem dX11_isCity_12 : decode cX11_isCity 12 = .ok (.invokestatic 62, 3) := by decide +kernel
theorem dX11_isCity_15 : decode cX11_isCity 15 = .ok (.ireturn, 1) := by decide +kernel
theorem dX11_offer_0 : decode cX11_offer 0 = .ok (.iload_n 1, 1) := by decide +kernel
theorem dX11_offer_1 : decode cX11_offer 1 = .ok (.iload_n 2, 1) := by decide +kernel
theorem dX11_offer_2 : decode cX11_offer 2 = .ok (.if_icmp .eq 32, 3) := by decide +kernel
theorem dX11_offer_5 : decode cX11_offer 5 = .ok (.iload_n 3, 1) := by decide +kernel
theorem dX11_offer_6 : decode cX11_offer 6 = .ok (.i2l, 1) := by decide +kernel
theorem dX11_offer_7 : decode cX11_offer 7 = .ok (.lconst 1, 1) := by decide +kernel
theorem dX11_offer_8 : decode cX11_offer 8 = .ok (.ldc2_w 206, 3) := by decide +kernel
theorem dX11_offer_11 : decode cX11_offer 11 = .ok (.invokestatic 62, 3) := by decide +kernel
theorem dX11_offer_14 : decode cX11_offer 14 = .ok (.ifCond .eq 20, 3) := by decide +kernel
theorem dX11_offer_17 : decode cX11_offer 17 = .ok (.iload 4, 2) := by decide +kernel
theorem dX11_offer_19 : decode cX11_offer 19 = .ok (.i2l, 1) := by decide +kernel
theorem dX11_offer_20 : decode cX11_offer 20 = .ok (.lconst 1, 1) := by decide +kernel
theorem dX11_offer_21 : decode cX11_offer 21 = .ok (.ldc2_w 204, 3) := by decide +kernel
theorem dX11_offer_24 : decode cX11_offer 24 = .ok (.invokestatic 62, 3) := by decide +kernel
theorem dX11_offer_27 : decode cX11_offer 27 = .ok (.ifCond .eq 7, 3) := by decide +kernel
theorem dX11_offer_30 : decode cX11_offer 30 = .ok (.iconst 1, 1) := by decide +kernel
theorem dX11_offer_31 : decode cX11_offer 31 = .ok (.goto 4, 3) := by decide +kernel
theorem dX11_offer_34 : decode cX11_offer 34 = .ok (.iconst 0, 1) := by decide +kernel
theorem dX11_offer_35 : decode cX11_offer 35 = .ok (.istore 5, 2) := by decide +kernel
theorem dX11_offer_37 : decode cX11_offer 37 = .ok (.aload_n 0, 1) := by decide +kernel
theorem dX11_offer_38 : decode cX11_offer 38 = .ok (.aload_n 0, 1) := by decide +kernel
theorem dX11_offer_39 : decode cX11_offer 39 = .ok (.iload_n 1, 1) := by decide +kernel
theorem dX11_offer_40 : decode cX11_offer 40 = .ok (.invokevirtual 208, 3) := by decide +kernel
theorem dX11_offer_43 : decode cX11_offer 43 = .ok (.ifCond .eq 11, 3) := by decide +kernel
theorem dX11_offer_46 : decode cX11_offer 46 = .ok (.aload_n 0, 1) := by decide +kernel
theorem dX11_offer_47 : decode cX11_offer 47 = .ok (.iload_n 2, 1) := by decide +kernel
theorem dX11_offer_48 : decode cX11_offer 48 = .ok (.invokevirtual 208, 3) := by decide +kernel
theorem dX11_offer_51 : decode cX11_offer 51 = .ok (.ifCond .ne 7, 3) := by decide +kernel
theorem dX11_offer_54 : decode cX11_offer 54 = .ok (.iconst 1, 1) := by decide +kernel
theorem dX11_offer_55 : decode cX11_offer 55 = .ok (.goto 28, 3) := by decide +kernel
theorem dX11_offer_58 : decode cX11_offer 58 = .ok (.iload 5, 2) := by decide +kernel
theorem dX11_offer_60 : decode cX11_offer 60 = .ok (.ifCond .ne 7, 3) := by decide +kernel
theorem dX11_offer_63 : decode cX11_offer 63 = .ok (.iconst 2, 1) := by decide +kernel
theorem dX11_offer_64 : decode cX11_offer 64 = .ok (.goto 19, 3) := by decide +kernel
theorem dX11_offer_67 : decode cX11_offer 67 = .ok (.aload_n 0, 1) := by decide +kernel
theorem dX11_offer_68 : decode cX11_offer 68 = .ok (.getfield 16, 3) := by decide +kernel
theorem dX11_offer_71 : decode cX11_offer 71 = .ok (.iconst 2, 1) := by decide +kernel
theorem dX11_offer_72 : decode cX11_offer 72 = .ok (.iaload, 1) := by decide +kernel
theorem dX11_offer_73 : decode cX11_offer 73 = .ok (.bipush 8, 2) := by decide +kernel
theorem dX11_offer_75 : decode cX11_offer 75 = .ok (.if_icmp .ne 7, 3) := by decide +kernel
theorem dX11_offer_78 : decode cX11_offer 78 = .ok (.iconst 3, 1) := by decide +kernel
theorem dX11_offer_79 : decode cX11_offer 79 = .ok (.goto 4, 3) := by decide +kernel
theorem dX11_offer_82 : decode cX11_offer 82 = .ok (.iconst 0, 1) := by decide +kernel
theorem dX11_offer_83 : decode cX11_offer 83 = .ok (.invokevirtual 134, 3) := by decide +kernel
theorem dX11_offer_86 : decode cX11_offer 86 = .ok (.ifCond .eq 5, 3) := by decide +kernel
theorem dX11_offer_89 : decode cX11_offer 89 = .ok (.iconst 0, 1) := by decide +kernel
theorem dX11_offer_90 : decode cX11_offer 90 = .ok (.ireturn, 1) := by decide +kernel
theorem dX11_offer_91 : decode cX11_offer 91 = .ok (.aload_n 0, 1) := by decide +kernel
theorem dX11_offer_92 : decode cX11_offer 92 = .ok (.invokevirtual 192, 3) := by decide +kernel
theorem dX11_offer_95 : decode cX11_offer 95 = .ok (.aload_n 0, 1) := by decide +kernel
theorem dX11_offer_96 : decode cX11_offer 96 = .ok (.getfield 16, 3) := by decide +kernel
theorem dX11_offer_99 : decode cX11_offer 99 = .ok (.iload_n 1, 1) := by decide +kernel
theorem dX11_offer_100 : decode cX11_offer 100 = .ok (.iload_n 2, 1) := by decide +kernel
theorem dX11_offer_101 : decode cX11_offer 101 = .ok (.iload_n 3, 1) := by decide +kernel
theorem dX11_offer_102 : decode cX11_offer 102 = .ok (.iload 4, 2) := by decide +kernel
theorem dX11_offer_104 : decode cX11_offer 104 = .ok (.invokestatic 145, 3) := by decide +kernel
theorem dX11_offer_107 : decode cX11_offer 107 = .ok (.aload_n 0, 1) := by decide +kernel
theorem dX11_offer_108 : decode cX11_offer 108 = .ok (.getfield 16, 3) := by decide +kernel
theorem dX11_offer_111 : decode cX11_offer 111 = .ok (.iconst 2, 1) := by decide +kernel
theorem dX11_offer_112 : decode cX11_offer 112 = .ok (.iaload, 1) := by decide +kernel
theorem dX11_offer_113 : decode cX11_offer 113 = .ok (.iconst 1, 1) := by decide +kernel
theorem dX11_offer_114 : decode cX11_offer 114 = .ok (.isub, 1) := by decide +kernel
theorem dX11_offer_115 : decode cX11_offer 115 = .ok (.ireturn, 1) := by decide +kernel
theorem dX11_take_0 : decode cX11_take 0 = .ok (.aload_n 0, 1) := by decide +kernel
theorem dX11_take_1 : decode cX11_take 1 = .ok (.iload_n 1, 1) := by decide +kernel
theorem dX11_take_2 : decode cX11_take 2 = .ok (.invokestatic 175, 3) := by decide +kernel
theorem dX11_take_5 : decode cX11_take 5 = .ok (.ifCond .eq 14, 3) := by decide +kernel
theorem dX11_take_8 : decode cX11_take 8 = .ok (.aload_n 0, 1) := by decide +kernel
theorem dX11_take_9 : decode cX11_take 9 = .ok (.getfield 16, 3) := by decide +kernel
theorem dX11_take_12 : decode cX11_take 12 = .ok (.iload_n 2, 1) := by decide +kernel
theorem dX11_take_13 : decode cX11_take 13 = .ok (.invokestatic 184, 3) := by decide +kernel
theorem dX11_take_16 : decode cX11_take 16 = .ok (.ifCond .ne 7, 3) := by decide +kernel
theorem dX11_take_19 : decode cX11_take 19 = .ok (.iconst 1, 1) := by decide +kernel
theorem dX11_take_20 : decode cX11_take 20 = .ok (.goto 19, 3) := by decide +kernel
theorem dX11_take_23 : decode cX11_take 23 = .ok (.aload_n 0, 1) := by decide +kernel
theorem dX11_take_24 : decode cX11_take 24 = .ok (.getfield 16, 3) := by decide +kernel
theorem dX11_take_27 : decode cX11_take 27 = .ok (.iload_n 2, 1) := by decide +kernel
theorem dX11_take_28 : decode cX11_take 28 = .ok (.invokestatic 211, 3) := by decide +kernel
theorem dX11_take_31 : decode cX11_take 31 = .ok (.ifCond .ne 7, 3) := by decide +kernel
theorem dX11_take_34 : decode cX11_take 34 = .ok (.iconst 2, 1) := by decide +kernel
theorem dX11_take_35 : decode cX11_take 35 = .ok (.goto 4, 3) := by decide +kernel
theorem dX11_take_38 : decode cX11_take 38 = .ok (.iconst 0, 1) := by decide +kernel
theorem dX11_take_39 : decode cX11_take 39 = .ok (.invokevirtual 134, 3) := by decide +kernel
theorem dX11_take_42 : decode cX11_take 42 = .ok (.ifCond .eq 5, 3) := by decide +kernel
theorem dX11_take_45 : decode cX11_take 45 = .ok (.iconst 0, 1) := by decide +kernel
theorem dX11_take_46 : decode cX11_take 46 = .ok (.ireturn, 1) := by decide +kernel
theorem dX11_take_47 : decode cX11_take 47 = .ok (.aload_n 0, 1) := by decide +kernel
theorem dX11_take_48 : decode cX11_take 48 = .ok (.invokevirtual 192, 3) := by decide +kernel
theorem dX11_take_51 : decode cX11_take 51 = .ok (.aload_n 0, 1) := by decide +kernel
theorem dX11_take_52 : decode cX11_take 52 = .ok (.getfield 16, 3) := by decide +kernel
theorem dX11_take_55 : decode cX11_take 55 = .ok (.iload_n 1, 1) := by decide +kernel
theorem dX11_take_56 : decode cX11_take 56 = .ok (.iload_n 2, 1) := by decide +kernel
theorem dX11_take_57 : decode cX11_take 57 = .ok (.invokestatic 214, 3) := by decide +kernel
theorem dX11_take_60 : decode cX11_take 60 = .ok (.ireturn, 1) := by decide +kernel
theorem dX11_isRun_0 : decode cX11_isRun 0 = .ok (.aload_n 0, 1) := by decide +kernel
theorem dX11_isRun_1 : decode cX11_isRun 1 = .ok (.iload_n 1, 1) := by decide +kernel
theorem dX11_isRun_2 : decode cX11_isRun 2 = .ok (.invokestatic 184, 3) := by decide +kernel
theorem dX11_isRun_5 : decode cX11_isRun 5 = .ok (.ifCond .eq 36, 3) := by decide +kernel
theorem dX11_isRun_8 : decode cX11_isRun 8 = .ok (.aload_n 0, 1) := by decide +kernel
theorem dX11_isRun_9 : decode cX11_isRun 9 = .ok (.iload_n 1, 1) := by decide +kernel
theorem dX11_isRun_10 : decode cX11_isRun 10 = .ok (.invokestatic 57, 3) := by decide +kernel
theorem dX11_isRun_13 : decode cX11_isRun 13 = .ok (.iconst 4, 1) := by decide +kernel
theorem dX11_isRun_14 : decode cX11_isRun 14 = .ok (.iadd, 1) := by decide +kernel
theorem dX11_isRun_15 : decode cX11_isRun 15 = .ok (.iaload, 1) := by decide +kernel
theorem dX11_isRun_16 : decode cX11_isRun 16 = .ok (.bipush (-9), 2) := by decide +kernel
theorem dX11_isRun_18 : decode cX11_isRun 18 = .ok (.if_icmp .eq 19, 3) := by decide +kernel
theorem dX11_isRun_21 : decode cX11_isRun 21 = .ok (.aload_n 0, 1) := by decide +kernel
theorem dX11_isRun_22 : decode cX11_isRun 22 = .ok (.aload_n 0, 1) := by decide +kernel
theorem dX11_isRun_23 : decode cX11_isRun 23 = .ok (.iload_n 1, 1) := by decide +kernel
theorem dX11_isRun_24 : decode cX11_isRun 24 = .ok (.invokestatic 57, 3) := by decide +kernel
theorem dX11_isRun_27 : decode cX11_isRun 27 = .ok (.iconst 4, 1) := by decide +kernel
theorem dX11_isRun_28 : decode cX11_isRun 28 = .ok (.iadd, 1) := by decide +kernel
theorem dX11_isRun_29 : decode cX11_isRun 29 = .ok (.iaload, 1) := by decide +kernel
theorem dX11_isRun_30 : decode cX11_isRun 30 = .ok (.iload_n 2, 1) := by decide +kernel
theorem dX11_isRun_31 : decode cX11_isRun 31 = .ok (.invokestatic 180, 3) := by decide +kernel
theorem dX11_isRun_34 : decode cX11_isRun 34 = .ok (.ifCond .eq 7, 3) := by decide +kernel
theorem dX11_isRun_37 : decode cX11_isRun 37 = .ok (.iconst 1, 1) := by decide +kernel
theorem dX11_isRun_38 : decode cX11_isRun 38 = .ok (.goto 4, 3) := by decide +kernel
theorem dX11_isRun_41 : decode cX11_isRun 41 = .ok (.iconst 0, 1) := by decide +kernel
theorem dX11_isRun_42 : decode cX11_isRun 42 = .ok (.ireturn, 1) := by decide +kernel
theorem dX11_run_0 : decode cX11_run 0 = .ok (.aload_n 0, 1) := by decide +kernel
theorem dX11_run_1 : decode cX11_run 1 = .ok (.aload_n 0, 1) := by decide +kernel
theorem dX11_run_2 : decode cX11_run 2 = .ok (.getfield 16, 3) := by decide +kernel
theorem dX11_run_5 : decode cX11_run 5 = .ok (.iload_n 1, 1) := by decide +kernel
theorem dX11_run_6 : decode cX11_run 6 = .ok (.iload_n 2, 1) := by decide +kernel
theorem dX11_run_7 : decode cX11_run 7 = .ok (.invokestatic 217, 3) := by decide +kernel
theorem dX11_run_10 : decode cX11_run 10 = .ok (.ifCond .ne 7, 3) := by decide +kernel
theorem dX11_run_13 : decode cX11_run 13 = .ok (.iconst 1, 1) := by decide +kernel
theorem dX11_run_14 : decode cX11_run 14 = .ok (.goto 21, 3) := by decide +kernel
theorem dX11_run_17 : decode cX11_run 17 = .ok (.aload_n 0, 1) := by decide +kernel
theorem dX11_run_18 : decode cX11_run 18 = .ok (.aload_n 0, 1) := by decide +kernel
theorem dX11_run_19 : decode cX11_run 19 = .ok (.getfield 16, 3) := by decide +kernel
theorem dX11_run_22 : decode cX11_run 22 = .ok (.iload_n 1, 1) := by decide +kernel
theorem dX11_run_23 : decode cX11_run 23 = .ok (.iload_n 2, 1) := by decide +kernel
theorem dX11_run_24 : decode cX11_run 24 = .ok (.invokevirtual 220, 3) := by decide +kernel
theorem dX11_run_27 : decode cX11_run 27 = .ok (.ifCond .eq 7, 3) := by decide +kernel
theorem dX11_run_30 : decode cX11_run 30 = .ok (.iconst 2, 1) := by decide +kernel
theorem dX11_run_31 : decode cX11_run 31 = .ok (.goto 4, 3) := by decide +kernel
theorem dX11_run_34 : decode cX11_run 34 = .ok (.iconst 0, 1) := by decide +kernel
theorem dX11_run_35 : decode cX11_run 35 = .ok (.invokevirtual 134, 3) := by decide +kernel
theorem dX11_run_38 : decode cX11_run 38 = .ok (.ifCond .eq 5, 3) := by decide +kernel
theorem dX11_run_41 : decode cX11_run 41 = .ok (.iconst 0, 1) := by decide +kernel
theorem dX11_run_42 : decode cX11_run 42 = .ok (.ireturn, 1) := by decide +kernel
theorem dX11_run_43 : decode cX11_run 43 = .ok (.aload_n 0, 1) := by decide +kernel
theorem dX11_run_44 : decode cX11_run 44 = .ok (.invokevirtual 192, 3) := by decide +kernel
theorem dX11_run_47 : decode cX11_run 47 = .ok (.aload_n 0, 1) := by decide +kernel
theorem dX11_run_48 : decode cX11_run 48 = .ok (.aload_n 0, 1) := by decide +kernel
theorem dX11_run_49 : decode cX11_run 49 = .ok (.getfield 16, 3) := by decide +kernel
theorem dX11_run_52 : decode cX11_run 52 = .ok (.iload_n 1, 1) := by decide +kernel
theorem dX11_run_53 : decode cX11_run 53 = .ok (.iload_n 2, 1) := by decide +kernel
theorem dX11_run_54 : decode cX11_run 54 = .ok (.invokevirtual 223, 3) := by decide +kernel
theorem dX11_run_57 : decode cX11_run 57 = .ok (.ireturn, 1) := by decide +kernel
theorem dX11_endRound_0 : decode cX11_endRound 0 = .ok (.aload_n 0, 1) := by decide +kernel
theorem dX11_endRound_1 : decode cX11_endRound 1 = .ok (.iconst 0, 1) := by decide +kernel
theorem dX11_endRound_2 : decode cX11_endRound 2 = .ok (.putfield 46, 3) := by decide +kernel
theorem dX11_endRound_5 : decode cX11_endRound 5 = .ok (.aload_n 0, 1) := by decide +kernel
theorem dX11_endRound_6 : decode cX11_endRound 6 = .ok (.invokevirtual 192, 3) := by decide +kernel
theorem dX11_endRound_9 : decode cX11_endRound 9 = .ok (.aload_n 0, 1) := by decide +kernel
theorem dX11_endRound_10 : decode cX11_endRound 10 = .ok (.getfield 16, 3) := by decide +kernel
theorem dX11_endRound_13 : decode cX11_endRound 13 = .ok (.invokestatic 226, 3) := by decide +kernel
theorem dX11_endRound_16 : decode cX11_endRound 16 = .ok (.istore_n 1, 1) := by decide +kernel
theorem dX11_endRound_17 : decode cX11_endRound 17 = .ok (.iload_n 1, 1) := by decide +kernel
theorem dX11_endRound_18 : decode cX11_endRound 18 = .ok (.iconst 1, 1) := by decide +kernel
theorem dX11_endRound_19 : decode cX11_endRound 19 = .ok (.iand, 1) := by decide +kernel
theorem dX11_endRound_20 : decode cX11_endRound 20 = .ok (.iload_n 1, 1) := by decide +kernel
theorem dX11_endRound_21 : decode cX11_endRound 21 = .ok (.iconst 1, 1) := by decide +kernel
theorem dX11_endRound_22 : decode cX11_endRound 22 = .ok (.ishr, 1) := by decide +kernel
theorem dX11_endRound_23 : decode cX11_endRound 23 = .ok (.iconst 1, 1) := by decide +kernel
theorem dX11_endRound_24 : decode cX11_endRound 24 = .ok (.iand, 1) := by decide +kernel
theorem dX11_endRound_25 : decode cX11_endRound 25 = .ok (.iadd, 1) := by decide +kernel
theorem dX11_endRound_26 : decode cX11_endRound 26 = .ok (.iload_n 1, 1) := by decide +kernel
theorem dX11_endRound_27 : decode cX11_endRound 27 = .ok (.iconst 2, 1) := by decide +kernel
theorem dX11_endRound_28 : decode cX11_endRound 28 = .ok (.ishr, 1) := by decide +kernel
theorem dX11_endRound_29 : decode cX11_endRound 29 = .ok (.iconst 1, 1) := by decide +kernel
theorem dX11_endRound_30 : decode cX11_endRound 30 = .ok (.iand, 1) := by decide +kernel
theorem dX11_endRound_31 : decode cX11_endRound 31 = .ok (.iadd, 1) := by decide +kernel
theorem dX11_endRound_32 : decode cX11_endRound 32 = .ok (.iload_n 1, 1) := by decide +kernel
theorem dX11_endRound_33 : decode cX11_endRound 33 = .ok (.iconst 3, 1) := by decide +kernel
theorem dX11_endRound_34 : decode cX11_endRound 34 = .ok (.ishr, 1) := by decide +kernel
theorem dX11_endRound_35 : decode cX11_endRound 35 = .ok (.iconst 1, 1) := by decide +kernel
theorem dX11_endRound_36 : decode cX11_endRound 36 = .ok (.iand, 1) := by decide +kernel
theorem dX11_endRound_37 : decode cX11_endRound 37 = .ok (.iadd, 1) := by decide +kernel
theorem dX11_endRound_38 : decode cX11_endRound 38 = .ok (.ireturn, 1) := by decide +kernel
theorem dX11_undo_0 : decode cX11_undo 0 = .ok (.aload_n 0, 1) := by decide +kernel
theorem dX11_undo_1 : decode cX11_undo 1 = .ok (.aload_n 0, 1) := by decide +kernel
theorem dX11_undo_2 : decode cX11_undo 2 = .ok (.getfield 166, 3) := by decide +kernel
theorem dX11_undo_5 : decode cX11_undo 5 = .ok (.ifCond .ne 7, 3) := by decide +kernel
theorem dX11_undo_8 : decode cX11_undo 8 = .ok (.iconst 1, 1) := by decide +kernel
theorem dX11_undo_9 : decode cX11_undo 9 = .ok (.goto 4, 3) := by decide +kernel
theorem dX11_undo_12 : decode cX11_undo 12 = .ok (.iconst 0, 1) := by decide +kernel
theorem dX11_undo_13 : decode cX11_undo 13 = .ok (.invokevirtual 134, 3) := by decide +kernel
theorem dX11_undo_16 : decode cX11_undo 16 = .ok (.ifCond .eq 5, 3) := by decide +kernel
theorem dX11_undo_19 : decode cX11_undo 19 = .ok (.iconst 0, 1) := by decide +kernel
theorem dX11_undo_20 : decode cX11_undo 20 = .ok (.ireturn, 1) := by decide +kernel
theorem dX11_undo_21 : decode cX11_undo 21 = .ok (.aload_n 0, 1) := by decide +kernel
theorem dX11_undo_22 : decode cX11_undo 22 = .ok (.dup, 1) := by decide +kernel
theorem dX11_undo_23 : decode cX11_undo 23 = .ok (.getfield 166, 3) := by decide +kernel
theorem dX11_undo_26 : decode cX11_undo 26 = .ok (.iconst 1, 1) := by decide +kernel
theorem dX11_undo_27 : decode cX11_undo 27 = .ok (.isub, 1) := by decide +kernel
theorem dX11_undo_28 : decode cX11_undo 28 = .ok (.putfield 166, 3) := by decide +kernel
theorem dX11_undo_31 : decode cX11_undo 31 = .ok (.aload_n 0, 1) := by decide +kernel
theorem dX11_undo_32 : decode cX11_undo 32 = .ok (.getfield 22, 3) := by decide +kernel
theorem dX11_undo_35 : decode cX11_undo 35 = .ok (.sipush 175, 3) := by decide +kernel
theorem dX11_undo_38 : decode cX11_undo 38 = .ok (.aload_n 0, 1) := by decide +kernel
theorem dX11_undo_39 : decode cX11_undo 39 = .ok (.getfield 166, 3) := by decide +kernel
theorem dX11_undo_42 : decode cX11_undo 42 = .ok (.imul, 1) := by decide +kernel
theorem dX11_undo_43 : decode cX11_undo 43 = .ok (.aload_n 0, 1) := by decide +kernel
theorem dX11_undo_44 : decode cX11_undo 44 = .ok (.getfield 16, 3) := by decide +kernel
theorem dX11_undo_47 : decode cX11_undo 47 = .ok (.iconst 0, 1) := by decide +kernel
theorem dX11_undo_48 : decode cX11_undo 48 = .ok (.invokestatic 162, 3) := by decide +kernel
theorem dX11_undo_51 : decode cX11_undo 51 = .ok (.aload_n 0, 1) := by decide +kernel
theorem dX11_undo_52 : decode cX11_undo 52 = .ok (.getfield 166, 3) := by decide +kernel
theorem dX11_undo_55 : decode cX11_undo 55 = .ok (.ireturn, 1) := by decide +kernel
theorem dX11_way_0 : decode cX11_way 0 = .ok (.iload_n 2, 1) := by decide +kernel
theorem dX11_way_1 : decode cX11_way 1 = .ok (.iload_n 3, 1) := by decide +kernel
theorem dX11_way_2 : decode cX11_way 2 = .ok (.if_icmp .eq 33, 3) := by decide +kernel
theorem dX11_way_5 : decode cX11_way 5 = .ok (.iload 4, 2) := by decide +kernel
theorem dX11_way_7 : decode cX11_way 7 = .ok (.i2l, 1) := by decide +kernel
theorem dX11_way_8 : decode cX11_way 8 = .ok (.lconst 1, 1) := by decide +kernel
theorem dX11_way_9 : decode cX11_way 9 = .ok (.ldc2_w 230, 3) := by decide +kernel
theorem dX11_way_12 : decode cX11_way 12 = .ok (.invokestatic 62, 3) := by decide +kernel
theorem dX11_way_15 : decode cX11_way 15 = .ok (.ifCond .eq 20, 3) := by decide +kernel
theorem dX11_way_18 : decode cX11_way 18 = .ok (.iload 5, 2) := by decide +kernel
theorem dX11_way_20 : decode cX11_way 20 = .ok (.i2l, 1) := by decide +kernel
theorem dX11_way_21 : decode cX11_way 21 = .ok (.lconst 0, 1) := by decide +kernel
theorem dX11_way_22 : decode cX11_way 22 = .ok (.ldc2_w 60, 3) := by decide +kernel
theorem dX11_way_25 : decode cX11_way 25 = .ok (.invokestatic 62, 3) := by decide +kernel
theorem dX11_way_28 : decode cX11_way 28 = .ok (.ifCond .eq 7, 3) := by decide +kernel
theorem dX11_way_31 : decode cX11_way 31 = .ok (.iconst 1, 1) := by decide +kernel
theorem dX11_way_32 : decode cX11_way 32 = .ok (.goto 4, 3) := by decide +kernel
theorem dX11_way_35 : decode cX11_way 35 = .ok (.iconst 0, 1) := by decide +kernel
theorem dX11_way_36 : decode cX11_way 36 = .ok (.istore 6, 2) := by decide +kernel
theorem dX11_way_38 : decode cX11_way 38 = .ok (.aload_n 0, 1) := by decide +kernel
theorem dX11_way_39 : decode cX11_way 39 = .ok (.iload_n 1, 1) := by decide +kernel
theorem dX11_way_40 : decode cX11_way 40 = .ok (.invokestatic 175, 3) := by decide +kernel
theorem dX11_way_43 : decode cX11_way 43 = .ok (.ifCond .eq 19, 3) := by decide +kernel
theorem dX11_way_46 : decode cX11_way 46 = .ok (.aload_n 0, 1) := by decide +kernel
theorem dX11_way_47 : decode cX11_way 47 = .ok (.iload_n 2, 1) := by decide +kernel
theorem dX11_way_48 : decode cX11_way 48 = .ok (.invokevirtual 208, 3) := by decide +kernel
theorem dX11_way_51 : decode cX11_way 51 = .ok (.ifCond .eq 11, 3) := by decide +kernel
theorem dX11_way_54 : decode cX11_way 54 = .ok (.aload_n 0, 1) := by decide +kernel
theorem dX11_way_55 : decode cX11_way 55 = .ok (.iload_n 3, 1) := by decide +kernel
theorem dX11_way_56 : decode cX11_way 56 = .ok (.invokevirtual 208, 3) := by decide +kernel
theorem dX11_way_59 : decode cX11_way 59 = .ok (.ifCond .ne 7, 3) := by decide +kernel
theorem dX11_way_62 : decode cX11_way 62 = .ok (.iconst 1, 1) := by decide +kernel
theorem dX11_way_63 : decode cX11_way 63 = .ok (.goto 13, 3) := by decide +kernel
theorem dX11_way_66 : decode cX11_way 66 = .ok (.iload 6, 2) := by decide +kernel
theorem dX11_way_68 : decode cX11_way 68 = .ok (.ifCond .ne 7, 3) := by decide +kernel
theorem dX11_way_71 : decode cX11_way 71 = .ok (.iconst 2, 1) := by decide +kernel
theorem dX11_way_72 : decode cX11_way 72 = .ok (.goto 4, 3) := by decide +kernel
theorem dX11_way_75 : decode cX11_way 75 = .ok (.iconst 0, 1) := by decide +kernel
theorem dX11_way_76 : decode cX11_way 76 = .ok (.invokevirtual 134, 3) := by decide +kernel
theorem dX11_way_79 : decode cX11_way 79 = .ok (.ifCond .eq 5, 3) := by decide +kernel
theorem dX11_way_82 : decode cX11_way 82 = .ok (.iconst 0, 1) := by decide +kernel
theorem dX11_way_83 : decode cX11_way 83 = .ok (.ireturn, 1) := by decide +kernel
theorem dX11_way_84 : decode cX11_way 84 = .ok (.aload_n 0, 1) := by decide +kernel
theorem dX11_way_85 : decode cX11_way 85 = .ok (.aload_n 0, 1) := by decide +kernel
theorem dX11_way_86 : decode cX11_way 86 = .ok (.getfield 16, 3) := by decide +kernel
theorem dX11_way_89 : decode cX11_way 89 = .ok (.iload_n 1, 1) := by decide +kernel
theorem dX11_way_90 : decode cX11_way 90 = .ok (.iload_n 2, 1) := by decide +kernel
theorem dX11_way_91 : decode cX11_way 91 = .ok (.iload_n 3, 1) := by decide +kernel
theorem dX11_way_92 : decode cX11_way 92 = .ok (.iload 4, 2) := by decide +kernel
theorem dX11_way_94 : decode cX11_way 94 = .ok (.invokevirtual 98, 3) := by decide +kernel
theorem dX11_way_97 : decode cX11_way 97 = .ok (.ifCond .ne 6, 3) := by decide +kernel
theorem dX11_way_100 : decode cX11_way 100 = .ok (.bipush (-9), 2) := by decide +kernel
theorem dX11_way_102 : decode cX11_way 102 = .ok (.ireturn, 1) := by decide +kernel
theorem dX11_way_103 : decode cX11_way 103 = .ok (.iload 5, 2) := by decide +kernel
theorem dX11_way_105 : decode cX11_way 105 = .ok (.ifCond .ne 10, 3) := by decide +kernel
theorem dX11_way_108 : decode cX11_way 108 = .ok (.aload_n 0, 1) := by decide +kernel
theorem dX11_way_109 : decode cX11_way 109 = .ok (.getfield 85, 3) := by decide +kernel
theorem dX11_way_112 : decode cX11_way 112 = .ok (.goto 35, 3) := by decide +kernel
theorem dX11_way_115 : decode cX11_way 115 = .ok (.iload 5, 2) := by decide +kernel
theorem dX11_way_117 : decode cX11_way 117 = .ok (.iconst 1, 1) := by decide +kernel
theorem dX11_way_118 : decode cX11_way 118 = .ok (.if_icmp .ne 10, 3) := by decide +kernel
theorem dX11_way_121 : decode cX11_way 121 = .ok (.aload_n 0, 1) := by decide +kernel
theorem dX11_way_122 : decode cX11_way 122 = .ok (.getfield 88, 3) := by decide +kernel
theorem dX11_way_125 : decode cX11_way 125 = .ok (.goto 22, 3) := by decide +kernel
theorem dX11_way_128 : decode cX11_way 128 = .ok (.iload 5, 2) := by decide +kernel
theorem dX11_way_130 : decode cX11_way 130 = .ok (.iconst 2, 1) := by decide +kernel
theorem dX11_way_131 : decode cX11_way 131 = .ok (.if_icmp .ne 10, 3) := by decide +kernel
theorem dX11_way_134 : decode cX11_way 134 = .ok (.aload_n 0, 1) := by decide +kernel
theorem dX11_way_135 : decode cX11_way 135 = .ok (.getfield 91, 3) := by decide +kernel
theorem dX11_way_138 : decode cX11_way 138 = .ok (.goto 9, 3) := by decide +kernel
theorem dX11_way_141 : decode cX11_way 141 = .ok (.aload_n 0, 1) := by decide +kernel
theorem dX11_way_142 : decode cX11_way 142 = .ok (.getfield 35, 3) := by decide +kernel
theorem dX11_way_145 : decode cX11_way 145 = .ok (.iconst 0, 1) := by decide +kernel
theorem dX11_way_146 : decode cX11_way 146 = .ok (.iaload, 1) := by decide +kernel
theorem dX11_way_147 : decode cX11_way 147 = .ok (.ireturn, 1) := by decide +kernel
theorem dX11_whyNot_0 : decode cX11_whyNot 0 = .ok (.aload_n 0, 1) := by decide +kernel
theorem dX11_whyNot_1 : decode cX11_whyNot 1 = .ok (.aload_n 0, 1) := by decide +kernel
theorem dX11_whyNot_2 : decode cX11_whyNot 2 = .ok (.getfield 16, 3) := by decide +kernel
theorem dX11_whyNot_5 : decode cX11_whyNot 5 = .ok (.iload_n 1, 1) := by decide +kernel
theorem dX11_whyNot_6 : decode cX11_whyNot 6 = .ok (.iload_n 2, 1) := by decide +kernel
theorem dX11_whyNot_7 : decode cX11_whyNot 7 = .ok (.invokestatic 217, 3) := by decide +kernel
theorem dX11_whyNot_10 : decode cX11_whyNot 10 = .ok (.ifCond .eq 7, 3) := by decide +kernel
theorem dX11_whyNot_13 : decode cX11_whyNot 13 = .ok (.iconst 0, 1) := by decide +kernel
theorem dX11_whyNot_14 : decode cX11_whyNot 14 = .ok (.goto 4, 3) := by decide +kernel
theorem dX11_whyNot_17 : decode cX11_whyNot 17 = .ok (.iconst 1, 1) := by decide +kernel
theorem dX11_whyNot_18 : decode cX11_whyNot 18 = .ok (.invokevirtual 134, 3) := by decide +kernel
theorem dX11_whyNot_21 : decode cX11_whyNot 21 = .ok (.ifCond .eq 7, 3) := by decide +kernel
theorem dX11_whyNot_24 : decode cX11_whyNot 24 = .ok (.iconst 0, 1) := by decide +kernel
theorem dX11_whyNot_25 : decode cX11_whyNot 25 = .ok (.goto 13, 3) := by decide +kernel
theorem dX11_whyNot_28 : decode cX11_whyNot 28 = .ok (.aload_n 0, 1) := by decide +kernel
theorem dX11_whyNot_29 : decode cX11_whyNot 29 = .ok (.aload_n 0, 1) := by decide +kernel
theorem dX11_whyNot_30 : decode cX11_whyNot 30 = .ok (.getfield 16, 3) := by decide +kernel
theorem dX11_whyNot_33 : decode cX11_whyNot 33 = .ok (.iload_n 1, 1) := by decide +kernel
theorem dX11_whyNot_34 : decode cX11_whyNot 34 = .ok (.iload_n 2, 1) := by decide +kernel
theorem dX11_whyNot_35 : decode cX11_whyNot 35 = .ok (.invokevirtual 220, 3) := by decide +kernel
theorem dX11_whyNot_38 : decode cX11_whyNot 38 = .ok (.ireturn, 1) := by decide +kernel
theorem dX11_levelFor_0 : decode cX11_levelFor 0 = .ok (.aload_n 0, 1) := by decide +kernel
theorem dX11_levelFor_1 : decode cX11_levelFor 1 = .ok (.iload_n 1, 1) := by decide +kernel
theorem dX11_levelFor_2 : decode cX11_levelFor 2 = .ok (.invokestatic 175, 3) := by decide +kernel
theorem dX11_levelFor_5 : decode cX11_levelFor 5 = .ok (.ifCond .eq 18, 3) := by decide +kernel
theorem dX11_levelFor_8 : decode cX11_levelFor 8 = .ok (.aload_n 0, 1) := by decide +kernel
theorem dX11_levelFor_9 : decode cX11_levelFor 9 = .ok (.getfield 16, 3) := by decide +kernel
theorem dX11_levelFor_12 : decode cX11_levelFor 12 = .ok (.iload_n 2, 1) := by decide +kernel
theorem dX11_levelFor_13 : decode cX11_levelFor 13 = .ok (.invokestatic 184, 3) := by decide +kernel
theorem dX11_levelFor_16 : decode cX11_levelFor 16 = .ok (.ifCond .eq 7, 3) := by decide +kernel
theorem dX11_levelFor_19 : decode cX11_levelFor 19 = .ok (.iconst 0, 1) := by decide +kernel
theorem dX11_levelFor_20 : decode cX11_levelFor 20 = .ok (.goto 4, 3) := by decide +kernel
theorem dX11_levelFor_23 : decode cX11_levelFor 23 = .ok (.iconst 1, 1) := by decide +kernel
theorem dX11_levelFor_24 : decode cX11_levelFor 24 = .ok (.invokevirtual 134, 3) := by decide +kernel
theorem dX11_levelFor_27 : decode cX11_levelFor 27 = .ok (.ifCond .eq 5, 3) := by decide +kernel
theorem dX11_levelFor_30 : decode cX11_levelFor 30 = .ok (.iconst 0, 1) := by decide +kernel
theorem dX11_levelFor_31 : decode cX11_levelFor 31 = .ok (.ireturn, 1) := by decide +kernel
theorem dX11_levelFor_32 : decode cX11_levelFor 32 = .ok (.iconst 1, 1) := by decide +kernel
theorem dX11_levelFor_33 : decode cX11_levelFor 33 = .ok (.istore_n 3, 1) := by decide +kernel
theorem dX11_levelFor_34 : decode cX11_levelFor 34 = .ok (.iload_n 3, 1) := by decide +kernel
theorem dX11_levelFor_35 : decode cX11_levelFor 35 = .ok (.bipush 6, 2) := by decide +kernel
theorem dX11_levelFor_37 : decode cX11_levelFor 37 = .ok (.if_icmp .gt 46, 3) := by decide +kernel
theorem dX11_levelFor_40 : decode cX11_levelFor 40 = .ok (.aload_n 0, 1) := by decide +kernel
theorem dX11_levelFor_41 : decode cX11_levelFor 41 = .ok (.aload_n 0, 1) := by decide +kernel
theorem dX11_levelFor_42 : decode cX11_levelFor 42 = .ok (.getfield 16, 3) := by decide +kernel
theorem dX11_levelFor_45 : decode cX11_levelFor 45 = .ok (.iload_n 1, 1) := by decide +kernel
theorem dX11_levelFor_46 : decode cX11_levelFor 46 = .ok (.aload_n 0, 1) := by decide +kernel
theorem dX11_levelFor_47 : decode cX11_levelFor 47 = .ok (.getfield 16, 3) := by decide +kernel
theorem dX11_levelFor_50 : decode cX11_levelFor 50 = .ok (.iload_n 2, 1) := by decide +kernel
theorem dX11_levelFor_51 : decode cX11_levelFor 51 = .ok (.invokestatic 57, 3) := by decide +kernel
theorem dX11_levelFor_54 : decode cX11_levelFor 54 = .ok (.iaload, 1) := by decide +kernel
theorem dX11_levelFor_55 : decode cX11_levelFor 55 = .ok (.aload_n 0, 1) := by decide +kernel
theorem dX11_levelFor_56 : decode cX11_levelFor 56 = .ok (.getfield 16, 3) := by decide +kernel
theorem dX11_levelFor_59 : decode cX11_levelFor 59 = .ok (.iload_n 2, 1) := by decide +kernel
theorem dX11_levelFor_60 : decode cX11_levelFor 60 = .ok (.invokestatic 57, 3) := by decide +kernel
theorem dX11_levelFor_63 : decode cX11_levelFor 63 = .ok (.iconst 1, 1) := by decide +kernel
theorem dX11_levelFor_64 : decode cX11_levelFor 64 = .ok (.iadd, 1) := by decide +kernel
theorem dX11_levelFor_65 : decode cX11_levelFor 65 = .ok (.iaload, 1) := by decide +kernel
theorem dX11_levelFor_66 : decode cX11_levelFor 66 = .ok (.iconst 4, 1) := by decide +kernel
theorem dX11_levelFor_67 : decode cX11_levelFor 67 = .ok (.iload_n 3, 1) := by decide +kernel
theorem dX11_levelFor_68 : decode cX11_levelFor 68 = .ok (.imul, 1) := by decide +kernel
theorem dX11_levelFor_69 : decode cX11_levelFor 69 = .ok (.invokevirtual 98, 3) := by decide +kernel
theorem dX11_levelFor_72 : decode cX11_levelFor 72 = .ok (.ifCond .eq 5, 3) := by decide +kernel
theorem dX11_levelFor_75 : decode cX11_levelFor 75 = .ok (.iload_n 3, 1) := by decide +kernel
theorem dX11_levelFor_76 : decode cX11_levelFor 76 = .ok (.ireturn, 1) := by decide +kernel
theorem dX11_levelFor_77 : decode cX11_levelFor 77 = .ok (.iinc 3 1, 3) := by decide +kernel
theorem dX11_levelFor_80 : decode cX11_levelFor 80 = .ok (.goto (-46), 3) := by decide +kernel
theorem dX11_levelFor_83 : decode cX11_levelFor 83 = .ok (.bipush (-9), 2) := by decide +kernel
theorem dX11_levelFor_85 : decode cX11_levelFor 85 = .ok (.ireturn, 1) := by decide +kernel
theorem dX11_bestContract_0 : decode cX11_bestContract 0 = .ok (.aload_n 0, 1) := by decide +kernel
theorem dX11_bestContract_1 : decode cX11_bestContract 1 = .ok (.iload_n 1, 1) := by decide +kernel
theorem dX11_bestContract_2 : decode cX11_bestContract 2 = .ok (.invokestatic 175, 3) := by decide +kernel
theorem dX11_bestContract_5 : decode cX11_bestContract 5 = .ok (.ifCond .eq 7, 3) := by decide +kernel
theorem dX11_bestContract_8 : decode cX11_bestContract 8 = .ok (.iconst 0, 1) := by decide +kernel
theorem dX11_bestContract_9 : decode cX11_bestContract 9 = .ok (.goto 4, 3) := by decide +kernel
theorem dX11_bestContract_12 : decode cX11_bestContract 12 = .ok (.iconst 1, 1) := by decide +kernel
theorem dX11_bestContract_13 : decode cX11_bestContract 13 = .ok (.invokevirtual 134, 3) := by decide +kernel
theorem dX11_bestContract_16 : decode cX11_bestContract 16 = .ok (.ifCond .eq 5, 3) := by decide +kernel
theorem dX11_bestContract_19 : decode cX11_bestContract 19 = .ok (.iconst 0, 1) := by decide +kernel
theorem dX11_bestContract_20 : decode cX11_bestContract 20 = .ok (.ireturn, 1) := by decide +kernel
theorem dX11_bestContract_21 : decode cX11_bestContract 21 = .ok (.iconst 0, 1) := by decide +kernel
theorem dX11_bestContract_22 : decode cX11_bestContract 22 = .ok (.istore_n 2, 1) := by decide +kernel
theorem dX11_bestContract_23 : decode cX11_bestContract 23 = .ok (.iconst 0, 1) := by decide +kernel
theorem dX11_bestContract_24 : decode cX11_bestContract 24 = .ok (.istore_n 3, 1) := by decide +kernel
theorem dX11_bestContract_25 : decode cX11_bestContract 25 = .ok (.iload_n 3, 1) := by decide +kernel
theorem dX11_bestContract_26 : decode cX11_bestContract 26 = .ok (.aload_n 0, 1) := by decide +kernel
theorem dX11_bestContract_27 : decode cX11_bestContract 27 = .ok (.getfield 16, 3) := by decide +kernel
theorem dX11_bestContract_30 : decode cX11_bestContract 30 = .ok (.iload_n 1, 1) := by decide +kernel
theorem dX11_bestContract_31 : decode cX11_bestContract 31 = .ok (.invokestatic 66, 3) := by decide +kernel
theorem dX11_bestContract_34 : decode cX11_bestContract 34 = .ok (.if_icmp .ge 38, 3) := by decide +kernel
theorem dX11_bestContract_37 : decode cX11_bestContract 37 = .ok (.aload_n 0, 1) := by decide +kernel
theorem dX11_bestContract_38 : decode cX11_bestContract 38 = .ok (.getfield 16, 3) := by decide +kernel
theorem dX11_bestContract_41 : decode cX11_bestContract 41 = .ok (.iload_n 1, 1) := by decide +kernel
theorem dX11_bestContract_42 : decode cX11_bestContract 42 = .ok (.iload_n 3, 1) := by decide +kernel
theorem dX11_bestContract_43 : decode cX11_bestContract 43 = .ok (.invokestatic 94, 3) := by decide +kernel
theorem dX11_bestContract_46 : decode cX11_bestContract 46 = .ok (.iaload, 1) := by decide +kernel
theorem dX11_bestContract_47 : decode cX11_bestContract 47 = .ok (.iload_n 2, 1) := by decide +kernel
theorem dX11_bestContract_48 : decode cX11_bestContract 48 = .ok (.if_icmp .le 16, 3) := by decide +kernel
theorem dX11_bestContract_51 : decode cX11_bestContract 51 = .ok (.aload_n 0, 1) := by decide +kernel
theorem dX11_bestContract_52 : decode cX11_bestContract 52 = .ok (.getfield 16, 3) := by decide +kernel
theorem dX11_bestContract_55 : decode cX11_bestContract 55 = .ok (.iload_n 1, 1) := by decide +kernel
theorem dX11_bestContract_56 : decode cX11_bestContract 56 = .ok (.iload_n 3, 1) := by decide +kernel
theorem dX11_bestContract_57 : decode cX11_bestContract 57 = .ok (.invokestatic 94, 3) := by decide +kernel
theorem dX11_bestContract_60 : decode cX11_bestContract 60 = .ok (.iaload, 1) := by decide +kernel
theorem dX11_bestContract_61 : decode cX11_bestContract 61 = .ok (.goto 4, 3) := by decide +kernel
theorem dX11_bestContract_64 : decode cX11_bestContract 64 = .ok (.iload_n 2, 1) := by decide +kernel
theorem dX11_bestContract_65 : decode cX11_bestContract 65 = .ok (.istore_n 2, 1) := by decide +kernel
theorem dX11_bestContract_66 : decode cX11_bestContract 66 = .ok (.iinc 3 1, 3) := by decide +kernel
theorem dX11_bestContract_69 : decode cX11_bestContract 69 = .ok (.goto (-44), 3) := by decide +kernel
theorem dX11_bestContract_72 : decode cX11_bestContract 72 = .ok (.bipush (-9), 2) := by decide +kernel
theorem dX11_bestContract_74 : decode cX11_bestContract 74 = .ok (.istore_n 3, 1) := by decide +kernel
theorem dX11_bestContract_75 : decode cX11_bestContract 75 = .ok (.iconst 0, 1) := by decide +kernel
theorem dX11_bestContract_76 : decode cX11_bestContract 76 = .ok (.istore 4, 2) := by decide +kernel
theorem dX11_bestContract_78 : decode cX11_bestContract 78 = .ok (.iconst 0, 1) := by decide +kernel
theorem dX11_bestContract_79 : decode cX11_bestContract 79 = .ok (.istore 5, 2) := by decide +kernel
theorem dX11_bestContract_81 : decode cX11_bestContract 81 = .ok (.iload 5, 2) := by decide +kernel
theorem dX11_bestContract_83 : decode cX11_bestContract 83 = .ok (.aload_n 0, 1) := by decide +kernel
theorem dX11_bestContract_84 : decode cX11_bestContract 84 = .ok (.getfield 16, 3) := by decide +kernel
theorem dX11_bestContract_87 : decode cX11_bestContract 87 = .ok (.iconst 2, 1) := by decide +kernel
theorem dX11_bestContract_88 : decode cX11_bestContract 88 = .ok (.iaload, 1) := by decide +kernel
theorem dX11_bestContract_89 : decode cX11_bestContract 89 = .ok (.if_icmp .ge 127, 3) := by decide +kernel
theorem dX11_bestContract_92 : decode cX11_bestContract 92 = .ok (.iload_n 2, 1) := by decide +kernel
theorem dX11_bestContract_93 : decode cX11_bestContract 93 = .ok (.ifCond .le 123, 3) := by decide +kernel
theorem dX11_bestContract_96 : decode cX11_bestContract 96 = .ok (.iload 5, 2) := by decide +kernel
theorem dX11_bestContract_98 : decode cX11_bestContract 98 = .ok (.invokestatic 57, 3) := by decide +kernel
theorem dX11_bestContract_101 : decode cX11_bestContract 101 = .ok (.istore 6, 2) := by decide +kernel
theorem dX11_bestContract_103 : decode cX11_bestContract 103 = .ok (.aload_n 0, 1) := by decide +kernel
theorem dX11_bestContract_104 : decode cX11_bestContract 104 = .ok (.getfield 16, 3) := by decide +kernel
theorem dX11_bestContract_107 : decode cX11_bestContract 107 = .ok (.iload 6, 2) := by decide +kernel
theorem dX11_bestContract_109 : decode cX11_bestContract 109 = .ok (.iconst 4, 1) := by decide +kernel
theorem dX11_bestContract_110 : decode cX11_bestContract 110 = .ok (.iadd, 1) := by decide +kernel
theorem dX11_bestContract_111 : decode cX11_bestContract 111 = .ok (.iaload, 1) := by decide +kernel
theorem dX11_bestContract_112 : decode cX11_bestContract 112 = .ok (.bipush (-9), 2) := by decide +kernel
theorem dX11_bestContract_114 : decode cX11_bestContract 114 = .ok (.if_icmp .ne 96, 3) := by decide +kernel
theorem dX11_bestContract_117 : decode cX11_bestContract 117 = .ok (.aload_n 0, 1) := by decide +kernel
theorem dX11_bestContract_118 : decode cX11_bestContract 118 = .ok (.aload_n 0, 1) := by decide +kernel
theorem dX11_bestContract_119 : decode cX11_bestContract 119 = .ok (.getfield 16, 3) := by decide +kernel
theorem dX11_bestContract_122 : decode cX11_bestContract 122 = .ok (.iload_n 1, 1) := by decide +kernel
theorem dX11_bestContract_123 : decode cX11_bestContract 123 = .ok (.aload_n 0, 1) := by decide +kernel
theorem dX11_bestContract_124 : decode cX11_bestContract 124 = .ok (.getfield 16, 3) := by decide +kernel
theorem dX11_bestContract_127 : decode cX11_bestContract 127 = .ok (.iload 6, 2) := by decide +kernel
theorem dX11_bestContract_129 : decode cX11_bestContract 129 = .ok (.iaload, 1) := by decide +kernel
theorem dX11_bestContract_130 : decode cX11_bestContract 130 = .ok (.aload_n 0, 1) := by decide +kernel
theorem dX11_bestContract_131 : decode cX11_bestContract 131 = .ok (.getfield 16, 3) := by decide +kernel
theorem dX11_bestContract_134 : decode cX11_bestContract 134 = .ok (.iload 6, 2) := by decide +kernel
theorem dX11_bestContract_136 : decode cX11_bestContract 136 = .ok (.iconst 1, 1) := by decide +kernel
theorem dX11_bestContract_137 : decode cX11_bestContract 137 = .ok (.iadd, 1) := by decide +kernel
theorem dX11_bestContract_138 : decode cX11_bestContract 138 = .ok (.iaload, 1) := by decide +kernel
theorem dX11_bestContract_139 : decode cX11_bestContract 139 = .ok (.iconst 4, 1) := by decide +kernel
theorem dX11_bestContract_140 : decode cX11_bestContract 140 = .ok (.iload_n 2, 1) := by decide +kernel
theorem dX11_bestContract_141 : decode cX11_bestContract 141 = .ok (.imul, 1) := by decide +kernel
theorem dX11_bestContract_142 : decode cX11_bestContract 142 = .ok (.invokevirtual 98, 3) := by decide +kernel
theorem dX11_bestContract_145 : decode cX11_bestContract 145 = .ok (.ifCond .eq 65, 3) := by decide +kernel
theorem dX11_bestContract_148 : decode cX11_bestContract 148 = .ok (.aload_n 0, 1) := by decide +kernel
theorem dX11_bestContract_149 : decode cX11_bestContract 149 = .ok (.getfield 16, 3) := by decide +kernel
theorem dX11_bestContract_152 : decode cX11_bestContract 152 = .ok (.iload 6, 2) := by decide +kernel
theorem dX11_bestContract_154 : decode cX11_bestContract 154 = .ok (.iconst 2, 1) := by decide +kernel
theorem dX11_bestContract_155 : decode cX11_bestContract 155 = .ok (.iadd, 1) := by decide +kernel
theorem dX11_bestContract_156 : decode cX11_bestContract 156 = .ok (.iaload, 1) := by decide +kernel
theorem dX11_bestContract_157 : decode cX11_bestContract 157 = .ok (.aload_n 0, 1) := by decide +kernel
theorem dX11_bestContract_158 : decode cX11_bestContract 158 = .ok (.getfield 85, 3) := by decide +kernel
theorem dX11_bestContract_161 : decode cX11_bestContract 161 = .ok (.isub, 1) := by decide +kernel
theorem dX11_bestContract_162 : decode cX11_bestContract 162 = .ok (.istore 7, 2) := by decide +kernel
theorem dX11_bestContract_164 : decode cX11_bestContract 164 = .ok (.iload_n 3, 1) := by decide +kernel
theorem dX11_bestContract_165 : decode cX11_bestContract 165 = .ok (.bipush (-9), 2) := by decide +kernel
theorem dX11_bestContract_167 : decode cX11_bestContract 167 = .ok (.if_icmp .eq 10, 3) := by decide +kernel
theorem dX11_bestContract_170 : decode cX11_bestContract 170 = .ok (.iload 7, 2) := by decide +kernel
theorem dX11_bestContract_172 : decode cX11_bestContract 172 = .ok (.iload 4, 2) := by decide +kernel
theorem dX11_bestContract_174 : decode cX11_bestContract 174 = .ok (.if_icmp .le 7, 3) := by decide +kernel
theorem dX11_bestContract_177 : decode cX11_bestContract 177 = .ok (.iconst 1, 1) := by decide +kernel
theorem dX11_bestContract_178 : decode cX11_bestContract 178 = .ok (.goto 4, 3) := by decide +kernel
theorem dX11_bestContract_181 : decode cX11_bestContract 181 = .ok (.iconst 0, 1) := by decide +kernel
theorem dX11_bestContract_182 : decode cX11_bestContract 182 = .ok (.istore 8, 2) := by decide +kernel
theorem dX11_bestContract_184 : decode cX11_bestContract 184 = .ok (.iload 8, 2) := by decide +kernel
theorem dX11_bestContract_186 : decode cX11_bestContract 186 = .ok (.ifCond .eq 8, 3) := by decide +kernel
theorem dX11_bestContract_189 : decode cX11_bestContract 189 = .ok (.iload 5, 2) := by decide +kernel
theorem dX11_bestContract_191 : decode cX11_bestContract 191 = .ok (.goto 4, 3) := by decide +kernel
theorem dX11_bestContract_194 : decode cX11_bestContract 194 = .ok (.iload_n 3, 1) := by decide +kernel
theorem dX11_bestContract_195 : decode cX11_bestContract 195 = .ok (.istore_n 3, 1) := by decide +kernel
theorem dX11_bestContract_196 : decode cX11_bestContract 196 = .ok (.iload 8, 2) := by decide +kernel
theorem dX11_bestContract_198 : decode cX11_bestContract 198 = .ok (.ifCond .eq 8, 3) := by decide +kernel
theorem dX11_bestContract_201 : decode cX11_bestContract 201 = .ok (.iload 7, 2) := by decide +kernel
theorem dX11_bestContract_203 : decode cX11_bestContract 203 = .ok (.goto 5, 3) := by decide +kernel
theorem dX11_bestContract_206 : decode cX11_bestContract 206 = .ok (.iload 4, 2) := by decide +kernel
theorem dX11_bestContract_208 : decode cX11_bestContract 208 = .ok (.istore 4, 2) := by decide +kernel
theorem dX11_bestContract_210 : decode cX11_bestContract 210 = .ok (.iinc 5 1, 3) := by decide +kernel
theorem dX11_bestContract_213 : decode cX11_bestContract 213 = .ok (.goto (-132), 3) := by decide +kernel
theorem dX11_bestContract_216 : decode cX11_bestContract 216 = .ok (.iload_n 3, 1) := by decide +kernel
theorem dX11_bestContract_217 : decode cX11_bestContract 217 = .ok (.ireturn, 1) := by decide +kernel
theorem dX11_coinsAfter_0 : decode cX11_coinsAfter 0 = .ok (.aload_n 0, 1) := by decide +kernel
theorem dX11_coinsAfter_1 : decode cX11_coinsAfter 1 = .ok (.iload_n 1, 1) := by decide +kernel
theorem dX11_coinsAfter_2 : decode cX11_coinsAfter 2 = .ok (.invokestatic 175, 3) := by decide +kernel
theorem dX11_coinsAfter_5 : decode cX11_coinsAfter 5 = .ok (.ifCond .ne 7, 3) := by decide +kernel
theorem dX11_coinsAfter_8 : decode cX11_coinsAfter 8 = .ok (.iconst 1, 1) := by decide +kernel
theorem dX11_coinsAfter_9 : decode cX11_coinsAfter 9 = .ok (.goto 20, 3) := by decide +kernel
theorem dX11_coinsAfter_12 : decode cX11_coinsAfter 12 = .ok (.iload_n 2, 1) := by decide +kernel
theorem dX11_coinsAfter_13 : decode cX11_coinsAfter 13 = .ok (.i2l, 1) := by decide +kernel
theorem dX11_coinsAfter_14 : decode cX11_coinsAfter 14 = .ok (.lconst 0, 1) := by decide +kernel
theorem dX11_coinsAfter_15 : decode cX11_coinsAfter 15 = .ok (.ldc2_w 232, 3) := by decide +kernel
theorem dX11_coinsAfter_18 : decode cX11_coinsAfter 18 = .ok (.invokestatic 62, 3) := by decide +kernel
theorem dX11_coinsAfter_21 : decode cX11_coinsAfter 21 = .ok (.ifCond .ne 7, 3) := by decide +kernel
theorem dX11_coinsAfter_24 : decode cX11_coinsAfter 24 = .ok (.iconst 2, 1) := by decide +kernel
theorem dX11_coinsAfter_25 : decode cX11_coinsAfter 25 = .ok (.goto 4, 3) := by decide +kernel
theorem dX11_coinsAfter_28 : decode cX11_coinsAfter 28 = .ok (.iconst 0, 1) := by decide +kernel
theorem dX11_coinsAfter_29 : decode cX11_coinsAfter 29 = .ok (.invokevirtual 134, 3) := by decide +kernel
theorem dX11_coinsAfter_32 : decode cX11_coinsAfter 32 = .ok (.ifCond .eq 5, 3) := by decide +kernel
theorem dX11_coinsAfter_35 : decode cX11_coinsAfter 35 = .ok (.iconst 0, 1) := by decide +kernel
theorem dX11_coinsAfter_36 : decode cX11_coinsAfter 36 = .ok (.ireturn, 1) := by decide +kernel
theorem dX11_coinsAfter_37 : decode cX11_coinsAfter 37 = .ok (.aload_n 0, 1) := by decide +kernel
theorem dX11_coinsAfter_38 : decode cX11_coinsAfter 38 = .ok (.getfield 16, 3) := by decide +kernel
theorem dX11_coinsAfter_41 : decode cX11_coinsAfter 41 = .ok (.iconst 0, 1) := by decide +kernel
theorem dX11_coinsAfter_42 : decode cX11_coinsAfter 42 = .ok (.aload_n 0, 1) := by decide +kernel
theorem dX11_coinsAfter_43 : decode cX11_coinsAfter 43 = .ok (.getfield 19, 3) := by decide +kernel
theorem dX11_coinsAfter_46 : decode cX11_coinsAfter 46 = .ok (.iconst 0, 1) := by decide +kernel
theorem dX11_coinsAfter_47 : decode cX11_coinsAfter 47 = .ok (.invokestatic 162, 3) := by decide +kernel
theorem dX11_coinsAfter_50 : decode cX11_coinsAfter 50 = .ok (.iconst 0, 1) := by decide +kernel
theorem dX11_coinsAfter_51 : decode cX11_coinsAfter 51 = .ok (.istore_n 3, 1) := by decide +kernel
theorem dX11_coinsAfter_52 : decode cX11_coinsAfter 52 = .ok (.iload_n 3, 1) := by decide +kernel
theorem dX11_coinsAfter_53 : decode cX11_coinsAfter 53 = .ok (.iload_n 2, 1) := by decide +kernel
theorem dX11_coinsAfter_54 : decode cX11_coinsAfter 54 = .ok (.if_icmp .ge 17, 3) := by decide +kernel
theorem dX11_coinsAfter_57 : decode cX11_coinsAfter 57 = .ok (.aload_n 0, 1) := by decide +kernel
theorem dX11_coinsAfter_58 : decode cX11_coinsAfter 58 = .ok (.getfield 19, 3) := by decide +kernel
theorem dX11_coinsAfter_61 : decode cX11_coinsAfter 61 = .ok (.invokestatic 226, 3) := by decide +kernel
theorem dX11_coinsAfter_64 : decode cX11_coinsAfter 64 = .ok (.pop, 1) := by decide +kernel
theorem dX11_coinsAfter_65 : decode cX11_coinsAfter 65 = .ok (.iinc 3 1, 3) := by decide +kernel
theorem dX11_coinsAfter_68 : decode cX11_coinsAfter 68 = .ok (.goto (-16), 3) := by decide +kernel
theorem dX11_coinsAfter_71 : decode cX11_coinsAfter 71 = .ok (.aload_n 0, 1) := by decide +kernel
theorem dX11_coinsAfter_72 : decode cX11_coinsAfter 72 = .ok (.getfield 19, 3) := by decide +kernel
theorem dX11_coinsAfter_75 : decode cX11_coinsAfter 75 = .ok (.iload_n 1, 1) := by decide +kernel
theorem dX11_coinsAfter_76 : decode cX11_coinsAfter 76 = .ok (.invokestatic 50, 3) := by decide +kernel
theorem dX11_coinsAfter_79 : decode cX11_coinsAfter 79 = .ok (.iaload, 1) := by decide +kernel
theorem dX11_coinsAfter_80 : decode cX11_coinsAfter 80 = .ok (.ireturn, 1) := by decide +kernel
theorem dX11_bankruptAfter_0 : decode cX11_bankruptAfter 0 = .ok (.aload_n 0, 1) := by decide +kernel
theorem dX11_bankruptAfter_1 : decode cX11_bankruptAfter 1 = .ok (.iload_n 1, 1) := by decide +kernel
theorem dX11_bankruptAfter_2 : decode cX11_bankruptAfter 2 = .ok (.invokestatic 175, 3) := by decide +kernel
theorem dX11_bankruptAfter_5 : decode cX11_bankruptAfter 5 = .ok (.ifCond .eq 7, 3) := by decide +kernel
theorem dX11_bankruptAfter_8 : decode cX11_bankruptAfter 8 = .ok (.iconst 0, 1) := by decide +kernel
theorem dX11_bankruptAfter_9 : decode cX11_bankruptAfter 9 = .ok (.goto 4, 3) := by decide +kernel
theorem dX11_bankruptAfter_12 : decode cX11_bankruptAfter 12 = .ok (.iconst 1, 1) := by decide +kernel
theorem dX11_bankruptAfter_13 : decode cX11_bankruptAfter 13 = .ok (.invokevirtual 134, 3) := by decide +kernel
theorem dX11_bankruptAfter_16 : decode cX11_bankruptAfter 16 = .ok (.ifCond .eq 5, 3) := by decide +kernel
theorem dX11_bankruptAfter_19 : decode cX11_bankruptAfter 19 = .ok (.iconst 0, 1) := by decide +kernel
theorem dX11_bankruptAfter_20 : decode cX11_bankruptAfter 20 = .ok (.ireturn, 1) := by decide +kernel
theorem dX11_bankruptAfter_21 : decode cX11_bankruptAfter 21 = .ok (.aload_n 0, 1) := by decide +kernel
theorem dX11_bankruptAfter_22 : decode cX11_bankruptAfter 22 = .ok (.getfield 16, 3) := by decide +kernel
theorem dX11_bankruptAfter_25 : decode cX11_bankruptAfter 25 = .ok (.iconst 0, 1) := by decide +kernel
theorem dX11_bankruptAfter_26 : decode cX11_bankruptAfter 26 = .ok (.aload_n 0, 1) := by decide +kernel
theorem dX11_bankruptAfter_27 : decode cX11_bankruptAfter 27 = .ok (.getfield 19, 3) := by decide +kernel
theorem dX11_bankruptAfter_30 : decode cX11_bankruptAfter 30 = .ok (.iconst 0, 1) := by decide +kernel
theorem dX11_bankruptAfter_31 : decode cX11_bankruptAfter 31 = .ok (.invokestatic 162, 3) := by decide +kernel
theorem dX11_bankruptAfter_34 : decode cX11_bankruptAfter 34 = .ok (.iconst 1, 1) := by decide +kernel
theorem dX11_bankruptAfter_35 : decode cX11_bankruptAfter 35 = .ok (.istore_n 2, 1) := by decide +kernel
theorem dX11_bankruptAfter_36 : decode cX11_bankruptAfter 36 = .ok (.iload_n 2, 1) := by decide +kernel
theorem dX11_bankruptAfter_37 : decode cX11_bankruptAfter 37 = .ok (.bipush 50, 2) := by decide +kernel
theorem dX11_bankruptAfter_39 : decode cX11_bankruptAfter 39 = .ok (.if_icmp .gt 26, 3) := by decide +kernel
theorem dX11_bankruptAfter_42 : decode cX11_bankruptAfter 42 = .ok (.aload_n 0, 1) := by decide +kernel
theorem dX11_bankruptAfter_43 : decode cX11_bankruptAfter 43 = .ok (.getfield 19, 3) := by decide +kernel
theorem dX11_bankruptAfter_46 : decode cX11_bankruptAfter 46 = .ok (.invokestatic 226, 3) := by decide +kernel
theorem dX11_bankruptAfter_49 : decode cX11_bankruptAfter 49 = .ok (.iload_n 1, 1) := by decide +kernel
theorem dX11_bankruptAfter_50 : decode cX11_bankruptAfter 50 = .ok (.ishr, 1) := by decide +kernel
theorem dX11_bankruptAfter_51 : decode cX11_bankruptAfter 51 = .ok (.iconst 1, 1) := by decide +kernel
theorem dX11_bankruptAfter_52 : decode cX11_bankruptAfter 52 = .ok (.iand, 1) := by decide +kernel
theorem dX11_bankruptAfter_53 : decode cX11_bankruptAfter 53 = .ok (.iconst 1, 1) := by decide +kernel
theorem dX11_bankruptAfter_54 : decode cX11_bankruptAfter 54 = .ok (.if_icmp .ne 5, 3) := by decide +kernel
theorem dX11_bankruptAfter_57 : decode cX11_bankruptAfter 57 = .ok (.iload_n 2, 1) := by decide +kernel
theorem dX11_bankruptAfter_58 : decode cX11_bankruptAfter 58 = .ok (.ireturn, 1) := by decide +kernel
theorem dX11_bankruptAfter_59 : decode cX11_bankruptAfter 59 = .ok (.iinc 2 1, 3) := by decide +kernel
theorem dX11_bankruptAfter_62 : decode cX11_bankruptAfter 62 = .ok (.goto (-26), 3) := by decide +kernel
theorem dX11_bankruptAfter_65 : decode cX11_bankruptAfter 65 = .ok (.bipush (-9), 2) := by decide +kernel
theorem dX11_bankruptAfter_67 : decode cX11_bankruptAfter 67 = .ok (.ireturn, 1) := by decide +kernel
theorem dX11_worth_0 : decode cX11_worth 0 = .ok (.aload_n 0, 1) := by decide +kernel
theorem dX11_worth_1 : decode cX11_worth 1 = .ok (.iload_n 1, 1) := by decide +kernel
theorem dX11_worth_2 : decode cX11_worth 2 = .ok (.invokestatic 175, 3) := by decide +kernel
theorem dX11_worth_5 : decode cX11_worth 5 = .ok (.ifCond .eq 7, 3) := by decide +kernel
theorem dX11_worth_8 : decode cX11_worth 8 = .ok (.iconst 0, 1) := by decide +kernel
theorem dX11_worth_9 : decode cX11_worth 9 = .ok (.goto 4, 3) := by decide +kernel
theorem dX11_worth_12 : decode cX11_worth 12 = .ok (.iconst 1, 1) := by decide +kernel
theorem dX11_worth_13 : decode cX11_worth 13 = .ok (.invokevirtual 134, 3) := by decide +kernel
theorem dX11_worth_16 : decode cX11_worth 16 = .ok (.ifCond .eq 7, 3) := by decide +kernel
theorem dX11_worth_19 : decode cX11_worth 19 = .ok (.iconst 0, 1) := by decide +kernel
theorem dX11_worth_20 : decode cX11_worth 20 = .ok (.goto 11, 3) := by decide +kernel
theorem dX11_worth_23 : decode cX11_worth 23 = .ok (.aload_n 0, 1) := by decide +kernel
theorem dX11_worth_24 : decode cX11_worth 24 = .ok (.getfield 16, 3) := by decide +kernel
theorem dX11_worth_27 : decode cX11_worth 27 = .ok (.iload_n 1, 1) := by decide +kernel
theorem dX11_worth_28 : decode cX11_worth 28 = .ok (.invokestatic 234, 3) := by decide +kernel
theorem dX11_worth_31 : decode cX11_worth 31 = .ok (.ireturn, 1) := by decide +kernel
theorem dX11_does_0 : decode cX11_does 0 = .ok (.iload_n 3, 1) := by decide +kernel
theorem dX11_does_1 : decode cX11_does 1 = .ok (.bipush 100, 2) := by decide +kernel
theorem dX11_does_3 : decode cX11_does 3 = .ok (.if_icmp .ge 7, 3) := by decide +kernel
theorem dX11_does_6 : decode cX11_does 6 = .ok (.iconst 1, 1) := by decide +kernel
theorem dX11_does_7 : decode cX11_does 7 = .ok (.goto 4, 3) := by decide +kernel
theorem dX11_does_10 : decode cX11_does 10 = .ok (.iconst 0, 1) := by decide +kernel
theorem dX11_does_11 : decode cX11_does 11 = .ok (.istore 4, 2) := by decide +kernel
theorem dX11_does_13 : decode cX11_does 13 = .ok (.iload_n 2, 1) := by decide +kernel
theorem dX11_does_14 : decode cX11_does 14 = .ok (.invokestatic 175, 3) := by decide +kernel
theorem dX11_does_17 : decode cX11_does 17 = .ok (.istore 5, 2) := by decide +kernel
theorem dX11_does_19 : decode cX11_does 19 = .ok (.iload_n 1, 1) := by decide +kernel
theorem dX11_does_20 : decode cX11_does 20 = .ok (.tableswitch 371 1 9 #[52, 99, 146, 173, 218, 268, 292, 316, 342], 52) := by decide +kernel
theorem dX11_does_72 : decode cX11_does 72 = .ok (.iload 5, 2) := by decide +kernel
theorem dX11_does_74 : decode cX11_does 74 = .ok (.ifCond .eq 31, 3) := by decide +kernel
theorem dX11_does_77 : decode cX11_does 77 = .ok (.iload 4, 2) := by decide +kernel
theorem dX11_does_79 : decode cX11_does 79 = .ok (.ifCond .eq 26, 3) := by decide +kernel
theorem dX11_does_82 : decode cX11_does 82 = .ok (.aload_n 0, 1) := by decide +kernel
theorem dX11_does_83 : decode cX11_does 83 = .ok (.getfield 19, 3) := by decide +kernel
theorem dX11_does_86 : decode cX11_does 86 = .ok (.iload_n 3, 1) := by decide +kernel
theorem dX11_does_87 : decode cX11_does 87 = .ok (.invokestatic 171, 3) := by decide +kernel
theorem dX11_does_90 : decode cX11_does 90 = .ok (.ifCond .eq 15, 3) := by decide +kernel
theorem dX11_does_93 : decode cX11_does 93 = .ok (.aload_n 0, 1) := by decide +kernel
theorem dX11_does_94 : decode cX11_does 94 = .ok (.getfield 19, 3) := by decide +kernel
theorem dX11_does_97 : decode cX11_does 97 = .ok (.iload_n 2, 1) := by decide +kernel
theorem dX11_does_98 : decode cX11_does 98 = .ok (.iload_n 3, 1) := by decide +kernel
theorem dX11_does_99 : decode cX11_does 99 = .ok (.invokestatic 189, 3) := by decide +kernel
theorem dX11_does_102 : decode cX11_does 102 = .ok (.ifCond .ne 5, 3) := by decide +kernel
theorem dX11_does_105 : decode cX11_does 105 = .ok (.iconst 0, 1) := by decide +kernel
theorem dX11_does_106 : decode cX11_does 106 = .ok (.ireturn, 1) := by decide +kernel
theorem dX11_does_107 : decode cX11_does 107 = .ok (.aload_n 0, 1) := by decide +kernel
theorem dX11_does_108 : decode cX11_does 108 = .ok (.getfield 19, 3) := by decide +kernel
theorem dX11_does_111 : decode cX11_does 111 = .ok (.iload_n 2, 1) := by decide +kernel
theorem dX11_does_112 : decode cX11_does 112 = .ok (.iload_n 3, 1) := by decide +kernel
theorem dX11_does_113 : decode cX11_does 113 = .ok (.invokestatic 195, 3) := by decide +kernel
theorem dX11_does_116 : decode cX11_does 116 = .ok (.pop, 1) := by decide +kernel
theorem dX11_does_117 : decode cX11_does 117 = .ok (.iconst 1, 1) := by decide +kernel
theorem dX11_does_118 : decode cX11_does 118 = .ok (.ireturn, 1) := by decide +kernel
theorem dX11_does_119 : decode cX11_does 119 = .ok (.iload 5, 2) := by decide +kernel
theorem dX11_does_121 : decode cX11_does 121 = .ok (.ifCond .eq 43, 3) := by decide +kernel
theorem dX11_does_124 : decode cX11_does 124 = .ok (.iload_n 3, 1) := by decide +kernel
theorem dX11_does_125 : decode cX11_does 125 = .ok (.i2l, 1) := by decide +kernel
theorem dX11_does_126 : decode cX11_does 126 = .ok (.lconst 1, 1) := by decide +kernel
theorem dX11_does_127 : decode cX11_does 127 = .ok (.ldc2_w 178, 3) := by decide +kernel
theorem dX11_does_130 : decode cX11_does 130 = .ok (.invokestatic 62, 3) := by decide +kernel
theorem dX11_does_133 : decode cX11_does 133 = .ok (.ifCond .eq 31, 3) := by decide +kernel
theorem dX11_does_136 : decode cX11_does 136 = .ok (.aload_n 0, 1) := by decide +kernel
theorem dX11_does_137 : decode cX11_does 137 = .ok (.getfield 19, 3) := by decide +kernel
theorem dX11_does_140 : decode cX11_does 140 = .ok (.iload_n 2, 1) := by decide +kernel
theorem dX11_does_141 : decode cX11_does 141 = .ok (.iload_n 3, 1) := by decide +kernel
theorem dX11_does_142 : decode cX11_does 142 = .ok (.invokestatic 198, 3) := by decide +kernel
theorem dX11_does_145 : decode cX11_does 145 = .ok (.ifCond .eq 19, 3) := by decide +kernel
theorem dX11_does_148 : decode cX11_does 148 = .ok (.aload_n 0, 1) := by decide +kernel
theorem dX11_does_149 : decode cX11_does 149 = .ok (.getfield 19, 3) := by decide +kernel
theorem dX11_does_152 : decode cX11_does 152 = .ok (.iload_n 2, 1) := by decide +kernel
theorem dX11_does_153 : decode cX11_does 153 = .ok (.iload_n 3, 1) := by decide +kernel
theorem dX11_does_154 : decode cX11_does 154 = .ok (.invokestatic 201, 3) := by decide +kernel
theorem dX11_does_157 : decode cX11_does 157 = .ok (.ifCond .lt 7, 3) := by decide +kernel
theorem dX11_does_160 : decode cX11_does 160 = .ok (.iconst 1, 1) := by decide +kernel
theorem dX11_does_161 : decode cX11_does 161 = .ok (.goto 4, 3) := by decide +kernel
theorem dX11_does_164 : decode cX11_does 164 = .ok (.iconst 0, 1) := by decide +kernel
theorem dX11_does_165 : decode cX11_does 165 = .ok (.ireturn, 1) := by decide +kernel
theorem dX11_does_166 : decode cX11_does 166 = .ok (.iload 5, 2) := by decide +kernel
theorem dX11_does_168 : decode cX11_does 168 = .ok (.ifCond .eq 9, 3) := by decide +kernel
theorem dX11_does_171 : decode cX11_does 171 = .ok (.iload_n 3, 1) := by decide +kernel
theorem dX11_does_172 : decode cX11_does 172 = .ok (.bipush 9, 2) := by decide +kernel
theorem dX11_does_174 : decode cX11_does 174 = .ok (.if_icmp .le 5, 3) := by decide +kernel
theorem dX11_does_177 : decode cX11_does 177 = .ok (.iconst 0, 1) := by decide +kernel
theorem dX11_does_178 : decode cX11_does 178 = .ok (.ireturn, 1) := by decide +kernel
theorem dX11_does_179 : decode cX11_does 179 = .ok (.aload_n 0, 1) := by decide +kernel
theorem dX11_does_180 : decode cX11_does 180 = .ok (.getfield 19, 3) := by decide +kernel
theorem dX11_does_183 : decode cX11_does 183 = .ok (.iload_n 2, 1) := by decide +kernel
theorem dX11_does_184 : decode cX11_does 184 = .ok (.invokestatic 50, 3) := by decide +kernel
theorem dX11_does_187 : decode cX11_does 187 = .ok (.iconst 1, 1) := by decide +kernel
theorem dX11_does_188 : decode cX11_does 188 = .ok (.iadd, 1) := by decide +kernel
theorem dX11_does_189 : decode cX11_does 189 = .ok (.iload_n 3, 1) := by decide +kernel
theorem dX11_does_190 : decode cX11_does 190 = .ok (.iastore, 1) := by decide +kernel
theorem dX11_does_191 : decode cX11_does 191 = .ok (.iconst 1, 1) := by decide +kernel
theorem dX11_does_192 : decode cX11_does 192 = .ok (.ireturn, 1) := by decide +kernel
theorem dX11_does_193 : decode cX11_does 193 = .ok (.iload 5, 2) := by decide +kernel
theorem dX11_does_195 : decode cX11_does 195 = .ok (.ifCond .eq 41, 3) := by decide +kernel
theorem dX11_does_198 : decode cX11_does 198 = .ok (.aload_n 0, 1) := by decide +kernel
theorem dX11_does_199 : decode cX11_does 199 = .ok (.getfield 19, 3) := by decide +kernel
theorem dX11_does_202 : decode cX11_does 202 = .ok (.iload_n 3, 1) := by decide +kernel
theorem dX11_does_203 : decode cX11_does 203 = .ok (.invokestatic 184, 3) := by decide +kernel
theorem dX11_does_206 : decode cX11_does 206 = .ok (.ifCond .eq 30, 3) := by decide +kernel
theorem dX11_does_209 : decode cX11_does 209 = .ok (.aload_n 0, 1) := by decide +kernel
theorem dX11_does_210 : decode cX11_does 210 = .ok (.getfield 19, 3) := by decide +kernel
theorem dX11_does_213 : decode cX11_does 213 = .ok (.iload_n 3, 1) := by decide +kernel
theorem dX11_does_214 : decode cX11_does 214 = .ok (.invokestatic 211, 3) := by decide +kernel
theorem dX11_does_217 : decode cX11_does 217 = .ok (.ifCond .eq 19, 3) := by decide +kernel
theorem dX11_does_220 : decode cX11_does 220 = .ok (.aload_n 0, 1) := by decide +kernel
theorem dX11_does_221 : decode cX11_does 221 = .ok (.getfield 19, 3) := by decide +kernel
theorem dX11_does_224 : decode cX11_does 224 = .ok (.iload_n 2, 1) := by decide +kernel
theorem dX11_does_225 : decode cX11_does 225 = .ok (.iload_n 3, 1) := by decide +kernel
theorem dX11_does_226 : decode cX11_does 226 = .ok (.invokestatic 214, 3) := by decide +kernel
theorem dX11_does_229 : decode cX11_does 229 = .ok (.ifCond .le 7, 3) := by decide +kernel
theorem dX11_does_232 : decode cX11_does 232 = .ok (.iconst 1, 1) := by decide +kernel
theorem dX11_does_233 : decode cX11_does 233 = .ok (.goto 4, 3) := by decide +kernel
theorem dX11_does_236 : decode cX11_does 236 = .ok (.iconst 0, 1) := by decide +kernel
theorem dX11_does_237 : decode cX11_does 237 = .ok (.ireturn, 1) := by decide +kernel
theorem dX11_does_238 : decode cX11_does 238 = .ok (.iload_n 3, 1) := by decide +kernel
theorem dX11_does_239 : decode cX11_does 239 = .ok (.bipush 10, 2) := by decide +kernel
theorem dX11_does_241 : decode cX11_does 241 = .ok (.if_icmp .ge 45, 3) := by decide +kernel
theorem dX11_does_244 : decode cX11_does 244 = .ok (.aload_n 0, 1) := by decide +kernel
theorem dX11_does_245 : decode cX11_does 245 = .ok (.getfield 19, 3) := by decide +kernel
theorem dX11_does_248 : decode cX11_does 248 = .ok (.iload_n 2, 1) := by decide +kernel
theorem dX11_does_249 : decode cX11_does 249 = .ok (.iload_n 3, 1) := by decide +kernel
theorem dX11_does_250 : decode cX11_does 250 = .ok (.invokestatic 217, 3) := by decide +kernel
theorem dX11_does_253 : decode cX11_does 253 = .ok (.ifCond .eq 33, 3) := by decide +kernel
theorem dX11_does_256 : decode cX11_does 256 = .ok (.aload_n 0, 1) := by decide +kernel
theorem dX11_does_257 : decode cX11_does 257 = .ok (.aload_n 0, 1) := by decide +kernel
theorem dX11_does_258 : decode cX11_does 258 = .ok (.getfield 19, 3) := by decide +kernel
theorem dX11_does_261 : decode cX11_does 261 = .ok (.iload_n 2, 1) := by decide +kernel
theorem dX11_does_262 : decode cX11_does 262 = .ok (.iload_n 3, 1) := by decide +kernel
theorem dX11_does_263 : decode cX11_does 263 = .ok (.invokevirtual 220, 3) := by decide +kernel
theorem dX11_does_266 : decode cX11_does 266 = .ok (.ifCond .ne 20, 3) := by decide +kernel
theorem dX11_does_269 : decode cX11_does 269 = .ok (.aload_n 0, 1) := by decide +kernel
theorem dX11_does_270 : decode cX11_does 270 = .ok (.aload_n 0, 1) := by decide +kernel
theorem dX11_does_271 : decode cX11_does 271 = .ok (.getfield 19, 3) := by decide +kernel
theorem dX11_does_274 : decode cX11_does 274 = .ok (.iload_n 2, 1) := by decide +kernel
theorem dX11_does_275 : decode cX11_does 275 = .ok (.iload_n 3, 1) := by decide +kernel
theorem dX11_does_276 : decode cX11_does 276 = .ok (.invokevirtual 223, 3) := by decide +kernel
theorem dX11_does_279 : decode cX11_does 279 = .ok (.ifCond .lt 7, 3) := by decide +kernel
theorem dX11_does_282 : decode cX11_does 282 = .ok (.iconst 1, 1) := by decide +kernel
theorem dX11_does_283 : decode cX11_does 283 = .ok (.goto 4, 3) := by decide +kernel
theorem dX11_does_286 : decode cX11_does 286 = .ok (.iconst 0, 1) := by decide +kernel
theorem dX11_does_287 : decode cX11_does 287 = .ok (.ireturn, 1) := by decide +kernel
theorem dX11_does_288 : decode cX11_does 288 = .ok (.iload_n 2, 1) := by decide +kernel
theorem dX11_does_289 : decode cX11_does 289 = .ok (.ifCond .ne 21, 3) := by decide +kernel
theorem dX11_does_292 : decode cX11_does 292 = .ok (.iload_n 3, 1) := by decide +kernel
theorem dX11_does_293 : decode cX11_does 293 = .ok (.ifCond .ne 17, 3) := by decide +kernel
theorem dX11_does_296 : decode cX11_does 296 = .ok (.aload_n 0, 1) := by decide +kernel
theorem dX11_does_297 : decode cX11_does 297 = .ok (.getfield 19, 3) := by decide +kernel
theorem dX11_does_300 : decode cX11_does 300 = .ok (.invokestatic 226, 3) := by decide +kernel
theorem dX11_does_303 : decode cX11_does 303 = .ok (.ifCond .lt 7, 3) := by decide +kernel
theorem dX11_does_306 : decode cX11_does 306 = .ok (.iconst 1, 1) := by decide +kernel
theorem dX11_does_307 : decode cX11_does 307 = .ok (.goto 4, 3) := by decide +kernel
theorem dX11_does_310 : decode cX11_does 310 = .ok (.iconst 0, 1) := by decide +kernel
theorem dX11_does_311 : decode cX11_does 311 = .ok (.ireturn, 1) := by decide +kernel
theorem dX11_does_312 : decode cX11_does 312 = .ok (.iload 5, 2) := by decide +kernel
theorem dX11_does_314 : decode cX11_does 314 = .ok (.ifCond .eq 20, 3) := by decide +kernel
theorem dX11_does_317 : decode cX11_does 317 = .ok (.aload_n 0, 1) := by decide +kernel
theorem dX11_does_318 : decode cX11_does 318 = .ok (.getfield 19, 3) := by decide +kernel
theorem dX11_does_321 : decode cX11_does 321 = .ok (.iload_n 2, 1) := by decide +kernel
theorem dX11_does_322 : decode cX11_does 322 = .ok (.invokestatic 50, 3) := by decide +kernel
theorem dX11_does_325 : decode cX11_does 325 = .ok (.iaload, 1) := by decide +kernel
theorem dX11_does_326 : decode cX11_does 326 = .ok (.iload_n 3, 1) := by decide +kernel
theorem dX11_does_327 : decode cX11_does 327 = .ok (.if_icmp .lt 7, 3) := by decide +kernel
theorem dX11_does_330 : decode cX11_does 330 = .ok (.iconst 1, 1) := by decide +kernel
theorem dX11_does_331 : decode cX11_does 331 = .ok (.goto 4, 3) := by decide +kernel
theorem dX11_does_334 : decode cX11_does 334 = .ok (.iconst 0, 1) := by decide +kernel
theorem dX11_does_335 : decode cX11_does 335 = .ok (.ireturn, 1) := by decide +kernel
theorem dX11_does_336 : decode cX11_does 336 = .ok (.iload_n 2, 1) := by decide +kernel
theorem dX11_does_337 : decode cX11_does 337 = .ok (.ifCond .ne 23, 3) := by decide +kernel
theorem dX11_does_340 : decode cX11_does 340 = .ok (.iload_n 3, 1) := by decide +kernel
theorem dX11_does_341 : decode cX11_does 341 = .ok (.bipush 10, 2) := by decide +kernel
theorem dX11_does_343 : decode cX11_does 343 = .ok (.if_icmp .ge 17, 3) := by decide +kernel
theorem dX11_does_346 : decode cX11_does 346 = .ok (.aload_n 0, 1) := by decide +kernel
theorem dX11_does_347 : decode cX11_does 347 = .ok (.getfield 19, 3) := by decide +kernel
theorem dX11_does_350 : decode cX11_does 350 = .ok (.iconst 3, 1) := by decide +kernel
theorem dX11_does_351 : decode cX11_does 351 = .ok (.iaload, 1) := by decide +kernel
theorem dX11_does_352 : decode cX11_does 352 = .ok (.iload_n 3, 1) := by decide +kernel
theorem dX11_does_353 : decode cX11_does 353 = .ok (.if_icmp .ne 7, 3) := by decide +kernel
theorem dX11_does_356 : decode cX11_does 356 = .ok (.iconst 1, 1) := by decide +kernel
theorem dX11_does_357 : decode cX11_does 357 = .ok (.goto 4, 3) := by decide +kernel
theorem dX11_does_360 : decode cX11_does 360 = .ok (.iconst 0, 1) := by decide +kernel
theorem dX11_does_361 : decode cX11_does 361 = .ok (.ireturn, 1) := by decide +kernel
theorem dX11_does_362 : decode cX11_does 362 = .ok (.iload 5, 2) := by decide +kernel
theorem dX11_does_364 : decode cX11_does 364 = .ok (.ifCond .eq 25, 3) := by decide +kernel
theorem dX11_does_367 : decode cX11_does 367 = .ok (.iload_n 3, 1) := by decide +kernel
theorem dX11_does_368 : decode cX11_does 368 = .ok (.bipush 10, 2) := by decide +kernel
theorem dX11_does_370 : decode cX11_does 370 = .ok (.if_icmp .ge 19, 3) := by decide +kernel
theorem dX11_does_373 : decode cX11_does 373 = .ok (.aload_n 0, 1) := by decide +kernel
theorem dX11_does_374 : decode cX11_does 374 = .ok (.getfield 19, 3) := by decide +kernel
theorem dX11_does_377 : decode cX11_does 377 = .ok (.iload_n 2, 1) := by decide +kernel
theorem dX11_does_378 : decode cX11_does 378 = .ok (.invokestatic 66, 3) := by decide +kernel
theorem dX11_does_381 : decode cX11_does 381 = .ok (.iload_n 3, 1) := by decide +kernel
theorem dX11_does_382 : decode cX11_does 382 = .ok (.if_icmp .ne 7, 3) := by decide +kernel
theorem dX11_does_385 : decode cX11_does 385 = .ok (.iconst 1, 1) := by decide +kernel
theorem dX11_does_386 : decode cX11_does 386 = .ok (.goto 4, 3) := by decide +kernel
theorem dX11_does_389 : decode cX11_does 389 = .ok (.iconst 0, 1) := by decide +kernel
theorem dX11_does_390 : decode cX11_does 390 = .ok (.ireturn, 1) := by decide +kernel
theorem dX11_does_391 : decode cX11_does 391 = .ok (.iconst 0, 1) := by decide +kernel
theorem dX11_does_392 : decode cX11_does 392 = .ok (.ireturn, 1) := by decide +kernel
theorem dX11_runScript_0 : decode cX11_runScript 0 = .ok (.iload_n 1, 1) := by decide +kernel
theorem dX11_runScript_1 : decode cX11_runScript 1 = .ok (.iconst 1, 1) := by decide +kernel
theorem dX11_runScript_2 : decode cX11_runScript 2 = .ok (.if_icmp .ne 9, 3) := by decide +kernel
theorem dX11_runScript_5 : decode cX11_runScript 5 = .ok (.ldc2_w 237, 3) := by decide +kernel
theorem dX11_runScript_8 : decode cX11_runScript 8 = .ok (.goto 17, 3) := by decide +kernel
theorem dX11_runScript_11 : decode cX11_runScript 11 = .ok (.iload_n 1, 1) := by decide +kernel
theorem dX11_runScript_12 : decode cX11_runScript 12 = .ok (.iconst 2, 1) := by decide +kernel
theorem dX11_runScript_13 : decode cX11_runScript 13 = .ok (.if_icmp .ne 9, 3) := by decide +kernel
theorem dX11_runScript_16 : decode cX11_runScript 16 = .ok (.ldc2_w 239, 3) := by decide +kernel
theorem dX11_runScript_19 : decode cX11_runScript 19 = .ok (.goto 6, 3) := by decide +kernel
theorem dX11_runScript_22 : decode cX11_runScript 22 = .ok (.ldc2_w 241, 3) := by decide +kernel
theorem dX11_runScript_25 : decode cX11_runScript 25 = .ok (.lstore 4, 2) := by decide +kernel
theorem dX11_runScript_27 : decode cX11_runScript 27 = .ok (.aload_n 0, 1) := by decide +kernel
theorem dX11_runScript_28 : decode cX11_runScript 28 = .ok (.iload_n 1, 1) := by decide +kernel
theorem dX11_runScript_29 : decode cX11_runScript 29 = .ok (.i2l, 1) := by decide +kernel
theorem dX11_runScript_30 : decode cX11_runScript 30 = .ok (.lconst 1, 1) := by decide +kernel
theorem dX11_runScript_31 : decode cX11_runScript 31 = .ok (.ldc2_w 60, 3) := by decide +kernel
theorem dX11_runScript_34 : decode cX11_runScript 34 = .ok (.invokestatic 62, 3) := by decide +kernel
theorem dX11_runScript_37 : decode cX11_runScript 37 = .ok (.ifCond .eq 19, 3) := by decide +kernel
theorem dX11_runScript_40 : decode cX11_runScript 40 = .ok (.lload_n 2, 1) := by decide +kernel
theorem dX11_runScript_41 : decode cX11_runScript 41 = .ok (.lconst 0, 1) := by decide +kernel
theorem dX11_runScript_42 : decode cX11_runScript 42 = .ok (.lload 4, 2) := by decide +kernel
theorem dX11_runScript_44 : decode cX11_runScript 44 = .ok (.lconst 1, 1) := by decide +kernel
theorem dX11_runScript_45 : decode cX11_runScript 45 = .ok (.lsub, 1) := by decide +kernel
theorem dX11_runScript_46 : decode cX11_runScript 46 = .ok (.invokestatic 62, 3) := by decide +kernel
theorem dX11_runScript_49 : decode cX11_runScript 49 = .ok (.ifCond .eq 7, 3) := by decide +kernel
theorem dX11_runScript_52 : decode cX11_runScript 52 = .ok (.iconst 0, 1) := by decide +kernel
theorem dX11_runScript_53 : decode cX11_runScript 53 = .ok (.goto 4, 3) := by decide +kernel
theorem dX11_runScript_56 : decode cX11_runScript 56 = .ok (.iconst 1, 1) := by decide +kernel
theorem dX11_runScript_57 : decode cX11_runScript 57 = .ok (.invokevirtual 134, 3) := by decide +kernel
theorem dX11_runScript_60 : decode cX11_runScript 60 = .ok (.ifCond .eq 5, 3) := by decide +kernel
theorem dX11_runScript_63 : decode cX11_runScript 63 = .ok (.iconst 0, 1) := by decide +kernel
theorem dX11_runScript_64 : decode cX11_runScript 64 = .ok (.ireturn, 1) := by decide +kernel
theorem dX11_runScript_65 : decode cX11_runScript 65 = .ok (.aload_n 0, 1) := by decide +kernel
theorem dX11_runScript_66 : decode cX11_runScript 66 = .ok (.getfield 16, 3) := by decide +kernel
theorem dX11_runScript_69 : decode cX11_runScript 69 = .ok (.iconst 0, 1) := by decide +kernel
theorem dX11_runScript_70 : decode cX11_runScript 70 = .ok (.aload_n 0, 1) := by decide +kernel
theorem dX11_runScript_71 : decode cX11_runScript 71 = .ok (.getfield 19, 3) := by decide +kernel
theorem dX11_runScript_74 : decode cX11_runScript 74 = .ok (.iconst 0, 1) := by decide +kernel
theorem dX11_runScript_75 : decode cX11_runScript 75 = .ok (.invokestatic 162, 3) := by decide +kernel
theorem dX11_runScript_78 : decode cX11_runScript 78 = .ok (.lload_n 2, 1) := by decide +kernel
theorem dX11_runScript_79 : decode cX11_runScript 79 = .ok (.lstore 6, 2) := by decide +kernel
theorem dX11_runScript_81 : decode cX11_runScript 81 = .ok (.iconst 0, 1) := by decide +kernel
theorem dX11_runScript_82 : decode cX11_runScript 82 = .ok (.istore 8, 2) := by decide +kernel
theorem dX11_runScript_84 : decode cX11_runScript 84 = .ok (.iload 8, 2) := by decide +kernel
theorem dX11_runScript_86 : decode cX11_runScript 86 = .ok (.iload_n 1, 1) := by decide +kernel
theorem dX11_runScript_87 : decode cX11_runScript 87 = .ok (.if_icmp .ge 63, 3) := by decide +kernel
theorem dX11_runScript_90 : decode cX11_runScript 90 = .ok (.lload 4, 2) := by decide +kernel
theorem dX11_runScript_92 : decode cX11_runScript 92 = .ok (.ldc2_w 237, 3) := by decide +kernel
theorem dX11_runScript_95 : decode cX11_runScript 95 = .ok (.ldiv, 1) := by decide +kernel
theorem dX11_runScript_96 : decode cX11_runScript 96 = .ok (.lstore 4, 2) := by decide +kernel
theorem dX11_runScript_98 : decode cX11_runScript 98 = .ok (.lload 6, 2) := by decide +kernel
theorem dX11_runScript_100 : decode cX11_runScript 100 = .ok (.lload 4, 2) := by decide +kernel
theorem dX11_runScript_102 : decode cX11_runScript 102 = .ok (.ldiv, 1) := by decide +kernel
theorem dX11_runScript_103 : decode cX11_runScript 103 = .ok (.l2i, 1) := by decide +kernel
theorem dX11_runScript_104 : decode cX11_runScript 104 = .ok (.istore 9, 2) := by decide +kernel
theorem dX11_runScript_106 : decode cX11_runScript 106 = .ok (.lload 6, 2) := by decide +kernel
theorem dX11_runScript_108 : decode cX11_runScript 108 = .ok (.lload 4, 2) := by decide +kernel
theorem dX11_runScript_110 : decode cX11_runScript 110 = .ok (.lrem, 1) := by decide +kernel
theorem dX11_runScript_111 : decode cX11_runScript 111 = .ok (.lstore 6, 2) := by decide +kernel
theorem dX11_runScript_113 : decode cX11_runScript 113 = .ok (.aload_n 0, 1) := by decide +kernel
theorem dX11_runScript_114 : decode cX11_runScript 114 = .ok (.iload 9, 2) := by decide +kernel
theorem dX11_runScript_116 : decode cX11_runScript 116 = .ok (.sipush 10000, 3) := by decide +kernel
theorem dX11_runScript_119 : decode cX11_runScript 119 = .ok (.idiv, 1) := by decide +kernel
theorem dX11_runScript_120 : decode cX11_runScript 120 = .ok (.iload 9, 2) := by decide +kernel
theorem dX11_runScript_122 : decode cX11_runScript 122 = .ok (.sipush 1000, 3) := by decide +kernel
theorem dX11_runScript_125 : decode cX11_runScript 125 = .ok (.idiv, 1) := by decide +kernel
theorem dX11_runScript_126 : decode cX11_runScript 126 = .ok (.bipush 10, 2) := by decide +kernel
theorem dX11_runScript_128 : decode cX11_runScript 128 = .ok (.irem, 1) := by decide +kernel
theorem dX11_runScript_129 : decode cX11_runScript 129 = .ok (.iload 9, 2) := by decide +kernel
theorem dX11_runScript_131 : decode cX11_runScript 131 = .ok (.sipush 1000, 3) := by decide +kernel
theorem dX11_runScript_134 : decode cX11_runScript 134 = .ok (.irem, 1) := by decide +kernel
theorem dX11_runScript_135 : decode cX11_runScript 135 = .ok (.invokevirtual 243, 3) := by decide +kernel
theorem dX11_runScript_138 : decode cX11_runScript 138 = .ok (.ifCond .ne 6, 3) := by decide +kernel
theorem dX11_runScript_141 : decode cX11_runScript 141 = .ok (.iload 8, 2) := by decide +kernel
theorem dX11_runScript_143 : decode cX11_runScript 143 = .ok (.ireturn, 1) := by decide +kernel
theorem dX11_runScript_144 : decode cX11_runScript 144 = .ok (.iinc 8 1, 3) := by decide +kernel
theorem dX11_runScript_147 : decode cX11_runScript 147 = .ok (.goto (-63), 3) := by decide +kernel
theorem dX11_runScript_150 : decode cX11_runScript 150 = .ok (.bipush (-9), 2) := by decide +kernel
theorem dX11_runScript_152 : decode cX11_runScript 152 = .ok (.ireturn, 1) := by decide +kernel
theorem dX11_runAll_0 : decode cX11_runAll 0 = .ok (.iconst 0, 1) := by decide +kernel
theorem dX11_runAll_1 : decode cX11_runAll 1 = .ok (.istore_n 2, 1) := by decide +kernel
theorem dX11_runAll_2 : decode cX11_runAll 2 = .ok (.iload_n 2, 1) := by decide +kernel
theorem dX11_runAll_3 : decode cX11_runAll 3 = .ok (.aload_n 1, 1) := by decide +kernel
theorem dX11_runAll_4 : decode cX11_runAll 4 = .ok (.iconst 2, 1) := by decide +kernel
theorem dX11_runAll_5 : decode cX11_runAll 5 = .ok (.iaload, 1) := by decide +kernel
theorem dX11_runAll_6 : decode cX11_runAll 6 = .ok (.if_icmp .ge 82, 3) := by decide +kernel
theorem dX11_runAll_9 : decode cX11_runAll 9 = .ok (.aload_n 1, 1) := by decide +kernel
theorem dX11_runAll_10 : decode cX11_runAll 10 = .ok (.iload_n 2, 1) := by decide +kernel
theorem dX11_runAll_11 : decode cX11_runAll 11 = .ok (.invokestatic 57, 3) := by decide +kernel
theorem dX11_runAll_14 : decode cX11_runAll 14 = .ok (.iconst 4, 1) := by decide +kernel
theorem dX11_runAll_15 : decode cX11_runAll 15 = .ok (.iadd, 1) := by decide +kernel
theorem dX11_runAll_16 : decode cX11_runAll 16 = .ok (.iaload, 1) := by decide +kernel
theorem dX11_runAll_17 : decode cX11_runAll 17 = .ok (.istore_n 3, 1) := by decide +kernel
theorem dX11_runAll_18 : decode cX11_runAll 18 = .ok (.iload_n 3, 1) := by decide +kernel
theorem dX11_runAll_19 : decode cX11_runAll 19 = .ok (.bipush (-9), 2) := by decide +kernel
theorem dX11_runAll_21 : decode cX11_runAll 21 = .ok (.if_icmp .ne 7, 3) := by decide +kernel
theorem dX11_runAll_24 : decode cX11_runAll 24 = .ok (.iconst 0, 1) := by decide +kernel
theorem dX11_runAll_25 : decode cX11_runAll 25 = .ok (.goto 8, 3) := by decide +kernel
theorem dX11_runAll_28 : decode cX11_runAll 28 = .ok (.aload_n 1, 1) := by decide +kernel
theorem dX11_runAll_29 : decode cX11_runAll 29 = .ok (.iload_n 3, 1) := by decide +kernel
theorem dX11_runAll_30 : decode cX11_runAll 30 = .ok (.invokestatic 66, 3) := by decide +kernel
theorem dX11_runAll_33 : decode cX11_runAll 33 = .ok (.istore 4, 2) := by decide +kernel
theorem dX11_runAll_35 : decode cX11_runAll 35 = .ok (.iconst 0, 1) := by decide +kernel
theorem dX11_runAll_36 : decode cX11_runAll 36 = .ok (.istore 5, 2) := by decide +kernel
theorem dX11_runAll_38 : decode cX11_runAll 38 = .ok (.iconst 0, 1) := by decide +kernel
theorem dX11_runAll_39 : decode cX11_runAll 39 = .ok (.istore 6, 2) := by decide +kernel
theorem dX11_runAll_41 : decode cX11_runAll 41 = .ok (.iload 6, 2) := by decide +kernel
theorem dX11_runAll_43 : decode cX11_runAll 43 = .ok (.iload 4, 2) := by decide +kernel
theorem dX11_runAll_45 : decode cX11_runAll 45 = .ok (.if_icmp .ge 37, 3) := by decide +kernel
theorem dX11_runAll_48 : decode cX11_runAll 48 = .ok (.iload 5, 2) := by decide +kernel
theorem dX11_runAll_50 : decode cX11_runAll 50 = .ok (.ifCond .ne 32, 3) := by decide +kernel
theorem dX11_runAll_53 : decode cX11_runAll 53 = .ok (.aload_n 0, 1) := by decide +kernel
theorem dX11_runAll_54 : decode cX11_runAll 54 = .ok (.aload_n 1, 1) := by decide +kernel
theorem dX11_runAll_55 : decode cX11_runAll 55 = .ok (.iload_n 2, 1) := by decide +kernel
theorem dX11_runAll_56 : decode cX11_runAll 56 = .ok (.iload 6, 2) := by decide +kernel
theorem dX11_runAll_58 : decode cX11_runAll 58 = .ok (.invokevirtual 220, 3) := by decide +kernel
theorem dX11_runAll_61 : decode cX11_runAll 61 = .ok (.ifCond .ne 15, 3) := by decide +kernel
theorem dX11_runAll_64 : decode cX11_runAll 64 = .ok (.aload_n 0, 1) := by decide +kernel
theorem dX11_runAll_65 : decode cX11_runAll 65 = .ok (.aload_n 1, 1) := by decide +kernel
theorem dX11_runAll_66 : decode cX11_runAll 66 = .ok (.iload_n 2, 1) := by decide +kernel
theorem dX11_runAll_67 : decode cX11_runAll 67 = .ok (.iload 6, 2) := by decide +kernel
theorem dX11_runAll_69 : decode cX11_runAll 69 = .ok (.invokevirtual 223, 3) := by decide +kernel
theorem dX11_runAll_72 : decode cX11_runAll 72 = .ok (.pop, 1) := by decide +kernel
theorem dX11_runAll_73 : decode cX11_runAll 73 = .ok (.iconst 1, 1) := by decide +kernel
theorem dX11_runAll_74 : decode cX11_runAll 74 = .ok (.istore 5, 2) := by decide +kernel
theorem dX11_runAll_76 : decode cX11_runAll 76 = .ok (.iinc 6 1, 3) := by decide +kernel
theorem dX11_runAll_79 : decode cX11_runAll 79 = .ok (.goto (-38), 3) := by decide +kernel
theorem dX11_runAll_82 : decode cX11_runAll 82 = .ok (.iinc 2 1, 3) := by decide +kernel
theorem dX11_runAll_85 : decode cX11_runAll 85 = .ok (.goto (-83), 3) := by decide +kernel
theorem dX11_runAll_88 : decode cX11_runAll 88 = .ok (.return_, 1) := by decide +kernel
theorem dX11_simulate_0 : decode cX11_simulate 0 = .ok (.aload_n 0, 1) := by decide +kernel
theorem dX11_simulate_1 : decode cX11_simulate 1 = .ok (.iload_n 3, 1) := by decide +kernel
theorem dX11_simulate_2 : decode cX11_simulate 2 = .ok (.i2l, 1) := by decide +kernel
theorem dX11_simulate_3 : decode cX11_simulate 3 = .ok (.lconst 1, 1) := by decide +kernel
theorem dX11_simulate_4 : decode cX11_simulate 4 = .ok (.ldc2_w 232, 3) := by decide +kernel
theorem dX11_simulate_7 : decode cX11_simulate 7 = .ok (.invokestatic 62, 3) := by decide +kernel
theorem dX11_simulate_10 : decode cX11_simulate 10 = .ok (.ifCond .eq 7, 3) := by decide +kernel
theorem dX11_simulate_13 : decode cX11_simulate 13 = .ok (.iconst 0, 1) := by decide +kernel
theorem dX11_simulate_14 : decode cX11_simulate 14 = .ok (.goto 4, 3) := by decide +kernel
theorem dX11_simulate_17 : decode cX11_simulate 17 = .ok (.iconst 1, 1) := by decide +kernel
theorem dX11_simulate_18 : decode cX11_simulate 18 = .ok (.invokevirtual 134, 3) := by decide +kernel
theorem dX11_simulate_21 : decode cX11_simulate 21 = .ok (.ifCond .eq 5, 3) := by decide +kernel
theorem dX11_simulate_24 : decode cX11_simulate 24 = .ok (.iconst 0, 1) := by decide +kernel
theorem dX11_simulate_25 : decode cX11_simulate 25 = .ok (.ireturn, 1) := by decide +kernel
theorem dX11_simulate_26 : decode cX11_simulate 26 = .ok (.aload_n 0, 1) := by decide +kernel
theorem dX11_simulate_27 : decode cX11_simulate 27 = .ok (.getfield 16, 3) := by decide +kernel
theorem dX11_simulate_30 : decode cX11_simulate 30 = .ok (.iconst 0, 1) := by decide +kernel
theorem dX11_simulate_31 : decode cX11_simulate 31 = .ok (.aload_n 0, 1) := by decide +kernel
theorem dX11_simulate_32 : decode cX11_simulate 32 = .ok (.getfield 19, 3) := by decide +kernel
theorem dX11_simulate_35 : decode cX11_simulate 35 = .ok (.iconst 0, 1) := by decide +kernel
theorem dX11_simulate_36 : decode cX11_simulate 36 = .ok (.invokestatic 162, 3) := by decide +kernel
theorem dX11_simulate_39 : decode cX11_simulate 39 = .ok (.lload_n 1, 1) := by decide +kernel
theorem dX11_simulate_40 : decode cX11_simulate 40 = .ok (.lstore 4, 2) := by decide +kernel
theorem dX11_simulate_42 : decode cX11_simulate 42 = .ok (.iconst 0, 1) := by decide +kernel
theorem dX11_simulate_43 : decode cX11_simulate 43 = .ok (.istore 6, 2) := by decide +kernel
theorem dX11_simulate_45 : decode cX11_simulate 45 = .ok (.iload 6, 2) := by decide +kernel
theorem dX11_simulate_47 : decode cX11_simulate 47 = .ok (.iload_n 3, 1) := by decide +kernel
theorem dX11_simulate_48 : decode cX11_simulate 48 = .ok (.if_icmp .ge 225, 3) := by decide +kernel
theorem dX11_simulate_51 : decode cX11_simulate 51 = .ok (.lload 4, 2) := by decide +kernel
theorem dX11_simulate_53 : decode cX11_simulate 53 = .ok (.ldc2_w 247, 3) := by decide +kernel
theorem dX11_simulate_56 : decode cX11_simulate 56 = .ok (.lmul, 1) := by decide +kernel
theorem dX11_simulate_57 : decode cX11_simulate 57 = .ok (.ldc2_w 249, 3) := by decide +kernel
theorem dX11_simulate_60 : decode cX11_simulate 60 = .ok (.ladd, 1) := by decide +kernel
theorem dX11_simulate_61 : decode cX11_simulate 61 = .ok (.lstore 4, 2) := by decide +kernel
theorem dX11_simulate_63 : decode cX11_simulate 63 = .ok (.lload 4, 2) := by decide +kernel
theorem dX11_simulate_65 : decode cX11_simulate 65 = .ok (.bipush 33, 2) := by decide +kernel
theorem dX11_simulate_67 : decode cX11_simulate 67 = .ok (.lushr, 1) := by decide +kernel
theorem dX11_simulate_68 : decode cX11_simulate 68 = .ok (.l2i, 1) := by decide +kernel
theorem dX11_simulate_69 : decode cX11_simulate 69 = .ok (.istore 7, 2) := by decide +kernel
theorem dX11_simulate_71 : decode cX11_simulate 71 = .ok (.iload 7, 2) := by decide +kernel
theorem dX11_simulate_73 : decode cX11_simulate 73 = .ok (.bipush 8, 2) := by decide +kernel
theorem dX11_simulate_75 : decode cX11_simulate 75 = .ok (.idiv, 1) := by decide +kernel
theorem dX11_simulate_76 : decode cX11_simulate 76 = .ok (.iconst 4, 1) := by decide +kernel
theorem dX11_simulate_77 : decode cX11_simulate 77 = .ok (.irem, 1) := by decide +kernel
theorem dX11_simulate_78 : decode cX11_simulate 78 = .ok (.istore 8, 2) := by decide +kernel
theorem dX11_simulate_80 : decode cX11_simulate 80 = .ok (.iload 7, 2) := by decide +kernel
theorem dX11_simulate_82 : decode cX11_simulate 82 = .ok (.bipush 32, 2) := by decide +kernel
theorem dX11_simulate_84 : decode cX11_simulate 84 = .ok (.idiv, 1) := by decide +kernel
theorem dX11_simulate_85 : decode cX11_simulate 85 = .ok (.istore 9, 2) := by decide +kernel
theorem dX11_simulate_87 : decode cX11_simulate 87 = .ok (.iload 7, 2) := by decide +kernel
theorem dX11_simulate_89 : decode cX11_simulate 89 = .ok (.bipush 8, 2) := by decide +kernel
theorem dX11_simulate_91 : decode cX11_simulate 91 = .ok (.irem, 1) := by decide +kernel
theorem dX11_simulate_92 : decode cX11_simulate 92 = .ok (.ifCond .ne 42, 3) := by decide +kernel
theorem dX11_simulate_95 : decode cX11_simulate 95 = .ok (.aload_n 0, 1) := by decide +kernel
theorem dX11_simulate_96 : decode cX11_simulate 96 = .ok (.getfield 19, 3) := by decide +kernel
theorem dX11_simulate_99 : decode cX11_simulate 99 = .ok (.iload 8, 2) := by decide +kernel
theorem dX11_simulate_101 : decode cX11_simulate 101 = .ok (.iconst 1, 1) := by decide +kernel
theorem dX11_simulate_102 : decode cX11_simulate 102 = .ok (.iload 9, 2) := by decide +kernel
theorem dX11_simulate_104 : decode cX11_simulate 104 = .ok (.bipush 6, 2) := by decide +kernel
theorem dX11_simulate_106 : decode cX11_simulate 106 = .ok (.irem, 1) := by decide +kernel
theorem dX11_simulate_107 : decode cX11_simulate 107 = .ok (.iadd, 1) := by decide +kernel
theorem dX11_simulate_108 : decode cX11_simulate 108 = .ok (.invokestatic 198, 3) := by decide +kernel
theorem dX11_simulate_111 : decode cX11_simulate 111 = .ok (.ifCond .eq 23, 3) := by decide +kernel
theorem dX11_simulate_114 : decode cX11_simulate 114 = .ok (.aload_n 0, 1) := by decide +kernel
theorem dX11_simulate_115 : decode cX11_simulate 115 = .ok (.getfield 19, 3) := by decide +kernel
theorem dX11_simulate_118 : decode cX11_simulate 118 = .ok (.iload 8, 2) := by decide +kernel
theorem dX11_simulate_120 : decode cX11_simulate 120 = .ok (.iconst 1, 1) := by decide +kernel
theorem dX11_simulate_121 : decode cX11_simulate 121 = .ok (.iload 9, 2) := by decide +kernel
theorem dX11_simulate_123 : decode cX11_simulate 123 = .ok (.bipush 6, 2) := by decide +kernel
theorem dX11_simulate_125 : decode cX11_simulate 125 = .ok (.irem, 1) := by decide +kernel
theorem dX11_simulate_126 : decode cX11_simulate 126 = .ok (.iadd, 1) := by decide +kernel
theorem dX11_simulate_127 : decode cX11_simulate 127 = .ok (.invokestatic 201, 3) := by decide +kernel
theorem dX11_simulate_130 : decode cX11_simulate 130 = .ok (.pop, 1) := by decide +kernel
theorem dX11_simulate_131 : decode cX11_simulate 131 = .ok (.goto 120, 3) := by decide +kernel
theorem dX11_simulate_134 : decode cX11_simulate 134 = .ok (.iload 7, 2) := by decide +kernel
theorem dX11_simulate_136 : decode cX11_simulate 136 = .ok (.bipush 8, 2) := by decide +kernel
theorem dX11_simulate_138 : decode cX11_simulate 138 = .ok (.irem, 1) := by decide +kernel
theorem dX11_simulate_139 : decode cX11_simulate 139 = .ok (.iconst 1, 1) := by decide +kernel
theorem dX11_simulate_140 : decode cX11_simulate 140 = .ok (.if_icmp .ne 55, 3) := by decide +kernel
theorem dX11_simulate_143 : decode cX11_simulate 143 = .ok (.aload_n 0, 1) := by decide +kernel
theorem dX11_simulate_144 : decode cX11_simulate 144 = .ok (.getfield 19, 3) := by decide +kernel
theorem dX11_simulate_147 : decode cX11_simulate 147 = .ok (.iconst 1, 1) := by decide +kernel
theorem dX11_simulate_148 : decode cX11_simulate 148 = .ok (.iaload, 1) := by decide +kernel
theorem dX11_simulate_149 : decode cX11_simulate 149 = .ok (.ifCond .le 46, 3) := by decide +kernel
theorem dX11_simulate_152 : decode cX11_simulate 152 = .ok (.aload_n 0, 1) := by decide +kernel
theorem dX11_simulate_153 : decode cX11_simulate 153 = .ok (.getfield 19, 3) := by decide +kernel
theorem dX11_simulate_156 : decode cX11_simulate 156 = .ok (.iload 8, 2) := by decide +kernel
theorem dX11_simulate_158 : decode cX11_simulate 158 = .ok (.iload 9, 2) := by decide +kernel
theorem dX11_simulate_160 : decode cX11_simulate 160 = .ok (.aload_n 0, 1) := by decide +kernel
theorem dX11_simulate_161 : decode cX11_simulate 161 = .ok (.getfield 19, 3) := by decide +kernel
theorem dX11_simulate_164 : decode cX11_simulate 164 = .ok (.iconst 1, 1) := by decide +kernel
theorem dX11_simulate_165 : decode cX11_simulate 165 = .ok (.iaload, 1) := by decide +kernel
theorem dX11_simulate_166 : decode cX11_simulate 166 = .ok (.irem, 1) := by decide +kernel
theorem dX11_simulate_167 : decode cX11_simulate 167 = .ok (.invokestatic 189, 3) := by decide +kernel
theorem dX11_simulate_170 : decode cX11_simulate 170 = .ok (.ifCond .eq 25, 3) := by decide +kernel
theorem dX11_simulate_173 : decode cX11_simulate 173 = .ok (.aload_n 0, 1) := by decide +kernel
theorem dX11_simulate_174 : decode cX11_simulate 174 = .ok (.getfield 19, 3) := by decide +kernel
theorem dX11_simulate_177 : decode cX11_simulate 177 = .ok (.iload 8, 2) := by decide +kernel
theorem dX11_simulate_179 : decode cX11_simulate 179 = .ok (.iload 9, 2) := by decide +kernel
theorem dX11_simulate_181 : decode cX11_simulate 181 = .ok (.aload_n 0, 1) := by decide +kernel
theorem dX11_simulate_182 : decode cX11_simulate 182 = .ok (.getfield 19, 3) := by decide +kernel
theorem dX11_simulate_185 : decode cX11_simulate 185 = .ok (.iconst 1, 1) := by decide +kernel
theorem dX11_simulate_186 : decode cX11_simulate 186 = .ok (.iaload, 1) := by decide +kernel
theorem dX11_simulate_187 : decode cX11_simulate 187 = .ok (.irem, 1) := by decide +kernel
theorem dX11_simulate_188 : decode cX11_simulate 188 = .ok (.invokestatic 195, 3) := by decide +kernel
theorem dX11_simulate_191 : decode cX11_simulate 191 = .ok (.pop, 1) := by decide +kernel
theorem dX11_simulate_192 : decode cX11_simulate 192 = .ok (.goto 59, 3) := by decide +kernel
theorem dX11_simulate_195 : decode cX11_simulate 195 = .ok (.iload 7, 2) := by decide +kernel
theorem dX11_simulate_197 : decode cX11_simulate 197 = .ok (.bipush 8, 2) := by decide +kernel
theorem dX11_simulate_199 : decode cX11_simulate 199 = .ok (.irem, 1) := by decide +kernel
theorem dX11_simulate_200 : decode cX11_simulate 200 = .ok (.iconst 2, 1) := by decide +kernel
theorem dX11_simulate_201 : decode cX11_simulate 201 = .ok (.if_icmp .ne 50, 3) := by decide +kernel
theorem dX11_simulate_204 : decode cX11_simulate 204 = .ok (.aload_n 0, 1) := by decide +kernel
theorem dX11_simulate_205 : decode cX11_simulate 205 = .ok (.getfield 19, 3) := by decide +kernel
theorem dX11_simulate_208 : decode cX11_simulate 208 = .ok (.iconst 2, 1) := by decide +kernel
theorem dX11_simulate_209 : decode cX11_simulate 209 = .ok (.iaload, 1) := by decide +kernel
theorem dX11_simulate_210 : decode cX11_simulate 210 = .ok (.ifCond .le 41, 3) := by decide +kernel
theorem dX11_simulate_213 : decode cX11_simulate 213 = .ok (.aload_n 0, 1) := by decide +kernel
theorem dX11_simulate_214 : decode cX11_simulate 214 = .ok (.getfield 19, 3) := by decide +kernel
theorem dX11_simulate_217 : decode cX11_simulate 217 = .ok (.iload 9, 2) := by decide +kernel
theorem dX11_simulate_219 : decode cX11_simulate 219 = .ok (.aload_n 0, 1) := by decide +kernel
theorem dX11_simulate_220 : decode cX11_simulate 220 = .ok (.getfield 19, 3) := by decide +kernel
theorem dX11_simulate_223 : decode cX11_simulate 223 = .ok (.iconst 2, 1) := by decide +kernel
theorem dX11_simulate_224 : decode cX11_simulate 224 = .ok (.iaload, 1) := by decide +kernel
theorem dX11_simulate_225 : decode cX11_simulate 225 = .ok (.irem, 1) := by decide +kernel
theorem dX11_simulate_226 : decode cX11_simulate 226 = .ok (.invokestatic 211, 3) := by decide +kernel
theorem dX11_simulate_229 : decode cX11_simulate 229 = .ok (.ifCond .eq 22, 3) := by decide +kernel
theorem dX11_simulate_232 : decode cX11_simulate 232 = .ok (.aload_n 0, 1) := by decide +kernel
theorem dX11_simulate_233 : decode cX11_simulate 233 = .ok (.getfield 19, 3) := by decide +kernel
theorem dX11_simulate_236 : decode cX11_simulate 236 = .ok (.iload 8, 2) := by decide +kernel
theorem dX11_simulate_238 : decode cX11_simulate 238 = .ok (.iload 9, 2) := by decide +kernel
theorem dX11_simulate_240 : decode cX11_simulate 240 = .ok (.aload_n 0, 1) := by decide +kernel
theorem dX11_simulate_241 : decode cX11_simulate 241 = .ok (.getfield 19, 3) := by decide +kernel
theorem dX11_simulate_244 : decode cX11_simulate 244 = .ok (.iconst 2, 1) := by decide +kernel
theorem dX11_simulate_245 : decode cX11_simulate 245 = .ok (.iaload, 1) := by decide +kernel
theorem dX11_simulate_246 : decode cX11_simulate 246 = .ok (.irem, 1) := by decide +kernel
theorem dX11_simulate_247 : decode cX11_simulate 247 = .ok (.invokestatic 214, 3) := by decide +kernel
theorem dX11_simulate_250 : decode cX11_simulate 250 = .ok (.pop, 1) := by decide +kernel
theorem dX11_simulate_251 : decode cX11_simulate 251 = .ok (.aload_n 0, 1) := by decide +kernel
theorem dX11_simulate_252 : decode cX11_simulate 252 = .ok (.aload_n 0, 1) := by decide +kernel
theorem dX11_simulate_253 : decode cX11_simulate 253 = .ok (.getfield 19, 3) := by decide +kernel
theorem dX11_simulate_256 : decode cX11_simulate 256 = .ok (.invokevirtual 251, 3) := by decide +kernel
theorem dX11_simulate_259 : decode cX11_simulate 259 = .ok (.aload_n 0, 1) := by decide +kernel
theorem dX11_simulate_260 : decode cX11_simulate 260 = .ok (.getfield 19, 3) := by decide +kernel
theorem dX11_simulate_263 : decode cX11_simulate 263 = .ok (.invokestatic 226, 3) := by decide +kernel
theorem dX11_simulate_266 : decode cX11_simulate 266 = .ok (.pop, 1) := by decide +kernel
theorem dX11_simulate_267 : decode cX11_simulate 267 = .ok (.iinc 6 1, 3) := by decide +kernel
theorem dX11_simulate_270 : decode cX11_simulate 270 = .ok (.goto (-225), 3) := by decide +kernel
theorem dX11_simulate_273 : decode cX11_simulate 273 = .ok (.aload_n 0, 1) := by decide +kernel
theorem dX11_simulate_274 : decode cX11_simulate 274 = .ok (.getfield 19, 3) := by decide +kernel
theorem dX11_simulate_277 : decode cX11_simulate 277 = .ok (.iconst 0, 1) := by decide +kernel
theorem dX11_simulate_278 : decode cX11_simulate 278 = .ok (.invokestatic 234, 3) := by decide +kernel
theorem dX11_simulate_281 : decode cX11_simulate 281 = .ok (.istore 6, 2) := by decide +kernel
theorem dX11_simulate_283 : decode cX11_simulate 283 = .ok (.iconst 1, 1) := by decide +kernel
theorem dX11_simulate_284 : decode cX11_simulate 284 = .ok (.istore 7, 2) := by decide +kernel
theorem dX11_simulate_286 : decode cX11_simulate 286 = .ok (.iload 7, 2) := by decide +kernel
theorem dX11_simulate_288 : decode cX11_simulate 288 = .ok (.iconst 4, 1) := by decide +kernel
theorem dX11_simulate_289 : decode cX11_simulate 289 = .ok (.if_icmp .ge 39, 3) := by decide +kernel
theorem dX11_simulate_292 : decode cX11_simulate 292 = .ok (.aload_n 0, 1) := by decide +kernel
theorem dX11_simulate_293 : decode cX11_simulate 293 = .ok (.getfield 19, 3) := by decide +kernel
theorem dX11_simulate_296 : decode cX11_simulate 296 = .ok (.iload 7, 2) := by decide +kernel
theorem dX11_simulate_298 : decode cX11_simulate 298 = .ok (.invokestatic 234, 3) := by decide +kernel
theorem dX11_simulate_301 : decode cX11_simulate 301 = .ok (.iload 6, 2) := by decide +kernel
theorem dX11_simulate_303 : decode cX11_simulate 303 = .ok (.if_icmp .le 15, 3) := by decide +kernel
theorem dX11_simulate_306 : decode cX11_simulate 306 = .ok (.aload_n 0, 1) := by decide +kernel
theorem dX11_simulate_307 : decode cX11_simulate 307 = .ok (.getfield 19, 3) := by decide +kernel
theorem dX11_simulate_310 : decode cX11_simulate 310 = .ok (.iload 7, 2) := by decide +kernel
theorem dX11_simulate_312 : decode cX11_simulate 312 = .ok (.invokestatic 234, 3) := by decide +kernel
theorem dX11_simulate_315 : decode cX11_simulate 315 = .ok (.goto 5, 3) := by decide +kernel
theorem dX11_simulate_318 : decode cX11_simulate 318 = .ok (.iload 6, 2) := by decide +kernel
theorem dX11_simulate_320 : decode cX11_simulate 320 = .ok (.istore 6, 2) := by decide +kernel
theorem dX11_simulate_322 : decode cX11_simulate 322 = .ok (.iinc 7 1, 3) := by decide +kernel
theorem dX11_simulate_325 : decode cX11_simulate 325 = .ok (.goto (-39), 3) := by decide +kernel
theorem dX11_simulate_328 : decode cX11_simulate 328 = .ok (.iload 6, 2) := by decide +kernel
theorem dX11_simulate_330 : decode cX11_simulate 330 = .ok (.sipush 10000, 3) := by decide +kernel
theorem dX11_simulate_333 : decode cX11_simulate 333 = .ok (.aload_n 0, 1) := by decide +kernel
theorem dX11_simulate_334 : decode cX11_simulate 334 = .ok (.getfield 19, 3) := by decide +kernel
theorem dX11_simulate_337 : decode cX11_simulate 337 = .ok (.iconst 3, 1) := by decide +kernel
theorem dX11_simulate_338 : decode cX11_simulate 338 = .ok (.iaload, 1) := by decide +kernel
theorem dX11_simulate_339 : decode cX11_simulate 339 = .ok (.imul, 1) := by decide +kernel
theorem dX11_simulate_340 : decode cX11_simulate 340 = .ok (.iadd, 1) := by decide +kernel
theorem dX11_simulate_341 : decode cX11_simulate 341 = .ok (.ireturn, 1) := by decide +kernel
theorem dX11_save_0 : decode cX11_save 0 = .ok (.aload_n 0, 1) := by decide +kernel
theorem dX11_save_1 : decode cX11_save 1 = .ok (.iload_n 1, 1) := by decide +kernel
theorem dX11_save_2 : decode cX11_save 2 = .ok (.i2l, 1) := by decide +kernel
theorem dX11_save_3 : decode cX11_save 3 = .ok (.lconst 0, 1) := by decide +kernel
theorem dX11_save_4 : decode cX11_save 4 = .ok (.lconst 1, 1) := by decide +kernel
theorem dX11_save_5 : decode cX11_save 5 = .ok (.invokestatic 62, 3) := by decide +kernel
theorem dX11_save_8 : decode cX11_save 8 = .ok (.ifCond .eq 7, 3) := by decide +kernel
theorem dX11_save_11 : decode cX11_save 11 = .ok (.iconst 0, 1) := by decide +kernel
theorem dX11_save_12 : decode cX11_save 12 = .ok (.goto 4, 3) := by decide +kernel
theorem dX11_save_15 : decode cX11_save 15 = .ok (.iconst 1, 1) := by decide +kernel
theorem dX11_save_16 : decode cX11_save 16 = .ok (.invokevirtual 134, 3) := by decide +kernel
theorem dX11_save_19 : decode cX11_save 19 = .ok (.ifCond .eq 5, 3) := by decide +kernel
theorem dX11_save_22 : decode cX11_save 22 = .ok (.iconst 0, 1) := by decide +kernel
theorem dX11_save_23 : decode cX11_save 23 = .ok (.ireturn, 1) := by decide +kernel
theorem dX11_save_24 : decode cX11_save 24 = .ok (.aload_n 0, 1) := by decide +kernel
theorem dX11_save_25 : decode cX11_save 25 = .ok (.getfield 28, 3) := by decide +kernel
theorem dX11_save_28 : decode cX11_save 28 = .ok (.iload_n 1, 1) := by decide +kernel
theorem dX11_save_29 : decode cX11_save 29 = .ok (.iconst 1, 1) := by decide +kernel
theorem dX11_save_30 : decode cX11_save 30 = .ok (.bastore, 1) := by decide +kernel
theorem dX11_save_31 : decode cX11_save 31 = .ok (.aload_n 0, 1) := by decide +kernel
theorem dX11_save_32 : decode cX11_save 32 = .ok (.getfield 16, 3) := by decide +kernel
theorem dX11_save_35 : decode cX11_save 35 = .ok (.iconst 0, 1) := by decide +kernel
theorem dX11_save_36 : decode cX11_save 36 = .ok (.aload_n 0, 1) := by decide +kernel
theorem dX11_save_37 : decode cX11_save 37 = .ok (.getfield 25, 3) := by decide +kernel
theorem dX11_save_40 : decode cX11_save 40 = .ok (.sipush 175, 3) := by decide +kernel
theorem dX11_save_43 : decode cX11_save 43 = .ok (.iload_n 1, 1) := by decide +kernel
theorem dX11_save_44 : decode cX11_save 44 = .ok (.imul, 1) := by decide +kernel
theorem dX11_save_45 : decode cX11_save 45 = .ok (.invokestatic 162, 3) := by decide +kernel
theorem dX11_save_48 : decode cX11_save 48 = .ok (.aload_n 0, 1) := by decide +kernel
theorem dX11_save_49 : decode cX11_save 49 = .ok (.getfield 16, 3) := by decide +kernel
theorem dX11_save_52 : decode cX11_save 52 = .ok (.iconst 4, 1) := by decide +kernel
theorem dX11_save_53 : decode cX11_save 53 = .ok (.iaload, 1) := by decide +kernel
theorem dX11_save_54 : decode cX11_save 54 = .ok (.ireturn, 1) := by decide +kernel
theorem dX11_restore_0 : decode cX11_restore 0 = .ok (.aload_n 0, 1) := by decide +kernel
theorem dX11_restore_1 : decode cX11_restore 1 = .ok (.iload_n 1, 1) := by decide +kernel
theorem dX11_restore_2 : decode cX11_restore 2 = .ok (.i2l, 1) := by decide +kernel
theorem dX11_restore_3 : decode cX11_restore 3 = .ok (.lconst 0, 1) := by decide +kernel
theorem dX11_restore_4 : decode cX11_restore 4 = .ok (.lconst 1, 1) := by decide +kernel
theorem dX11_restore_5 : decode cX11_restore 5 = .ok (.invokestatic 62, 3) := by decide +kernel
theorem dX11_restore_8 : decode cX11_restore 8 = .ok (.ifCond .ne 7, 3) := by decide +kernel
theorem dX11_restore_11 : decode cX11_restore 11 = .ok (.iconst 1, 1) := by decide +kernel
theorem dX11_restore_12 : decode cX11_restore 12 = .ok (.goto 17, 3) := by decide +kernel
theorem dX11_restore_15 : decode cX11_restore 15 = .ok (.aload_n 0, 1) := by decide +kernel
theorem dX11_restore_16 : decode cX11_restore 16 = .ok (.getfield 28, 3) := by decide +kernel
theorem dX11_restore_19 : decode cX11_restore 19 = .ok (.iload_n 1, 1) := by decide +kernel
theorem dX11_restore_20 : decode cX11_restore 20 = .ok (.baload, 1) := by decide +kernel
theorem dX11_restore_21 : decode cX11_restore 21 = .ok (.ifCond .ne 7, 3) := by decide +kernel
theorem dX11_restore_24 : decode cX11_restore 24 = .ok (.iconst 2, 1) := by decide +kernel
theorem dX11_restore_25 : decode cX11_restore 25 = .ok (.goto 4, 3) := by decide +kernel
theorem dX11_restore_28 : decode cX11_restore 28 = .ok (.iconst 0, 1) := by decide +kernel
theorem dX11_restore_29 : decode cX11_restore 29 = .ok (.invokevirtual 134, 3) := by decide +kernel
theorem dX11_restore_32 : decode cX11_restore 32 = .ok (.ifCond .eq 5, 3) := by decide +kernel
theorem dX11_restore_35 : decode cX11_restore 35 = .ok (.iconst 0, 1) := by decide +kernel
theorem dX11_restore_36 : decode cX11_restore 36 = .ok (.ireturn, 1) := by decide +kernel
theorem dX11_restore_37 : decode cX11_restore 37 = .ok (.aload_n 0, 1) := by decide +kernel
theorem dX11_restore_38 : decode cX11_restore 38 = .ok (.getfield 25, 3) := by decide +kernel
theorem dX11_restore_41 : decode cX11_restore 41 = .ok (.sipush 175, 3) := by decide +kernel
theorem dX11_restore_44 : decode cX11_restore 44 = .ok (.iload_n 1, 1) := by decide +kernel
theorem dX11_restore_45 : decode cX11_restore 45 = .ok (.imul, 1) := by decide +kernel
theorem dX11_restore_46 : decode cX11_restore 46 = .ok (.aload_n 0, 1) := by decide +kernel
theorem dX11_restore_47 : decode cX11_restore 47 = .ok (.getfield 16, 3) := by decide +kernel
theorem dX11_restore_50 : decode cX11_restore 50 = .ok (.iconst 0, 1) := by decide +kernel
theorem dX11_restore_51 : decode cX11_restore 51 = .ok (.invokestatic 162, 3) := by decide +kernel
theorem dX11_restore_54 : decode cX11_restore 54 = .ok (.aload_n 0, 1) := by decide +kernel
theorem dX11_restore_55 : decode cX11_restore 55 = .ok (.iconst 0, 1) := by decide +kernel
theorem dX11_restore_56 : decode cX11_restore 56 = .ok (.putfield 166, 3) := by decide +kernel
theorem dX11_restore_59 : decode cX11_restore 59 = .ok (.aload_n 0, 1) := by decide +kernel
theorem dX11_restore_60 : decode cX11_restore 60 = .ok (.getfield 16, 3) := by decide +kernel
theorem dX11_restore_63 : decode cX11_restore 63 = .ok (.iconst 4, 1) := by decide +kernel
theorem dX11_restore_64 : decode cX11_restore 64 = .ok (.iaload, 1) := by decide +kernel
theorem dX11_restore_65 : decode cX11_restore 65 = .ok (.ireturn, 1) := by decide +kernel
theorem dJ9_max_7cf53_0 : decode cJ9_max_7cf53 0 = .ok (.iload_n 0, 1) := by decide +kernel
theorem dJ9_max_7cf53_1 : decode cJ9_max_7cf53 1 = .ok (.iload_n 1, 1) := by decide +kernel
theorem dJ9_max_7cf53_2 : decode cJ9_max_7cf53 2 = .ok (.if_icmp .lt 7, 3) := by decide +kernel
theorem dJ9_max_7cf53_5 : decode cJ9_max_7cf53 5 = .ok (.iload_n 0, 1) := by decide +kernel
theorem dJ9_max_7cf53_6 : decode cJ9_max_7cf53 6 = .ok (.goto 4, 3) := by decide +kernel
theorem dJ9_max_7cf53_9 : decode cJ9_max_7cf53 9 = .ok (.iload_n 1, 1) := by decide +kernel
theorem dJ9_max_7cf53_10 : decode cJ9_max_7cf53 10 = .ok (.ireturn, 1) := by decide +kernel
theorem dJ9_min_7cf53_0 : decode cJ9_min_7cf53 0 = .ok (.iload_n 0, 1) := by decide +kernel
theorem dJ9_min_7cf53_1 : decode cJ9_min_7cf53 1 = .ok (.iload_n 1, 1) := by decide +kernel
theorem dJ9_min_7cf53_2 : decode cJ9_min_7cf53 2 = .ok (.if_icmp .gt 7, 3) := by decide +kernel
theorem dJ9_min_7cf53_5 : decode cJ9_min_7cf53 5 = .ok (.iload_n 0, 1) := by decide +kernel
theorem dJ9_min_7cf53_6 : decode cJ9_min_7cf53 6 = .ok (.goto 4, 3) := by decide +kernel
theorem dJ9_min_7cf53_9 : decode cJ9_min_7cf53 9 = .ok (.iload_n 1, 1) := by decide +kernel
theorem dJ9_min_7cf53_10 : decode cJ9_min_7cf53 10 = .ok (.ireturn, 1) := by decide +kernel
end
section
theorem dL_append_0 : decode cL_append 0 = .ok (.aload_n 2, 1) := by decide +kernel
theorem dL_append_1 : decode cL_append 1 = .ok (.iconst 0, 1) := by decide +kernel
theorem dL_append_2 : decode cL_append 2 = .ok (.aload_n 0, 1) := by decide +kernel
theorem dL_append_3 : decode cL_append 3 = .ok (.iload_n 1, 1) := by decide +kernel
theorem dL_append_4 : decode cL_append 4 = .ok (.invokevirtual 7, 3) := by decide +kernel
theorem dL_append_7 : decode cL_append 7 = .ok (.i2l, 1) := by decide +kernel
theorem dL_append_8 : decode cL_append 8 = .ok (.lastore, 1) := by decide +kernel
theorem dL_append_9 : decode cL_append 9 = .ok (.goto 9, 3) := by decide +kernel
theorem dL_append_12 : decode cL_append 12 = .ok (.astore_n 3, 1) := by decide +kernel
theorem dL_append_13 : decode cL_append 13 = .ok (.iconst 1, 1) := by decide +kernel
theorem dL_append_14 : decode cL_append 14 = .ok (.ireturn, 1) := by decide +kernel
theorem dL_append_15 : decode cL_append 15 = .ok (.astore_n 3, 1) := by decide +kernel
theorem dL_append_16 : decode cL_append 16 = .ok (.iconst 2, 1) := by decide +kernel
theorem dL_append_17 : decode cL_append 17 = .ok (.ireturn, 1) := by decide +kernel
theorem dL_append_18 : decode cL_append 18 = .ok (.iconst 0, 1) := by decide +kernel
theorem dL_append_19 : decode cL_append 19 = .ok (.ireturn, 1) := by decide +kernel
theorem dL_load_0 : decode cL_load 0 = .ok (.aload_n 1, 1) := by decide +kernel
theorem dL_load_1 : decode cL_load 1 = .ok (.iconst 0, 1) := by decide +kernel
theorem dL_load_2 : decode cL_load 2 = .ok (.aload_n 0, 1) := by decide +kernel
theorem dL_load_3 : decode cL_load 3 = .ok (.invokevirtual 17, 3) := by decide +kernel
theorem dL_load_6 : decode cL_load 6 = .ok (.i2l, 1) := by decide +kernel
theorem dL_load_7 : decode cL_load 7 = .ok (.lastore, 1) := by decide +kernel
theorem dL_load_8 : decode cL_load 8 = .ok (.goto 6, 3) := by decide +kernel
theorem dL_load_11 : decode cL_load 11 = .ok (.astore_n 2, 1) := by decide +kernel
theorem dL_load_12 : decode cL_load 12 = .ok (.iconst 1, 1) := by decide +kernel
theorem dL_load_13 : decode cL_load 13 = .ok (.ireturn, 1) := by decide +kernel
theorem dL_load_14 : decode cL_load 14 = .ok (.iconst 0, 1) := by decide +kernel
theorem dL_load_15 : decode cL_load 15 = .ok (.ireturn, 1) := by decide +kernel
theorem dL_about_0 : decode cL_about 0 = .ok (.aload_n 2, 1) := by decide +kernel
theorem dL_about_1 : decode cL_about 1 = .ok (.iconst 0, 1) := by decide +kernel
theorem dL_about_2 : decode cL_about 2 = .ok (.aload_n 0, 1) := by decide +kernel
theorem dL_about_3 : decode cL_about 3 = .ok (.iload_n 1, 1) := by decide +kernel
theorem dL_about_4 : decode cL_about 4 = .ok (.invokevirtual 21, 3) := by decide +kernel
theorem dL_about_7 : decode cL_about 7 = .ok (.i2l, 1) := by decide +kernel
theorem dL_about_8 : decode cL_about 8 = .ok (.lastore, 1) := by decide +kernel
theorem dL_about_9 : decode cL_about 9 = .ok (.goto 6, 3) := by decide +kernel
theorem dL_about_12 : decode cL_about 12 = .ok (.astore_n 3, 1) := by decide +kernel
theorem dL_about_13 : decode cL_about 13 = .ok (.iconst 1, 1) := by decide +kernel
theorem dL_about_14 : decode cL_about 14 = .ok (.ireturn, 1) := by decide +kernel
theorem dL_about_15 : decode cL_about 15 = .ok (.iconst 0, 1) := by decide +kernel
theorem dL_about_16 : decode cL_about 16 = .ok (.ireturn, 1) := by decide +kernel
theorem dL_track_0 : decode cL_track 0 = .ok (.aload_n 3, 1) := by decide +kernel
theorem dL_track_1 : decode cL_track 1 = .ok (.iconst 0, 1) := by decide +kernel
theorem dL_track_2 : decode cL_track 2 = .ok (.aload_n 0, 1) := by decide +kernel
theorem dL_track_3 : decode cL_track 3 = .ok (.iload_n 1, 1) := by decide +kernel
theorem dL_track_4 : decode cL_track 4 = .ok (.iload_n 2, 1) := by decide +kernel
theorem dL_track_5 : decode cL_track 5 = .ok (.invokevirtual 24, 3) := by decide +kernel
theorem dL_track_8 : decode cL_track 8 = .ok (.i2l, 1) := by decide +kernel
theorem dL_track_9 : decode cL_track 9 = .ok (.lastore, 1) := by decide +kernel
theorem dL_track_10 : decode cL_track 10 = .ok (.goto 11, 3) := by decide +kernel
theorem dL_track_13 : decode cL_track 13 = .ok (.astore 4, 2) := by decide +kernel
theorem dL_track_15 : decode cL_track 15 = .ok (.iconst 1, 1) := by decide +kernel
theorem dL_track_16 : decode cL_track 16 = .ok (.ireturn, 1) := by decide +kernel
theorem dL_track_17 : decode cL_track 17 = .ok (.astore 4, 2) := by decide +kernel
theorem dL_track_19 : decode cL_track 19 = .ok (.iconst 2, 1) := by decide +kernel
theorem dL_track_20 : decode cL_track 20 = .ok (.ireturn, 1) := by decide +kernel
theorem dL_track_21 : decode cL_track 21 = .ok (.iconst 0, 1) := by decide +kernel
theorem dL_track_22 : decode cL_track 22 = .ok (.ireturn, 1) := by decide +kernel
theorem dL_company_0 : decode cL_company 0 = .ok (.aload_n 3, 1) := by decide +kernel
theorem dL_company_1 : decode cL_company 1 = .ok (.iconst 0, 1) := by decide +kernel
theorem dL_company_2 : decode cL_company 2 = .ok (.aload_n 0, 1) := by decide +kernel
theorem dL_company_3 : decode cL_company 3 = .ok (.iload_n 1, 1) := by decide +kernel
theorem dL_company_4 : decode cL_company 4 = .ok (.iload_n 2, 1) := by decide +kernel
theorem dL_company_5 : decode cL_company 5 = .ok (.invokevirtual 30, 3) := by decide +kernel
theorem dL_company_8 : decode cL_company 8 = .ok (.i2l, 1) := by decide +kernel
theorem dL_company_9 : decode cL_company 9 = .ok (.lastore, 1) := by decide +kernel
theorem dL_company_10 : decode cL_company 10 = .ok (.goto 11, 3) := by decide +kernel
theorem dL_company_13 : decode cL_company 13 = .ok (.astore 4, 2) := by decide +kernel
theorem dL_company_15 : decode cL_company 15 = .ok (.iconst 1, 1) := by decide +kernel
theorem dL_company_16 : decode cL_company 16 = .ok (.ireturn, 1) := by decide +kernel
theorem dL_company_17 : decode cL_company 17 = .ok (.astore 4, 2) := by decide +kernel
theorem dL_company_19 : decode cL_company 19 = .ok (.iconst 2, 1) := by decide +kernel
theorem dL_company_20 : decode cL_company 20 = .ok (.ireturn, 1) := by decide +kernel
theorem dL_company_21 : decode cL_company 21 = .ok (.iconst 0, 1) := by decide +kernel
theorem dL_company_22 : decode cL_company 22 = .ok (.ireturn, 1) := by decide +kernel
theorem dL_train_0 : decode cL_train 0 = .ok (.aload 4, 2) := by decide +kernel
theorem dL_train_2 : decode cL_train 2 = .ok (.iconst 0, 1) := by decide +kernel
theorem dL_train_3 : decode cL_train 3 = .ok (.aload_n 0, 1) := by decide +kernel
theorem dL_train_4 : decode cL_train 4 = .ok (.iload_n 1, 1) := by decide +kernel
theorem dL_train_5 : decode cL_train 5 = .ok (.iload_n 2, 1) := by decide +kernel
theorem dL_train_6 : decode cL_train 6 = .ok (.iload_n 3, 1) := by decide +kernel
theorem dL_train_7 : decode cL_train 7 = .ok (.invokevirtual 33, 3) := by decide +kernel
theorem dL_train_10 : decode cL_train 10 = .ok (.i2l, 1) := by decide +kernel
theorem dL_train_11 : decode cL_train 11 = .ok (.lastore, 1) := by decide +kernel
theorem dL_train_12 : decode cL_train 12 = .ok (.goto 11, 3) := by decide +kernel
theorem dL_train_15 : decode cL_train 15 = .ok (.astore 5, 2) := by decide +kernel
theorem dL_train_17 : decode cL_train 17 = .ok (.iconst 1, 1) := by decide +kernel
theorem dL_train_18 : decode cL_train 18 = .ok (.ireturn, 1) := by decide +kernel
theorem dL_train_19 : decode cL_train 19 = .ok (.astore 5, 2) := by decide +kernel
theorem dL_train_21 : decode cL_train 21 = .ok (.iconst 2, 1) := by decide +kernel
theorem dL_train_22 : decode cL_train 22 = .ok (.ireturn, 1) := by decide +kernel
theorem dL_train_23 : decode cL_train 23 = .ok (.iconst 0, 1) := by decide +kernel
theorem dL_train_24 : decode cL_train 24 = .ok (.ireturn, 1) := by decide +kernel
theorem dL_contract_0 : decode cL_contract 0 = .ok (.aload_n 3, 1) := by decide +kernel
theorem dL_contract_1 : decode cL_contract 1 = .ok (.iconst 0, 1) := by decide +kernel
theorem dL_contract_2 : decode cL_contract 2 = .ok (.aload_n 0, 1) := by decide +kernel
theorem dL_contract_3 : decode cL_contract 3 = .ok (.iload_n 1, 1) := by decide +kernel
theorem dL_contract_4 : decode cL_contract 4 = .ok (.iload_n 2, 1) := by decide +kernel
theorem dL_contract_5 : decode cL_contract 5 = .ok (.invokevirtual 37, 3) := by decide +kernel
theorem dL_contract_8 : decode cL_contract 8 = .ok (.i2l, 1) := by decide +kernel
theorem dL_contract_9 : decode cL_contract 9 = .ok (.lastore, 1) := by decide +kernel
theorem dL_contract_10 : decode cL_contract 10 = .ok (.goto 11, 3) := by decide +kernel
theorem dL_contract_13 : decode cL_contract 13 = .ok (.astore 4, 2) := by decide +kernel
theorem dL_contract_15 : decode cL_contract 15 = .ok (.iconst 1, 1) := by decide +kernel
theorem dL_contract_16 : decode cL_contract 16 = .ok (.ireturn, 1) := by decide +kernel
theorem dL_contract_17 : decode cL_contract 17 = .ok (.astore 4, 2) := by decide +kernel
theorem dL_contract_19 : decode cL_contract 19 = .ok (.iconst 2, 1) := by decide +kernel
theorem dL_contract_20 : decode cL_contract 20 = .ok (.ireturn, 1) := by decide +kernel
theorem dL_contract_21 : decode cL_contract 21 = .ok (.iconst 0, 1) := by decide +kernel
theorem dL_contract_22 : decode cL_contract 22 = .ok (.ireturn, 1) := by decide +kernel
theorem dL_buyTrack_0 : decode cL_buyTrack 0 = .ok (.aload_n 3, 1) := by decide +kernel
theorem dL_buyTrack_1 : decode cL_buyTrack 1 = .ok (.iconst 0, 1) := by decide +kernel
theorem dL_buyTrack_2 : decode cL_buyTrack 2 = .ok (.aload_n 0, 1) := by decide +kernel
theorem dL_buyTrack_3 : decode cL_buyTrack 3 = .ok (.iload_n 1, 1) := by decide +kernel
theorem dL_buyTrack_4 : decode cL_buyTrack 4 = .ok (.iload_n 2, 1) := by decide +kernel
theorem dL_buyTrack_5 : decode cL_buyTrack 5 = .ok (.invokevirtual 40, 3) := by decide +kernel
theorem dL_buyTrack_8 : decode cL_buyTrack 8 = .ok (.i2l, 1) := by decide +kernel
theorem dL_buyTrack_9 : decode cL_buyTrack 9 = .ok (.lastore, 1) := by decide +kernel
theorem dL_buyTrack_10 : decode cL_buyTrack 10 = .ok (.goto 11, 3) := by decide +kernel
theorem dL_buyTrack_13 : decode cL_buyTrack 13 = .ok (.astore 4, 2) := by decide +kernel
theorem dL_buyTrack_15 : decode cL_buyTrack 15 = .ok (.iconst 1, 1) := by decide +kernel
theorem dL_buyTrack_16 : decode cL_buyTrack 16 = .ok (.ireturn, 1) := by decide +kernel
theorem dL_buyTrack_17 : decode cL_buyTrack 17 = .ok (.astore 4, 2) := by decide +kernel
theorem dL_buyTrack_19 : decode cL_buyTrack 19 = .ok (.iconst 2, 1) := by decide +kernel
theorem dL_buyTrack_20 : decode cL_buyTrack 20 = .ok (.ireturn, 1) := by decide +kernel
theorem dL_buyTrack_21 : decode cL_buyTrack 21 = .ok (.iconst 0, 1) := by decide +kernel
theorem dL_buyTrack_22 : decode cL_buyTrack 22 = .ok (.ireturn, 1) := by decide +kernel
theorem dL_buyTrain_0 : decode cL_buyTrain 0 = .ok (.aload_n 3, 1) := by decide +kernel
theorem dL_buyTrain_1 : decode cL_buyTrain 1 = .ok (.iconst 0, 1) := by decide +kernel
theorem dL_buyTrain_2 : decode cL_buyTrain 2 = .ok (.aload_n 0, 1) := by decide +kernel
theorem dL_buyTrain_3 : decode cL_buyTrain 3 = .ok (.iload_n 1, 1) := by decide +kernel
theorem dL_buyTrain_4 : decode cL_buyTrain 4 = .ok (.iload_n 2, 1) := by decide +kernel
theorem dL_buyTrain_5 : decode cL_buyTrain 5 = .ok (.invokevirtual 43, 3) := by decide +kernel
theorem dL_buyTrain_8 : decode cL_buyTrain 8 = .ok (.i2l, 1) := by decide +kernel
theorem dL_buyTrain_9 : decode cL_buyTrain 9 = .ok (.lastore, 1) := by decide +kernel
theorem dL_buyTrain_10 : decode cL_buyTrain 10 = .ok (.goto 15, 3) := by decide +kernel
theorem dL_buyTrain_13 : decode cL_buyTrain 13 = .ok (.astore 4, 2) := by decide +kernel
theorem dL_buyTrain_15 : decode cL_buyTrain 15 = .ok (.iconst 1, 1) := by decide +kernel
theorem dL_buyTrain_16 : decode cL_buyTrain 16 = .ok (.ireturn, 1) := by decide +kernel
theorem dL_buyTrain_17 : decode cL_buyTrain 17 = .ok (.astore 4, 2) := by decide +kernel
theorem dL_buyTrain_19 : decode cL_buyTrain 19 = .ok (.iconst 2, 1) := by decide +kernel
theorem dL_buyTrain_20 : decode cL_buyTrain 20 = .ok (.ireturn, 1) := by decide +kernel
theorem dL_buyTrain_21 : decode cL_buyTrain 21 = .ok (.astore 4, 2) := by decide +kernel
theorem dL_buyTrain_23 : decode cL_buyTrain 23 = .ok (.iconst 3, 1) := by decide +kernel
theorem dL_buyTrain_24 : decode cL_buyTrain 24 = .ok (.ireturn, 1) := by decide +kernel
theorem dL_buyTrain_25 : decode cL_buyTrain 25 = .ok (.iconst 0, 1) := by decide +kernel
theorem dL_buyTrain_26 : decode cL_buyTrain 26 = .ok (.ireturn, 1) := by decide +kernel
theorem dL_setRent_0 : decode cL_setRent 0 = .ok (.aload_n 3, 1) := by decide +kernel
theorem dL_setRent_1 : decode cL_setRent 1 = .ok (.iconst 0, 1) := by decide +kernel
theorem dL_setRent_2 : decode cL_setRent 2 = .ok (.aload_n 0, 1) := by decide +kernel
theorem dL_setRent_3 : decode cL_setRent 3 = .ok (.iload_n 1, 1) := by decide +kernel
theorem dL_setRent_4 : decode cL_setRent 4 = .ok (.iload_n 2, 1) := by decide +kernel
theorem dL_setRent_5 : decode cL_setRent 5 = .ok (.invokevirtual 46, 3) := by decide +kernel
theorem dL_setRent_8 : decode cL_setRent 8 = .ok (.i2l, 1) := by decide +kernel
theorem dL_setRent_9 : decode cL_setRent 9 = .ok (.lastore, 1) := by decide +kernel
theorem dL_setRent_10 : decode cL_setRent 10 = .ok (.goto 11, 3) := by decide +kernel
theorem dL_setRent_13 : decode cL_setRent 13 = .ok (.astore 4, 2) := by decide +kernel
theorem dL_setRent_15 : decode cL_setRent 15 = .ok (.iconst 1, 1) := by decide +kernel
theorem dL_setRent_16 : decode cL_setRent 16 = .ok (.ireturn, 1) := by decide +kernel
theorem dL_setRent_17 : decode cL_setRent 17 = .ok (.astore 4, 2) := by decide +kernel
theorem dL_setRent_19 : decode cL_setRent 19 = .ok (.iconst 2, 1) := by decide +kernel
theorem dL_setRent_20 : decode cL_setRent 20 = .ok (.ireturn, 1) := by decide +kernel
theorem dL_setRent_21 : decode cL_setRent 21 = .ok (.iconst 0, 1) := by decide +kernel
theorem dL_setRent_22 : decode cL_setRent 22 = .ok (.ireturn, 1) := by decide +kernel
theorem dL_offer_0 : decode cL_offer 0 = .ok (.aload 5, 2) := by decide +kernel
theorem dL_offer_2 : decode cL_offer 2 = .ok (.iconst 0, 1) := by decide +kernel
theorem dL_offer_3 : decode cL_offer 3 = .ok (.aload_n 0, 1) := by decide +kernel
theorem dL_offer_4 : decode cL_offer 4 = .ok (.iload_n 1, 1) := by decide +kernel
theorem dL_offer_5 : decode cL_offer 5 = .ok (.iload_n 2, 1) := by decide +kernel
theorem dL_offer_6 : decode cL_offer 6 = .ok (.iload_n 3, 1) := by decide +kernel
theorem dL_offer_7 : decode cL_offer 7 = .ok (.iload 4, 2) := by decide +kernel
theorem dL_offer_9 : decode cL_offer 9 = .ok (.invokevirtual 49, 3) := by decide +kernel
theorem dL_offer_12 : decode cL_offer 12 = .ok (.i2l, 1) := by decide +kernel
theorem dL_offer_13 : decode cL_offer 13 = .ok (.lastore, 1) := by decide +kernel
theorem dL_offer_14 : decode cL_offer 14 = .ok (.goto 15, 3) := by decide +kernel
theorem dL_offer_17 : decode cL_offer 17 = .ok (.astore 6, 2) := by decide +kernel
theorem dL_offer_19 : decode cL_offer 19 = .ok (.iconst 1, 1) := by decide +kernel
theorem dL_offer_20 : decode cL_offer 20 = .ok (.ireturn, 1) := by decide +kernel
theorem dL_offer_21 : decode cL_offer 21 = .ok (.astore 6, 2) := by decide +kernel
theorem dL_offer_23 : decode cL_offer 23 = .ok (.iconst 2, 1) := by decide +kernel
theorem dL_offer_24 : decode cL_offer 24 = .ok (.ireturn, 1) := by decide +kernel
theorem dL_offer_25 : decode cL_offer 25 = .ok (.astore 6, 2) := by decide +kernel
theorem dL_offer_27 : decode cL_offer 27 = .ok (.iconst 3, 1) := by decide +kernel
theorem dL_offer_28 : decode cL_offer 28 = .ok (.ireturn, 1) := by decide +kernel
theorem dL_offer_29 : decode cL_offer 29 = .ok (.iconst 0, 1) := by decide +kernel
theorem dL_offer_30 : decode cL_offer 30 = .ok (.ireturn, 1) := by decide +kernel
theorem dL_take_0 : decode cL_take 0 = .ok (.aload_n 3, 1) := by decide +kernel
theorem dL_take_1 : decode cL_take 1 = .ok (.iconst 0, 1) := by decide +kernel
theorem dL_take_2 : decode cL_take 2 = .ok (.aload_n 0, 1) := by decide +kernel
theorem dL_take_3 : decode cL_take 3 = .ok (.iload_n 1, 1) := by decide +kernel
theorem dL_take_4 : decode cL_take 4 = .ok (.iload_n 2, 1) := by decide +kernel
theorem dL_take_5 : decode cL_take 5 = .ok (.invokevirtual 53, 3) := by decide +kernel
theorem dL_take_8 : decode cL_take 8 = .ok (.i2l, 1) := by decide +kernel
theorem dL_take_9 : decode cL_take 9 = .ok (.lastore, 1) := by decide +kernel
theorem dL_take_10 : decode cL_take 10 = .ok (.goto 11, 3) := by decide +kernel
theorem dL_take_13 : decode cL_take 13 = .ok (.astore 4, 2) := by decide +kernel
theorem dL_take_15 : decode cL_take 15 = .ok (.iconst 1, 1) := by decide +kernel
theorem dL_take_16 : decode cL_take 16 = .ok (.ireturn, 1) := by decide +kernel
theorem dL_take_17 : decode cL_take 17 = .ok (.astore 4, 2) := by decide +kernel
theorem dL_take_19 : decode cL_take 19 = .ok (.iconst 2, 1) := by decide +kernel
theorem dL_take_20 : decode cL_take 20 = .ok (.ireturn, 1) := by decide +kernel
theorem dL_take_21 : decode cL_take 21 = .ok (.iconst 0, 1) := by decide +kernel
theorem dL_take_22 : decode cL_take 22 = .ok (.ireturn, 1) := by decide +kernel
theorem dL_run_0 : decode cL_run 0 = .ok (.aload_n 3, 1) := by decide +kernel
theorem dL_run_1 : decode cL_run 1 = .ok (.iconst 0, 1) := by decide +kernel
theorem dL_run_2 : decode cL_run 2 = .ok (.aload_n 0, 1) := by decide +kernel
theorem dL_run_3 : decode cL_run 3 = .ok (.iload_n 1, 1) := by decide +kernel
theorem dL_run_4 : decode cL_run 4 = .ok (.iload_n 2, 1) := by decide +kernel
theorem dL_run_5 : decode cL_run 5 = .ok (.invokevirtual 56, 3) := by decide +kernel
theorem dL_run_8 : decode cL_run 8 = .ok (.i2l, 1) := by decide +kernel
theorem dL_run_9 : decode cL_run 9 = .ok (.lastore, 1) := by decide +kernel
theorem dL_run_10 : decode cL_run 10 = .ok (.goto 11, 3) := by decide +kernel
theorem dL_run_13 : decode cL_run 13 = .ok (.astore 4, 2) := by decide +kernel
theorem dL_run_15 : decode cL_run 15 = .ok (.iconst 1, 1) := by decide +kernel
theorem dL_run_16 : decode cL_run 16 = .ok (.ireturn, 1) := by decide +kernel
theorem dL_run_17 : decode cL_run 17 = .ok (.astore 4, 2) := by decide +kernel
theorem dL_run_19 : decode cL_run 19 = .ok (.iconst 2, 1) := by decide +kernel
theorem dL_run_20 : decode cL_run 20 = .ok (.ireturn, 1) := by decide +kernel
theorem dL_run_21 : decode cL_run 21 = .ok (.iconst 0, 1) := by decide +kernel
theorem dL_run_22 : decode cL_run 22 = .ok (.ireturn, 1) := by decide +kernel
theorem dL_undo_0 : decode cL_undo 0 = .ok (.aload_n 1, 1) := by decide +kernel
theorem dL_undo_1 : decode cL_undo 1 = .ok (.iconst 0, 1) := by decide +kernel
theorem dL_undo_2 : decode cL_undo 2 = .ok (.aload_n 0, 1) := by decide +kernel
theorem dL_undo_3 : decode cL_undo 3 = .ok (.invokevirtual 59, 3) := by decide +kernel
theorem dL_undo_6 : decode cL_undo 6 = .ok (.i2l, 1) := by decide +kernel
theorem dL_undo_7 : decode cL_undo 7 = .ok (.lastore, 1) := by decide +kernel
theorem dL_undo_8 : decode cL_undo 8 = .ok (.goto 6, 3) := by decide +kernel
theorem dL_undo_11 : decode cL_undo 11 = .ok (.astore_n 2, 1) := by decide +kernel
theorem dL_undo_12 : decode cL_undo 12 = .ok (.iconst 1, 1) := by decide +kernel
theorem dL_undo_13 : decode cL_undo 13 = .ok (.ireturn, 1) := by decide +kernel
theorem dL_undo_14 : decode cL_undo 14 = .ok (.iconst 0, 1) := by decide +kernel
theorem dL_undo_15 : decode cL_undo 15 = .ok (.ireturn, 1) := by decide +kernel
theorem dL_way_0 : decode cL_way 0 = .ok (.aload 6, 2) := by decide +kernel
theorem dL_way_2 : decode cL_way 2 = .ok (.iconst 0, 1) := by decide +kernel
theorem dL_way_3 : decode cL_way 3 = .ok (.aload_n 0, 1) := by decide +kernel
theorem dL_way_4 : decode cL_way 4 = .ok (.iload_n 1, 1) := by decide +kernel
theorem dL_way_5 : decode cL_way 5 = .ok (.iload_n 2, 1) := by decide +kernel
theorem dL_way_6 : decode cL_way 6 = .ok (.iload_n 3, 1) := by decide +kernel
theorem dL_way_7 : decode cL_way 7 = .ok (.iload 4, 2) := by decide +kernel
theorem dL_way_9 : decode cL_way 9 = .ok (.iload 5, 2) := by decide +kernel
theorem dL_way_11 : decode cL_way 11 = .ok (.invokevirtual 62, 3) := by decide +kernel
theorem dL_way_14 : decode cL_way 14 = .ok (.i2l, 1) := by decide +kernel
theorem dL_way_15 : decode cL_way 15 = .ok (.lastore, 1) := by decide +kernel
theorem dL_way_16 : decode cL_way 16 = .ok (.goto 11, 3) := by decide +kernel
theorem dL_way_19 : decode cL_way 19 = .ok (.astore 7, 2) := by decide +kernel
theorem dL_way_21 : decode cL_way 21 = .ok (.iconst 1, 1) := by decide +kernel
theorem dL_way_22 : decode cL_way 22 = .ok (.ireturn, 1) := by decide +kernel
theorem dL_way_23 : decode cL_way 23 = .ok (.astore 7, 2) := by decide +kernel
theorem dL_way_25 : decode cL_way 25 = .ok (.iconst 2, 1) := by decide +kernel
theorem dL_way_26 : decode cL_way 26 = .ok (.ireturn, 1) := by decide +kernel
theorem dL_way_27 : decode cL_way 27 = .ok (.iconst 0, 1) := by decide +kernel
theorem dL_way_28 : decode cL_way 28 = .ok (.ireturn, 1) := by decide +kernel
theorem dL_whyNot_0 : decode cL_whyNot 0 = .ok (.aload_n 3, 1) := by decide +kernel
theorem dL_whyNot_1 : decode cL_whyNot 1 = .ok (.iconst 0, 1) := by decide +kernel
theorem dL_whyNot_2 : decode cL_whyNot 2 = .ok (.aload_n 0, 1) := by decide +kernel
theorem dL_whyNot_3 : decode cL_whyNot 3 = .ok (.iload_n 1, 1) := by decide +kernel
theorem dL_whyNot_4 : decode cL_whyNot 4 = .ok (.iload_n 2, 1) := by decide +kernel
theorem dL_whyNot_5 : decode cL_whyNot 5 = .ok (.invokevirtual 66, 3) := by decide +kernel
theorem dL_whyNot_8 : decode cL_whyNot 8 = .ok (.i2l, 1) := by decide +kernel
theorem dL_whyNot_9 : decode cL_whyNot 9 = .ok (.lastore, 1) := by decide +kernel
theorem dL_whyNot_10 : decode cL_whyNot 10 = .ok (.goto 7, 3) := by decide +kernel
theorem dL_whyNot_13 : decode cL_whyNot 13 = .ok (.astore 4, 2) := by decide +kernel
theorem dL_whyNot_15 : decode cL_whyNot 15 = .ok (.iconst 1, 1) := by decide +kernel
theorem dL_whyNot_16 : decode cL_whyNot 16 = .ok (.ireturn, 1) := by decide +kernel
theorem dL_whyNot_17 : decode cL_whyNot 17 = .ok (.iconst 0, 1) := by decide +kernel
theorem dL_whyNot_18 : decode cL_whyNot 18 = .ok (.ireturn, 1) := by decide +kernel
theorem dL_levelFor_0 : decode cL_levelFor 0 = .ok (.aload_n 3, 1) := by decide +kernel
theorem dL_levelFor_1 : decode cL_levelFor 1 = .ok (.iconst 0, 1) := by decide +kernel
theorem dL_levelFor_2 : decode cL_levelFor 2 = .ok (.aload_n 0, 1) := by decide +kernel
theorem dL_levelFor_3 : decode cL_levelFor 3 = .ok (.iload_n 1, 1) := by decide +kernel
theorem dL_levelFor_4 : decode cL_levelFor 4 = .ok (.iload_n 2, 1) := by decide +kernel
theorem dL_levelFor_5 : decode cL_levelFor 5 = .ok (.invokevirtual 69, 3) := by decide +kernel
theorem dL_levelFor_8 : decode cL_levelFor 8 = .ok (.i2l, 1) := by decide +kernel
theorem dL_levelFor_9 : decode cL_levelFor 9 = .ok (.lastore, 1) := by decide +kernel
theorem dL_levelFor_10 : decode cL_levelFor 10 = .ok (.goto 7, 3) := by decide +kernel
theorem dL_levelFor_13 : decode cL_levelFor 13 = .ok (.astore 4, 2) := by decide +kernel
theorem dL_levelFor_15 : decode cL_levelFor 15 = .ok (.iconst 1, 1) := by decide +kernel
theorem dL_levelFor_16 : decode cL_levelFor 16 = .ok (.ireturn, 1) := by decide +kernel
theorem dL_levelFor_17 : decode cL_levelFor 17 = .ok (.iconst 0, 1) := by decide +kernel
theorem dL_levelFor_18 : decode cL_levelFor 18 = .ok (.ireturn, 1) := by decide +kernel
theorem dL_bestContract_0 : decode cL_bestContract 0 = .ok (.aload_n 2, 1) := by decide +kernel
theorem dL_bestContract_1 : decode cL_bestContract 1 = .ok (.iconst 0, 1) := by decide +kernel
theorem dL_bestContract_2 : decode cL_bestContract 2 = .ok (.aload_n 0, 1) := by decide +kernel
theorem dL_bestContract_3 : decode cL_bestContract 3 = .ok (.iload_n 1, 1) := by decide +kernel
theorem dL_bestContract_4 : decode cL_bestContract 4 = .ok (.invokevirtual 72, 3) := by decide +kernel
theorem dL_bestContract_7 : decode cL_bestContract 7 = .ok (.i2l, 1) := by decide +kernel
theorem dL_bestContract_8 : decode cL_bestContract 8 = .ok (.lastore, 1) := by decide +kernel
theorem dL_bestContract_9 : decode cL_bestContract 9 = .ok (.goto 6, 3) := by decide +kernel
theorem dL_bestContract_12 : decode cL_bestContract 12 = .ok (.astore_n 3, 1) := by decide +kernel
theorem dL_bestContract_13 : decode cL_bestContract 13 = .ok (.iconst 1, 1) := by decide +kernel
theorem dL_bestContract_14 : decode cL_bestContract 14 = .ok (.ireturn, 1) := by decide +kernel
theorem dL_bestContract_15 : decode cL_bestContract 15 = .ok (.iconst 0, 1) := by decide +kernel
theorem dL_bestContract_16 : decode cL_bestContract 16 = .ok (.ireturn, 1) := by decide +kernel
theorem dL_coinsAfter_0 : decode cL_coinsAfter 0 = .ok (.aload_n 3, 1) := by decide +kernel
theorem dL_coinsAfter_1 : decode cL_coinsAfter 1 = .ok (.iconst 0, 1) := by decide +kernel
theorem dL_coinsAfter_2 : decode cL_coinsAfter 2 = .ok (.aload_n 0, 1) := by decide +kernel
theorem dL_coinsAfter_3 : decode cL_coinsAfter 3 = .ok (.iload_n 1, 1) := by decide +kernel
theorem dL_coinsAfter_4 : decode cL_coinsAfter 4 = .ok (.iload_n 2, 1) := by decide +kernel
theorem dL_coinsAfter_5 : decode cL_coinsAfter 5 = .ok (.invokevirtual 75, 3) := by decide +kernel
theorem dL_coinsAfter_8 : decode cL_coinsAfter 8 = .ok (.i2l, 1) := by decide +kernel
theorem dL_coinsAfter_9 : decode cL_coinsAfter 9 = .ok (.lastore, 1) := by decide +kernel
theorem dL_coinsAfter_10 : decode cL_coinsAfter 10 = .ok (.goto 11, 3) := by decide +kernel
theorem dL_coinsAfter_13 : decode cL_coinsAfter 13 = .ok (.astore 4, 2) := by decide +kernel
theorem dL_coinsAfter_15 : decode cL_coinsAfter 15 = .ok (.iconst 1, 1) := by decide +kernel
theorem dL_coinsAfter_16 : decode cL_coinsAfter 16 = .ok (.ireturn, 1) := by decide +kernel
theorem dL_coinsAfter_17 : decode cL_coinsAfter 17 = .ok (.astore 4, 2) := by decide +kernel
theorem dL_coinsAfter_19 : decode cL_coinsAfter 19 = .ok (.iconst 2, 1) := by decide +kernel
theorem dL_coinsAfter_20 : decode cL_coinsAfter 20 = .ok (.ireturn, 1) := by decide +kernel
theorem dL_coinsAfter_21 : decode cL_coinsAfter 21 = .ok (.iconst 0, 1) := by decide +kernel
theorem dL_coinsAfter_22 : decode cL_coinsAfter 22 = .ok (.ireturn, 1) := by decide +kernel
theorem dL_bankruptAfter_0 : decode cL_bankruptAfter 0 = .ok (.aload_n 2, 1) := by decide +kernel
theorem dL_bankruptAfter_1 : decode cL_bankruptAfter 1 = .ok (.iconst 0, 1) := by decide +kernel
theorem dL_bankruptAfter_2 : decode cL_bankruptAfter 2 = .ok (.aload_n 0, 1) := by decide +kernel
theorem dL_bankruptAfter_3 : decode cL_bankruptAfter 3 = .ok (.iload_n 1, 1) := by decide +kernel
theorem dL_bankruptAfter_4 : decode cL_bankruptAfter 4 = .ok (.invokevirtual 78, 3) := by decide +kernel
theorem dL_bankruptAfter_7 : decode cL_bankruptAfter 7 = .ok (.i2l, 1) := by decide +kernel
theorem dL_bankruptAfter_8 : decode cL_bankruptAfter 8 = .ok (.lastore, 1) := by decide +kernel
theorem dL_bankruptAfter_9 : decode cL_bankruptAfter 9 = .ok (.goto 6, 3) := by decide +kernel
theorem dL_bankruptAfter_12 : decode cL_bankruptAfter 12 = .ok (.astore_n 3, 1) := by decide +kernel
theorem dL_bankruptAfter_13 : decode cL_bankruptAfter 13 = .ok (.iconst 1, 1) := by decide +kernel
theorem dL_bankruptAfter_14 : decode cL_bankruptAfter 14 = .ok (.ireturn, 1) := by decide +kernel
theorem dL_bankruptAfter_15 : decode cL_bankruptAfter 15 = .ok (.iconst 0, 1) := by decide +kernel
theorem dL_bankruptAfter_16 : decode cL_bankruptAfter 16 = .ok (.ireturn, 1) := by decide +kernel
theorem dL_worth_0 : decode cL_worth 0 = .ok (.aload_n 2, 1) := by decide +kernel
theorem dL_worth_1 : decode cL_worth 1 = .ok (.iconst 0, 1) := by decide +kernel
theorem dL_worth_2 : decode cL_worth 2 = .ok (.aload_n 0, 1) := by decide +kernel
theorem dL_worth_3 : decode cL_worth 3 = .ok (.iload_n 1, 1) := by decide +kernel
theorem dL_worth_4 : decode cL_worth 4 = .ok (.invokevirtual 81, 3) := by decide +kernel
theorem dL_worth_7 : decode cL_worth 7 = .ok (.i2l, 1) := by decide +kernel
theorem dL_worth_8 : decode cL_worth 8 = .ok (.lastore, 1) := by decide +kernel
theorem dL_worth_9 : decode cL_worth 9 = .ok (.goto 6, 3) := by decide +kernel
theorem dL_worth_12 : decode cL_worth 12 = .ok (.astore_n 3, 1) := by decide +kernel
theorem dL_worth_13 : decode cL_worth 13 = .ok (.iconst 1, 1) := by decide +kernel
theorem dL_worth_14 : decode cL_worth 14 = .ok (.ireturn, 1) := by decide +kernel
theorem dL_worth_15 : decode cL_worth 15 = .ok (.iconst 0, 1) := by decide +kernel
theorem dL_worth_16 : decode cL_worth 16 = .ok (.ireturn, 1) := by decide +kernel
theorem dL_runScript_0 : decode cL_runScript 0 = .ok (.aload 4, 2) := by decide +kernel
theorem dL_runScript_2 : decode cL_runScript 2 = .ok (.iconst 0, 1) := by decide +kernel
theorem dL_runScript_3 : decode cL_runScript 3 = .ok (.aload_n 0, 1) := by decide +kernel
theorem dL_runScript_4 : decode cL_runScript 4 = .ok (.iload_n 1, 1) := by decide +kernel
theorem dL_runScript_5 : decode cL_runScript 5 = .ok (.lload_n 2, 1) := by decide +kernel
theorem dL_runScript_6 : decode cL_runScript 6 = .ok (.invokevirtual 84, 3) := by decide +kernel
theorem dL_runScript_9 : decode cL_runScript 9 = .ok (.i2l, 1) := by decide +kernel
theorem dL_runScript_10 : decode cL_runScript 10 = .ok (.lastore, 1) := by decide +kernel
theorem dL_runScript_11 : decode cL_runScript 11 = .ok (.goto 7, 3) := by decide +kernel
theorem dL_runScript_14 : decode cL_runScript 14 = .ok (.astore 5, 2) := by decide +kernel
theorem dL_runScript_16 : decode cL_runScript 16 = .ok (.iconst 1, 1) := by decide +kernel
theorem dL_runScript_17 : decode cL_runScript 17 = .ok (.ireturn, 1) := by decide +kernel
theorem dL_runScript_18 : decode cL_runScript 18 = .ok (.iconst 0, 1) := by decide +kernel
theorem dL_runScript_19 : decode cL_runScript 19 = .ok (.ireturn, 1) := by decide +kernel
theorem dL_simulate_0 : decode cL_simulate 0 = .ok (.aload 4, 2) := by decide +kernel
theorem dL_simulate_2 : decode cL_simulate 2 = .ok (.iconst 0, 1) := by decide +kernel
theorem dL_simulate_3 : decode cL_simulate 3 = .ok (.aload_n 0, 1) := by decide +kernel
theorem dL_simulate_4 : decode cL_simulate 4 = .ok (.lload_n 1, 1) := by decide +kernel
theorem dL_simulate_5 : decode cL_simulate 5 = .ok (.iload_n 3, 1) := by decide +kernel
theorem dL_simulate_6 : decode cL_simulate 6 = .ok (.invokevirtual 88, 3) := by decide +kernel
theorem dL_simulate_9 : decode cL_simulate 9 = .ok (.i2l, 1) := by decide +kernel
theorem dL_simulate_10 : decode cL_simulate 10 = .ok (.lastore, 1) := by decide +kernel
theorem dL_simulate_11 : decode cL_simulate 11 = .ok (.goto 7, 3) := by decide +kernel
theorem dL_simulate_14 : decode cL_simulate 14 = .ok (.astore 5, 2) := by decide +kernel
theorem dL_simulate_16 : decode cL_simulate 16 = .ok (.iconst 1, 1) := by decide +kernel
theorem dL_simulate_17 : decode cL_simulate 17 = .ok (.ireturn, 1) := by decide +kernel
theorem dL_simulate_18 : decode cL_simulate 18 = .ok (.iconst 0, 1) := by decide +kernel
theorem dL_simulate_19 : decode cL_simulate 19 = .ok (.ireturn, 1) := by decide +kernel
theorem dL_save_0 : decode cL_save 0 = .ok (.aload_n 2, 1) := by decide +kernel
theorem dL_save_1 : decode cL_save 1 = .ok (.iconst 0, 1) := by decide +kernel
theorem dL_save_2 : decode cL_save 2 = .ok (.aload_n 0, 1) := by decide +kernel
theorem dL_save_3 : decode cL_save 3 = .ok (.iload_n 1, 1) := by decide +kernel
theorem dL_save_4 : decode cL_save 4 = .ok (.invokevirtual 92, 3) := by decide +kernel
theorem dL_save_7 : decode cL_save 7 = .ok (.i2l, 1) := by decide +kernel
theorem dL_save_8 : decode cL_save 8 = .ok (.lastore, 1) := by decide +kernel
theorem dL_save_9 : decode cL_save 9 = .ok (.goto 6, 3) := by decide +kernel
theorem dL_save_12 : decode cL_save 12 = .ok (.astore_n 3, 1) := by decide +kernel
theorem dL_save_13 : decode cL_save 13 = .ok (.iconst 1, 1) := by decide +kernel
theorem dL_save_14 : decode cL_save 14 = .ok (.ireturn, 1) := by decide +kernel
theorem dL_save_15 : decode cL_save 15 = .ok (.iconst 0, 1) := by decide +kernel
theorem dL_save_16 : decode cL_save 16 = .ok (.ireturn, 1) := by decide +kernel
theorem dL_restore_0 : decode cL_restore 0 = .ok (.aload_n 2, 1) := by decide +kernel
theorem dL_restore_1 : decode cL_restore 1 = .ok (.iconst 0, 1) := by decide +kernel
theorem dL_restore_2 : decode cL_restore 2 = .ok (.aload_n 0, 1) := by decide +kernel
theorem dL_restore_3 : decode cL_restore 3 = .ok (.iload_n 1, 1) := by decide +kernel
theorem dL_restore_4 : decode cL_restore 4 = .ok (.invokevirtual 95, 3) := by decide +kernel
theorem dL_restore_7 : decode cL_restore 7 = .ok (.i2l, 1) := by decide +kernel
theorem dL_restore_8 : decode cL_restore 8 = .ok (.lastore, 1) := by decide +kernel
theorem dL_restore_9 : decode cL_restore 9 = .ok (.goto 9, 3) := by decide +kernel
theorem dL_restore_12 : decode cL_restore 12 = .ok (.astore_n 3, 1) := by decide +kernel
theorem dL_restore_13 : decode cL_restore 13 = .ok (.iconst 1, 1) := by decide +kernel
theorem dL_restore_14 : decode cL_restore 14 = .ok (.ireturn, 1) := by decide +kernel
theorem dL_restore_15 : decode cL_restore 15 = .ok (.astore_n 3, 1) := by decide +kernel
theorem dL_restore_16 : decode cL_restore 16 = .ok (.iconst 2, 1) := by decide +kernel
theorem dL_restore_17 : decode cL_restore 17 = .ok (.ireturn, 1) := by decide +kernel
theorem dL_restore_18 : decode cL_restore 18 = .ok (.iconst 0, 1) := by decide +kernel
theorem dL_restore_19 : decode cL_restore 19 = .ok (.ireturn, 1) := by decide +kernel
theorem dL_law_0 : decode cL_law 0 = .ok (.new 8, 3) := by decide +kernel
theorem dL_law_3 : decode cL_law 3 = .ok (.dup, 1) := by decide +kernel
theorem dL_law_4 : decode cL_law 4 = .ok (.invokespecial 98, 3) := by decide +kernel
theorem dL_law_7 : decode cL_law 7 = .ok (.astore_n 1, 1) := by decide +kernel
theorem dL_law_8 : decode cL_law 8 = .ok (.new 99, 3) := by decide +kernel
theorem dL_law_11 : decode cL_law 11 = .ok (.dup, 1) := by decide +kernel
theorem dL_law_12 : decode cL_law 12 = .ok (.invokespecial 101, 3) := by decide +kernel
theorem dL_law_15 : decode cL_law 15 = .ok (.astore_n 2, 1) := by decide +kernel
theorem dL_law_16 : decode cL_law 16 = .ok (.iconst 1, 1) := by decide +kernel
theorem dL_law_17 : decode cL_law 17 = .ok (.newarray .long, 2) := by decide +kernel
theorem dL_law_19 : decode cL_law 19 = .ok (.astore_n 3, 1) := by decide +kernel
theorem dL_law_20 : decode cL_law 20 = .ok (.iconst 0, 1) := by decide +kernel
theorem dL_law_21 : decode cL_law 21 = .ok (.istore 4, 2) := by decide +kernel
theorem dL_law_23 : decode cL_law 23 = .ok (.iload 4, 2) := by decide +kernel
theorem dL_law_25 : decode cL_law 25 = .ok (.aload_n 0, 1) := by decide +kernel
theorem dL_law_26 : decode cL_law 26 = .ok (.arraylength, 1) := by decide +kernel
theorem dL_law_27 : decode cL_law 27 = .ok (.bipush 6, 2) := by decide +kernel
theorem dL_law_29 : decode cL_law 29 = .ok (.isub, 1) := by decide +kernel
theorem dL_law_30 : decode cL_law 30 = .ok (.if_icmp .gt 1887, 3) := by decide +kernel
theorem dL_law_33 : decode cL_law 33 = .ok (.aload_n 0, 1) := by decide +kernel
theorem dL_law_34 : decode cL_law 34 = .ok (.iload 4, 2) := by decide +kernel
theorem dL_law_36 : decode cL_law 36 = .ok (.iaload, 1) := by decide +kernel
theorem dL_law_37 : decode cL_law 37 = .ok (.bipush 31, 2) := by decide +kernel
theorem dL_law_39 : decode cL_law 39 = .ok (.iand, 1) := by decide +kernel
theorem dL_law_40 : decode cL_law 40 = .ok (.tableswitch 1871 0 27 #[128, 184, 197, 210, 254, 310, 378, 446, 526, 594, 662, 730, 798, 890, 958, 1026, 1039, 1083, 1187, 1255, 1323, 1379, 1447, 1503, 1559, 1659, 1759, 1815], 128) := by decide +kernel
theorem dL_law_168 : decode cL_law 168 = .ok (.aload_n 1, 1) := by decide +kernel
theorem dL_law_169 : decode cL_law 169 = .ok (.aload_n 0, 1) := by decide +kernel
theorem dL_law_170 : decode cL_law 170 = .ok (.iload 4, 2) := by decide +kernel
theorem dL_law_172 : decode cL_law 172 = .ok (.iconst 1, 1) := by decide +kernel
theorem dL_law_173 : decode cL_law 173 = .ok (.iadd, 1) := by decide +kernel
theorem dL_law_174 : decode cL_law 174 = .ok (.iaload, 1) := by decide +kernel
theorem dL_law_175 : decode cL_law 175 = .ok (.aload_n 3, 1) := by decide +kernel
theorem dL_law_176 : decode cL_law 176 = .ok (.invokestatic 102, 3) := by decide +kernel
theorem dL_law_179 : decode cL_law 179 = .ok (.istore 5, 2) := by decide +kernel
theorem dL_law_181 : decode cL_law 181 = .ok (.aload_n 2, 1) := by decide +kernel
theorem dL_law_182 : decode cL_law 182 = .ok (.aload_n 0, 1) := by decide +kernel
theorem dL_law_183 : decode cL_law 183 = .ok (.iload 4, 2) := by decide +kernel
theorem dL_law_185 : decode cL_law 185 = .ok (.iconst 1, 1) := by decide +kernel
theorem dL_law_186 : decode cL_law 186 = .ok (.iadd, 1) := by decide +kernel
theorem dL_law_187 : decode cL_law 187 = .ok (.iaload, 1) := by decide +kernel
theorem dL_law_188 : decode cL_law 188 = .ok (.invokevirtual 107, 3) := by decide +kernel
theorem dL_law_191 : decode cL_law 191 = .ok (.istore 6, 2) := by decide +kernel
theorem dL_law_193 : decode cL_law 193 = .ok (.aload_n 2, 1) := by decide +kernel
theorem dL_law_194 : decode cL_law 194 = .ok (.invokevirtual 108, 3) := by decide +kernel
theorem dL_law_197 : decode cL_law 197 = .ok (.iload 5, 2) := by decide +kernel
theorem dL_law_199 : decode cL_law 199 = .ok (.if_icmp .eq 5, 3) := by decide +kernel
theorem dL_law_202 : decode cL_law 202 = .ok (.iconst 0, 1) := by decide +kernel
theorem dL_law_203 : decode cL_law 203 = .ok (.ireturn, 1) := by decide +kernel
theorem dL_law_204 : decode cL_law 204 = .ok (.iload 5, 2) := by decide +kernel
theorem dL_law_206 : decode cL_law 206 = .ok (.ifCond .ne 15, 3) := by decide +kernel
theorem dL_law_209 : decode cL_law 209 = .ok (.aload_n 3, 1) := by decide +kernel
theorem dL_law_210 : decode cL_law 210 = .ok (.iconst 0, 1) := by decide +kernel
theorem dL_law_211 : decode cL_law 211 = .ok (.laload, 1) := by decide +kernel
theorem dL_law_212 : decode cL_law 212 = .ok (.iload 6, 2) := by decide +kernel
theorem dL_law_214 : decode cL_law 214 = .ok (.i2l, 1) := by decide +kernel
theorem dL_law_215 : decode cL_law 215 = .ok (.lcmp, 1) := by decide +kernel
theorem dL_law_216 : decode cL_law 216 = .ok (.ifCond .eq 5, 3) := by decide +kernel
theorem dL_law_219 : decode cL_law 219 = .ok (.iconst 0, 1) := by decide +kernel
theorem dL_law_220 : decode cL_law 220 = .ok (.ireturn, 1) := by decide +kernel
theorem dL_law_221 : decode cL_law 221 = .ok (.goto 1690, 3) := by decide +kernel
theorem dL_law_224 : decode cL_law 224 = .ok (.aload_n 1, 1) := by decide +kernel
theorem dL_law_225 : decode cL_law 225 = .ok (.invokevirtual 111, 3) := by decide +kernel
theorem dL_law_228 : decode cL_law 228 = .ok (.aload_n 2, 1) := by decide +kernel
theorem dL_law_229 : decode cL_law 229 = .ok (.invokevirtual 114, 3) := by decide +kernel
theorem dL_law_232 : decode cL_law 232 = .ok (.if_icmp .eq 1679, 3) := by decide +kernel
theorem dL_law_235 : decode cL_law 235 = .ok (.iconst 0, 1) := by decide +kernel
theorem dL_law_236 : decode cL_law 236 = .ok (.ireturn, 1) := by decide +kernel
theorem dL_law_237 : decode cL_law 237 = .ok (.aload_n 1, 1) := by decide +kernel
theorem dL_law_238 : decode cL_law 238 = .ok (.invokevirtual 115, 3) := by decide +kernel
theorem dL_law_241 : decode cL_law 241 = .ok (.aload_n 2, 1) := by decide +kernel
theorem dL_law_242 : decode cL_law 242 = .ok (.invokevirtual 118, 3) := by decide +kernel
theorem dL_law_245 : decode cL_law 245 = .ok (.if_icmp .eq 1666, 3) := by decide +kernel
theorem dL_law_248 : decode cL_law 248 = .ok (.iconst 0, 1) := by decide +kernel
theorem dL_law_249 : decode cL_law 249 = .ok (.ireturn, 1) := by decide +kernel
theorem dL_law_250 : decode cL_law 250 = .ok (.aload_n 1, 1) := by decide +kernel
theorem dL_law_251 : decode cL_law 251 = .ok (.aload_n 3, 1) := by decide +kernel
theorem dL_law_252 : decode cL_law 252 = .ok (.invokestatic 119, 3) := by decide +kernel
theorem dL_law_255 : decode cL_law 255 = .ok (.istore 5, 2) := by decide +kernel
theorem dL_law_257 : decode cL_law 257 = .ok (.aload_n 2, 1) := by decide +kernel
theorem dL_law_258 : decode cL_law 258 = .ok (.invokevirtual 122, 3) := by decide +kernel
theorem dL_law_261 : decode cL_law 261 = .ok (.istore 6, 2) := by decide +kernel
theorem dL_law_263 : decode cL_law 263 = .ok (.aload_n 2, 1) := by decide +kernel
theorem dL_law_264 : decode cL_law 264 = .ok (.invokevirtual 108, 3) := by decide +kernel
theorem dL_law_267 : decode cL_law 267 = .ok (.iload 5, 2) := by decide +kernel
theorem dL_law_269 : decode cL_law 269 = .ok (.if_icmp .eq 5, 3) := by decide +kernel
theorem dL_law_272 : decode cL_law 272 = .ok (.iconst 0, 1) := by decide +kernel
theorem dL_law_273 : decode cL_law 273 = .ok (.ireturn, 1) := by decide +kernel
theorem dL_law_274 : decode cL_law 274 = .ok (.iload 5, 2) := by decide +kernel
theorem dL_law_276 : decode cL_law 276 = .ok (.ifCond .ne 15, 3) := by decide +kernel
theorem dL_law_279 : decode cL_law 279 = .ok (.aload_n 3, 1) := by decide +kernel
theorem dL_law_280 : decode cL_law 280 = .ok (.iconst 0, 1) := by decide +kernel
theorem dL_law_281 : decode cL_law 281 = .ok (.laload, 1) := by decide +kernel
theorem dL_law_282 : decode cL_law 282 = .ok (.iload 6, 2) := by decide +kernel
theorem dL_law_284 : decode cL_law 284 = .ok (.i2l, 1) := by decide +kernel
theorem dL_law_285 : decode cL_law 285 = .ok (.lcmp, 1) := by decide +kernel
theorem dL_law_286 : decode cL_law 286 = .ok (.ifCond .eq 5, 3) := by decide +kernel
theorem dL_law_289 : decode cL_law 289 = .ok (.iconst 0, 1) := by decide +kernel
theorem dL_law_290 : decode cL_law 290 = .ok (.ireturn, 1) := by decide +kernel
theorem dL_law_291 : decode cL_law 291 = .ok (.goto 1620, 3) := by decide +kernel
theorem dL_law_294 : decode cL_law 294 = .ok (.aload_n 1, 1) := by decide +kernel
theorem dL_law_295 : decode cL_law 295 = .ok (.aload_n 0, 1) := by decide +kernel
theorem dL_law_296 : decode cL_law 296 = .ok (.iload 4, 2) := by decide +kernel
theorem dL_law_298 : decode cL_law 298 = .ok (.iconst 1, 1) := by decide +kernel
theorem dL_law_299 : decode cL_law 299 = .ok (.iadd, 1) := by decide +kernel
theorem dL_law_300 : decode cL_law 300 = .ok (.iaload, 1) := by decide +kernel
theorem dL_law_301 : decode cL_law 301 = .ok (.aload_n 3, 1) := by decide +kernel
theorem dL_law_302 : decode cL_law 302 = .ok (.invokestatic 123, 3) := by decide +kernel
theorem dL_law_305 : decode cL_law 305 = .ok (.istore 5, 2) := by decide +kernel
theorem dL_law_307 : decode cL_law 307 = .ok (.aload_n 2, 1) := by decide +kernel
theorem dL_law_308 : decode cL_law 308 = .ok (.aload_n 0, 1) := by decide +kernel
theorem dL_law_309 : decode cL_law 309 = .ok (.iload 4, 2) := by decide +kernel
theorem dL_law_311 : decode cL_law 311 = .ok (.iconst 1, 1) := by decide +kernel
theorem dL_law_312 : decode cL_law 312 = .ok (.iadd, 1) := by decide +kernel
theorem dL_law_313 : decode cL_law 313 = .ok (.iaload, 1) := by decide +kernel
theorem dL_law_314 : decode cL_law 314 = .ok (.invokevirtual 125, 3) := by decide +kernel
theorem dL_law_317 : decode cL_law 317 = .ok (.istore 6, 2) := by decide +kernel
theorem dL_law_319 : decode cL_law 319 = .ok (.aload_n 2, 1) := by decide +kernel
theorem dL_law_320 : decode cL_law 320 = .ok (.invokevirtual 108, 3) := by decide +kernel
theorem dL_law_323 : decode cL_law 323 = .ok (.iload 5, 2) := by decide +kernel
theorem dL_law_325 : decode cL_law 325 = .ok (.if_icmp .eq 5, 3) := by decide +kernel
theorem dL_law_328 : decode cL_law 328 = .ok (.iconst 0, 1) := by decide +kernel
theorem dL_law_329 : decode cL_law 329 = .ok (.ireturn, 1) := by decide +kernel
theorem dL_law_330 : decode cL_law 330 = .ok (.iload 5, 2) := by decide +kernel
theorem dL_law_332 : decode cL_law 332 = .ok (.ifCond .ne 15, 3) := by decide +kernel
theorem dL_law_335 : decode cL_law 335 = .ok (.aload_n 3, 1) := by decide +kernel
theorem dL_law_336 : decode cL_law 336 = .ok (.iconst 0, 1) := by decide +kernel
theorem dL_law_337 : decode cL_law 337 = .ok (.laload, 1) := by decide +kernel
theorem dL_law_338 : decode cL_law 338 = .ok (.iload 6, 2) := by decide +kernel
theorem dL_law_340 : decode cL_law 340 = .ok (.i2l, 1) := by decide +kernel
theorem dL_law_341 : decode cL_law 341 = .ok (.lcmp, 1) := by decide +kernel
theorem dL_law_342 : decode cL_law 342 = .ok (.ifCond .eq 5, 3) := by decide +kernel
theorem dL_law_345 : decode cL_law 345 = .ok (.iconst 0, 1) := by decide +kernel
theorem dL_law_346 : decode cL_law 346 = .ok (.ireturn, 1) := by decide +kernel
theorem dL_law_347 : decode cL_law 347 = .ok (.goto 1564, 3) := by decide +kernel
theorem dL_law_350 : decode cL_law 350 = .ok (.aload_n 1, 1) := by decide +kernel
theorem dL_law_351 : decode cL_law 351 = .ok (.aload_n 0, 1) := by decide +kernel
theorem dL_law_352 : decode cL_law 352 = .ok (.iload 4, 2) := by decide +kernel
theorem dL_law_354 : decode cL_law 354 = .ok (.iconst 1, 1) := by decide +kernel
theorem dL_law_355 : decode cL_law 355 = .ok (.iadd, 1) := by decide +kernel
theorem dL_law_356 : decode cL_law 356 = .ok (.iaload, 1) := by decide +kernel
theorem dL_law_357 : decode cL_law 357 = .ok (.aload_n 0, 1) := by decide +kernel
theorem dL_law_358 : decode cL_law 358 = .ok (.iload 4, 2) := by decide +kernel
theorem dL_law_360 : decode cL_law 360 = .ok (.iconst 2, 1) := by decide +kernel
theorem dL_law_361 : decode cL_law 361 = .ok (.iadd, 1) := by decide +kernel
theorem dL_law_362 : decode cL_law 362 = .ok (.iaload, 1) := by decide +kernel
theorem dL_law_363 : decode cL_law 363 = .ok (.aload_n 3, 1) := by decide +kernel
theorem dL_law_364 : decode cL_law 364 = .ok (.invokestatic 126, 3) := by decide +kernel
theorem dL_law_367 : decode cL_law 367 = .ok (.istore 5, 2) := by decide +kernel
theorem dL_law_369 : decode cL_law 369 = .ok (.aload_n 2, 1) := by decide +kernel
theorem dL_law_370 : decode cL_law 370 = .ok (.aload_n 0, 1) := by decide +kernel
theorem dL_law_371 : decode cL_law 371 = .ok (.iload 4, 2) := by decide +kernel
theorem dL_law_373 : decode cL_law 373 = .ok (.iconst 1, 1) := by decide +kernel
theorem dL_law_374 : decode cL_law 374 = .ok (.iadd, 1) := by decide +kernel
theorem dL_law_375 : decode cL_law 375 = .ok (.iaload, 1) := by decide +kernel
theorem dL_law_376 : decode cL_law 376 = .ok (.aload_n 0, 1) := by decide +kernel
theorem dL_law_377 : decode cL_law 377 = .ok (.iload 4, 2) := by decide +kernel
theorem dL_law_379 : decode cL_law 379 = .ok (.iconst 2, 1) := by decide +kernel
theorem dL_law_380 : decode cL_law 380 = .ok (.iadd, 1) := by decide +kernel
theorem dL_law_381 : decode cL_law 381 = .ok (.iaload, 1) := by decide +kernel
theorem dL_law_382 : decode cL_law 382 = .ok (.invokevirtual 129, 3) := by decide +kernel
theorem dL_law_385 : decode cL_law 385 = .ok (.istore 6, 2) := by decide +kernel
theorem dL_law_387 : decode cL_law 387 = .ok (.aload_n 2, 1) := by decide +kernel
theorem dL_law_388 : decode cL_law 388 = .ok (.invokevirtual 108, 3) := by decide +kernel
theorem dL_law_391 : decode cL_law 391 = .ok (.iload 5, 2) := by decide +kernel
theorem dL_law_393 : decode cL_law 393 = .ok (.if_icmp .eq 5, 3) := by decide +kernel
theorem dL_law_396 : decode cL_law 396 = .ok (.iconst 0, 1) := by decide +kernel
theorem dL_law_397 : decode cL_law 397 = .ok (.ireturn, 1) := by decide +kernel
theorem dL_law_398 : decode cL_law 398 = .ok (.iload 5, 2) := by decide +kernel
theorem dL_law_400 : decode cL_law 400 = .ok (.ifCond .ne 15, 3) := by decide +kernel
theorem dL_law_403 : decode cL_law 403 = .ok (.aload_n 3, 1) := by decide +kernel
theorem dL_law_404 : decode cL_law 404 = .ok (.iconst 0, 1) := by decide +kernel
theorem dL_law_405 : decode cL_law 405 = .ok (.laload, 1) := by decide +kernel
theorem dL_law_406 : decode cL_law 406 = .ok (.iload 6, 2) := by decide +kernel
theorem dL_law_408 : decode cL_law 408 = .ok (.i2l, 1) := by decide +kernel
theorem dL_law_409 : decode cL_law 409 = .ok (.lcmp, 1) := by decide +kernel
theorem dL_law_410 : decode cL_law 410 = .ok (.ifCond .eq 5, 3) := by decide +kernel
theorem dL_law_413 : decode cL_law 413 = .ok (.iconst 0, 1) := by decide +kernel
theorem dL_law_414 : decode cL_law 414 = .ok (.ireturn, 1) := by decide +kernel
theorem dL_law_415 : decode cL_law 415 = .ok (.goto 1496, 3) := by decide +kernel
theorem dL_law_418 : decode cL_law 418 = .ok (.aload_n 1, 1) := by decide +kernel
theorem dL_law_419 : decode cL_law 419 = .ok (.aload_n 0, 1) := by decide +kernel
theorem dL_law_420 : decode cL_law 420 = .ok (.iload 4, 2) := by decide +kernel
theorem dL_law_422 : decode cL_law 422 = .ok (.iconst 1, 1) := by decide +kernel
theorem dL_law_423 : decode cL_law 423 = .ok (.iadd, 1) := by decide +kernel
theorem dL_law_424 : decode cL_law 424 = .ok (.iaload, 1) := by decide +kernel
theorem dL_law_425 : decode cL_law 425 = .ok (.aload_n 0, 1) := by decide +kernel
theorem dL_law_426 : decode cL_law 426 = .ok (.iload 4, 2) := by decide +kernel
theorem dL_law_428 : decode cL_law 428 = .ok (.iconst 2, 1) := by decide +kernel
theorem dL_law_429 : decode cL_law 429 = .ok (.iadd, 1) := by decide +kernel
theorem dL_law_430 : decode cL_law 430 = .ok (.iaload, 1) := by decide +kernel
theorem dL_law_431 : decode cL_law 431 = .ok (.aload_n 3, 1) := by decide +kernel
theorem dL_law_432 : decode cL_law 432 = .ok (.invokestatic 130, 3) := by decide +kernel
theorem dL_law_435 : decode cL_law 435 = .ok (.istore 5, 2) := by decide +kernel
theorem dL_law_437 : decode cL_law 437 = .ok (.aload_n 2, 1) := by decide +kernel
theorem dL_law_438 : decode cL_law 438 = .ok (.aload_n 0, 1) := by decide +kernel
theorem dL_law_439 : decode cL_law 439 = .ok (.iload 4, 2) := by decide +kernel
theorem dL_law_441 : decode cL_law 441 = .ok (.iconst 1, 1) := by decide +kernel
theorem dL_law_442 : decode cL_law 442 = .ok (.iadd, 1) := by decide +kernel
theorem dL_law_443 : decode cL_law 443 = .ok (.iaload, 1) := by decide +kernel
theorem dL_law_444 : decode cL_law 444 = .ok (.aload_n 0, 1) := by decide +kernel
theorem dL_law_445 : decode cL_law 445 = .ok (.iload 4, 2) := by decide +kernel
theorem dL_law_447 : decode cL_law 447 = .ok (.iconst 2, 1) := by decide +kernel
theorem dL_law_448 : decode cL_law 448 = .ok (.iadd, 1) := by decide +kernel
theorem dL_law_449 : decode cL_law 449 = .ok (.iaload, 1) := by decide +kernel
theorem dL_law_450 : decode cL_law 450 = .ok (.invokevirtual 132, 3) := by decide +kernel
theorem dL_law_453 : decode cL_law 453 = .ok (.istore 6, 2) := by decide +kernel
theorem dL_law_455 : decode cL_law 455 = .ok (.aload_n 2, 1) := by decide +kernel
theorem dL_law_456 : decode cL_law 456 = .ok (.invokevirtual 108, 3) := by decide +kernel
theorem dL_law_459 : decode cL_law 459 = .ok (.iload 5, 2) := by decide +kernel
theorem dL_law_461 : decode cL_law 461 = .ok (.if_icmp .eq 5, 3) := by decide +kernel
theorem dL_law_464 : decode cL_law 464 = .ok (.iconst 0, 1) := by decide +kernel
theorem dL_law_465 : decode cL_law 465 = .ok (.ireturn, 1) := by decide +kernel
theorem dL_law_466 : decode cL_law 466 = .ok (.iload 5, 2) := by decide +kernel
theorem dL_law_468 : decode cL_law 468 = .ok (.ifCond .ne 15, 3) := by decide +kernel
theorem dL_law_471 : decode cL_law 471 = .ok (.aload_n 3, 1) := by decide +kernel
theorem dL_law_472 : decode cL_law 472 = .ok (.iconst 0, 1) := by decide +kernel
theorem dL_law_473 : decode cL_law 473 = .ok (.laload, 1) := by decide +kernel
theorem dL_law_474 : decode cL_law 474 = .ok (.iload 6, 2) := by decide +kernel
theorem dL_law_476 : decode cL_law 476 = .ok (.i2l, 1) := by decide +kernel
theorem dL_law_477 : decode cL_law 477 = .ok (.lcmp, 1) := by decide +kernel
theorem dL_law_478 : decode cL_law 478 = .ok (.ifCond .eq 5, 3) := by decide +kernel
theorem dL_law_481 : decode cL_law 481 = .ok (.iconst 0, 1) := by decide +kernel
theorem dL_law_482 : decode cL_law 482 = .ok (.ireturn, 1) := by decide +kernel
theorem dL_law_483 : decode cL_law 483 = .ok (.goto 1428, 3) := by decide +kernel
theorem dL_law_486 : decode cL_law 486 = .ok (.aload_n 1, 1) := by decide +kernel
theorem dL_law_487 : decode cL_law 487 = .ok (.aload_n 0, 1) := by decide +kernel
theorem dL_law_488 : decode cL_law 488 = .ok (.iload 4, 2) := by decide +kernel
theorem dL_law_490 : decode cL_law 490 = .ok (.iconst 1, 1) := by decide +kernel
theorem dL_law_491 : decode cL_law 491 = .ok (.iadd, 1) := by decide +kernel
theorem dL_law_492 : decode cL_law 492 = .ok (.iaload, 1) := by decide +kernel
theorem dL_law_493 : decode cL_law 493 = .ok (.aload_n 0, 1) := by decide +kernel
theorem dL_law_494 : decode cL_law 494 = .ok (.iload 4, 2) := by decide +kernel
theorem dL_law_496 : decode cL_law 496 = .ok (.iconst 2, 1) := by decide +kernel
theorem dL_law_497 : decode cL_law 497 = .ok (.iadd, 1) := by decide +kernel
theorem dL_law_498 : decode cL_law 498 = .ok (.iaload, 1) := by decide +kernel
theorem dL_law_499 : decode cL_law 499 = .ok (.aload_n 0, 1) := by decide +kernel
theorem dL_law_500 : decode cL_law 500 = .ok (.iload 4, 2) := by decide +kernel
theorem dL_law_502 : decode cL_law 502 = .ok (.iconst 3, 1) := by decide +kernel
theorem dL_law_503 : decode cL_law 503 = .ok (.iadd, 1) := by decide +kernel
theorem dL_law_504 : decode cL_law 504 = .ok (.iaload, 1) := by decide +kernel
theorem dL_law_505 : decode cL_law 505 = .ok (.aload_n 3, 1) := by decide +kernel
theorem dL_law_506 : decode cL_law 506 = .ok (.invokestatic 133, 3) := by decide +kernel
theorem dL_law_509 : decode cL_law 509 = .ok (.istore 5, 2) := by decide +kernel
theorem dL_law_511 : decode cL_law 511 = .ok (.aload_n 2, 1) := by decide +kernel
theorem dL_law_512 : decode cL_law 512 = .ok (.aload_n 0, 1) := by decide +kernel
theorem dL_law_513 : decode cL_law 513 = .ok (.iload 4, 2) := by decide +kernel
theorem dL_law_515 : decode cL_law 515 = .ok (.iconst 1, 1) := by decide +kernel
theorem dL_law_516 : decode cL_law 516 = .ok (.iadd, 1) := by decide +kernel
theorem dL_law_517 : decode cL_law 517 = .ok (.iaload, 1) := by decide +kernel
theorem dL_law_518 : decode cL_law 518 = .ok (.aload_n 0, 1) := by decide +kernel
theorem dL_law_519 : decode cL_law 519 = .ok (.iload 4, 2) := by decide +kernel
theorem dL_law_521 : decode cL_law 521 = .ok (.iconst 2, 1) := by decide +kernel
theorem dL_law_522 : decode cL_law 522 = .ok (.iadd, 1) := by decide +kernel
theorem dL_law_523 : decode cL_law 523 = .ok (.iaload, 1) := by decide +kernel
theorem dL_law_524 : decode cL_law 524 = .ok (.aload_n 0, 1) := by decide +kernel
theorem dL_law_525 : decode cL_law 525 = .ok (.iload 4, 2) := by decide +kernel
theorem dL_law_527 : decode cL_law 527 = .ok (.iconst 3, 1) := by decide +kernel
theorem dL_law_528 : decode cL_law 528 = .ok (.iadd, 1) := by decide +kernel
theorem dL_law_529 : decode cL_law 529 = .ok (.iaload, 1) := by decide +kernel
theorem dL_law_530 : decode cL_law 530 = .ok (.invokevirtual 136, 3) := by decide +kernel
theorem dL_law_533 : decode cL_law 533 = .ok (.istore 6, 2) := by decide +kernel
theorem dL_law_535 : decode cL_law 535 = .ok (.aload_n 2, 1) := by decide +kernel
theorem dL_law_536 : decode cL_law 536 = .ok (.invokevirtual 108, 3) := by decide +kernel
theorem dL_law_539 : decode cL_law 539 = .ok (.iload 5, 2) := by decide +kernel
theorem dL_law_541 : decode cL_law 541 = .ok (.if_icmp .eq 5, 3) := by decide +kernel
theorem dL_law_544 : decode cL_law 544 = .ok (.iconst 0, 1) := by decide +kernel
theorem dL_law_545 : decode cL_law 545 = .ok (.ireturn, 1) := by decide +kernel
theorem dL_law_546 : decode cL_law 546 = .ok (.iload 5, 2) := by decide +kernel
theorem dL_law_548 : decode cL_law 548 = .ok (.ifCond .ne 15, 3) := by decide +kernel
theorem dL_law_551 : decode cL_law 551 = .ok (.aload_n 3, 1) := by decide +kernel
theorem dL_law_552 : decode cL_law 552 = .ok (.iconst 0, 1) := by decide +kernel
theorem dL_law_553 : decode cL_law 553 = .ok (.laload, 1) := by decide +kernel
theorem dL_law_554 : decode cL_law 554 = .ok (.iload 6, 2) := by decide +kernel
theorem dL_law_556 : decode cL_law 556 = .ok (.i2l, 1) := by decide +kernel
theorem dL_law_557 : decode cL_law 557 = .ok (.lcmp, 1) := by decide +kernel
theorem dL_law_558 : decode cL_law 558 = .ok (.ifCond .eq 5, 3) := by decide +kernel
theorem dL_law_561 : decode cL_law 561 = .ok (.iconst 0, 1) := by decide +kernel
theorem dL_law_562 : decode cL_law 562 = .ok (.ireturn, 1) := by decide +kernel
theorem dL_law_563 : decode cL_law 563 = .ok (.goto 1348, 3) := by decide +kernel
theorem dL_law_566 : decode cL_law 566 = .ok (.aload_n 1, 1) := by decide +kernel
theorem dL_law_567 : decode cL_law 567 = .ok (.aload_n 0, 1) := by decide +kernel
theorem dL_law_568 : decode cL_law 568 = .ok (.iload 4, 2) := by decide +kernel
theorem dL_law_570 : decode cL_law 570 = .ok (.iconst 1, 1) := by decide +kernel
theorem dL_law_571 : decode cL_law 571 = .ok (.iadd, 1) := by decide +kernel
theorem dL_law_572 : decode cL_law 572 = .ok (.iaload, 1) := by decide +kernel
theorem dL_law_573 : decode cL_law 573 = .ok (.aload_n 0, 1) := by decide +kernel
theorem dL_law_574 : decode cL_law 574 = .ok (.iload 4, 2) := by decide +kernel
theorem dL_law_576 : decode cL_law 576 = .ok (.iconst 2, 1) := by decide +kernel
theorem dL_law_577 : decode cL_law 577 = .ok (.iadd, 1) := by decide +kernel
theorem dL_law_578 : decode cL_law 578 = .ok (.iaload, 1) := by decide +kernel
theorem dL_law_579 : decode cL_law 579 = .ok (.aload_n 3, 1) := by decide +kernel
theorem dL_law_580 : decode cL_law 580 = .ok (.invokestatic 137, 3) := by decide +kernel
theorem dL_law_583 : decode cL_law 583 = .ok (.istore 5, 2) := by decide +kernel
theorem dL_law_585 : decode cL_law 585 = .ok (.aload_n 2, 1) := by decide +kernel
theorem dL_law_586 : decode cL_law 586 = .ok (.aload_n 0, 1) := by decide +kernel
theorem dL_law_587 : decode cL_law 587 = .ok (.iload 4, 2) := by decide +kernel
theorem dL_law_589 : decode cL_law 589 = .ok (.iconst 1, 1) := by decide +kernel
theorem dL_law_590 : decode cL_law 590 = .ok (.iadd, 1) := by decide +kernel
theorem dL_law_591 : decode cL_law 591 = .ok (.iaload, 1) := by decide +kernel
theorem dL_law_592 : decode cL_law 592 = .ok (.aload_n 0, 1) := by decide +kernel
theorem dL_law_593 : decode cL_law 593 = .ok (.iload 4, 2) := by decide +kernel
theorem dL_law_595 : decode cL_law 595 = .ok (.iconst 2, 1) := by decide +kernel
theorem dL_law_596 : decode cL_law 596 = .ok (.iadd, 1) := by decide +kernel
theorem dL_law_597 : decode cL_law 597 = .ok (.iaload, 1) := by decide +kernel
theorem dL_law_598 : decode cL_law 598 = .ok (.invokevirtual 139, 3) := by decide +kernel
theorem dL_law_601 : decode cL_law 601 = .ok (.istore 6, 2) := by decide +kernel
theorem dL_law_603 : decode cL_law 603 = .ok (.aload_n 2, 1) := by decide +kernel
theorem dL_law_604 : decode cL_law 604 = .ok (.invokevirtual 108, 3) := by decide +kernel
theorem dL_law_607 : decode cL_law 607 = .ok (.iload 5, 2) := by decide +kernel
theorem dL_law_609 : decode cL_law 609 = .ok (.if_icmp .eq 5, 3) := by decide +kernel
theorem dL_law_612 : decode cL_law 612 = .ok (.iconst 0, 1) := by decide +kernel
theorem dL_law_613 : decode cL_law 613 = .ok (.ireturn, 1) := by decide +kernel
theorem dL_law_614 : decode cL_law 614 = .ok (.iload 5, 2) := by decide +kernel
theorem dL_law_616 : decode cL_law 616 = .ok (.ifCond .ne 15, 3) := by decide +kernel
theorem dL_law_619 : decode cL_law 619 = .ok (.aload_n 3, 1) := by decide +kernel
theorem dL_law_620 : decode cL_law 620 = .ok (.iconst 0, 1) := by decide +kernel
theorem dL_law_621 : decode cL_law 621 = .ok (.laload, 1) := by decide +kernel
theorem dL_law_622 : decode cL_law 622 = .ok (.iload 6, 2) := by decide +kernel
theorem dL_law_624 : decode cL_law 624 = .ok (.i2l, 1) := by decide +kernel
theorem dL_law_625 : decode cL_law 625 = .ok (.lcmp, 1) := by decide +kernel
theorem dL_law_626 : decode cL_law 626 = .ok (.ifCond .eq 5, 3) := by decide +kernel
theorem dL_law_629 : decode cL_law 629 = .ok (.iconst 0, 1) := by decide +kernel
theorem dL_law_630 : decode cL_law 630 = .ok (.ireturn, 1) := by decide +kernel
theorem dL_law_631 : decode cL_law 631 = .ok (.goto 1280, 3) := by decide +kernel
theorem dL_law_634 : decode cL_law 634 = .ok (.aload_n 1, 1) := by decide +kernel
theorem dL_law_635 : decode cL_law 635 = .ok (.aload_n 0, 1) := by decide +kernel
theorem dL_law_636 : decode cL_law 636 = .ok (.iload 4, 2) := by decide +kernel
theorem dL_law_638 : decode cL_law 638 = .ok (.iconst 1, 1) := by decide +kernel
theorem dL_law_639 : decode cL_law 639 = .ok (.iadd, 1) := by decide +kernel
theorem dL_law_640 : decode cL_law 640 = .ok (.iaload, 1) := by decide +kernel
theorem dL_law_641 : decode cL_law 641 = .ok (.aload_n 0, 1) := by decide +kernel
theorem dL_law_642 : decode cL_law 642 = .ok (.iload 4, 2) := by decide +kernel
theorem dL_law_644 : decode cL_law 644 = .ok (.iconst 2, 1) := by decide +kernel
theorem dL_law_645 : decode cL_law 645 = .ok (.iadd, 1) := by decide +kernel
theorem dL_law_646 : decode cL_law 646 = .ok (.iaload, 1) := by decide +kernel
theorem dL_law_647 : decode cL_law 647 = .ok (.aload_n 3, 1) := by decide +kernel
theorem dL_law_648 : decode cL_law 648 = .ok (.invokestatic 140, 3) := by decide +kernel
theorem dL_law_651 : decode cL_law 651 = .ok (.istore 5, 2) := by decide +kernel
theorem dL_law_653 : decode cL_law 653 = .ok (.aload_n 2, 1) := by decide +kernel
theorem dL_law_654 : decode cL_law 654 = .ok (.aload_n 0, 1) := by decide +kernel
theorem dL_law_655 : decode cL_law 655 = .ok (.iload 4, 2) := by decide +kernel
theorem dL_law_657 : decode cL_law 657 = .ok (.iconst 1, 1) := by decide +kernel
theorem dL_law_658 : decode cL_law 658 = .ok (.iadd, 1) := by decide +kernel
theorem dL_law_659 : decode cL_law 659 = .ok (.iaload, 1) := by decide +kernel
theorem dL_law_660 : decode cL_law 660 = .ok (.aload_n 0, 1) := by decide +kernel
theorem dL_law_661 : decode cL_law 661 = .ok (.iload 4, 2) := by decide +kernel
theorem dL_law_663 : decode cL_law 663 = .ok (.iconst 2, 1) := by decide +kernel
theorem dL_law_664 : decode cL_law 664 = .ok (.iadd, 1) := by decide +kernel
theorem dL_law_665 : decode cL_law 665 = .ok (.iaload, 1) := by decide +kernel
theorem dL_law_666 : decode cL_law 666 = .ok (.invokevirtual 142, 3) := by decide +kernel
theorem dL_law_669 : decode cL_law 669 = .ok (.istore 6, 2) := by decide +kernel
theorem dL_law_671 : decode cL_law 671 = .ok (.aload_n 2, 1) := by decide +kernel
theorem dL_law_672 : decode cL_law 672 = .ok (.invokevirtual 108, 3) := by decide +kernel
theorem dL_law_675 : decode cL_law 675 = .ok (.iload 5, 2) := by decide +kernel
theorem dL_law_677 : decode cL_law 677 = .ok (.if_icmp .eq 5, 3) := by decide +kernel
theorem dL_law_680 : decode cL_law 680 = .ok (.iconst 0, 1) := by decide +kernel
theorem dL_law_681 : decode cL_law 681 = .ok (.ireturn, 1) := by decide +kernel
theorem dL_law_682 : decode cL_law 682 = .ok (.iload 5, 2) := by decide +kernel
theorem dL_law_684 : decode cL_law 684 = .ok (.ifCond .ne 15, 3) := by decide +kernel
theorem dL_law_687 : decode cL_law 687 = .ok (.aload_n 3, 1) := by decide +kernel
theorem dL_law_688 : decode cL_law 688 = .ok (.iconst 0, 1) := by decide +kernel
theorem dL_law_689 : decode cL_law 689 = .ok (.laload, 1) := by decide +kernel
theorem dL_law_690 : decode cL_law 690 = .ok (.iload 6, 2) := by decide +kernel
theorem dL_law_692 : decode cL_law 692 = .ok (.i2l, 1) := by decide +kernel
theorem dL_law_693 : decode cL_law 693 = .ok (.lcmp, 1) := by decide +kernel
theorem dL_law_694 : decode cL_law 694 = .ok (.ifCond .eq 5, 3) := by decide +kernel
theorem dL_law_697 : decode cL_law 697 = .ok (.iconst 0, 1) := by decide +kernel
theorem dL_law_698 : decode cL_law 698 = .ok (.ireturn, 1) := by decide +kernel
theorem dL_law_699 : decode cL_law 699 = .ok (.goto 1212, 3) := by decide +kernel
theorem dL_law_702 : decode cL_law 702 = .ok (.aload_n 1, 1) := by decide +kernel
theorem dL_law_703 : decode cL_law 703 = .ok (.aload_n 0, 1) := by decide +kernel
theorem dL_law_704 : decode cL_law 704 = .ok (.iload 4, 2) := by decide +kernel
theorem dL_law_706 : decode cL_law 706 = .ok (.iconst 1, 1) := by decide +kernel
theorem dL_law_707 : decode cL_law 707 = .ok (.iadd, 1) := by decide +kernel
theorem dL_law_708 : decode cL_law 708 = .ok (.iaload, 1) := by decide +kernel
theorem dL_law_709 : decode cL_law 709 = .ok (.aload_n 0, 1) := by decide +kernel
theorem dL_law_710 : decode cL_law 710 = .ok (.iload 4, 2) := by decide +kernel
theorem dL_law_712 : decode cL_law 712 = .ok (.iconst 2, 1) := by decide +kernel
theorem dL_law_713 : decode cL_law 713 = .ok (.iadd, 1) := by decide +kernel
theorem dL_law_714 : decode cL_law 714 = .ok (.iaload, 1) := by decide +kernel
theorem dL_law_715 : decode cL_law 715 = .ok (.aload_n 3, 1) := by decide +kernel
theorem dL_law_716 : decode cL_law 716 = .ok (.invokestatic 143, 3) := by decide +kernel
theorem dL_law_719 : decode cL_law 719 = .ok (.istore 5, 2) := by decide +kernel
theorem dL_law_721 : decode cL_law 721 = .ok (.aload_n 2, 1) := by decide +kernel
theorem dL_law_722 : decode cL_law 722 = .ok (.aload_n 0, 1) := by decide +kernel
theorem dL_law_723 : decode cL_law 723 = .ok (.iload 4, 2) := by decide +kernel
theorem dL_law_725 : decode cL_law 725 = .ok (.iconst 1, 1) := by decide +kernel
theorem dL_law_726 : decode cL_law 726 = .ok (.iadd, 1) := by decide +kernel
theorem dL_law_727 : decode cL_law 727 = .ok (.iaload, 1) := by decide +kernel
theorem dL_law_728 : decode cL_law 728 = .ok (.aload_n 0, 1) := by decide +kernel
theorem dL_law_729 : decode cL_law 729 = .ok (.iload 4, 2) := by decide +kernel
theorem dL_law_731 : decode cL_law 731 = .ok (.iconst 2, 1) := by decide +kernel
theorem dL_law_732 : decode cL_law 732 = .ok (.iadd, 1) := by decide +kernel
theorem dL_law_733 : decode cL_law 733 = .ok (.iaload, 1) := by decide +kernel
theorem dL_law_734 : decode cL_law 734 = .ok (.invokevirtual 145, 3) := by decide +kernel
theorem dL_law_737 : decode cL_law 737 = .ok (.istore 6, 2) := by decide +kernel
theorem dL_law_739 : decode cL_law 739 = .ok (.aload_n 2, 1) := by decide +kernel
theorem dL_law_740 : decode cL_law 740 = .ok (.invokevirtual 108, 3) := by decide +kernel
theorem dL_law_743 : decode cL_law 743 = .ok (.iload 5, 2) := by decide +kernel
theorem dL_law_745 : decode cL_law 745 = .ok (.if_icmp .eq 5, 3) := by decide +kernel
theorem dL_law_748 : decode cL_law 748 = .ok (.iconst 0, 1) := by decide +kernel
theorem dL_law_749 : decode cL_law 749 = .ok (.ireturn, 1) := by decide +kernel
theorem dL_law_750 : decode cL_law 750 = .ok (.iload 5, 2) := by decide +kernel
theorem dL_law_752 : decode cL_law 752 = .ok (.ifCond .ne 15, 3) := by decide +kernel
theorem dL_law_755 : decode cL_law 755 = .ok (.aload_n 3, 1) := by decide +kernel
theorem dL_law_756 : decode cL_law 756 = .ok (.iconst 0, 1) := by decide +kernel
theorem dL_law_757 : decode cL_law 757 = .ok (.laload, 1) := by decide +kernel
theorem dL_law_758 : decode cL_law 758 = .ok (.iload 6, 2) := by decide +kernel
theorem dL_law_760 : decode cL_law 760 = .ok (.i2l, 1) := by decide +kernel
theorem dL_law_761 : decode cL_law 761 = .ok (.lcmp, 1) := by decide +kernel
theorem dL_law_762 : decode cL_law 762 = .ok (.ifCond .eq 5, 3) := by decide +kernel
theorem dL_law_765 : decode cL_law 765 = .ok (.iconst 0, 1) := by decide +kernel
theorem dL_law_766 : decode cL_law 766 = .ok (.ireturn, 1) := by decide +kernel
theorem dL_law_767 : decode cL_law 767 = .ok (.goto 1144, 3) := by decide +kernel
theorem dL_law_770 : decode cL_law 770 = .ok (.aload_n 1, 1) := by decide +kernel
theorem dL_law_771 : decode cL_law 771 = .ok (.aload_n 0, 1) := by decide +kernel
theorem dL_law_772 : decode cL_law 772 = .ok (.iload 4, 2) := by decide +kernel
theorem dL_law_774 : decode cL_law 774 = .ok (.iconst 1, 1) := by decide +kernel
theorem dL_law_775 : decode cL_law 775 = .ok (.iadd, 1) := by decide +kernel
theorem dL_law_776 : decode cL_law 776 = .ok (.iaload, 1) := by decide +kernel
theorem dL_law_777 : decode cL_law 777 = .ok (.aload_n 0, 1) := by decide +kernel
theorem dL_law_778 : decode cL_law 778 = .ok (.iload 4, 2) := by decide +kernel
theorem dL_law_780 : decode cL_law 780 = .ok (.iconst 2, 1) := by decide +kernel
theorem dL_law_781 : decode cL_law 781 = .ok (.iadd, 1) := by decide +kernel
theorem dL_law_782 : decode cL_law 782 = .ok (.iaload, 1) := by decide +kernel
theorem dL_law_783 : decode cL_law 783 = .ok (.aload_n 3, 1) := by decide +kernel
theorem dL_law_784 : decode cL_law 784 = .ok (.invokestatic 146, 3) := by decide +kernel
theorem dL_law_787 : decode cL_law 787 = .ok (.istore 5, 2) := by decide +kernel
theorem dL_law_789 : decode cL_law 789 = .ok (.aload_n 2, 1) := by decide +kernel
theorem dL_law_790 : decode cL_law 790 = .ok (.aload_n 0, 1) := by decide +kernel
theorem dL_law_791 : decode cL_law 791 = .ok (.iload 4, 2) := by decide +kernel
theorem dL_law_793 : decode cL_law 793 = .ok (.iconst 1, 1) := by decide +kernel
theorem dL_law_794 : decode cL_law 794 = .ok (.iadd, 1) := by decide +kernel
theorem dL_law_795 : decode cL_law 795 = .ok (.iaload, 1) := by decide +kernel
theorem dL_law_796 : decode cL_law 796 = .ok (.aload_n 0, 1) := by decide +kernel
theorem dL_law_797 : decode cL_law 797 = .ok (.iload 4, 2) := by decide +kernel
theorem dL_law_799 : decode cL_law 799 = .ok (.iconst 2, 1) := by decide +kernel
theorem dL_law_800 : decode cL_law 800 = .ok (.iadd, 1) := by decide +kernel
theorem dL_law_801 : decode cL_law 801 = .ok (.iaload, 1) := by decide +kernel
theorem dL_law_802 : decode cL_law 802 = .ok (.invokevirtual 148, 3) := by decide +kernel
theorem dL_law_805 : decode cL_law 805 = .ok (.istore 6, 2) := by decide +kernel
theorem dL_law_807 : decode cL_law 807 = .ok (.aload_n 2, 1) := by decide +kernel
theorem dL_law_808 : decode cL_law 808 = .ok (.invokevirtual 108, 3) := by decide +kernel
theorem dL_law_811 : decode cL_law 811 = .ok (.iload 5, 2) := by decide +kernel
theorem dL_law_813 : decode cL_law 813 = .ok (.if_icmp .eq 5, 3) := by decide +kernel
theorem dL_law_816 : decode cL_law 816 = .ok (.iconst 0, 1) := by decide +kernel
theorem dL_law_817 : decode cL_law 817 = .ok (.ireturn, 1) := by decide +kernel
theorem dL_law_818 : decode cL_law 818 = .ok (.iload 5, 2) := by decide +kernel
theorem dL_law_820 : decode cL_law 820 = .ok (.ifCond .ne 15, 3) := by decide +kernel
theorem dL_law_823 : decode cL_law 823 = .ok (.aload_n 3, 1) := by decide +kernel
theorem dL_law_824 : decode cL_law 824 = .ok (.iconst 0, 1) := by decide +kernel
theorem dL_law_825 : decode cL_law 825 = .ok (.laload, 1) := by decide +kernel
theorem dL_law_826 : decode cL_law 826 = .ok (.iload 6, 2) := by decide +kernel
theorem dL_law_828 : decode cL_law 828 = .ok (.i2l, 1) := by decide +kernel
theorem dL_law_829 : decode cL_law 829 = .ok (.lcmp, 1) := by decide +kernel
theorem dL_law_830 : decode cL_law 830 = .ok (.ifCond .eq 5, 3) := by decide +kernel
theorem dL_law_833 : decode cL_law 833 = .ok (.iconst 0, 1) := by decide +kernel
theorem dL_law_834 : decode cL_law 834 = .ok (.ireturn, 1) := by decide +kernel
theorem dL_law_835 : decode cL_law 835 = .ok (.goto 1076, 3) := by decide +kernel
theorem dL_law_838 : decode cL_law 838 = .ok (.aload_n 1, 1) := by decide +kernel
theorem dL_law_839 : decode cL_law 839 = .ok (.aload_n 0, 1) := by decide +kernel
theorem dL_law_840 : decode cL_law 840 = .ok (.iload 4, 2) := by decide +kernel
theorem dL_law_842 : decode cL_law 842 = .ok (.iconst 1, 1) := by decide +kernel
theorem dL_law_843 : decode cL_law 843 = .ok (.iadd, 1) := by decide +kernel
theorem dL_law_844 : decode cL_law 844 = .ok (.iaload, 1) := by decide +kernel
theorem dL_law_845 : decode cL_law 845 = .ok (.aload_n 0, 1) := by decide +kernel
theorem dL_law_846 : decode cL_law 846 = .ok (.iload 4, 2) := by decide +kernel
theorem dL_law_848 : decode cL_law 848 = .ok (.iconst 2, 1) := by decide +kernel
theorem dL_law_849 : decode cL_law 849 = .ok (.iadd, 1) := by decide +kernel
theorem dL_law_850 : decode cL_law 850 = .ok (.iaload, 1) := by decide +kernel
theorem dL_law_851 : decode cL_law 851 = .ok (.aload_n 0, 1) := by decide +kernel
theorem dL_law_852 : decode cL_law 852 = .ok (.iload 4, 2) := by decide +kernel
theorem dL_law_854 : decode cL_law 854 = .ok (.iconst 3, 1) := by decide +kernel
theorem dL_law_855 : decode cL_law 855 = .ok (.iadd, 1) := by decide +kernel
theorem dL_law_856 : decode cL_law 856 = .ok (.iaload, 1) := by decide +kernel
theorem dL_law_857 : decode cL_law 857 = .ok (.aload_n 0, 1) := by decide +kernel
theorem dL_law_858 : decode cL_law 858 = .ok (.iload 4, 2) := by decide +kernel
theorem dL_law_860 : decode cL_law 860 = .ok (.iconst 4, 1) := by decide +kernel
theorem dL_law_861 : decode cL_law 861 = .ok (.iadd, 1) := by decide +kernel
theorem dL_law_862 : decode cL_law 862 = .ok (.iaload, 1) := by decide +kernel
theorem dL_law_863 : decode cL_law 863 = .ok (.aload_n 3, 1) := by decide +kernel
theorem dL_law_864 : decode cL_law 864 = .ok (.invokestatic 149, 3) := by decide +kernel
theorem dL_law_867 : decode cL_law 867 = .ok (.istore 5, 2) := by decide +kernel
theorem dL_law_869 : decode cL_law 869 = .ok (.aload_n 2, 1) := by decide +kernel
theorem dL_law_870 : decode cL_law 870 = .ok (.aload_n 0, 1) := by decide +kernel
theorem dL_law_871 : decode cL_law 871 = .ok (.iload 4, 2) := by decide +kernel
theorem dL_law_873 : decode cL_law 873 = .ok (.iconst 1, 1) := by decide +kernel
theorem dL_law_874 : decode cL_law 874 = .ok (.iadd, 1) := by decide +kernel
theorem dL_law_875 : decode cL_law 875 = .ok (.iaload, 1) := by decide +kernel
theorem dL_law_876 : decode cL_law 876 = .ok (.aload_n 0, 1) := by decide +kernel
theorem dL_law_877 : decode cL_law 877 = .ok (.iload 4, 2) := by decide +kernel
theorem dL_law_879 : decode cL_law 879 = .ok (.iconst 2, 1) := by decide +kernel
theorem dL_law_880 : decode cL_law 880 = .ok (.iadd, 1) := by decide +kernel
theorem dL_law_881 : decode cL_law 881 = .ok (.iaload, 1) := by decide +kernel
theorem dL_law_882 : decode cL_law 882 = .ok (.aload_n 0, 1) := by decide +kernel
theorem dL_law_883 : decode cL_law 883 = .ok (.iload 4, 2) := by decide +kernel
theorem dL_law_885 : decode cL_law 885 = .ok (.iconst 3, 1) := by decide +kernel
theorem dL_law_886 : decode cL_law 886 = .ok (.iadd, 1) := by decide +kernel
theorem dL_law_887 : decode cL_law 887 = .ok (.iaload, 1) := by decide +kernel
theorem dL_law_888 : decode cL_law 888 = .ok (.aload_n 0, 1) := by decide +kernel
theorem dL_law_889 : decode cL_law 889 = .ok (.iload 4, 2) := by decide +kernel
theorem dL_law_891 : decode cL_law 891 = .ok (.iconst 4, 1) := by decide +kernel
theorem dL_law_892 : decode cL_law 892 = .ok (.iadd, 1) := by decide +kernel
theorem dL_law_893 : decode cL_law 893 = .ok (.iaload, 1) := by decide +kernel
theorem dL_law_894 : decode cL_law 894 = .ok (.invokevirtual 152, 3) := by decide +kernel
theorem dL_law_897 : decode cL_law 897 = .ok (.istore 6, 2) := by decide +kernel
theorem dL_law_899 : decode cL_law 899 = .ok (.aload_n 2, 1) := by decide +kernel
theorem dL_law_900 : decode cL_law 900 = .ok (.invokevirtual 108, 3) := by decide +kernel
theorem dL_law_903 : decode cL_law 903 = .ok (.iload 5, 2) := by decide +kernel
theorem dL_law_905 : decode cL_law 905 = .ok (.if_icmp .eq 5, 3) := by decide +kernel
theorem dL_law_908 : decode cL_law 908 = .ok (.iconst 0, 1) := by decide +kernel
theorem dL_law_909 : decode cL_law 909 = .ok (.ireturn, 1) := by decide +kernel
theorem dL_law_910 : decode cL_law 910 = .ok (.iload 5, 2) := by decide +kernel
theorem dL_law_912 : decode cL_law 912 = .ok (.ifCond .ne 15, 3) := by decide +kernel
theorem dL_law_915 : decode cL_law 915 = .ok (.aload_n 3, 1) := by decide +kernel
theorem dL_law_916 : decode cL_law 916 = .ok (.iconst 0, 1) := by decide +kernel
theorem dL_law_917 : decode cL_law 917 = .ok (.laload, 1) := by decide +kernel
theorem dL_law_918 : decode cL_law 918 = .ok (.iload 6, 2) := by decide +kernel
theorem dL_law_920 : decode cL_law 920 = .ok (.i2l, 1) := by decide +kernel
theorem dL_law_921 : decode cL_law 921 = .ok (.lcmp, 1) := by decide +kernel
theorem dL_law_922 : decode cL_law 922 = .ok (.ifCond .eq 5, 3) := by decide +kernel
theorem dL_law_925 : decode cL_law 925 = .ok (.iconst 0, 1) := by decide +kernel
theorem dL_law_926 : decode cL_law 926 = .ok (.ireturn, 1) := by decide +kernel
theorem dL_law_927 : decode cL_law 927 = .ok (.goto 984, 3) := by decide +kernel
theorem dL_law_930 : decode cL_law 930 = .ok (.aload_n 1, 1) := by decide +kernel
theorem dL_law_931 : decode cL_law 931 = .ok (.aload_n 0, 1) := by decide +kernel
theorem dL_law_932 : decode cL_law 932 = .ok (.iload 4, 2) := by decide +kernel
theorem dL_law_934 : decode cL_law 934 = .ok (.iconst 1, 1) := by decide +kernel
theorem dL_law_935 : decode cL_law 935 = .ok (.iadd, 1) := by decide +kernel
theorem dL_law_936 : decode cL_law 936 = .ok (.iaload, 1) := by decide +kernel
theorem dL_law_937 : decode cL_law 937 = .ok (.aload_n 0, 1) := by decide +kernel
theorem dL_law_938 : decode cL_law 938 = .ok (.iload 4, 2) := by decide +kernel
theorem dL_law_940 : decode cL_law 940 = .ok (.iconst 2, 1) := by decide +kernel
theorem dL_law_941 : decode cL_law 941 = .ok (.iadd, 1) := by decide +kernel
theorem dL_law_942 : decode cL_law 942 = .ok (.iaload, 1) := by decide +kernel
theorem dL_law_943 : decode cL_law 943 = .ok (.aload_n 3, 1) := by decide +kernel
theorem dL_law_944 : decode cL_law 944 = .ok (.invokestatic 153, 3) := by decide +kernel
theorem dL_law_947 : decode cL_law 947 = .ok (.istore 5, 2) := by decide +kernel
theorem dL_law_949 : decode cL_law 949 = .ok (.aload_n 2, 1) := by decide +kernel
theorem dL_law_950 : decode cL_law 950 = .ok (.aload_n 0, 1) := by decide +kernel
theorem dL_law_951 : decode cL_law 951 = .ok (.iload 4, 2) := by decide +kernel
theorem dL_law_953 : decode cL_law 953 = .ok (.iconst 1, 1) := by decide +kernel
theorem dL_law_954 : decode cL_law 954 = .ok (.iadd, 1) := by decide +kernel
theorem dL_law_955 : decode cL_law 955 = .ok (.iaload, 1) := by decide +kernel
theorem dL_law_956 : decode cL_law 956 = .ok (.aload_n 0, 1) := by decide +kernel
theorem dL_law_957 : decode cL_law 957 = .ok (.iload 4, 2) := by decide +kernel
theorem dL_law_959 : decode cL_law 959 = .ok (.iconst 2, 1) := by decide +kernel
theorem dL_law_960 : decode cL_law 960 = .ok (.iadd, 1) := by decide +kernel
theorem dL_law_961 : decode cL_law 961 = .ok (.iaload, 1) := by decide +kernel
theorem dL_law_962 : decode cL_law 962 = .ok (.invokevirtual 155, 3) := by decide +kernel
theorem dL_law_965 : decode cL_law 965 = .ok (.istore 6, 2) := by decide +kernel
theorem dL_law_967 : decode cL_law 967 = .ok (.aload_n 2, 1) := by decide +kernel
theorem dL_law_968 : decode cL_law 968 = .ok (.invokevirtual 108, 3) := by decide +kernel
theorem dL_law_971 : decode cL_law 971 = .ok (.iload 5, 2) := by decide +kernel
theorem dL_law_973 : decode cL_law 973 = .ok (.if_icmp .eq 5, 3) := by decide +kernel
theorem dL_law_976 : decode cL_law 976 = .ok (.iconst 0, 1) := by decide +kernel
theorem dL_law_977 : decode cL_law 977 = .ok (.ireturn, 1) := by decide +kernel
theorem dL_law_978 : decode cL_law 978 = .ok (.iload 5, 2) := by decide +kernel
theorem dL_law_980 : decode cL_law 980 = .ok (.ifCond .ne 15, 3) := by decide +kernel
theorem dL_law_983 : decode cL_law 983 = .ok (.aload_n 3, 1) := by decide +kernel
theorem dL_law_984 : decode cL_law 984 = .ok (.iconst 0, 1) := by decide +kernel
theorem dL_law_985 : decode cL_law 985 = .ok (.laload, 1) := by decide +kernel
theorem dL_law_986 : decode cL_law 986 = .ok (.iload 6, 2) := by decide +kernel
theorem dL_law_988 : decode cL_law 988 = .ok (.i2l, 1) := by decide +kernel
theorem dL_law_989 : decode cL_law 989 = .ok (.lcmp, 1) := by decide +kernel
theorem dL_law_990 : decode cL_law 990 = .ok (.ifCond .eq 5, 3) := by decide +kernel
theorem dL_law_993 : decode cL_law 993 = .ok (.iconst 0, 1) := by decide +kernel
theorem dL_law_994 : decode cL_law 994 = .ok (.ireturn, 1) := by decide +kernel
theorem dL_law_995 : decode cL_law 995 = .ok (.goto 916, 3) := by decide +kernel
theorem dL_law_998 : decode cL_law 998 = .ok (.aload_n 1, 1) := by decide +kernel
theorem dL_law_999 : decode cL_law 999 = .ok (.aload_n 0, 1) := by decide +kernel
theorem dL_law_1000 : decode cL_law 1000 = .ok (.iload 4, 2) := by decide +kernel
theorem dL_law_1002 : decode cL_law 1002 = .ok (.iconst 1, 1) := by decide +kernel
theorem dL_law_1003 : decode cL_law 1003 = .ok (.iadd, 1) := by decide +kernel
theorem dL_law_1004 : decode cL_law 1004 = .ok (.iaload, 1) := by decide +kernel
theorem dL_law_1005 : decode cL_law 1005 = .ok (.aload_n 0, 1) := by decide +kernel
theorem dL_law_1006 : decode cL_law 1006 = .ok (.iload 4, 2) := by decide +kernel
theorem dL_law_1008 : decode cL_law 1008 = .ok (.iconst 2, 1) := by decide +kernel
theorem dL_law_1009 : decode cL_law 1009 = .ok (.iadd, 1) := by decide +kernel
theorem dL_law_1010 : decode cL_law 1010 = .ok (.iaload, 1) := by decide +kernel
theorem dL_law_1011 : decode cL_law 1011 = .ok (.aload_n 3, 1) := by decide +kernel
theorem dL_law_1012 : decode cL_law 1012 = .ok (.invokestatic 156, 3) := by decide +kernel
theorem dL_law_1015 : decode cL_law 1015 = .ok (.istore 5, 2) := by decide +kernel
theorem dL_law_1017 : decode cL_law 1017 = .ok (.aload_n 2, 1) := by decide +kernel
theorem dL_law_1018 : decode cL_law 1018 = .ok (.aload_n 0, 1) := by decide +kernel
theorem dL_law_1019 : decode cL_law 1019 = .ok (.iload 4, 2) := by decide +kernel
theorem dL_law_1021 : decode cL_law 1021 = .ok (.iconst 1, 1) := by decide +kernel
theorem dL_law_1022 : decode cL_law 1022 = .ok (.iadd, 1) := by decide +kernel
theorem dL_law_1023 : decode cL_law 1023 = .ok (.iaload, 1) := by decide +kernel
theorem dL_law_1024 : decode cL_law 1024 = .ok (.aload_n 0, 1) := by decide +kernel
theorem dL_law_1025 : decode cL_law 1025 = .ok (.iload 4, 2) := by decide +kernel
theorem dL_law_1027 : decode cL_law 1027 = .ok (.iconst 2, 1) := by decide +kernel
theorem dL_law_1028 : decode cL_law 1028 = .ok (.iadd, 1) := by decide +kernel
theorem dL_law_1029 : decode cL_law 1029 = .ok (.iaload, 1) := by decide +kernel
theorem dL_law_1030 : decode cL_law 1030 = .ok (.invokevirtual 158, 3) := by decide +kernel
theorem dL_law_1033 : decode cL_law 1033 = .ok (.istore 6, 2) := by decide +kernel
theorem dL_law_1035 : decode cL_law 1035 = .ok (.aload_n 2, 1) := by decide +kernel
theorem dL_law_1036 : decode cL_law 1036 = .ok (.invokevirtual 108, 3) := by decide +kernel
theorem dL_law_1039 : decode cL_law 1039 = .ok (.iload 5, 2) := by decide +kernel
theorem dL_law_1041 : decode cL_law 1041 = .ok (.if_icmp .eq 5, 3) := by decide +kernel
theorem dL_law_1044 : decode cL_law 1044 = .ok (.iconst 0, 1) := by decide +kernel
theorem dL_law_1045 : decode cL_law 1045 = .ok (.ireturn, 1) := by decide +kernel
theorem dL_law_1046 : decode cL_law 1046 = .ok (.iload 5, 2) := by decide +kernel
theorem dL_law_1048 : decode cL_law 1048 = .ok (.ifCond .ne 15, 3) := by decide +kernel
theorem dL_law_1051 : decode cL_law 1051 = .ok (.aload_n 3, 1) := by decide +kernel
theorem dL_law_1052 : decode cL_law 1052 = .ok (.iconst 0, 1) := by decide +kernel
theorem dL_law_1053 : decode cL_law 1053 = .ok (.laload, 1) := by decide +kernel
theorem dL_law_1054 : decode cL_law 1054 = .ok (.iload 6, 2) := by decide +kernel
theorem dL_law_1056 : decode cL_law 1056 = .ok (.i2l, 1) := by decide +kernel
theorem dL_law_1057 : decode cL_law 1057 = .ok (.lcmp, 1) := by decide +kernel
theorem dL_law_1058 : decode cL_law 1058 = .ok (.ifCond .eq 5, 3) := by decide +kernel
theorem dL_law_1061 : decode cL_law 1061 = .ok (.iconst 0, 1) := by decide +kernel
theorem dL_law_1062 : decode cL_law 1062 = .ok (.ireturn, 1) := by decide +kernel
theorem dL_law_1063 : decode cL_law 1063 = .ok (.goto 848, 3) := by decide +kernel
theorem dL_law_1066 : decode cL_law 1066 = .ok (.aload_n 1, 1) := by decide +kernel
theorem dL_law_1067 : decode cL_law 1067 = .ok (.invokevirtual 159, 3) := by decide +kernel
theorem dL_law_1070 : decode cL_law 1070 = .ok (.aload_n 2, 1) := by decide +kernel
theorem dL_law_1071 : decode cL_law 1071 = .ok (.invokevirtual 162, 3) := by decide +kernel
theorem dL_law_1074 : decode cL_law 1074 = .ok (.if_icmp .eq 837, 3) := by decide +kernel
theorem dL_law_1077 : decode cL_law 1077 = .ok (.iconst 0, 1) := by decide +kernel
theorem dL_law_1078 : decode cL_law 1078 = .ok (.ireturn, 1) := by decide +kernel
theorem dL_law_1079 : decode cL_law 1079 = .ok (.aload_n 1, 1) := by decide +kernel
theorem dL_law_1080 : decode cL_law 1080 = .ok (.aload_n 3, 1) := by decide +kernel
theorem dL_law_1081 : decode cL_law 1081 = .ok (.invokestatic 163, 3) := by decide +kernel
theorem dL_law_1084 : decode cL_law 1084 = .ok (.istore 5, 2) := by decide +kernel
theorem dL_law_1086 : decode cL_law 1086 = .ok (.aload_n 2, 1) := by decide +kernel
theorem dL_law_1087 : decode cL_law 1087 = .ok (.invokevirtual 165, 3) := by decide +kernel
theorem dL_law_1090 : decode cL_law 1090 = .ok (.istore 6, 2) := by decide +kernel
theorem dL_law_1092 : decode cL_law 1092 = .ok (.aload_n 2, 1) := by decide +kernel
theorem dL_law_1093 : decode cL_law 1093 = .ok (.invokevirtual 108, 3) := by decide +kernel
theorem dL_law_1096 : decode cL_law 1096 = .ok (.iload 5, 2) := by decide +kernel
theorem dL_law_1098 : decode cL_law 1098 = .ok (.if_icmp .eq 5, 3) := by decide +kernel
theorem dL_law_1101 : decode cL_law 1101 = .ok (.iconst 0, 1) := by decide +kernel
theorem dL_law_1102 : decode cL_law 1102 = .ok (.ireturn, 1) := by decide +kernel
theorem dL_law_1103 : decode cL_law 1103 = .ok (.iload 5, 2) := by decide +kernel
theorem dL_law_1105 : decode cL_law 1105 = .ok (.ifCond .ne 15, 3) := by decide +kernel
theorem dL_law_1108 : decode cL_law 1108 = .ok (.aload_n 3, 1) := by decide +kernel
theorem dL_law_1109 : decode cL_law 1109 = .ok (.iconst 0, 1) := by decide +kernel
theorem dL_law_1110 : decode cL_law 1110 = .ok (.laload, 1) := by decide +kernel
theorem dL_law_1111 : decode cL_law 1111 = .ok (.iload 6, 2) := by decide +kernel
theorem dL_law_1113 : decode cL_law 1113 = .ok (.i2l, 1) := by decide +kernel
theorem dL_law_1114 : decode cL_law 1114 = .ok (.lcmp, 1) := by decide +kernel
theorem dL_law_1115 : decode cL_law 1115 = .ok (.ifCond .eq 5, 3) := by decide +kernel
theorem dL_law_1118 : decode cL_law 1118 = .ok (.iconst 0, 1) := by decide +kernel
theorem dL_law_1119 : decode cL_law 1119 = .ok (.ireturn, 1) := by decide +kernel
theorem dL_law_1120 : decode cL_law 1120 = .ok (.goto 791, 3) := by decide +kernel
theorem dL_law_1123 : decode cL_law 1123 = .ok (.aload_n 1, 1) := by decide +kernel
theorem dL_law_1124 : decode cL_law 1124 = .ok (.aload_n 0, 1) := by decide +kernel
theorem dL_law_1125 : decode cL_law 1125 = .ok (.iload 4, 2) := by decide +kernel
theorem dL_law_1127 : decode cL_law 1127 = .ok (.iconst 1, 1) := by decide +kernel
theorem dL_law_1128 : decode cL_law 1128 = .ok (.iadd, 1) := by decide +kernel
theorem dL_law_1129 : decode cL_law 1129 = .ok (.iaload, 1) := by decide +kernel
theorem dL_law_1130 : decode cL_law 1130 = .ok (.aload_n 0, 1) := by decide +kernel
theorem dL_law_1131 : decode cL_law 1131 = .ok (.iload 4, 2) := by decide +kernel
theorem dL_law_1133 : decode cL_law 1133 = .ok (.iconst 2, 1) := by decide +kernel
theorem dL_law_1134 : decode cL_law 1134 = .ok (.iadd, 1) := by decide +kernel
theorem dL_law_1135 : decode cL_law 1135 = .ok (.iaload, 1) := by decide +kernel
theorem dL_law_1136 : decode cL_law 1136 = .ok (.aload_n 0, 1) := by decide +kernel
theorem dL_law_1137 : decode cL_law 1137 = .ok (.iload 4, 2) := by decide +kernel
theorem dL_law_1139 : decode cL_law 1139 = .ok (.iconst 3, 1) := by decide +kernel
theorem dL_law_1140 : decode cL_law 1140 = .ok (.iadd, 1) := by decide +kernel
theorem dL_law_1141 : decode cL_law 1141 = .ok (.iaload, 1) := by decide +kernel
theorem dL_law_1142 : decode cL_law 1142 = .ok (.aload_n 0, 1) := by decide +kernel
theorem dL_law_1143 : decode cL_law 1143 = .ok (.iload 4, 2) := by decide +kernel
theorem dL_law_1145 : decode cL_law 1145 = .ok (.iconst 4, 1) := by decide +kernel
theorem dL_law_1146 : decode cL_law 1146 = .ok (.iadd, 1) := by decide +kernel
theorem dL_law_1147 : decode cL_law 1147 = .ok (.iaload, 1) := by decide +kernel
theorem dL_law_1148 : decode cL_law 1148 = .ok (.aload_n 0, 1) := by decide +kernel
theorem dL_law_1149 : decode cL_law 1149 = .ok (.iload 4, 2) := by decide +kernel
theorem dL_law_1151 : decode cL_law 1151 = .ok (.iconst 5, 1) := by decide +kernel
theorem dL_law_1152 : decode cL_law 1152 = .ok (.iadd, 1) := by decide +kernel
theorem dL_law_1153 : decode cL_law 1153 = .ok (.iaload, 1) := by decide +kernel
theorem dL_law_1154 : decode cL_law 1154 = .ok (.aload_n 3, 1) := by decide +kernel
theorem dL_law_1155 : decode cL_law 1155 = .ok (.invokestatic 166, 3) := by decide +kernel
theorem dL_law_1158 : decode cL_law 1158 = .ok (.istore 5, 2) := by decide +kernel
theorem dL_law_1160 : decode cL_law 1160 = .ok (.aload_n 2, 1) := by decide +kernel
theorem dL_law_1161 : decode cL_law 1161 = .ok (.aload_n 0, 1) := by decide +kernel
theorem dL_law_1162 : decode cL_law 1162 = .ok (.iload 4, 2) := by decide +kernel
theorem dL_law_1164 : decode cL_law 1164 = .ok (.iconst 1, 1) := by decide +kernel
theorem dL_law_1165 : decode cL_law 1165 = .ok (.iadd, 1) := by decide +kernel
theorem dL_law_1166 : decode cL_law 1166 = .ok (.iaload, 1) := by decide +kernel
theorem dL_law_1167 : decode cL_law 1167 = .ok (.aload_n 0, 1) := by decide +kernel
theorem dL_law_1168 : decode cL_law 1168 = .ok (.iload 4, 2) := by decide +kernel
theorem dL_law_1170 : decode cL_law 1170 = .ok (.iconst 2, 1) := by decide +kernel
theorem dL_law_1171 : decode cL_law 1171 = .ok (.iadd, 1) := by decide +kernel
theorem dL_law_1172 : decode cL_law 1172 = .ok (.iaload, 1) := by decide +kernel
theorem dL_law_1173 : decode cL_law 1173 = .ok (.aload_n 0, 1) := by decide +kernel
theorem dL_law_1174 : decode cL_law 1174 = .ok (.iload 4, 2) := by decide +kernel
theorem dL_law_1176 : decode cL_law 1176 = .ok (.iconst 3, 1) := by decide +kernel
theorem dL_law_1177 : decode cL_law 1177 = .ok (.iadd, 1) := by decide +kernel
theorem dL_law_1178 : decode cL_law 1178 = .ok (.iaload, 1) := by decide +kernel
theorem dL_law_1179 : decode cL_law 1179 = .ok (.aload_n 0, 1) := by decide +kernel
theorem dL_law_1180 : decode cL_law 1180 = .ok (.iload 4, 2) := by decide +kernel
theorem dL_law_1182 : decode cL_law 1182 = .ok (.iconst 4, 1) := by decide +kernel
theorem dL_law_1183 : decode cL_law 1183 = .ok (.iadd, 1) := by decide +kernel
theorem dL_law_1184 : decode cL_law 1184 = .ok (.iaload, 1) := by decide +kernel
theorem dL_law_1185 : decode cL_law 1185 = .ok (.aload_n 0, 1) := by decide +kernel
theorem dL_law_1186 : decode cL_law 1186 = .ok (.iload 4, 2) := by decide +kernel
theorem dL_law_1188 : decode cL_law 1188 = .ok (.iconst 5, 1) := by decide +kernel
theorem dL_law_1189 : decode cL_law 1189 = .ok (.iadd, 1) := by decide +kernel
theorem dL_law_1190 : decode cL_law 1190 = .ok (.iaload, 1) := by decide +kernel
theorem dL_law_1191 : decode cL_law 1191 = .ok (.invokevirtual 169, 3) := by decide +kernel
theorem dL_law_1194 : decode cL_law 1194 = .ok (.istore 6, 2) := by decide +kernel
theorem dL_law_1196 : decode cL_law 1196 = .ok (.aload_n 2, 1) := by decide +kernel
theorem dL_law_1197 : decode cL_law 1197 = .ok (.invokevirtual 108, 3) := by decide +kernel
theorem dL_law_1200 : decode cL_law 1200 = .ok (.iload 5, 2) := by decide +kernel
theorem dL_law_1202 : decode cL_law 1202 = .ok (.if_icmp .eq 5, 3) := by decide +kernel
theorem dL_law_1205 : decode cL_law 1205 = .ok (.iconst 0, 1) := by decide +kernel
theorem dL_law_1206 : decode cL_law 1206 = .ok (.ireturn, 1) := by decide +kernel
theorem dL_law_1207 : decode cL_law 1207 = .ok (.iload 5, 2) := by decide +kernel
theorem dL_law_1209 : decode cL_law 1209 = .ok (.ifCond .ne 15, 3) := by decide +kernel
theorem dL_law_1212 : decode cL_law 1212 = .ok (.aload_n 3, 1) := by decide +kernel
theorem dL_law_1213 : decode cL_law 1213 = .ok (.iconst 0, 1) := by decide +kernel
theorem dL_law_1214 : decode cL_law 1214 = .ok (.laload, 1) := by decide +kernel
theorem dL_law_1215 : decode cL_law 1215 = .ok (.iload 6, 2) := by decide +kernel
theorem dL_law_1217 : decode cL_law 1217 = .ok (.i2l, 1) := by decide +kernel
theorem dL_law_1218 : decode cL_law 1218 = .ok (.lcmp, 1) := by decide +kernel
theorem dL_law_1219 : decode cL_law 1219 = .ok (.ifCond .eq 5, 3) := by decide +kernel
theorem dL_law_1222 : decode cL_law 1222 = .ok (.iconst 0, 1) := by decide +kernel
theorem dL_law_1223 : decode cL_law 1223 = .ok (.ireturn, 1) := by decide +kernel
theorem dL_law_1224 : decode cL_law 1224 = .ok (.goto 687, 3) := by decide +kernel
theorem dL_law_1227 : decode cL_law 1227 = .ok (.aload_n 1, 1) := by decide +kernel
theorem dL_law_1228 : decode cL_law 1228 = .ok (.aload_n 0, 1) := by decide +kernel
theorem dL_law_1229 : decode cL_law 1229 = .ok (.iload 4, 2) := by decide +kernel
theorem dL_law_1231 : decode cL_law 1231 = .ok (.iconst 1, 1) := by decide +kernel
theorem dL_law_1232 : decode cL_law 1232 = .ok (.iadd, 1) := by decide +kernel
theorem dL_law_1233 : decode cL_law 1233 = .ok (.iaload, 1) := by decide +kernel
theorem dL_law_1234 : decode cL_law 1234 = .ok (.aload_n 0, 1) := by decide +kernel
theorem dL_law_1235 : decode cL_law 1235 = .ok (.iload 4, 2) := by decide +kernel
theorem dL_law_1237 : decode cL_law 1237 = .ok (.iconst 2, 1) := by decide +kernel
theorem dL_law_1238 : decode cL_law 1238 = .ok (.iadd, 1) := by decide +kernel
theorem dL_law_1239 : decode cL_law 1239 = .ok (.iaload, 1) := by decide +kernel
theorem dL_law_1240 : decode cL_law 1240 = .ok (.aload_n 3, 1) := by decide +kernel
theorem dL_law_1241 : decode cL_law 1241 = .ok (.invokestatic 170, 3) := by decide +kernel
theorem dL_law_1244 : decode cL_law 1244 = .ok (.istore 5, 2) := by decide +kernel
theorem dL_law_1246 : decode cL_law 1246 = .ok (.aload_n 2, 1) := by decide +kernel
theorem dL_law_1247 : decode cL_law 1247 = .ok (.aload_n 0, 1) := by decide +kernel
theorem dL_law_1248 : decode cL_law 1248 = .ok (.iload 4, 2) := by decide +kernel
theorem dL_law_1250 : decode cL_law 1250 = .ok (.iconst 1, 1) := by decide +kernel
theorem dL_law_1251 : decode cL_law 1251 = .ok (.iadd, 1) := by decide +kernel
theorem dL_law_1252 : decode cL_law 1252 = .ok (.iaload, 1) := by decide +kernel
theorem dL_law_1253 : decode cL_law 1253 = .ok (.aload_n 0, 1) := by decide +kernel
theorem dL_law_1254 : decode cL_law 1254 = .ok (.iload 4, 2) := by decide +kernel
theorem dL_law_1256 : decode cL_law 1256 = .ok (.iconst 2, 1) := by decide +kernel
theorem dL_law_1257 : decode cL_law 1257 = .ok (.iadd, 1) := by decide +kernel
theorem dL_law_1258 : decode cL_law 1258 = .ok (.iaload, 1) := by decide +kernel
theorem dL_law_1259 : decode cL_law 1259 = .ok (.invokevirtual 172, 3) := by decide +kernel
theorem dL_law_1262 : decode cL_law 1262 = .ok (.istore 6, 2) := by decide +kernel
theorem dL_law_1264 : decode cL_law 1264 = .ok (.aload_n 2, 1) := by decide +kernel
theorem dL_law_1265 : decode cL_law 1265 = .ok (.invokevirtual 108, 3) := by decide +kernel
theorem dL_law_1268 : decode cL_law 1268 = .ok (.iload 5, 2) := by decide +kernel
theorem dL_law_1270 : decode cL_law 1270 = .ok (.if_icmp .eq 5, 3) := by decide +kernel
theorem dL_law_1273 : decode cL_law 1273 = .ok (.iconst 0, 1) := by decide +kernel
theorem dL_law_1274 : decode cL_law 1274 = .ok (.ireturn, 1) := by decide +kernel
theorem dL_law_1275 : decode cL_law 1275 = .ok (.iload 5, 2) := by decide +kernel
theorem dL_law_1277 : decode cL_law 1277 = .ok (.ifCond .ne 15, 3) := by decide +kernel
theorem dL_law_1280 : decode cL_law 1280 = .ok (.aload_n 3, 1) := by decide +kernel
theorem dL_law_1281 : decode cL_law 1281 = .ok (.iconst 0, 1) := by decide +kernel
theorem dL_law_1282 : decode cL_law 1282 = .ok (.laload, 1) := by decide +kernel
theorem dL_law_1283 : decode cL_law 1283 = .ok (.iload 6, 2) := by decide +kernel
theorem dL_law_1285 : decode cL_law 1285 = .ok (.i2l, 1) := by decide +kernel
theorem dL_law_1286 : decode cL_law 1286 = .ok (.lcmp, 1) := by decide +kernel
theorem dL_law_1287 : decode cL_law 1287 = .ok (.ifCond .eq 5, 3) := by decide +kernel
theorem dL_law_1290 : decode cL_law 1290 = .ok (.iconst 0, 1) := by decide +kernel
theorem dL_law_1291 : decode cL_law 1291 = .ok (.ireturn, 1) := by decide +kernel
theorem dL_law_1292 : decode cL_law 1292 = .ok (.goto 619, 3) := by decide +kernel
theorem dL_law_1295 : decode cL_law 1295 = .ok (.aload_n 1, 1) := by decide +kernel
theorem dL_law_1296 : decode cL_law 1296 = .ok (.aload_n 0, 1) := by decide +kernel
theorem dL_law_1297 : decode cL_law 1297 = .ok (.iload 4, 2) := by decide +kernel
theorem dL_law_1299 : decode cL_law 1299 = .ok (.iconst 1, 1) := by decide +kernel
theorem dL_law_1300 : decode cL_law 1300 = .ok (.iadd, 1) := by decide +kernel
theorem dL_law_1301 : decode cL_law 1301 = .ok (.iaload, 1) := by decide +kernel
theorem dL_law_1302 : decode cL_law 1302 = .ok (.aload_n 0, 1) := by decide +kernel
theorem dL_law_1303 : decode cL_law 1303 = .ok (.iload 4, 2) := by decide +kernel
theorem dL_law_1305 : decode cL_law 1305 = .ok (.iconst 2, 1) := by decide +kernel
theorem dL_law_1306 : decode cL_law 1306 = .ok (.iadd, 1) := by decide +kernel
theorem dL_law_1307 : decode cL_law 1307 = .ok (.iaload, 1) := by decide +kernel
theorem dL_law_1308 : decode cL_law 1308 = .ok (.aload_n 3, 1) := by decide +kernel
theorem dL_law_1309 : decode cL_law 1309 = .ok (.invokestatic 173, 3) := by decide +kernel
theorem dL_law_1312 : decode cL_law 1312 = .ok (.istore 5, 2) := by decide +kernel
theorem dL_law_1314 : decode cL_law 1314 = .ok (.aload_n 2, 1) := by decide +kernel
theorem dL_law_1315 : decode cL_law 1315 = .ok (.aload_n 0, 1) := by decide +kernel
theorem dL_law_1316 : decode cL_law 1316 = .ok (.iload 4, 2) := by decide +kernel
theorem dL_law_1318 : decode cL_law 1318 = .ok (.iconst 1, 1) := by decide +kernel
theorem dL_law_1319 : decode cL_law 1319 = .ok (.iadd, 1) := by decide +kernel
theorem dL_law_1320 : decode cL_law 1320 = .ok (.iaload, 1) := by decide +kernel
theorem dL_law_1321 : decode cL_law 1321 = .ok (.aload_n 0, 1) := by decide +kernel
theorem dL_law_1322 : decode cL_law 1322 = .ok (.iload 4, 2) := by decide +kernel
theorem dL_law_1324 : decode cL_law 1324 = .ok (.iconst 2, 1) := by decide +kernel
theorem dL_law_1325 : decode cL_law 1325 = .ok (.iadd, 1) := by decide +kernel
theorem dL_law_1326 : decode cL_law 1326 = .ok (.iaload, 1) := by decide +kernel
theorem dL_law_1327 : decode cL_law 1327 = .ok (.invokevirtual 175, 3) := by decide +kernel
theorem dL_law_1330 : decode cL_law 1330 = .ok (.istore 6, 2) := by decide +kernel
theorem dL_law_1332 : decode cL_law 1332 = .ok (.aload_n 2, 1) := by decide +kernel
theorem dL_law_1333 : decode cL_law 1333 = .ok (.invokevirtual 108, 3) := by decide +kernel
theorem dL_law_1336 : decode cL_law 1336 = .ok (.iload 5, 2) := by decide +kernel
theorem dL_law_1338 : decode cL_law 1338 = .ok (.if_icmp .eq 5, 3) := by decide +kernel
theorem dL_law_1341 : decode cL_law 1341 = .ok (.iconst 0, 1) := by decide +kernel
theorem dL_law_1342 : decode cL_law 1342 = .ok (.ireturn, 1) := by decide +kernel
theorem dL_law_1343 : decode cL_law 1343 = .ok (.iload 5, 2) := by decide +kernel
theorem dL_law_1345 : decode cL_law 1345 = .ok (.ifCond .ne 15, 3) := by decide +kernel
theorem dL_law_1348 : decode cL_law 1348 = .ok (.aload_n 3, 1) := by decide +kernel
theorem dL_law_1349 : decode cL_law 1349 = .ok (.iconst 0, 1) := by decide +kernel
theorem dL_law_1350 : decode cL_law 1350 = .ok (.laload, 1) := by decide +kernel
theorem dL_law_1351 : decode cL_law 1351 = .ok (.iload 6, 2) := by decide +kernel
theorem dL_law_1353 : decode cL_law 1353 = .ok (.i2l, 1) := by decide +kernel
theorem dL_law_1354 : decode cL_law 1354 = .ok (.lcmp, 1) := by decide +kernel
theorem dL_law_1355 : decode cL_law 1355 = .ok (.ifCond .eq 5, 3) := by decide +kernel
theorem dL_law_1358 : decode cL_law 1358 = .ok (.iconst 0, 1) := by decide +kernel
theorem dL_law_1359 : decode cL_law 1359 = .ok (.ireturn, 1) := by decide +kernel
theorem dL_law_1360 : decode cL_law 1360 = .ok (.goto 551, 3) := by decide +kernel
theorem dL_law_1363 : decode cL_law 1363 = .ok (.aload_n 1, 1) := by decide +kernel
theorem dL_law_1364 : decode cL_law 1364 = .ok (.aload_n 0, 1) := by decide +kernel
theorem dL_law_1365 : decode cL_law 1365 = .ok (.iload 4, 2) := by decide +kernel
theorem dL_law_1367 : decode cL_law 1367 = .ok (.iconst 1, 1) := by decide +kernel
theorem dL_law_1368 : decode cL_law 1368 = .ok (.iadd, 1) := by decide +kernel
theorem dL_law_1369 : decode cL_law 1369 = .ok (.iaload, 1) := by decide +kernel
theorem dL_law_1370 : decode cL_law 1370 = .ok (.aload_n 3, 1) := by decide +kernel
theorem dL_law_1371 : decode cL_law 1371 = .ok (.invokestatic 176, 3) := by decide +kernel
theorem dL_law_1374 : decode cL_law 1374 = .ok (.istore 5, 2) := by decide +kernel
theorem dL_law_1376 : decode cL_law 1376 = .ok (.aload_n 2, 1) := by decide +kernel
theorem dL_law_1377 : decode cL_law 1377 = .ok (.aload_n 0, 1) := by decide +kernel
theorem dL_law_1378 : decode cL_law 1378 = .ok (.iload 4, 2) := by decide +kernel
theorem dL_law_1380 : decode cL_law 1380 = .ok (.iconst 1, 1) := by decide +kernel
theorem dL_law_1381 : decode cL_law 1381 = .ok (.iadd, 1) := by decide +kernel
theorem dL_law_1382 : decode cL_law 1382 = .ok (.iaload, 1) := by decide +kernel
theorem dL_law_1383 : decode cL_law 1383 = .ok (.invokevirtual 178, 3) := by decide +kernel
theorem dL_law_1386 : decode cL_law 1386 = .ok (.istore 6, 2) := by decide +kernel
theorem dL_law_1388 : decode cL_law 1388 = .ok (.aload_n 2, 1) := by decide +kernel
theorem dL_law_1389 : decode cL_law 1389 = .ok (.invokevirtual 108, 3) := by decide +kernel
theorem dL_law_1392 : decode cL_law 1392 = .ok (.iload 5, 2) := by decide +kernel
theorem dL_law_1394 : decode cL_law 1394 = .ok (.if_icmp .eq 5, 3) := by decide +kernel
theorem dL_law_1397 : decode cL_law 1397 = .ok (.iconst 0, 1) := by decide +kernel
theorem dL_law_1398 : decode cL_law 1398 = .ok (.ireturn, 1) := by decide +kernel
theorem dL_law_1399 : decode cL_law 1399 = .ok (.iload 5, 2) := by decide +kernel
theorem dL_law_1401 : decode cL_law 1401 = .ok (.ifCond .ne 15, 3) := by decide +kernel
theorem dL_law_1404 : decode cL_law 1404 = .ok (.aload_n 3, 1) := by decide +kernel
theorem dL_law_1405 : decode cL_law 1405 = .ok (.iconst 0, 1) := by decide +kernel
theorem dL_law_1406 : decode cL_law 1406 = .ok (.laload, 1) := by decide +kernel
theorem dL_law_1407 : decode cL_law 1407 = .ok (.iload 6, 2) := by decide +kernel
theorem dL_law_1409 : decode cL_law 1409 = .ok (.i2l, 1) := by decide +kernel
theorem dL_law_1410 : decode cL_law 1410 = .ok (.lcmp, 1) := by decide +kernel
theorem dL_law_1411 : decode cL_law 1411 = .ok (.ifCond .eq 5, 3) := by decide +kernel
theorem dL_law_1414 : decode cL_law 1414 = .ok (.iconst 0, 1) := by decide +kernel
theorem dL_law_1415 : decode cL_law 1415 = .ok (.ireturn, 1) := by decide +kernel
theorem dL_law_1416 : decode cL_law 1416 = .ok (.goto 495, 3) := by decide +kernel
theorem dL_law_1419 : decode cL_law 1419 = .ok (.aload_n 1, 1) := by decide +kernel
theorem dL_law_1420 : decode cL_law 1420 = .ok (.aload_n 0, 1) := by decide +kernel
theorem dL_law_1421 : decode cL_law 1421 = .ok (.iload 4, 2) := by decide +kernel
theorem dL_law_1423 : decode cL_law 1423 = .ok (.iconst 1, 1) := by decide +kernel
theorem dL_law_1424 : decode cL_law 1424 = .ok (.iadd, 1) := by decide +kernel
theorem dL_law_1425 : decode cL_law 1425 = .ok (.iaload, 1) := by decide +kernel
theorem dL_law_1426 : decode cL_law 1426 = .ok (.aload_n 0, 1) := by decide +kernel
theorem dL_law_1427 : decode cL_law 1427 = .ok (.iload 4, 2) := by decide +kernel
theorem dL_law_1429 : decode cL_law 1429 = .ok (.iconst 2, 1) := by decide +kernel
theorem dL_law_1430 : decode cL_law 1430 = .ok (.iadd, 1) := by decide +kernel
theorem dL_law_1431 : decode cL_law 1431 = .ok (.iaload, 1) := by decide +kernel
theorem dL_law_1432 : decode cL_law 1432 = .ok (.aload_n 3, 1) := by decide +kernel
theorem dL_law_1433 : decode cL_law 1433 = .ok (.invokestatic 179, 3) := by decide +kernel
theorem dL_law_1436 : decode cL_law 1436 = .ok (.istore 5, 2) := by decide +kernel
theorem dL_law_1438 : decode cL_law 1438 = .ok (.aload_n 2, 1) := by decide +kernel
theorem dL_law_1439 : decode cL_law 1439 = .ok (.aload_n 0, 1) := by decide +kernel
theorem dL_law_1440 : decode cL_law 1440 = .ok (.iload 4, 2) := by decide +kernel
theorem dL_law_1442 : decode cL_law 1442 = .ok (.iconst 1, 1) := by decide +kernel
theorem dL_law_1443 : decode cL_law 1443 = .ok (.iadd, 1) := by decide +kernel
theorem dL_law_1444 : decode cL_law 1444 = .ok (.iaload, 1) := by decide +kernel
theorem dL_law_1445 : decode cL_law 1445 = .ok (.aload_n 0, 1) := by decide +kernel
theorem dL_law_1446 : decode cL_law 1446 = .ok (.iload 4, 2) := by decide +kernel
theorem dL_law_1448 : decode cL_law 1448 = .ok (.iconst 2, 1) := by decide +kernel
theorem dL_law_1449 : decode cL_law 1449 = .ok (.iadd, 1) := by decide +kernel
theorem dL_law_1450 : decode cL_law 1450 = .ok (.iaload, 1) := by decide +kernel
theorem dL_law_1451 : decode cL_law 1451 = .ok (.invokevirtual 181, 3) := by decide +kernel
theorem dL_law_1454 : decode cL_law 1454 = .ok (.istore 6, 2) := by decide +kernel
theorem dL_law_1456 : decode cL_law 1456 = .ok (.aload_n 2, 1) := by decide +kernel
theorem dL_law_1457 : decode cL_law 1457 = .ok (.invokevirtual 108, 3) := by decide +kernel
theorem dL_law_1460 : decode cL_law 1460 = .ok (.iload 5, 2) := by decide +kernel
theorem dL_law_1462 : decode cL_law 1462 = .ok (.if_icmp .eq 5, 3) := by decide +kernel
theorem dL_law_1465 : decode cL_law 1465 = .ok (.iconst 0, 1) := by decide +kernel
theorem dL_law_1466 : decode cL_law 1466 = .ok (.ireturn, 1) := by decide +kernel
theorem dL_law_1467 : decode cL_law 1467 = .ok (.iload 5, 2) := by decide +kernel
theorem dL_law_1469 : decode cL_law 1469 = .ok (.ifCond .ne 15, 3) := by decide +kernel
theorem dL_law_1472 : decode cL_law 1472 = .ok (.aload_n 3, 1) := by decide +kernel
theorem dL_law_1473 : decode cL_law 1473 = .ok (.iconst 0, 1) := by decide +kernel
theorem dL_law_1474 : decode cL_law 1474 = .ok (.laload, 1) := by decide +kernel
theorem dL_law_1475 : decode cL_law 1475 = .ok (.iload 6, 2) := by decide +kernel
theorem dL_law_1477 : decode cL_law 1477 = .ok (.i2l, 1) := by decide +kernel
theorem dL_law_1478 : decode cL_law 1478 = .ok (.lcmp, 1) := by decide +kernel
theorem dL_law_1479 : decode cL_law 1479 = .ok (.ifCond .eq 5, 3) := by decide +kernel
theorem dL_law_1482 : decode cL_law 1482 = .ok (.iconst 0, 1) := by decide +kernel
theorem dL_law_1483 : decode cL_law 1483 = .ok (.ireturn, 1) := by decide +kernel
theorem dL_law_1484 : decode cL_law 1484 = .ok (.goto 427, 3) := by decide +kernel
theorem dL_law_1487 : decode cL_law 1487 = .ok (.aload_n 1, 1) := by decide +kernel
theorem dL_law_1488 : decode cL_law 1488 = .ok (.aload_n 0, 1) := by decide +kernel
theorem dL_law_1489 : decode cL_law 1489 = .ok (.iload 4, 2) := by decide +kernel
theorem dL_law_1491 : decode cL_law 1491 = .ok (.iconst 1, 1) := by decide +kernel
theorem dL_law_1492 : decode cL_law 1492 = .ok (.iadd, 1) := by decide +kernel
theorem dL_law_1493 : decode cL_law 1493 = .ok (.iaload, 1) := by decide +kernel
theorem dL_law_1494 : decode cL_law 1494 = .ok (.aload_n 3, 1) := by decide +kernel
theorem dL_law_1495 : decode cL_law 1495 = .ok (.invokestatic 182, 3) := by decide +kernel
theorem dL_law_1498 : decode cL_law 1498 = .ok (.istore 5, 2) := by decide +kernel
theorem dL_law_1500 : decode cL_law 1500 = .ok (.aload_n 2, 1) := by decide +kernel
theorem dL_law_1501 : decode cL_law 1501 = .ok (.aload_n 0, 1) := by decide +kernel
theorem dL_law_1502 : decode cL_law 1502 = .ok (.iload 4, 2) := by decide +kernel
theorem dL_law_1504 : decode cL_law 1504 = .ok (.iconst 1, 1) := by decide +kernel
theorem dL_law_1505 : decode cL_law 1505 = .ok (.iadd, 1) := by decide +kernel
theorem dL_law_1506 : decode cL_law 1506 = .ok (.iaload, 1) := by decide +kernel
theorem dL_law_1507 : decode cL_law 1507 = .ok (.invokevirtual 184, 3) := by decide +kernel
theorem dL_law_1510 : decode cL_law 1510 = .ok (.istore 6, 2) := by decide +kernel
theorem dL_law_1512 : decode cL_law 1512 = .ok (.aload_n 2, 1) := by decide +kernel
theorem dL_law_1513 : decode cL_law 1513 = .ok (.invokevirtual 108, 3) := by decide +kernel
theorem dL_law_1516 : decode cL_law 1516 = .ok (.iload 5, 2) := by decide +kernel
theorem dL_law_1518 : decode cL_law 1518 = .ok (.if_icmp .eq 5, 3) := by decide +kernel
theorem dL_law_1521 : decode cL_law 1521 = .ok (.iconst 0, 1) := by decide +kernel
theorem dL_law_1522 : decode cL_law 1522 = .ok (.ireturn, 1) := by decide +kernel
theorem dL_law_1523 : decode cL_law 1523 = .ok (.iload 5, 2) := by decide +kernel
theorem dL_law_1525 : decode cL_law 1525 = .ok (.ifCond .ne 15, 3) := by decide +kernel
theorem dL_law_1528 : decode cL_law 1528 = .ok (.aload_n 3, 1) := by decide +kernel
theorem dL_law_1529 : decode cL_law 1529 = .ok (.iconst 0, 1) := by decide +kernel
theorem dL_law_1530 : decode cL_law 1530 = .ok (.laload, 1) := by decide +kernel
theorem dL_law_1531 : decode cL_law 1531 = .ok (.iload 6, 2) := by decide +kernel
theorem dL_law_1533 : decode cL_law 1533 = .ok (.i2l, 1) := by decide +kernel
theorem dL_law_1534 : decode cL_law 1534 = .ok (.lcmp, 1) := by decide +kernel
theorem dL_law_1535 : decode cL_law 1535 = .ok (.ifCond .eq 5, 3) := by decide +kernel
theorem dL_law_1538 : decode cL_law 1538 = .ok (.iconst 0, 1) := by decide +kernel
theorem dL_law_1539 : decode cL_law 1539 = .ok (.ireturn, 1) := by decide +kernel
theorem dL_law_1540 : decode cL_law 1540 = .ok (.goto 371, 3) := by decide +kernel
theorem dL_law_1543 : decode cL_law 1543 = .ok (.aload_n 1, 1) := by decide +kernel
theorem dL_law_1544 : decode cL_law 1544 = .ok (.aload_n 0, 1) := by decide +kernel
theorem dL_law_1545 : decode cL_law 1545 = .ok (.iload 4, 2) := by decide +kernel
theorem dL_law_1547 : decode cL_law 1547 = .ok (.iconst 1, 1) := by decide +kernel
theorem dL_law_1548 : decode cL_law 1548 = .ok (.iadd, 1) := by decide +kernel
theorem dL_law_1549 : decode cL_law 1549 = .ok (.iaload, 1) := by decide +kernel
theorem dL_law_1550 : decode cL_law 1550 = .ok (.aload_n 3, 1) := by decide +kernel
theorem dL_law_1551 : decode cL_law 1551 = .ok (.invokestatic 185, 3) := by decide +kernel
theorem dL_law_1554 : decode cL_law 1554 = .ok (.istore 5, 2) := by decide +kernel
theorem dL_law_1556 : decode cL_law 1556 = .ok (.aload_n 2, 1) := by decide +kernel
theorem dL_law_1557 : decode cL_law 1557 = .ok (.aload_n 0, 1) := by decide +kernel
theorem dL_law_1558 : decode cL_law 1558 = .ok (.iload 4, 2) := by decide +kernel
theorem dL_law_1560 : decode cL_law 1560 = .ok (.iconst 1, 1) := by decide +kernel
theorem dL_law_1561 : decode cL_law 1561 = .ok (.iadd, 1) := by decide +kernel
theorem dL_law_1562 : decode cL_law 1562 = .ok (.iaload, 1) := by decide +kernel
theorem dL_law_1563 : decode cL_law 1563 = .ok (.invokevirtual 187, 3) := by decide +kernel
theorem dL_law_1566 : decode cL_law 1566 = .ok (.istore 6, 2) := by decide +kernel
theorem dL_law_1568 : decode cL_law 1568 = .ok (.aload_n 2, 1) := by decide +kernel
theorem dL_law_1569 : decode cL_law 1569 = .ok (.invokevirtual 108, 3) := by decide +kernel
theorem dL_law_1572 : decode cL_law 1572 = .ok (.iload 5, 2) := by decide +kernel
theorem dL_law_1574 : decode cL_law 1574 = .ok (.if_icmp .eq 5, 3) := by decide +kernel
theorem dL_law_1577 : decode cL_law 1577 = .ok (.iconst 0, 1) := by decide +kernel
theorem dL_law_1578 : decode cL_law 1578 = .ok (.ireturn, 1) := by decide +kernel
theorem dL_law_1579 : decode cL_law 1579 = .ok (.iload 5, 2) := by decide +kernel
theorem dL_law_1581 : decode cL_law 1581 = .ok (.ifCond .ne 15, 3) := by decide +kernel
theorem dL_law_1584 : decode cL_law 1584 = .ok (.aload_n 3, 1) := by decide +kernel
theorem dL_law_1585 : decode cL_law 1585 = .ok (.iconst 0, 1) := by decide +kernel
theorem dL_law_1586 : decode cL_law 1586 = .ok (.laload, 1) := by decide +kernel
theorem dL_law_1587 : decode cL_law 1587 = .ok (.iload 6, 2) := by decide +kernel
theorem dL_law_1589 : decode cL_law 1589 = .ok (.i2l, 1) := by decide +kernel
theorem dL_law_1590 : decode cL_law 1590 = .ok (.lcmp, 1) := by decide +kernel
theorem dL_law_1591 : decode cL_law 1591 = .ok (.ifCond .eq 5, 3) := by decide +kernel
theorem dL_law_1594 : decode cL_law 1594 = .ok (.iconst 0, 1) := by decide +kernel
theorem dL_law_1595 : decode cL_law 1595 = .ok (.ireturn, 1) := by decide +kernel
theorem dL_law_1596 : decode cL_law 1596 = .ok (.goto 315, 3) := by decide +kernel
theorem dL_law_1599 : decode cL_law 1599 = .ok (.aload_n 1, 1) := by decide +kernel
theorem dL_law_1600 : decode cL_law 1600 = .ok (.aload_n 0, 1) := by decide +kernel
theorem dL_law_1601 : decode cL_law 1601 = .ok (.iload 4, 2) := by decide +kernel
theorem dL_law_1603 : decode cL_law 1603 = .ok (.iconst 1, 1) := by decide +kernel
theorem dL_law_1604 : decode cL_law 1604 = .ok (.iadd, 1) := by decide +kernel
theorem dL_law_1605 : decode cL_law 1605 = .ok (.iaload, 1) := by decide +kernel
theorem dL_law_1606 : decode cL_law 1606 = .ok (.aload_n 0, 1) := by decide +kernel
theorem dL_law_1607 : decode cL_law 1607 = .ok (.iload 4, 2) := by decide +kernel
theorem dL_law_1609 : decode cL_law 1609 = .ok (.iconst 2, 1) := by decide +kernel
theorem dL_law_1610 : decode cL_law 1610 = .ok (.iadd, 1) := by decide +kernel
theorem dL_law_1611 : decode cL_law 1611 = .ok (.iaload, 1) := by decide +kernel
theorem dL_law_1612 : decode cL_law 1612 = .ok (.i2l, 1) := by decide +kernel
theorem dL_law_1613 : decode cL_law 1613 = .ok (.bipush 32, 2) := by decide +kernel
theorem dL_law_1615 : decode cL_law 1615 = .ok (.lshl, 1) := by decide +kernel
theorem dL_law_1616 : decode cL_law 1616 = .ok (.aload_n 0, 1) := by decide +kernel
theorem dL_law_1617 : decode cL_law 1617 = .ok (.iload 4, 2) := by decide +kernel
theorem dL_law_1619 : decode cL_law 1619 = .ok (.iconst 3, 1) := by decide +kernel
theorem dL_law_1620 : decode cL_law 1620 = .ok (.iadd, 1) := by decide +kernel
theorem dL_law_1621 : decode cL_law 1621 = .ok (.iaload, 1) := by decide +kernel
theorem dL_law_1622 : decode cL_law 1622 = .ok (.i2l, 1) := by decide +kernel
theorem dL_law_1623 : decode cL_law 1623 = .ok (.ldc2_w 188, 3) := by decide +kernel
theorem dL_law_1626 : decode cL_law 1626 = .ok (.land, 1) := by decide +kernel
theorem dL_law_1627 : decode cL_law 1627 = .ok (.lor, 1) := by decide +kernel
theorem dL_law_1628 : decode cL_law 1628 = .ok (.aload_n 3, 1) := by decide +kernel
theorem dL_law_1629 : decode cL_law 1629 = .ok (.invokestatic 190, 3) := by decide +kernel
theorem dL_law_1632 : decode cL_law 1632 = .ok (.istore 5, 2) := by decide +kernel
theorem dL_law_1634 : decode cL_law 1634 = .ok (.aload_n 2, 1) := by decide +kernel
theorem dL_law_1635 : decode cL_law 1635 = .ok (.aload_n 0, 1) := by decide +kernel
theorem dL_law_1636 : decode cL_law 1636 = .ok (.iload 4, 2) := by decide +kernel
theorem dL_law_1638 : decode cL_law 1638 = .ok (.iconst 1, 1) := by decide +kernel
theorem dL_law_1639 : decode cL_law 1639 = .ok (.iadd, 1) := by decide +kernel
theorem dL_law_1640 : decode cL_law 1640 = .ok (.iaload, 1) := by decide +kernel
theorem dL_law_1641 : decode cL_law 1641 = .ok (.aload_n 0, 1) := by decide +kernel
theorem dL_law_1642 : decode cL_law 1642 = .ok (.iload 4, 2) := by decide +kernel
theorem dL_law_1644 : decode cL_law 1644 = .ok (.iconst 2, 1) := by decide +kernel
theorem dL_law_1645 : decode cL_law 1645 = .ok (.iadd, 1) := by decide +kernel
theorem dL_law_1646 : decode cL_law 1646 = .ok (.iaload, 1) := by decide +kernel
theorem dL_law_1647 : decode cL_law 1647 = .ok (.i2l, 1) := by decide +kernel
theorem dL_law_1648 : decode cL_law 1648 = .ok (.bipush 32, 2) := by decide +kernel
theorem dL_law_1650 : decode cL_law 1650 = .ok (.lshl, 1) := by decide +kernel
theorem dL_law_1651 : decode cL_law 1651 = .ok (.aload_n 0, 1) := by decide +kernel
theorem dL_law_1652 : decode cL_law 1652 = .ok (.iload 4, 2) := by decide +kernel
theorem dL_law_1654 : decode cL_law 1654 = .ok (.iconst 3, 1) := by decide +kernel
theorem dL_law_1655 : decode cL_law 1655 = .ok (.iadd, 1) := by decide +kernel
theorem dL_law_1656 : decode cL_law 1656 = .ok (.iaload, 1) := by decide +kernel
theorem dL_law_1657 : decode cL_law 1657 = .ok (.i2l, 1) := by decide +kernel
theorem dL_law_1658 : decode cL_law 1658 = .ok (.ldc2_w 188, 3) := by decide +kernel
theorem dL_law_1661 : decode cL_law 1661 = .ok (.land, 1) := by decide +kernel
theorem dL_law_1662 : decode cL_law 1662 = .ok (.lor, 1) := by decide +kernel
theorem dL_law_1663 : decode cL_law 1663 = .ok (.invokevirtual 193, 3) := by decide +kernel
theorem dL_law_1666 : decode cL_law 1666 = .ok (.istore 6, 2) := by decide +kernel
theorem dL_law_1668 : decode cL_law 1668 = .ok (.aload_n 2, 1) := by decide +kernel
theorem dL_law_1669 : decode cL_law 1669 = .ok (.invokevirtual 108, 3) := by decide +kernel
theorem dL_law_1672 : decode cL_law 1672 = .ok (.iload 5, 2) := by decide +kernel
theorem dL_law_1674 : decode cL_law 1674 = .ok (.if_icmp .eq 5, 3) := by decide +kernel
theorem dL_law_1677 : decode cL_law 1677 = .ok (.iconst 0, 1) := by decide +kernel
theorem dL_law_1678 : decode cL_law 1678 = .ok (.ireturn, 1) := by decide +kernel
theorem dL_law_1679 : decode cL_law 1679 = .ok (.iload 5, 2) := by decide +kernel
theorem dL_law_1681 : decode cL_law 1681 = .ok (.ifCond .ne 15, 3) := by decide +kernel
theorem dL_law_1684 : decode cL_law 1684 = .ok (.aload_n 3, 1) := by decide +kernel
theorem dL_law_1685 : decode cL_law 1685 = .ok (.iconst 0, 1) := by decide +kernel
theorem dL_law_1686 : decode cL_law 1686 = .ok (.laload, 1) := by decide +kernel
theorem dL_law_1687 : decode cL_law 1687 = .ok (.iload 6, 2) := by decide +kernel
theorem dL_law_1689 : decode cL_law 1689 = .ok (.i2l, 1) := by decide +kernel
theorem dL_law_1690 : decode cL_law 1690 = .ok (.lcmp, 1) := by decide +kernel
theorem dL_law_1691 : decode cL_law 1691 = .ok (.ifCond .eq 5, 3) := by decide +kernel
theorem dL_law_1694 : decode cL_law 1694 = .ok (.iconst 0, 1) := by decide +kernel
theorem dL_law_1695 : decode cL_law 1695 = .ok (.ireturn, 1) := by decide +kernel
theorem dL_law_1696 : decode cL_law 1696 = .ok (.goto 215, 3) := by decide +kernel
theorem dL_law_1699 : decode cL_law 1699 = .ok (.aload_n 1, 1) := by decide +kernel
theorem dL_law_1700 : decode cL_law 1700 = .ok (.aload_n 0, 1) := by decide +kernel
theorem dL_law_1701 : decode cL_law 1701 = .ok (.iload 4, 2) := by decide +kernel
theorem dL_law_1703 : decode cL_law 1703 = .ok (.iconst 1, 1) := by decide +kernel
theorem dL_law_1704 : decode cL_law 1704 = .ok (.iadd, 1) := by decide +kernel
theorem dL_law_1705 : decode cL_law 1705 = .ok (.iaload, 1) := by decide +kernel
theorem dL_law_1706 : decode cL_law 1706 = .ok (.i2l, 1) := by decide +kernel
theorem dL_law_1707 : decode cL_law 1707 = .ok (.bipush 32, 2) := by decide +kernel
theorem dL_law_1709 : decode cL_law 1709 = .ok (.lshl, 1) := by decide +kernel
theorem dL_law_1710 : decode cL_law 1710 = .ok (.aload_n 0, 1) := by decide +kernel
theorem dL_law_1711 : decode cL_law 1711 = .ok (.iload 4, 2) := by decide +kernel
theorem dL_law_1713 : decode cL_law 1713 = .ok (.iconst 2, 1) := by decide +kernel
theorem dL_law_1714 : decode cL_law 1714 = .ok (.iadd, 1) := by decide +kernel
theorem dL_law_1715 : decode cL_law 1715 = .ok (.iaload, 1) := by decide +kernel
theorem dL_law_1716 : decode cL_law 1716 = .ok (.i2l, 1) := by decide +kernel
theorem dL_law_1717 : decode cL_law 1717 = .ok (.ldc2_w 188, 3) := by decide +kernel
theorem dL_law_1720 : decode cL_law 1720 = .ok (.land, 1) := by decide +kernel
theorem dL_law_1721 : decode cL_law 1721 = .ok (.lor, 1) := by decide +kernel
theorem dL_law_1722 : decode cL_law 1722 = .ok (.aload_n 0, 1) := by decide +kernel
theorem dL_law_1723 : decode cL_law 1723 = .ok (.iload 4, 2) := by decide +kernel
theorem dL_law_1725 : decode cL_law 1725 = .ok (.iconst 3, 1) := by decide +kernel
theorem dL_law_1726 : decode cL_law 1726 = .ok (.iadd, 1) := by decide +kernel
theorem dL_law_1727 : decode cL_law 1727 = .ok (.iaload, 1) := by decide +kernel
theorem dL_law_1728 : decode cL_law 1728 = .ok (.aload_n 3, 1) := by decide +kernel
theorem dL_law_1729 : decode cL_law 1729 = .ok (.invokestatic 194, 3) := by decide +kernel
theorem dL_law_1732 : decode cL_law 1732 = .ok (.istore 5, 2) := by decide +kernel
theorem dL_law_1734 : decode cL_law 1734 = .ok (.aload_n 2, 1) := by decide +kernel
theorem dL_law_1735 : decode cL_law 1735 = .ok (.aload_n 0, 1) := by decide +kernel
theorem dL_law_1736 : decode cL_law 1736 = .ok (.iload 4, 2) := by decide +kernel
theorem dL_law_1738 : decode cL_law 1738 = .ok (.iconst 1, 1) := by decide +kernel
theorem dL_law_1739 : decode cL_law 1739 = .ok (.iadd, 1) := by decide +kernel
theorem dL_law_1740 : decode cL_law 1740 = .ok (.iaload, 1) := by decide +kernel
theorem dL_law_1741 : decode cL_law 1741 = .ok (.i2l, 1) := by decide +kernel
theorem dL_law_1742 : decode cL_law 1742 = .ok (.bipush 32, 2) := by decide +kernel
theorem dL_law_1744 : decode cL_law 1744 = .ok (.lshl, 1) := by decide +kernel
theorem dL_law_1745 : decode cL_law 1745 = .ok (.aload_n 0, 1) := by decide +kernel
theorem dL_law_1746 : decode cL_law 1746 = .ok (.iload 4, 2) := by decide +kernel
theorem dL_law_1748 : decode cL_law 1748 = .ok (.iconst 2, 1) := by decide +kernel
theorem dL_law_1749 : decode cL_law 1749 = .ok (.iadd, 1) := by decide +kernel
theorem dL_law_1750 : decode cL_law 1750 = .ok (.iaload, 1) := by decide +kernel
theorem dL_law_1751 : decode cL_law 1751 = .ok (.i2l, 1) := by decide +kernel
theorem dL_law_1752 : decode cL_law 1752 = .ok (.ldc2_w 188, 3) := by decide +kernel
theorem dL_law_1755 : decode cL_law 1755 = .ok (.land, 1) := by decide +kernel
theorem dL_law_1756 : decode cL_law 1756 = .ok (.lor, 1) := by decide +kernel
theorem dL_law_1757 : decode cL_law 1757 = .ok (.aload_n 0, 1) := by decide +kernel
theorem dL_law_1758 : decode cL_law 1758 = .ok (.iload 4, 2) := by decide +kernel
theorem dL_law_1760 : decode cL_law 1760 = .ok (.iconst 3, 1) := by decide +kernel
theorem dL_law_1761 : decode cL_law 1761 = .ok (.iadd, 1) := by decide +kernel
theorem dL_law_1762 : decode cL_law 1762 = .ok (.iaload, 1) := by decide +kernel
theorem dL_law_1763 : decode cL_law 1763 = .ok (.invokevirtual 197, 3) := by decide +kernel
theorem dL_law_1766 : decode cL_law 1766 = .ok (.istore 6, 2) := by decide +kernel
theorem dL_law_1768 : decode cL_law 1768 = .ok (.aload_n 2, 1) := by decide +kernel
theorem dL_law_1769 : decode cL_law 1769 = .ok (.invokevirtual 108, 3) := by decide +kernel
theorem dL_law_1772 : decode cL_law 1772 = .ok (.iload 5, 2) := by decide +kernel
theorem dL_law_1774 : decode cL_law 1774 = .ok (.if_icmp .eq 5, 3) := by decide +kernel
theorem dL_law_1777 : decode cL_law 1777 = .ok (.iconst 0, 1) := by decide +kernel
theorem dL_law_1778 : decode cL_law 1778 = .ok (.ireturn, 1) := by decide +kernel
theorem dL_law_1779 : decode cL_law 1779 = .ok (.iload 5, 2) := by decide +kernel
theorem dL_law_1781 : decode cL_law 1781 = .ok (.ifCond .ne 15, 3) := by decide +kernel
theorem dL_law_1784 : decode cL_law 1784 = .ok (.aload_n 3, 1) := by decide +kernel
theorem dL_law_1785 : decode cL_law 1785 = .ok (.iconst 0, 1) := by decide +kernel
theorem dL_law_1786 : decode cL_law 1786 = .ok (.laload, 1) := by decide +kernel
theorem dL_law_1787 : decode cL_law 1787 = .ok (.iload 6, 2) := by decide +kernel
theorem dL_law_1789 : decode cL_law 1789 = .ok (.i2l, 1) := by decide +kernel
theorem dL_law_1790 : decode cL_law 1790 = .ok (.lcmp, 1) := by decide +kernel
theorem dL_law_1791 : decode cL_law 1791 = .ok (.ifCond .eq 5, 3) := by decide +kernel
theorem dL_law_1794 : decode cL_law 1794 = .ok (.iconst 0, 1) := by decide +kernel
theorem dL_law_1795 : decode cL_law 1795 = .ok (.ireturn, 1) := by decide +kernel
theorem dL_law_1796 : decode cL_law 1796 = .ok (.goto 115, 3) := by decide +kernel
theorem dL_law_1799 : decode cL_law 1799 = .ok (.aload_n 1, 1) := by decide +kernel
theorem dL_law_1800 : decode cL_law 1800 = .ok (.aload_n 0, 1) := by decide +kernel
theorem dL_law_1801 : decode cL_law 1801 = .ok (.iload 4, 2) := by decide +kernel
theorem dL_law_1803 : decode cL_law 1803 = .ok (.iconst 1, 1) := by decide +kernel
theorem dL_law_1804 : decode cL_law 1804 = .ok (.iadd, 1) := by decide +kernel
theorem dL_law_1805 : decode cL_law 1805 = .ok (.iaload, 1) := by decide +kernel
theorem dL_law_1806 : decode cL_law 1806 = .ok (.aload_n 3, 1) := by decide +kernel
theorem dL_law_1807 : decode cL_law 1807 = .ok (.invokestatic 198, 3) := by decide +kernel
theorem dL_law_1810 : decode cL_law 1810 = .ok (.istore 5, 2) := by decide +kernel
theorem dL_law_1812 : decode cL_law 1812 = .ok (.aload_n 2, 1) := by decide +kernel
theorem dL_law_1813 : decode cL_law 1813 = .ok (.aload_n 0, 1) := by decide +kernel
theorem dL_law_1814 : decode cL_law 1814 = .ok (.iload 4, 2) := by decide +kernel
theorem dL_law_1816 : decode cL_law 1816 = .ok (.iconst 1, 1) := by decide +kernel
theorem dL_law_1817 : decode cL_law 1817 = .ok (.iadd, 1) := by decide +kernel
theorem dL_law_1818 : decode cL_law 1818 = .ok (.iaload, 1) := by decide +kernel
theorem dL_law_1819 : decode cL_law 1819 = .ok (.invokevirtual 200, 3) := by decide +kernel
theorem dL_law_1822 : decode cL_law 1822 = .ok (.istore 6, 2) := by decide +kernel
theorem dL_law_1824 : decode cL_law 1824 = .ok (.aload_n 2, 1) := by decide +kernel
theorem dL_law_1825 : decode cL_law 1825 = .ok (.invokevirtual 108, 3) := by decide +kernel
theorem dL_law_1828 : decode cL_law 1828 = .ok (.iload 5, 2) := by decide +kernel
theorem dL_law_1830 : decode cL_law 1830 = .ok (.if_icmp .eq 5, 3) := by decide +kernel
theorem dL_law_1833 : decode cL_law 1833 = .ok (.iconst 0, 1) := by decide +kernel
theorem dL_law_1834 : decode cL_law 1834 = .ok (.ireturn, 1) := by decide +kernel
theorem dL_law_1835 : decode cL_law 1835 = .ok (.iload 5, 2) := by decide +kernel
theorem dL_law_1837 : decode cL_law 1837 = .ok (.ifCond .ne 15, 3) := by decide +kernel
theorem dL_law_1840 : decode cL_law 1840 = .ok (.aload_n 3, 1) := by decide +kernel
theorem dL_law_1841 : decode cL_law 1841 = .ok (.iconst 0, 1) := by decide +kernel
theorem dL_law_1842 : decode cL_law 1842 = .ok (.laload, 1) := by decide +kernel
theorem dL_law_1843 : decode cL_law 1843 = .ok (.iload 6, 2) := by decide +kernel
theorem dL_law_1845 : decode cL_law 1845 = .ok (.i2l, 1) := by decide +kernel
theorem dL_law_1846 : decode cL_law 1846 = .ok (.lcmp, 1) := by decide +kernel
theorem dL_law_1847 : decode cL_law 1847 = .ok (.ifCond .eq 5, 3) := by decide +kernel
theorem dL_law_1850 : decode cL_law 1850 = .ok (.iconst 0, 1) := by decide +kernel
theorem dL_law_1851 : decode cL_law 1851 = .ok (.ireturn, 1) := by decide +kernel
theorem dL_law_1852 : decode cL_law 1852 = .ok (.goto 59, 3) := by decide +kernel
theorem dL_law_1855 : decode cL_law 1855 = .ok (.aload_n 1, 1) := by decide +kernel
theorem dL_law_1856 : decode cL_law 1856 = .ok (.aload_n 0, 1) := by decide +kernel
theorem dL_law_1857 : decode cL_law 1857 = .ok (.iload 4, 2) := by decide +kernel
theorem dL_law_1859 : decode cL_law 1859 = .ok (.iconst 1, 1) := by decide +kernel
theorem dL_law_1860 : decode cL_law 1860 = .ok (.iadd, 1) := by decide +kernel
theorem dL_law_1861 : decode cL_law 1861 = .ok (.iaload, 1) := by decide +kernel
theorem dL_law_1862 : decode cL_law 1862 = .ok (.aload_n 3, 1) := by decide +kernel
theorem dL_law_1863 : decode cL_law 1863 = .ok (.invokestatic 201, 3) := by decide +kernel
theorem dL_law_1866 : decode cL_law 1866 = .ok (.istore 5, 2) := by decide +kernel
theorem dL_law_1868 : decode cL_law 1868 = .ok (.aload_n 2, 1) := by decide +kernel
theorem dL_law_1869 : decode cL_law 1869 = .ok (.aload_n 0, 1) := by decide +kernel
theorem dL_law_1870 : decode cL_law 1870 = .ok (.iload 4, 2) := by decide +kernel
theorem dL_law_1872 : decode cL_law 1872 = .ok (.iconst 1, 1) := by decide +kernel
theorem dL_law_1873 : decode cL_law 1873 = .ok (.iadd, 1) := by decide +kernel
theorem dL_law_1874 : decode cL_law 1874 = .ok (.iaload, 1) := by decide +kernel
theorem dL_law_1875 : decode cL_law 1875 = .ok (.invokevirtual 203, 3) := by decide +kernel
theorem dL_law_1878 : decode cL_law 1878 = .ok (.istore 6, 2) := by decide +kernel
theorem dL_law_1880 : decode cL_law 1880 = .ok (.aload_n 2, 1) := by decide +kernel
theorem dL_law_1881 : decode cL_law 1881 = .ok (.invokevirtual 108, 3) := by decide +kernel
theorem dL_law_1884 : decode cL_law 1884 = .ok (.iload 5, 2) := by decide +kernel
theorem dL_law_1886 : decode cL_law 1886 = .ok (.if_icmp .eq 5, 3) := by decide +kernel
theorem dL_law_1889 : decode cL_law 1889 = .ok (.iconst 0, 1) := by decide +kernel
theorem dL_law_1890 : decode cL_law 1890 = .ok (.ireturn, 1) := by decide +kernel
theorem dL_law_1891 : decode cL_law 1891 = .ok (.iload 5, 2) := by decide +kernel
theorem dL_law_1893 : decode cL_law 1893 = .ok (.ifCond .ne 15, 3) := by decide +kernel
theorem dL_law_1896 : decode cL_law 1896 = .ok (.aload_n 3, 1) := by decide +kernel
theorem dL_law_1897 : decode cL_law 1897 = .ok (.iconst 0, 1) := by decide +kernel
theorem dL_law_1898 : decode cL_law 1898 = .ok (.laload, 1) := by decide +kernel
theorem dL_law_1899 : decode cL_law 1899 = .ok (.iload 6, 2) := by decide +kernel
theorem dL_law_1901 : decode cL_law 1901 = .ok (.i2l, 1) := by decide +kernel
theorem dL_law_1902 : decode cL_law 1902 = .ok (.lcmp, 1) := by decide +kernel
theorem dL_law_1903 : decode cL_law 1903 = .ok (.ifCond .eq 5, 3) := by decide +kernel
theorem dL_law_1906 : decode cL_law 1906 = .ok (.iconst 0, 1) := by decide +kernel
theorem dL_law_1907 : decode cL_law 1907 = .ok (.ireturn, 1) := by decide +kernel
theorem dL_law_1908 : decode cL_law 1908 = .ok (.goto 3, 3) := by decide +kernel
theorem dL_law_1911 : decode cL_law 1911 = .ok (.iinc 4 6, 3) := by decide +kernel
theorem dL_law_1914 : decode cL_law 1914 = .ok (.goto (-1891), 3) := by decide +kernel
theorem dL_law_1917 : decode cL_law 1917 = .ok (.iconst 1, 1) := by decide +kernel
theorem dL_law_1918 : decode cL_law 1918 = .ok (.ireturn, 1) := by decide +kernel
end
