section
-- ===== PART A: goes FIRST, ahead of the names: the tables' words, and 'selects' of the private methods out of them =====
/-- a private method of a class that the tables say can be made, by its rows of tables_1 -/
def lw_okq (q : MethodName × Nat) : Prop := (q.1.cls ≠ "java/lang/invoke/MethodHandle" ∧ q.1.cls ≠ "java/lang/invoke/VarHandle") ∧ Cond.instantiable q.1.cls q.2 ∈ tables_1 ∧ Cond.privateMethod q.1 ∈ tables_1 ∧ Cond.instanceMethod q.1 ∈ tables_1
theorem lw_p0 : lw_okq (⟨"WettedNet$Rooms", "restart", "(I)V"⟩, 7) := ⟨⟨by decide +kernel, by decide +kernel⟩, List.mem_of_getElem? (i := 69) (by decide +kernel), List.mem_of_getElem? (i := 75) (by decide +kernel), List.mem_of_getElem? (i := 76) (by decide +kernel)⟩
theorem lw_p1 : lw_okq (⟨"WettedNet$Script", "readLine", "(I)Z"⟩, 8) := ⟨⟨by decide +kernel, by decide +kernel⟩, List.mem_of_getElem? (i := 104) (by decide +kernel), List.mem_of_getElem? (i := 332) (by decide +kernel), List.mem_of_getElem? (i := 333) (by decide +kernel)⟩
theorem lw_p2 : lw_okq (⟨"WettedNet$Script", "skipBlanks", "()V"⟩, 8) := ⟨⟨by decide +kernel, by decide +kernel⟩, List.mem_of_getElem? (i := 104) (by decide +kernel), List.mem_of_getElem? (i := 336) (by decide +kernel), List.mem_of_getElem? (i := 337) (by decide +kernel)⟩
theorem lw_p3 : lw_okq (⟨"WettedNet$Script", "endOfRow", "(II)I"⟩, 8) := ⟨⟨by decide +kernel, by decide +kernel⟩, List.mem_of_getElem? (i := 104) (by decide +kernel), List.mem_of_getElem? (i := 340) (by decide +kernel), List.mem_of_getElem? (i := 341) (by decide +kernel)⟩
theorem lw_p4 : lw_okq (⟨"WettedNet$Script", "kindOf", "(I)I"⟩, 8) := ⟨⟨by decide +kernel, by decide +kernel⟩, List.mem_of_getElem? (i := 104) (by decide +kernel), List.mem_of_getElem? (i := 344) (by decide +kernel), List.mem_of_getElem? (i := 345) (by decide +kernel)⟩
theorem lw_p5 : lw_okq (⟨"WettedNet$Script", "spells", "(Ljava/lang/String;I)Z"⟩, 8) := ⟨⟨by decide +kernel, by decide +kernel⟩, List.mem_of_getElem? (i := 104) (by decide +kernel), List.mem_of_getElem? (i := 359) (by decide +kernel), List.mem_of_getElem? (i := 360) (by decide +kernel)⟩
theorem lw_p6 : lw_okq (⟨"WettedNet$Script", "byteAt", "(I)I"⟩, 8) := ⟨⟨by decide +kernel, by decide +kernel⟩, List.mem_of_getElem? (i := 104) (by decide +kernel), List.mem_of_getElem? (i := 373) (by decide +kernel), List.mem_of_getElem? (i := 374) (by decide +kernel)⟩
theorem lw_p7 : lw_okq (⟨"WettedNet$Script", "readFirst", "(I)I"⟩, 8) := ⟨⟨by decide +kernel, by decide +kernel⟩, List.mem_of_getElem? (i := 104) (by decide +kernel), List.mem_of_getElem? (i := 415) (by decide +kernel), List.mem_of_getElem? (i := 416) (by decide +kernel)⟩
theorem lw_p8 : lw_okq (⟨"WettedNet$Script", "readNumber", "(III)I"⟩, 8) := ⟨⟨by decide +kernel, by decide +kernel⟩, List.mem_of_getElem? (i := 104) (by decide +kernel), List.mem_of_getElem? (i := 419) (by decide +kernel), List.mem_of_getElem? (i := 420) (by decide +kernel)⟩
theorem lw_p9 : lw_okq (⟨"WettedNet$Script", "readSecond", "(II)I"⟩, 8) := ⟨⟨by decide +kernel, by decide +kernel⟩, List.mem_of_getElem? (i := 104) (by decide +kernel), List.mem_of_getElem? (i := 427) (by decide +kernel), List.mem_of_getElem? (i := 428) (by decide +kernel)⟩
theorem lw_p10 : lw_okq (⟨"WettedNet$Rooms", "changeRoom", "(III)V"⟩, 7) := ⟨⟨by decide +kernel, by decide +kernel⟩, List.mem_of_getElem? (i := 69) (by decide +kernel), List.mem_of_getElem? (i := 456) (by decide +kernel), List.mem_of_getElem? (i := 457) (by decide +kernel)⟩
theorem lw_p11 : lw_okq (⟨"WettedNet$Rooms", "changeWays", "(III)V"⟩, 7) := ⟨⟨by decide +kernel, by decide +kernel⟩, List.mem_of_getElem? (i := 69) (by decide +kernel), List.mem_of_getElem? (i := 464) (by decide +kernel), List.mem_of_getElem? (i := 465) (by decide +kernel)⟩
theorem lw_p12 : lw_okq (⟨"WettedNet$Rooms", "setWay", "(IIZ)V"⟩, 7) := ⟨⟨by decide +kernel, by decide +kernel⟩, List.mem_of_getElem? (i := 69) (by decide +kernel), List.mem_of_getElem? (i := 468) (by decide +kernel), List.mem_of_getElem? (i := 469) (by decide +kernel)⟩
theorem lw_p13 : lw_okq (⟨"WettedNet$Fires", "lostFrom", "(III)I"⟩, 4) := ⟨⟨by decide +kernel, by decide +kernel⟩, List.mem_of_getElem? (i := 135) (by decide +kernel), List.mem_of_getElem? (i := 521) (by decide +kernel), List.mem_of_getElem? (i := 522) (by decide +kernel)⟩
theorem lw_p14 : lw_okq (⟨"WettedNet$Fires", "lostByBest", "(IIIII)I"⟩, 4) := ⟨⟨by decide +kernel, by decide +kernel⟩, List.mem_of_getElem? (i := 135) (by decide +kernel), List.mem_of_getElem? (i := 551) (by decide +kernel), List.mem_of_getElem? (i := 552) (by decide +kernel)⟩
theorem lw_p15 : lw_okq (⟨"WettedNet$Fires", "howManyWet", "(I)I"⟩, 4) := ⟨⟨by decide +kernel, by decide +kernel⟩, List.mem_of_getElem? (i := 135) (by decide +kernel), List.mem_of_getElem? (i := 555) (by decide +kernel), List.mem_of_getElem? (i := 556) (by decide +kernel)⟩
def lw_privs_1 : List (MethodName × Nat) := [(⟨"WettedNet$Rooms", "restart", "(I)V"⟩, 7), (⟨"WettedNet$Script", "readLine", "(I)Z"⟩, 8), (⟨"WettedNet$Script", "skipBlanks", "()V"⟩, 8), (⟨"WettedNet$Script", "endOfRow", "(II)I"⟩, 8), (⟨"WettedNet$Script", "kindOf", "(I)I"⟩, 8), (⟨"WettedNet$Script", "spells", "(Ljava/lang/String;I)Z"⟩, 8), (⟨"WettedNet$Script", "byteAt", "(I)I"⟩, 8), (⟨"WettedNet$Script", "readFirst", "(I)I"⟩, 8), (⟨"WettedNet$Script", "readNumber", "(III)I"⟩, 8), (⟨"WettedNet$Script", "readSecond", "(II)I"⟩, 8), (⟨"WettedNet$Rooms", "changeRoom", "(III)V"⟩, 7), (⟨"WettedNet$Rooms", "changeWays", "(III)V"⟩, 7), (⟨"WettedNet$Rooms", "setWay", "(IIZ)V"⟩, 7), (⟨"WettedNet$Fires", "lostFrom", "(III)I"⟩, 4), (⟨"WettedNet$Fires", "lostByBest", "(IIIII)I"⟩, 4), (⟨"WettedNet$Fires", "howManyWet", "(I)I"⟩, 4)]
theorem lw_r1 : ∀ q ∈ lw_privs_1, lw_okq q := List.forall_mem_cons.mpr ⟨lw_p0, List.forall_mem_cons.mpr ⟨lw_p1, List.forall_mem_cons.mpr ⟨lw_p2, List.forall_mem_cons.mpr ⟨lw_p3, List.forall_mem_cons.mpr ⟨lw_p4, List.forall_mem_cons.mpr ⟨lw_p5, List.forall_mem_cons.mpr ⟨lw_p6, List.forall_mem_cons.mpr ⟨lw_p7, List.forall_mem_cons.mpr ⟨lw_p8, List.forall_mem_cons.mpr ⟨lw_p9, List.forall_mem_cons.mpr ⟨lw_p10, List.forall_mem_cons.mpr ⟨lw_p11, List.forall_mem_cons.mpr ⟨lw_p12, List.forall_mem_cons.mpr ⟨lw_p13, List.forall_mem_cons.mpr ⟨lw_p14, List.forall_mem_cons.mpr ⟨lw_p15, fun _ h => absurd h List.not_mem_nil⟩⟩⟩⟩⟩⟩⟩⟩⟩⟩⟩⟩⟩⟩⟩⟩
theorem lw_p16 : lw_okq (⟨"WettedNet$Fires", "isFirstWet", "(III)Z"⟩, 4) := ⟨⟨by decide +kernel, by decide +kernel⟩, List.mem_of_getElem? (i := 135) (by decide +kernel), List.mem_of_getElem? (i := 583) (by decide +kernel), List.mem_of_getElem? (i := 584) (by decide +kernel)⟩
theorem lw_p17 : lw_okq (⟨"WettedNet$Throwing", "turnsFrom", "(II)I"⟩, 2) := ⟨⟨by decide +kernel, by decide +kernel⟩, List.mem_of_getElem? (i := 188) (by decide +kernel), List.mem_of_getElem? (i := 642) (by decide +kernel), List.mem_of_getElem? (i := 643) (by decide +kernel)⟩
theorem lw_p18 : lw_okq (⟨"WettedNet$Throwing", "turnsByBest", "(II)I"⟩, 2) := ⟨⟨by decide +kernel, by decide +kernel⟩, List.mem_of_getElem? (i := 188) (by decide +kernel), List.mem_of_getElem? (i := 649) (by decide +kernel), List.mem_of_getElem? (i := 650) (by decide +kernel)⟩
theorem lw_p19 : lw_okq (⟨"WettedNet$Throwing", "leastSpark", "(II)I"⟩, 2) := ⟨⟨by decide +kernel, by decide +kernel⟩, List.mem_of_getElem? (i := 188) (by decide +kernel), List.mem_of_getElem? (i := 663) (by decide +kernel), List.mem_of_getElem? (i := 664) (by decide +kernel)⟩
theorem lw_p20 : lw_okq (⟨"WettedNet$Catching", "catchOnce", "(III)I"⟩, 3) := ⟨⟨by decide +kernel, by decide +kernel⟩, List.mem_of_getElem? (i := 201) (by decide +kernel), List.mem_of_getElem? (i := 688) (by decide +kernel), List.mem_of_getElem? (i := 689) (by decide +kernel)⟩
theorem lw_p21 : lw_okq (⟨"WettedNet$Catching", "isSeeds", "(II)Z"⟩, 3) := ⟨⟨by decide +kernel, by decide +kernel⟩, List.mem_of_getElem? (i := 201) (by decide +kernel), List.mem_of_getElem? (i := 714) (by decide +kernel), List.mem_of_getElem? (i := 715) (by decide +kernel)⟩
theorem lw_p22 : lw_okq (⟨"WettedNet$Forcing", "forceOnce", "(II)I"⟩, 5) := ⟨⟨by decide +kernel, by decide +kernel⟩, List.mem_of_getElem? (i := 217) (by decide +kernel), List.mem_of_getElem? (i := 742) (by decide +kernel), List.mem_of_getElem? (i := 743) (by decide +kernel)⟩
theorem lw_p23 : lw_okq (⟨"WettedNet$Forcing", "forcesAll", "(I)Z"⟩, 5) := ⟨⟨by decide +kernel, by decide +kernel⟩, List.mem_of_getElem? (i := 217) (by decide +kernel), List.mem_of_getElem? (i := 771) (by decide +kernel), List.mem_of_getElem? (i := 772) (by decide +kernel)⟩
theorem lw_p24 : lw_okq (⟨"WettedNet$Chances", "partOfSum", "(III)J"⟩, 4) := ⟨⟨by decide +kernel, by decide +kernel⟩, List.mem_of_getElem? (i := 239) (by decide +kernel), List.mem_of_getElem? (i := 810) (by decide +kernel), List.mem_of_getElem? (i := 811) (by decide +kernel)⟩
theorem lw_p25 : lw_okq (⟨"WettedNet$Chances", "listWays", "()V"⟩, 4) := ⟨⟨by decide +kernel, by decide +kernel⟩, List.mem_of_getElem? (i := 239) (by decide +kernel), List.mem_of_getElem? (i := 814) (by decide +kernel), List.mem_of_getElem? (i := 815) (by decide +kernel)⟩
theorem lw_p26 : lw_okq (⟨"WettedNet$Chances", "sumFrom", "(IIJII)J"⟩, 4) := ⟨⟨by decide +kernel, by decide +kernel⟩, List.mem_of_getElem? (i := 239) (by decide +kernel), List.mem_of_getElem? (i := 822) (by decide +kernel), List.mem_of_getElem? (i := 823) (by decide +kernel)⟩
theorem lw_p27 : lw_okq (⟨"WettedNet$Chances", "openWay", "(II)I"⟩, 4) := ⟨⟨by decide +kernel, by decide +kernel⟩, List.mem_of_getElem? (i := 239) (by decide +kernel), List.mem_of_getElem? (i := 826) (by decide +kernel), List.mem_of_getElem? (i := 827) (by decide +kernel)⟩
theorem lw_p28 : lw_okq (⟨"WettedNet$Chances", "worth", "(II)I"⟩, 4) := ⟨⟨by decide +kernel, by decide +kernel⟩, List.mem_of_getElem? (i := 239) (by decide +kernel), List.mem_of_getElem? (i := 830) (by decide +kernel), List.mem_of_getElem? (i := 831) (by decide +kernel)⟩
theorem lw_p29 : lw_okq (⟨"WettedNet$Walks", "goesFrom", "(IIZI)I"⟩, 2) := ⟨⟨by decide +kernel, by decide +kernel⟩, List.mem_of_getElem? (i := 258) (by decide +kernel), List.mem_of_getElem? (i := 859) (by decide +kernel), List.mem_of_getElem? (i := 860) (by decide +kernel)⟩
theorem lw_p30 : lw_okq (⟨"WettedNet$Walks", "pairsAmong", "(II)I"⟩, 2) := ⟨⟨by decide +kernel, by decide +kernel⟩, List.mem_of_getElem? (i := 258) (by decide +kernel), List.mem_of_getElem? (i := 895) (by decide +kernel), List.mem_of_getElem? (i := 896) (by decide +kernel)⟩
theorem lw_p31 : lw_okq (⟨"WettedNetModel", "token", "()V"⟩, 29) := ⟨⟨by decide +kernel, by decide +kernel⟩, List.mem_of_getElem? (i := 907) (by decide +kernel), List.mem_of_getElem? (i := 1019) (by decide +kernel), List.mem_of_getElem? (i := 1020) (by decide +kernel)⟩
def lw_privs_2 : List (MethodName × Nat) := [(⟨"WettedNet$Fires", "isFirstWet", "(III)Z"⟩, 4), (⟨"WettedNet$Throwing", "turnsFrom", "(II)I"⟩, 2), (⟨"WettedNet$Throwing", "turnsByBest", "(II)I"⟩, 2), (⟨"WettedNet$Throwing", "leastSpark", "(II)I"⟩, 2), (⟨"WettedNet$Catching", "catchOnce", "(III)I"⟩, 3), (⟨"WettedNet$Catching", "isSeeds", "(II)Z"⟩, 3), (⟨"WettedNet$Forcing", "forceOnce", "(II)I"⟩, 5), (⟨"WettedNet$Forcing", "forcesAll", "(I)Z"⟩, 5), (⟨"WettedNet$Chances", "partOfSum", "(III)J"⟩, 4), (⟨"WettedNet$Chances", "listWays", "()V"⟩, 4), (⟨"WettedNet$Chances", "sumFrom", "(IIJII)J"⟩, 4), (⟨"WettedNet$Chances", "openWay", "(II)I"⟩, 4), (⟨"WettedNet$Chances", "worth", "(II)I"⟩, 4), (⟨"WettedNet$Walks", "goesFrom", "(IIZI)I"⟩, 2), (⟨"WettedNet$Walks", "pairsAmong", "(II)I"⟩, 2), (⟨"WettedNetModel", "token", "()V"⟩, 29)]
theorem lw_r2 : ∀ q ∈ lw_privs_2, lw_okq q := List.forall_mem_cons.mpr ⟨lw_p16, List.forall_mem_cons.mpr ⟨lw_p17, List.forall_mem_cons.mpr ⟨lw_p18, List.forall_mem_cons.mpr ⟨lw_p19, List.forall_mem_cons.mpr ⟨lw_p20, List.forall_mem_cons.mpr ⟨lw_p21, List.forall_mem_cons.mpr ⟨lw_p22, List.forall_mem_cons.mpr ⟨lw_p23, List.forall_mem_cons.mpr ⟨lw_p24, List.forall_mem_cons.mpr ⟨lw_p25, List.forall_mem_cons.mpr ⟨lw_p26, List.forall_mem_cons.mpr ⟨lw_p27, List.forall_mem_cons.mpr ⟨lw_p28, List.forall_mem_cons.mpr ⟨lw_p29, List.forall_mem_cons.mpr ⟨lw_p30, List.forall_mem_cons.mpr ⟨lw_p31, fun _ h => absurd h List.not_mem_nil⟩⟩⟩⟩⟩⟩⟩⟩⟩⟩⟩⟩⟩⟩⟩⟩
theorem lw_p32 : lw_okq (⟨"WettedNetModel", "readsLine", "()Z"⟩, 29) := ⟨⟨by decide +kernel, by decide +kernel⟩, List.mem_of_getElem? (i := 907) (by decide +kernel), List.mem_of_getElem? (i := 1026) (by decide +kernel), List.mem_of_getElem? (i := 1027) (by decide +kernel)⟩
theorem lw_p33 : lw_okq (⟨"WettedNetModel", "isWord", "(II)Z"⟩, 29) := ⟨⟨by decide +kernel, by decide +kernel⟩, List.mem_of_getElem? (i := 907) (by decide +kernel), List.mem_of_getElem? (i := 1031) (by decide +kernel), List.mem_of_getElem? (i := 1032) (by decide +kernel)⟩
theorem lw_p34 : lw_okq (⟨"WettedNetModel", "readsRest", "(I)Z"⟩, 29) := ⟨⟨by decide +kernel, by decide +kernel⟩, List.mem_of_getElem? (i := 907) (by decide +kernel), List.mem_of_getElem? (i := 1041) (by decide +kernel), List.mem_of_getElem? (i := 1042) (by decide +kernel)⟩
theorem lw_p35 : lw_okq (⟨"WettedNetModel", "reads", "(IIII)Z"⟩, 29) := ⟨⟨by decide +kernel, by decide +kernel⟩, List.mem_of_getElem? (i := 907) (by decide +kernel), List.mem_of_getElem? (i := 1045) (by decide +kernel), List.mem_of_getElem? (i := 1046) (by decide +kernel)⟩
theorem lw_p36 : lw_okq (⟨"WettedNetModel", "lay", "(I)V"⟩, 29) := ⟨⟨by decide +kernel, by decide +kernel⟩, List.mem_of_getElem? (i := 907) (by decide +kernel), List.mem_of_getElem? (i := 1054) (by decide +kernel), List.mem_of_getElem? (i := 1055) (by decide +kernel)⟩
theorem lw_p37 : lw_okq (⟨"WettedNetModel", "isRoom", "(I)Z"⟩, 29) := ⟨⟨by decide +kernel, by decide +kernel⟩, List.mem_of_getElem? (i := 907) (by decide +kernel), List.mem_of_getElem? (i := 1062) (by decide +kernel), List.mem_of_getElem? (i := 1063) (by decide +kernel)⟩
theorem lw_p38 : lw_okq (⟨"WettedNetModel", "atOf", "(I)I"⟩, 29) := ⟨⟨by decide +kernel, by decide +kernel⟩, List.mem_of_getElem? (i := 907) (by decide +kernel), List.mem_of_getElem? (i := 1066) (by decide +kernel), List.mem_of_getElem? (i := 1067) (by decide +kernel)⟩
theorem lw_p39 : lw_okq (⟨"WettedNetModel", "isSetOf", "(I)Z"⟩, 29) := ⟨⟨by decide +kernel, by decide +kernel⟩, List.mem_of_getElem? (i := 907) (by decide +kernel), List.mem_of_getElem? (i := 1077) (by decide +kernel), List.mem_of_getElem? (i := 1078) (by decide +kernel)⟩
theorem lw_p40 : lw_okq (⟨"WettedNetModel", "all", "()I"⟩, 29) := ⟨⟨by decide +kernel, by decide +kernel⟩, List.mem_of_getElem? (i := 907) (by decide +kernel), List.mem_of_getElem? (i := 1081) (by decide +kernel), List.mem_of_getElem? (i := 1082) (by decide +kernel)⟩
theorem lw_p41 : lw_okq (⟨"WettedNetModel", "layLost", "(I)V"⟩, 29) := ⟨⟨by decide +kernel, by decide +kernel⟩, List.mem_of_getElem? (i := 907) (by decide +kernel), List.mem_of_getElem? (i := 1086) (by decide +kernel), List.mem_of_getElem? (i := 1087) (by decide +kernel)⟩
theorem lw_p42 : lw_okq (⟨"WettedNetModel", "mayWet", "(IIII)Z"⟩, 29) := ⟨⟨by decide +kernel, by decide +kernel⟩, List.mem_of_getElem? (i := 907) (by decide +kernel), List.mem_of_getElem? (i := 1094) (by decide +kernel), List.mem_of_getElem? (i := 1095) (by decide +kernel)⟩
theorem lw_p43 : lw_okq (⟨"WettedNetModel", "behind", "(III)I"⟩, 29) := ⟨⟨by decide +kernel, by decide +kernel⟩, List.mem_of_getElem? (i := 907) (by decide +kernel), List.mem_of_getElem? (i := 1098) (by decide +kernel), List.mem_of_getElem? (i := 1099) (by decide +kernel)⟩
theorem lw_p44 : lw_okq (⟨"WettedNetModel", "spread", "(II)I"⟩, 29) := ⟨⟨by decide +kernel, by decide +kernel⟩, List.mem_of_getElem? (i := 907) (by decide +kernel), List.mem_of_getElem? (i := 1102) (by decide +kernel), List.mem_of_getElem? (i := 1103) (by decide +kernel)⟩
theorem lw_p45 : lw_okq (⟨"WettedNetModel", "besideAll", "(I)I"⟩, 29) := ⟨⟨by decide +kernel, by decide +kernel⟩, List.mem_of_getElem? (i := 907) (by decide +kernel), List.mem_of_getElem? (i := 1106) (by decide +kernel), List.mem_of_getElem? (i := 1107) (by decide +kernel)⟩
theorem lw_p46 : lw_okq (⟨"WettedNetModel", "folkOf", "(I)I"⟩, 29) := ⟨⟨by decide +kernel, by decide +kernel⟩, List.mem_of_getElem? (i := 907) (by decide +kernel), List.mem_of_getElem? (i := 1110) (by decide +kernel), List.mem_of_getElem? (i := 1111) (by decide +kernel)⟩
theorem lw_p47 : lw_okq (⟨"WettedNetModel", "layTill", "()V"⟩, 29) := ⟨⟨by decide +kernel, by decide +kernel⟩, List.mem_of_getElem? (i := 907) (by decide +kernel), List.mem_of_getElem? (i := 1139) (by decide +kernel), List.mem_of_getElem? (i := 1140) (by decide +kernel)⟩
def lw_privs_3 : List (MethodName × Nat) := [(⟨"WettedNetModel", "readsLine", "()Z"⟩, 29), (⟨"WettedNetModel", "isWord", "(II)Z"⟩, 29), (⟨"WettedNetModel", "readsRest", "(I)Z"⟩, 29), (⟨"WettedNetModel", "reads", "(IIII)Z"⟩, 29), (⟨"WettedNetModel", "lay", "(I)V"⟩, 29), (⟨"WettedNetModel", "isRoom", "(I)Z"⟩, 29), (⟨"WettedNetModel", "atOf", "(I)I"⟩, 29), (⟨"WettedNetModel", "isSetOf", "(I)Z"⟩, 29), (⟨"WettedNetModel", "all", "()I"⟩, 29), (⟨"WettedNetModel", "layLost", "(I)V"⟩, 29), (⟨"WettedNetModel", "mayWet", "(IIII)Z"⟩, 29), (⟨"WettedNetModel", "behind", "(III)I"⟩, 29), (⟨"WettedNetModel", "spread", "(II)I"⟩, 29), (⟨"WettedNetModel", "besideAll", "(I)I"⟩, 29), (⟨"WettedNetModel", "folkOf", "(I)I"⟩, 29), (⟨"WettedNetModel", "layTill", "()V"⟩, 29)]
theorem lw_r3 : ∀ q ∈ lw_privs_3, lw_okq q := List.forall_mem_cons.mpr ⟨lw_p32, List.forall_mem_cons.mpr ⟨lw_p33, List.forall_mem_cons.mpr ⟨lw_p34, List.forall_mem_cons.mpr ⟨lw_p35, List.forall_mem_cons.mpr ⟨lw_p36, List.forall_mem_cons.mpr ⟨lw_p37, List.forall_mem_cons.mpr ⟨lw_p38, List.forall_mem_cons.mpr ⟨lw_p39, List.forall_mem_cons.mpr ⟨lw_p40, List.forall_mem_cons.mpr ⟨lw_p41, List.forall_mem_cons.mpr ⟨lw_p42, List.forall_mem_cons.mpr ⟨lw_p43, List.forall_mem_cons.mpr ⟨lw_p44, List.forall_mem_cons.mpr ⟨lw_p45, List.forall_mem_cons.mpr ⟨lw_p46, List.forall_mem_cons.mpr ⟨lw_p47, fun _ h => absurd h List.not_mem_nil⟩⟩⟩⟩⟩⟩⟩⟩⟩⟩⟩⟩⟩⟩⟩⟩
theorem lw_p48 : lw_okq (⟨"WettedNetModel", "caughtEnd", "(II)I"⟩, 29) := ⟨⟨by decide +kernel, by decide +kernel⟩, List.mem_of_getElem? (i := 907) (by decide +kernel), List.mem_of_getElem? (i := 1151) (by decide +kernel), List.mem_of_getElem? (i := 1152) (by decide +kernel)⟩
theorem lw_p49 : lw_okq (⟨"WettedNetModel", "caughtBy", "(II)I"⟩, 29) := ⟨⟨by decide +kernel, by decide +kernel⟩, List.mem_of_getElem? (i := 907) (by decide +kernel), List.mem_of_getElem? (i := 1155) (by decide +kernel), List.mem_of_getElem? (i := 1156) (by decide +kernel)⟩
theorem lw_p50 : lw_okq (⟨"WettedNetModel", "forcedBy", "(I)I"⟩, 29) := ⟨⟨by decide +kernel, by decide +kernel⟩, List.mem_of_getElem? (i := 907) (by decide +kernel), List.mem_of_getElem? (i := 1172) (by decide +kernel), List.mem_of_getElem? (i := 1173) (by decide +kernel)⟩
theorem lw_p51 : lw_okq (⟨"WettedNetModel", "forces", "(II)I"⟩, 29) := ⟨⟨by decide +kernel, by decide +kernel⟩, List.mem_of_getElem? (i := 907) (by decide +kernel), List.mem_of_getElem? (i := 1176) (by decide +kernel), List.mem_of_getElem? (i := 1177) (by decide +kernel)⟩
theorem lw_p52 : lw_okq (⟨"WettedNetModel", "roundsOf", "(I)I"⟩, 29) := ⟨⟨by decide +kernel, by decide +kernel⟩, List.mem_of_getElem? (i := 907) (by decide +kernel), List.mem_of_getElem? (i := 1184) (by decide +kernel), List.mem_of_getElem? (i := 1185) (by decide +kernel)⟩
theorem lw_p53 : lw_okq (⟨"WettedNetModel", "wayMany", "()I"⟩, 29) := ⟨⟨by decide +kernel, by decide +kernel⟩, List.mem_of_getElem? (i := 907) (by decide +kernel), List.mem_of_getElem? (i := 1194) (by decide +kernel), List.mem_of_getElem? (i := 1195) (by decide +kernel)⟩
theorem lw_p54 : lw_okq (⟨"WettedNetModel", "carriedBy", "(II)J"⟩, 29) := ⟨⟨by decide +kernel, by decide +kernel⟩, List.mem_of_getElem? (i := 907) (by decide +kernel), List.mem_of_getElem? (i := 1199) (by decide +kernel), List.mem_of_getElem? (i := 1200) (by decide +kernel)⟩
theorem lw_p55 : lw_okq (⟨"WettedNetModel", "layWays", "()V"⟩, 29) := ⟨⟨by decide +kernel, by decide +kernel⟩, List.mem_of_getElem? (i := 907) (by decide +kernel), List.mem_of_getElem? (i := 1203) (by decide +kernel), List.mem_of_getElem? (i := 1204) (by decide +kernel)⟩
theorem lw_p56 : lw_okq (⟨"WettedNetModel", "reached", "(III)I"⟩, 29) := ⟨⟨by decide +kernel, by decide +kernel⟩, List.mem_of_getElem? (i := 907) (by decide +kernel), List.mem_of_getElem? (i := 1207) (by decide +kernel), List.mem_of_getElem? (i := 1208) (by decide +kernel)⟩
theorem lw_p57 : lw_okq (⟨"WettedNetModel", "part", "(JI)J"⟩, 29) := ⟨⟨by decide +kernel, by decide +kernel⟩, List.mem_of_getElem? (i := 907) (by decide +kernel), List.mem_of_getElem? (i := 1211) (by decide +kernel), List.mem_of_getElem? (i := 1212) (by decide +kernel)⟩
theorem lw_p58 : lw_okq (⟨"WettedNetModel", "layToken", "(II)V"⟩, 29) := ⟨⟨by decide +kernel, by decide +kernel⟩, List.mem_of_getElem? (i := 907) (by decide +kernel), List.mem_of_getElem? (i := 1231) (by decide +kernel), List.mem_of_getElem? (i := 1232) (by decide +kernel)⟩
theorem lw_p59 : lw_okq (⟨"WettedNetModel", "isEven", "()Z"⟩, 29) := ⟨⟨by decide +kernel, by decide +kernel⟩, List.mem_of_getElem? (i := 907) (by decide +kernel), List.mem_of_getElem? (i := 1239) (by decide +kernel), List.mem_of_getElem? (i := 1240) (by decide +kernel)⟩
def lw_privs_4 : List (MethodName × Nat) := [(⟨"WettedNetModel", "caughtEnd", "(II)I"⟩, 29), (⟨"WettedNetModel", "caughtBy", "(II)I"⟩, 29), (⟨"WettedNetModel", "forcedBy", "(I)I"⟩, 29), (⟨"WettedNetModel", "forces", "(II)I"⟩, 29), (⟨"WettedNetModel", "roundsOf", "(I)I"⟩, 29), (⟨"WettedNetModel", "wayMany", "()I"⟩, 29), (⟨"WettedNetModel", "carriedBy", "(II)J"⟩, 29), (⟨"WettedNetModel", "layWays", "()V"⟩, 29), (⟨"WettedNetModel", "reached", "(III)I"⟩, 29), (⟨"WettedNetModel", "part", "(JI)J"⟩, 29), (⟨"WettedNetModel", "layToken", "(II)V"⟩, 29), (⟨"WettedNetModel", "isEven", "()Z"⟩, 29)]
theorem lw_r4 : ∀ q ∈ lw_privs_4, lw_okq q := List.forall_mem_cons.mpr ⟨lw_p48, List.forall_mem_cons.mpr ⟨lw_p49, List.forall_mem_cons.mpr ⟨lw_p50, List.forall_mem_cons.mpr ⟨lw_p51, List.forall_mem_cons.mpr ⟨lw_p52, List.forall_mem_cons.mpr ⟨lw_p53, List.forall_mem_cons.mpr ⟨lw_p54, List.forall_mem_cons.mpr ⟨lw_p55, List.forall_mem_cons.mpr ⟨lw_p56, List.forall_mem_cons.mpr ⟨lw_p57, List.forall_mem_cons.mpr ⟨lw_p58, List.forall_mem_cons.mpr ⟨lw_p59, fun _ h => absurd h List.not_mem_nil⟩⟩⟩⟩⟩⟩⟩⟩⟩⟩⟩⟩
def lw_privs : List (MethodName × Nat) := lw_privs_1 ++ (lw_privs_2 ++ (lw_privs_3 ++ (lw_privs_4)))
def lw_tbl : List Cond := k2_sels lw_privs ++ tables_1
theorem lw_privs_ok : ∀ q ∈ lw_privs, lw_okq q := by
  show ∀ q ∈ lw_privs_1 ++ (lw_privs_2 ++ (lw_privs_3 ++ (lw_privs_4))), lw_okq q
  exact List.forall_mem_append.mpr ⟨lw_r1, List.forall_mem_append.mpr ⟨lw_r2, List.forall_mem_append.mpr ⟨lw_r3, lw_r4⟩⟩⟩
end
section
/-! ===== BEGIN printed: names, fields, word lists, decode rows ===== -/
def RX0 : String := "WettedNet$Catching"
def TX0 : u_T := fun k => match k with
  | 0 => ("WettedNet$Catching", "rooms", "LWettedNet$Rooms;", true)
  | 1 => ("WettedNet$Catching", "sets", "LWettedNet$Sets;", true)
  | _ => ("WettedNet$Catching", "turns", "[I", true)
def tyX0 : Nat → FieldType := fun k => match k with
  | 0 => .object "WettedNet$Rooms"
  | 1 => .object "WettedNet$Sets"
  | _ => .array .int
abbrev wsX00 : List Cond := u_ws RX0 TX0 3
theorem nmX0 : ∀ a, a < 3 → ∀ b, b < 3 → a ≠ b → (TX0 a).2.1 ≠ (TX0 b).2.1 := by decide +kernel
theorem tyX0_ok : ∀ k, k < 3 → parseFieldDescriptor (TX0 k).2.2.1 = some (tyX0 k) := by decide +kernel
abbrev cX0_init : ByteArray := prog_2_method_1_code
def yX0_init : MethodName := ⟨RX0, "<init>", "(LWettedNet$Rooms;LWettedNet$Sets;)V"⟩
abbrev cX0_burnFrom : ByteArray := prog_2_method_2_code
def yX0_burnFrom : MethodName := ⟨RX0, "burnFrom", "(III)I"⟩
abbrev cX0_turnOf : ByteArray := prog_2_method_3_code
def yX0_turnOf : MethodName := ⟨RX0, "turnOf", "(I)I"⟩
abbrev cX0_leastSeeds : ByteArray := prog_2_method_4_code
def yX0_leastSeeds : MethodName := ⟨RX0, "leastSeeds", "(I)I"⟩
abbrev cX0_leastSeedSets : ByteArray := prog_2_method_5_code
def yX0_leastSeedSets : MethodName := ⟨RX0, "leastSeedSets", "(I)I"⟩
abbrev cX0_leastWetAhead : ByteArray := prog_2_method_6_code
def yX0_leastWetAhead : MethodName := ⟨RX0, "leastWetAhead", "(II)I"⟩
abbrev cX0_isSeeds : ByteArray := prog_2_method_7_code
def yX0_isSeeds : MethodName := ⟨RX0, "isSeeds", "(II)Z"⟩
abbrev cX0_catchOnce : ByteArray := prog_2_method_8_code
def yX0_catchOnce : MethodName := ⟨RX0, "catchOnce", "(III)I"⟩
def RX1 : String := "WettedNet$Chances"
def TX1 : u_T := fun k => match k with
  | 0 => ("WettedNet$Chances", "rooms", "LWettedNet$Rooms;", true)
  | 1 => ("WettedNet$Chances", "from", "[I", true)
  | 2 => ("WettedNet$Chances", "to", "[I", true)
  | _ => ("WettedNet$Chances", "ways", "I", false)
def tyX1 : Nat → FieldType := fun k => match k with
  | 0 => .object "WettedNet$Rooms"
  | 1 => .array .int
  | 2 => .array .int
  | _ => .int
abbrev wsX10 : List Cond := u_ws RX1 TX1 4
theorem nmX1 : ∀ a, a < 4 → ∀ b, b < 4 → a ≠ b → (TX1 a).2.1 ≠ (TX1 b).2.1 := by decide +kernel
theorem tyX1_ok : ∀ k, k < 4 → parseFieldDescriptor (TX1 k).2.2.1 = some (tyX1 k) := by decide +kernel
abbrev cX1_init : ByteArray := prog_3_method_1_code
def yX1_init : MethodName := ⟨RX1, "<init>", "(LWettedNet$Rooms;)V"⟩
abbrev cX1_reach : ByteArray := prog_3_method_2_code
def yX1_reach : MethodName := ⟨RX1, "reach", "(III)J"⟩
abbrev cX1_meanFolk : ByteArray := prog_3_method_3_code
def yX1_meanFolk : MethodName := ⟨RX1, "meanFolk", "(II)J"⟩
abbrev cX1_partOfSum : ByteArray := prog_3_method_4_code
def yX1_partOfSum : MethodName := ⟨RX1, "partOfSum", "(III)J"⟩
abbrev cX1_listWays : ByteArray := prog_3_method_5_code
def yX1_listWays : MethodName := ⟨RX1, "listWays", "()V"⟩
abbrev cX1_sumFrom : ByteArray := prog_3_method_6_code
def yX1_sumFrom : MethodName := ⟨RX1, "sumFrom", "(IIJII)J"⟩
abbrev cX1_openWay : ByteArray := prog_3_method_7_code
def yX1_openWay : MethodName := ⟨RX1, "openWay", "(II)I"⟩
abbrev cX1_worth : ByteArray := prog_3_method_8_code
def yX1_worth : MethodName := ⟨RX1, "worth", "(II)I"⟩
abbrev cX1_commonDivisor : ByteArray := prog_3_method_9_code
def yX1_commonDivisor : MethodName := ⟨RX1, "commonDivisor", "(JJ)J"⟩
def RX2 : String := "WettedNet$Fires"
def TX2 : u_T := fun k => match k with
  | 0 => ("WettedNet$Fires", "rooms", "LWettedNet$Rooms;", true)
  | 1 => ("WettedNet$Fires", "sets", "LWettedNet$Sets;", true)
  | 2 => ("WettedNet$Fires", "memo", "LWettedNet$Memo;", true)
  | _ => ("WettedNet$Fires", "wetting", "I", false)
def tyX2 : Nat → FieldType := fun k => match k with
  | 0 => .object "WettedNet$Rooms"
  | 1 => .object "WettedNet$Sets"
  | 2 => .object "WettedNet$Memo"
  | _ => .int
abbrev wsX20 : List Cond := u_ws RX2 TX2 4
theorem nmX2 : ∀ a, a < 4 → ∀ b, b < 4 → a ≠ b → (TX2 a).2.1 ≠ (TX2 b).2.1 := by decide +kernel
theorem tyX2_ok : ∀ k, k < 4 → parseFieldDescriptor (TX2 k).2.2.1 = some (tyX2 k) := by decide +kernel
abbrev cX2_init : ByteArray := prog_4_method_1_code
def yX2_init : MethodName := ⟨RX2, "<init>", "(LWettedNet$Rooms;LWettedNet$Sets;LWettedNet$Memo;)V"⟩
abbrev cX2_leastLost : ByteArray := prog_4_method_2_code
def yX2_leastLost : MethodName := ⟨RX2, "leastLost", "(III)I"⟩
abbrev cX2_firstWet : ByteArray := prog_4_method_3_code
def yX2_firstWet : MethodName := ⟨RX2, "firstWet", "(I)I"⟩
abbrev cX2_firstWets : ByteArray := prog_4_method_4_code
def yX2_firstWets : MethodName := ⟨RX2, "firstWets", "(I)I"⟩
abbrev cX2_burnOn : ByteArray := prog_4_method_5_code
def yX2_burnOn : MethodName := ⟨RX2, "burnOn", "(II)I"⟩
abbrev cX2_isFirstWet : ByteArray := prog_4_method_6_code
def yX2_isFirstWet : MethodName := ⟨RX2, "isFirstWet", "(III)Z"⟩
abbrev cX2_howManyWet : ByteArray := prog_4_method_7_code
def yX2_howManyWet : MethodName := ⟨RX2, "howManyWet", "(I)I"⟩
abbrev cX2_lostFrom : ByteArray := prog_4_method_8_code
def yX2_lostFrom : MethodName := ⟨RX2, "lostFrom", "(III)I"⟩
abbrev cX2_lostByBest : ByteArray := prog_4_method_9_code
def yX2_lostByBest : MethodName := ⟨RX2, "lostByBest", "(IIIII)I"⟩
abbrev cX2_threes : ByteArray := prog_4_method_10_code
def yX2_threes : MethodName := ⟨RX2, "threes", "(I)I"⟩
def RX3 : String := "WettedNet$Forcing"
def TX3 : u_T := fun k => match k with
  | 0 => ("WettedNet$Forcing", "rooms", "LWettedNet$Rooms;", true)
  | 1 => ("WettedNet$Forcing", "sets", "LWettedNet$Sets;", true)
  | 2 => ("WettedNet$Forcing", "rounds", "[I", true)
  | 3 => ("WettedNet$Forcing", "forcedBy", "[I", true)
  | _ => ("WettedNet$Forcing", "lastRound", "I", false)
def tyX3 : Nat → FieldType := fun k => match k with
  | 0 => .object "WettedNet$Rooms"
  | 1 => .object "WettedNet$Sets"
  | 2 => .array .int
  | 3 => .array .int
  | _ => .int
abbrev wsX30 : List Cond := u_ws RX3 TX3 5
theorem nmX3 : ∀ a, a < 5 → ∀ b, b < 5 → a ≠ b → (TX3 a).2.1 ≠ (TX3 b).2.1 := by decide +kernel
theorem tyX3_ok : ∀ k, k < 5 → parseFieldDescriptor (TX3 k).2.2.1 = some (tyX3 k) := by decide +kernel
abbrev cX3_init : ByteArray := prog_5_method_1_code
def yX3_init : MethodName := ⟨RX3, "<init>", "(LWettedNet$Rooms;LWettedNet$Sets;)V"⟩
abbrev cX3_burnFrom : ByteArray := prog_5_method_2_code
def yX3_burnFrom : MethodName := ⟨RX3, "burnFrom", "(I)I"⟩
abbrev cX3_roundOf : ByteArray := prog_5_method_3_code
def yX3_roundOf : MethodName := ⟨RX3, "roundOf", "(I)I"⟩
abbrev cX3_forcerOf : ByteArray := prog_5_method_4_code
def yX3_forcerOf : MethodName := ⟨RX3, "forcerOf", "(I)I"⟩
abbrev cX3_leastForcers : ByteArray := prog_5_method_5_code
def yX3_leastForcers : MethodName := ⟨RX3, "leastForcers", "()I"⟩
abbrev cX3_leastForcerSets : ByteArray := prog_5_method_6_code
def yX3_leastForcerSets : MethodName := ⟨RX3, "leastForcerSets", "()I"⟩
abbrev cX3_cheapest : ByteArray := prog_5_method_7_code
def yX3_cheapest : MethodName := ⟨RX3, "cheapest", "()I"⟩
abbrev cX3_costOf : ByteArray := prog_5_method_8_code
def yX3_costOf : MethodName := ⟨RX3, "costOf", "(I)I"⟩
abbrev cX3_forcesAll : ByteArray := prog_5_method_9_code
def yX3_forcesAll : MethodName := ⟨RX3, "forcesAll", "(I)Z"⟩
abbrev cX3_forceOnce : ByteArray := prog_5_method_10_code
def yX3_forceOnce : MethodName := ⟨RX3, "forceOnce", "(II)I"⟩
def RX4 : String := "WettedNet$Game"
def TX4 : u_T := fun k => match k with
  | 0 => ("WettedNet$Game", "rooms", "LWettedNet$Rooms;", true)
  | 1 => ("WettedNet$Game", "fires", "LWettedNet$Fires;", true)
  | 2 => ("WettedNet$Game", "begun", "Z", false)
  | 3 => ("WettedNet$Game", "ended", "Z", false)
  | 4 => ("WettedNet$Game", "burning", "I", false)
  | 5 => ("WettedNet$Game", "wet", "I", false)
  | 6 => ("WettedNet$Game", "turns", "I", false)
  | 7 => ("WettedNet$Game", "bad", "I", false)
  | _ => ("WettedNet$Game", "leastNow", "I", false)
def tyX4 : Nat → FieldType := fun k => match k with
  | 0 => .object "WettedNet$Rooms"
  | 1 => .object "WettedNet$Fires"
  | 2 => .boolean
  | 3 => .boolean
  | 4 => .int
  | 5 => .int
  | 6 => .int
  | 7 => .int
  | _ => .int
abbrev wsX40 : List Cond := u_ws RX4 TX4 9
theorem nmX4 : ∀ a, a < 9 → ∀ b, b < 9 → a ≠ b → (TX4 a).2.1 ≠ (TX4 b).2.1 := by decide +kernel
theorem tyX4_ok : ∀ k, k < 9 → parseFieldDescriptor (TX4 k).2.2.1 = some (tyX4 k) := by decide +kernel
abbrev cX4_init : ByteArray := prog_6_method_1_code
def yX4_init : MethodName := ⟨RX4, "<init>", "(LWettedNet$Rooms;LWettedNet$Fires;)V"⟩
abbrev cX4_start : ByteArray := prog_6_method_2_code
def yX4_start : MethodName := ⟨RX4, "start", "(I)I"⟩
abbrev cX4_drop : ByteArray := prog_6_method_3_code
def yX4_drop : MethodName := ⟨RX4, "drop", "()V"⟩
abbrev cX4_isBegun : ByteArray := prog_6_method_4_code
def yX4_isBegun : MethodName := ⟨RX4, "isBegun", "()Z"⟩
abbrev cX4_mayWet : ByteArray := prog_6_method_5_code
def yX4_mayWet : MethodName := ⟨RX4, "mayWet", "(I)Z"⟩
abbrev cX4_takeTurn : ByteArray := prog_6_method_6_code
def yX4_takeTurn : MethodName := ⟨RX4, "takeTurn", "(I)I"⟩
abbrev cX4_tell : ByteArray := prog_6_method_7_code
def yX4_tell : MethodName := ⟨RX4, "tell", "(I)I"⟩
def RX5 : String := "WettedNet$Memo"
def TX5 : u_T := fun k => match k with
  | 0 => ("WettedNet$Memo", "cells", "[I", false)
  | _ => ("WettedNet$Memo", "search", "I", false)
def tyX5 : Nat → FieldType := fun k => match k with
  | 0 => .array .int
  | _ => .int
abbrev wsX50 : List Cond := u_ws RX5 TX5 2
theorem nmX5 : ∀ a, a < 2 → ∀ b, b < 2 → a ≠ b → (TX5 a).2.1 ≠ (TX5 b).2.1 := by decide +kernel
theorem tyX5_ok : ∀ k, k < 2 → parseFieldDescriptor (TX5 k).2.2.1 = some (tyX5 k) := by decide +kernel
abbrev cX5_init : ByteArray := prog_7_method_1_code
def yX5_init : MethodName := ⟨RX5, "<init>", "()V"⟩
abbrev cX5_startSearch : ByteArray := prog_7_method_2_code
def yX5_startSearch : MethodName := ⟨RX5, "startSearch", "()V"⟩
abbrev cX5_recall : ByteArray := prog_7_method_3_code
def yX5_recall : MethodName := ⟨RX5, "recall", "(I)I"⟩
abbrev cX5_keep : ByteArray := prog_7_method_4_code
def yX5_keep : MethodName := ⟨RX5, "keep", "(II)V"⟩
def RX6 : String := "WettedNet$Rooms"
def TX6 : u_T := fun k => match k with
  | 0 => ("WettedNet$Rooms", "besideOf", "[I", true)
  | 1 => ("WettedNet$Rooms", "atOf", "[I", true)
  | 2 => ("WettedNet$Rooms", "folkIn", "[I", true)
  | 3 => ("WettedNet$Rooms", "thickOf", "[I", true)
  | 4 => ("WettedNet$Rooms", "number", "I", false)
  | 5 => ("WettedNet$Rooms", "wetting", "I", false)
  | _ => ("WettedNet$Rooms", "tenths", "I", false)
def tyX6 : Nat → FieldType := fun k => match k with
  | 0 => .array .int
  | 1 => .array .int
  | 2 => .array .int
  | 3 => .array .int
  | 4 => .int
  | 5 => .int
  | _ => .int
abbrev wsX60 : List Cond := u_ws RX6 TX6 7
theorem nmX6 : ∀ a, a < 7 → ∀ b, b < 7 → a ≠ b → (TX6 a).2.1 ≠ (TX6 b).2.1 := by decide +kernel
theorem tyX6_ok : ∀ k, k < 7 → parseFieldDescriptor (TX6 k).2.2.1 = some (tyX6 k) := by decide +kernel
abbrev cX6_init : ByteArray := prog_8_method_1_code
def yX6_init : MethodName := ⟨RX6, "<init>", "()V"⟩
abbrev cX6_howMany : ByteArray := prog_8_method_2_code
def yX6_howMany : MethodName := ⟨RX6, "howMany", "()I"⟩
abbrev cX6_hands : ByteArray := prog_8_method_3_code
def yX6_hands : MethodName := ⟨RX6, "hands", "()I"⟩
abbrev cX6_chance : ByteArray := prog_8_method_4_code
def yX6_chance : MethodName := ⟨RX6, "chance", "()I"⟩
abbrev cX6_all : ByteArray := prog_8_method_5_code
def yX6_all : MethodName := ⟨RX6, "all", "()I"⟩
abbrev cX6_isRoom : ByteArray := prog_8_method_6_code
def yX6_isRoom : MethodName := ⟨RX6, "isRoom", "(I)Z"⟩
abbrev cX6_isSet : ByteArray := prog_8_method_7_code
def yX6_isSet : MethodName := ⟨RX6, "isSet", "(I)Z"⟩
abbrev cX6_beside : ByteArray := prog_8_method_8_code
def yX6_beside : MethodName := ⟨RX6, "beside", "(I)I"⟩
abbrev cX6_at : ByteArray := prog_8_method_9_code
def yX6_at : MethodName := ⟨RX6, "at", "(I)I"⟩
abbrev cX6_folk : ByteArray := prog_8_method_10_code
def yX6_folk : MethodName := ⟨RX6, "folk", "(I)I"⟩
abbrev cX6_thick : ByteArray := prog_8_method_11_code
def yX6_thick : MethodName := ⟨RX6, "thick", "(I)I"⟩
abbrev cX6_besideAny : ByteArray := prog_8_method_12_code
def yX6_besideAny : MethodName := ⟨RX6, "besideAny", "(I)I"⟩
abbrev cX6_folkOf : ByteArray := prog_8_method_13_code
def yX6_folkOf : MethodName := ⟨RX6, "folkOf", "(I)I"⟩
abbrev cX6_ways : ByteArray := prog_8_method_14_code
def yX6_ways : MethodName := ⟨RX6, "ways", "()I"⟩
abbrev cX6_isEven : ByteArray := prog_8_method_15_code
def yX6_isEven : MethodName := ⟨RX6, "isEven", "()Z"⟩
abbrev cX6_change : ByteArray := prog_8_method_16_code
def yX6_change : MethodName := ⟨RX6, "change", "(III)V"⟩
abbrev cX6_restart : ByteArray := prog_8_method_17_code
def yX6_restart : MethodName := ⟨RX6, "restart", "(I)V"⟩
abbrev cX6_changeRoom : ByteArray := prog_8_method_18_code
def yX6_changeRoom : MethodName := ⟨RX6, "changeRoom", "(III)V"⟩
abbrev cX6_changeWays : ByteArray := prog_8_method_19_code
def yX6_changeWays : MethodName := ⟨RX6, "changeWays", "(III)V"⟩
abbrev cX6_setWay : ByteArray := prog_8_method_20_code
def yX6_setWay : MethodName := ⟨RX6, "setWay", "(IIZ)V"⟩
def RX7 : String := "WettedNet$Script"
def TX7 : u_T := fun k => match k with
  | 0 => ("WettedNet$Script", "bytes", "[I", true)
  | 1 => ("WettedNet$Script", "kinds", "[I", true)
  | 2 => ("WettedNet$Script", "firsts", "[I", true)
  | 3 => ("WettedNet$Script", "seconds", "[I", true)
  | 4 => ("WettedNet$Script", "length", "I", false)
  | 5 => ("WettedNet$Script", "found", "I", false)
  | 6 => ("WettedNet$Script", "place", "I", false)
  | _ => ("WettedNet$Script", "roomsThen", "I", false)
def tyX7 : Nat → FieldType := fun k => match k with
  | 0 => .array .int
  | 1 => .array .int
  | 2 => .array .int
  | 3 => .array .int
  | 4 => .int
  | 5 => .int
  | 6 => .int
  | _ => .int
abbrev wsX70 : List Cond := u_ws RX7 TX7 8
theorem nmX7 : ∀ a, a < 8 → ∀ b, b < 8 → a ≠ b → (TX7 a).2.1 ≠ (TX7 b).2.1 := by decide +kernel
theorem tyX7_ok : ∀ k, k < 8 → parseFieldDescriptor (TX7 k).2.2.1 = some (tyX7 k) := by decide +kernel
abbrev cX7_init : ByteArray := prog_9_method_1_code
def yX7_init : MethodName := ⟨RX7, "<init>", "()V"⟩
abbrev cX7_size : ByteArray := prog_9_method_2_code
def yX7_size : MethodName := ⟨RX7, "size", "()I"⟩
abbrev cX7_lines : ByteArray := prog_9_method_3_code
def yX7_lines : MethodName := ⟨RX7, "lines", "()I"⟩
abbrev cX7_kind : ByteArray := prog_9_method_4_code
def yX7_kind : MethodName := ⟨RX7, "kind", "(I)I"⟩
abbrev cX7_first : ByteArray := prog_9_method_5_code
def yX7_first : MethodName := ⟨RX7, "first", "(I)I"⟩
abbrev cX7_second : ByteArray := prog_9_method_6_code
def yX7_second : MethodName := ⟨RX7, "second", "(I)I"⟩
abbrev cX7_add : ByteArray := prog_9_method_7_code
def yX7_add : MethodName := ⟨RX7, "add", "(I)V"⟩
abbrev cX7_empty : ByteArray := prog_9_method_8_code
def yX7_empty : MethodName := ⟨RX7, "empty", "()V"⟩
abbrev cX7_firstFault : ByteArray := prog_9_method_9_code
def yX7_firstFault : MethodName := ⟨RX7, "firstFault", "(I)I"⟩
abbrev cX7_readLine : ByteArray := prog_9_method_10_code
def yX7_readLine : MethodName := ⟨RX7, "readLine", "(I)Z"⟩
abbrev cX7_takesTwo : ByteArray := prog_9_method_11_code
def yX7_takesTwo : MethodName := ⟨RX7, "takesTwo", "(I)Z"⟩
abbrev cX7_readFirst : ByteArray := prog_9_method_12_code
def yX7_readFirst : MethodName := ⟨RX7, "readFirst", "(I)I"⟩
abbrev cX7_readSecond : ByteArray := prog_9_method_13_code
def yX7_readSecond : MethodName := ⟨RX7, "readSecond", "(II)I"⟩
abbrev cX7_readNumber : ByteArray := prog_9_method_14_code
def yX7_readNumber : MethodName := ⟨RX7, "readNumber", "(III)I"⟩
abbrev cX7_skipBlanks : ByteArray := prog_9_method_15_code
def yX7_skipBlanks : MethodName := ⟨RX7, "skipBlanks", "()V"⟩
abbrev cX7_endOfRow : ByteArray := prog_9_method_16_code
def yX7_endOfRow : MethodName := ⟨RX7, "endOfRow", "(II)I"⟩
abbrev cX7_byteAt : ByteArray := prog_9_method_17_code
def yX7_byteAt : MethodName := ⟨RX7, "byteAt", "(I)I"⟩
abbrev cX7_kindOf : ByteArray := prog_9_method_18_code
def yX7_kindOf : MethodName := ⟨RX7, "kindOf", "(I)I"⟩
abbrev cX7_spells : ByteArray := prog_9_method_19_code
def yX7_spells : MethodName := ⟨RX7, "spells", "(Ljava/lang/String;I)Z"⟩
abbrev cX7_wordOf : ByteArray := prog_9_method_20_code
def yX7_wordOf : MethodName := ⟨RX7, "wordOf", "(I)Ljava/lang/String;"⟩
def RX8 : String := "WettedNet$Sets"
def TX8 : u_T := fun k => match k with
  | 0 => ("WettedNet$Sets", "ordered", "[I", true)
  | _ => ("WettedNet$Sets", "starts", "[I", true)
def tyX8 : Nat → FieldType := fun k => match k with
  | 0 => .array .int
  | _ => .array .int
abbrev wsX80 : List Cond := u_ws RX8 TX8 2
theorem nmX8 : ∀ a, a < 2 → ∀ b, b < 2 → a ≠ b → (TX8 a).2.1 ≠ (TX8 b).2.1 := by decide +kernel
theorem tyX8_ok : ∀ k, k < 2 → parseFieldDescriptor (TX8 k).2.2.1 = some (tyX8 k) := by decide +kernel
abbrev cX8_init : ByteArray := prog_10_method_1_code
def yX8_init : MethodName := ⟨RX8, "<init>", "()V"⟩
abbrev cX8_get : ByteArray := prog_10_method_2_code
def yX8_get : MethodName := ⟨RX8, "get", "(I)I"⟩
abbrev cX8_startOf : ByteArray := prog_10_method_3_code
def yX8_startOf : MethodName := ⟨RX8, "startOf", "(I)I"⟩
def RX9 : String := "WettedNet$Throwing"
def TX9 : u_T := fun k => match k with
  | 0 => ("WettedNet$Throwing", "rooms", "LWettedNet$Rooms;", true)
  | _ => ("WettedNet$Throwing", "memo", "LWettedNet$Memo;", true)
def tyX9 : Nat → FieldType := fun k => match k with
  | 0 => .object "WettedNet$Rooms"
  | _ => .object "WettedNet$Memo"
abbrev wsX90 : List Cond := u_ws RX9 TX9 2
theorem nmX9 : ∀ a, a < 2 → ∀ b, b < 2 → a ≠ b → (TX9 a).2.1 ≠ (TX9 b).2.1 := by decide +kernel
theorem tyX9_ok : ∀ k, k < 2 → parseFieldDescriptor (TX9 k).2.2.1 = some (tyX9 k) := by decide +kernel
abbrev cX9_init : ByteArray := prog_11_method_1_code
def yX9_init : MethodName := ⟨RX9, "<init>", "(LWettedNet$Rooms;LWettedNet$Memo;)V"⟩
abbrev cX9_fewestTurns : ByteArray := prog_11_method_2_code
def yX9_fewestTurns : MethodName := ⟨RX9, "fewestTurns", "()I"⟩
abbrev cX9_sparkOf : ByteArray := prog_11_method_3_code
def yX9_sparkOf : MethodName := ⟨RX9, "sparkOf", "(I)I"⟩
abbrev cX9_turnOf : ByteArray := prog_11_method_4_code
def yX9_turnOf : MethodName := ⟨RX9, "turnOf", "(III)I"⟩
abbrev cX9_told : ByteArray := prog_11_method_5_code
def yX9_told : MethodName := ⟨RX9, "told", "(II)I"⟩
abbrev cX9_leastSpark : ByteArray := prog_11_method_6_code
def yX9_leastSpark : MethodName := ⟨RX9, "leastSpark", "(II)I"⟩
abbrev cX9_turnsFrom : ByteArray := prog_11_method_7_code
def yX9_turnsFrom : MethodName := ⟨RX9, "turnsFrom", "(II)I"⟩
abbrev cX9_turnsByBest : ByteArray := prog_11_method_8_code
def yX9_turnsByBest : MethodName := ⟨RX9, "turnsByBest", "(II)I"⟩
def RX10 : String := "WettedNet$Walks"
def TX10 : u_T := fun k => match k with
  | 0 => ("WettedNet$Walks", "rooms", "LWettedNet$Rooms;", true)
  | _ => ("WettedNet$Walks", "memo", "LWettedNet$Memo;", true)
def tyX10 : Nat → FieldType := fun k => match k with
  | 0 => .object "WettedNet$Rooms"
  | _ => .object "WettedNet$Memo"
abbrev wsX100 : List Cond := u_ws RX10 TX10 2
theorem nmX10 : ∀ a, a < 2 → ∀ b, b < 2 → a ≠ b → (TX10 a).2.1 ≠ (TX10 b).2.1 := by decide +kernel
theorem tyX10_ok : ∀ k, k < 2 → parseFieldDescriptor (TX10 k).2.2.1 = some (tyX10 k) := by decide +kernel
abbrev cX10_init : ByteArray := prog_12_method_1_code
def yX10_init : MethodName := ⟨RX10, "<init>", "(LWettedNet$Rooms;LWettedNet$Memo;)V"⟩
abbrev cX10_length : ByteArray := prog_12_method_2_code
def yX10_length : MethodName := ⟨RX10, "length", "(II)I"⟩
abbrev cX10_alone : ByteArray := prog_12_method_3_code
def yX10_alone : MethodName := ⟨RX10, "alone", "(II)I"⟩
abbrev cX10_step : ByteArray := prog_12_method_4_code
def yX10_step : MethodName := ⟨RX10, "step", "(II)I"⟩
abbrev cX10_mostPairs : ByteArray := prog_12_method_5_code
def yX10_mostPairs : MethodName := ⟨RX10, "mostPairs", "()I"⟩
abbrev cX10_goesFrom : ByteArray := prog_12_method_6_code
def yX10_goesFrom : MethodName := ⟨RX10, "goesFrom", "(IIZI)I"⟩
abbrev cX10_pairsAmong : ByteArray := prog_12_method_7_code
def yX10_pairsAmong : MethodName := ⟨RX10, "pairsAmong", "(II)I"⟩
def RX11 : String := "WettedNet"
def TX11 : u_T := fun k => match k with
  | 0 => ("WettedNet", "rooms", "LWettedNet$Rooms;", true)
  | 1 => ("WettedNet", "script", "LWettedNet$Script;", true)
  | 2 => ("WettedNet", "fires", "LWettedNet$Fires;", true)
  | 3 => ("WettedNet", "game", "LWettedNet$Game;", true)
  | 4 => ("WettedNet", "throwing", "LWettedNet$Throwing;", true)
  | 5 => ("WettedNet", "catching", "LWettedNet$Catching;", true)
  | 6 => ("WettedNet", "forcing", "LWettedNet$Forcing;", true)
  | 7 => ("WettedNet", "chances", "LWettedNet$Chances;", true)
  | _ => ("WettedNet", "walks", "LWettedNet$Walks;", true)
def tyX11 : Nat → FieldType := fun k => match k with
  | 0 => .object "WettedNet$Rooms"
  | 1 => .object "WettedNet$Script"
  | 2 => .object "WettedNet$Fires"
  | 3 => .object "WettedNet$Game"
  | 4 => .object "WettedNet$Throwing"
  | 5 => .object "WettedNet$Catching"
  | 6 => .object "WettedNet$Forcing"
  | 7 => .object "WettedNet$Chances"
  | _ => .object "WettedNet$Walks"
abbrev wsX110 : List Cond := u_ws RX11 TX11 9
theorem nmX11 : ∀ a, a < 9 → ∀ b, b < 9 → a ≠ b → (TX11 a).2.1 ≠ (TX11 b).2.1 := by decide +kernel
theorem tyX11_ok : ∀ k, k < 9 → parseFieldDescriptor (TX11 k).2.2.1 = some (tyX11 k) := by decide +kernel
abbrev cX11_init : ByteArray := prog_1_method_1_code
def yX11_init : MethodName := ⟨RX11, "<init>", "()V"⟩
abbrev cX11_write : ByteArray := prog_1_method_2_code
def yX11_write : MethodName := ⟨RX11, "write", "(JI)I"⟩
abbrev cX11_erase : ByteArray := prog_1_method_3_code
def yX11_erase : MethodName := ⟨RX11, "erase", "()I"⟩
abbrev cX11_fault : ByteArray := prog_1_method_4_code
def yX11_fault : MethodName := ⟨RX11, "fault", "()I"⟩
abbrev cX11_net : ByteArray := prog_1_method_5_code
def yX11_net : MethodName := ⟨RX11, "net", "()I"⟩
abbrev cX11_room : ByteArray := prog_1_method_6_code
def yX11_room : MethodName := ⟨RX11, "room", "(II)I"⟩
abbrev cX11_least : ByteArray := prog_1_method_7_code
def yX11_least : MethodName := ⟨RX11, "least", "(II)I"⟩
abbrev cX11_hold : ByteArray := prog_1_method_8_code
def yX11_hold : MethodName := ⟨RX11, "hold", "(II)I"⟩
abbrev cX11_begin : ByteArray := prog_1_method_9_code
def yX11_begin : MethodName := ⟨RX11, "begin", "(I)I"⟩
abbrev cX11_wets : ByteArray := prog_1_method_10_code
def yX11_wets : MethodName := ⟨RX11, "wets", "(I)I"⟩
abbrev cX11_play : ByteArray := prog_1_method_11_code
def yX11_play : MethodName := ⟨RX11, "play", "(I)I"⟩
abbrev cX11_sparks : ByteArray := prog_1_method_12_code
def yX11_sparks : MethodName := ⟨RX11, "sparks", "(I)I"⟩
abbrev cX11_when : ByteArray := prog_1_method_13_code
def yX11_when : MethodName := ⟨RX11, "when", "(III)I"⟩
abbrev cX11_caught : ByteArray := prog_1_method_14_code
def yX11_caught : MethodName := ⟨RX11, "caught", "(II)I"⟩
abbrev cX11_seeds : ByteArray := prog_1_method_15_code
def yX11_seeds : MethodName := ⟨RX11, "seeds", "(II)I"⟩
abbrev cX11_ahead : ByteArray := prog_1_method_16_code
def yX11_ahead : MethodName := ⟨RX11, "ahead", "(II)I"⟩
abbrev cX11_forced : ByteArray := prog_1_method_17_code
def yX11_forced : MethodName := ⟨RX11, "forced", "(III)I"⟩
abbrev cX11_forcers : ByteArray := prog_1_method_18_code
def yX11_forcers : MethodName := ⟨RX11, "forcers", "(I)I"⟩
abbrev cX11_carried : ByteArray := prog_1_method_19_code
def yX11_carried : MethodName := ⟨RX11, "carried", "(III)J"⟩
abbrev cX11_mean : ByteArray := prog_1_method_20_code
def yX11_mean : MethodName := ⟨RX11, "mean", "(II)J"⟩
abbrev cX11_token : ByteArray := prog_1_method_21_code
def yX11_token : MethodName := ⟨RX11, "token", "(III)I"⟩
abbrev cX11_pairs : ByteArray := prog_1_method_22_code
def yX11_pairs : MethodName := ⟨RX11, "pairs", "()I"⟩
abbrev cX11_count : ByteArray := prog_1_method_23_code
def yX11_count : MethodName := ⟨RX11, "count", "(I)I"⟩
abbrev cX11_within : ByteArray := prog_1_method_24_code
def yX11_within : MethodName := ⟨RX11, "within", "(III)Z"⟩
abbrev cX11_has : ByteArray := prog_1_method_25_code
def yX11_has : MethodName := ⟨RX11, "has", "(II)Z"⟩
def RX12 : String := "WettedNetModel"
def TX12 : u_T := fun k => match k with
  | 0 => ("WettedNetModel", "text", "[I", true)
  | 1 => ("WettedNetModel", "length", "I", false)
  | 2 => ("WettedNetModel", "read", "[I", true)
  | 3 => ("WettedNetModel", "readMany", "I", false)
  | 4 => ("WettedNetModel", "rooms", "I", false)
  | 5 => ("WettedNetModel", "ways", "[I", true)
  | 6 => ("WettedNetModel", "folk", "[I", true)
  | 7 => ("WettedNetModel", "thick", "[I", true)
  | 8 => ("WettedNetModel", "hands", "I", false)
  | 9 => ("WettedNetModel", "chance", "I", false)
  | 10 => ("WettedNetModel", "at", "I", false)
  | 11 => ("WettedNetModel", "place", "I", false)
  | 12 => ("WettedNetModel", "end", "I", false)
  | 13 => ("WettedNetModel", "readRooms", "I", false)
  | 14 => ("WettedNetModel", "lost", "[I", true)
  | 15 => ("WettedNetModel", "playing", "Z", false)
  | 16 => ("WettedNetModel", "burning", "I", false)
  | 17 => ("WettedNetModel", "wetted", "I", false)
  | 18 => ("WettedNetModel", "turns", "I", false)
  | 19 => ("WettedNetModel", "ended", "Z", false)
  | 20 => ("WettedNetModel", "bad", "I", false)
  | 21 => ("WettedNetModel", "till", "[I", true)
  | 22 => ("WettedNetModel", "wayFrom", "[I", true)
  | 23 => ("WettedNetModel", "wayTo", "[I", true)
  | 24 => ("WettedNetModel", "wins", "[Z", true)
  | 25 => ("WettedNetModel", "lasts", "[I", true)
  | 26 => ("WettedNetModel", "longest", "[I", true)
  | 27 => ("WettedNetModel", "steps", "[I", true)
  | _ => ("WettedNetModel", "paired", "[I", true)
def tyX12 : Nat → FieldType := fun k => match k with
  | 0 => .array .int
  | 1 => .int
  | 2 => .array .int
  | 3 => .int
  | 4 => .int
  | 5 => .array .int
  | 6 => .array .int
  | 7 => .array .int
  | 8 => .int
  | 9 => .int
  | 10 => .int
  | 11 => .int
  | 12 => .int
  | 13 => .int
  | 14 => .array .int
  | 15 => .boolean
  | 16 => .int
  | 17 => .int
  | 18 => .int
  | 19 => .boolean
  | 20 => .int
  | 21 => .array .int
  | 22 => .array .int
  | 23 => .array .int
  | 24 => .array .boolean
  | 25 => .array .int
  | 26 => .array .int
  | 27 => .array .int
  | _ => .array .int
abbrev wsX120 : List Cond := u_ws RX12 TX12 29
theorem nmX12 : ∀ a, a < 29 → ∀ b, b < 29 → a ≠ b → (TX12 a).2.1 ≠ (TX12 b).2.1 := by decide +kernel
theorem tyX12_ok : ∀ k, k < 29 → parseFieldDescriptor (TX12 k).2.2.1 = some (tyX12 k) := by decide +kernel
abbrev cX12_init : ByteArray := prog_14_method_1_code
def yX12_init : MethodName := ⟨RX12, "<init>", "()V"⟩
abbrev cX12_in : ByteArray := prog_14_method_2_code
def yX12_in : MethodName := ⟨RX12, "in", "(JJJ)Z"⟩
abbrev cX12_has : ByteArray := prog_14_method_3_code
def yX12_has : MethodName := ⟨RX12, "has", "(II)Z"⟩
abbrev cX12_many : ByteArray := prog_14_method_4_code
def yX12_many : MethodName := ⟨RX12, "many", "(I)I"⟩
abbrev cX12_write : ByteArray := prog_14_method_5_code
def yX12_write : MethodName := ⟨RX12, "write", "(JI)I"⟩
abbrev cX12_erase : ByteArray := prog_14_method_6_code
def yX12_erase : MethodName := ⟨RX12, "erase", "()I"⟩
abbrev cX12_sort : ByteArray := prog_14_method_7_code
def yX12_sort : MethodName := ⟨RX12, "sort", "(I)I"⟩
abbrev cX12_token : ByteArray := prog_14_method_8_code
def yX12_token : MethodName := ⟨RX12, "token", "()V"⟩
abbrev cX12_isWord : ByteArray := prog_14_method_9_code
def yX12_isWord : MethodName := ⟨RX12, "isWord", "(II)Z"⟩
abbrev cX12_reads : ByteArray := prog_14_method_10_code
def yX12_reads : MethodName := ⟨RX12, "reads", "(IIII)Z"⟩
abbrev cX12_readsRest : ByteArray := prog_14_method_11_code
def yX12_readsRest : MethodName := ⟨RX12, "readsRest", "(I)Z"⟩
abbrev cX12_readsLine : ByteArray := prog_14_method_12_code
def yX12_readsLine : MethodName := ⟨RX12, "readsLine", "()Z"⟩
abbrev cX12_fault : ByteArray := prog_14_method_13_code
def yX12_fault : MethodName := ⟨RX12, "fault", "()I"⟩
abbrev cX12_lay : ByteArray := prog_14_method_14_code
def yX12_lay : MethodName := ⟨RX12, "lay", "(I)V"⟩
abbrev cX12_net : ByteArray := prog_14_method_15_code
def yX12_net : MethodName := ⟨RX12, "net", "()I"⟩
abbrev cX12_isRoom : ByteArray := prog_14_method_16_code
def yX12_isRoom : MethodName := ⟨RX12, "isRoom", "(I)Z"⟩
abbrev cX12_all : ByteArray := prog_14_method_17_code
def yX12_all : MethodName := ⟨RX12, "all", "()I"⟩
abbrev cX12_isSetOf : ByteArray := prog_14_method_18_code
def yX12_isSetOf : MethodName := ⟨RX12, "isSetOf", "(I)Z"⟩
abbrev cX12_atOf : ByteArray := prog_14_method_19_code
def yX12_atOf : MethodName := ⟨RX12, "atOf", "(I)I"⟩
abbrev cX12_room : ByteArray := prog_14_method_20_code
def yX12_room : MethodName := ⟨RX12, "room", "(II)I"⟩
abbrev cX12_besideAll : ByteArray := prog_14_method_21_code
def yX12_besideAll : MethodName := ⟨RX12, "besideAll", "(I)I"⟩
abbrev cX12_folkOf : ByteArray := prog_14_method_22_code
def yX12_folkOf : MethodName := ⟨RX12, "folkOf", "(I)I"⟩
abbrev cX12_code : ByteArray := prog_14_method_23_code
def yX12_code : MethodName := ⟨RX12, "code", "(II)I"⟩
abbrev cX12_mayWet : ByteArray := prog_14_method_24_code
def yX12_mayWet : MethodName := ⟨RX12, "mayWet", "(IIII)Z"⟩
abbrev cX12_spread : ByteArray := prog_14_method_25_code
def yX12_spread : MethodName := ⟨RX12, "spread", "(II)I"⟩
abbrev cX12_behind : ByteArray := prog_14_method_26_code
def yX12_behind : MethodName := ⟨RX12, "behind", "(III)I"⟩
abbrev cX12_layLost : ByteArray := prog_14_method_27_code
def yX12_layLost : MethodName := ⟨RX12, "layLost", "(I)V"⟩
abbrev cX12_least : ByteArray := prog_14_method_28_code
def yX12_least : MethodName := ⟨RX12, "least", "(II)I"⟩
abbrev cX12_hold : ByteArray := prog_14_method_29_code
def yX12_hold : MethodName := ⟨RX12, "hold", "(II)I"⟩
abbrev cX12_begin : ByteArray := prog_14_method_30_code
def yX12_begin : MethodName := ⟨RX12, "begin", "(I)I"⟩
abbrev cX12_wets : ByteArray := prog_14_method_31_code
def yX12_wets : MethodName := ⟨RX12, "wets", "(I)I"⟩
abbrev cX12_play : ByteArray := prog_14_method_32_code
def yX12_play : MethodName := ⟨RX12, "play", "(I)I"⟩
abbrev cX12_layTill : ByteArray := prog_14_method_33_code
def yX12_layTill : MethodName := ⟨RX12, "layTill", "()V"⟩
abbrev cX12_sparks : ByteArray := prog_14_method_34_code
def yX12_sparks : MethodName := ⟨RX12, "sparks", "(I)I"⟩
abbrev cX12_when : ByteArray := prog_14_method_35_code
def yX12_when : MethodName := ⟨RX12, "when", "(III)I"⟩
abbrev cX12_caughtBy : ByteArray := prog_14_method_36_code
def yX12_caughtBy : MethodName := ⟨RX12, "caughtBy", "(II)I"⟩
abbrev cX12_caughtEnd : ByteArray := prog_14_method_37_code
def yX12_caughtEnd : MethodName := ⟨RX12, "caughtEnd", "(II)I"⟩
abbrev cX12_caught : ByteArray := prog_14_method_38_code
def yX12_caught : MethodName := ⟨RX12, "caught", "(II)I"⟩
abbrev cX12_seeds : ByteArray := prog_14_method_39_code
def yX12_seeds : MethodName := ⟨RX12, "seeds", "(II)I"⟩
abbrev cX12_ahead : ByteArray := prog_14_method_40_code
def yX12_ahead : MethodName := ⟨RX12, "ahead", "(II)I"⟩
abbrev cX12_forces : ByteArray := prog_14_method_41_code
def yX12_forces : MethodName := ⟨RX12, "forces", "(II)I"⟩
abbrev cX12_forcedBy : ByteArray := prog_14_method_42_code
def yX12_forcedBy : MethodName := ⟨RX12, "forcedBy", "(I)I"⟩
abbrev cX12_forced : ByteArray := prog_14_method_43_code
def yX12_forced : MethodName := ⟨RX12, "forced", "(III)I"⟩
abbrev cX12_roundsOf : ByteArray := prog_14_method_44_code
def yX12_roundsOf : MethodName := ⟨RX12, "roundsOf", "(I)I"⟩
abbrev cX12_forcers : ByteArray := prog_14_method_45_code
def yX12_forcers : MethodName := ⟨RX12, "forcers", "(I)I"⟩
abbrev cX12_wayMany : ByteArray := prog_14_method_46_code
def yX12_wayMany : MethodName := ⟨RX12, "wayMany", "()I"⟩
abbrev cX12_layWays : ByteArray := prog_14_method_47_code
def yX12_layWays : MethodName := ⟨RX12, "layWays", "()V"⟩
abbrev cX12_reached : ByteArray := prog_14_method_48_code
def yX12_reached : MethodName := ⟨RX12, "reached", "(III)I"⟩
abbrev cX12_divisor : ByteArray := prog_14_method_49_code
def yX12_divisor : MethodName := ⟨RX12, "divisor", "(JJ)J"⟩
abbrev cX12_carriedBy : ByteArray := prog_14_method_50_code
def yX12_carriedBy : MethodName := ⟨RX12, "carriedBy", "(II)J"⟩
abbrev cX12_power : ByteArray := prog_14_method_51_code
def yX12_power : MethodName := ⟨RX12, "power", "(I)J"⟩
abbrev cX12_part : ByteArray := prog_14_method_52_code
def yX12_part : MethodName := ⟨RX12, "part", "(JI)J"⟩
abbrev cX12_carried : ByteArray := prog_14_method_53_code
def yX12_carried : MethodName := ⟨RX12, "carried", "(III)J"⟩
abbrev cX12_mean : ByteArray := prog_14_method_54_code
def yX12_mean : MethodName := ⟨RX12, "mean", "(II)J"⟩
abbrev cX12_layToken : ByteArray := prog_14_method_55_code
def yX12_layToken : MethodName := ⟨RX12, "layToken", "(II)V"⟩
abbrev cX12_token_ : ByteArray := prog_14_method_56_code
def yX12_token_ : MethodName := ⟨RX12, "token", "(III)I"⟩
abbrev cX12_isEven : ByteArray := prog_14_method_57_code
def yX12_isEven : MethodName := ⟨RX12, "isEven", "()Z"⟩
abbrev cX12_pairs : ByteArray := prog_14_method_58_code
def yX12_pairs : MethodName := ⟨RX12, "pairs", "()I"⟩
abbrev cX12_count : ByteArray := prog_14_method_59_code
def yX12_count : MethodName := ⟨RX12, "count", "(I)I"⟩
def RJx8e188 : String := "java/lang/Cloneable"
def TJx8e188 : u_T := fun k => match k with
  | _ => ("", "", "", false)
def tyJx8e188 : Nat → FieldType := fun k => match k with
  | _ => .int
abbrev wsJx8e1880 : List Cond := u_ws RJx8e188 TJx8e188 0
theorem nmJx8e188 : ∀ a, a < 0 → ∀ b, b < 0 → a ≠ b → (TJx8e188 a).2.1 ≠ (TJx8e188 b).2.1 := by decide +kernel
theorem tyJx8e188_ok : ∀ k, k < 0 → parseFieldDescriptor (TJx8e188 k).2.2.1 = some (tyJx8e188 k) := by decide +kernel
def RJ6 : String := "java/lang/Integer"
def TJ6 : u_T := fun k => match k with
  | _ => ("", "", "", false)
def tyJ6 : Nat → FieldType := fun k => match k with
  | _ => .int
abbrev wsJ60 : List Cond := u_ws RJ6 TJ6 0
theorem nmJ6 : ∀ a, a < 0 → ∀ b, b < 0 → a ≠ b → (TJ6 a).2.1 ≠ (TJ6 b).2.1 := by decide +kernel
theorem tyJ6_ok : ∀ k, k < 0 → parseFieldDescriptor (TJ6 k).2.2.1 = some (tyJ6 k) := by decide +kernel
abbrev cJ6_numberOfTrailingZeros_0f7a4 : ByteArray := prog_16_method_48_code
def yJ6_numberOfTrailingZeros_0f7a4 : MethodName := ⟨RJ6, "numberOfTrailingZeros", "(I)I"⟩
abbrev cJ6_bitCount_0f7a4 : ByteArray := prog_16_method_49_code
def yJ6_bitCount_0f7a4 : MethodName := ⟨RJ6, "bitCount", "(I)I"⟩
def RJ9 : String := "java/lang/Math"
def TJ9 : u_T := fun k => match k with
  | _ => ("", "", "", false)
def tyJ9 : Nat → FieldType := fun k => match k with
  | _ => .int
abbrev wsJ90 : List Cond := u_ws RJ9 TJ9 0
theorem nmJ9 : ∀ a, a < 0 → ∀ b, b < 0 → a ≠ b → (TJ9 a).2.1 ≠ (TJ9 b).2.1 := by decide +kernel
theorem tyJ9_ok : ∀ k, k < 0 → parseFieldDescriptor (TJ9 k).2.2.1 = some (tyJ9 k) := by decide +kernel
abbrev cJ9_max_7cf53 : ByteArray := prog_17_method_65_code
def yJ9_max_7cf53 : MethodName := ⟨RJ9, "max", "(II)I"⟩
abbrev cJ9_min_7cf53 : ByteArray := prog_17_method_69_code
def yJ9_min_7cf53 : MethodName := ⟨RJ9, "min", "(II)I"⟩
def RJ0 : String := "java/lang/String"
def TJ0 : u_T := fun k => match k with
  | _ => ("", "", "", false)
def tyJ0 : Nat → FieldType := fun k => match k with
  | _ => .int
abbrev wsJ00 : List Cond := u_ws RJ0 TJ0 0
theorem nmJ0 : ∀ a, a < 0 → ∀ b, b < 0 → a ≠ b → (TJ0 a).2.1 ≠ (TJ0 b).2.1 := by decide +kernel
theorem tyJ0_ok : ∀ k, k < 0 → parseFieldDescriptor (TJ0 k).2.2.1 = some (tyJ0 k) := by decide +kernel
abbrev cJ0_length_8abf5 : ByteArray := prog_18_method_54_code
def yJ0_length_8abf5 : MethodName := ⟨RJ0, "length", "()I"⟩
abbrev cJ0_charAt_5068e : ByteArray := prog_18_method_56_code
def yJ0_charAt_5068e : MethodName := ⟨RJ0, "charAt", "(I)C"⟩
abbrev cJ0_coder_7d493 : ByteArray := prog_18_method_152_code
def yJ0_coder_7d493 : MethodName := ⟨RJ0, "coder", "()B"⟩
abbrev cJ0_isLatin1_aae02 : ByteArray := prog_18_method_154_code
def yJ0_isLatin1_aae02 : MethodName := ⟨RJ0, "isLatin1", "()Z"⟩
abbrev cJ0_checkIndex_df160 : ByteArray := prog_18_method_155_code
def yJ0_checkIndex_df160 : MethodName := ⟨RJ0, "checkIndex", "(II)V"⟩
def RJ1 : String := "java/lang/StringLatin1"
def TJ1 : u_T := fun k => match k with
  | _ => ("", "", "", false)
def tyJ1 : Nat → FieldType := fun k => match k with
  | _ => .int
abbrev wsJ10 : List Cond := u_ws RJ1 TJ1 0
theorem nmJ1 : ∀ a, a < 0 → ∀ b, b < 0 → a ≠ b → (TJ1 a).2.1 ≠ (TJ1 b).2.1 := by decide +kernel
theorem tyJ1_ok : ∀ k, k < 0 → parseFieldDescriptor (TJ1 k).2.2.1 = some (tyJ1 k) := by decide +kernel
abbrev cJ1_charAt_3b067 : ByteArray := prog_19_method_2_code
def yJ1_charAt_3b067 : MethodName := ⟨RJ1, "charAt", "([BI)C"⟩
def RJ2 : String := "java/lang/StringUTF16"
def TJ2 : u_T := fun k => match k with
  | _ => ("", "", "", false)
def tyJ2 : Nat → FieldType := fun k => match k with
  | _ => .int
abbrev wsJ20 : List Cond := u_ws RJ2 TJ2 0
theorem nmJ2 : ∀ a, a < 0 → ∀ b, b < 0 → a ≠ b → (TJ2 a).2.1 ≠ (TJ2 b).2.1 := by decide +kernel
theorem tyJ2_ok : ∀ k, k < 0 → parseFieldDescriptor (TJ2 k).2.2.1 = some (tyJ2 k) := by decide +kernel
abbrev cJ2_getChar_3b067 : ByteArray := prog_20_method_5_code
def yJ2_getChar_3b067 : MethodName := ⟨RJ2, "getChar", "([BI)C"⟩
abbrev cJ2_length_9d52b : ByteArray := prog_20_method_6_code
def yJ2_length_9d52b : MethodName := ⟨RJ2, "length", "([B)I"⟩
abbrev cJ2_charAt_3b067 : ByteArray := prog_20_method_83_code
def yJ2_charAt_3b067 : MethodName := ⟨RJ2, "charAt", "([BI)C"⟩
abbrev cJ2_checkIndex_2214a : ByteArray := prog_20_method_91_code
def yJ2_checkIndex_2214a : MethodName := ⟨RJ2, "checkIndex", "(I[B)V"⟩
def RJ3 : String := "jdk/internal/util/Preconditions"
def TJ3 : u_T := fun k => match k with
  | _ => ("", "", "", false)
def tyJ3 : Nat → FieldType := fun k => match k with
  | _ => .int
abbrev wsJ30 : List Cond := u_ws RJ3 TJ3 0
theorem nmJ3 : ∀ a, a < 0 → ∀ b, b < 0 → a ≠ b → (TJ3 a).2.1 ≠ (TJ3 b).2.1 := by decide +kernel
theorem tyJ3_ok : ∀ k, k < 0 → parseFieldDescriptor (TJ3 k).2.2.1 = some (tyJ3 k) := by decide +kernel
abbrev cJ3_checkIndex_8e157 : ByteArray := prog_21_method_11_code
def yJ3_checkIndex_8e157 : MethodName := ⟨RJ3, "checkIndex", "(IILjava/util/function/BiFunction;)I"⟩
def RL : String := "WettedNetLaw"
abbrev cL_law : ByteArray := code
def yL_law : MethodName := ⟨RL, "law", "([I)Z"⟩
/-! ===== the words, all that are of a kind to be carried; the classes ===== -/
def mz_big : List Cond := lw_tbl.filter goodWord
theorem mz_w {w : Cond} (i : Nat) (h : lw_tbl[i]? = some w) (hg : goodWord w = true) : w ∈ mz_big := List.mem_filter.mpr ⟨List.mem_of_getElem? h, hg⟩
theorem mz_big_good : GoodIn mz_big mz_big := fun w hw => ⟨hw, good_of_word (List.mem_filter.mp hw).2⟩
theorem mz_big_tbl : GoodIn lw_tbl mz_big := fun w hw => ⟨(List.mem_filter.mp hw).1, good_of_word (List.mem_filter.mp hw).2⟩
theorem mz_in (ws : List Cond) (ps : List Nat) (hp : ws = ps.filterMap (fun i => lw_tbl[i]?)) (h : ws.all goodWord = true) : ∀ w ∈ ws, w ∈ mz_big := by
  intro w hw
  have h1 := List.all_eq_true.mp h w hw
  rw [hp] at hw
  obtain ⟨i, -, hi⟩ := List.mem_filterMap.mp hw
  exact mz_w i hi h1
abbrev mz_cl : List vw_C := [(RX0, TX0, 3), (RX1, TX1, 4), (RX2, TX2, 4), (RX3, TX3, 5), (RX4, TX4, 9), (RX5, TX5, 2), (RX6, TX6, 7), (RX7, TX7, 8), (RX8, TX8, 2), (RX9, TX9, 2), (RX10, TX10, 2), (RX11, TX11, 9), (RX12, TX12, 29)]
set_option maxRecDepth 20000 in
theorem mz_inX0 : ∀ w ∈ wsX00, w ∈ mz_big := mz_in _ [269, 271, 273] (by decide +kernel) (by decide +kernel)
set_option maxRecDepth 20000 in
theorem mz_inX1 : ∀ w ∈ wsX10, w ∈ mz_big := mz_in _ [308, 310, 312, 314] (by decide +kernel) (by decide +kernel)
set_option maxRecDepth 20000 in
theorem mz_inX2 : ∀ w ∈ wsX20, w ∈ mz_big := mz_in _ [204, 206, 208, 210] (by decide +kernel) (by decide +kernel)
set_option maxRecDepth 20000 in
theorem mz_inX3 : ∀ w ∈ wsX30, w ∈ mz_big := mz_in _ [287, 289, 291, 293, 295] (by decide +kernel) (by decide +kernel)
set_option maxRecDepth 20000 in
theorem mz_inX4 : ∀ w ∈ wsX40, w ∈ mz_big := mz_in _ [228, 230, 232, 234, 236, 238, 240, 242, 244] (by decide +kernel) (by decide +kernel)
set_option maxRecDepth 20000 in
theorem mz_inX5 : ∀ w ∈ wsX50, w ∈ mz_big := mz_in _ [96, 98] (by decide +kernel) (by decide +kernel)
set_option maxRecDepth 20000 in
theorem mz_inX6 : ∀ w ∈ wsX60, w ∈ mz_big := mz_in _ [148, 150, 152, 154, 156, 158, 160] (by decide +kernel) (by decide +kernel)
set_option maxRecDepth 20000 in
theorem mz_inX7 : ∀ w ∈ wsX70, w ∈ mz_big := mz_in _ [177, 179, 181, 183, 185, 187, 189, 191] (by decide +kernel) (by decide +kernel)
set_option maxRecDepth 20000 in
theorem mz_inX8 : ∀ w ∈ wsX80, w ∈ mz_big := mz_in _ [122, 124] (by decide +kernel) (by decide +kernel)
set_option maxRecDepth 20000 in
theorem mz_inX9 : ∀ w ∈ wsX90, w ∈ mz_big := mz_in _ [255, 257] (by decide +kernel) (by decide +kernel)
set_option maxRecDepth 20000 in
theorem mz_inX10 : ∀ w ∈ wsX100, w ∈ mz_big := mz_in _ [325, 327] (by decide +kernel) (by decide +kernel)
set_option maxRecDepth 20000 in
theorem mz_inX11 : ∀ w ∈ wsX110, w ∈ mz_big := mz_in _ [339, 341, 343, 345, 347, 349, 351, 353, 355] (by decide +kernel) (by decide +kernel)
set_option maxRecDepth 20000 in
theorem mz_inX12 : ∀ w ∈ wsX120, w ∈ mz_big := mz_in _ [1001, 1003, 1005, 1007, 1009, 1011, 1013, 1015, 1017, 1019, 1021, 1023, 1025, 1027, 1029, 1031, 1033, 1035, 1037, 1039, 1041, 1043, 1045, 1047, 1049, 1051, 1053, 1055, 1057] (by decide +kernel) (by decide +kernel)
def mz_nest : List (String × Nat × MethodName × String) := [("WettedNet", 11, ⟨"WettedNet$Memo", "<init>", "()V"⟩, "WettedNet"), ("WettedNet$Rooms", 42, ⟨"WettedNet", "within", "(III)Z"⟩, "WettedNet"), ("WettedNet", 24, ⟨"WettedNet$Script", "<init>", "()V"⟩, "WettedNet"), ("WettedNet$Script", 31, ⟨"WettedNet", "within", "(III)Z"⟩, "WettedNet"), ("WettedNet$Memo", 19, ⟨"WettedNet", "within", "(III)Z"⟩, "WettedNet"), ("WettedNet$Rooms", 46, ⟨"WettedNet", "has", "(II)Z"⟩, "WettedNet"), ("WettedNet$Sets", 29, ⟨"WettedNet", "within", "(III)Z"⟩, "WettedNet"), ("WettedNet$Throwing", 47, ⟨"WettedNet", "has", "(II)Z"⟩, "WettedNet"), ("WettedNet$Catching", 23, ⟨"WettedNet", "has", "(II)Z"⟩, "WettedNet"), ("WettedNet$Forcing", 26, ⟨"WettedNet", "has", "(II)Z"⟩, "WettedNet"), ("WettedNet$Chances", 53, ⟨"WettedNet", "has", "(II)Z"⟩, "WettedNet"), ("WettedNet$Walks", 42, ⟨"WettedNet", "has", "(II)Z"⟩, "WettedNet")]
def mz_str : List (String × Nat × String) := [("WettedNet$Script", 89, "rooms"), ("WettedNet$Script", 91, "door"), ("WettedNet$Script", 93, "way"), ("WettedNet$Script", 95, "shut"), ("WettedNet$Script", 97, "folk"), ("WettedNet$Script", 99, "thick"), ("WettedNet$Script", 101, "hands"), ("WettedNet$Script", 103, "chance")]
def mz_len : List Nat := [5, 4, 3, 4, 4, 5, 5, 6]
def mz_byt : List (List Int32) := [[114, 111, 111, 109, 115], [100, 111, 111, 114], [119, 97, 121], [115, 104, 117, 116], [102, 111, 108, 107], [116, 104, 105, 99, 107], [104, 97, 110, 100, 115], [99, 104, 97, 110, 99, 101]]
def mz_thr : List Int32 := [0, 1, 3, 4, 9, 10, 12, 13]
end
section
/-! ===== values, cells and states of a run that is reckoned: what the machine holds, as far as it is known ===== -/
abbrev mz_V : Type := Int32 ⊕ Int64 ⊕ Option Nat ⊕ (Int × Int) ⊕ (Int × Int) ⊕ (Option Int32 × List (Option Int32 × Int32 × Int × Int)) ⊕ Nat
abbrev mz_C : Type := (Bool × Nat × List (Nat × mz_V)) ⊕ (Nat × List mz_V)
abbrev mz_S : Type := List (Nat × mz_V) × List mz_V × List mz_C
def mz_sh (x : Int32) (c : Option Int32) : Int32 := match c with
  | none => x
  | some k => x >>> k
def mz_fc (F : List (Option Int32 × Int32 × Int × Int)) (x : Int32) : Prop := ∀ q ∈ F, q.2.2.1 ≤ (mz_sh x q.1 &&& q.2.1).toInt ∧ (mz_sh x q.1 &&& q.2.1).toInt ≤ q.2.2.2
/-- which values a reckoned one stands for: an int, a long, a cell of the world by its place (or null), an int within bounds, a long within bounds, an int (shifted) of which some masked parts are within bounds, a cell outside of the world -/
def mz_g (X : Nat → Nat) (ρ : List Nat) (a : mz_V) (v : Value) : Prop := match a with
  | .inl x => v = .int x
  | .inr (.inl x) => v = .long x
  | .inr (.inr (.inl none)) => v = .null
  | .inr (.inr (.inl (some k))) => ∃ q : Nat, ρ[k]? = some q ∧ v = .ref q
  | .inr (.inr (.inr (.inl r))) => ∃ x : Int32, v = .int x ∧ r.1 ≤ x.toInt ∧ x.toInt ≤ r.2
  | .inr (.inr (.inr (.inr (.inl r)))) => ∃ x : Int64, v = .long x ∧ r.1 ≤ x.toInt ∧ x.toInt ≤ r.2
  | .inr (.inr (.inr (.inr (.inr (.inl f))))) => ∃ x : Int32, v = .int (mz_sh x f.1) ∧ mz_fc f.2 x
  | .inr (.inr (.inr (.inr (.inr (.inr n))))) => v = .ref (X n)
def mz_fn {α : Type} (n : Nat) (k : Nat → α) : α := match n with
  | 0 => k 0
  | j + 1 => k (j + 1)
theorem mz_fn_eq {α : Type} (n : Nat) (k : Nat → α) : mz_fn n k = k n := by cases n <;> rfl
def mz_fi {α : Type} (x : Int32) (k : Int32 → α) : α := mz_fn x.toBitVec.toNat (fun n => k (Int32.ofNat n))
theorem mz_i_back (x : Int32) : Int32.ofNat x.toBitVec.toNat = x := by
  apply Int32.toBitVec_inj.mp
  simp
theorem mz_fi_eq {α : Type} (x : Int32) (k : Int32 → α) : mz_fi x k = k x := by
  unfold mz_fi
  rw [mz_fn_eq, mz_i_back]
def mz_fl {α : Type} (x : Int64) (k : Int64 → α) : α := mz_fn x.toBitVec.toNat (fun n => k (Int64.ofNat n))
theorem mz_l_back (x : Int64) : Int64.ofNat x.toBitVec.toNat = x := by
  apply Int64.toBitVec_inj.mp
  simp
theorem mz_fl_eq {α : Type} (x : Int64) (k : Int64 → α) : mz_fl x k = k x := by
  unfold mz_fl
  rw [mz_fn_eq, mz_l_back]
def mz_cat (a : mz_V) : Nat := match a with
  | .inr (.inl _) => 2
  | .inr (.inr (.inr (.inr (.inl _)))) => 2
  | _ => 1
def mz_isI (a : mz_V) : Bool := match a with
  | .inl _ => true
  | .inr (.inr (.inr (.inl _))) => true
  | .inr (.inr (.inr (.inr (.inr (.inl _))))) => true
  | _ => false
def mz_isL (a : mz_V) : Bool := match a with
  | .inr (.inl _) => true
  | .inr (.inr (.inr (.inr (.inl _)))) => true
  | _ => false
def mz_isR (a : mz_V) : Bool := match a with
  | .inr (.inr (.inl (some _))) => true
  | .inr (.inr (.inr (.inr (.inr (.inr _))))) => true
  | _ => false
theorem mz_isI_ok {X : Nat → Nat} {ρ : List Nat} {a : mz_V} {v : Value} (h : mz_g X ρ a v) (hi : mz_isI a = true) : ∃ x : Int32, v = .int x := by
  rcases a with x | x | r | r | r | f | n
  · exact ⟨x, h⟩
  · simp [mz_isI] at hi
  · simp [mz_isI] at hi
  · obtain ⟨x, hx, -⟩ := h
    exact ⟨x, hx⟩
  · simp [mz_isI] at hi
  · obtain ⟨x, hx, -⟩ := h
    exact ⟨_, hx⟩
  · simp [mz_isI] at hi
theorem mz_isL_ok {X : Nat → Nat} {ρ : List Nat} {a : mz_V} {v : Value} (h : mz_g X ρ a v) (hi : mz_isL a = true) : ∃ x : Int64, v = .long x := by
  rcases a with x | x | r | r | r | f | n
  · simp [mz_isL] at hi
  · exact ⟨x, h⟩
  · simp [mz_isL] at hi
  · simp [mz_isL] at hi
  · obtain ⟨x, hx, -⟩ := h
    exact ⟨x, hx⟩
  · simp [mz_isL] at hi
  · simp [mz_isL] at hi
theorem mz_isR_ok {X : Nat → Nat} {ρ : List Nat} {a : mz_V} {v : Value} (h : mz_g X ρ a v) (hi : mz_isR a = true) : ∃ x : Nat, v = .ref x := by
  rcases a with x | x | r | r | r | f | n
  · simp [mz_isR] at hi
  · simp [mz_isR] at hi
  · rcases r with _ | k
    · simp [mz_isR] at hi
    · obtain ⟨q, -, hq⟩ := h
      exact ⟨q, hq⟩
  · simp [mz_isR] at hi
  · simp [mz_isR] at hi
  · simp [mz_isR] at hi
  · exact ⟨_, h⟩
theorem mz_cat_ok {X : Nat → Nat} {ρ : List Nat} {a : mz_V} {v : Value} (h : mz_g X ρ a v) : v.category = mz_cat a := by
  rcases a with x | x | r | r | r | f | n
  · cases h; rfl
  · cases h; rfl
  · rcases r with _ | k
    · cases h; rfl
    · obtain ⟨q, -, hq⟩ := h
      cases hq; rfl
  · obtain ⟨x, hx, -⟩ := h
    cases hx; rfl
  · obtain ⟨x, hx, -⟩ := h
    cases hx; rfl
  · obtain ⟨x, hx, -⟩ := h
    cases hx; rfl
  · cases h; rfl
theorem mz_g_mono {X : Nat → Nat} {ρ ρ' : List Nat} {a : mz_V} {v : Value} (hp : ∀ (k q : Nat), ρ[k]? = some q → ρ'[k]? = some q) (h : mz_g X ρ a v) : mz_g X ρ' a v := by
  rcases a with x | x | r | r | r | f | n
  · exact h
  · exact h
  · rcases r with _ | k
    · exact h
    · obtain ⟨q, hq, hv⟩ := h
      exact ⟨q, hp k q hq, hv⟩
  · exact h
  · exact h
  · exact h
  · exact h
/-- bounds of an int, of a long -/
def mz_bi (a : mz_V) : Option (Int × Int) := match a with
  | .inl x => some (x.toInt, x.toInt)
  | .inr (.inr (.inr (.inl r))) => some r
  | _ => none
def mz_bl (a : mz_V) : Option (Int × Int) := match a with
  | .inr (.inl x) => some (x.toInt, x.toInt)
  | .inr (.inr (.inr (.inr (.inl r)))) => some r
  | _ => none
theorem mz_bi_ok {X : Nat → Nat} {ρ : List Nat} {a : mz_V} {v : Value} {r : Int × Int} (h : mz_g X ρ a v) (hi : mz_bi a = some r) : ∃ x : Int32, v = .int x ∧ r.1 ≤ x.toInt ∧ x.toInt ≤ r.2 := by
  rcases a with x | x | q | q | q | f | n
  · simp only [mz_bi, Option.some.injEq] at hi
    subst hi
    exact ⟨x, h, Int.le_refl _, Int.le_refl _⟩
  · simp [mz_bi] at hi
  · simp [mz_bi] at hi
  · simp only [mz_bi, Option.some.injEq] at hi
    subst hi
    exact h
  · simp [mz_bi] at hi
  · simp [mz_bi] at hi
  · simp [mz_bi] at hi
theorem mz_bl_ok {X : Nat → Nat} {ρ : List Nat} {a : mz_V} {v : Value} {r : Int × Int} (h : mz_g X ρ a v) (hi : mz_bl a = some r) : ∃ x : Int64, v = .long x ∧ r.1 ≤ x.toInt ∧ x.toInt ≤ r.2 := by
  rcases a with x | x | q | q | q | f | n
  · simp [mz_bl] at hi
  · simp only [mz_bl, Option.some.injEq] at hi
    subst hi
    exact ⟨x, h, Int.le_refl _, Int.le_refl _⟩
  · simp [mz_bl] at hi
  · simp [mz_bl] at hi
  · simp only [mz_bl, Option.some.injEq] at hi
    subst hi
    exact h
  · simp [mz_bl] at hi
  · simp [mz_bl] at hi
/-- any int, any long -/
def mz_anyI : mz_V := .inr (.inr (.inr (.inl (-2147483648, 2147483647))))
def mz_anyL : mz_V := .inr (.inr (.inr (.inr (.inl (-9223372036854775808, 9223372036854775807)))))
theorem mz_anyI_ok {X : Nat → Nat} {ρ : List Nat} (x : Int32) : mz_g X ρ mz_anyI (.int x) := by
  refine ⟨x, rfl, ?_, ?_⟩
  · have := Int32.le_toInt x
    simpa using this
  · have := Int32.toInt_lt x
    show x.toInt ≤ 2147483647
    omega
theorem mz_anyL_ok {X : Nat → Nat} {ρ : List Nat} (x : Int64) : mz_g X ρ mz_anyL (.long x) := by
  refine ⟨x, rfl, ?_, ?_⟩
  · have := Int64.le_toInt x
    simpa using this
  · have := Int64.toInt_lt x
    show x.toInt ≤ 9223372036854775807
    omega
/-! the stack, the locals, the world -/
def mz_sk (X : Nat → Nat) (ρ : List Nat) : List mz_V → List Value → Prop
  | [], vs => vs = []
  | a :: as, vs => ∃ (v : Value) (vs' : List Value), vs = v :: vs' ∧ mz_g X ρ a v ∧ mz_sk X ρ as vs'
theorem mz_sk_mono {X : Nat → Nat} {ρ ρ' : List Nat} (hp : ∀ (k q : Nat), ρ[k]? = some q → ρ'[k]? = some q) : ∀ (as : List mz_V) (vs : List Value), mz_sk X ρ as vs → mz_sk X ρ' as vs
  | [], _, h => h
  | _ :: as, _, ⟨v, vs', h1, h2, h3⟩ => ⟨v, vs', h1, mz_g_mono hp h2, mz_sk_mono hp as vs' h3⟩
theorem mz_sk_len {X : Nat → Nat} {ρ : List Nat} : ∀ (as : List mz_V) (vs : List Value), mz_sk X ρ as vs → vs.length = as.length
  | [], _, h => by cases h; rfl
  | _ :: as, _, ⟨v, vs', h1, _, h3⟩ => by cases h1; simp [mz_sk_len as vs' h3]
theorem mz_sk_get {X : Nat → Nat} {ρ : List Nat} : ∀ (as : List mz_V) (vs : List Value), mz_sk X ρ as vs → ∀ (k : Nat) (a : mz_V), as[k]? = some a → ∃ v, vs[k]? = some v ∧ mz_g X ρ a v
  | [], _, _, k, a, hk => by simp at hk
  | b :: as, _, ⟨v, vs', h1, h2, h3⟩, k, a, hk => by
    cases h1
    cases k with
    | zero =>
      simp only [List.getElem?_cons_zero, Option.some.injEq] at hk
      subst hk
      exact ⟨v, rfl, h2⟩
    | succ k =>
      simp only [List.getElem?_cons_succ] at hk ⊢
      exact mz_sk_get as vs' h3 k a hk
theorem mz_sk_set {X : Nat → Nat} {ρ : List Nat} {a : mz_V} {w : Value} (hg : mz_g X ρ a w) : ∀ (as : List mz_V) (vs : List Value) (k : Nat), mz_sk X ρ as vs → mz_sk X ρ (as.set k a) (vs.set k w)
  | [], _, k, h => by cases h; exact rfl
  | b :: as, _, k, ⟨v, vs', h1, h2, h3⟩ => by
    cases h1
    cases k with
    | zero => exact ⟨w, vs', rfl, hg, h3⟩
    | succ k => exact ⟨v, vs'.set k w, rfl, h2, mz_sk_set hg as vs' k h3⟩
theorem mz_sk_cats {X : Nat → Nat} {ρ : List Nat} : ∀ (as : List mz_V) (vs : List Value), mz_sk X ρ as vs → (vs.map fun v => v.category).sum = (as.map mz_cat).sum
  | [], _, h => by cases h; rfl
  | _ :: as, _, ⟨v, vs', h1, h2, h3⟩ => by
    cases h1
    simp only [List.map_cons, List.sum_cons, mz_cat_ok h2, mz_sk_cats as vs' h3]
theorem mz_sk_app {X : Nat → Nat} {ρ : List Nat} : ∀ (as bs : List mz_V) (vs : List Value), mz_sk X ρ (as ++ bs) vs → ∃ v1 v2, vs = v1 ++ v2 ∧ mz_sk X ρ as v1 ∧ mz_sk X ρ bs v2
  | [], bs, vs, h => ⟨[], vs, rfl, rfl, h⟩
  | a :: as, bs, _, ⟨v, vs', h1, h2, h3⟩ => by
    obtain ⟨v1, v2, e, g1, g2⟩ := mz_sk_app as bs vs' h3
    subst e
    exact ⟨v :: v1, v2, h1, ⟨v, v1, rfl, h2, g1⟩, g2⟩
theorem mz_sk_join {X : Nat → Nat} {ρ : List Nat} : ∀ (as bs : List mz_V) (v1 v2 : List Value), mz_sk X ρ as v1 → mz_sk X ρ bs v2 → mz_sk X ρ (as ++ bs) (v1 ++ v2)
  | [], _, _, _, h, g => by cases h; exact g
  | _ :: as, bs, _, v2, ⟨v, vs', h1, h2, h3⟩, g => by
    cases h1
    exact ⟨v, vs' ++ v2, rfl, h2, mz_sk_join as bs vs' v2 h3 g⟩
theorem mz_sk_rev {X : Nat → Nat} {ρ : List Nat} : ∀ (as : List mz_V) (vs : List Value), mz_sk X ρ as vs → mz_sk X ρ as.reverse vs.reverse
  | [], _, h => by cases h; exact rfl
  | a :: as, _, ⟨v, vs', h1, h2, h3⟩ => by
    cases h1
    simp only [List.reverse_cons]
    exact mz_sk_join _ _ _ _ (mz_sk_rev as vs' h3) ⟨v, [], rfl, h2, rfl⟩
def mz_lk (l : List (Nat × mz_V)) (i : Nat) : Option mz_V := match l with
  | [] => none
  | q :: r => bif Nat.beq q.1 i then some q.2 else mz_lk r i
def mz_lv (X : Nat → Nat) (ρ : List Nat) (nL : Nat) (st : List (Nat × mz_V)) (ls : Array Slot) : Prop := ∃ tr : List (Nat × mz_V × Value), tr.map (fun t => (t.1, t.2.1)) = st ∧ lv_has ls nL (tr.map fun t => (t.1, t.2.2)) ∧ ∀ t ∈ tr, mz_g X ρ t.2.1 t.2.2
theorem mz_lv_mono {X : Nat → Nat} {ρ ρ' : List Nat} {nL : Nat} {st : List (Nat × mz_V)} {ls : Array Slot} (hp : ∀ (k q : Nat), ρ[k]? = some q → ρ'[k]? = some q) (h : mz_lv X ρ nL st ls) : mz_lv X ρ' nL st ls := by
  obtain ⟨tr, h1, h2, h3⟩ := h
  exact ⟨tr, h1, h2, fun t ht => mz_g_mono hp (h3 t ht)⟩
theorem mz_lk_mem : ∀ (l : List (Nat × mz_V)) (i : Nat) (a : mz_V), mz_lk l i = some a → (i, a) ∈ l
  | [], i, a, h => by simp [mz_lk] at h
  | q :: r, i, a, h => by
    unfold mz_lk at h
    cases hq : Nat.beq q.1 i with
    | true =>
      rw [hq] at h
      simp only [cond_true, Option.some.injEq] at h
      have := Nat.eq_of_beq_eq_true hq
      subst this
      subst h
      exact List.mem_cons_self
    | false =>
      rw [hq] at h
      exact List.mem_cons_of_mem _ (mz_lk_mem r i a h)
theorem mz_lv_at {X : Nat → Nat} {ρ : List Nat} {nL : Nat} {st : List (Nat × mz_V)} {ls : Array Slot} (h : mz_lv X ρ nL st ls) {i : Nat} {a : mz_V} (hk : mz_lk st i = some a) : ∃ v, ls[i]? = some (.val v) ∧ mz_g X ρ a v := by
  obtain ⟨tr, h1, h2, h3⟩ := h
  have hm := mz_lk_mem st i a hk
  rw [← h1] at hm
  obtain ⟨t, ht, he⟩ := List.mem_map.mp hm
  cases he
  exact ⟨t.2.2, h2.2.2 (t.1, t.2.2) (List.mem_map.mpr ⟨t, ht, rfl⟩), h3 t ht⟩
def mz_p1 (i : Nat) (q : Nat × mz_V) : Bool := !(q.1 == i) && !(q.1 + 1 == i && mz_cat q.2 == 2)
def mz_p2 (i : Nat) (q : Nat × mz_V) : Bool := !(q.1 == i) && (!(q.1 == i + 1) && !(q.1 + 1 == i && mz_cat q.2 == 2))
theorem mz_filter {X : Nat → Nat} {ρ : List Nat} (P : Nat × mz_V → Bool) (Q : Nat × Value → Bool) : ∀ (tr : List (Nat × mz_V × Value)), (∀ t ∈ tr, P (t.1, t.2.1) = Q (t.1, t.2.2)) → (∀ t ∈ tr, mz_g X ρ t.2.1 t.2.2) → ∃ tr' : List (Nat × mz_V × Value), tr'.map (fun t => (t.1, t.2.1)) = (tr.map (fun t => (t.1, t.2.1))).filter P ∧ tr'.map (fun t => (t.1, t.2.2)) = (tr.map (fun t => (t.1, t.2.2))).filter Q ∧ ∀ t ∈ tr', mz_g X ρ t.2.1 t.2.2
  | [], _, _ => ⟨[], rfl, rfl, fun t h => by cases h⟩
  | t :: tr, h, hg => by
    obtain ⟨tr', h1, h2, h3⟩ := mz_filter P Q tr (fun t ht => h t (List.mem_cons_of_mem _ ht)) (fun t ht => hg t (List.mem_cons_of_mem _ ht))
    have h0 := h t List.mem_cons_self
    cases hp : P (t.1, t.2.1) with
    | true =>
      have hq : Q (t.1, t.2.2) = true := by rw [← h0]; exact hp
      refine ⟨t :: tr', ?_, ?_, ?_⟩
      · simp only [List.map_cons, List.filter_cons, hp, if_true, h1]
      · simp only [List.map_cons, List.filter_cons, hq, if_true, h2]
      · intro q hq'
        rcases List.mem_cons.mp hq' with rfl | hq'
        · exact hg _ List.mem_cons_self
        · exact h3 q hq'
    | false =>
      have hq : Q (t.1, t.2.2) = false := by rw [← h0]; exact hp
      refine ⟨tr', ?_, ?_, h3⟩
      · simp only [List.map_cons, List.filter_cons, hp, h1]
        simp
      · simp only [List.map_cons, List.filter_cons, hq, h2]
        simp
theorem mz_lv_put1 {X : Nat → Nat} {ρ : List Nat} {nL i : Nat} {st : List (Nat × mz_V)} {ls : Array Slot} {a : mz_V} {v : Value} (h : mz_lv X ρ nL st ls) (hg : mz_g X ρ a v) : ∃ lv : List (Nat × Value), lv_has ls nL lv ∧ ∀ ls' : Array Slot, lv_has ls' nL ((i, v) :: lv.filter (fun q => !(q.1 == i) && !(q.1 + 1 == i && q.2.category == 2))) → mz_lv X ρ nL ((i, a) :: st.filter (mz_p1 i)) ls' := by
  obtain ⟨tr, h1, h2, h3⟩ := h
  refine ⟨_, h2, fun ls' h' => ?_⟩
  obtain ⟨tr', e1, e2, e3⟩ := mz_filter (mz_p1 i) (fun q => !(q.1 == i) && !(q.1 + 1 == i && q.2.category == 2)) tr (fun t ht => by simp only [mz_p1, mz_cat_ok (h3 t ht)]) h3
  refine ⟨(i, a, v) :: tr', ?_, ?_, ?_⟩
  · simp only [List.map_cons, e1, h1]
  · simp only [List.map_cons, e2]
    exact h'
  · intro t ht
    rcases List.mem_cons.mp ht with rfl | ht
    · exact hg
    · exact e3 t ht
theorem mz_lv_put2 {X : Nat → Nat} {ρ : List Nat} {nL i : Nat} {st : List (Nat × mz_V)} {ls : Array Slot} {a : mz_V} {v : Value} (h : mz_lv X ρ nL st ls) (hg : mz_g X ρ a v) : ∃ lv : List (Nat × Value), lv_has ls nL lv ∧ ∀ ls' : Array Slot, lv_has ls' nL ((i, v) :: lv.filter (fun q => !(q.1 == i) && (!(q.1 == i + 1) && !(q.1 + 1 == i && q.2.category == 2)))) → mz_lv X ρ nL ((i, a) :: st.filter (mz_p2 i)) ls' := by
  obtain ⟨tr, h1, h2, h3⟩ := h
  refine ⟨_, h2, fun ls' h' => ?_⟩
  obtain ⟨tr', e1, e2, e3⟩ := mz_filter (mz_p2 i) (fun q => !(q.1 == i) && (!(q.1 == i + 1) && !(q.1 + 1 == i && q.2.category == 2))) tr (fun t ht => by simp only [mz_p2, mz_cat_ok (h3 t ht)]) h3
  refine ⟨(i, a, v) :: tr', ?_, ?_, ?_⟩
  · simp only [List.map_cons, e1, h1]
  · simp only [List.map_cons, e2]
    exact h'
  · intro t ht
    rcases List.mem_cons.mp ht with rfl | ht
    · exact hg
    · exact e3 t ht
/-- an array's place, read and written -/
def mz_ag (l : List (Nat × mz_V)) (j : Nat) : mz_V := match mz_lk l j with
  | some a => a
  | none => .inl 0
def mz_as (l : List (Nat × mz_V)) (j : Nat) (a : mz_V) : List (Nat × mz_V) := match l with
  | [] => [(j, a)]
  | q :: r => bif Nat.beq q.1 j then (j, a) :: r else q :: mz_as r j a
theorem mz_lk_as : ∀ (l : List (Nat × mz_V)) (j k : Nat) (a : mz_V), mz_lk (mz_as l j a) k = if k = j then some a else mz_lk l k
  | [], j, k, a => by
    unfold mz_as mz_lk mz_lk
    by_cases h : k = j
    · subst h
      simp
    · have : Nat.beq j k = false := by
        cases hb : Nat.beq j k
        · rfl
        · exact absurd (Nat.eq_of_beq_eq_true hb).symm h
      simp [this, h]
  | q :: r, j, k, a => by
    unfold mz_as
    cases hq : Nat.beq q.1 j with
    | true =>
      have e := Nat.eq_of_beq_eq_true hq
      simp only [cond_true]
      by_cases h : k = j
      · subst h
        simp [mz_lk]
      · have hb : Nat.beq j k = false := by
          cases hb : Nat.beq j k
          · rfl
          · exact absurd (Nat.eq_of_beq_eq_true hb).symm h
        rw [if_neg h]
        rw [mz_lk, mz_lk, e]
        simp only [hb, cond_false]
    | false =>
      simp only [cond_false]
      by_cases h : k = j
      · subst h
        rw [if_pos rfl, mz_lk]
        simp only [hq, cond_false]
        rw [mz_lk_as r k k a, if_pos rfl]
      · rw [if_neg h, mz_lk, mz_lk, mz_lk_as r j k a, if_neg h]
theorem mz_ag_as (l : List (Nat × mz_V)) (j k : Nat) (a : mz_V) : mz_ag (mz_as l j a) k = if k = j then a else mz_ag l k := by
  unfold mz_ag
  rw [mz_lk_as]
  by_cases h : k = j
  · simp [h]
  · simp [h]
/-- the world: its arrays' class, its cells one by one -/
abbrev mz_E : Type := (Nat → Nat) × va_G × ClassId × ClassId × (Nat → Int32)
def mz_ac (G : mz_E) (b : Bool) : ClassId := match b with
  | true => G.2.2.2.1
  | false => G.2.2.1
def mz_ce (G : mz_E) (ρ : List Nat) (c : mz_C) (e : va_E) : Prop := match c with
  | .inl r => ∃ f : Nat → Int32, e = .inl (mz_ac G r.1, r.2.1, .inl f) ∧ ∀ j : Nat, j < r.2.1 → mz_g G.1 ρ (mz_ag r.2.2 j) (.int (f j))
  | .inr o => ∃ vs : List Value, e = .inr (o.1, vs) ∧ mz_sk G.1 ρ o.2 vs
theorem mz_ce_mono {G : mz_E} {ρ ρ' : List Nat} {c : mz_C} {e : va_E} (hp : ∀ (k q : Nat), ρ[k]? = some q → ρ'[k]? = some q) (h : mz_ce G ρ c e) : mz_ce G ρ' c e := by
  cases c with
  | inl r =>
    obtain ⟨f, h1, h2⟩ := h
    exact ⟨f, h1, fun j hj => mz_g_mono hp (h2 j hj)⟩
  | inr o =>
    obtain ⟨vs, h1, h2⟩ := h
    exact ⟨vs, h1, mz_sk_mono hp _ _ h2⟩
def mz_wd (G : mz_E) (w : List mz_C) (cw : va_W) : Prop := w.length = cw.length ∧ ∀ (k : Nat) (c : mz_C) (q : Nat × va_E), w[k]? = some c → cw[k]? = some q → mz_ce G (cw.map Prod.fst) c q.2
theorem mz_wd_at {G : mz_E} {w : List mz_C} {cw : va_W} (h : mz_wd G w cw) {k : Nat} {c : mz_C} (hk : w[k]? = some c) : ∃ q, cw[k]? = some q ∧ (cw.map Prod.fst)[k]? = some q.1 ∧ mz_ce G (cw.map Prod.fst) c q.2 := by
  have hl : k < cw.length := by rw [← h.1]; exact (List.getElem?_eq_some_iff.mp hk).1
  have hq : cw[k]? = some cw[k] := List.getElem?_eq_getElem hl
  exact ⟨cw[k], hq, by rw [List.getElem?_map, hq]; rfl, h.2 k c _ hk hq⟩
theorem mz_fst_set {cw : va_W} {k a : Nat} {e0 e : va_E} (h : cw[k]? = some (a, e0)) : (cw.set k (a, e)).map Prod.fst = cw.map Prod.fst := by
  apply List.ext_getElem?
  intro j
  rw [List.getElem?_map, List.getElem?_map]
  by_cases hj : k = j
  · subst hj
    rw [List.getElem?_set_self (List.getElem?_eq_some_iff.mp h).1, h]
    rfl
  · rw [List.getElem?_set_ne hj]
theorem mz_wd_set {G : mz_E} {w : List mz_C} {cw : va_W} (h : mz_wd G w cw) {k a : Nat} {c : mz_C} {e0 e : va_E} (hk : cw[k]? = some (a, e0)) (hc : mz_ce G (cw.map Prod.fst) c e) : mz_wd G (w.set k c) (cw.set k (a, e)) := by
  refine ⟨by simp [h.1], fun j c' q hj hq => ?_⟩
  rw [mz_fst_set hk]
  have hl := (List.getElem?_eq_some_iff.mp hk).1
  by_cases hj' : k = j
  · subst hj'
    rw [List.getElem?_set_self hl] at hq
    rw [List.getElem?_set_self (by rw [h.1]; exact hl)] at hj
    cases hq
    cases hj
    exact hc
  · rw [List.getElem?_set_ne hj'] at hq hj
    exact h.2 j c' q hj hq
theorem mz_pre_app (ρ δ : List Nat) : ∀ (k q : Nat), ρ[k]? = some q → (ρ ++ δ)[k]? = some q := fun k q h => by
  rw [List.getElem?_append_left (List.getElem?_eq_some_iff.mp h).1]
  exact h
theorem mz_wd_push {G : mz_E} {w : List mz_C} {cw : va_W} (h : mz_wd G w cw) {a : Nat} {c : mz_C} {e : va_E} (hc : mz_ce G (cw.map Prod.fst ++ [a]) c e) : mz_wd G (w ++ [c]) (cw ++ [(a, e)]) := by
  refine ⟨by simp [h.1], fun j c' q hj hq => ?_⟩
  rw [List.map_append]
  by_cases hl : j < cw.length
  · rw [List.getElem?_append_left hl] at hq
    rw [List.getElem?_append_left (by rw [h.1]; exact hl)] at hj
    exact mz_ce_mono (mz_pre_app _ _) (h.2 j c' q hj hq)
  · have hlt : j < cw.length + 1 := by
      have := (List.getElem?_eq_some_iff.mp hq).1
      simpa using this
    have e0 : j = cw.length := by omega
    subst e0
    rw [List.getElem?_append_right (Nat.le_refl _), Nat.sub_self] at hq
    rw [← h.1, List.getElem?_append_right (Nat.le_refl _), Nat.sub_self] at hj
    cases hq
    cases hj
    exact hc
def mz_cs (c : mz_C) : Nat := match c with
  | .inl r => r.2.1
  | .inr o => o.2.length
def mz_sl (w : List mz_C) : Nat := (w.map mz_cs).sum
theorem mz_sl_app (w : List mz_C) (c : mz_C) : mz_sl (w ++ [c]) = mz_sl w + mz_cs c := by simp [mz_sl]
theorem mz_sl_set (w : List mz_C) (k : Nat) (c c' : mz_C) (h : w[k]? = some c) (hc : mz_cs c' = mz_cs c) : mz_sl (w.set k c') = mz_sl w := by
  unfold mz_sl
  congr 1
  apply List.ext_getElem?
  intro j
  rw [List.getElem?_map, List.getElem?_map]
  by_cases hj : k = j
  · subst hj
    rw [List.getElem?_set_self (List.getElem?_eq_some_iff.mp h).1, h]
    simp [hc]
  · rw [List.getElem?_set_ne hj]
end
section
/-! ===== what lies outside of the world and is never written: the script, a static row, a static, the words' texts ===== -/
def mz_ex (E : List mz_V) (G : mz_E) (A : Nat → Prop) (U : State) (H : Heap) : Prop :=
  (va_T .int (G.1 0) E.length (fun j => .int (G.2.2.2.2 j)) A U H ∧ ∀ (j : Nat) (a : mz_V), E[j]? = some a → mz_g G.1 [] a (.int (G.2.2.2.2 j))) ∧
  va_Z "WettedNet$Fires" "THREES" "[I" (.ref (G.1 1)) A U H ∧ va_T .int (G.1 1) 8 (fun j => .int (mz_thr.getD j 0)) A U H ∧
  va_Z "java/lang/String" "COMPACT_STRINGS" "Z" (.int 1) A U H ∧ vk_S 8 mz_len mz_byt (fun i => G.1 (i + 2)) (fun i => G.1 (i + 10)) A U H
theorem mz_ex_moved {E : List mz_V} {G : mz_E} {A : Nat → Prop} {u U : State} {H : Heap} (hvm : u.vm.Alike U.vm) (h : mz_ex E G A u H) : mz_ex E G A U H :=
  ⟨⟨va_T.moved hvm h.1.1, h.1.2⟩, va_Z.moved hvm h.2.1, va_T.moved hvm h.2.2.1, va_Z.moved hvm h.2.2.2.1, vk_S.moved hvm h.2.2.2.2⟩
theorem mz_ex_kept {E : List mz_V} {G : mz_E} {A : Nat → Prop} {U : State} {H H1 : Heap} (h : mz_ex E G A U H) (hq : ∀ a : Nat, a < H.size → ¬ A a → H1[a]? = H[a]?) : mz_ex E G A U H1 :=
  ⟨⟨h.1.1.kept hq, h.1.2⟩, h.2.1.kept hq, h.2.2.1.kept hq, h.2.2.2.1.kept hq, h.2.2.2.2.kept hq⟩
theorem mz_ex_narrow {E : List mz_V} {G : mz_E} {A B : Nat → Prop} {U : State} {H : Heap} (h : mz_ex E G A U H) (hAB : ∀ q, B q → A q) : mz_ex E G B U H :=
  ⟨⟨h.1.1.narrow hAB, h.1.2⟩, h.2.1.narrow hAB, h.2.2.1.narrow hAB, h.2.2.2.1.narrow hAB, h.2.2.2.2.narrow hAB⟩
def mz_tb (G : mz_E) (U : State) : Prop := (∀ q ∈ mz_nest, va_Nw (.methodLinkNest q.1 q.2.1 q.2.2.1 q.2.2.2) U) ∧ va_Nw (.castable "[I" "java/lang/Cloneable") U ∧ ∀ (i : Nat) (q : String × Nat × String), mz_str[i]? = some q → vk_R q.1 q.2.1 q.2.2 (G.1 (i + 2)) U
theorem mz_tb_warm {G : mz_E} {s U : State} (hW : s.WarmedH U.vm) (h : mz_tb G s) : mz_tb G U := ⟨fun q hq => va_Nw.warmM hW (h.1 q hq), va_Nw.warmC hW h.2.1, fun i q hq => vk_R.warm hW (h.2.2 i q hq)⟩
theorem mz_tb_same {G : mz_E} {u U : State} (hv : U.vm = u.vm) (h : mz_tb G u) : mz_tb G U := ⟨fun q hq => va_Nw.same rfl hv.symm (h.1 q hq), va_Nw.same rfl hv.symm h.2.1, fun i q hq => vk_R.same hv (h.2.2 i q hq)⟩
def mz_tys (G : mz_E) : List (ClassId × FieldType) := [(G.2.2.1, .int), (G.2.2.2.1, .boolean)]
/-- a method: its code, how many locals, what it returns, its class, its name, the room's frames and words -/
abbrev mz_M : Type := ByteArray × Nat × Option FieldType × String × String × Nat × Nat
def mz_cx (E : List mz_V) (G : mz_E) (M : mz_M) (p : Program) (R : Room) (s : State) (m : MethodId) (args : Array Value) (meth : Method) (c : Code) (A : Nat → Prop) : Prop :=
  p.tables.exec = Jvm.exec ∧ c.code = M.1 ∧ c.maxLocals = M.2.1 ∧ meth.sig.returnType = M.2.2.1 ∧ s.vm.findClass M.2.2.2.1 = some m.cls ∧ (M.2.2.2.2.1 = "<init>" → meth.name = "<init>") ∧ R.frames = M.2.2.2.2.2.1 ∧ R.locals = M.2.2.2.2.2.2 ∧ meth.locks = false ∧
  (∀ w ∈ mz_big, w.before args s = true) ∧ va_K G.2.1 mz_cl (mz_tys G) s ∧ (∀ q, s.heap.size ≤ q → A q) ∧ mz_ex E G A s s.heap ∧ mz_tb G s
def mz_rl (G : mz_E) (M : mz_M) (s : State) (A : Nat → Prop) (st : mz_S) (ls : Array Slot) (stk : List Value) (cw : va_W) (H : Heap) (locs : List Loc) : Prop :=
  mz_lv G.1 (cw.map Prod.fst) M.2.1 st.1 ls ∧ mz_sk G.1 (cw.map Prod.fst) st.2.1 stk ∧ mz_wd G st.2.2 cw ∧ va_P G.2.1 mz_cl cw H ∧ va_D A cw ∧ va_S A s.heap H locs
def mz_mono (st st' : mz_S) : Prop := st.2.2.length ≤ st'.2.2.length ∧ mz_sl st.2.2 ≤ mz_sl st'.2.2
/-- an instruction that goes on: what it makes of a reckoned state is what the machine does -/
def mz_ok (E : List mz_V) (M : mz_M) (pc : Nat) (f : mz_S → Option (Nat × mz_S)) : Prop :=
  ∀ (st : mz_S) (pc' : Nat) (st' : mz_S), f st = some (pc', st') → mz_mono st st' ∧
  ∀ (G : mz_E) (p : Program) (l : Launch) (e : Env) (R : Room) (s : State) (m : MethodId) (args : Array Value) (below : List Frame) (meth : Method) (c : Code) (A : Nat → Prop) (ls : Array Slot) (stk : List Value) (cw : va_W) (H : Heap) (locs : List Loc) (cells slots : Nat) (Q : State → Prop),
    mz_cx E G M p R s m args meth c A → mz_rl G M s A st ls stk cw H locs → cells + (st'.2.2.length - st.2.2.length) ≤ R.cells → slots + (mz_sl st'.2.2 - mz_sl st.2.2) ≤ R.slots →
    (∀ (ls' : Array Slot) (stk' : List Value) (cw' : va_W) (H' : Heap) (locs' : List Loc), mz_rl G M s A st' ls' stk' cw' H' locs' → (∀ (k q : Nat), (cw.map Prod.fst)[k]? = some q → (cw'.map Prod.fst)[k]? = some q) →
      W p l e R s m args below meth c H' locs' (cells + (st'.2.2.length - st.2.2.length)) (slots + (mz_sl st'.2.2 - mz_sl st.2.2)) Q (F0 m pc' ls' stk')) →
    W p l e R s m args below meth c H locs cells slots Q (F0 m pc ls stk)
/-- what a method makes of the world: its answer, the world behind it -/
def mz_an (X : Nat → Nat) (ρ : List Nat) (a : Option mz_V) (r : Option Value) : Prop := match a with
  | none => r = none
  | some b => ∃ v, r = some v ∧ mz_g X ρ b v
def mz_Q (G : mz_E) (cw : va_W) (sz : Nat) (a : Option mz_V) (w' : List mz_C) : Array Value → State → Outcome → State → Prop := fun _ st oc t =>
  (∃ (r : Option Value) (cw' : va_W), oc = .returned r ∧ mz_an G.1 (cw'.map Prod.fst) a r ∧ mz_wd G w' cw' ∧ (∀ (k q : Nat), (cw.map Prod.fst)[k]? = some q → (cw'.map Prod.fst)[k]? = some q) ∧ va_P G.2.1 mz_cl cw' t.heap ∧ va_D (va_A cw sz) cw') ∧ va_F (va_A cw sz) st t
/-- an instruction that ends the method -/
def mz_okR (E : List mz_V) (M : mz_M) (pc : Nat) (f : mz_S → Option (Option mz_V × List mz_C)) : Prop :=
  ∀ (st : mz_S) (a : Option mz_V) (w' : List mz_C), f st = some (a, w') → w' = st.2.2 ∧
  ∀ (G : mz_E) (p : Program) (l : Launch) (e : Env) (R : Room) (s : State) (m : MethodId) (args : Array Value) (below : List Frame) (meth : Method) (c : Code) (cw0 : va_W) (sz : Nat) (ls : Array Slot) (stk : List Value) (cw : va_W) (H : Heap) (locs : List Loc) (cells slots : Nat),
    mz_cx E G M p R s m args meth c (va_A cw0 sz) → mz_rl G M s (va_A cw0 sz) st ls stk cw H locs → (∀ (k q : Nat), (cw0.map Prod.fst)[k]? = some q → (cw.map Prod.fst)[k]? = some q) →
    W p l e R s m args below meth c H locs cells slots (MQ below (mz_Q G cw0 sz a w') args s cells slots (va_A cw0 sz)) (F0 m pc ls stk)
abbrev mz_O : Type := (mz_S → Option (Nat × mz_S)) ⊕ (mz_S → Option (Option mz_V × List mz_C))
def mz_okO (E : List mz_V) (M : mz_M) (q : Nat × mz_O) : Prop := match q.2 with
  | .inl f => mz_ok E M q.1 f
  | .inr f => mz_okR E M q.1 f
def mz_find (l : List (Nat × mz_O)) (i : Nat) : Option mz_O := match l with
  | [] => none
  | q :: r => bif Nat.beq q.1 i then some q.2 else mz_find r i
def mz_look (t : List (Nat × List (Nat × mz_O))) (i : Nat) : Option mz_O := match t with
  | [] => none
  | q :: r => bif Nat.ble i q.1 then mz_find q.2 i else mz_look r i
def mz_all (E : List mz_V) (M : mz_M) (l : List (Nat × mz_O)) : Prop := ∀ q ∈ l, mz_okO E M q
def mz_tok (E : List mz_V) (M : mz_M) (t : List (Nat × List (Nat × mz_O))) : Prop := ∀ q ∈ t, mz_all E M q.2
theorem mz_nil {E : List mz_V} {M : mz_M} : mz_all E M [] := fun _ h => by cases h
theorem mz_cons {E : List mz_V} {M : mz_M} {pc : Nat} {f : mz_S → Option (Nat × mz_S)} {l : List (Nat × mz_O)} (h : mz_ok E M pc f) (t : mz_all E M l) : mz_all E M ((pc, .inl f) :: l) := fun q hq => by
  rcases List.mem_cons.mp hq with rfl | hq
  · exact h
  · exact t q hq
theorem mz_consR {E : List mz_V} {M : mz_M} {pc : Nat} {f : mz_S → Option (Option mz_V × List mz_C)} {l : List (Nat × mz_O)} (h : mz_okR E M pc f) (t : mz_all E M l) : mz_all E M ((pc, .inr f) :: l) := fun q hq => by
  rcases List.mem_cons.mp hq with rfl | hq
  · exact h
  · exact t q hq
theorem mz_tnil {E : List mz_V} {M : mz_M} : mz_tok E M [] := fun _ h => by cases h
theorem mz_tcons {E : List mz_V} {M : mz_M} {b : Nat} {l : List (Nat × mz_O)} {t : List (Nat × List (Nat × mz_O))} (h : mz_all E M l) (g : mz_tok E M t) : mz_tok E M ((b, l) :: t) := fun q hq => by
  rcases List.mem_cons.mp hq with rfl | hq
  · exact h
  · exact g q hq
theorem mz_find_ok {E : List mz_V} {M : mz_M} : ∀ (l : List (Nat × mz_O)) (i : Nat) (o : mz_O), mz_all E M l → mz_find l i = some o → mz_okO E M (i, o)
  | [], i, o, _, h => by simp [mz_find] at h
  | q :: r, i, o, hl, h => by
    unfold mz_find at h
    cases hq : Nat.beq q.1 i with
    | true =>
      rw [hq] at h
      simp only [cond_true, Option.some.injEq] at h
      have := Nat.eq_of_beq_eq_true hq
      subst this
      subst h
      exact hl q List.mem_cons_self
    | false =>
      rw [hq] at h
      exact mz_find_ok r i o (fun q' h' => hl q' (List.mem_cons_of_mem _ h')) h
theorem mz_look_ok {E : List mz_V} {M : mz_M} : ∀ (t : List (Nat × List (Nat × mz_O))) (i : Nat) (o : mz_O), mz_tok E M t → mz_look t i = some o → mz_okO E M (i, o)
  | [], i, o, _, h => by simp [mz_look] at h
  | q :: r, i, o, hl, h => by
    unfold mz_look at h
    cases hq : Nat.ble i q.1 with
    | true =>
      rw [hq] at h
      exact mz_find_ok q.2 i o (hl q List.mem_cons_self) h
    | false =>
      rw [hq] at h
      exact mz_look_ok r i o (fun q' h' => hl q' (List.mem_cons_of_mem _ h')) h
/-- the run of a method's code, with fuel -/
noncomputable def mz_run (t : List (Nat × List (Nat × mz_O))) (n : Nat) : Nat → mz_S → Option (Option mz_V × List mz_C) :=
  Nat.rec (motive := fun _ => Nat → mz_S → Option (Option mz_V × List mz_C)) (fun _ _ => none) (fun _ ih pc st => match mz_look t pc with
    | none => none
    | some (.inr g) => g st
    | some (.inl f) => match f st with
      | none => none
      | some (pc', st') => ih pc' st') n
theorem mz_run_mono {E : List mz_V} {M : mz_M} {t : List (Nat × List (Nat × mz_O))} (ht : mz_tok E M t) : ∀ (n pc : Nat) (st : mz_S) (a : Option mz_V) (w' : List mz_C), mz_run t n pc st = some (a, w') → st.2.2.length ≤ w'.length ∧ mz_sl st.2.2 ≤ mz_sl w' := by
  intro n
  induction n with
  | zero => intro pc st a w' h; cases h
  | succ n ih =>
    intro pc st a w' h
    have h : (match mz_look t pc with
      | none => none
      | some (.inr g) => g st
      | some (.inl f) => match f st with
        | none => none
        | some (pc', st') => mz_run t n pc' st') = some (a, w') := h
    cases hl : mz_look t pc with
    | none => rw [hl] at h; cases h
    | some o =>
      rw [hl] at h
      have ho := mz_look_ok t pc o ht hl
      cases o with
      | inr g =>
        have ho : mz_okR E M pc g := ho
        obtain ⟨e, -⟩ := ho st a w' h
        rw [e]
        exact ⟨Nat.le_refl _, Nat.le_refl _⟩
      | inl f =>
        have ho : mz_ok E M pc f := ho
        cases hf : f st with
        | none => simp only [hf] at h; cases h
        | some q =>
          obtain ⟨pc', st'⟩ := q
          simp only [hf] at h
          obtain ⟨⟨m1, m2⟩, -⟩ := ho st pc' st' hf
          obtain ⟨k1, k2⟩ := ih pc' st' a w' h
          exact ⟨Nat.le_trans m1 k1, Nat.le_trans m2 k2⟩
theorem mz_run_ok {E : List mz_V} {M : mz_M} {t : List (Nat × List (Nat × mz_O))} (ht : mz_tok E M t) : ∀ (n pc : Nat) (st : mz_S) (a : Option mz_V) (w' : List mz_C), mz_run t n pc st = some (a, w') →
    ∀ (G : mz_E) (p : Program) (l : Launch) (e : Env) (R : Room) (s : State) (m : MethodId) (args : Array Value) (below : List Frame) (meth : Method) (c : Code) (cw0 : va_W) (sz : Nat) (ls : Array Slot) (stk : List Value) (cw : va_W) (H : Heap) (locs : List Loc) (cells slots : Nat),
    mz_cx E G M p R s m args meth c (va_A cw0 sz) → mz_rl G M s (va_A cw0 sz) st ls stk cw H locs → (∀ (k q : Nat), (cw0.map Prod.fst)[k]? = some q → (cw.map Prod.fst)[k]? = some q) →
    cells + (w'.length - st.2.2.length) = R.cells → slots + (mz_sl w' - mz_sl st.2.2) = R.slots →
    W p l e R s m args below meth c H locs cells slots (MQ below (mz_Q G cw0 sz a w') args s R.cells R.slots (va_A cw0 sz)) (F0 m pc ls stk) := by
  intro n
  induction n with
  | zero => intro pc st a w' h; cases h
  | succ n ih =>
    intro pc st a w' h G p l e R s m args below meth c cw0 sz ls stk cw H locs cells slots hc hr hp h1 h2
    have h : (match mz_look t pc with
      | none => none
      | some (.inr g) => g st
      | some (.inl f) => match f st with
        | none => none
        | some (pc', st') => mz_run t n pc' st') = some (a, w') := h
    cases hl : mz_look t pc with
    | none => rw [hl] at h; cases h
    | some o =>
      rw [hl] at h
      have ho := mz_look_ok t pc o ht hl
      cases o with
      | inr g =>
        have ho : mz_okR E M pc g := ho
        obtain ⟨e1, ho⟩ := ho st a w' h
        rw [e1, Nat.sub_self, Nat.add_zero] at h1 h2
        rw [← h1, ← h2]
        exact ho G p l e R s m args below meth c cw0 sz ls stk cw H locs cells slots hc hr hp
      | inl f =>
        have ho : mz_ok E M pc f := ho
        cases hf : f st with
        | none => simp only [hf] at h; cases h
        | some q =>
          obtain ⟨pc', st'⟩ := q
          simp only [hf] at h
          obtain ⟨⟨m1, m2⟩, ho⟩ := ho st pc' st' hf
          obtain ⟨k1, k2⟩ := mz_run_mono ht n pc' st' a w' h
          refine ho G p l e R s m args below meth c (va_A cw0 sz) ls stk cw H locs cells slots _ hc hr (by omega) (by omega) (fun ls' stk' cw' H' locs' hr' hp' => ?_)
          exact ih pc' st' a w' h G p l e R s m args below meth c cw0 sz ls' stk' cw' H' locs' _ _ hc hr' (fun k q hk => hp' k q (hp k q hk)) (by omega) (by omega)
/-- a run that stops at a place -/
noncomputable def mz_runT (t : List (Nat × List (Nat × mz_O))) (z : Nat) (n : Nat) : Nat → mz_S → Option mz_S :=
  Nat.rec (motive := fun _ => Nat → mz_S → Option mz_S) (fun _ _ => none) (fun _ ih pc st => bif Nat.beq pc z then some st else match mz_look t pc with
    | none => none
    | some (.inr _) => none
    | some (.inl f) => match f st with
      | none => none
      | some (pc', st') => ih pc' st') n
theorem mz_runT_mono {E : List mz_V} {M : mz_M} {t : List (Nat × List (Nat × mz_O))} (ht : mz_tok E M t) (z : Nat) : ∀ (n pc : Nat) (st st1 : mz_S), mz_runT t z n pc st = some st1 → mz_mono st st1 := by
  intro n
  induction n with
  | zero => intro pc st st1 h; cases h
  | succ n ih =>
    intro pc st st1 h
    have h : (bif Nat.beq pc z then some st else match mz_look t pc with
      | none => none
      | some (.inr _) => none
      | some (.inl f) => match f st with
        | none => none
        | some (pc', st') => mz_runT t z n pc' st') = some st1 := h
    cases hz : Nat.beq pc z with
    | true =>
      rw [hz] at h
      simp only [cond_true, Option.some.injEq] at h
      subst h
      exact ⟨Nat.le_refl _, Nat.le_refl _⟩
    | false =>
      rw [hz] at h
      simp only [cond_false] at h
      cases hl : mz_look t pc with
      | none => rw [hl] at h; cases h
      | some o =>
        rw [hl] at h
        have ho := mz_look_ok t pc o ht hl
        cases o with
        | inr g => cases h
        | inl f =>
          have ho : mz_ok E M pc f := ho
          cases hf : f st with
          | none => simp only [hf] at h; cases h
          | some q =>
            obtain ⟨pc', st'⟩ := q
            simp only [hf] at h
            obtain ⟨⟨m1, m2⟩, -⟩ := ho st pc' st' hf
            obtain ⟨k1, k2⟩ := ih pc' st' st1 h
            exact ⟨Nat.le_trans m1 k1, Nat.le_trans m2 k2⟩
theorem mz_runT_ok {E : List mz_V} {M : mz_M} {t : List (Nat × List (Nat × mz_O))} (ht : mz_tok E M t) (z : Nat) : ∀ (n pc : Nat) (st st1 : mz_S), mz_runT t z n pc st = some st1 →
    ∀ (G : mz_E) (p : Program) (l : Launch) (e : Env) (R : Room) (s : State) (m : MethodId) (args : Array Value) (below : List Frame) (meth : Method) (c : Code) (A : Nat → Prop) (ls : Array Slot) (stk : List Value) (cw : va_W) (H : Heap) (locs : List Loc) (cells slots : Nat) (Q : State → Prop),
    mz_cx E G M p R s m args meth c A → mz_rl G M s A st ls stk cw H locs →
    cells + (st1.2.2.length - st.2.2.length) ≤ R.cells → slots + (mz_sl st1.2.2 - mz_sl st.2.2) ≤ R.slots →
    (∀ (ls' : Array Slot) (stk' : List Value) (cw' : va_W) (H' : Heap) (locs' : List Loc), mz_rl G M s A st1 ls' stk' cw' H' locs' → W p l e R s m args below meth c H' locs' (cells + (st1.2.2.length - st.2.2.length)) (slots + (mz_sl st1.2.2 - mz_sl st.2.2)) Q (F0 m z ls' stk')) →
    W p l e R s m args below meth c H locs cells slots Q (F0 m pc ls stk) := by
  intro n
  induction n with
  | zero => intro pc st st1 h; cases h
  | succ n ih =>
    intro pc st st1 h G p l e R s m args below meth c A ls stk cw H locs cells slots Q hc hr h1 h2 kk
    have h : (bif Nat.beq pc z then some st else match mz_look t pc with
      | none => none
      | some (.inr _) => none
      | some (.inl f) => match f st with
        | none => none
        | some (pc', st') => mz_runT t z n pc' st') = some st1 := h
    cases hz : Nat.beq pc z with
    | true =>
      rw [hz] at h
      simp only [cond_true, Option.some.injEq] at h
      subst h
      have := Nat.eq_of_beq_eq_true hz
      subst this
      have k9 := kk ls stk cw H locs hr
      rw [Nat.sub_self, Nat.sub_self, Nat.add_zero, Nat.add_zero] at k9
      exact k9
    | false =>
      rw [hz] at h
      simp only [cond_false] at h
      cases hl : mz_look t pc with
      | none => rw [hl] at h; cases h
      | some o =>
        rw [hl] at h
        have ho := mz_look_ok t pc o ht hl
        cases o with
        | inr g => cases h
        | inl f =>
          have ho : mz_ok E M pc f := ho
          cases hf : f st with
          | none => simp only [hf] at h; cases h
          | some q =>
            obtain ⟨pc', st'⟩ := q
            simp only [hf] at h
            obtain ⟨⟨m1, m2⟩, ho⟩ := ho st pc' st' hf
            obtain ⟨k1, k2⟩ := mz_runT_mono ht z n pc' st' st1 h
            refine ho G p l e R s m args below meth c A ls stk cw H locs cells slots _ hc hr (by omega) (by omega) (fun ls' stk' cw' H' locs' hr' hp' => ?_)
            refine ih pc' st' st1 h G p l e R s m args below meth c A ls' stk' cw' H' locs' _ _ Q hc hr' (by omega) (by omega) (fun ls2 stk2 cw2 H2 locs2 hr2 => ?_)
            have e1 : cells + (st'.2.2.length - st.2.2.length) + (st1.2.2.length - st'.2.2.length) = cells + (st1.2.2.length - st.2.2.length) := by omega
            have e2 : slots + (mz_sl st'.2.2 - mz_sl st.2.2) + (mz_sl st1.2.2 - mz_sl st'.2.2) = slots + (mz_sl st1.2.2 - mz_sl st.2.2) := by omega
            rw [e1, e2]
            exact kk ls2 stk2 cw2 H2 locs2 hr2
/-! ===== a method's contract out of its code's run ===== -/
def mz_args : Nat → List mz_V → List (Nat × mz_V)
  | _, [] => []
  | i, a :: as => (i, a) :: mz_args (i + mz_cat a) as
noncomputable def mz_rn (t : List (Nat × List (Nat × mz_O))) (n nL : Nat) (as : List mz_V) (w : List mz_C) : Option (Option mz_V × List mz_C) :=
  bif Nat.ble (as.map mz_cat).sum nL then mz_run t n 0 (mz_args 0 as, [], w) else none
def mz_pre (E : List mz_V) (G : mz_E) (cw : va_W) (sz : Nat) (U : State) : Prop := U.heap.size = sz ∧ va_P G.2.1 mz_cl cw U.heap ∧ va_K G.2.1 mz_cl (mz_tys G) U ∧ va_D (fun _ => True) cw ∧ mz_ex E G (va_A cw sz) U U.heap ∧ mz_tb G U
abbrev mz_rm (F L mc ms : Nat) : Room := { frames := F, cells := mc, slots := ms, locals := L }
def mz_ctr (E : List mz_V) (y : MethodName) (M : mz_M) (rn : List mz_V → List mz_C → Option (Option mz_V × List mz_C)) : Prop :=
  ∀ (as : List mz_V) (w : List mz_C) (a : Option mz_V) (w' : List mz_C), rn as w = some (a, w') → (w.length ≤ w'.length ∧ mz_sl w ≤ mz_sl w') ∧
  ∀ (l : Launch) (G : mz_E) (cw : va_W) (av : List Value) (sz : Nat), mz_wd G w cw → mz_sk G.1 (cw.map Prod.fst) as av →
    Met l y (.code y M.1 M.2.1 M.2.2.1 :: mz_big) (mz_rm M.2.2.2.2.2.1 M.2.2.2.2.2.2 (w'.length - w.length) (mz_sl w' - mz_sl w)) (va_Pc av (mz_pre E G cw sz)) (mz_Q G cw sz a w') (w'.length - w.length) (mz_sl w' - mz_sl w) (va_A cw sz)
theorem mz_args_tr {X : Nat → Nat} {ρ : List Nat} : ∀ (as : List mz_V) (vs : List Value) (i : Nat), mz_sk X ρ as vs → ∃ tr : List (Nat × mz_V × Value), tr.map (fun t => (t.1, t.2.1)) = mz_args i as ∧ tr.map (fun t => (t.1, t.2.2)) = lv_args i vs ∧ ∀ t ∈ tr, mz_g X ρ t.2.1 t.2.2
  | [], _, i, h => by cases h; exact ⟨[], rfl, rfl, fun t h => by cases h⟩
  | a :: as, _, i, ⟨v, vs', h1, h2, h3⟩ => by
    cases h1
    obtain ⟨tr, e1, e2, e3⟩ := mz_args_tr as vs' (i + mz_cat a) h3
    refine ⟨(i, a, v) :: tr, ?_, ?_, ?_⟩
    · simp only [List.map_cons, e1, mz_args]
    · have hc : (if v.category = 2 then i + 2 else i + 1) = i + mz_cat a := by
        rw [← mz_cat_ok h2]
        rcases lv_cat v with h | h <;> simp [h]
      simp only [List.map_cons, lv_args, hc, e2]
    · intro t ht
      rcases List.mem_cons.mp ht with rfl | ht
      · exact h2
      · exact e3 t ht
theorem mz_sl_len : ∀ (vs : List Value), (lg_sl vs).length = (vs.map fun v => v.category).sum
  | [] => rfl
  | v :: vs => by
    have ih := mz_sl_len vs
    simp only [lg_sl, List.flatMap_cons, List.length_append, List.map_cons, List.sum_cons] at ih ⊢
    rw [ih]
    congr 1
    rcases lv_cat v with h | h <;> simp [h]
theorem mz_ctr_of {E : List mz_V} {y : MethodName} {M : mz_M} {t : List (Nat × List (Nat × mz_O))} (n : Nat) (ht : mz_tok E M t) (hy : plainName y.cls = true) (h4 : M.2.2.2.1 = y.cls) (h5 : M.2.2.2.2.1 = y.name) : mz_ctr E y M (mz_rn t n M.2.1) := by
  intro as w a w' h
  unfold mz_rn at h
  cases hb : Nat.ble (as.map mz_cat).sum M.2.1 with
  | false => rw [hb] at h; cases h
  | true =>
    rw [hb] at h
    simp only [cond_true] at h
    have hmono := mz_run_mono ht n 0 (mz_args 0 as, [], w) a w' h
    refine ⟨hmono, ?_⟩
    intro l G cw av sz hwd hsk
    refine Met.ofW (cc := M.1) (maxL := M.2.1) (ret := M.2.2.1) hy rfl ?_
    intro p e s m args below meth c s₁ B hml hv
    obtain ⟨rfl, hsz, hP, hK, hD0, hX, hT⟩ := hv
    have hts := atoms_spec (ws := .code y M.1 M.2.1 M.2.2.1 :: mz_big) B.pre
    subst hsz
    have hD := hD0.self (sz := s.heap.size)
    obtain ⟨tr, e1, e2, e3⟩ := mz_args_tr as av 0 hsk
    have hlen : (lg_sl av).length ≤ M.2.1 := by
      rw [mz_sl_len, mz_sk_cats as av hsk]
      exact Nat.le_of_ble_eq_true hb
    have hl := lv_entry av (n := M.2.1) hlen
    rw [lg_entry_eq]
    generalize (lg_sl av ++ List.replicate (M.2.1 - (lg_sl av).length) Slot.unset).toArray = ls at hl ⊢
    have hcx : mz_cx E G M p (mz_rm M.2.2.2.2.2.1 M.2.2.2.2.2.2 (w'.length - w.length) (mz_sl w' - mz_sl w)) s m av.toArray meth c (va_A cw s.heap.size) :=
      ⟨B.exec, B.bytes, hml, B.returns, by rw [h4]; exact findClass_of_methodNamed B.named, fun h9 => by rw [h5] at h9; exact (name_of_methodNamed B.named B.method).1.trans h9, rfl, rfl, B.notSynchronized, fun w' hw' => hts w' (List.mem_cons_of_mem _ hw'), hK, fun q hq => Or.inr hq, hX, hT⟩
    refine mz_run_ok ht n 0 (mz_args 0 as, [], w) a w' h G p l e _ s m av.toArray below meth c cw s.heap.size ls [] cw s.heap [] 0 0 hcx ⟨⟨tr, e1, ?_, e3⟩, rfl, hwd, hP, hD, va_S.rf⟩ (fun _ _ hk => hk) (Nat.zero_add _) (Nat.zero_add _)
    rw [e2]
    exact hl
end
section
/-! ===== the instructions, one by one ===== -/
theorem mz_ok_s {E : List mz_V} {M : mz_M} {pc : Nat} {f : mz_S → Option (Nat × mz_S)} (hf : ∀ (st : mz_S) (pc' : Nat) (st' : mz_S), f st = some (pc', st') → st'.2.2 = st.2.2)
    (h : ∀ (st : mz_S) (pc' : Nat) (st' : mz_S), f st = some (pc', st') → ∀ (G : mz_E) (p : Program) (l : Launch) (e : Env) (R : Room) (s : State) (m : MethodId) (args : Array Value) (below : List Frame) (meth : Method) (c : Code) (A : Nat → Prop) (ls : Array Slot) (stk : List Value) (cw : va_W) (H : Heap) (locs : List Loc) (cells slots : Nat) (Q : State → Prop),
      mz_cx E G M p R s m args meth c A → mz_rl G M s A st ls stk cw H locs →
      (∀ (ls' : Array Slot) (stk' : List Value), mz_lv G.1 (cw.map Prod.fst) M.2.1 st'.1 ls' → mz_sk G.1 (cw.map Prod.fst) st'.2.1 stk' → W p l e R s m args below meth c H locs cells slots Q (F0 m pc' ls' stk')) → W p l e R s m args below meth c H locs cells slots Q (F0 m pc ls stk)) : mz_ok E M pc f := by
  intro st pc' st' hst
  have hw := hf st pc' st' hst
  refine ⟨⟨by rw [hw]; exact Nat.le_refl _, by rw [hw]; exact Nat.le_refl _⟩, ?_⟩
  intro G p l e R s m args below meth c A ls stk cw H locs cells slots Q hc hr h1 h2 kk
  refine h st pc' st' hst G p l e R s m args below meth c A ls stk cw H locs cells slots Q hc hr (fun ls' stk' g1 g2 => ?_)
  have k := kk ls' stk' cw H locs ⟨g1, g2, by rw [hw]; exact hr.2.2.1, hr.2.2.2⟩ (fun _ _ h => h)
  simp only [hw, Nat.sub_self, Nat.add_zero] at k
  exact k
theorem mz_ok_w {E : List mz_V} {M : mz_M} {pc : Nat} {f : mz_S → Option (Nat × mz_S)} (hf : ∀ (st : mz_S) (pc' : Nat) (st' : mz_S), f st = some (pc', st') → st'.2.2.length = st.2.2.length ∧ mz_sl st'.2.2 = mz_sl st.2.2)
    (h : ∀ (st : mz_S) (pc' : Nat) (st' : mz_S), f st = some (pc', st') → ∀ (G : mz_E) (p : Program) (l : Launch) (e : Env) (R : Room) (s : State) (m : MethodId) (args : Array Value) (below : List Frame) (meth : Method) (c : Code) (A : Nat → Prop) (ls : Array Slot) (stk : List Value) (cw : va_W) (H : Heap) (locs : List Loc) (cells slots : Nat) (Q : State → Prop),
      mz_cx E G M p R s m args meth c A → mz_rl G M s A st ls stk cw H locs →
      (∀ (stk' : List Value) (cw' : va_W) (H' : Heap) (locs' : List Loc), mz_rl G M s A st' ls stk' cw' H' locs' → (∀ (k q : Nat), (cw.map Prod.fst)[k]? = some q → (cw'.map Prod.fst)[k]? = some q) → W p l e R s m args below meth c H' locs' cells slots Q (F0 m pc' ls stk')) → W p l e R s m args below meth c H locs cells slots Q (F0 m pc ls stk)) : mz_ok E M pc f := by
  intro st pc' st' hst
  obtain ⟨w1, w2⟩ := hf st pc' st' hst
  refine ⟨⟨by rw [w1]; exact Nat.le_refl _, by rw [w2]; exact Nat.le_refl _⟩, ?_⟩
  intro G p l e R s m args below meth c A ls stk cw H locs cells slots Q hc hr h1 h2 kk
  refine h st pc' st' hst G p l e R s m args below meth c A ls stk cw H locs cells slots Q hc hr (fun stk' cw' H' locs' g1 g2 => ?_)
  have k := kk ls stk' cw' H' locs' g1 g2
  simp only [w1, w2, Nat.sub_self, Nat.add_zero] at k
  exact k
theorem mz_put_tr {X : Nat → Nat} {ρ : List Nat} {nL i : Nat} {a : mz_V} {v : Value} (tr : List (Nat × mz_V × Value)) (h3 : ∀ t ∈ tr, mz_g X ρ t.2.1 t.2.2) (hg : mz_g X ρ a v) (ls' : Array Slot) (h' : lv_has ls' nL ((i, v) :: (tr.map (fun t => (t.1, t.2.2))).filter (fun q => !(q.1 == i) && !(q.1 + 1 == i && q.2.category == 2)))) : mz_lv X ρ nL ((i, a) :: (tr.map (fun t => (t.1, t.2.1))).filter (mz_p1 i)) ls' := by
  obtain ⟨tr', e1, e2, e3⟩ := mz_filter (mz_p1 i) (fun q => !(q.1 == i) && !(q.1 + 1 == i && q.2.category == 2)) tr (fun t ht => by simp only [mz_p1, mz_cat_ok (h3 t ht)]) h3
  refine ⟨(i, a, v) :: tr', ?_, ?_, ?_⟩
  · simp only [List.map_cons, e1]
  · simp only [List.map_cons, e2]
    exact h'
  · intro t ht
    rcases List.mem_cons.mp ht with rfl | ht
    · exact hg
    · exact e3 t ht
section MZ1
variable {E : List mz_V} {M : mz_M} {pc : Nat}
def mz_push (a : mz_V) (n : Nat) : mz_S → Option (Nat × mz_S) := fun st => some (n, st.1, a :: st.2.1, st.2.2)
theorem mz_ok_push {a : mz_V} {n : Nat} (v : mz_E → Value) (hg : ∀ (G : mz_E) (ρ : List Nat), mz_g G.1 ρ a (v G)) (row : ∀ (G : mz_E) (p : Program) (l : Launch) (e : Env) (R : Room) (s : State) (m : MethodId) (args : Array Value) (below : List Frame) (meth : Method) (c : Code) (A : Nat → Prop) (ls : Array Slot) (rest : List Value) (H : Heap) (locs : List Loc) (cells slots : Nat) (Q : State → Prop), mz_cx E G M p R s m args meth c A → va_S A s.heap H locs → W p l e R s m args below meth c H locs cells slots Q (F0 m n ls (v G :: rest)) → W p l e R s m args below meth c H locs cells slots Q (F0 m pc ls rest)) : mz_ok E M pc (mz_push a n) := by
  refine mz_ok_s (fun st pc' st' h => by cases h; rfl) ?_
  intro st pc' st' h G p l e R s m args below meth c A ls stk cw H locs cells slots Q hc hr kk
  cases h
  exact row G p l e R s m args below meth c A ls stk H locs cells slots Q hc hr.2.2.2.2.2 (kk ls _ hr.1 ⟨v G, stk, rfl, hg G _, hr.2.1⟩)
theorem mz_iconst {n : Int} (x : Int32) (hx : Int32.ofInt n = x) (hd : decode M.1 pc = .ok (.iconst n, 1)) : mz_ok E M pc (mz_push (.inl x) (pc + 1)) :=
  mz_ok_push (fun _ => .int x) (fun _ _ => rfl) (by intro G p l e R s m args below meth c A ls rest H locs cells slots Q hc hS k; exact lv_iconst hc.1 hc.2.1 hd hx k)
theorem mz_bipush {n : Int} (x : Int32) (hx : (Int8.ofInt n).toInt32 = x) (hd : decode M.1 pc = .ok (.bipush n, 2)) : mz_ok E M pc (mz_push (.inl x) (pc + 2)) :=
  mz_ok_push (fun _ => .int x) (fun _ _ => rfl) (by intro G p l e R s m args below meth c A ls rest H locs cells slots Q hc hS k; exact lv_bipush hc.1 hc.2.1 hd hx k)
theorem mz_sipush {n : Int} (x : Int32) (hx : (Int16.ofInt n).toInt32 = x) (hd : decode M.1 pc = .ok (.sipush n, 3)) : mz_ok E M pc (mz_push (.inl x) (pc + 3)) :=
  mz_ok_push (fun _ => .int x) (fun _ _ => rfl) (by intro G p l e R s m args below meth c A ls rest H locs cells slots Q hc hS k; exact lv_sipush hc.1 hc.2.1 hd hx k)
theorem mz_lconst {n : Fin 2} (x : Int64) (hx : Int64.ofNat (n : Nat) = x) (hd : decode M.1 pc = .ok (.lconst n, 1)) : mz_ok E M pc (mz_push (.inr (.inl x)) (pc + 1)) :=
  mz_ok_push (fun _ => .long x) (fun _ _ => rfl) (by intro G p l e R s m args below meth c A ls rest H locs cells slots Q hc hS k; exact lv_lconst hc.1 hc.2.1 hd hx k)
theorem mz_ldc {i : Nat} {x : Int32} (hw : Cond.constant M.2.2.2.1 i x ∈ mz_big) (hd : decode M.1 pc = .ok (.ldc i, 2)) : mz_ok E M pc (mz_push (.inl x) (pc + 2)) :=
  mz_ok_push (fun _ => .int x) (fun _ _ => rfl) (by intro G p l e R s m args below meth c A ls rest H locs cells slots Q hc hS k; exact lv_ldc hc.1 hc.2.1 hc.2.2.2.2.1 (hc.2.2.2.2.2.2.2.2.2.1 _ hw) hd k)
theorem mz_ldcw {i : Nat} {x : Int32} (hw : Cond.constant M.2.2.2.1 i x ∈ mz_big) (hd : decode M.1 pc = .ok (.ldc_w i, 3)) : mz_ok E M pc (mz_push (.inl x) (pc + 3)) :=
  mz_ok_push (fun _ => .int x) (fun _ _ => rfl) (by intro G p l e R s m args below meth c A ls rest H locs cells slots Q hc hS k; exact lv_ldcw hc.1 hc.2.1 hc.2.2.2.2.1 (hc.2.2.2.2.2.2.2.2.2.1 _ hw) hd k)
theorem mz_ldc2 {i : Nat} {x : Int64} (hw : Cond.constantLong M.2.2.2.1 i x ∈ mz_big) (hd : decode M.1 pc = .ok (.ldc2_w i, 3)) : mz_ok E M pc (mz_push (.inr (.inl x)) (pc + 3)) :=
  mz_ok_push (fun _ => .long x) (fun _ _ => rfl) (by intro G p l e R s m args below meth c A ls rest H locs cells slots Q hc hS k; exact lv_ldc2 hc.1 hc.2.1 hc.2.2.2.2.1 (hc.2.2.2.2.2.2.2.2.2.1 _ hw) hd k)
theorem mz_anull (hd : decode M.1 pc = .ok (.aconst_null, 1)) : mz_ok E M pc (mz_push (.inr (.inr (.inl none))) (pc + 1)) :=
  mz_ok_push (fun _ => .null) (fun _ _ => rfl) (by intro G p l e R s m args below meth c A ls rest H locs cells slots Q hc hS k; exact lv_null hc.1 hc.2.1 hd k)
theorem mz_ldcS {k : Nat} {q : String × Nat × String} (hq : mz_str[k]? = some q) (ho : q.1 = M.2.2.2.1) (hd : decode M.1 pc = .ok (.ldc q.2.1, 2)) : mz_ok E M pc (mz_push (.inr (.inr (.inr (.inr (.inr (.inr (k + 2))))))) (pc + 2)) :=
  mz_ok_push (fun G => .ref (G.1 (k + 2))) (fun _ _ => rfl) (by intro G p l e R s m args below meth c A ls rest H locs cells slots Q hc hS kk; exact va_ldcS hc.1 hc.2.1 (own := q.1) (by rw [ho]; exact hc.2.2.2.2.1) (hc.2.2.2.2.2.2.2.2.2.2.2.2.2.2.2 k q hq) hd kk)
theorem mz_gsThr {i : Nat} (hw : Cond.fieldLink M.2.2.2.1 i "WettedNet$Fires" "THREES" "[I" ∈ mz_big) (hd : decode M.1 pc = .ok (.getstatic i, 3)) : mz_ok E M pc (mz_push (.inr (.inr (.inr (.inr (.inr (.inr 1)))))) (pc + 3)) :=
  mz_ok_push (fun G => .ref (G.1 1)) (fun _ _ => rfl) (by intro G p l e R s m args below meth c A ls rest H locs cells slots Q hc hS kk; exact va_gets hc.1 hc.2.1 hc.2.2.2.2.2.2.2.2.2.2.2.2.1.2.1 hS hc.2.2.2.2.1 (hc.2.2.2.2.2.2.2.2.2.1 _ hw) (fun _ h9 => h9) hd kk)
theorem mz_gsCom {i : Nat} (hw : Cond.fieldLink M.2.2.2.1 i "java/lang/String" "COMPACT_STRINGS" "Z" ∈ mz_big) (hd : decode M.1 pc = .ok (.getstatic i, 3)) : mz_ok E M pc (mz_push (.inl 1) (pc + 3)) :=
  mz_ok_push (fun G => .int 1) (fun _ _ => rfl) (by intro G p l e R s m args below meth c A ls rest H locs cells slots Q hc hS kk; exact va_gets hc.1 hc.2.1 hc.2.2.2.2.2.2.2.2.2.2.2.2.1.2.2.2.1 hS hc.2.2.2.2.1 (hc.2.2.2.2.2.2.2.2.2.1 _ hw) (fun _ h9 => h9) hd kk)
/-! loads and stores -/
def mz_ld (t : mz_V → Bool) (i n : Nat) : mz_S → Option (Nat × mz_S) := fun st => match mz_lk st.1 i with
  | none => none
  | some a => bif t a then some (n, st.1, a :: st.2.1, st.2.2) else none
theorem mz_ok_ld {t : mz_V → Bool} {i n : Nat} (row : ∀ (G : mz_E) (ρ : List Nat) (a : mz_V) (v : Value) (p : Program) (l : Launch) (e : Env) (R : Room) (s : State) (m : MethodId) (args : Array Value) (below : List Frame) (meth : Method) (c : Code) (A : Nat → Prop) (ls : Array Slot) (rest : List Value) (H : Heap) (locs : List Loc) (cells slots : Nat) (Q : State → Prop), mz_cx E G M p R s m args meth c A → t a = true → mz_g G.1 ρ a v → ls[i]? = some (.val v) → W p l e R s m args below meth c H locs cells slots Q (F0 m n ls (v :: rest)) → W p l e R s m args below meth c H locs cells slots Q (F0 m pc ls rest)) : mz_ok E M pc (mz_ld t i n) := by
  have inv : ∀ (st : mz_S) (pc' : Nat) (st' : mz_S), mz_ld t i n st = some (pc', st') → ∃ a, mz_lk st.1 i = some a ∧ t a = true ∧ pc' = n ∧ st' = (st.1, a :: st.2.1, st.2.2) := by
    intro st pc' st' h
    unfold mz_ld at h
    cases hl : mz_lk st.1 i with
    | none => rw [hl] at h; cases h
    | some a =>
      rw [hl] at h
      cases ht : t a with
      | false => simp only [ht] at h; cases h
      | true =>
        simp only [ht, cond_true] at h
        cases h
        exact ⟨a, rfl, ht, rfl, rfl⟩
  refine mz_ok_s (fun st pc' st' h => by obtain ⟨a, -, -, -, rfl⟩ := inv st pc' st' h; rfl) ?_
  intro st pc' st' h G p l e R s m args below meth c A ls stk cw H locs cells slots Q hc hr kk
  obtain ⟨a, h1, h2, rfl, rfl⟩ := inv st pc' st' h
  obtain ⟨v, hv, hg⟩ := mz_lv_at hr.1 h1
  exact row G _ a v p l e R s m args below meth c A ls stk H locs cells slots Q hc h2 hg hv (kk ls _ hr.1 ⟨v, stk, rfl, hg, hr.2.1⟩)
theorem mz_iload {i : Nat} (hd : decode M.1 pc = .ok (.iload i, 2)) : mz_ok E M pc (mz_ld mz_isI i (pc + 2)) :=
  mz_ok_ld (by intro G ρ a v p l e R s m args below meth c A ls rest H locs cells slots Q hc ht hg hv k; obtain ⟨x, rfl⟩ := mz_isI_ok hg ht; exact lv_iload hc.1 hc.2.1 hd hv k)
theorem mz_iload_n {k : Fin 4} (hd : decode M.1 pc = .ok (.iload_n k, 1)) : mz_ok E M pc (mz_ld mz_isI k (pc + 1)) :=
  mz_ok_ld (by intro G ρ a v p l e R s m args below meth c A ls rest H locs cells slots Q hc ht hg hv kk; obtain ⟨x, rfl⟩ := mz_isI_ok hg ht; exact lv_iload_n hc.1 hc.2.1 hd rfl hv kk)
theorem mz_lload {i : Nat} (hd : decode M.1 pc = .ok (.lload i, 2)) : mz_ok E M pc (mz_ld mz_isL i (pc + 2)) :=
  mz_ok_ld (by intro G ρ a v p l e R s m args below meth c A ls rest H locs cells slots Q hc ht hg hv k; obtain ⟨x, rfl⟩ := mz_isL_ok hg ht; exact lv_lload hc.1 hc.2.1 hd hv k)
theorem mz_lload_n {k : Fin 4} (hd : decode M.1 pc = .ok (.lload_n k, 1)) : mz_ok E M pc (mz_ld mz_isL k (pc + 1)) :=
  mz_ok_ld (by intro G ρ a v p l e R s m args below meth c A ls rest H locs cells slots Q hc ht hg hv kk; obtain ⟨x, rfl⟩ := mz_isL_ok hg ht; exact lv_lload_n hc.1 hc.2.1 hd rfl hv kk)
theorem mz_aload {i : Nat} (hd : decode M.1 pc = .ok (.aload i, 2)) : mz_ok E M pc (mz_ld mz_isR i (pc + 2)) :=
  mz_ok_ld (by intro G ρ a v p l e R s m args below meth c A ls rest H locs cells slots Q hc ht hg hv k; obtain ⟨x, rfl⟩ := mz_isR_ok hg ht; exact lv_aload hc.1 hc.2.1 hd hv k)
theorem mz_aload_n {k : Fin 4} (hd : decode M.1 pc = .ok (.aload_n k, 1)) : mz_ok E M pc (mz_ld mz_isR k (pc + 1)) :=
  mz_ok_ld (by intro G ρ a v p l e R s m args below meth c A ls rest H locs cells slots Q hc ht hg hv kk; obtain ⟨x, rfl⟩ := mz_isR_ok hg ht; exact lv_aload_n hc.1 hc.2.1 hd rfl hv kk)
def mz_sto (t : mz_V → Bool) (f : Nat → Nat × mz_V → Bool) (i n : Nat) : mz_S → Option (Nat × mz_S) := fun st => match st.2.1 with
  | [] => none
  | a :: r => bif t a then some (n, (i, a) :: st.1.filter (f i), r, st.2.2) else none
theorem mz_sto_inv {t : mz_V → Bool} {f : Nat → Nat × mz_V → Bool} {i n : Nat} (st : mz_S) (pc' : Nat) (st' : mz_S) (h : mz_sto t f i n st = some (pc', st')) : ∃ a r, st.2.1 = a :: r ∧ t a = true ∧ pc' = n ∧ st' = ((i, a) :: st.1.filter (f i), r, st.2.2) := by
  obtain ⟨l1, s1, w⟩ := st
  cases s1 with
  | nil => cases h
  | cons a r =>
    unfold mz_sto at h
    cases ht : t a with
    | false => simp only [ht] at h; cases h
    | true =>
      simp only [ht, cond_true] at h
      cases h
      exact ⟨a, r, rfl, ht, rfl, rfl⟩
theorem mz_ok_sto1 {t : mz_V → Bool} {i n : Nat} (row : ∀ (G : mz_E) (ρ : List Nat) (a : mz_V) (v : Value) (p : Program) (l : Launch) (e : Env) (R : Room) (s : State) (m : MethodId) (args : Array Value) (below : List Frame) (meth : Method) (c : Code) (A : Nat → Prop) (ls : Array Slot) (lv : List (Nat × Value)) (rest : List Value) (H : Heap) (locs : List Loc) (cells slots : Nat) (Q : State → Prop), mz_cx E G M p R s m args meth c A → t a = true → mz_g G.1 ρ a v → lv_has ls M.2.1 lv → (∀ ls' : Array Slot, lv_has ls' M.2.1 ((i, v) :: lv.filter (fun q => !(q.1 == i) && !(q.1 + 1 == i && q.2.category == 2))) → W p l e R s m args below meth c H locs cells slots Q (F0 m n ls' rest)) → W p l e R s m args below meth c H locs cells slots Q (F0 m pc ls (v :: rest))) : mz_ok E M pc (mz_sto t mz_p1 i n) := by
  refine mz_ok_s (fun st pc' st' h => by obtain ⟨a, r, -, -, -, rfl⟩ := mz_sto_inv st pc' st' h; rfl) ?_
  intro st pc' st' h G p l e R s m args below meth c A ls stk cw H locs cells slots Q hc hr kk
  obtain ⟨a, r, h1, h2, rfl, rfl⟩ := mz_sto_inv st pc' st' h
  have hs := hr.2.1
  rw [h1] at hs
  obtain ⟨v, vs, rfl, hg, hs⟩ := hs
  obtain ⟨lv, hl, hl'⟩ := mz_lv_put1 (i := i) hr.1 hg
  exact row G _ a v p l e R s m args below meth c A ls lv vs H locs cells slots Q hc h2 hg hl (fun ls' h' => kk ls' vs (hl' ls' h') hs)
theorem mz_ok_sto2 {t : mz_V → Bool} {i n : Nat} (row : ∀ (G : mz_E) (ρ : List Nat) (a : mz_V) (v : Value) (p : Program) (l : Launch) (e : Env) (R : Room) (s : State) (m : MethodId) (args : Array Value) (below : List Frame) (meth : Method) (c : Code) (A : Nat → Prop) (ls : Array Slot) (lv : List (Nat × Value)) (rest : List Value) (H : Heap) (locs : List Loc) (cells slots : Nat) (Q : State → Prop), mz_cx E G M p R s m args meth c A → t a = true → mz_g G.1 ρ a v → lv_has ls M.2.1 lv → (∀ ls' : Array Slot, lv_has ls' M.2.1 ((i, v) :: lv.filter (fun q => !(q.1 == i) && (!(q.1 == i + 1) && !(q.1 + 1 == i && q.2.category == 2)))) → W p l e R s m args below meth c H locs cells slots Q (F0 m n ls' rest)) → W p l e R s m args below meth c H locs cells slots Q (F0 m pc ls (v :: rest))) : mz_ok E M pc (mz_sto t mz_p2 i n) := by
  refine mz_ok_s (fun st pc' st' h => by obtain ⟨a, r, -, -, -, rfl⟩ := mz_sto_inv st pc' st' h; rfl) ?_
  intro st pc' st' h G p l e R s m args below meth c A ls stk cw H locs cells slots Q hc hr kk
  obtain ⟨a, r, h1, h2, rfl, rfl⟩ := mz_sto_inv st pc' st' h
  have hs := hr.2.1
  rw [h1] at hs
  obtain ⟨v, vs, rfl, hg, hs⟩ := hs
  obtain ⟨lv, hl, hl'⟩ := mz_lv_put2 (i := i) hr.1 hg
  exact row G _ a v p l e R s m args below meth c A ls lv vs H locs cells slots Q hc h2 hg hl (fun ls' h' => kk ls' vs (hl' ls' h') hs)
theorem mz_istore {i : Nat} (hn : i < M.2.1) (hd : decode M.1 pc = .ok (.istore i, 2)) : mz_ok E M pc (mz_sto mz_isI mz_p1 i (pc + 2)) :=
  mz_ok_sto1 (by intro G ρ a v p l e R s m args below meth c A ls lv rest H locs cells slots Q hc ht hg hl k; obtain ⟨x, rfl⟩ := mz_isI_ok hg ht; exact lv_istore hc.1 hc.2.1 hd hl hn rfl k)
theorem mz_istore_n {k : Fin 4} (hn : (k : Nat) < M.2.1) (hd : decode M.1 pc = .ok (.istore_n k, 1)) : mz_ok E M pc (mz_sto mz_isI mz_p1 k (pc + 1)) :=
  mz_ok_sto1 (by intro G ρ a v p l e R s m args below meth c A ls lv rest H locs cells slots Q hc ht hg hl kk; obtain ⟨x, rfl⟩ := mz_isI_ok hg ht; exact lv_istore_n hc.1 hc.2.1 hd rfl hl hn rfl kk)
theorem mz_astore {i : Nat} (hn : i < M.2.1) (hd : decode M.1 pc = .ok (.astore i, 2)) : mz_ok E M pc (mz_sto mz_isR mz_p1 i (pc + 2)) :=
  mz_ok_sto1 (by intro G ρ a v p l e R s m args below meth c A ls lv rest H locs cells slots Q hc ht hg hl k; obtain ⟨x, rfl⟩ := mz_isR_ok hg ht; exact lv_astore hc.1 hc.2.1 hd hl hn rfl k)
theorem mz_astore_n {k : Fin 4} (hn : (k : Nat) < M.2.1) (hd : decode M.1 pc = .ok (.astore_n k, 1)) : mz_ok E M pc (mz_sto mz_isR mz_p1 k (pc + 1)) :=
  mz_ok_sto1 (by intro G ρ a v p l e R s m args below meth c A ls lv rest H locs cells slots Q hc ht hg hl kk; obtain ⟨x, rfl⟩ := mz_isR_ok hg ht; exact lv_astore_n hc.1 hc.2.1 hd rfl hl hn rfl kk)
theorem mz_lstore {i : Nat} (hn : i + 1 < M.2.1) (hd : decode M.1 pc = .ok (.lstore i, 2)) : mz_ok E M pc (mz_sto mz_isL mz_p2 i (pc + 2)) :=
  mz_ok_sto2 (by intro G ρ a v p l e R s m args below meth c A ls lv rest H locs cells slots Q hc ht hg hl k; obtain ⟨x, rfl⟩ := mz_isL_ok hg ht; exact lv_lstore hc.1 hc.2.1 hd hl hn rfl k)
theorem mz_lstore_n {k : Fin 4} (hn : (k : Nat) + 1 < M.2.1) (hd : decode M.1 pc = .ok (.lstore_n k, 1)) : mz_ok E M pc (mz_sto mz_isL mz_p2 k (pc + 1)) :=
  mz_ok_sto2 (by intro G ρ a v p l e R s m args below meth c A ls lv rest H locs cells slots Q hc ht hg hl kk; obtain ⟨x, rfl⟩ := mz_isL_ok hg ht; exact lv_lstore_n hc.1 hc.2.1 hd rfl hl hn rfl kk)
def mz_inc (i : Nat) (k : Int32) (n : Nat) : mz_S → Option (Nat × mz_S) := fun st => match mz_lk st.1 i with
  | some (.inl x) => mz_fi (x + k) (fun z => some (n, (i, .inl z) :: st.1.filter (mz_p1 i), st.2.1, st.2.2))
  | _ => none
theorem mz_iinc {i : Nat} {z : Int} (k : Int32) (hk : Int32.ofInt z = k) (hn : i < M.2.1) (hd : decode M.1 pc = .ok (.iinc i z, 3)) : mz_ok E M pc (mz_inc i k (pc + 3)) := by
  have inv : ∀ (st : mz_S) (pc' : Nat) (st' : mz_S), mz_inc i k (pc + 3) st = some (pc', st') → ∃ x, mz_lk st.1 i = some (.inl x) ∧ pc' = pc + 3 ∧ st' = ((i, .inl (x + k)) :: st.1.filter (mz_p1 i), st.2.1, st.2.2) := by
    intro st pc' st' h
    unfold mz_inc at h
    split at h
    next x hx =>
      rw [mz_fi_eq] at h
      cases h
      exact ⟨x, hx, rfl, rfl⟩
    next => cases h
  refine mz_ok_s (fun st pc' st' h => by obtain ⟨x, -, -, rfl⟩ := inv st pc' st' h; rfl) ?_
  intro st pc' st' h G p l e R s m args below meth c A ls stk cw H locs cells slots Q hc hr kk
  obtain ⟨x, h1, rfl, rfl⟩ := inv st pc' st' h
  obtain ⟨v, hv, hg⟩ := mz_lv_at hr.1 h1
  have hg : v = .int x := hg
  subst hg
  obtain ⟨tr, t1, t2, t3⟩ := id hr.1
  have hm := mz_lk_mem st.1 i (.inl x) h1
  rw [← t1] at hm
  obtain ⟨t, ht, he⟩ := List.mem_map.mp hm
  have e1 : t.1 = i := congrArg Prod.fst he
  have e2 : t.2.1 = .inl x := congrArg Prod.snd he
  have hgt := t3 t ht
  rw [e2] at hgt
  have hgt : t.2.2 = .int x := hgt
  have ht2 : (i, Value.int x) ∈ tr.map (fun t => (t.1, t.2.2)) := List.mem_map.mpr ⟨t, ht, by rw [e1, hgt]⟩
  obtain ⟨j, hj⟩ := List.getElem?_of_mem ht2
  refine lv_iinc hc.1 hc.2.1 hd t2 hj (by rw [hk]) hn rfl (fun ls' h' => kk ls' stk ?_ hr.2.1)
  have h9 := mz_put_tr (i := i) (a := .inl (x + k)) (v := .int (x + k)) tr t3 rfl ls' h'
  rw [t1] at h9
  exact h9
/-! the stack -/
def mz_o1 (h : mz_V → Option mz_V) (n : Nat) : mz_S → Option (Nat × mz_S) := fun st => match st.2.1 with
  | [] => none
  | x :: r => match h x with
    | none => none
    | some a => some (n, st.1, a :: r, st.2.2)
def mz_o2 (h : mz_V → mz_V → Option mz_V) (n : Nat) : mz_S → Option (Nat × mz_S) := fun st => match st.2.1 with
  | y :: x :: r => match h x y with
    | none => none
    | some a => some (n, st.1, a :: r, st.2.2)
  | _ => none
theorem mz_ok_o1 {h : mz_V → Option mz_V} {n : Nat} (row : ∀ (G : mz_E) (ρ : List Nat) (x a : mz_V) (vx : Value), h x = some a → mz_g G.1 ρ x vx → ∃ v, mz_g G.1 ρ a v ∧ ∀ (p : Program) (l : Launch) (e : Env) (R : Room) (s : State) (m : MethodId) (args : Array Value) (below : List Frame) (meth : Method) (c : Code) (A : Nat → Prop) (ls : Array Slot) (rest : List Value) (H : Heap) (locs : List Loc) (cells slots : Nat) (Q : State → Prop), mz_cx E G M p R s m args meth c A → W p l e R s m args below meth c H locs cells slots Q (F0 m n ls (v :: rest)) → W p l e R s m args below meth c H locs cells slots Q (F0 m pc ls (vx :: rest))) : mz_ok E M pc (mz_o1 h n) := by
  have inv : ∀ (st : mz_S) (pc' : Nat) (st' : mz_S), mz_o1 h n st = some (pc', st') → ∃ x r a, st.2.1 = x :: r ∧ h x = some a ∧ pc' = n ∧ st' = (st.1, a :: r, st.2.2) := by
    intro st pc' st' h9
    obtain ⟨l1, s1, w⟩ := st
    rcases s1 with _ | ⟨x, r⟩
    · cases h9
    · unfold mz_o1 at h9
      simp only at h9
      cases hx : h x with
      | none => rw [hx] at h9; cases h9
      | some a => rw [hx] at h9; cases h9; exact ⟨x, r, a, rfl, hx, rfl, rfl⟩
  refine mz_ok_s (fun st pc' st' h9 => by obtain ⟨x, r, a, -, -, -, rfl⟩ := inv st pc' st' h9; rfl) ?_
  intro st pc' st' h9 G p l e R s m args below meth c A ls stk cw H locs cells slots Q hc hr kk
  obtain ⟨x, r, a, h1, h2, rfl, rfl⟩ := inv st pc' st' h9
  have hs := hr.2.1
  rw [h1] at hs
  obtain ⟨vx, vs, rfl, gx, hs⟩ := hs
  obtain ⟨v, hv, rw0⟩ := row G _ x a vx h2 gx
  exact rw0 p l e R s m args below meth c A ls vs H locs cells slots Q hc (kk ls _ hr.1 ⟨v, vs, rfl, hv, hs⟩)
theorem mz_ok_o2 {h : mz_V → mz_V → Option mz_V} {n : Nat} (row : ∀ (G : mz_E) (ρ : List Nat) (x y a : mz_V) (vx vy : Value), h x y = some a → mz_g G.1 ρ x vx → mz_g G.1 ρ y vy → ∃ v, mz_g G.1 ρ a v ∧ ∀ (p : Program) (l : Launch) (e : Env) (R : Room) (s : State) (m : MethodId) (args : Array Value) (below : List Frame) (meth : Method) (c : Code) (A : Nat → Prop) (ls : Array Slot) (rest : List Value) (H : Heap) (locs : List Loc) (cells slots : Nat) (Q : State → Prop), mz_cx E G M p R s m args meth c A → W p l e R s m args below meth c H locs cells slots Q (F0 m n ls (v :: rest)) → W p l e R s m args below meth c H locs cells slots Q (F0 m pc ls (vy :: vx :: rest))) : mz_ok E M pc (mz_o2 h n) := by
  have inv : ∀ (st : mz_S) (pc' : Nat) (st' : mz_S), mz_o2 h n st = some (pc', st') → ∃ x y r a, st.2.1 = y :: x :: r ∧ h x y = some a ∧ pc' = n ∧ st' = (st.1, a :: r, st.2.2) := by
    intro st pc' st' h9
    obtain ⟨l1, s1, w⟩ := st
    rcases s1 with _ | ⟨y, _ | ⟨x, r⟩⟩
    · cases h9
    · cases h9
    · unfold mz_o2 at h9
      simp only at h9
      cases hx : h x y with
      | none => rw [hx] at h9; cases h9
      | some a => rw [hx] at h9; cases h9; exact ⟨x, y, r, a, rfl, hx, rfl, rfl⟩
  refine mz_ok_s (fun st pc' st' h9 => by obtain ⟨x, y, r, a, -, -, -, rfl⟩ := inv st pc' st' h9; rfl) ?_
  intro st pc' st' h9 G p l e R s m args below meth c A ls stk cw H locs cells slots Q hc hr kk
  obtain ⟨x, y, r, a, h1, h2, rfl, rfl⟩ := inv st pc' st' h9
  have hs := hr.2.1
  rw [h1] at hs
  obtain ⟨vy, _, rfl, gy, vx, vs, rfl, gx, hs⟩ := hs
  obtain ⟨v, hv, rw0⟩ := row G _ x y a vx vy h2 gx gy
  exact rw0 p l e R s m args below meth c A ls vs H locs cells slots Q hc (kk ls _ hr.1 ⟨v, vs, rfl, hv, hs⟩)
def mz_ib (g : Int32 → Int32 → Int32) (x y : mz_V) : Option mz_V := match x, y with
  | .inl a, .inl b => mz_fi (g a b) (fun z => some (.inl z))
  | x, y => bif mz_isI x && mz_isI y then some mz_anyI else none
theorem mz_ib_ok {G : mz_E} {ρ : List Nat} {g : Int32 → Int32 → Int32} {x y a : mz_V} {vx vy : Value} (h : mz_ib g x y = some a) (gx : mz_g G.1 ρ x vx) (gy : mz_g G.1 ρ y vy) : ∃ b d : Int32, vx = .int b ∧ vy = .int d ∧ mz_g G.1 ρ a (.int (g b d)) := by
  unfold mz_ib at h
  split at h
  next a1 b1 =>
    rw [mz_fi_eq] at h
    cases h
    exact ⟨a1, b1, gx, gy, rfl⟩
  next =>
    cases hb : (mz_isI x && mz_isI y) with
    | false => simp only [hb] at h; cases h
    | true =>
      simp only [hb, cond_true] at h
      cases h
      rw [Bool.and_eq_true] at hb
      obtain ⟨b, rfl⟩ := mz_isI_ok gx hb.1
      obtain ⟨d, rfl⟩ := mz_isI_ok gy hb.2
      exact ⟨b, d, rfl, rfl, mz_anyI_ok _⟩
def mz_lb (g : Int64 → Int64 → Int64) (x y : mz_V) : Option mz_V := match x, y with
  | .inr (.inl a), .inr (.inl b) => mz_fl (g a b) (fun z => some (.inr (.inl z)))
  | x, y => bif mz_isL x && mz_isL y then some mz_anyL else none
theorem mz_lb_ok {G : mz_E} {ρ : List Nat} {g : Int64 → Int64 → Int64} {x y a : mz_V} {vx vy : Value} (h : mz_lb g x y = some a) (gx : mz_g G.1 ρ x vx) (gy : mz_g G.1 ρ y vy) : ∃ b d : Int64, vx = .long b ∧ vy = .long d ∧ mz_g G.1 ρ a (.long (g b d)) := by
  unfold mz_lb at h
  split at h
  next a1 b1 =>
    rw [mz_fl_eq] at h
    cases h
    exact ⟨a1, b1, gx, gy, rfl⟩
  next =>
    cases hb : (mz_isL x && mz_isL y) with
    | false => simp only [hb] at h; cases h
    | true =>
      simp only [hb, cond_true] at h
      cases h
      rw [Bool.and_eq_true] at hb
      obtain ⟨b, rfl⟩ := mz_isL_ok gx hb.1
      obtain ⟨d, rfl⟩ := mz_isL_ok gy hb.2
      exact ⟨b, d, rfl, rfl, mz_anyL_ok _⟩
def mz_ls (g : Int64 → Int32 → Int64) (x y : mz_V) : Option mz_V := match x, y with
  | .inr (.inl a), .inl b => mz_fl (g a b) (fun z => some (.inr (.inl z)))
  | x, y => bif mz_isL x && mz_isI y then some mz_anyL else none
theorem mz_ls_ok {G : mz_E} {ρ : List Nat} {g : Int64 → Int32 → Int64} {x y a : mz_V} {vx vy : Value} (h : mz_ls g x y = some a) (gx : mz_g G.1 ρ x vx) (gy : mz_g G.1 ρ y vy) : ∃ (b : Int64) (d : Int32), vx = .long b ∧ vy = .int d ∧ mz_g G.1 ρ a (.long (g b d)) := by
  unfold mz_ls at h
  split at h
  next a1 b1 =>
    rw [mz_fl_eq] at h
    cases h
    exact ⟨a1, b1, gx, gy, rfl⟩
  next =>
    cases hb : (mz_isL x && mz_isI y) with
    | false => simp only [hb] at h; cases h
    | true =>
      simp only [hb, cond_true] at h
      cases h
      rw [Bool.and_eq_true] at hb
      obtain ⟨b, rfl⟩ := mz_isL_ok gx hb.1
      obtain ⟨d, rfl⟩ := mz_isI_ok gy hb.2
      exact ⟨b, d, rfl, rfl, mz_anyL_ok _⟩
def mz_f_iadd : mz_V → mz_V → Option mz_V := mz_ib (fun x y => x + y)
theorem mz_iadd (hd : decode M.1 pc = .ok (.iadd, 1)) : mz_ok E M pc (mz_o2 mz_f_iadd (pc + 1)) :=
  mz_ok_o2 (by intro G ρ x y a vx vy h gx gy; obtain ⟨b, d, rfl, rfl, hg⟩ := mz_ib_ok h gx gy; exact ⟨_, hg, fun p l e R s m args below meth c A ls rest H locs cells slots Q hc k => lv_iadd hc.1 hc.2.1 hd k⟩)
def mz_f_isub : mz_V → mz_V → Option mz_V := mz_ib (fun x y => x - y)
theorem mz_isub (hd : decode M.1 pc = .ok (.isub, 1)) : mz_ok E M pc (mz_o2 mz_f_isub (pc + 1)) :=
  mz_ok_o2 (by intro G ρ x y a vx vy h gx gy; obtain ⟨b, d, rfl, rfl, hg⟩ := mz_ib_ok h gx gy; exact ⟨_, hg, fun p l e R s m args below meth c A ls rest H locs cells slots Q hc k => lv_isub hc.1 hc.2.1 hd k⟩)
def mz_f_imul : mz_V → mz_V → Option mz_V := mz_ib (fun x y => x * y)
theorem mz_imul (hd : decode M.1 pc = .ok (.imul, 1)) : mz_ok E M pc (mz_o2 mz_f_imul (pc + 1)) :=
  mz_ok_o2 (by intro G ρ x y a vx vy h gx gy; obtain ⟨b, d, rfl, rfl, hg⟩ := mz_ib_ok h gx gy; exact ⟨_, hg, fun p l e R s m args below meth c A ls rest H locs cells slots Q hc k => lv_imul hc.1 hc.2.1 hd k⟩)
def mz_f_ior : mz_V → mz_V → Option mz_V := mz_ib (fun x y => x ||| y)
theorem mz_ior (hd : decode M.1 pc = .ok (.ior, 1)) : mz_ok E M pc (mz_o2 mz_f_ior (pc + 1)) :=
  mz_ok_o2 (by intro G ρ x y a vx vy h gx gy; obtain ⟨b, d, rfl, rfl, hg⟩ := mz_ib_ok h gx gy; exact ⟨_, hg, fun p l e R s m args below meth c A ls rest H locs cells slots Q hc k => lv_ior hc.1 hc.2.1 hd k⟩)
def mz_f_ixor : mz_V → mz_V → Option mz_V := mz_ib (fun x y => x ^^^ y)
theorem mz_ixor (hd : decode M.1 pc = .ok (.ixor, 1)) : mz_ok E M pc (mz_o2 mz_f_ixor (pc + 1)) :=
  mz_ok_o2 (by intro G ρ x y a vx vy h gx gy; obtain ⟨b, d, rfl, rfl, hg⟩ := mz_ib_ok h gx gy; exact ⟨_, hg, fun p l e R s m args below meth c A ls rest H locs cells slots Q hc k => lv_ixor hc.1 hc.2.1 hd k⟩)
def mz_f_ishl : mz_V → mz_V → Option mz_V := mz_ib (fun x y => x <<< (y &&& 31))
theorem mz_ishl (hd : decode M.1 pc = .ok (.ishl, 1)) : mz_ok E M pc (mz_o2 mz_f_ishl (pc + 1)) :=
  mz_ok_o2 (by intro G ρ x y a vx vy h gx gy; obtain ⟨b, d, rfl, rfl, hg⟩ := mz_ib_ok h gx gy; exact ⟨_, hg, fun p l e R s m args below meth c A ls rest H locs cells slots Q hc k => lv_ishl hc.1 hc.2.1 hd k⟩)
def mz_f_ladd : mz_V → mz_V → Option mz_V := mz_lb (fun x y => x + y)
theorem mz_ladd (hd : decode M.1 pc = .ok (.ladd, 1)) : mz_ok E M pc (mz_o2 mz_f_ladd (pc + 1)) :=
  mz_ok_o2 (by intro G ρ x y a vx vy h gx gy; obtain ⟨b, d, rfl, rfl, hg⟩ := mz_lb_ok h gx gy; exact ⟨_, hg, fun p l e R s m args below meth c A ls rest H locs cells slots Q hc k => lv_ladd hc.1 hc.2.1 hd k⟩)
def mz_f_lsub : mz_V → mz_V → Option mz_V := mz_lb (fun x y => x - y)
theorem mz_lsub (hd : decode M.1 pc = .ok (.lsub, 1)) : mz_ok E M pc (mz_o2 mz_f_lsub (pc + 1)) :=
  mz_ok_o2 (by intro G ρ x y a vx vy h gx gy; obtain ⟨b, d, rfl, rfl, hg⟩ := mz_lb_ok h gx gy; exact ⟨_, hg, fun p l e R s m args below meth c A ls rest H locs cells slots Q hc k => lv_lsub hc.1 hc.2.1 hd k⟩)
def mz_f_lmul : mz_V → mz_V → Option mz_V := mz_lb (fun x y => x * y)
theorem mz_lmul (hd : decode M.1 pc = .ok (.lmul, 1)) : mz_ok E M pc (mz_o2 mz_f_lmul (pc + 1)) :=
  mz_ok_o2 (by intro G ρ x y a vx vy h gx gy; obtain ⟨b, d, rfl, rfl, hg⟩ := mz_lb_ok h gx gy; exact ⟨_, hg, fun p l e R s m args below meth c A ls rest H locs cells slots Q hc k => lv_lmul hc.1 hc.2.1 hd k⟩)
def mz_f_land : mz_V → mz_V → Option mz_V := mz_lb (fun x y => x &&& y)
theorem mz_land (hd : decode M.1 pc = .ok (.land, 1)) : mz_ok E M pc (mz_o2 mz_f_land (pc + 1)) :=
  mz_ok_o2 (by intro G ρ x y a vx vy h gx gy; obtain ⟨b, d, rfl, rfl, hg⟩ := mz_lb_ok h gx gy; exact ⟨_, hg, fun p l e R s m args below meth c A ls rest H locs cells slots Q hc k => lv_land hc.1 hc.2.1 hd k⟩)
def mz_f_lor : mz_V → mz_V → Option mz_V := mz_lb (fun x y => x ||| y)
theorem mz_lor (hd : decode M.1 pc = .ok (.lor, 1)) : mz_ok E M pc (mz_o2 mz_f_lor (pc + 1)) :=
  mz_ok_o2 (by intro G ρ x y a vx vy h gx gy; obtain ⟨b, d, rfl, rfl, hg⟩ := mz_lb_ok h gx gy; exact ⟨_, hg, fun p l e R s m args below meth c A ls rest H locs cells slots Q hc k => lv_lor hc.1 hc.2.1 hd k⟩)
def mz_f_iushr : mz_V → mz_V → Option mz_V := mz_ib (fun x y => (x.toUInt32 >>> (y.toUInt32 &&& Int32.toUInt32 31)).toInt32)
theorem mz_iushr (hd : decode M.1 pc = .ok (.iushr, 1)) : mz_ok E M pc (mz_o2 mz_f_iushr (pc + 1)) :=
  mz_ok_o2 (by intro G ρ x y a vx vy h gx gy; obtain ⟨b, d, rfl, rfl, hg⟩ := mz_ib_ok h gx gy; exact ⟨_, hg, fun p l e R s m args below meth c A ls rest H locs cells slots Q hc k => lv_iushr hc.1 hc.2.1 hd rfl k⟩)
def mz_f_lshl : mz_V → mz_V → Option mz_V := mz_ls (fun x y => x <<< (y.toInt64 &&& 63))
theorem mz_lshl (hd : decode M.1 pc = .ok (.lshl, 1)) : mz_ok E M pc (mz_o2 mz_f_lshl (pc + 1)) :=
  mz_ok_o2 (by intro G ρ x y a vx vy h gx gy; obtain ⟨b, d, rfl, rfl, hg⟩ := mz_ls_ok h gx gy; exact ⟨_, hg, fun p l e R s m args below meth c A ls rest H locs cells slots Q hc k => lv_lshl hc.1 hc.2.1 hd rfl k⟩)
def mz_f_lshr : mz_V → mz_V → Option mz_V := mz_ls (fun x y => x >>> (y.toInt64 &&& 63))
theorem mz_lshr (hd : decode M.1 pc = .ok (.lshr, 1)) : mz_ok E M pc (mz_o2 mz_f_lshr (pc + 1)) :=
  mz_ok_o2 (by intro G ρ x y a vx vy h gx gy; obtain ⟨b, d, rfl, rfl, hg⟩ := mz_ls_ok h gx gy; exact ⟨_, hg, fun p l e R s m args below meth c A ls rest H locs cells slots Q hc k => lv_lshr hc.1 hc.2.1 hd rfl k⟩)
def mz_f_idiv (a b : mz_V) : Option mz_V := match a, b with
  | .inl x, .inl y => bif y == 0 then none else mz_fi (x / y) (fun z => some (.inl z))
  | _, _ => none
theorem mz_idiv (hd : decode M.1 pc = .ok (.idiv, 1)) : mz_ok E M pc (mz_o2 mz_f_idiv (pc + 1)) := by
  refine mz_ok_o2 ?_
  intro G ρ x y a vx vy h gx gy
  unfold mz_f_idiv at h
  split at h
  next x y =>
    cases hy : (y == 0) with
    | true => rw [hy] at h; cases h
    | false =>
      rw [hy, cond_false, mz_fi_eq] at h
      cases h
      cases gx
      cases gy
      exact ⟨_, rfl, fun p l e R s m args below meth c A ls rest H locs cells slots Q hc k => lv_idiv hc.1 hc.2.1 hd (by simpa using hy) k⟩
  next => cases h
def mz_f_irem (a b : mz_V) : Option mz_V := match a, b with
  | .inl x, .inl y => bif y == 0 then none else mz_fi (x - x / y * y) (fun z => some (.inl z))
  | _, _ => none
theorem mz_irem (hd : decode M.1 pc = .ok (.irem, 1)) : mz_ok E M pc (mz_o2 mz_f_irem (pc + 1)) := by
  refine mz_ok_o2 ?_
  intro G ρ x y a vx vy h gx gy
  unfold mz_f_irem at h
  split at h
  next x y =>
    cases hy : (y == 0) with
    | true => rw [hy] at h; cases h
    | false =>
      rw [hy, cond_false, mz_fi_eq] at h
      cases h
      cases gx
      cases gy
      exact ⟨_, rfl, fun p l e R s m args below meth c A ls rest H locs cells slots Q hc k => lv_irem hc.1 hc.2.1 hd (by simpa using hy) k⟩
  next => cases h
def mz_f_ldiv (a b : mz_V) : Option mz_V := match a, b with
  | .inr (.inl x), .inr (.inl y) => bif y == 0 then none else mz_fl (x / y) (fun z => some (.inr (.inl z)))
  | _, _ => none
theorem mz_ldiv (hd : decode M.1 pc = .ok (.ldiv, 1)) : mz_ok E M pc (mz_o2 mz_f_ldiv (pc + 1)) := by
  refine mz_ok_o2 ?_
  intro G ρ x y a vx vy h gx gy
  unfold mz_f_ldiv at h
  split at h
  next x y =>
    cases hy : (y == 0) with
    | true => rw [hy] at h; cases h
    | false =>
      rw [hy, cond_false, mz_fl_eq] at h
      cases h
      cases gx
      cases gy
      exact ⟨_, rfl, fun p l e R s m args below meth c A ls rest H locs cells slots Q hc k => lv_ldiv hc.1 hc.2.1 hd (by simpa using hy) k⟩
  next => cases h
def mz_f_lrem (a b : mz_V) : Option mz_V := match a, b with
  | .inr (.inl x), .inr (.inl y) => bif y == 0 then none else mz_fl (x - x / y * y) (fun z => some (.inr (.inl z)))
  | _, _ => none
theorem mz_lrem (hd : decode M.1 pc = .ok (.lrem, 1)) : mz_ok E M pc (mz_o2 mz_f_lrem (pc + 1)) := by
  refine mz_ok_o2 ?_
  intro G ρ x y a vx vy h gx gy
  unfold mz_f_lrem at h
  split at h
  next x y =>
    cases hy : (y == 0) with
    | true => rw [hy] at h; cases h
    | false =>
      rw [hy, cond_false, mz_fl_eq] at h
      cases h
      cases gx
      cases gy
      exact ⟨_, rfl, fun p l e R s m args below meth c A ls rest H locs cells slots Q hc k => lv_lrem hc.1 hc.2.1 hd (by simpa using hy) k⟩
  next => cases h
/-! masks and shifts of an int that is known in parts -/
def mz_ffc (F : List (Option Int32 × Int32 × Int × Int)) (c : Option Int32) (k : Int32) : Option (Int × Int) := match F with
  | [] => none
  | q :: r => bif q.1 == c && q.2.1 == k then some q.2.2 else mz_ffc r c k
theorem mz_ffc_ok {x : Int32} : ∀ (F : List (Option Int32 × Int32 × Int × Int)) (c : Option Int32) (k : Int32) (b : Int × Int), mz_fc F x → mz_ffc F c k = some b → b.1 ≤ (mz_sh x c &&& k).toInt ∧ (mz_sh x c &&& k).toInt ≤ b.2
  | [], c, k, b, _, h => by cases h
  | q :: r, c, k, b, hF, h => by
    unfold mz_ffc at h
    cases hq : (q.1 == c && q.2.1 == k) with
    | true =>
      rw [hq] at h
      simp only [cond_true, Option.some.injEq] at h
      subst h
      simp only [Bool.and_eq_true, beq_iff_eq] at hq
      have := hF q List.mem_cons_self
      rw [hq.1, hq.2] at this
      exact this
    | false =>
      rw [hq] at h
      exact mz_ffc_ok r c k b (fun q' h' => hF q' (List.mem_cons_of_mem _ h')) h
def mz_rg (b : Int × Int) : mz_V := bif b.1 == b.2 then .inl (Int32.ofInt b.1) else .inr (.inr (.inr (.inl b)))
theorem mz_rg_ok {X : Nat → Nat} {ρ : List Nat} {b : Int × Int} {z : Int32} (h1 : b.1 ≤ z.toInt) (h2 : z.toInt ≤ b.2) : mz_g X ρ (mz_rg b) (.int z) := by
  unfold mz_rg
  cases hb : (b.1 == b.2) with
  | true =>
    have e : b.1 = b.2 := by simpa using hb
    have e2 : b.1 = z.toInt := by omega
    show Value.int z = Value.int (Int32.ofInt b.1)
    rw [e2, Int32.ofInt_toInt]
  | false => exact ⟨z, rfl, h1, h2⟩
def mz_f_iand (x y : mz_V) : Option mz_V := match x, y with
  | .inr (.inr (.inr (.inr (.inr (.inl f))))), .inl k => match mz_ffc f.2 f.1 k with
    | some b => some (mz_rg b)
    | none => some mz_anyI
  | x, y => mz_ib (fun x y => x &&& y) x y
theorem mz_iand (hd : decode M.1 pc = .ok (.iand, 1)) : mz_ok E M pc (mz_o2 mz_f_iand (pc + 1)) := by
  refine mz_ok_o2 ?_
  intro G ρ x y a vx vy h gx gy
  unfold mz_f_iand at h
  split at h
  next f k =>
    obtain ⟨x0, rfl, hF⟩ := gx
    have gy : vy = .int k := gy
    subst gy
    split at h
    next b hb =>
      cases h
      have h9 := mz_ffc_ok f.2 f.1 k b hF hb
      exact ⟨_, mz_rg_ok h9.1 h9.2, fun p l e R s m args below meth c A ls rest H locs cells slots Q hc k => lv_iand hc.1 hc.2.1 hd k⟩
    next =>
      cases h
      exact ⟨_, mz_anyI_ok _, fun p l e R s m args below meth c A ls rest H locs cells slots Q hc k => lv_iand hc.1 hc.2.1 hd k⟩
  next =>
    obtain ⟨b, d, rfl, rfl, hg⟩ := mz_ib_ok h gx gy
    exact ⟨_, hg, fun p l e R s m args below meth c A ls rest H locs cells slots Q hc k => lv_iand hc.1 hc.2.1 hd k⟩
def mz_f_ishr (x y : mz_V) : Option mz_V := match x, y with
  | .inr (.inr (.inr (.inr (.inr (.inl (none, F)))))), .inl k => mz_fi (k &&& 31) (fun z => some (.inr (.inr (.inr (.inr (.inr (.inl (some z, F))))))))
  | x, y => mz_ib (fun x y => x >>> (y &&& 31)) x y
theorem mz_ishr (hd : decode M.1 pc = .ok (.ishr, 1)) : mz_ok E M pc (mz_o2 mz_f_ishr (pc + 1)) := by
  refine mz_ok_o2 ?_
  intro G ρ x y a vx vy h gx gy
  unfold mz_f_ishr at h
  split at h
  next F k =>
    obtain ⟨x0, rfl, hF⟩ := gx
    have gy : vy = .int k := gy
    subst gy
    rw [mz_fi_eq] at h
    cases h
    exact ⟨.int (x0 >>> (k &&& 31)), ⟨x0, rfl, hF⟩, fun p l e R s m args below meth c A ls rest H locs cells slots Q hc k => lv_ishr hc.1 hc.2.1 hd k⟩
  next =>
    obtain ⟨b, d, rfl, rfl, hg⟩ := mz_ib_ok h gx gy
    exact ⟨_, hg, fun p l e R s m args below meth c A ls rest H locs cells slots Q hc k => lv_ishr hc.1 hc.2.1 hd k⟩
def mz_f_i2l (x : mz_V) : Option mz_V := match x with
  | .inl a => mz_fl a.toInt64 (fun z => some (.inr (.inl z)))
  | x => match mz_bi x with
    | some b => some (.inr (.inr (.inr (.inr (.inl b)))))
    | none => bif mz_isI x then some mz_anyL else none
theorem mz_i2l (hd : decode M.1 pc = .ok (.i2l, 1)) : mz_ok E M pc (mz_o1 mz_f_i2l (pc + 1)) := by
  refine mz_ok_o1 ?_
  intro G ρ x a vx h gx
  unfold mz_f_i2l at h
  split at h
  next x =>
    rw [mz_fl_eq] at h
    cases h
    cases gx
    exact ⟨.long x.toInt64, rfl, fun p l e R s m args below meth c A ls rest H locs cells slots Q hc k => lv_i2l hc.1 hc.2.1 hd rfl k⟩
  next =>
    split at h
    next b hb =>
      cases h
      obtain ⟨z, rfl, h1, h2⟩ := mz_bi_ok gx hb
      exact ⟨.long z.toInt64, ⟨z.toInt64, rfl, by rw [Int32.toInt_toInt64]; exact h1, by rw [Int32.toInt_toInt64]; exact h2⟩, fun p l e R s m args below meth c A ls rest H locs cells slots Q hc k => lv_i2l hc.1 hc.2.1 hd rfl k⟩
    next =>
      cases hi : mz_isI x with
      | false => rw [hi] at h; cases h
      | true =>
        rw [hi] at h
        cases h
        obtain ⟨z, rfl⟩ := mz_isI_ok gx hi
        exact ⟨.long z.toInt64, mz_anyL_ok _, fun p l e R s m args below meth c A ls rest H locs cells slots Q hc k => lv_i2l hc.1 hc.2.1 hd rfl k⟩
def mz_f_l2i (x : mz_V) : Option mz_V := match x with
  | .inr (.inl a) => mz_fi a.toInt32 (fun z => some (.inl z))
  | x => bif mz_isL x then some mz_anyI else none
theorem mz_l2i (hd : decode M.1 pc = .ok (.l2i, 1)) : mz_ok E M pc (mz_o1 mz_f_l2i (pc + 1)) := by
  refine mz_ok_o1 ?_
  intro G ρ x a vx h gx
  unfold mz_f_l2i at h
  split at h
  next x =>
    rw [mz_fi_eq] at h
    cases h
    cases gx
    exact ⟨.int x.toInt32, rfl, fun p l e R s m args below meth c A ls rest H locs cells slots Q hc k => lv_l2i hc.1 hc.2.1 hd rfl k⟩
  next =>
    cases hi : mz_isL x with
    | false => rw [hi] at h; cases h
    | true =>
      rw [hi] at h
      cases h
      obtain ⟨z, rfl⟩ := mz_isL_ok gx hi
      exact ⟨.int z.toInt32, mz_anyI_ok _, fun p l e R s m args below meth c A ls rest H locs cells slots Q hc k => lv_l2i hc.1 hc.2.1 hd rfl k⟩
def mz_f_lcmp (x y : mz_V) : Option mz_V := match mz_bl x, mz_bl y with
  | some a, some b => if b.2 < a.1 then some (.inl 1) else if a.2 < b.1 then some (.inl (-1)) else bif a.1 == a.2 && b.1 == b.2 then some (.inl 0) else none
  | _, _ => none
theorem mz_lcmp (hd : decode M.1 pc = .ok (.lcmp, 1)) : mz_ok E M pc (mz_o2 mz_f_lcmp (pc + 1)) := by
  refine mz_ok_o2 ?_
  intro G ρ x y a vx vy h gx gy
  unfold mz_f_lcmp at h
  split at h
  next a1 b1 ha hb =>
    obtain ⟨u, rfl, u1, u2⟩ := mz_bl_ok gx ha
    obtain ⟨z, rfl, z1, z2⟩ := mz_bl_ok gy hb
    refine ⟨.int (lg_cmp u z), ?_, fun p l e R s m args below meth c A ls rest H locs cells slots Q hc k => W.lcmp hc.1 hc.2.1 hd k⟩
    split at h
    next h1 =>
      cases h
      have hgt : u > z := Int64.lt_iff_toInt_lt.mpr (by omega)
      show Value.int (lg_cmp u z) = Value.int 1
      simp [lg_cmp, hgt]
    next h1 =>
      split at h
      next h2 =>
        cases h
        have hlt : u < z := Int64.lt_iff_toInt_lt.mpr (by omega)
        have n1 : ¬ u > z := fun q => by have := Int64.lt_iff_toInt_lt.mp q; have := Int64.lt_iff_toInt_lt.mp hlt; omega
        have n2 : ¬ u = z := fun q => by subst q; have := Int64.lt_iff_toInt_lt.mp hlt; omega
        show Value.int (lg_cmp u z) = Value.int (-1)
        simp [lg_cmp, n1, n2]
      next h2 =>
        cases hq : (a1.1 == a1.2 && b1.1 == b1.2) with
        | false => rw [hq] at h; cases h
        | true =>
          rw [hq] at h
          cases h
          simp only [Bool.and_eq_true, beq_iff_eq] at hq
          have e : u = z := Int64.toInt_inj.mp (by omega)
          subst e
          show Value.int (lg_cmp u u) = Value.int 0
          simp [lg_cmp]
  next => cases h
end MZ1
end
section
/-! ===== branches, fields, rows, calls, ends ===== -/
section MZ2
variable {E : List mz_V} {M : mz_M} {pc : Nat}
def mz_lt (x y : mz_V) : Option Bool := match mz_bi x, mz_bi y with
  | some a, some b => if a.2 < b.1 then some true else if b.2 ≤ a.1 then some false else none
  | _, _ => none
def mz_gt (x y : mz_V) : Option Bool := mz_lt y x
def mz_eq (x y : mz_V) : Option Bool := match mz_bi x, mz_bi y with
  | some a, some b => if a.2 < b.1 then some false else if b.2 < a.1 then some false else bif a.1 == a.2 && b.1 == b.2 then some true else none
  | _, _ => none
theorem mz_lt_ok {X : Nat → Nat} {ρ : List Nat} {x y : mz_V} {vx vy : Value} {o : Bool} (h : mz_lt x y = some o) (gx : mz_g X ρ x vx) (gy : mz_g X ρ y vy) : ∃ u z : Int32, vx = .int u ∧ vy = .int z ∧ (u < z ↔ o = true) := by
  unfold mz_lt at h
  split at h
  next a b ha hb =>
    obtain ⟨u, rfl, u1, u2⟩ := mz_bi_ok gx ha
    obtain ⟨z, rfl, z1, z2⟩ := mz_bi_ok gy hb
    refine ⟨u, z, rfl, rfl, ?_⟩
    rw [Int32.lt_iff_toInt_lt]
    split at h
    next h1 => cases h; simp only [iff_true]; omega
    next h1 =>
      split at h
      next h2 => cases h; simp only [Bool.false_eq_true, iff_false]; omega
      next => cases h
  next => cases h
theorem mz_eq_ok {X : Nat → Nat} {ρ : List Nat} {x y : mz_V} {vx vy : Value} {o : Bool} (h : mz_eq x y = some o) (gx : mz_g X ρ x vx) (gy : mz_g X ρ y vy) : ∃ u z : Int32, vx = .int u ∧ vy = .int z ∧ (u = z ↔ o = true) := by
  unfold mz_eq at h
  split at h
  next a b ha hb =>
    obtain ⟨u, rfl, u1, u2⟩ := mz_bi_ok gx ha
    obtain ⟨z, rfl, z1, z2⟩ := mz_bi_ok gy hb
    refine ⟨u, z, rfl, rfl, ?_⟩
    rw [← Int32.toInt_inj]
    split at h
    next h1 => cases h; simp only [Bool.false_eq_true, iff_false]; omega
    next h1 =>
      split at h
      next h2 => cases h; simp only [Bool.false_eq_true, iff_false]; omega
      next h2 =>
        cases hq : (a.1 == a.2 && b.1 == b.2) with
        | false => rw [hq] at h; cases h
        | true =>
          rw [hq] at h
          cases h
          simp only [Bool.and_eq_true, beq_iff_eq] at hq
          simp only [iff_true]
          omega
  next => cases h
def mz_j1 (d : mz_V → Option Bool) (t f : Nat) : mz_S → Option (Nat × mz_S) := fun st => match st.2.1 with
  | [] => none
  | x :: r => match d x with
    | none => none
    | some true => some (t, st.1, r, st.2.2)
    | some false => some (f, st.1, r, st.2.2)
def mz_j2 (d : mz_V → mz_V → Option Bool) (t f : Nat) : mz_S → Option (Nat × mz_S) := fun st => match st.2.1 with
  | y :: x :: r => match d x y with
    | none => none
    | some true => some (t, st.1, r, st.2.2)
    | some false => some (f, st.1, r, st.2.2)
  | _ => none
theorem mz_ok_j1 {d : mz_V → Option Bool} {t f : Nat} (row : ∀ (G : mz_E) (ρ : List Nat) (x : mz_V) (o : Bool) (vx : Value), d x = some o → mz_g G.1 ρ x vx → ∀ (p : Program) (l : Launch) (e : Env) (R : Room) (s : State) (m : MethodId) (args : Array Value) (below : List Frame) (meth : Method) (c : Code) (A : Nat → Prop) (ls : Array Slot) (rest : List Value) (H : Heap) (locs : List Loc) (cells slots : Nat) (Q : State → Prop), mz_cx E G M p R s m args meth c A → (o = true → W p l e R s m args below meth c H locs cells slots Q (F0 m t ls rest)) → (o = false → W p l e R s m args below meth c H locs cells slots Q (F0 m f ls rest)) → W p l e R s m args below meth c H locs cells slots Q (F0 m pc ls (vx :: rest))) : mz_ok E M pc (mz_j1 d t f) := by
  have inv : ∀ (st : mz_S) (pc' : Nat) (st' : mz_S), mz_j1 d t f st = some (pc', st') → ∃ x r o, st.2.1 = x :: r ∧ d x = some o ∧ pc' = (bif o then t else f) ∧ st' = (st.1, r, st.2.2) := by
    intro st pc' st' h9
    obtain ⟨l1, s1, w⟩ := st
    rcases s1 with _ | ⟨x, r⟩
    · cases h9
    · unfold mz_j1 at h9
      simp only at h9
      cases hx : d x with
      | none => rw [hx] at h9; cases h9
      | some o => cases o <;> (rw [hx] at h9; cases h9; exact ⟨x, r, _, rfl, hx, rfl, rfl⟩)
  refine mz_ok_s (fun st pc' st' h9 => by obtain ⟨x, r, o, -, -, -, rfl⟩ := inv st pc' st' h9; rfl) ?_
  intro st pc' st' h9 G p l e R s m args below meth c A ls stk cw H locs cells slots Q hc hr kk
  obtain ⟨x, r, o, h1, h2, rfl, rfl⟩ := inv st pc' st' h9
  have hs := hr.2.1
  rw [h1] at hs
  obtain ⟨vx, vs, rfl, gx, hs⟩ := hs
  refine row G _ x o vx h2 gx p l e R s m args below meth c A ls vs H locs cells slots Q hc (fun ho => ?_) (fun ho => ?_)
  · subst ho; exact kk ls _ hr.1 hs
  · subst ho; exact kk ls _ hr.1 hs
theorem mz_ok_j2 {d : mz_V → mz_V → Option Bool} {t f : Nat} (row : ∀ (G : mz_E) (ρ : List Nat) (x y : mz_V) (o : Bool) (vx vy : Value), d x y = some o → mz_g G.1 ρ x vx → mz_g G.1 ρ y vy → ∀ (p : Program) (l : Launch) (e : Env) (R : Room) (s : State) (m : MethodId) (args : Array Value) (below : List Frame) (meth : Method) (c : Code) (A : Nat → Prop) (ls : Array Slot) (rest : List Value) (H : Heap) (locs : List Loc) (cells slots : Nat) (Q : State → Prop), mz_cx E G M p R s m args meth c A → (o = true → W p l e R s m args below meth c H locs cells slots Q (F0 m t ls rest)) → (o = false → W p l e R s m args below meth c H locs cells slots Q (F0 m f ls rest)) → W p l e R s m args below meth c H locs cells slots Q (F0 m pc ls (vy :: vx :: rest))) : mz_ok E M pc (mz_j2 d t f) := by
  have inv : ∀ (st : mz_S) (pc' : Nat) (st' : mz_S), mz_j2 d t f st = some (pc', st') → ∃ x y r o, st.2.1 = y :: x :: r ∧ d x y = some o ∧ pc' = (bif o then t else f) ∧ st' = (st.1, r, st.2.2) := by
    intro st pc' st' h9
    obtain ⟨l1, s1, w⟩ := st
    rcases s1 with _ | ⟨y, _ | ⟨x, r⟩⟩
    · cases h9
    · cases h9
    · unfold mz_j2 at h9
      simp only at h9
      cases hx : d x y with
      | none => rw [hx] at h9; cases h9
      | some o => cases o <;> (rw [hx] at h9; cases h9; exact ⟨x, y, r, _, rfl, hx, rfl, rfl⟩)
  refine mz_ok_s (fun st pc' st' h9 => by obtain ⟨x, y, r, o, -, -, -, rfl⟩ := inv st pc' st' h9; rfl) ?_
  intro st pc' st' h9 G p l e R s m args below meth c A ls stk cw H locs cells slots Q hc hr kk
  obtain ⟨x, y, r, o, h1, h2, rfl, rfl⟩ := inv st pc' st' h9
  have hs := hr.2.1
  rw [h1] at hs
  obtain ⟨vy, _, rfl, gy, vx, vs, rfl, gx, hs⟩ := hs
  refine row G _ x y o vx vy h2 gx gy p l e R s m args below meth c A ls vs H locs cells slots Q hc (fun ho => ?_) (fun ho => ?_)
  · subst ho; exact kk ls _ hr.1 hs
  · subst ho; exact kk ls _ hr.1 hs
theorem mz_icmp_eq {off : Int} (tgt : Nat) (ht : (pc : Int) + off = (tgt : Int)) (hd : decode M.1 pc = .ok (.if_icmp .eq off, 3)) : mz_ok E M pc (mz_j2 mz_eq tgt (pc + 3)) := by
  refine mz_ok_j2 ?_
  intro G ρ x y o vx vy h gx gy p l e R s m args below meth c A ls rest H locs cells slots Q hc kt kf
  obtain ⟨u, z, rfl, rfl, hq⟩ := mz_eq_ok h gx gy
  exact lv_icmp_eq hc.1 hc.2.1 hd ht (fun h1 => kt (hq.mp h1)) (fun h1 => kf (by cases o <;> simp_all))
theorem mz_icmp_ne {off : Int} (tgt : Nat) (ht : (pc : Int) + off = (tgt : Int)) (hd : decode M.1 pc = .ok (.if_icmp .ne off, 3)) : mz_ok E M pc (mz_j2 mz_eq (pc + 3) tgt) := by
  refine mz_ok_j2 ?_
  intro G ρ x y o vx vy h gx gy p l e R s m args below meth c A ls rest H locs cells slots Q hc kt kf
  obtain ⟨u, z, rfl, rfl, hq⟩ := mz_eq_ok h gx gy
  exact lv_icmp_ne hc.1 hc.2.1 hd ht (fun h1 => kf (by cases o <;> simp_all)) (fun h1 => kt (hq.mp h1))
theorem mz_icmp_lt {off : Int} (tgt : Nat) (ht : (pc : Int) + off = (tgt : Int)) (hd : decode M.1 pc = .ok (.if_icmp .lt off, 3)) : mz_ok E M pc (mz_j2 mz_lt tgt (pc + 3)) := by
  refine mz_ok_j2 ?_
  intro G ρ x y o vx vy h gx gy p l e R s m args below meth c A ls rest H locs cells slots Q hc kt kf
  obtain ⟨u, z, rfl, rfl, hq⟩ := mz_lt_ok h gx gy
  exact lv_icmp_lt hc.1 hc.2.1 hd ht (fun h1 => kt (hq.mp h1)) (fun h1 => kf (by cases o <;> simp_all))
theorem mz_icmp_ge {off : Int} (tgt : Nat) (ht : (pc : Int) + off = (tgt : Int)) (hd : decode M.1 pc = .ok (.if_icmp .ge off, 3)) : mz_ok E M pc (mz_j2 mz_lt (pc + 3) tgt) := by
  refine mz_ok_j2 ?_
  intro G ρ x y o vx vy h gx gy p l e R s m args below meth c A ls rest H locs cells slots Q hc kt kf
  obtain ⟨u, z, rfl, rfl, hq⟩ := mz_lt_ok h gx gy
  exact lv_icmp_ge hc.1 hc.2.1 hd ht (fun h1 => kf (by cases o with | false => rfl | true => exact absurd (hq.mpr rfl) (Int32.not_lt.mpr h1))) (fun h1 => kt (hq.mp (Int32.not_le.mp h1)))
theorem mz_icmp_gt {off : Int} (tgt : Nat) (ht : (pc : Int) + off = (tgt : Int)) (hd : decode M.1 pc = .ok (.if_icmp .gt off, 3)) : mz_ok E M pc (mz_j2 mz_gt tgt (pc + 3)) := by
  refine mz_ok_j2 ?_
  intro G ρ x y o vx vy h gx gy p l e R s m args below meth c A ls rest H locs cells slots Q hc kt kf
  obtain ⟨z, u, rfl, rfl, hq⟩ := mz_lt_ok (show mz_lt y x = some o from h) gy gx
  exact lv_icmp_gt hc.1 hc.2.1 hd ht (fun h1 => kt (hq.mp h1)) (fun h1 => kf (by cases o with | false => rfl | true => exact absurd (hq.mpr rfl) h1))
theorem mz_icmp_le {off : Int} (tgt : Nat) (ht : (pc : Int) + off = (tgt : Int)) (hd : decode M.1 pc = .ok (.if_icmp .le off, 3)) : mz_ok E M pc (mz_j2 mz_gt (pc + 3) tgt) := by
  refine mz_ok_j2 ?_
  intro G ρ x y o vx vy h gx gy p l e R s m args below meth c A ls rest H locs cells slots Q hc kt kf
  obtain ⟨z, u, rfl, rfl, hq⟩ := mz_lt_ok (show mz_lt y x = some o from h) gy gx
  exact lv_icmp_le hc.1 hc.2.1 hd ht (fun h1 => kf (by cases o with | false => rfl | true => exact absurd (hq.mpr rfl) (Int32.not_lt.mpr h1))) (fun h1 => kt (hq.mp (Int32.not_le.mp h1)))
def mz_lt0 (x : mz_V) : Option Bool := mz_lt x (.inl 0)
def mz_gt0 (x : mz_V) : Option Bool := mz_lt (.inl 0) x
def mz_eq0 (x : mz_V) : Option Bool := mz_eq x (.inl 0)
theorem mz_if_eq {off : Int} (tgt : Nat) (ht : (pc : Int) + off = (tgt : Int)) (hd : decode M.1 pc = .ok (.ifCond .eq off, 3)) : mz_ok E M pc (mz_j1 mz_eq0 tgt (pc + 3)) := by
  refine mz_ok_j1 ?_
  intro G ρ x o vx h gx p l e R s m args below meth c A ls rest H locs cells slots Q hc kt kf
  obtain ⟨u, z, rfl, hz, hq⟩ := mz_eq_ok (show mz_eq x (.inl 0) = some o from h) gx (show mz_g G.1 ρ (.inl 0) (.int 0) from rfl)
  cases hz
  exact lv_if_eq hc.1 hc.2.1 hd ht (fun h1 => kt (hq.mp h1)) (fun h1 => kf (by cases o <;> simp_all))
theorem mz_if_ne {off : Int} (tgt : Nat) (ht : (pc : Int) + off = (tgt : Int)) (hd : decode M.1 pc = .ok (.ifCond .ne off, 3)) : mz_ok E M pc (mz_j1 mz_eq0 (pc + 3) tgt) := by
  refine mz_ok_j1 ?_
  intro G ρ x o vx h gx p l e R s m args below meth c A ls rest H locs cells slots Q hc kt kf
  obtain ⟨u, z, rfl, hz, hq⟩ := mz_eq_ok (show mz_eq x (.inl 0) = some o from h) gx (show mz_g G.1 ρ (.inl 0) (.int 0) from rfl)
  cases hz
  exact lv_if_ne hc.1 hc.2.1 hd ht (fun h1 => kf (by cases o <;> simp_all)) (fun h1 => kt (hq.mp h1))
theorem mz_if_lt {off : Int} (tgt : Nat) (ht : (pc : Int) + off = (tgt : Int)) (hd : decode M.1 pc = .ok (.ifCond .lt off, 3)) : mz_ok E M pc (mz_j1 mz_lt0 tgt (pc + 3)) := by
  refine mz_ok_j1 ?_
  intro G ρ x o vx h gx p l e R s m args below meth c A ls rest H locs cells slots Q hc kt kf
  obtain ⟨u, z, rfl, hz, hq⟩ := mz_lt_ok (show mz_lt x (.inl 0) = some o from h) gx (show mz_g G.1 ρ (.inl 0) (.int 0) from rfl)
  cases hz
  exact lv_if_lt hc.1 hc.2.1 hd ht (fun h1 => kt (hq.mp h1)) (fun h1 => kf (by cases o <;> simp_all))
theorem mz_if_ge {off : Int} (tgt : Nat) (ht : (pc : Int) + off = (tgt : Int)) (hd : decode M.1 pc = .ok (.ifCond .ge off, 3)) : mz_ok E M pc (mz_j1 mz_lt0 (pc + 3) tgt) := by
  refine mz_ok_j1 ?_
  intro G ρ x o vx h gx p l e R s m args below meth c A ls rest H locs cells slots Q hc kt kf
  obtain ⟨u, z, rfl, hz, hq⟩ := mz_lt_ok (show mz_lt x (.inl 0) = some o from h) gx (show mz_g G.1 ρ (.inl 0) (.int 0) from rfl)
  cases hz
  exact lv_if_ge hc.1 hc.2.1 hd ht (fun h1 => kf (by cases o with | false => rfl | true => exact absurd (hq.mpr rfl) (Int32.not_lt.mpr h1))) (fun h1 => kt (hq.mp (Int32.not_le.mp h1)))
theorem mz_if_gt {off : Int} (tgt : Nat) (ht : (pc : Int) + off = (tgt : Int)) (hd : decode M.1 pc = .ok (.ifCond .gt off, 3)) : mz_ok E M pc (mz_j1 mz_gt0 tgt (pc + 3)) := by
  refine mz_ok_j1 ?_
  intro G ρ x o vx h gx p l e R s m args below meth c A ls rest H locs cells slots Q hc kt kf
  obtain ⟨z, u, hz, rfl, hq⟩ := mz_lt_ok (show mz_lt (.inl 0) x = some o from h) (show mz_g G.1 ρ (.inl 0) (.int 0) from rfl) gx
  cases hz
  exact lv_if_gt hc.1 hc.2.1 hd ht (fun h1 => kt (hq.mp h1)) (fun h1 => kf (by cases o with | false => rfl | true => exact absurd (hq.mpr rfl) h1))
theorem mz_if_le {off : Int} (tgt : Nat) (ht : (pc : Int) + off = (tgt : Int)) (hd : decode M.1 pc = .ok (.ifCond .le off, 3)) : mz_ok E M pc (mz_j1 mz_gt0 (pc + 3) tgt) := by
  refine mz_ok_j1 ?_
  intro G ρ x o vx h gx p l e R s m args below meth c A ls rest H locs cells slots Q hc kt kf
  obtain ⟨z, u, hz, rfl, hq⟩ := mz_lt_ok (show mz_lt (.inl 0) x = some o from h) (show mz_g G.1 ρ (.inl 0) (.int 0) from rfl) gx
  cases hz
  exact lv_if_le hc.1 hc.2.1 hd ht (fun h1 => kf (by cases o with | false => rfl | true => exact absurd (hq.mpr rfl) (Int32.not_lt.mpr h1))) (fun h1 => kt (hq.mp (Int32.not_le.mp h1)))
def mz_nul (x : mz_V) : Option Bool := match x with
  | .inr (.inr (.inl none)) => some true
  | .inr (.inr (.inl (some _))) => some false
  | _ => none
theorem mz_nul_ok {X : Nat → Nat} {ρ : List Nat} {x : mz_V} {v : Value} {o : Bool} (h : mz_nul x = some o) (g : mz_g X ρ x v) : (o = true ∧ v = .null) ∨ (o = false ∧ ∃ q, v = .ref q) := by
  unfold mz_nul at h
  split at h
  next => cases h; exact Or.inl ⟨rfl, g⟩
  next => cases h; obtain ⟨q, -, hq⟩ := g; exact Or.inr ⟨rfl, q, hq⟩
  next => cases h
theorem mz_ifnull {off : Int} (tgt : Nat) (ht : (pc : Int) + off = (tgt : Int)) (hd : decode M.1 pc = .ok (.ifnull off, 3)) : mz_ok E M pc (mz_j1 mz_nul tgt (pc + 3)) := by
  refine mz_ok_j1 ?_
  intro G ρ x o vx h gx p l e R s m args below meth c A ls rest H locs cells slots Q hc kt kf
  rcases mz_nul_ok h gx with ⟨ho, rfl⟩ | ⟨ho, q, rfl⟩
  · exact lv_ifnullN hc.1 hc.2.1 hd ht (kt ho)
  · exact lv_ifnull hc.1 hc.2.1 hd (kf ho)
theorem mz_ifnonnull {off : Int} (tgt : Nat) (ht : (pc : Int) + off = (tgt : Int)) (hd : decode M.1 pc = .ok (.ifnonnull off, 3)) : mz_ok E M pc (mz_j1 mz_nul (pc + 3) tgt) := by
  refine mz_ok_j1 ?_
  intro G ρ x o vx h gx p l e R s m args below meth c A ls rest H locs cells slots Q hc kt kf
  rcases mz_nul_ok h gx with ⟨ho, rfl⟩ | ⟨ho, q, rfl⟩
  · exact lv_ifnonnullN hc.1 hc.2.1 hd (kt ho)
  · exact lv_ifnonnull hc.1 hc.2.1 hd ht (kf ho)
def mz_go (t : Nat) : mz_S → Option (Nat × mz_S) := fun st => some (t, st)
theorem mz_goto {off : Int} (tgt : Nat) (ht : (pc : Int) + off = (tgt : Int)) (hd : decode M.1 pc = .ok (.goto off, 3)) : mz_ok E M pc (mz_go tgt) := by
  refine mz_ok_s (fun st pc' st' h => by cases h; rfl) ?_
  intro st pc' st' h G p l e R s m args below meth c A ls stk cw H locs cells slots Q hc hr kk
  cases h
  exact lv_goto hc.1 hc.2.1 hd ht (kk ls stk hr.1 hr.2.1)
def mz_dp (n : Nat) : mz_S → Option (Nat × mz_S) := fun st => match st.2.1 with
  | [] => none
  | a :: r => bif Nat.beq (mz_cat a) 1 then some (n, st.1, a :: a :: r, st.2.2) else none
theorem mz_dup (hd : decode M.1 pc = .ok (.dup, 1)) : mz_ok E M pc (mz_dp (pc + 1)) := by
  have inv : ∀ (st : mz_S) (pc' : Nat) (st' : mz_S), mz_dp (pc + 1) st = some (pc', st') → ∃ a r, st.2.1 = a :: r ∧ mz_cat a = 1 ∧ pc' = pc + 1 ∧ st' = (st.1, a :: a :: r, st.2.2) := by
    intro st pc' st' h9
    obtain ⟨l1, s1, w⟩ := st
    rcases s1 with _ | ⟨a, r⟩
    · cases h9
    · unfold mz_dp at h9
      cases hx : Nat.beq (mz_cat a) 1 with
      | false => simp only [hx] at h9; cases h9
      | true => simp only [hx, cond_true] at h9; cases h9; exact ⟨a, r, rfl, Nat.eq_of_beq_eq_true hx, rfl, rfl⟩
  refine mz_ok_s (fun st pc' st' h9 => by obtain ⟨a, r, -, -, -, rfl⟩ := inv st pc' st' h9; rfl) ?_
  intro st pc' st' h9 G p l e R s m args below meth c A ls stk cw H locs cells slots Q hc hr kk
  obtain ⟨a, r, h1, h2, rfl, rfl⟩ := inv st pc' st' h9
  have hs := hr.2.1
  rw [h1] at hs
  obtain ⟨v, vs, rfl, g, hs⟩ := hs
  exact lv_dup hc.1 hc.2.1 hd (by rw [mz_cat_ok g]; exact h2) (kk ls _ hr.1 ⟨v, _, rfl, g, v, vs, rfl, g, hs⟩)
def mz_dp2 (n : Nat) : mz_S → Option (Nat × mz_S) := fun st => match st.2.1 with
  | a :: b :: r => bif Nat.beq (mz_cat a) 1 && Nat.beq (mz_cat b) 1 then some (n, st.1, a :: b :: a :: b :: r, st.2.2) else none
  | _ => none
theorem mz_dup2 (hd : decode M.1 pc = .ok (.dup2, 1)) : mz_ok E M pc (mz_dp2 (pc + 1)) := by
  have inv : ∀ (st : mz_S) (pc' : Nat) (st' : mz_S), mz_dp2 (pc + 1) st = some (pc', st') → ∃ a b r, st.2.1 = a :: b :: r ∧ mz_cat a = 1 ∧ mz_cat b = 1 ∧ pc' = pc + 1 ∧ st' = (st.1, a :: b :: a :: b :: r, st.2.2) := by
    intro st pc' st' h9
    obtain ⟨l1, s1, w⟩ := st
    rcases s1 with _ | ⟨a, _ | ⟨b, r⟩⟩
    · cases h9
    · cases h9
    · unfold mz_dp2 at h9
      cases hx : (Nat.beq (mz_cat a) 1 && Nat.beq (mz_cat b) 1) with
      | false => simp only [hx] at h9; cases h9
      | true =>
        simp only [hx, cond_true] at h9
        cases h9
        rw [Bool.and_eq_true] at hx
        exact ⟨a, b, r, rfl, Nat.eq_of_beq_eq_true hx.1, Nat.eq_of_beq_eq_true hx.2, rfl, rfl⟩
  refine mz_ok_s (fun st pc' st' h9 => by obtain ⟨a, b, r, -, -, -, -, rfl⟩ := inv st pc' st' h9; rfl) ?_
  intro st pc' st' h9 G p l e R s m args below meth c A ls stk cw H locs cells slots Q hc hr kk
  obtain ⟨a, b, r, h1, h2, h3, rfl, rfl⟩ := inv st pc' st' h9
  have hs := hr.2.1
  rw [h1] at hs
  obtain ⟨v, _, rfl, g, u, vs, rfl, g', hs⟩ := hs
  exact lv_dup2_11 hc.1 hc.2.1 hd (by rw [mz_cat_ok g]; exact h2) (by rw [mz_cat_ok g']; exact h3) (kk ls _ hr.1 ⟨v, _, rfl, g, u, _, rfl, g', v, _, rfl, g, u, vs, rfl, g', hs⟩)
/-! switches -/
def mz_ts (lo hi : Int) (tg : List Nat) (d : Nat) : mz_S → Option (Nat × mz_S) := fun st => match st.2.1 with
  | [] => none
  | x :: r => match mz_bi x with
    | none => none
    | some b => if b.2 < lo ∨ hi < b.1 then some (d, st.1, r, st.2.2) else bif b.1 == b.2 then (match tg[(b.1 - lo).toNat]? with
      | none => none
      | some t => mz_fn t (fun t => some (t, st.1, r, st.2.2))) else none
theorem mz_tableswitch {df lo hi : Int} {offs : Array Int} {len : Nat} (tg : List Nat) (d : Nat) (h0 : (pc : Int) + df = (d : Int)) (h1 : offs.toList.map (fun o => (pc : Int) + o) = tg.map (fun t : Nat => (t : Int))) (hlo : ∀ z : Int, lo ≤ z → z ≤ hi → (z - lo).toNat < tg.length) (hd : decode M.1 pc = .ok (.tableswitch df lo hi offs, len)) : mz_ok E M pc (mz_ts lo hi tg d) := by
  have inv : ∀ (st : mz_S) (pc' : Nat) (st' : mz_S), mz_ts lo hi tg d st = some (pc', st') → ∃ x r b, st.2.1 = x :: r ∧ mz_bi x = some b ∧ (((b.2 < lo ∨ hi < b.1) ∧ pc' = d) ∨ (¬ (b.2 < lo ∨ hi < b.1) ∧ b.1 = b.2 ∧ tg[(b.1 - lo).toNat]? = some pc')) ∧ st' = (st.1, r, st.2.2) := by
    intro st pc' st' h9
    obtain ⟨l1, s1, w⟩ := st
    rcases s1 with _ | ⟨x, r⟩
    · cases h9
    · unfold mz_ts at h9
      simp only at h9
      cases hx : mz_bi x with
      | none => rw [hx] at h9; cases h9
      | some b =>
        rw [hx] at h9
        simp only at h9
        split at h9
        next hb => cases h9; exact ⟨x, r, b, rfl, hx, Or.inl ⟨hb, rfl⟩, rfl⟩
        next hb =>
          cases hq : (b.1 == b.2) with
          | false => rw [hq] at h9; cases h9
          | true =>
            rw [hq, cond_true] at h9
            split at h9
            next => cases h9
            next t ht =>
              rw [mz_fn_eq] at h9
              cases h9
              exact ⟨x, r, b, rfl, hx, Or.inr ⟨hb, by simpa using hq, ht⟩, rfl⟩
  refine mz_ok_s (fun st pc' st' h9 => by obtain ⟨x, r, b, -, -, -, rfl⟩ := inv st pc' st' h9; rfl) ?_
  intro st pc' st' h9 G p l e R s m args below meth c A ls stk cw H locs cells slots Q hc hr kk
  obtain ⟨x, r, b, g1, g2, g3, rfl⟩ := inv st pc' st' h9
  have hs := hr.2.1
  rw [g1] at hs
  obtain ⟨v, vs, rfl, g, hs⟩ := hs
  obtain ⟨z, rfl, z1, z2⟩ := mz_bi_ok g g2
  rcases g3 with ⟨g3, rfl⟩ | ⟨g3, g4, g5⟩
  · exact lv_tableOut hc.1 hc.2.1 hd (by omega) h0 (kk ls _ hr.1 hs)
  · have hz : z.toInt = b.1 := by omega
    have ho : (offs.toList.map (fun o => (pc : Int) + o))[(b.1 - lo).toNat]? = some (pc' : Int) := by rw [h1, List.getElem?_map, g5]; rfl
    rw [List.getElem?_map] at ho
    cases hof : offs.toList[(b.1 - lo).toNat]? with
    | none => rw [hof] at ho; cases ho
    | some off =>
      rw [hof] at ho
      exact lv_tableIn hc.1 hc.2.1 hd (by omega) (by omega) (off := off) (by rw [hz, ← Array.getElem?_toList]; exact hof) (Option.some.inj ho) (kk ls _ hr.1 hs)
end MZ2
end
section
/-! ===== fields ===== -/
section MZ3
variable {E : List mz_V} {M : mz_M} {pc : Nat}
def mz_gf (ci k n : Nat) : mz_S → Option (Nat × mz_S) := fun st => match st.2.1 with
  | .inr (.inr (.inl (some q))) :: r => match st.2.2[q]? with
    | some (.inr o) => bif Nat.beq o.1 ci then (match o.2[k]? with
      | some a => some (n, st.1, a :: r, st.2.2)
      | none => none) else none
    | _ => none
  | _ => none
theorem mz_getfield {C : String} {T : u_T} {N ci k i : Nat} (hc0 : mz_cl[ci]? = some (C, T, N)) (hin : ∀ w ∈ u_ws C T N, w ∈ mz_big) (hk : k < N) (hw : Cond.fieldLink M.2.2.2.1 i (T k).1 (T k).2.1 (T k).2.2.1 ∈ mz_big) (hd : decode M.1 pc = .ok (.getfield i, 3)) : mz_ok E M pc (mz_gf ci k (pc + 3)) := by
  have inv : ∀ (st : mz_S) (pc' : Nat) (st' : mz_S), mz_gf ci k (pc + 3) st = some (pc', st') → ∃ q r o a, st.2.1 = .inr (.inr (.inl (some q))) :: r ∧ st.2.2[q]? = some (.inr o) ∧ o.1 = ci ∧ o.2[k]? = some a ∧ pc' = pc + 3 ∧ st' = (st.1, a :: r, st.2.2) := by
    intro st pc' st' h
    unfold mz_gf at h
    split at h
    next q r hs =>
      split at h
      next o ho =>
        cases hb : Nat.beq o.1 ci with
        | false => simp only [hb] at h; cases h
        | true =>
          simp only [hb, cond_true] at h
          split at h
          next a ha => cases h; exact ⟨q, r, o, a, hs, ho, Nat.eq_of_beq_eq_true hb, ha, rfl, rfl⟩
          next => cases h
      next => cases h
    next => cases h
  refine mz_ok_s (fun st pc' st' h => by obtain ⟨q, r, o, a, -, -, -, -, -, rfl⟩ := inv st pc' st' h; rfl) ?_
  intro st pc' st' h G p l e R s m args below meth c A ls stk cw H locs cells slots Q hc hr kk
  obtain ⟨q, r, o, a, h1, h2, h3, h4, rfl, rfl⟩ := inv st pc' st' h
  have hs := hr.2.1
  rw [h1] at hs
  obtain ⟨v, vs, rfl, g, hs⟩ := hs
  obtain ⟨ad, ha, rfl⟩ := g
  obtain ⟨cq, c1, c2, fs, c3, c4⟩ := mz_wd_at hr.2.2.1 h2
  obtain ⟨ad2, eq2⟩ := cq
  rw [c2] at ha
  cases ha
  cases c3
  obtain ⟨vf, v1, v2⟩ := mz_sk_get _ _ c4 k a h4
  subst h3
  exact va_get (D := G.2.1) (ci := o.1) (v := vf) (C := C) (T := T) (N := N) hc.1 hc.2.1 hc.2.2.2.2.2.2.2.2.2.1 hin hc.2.2.2.2.1 hc.2.2.2.2.2.2.2.2.2.2.1 hr.2.2.2.1 q c1 hc0 k hk (hc.2.2.2.2.2.2.2.2.2.1 _ hw) (fun _ h9 => h9) v1 hd (kk ls _ hr.1 ⟨vf, vs, rfl, v2, hs⟩)
def mz_pf (ci k : Nat) (t : mz_V → Bool) (n : Nat) : mz_S → Option (Nat × mz_S) := fun st => match st.2.1 with
  | a :: .inr (.inr (.inl (some q))) :: r => match st.2.2[q]? with
    | some (.inr o) => bif Nat.beq o.1 ci && (Nat.blt k o.2.length && t a) then some (n, st.1, r, st.2.2.set q (.inr (o.1, o.2.set k a))) else none
    | _ => none
  | _ => none
theorem mz_pf_inv {ci k n : Nat} {t : mz_V → Bool} (st : mz_S) (pc' : Nat) (st' : mz_S) (h : mz_pf ci k t n st = some (pc', st')) : ∃ a q r o, st.2.1 = a :: .inr (.inr (.inl (some q))) :: r ∧ st.2.2[q]? = some (.inr o) ∧ o.1 = ci ∧ k < o.2.length ∧ t a = true ∧ pc' = n ∧ st' = (st.1, r, st.2.2.set q (.inr (o.1, o.2.set k a))) := by
  unfold mz_pf at h
  split at h
  next a q r hs =>
    split at h
    next o ho =>
      cases hb : (Nat.beq o.1 ci && (Nat.blt k o.2.length && t a)) with
      | false => simp only [hb] at h; cases h
      | true =>
        simp only [hb, cond_true] at h
        cases h
        simp only [Bool.and_eq_true] at hb
        exact ⟨a, q, r, o, hs, ho, Nat.eq_of_beq_eq_true hb.1, by simpa using hb.2.1, hb.2.2, rfl, rfl⟩
    next => cases h
  next => cases h
theorem mz_ok_pf {C : String} {T : u_T} {N ci k n : Nat} {t : mz_V → Bool} (hc0 : mz_cl[ci]? = some (C, T, N)) (row : ∀ (G : mz_E) (ρ : List Nat) (a : mz_V) (v : Value) (p : Program) (l : Launch) (e : Env) (R : Room) (s : State) (m : MethodId) (args : Array Value) (below : List Frame) (meth : Method) (c : Code) (A : Nat → Prop) (ls : Array Slot) (rest : List Value) (cw : va_W) (q0 ad : Nat) (fs : List Value) (H : Heap) (locs : List Loc) (cells slots : Nat) (Q : State → Prop), mz_cx E G M p R s m args meth c A → t a = true → mz_g G.1 ρ a v → va_P G.2.1 mz_cl cw H → va_D A cw → va_S A s.heap H locs → cw[q0]? = some (ad, .inr (ci, fs)) → k < fs.length →
      (∀ (H1 : Heap) (locs1 : List Loc), va_P G.2.1 mz_cl (cw.set q0 (ad, .inr (ci, fs.set k v))) H1 → va_D A (cw.set q0 (ad, .inr (ci, fs.set k v))) → va_S A s.heap H1 locs1 → W p l e R s m args below meth c H1 locs1 cells slots Q (F0 m n ls rest)) → W p l e R s m args below meth c H locs cells slots Q (F0 m pc ls (v :: .ref ad :: rest))) : mz_ok E M pc (mz_pf ci k t n) := by
  refine mz_ok_w (fun st pc' st' h => ?_) ?_
  · obtain ⟨a, q, r, o, -, h2, -, -, -, -, rfl⟩ := mz_pf_inv st pc' st' h
    exact ⟨by simp, mz_sl_set _ _ _ _ h2 (by simp [mz_cs])⟩
  intro st pc' st' h G p l e R s m args below meth c A ls stk cw H locs cells slots Q hc hr kk
  obtain ⟨a, q, r, o, h1, h2, h3, h4, h5, rfl, rfl⟩ := mz_pf_inv st pc' st' h
  have hs := hr.2.1
  rw [h1] at hs
  obtain ⟨v, _, rfl, g, u, vs, rfl, gu, hs⟩ := hs
  obtain ⟨ad, ha, rfl⟩ := gu
  obtain ⟨cq, c1, c2, fs, c3, c4⟩ := mz_wd_at hr.2.2.1 h2
  obtain ⟨ad2, eq2⟩ := cq
  rw [c2] at ha
  cases ha
  cases c3
  subst h3
  refine row G _ a v p l e R s m args below meth c A ls vs cw q ad2 fs H locs cells slots Q hc h5 g hr.2.2.2.1 hr.2.2.2.2.1 hr.2.2.2.2.2 c1 (by rw [mz_sk_len _ _ c4]; exact h4) (fun H1 locs1 P1 D1 S1 => ?_)
  have ef := mz_fst_set (e := .inr (o.1, fs.set k v)) c1
  refine kk vs _ H1 locs1 ⟨by rw [ef]; exact hr.1, by rw [ef]; exact hs, mz_wd_set hr.2.2.1 c1 ⟨fs.set k v, rfl, mz_sk_set g _ _ k c4⟩, P1, D1, S1⟩ (by rw [ef]; exact fun _ _ h => h)
def mz_is01 (a : mz_V) : Bool := match a with
  | .inl x => x == 0 || x == 1
  | _ => false
def mz_isQ (a : mz_V) : Bool := match a with
  | .inr (.inr (.inl _)) => true
  | .inr (.inr (.inr (.inr (.inr (.inr _))))) => true
  | _ => false
theorem mz_is01_ok {X : Nat → Nat} {ρ : List Nat} {a : mz_V} {v : Value} (h : mz_g X ρ a v) (hi : mz_is01 a = true) : v = .int 0 ∨ v = .int 1 := by
  rcases a with x | x | r | r | r | f | n
  · simp only [mz_is01, Bool.or_eq_true, beq_iff_eq] at hi
    rcases hi with rfl | rfl
    · exact Or.inl h
    · exact Or.inr h
  all_goals simp [mz_is01] at hi
theorem mz_isQ_ok {X : Nat → Nat} {ρ : List Nat} {a : mz_V} {v : Value} (h : mz_g X ρ a v) (hi : mz_isQ a = true) : v = .null ∨ ∃ q, v = .ref q := by
  rcases a with x | x | r | r | r | f | n
  · simp [mz_isQ] at hi
  · simp [mz_isQ] at hi
  · rcases r with _ | k
    · exact Or.inl h
    · obtain ⟨q, -, hq⟩ := h
      exact Or.inr ⟨q, hq⟩
  · simp [mz_isQ] at hi
  · simp [mz_isQ] at hi
  · simp [mz_isQ] at hi
  · exact Or.inr ⟨_, h⟩
/-- what a field of a type takes -/
def mz_fit (t : mz_V → Bool) (ty : FieldType) : Prop := ∀ (X : Nat → Nat) (ρ : List Nat) (a : mz_V) (v : Value), t a = true → mz_g X ρ a v → narrow ty v = v ∧ fits ty v = true
theorem mz_fit_int : mz_fit mz_isI .int := fun X ρ a v ht hg => by
  obtain ⟨x, rfl⟩ := mz_isI_ok hg ht
  exact ⟨rfl, rfl⟩
theorem mz_fit_bool : mz_fit mz_is01 .boolean := fun X ρ a v ht hg => by
  rcases mz_is01_ok hg ht with rfl | rfl
  · exact ⟨by decide, by decide⟩
  · exact ⟨by decide, by decide⟩
theorem mz_fit_obj {C : String} : mz_fit mz_isQ (.object C) := fun X ρ a v ht hg => by
  rcases mz_isQ_ok hg ht with rfl | ⟨q, rfl⟩
  · exact ⟨rfl, rfl⟩
  · exact ⟨rfl, rfl⟩
theorem mz_fit_arr {t : FieldType} : mz_fit mz_isQ (.array t) := fun X ρ a v ht hg => by
  rcases mz_isQ_ok hg ht with rfl | ⟨q, rfl⟩
  · exact ⟨rfl, rfl⟩
  · exact ⟨rfl, rfl⟩
theorem mz_putfield {C : String} {T : u_T} {N ci k i : Nat} {t : mz_V → Bool} {ty0 : Nat → FieldType} (hc0 : mz_cl[ci]? = some (C, T, N)) (hin : ∀ w ∈ u_ws C T N, w ∈ mz_big) (hty : ∀ k, k < N → parseFieldDescriptor (T k).2.2.1 = some (ty0 k)) (hnm : ∀ a, a < N → ∀ b, b < N → a ≠ b → (T a).2.1 ≠ (T b).2.1) (hk : k < N) (hft : mz_fit t (ty0 k)) (hfin : (T k).2.2.2 = false) (hw : Cond.fieldLink M.2.2.2.1 i (T k).1 (T k).2.1 (T k).2.2.1 ∈ mz_big) (hd : decode M.1 pc = .ok (.putfield i, 3)) : mz_ok E M pc (mz_pf ci k t (pc + 3)) :=
  mz_ok_pf hc0 (by
    intro G ρ a v p l e R s m args below meth c A ls rest cw q0 ad fs H locs cells slots Q hc ht hg hP hD hS he hl kk
    obtain ⟨f1, f2⟩ := hft _ _ a v ht hg
    exact va_put (D := G.2.1) (ci := ci) (C := C) (T := T) (N := N) (ty := ty0 k) hc.1 hc.2.1 hc.2.2.2.2.2.2.2.2.2.1 hin ty0 hty hnm hc.2.2.2.2.1 hc.2.2.2.2.2.2.2.2.2.2.1 hP hD hS q0 he hc0 k hk (hc.2.2.2.2.2.2.2.2.2.1 _ hw) (fun _ h9 => h9) hfin (hty k hk) f1 f2 hl hd kk)
theorem mz_putfieldF {C : String} {T : u_T} {N ci k i : Nat} {t : mz_V → Bool} {ty0 : Nat → FieldType} (hc0 : mz_cl[ci]? = some (C, T, N)) (hin : ∀ w ∈ u_ws C T N, w ∈ mz_big) (hty : ∀ k, k < N → parseFieldDescriptor (T k).2.2.1 = some (ty0 k)) (hnm : ∀ a, a < N → ∀ b, b < N → a ≠ b → (T a).2.1 ≠ (T b).2.1) (hk : k < N) (hft : mz_fit t (ty0 k)) (hfin : (T k).2.2.2 = true) (hini : M.2.2.2.2.1 = "<init>") (hown : (T k).1 = M.2.2.2.1) (hw : Cond.fieldLink M.2.2.2.1 i (T k).1 (T k).2.1 (T k).2.2.1 ∈ mz_big) (hd : decode M.1 pc = .ok (.putfield i, 3)) : mz_ok E M pc (mz_pf ci k t (pc + 3)) :=
  mz_ok_pf hc0 (by
    intro G ρ a v p l e R s m args below meth c A ls rest cw q0 ad fs H locs cells slots Q hc ht hg hP hD hS he hl kk
    obtain ⟨f1, f2⟩ := hft _ _ a v ht hg
    exact va_putF (D := G.2.1) (ci := ci) (C := C) (T := T) (N := N) (ty := ty0 k) hc.1 hc.2.1 hc.2.2.2.2.2.2.2.2.2.1 hin ty0 hty hnm hc.2.2.2.2.1 hc.2.2.2.2.2.2.2.2.2.2.1 hP hD hS q0 he hc0 k hk (hc.2.2.2.2.2.2.2.2.2.1 _ hw) (fun _ h9 => h9) hfin (hc.2.2.2.2.2.1 hini) hown (hty k hk) f1 f2 hl hd kk)
/-! rows -/
def mz_ix (i : Int32) (len : Nat) : Option Nat := if i < 0 then none else mz_fn i.toNatClampNeg (fun j => bif Nat.blt j len then some j else none)
theorem mz_ix_ok {i : Int32} {len j : Nat} (h : mz_ix i len = some j) : vp_in i len ∧ i.toNatClampNeg = j ∧ j < len := by
  unfold mz_ix at h
  split at h
  next => cases h
  next hi =>
    rw [mz_fn_eq] at h
    cases hb : Nat.blt i.toNatClampNeg len with
    | false => rw [hb] at h; cases h
    | true =>
      rw [hb] at h
      cases h
      have hl : i.toNatClampNeg < len := by simpa using hb
      exact ⟨fun q => by rcases q with q | q; exact hi q; omega, rfl, hl⟩
def mz_al (b : Bool) (n : Nat) : mz_S → Option (Nat × mz_S) := fun st => match st.2.1 with
  | .inl i :: .inr (.inr (.inl (some q))) :: r => match st.2.2[q]? with
    | some (.inl o) => bif o.1 == b then (match mz_ix i o.2.1 with
      | some j => some (n, st.1, mz_ag o.2.2 j :: r, st.2.2)
      | none => none) else none
    | _ => none
  | _ => none
theorem mz_al_inv {b : Bool} {n : Nat} (st : mz_S) (pc' : Nat) (st' : mz_S) (h : mz_al b n st = some (pc', st')) : ∃ i q r o j, st.2.1 = .inl i :: .inr (.inr (.inl (some q))) :: r ∧ st.2.2[q]? = some (.inl o) ∧ o.1 = b ∧ mz_ix i o.2.1 = some j ∧ pc' = n ∧ st' = (st.1, mz_ag o.2.2 j :: r, st.2.2) := by
  unfold mz_al at h
  split at h
  next i q r hs =>
    split at h
    next o ho =>
      cases hb : (o.1 == b) with
      | false => simp only [hb] at h; cases h
      | true =>
        simp only [hb, cond_true] at h
        split at h
        next j hj => cases h; exact ⟨i, q, r, o, j, hs, ho, by simpa using hb, hj, rfl, rfl⟩
        next => cases h
    next => cases h
  next => cases h
theorem mz_ok_al {b : Bool} {n : Nat} (row : ∀ (G : mz_E) (p : Program) (l : Launch) (e : Env) (R : Room) (s : State) (m : MethodId) (args : Array Value) (below : List Frame) (meth : Method) (c : Code) (A : Nat → Prop) (ls : Array Slot) (rest : List Value) (cw : va_W) (q0 ad N : Nat) (f : Nat → Int32) (i : Int32) (H : Heap) (locs : List Loc) (cells slots : Nat) (Q : State → Prop), mz_cx E G M p R s m args meth c A → va_P G.2.1 mz_cl cw H → cw[q0]? = some (ad, .inl (mz_ac G b, N, .inl f)) → vp_in i N →
      W p l e R s m args below meth c H locs cells slots Q (F0 m n ls (.int (f i.toNatClampNeg) :: rest)) → W p l e R s m args below meth c H locs cells slots Q (F0 m pc ls (.int i :: .ref ad :: rest))) : mz_ok E M pc (mz_al b n) := by
  refine mz_ok_s (fun st pc' st' h => by obtain ⟨i, q, r, o, j, -, -, -, -, -, rfl⟩ := mz_al_inv st pc' st' h; rfl) ?_
  intro st pc' st' h G p l e R s m args below meth c A ls stk cw H locs cells slots Q hc hr kk
  obtain ⟨i, q, r, o, j, h1, h2, h3, h4, rfl, rfl⟩ := mz_al_inv st pc' st' h
  have hs := hr.2.1
  rw [h1] at hs
  obtain ⟨v, _, rfl, g, u, vs, rfl, gu, hs⟩ := hs
  have g : v = .int i := g
  subst g
  obtain ⟨ad, ha, rfl⟩ := gu
  obtain ⟨cq, c1, c2, f, c3, c4⟩ := mz_wd_at hr.2.2.1 h2
  obtain ⟨ad2, eq2⟩ := cq
  rw [c2] at ha
  cases ha
  cases c3
  subst h3
  obtain ⟨i1, i2, i3⟩ := mz_ix_ok h4
  refine row G p l e R s m args below meth c A ls vs cw q ad2 o.2.1 f i H locs cells slots Q hc hr.2.2.2.1 c1 i1 (kk ls _ hr.1 ⟨_, vs, rfl, ?_, hs⟩)
  rw [i2]
  exact c4 j i3
theorem mz_iaload (hd : decode M.1 pc = .ok (.iaload, 1)) : mz_ok E M pc (mz_al false (pc + 1)) :=
  mz_ok_al (by intro G p l e R s m args below meth c A ls rest cw q0 ad N f i H locs cells slots Q hc hP he hi k; exact va_iald hc.1 hc.2.1 hc.2.2.2.2.2.2.2.2.2.2.1 hP q0 0 he rfl hi hd k)
theorem mz_zaload (hd : decode M.1 pc = .ok (.baload, 1)) : mz_ok E M pc (mz_al true (pc + 1)) :=
  mz_ok_al (by intro G p l e R s m args below meth c A ls rest cw q0 ad N f i H locs cells slots Q hc hP he hi k; exact va_zald hc.1 hc.2.1 hc.2.2.2.2.2.2.2.2.2.2.1 hP q0 1 he rfl hi hd k)
def mz_ast (b : Bool) (t : mz_V → Bool) (n : Nat) : mz_S → Option (Nat × mz_S) := fun st => match st.2.1 with
  | a :: .inl i :: .inr (.inr (.inl (some q))) :: r => match st.2.2[q]? with
    | some (.inl o) => bif o.1 == b && t a then (match mz_ix i o.2.1 with
      | some j => some (n, st.1, r, st.2.2.set q (.inl (o.1, o.2.1, mz_as o.2.2 j a)))
      | none => none) else none
    | _ => none
  | _ => none
theorem mz_ast_inv {b : Bool} {t : mz_V → Bool} {n : Nat} (st : mz_S) (pc' : Nat) (st' : mz_S) (h : mz_ast b t n st = some (pc', st')) : ∃ a i q r o j, st.2.1 = a :: .inl i :: .inr (.inr (.inl (some q))) :: r ∧ st.2.2[q]? = some (.inl o) ∧ o.1 = b ∧ t a = true ∧ mz_ix i o.2.1 = some j ∧ pc' = n ∧ st' = (st.1, r, st.2.2.set q (.inl (o.1, o.2.1, mz_as o.2.2 j a))) := by
  unfold mz_ast at h
  split at h
  next a i q r hs =>
    split at h
    next o ho =>
      cases hb : (o.1 == b && t a) with
      | false => simp only [hb] at h; cases h
      | true =>
        simp only [hb, cond_true] at h
        rw [Bool.and_eq_true] at hb
        split at h
        next j hj => cases h; exact ⟨a, i, q, r, o, j, hs, ho, by simpa using hb.1, hb.2, hj, rfl, rfl⟩
        next => cases h
    next => cases h
  next => cases h
theorem mz_ok_ast {b : Bool} {t : mz_V → Bool} {n : Nat} (row : ∀ (G : mz_E) (ρ : List Nat) (a : mz_V) (v : Value) (p : Program) (l : Launch) (e : Env) (R : Room) (s : State) (m : MethodId) (args : Array Value) (below : List Frame) (meth : Method) (c : Code) (A : Nat → Prop) (ls : Array Slot) (rest : List Value) (cw : va_W) (q0 ad N : Nat) (f : Nat → Int32) (i : Int32) (H : Heap) (locs : List Loc) (cells slots : Nat) (Q : State → Prop), mz_cx E G M p R s m args meth c A → t a = true → mz_g G.1 ρ a v → va_P G.2.1 mz_cl cw H → va_D A cw → va_S A s.heap H locs → cw[q0]? = some (ad, .inl (mz_ac G b, N, .inl f)) → vp_in i N →
      (∀ (x : Int32) (H1 : Heap) (locs1 : List Loc), v = .int x → va_P G.2.1 mz_cl (cw.set q0 (ad, .inl (mz_ac G b, N, .inl (upd f i.toNatClampNeg x)))) H1 → va_D A (cw.set q0 (ad, .inl (mz_ac G b, N, .inl (upd f i.toNatClampNeg x)))) → va_S A s.heap H1 locs1 → W p l e R s m args below meth c H1 locs1 cells slots Q (F0 m n ls rest)) → W p l e R s m args below meth c H locs cells slots Q (F0 m pc ls (v :: .int i :: .ref ad :: rest))) : mz_ok E M pc (mz_ast b t n) := by
  refine mz_ok_w (fun st pc' st' h => ?_) ?_
  · obtain ⟨a, i, q, r, o, j, -, h2, -, -, -, -, rfl⟩ := mz_ast_inv st pc' st' h
    exact ⟨by simp, mz_sl_set _ _ _ _ h2 rfl⟩
  intro st pc' st' h G p l e R s m args below meth c A ls stk cw H locs cells slots Q hc hr kk
  obtain ⟨a, i, q, r, o, j, h1, h2, h3, h4, h5, rfl, rfl⟩ := mz_ast_inv st pc' st' h
  have hs := hr.2.1
  rw [h1] at hs
  obtain ⟨v, _, rfl, g, u, _, rfl, gu, z, vs, rfl, gz, hs⟩ := hs
  have gu : u = .int i := gu
  subst gu
  obtain ⟨ad, ha, rfl⟩ := gz
  obtain ⟨cq, c1, c2, f, c3, c4⟩ := mz_wd_at hr.2.2.1 h2
  obtain ⟨ad2, eq2⟩ := cq
  rw [c2] at ha
  cases ha
  cases c3
  subst h3
  obtain ⟨i1, i2, i3⟩ := mz_ix_ok h5
  refine row G _ a v p l e R s m args below meth c A ls vs cw q ad2 o.2.1 f i H locs cells slots Q hc h4 g hr.2.2.2.1 hr.2.2.2.2.1 hr.2.2.2.2.2 c1 i1 (fun x H1 locs1 hv P1 D1 S1 => ?_)
  subst hv
  have ef := mz_fst_set (e := .inl (mz_ac G o.1, o.2.1, .inl (upd f i.toNatClampNeg x))) c1
  refine kk vs _ H1 locs1 ⟨by rw [ef]; exact hr.1, by rw [ef]; exact hs, mz_wd_set hr.2.2.1 c1 ⟨upd f i.toNatClampNeg x, rfl, fun j' hj' => ?_⟩, P1, D1, S1⟩ (by rw [ef]; exact fun _ _ h => h)
  show mz_g G.1 _ (mz_ag (mz_as o.2.2 j a) j') _
  rw [mz_ag_as, i2]
  by_cases hjj : j' = j
  · rw [if_pos hjj]
    unfold upd
    rw [if_pos hjj]
    exact g
  · rw [if_neg hjj]
    unfold upd
    rw [if_neg hjj]
    exact c4 j' hj'
theorem mz_iastore (hd : decode M.1 pc = .ok (.iastore, 1)) : mz_ok E M pc (mz_ast false mz_isI (pc + 1)) :=
  mz_ok_ast (by
    intro G ρ a v p l e R s m args below meth c A ls rest cw q0 ad N f i H locs cells slots Q hc ht hg hP hD hS he hi k
    obtain ⟨x, rfl⟩ := mz_isI_ok hg ht
    exact va_iast hc.1 hc.2.1 hc.2.2.2.2.2.2.2.2.2.2.1 hP hD hS q0 0 he rfl hi hd (fun H1 locs1 P1 D1 S1 => k x H1 locs1 rfl P1 D1 S1))
theorem mz_zastore (hd : decode M.1 pc = .ok (.bastore, 1)) : mz_ok E M pc (mz_ast true mz_is01 (pc + 1)) :=
  mz_ok_ast (by
    intro G ρ a v p l e R s m args below meth c A ls rest cw q0 ad N f i H locs cells slots Q hc ht hg hP hD hS he hi k
    rcases mz_is01_ok hg ht with rfl | rfl
    · exact va_zast hc.1 hc.2.1 hc.2.2.2.2.2.2.2.2.2.2.1 hP hD hS q0 1 he rfl hi hd (fun H1 locs1 P1 D1 S1 => k 0 H1 locs1 rfl P1 D1 S1)
    · exact va_zast hc.1 hc.2.1 hc.2.2.2.2.2.2.2.2.2.2.1 hP hD hS q0 1 he rfl hi hd (fun H1 locs1 P1 D1 S1 => k 1 H1 locs1 rfl P1 D1 S1))
/-! rows outside of the world -/
def mz_xl (x : Nat) (cs : List mz_V) (n : Nat) : mz_S → Option (Nat × mz_S) := fun st => match st.2.1 with
  | .inl i :: .inr (.inr (.inr (.inr (.inr (.inr q))))) :: r => bif Nat.beq q x then (match mz_ix i cs.length with
      | some j => (match cs[j]? with
        | some a => some (n, st.1, a :: r, st.2.2)
        | none => none)
      | none => none) else none
  | _ => none
theorem mz_ok_xl {x : Nat} {cs : List mz_V} (hx : ∀ (G : mz_E) (A : Nat → Prop) (s : State), mz_ex E G A s s.heap → ∃ f : Nat → Int32, va_T .int (G.1 x) cs.length (fun j => .int (f j)) A s s.heap ∧ ∀ (j : Nat) (a : mz_V) (ρ : List Nat), cs[j]? = some a → mz_g G.1 ρ a (.int (f j))) (hd : decode M.1 pc = .ok (.iaload, 1)) : mz_ok E M pc (mz_xl x cs (pc + 1)) := by
  have inv : ∀ (st : mz_S) (pc' : Nat) (st' : mz_S), mz_xl x cs (pc + 1) st = some (pc', st') → ∃ i r j a, st.2.1 = .inl i :: .inr (.inr (.inr (.inr (.inr (.inr x))))) :: r ∧ mz_ix i cs.length = some j ∧ cs[j]? = some a ∧ pc' = pc + 1 ∧ st' = (st.1, a :: r, st.2.2) := by
    intro st pc' st' h
    unfold mz_xl at h
    split at h
    next i q r hs =>
      cases hb : Nat.beq q x with
      | false => simp only [hb] at h; cases h
      | true =>
        simp only [hb, cond_true] at h
        have e := Nat.eq_of_beq_eq_true hb
        subst e
        split at h
        next j hj =>
          split at h
          next a ha => cases h; exact ⟨i, r, j, a, hs, hj, ha, rfl, rfl⟩
          next => cases h
        next => cases h
    next => cases h
  refine mz_ok_s (fun st pc' st' h => by obtain ⟨i, r, j, a, -, -, -, -, rfl⟩ := inv st pc' st' h; rfl) ?_
  intro st pc' st' h G p l e R s m args below meth c A ls stk cw H locs cells slots Q hc hr kk
  obtain ⟨i, r, j, a, h1, h2, h3, rfl, rfl⟩ := inv st pc' st' h
  have hs := hr.2.1
  rw [h1] at hs
  obtain ⟨v, _, rfl, g, u, vs, rfl, gu, hs⟩ := hs
  have g : v = .int i := g
  subst g
  have gu : u = .ref (G.1 x) := gu
  subst gu
  obtain ⟨f, f1, f2⟩ := hx G A s hc.2.2.2.2.2.2.2.2.2.2.2.2.1
  obtain ⟨i1, i2, i3⟩ := mz_ix_ok h2
  refine va_ti hc.1 hc.2.1 f1 hr.2.2.2.2.2 i1 (v := .int (f j)) (by rw [i2]) hd (kk ls _ hr.1 ⟨_, vs, rfl, f2 j a _ h3, hs⟩)
theorem mz_g_nil {X : Nat → Nat} {ρ : List Nat} {a : mz_V} {v : Value} (h : mz_g X [] a v) : mz_g X ρ a v := mz_g_mono (fun k q hk => by simp at hk) h
theorem mz_xlScr (hd : decode M.1 pc = .ok (.iaload, 1)) : mz_ok E M pc (mz_xl 0 E (pc + 1)) :=
  mz_ok_xl (fun G A s h => ⟨G.2.2.2.2, h.1.1, fun j a ρ ha => mz_g_nil (h.1.2 j a ha)⟩) hd
def mz_thrV : List mz_V := [.inl 0, .inl 1, .inl 3, .inl 4, .inl 9, .inl 10, .inl 12, .inl 13]
theorem mz_xlThr (hd : decode M.1 pc = .ok (.iaload, 1)) : mz_ok E M pc (mz_xl 1 mz_thrV (pc + 1)) :=
  mz_ok_xl (fun G A s h => ⟨fun j => mz_thr.getD j 0, h.2.2.1, fun j a ρ ha => by
    rcases j with _ | _ | _ | _ | _ | _ | _ | _ | j
    all_goals first | (simp only [mz_thrV, List.getElem?_cons_zero, List.getElem?_cons_succ, Option.some.injEq] at ha; subst ha; rfl) | (simp [mz_thrV] at ha)⟩) hd
def mz_xn (x len : Nat) (n : Nat) : mz_S → Option (Nat × mz_S) := fun st => match st.2.1 with
  | .inr (.inr (.inr (.inr (.inr (.inr q))))) :: r => bif Nat.beq q x then some (n, st.1, .inl (Int32.ofNat len) :: r, st.2.2) else none
  | _ => none
theorem mz_slen (hd : decode M.1 pc = .ok (.arraylength, 1)) : mz_ok E M pc (mz_xn 0 E.length (pc + 1)) := by
  have inv : ∀ (st : mz_S) (pc' : Nat) (st' : mz_S), mz_xn 0 E.length (pc + 1) st = some (pc', st') → ∃ r, st.2.1 = .inr (.inr (.inr (.inr (.inr (.inr 0))))) :: r ∧ pc' = pc + 1 ∧ st' = (st.1, .inl (Int32.ofNat E.length) :: r, st.2.2) := by
    intro st pc' st' h
    unfold mz_xn at h
    split at h
    next q r hs =>
      cases hb : Nat.beq q 0 with
      | false => simp only [hb] at h; cases h
      | true =>
        simp only [hb, cond_true] at h
        have e := Nat.eq_of_beq_eq_true hb
        subst e
        cases h
        exact ⟨r, hs, rfl, rfl⟩
    next => cases h
  refine mz_ok_s (fun st pc' st' h => by obtain ⟨r, -, -, rfl⟩ := inv st pc' st' h; rfl) ?_
  intro st pc' st' h G p l e R s m args below meth c A ls stk cw H locs cells slots Q hc hr kk
  obtain ⟨r, h1, rfl, rfl⟩ := inv st pc' st' h
  have hs := hr.2.1
  rw [h1] at hs
  obtain ⟨v, vs, rfl, g, hs⟩ := hs
  have g : v = .ref (G.1 0) := g
  subst g
  exact va_tlen hc.1 hc.2.1 hc.2.2.2.2.2.2.2.2.2.2.2.2.1.1.1 hr.2.2.2.2.2 rfl hd (kk ls _ hr.1 ⟨_, vs, rfl, rfl, hs⟩)
/-- the length of a word's bytes; a word's bytes and coder -/
def mz_bn (n : Nat) : mz_S → Option (Nat × mz_S) := fun st => match st.2.1 with
  | .inr (.inr (.inr (.inr (.inr (.inr q))))) :: r => bif Nat.ble 10 q && Nat.blt q 18 then some (n, st.1, .inl (Int32.ofNat (mz_len.getD (q - 10) 0)) :: r, st.2.2) else none
  | _ => none
theorem mz_blen (hd : decode M.1 pc = .ok (.arraylength, 1)) : mz_ok E M pc (mz_bn (pc + 1)) := by
  have inv : ∀ (st : mz_S) (pc' : Nat) (st' : mz_S), mz_bn (pc + 1) st = some (pc', st') → ∃ q r, st.2.1 = .inr (.inr (.inr (.inr (.inr (.inr q))))) :: r ∧ 10 ≤ q ∧ q < 18 ∧ pc' = pc + 1 ∧ st' = (st.1, .inl (Int32.ofNat (mz_len.getD (q - 10) 0)) :: r, st.2.2) := by
    intro st pc' st' h
    unfold mz_bn at h
    split at h
    next q r hs =>
      cases hb : (Nat.ble 10 q && Nat.blt q 18) with
      | false => simp only [hb] at h; cases h
      | true =>
        simp only [hb, cond_true] at h
        cases h
        rw [Bool.and_eq_true] at hb
        exact ⟨q, r, hs, Nat.le_of_ble_eq_true hb.1, by simpa using hb.2, rfl, rfl⟩
    next => cases h
  refine mz_ok_s (fun st pc' st' h => by obtain ⟨q, r, -, -, -, -, rfl⟩ := inv st pc' st' h; rfl) ?_
  intro st pc' st' h G p l e R s m args below meth c A ls stk cw H locs cells slots Q hc hr kk
  obtain ⟨q, r, h1, q1, q2, rfl, rfl⟩ := inv st pc' st' h
  have hs := hr.2.1
  rw [h1] at hs
  obtain ⟨v, vs, rfl, g, hs⟩ := hs
  have g : v = .ref (G.1 q) := g
  subst g
  have hT := (hc.2.2.2.2.2.2.2.2.2.2.2.2.1.2.2.2.2.1 (q - 10) (by omega)).2.2.2
  have e1 : q - 10 + 10 = q := by omega
  dsimp only at hT
  rw [e1] at hT
  exact va_tlen hc.1 hc.2.1 hT hr.2.2.2.2.2 rfl hd (kk ls _ hr.1 ⟨_, vs, rfl, rfl, hs⟩)
def mz_xf (b : Bool) (n : Nat) : mz_S → Option (Nat × mz_S) := fun st => match st.2.1 with
  | .inr (.inr (.inr (.inr (.inr (.inr q))))) :: r => bif Nat.ble 2 q && Nat.blt q 10 then (match b with
    | true => mz_fn (q + 8) (fun q' => some (n, st.1, .inr (.inr (.inr (.inr (.inr (.inr q'))))) :: r, st.2.2))
    | false => some (n, st.1, .inl 0 :: r, st.2.2)) else none
  | _ => none
def mz_xv (b : Bool) (q : Nat) : mz_V := match b with
  | true => .inr (.inr (.inr (.inr (.inr (.inr (q + 8))))))
  | false => .inl 0
theorem mz_xf_inv {b : Bool} {n : Nat} (st : mz_S) (pc' : Nat) (st' : mz_S) (h : mz_xf b n st = some (pc', st')) : ∃ q r, st.2.1 = .inr (.inr (.inr (.inr (.inr (.inr q))))) :: r ∧ 2 ≤ q ∧ q < 10 ∧ pc' = n ∧ st' = (st.1, mz_xv b q :: r, st.2.2) := by
  unfold mz_xf at h
  split at h
  next q r hs =>
    cases hb : (Nat.ble 2 q && Nat.blt q 10) with
    | false => simp only [hb] at h; cases h
    | true =>
      simp only [hb, cond_true] at h
      rw [Bool.and_eq_true] at hb
      cases b with
      | true =>
        simp only at h
        rw [mz_fn_eq] at h
        cases h
        exact ⟨q, r, hs, Nat.le_of_ble_eq_true hb.1, by simpa using hb.2, rfl, rfl⟩
      | false =>
        cases h
        exact ⟨q, r, hs, Nat.le_of_ble_eq_true hb.1, by simpa using hb.2, rfl, rfl⟩
  next => cases h
theorem mz_gfVal {i : Nat} (hw : Cond.fieldLink M.2.2.2.1 i "java/lang/String" "value" "[B" ∈ mz_big) (hd : decode M.1 pc = .ok (.getfield i, 3)) : mz_ok E M pc (mz_xf true (pc + 3)) := by
  refine mz_ok_s (fun st pc' st' h => by obtain ⟨q, r, -, -, -, -, rfl⟩ := mz_xf_inv st pc' st' h; rfl) ?_
  intro st pc' st' h G p l e R s m args below meth c A ls stk cw H locs cells slots Q hc hr kk
  obtain ⟨q, r, h1, q1, q2, rfl, rfl⟩ := mz_xf_inv st pc' st' h
  have hs := hr.2.1
  rw [h1] at hs
  obtain ⟨v, vs, rfl, g, hs⟩ := hs
  have g : v = .ref (G.1 q) := g
  subst g
  have hT := (hc.2.2.2.2.2.2.2.2.2.2.2.2.1.2.2.2.2.1 (q - 2) (by omega)).2.2.1
  have e1 : q - 2 + 2 = q := by omega
  have e2 : q - 2 + 10 = q + 8 := by omega
  dsimp only at hT
  rw [e1, e2] at hT
  exact vk_getf hc.1 hc.2.1 hT hr.2.2.2.2.2 hc.2.2.2.2.1 (hc.2.2.2.2.2.2.2.2.2.1 _ hw) (fun _ h9 => h9) hd (kk ls _ hr.1 ⟨_, vs, rfl, rfl, hs⟩)
theorem mz_gfCod {i : Nat} (hw : Cond.fieldLink M.2.2.2.1 i "java/lang/String" "coder" "B" ∈ mz_big) (hd : decode M.1 pc = .ok (.getfield i, 3)) : mz_ok E M pc (mz_xf false (pc + 3)) := by
  refine mz_ok_s (fun st pc' st' h => by obtain ⟨q, r, -, -, -, -, rfl⟩ := mz_xf_inv st pc' st' h; rfl) ?_
  intro st pc' st' h G p l e R s m args below meth c A ls stk cw H locs cells slots Q hc hr kk
  obtain ⟨q, r, h1, q1, q2, rfl, rfl⟩ := mz_xf_inv st pc' st' h
  have hs := hr.2.1
  rw [h1] at hs
  obtain ⟨v, vs, rfl, g, hs⟩ := hs
  have g : v = .ref (G.1 q) := g
  subst g
  have hT := (hc.2.2.2.2.2.2.2.2.2.2.2.2.1.2.2.2.2.1 (q - 2) (by omega)).2.1
  have e1 : q - 2 + 2 = q := by omega
  dsimp only at hT
  rw [e1] at hT
  exact vk_getf hc.1 hc.2.1 hT hr.2.2.2.2.2 hc.2.2.2.2.1 (hc.2.2.2.2.2.2.2.2.2.1 _ hw) (fun _ h9 => h9) hd (kk ls _ hr.1 ⟨_, vs, rfl, rfl, hs⟩)
end MZ3
end
section
/-! ===== what is made ===== -/
section MZ4
variable {E : List mz_V} {M : mz_M} {pc : Nat}
theorem mz_ok_p {f : mz_S → Option (Nat × mz_S)} (cf : mz_S → mz_C) (hf : ∀ (st : mz_S) (pc' : Nat) (st' : mz_S), f st = some (pc', st') → st'.2.2 = st.2.2 ++ [cf st])
    (h : ∀ (st : mz_S) (pc' : Nat) (st' : mz_S), f st = some (pc', st') → ∀ (G : mz_E) (p : Program) (l : Launch) (e : Env) (R : Room) (s : State) (m : MethodId) (args : Array Value) (below : List Frame) (meth : Method) (c : Code) (A : Nat → Prop) (ls : Array Slot) (stk : List Value) (cw : va_W) (H : Heap) (locs : List Loc) (cells slots : Nat) (Q : State → Prop),
      mz_cx E G M p R s m args meth c A → mz_rl G M s A st ls stk cw H locs → cells + 1 ≤ R.cells → slots + mz_cs (cf st) ≤ R.slots →
      (∀ (stk' : List Value) (cw' : va_W) (H' : Heap) (locs' : List Loc), mz_rl G M s A st' ls stk' cw' H' locs' → (∀ (k q : Nat), (cw.map Prod.fst)[k]? = some q → (cw'.map Prod.fst)[k]? = some q) → W p l e R s m args below meth c H' locs' (cells + 1) (slots + mz_cs (cf st)) Q (F0 m pc' ls stk')) → W p l e R s m args below meth c H locs cells slots Q (F0 m pc ls stk)) : mz_ok E M pc f := by
  intro st pc' st' hst
  have hw := hf st pc' st' hst
  have e1 : st'.2.2.length - st.2.2.length = 1 := by rw [hw]; simp
  have e2 : mz_sl st'.2.2 - mz_sl st.2.2 = mz_cs (cf st) := by rw [hw, mz_sl_app]; omega
  refine ⟨⟨by rw [hw]; simp, by rw [hw, mz_sl_app]; omega⟩, ?_⟩
  intro G p l e R s m args below meth c A ls stk cw H locs cells slots Q hc hr h1 h2 kk
  rw [e1] at h1
  rw [e2] at h2
  refine h st pc' st' hst G p l e R s m args below meth c A ls stk cw H locs cells slots Q hc hr h1 h2 (fun stk' cw' H' locs' g1 g2 => ?_)
  have k := kk ls stk' cw' H' locs' g1 g2
  rw [e1, e2] at k
  exact k
theorem mz_push_rl {G : mz_E} {s : State} {A : Nat → Prop} {l1 : List (Nat × mz_V)} {r s1 : List mz_V} {w : List mz_C} {ls : Array Slot} {vs stk : List Value} {cw : va_W} {H H1 : Heap} {locs locs1 : List Loc} {ad : Nat} {cc : mz_C} {ec : va_E} (hr : mz_rl G M s A (l1, s1, w) ls stk cw H locs) (hs : mz_sk G.1 (cw.map Prod.fst) r vs) (hc : mz_ce G (cw.map Prod.fst ++ [ad]) cc ec) (P1 : va_P G.2.1 mz_cl (cw ++ [(ad, ec)]) H1) (D1 : va_D A (cw ++ [(ad, ec)])) (S1 : va_S A s.heap H1 locs1) :
    mz_rl G M s A (l1, .inr (.inr (.inl (some w.length))) :: r, w ++ [cc]) ls (.ref ad :: vs) (cw ++ [(ad, ec)]) H1 locs1 ∧ ∀ (k q : Nat), (cw.map Prod.fst)[k]? = some q → ((cw ++ [(ad, ec)]).map Prod.fst)[k]? = some q := by
  have hp : ∀ (k q : Nat), (cw.map Prod.fst)[k]? = some q → ((cw ++ [(ad, ec)]).map Prod.fst)[k]? = some q := by
    intro k q hk
    rw [List.map_append]
    exact mz_pre_app _ _ k q hk
  refine ⟨⟨mz_lv_mono hp hr.1, ⟨.ref ad, vs, rfl, ⟨ad, ?_, rfl⟩, mz_sk_mono hp _ _ hs⟩, mz_wd_push hr.2.2.1 hc, P1, D1, S1⟩, hp⟩
  have hl : w.length = cw.length := hr.2.2.1.1
  rw [List.map_append, List.getElem?_append_right (by simp [hl])]
  simp [hl]
def mz_na (b : Bool) (n : Nat) : mz_S → Option (Nat × mz_S) := fun st => match st.2.1 with
  | .inl x :: r => if x < 0 then none else mz_fn x.toNatClampNeg (fun N => bif Nat.ble N 100000 then mz_fn st.2.2.length (fun k => some (n, st.1, .inr (.inr (.inl (some k))) :: r, st.2.2 ++ [.inl (b, N, [])])) else none)
  | _ => none
theorem mz_na_inv {b : Bool} {n : Nat} (st : mz_S) (pc' : Nat) (st' : mz_S) (h : mz_na b n st = some (pc', st')) : ∃ x r, st.2.1 = .inl x :: r ∧ ¬ x < 0 ∧ x.toNatClampNeg ≤ 100000 ∧ pc' = n ∧ st' = (st.1, .inr (.inr (.inl (some st.2.2.length))) :: r, st.2.2 ++ [.inl (b, x.toNatClampNeg, [])]) := by
  unfold mz_na at h
  split at h
  next x r hs =>
    split at h
    next => cases h
    next hx =>
      rw [mz_fn_eq] at h
      cases hb : Nat.ble x.toNatClampNeg 100000 with
      | false => rw [hb] at h; cases h
      | true =>
        rw [hb, cond_true, mz_fn_eq] at h
        cases h
        exact ⟨x, r, hs, hx, Nat.le_of_ble_eq_true hb, rfl, rfl⟩
  next => cases h
def mz_na_c (b : Bool) (st : mz_S) : mz_C := match st.2.1 with
  | .inl x :: _ => .inl (b, x.toNatClampNeg, [])
  | _ => .inl (b, 0, [])
theorem mz_RA_int {G : mz_E} {s : State} {cA : ClassId} (hK : va_K G.2.1 mz_cl (mz_tys G) s) (h : va_RA s cA .int) : cA = mz_ac G false := by
  have h0 := (hK.2 0 (G.2.2.1, .int) rfl).2
  have h1 : s.vm.findClass ("[" ++ (FieldType.int).toString) = some G.2.2.1 := h0
  have h2 : s.vm.findClass ("[" ++ (FieldType.int).toString) = some cA := h
  rw [h1] at h2
  exact (Option.some.inj h2).symm
theorem mz_RA_bool {G : mz_E} {s : State} {cA : ClassId} (hK : va_K G.2.1 mz_cl (mz_tys G) s) (h : va_RA s cA .boolean) : cA = mz_ac G true := by
  have h0 := (hK.2 1 (G.2.2.2.1, .boolean) rfl).2
  have h1 : s.vm.findClass ("[" ++ (FieldType.boolean).toString) = some G.2.2.2.1 := h0
  have h2 : s.vm.findClass ("[" ++ (FieldType.boolean).toString) = some cA := h
  rw [h1] at h2
  exact (Option.some.inj h2).symm
theorem mz_newI (hw : Cond.arrayClass .int ∈ mz_big) (hd : decode M.1 pc = .ok (.newarray .int, 2)) : mz_ok E M pc (mz_na false (pc + 2)) := by
  refine mz_ok_p (mz_na_c false) (fun st pc' st' h => ?_) ?_
  · obtain ⟨x, r, h1, -, -, -, rfl⟩ := mz_na_inv st pc' st' h
    simp [mz_na_c, h1]
  intro st pc' st' h G p l e R s m args below meth c A ls stk cw H locs cells slots Q hc hr b1 b2 kk
  obtain ⟨x, r, h1, h2, h3, rfl, rfl⟩ := mz_na_inv st pc' st' h
  have hs := hr.2.1
  rw [h1] at hs
  obtain ⟨v, vs, rfl, g, hs⟩ := hs
  have g : v = .int x := g
  subst g
  have ec : mz_cs (mz_na_c false st) = x.toNatClampNeg := by simp [mz_na_c, h1, mz_cs]
  rw [ec] at b2 kk
  refine va_newa (atype := .int) (ty := .int) (a0 := (x.toNatClampNeg, .inl (fun _ => 0))) hc.1 hc.2.1 (hc.2.2.2.2.2.2.2.2.2.1 _ hw) rfl hc.2.2.2.2.2.2.2.2.2.2.1 hr.2.2.2.1 hr.2.2.2.2.1 hr.2.2.2.2.2 hc.2.2.2.2.2.2.2.2.2.2.2.1 (fun _ => rfl) h2 rfl (by simp [componentBytes]; omega) b1 b2 hd (fun q cA H1 K1 P1 D1 S1 => ?_)
  have eA := mz_RA_int hc.2.2.2.2.2.2.2.2.2.2.1 (K1.2 2 (cA, .int) rfl).2
  subst eA
  obtain ⟨g1, g2⟩ := mz_push_rl (M := M) (l1 := st.1) (s1 := st.2.1) (w := st.2.2) (r := r) (vs := vs) (cc := .inl (false, x.toNatClampNeg, [])) hr hs ⟨fun _ => 0, rfl, fun j _ => rfl⟩ P1 D1 S1
  exact kk _ _ _ _ g1 g2
theorem mz_newZ (hw : Cond.arrayClass .boolean ∈ mz_big) (hd : decode M.1 pc = .ok (.newarray .boolean, 2)) : mz_ok E M pc (mz_na true (pc + 2)) := by
  refine mz_ok_p (mz_na_c true) (fun st pc' st' h => ?_) ?_
  · obtain ⟨x, r, h1, -, -, -, rfl⟩ := mz_na_inv st pc' st' h
    simp [mz_na_c, h1]
  intro st pc' st' h G p l e R s m args below meth c A ls stk cw H locs cells slots Q hc hr b1 b2 kk
  obtain ⟨x, r, h1, h2, h3, rfl, rfl⟩ := mz_na_inv st pc' st' h
  have hs := hr.2.1
  rw [h1] at hs
  obtain ⟨v, vs, rfl, g, hs⟩ := hs
  have g : v = .int x := g
  subst g
  have ec : mz_cs (mz_na_c true st) = x.toNatClampNeg := by simp [mz_na_c, h1, mz_cs]
  rw [ec] at b2 kk
  refine va_newa (atype := .boolean) (ty := .boolean) (a0 := (x.toNatClampNeg, .inl (fun _ => 0))) hc.1 hc.2.1 (hc.2.2.2.2.2.2.2.2.2.1 _ hw) rfl hc.2.2.2.2.2.2.2.2.2.2.1 hr.2.2.2.1 hr.2.2.2.2.1 hr.2.2.2.2.2 hc.2.2.2.2.2.2.2.2.2.2.2.1 (fun _ => rfl) h2 rfl (by simp [componentBytes]; omega) b1 b2 hd (fun q cA H1 K1 P1 D1 S1 => ?_)
  have eA := mz_RA_bool hc.2.2.2.2.2.2.2.2.2.2.1 (K1.2 2 (cA, .boolean) rfl).2
  subst eA
  obtain ⟨g1, g2⟩ := mz_push_rl (M := M) (l1 := st.1) (s1 := st.2.1) (w := st.2.2) (r := r) (vs := vs) (cc := .inl (true, x.toNatClampNeg, [])) hr hs ⟨fun _ => 0, rfl, fun j _ => rfl⟩ P1 D1 S1
  exact kk _ _ _ _ g1 g2
def mz_nw (ci : Nat) (fs : List mz_V) (n : Nat) : mz_S → Option (Nat × mz_S) := fun st => mz_fn st.2.2.length (fun k => some (n, st.1, .inr (.inr (.inl (some k))) :: st.2.1, st.2.2 ++ [.inr (ci, fs)]))
theorem mz_new {C : String} {T : u_T} {N ci i : Nat} {ty0 : Nat → FieldType} {fs : List mz_V} (vs : List Value) (hc0 : mz_cl[ci]? = some (C, T, N)) (hin : ∀ w ∈ u_ws C T N, w ∈ mz_big) (hty : ∀ k, k < N → parseFieldDescriptor (T k).2.2.1 = some (ty0 k)) (hl : fs.length = N) (hfs : ∀ j, j < N → defaultValue (ty0 j) = vp_V vs j) (hsk : ∀ (X : Nat → Nat) (ρ : List Nat), mz_sk X ρ fs vs) (w1 : Cond.classLink M.2.2.2.1 i C ∈ mz_big) (w2 : Cond.instantiable C N ∈ mz_big) (w3 : Cond.initialized C ∈ mz_big) (hd : decode M.1 pc = .ok (.new i, 3)) : mz_ok E M pc (mz_nw ci fs (pc + 3)) := by
  have inv : ∀ (st : mz_S) (pc' : Nat) (st' : mz_S), mz_nw ci fs (pc + 3) st = some (pc', st') → pc' = pc + 3 ∧ st' = (st.1, .inr (.inr (.inl (some st.2.2.length))) :: st.2.1, st.2.2 ++ [.inr (ci, fs)]) := by
    intro st pc' st' h
    unfold mz_nw at h
    rw [mz_fn_eq] at h
    cases h
    exact ⟨rfl, rfl⟩
  refine mz_ok_p (fun _ => .inr (ci, fs)) (fun st pc' st' h => by obtain ⟨-, rfl⟩ := inv st pc' st' h; rfl) ?_
  intro st pc' st' h G p l e R s m args below meth c A ls stk cw H locs cells slots Q hc hr b1 b2 kk
  obtain ⟨rfl, rfl⟩ := inv st pc' st' h
  have ec : mz_cs (.inr (ci, fs)) = N := hl
  rw [ec] at b2 kk
  have hts := hc.2.2.2.2.2.2.2.2.2.1
  refine va_new (ci := ci) (fs := vs) (C := C) (T := T) (N := N) hc.1 hc.2.1 hts hin ty0 hty hc.2.2.2.2.1 (hts _ w1) (hts _ w2) (hts _ w3) hc.2.2.2.2.2.2.2.2.2.2.1 hr.2.2.2.1 hr.2.2.2.2.1 hr.2.2.2.2.2 hc.2.2.2.2.2.2.2.2.2.2.2.1 hc0 hfs b1 b2 hd (fun q H1 P1 D1 S1 => ?_)
  obtain ⟨g1, g2⟩ := mz_push_rl (M := M) (l1 := st.1) (s1 := st.2.1) (w := st.2.2) (r := st.2.1) (vs := stk) (cc := .inr (ci, fs)) hr hr.2.1 ⟨vs, rfl, hsk _ _⟩ P1 D1 S1
  exact kk _ _ _ _ g1 g2
/-! a row's copy, and its cast -/
def mz_cl1 (n : Nat) : mz_S → Option (Nat × mz_S) := fun st => match st.2.1 with
  | .inr (.inr (.inl (some q))) :: r => match st.2.2[q]? with
    | some (.inl o) => bif o.1 then none else bif Nat.ble (r.map mz_cat).sum 8 then mz_fn st.2.2.length (fun k => some (n, st.1, .inr (.inr (.inl (some k))) :: r, st.2.2 ++ [.inl o])) else none
    | _ => none
  | _ => none
theorem mz_cl1_inv {n : Nat} (st : mz_S) (pc' : Nat) (st' : mz_S) (h : mz_cl1 n st = some (pc', st')) : ∃ q r o, st.2.1 = .inr (.inr (.inl (some q))) :: r ∧ st.2.2[q]? = some (.inl o) ∧ o.1 = false ∧ (r.map mz_cat).sum ≤ 8 ∧ pc' = n ∧ st' = (st.1, .inr (.inr (.inl (some st.2.2.length))) :: r, st.2.2 ++ [.inl o]) := by
  unfold mz_cl1 at h
  split at h
  next q r hs =>
    split at h
    next o ho =>
      cases hb : o.1 with
      | true => simp only [hb] at h; cases h
      | false =>
        simp only [hb, cond_false] at h
        cases hb2 : Nat.ble (r.map mz_cat).sum 8 with
        | false => simp only [hb2] at h; cases h
        | true =>
          simp only [hb2, cond_true] at h
          rw [mz_fn_eq] at h
          cases h
          exact ⟨q, r, o, hs, ho, hb, Nat.le_of_ble_eq_true hb2, rfl, rfl⟩
    next => cases h
  next => cases h
def mz_cl1_c (st : mz_S) : mz_C := match st.2.1 with
  | .inr (.inr (.inl (some q))) :: _ => (match st.2.2[q]? with
    | some c => c
    | none => .inr (0, []))
  | _ => .inr (0, [])
theorem mz_clone {i : Nat} (h1 : 1 ≤ M.2.2.2.2.2.1) (h2 : 22 ≤ M.2.2.2.2.2.2) (w1 : Cond.methodLink M.2.2.2.1 i ⟨"[I", "clone", "()Ljava/lang/Object;"⟩ ∈ mz_big) (w2 : Cond.sameMethod "[I" "java/lang/Object" "clone" "()Ljava/lang/Object;" ∈ mz_big) (w3 : Cond.native ⟨"java/lang/Object", "clone", "()Ljava/lang/Object;"⟩ ∈ mz_big) (w4 : Cond.instanceMethod ⟨"java/lang/Object", "clone", "()Ljava/lang/Object;"⟩ ∈ mz_big) (w5 : Cond.selects "[I" ⟨"[I", "clone", "()Ljava/lang/Object;"⟩ ⟨"java/lang/Object", "clone", "()Ljava/lang/Object;"⟩ ∈ mz_big) (hd : decode M.1 pc = .ok (.invokevirtual i, 3)) : mz_ok E M pc (mz_cl1 (pc + 3)) := by
  refine mz_ok_p mz_cl1_c (fun st pc' st' h => ?_) ?_
  · obtain ⟨q, r, o, g1, g2, -, -, -, rfl⟩ := mz_cl1_inv st pc' st' h
    simp [mz_cl1_c, g1, g2]
  intro st pc' st' h G p l e R s m args below meth c A ls stk cw H locs cells slots Q hc hr b1 b2 kk
  obtain ⟨q, r, o, g1, g2, g3, g4, rfl, rfl⟩ := mz_cl1_inv st pc' st' h
  have hs := hr.2.1
  rw [g1] at hs
  obtain ⟨v, vs, rfl, g, hs⟩ := hs
  obtain ⟨ad, ha, rfl⟩ := g
  obtain ⟨cq, c1, c2, f, c3, c4⟩ := mz_wd_at hr.2.2.1 g2
  obtain ⟨ad2, eq2⟩ := cq
  rw [c2] at ha
  cases ha
  cases c3
  have ec : mz_cs (mz_cl1_c st) = o.2.1 := by simp [mz_cl1_c, g1, g2, mz_cs]
  rw [ec] at b2 kk
  rw [g3] at c1
  have hts := hc.2.2.2.2.2.2.2.2.2.1
  have hK := hc.2.2.2.2.2.2.2.2.2.2.1
  obtain ⟨tr, t1, t2, t3⟩ := id hr.1
  refine va_clone (D := G.2.1) hc.1 hc.2.1 (hc.2.2.1.trans t2.1.symm) (ad := "[I") hc.2.2.2.2.1 (hts _ w1) (hts _ w2) (hts _ w3) (hts _ w4) (hts _ w5) hc.2.2.2.2.2.2.2.2.2.2.2.2.2.2.1 hK hr.2.2.2.1 hr.2.2.2.2.1 hr.2.2.2.2.2 hc.2.2.2.2.2.2.2.2.2.2.2.1 q 0 c1 (ty := .int) rfl (show s.vm.findClass "[I" = some G.2.2.1 from (hK.2 0 (G.2.2.1, .int) rfl).2) (fun i v hv => ?_) (by rw [hc.2.2.2.2.2.2.1]; exact h1) (by rw [hc.2.2.2.2.2.2.2.1, mz_sk_cats _ _ hs]; omega) b1 b2 hd (fun q' H1 K1 P1 D1 S1 => ?_)
  · rw [vp_cell_i] at hv
    simp only [arrV, Array.getElem?_ofFn] at hv
    split at hv
    next => cases hv; rfl
    next => cases hv
  · obtain ⟨k1, k2⟩ := mz_push_rl (M := M) (l1 := st.1) (s1 := st.2.1) (w := st.2.2) (r := r) (vs := vs) (cc := .inl o) hr hs ⟨f, by rw [g3], fun j hj => mz_g_mono (mz_pre_app _ _) (c4 j hj)⟩ P1 D1 S1
    exact kk _ _ _ _ k1 k2
def mz_cst (n : Nat) : mz_S → Option (Nat × mz_S) := fun st => match st.2.1 with
  | .inr (.inr (.inl (some q))) :: _ => match st.2.2[q]? with
    | some (.inl o) => bif o.1 then none else some (n, st)
    | _ => none
  | _ => none
theorem mz_castI {i : Nat} (w1 : Cond.classLink M.2.2.2.1 i "[I" ∈ mz_big) (hd : decode M.1 pc = .ok (.checkcast i, 3)) : mz_ok E M pc (mz_cst (pc + 3)) := by
  have inv : ∀ (st : mz_S) (pc' : Nat) (st' : mz_S), mz_cst (pc + 3) st = some (pc', st') → ∃ q r o, st.2.1 = .inr (.inr (.inl (some q))) :: r ∧ st.2.2[q]? = some (.inl o) ∧ o.1 = false ∧ pc' = pc + 3 ∧ st' = st := by
    intro st pc' st' h
    unfold mz_cst at h
    split at h
    next q r hs =>
      split at h
      next o ho =>
        cases hb : o.1 with
        | true => simp only [hb] at h; cases h
        | false =>
          simp only [hb, cond_false] at h
          cases h
          exact ⟨q, r, o, hs, ho, hb, rfl, rfl⟩
      next => cases h
    next => cases h
  refine mz_ok_s (fun st pc' st' h => by obtain ⟨q, r, o, -, -, -, -, rfl⟩ := inv st pc' st' h; rfl) ?_
  intro st pc' st' h G p l e R s m args below meth c A ls stk cw H locs cells slots Q hc hr kk
  obtain ⟨q, r, o, g1, g2, g3, rfl, rfl⟩ := inv st pc' st' h
  have hs := hr.2.1
  rw [g1] at hs
  obtain ⟨v, vs, rfl, g, hs⟩ := hs
  obtain ⟨ad, ha, rfl⟩ := g
  obtain ⟨cq, c1, c2, f, c3, c4⟩ := mz_wd_at hr.2.2.1 g2
  obtain ⟨ad2, eq2⟩ := cq
  rw [c2] at ha
  cases ha
  cases c3
  rw [g3] at c1
  have hK := hc.2.2.2.2.2.2.2.2.2.2.1
  exact va_castA (D := G.2.1) (cl := mz_cl) hc.1 hc.2.1 hc.2.2.2.2.1 (hc.2.2.2.2.2.2.2.2.2.1 _ w1) hr.2.2.2.1 q c1 (show s.vm.findClass "[I" = some G.2.2.1 from (hK.2 0 (G.2.2.1, .int) rfl).2) hd (kk ls _ hr.1 hr.2.1)
/-! ===== ends ===== -/
def mz_rt (t : mz_V → Bool) : mz_S → Option (Option mz_V × List mz_C) := fun st => match st.2.1 with
  | [a] => bif t a then some (some a, st.2.2) else none
  | _ => none
def mz_rv : mz_S → Option (Option mz_V × List mz_C) := fun st => match st.2.1 with
  | [] => some (none, st.2.2)
  | _ => none
theorem mz_rt_inv {t : mz_V → Bool} (st : mz_S) (a : Option mz_V) (w' : List mz_C) (h : mz_rt t st = some (a, w')) : ∃ b, st.2.1 = [b] ∧ t b = true ∧ a = some b ∧ w' = st.2.2 := by
  unfold mz_rt at h
  split at h
  next b hs =>
    cases hb : t b with
    | false => simp only [hb] at h; cases h
    | true => simp only [hb, cond_true] at h; cases h; exact ⟨b, hs, hb, rfl, rfl⟩
  next => cases h
theorem mz_okR_of {t : mz_V → Bool} (row : ∀ (G : mz_E) (ρ : List Nat) (a : mz_V) (v : Value) (p : Program) (l : Launch) (e : Env) (R : Room) (s : State) (m : MethodId) (args : Array Value) (below : List Frame) (meth : Method) (c : Code) (A : Nat → Prop) (ls : Array Slot) (H : Heap) (locs : List Loc) (cells slots : Nat) (Qc : Array Value → State → Outcome → State → Prop), mz_cx E G M p R s m args meth c A → t a = true → mz_g G.1 ρ a v → (∀ q ∈ locs, A q.base) → (∀ t : State, t.heap = H → s.WarmedH t.vm → Qc args s (.returned (some v)) t) → W p l e R s m args below meth c H locs cells slots (MQ below Qc args s cells slots A) (F0 m pc ls [v])) : mz_okR E M pc (mz_rt t) := by
  intro st a w' h
  obtain ⟨b, h1, h2, rfl, rfl⟩ := mz_rt_inv st a w' h
  refine ⟨rfl, ?_⟩
  intro G p l e R s m args below meth c cw0 sz ls stk cw H locs cells slots hc hr hp
  have hs := hr.2.1
  rw [h1] at hs
  obtain ⟨v, vs, rfl, g, hs⟩ := hs
  have hs : vs = [] := hs
  subst hs
  exact row G _ b v p l e R s m args below meth c (va_A cw0 sz) ls H locs cells slots _ hc h2 g hr.2.2.2.2.2.2.2 (fun t ht hW => ⟨⟨some v, cw, rfl, ⟨v, rfl, g⟩, hr.2.2.1, hp, by rw [ht]; exact hr.2.2.2.1, hr.2.2.2.2.1⟩, hr.2.2.2.2.2.F ht⟩)
theorem mz_ireturn (hr0 : M.2.2.1 = some .int) (hd : decode M.1 pc = .ok (.ireturn, 1)) : mz_okR E M pc (mz_rt mz_isI) :=
  mz_okR_of (by
    intro G ρ a v p l e R s m args below meth c A ls H locs cells slots Qc hc ht hg hf hq
    obtain ⟨x, rfl⟩ := mz_isI_ok hg ht
    exact W.iret hc.1 hc.2.1 (hc.2.2.2.1.trans hr0) hq hf hd hc.2.2.2.2.2.2.2.2.1)
theorem mz_zreturn (hr0 : M.2.2.1 = some .boolean) (hd : decode M.1 pc = .ok (.ireturn, 1)) : mz_okR E M pc (mz_rt mz_is01) :=
  mz_okR_of (by
    intro G ρ a v p l e R s m args below meth c A ls H locs cells slots Qc hc ht hg hf hq
    rcases mz_is01_ok hg ht with rfl | rfl
    · exact W.zret hc.1 hc.2.1 (hc.2.2.2.1.trans hr0) (by decide) hq hf hd hc.2.2.2.2.2.2.2.2.1
    · exact W.zret hc.1 hc.2.1 (hc.2.2.2.1.trans hr0) (by decide) hq hf hd hc.2.2.2.2.2.2.2.2.1)
theorem mz_breturn (hr0 : M.2.2.1 = some .byte) (hd : decode M.1 pc = .ok (.ireturn, 1)) : mz_okR E M pc (mz_rt mz_is01) :=
  mz_okR_of (by
    intro G ρ a v p l e R s m args below meth c A ls H locs cells slots Qc hc ht hg hf hq
    rcases mz_is01_ok hg ht with rfl | rfl
    · exact W.zret hc.1 hc.2.1 (hc.2.2.2.1.trans hr0) (by decide) hq hf hd hc.2.2.2.2.2.2.2.2.1
    · exact W.zret hc.1 hc.2.1 (hc.2.2.2.1.trans hr0) (by decide) hq hf hd hc.2.2.2.2.2.2.2.2.1)
theorem mz_lreturn (hr0 : M.2.2.1 = some .long) (hd : decode M.1 pc = .ok (.lreturn, 1)) : mz_okR E M pc (mz_rt mz_isL) :=
  mz_okR_of (by
    intro G ρ a v p l e R s m args below meth c A ls H locs cells slots Qc hc ht hg hf hq
    obtain ⟨x, rfl⟩ := mz_isL_ok hg ht
    exact W.lret hc.1 hc.2.1 (hc.2.2.2.1.trans hr0) hq hf hd hc.2.2.2.2.2.2.2.2.1)
theorem mz_areturn {C : String} (hr0 : M.2.2.1 = some (.object C)) (hd : decode M.1 pc = .ok (.areturn, 1)) : mz_okR E M pc (mz_rt mz_isQ) :=
  mz_okR_of (by
    intro G ρ a v p l e R s m args below meth c A ls H locs cells slots Qc hc ht hg hf hq
    exact W.aret hc.1 hc.2.1 (hc.2.2.2.1.trans hr0) (Or.inl ⟨C, rfl⟩) (mz_isQ_ok hg ht) hq hf hd hc.2.2.2.2.2.2.2.2.1)
theorem mz_return (hr0 : M.2.2.1 = none) (hd : decode M.1 pc = .ok (.return_, 1)) : mz_okR E M pc mz_rv := by
  intro st a w' h
  have inv : st.2.1 = [] ∧ a = none ∧ w' = st.2.2 := by
    unfold mz_rv at h
    split at h
    next hs => cases h; exact ⟨hs, rfl, rfl⟩
    next => cases h
  obtain ⟨h1, rfl, rfl⟩ := inv
  refine ⟨rfl, ?_⟩
  intro G p l e R s m args below meth c cw0 sz ls stk cw H locs cells slots hc hr hp
  have hs := hr.2.1
  rw [h1] at hs
  have hs : stk = [] := hs
  subst hs
  exact W.vret hc.1 hc.2.1 (hc.2.2.2.1.trans hr0) (fun t ht hW => ⟨⟨none, cw, rfl, rfl, hr.2.2.1, hp, by rw [ht]; exact hr.2.2.2.1, hr.2.2.2.2.1⟩, hr.2.2.2.2.2.F ht⟩) hr.2.2.2.2.2.2.2 hd hc.2.2.2.2.2.2.2.2.1
end MZ4
end
section
/-! ===== calls: the callee's contract, at its run ===== -/
def mz_take : Nat → List mz_V → List mz_V → Option (List mz_V × List mz_V)
  | 0, acc, st => some (acc, st)
  | n + 1, acc, a :: st => mz_take n (a :: acc) st
  | _ + 1, _, [] => none
theorem mz_take_ok : ∀ (n : Nat) (acc st as r : List mz_V), mz_take n acc st = some (as, r) → ∃ b, st = b ++ r ∧ as = b.reverse ++ acc ∧ b.length = n
  | 0, acc, st, as, r, h => by cases h; exact ⟨[], rfl, rfl, rfl⟩
  | n + 1, acc, a :: st, as, r, h => by
    obtain ⟨b, h1, h2, h3⟩ := mz_take_ok n (a :: acc) st as r h
    exact ⟨a :: b, by rw [h1]; rfl, by rw [h2]; simp, by simp [h3]⟩
  | n + 1, acc, [], as, r, h => by cases h
section MZ5
variable {E : List mz_V} {M : mz_M} {pc : Nat}
noncomputable def mz_call (rn : List mz_V → List mz_C → Option (Option mz_V × List mz_C)) (n : Nat) (ck : List mz_V → List mz_C → Bool) (nx : Nat) : mz_S → Option (Nat × mz_S) := fun st => match mz_take n [] st.2.1 with
  | none => none
  | some (as, r) => bif ck as st.2.2 && Nat.ble (r.map mz_cat).sum 8 then (match rn as st.2.2 with
    | none => none
    | some (none, w') => some (nx, st.1, r, w')
    | some (some a, w') => some (nx, st.1, a :: r, w')) else none
theorem mz_call_inv {rn : List mz_V → List mz_C → Option (Option mz_V × List mz_C)} {n nx : Nat} {ck : List mz_V → List mz_C → Bool} (st : mz_S) (pc' : Nat) (st' : mz_S) (h : mz_call rn n ck nx st = some (pc', st')) : ∃ b r a w', st.2.1 = b ++ r ∧ b.length = n ∧ ck b.reverse st.2.2 = true ∧ (r.map mz_cat).sum ≤ 8 ∧ rn b.reverse st.2.2 = some (a, w') ∧ pc' = nx ∧ st' = (st.1, a.toList ++ r, w') := by
  unfold mz_call at h
  split at h
  next => cases h
  next as r ht =>
    obtain ⟨b, h1, h2, h3⟩ := mz_take_ok _ _ _ _ _ ht
    rw [List.append_nil] at h2
    subst h2
    cases hb : (ck b.reverse st.2.2 && Nat.ble (r.map mz_cat).sum 8) with
    | false => simp only [hb] at h; cases h
    | true =>
      simp only [hb, cond_true] at h
      rw [Bool.and_eq_true] at hb
      split at h
      next => cases h
      next w' hr => cases h; exact ⟨b, r, none, w', h1, h3, hb.1, Nat.le_of_ble_eq_true hb.2, hr, rfl, rfl⟩
      next a w' hr => cases h; exact ⟨b, r, some a, w', h1, h3, hb.1, Nat.le_of_ble_eq_true hb.2, hr, rfl, rfl⟩
/-- behind a call -/
theorem mz_back {G : mz_E} {p : Program} {l : Launch} {e : Env} {R : Room} {s : State} {m : MethodId} {args : Array Value} {below : List Frame} {meth : Method} {c : Code} {A : Nat → Prop} {ls : Array Slot} {st0 rest : List Value} {cw : va_W} {H : Heap} {locs : List Loc} {cells slots mc ms pc : Nat} {Q : State → Prop} {a : Option mz_V} {w' : List mz_C} {ar : Array Value}
    (hr : va_Run p l e R s m args below meth c H locs cells slots mc ms (F0 m pc ls st0) rest (mz_Q G cw H.size a w' ar) (va_A cw H.size)) (hS : va_S A s.heap H locs) (hF : ∀ q, va_A cw H.size q → A q)
    (kk : ∀ (r : Option Value) (cw' : va_W) (H1 : Heap) (locs1 : List Loc), mz_an G.1 (cw'.map Prod.fst) a r → mz_wd G w' cw' → (∀ (k q : Nat), (cw.map Prod.fst)[k]? = some q → (cw'.map Prod.fst)[k]? = some q) → va_P G.2.1 mz_cl cw' H1 → va_D A cw' → va_S A s.heap H1 locs1 → W p l e R s m args below meth c H1 locs1 (cells + mc) (slots + ms) Q (F0 m (pc + 3) ls (r.toList ++ rest))) : W p l e R s m args below meth c H locs cells slots Q (F0 m pc ls st0) := by
  intro T hT X
  obtain ⟨v, st₀, t, T', L, h0, X', hL, e1, e2, ⟨⟨r, cw', hv, g1, g2, g3, g4, g5⟩, hz, hk⟩, st⟩ := hr T hT X
  cases hv
  rw [h0] at hz hk
  obtain ⟨t2, a1, b1⟩ := kk v cw' T'.heap (locs ++ L) g1 g2 g3 (by rw [e1]; exact g4) (g5.weaken (fun k q _ h => hF q.1 h))
    ⟨Nat.le_trans hS.1 (by rw [e1]; exact hz), fun q h1 h2 => by rw [e1, hk q (Nat.lt_of_lt_of_le h1 hS.1) (fun z => h2 (hF q z))]; exact hS.2.1 q h1 h2, fun q hq => by
      rcases List.mem_append.mp hq with h | h
      · exact hS.2.2 q h
      · exact hF _ (hL q h)⟩ T' rfl X'
  exact ⟨t2, st t2 a1, b1⟩
theorem mz_blind {G : mz_E} {cw : va_W} {sz : Nat} {av : List Value} : FrameBlind (va_Pc av (mz_pre E G cw sz)) := fun a U g mk q => by
  obtain ⟨q0, q1, qP, qK, qD, qX, qT⟩ := q
  exact ⟨q0, q1, qP, va_K.moved (u := U) (U := U.calling g mk a) (Vm.Alike.refl U.vm) qK, qD, mz_ex_moved (u := U) (U := U.calling g mk a) (Vm.Alike.refl U.vm) qX, mz_tb_same (u := U) (U := U.calling g mk a) rfl qT⟩
theorem mz_start {G : mz_E} {R : Room} {p : Program} {s : State} {m : MethodId} {args : Array Value} {meth : Method} {c : Code} {A : Nat → Prop} {cw : va_W} {H : Heap} {locs : List Loc} {av : List Value} (hc : mz_cx E G M p R s m args meth c A) (hP : va_P G.2.1 mz_cl cw H) (hD : va_D A cw) (hS : va_S A s.heap H locs) (hF : ∀ q, va_A cw H.size q → A q) : ∀ U : State, U.heap = H → s.WarmedH U.vm → va_Pc av (mz_pre E G cw H.size) av.toArray U := by
  intro U hU hW
  refine ⟨rfl, by rw [hU], by rw [hU]; exact hP, va_K.moved hW.alike hc.2.2.2.2.2.2.2.2.2.2.1, hD.weaken (fun _ _ _ _ => trivial), ?_, mz_tb_warm hW hc.2.2.2.2.2.2.2.2.2.2.2.2.2⟩
  rw [hU]
  exact mz_ex_moved hW.alike (mz_ex_narrow (mz_ex_kept hc.2.2.2.2.2.2.2.2.2.2.2.2.1 hS.2.1) hF)
/-- a call out of its start: what is left is that the machine goes there -/
theorem mz_ok_call {y : MethodName} {M' : mz_M} {rn : List mz_V → List mz_C → Option (Option mz_V × List mz_C)} {n : Nat} {ck : List mz_V → List mz_C → Bool} (hctr : mz_ctr E y M' rn)
    (go : ∀ (G : mz_E) (p : Program) (l : Launch) (e : Env) (R : Room) (s : State) (m : MethodId) (args : Array Value) (below : List Frame) (meth : Method) (c : Code) (A : Nat → Prop) (ls : Array Slot) (rest bv : List Value) (b : List mz_V) (w w' : List mz_C) (a : Option mz_V) (cw : va_W) (H : Heap) (locs : List Loc) (cells slots : Nat),
      mz_cx E G M p R s m args meth c A → mz_wd G w cw → va_P G.2.1 mz_cl cw H → va_S A s.heap H locs → mz_sk G.1 (cw.map Prod.fst) b.reverse bv.reverse → b.length = n → bv.length = n → ck b.reverse w = true → (rest.map fun v => v.category).sum ≤ 8 → ls.size = M.2.1 →
      cells + (w'.length - w.length) ≤ R.cells → slots + (mz_sl w' - mz_sl w) ≤ R.slots →
      Met l y (.code y M'.1 M'.2.1 M'.2.2.1 :: mz_big) (mz_rm M'.2.2.2.2.2.1 M'.2.2.2.2.2.2 (w'.length - w.length) (mz_sl w' - mz_sl w)) (va_Pc bv.reverse (mz_pre E G cw H.size)) (mz_Q G cw H.size a w') (w'.length - w.length) (mz_sl w' - mz_sl w) (va_A cw H.size) →
      (∀ U : State, U.heap = H → s.WarmedH U.vm → va_Pc bv.reverse (mz_pre E G cw H.size) bv.reverse.toArray U) →
      ∃ ar, va_Run p l e R s m args below meth c H locs cells slots (w'.length - w.length) (mz_sl w' - mz_sl w) (F0 m pc ls (bv ++ rest)) rest (mz_Q G cw H.size a w' ar) (va_A cw H.size)) : mz_ok E M pc (mz_call rn n ck (pc + 3)) := by
  intro st pc' st' hst
  obtain ⟨b, r, a, w', h1, h2, h3, h4, h5, rfl, rfl⟩ := mz_call_inv st pc' st' hst
  obtain ⟨⟨m1, m2⟩, hmet⟩ := hctr _ _ _ _ h5
  refine ⟨⟨m1, m2⟩, ?_⟩
  intro G p l e R s m args below meth c A ls stk cw H locs cells slots Q hc hr b1 b2 kk
  have hs := hr.2.1
  rw [h1] at hs
  obtain ⟨bv, rest, rfl, gb, gr⟩ := mz_sk_app _ _ _ hs
  have hF : ∀ q, va_A cw H.size q → A q := by
    intro q hq
    rcases hq with ⟨k, e1, hk⟩ | hq
    · exact hr.2.2.2.2.1.2 k _ hk
    · exact hc.2.2.2.2.2.2.2.2.2.2.2.1 q (Nat.le_trans hr.2.2.2.2.2.1 hq)
  have gbr := mz_sk_rev _ _ gb
  have hM := hmet l G cw bv.reverse H.size hr.2.2.1 gbr
  obtain ⟨tr, t1, t2, t3⟩ := id hr.1
  obtain ⟨ar, hrun⟩ := go G p l e R s m args below meth c A ls rest bv b st.2.2 w' a cw H locs cells slots hc hr.2.2.1 hr.2.2.2.1 hr.2.2.2.2.2 gbr h2 (by rw [mz_sk_len _ _ gb]; exact h2) h3 (by rw [mz_sk_cats _ _ gr]; exact h4) t2.1 b1 b2 hM (mz_start hc hr.2.2.2.1 hr.2.2.2.2.1 hr.2.2.2.2.2 hF)
  refine mz_back hrun hr.2.2.2.2.2 hF (fun rv cw' H1 locs1 g1 g2 g3 g4 g5 g6 => ?_)
  refine kk ls (rv.toList ++ rest) cw' H1 locs1 ⟨mz_lv_mono g3 hr.1, ?_, g2, g4, g5, g6⟩ g3
  cases a with
  | none =>
    have g1 : rv = none := g1
    subst g1
    exact mz_sk_mono g3 _ _ gr
  | some a =>
    obtain ⟨v, rfl, g⟩ := g1
    exact ⟨v, rest, rfl, g, mz_sk_mono g3 _ _ gr⟩
def mz_ckT (_ : List mz_V) (_ : List mz_C) : Bool := true
def mz_ckR (as : List mz_V) (_ : List mz_C) : Bool := match as with
  | .inr (.inr (.inl (some _))) :: _ => true
  | _ => false
def mz_ckV (ci : Nat) (as : List mz_V) (w : List mz_C) : Bool := match as with
  | .inr (.inr (.inl (some k))) :: _ => (match w[k]? with
    | some (.inr o) => Nat.beq o.1 ci
    | _ => false)
  | _ => false
def mz_ckX (as : List mz_V) (_ : List mz_C) : Bool := match as with
  | .inr (.inr (.inr (.inr (.inr (.inr q))))) :: _ => Nat.ble 2 q && Nat.blt q 10
  | _ => false
theorem mz_code_in {y : MethodName} {bytes : ByteArray} {maxL : Nat} {ret : Option FieldType} (h : Cond.code y bytes maxL ret ∈ mz_big) : GoodIn mz_big (.code y bytes maxL ret :: mz_big) := fun w hw => by
  rcases List.mem_cons.mp hw with rfl | hw
  · exact mz_big_good _ h
  · exact mz_big_good _ hw
theorem mz_giV {own C : String} {idx : Nat} {y : MethodName} {bytes : ByteArray} {maxL : Nat} {ret : Option FieldType} (h0 : Cond.code y bytes maxL ret ∈ mz_big) (h1 : Cond.methodLink own idx y ∈ mz_big) (h2 : Cond.instanceMethod y ∈ mz_big) (h3 : Cond.selects C y y ∈ mz_big) (h4 : Cond.initialized C ∈ mz_big) : GoodIn mz_big (wsV own idx C y (.code y bytes maxL ret :: mz_big)) := fun w hw => by
  unfold wsV at hw
  rcases List.mem_append.mp hw with h | h
  · simp only [List.mem_cons, List.not_mem_nil, or_false] at h
    rcases h with rfl | rfl | rfl | rfl
    · exact mz_big_good _ h1
    · exact mz_big_good _ h2
    · exact mz_big_good _ h3
    · exact mz_big_good _ h4
  · exact mz_code_in h0 w h
theorem mz_giS {own : String} {idx : Nat} {y : MethodName} {bytes : ByteArray} {maxL : Nat} {ret : Option FieldType} (h0 : Cond.code y bytes maxL ret ∈ mz_big) (h1 : Cond.methodLink own idx y ∈ mz_big) (h2 : Cond.static y ∈ mz_big) (h3 : Cond.initialized y.cls ∈ mz_big) : GoodIn mz_big (va_wsS own idx y (.code y bytes maxL ret :: mz_big)) := fun w hw => by
  unfold va_wsS at hw
  rcases List.mem_append.mp hw with h | h
  · simp only [List.mem_cons, List.not_mem_nil, or_false] at h
    rcases h with rfl | rfl | rfl
    · exact mz_big_good _ h1
    · exact mz_big_good _ h2
    · exact mz_big_good _ h3
  · exact mz_code_in h0 w h
/-- the first of the handed values -/
theorem mz_head {X : Nat → Nat} {ρ : List Nat} {a0 : mz_V} {as b : List mz_V} {bv : List Value} {n : Nat} (h : mz_sk X ρ b.reverse bv.reverse) (hb : b.reverse = a0 :: as) (hl : bv.length = n + 1) : ∃ (v : Value) (vs : List Value), bv = vs.reverse ++ [v] ∧ bv.reverse = v :: vs ∧ vs.length = n ∧ mz_g X ρ a0 v := by
  rw [hb] at h
  obtain ⟨v, vs, e, g, -⟩ := h
  have e2 : bv = vs.reverse ++ [v] := by
    have := congrArg List.reverse e
    rw [List.reverse_reverse, List.reverse_cons] at this
    exact this
  refine ⟨v, vs, e2, e, ?_, g⟩
  rw [e2] at hl
  simp at hl
  exact hl
theorem mz_invV {i ci n : Nat} {y : MethodName} {M' : mz_M} {T : u_T} {N : Nat} {rn : List mz_V → List mz_C → Option (Option mz_V × List mz_C)} (hctr : mz_ctr E y M' rn) (hc0 : mz_cl[ci]? = some (y.cls, T, N)) (hy : y.cls ≠ "java/lang/invoke/MethodHandle" ∧ y.cls ≠ "java/lang/invoke/VarHandle" ∧ (parseMethodDescriptor y.desc).map (fun d => d.parameters.length) = some n) (hR : M'.2.2.2.2.2.1 + 1 ≤ M.2.2.2.2.2.1 ∧ 8 + (M'.2.1 + 11) + M'.2.2.2.2.2.2 ≤ M.2.2.2.2.2.2)
    (w0 : Cond.code y M'.1 M'.2.1 M'.2.2.1 ∈ mz_big) (w1 : Cond.methodLink M.2.2.2.1 i y ∈ mz_big) (w2 : Cond.instanceMethod y ∈ mz_big) (w3 : Cond.selects y.cls y y ∈ mz_big) (w4 : Cond.initialized y.cls ∈ mz_big) (hd : decode M.1 pc = .ok (.invokevirtual i, 3)) : mz_ok E M pc (mz_call rn (n + 1) (mz_ckV ci) (pc + 3)) := by
  refine mz_ok_call hctr ?_
  intro G p l e R s m args below meth c A ls rest bv b w w' a cw H locs cells slots hc hwd hP hS hsk hbl hbvl hck hcat hls b1 b2 hM hst
  unfold mz_ckV at hck
  split at hck
  next k as hbe =>
    split at hck
    next o ho =>
      have ho1 := Nat.eq_of_beq_eq_true hck
      obtain ⟨v, vs, e1, e2, e3, g⟩ := mz_head hsk hbe hbvl
      obtain ⟨ad, ha, rfl⟩ := g
      obtain ⟨cq, c1, c2, fs, c3, c4⟩ := mz_wd_at hwd ho
      obtain ⟨ad2, eq2⟩ := cq
      rw [c2] at ha
      cases ha
      cases c3
      subst ho1
      have hts := hc.2.2.2.2.2.2.2.2.2.1
      rw [e2] at hM hst
      refine ⟨_, va_runV (As := vs) (rest := rest) ⟨hc.1, hc.2.1, hc.2.2.1, hc.2.2.2.2.1, hts⟩ hM (cwV n hts (mz_giV w0 w1 w2 w3 w4) rfl rfl rfl ⟨rfl, hy⟩ ⟨by rw [hc.2.2.2.2.2.2.1]; exact hR.1, by rw [hc.2.2.2.2.2.2.2.1]; exact hR.2⟩) ⟨mz_blind, va_recv hc.2.2.2.2.2.2.2.2.2.2.1 hP hc0 c1, hst⟩ rfl e3 hls (by rw [e1]; simp) (lv_room hcat) hd ⟨b1, b2⟩⟩
    next => cases hck
  next => cases hck
theorem mz_invS {i n : Nat} {y : MethodName} {M' : mz_M} {rn : List mz_V → List mz_C → Option (Option mz_V × List mz_C)} (hctr : mz_ctr E y M' rn) (hy : y.cls ≠ "java/lang/invoke/MethodHandle" ∧ y.cls ≠ "java/lang/invoke/VarHandle" ∧ (parseMethodDescriptor y.desc).map (fun d => d.parameters.length) = some n) (hR : M'.2.2.2.2.2.1 + 1 ≤ M.2.2.2.2.2.1 ∧ 8 + (M'.2.1 + 11) + M'.2.2.2.2.2.2 ≤ M.2.2.2.2.2.2)
    (w0 : Cond.code y M'.1 M'.2.1 M'.2.2.1 ∈ mz_big) (w1 : Cond.methodLink M.2.2.2.1 i y ∈ mz_big) (w2 : Cond.static y ∈ mz_big) (w4 : Cond.initialized y.cls ∈ mz_big) (hd : decode M.1 pc = .ok (.invokestatic i, 3)) : mz_ok E M pc (mz_call rn n mz_ckT (pc + 3)) := by
  refine mz_ok_call hctr ?_
  intro G p l e R s m args below meth c A ls rest bv b w w' a cw H locs cells slots hc hwd hP hS hsk hbl hbvl hck hcat hls b1 b2 hM hst
  have hts := hc.2.2.2.2.2.2.2.2.2.1
  refine ⟨_, va_runS (As := bv.reverse) (rest := rest) ⟨hc.1, hc.2.1, hc.2.2.1, hc.2.2.2.2.1, hts⟩ hM (va_cwS n hts (mz_giS w0 w1 w2 w4) rfl rfl rfl hy ⟨by rw [hc.2.2.2.2.2.2.1]; exact hR.1, by rw [hc.2.2.2.2.2.2.2.1]; exact hR.2⟩) ⟨mz_blind, hst⟩ rfl (by simp [hbvl]) hls (by simp) (lv_room hcat) hd ⟨b1, b2⟩⟩
theorem mz_invSN {i n : Nat} {y : MethodName} {M' : mz_M} {host : String} {rn : List mz_V → List mz_C → Option (Option mz_V × List mz_C)} (hctr : mz_ctr E y M' rn) (hy : y.cls ≠ "java/lang/invoke/MethodHandle" ∧ y.cls ≠ "java/lang/invoke/VarHandle" ∧ (parseMethodDescriptor y.desc).map (fun d => d.parameters.length) = some n) (hR : M'.2.2.2.2.2.1 + 1 ≤ M.2.2.2.2.2.1 ∧ 8 + (M'.2.1 + 11) + M'.2.2.2.2.2.2 ≤ M.2.2.2.2.2.2)
    (w0 : Cond.code y M'.1 M'.2.1 M'.2.2.1 ∈ mz_big) (w1 : (M.2.2.2.1, i, y, host) ∈ mz_nest) (w2 : Cond.static y ∈ mz_big) (w4 : Cond.initialized y.cls ∈ mz_big) (hd : decode M.1 pc = .ok (.invokestatic i, 3)) : mz_ok E M pc (mz_call rn n mz_ckT (pc + 3)) := by
  refine mz_ok_call hctr ?_
  intro G p l e R s m args below meth c A ls rest bv b w w' a cw H locs cells slots hc hwd hP hS hsk hbl hbvl hck hcat hls b1 b2 hM hst
  have hts := hc.2.2.2.2.2.2.2.2.2.1
  refine ⟨_, va_runSN (As := bv.reverse) (rest := rest) ⟨hc.1, hc.2.1, hc.2.2.1, hc.2.2.2.2.1, hts⟩ hM ⟨va_cnB n hts (mz_code_in w0) rfl rfl rfl (hc.2.2.2.2.2.2.2.2.2.2.2.2.2.1 _ w1) (hts _ w4) hy ⟨by rw [hc.2.2.2.2.2.2.1]; exact hR.1, by rw [hc.2.2.2.2.2.2.2.1]; exact hR.2⟩, hts _ w2, trivial⟩ ⟨mz_blind, hst⟩ rfl (by simp [hbvl]) hls (by simp) (lv_room hcat) hd ⟨b1, b2⟩⟩
theorem mz_invI {i n : Nat} {y : MethodName} {M' : mz_M} {rn : List mz_V → List mz_C → Option (Option mz_V × List mz_C)} (hctr : mz_ctr E y M' rn) (hy : y.cls ≠ "java/lang/invoke/MethodHandle" ∧ y.cls ≠ "java/lang/invoke/VarHandle" ∧ (parseMethodDescriptor y.desc).map (fun d => d.parameters.length) = some n) (hR : M'.2.2.2.2.2.1 + 1 ≤ M.2.2.2.2.2.1 ∧ 8 + (M'.2.1 + 11) + M'.2.2.2.2.2.2 ≤ M.2.2.2.2.2.2) (hn : y.name = "<init>") (hrt : M'.2.2.1 = none)
    (w0 : Cond.code y M'.1 M'.2.1 none ∈ mz_big) (w1 : Cond.methodLink M.2.2.2.1 i y ∈ mz_big) (w2 : Cond.instanceMethod y ∈ mz_big) (w4 : Cond.initialized y.cls ∈ mz_big) (hd : decode M.1 pc = .ok (.invokespecial i, 3)) : mz_ok E M pc (mz_call rn (n + 1) mz_ckR (pc + 3)) := by
  refine mz_ok_call hctr ?_
  intro G p l e R s m args below meth c A ls rest bv b w w' a cw H locs cells slots hc hwd hP hS hsk hbl hbvl hck hcat hls b1 b2 hM hst
  unfold mz_ckR at hck
  split at hck
  next k as hbe =>
    obtain ⟨v, vs, e1, e2, e3, g⟩ := mz_head hsk hbe hbvl
    obtain ⟨ad, ha, rfl⟩ := g
    have hts := hc.2.2.2.2.2.2.2.2.2.1
    rw [e2] at hM hst
    rw [hrt] at hM
    refine ⟨_, va_runI (As := vs) (rest := rest) (b := ad) ⟨hc.1, hc.2.1, hc.2.2.1, hc.2.2.2.2.1, hts⟩ hM (cwI n hts (mz_code_in w0) rfl rfl rfl (hts _ w4) (hts _ w1) (hts _ w2) hn hy ⟨by rw [hc.2.2.2.2.2.2.1]; exact hR.1, by rw [hc.2.2.2.2.2.2.2.1]; exact hR.2⟩) ⟨mz_blind, hst⟩ rfl e3 hls (by rw [e1]; simp) (lv_room hcat) hd ⟨b1, b2⟩⟩
  next => cases hck
theorem mz_invIN {i n : Nat} {y : MethodName} {M' : mz_M} {host : String} {rn : List mz_V → List mz_C → Option (Option mz_V × List mz_C)} (hctr : mz_ctr E y M' rn) (hy : y.cls ≠ "java/lang/invoke/MethodHandle" ∧ y.cls ≠ "java/lang/invoke/VarHandle" ∧ (parseMethodDescriptor y.desc).map (fun d => d.parameters.length) = some n) (hR : M'.2.2.2.2.2.1 + 1 ≤ M.2.2.2.2.2.1 ∧ 8 + (M'.2.1 + 11) + M'.2.2.2.2.2.2 ≤ M.2.2.2.2.2.2) (hn : y.name = "<init>") (hrt : M'.2.2.1 = none)
    (w0 : Cond.code y M'.1 M'.2.1 none ∈ mz_big) (w1 : (M.2.2.2.1, i, y, host) ∈ mz_nest) (w2 : Cond.instanceMethod y ∈ mz_big) (w4 : Cond.initialized y.cls ∈ mz_big) (hd : decode M.1 pc = .ok (.invokespecial i, 3)) : mz_ok E M pc (mz_call rn (n + 1) mz_ckR (pc + 3)) := by
  refine mz_ok_call hctr ?_
  intro G p l e R s m args below meth c A ls rest bv b w w' a cw H locs cells slots hc hwd hP hS hsk hbl hbvl hck hcat hls b1 b2 hM hst
  unfold mz_ckR at hck
  split at hck
  next k as hbe =>
    obtain ⟨v, vs, e1, e2, e3, g⟩ := mz_head hsk hbe hbvl
    obtain ⟨ad, ha, rfl⟩ := g
    have hts := hc.2.2.2.2.2.2.2.2.2.1
    rw [e2] at hM hst
    rw [hrt] at hM
    refine ⟨_, va_runIN (As := vs) (rest := rest) (b := ad) ⟨hc.1, hc.2.1, hc.2.2.1, hc.2.2.2.2.1, hts⟩ hM ⟨va_cnB n hts (mz_code_in w0) rfl rfl rfl (hc.2.2.2.2.2.2.2.2.2.2.2.2.2.1 _ w1) (hts _ w4) hy ⟨by rw [hc.2.2.2.2.2.2.1]; exact hR.1, by rw [hc.2.2.2.2.2.2.2.1]; exact hR.2⟩, hn, hts _ w2⟩ ⟨mz_blind, hst⟩ rfl e3 hls (by rw [e1]; simp) (lv_room hcat) hd ⟨b1, b2⟩⟩
  next => cases hck
/-- a call of a word's text: length, coder -/
theorem mz_invX {i n : Nat} {y : MethodName} {M' : mz_M} {rn : List mz_V → List mz_C → Option (Option mz_V × List mz_C)} (hctr : mz_ctr E y M' rn) (hcl : y.cls = "java/lang/String") (hy : y.cls ≠ "java/lang/invoke/MethodHandle" ∧ y.cls ≠ "java/lang/invoke/VarHandle" ∧ (parseMethodDescriptor y.desc).map (fun d => d.parameters.length) = some n) (hR : M'.2.2.2.2.2.1 + 1 ≤ M.2.2.2.2.2.1 ∧ 8 + (M'.2.1 + 11) + M'.2.2.2.2.2.2 ≤ M.2.2.2.2.2.2)
    (w0 : Cond.code y M'.1 M'.2.1 M'.2.2.1 ∈ mz_big) (w1 : Cond.methodLink M.2.2.2.1 i y ∈ mz_big) (w2 : Cond.instanceMethod y ∈ mz_big) (w3 : Cond.selects y.cls y y ∈ mz_big) (w4 : Cond.initialized y.cls ∈ mz_big) (hd : decode M.1 pc = .ok (.invokevirtual i, 3)) : mz_ok E M pc (mz_call rn (n + 1) mz_ckX (pc + 3)) := by
  refine mz_ok_call hctr ?_
  intro G p l e R s m args below meth c A ls rest bv b w w' a cw H locs cells slots hc hwd hP hS hsk hbl hbvl hck hcat hls b1 b2 hM hst
  unfold mz_ckX at hck
  split at hck
  next q as hbe =>
    rw [Bool.and_eq_true] at hck
    have q1 := Nat.le_of_ble_eq_true hck.1
    have q2 : q < 10 := by simpa using hck.2
    obtain ⟨v, vs, e1, e2, e3, g⟩ := mz_head hsk hbe hbvl
    have g : v = .ref (G.1 q) := g
    subst g
    have hts := hc.2.2.2.2.2.2.2.2.2.1
    have hrec := vk_recv (i := q - 2) hc.2.2.2.2.2.2.2.2.2.2.2.2.1.2.2.2.2 (by omega) hS
    have eq2 : q - 2 + 2 = q := by omega
    rw [eq2, ← hcl] at hrec
    rw [e2] at hM hst
    refine ⟨_, va_runV (As := vs) (rest := rest) ⟨hc.1, hc.2.1, hc.2.2.1, hc.2.2.2.2.1, hts⟩ hM (cwV n hts (mz_giV w0 w1 w2 w3 w4) rfl rfl rfl ⟨rfl, hy⟩ ⟨by rw [hc.2.2.2.2.2.2.1]; exact hR.1, by rw [hc.2.2.2.2.2.2.2.1]; exact hR.2⟩) ⟨mz_blind, hrec, hst⟩ rfl e3 hls (by rw [e1]; simp) (lv_room hcat) hd ⟨b1, b2⟩⟩
  next => cases hck
def mz_oi (n : Nat) : mz_S → Option (Nat × mz_S) := fun st => match st.2.1 with
  | .inr (.inr (.inl (some _))) :: r => bif Nat.ble (r.map mz_cat).sum 8 then some (n, st.1, r, st.2.2) else none
  | _ => none
theorem mz_objInit {i : Nat} (h1 : 1 ≤ M.2.2.2.2.2.1) (h2 : 20 ≤ M.2.2.2.2.2.2) (w1 : Cond.methodLink M.2.2.2.1 i objectInit ∈ mz_big) (w2 : Cond.instanceMethod objectInit ∈ mz_big) (w3 : Cond.code objectInit ⟨#[0xb1]⟩ 1 none ∈ mz_big) (hd : decode M.1 pc = .ok (.invokespecial i, 3)) : mz_ok E M pc (mz_oi (pc + 3)) := by
  have inv : ∀ (st : mz_S) (pc' : Nat) (st' : mz_S), mz_oi (pc + 3) st = some (pc', st') → ∃ q r, st.2.1 = .inr (.inr (.inl (some q))) :: r ∧ (r.map mz_cat).sum ≤ 8 ∧ pc' = pc + 3 ∧ st' = (st.1, r, st.2.2) := by
    intro st pc' st' h
    unfold mz_oi at h
    split at h
    next q r hs =>
      cases hb : Nat.ble (r.map mz_cat).sum 8 with
      | false => simp only [hb] at h; cases h
      | true => simp only [hb, cond_true] at h; cases h; exact ⟨q, r, hs, Nat.le_of_ble_eq_true hb, rfl, rfl⟩
    next => cases h
  refine mz_ok_s (fun st pc' st' h => by obtain ⟨q, r, -, -, -, rfl⟩ := inv st pc' st' h; rfl) ?_
  intro st pc' st' h G p l e R s m args below meth c A ls stk cw H locs cells slots Q hc hr kk
  obtain ⟨q, r, g1, g2, rfl, rfl⟩ := inv st pc' st' h
  have hs := hr.2.1
  rw [g1] at hs
  obtain ⟨v, vs, rfl, g, hs⟩ := hs
  obtain ⟨ad, ha, rfl⟩ := g
  have hts := hc.2.2.2.2.2.2.2.2.2.1
  obtain ⟨tr, t1, t2, t3⟩ := id hr.1
  refine W.objInit hc.1 hc.2.1 hc.2.2.2.2.1 (hts _ w1) (hts _ w2) (hts _ w3) rfl (t2.1.trans hc.2.2.1.symm) rfl hd (by rw [hc.2.2.2.2.2.2.1]; exact h1) ?_ (kk ls _ hr.1 hs)
  have h9 := lv_room (m := m) (pc := pc) (ls := ls) (rest := .ref ad :: vs) (st := vs) (by rw [mz_sk_cats _ _ hs]; exact g2)
  rw [hc.2.2.2.2.2.2.2.1]
  omega
end MZ5
end
section
/-! ===== the words that the tables name ===== -/
theorem mw_0 : (Jvm.Cond.selects "WettedNet$Rooms" ({ cls := "WettedNet$Rooms", name := "restart", desc := "(I)V" } : Jvm.MethodName) ({ cls := "WettedNet$Rooms", name := "restart", desc := "(I)V" } : Jvm.MethodName)) ∈ mz_big := mz_w 0 (by decide +kernel) (by decide +kernel)
theorem mw_1 : (Jvm.Cond.selects "WettedNet$Script" ({ cls := "WettedNet$Script", name := "readLine", desc := "(I)Z" } : Jvm.MethodName) ({ cls := "WettedNet$Script", name := "readLine", desc := "(I)Z" } : Jvm.MethodName)) ∈ mz_big := mz_w 1 (by decide +kernel) (by decide +kernel)
theorem mw_2 : (Jvm.Cond.selects "WettedNet$Script" ({ cls := "WettedNet$Script", name := "skipBlanks", desc := "()V" } : Jvm.MethodName) ({ cls := "WettedNet$Script", name := "skipBlanks", desc := "()V" } : Jvm.MethodName)) ∈ mz_big := mz_w 2 (by decide +kernel) (by decide +kernel)
theorem mw_3 : (Jvm.Cond.selects "WettedNet$Script" ({ cls := "WettedNet$Script", name := "endOfRow", desc := "(II)I" } : Jvm.MethodName) ({ cls := "WettedNet$Script", name := "endOfRow", desc := "(II)I" } : Jvm.MethodName)) ∈ mz_big := mz_w 3 (by decide +kernel) (by decide +kernel)
theorem mw_4 : (Jvm.Cond.selects "WettedNet$Script" ({ cls := "WettedNet$Script", name := "kindOf", desc := "(I)I" } : Jvm.MethodName) ({ cls := "WettedNet$Script", name := "kindOf", desc := "(I)I" } : Jvm.MethodName)) ∈ mz_big := mz_w 4 (by decide +kernel) (by decide +kernel)
theorem mw_5 : (Jvm.Cond.selects "WettedNet$Script" ({ cls := "WettedNet$Script", name := "spells", desc := "(Ljava/lang/String;I)Z" } : Jvm.MethodName) ({ cls := "WettedNet$Script", name := "spells", desc := "(Ljava/lang/String;I)Z" } : Jvm.MethodName)) ∈ mz_big := mz_w 5 (by decide +kernel) (by decide +kernel)
theorem mw_13 : (Jvm.Cond.selects "WettedNet$Fires" ({ cls := "WettedNet$Fires", name := "lostFrom", desc := "(III)I" } : Jvm.MethodName) ({ cls := "WettedNet$Fires", name := "lostFrom", desc := "(III)I" } : Jvm.MethodName)) ∈ mz_big := mz_w 13 (by decide +kernel) (by decide +kernel)
theorem mw_15 : (Jvm.Cond.selects "WettedNet$Fires" ({ cls := "WettedNet$Fires", name := "howManyWet", desc := "(I)I" } : Jvm.MethodName) ({ cls := "WettedNet$Fires", name := "howManyWet", desc := "(I)I" } : Jvm.MethodName)) ∈ mz_big := mz_w 15 (by decide +kernel) (by decide +kernel)
theorem mw_16 : (Jvm.Cond.selects "WettedNet$Fires" ({ cls := "WettedNet$Fires", name := "isFirstWet", desc := "(III)Z" } : Jvm.MethodName) ({ cls := "WettedNet$Fires", name := "isFirstWet", desc := "(III)Z" } : Jvm.MethodName)) ∈ mz_big := mz_w 16 (by decide +kernel) (by decide +kernel)
theorem mw_17 : (Jvm.Cond.selects "WettedNet$Throwing" ({ cls := "WettedNet$Throwing", name := "turnsFrom", desc := "(II)I" } : Jvm.MethodName) ({ cls := "WettedNet$Throwing", name := "turnsFrom", desc := "(II)I" } : Jvm.MethodName)) ∈ mz_big := mz_w 17 (by decide +kernel) (by decide +kernel)
theorem mw_18 : (Jvm.Cond.selects "WettedNet$Throwing" ({ cls := "WettedNet$Throwing", name := "turnsByBest", desc := "(II)I" } : Jvm.MethodName) ({ cls := "WettedNet$Throwing", name := "turnsByBest", desc := "(II)I" } : Jvm.MethodName)) ∈ mz_big := mz_w 18 (by decide +kernel) (by decide +kernel)
theorem mw_19 : (Jvm.Cond.selects "WettedNet$Throwing" ({ cls := "WettedNet$Throwing", name := "leastSpark", desc := "(II)I" } : Jvm.MethodName) ({ cls := "WettedNet$Throwing", name := "leastSpark", desc := "(II)I" } : Jvm.MethodName)) ∈ mz_big := mz_w 19 (by decide +kernel) (by decide +kernel)
theorem mw_20 : (Jvm.Cond.selects "WettedNet$Catching" ({ cls := "WettedNet$Catching", name := "catchOnce", desc := "(III)I" } : Jvm.MethodName) ({ cls := "WettedNet$Catching", name := "catchOnce", desc := "(III)I" } : Jvm.MethodName)) ∈ mz_big := mz_w 20 (by decide +kernel) (by decide +kernel)
theorem mw_21 : (Jvm.Cond.selects "WettedNet$Catching" ({ cls := "WettedNet$Catching", name := "isSeeds", desc := "(II)Z" } : Jvm.MethodName) ({ cls := "WettedNet$Catching", name := "isSeeds", desc := "(II)Z" } : Jvm.MethodName)) ∈ mz_big := mz_w 21 (by decide +kernel) (by decide +kernel)
theorem mw_22 : (Jvm.Cond.selects "WettedNet$Forcing" ({ cls := "WettedNet$Forcing", name := "forceOnce", desc := "(II)I" } : Jvm.MethodName) ({ cls := "WettedNet$Forcing", name := "forceOnce", desc := "(II)I" } : Jvm.MethodName)) ∈ mz_big := mz_w 22 (by decide +kernel) (by decide +kernel)
theorem mw_23 : (Jvm.Cond.selects "WettedNet$Forcing" ({ cls := "WettedNet$Forcing", name := "forcesAll", desc := "(I)Z" } : Jvm.MethodName) ({ cls := "WettedNet$Forcing", name := "forcesAll", desc := "(I)Z" } : Jvm.MethodName)) ∈ mz_big := mz_w 23 (by decide +kernel) (by decide +kernel)
theorem mw_24 : (Jvm.Cond.selects "WettedNet$Chances" ({ cls := "WettedNet$Chances", name := "partOfSum", desc := "(III)J" } : Jvm.MethodName) ({ cls := "WettedNet$Chances", name := "partOfSum", desc := "(III)J" } : Jvm.MethodName)) ∈ mz_big := mz_w 24 (by decide +kernel) (by decide +kernel)
theorem mw_25 : (Jvm.Cond.selects "WettedNet$Chances" ({ cls := "WettedNet$Chances", name := "listWays", desc := "()V" } : Jvm.MethodName) ({ cls := "WettedNet$Chances", name := "listWays", desc := "()V" } : Jvm.MethodName)) ∈ mz_big := mz_w 25 (by decide +kernel) (by decide +kernel)
theorem mw_26 : (Jvm.Cond.selects "WettedNet$Chances" ({ cls := "WettedNet$Chances", name := "sumFrom", desc := "(IIJII)J" } : Jvm.MethodName) ({ cls := "WettedNet$Chances", name := "sumFrom", desc := "(IIJII)J" } : Jvm.MethodName)) ∈ mz_big := mz_w 26 (by decide +kernel) (by decide +kernel)
theorem mw_27 : (Jvm.Cond.selects "WettedNet$Chances" ({ cls := "WettedNet$Chances", name := "openWay", desc := "(II)I" } : Jvm.MethodName) ({ cls := "WettedNet$Chances", name := "openWay", desc := "(II)I" } : Jvm.MethodName)) ∈ mz_big := mz_w 27 (by decide +kernel) (by decide +kernel)
theorem mw_28 : (Jvm.Cond.selects "WettedNet$Chances" ({ cls := "WettedNet$Chances", name := "worth", desc := "(II)I" } : Jvm.MethodName) ({ cls := "WettedNet$Chances", name := "worth", desc := "(II)I" } : Jvm.MethodName)) ∈ mz_big := mz_w 28 (by decide +kernel) (by decide +kernel)
theorem mw_29 : (Jvm.Cond.selects "WettedNet$Walks" ({ cls := "WettedNet$Walks", name := "goesFrom", desc := "(IIZI)I" } : Jvm.MethodName) ({ cls := "WettedNet$Walks", name := "goesFrom", desc := "(IIZI)I" } : Jvm.MethodName)) ∈ mz_big := mz_w 29 (by decide +kernel) (by decide +kernel)
theorem mw_30 : (Jvm.Cond.selects "WettedNet$Walks" ({ cls := "WettedNet$Walks", name := "pairsAmong", desc := "(II)I" } : Jvm.MethodName) ({ cls := "WettedNet$Walks", name := "pairsAmong", desc := "(II)I" } : Jvm.MethodName)) ∈ mz_big := mz_w 30 (by decide +kernel) (by decide +kernel)
theorem mw_31 : (Jvm.Cond.selects "WettedNetModel" ({ cls := "WettedNetModel", name := "token", desc := "()V" } : Jvm.MethodName) ({ cls := "WettedNetModel", name := "token", desc := "()V" } : Jvm.MethodName)) ∈ mz_big := mz_w 31 (by decide +kernel) (by decide +kernel)
theorem mw_32 : (Jvm.Cond.selects "WettedNetModel" ({ cls := "WettedNetModel", name := "readsLine", desc := "()Z" } : Jvm.MethodName) ({ cls := "WettedNetModel", name := "readsLine", desc := "()Z" } : Jvm.MethodName)) ∈ mz_big := mz_w 32 (by decide +kernel) (by decide +kernel)
theorem mw_33 : (Jvm.Cond.selects "WettedNetModel" ({ cls := "WettedNetModel", name := "isWord", desc := "(II)Z" } : Jvm.MethodName) ({ cls := "WettedNetModel", name := "isWord", desc := "(II)Z" } : Jvm.MethodName)) ∈ mz_big := mz_w 33 (by decide +kernel) (by decide +kernel)
theorem mw_37 : (Jvm.Cond.selects "WettedNetModel" ({ cls := "WettedNetModel", name := "isRoom", desc := "(I)Z" } : Jvm.MethodName) ({ cls := "WettedNetModel", name := "isRoom", desc := "(I)Z" } : Jvm.MethodName)) ∈ mz_big := mz_w 37 (by decide +kernel) (by decide +kernel)
theorem mw_38 : (Jvm.Cond.selects "WettedNetModel" ({ cls := "WettedNetModel", name := "atOf", desc := "(I)I" } : Jvm.MethodName) ({ cls := "WettedNetModel", name := "atOf", desc := "(I)I" } : Jvm.MethodName)) ∈ mz_big := mz_w 38 (by decide +kernel) (by decide +kernel)
theorem mw_39 : (Jvm.Cond.selects "WettedNetModel" ({ cls := "WettedNetModel", name := "isSetOf", desc := "(I)Z" } : Jvm.MethodName) ({ cls := "WettedNetModel", name := "isSetOf", desc := "(I)Z" } : Jvm.MethodName)) ∈ mz_big := mz_w 39 (by decide +kernel) (by decide +kernel)
theorem mw_40 : (Jvm.Cond.selects "WettedNetModel" ({ cls := "WettedNetModel", name := "all", desc := "()I" } : Jvm.MethodName) ({ cls := "WettedNetModel", name := "all", desc := "()I" } : Jvm.MethodName)) ∈ mz_big := mz_w 40 (by decide +kernel) (by decide +kernel)
theorem mw_41 : (Jvm.Cond.selects "WettedNetModel" ({ cls := "WettedNetModel", name := "layLost", desc := "(I)V" } : Jvm.MethodName) ({ cls := "WettedNetModel", name := "layLost", desc := "(I)V" } : Jvm.MethodName)) ∈ mz_big := mz_w 41 (by decide +kernel) (by decide +kernel)
theorem mw_42 : (Jvm.Cond.selects "WettedNetModel" ({ cls := "WettedNetModel", name := "mayWet", desc := "(IIII)Z" } : Jvm.MethodName) ({ cls := "WettedNetModel", name := "mayWet", desc := "(IIII)Z" } : Jvm.MethodName)) ∈ mz_big := mz_w 42 (by decide +kernel) (by decide +kernel)
theorem mw_43 : (Jvm.Cond.selects "WettedNetModel" ({ cls := "WettedNetModel", name := "behind", desc := "(III)I" } : Jvm.MethodName) ({ cls := "WettedNetModel", name := "behind", desc := "(III)I" } : Jvm.MethodName)) ∈ mz_big := mz_w 43 (by decide +kernel) (by decide +kernel)
theorem mw_44 : (Jvm.Cond.selects "WettedNetModel" ({ cls := "WettedNetModel", name := "spread", desc := "(II)I" } : Jvm.MethodName) ({ cls := "WettedNetModel", name := "spread", desc := "(II)I" } : Jvm.MethodName)) ∈ mz_big := mz_w 44 (by decide +kernel) (by decide +kernel)
theorem mw_45 : (Jvm.Cond.selects "WettedNetModel" ({ cls := "WettedNetModel", name := "besideAll", desc := "(I)I" } : Jvm.MethodName) ({ cls := "WettedNetModel", name := "besideAll", desc := "(I)I" } : Jvm.MethodName)) ∈ mz_big := mz_w 45 (by decide +kernel) (by decide +kernel)
theorem mw_46 : (Jvm.Cond.selects "WettedNetModel" ({ cls := "WettedNetModel", name := "folkOf", desc := "(I)I" } : Jvm.MethodName) ({ cls := "WettedNetModel", name := "folkOf", desc := "(I)I" } : Jvm.MethodName)) ∈ mz_big := mz_w 46 (by decide +kernel) (by decide +kernel)
theorem mw_47 : (Jvm.Cond.selects "WettedNetModel" ({ cls := "WettedNetModel", name := "layTill", desc := "()V" } : Jvm.MethodName) ({ cls := "WettedNetModel", name := "layTill", desc := "()V" } : Jvm.MethodName)) ∈ mz_big := mz_w 47 (by decide +kernel) (by decide +kernel)
theorem mw_48 : (Jvm.Cond.selects "WettedNetModel" ({ cls := "WettedNetModel", name := "caughtEnd", desc := "(II)I" } : Jvm.MethodName) ({ cls := "WettedNetModel", name := "caughtEnd", desc := "(II)I" } : Jvm.MethodName)) ∈ mz_big := mz_w 48 (by decide +kernel) (by decide +kernel)
theorem mw_49 : (Jvm.Cond.selects "WettedNetModel" ({ cls := "WettedNetModel", name := "caughtBy", desc := "(II)I" } : Jvm.MethodName) ({ cls := "WettedNetModel", name := "caughtBy", desc := "(II)I" } : Jvm.MethodName)) ∈ mz_big := mz_w 49 (by decide +kernel) (by decide +kernel)
theorem mw_50 : (Jvm.Cond.selects "WettedNetModel" ({ cls := "WettedNetModel", name := "forcedBy", desc := "(I)I" } : Jvm.MethodName) ({ cls := "WettedNetModel", name := "forcedBy", desc := "(I)I" } : Jvm.MethodName)) ∈ mz_big := mz_w 50 (by decide +kernel) (by decide +kernel)
theorem mw_51 : (Jvm.Cond.selects "WettedNetModel" ({ cls := "WettedNetModel", name := "forces", desc := "(II)I" } : Jvm.MethodName) ({ cls := "WettedNetModel", name := "forces", desc := "(II)I" } : Jvm.MethodName)) ∈ mz_big := mz_w 51 (by decide +kernel) (by decide +kernel)
theorem mw_52 : (Jvm.Cond.selects "WettedNetModel" ({ cls := "WettedNetModel", name := "roundsOf", desc := "(I)I" } : Jvm.MethodName) ({ cls := "WettedNetModel", name := "roundsOf", desc := "(I)I" } : Jvm.MethodName)) ∈ mz_big := mz_w 52 (by decide +kernel) (by decide +kernel)
theorem mw_53 : (Jvm.Cond.selects "WettedNetModel" ({ cls := "WettedNetModel", name := "wayMany", desc := "()I" } : Jvm.MethodName) ({ cls := "WettedNetModel", name := "wayMany", desc := "()I" } : Jvm.MethodName)) ∈ mz_big := mz_w 53 (by decide +kernel) (by decide +kernel)
theorem mw_54 : (Jvm.Cond.selects "WettedNetModel" ({ cls := "WettedNetModel", name := "carriedBy", desc := "(II)J" } : Jvm.MethodName) ({ cls := "WettedNetModel", name := "carriedBy", desc := "(II)J" } : Jvm.MethodName)) ∈ mz_big := mz_w 54 (by decide +kernel) (by decide +kernel)
theorem mw_55 : (Jvm.Cond.selects "WettedNetModel" ({ cls := "WettedNetModel", name := "layWays", desc := "()V" } : Jvm.MethodName) ({ cls := "WettedNetModel", name := "layWays", desc := "()V" } : Jvm.MethodName)) ∈ mz_big := mz_w 55 (by decide +kernel) (by decide +kernel)
theorem mw_56 : (Jvm.Cond.selects "WettedNetModel" ({ cls := "WettedNetModel", name := "reached", desc := "(III)I" } : Jvm.MethodName) ({ cls := "WettedNetModel", name := "reached", desc := "(III)I" } : Jvm.MethodName)) ∈ mz_big := mz_w 56 (by decide +kernel) (by decide +kernel)
theorem mw_57 : (Jvm.Cond.selects "WettedNetModel" ({ cls := "WettedNetModel", name := "part", desc := "(JI)J" } : Jvm.MethodName) ({ cls := "WettedNetModel", name := "part", desc := "(JI)J" } : Jvm.MethodName)) ∈ mz_big := mz_w 57 (by decide +kernel) (by decide +kernel)
theorem mw_58 : (Jvm.Cond.selects "WettedNetModel" ({ cls := "WettedNetModel", name := "layToken", desc := "(II)V" } : Jvm.MethodName) ({ cls := "WettedNetModel", name := "layToken", desc := "(II)V" } : Jvm.MethodName)) ∈ mz_big := mz_w 58 (by decide +kernel) (by decide +kernel)
theorem mw_59 : (Jvm.Cond.selects "WettedNetModel" ({ cls := "WettedNetModel", name := "isEven", desc := "()Z" } : Jvm.MethodName) ({ cls := "WettedNetModel", name := "isEven", desc := "()Z" } : Jvm.MethodName)) ∈ mz_big := mz_w 59 (by decide +kernel) (by decide +kernel)
theorem mw_61 : (Jvm.Cond.initialized "WettedNet") ∈ mz_big := mz_w 61 (by decide +kernel) (by decide +kernel)
theorem mw_62 : (Jvm.Cond.initialized "WettedNet$Memo") ∈ mz_big := mz_w 62 (by decide +kernel) (by decide +kernel)
theorem mw_63 : (Jvm.Cond.initialized "WettedNet$Sets") ∈ mz_big := mz_w 63 (by decide +kernel) (by decide +kernel)
theorem mw_64 : (Jvm.Cond.initialized "java/lang/Integer") ∈ mz_big := mz_w 64 (by decide +kernel) (by decide +kernel)
theorem mw_65 : (Jvm.Cond.initialized "WettedNet$Rooms") ∈ mz_big := mz_w 65 (by decide +kernel) (by decide +kernel)
theorem mw_66 : (Jvm.Cond.initialized "WettedNet$Script") ∈ mz_big := mz_w 66 (by decide +kernel) (by decide +kernel)
theorem mw_67 : (Jvm.Cond.initialized "WettedNet$Fires") ∈ mz_big := mz_w 67 (by decide +kernel) (by decide +kernel)
theorem mw_68 : (Jvm.Cond.initialized "WettedNet$Game") ∈ mz_big := mz_w 68 (by decide +kernel) (by decide +kernel)
theorem mw_69 : (Jvm.Cond.initialized "WettedNet$Throwing") ∈ mz_big := mz_w 69 (by decide +kernel) (by decide +kernel)
theorem mw_70 : (Jvm.Cond.initialized "WettedNet$Catching") ∈ mz_big := mz_w 70 (by decide +kernel) (by decide +kernel)
theorem mw_71 : (Jvm.Cond.initialized "WettedNet$Forcing") ∈ mz_big := mz_w 71 (by decide +kernel) (by decide +kernel)
theorem mw_72 : (Jvm.Cond.initialized "WettedNet$Chances") ∈ mz_big := mz_w 72 (by decide +kernel) (by decide +kernel)
theorem mw_73 : (Jvm.Cond.initialized "WettedNet$Walks") ∈ mz_big := mz_w 73 (by decide +kernel) (by decide +kernel)
theorem mw_74 : (Jvm.Cond.initialized "WettedNetModel") ∈ mz_big := mz_w 74 (by decide +kernel) (by decide +kernel)
theorem mw_75 : (Jvm.Cond.initialized "java/lang/String") ∈ mz_big := mz_w 75 (by decide +kernel) (by decide +kernel)
theorem mw_79 : (Jvm.Cond.initialized "java/lang/Math") ∈ mz_big := mz_w 79 (by decide +kernel) (by decide +kernel)
theorem mw_80 : (Jvm.Cond.classLink "WettedNetLaw" (7 : Nat) "WettedNet") ∈ mz_big := mz_w 80 (by decide +kernel) (by decide +kernel)
theorem mw_81 : (Jvm.Cond.instantiable "WettedNet" (9 : Nat)) ∈ mz_big := mz_w 81 (by decide +kernel) (by decide +kernel)
theorem mw_82 : (Jvm.Cond.methodLink "WettedNetLaw" (9 : Nat) ({ cls := "WettedNet", name := "<init>", desc := "()V" } : Jvm.MethodName)) ∈ mz_big := mz_w 82 (by decide +kernel) (by decide +kernel)
theorem mw_83 : (Jvm.Cond.instanceMethod ({ cls := "WettedNet", name := "<init>", desc := "()V" } : Jvm.MethodName)) ∈ mz_big := mz_w 83 (by decide +kernel) (by decide +kernel)
theorem mw_84 : (Jvm.Cond.code ({ cls := "WettedNet", name := "<init>", desc := "()V" } : Jvm.MethodName) prog_1_method_1_code (3 : Nat) (Option.none : Option Jvm.ClassFile.FieldType)) ∈ mz_big := mz_w 84 (by decide +kernel) (by decide +kernel)
theorem mw_85 : (Jvm.Cond.methodLink "WettedNet" (3 : Nat) ({ cls := "java/lang/Object", name := "<init>", desc := "()V" } : Jvm.MethodName)) ∈ mz_big := mz_w 85 (by decide +kernel) (by decide +kernel)
theorem mw_86 : (Jvm.Cond.instanceMethod ({ cls := "java/lang/Object", name := "<init>", desc := "()V" } : Jvm.MethodName)) ∈ mz_big := mz_w 86 (by decide +kernel) (by decide +kernel)
theorem mw_87 : (Jvm.Cond.code ({ cls := "java/lang/Object", name := "<init>", desc := "()V" } : Jvm.MethodName) object_method_1_code (1 : Nat) (Option.none : Option Jvm.ClassFile.FieldType)) ∈ mz_big := mz_w 87 (by decide +kernel) (by decide +kernel)
theorem mw_88 : (Jvm.Cond.classLink "WettedNet" (9 : Nat) "WettedNet$Memo") ∈ mz_big := mz_w 88 (by decide +kernel) (by decide +kernel)
theorem mw_89 : (Jvm.Cond.instantiable "WettedNet$Memo" (2 : Nat)) ∈ mz_big := mz_w 89 (by decide +kernel) (by decide +kernel)
theorem mw_91 : (Jvm.Cond.instanceMethod ({ cls := "WettedNet$Memo", name := "<init>", desc := "()V" } : Jvm.MethodName)) ∈ mz_big := mz_w 91 (by decide +kernel) (by decide +kernel)
theorem mw_92 : (Jvm.Cond.code ({ cls := "WettedNet$Memo", name := "<init>", desc := "()V" } : Jvm.MethodName) prog_7_method_1_code (1 : Nat) (Option.none : Option Jvm.ClassFile.FieldType)) ∈ mz_big := mz_w 92 (by decide +kernel) (by decide +kernel)
theorem mw_93 : (Jvm.Cond.methodLink "WettedNet$Memo" (3 : Nat) ({ cls := "java/lang/Object", name := "<init>", desc := "()V" } : Jvm.MethodName)) ∈ mz_big := mz_w 93 (by decide +kernel) (by decide +kernel)
theorem mw_94 : (Jvm.Cond.fieldLink "WettedNet$Memo" (9 : Nat) "WettedNet$Memo" "cells" "[I") ∈ mz_big := mz_w 94 (by decide +kernel) (by decide +kernel)
theorem mw_95 : (Jvm.Cond.fieldLink "WettedNet$Memo" (15 : Nat) "WettedNet$Memo" "search" "I") ∈ mz_big := mz_w 95 (by decide +kernel) (by decide +kernel)
theorem mw_101 : (Jvm.Cond.classLink "WettedNet" (12 : Nat) "WettedNet$Sets") ∈ mz_big := mz_w 101 (by decide +kernel) (by decide +kernel)
theorem mw_102 : (Jvm.Cond.instantiable "WettedNet$Sets" (2 : Nat)) ∈ mz_big := mz_w 102 (by decide +kernel) (by decide +kernel)
theorem mw_103 : (Jvm.Cond.methodLink "WettedNet" (14 : Nat) ({ cls := "WettedNet$Sets", name := "<init>", desc := "()V" } : Jvm.MethodName)) ∈ mz_big := mz_w 103 (by decide +kernel) (by decide +kernel)
theorem mw_104 : (Jvm.Cond.instanceMethod ({ cls := "WettedNet$Sets", name := "<init>", desc := "()V" } : Jvm.MethodName)) ∈ mz_big := mz_w 104 (by decide +kernel) (by decide +kernel)
theorem mw_105 : (Jvm.Cond.code ({ cls := "WettedNet$Sets", name := "<init>", desc := "()V" } : Jvm.MethodName) prog_10_method_1_code (4 : Nat) (Option.none : Option Jvm.ClassFile.FieldType)) ∈ mz_big := mz_w 105 (by decide +kernel) (by decide +kernel)
theorem mw_106 : (Jvm.Cond.methodLink "WettedNet$Sets" (3 : Nat) ({ cls := "java/lang/Object", name := "<init>", desc := "()V" } : Jvm.MethodName)) ∈ mz_big := mz_w 106 (by decide +kernel) (by decide +kernel)
theorem mw_107 : (Jvm.Cond.methodLink "WettedNet$Sets" (18 : Nat) ({ cls := "java/lang/Integer", name := "bitCount", desc := "(I)I" } : Jvm.MethodName)) ∈ mz_big := mz_w 107 (by decide +kernel) (by decide +kernel)
theorem mw_108 : (Jvm.Cond.static ({ cls := "java/lang/Integer", name := "bitCount", desc := "(I)I" } : Jvm.MethodName)) ∈ mz_big := mz_w 108 (by decide +kernel) (by decide +kernel)
theorem mw_109 : (Jvm.Cond.code ({ cls := "java/lang/Integer", name := "bitCount", desc := "(I)I" } : Jvm.MethodName) prog_16_method_49_code (1 : Nat) (Option.some Jvm.ClassFile.FieldType.int)) ∈ mz_big := mz_w 109 (by decide +kernel) (by decide +kernel)
theorem mw_110 : (Jvm.Cond.constant "java/lang/Integer" (265 : Nat) (1431655765 : Int32)) ∈ mz_big := mz_w 110 (by decide +kernel) (by decide +kernel)
theorem mw_111 : (Jvm.Cond.constant "java/lang/Integer" (266 : Nat) (858993459 : Int32)) ∈ mz_big := mz_w 111 (by decide +kernel) (by decide +kernel)
theorem mw_112 : (Jvm.Cond.constant "java/lang/Integer" (267 : Nat) (252645135 : Int32)) ∈ mz_big := mz_w 112 (by decide +kernel) (by decide +kernel)
theorem mw_113 : (Jvm.Cond.methodLink "WettedNet$Sets" (24 : Nat) ({ cls := "[I", name := "clone", desc := "()Ljava/lang/Object;" } : Jvm.MethodName)) ∈ mz_big := mz_w 113 (by decide +kernel) (by decide +kernel)
theorem mw_114 : (Jvm.Cond.sameMethod "[I" "java/lang/Object" "clone" "()Ljava/lang/Object;") ∈ mz_big := mz_w 114 (by decide +kernel) (by decide +kernel)
theorem mw_115 : (Jvm.Cond.native ({ cls := "java/lang/Object", name := "clone", desc := "()Ljava/lang/Object;" } : Jvm.MethodName)) ∈ mz_big := mz_w 115 (by decide +kernel) (by decide +kernel)
theorem mw_116 : (Jvm.Cond.instanceMethod ({ cls := "java/lang/Object", name := "clone", desc := "()Ljava/lang/Object;" } : Jvm.MethodName)) ∈ mz_big := mz_w 116 (by decide +kernel) (by decide +kernel)
theorem mw_117 : (Jvm.Cond.selects "[I" ({ cls := "[I", name := "clone", desc := "()Ljava/lang/Object;" } : Jvm.MethodName) ({ cls := "java/lang/Object", name := "clone", desc := "()Ljava/lang/Object;" } : Jvm.MethodName)) ∈ mz_big := mz_w 117 (by decide +kernel) (by decide +kernel)
theorem mw_119 : (Jvm.Cond.classLink "WettedNet$Sets" (25 : Nat) "[I") ∈ mz_big := mz_w 119 (by decide +kernel) (by decide +kernel)
theorem mw_120 : (Jvm.Cond.fieldLink "WettedNet$Sets" (9 : Nat) "WettedNet$Sets" "ordered" "[I") ∈ mz_big := mz_w 120 (by decide +kernel) (by decide +kernel)
theorem mw_121 : (Jvm.Cond.fieldLink "WettedNet$Sets" (15 : Nat) "WettedNet$Sets" "starts" "[I") ∈ mz_big := mz_w 121 (by decide +kernel) (by decide +kernel)
theorem mw_127 : (Jvm.Cond.arrayClass Jvm.ClassFile.FieldType.int) ∈ mz_big := mz_w 127 (by decide +kernel) (by decide +kernel)
theorem mw_128 : (Jvm.Cond.classLink "WettedNet" (15 : Nat) "WettedNet$Rooms") ∈ mz_big := mz_w 128 (by decide +kernel) (by decide +kernel)
theorem mw_129 : (Jvm.Cond.instantiable "WettedNet$Rooms" (7 : Nat)) ∈ mz_big := mz_w 129 (by decide +kernel) (by decide +kernel)
theorem mw_130 : (Jvm.Cond.methodLink "WettedNet" (17 : Nat) ({ cls := "WettedNet$Rooms", name := "<init>", desc := "()V" } : Jvm.MethodName)) ∈ mz_big := mz_w 130 (by decide +kernel) (by decide +kernel)
theorem mw_131 : (Jvm.Cond.instanceMethod ({ cls := "WettedNet$Rooms", name := "<init>", desc := "()V" } : Jvm.MethodName)) ∈ mz_big := mz_w 131 (by decide +kernel) (by decide +kernel)
theorem mw_132 : (Jvm.Cond.code ({ cls := "WettedNet$Rooms", name := "<init>", desc := "()V" } : Jvm.MethodName) prog_8_method_1_code (1 : Nat) (Option.none : Option Jvm.ClassFile.FieldType)) ∈ mz_big := mz_w 132 (by decide +kernel) (by decide +kernel)
theorem mw_133 : (Jvm.Cond.methodLink "WettedNet$Rooms" (3 : Nat) ({ cls := "java/lang/Object", name := "<init>", desc := "()V" } : Jvm.MethodName)) ∈ mz_big := mz_w 133 (by decide +kernel) (by decide +kernel)
theorem mw_134 : (Jvm.Cond.methodLink "WettedNet$Rooms" (31 : Nat) ({ cls := "WettedNet$Rooms", name := "restart", desc := "(I)V" } : Jvm.MethodName)) ∈ mz_big := mz_w 134 (by decide +kernel) (by decide +kernel)
theorem mw_136 : (Jvm.Cond.instanceMethod ({ cls := "WettedNet$Rooms", name := "restart", desc := "(I)V" } : Jvm.MethodName)) ∈ mz_big := mz_w 136 (by decide +kernel) (by decide +kernel)
theorem mw_137 : (Jvm.Cond.code ({ cls := "WettedNet$Rooms", name := "restart", desc := "(I)V" } : Jvm.MethodName) prog_8_method_17_code (3 : Nat) (Option.none : Option Jvm.ClassFile.FieldType)) ∈ mz_big := mz_w 137 (by decide +kernel) (by decide +kernel)
theorem mw_139 : (Jvm.Cond.static ({ cls := "WettedNet", name := "within", desc := "(III)Z" } : Jvm.MethodName)) ∈ mz_big := mz_w 139 (by decide +kernel) (by decide +kernel)
theorem mw_140 : (Jvm.Cond.code ({ cls := "WettedNet", name := "within", desc := "(III)Z" } : Jvm.MethodName) prog_1_method_24_code (3 : Nat) (Option.some Jvm.ClassFile.FieldType.boolean)) ∈ mz_big := mz_w 140 (by decide +kernel) (by decide +kernel)
theorem mw_141 : (Jvm.Cond.fieldLink "WettedNet$Rooms" (9 : Nat) "WettedNet$Rooms" "besideOf" "[I") ∈ mz_big := mz_w 141 (by decide +kernel) (by decide +kernel)
theorem mw_142 : (Jvm.Cond.fieldLink "WettedNet$Rooms" (15 : Nat) "WettedNet$Rooms" "atOf" "[I") ∈ mz_big := mz_w 142 (by decide +kernel) (by decide +kernel)
theorem mw_143 : (Jvm.Cond.fieldLink "WettedNet$Rooms" (18 : Nat) "WettedNet$Rooms" "folkIn" "[I") ∈ mz_big := mz_w 143 (by decide +kernel) (by decide +kernel)
theorem mw_144 : (Jvm.Cond.fieldLink "WettedNet$Rooms" (21 : Nat) "WettedNet$Rooms" "thickOf" "[I") ∈ mz_big := mz_w 144 (by decide +kernel) (by decide +kernel)
theorem mw_145 : (Jvm.Cond.fieldLink "WettedNet$Rooms" (35 : Nat) "WettedNet$Rooms" "number" "I") ∈ mz_big := mz_w 145 (by decide +kernel) (by decide +kernel)
theorem mw_146 : (Jvm.Cond.fieldLink "WettedNet$Rooms" (24 : Nat) "WettedNet$Rooms" "wetting" "I") ∈ mz_big := mz_w 146 (by decide +kernel) (by decide +kernel)
theorem mw_147 : (Jvm.Cond.fieldLink "WettedNet$Rooms" (28 : Nat) "WettedNet$Rooms" "tenths" "I") ∈ mz_big := mz_w 147 (by decide +kernel) (by decide +kernel)
theorem mw_163 : (Jvm.Cond.classLink "WettedNet" (22 : Nat) "WettedNet$Script") ∈ mz_big := mz_w 163 (by decide +kernel) (by decide +kernel)
theorem mw_164 : (Jvm.Cond.instantiable "WettedNet$Script" (8 : Nat)) ∈ mz_big := mz_w 164 (by decide +kernel) (by decide +kernel)
theorem mw_166 : (Jvm.Cond.instanceMethod ({ cls := "WettedNet$Script", name := "<init>", desc := "()V" } : Jvm.MethodName)) ∈ mz_big := mz_w 166 (by decide +kernel) (by decide +kernel)
theorem mw_167 : (Jvm.Cond.code ({ cls := "WettedNet$Script", name := "<init>", desc := "()V" } : Jvm.MethodName) prog_9_method_1_code (1 : Nat) (Option.none : Option Jvm.ClassFile.FieldType)) ∈ mz_big := mz_w 167 (by decide +kernel) (by decide +kernel)
theorem mw_168 : (Jvm.Cond.methodLink "WettedNet$Script" (3 : Nat) ({ cls := "java/lang/Object", name := "<init>", desc := "()V" } : Jvm.MethodName)) ∈ mz_big := mz_w 168 (by decide +kernel) (by decide +kernel)
theorem mw_169 : (Jvm.Cond.fieldLink "WettedNet$Script" (9 : Nat) "WettedNet$Script" "bytes" "[I") ∈ mz_big := mz_w 169 (by decide +kernel) (by decide +kernel)
theorem mw_170 : (Jvm.Cond.fieldLink "WettedNet$Script" (15 : Nat) "WettedNet$Script" "kinds" "[I") ∈ mz_big := mz_w 170 (by decide +kernel) (by decide +kernel)
theorem mw_171 : (Jvm.Cond.fieldLink "WettedNet$Script" (18 : Nat) "WettedNet$Script" "firsts" "[I") ∈ mz_big := mz_w 171 (by decide +kernel) (by decide +kernel)
theorem mw_172 : (Jvm.Cond.fieldLink "WettedNet$Script" (21 : Nat) "WettedNet$Script" "seconds" "[I") ∈ mz_big := mz_w 172 (by decide +kernel) (by decide +kernel)
theorem mw_173 : (Jvm.Cond.fieldLink "WettedNet$Script" (24 : Nat) "WettedNet$Script" "length" "I") ∈ mz_big := mz_w 173 (by decide +kernel) (by decide +kernel)
theorem mw_174 : (Jvm.Cond.fieldLink "WettedNet$Script" (28 : Nat) "WettedNet$Script" "found" "I") ∈ mz_big := mz_w 174 (by decide +kernel) (by decide +kernel)
theorem mw_175 : (Jvm.Cond.fieldLink "WettedNet$Script" (35 : Nat) "WettedNet$Script" "place" "I") ∈ mz_big := mz_w 175 (by decide +kernel) (by decide +kernel)
theorem mw_176 : (Jvm.Cond.fieldLink "WettedNet$Script" (38 : Nat) "WettedNet$Script" "roomsThen" "I") ∈ mz_big := mz_w 176 (by decide +kernel) (by decide +kernel)
theorem mw_194 : (Jvm.Cond.classLink "WettedNet" (29 : Nat) "WettedNet$Fires") ∈ mz_big := mz_w 194 (by decide +kernel) (by decide +kernel)
theorem mw_195 : (Jvm.Cond.instantiable "WettedNet$Fires" (4 : Nat)) ∈ mz_big := mz_w 195 (by decide +kernel) (by decide +kernel)
theorem mw_196 : (Jvm.Cond.methodLink "WettedNet" (31 : Nat) ({ cls := "WettedNet$Fires", name := "<init>", desc := "(LWettedNet$Rooms;LWettedNet$Sets;LWettedNet$Memo;)V" } : Jvm.MethodName)) ∈ mz_big := mz_w 196 (by decide +kernel) (by decide +kernel)
theorem mw_197 : (Jvm.Cond.instanceMethod ({ cls := "WettedNet$Fires", name := "<init>", desc := "(LWettedNet$Rooms;LWettedNet$Sets;LWettedNet$Memo;)V" } : Jvm.MethodName)) ∈ mz_big := mz_w 197 (by decide +kernel) (by decide +kernel)
theorem mw_198 : (Jvm.Cond.code ({ cls := "WettedNet$Fires", name := "<init>", desc := "(LWettedNet$Rooms;LWettedNet$Sets;LWettedNet$Memo;)V" } : Jvm.MethodName) prog_4_method_1_code (4 : Nat) (Option.none : Option Jvm.ClassFile.FieldType)) ∈ mz_big := mz_w 198 (by decide +kernel) (by decide +kernel)
theorem mw_199 : (Jvm.Cond.methodLink "WettedNet$Fires" (3 : Nat) ({ cls := "java/lang/Object", name := "<init>", desc := "()V" } : Jvm.MethodName)) ∈ mz_big := mz_w 199 (by decide +kernel) (by decide +kernel)
theorem mw_200 : (Jvm.Cond.fieldLink "WettedNet$Fires" (9 : Nat) "WettedNet$Fires" "rooms" "LWettedNet$Rooms;") ∈ mz_big := mz_w 200 (by decide +kernel) (by decide +kernel)
theorem mw_201 : (Jvm.Cond.fieldLink "WettedNet$Fires" (15 : Nat) "WettedNet$Fires" "sets" "LWettedNet$Sets;") ∈ mz_big := mz_w 201 (by decide +kernel) (by decide +kernel)
theorem mw_202 : (Jvm.Cond.fieldLink "WettedNet$Fires" (19 : Nat) "WettedNet$Fires" "memo" "LWettedNet$Memo;") ∈ mz_big := mz_w 202 (by decide +kernel) (by decide +kernel)
theorem mw_203 : (Jvm.Cond.fieldLink "WettedNet$Fires" (23 : Nat) "WettedNet$Fires" "wetting" "I") ∈ mz_big := mz_w 203 (by decide +kernel) (by decide +kernel)
theorem mw_213 : (Jvm.Cond.classLink "WettedNet" (38 : Nat) "WettedNet$Game") ∈ mz_big := mz_w 213 (by decide +kernel) (by decide +kernel)
theorem mw_214 : (Jvm.Cond.instantiable "WettedNet$Game" (9 : Nat)) ∈ mz_big := mz_w 214 (by decide +kernel) (by decide +kernel)
theorem mw_215 : (Jvm.Cond.methodLink "WettedNet" (40 : Nat) ({ cls := "WettedNet$Game", name := "<init>", desc := "(LWettedNet$Rooms;LWettedNet$Fires;)V" } : Jvm.MethodName)) ∈ mz_big := mz_w 215 (by decide +kernel) (by decide +kernel)
theorem mw_216 : (Jvm.Cond.instanceMethod ({ cls := "WettedNet$Game", name := "<init>", desc := "(LWettedNet$Rooms;LWettedNet$Fires;)V" } : Jvm.MethodName)) ∈ mz_big := mz_w 216 (by decide +kernel) (by decide +kernel)
theorem mw_217 : (Jvm.Cond.code ({ cls := "WettedNet$Game", name := "<init>", desc := "(LWettedNet$Rooms;LWettedNet$Fires;)V" } : Jvm.MethodName) prog_6_method_1_code (3 : Nat) (Option.none : Option Jvm.ClassFile.FieldType)) ∈ mz_big := mz_w 217 (by decide +kernel) (by decide +kernel)
theorem mw_218 : (Jvm.Cond.methodLink "WettedNet$Game" (1 : Nat) ({ cls := "java/lang/Object", name := "<init>", desc := "()V" } : Jvm.MethodName)) ∈ mz_big := mz_w 218 (by decide +kernel) (by decide +kernel)
theorem mw_219 : (Jvm.Cond.fieldLink "WettedNet$Game" (32 : Nat) "WettedNet$Game" "rooms" "LWettedNet$Rooms;") ∈ mz_big := mz_w 219 (by decide +kernel) (by decide +kernel)
theorem mw_220 : (Jvm.Cond.fieldLink "WettedNet$Game" (36 : Nat) "WettedNet$Game" "fires" "LWettedNet$Fires;") ∈ mz_big := mz_w 220 (by decide +kernel) (by decide +kernel)
theorem mw_221 : (Jvm.Cond.fieldLink "WettedNet$Game" (7 : Nat) "WettedNet$Game" "begun" "Z") ∈ mz_big := mz_w 221 (by decide +kernel) (by decide +kernel)
theorem mw_222 : (Jvm.Cond.fieldLink "WettedNet$Game" (13 : Nat) "WettedNet$Game" "ended" "Z") ∈ mz_big := mz_w 222 (by decide +kernel) (by decide +kernel)
theorem mw_223 : (Jvm.Cond.fieldLink "WettedNet$Game" (16 : Nat) "WettedNet$Game" "burning" "I") ∈ mz_big := mz_w 223 (by decide +kernel) (by decide +kernel)
theorem mw_224 : (Jvm.Cond.fieldLink "WettedNet$Game" (20 : Nat) "WettedNet$Game" "wet" "I") ∈ mz_big := mz_w 224 (by decide +kernel) (by decide +kernel)
theorem mw_225 : (Jvm.Cond.fieldLink "WettedNet$Game" (23 : Nat) "WettedNet$Game" "turns" "I") ∈ mz_big := mz_w 225 (by decide +kernel) (by decide +kernel)
theorem mw_226 : (Jvm.Cond.fieldLink "WettedNet$Game" (26 : Nat) "WettedNet$Game" "bad" "I") ∈ mz_big := mz_w 226 (by decide +kernel) (by decide +kernel)
theorem mw_227 : (Jvm.Cond.fieldLink "WettedNet$Game" (29 : Nat) "WettedNet$Game" "leastNow" "I") ∈ mz_big := mz_w 227 (by decide +kernel) (by decide +kernel)
theorem mw_247 : (Jvm.Cond.classLink "WettedNet" (47 : Nat) "WettedNet$Throwing") ∈ mz_big := mz_w 247 (by decide +kernel) (by decide +kernel)
theorem mw_248 : (Jvm.Cond.instantiable "WettedNet$Throwing" (2 : Nat)) ∈ mz_big := mz_w 248 (by decide +kernel) (by decide +kernel)
theorem mw_249 : (Jvm.Cond.methodLink "WettedNet" (49 : Nat) ({ cls := "WettedNet$Throwing", name := "<init>", desc := "(LWettedNet$Rooms;LWettedNet$Memo;)V" } : Jvm.MethodName)) ∈ mz_big := mz_w 249 (by decide +kernel) (by decide +kernel)
theorem mw_250 : (Jvm.Cond.instanceMethod ({ cls := "WettedNet$Throwing", name := "<init>", desc := "(LWettedNet$Rooms;LWettedNet$Memo;)V" } : Jvm.MethodName)) ∈ mz_big := mz_w 250 (by decide +kernel) (by decide +kernel)
theorem mw_251 : (Jvm.Cond.code ({ cls := "WettedNet$Throwing", name := "<init>", desc := "(LWettedNet$Rooms;LWettedNet$Memo;)V" } : Jvm.MethodName) prog_11_method_1_code (3 : Nat) (Option.none : Option Jvm.ClassFile.FieldType)) ∈ mz_big := mz_w 251 (by decide +kernel) (by decide +kernel)
theorem mw_252 : (Jvm.Cond.methodLink "WettedNet$Throwing" (3 : Nat) ({ cls := "java/lang/Object", name := "<init>", desc := "()V" } : Jvm.MethodName)) ∈ mz_big := mz_w 252 (by decide +kernel) (by decide +kernel)
theorem mw_253 : (Jvm.Cond.fieldLink "WettedNet$Throwing" (9 : Nat) "WettedNet$Throwing" "rooms" "LWettedNet$Rooms;") ∈ mz_big := mz_w 253 (by decide +kernel) (by decide +kernel)
theorem mw_254 : (Jvm.Cond.fieldLink "WettedNet$Throwing" (15 : Nat) "WettedNet$Throwing" "memo" "LWettedNet$Memo;") ∈ mz_big := mz_w 254 (by decide +kernel) (by decide +kernel)
theorem mw_260 : (Jvm.Cond.classLink "WettedNet" (56 : Nat) "WettedNet$Catching") ∈ mz_big := mz_w 260 (by decide +kernel) (by decide +kernel)
theorem mw_261 : (Jvm.Cond.instantiable "WettedNet$Catching" (3 : Nat)) ∈ mz_big := mz_w 261 (by decide +kernel) (by decide +kernel)
theorem mw_262 : (Jvm.Cond.methodLink "WettedNet" (58 : Nat) ({ cls := "WettedNet$Catching", name := "<init>", desc := "(LWettedNet$Rooms;LWettedNet$Sets;)V" } : Jvm.MethodName)) ∈ mz_big := mz_w 262 (by decide +kernel) (by decide +kernel)
theorem mw_263 : (Jvm.Cond.instanceMethod ({ cls := "WettedNet$Catching", name := "<init>", desc := "(LWettedNet$Rooms;LWettedNet$Sets;)V" } : Jvm.MethodName)) ∈ mz_big := mz_w 263 (by decide +kernel) (by decide +kernel)
theorem mw_264 : (Jvm.Cond.code ({ cls := "WettedNet$Catching", name := "<init>", desc := "(LWettedNet$Rooms;LWettedNet$Sets;)V" } : Jvm.MethodName) prog_2_method_1_code (3 : Nat) (Option.none : Option Jvm.ClassFile.FieldType)) ∈ mz_big := mz_w 264 (by decide +kernel) (by decide +kernel)
theorem mw_265 : (Jvm.Cond.methodLink "WettedNet$Catching" (3 : Nat) ({ cls := "java/lang/Object", name := "<init>", desc := "()V" } : Jvm.MethodName)) ∈ mz_big := mz_w 265 (by decide +kernel) (by decide +kernel)
theorem mw_266 : (Jvm.Cond.fieldLink "WettedNet$Catching" (15 : Nat) "WettedNet$Catching" "rooms" "LWettedNet$Rooms;") ∈ mz_big := mz_w 266 (by decide +kernel) (by decide +kernel)
theorem mw_267 : (Jvm.Cond.fieldLink "WettedNet$Catching" (19 : Nat) "WettedNet$Catching" "sets" "LWettedNet$Sets;") ∈ mz_big := mz_w 267 (by decide +kernel) (by decide +kernel)
theorem mw_268 : (Jvm.Cond.fieldLink "WettedNet$Catching" (9 : Nat) "WettedNet$Catching" "turns" "[I") ∈ mz_big := mz_w 268 (by decide +kernel) (by decide +kernel)
theorem mw_276 : (Jvm.Cond.classLink "WettedNet" (65 : Nat) "WettedNet$Forcing") ∈ mz_big := mz_w 276 (by decide +kernel) (by decide +kernel)
theorem mw_277 : (Jvm.Cond.instantiable "WettedNet$Forcing" (5 : Nat)) ∈ mz_big := mz_w 277 (by decide +kernel) (by decide +kernel)
theorem mw_278 : (Jvm.Cond.methodLink "WettedNet" (67 : Nat) ({ cls := "WettedNet$Forcing", name := "<init>", desc := "(LWettedNet$Rooms;LWettedNet$Sets;)V" } : Jvm.MethodName)) ∈ mz_big := mz_w 278 (by decide +kernel) (by decide +kernel)
theorem mw_279 : (Jvm.Cond.instanceMethod ({ cls := "WettedNet$Forcing", name := "<init>", desc := "(LWettedNet$Rooms;LWettedNet$Sets;)V" } : Jvm.MethodName)) ∈ mz_big := mz_w 279 (by decide +kernel) (by decide +kernel)
theorem mw_280 : (Jvm.Cond.code ({ cls := "WettedNet$Forcing", name := "<init>", desc := "(LWettedNet$Rooms;LWettedNet$Sets;)V" } : Jvm.MethodName) prog_5_method_1_code (3 : Nat) (Option.none : Option Jvm.ClassFile.FieldType)) ∈ mz_big := mz_w 280 (by decide +kernel) (by decide +kernel)
theorem mw_281 : (Jvm.Cond.methodLink "WettedNet$Forcing" (3 : Nat) ({ cls := "java/lang/Object", name := "<init>", desc := "()V" } : Jvm.MethodName)) ∈ mz_big := mz_w 281 (by decide +kernel) (by decide +kernel)
theorem mw_282 : (Jvm.Cond.fieldLink "WettedNet$Forcing" (18 : Nat) "WettedNet$Forcing" "rooms" "LWettedNet$Rooms;") ∈ mz_big := mz_w 282 (by decide +kernel) (by decide +kernel)
theorem mw_283 : (Jvm.Cond.fieldLink "WettedNet$Forcing" (22 : Nat) "WettedNet$Forcing" "sets" "LWettedNet$Sets;") ∈ mz_big := mz_w 283 (by decide +kernel) (by decide +kernel)
theorem mw_284 : (Jvm.Cond.fieldLink "WettedNet$Forcing" (9 : Nat) "WettedNet$Forcing" "rounds" "[I") ∈ mz_big := mz_w 284 (by decide +kernel) (by decide +kernel)
theorem mw_285 : (Jvm.Cond.fieldLink "WettedNet$Forcing" (15 : Nat) "WettedNet$Forcing" "forcedBy" "[I") ∈ mz_big := mz_w 285 (by decide +kernel) (by decide +kernel)
theorem mw_286 : (Jvm.Cond.fieldLink "WettedNet$Forcing" (30 : Nat) "WettedNet$Forcing" "lastRound" "I") ∈ mz_big := mz_w 286 (by decide +kernel) (by decide +kernel)
theorem mw_298 : (Jvm.Cond.classLink "WettedNet" (72 : Nat) "WettedNet$Chances") ∈ mz_big := mz_w 298 (by decide +kernel) (by decide +kernel)
theorem mw_299 : (Jvm.Cond.instantiable "WettedNet$Chances" (4 : Nat)) ∈ mz_big := mz_w 299 (by decide +kernel) (by decide +kernel)
theorem mw_300 : (Jvm.Cond.methodLink "WettedNet" (74 : Nat) ({ cls := "WettedNet$Chances", name := "<init>", desc := "(LWettedNet$Rooms;)V" } : Jvm.MethodName)) ∈ mz_big := mz_w 300 (by decide +kernel) (by decide +kernel)
theorem mw_301 : (Jvm.Cond.instanceMethod ({ cls := "WettedNet$Chances", name := "<init>", desc := "(LWettedNet$Rooms;)V" } : Jvm.MethodName)) ∈ mz_big := mz_w 301 (by decide +kernel) (by decide +kernel)
theorem mw_302 : (Jvm.Cond.code ({ cls := "WettedNet$Chances", name := "<init>", desc := "(LWettedNet$Rooms;)V" } : Jvm.MethodName) prog_3_method_1_code (2 : Nat) (Option.none : Option Jvm.ClassFile.FieldType)) ∈ mz_big := mz_w 302 (by decide +kernel) (by decide +kernel)
theorem mw_303 : (Jvm.Cond.methodLink "WettedNet$Chances" (3 : Nat) ({ cls := "java/lang/Object", name := "<init>", desc := "()V" } : Jvm.MethodName)) ∈ mz_big := mz_w 303 (by decide +kernel) (by decide +kernel)
theorem mw_304 : (Jvm.Cond.fieldLink "WettedNet$Chances" (18 : Nat) "WettedNet$Chances" "rooms" "LWettedNet$Rooms;") ∈ mz_big := mz_w 304 (by decide +kernel) (by decide +kernel)
theorem mw_305 : (Jvm.Cond.fieldLink "WettedNet$Chances" (9 : Nat) "WettedNet$Chances" "from" "[I") ∈ mz_big := mz_w 305 (by decide +kernel) (by decide +kernel)
theorem mw_306 : (Jvm.Cond.fieldLink "WettedNet$Chances" (15 : Nat) "WettedNet$Chances" "to" "[I") ∈ mz_big := mz_w 306 (by decide +kernel) (by decide +kernel)
theorem mw_307 : (Jvm.Cond.fieldLink "WettedNet$Chances" (29 : Nat) "WettedNet$Chances" "ways" "I") ∈ mz_big := mz_w 307 (by decide +kernel) (by decide +kernel)
theorem mw_317 : (Jvm.Cond.classLink "WettedNet" (81 : Nat) "WettedNet$Walks") ∈ mz_big := mz_w 317 (by decide +kernel) (by decide +kernel)
theorem mw_318 : (Jvm.Cond.instantiable "WettedNet$Walks" (2 : Nat)) ∈ mz_big := mz_w 318 (by decide +kernel) (by decide +kernel)
theorem mw_319 : (Jvm.Cond.methodLink "WettedNet" (83 : Nat) ({ cls := "WettedNet$Walks", name := "<init>", desc := "(LWettedNet$Rooms;LWettedNet$Memo;)V" } : Jvm.MethodName)) ∈ mz_big := mz_w 319 (by decide +kernel) (by decide +kernel)
theorem mw_320 : (Jvm.Cond.instanceMethod ({ cls := "WettedNet$Walks", name := "<init>", desc := "(LWettedNet$Rooms;LWettedNet$Memo;)V" } : Jvm.MethodName)) ∈ mz_big := mz_w 320 (by decide +kernel) (by decide +kernel)
theorem mw_321 : (Jvm.Cond.code ({ cls := "WettedNet$Walks", name := "<init>", desc := "(LWettedNet$Rooms;LWettedNet$Memo;)V" } : Jvm.MethodName) prog_12_method_1_code (3 : Nat) (Option.none : Option Jvm.ClassFile.FieldType)) ∈ mz_big := mz_w 321 (by decide +kernel) (by decide +kernel)
theorem mw_322 : (Jvm.Cond.methodLink "WettedNet$Walks" (3 : Nat) ({ cls := "java/lang/Object", name := "<init>", desc := "()V" } : Jvm.MethodName)) ∈ mz_big := mz_w 322 (by decide +kernel) (by decide +kernel)
theorem mw_323 : (Jvm.Cond.fieldLink "WettedNet$Walks" (9 : Nat) "WettedNet$Walks" "rooms" "LWettedNet$Rooms;") ∈ mz_big := mz_w 323 (by decide +kernel) (by decide +kernel)
theorem mw_324 : (Jvm.Cond.fieldLink "WettedNet$Walks" (15 : Nat) "WettedNet$Walks" "memo" "LWettedNet$Memo;") ∈ mz_big := mz_w 324 (by decide +kernel) (by decide +kernel)
theorem mw_330 : (Jvm.Cond.fieldLink "WettedNet" (18 : Nat) "WettedNet" "rooms" "LWettedNet$Rooms;") ∈ mz_big := mz_w 330 (by decide +kernel) (by decide +kernel)
theorem mw_331 : (Jvm.Cond.fieldLink "WettedNet" (25 : Nat) "WettedNet" "script" "LWettedNet$Script;") ∈ mz_big := mz_w 331 (by decide +kernel) (by decide +kernel)
theorem mw_332 : (Jvm.Cond.fieldLink "WettedNet" (34 : Nat) "WettedNet" "fires" "LWettedNet$Fires;") ∈ mz_big := mz_w 332 (by decide +kernel) (by decide +kernel)
theorem mw_333 : (Jvm.Cond.fieldLink "WettedNet" (43 : Nat) "WettedNet" "game" "LWettedNet$Game;") ∈ mz_big := mz_w 333 (by decide +kernel) (by decide +kernel)
theorem mw_334 : (Jvm.Cond.fieldLink "WettedNet" (52 : Nat) "WettedNet" "throwing" "LWettedNet$Throwing;") ∈ mz_big := mz_w 334 (by decide +kernel) (by decide +kernel)
theorem mw_335 : (Jvm.Cond.fieldLink "WettedNet" (61 : Nat) "WettedNet" "catching" "LWettedNet$Catching;") ∈ mz_big := mz_w 335 (by decide +kernel) (by decide +kernel)
theorem mw_336 : (Jvm.Cond.fieldLink "WettedNet" (68 : Nat) "WettedNet" "forcing" "LWettedNet$Forcing;") ∈ mz_big := mz_w 336 (by decide +kernel) (by decide +kernel)
theorem mw_337 : (Jvm.Cond.fieldLink "WettedNet" (77 : Nat) "WettedNet" "chances" "LWettedNet$Chances;") ∈ mz_big := mz_w 337 (by decide +kernel) (by decide +kernel)
theorem mw_338 : (Jvm.Cond.fieldLink "WettedNet" (84 : Nat) "WettedNet" "walks" "LWettedNet$Walks;") ∈ mz_big := mz_w 338 (by decide +kernel) (by decide +kernel)
theorem mw_358 : (Jvm.Cond.methodLink "WettedNetLaw" (15 : Nat) ({ cls := "WettedNet", name := "write", desc := "(JI)I" } : Jvm.MethodName)) ∈ mz_big := mz_w 358 (by decide +kernel) (by decide +kernel)
theorem mw_359 : (Jvm.Cond.instanceMethod ({ cls := "WettedNet", name := "write", desc := "(JI)I" } : Jvm.MethodName)) ∈ mz_big := mz_w 359 (by decide +kernel) (by decide +kernel)
theorem mw_360 : (Jvm.Cond.selects "WettedNet" ({ cls := "WettedNet", name := "write", desc := "(JI)I" } : Jvm.MethodName) ({ cls := "WettedNet", name := "write", desc := "(JI)I" } : Jvm.MethodName)) ∈ mz_big := mz_w 360 (by decide +kernel) (by decide +kernel)
theorem mw_361 : (Jvm.Cond.code ({ cls := "WettedNet", name := "write", desc := "(JI)I" } : Jvm.MethodName) prog_1_method_2_code (5 : Nat) (Option.some Jvm.ClassFile.FieldType.int)) ∈ mz_big := mz_w 361 (by decide +kernel) (by decide +kernel)
theorem mw_362 : (Jvm.Cond.methodLink "WettedNet" (88 : Nat) ({ cls := "WettedNet", name := "within", desc := "(III)Z" } : Jvm.MethodName)) ∈ mz_big := mz_w 362 (by decide +kernel) (by decide +kernel)
theorem mw_363 : (Jvm.Cond.methodLink "WettedNet" (92 : Nat) ({ cls := "WettedNet$Script", name := "size", desc := "()I" } : Jvm.MethodName)) ∈ mz_big := mz_w 363 (by decide +kernel) (by decide +kernel)
theorem mw_364 : (Jvm.Cond.instanceMethod ({ cls := "WettedNet$Script", name := "size", desc := "()I" } : Jvm.MethodName)) ∈ mz_big := mz_w 364 (by decide +kernel) (by decide +kernel)
theorem mw_365 : (Jvm.Cond.selects "WettedNet$Script" ({ cls := "WettedNet$Script", name := "size", desc := "()I" } : Jvm.MethodName) ({ cls := "WettedNet$Script", name := "size", desc := "()I" } : Jvm.MethodName)) ∈ mz_big := mz_w 365 (by decide +kernel) (by decide +kernel)
theorem mw_366 : (Jvm.Cond.code ({ cls := "WettedNet$Script", name := "size", desc := "()I" } : Jvm.MethodName) prog_9_method_2_code (1 : Nat) (Option.some Jvm.ClassFile.FieldType.int)) ∈ mz_big := mz_w 366 (by decide +kernel) (by decide +kernel)
theorem mw_367 : (Jvm.Cond.methodLink "WettedNet" (96 : Nat) ({ cls := "WettedNet$Script", name := "add", desc := "(I)V" } : Jvm.MethodName)) ∈ mz_big := mz_w 367 (by decide +kernel) (by decide +kernel)
theorem mw_368 : (Jvm.Cond.instanceMethod ({ cls := "WettedNet$Script", name := "add", desc := "(I)V" } : Jvm.MethodName)) ∈ mz_big := mz_w 368 (by decide +kernel) (by decide +kernel)
theorem mw_369 : (Jvm.Cond.selects "WettedNet$Script" ({ cls := "WettedNet$Script", name := "add", desc := "(I)V" } : Jvm.MethodName) ({ cls := "WettedNet$Script", name := "add", desc := "(I)V" } : Jvm.MethodName)) ∈ mz_big := mz_w 369 (by decide +kernel) (by decide +kernel)
theorem mw_370 : (Jvm.Cond.code ({ cls := "WettedNet$Script", name := "add", desc := "(I)V" } : Jvm.MethodName) prog_9_method_7_code (2 : Nat) (Option.none : Option Jvm.ClassFile.FieldType)) ∈ mz_big := mz_w 370 (by decide +kernel) (by decide +kernel)
theorem mw_371 : (Jvm.Cond.methodLink "WettedNetLaw" (20 : Nat) ({ cls := "WettedNet", name := "erase", desc := "()I" } : Jvm.MethodName)) ∈ mz_big := mz_w 371 (by decide +kernel) (by decide +kernel)
theorem mw_372 : (Jvm.Cond.instanceMethod ({ cls := "WettedNet", name := "erase", desc := "()I" } : Jvm.MethodName)) ∈ mz_big := mz_w 372 (by decide +kernel) (by decide +kernel)
theorem mw_373 : (Jvm.Cond.selects "WettedNet" ({ cls := "WettedNet", name := "erase", desc := "()I" } : Jvm.MethodName) ({ cls := "WettedNet", name := "erase", desc := "()I" } : Jvm.MethodName)) ∈ mz_big := mz_w 373 (by decide +kernel) (by decide +kernel)
theorem mw_374 : (Jvm.Cond.code ({ cls := "WettedNet", name := "erase", desc := "()I" } : Jvm.MethodName) prog_1_method_3_code (2 : Nat) (Option.some Jvm.ClassFile.FieldType.int)) ∈ mz_big := mz_w 374 (by decide +kernel) (by decide +kernel)
theorem mw_375 : (Jvm.Cond.methodLink "WettedNet" (100 : Nat) ({ cls := "WettedNet$Script", name := "empty", desc := "()V" } : Jvm.MethodName)) ∈ mz_big := mz_w 375 (by decide +kernel) (by decide +kernel)
theorem mw_376 : (Jvm.Cond.instanceMethod ({ cls := "WettedNet$Script", name := "empty", desc := "()V" } : Jvm.MethodName)) ∈ mz_big := mz_w 376 (by decide +kernel) (by decide +kernel)
theorem mw_377 : (Jvm.Cond.selects "WettedNet$Script" ({ cls := "WettedNet$Script", name := "empty", desc := "()V" } : Jvm.MethodName) ({ cls := "WettedNet$Script", name := "empty", desc := "()V" } : Jvm.MethodName)) ∈ mz_big := mz_w 377 (by decide +kernel) (by decide +kernel)
theorem mw_378 : (Jvm.Cond.code ({ cls := "WettedNet$Script", name := "empty", desc := "()V" } : Jvm.MethodName) prog_9_method_8_code (1 : Nat) (Option.none : Option Jvm.ClassFile.FieldType)) ∈ mz_big := mz_w 378 (by decide +kernel) (by decide +kernel)
theorem mw_379 : (Jvm.Cond.methodLink "WettedNetLaw" (25 : Nat) ({ cls := "WettedNet", name := "fault", desc := "()I" } : Jvm.MethodName)) ∈ mz_big := mz_w 379 (by decide +kernel) (by decide +kernel)
theorem mw_380 : (Jvm.Cond.instanceMethod ({ cls := "WettedNet", name := "fault", desc := "()I" } : Jvm.MethodName)) ∈ mz_big := mz_w 380 (by decide +kernel) (by decide +kernel)
theorem mw_381 : (Jvm.Cond.selects "WettedNet" ({ cls := "WettedNet", name := "fault", desc := "()I" } : Jvm.MethodName) ({ cls := "WettedNet", name := "fault", desc := "()I" } : Jvm.MethodName)) ∈ mz_big := mz_w 381 (by decide +kernel) (by decide +kernel)
theorem mw_382 : (Jvm.Cond.code ({ cls := "WettedNet", name := "fault", desc := "()I" } : Jvm.MethodName) prog_1_method_4_code (1 : Nat) (Option.some Jvm.ClassFile.FieldType.int)) ∈ mz_big := mz_w 382 (by decide +kernel) (by decide +kernel)
theorem mw_383 : (Jvm.Cond.methodLink "WettedNet" (103 : Nat) ({ cls := "WettedNet$Rooms", name := "howMany", desc := "()I" } : Jvm.MethodName)) ∈ mz_big := mz_w 383 (by decide +kernel) (by decide +kernel)
theorem mw_384 : (Jvm.Cond.instanceMethod ({ cls := "WettedNet$Rooms", name := "howMany", desc := "()I" } : Jvm.MethodName)) ∈ mz_big := mz_w 384 (by decide +kernel) (by decide +kernel)
theorem mw_385 : (Jvm.Cond.selects "WettedNet$Rooms" ({ cls := "WettedNet$Rooms", name := "howMany", desc := "()I" } : Jvm.MethodName) ({ cls := "WettedNet$Rooms", name := "howMany", desc := "()I" } : Jvm.MethodName)) ∈ mz_big := mz_w 385 (by decide +kernel) (by decide +kernel)
theorem mw_386 : (Jvm.Cond.code ({ cls := "WettedNet$Rooms", name := "howMany", desc := "()I" } : Jvm.MethodName) prog_8_method_2_code (1 : Nat) (Option.some Jvm.ClassFile.FieldType.int)) ∈ mz_big := mz_w 386 (by decide +kernel) (by decide +kernel)
theorem mw_387 : (Jvm.Cond.methodLink "WettedNet" (106 : Nat) ({ cls := "WettedNet$Script", name := "firstFault", desc := "(I)I" } : Jvm.MethodName)) ∈ mz_big := mz_w 387 (by decide +kernel) (by decide +kernel)
theorem mw_388 : (Jvm.Cond.instanceMethod ({ cls := "WettedNet$Script", name := "firstFault", desc := "(I)I" } : Jvm.MethodName)) ∈ mz_big := mz_w 388 (by decide +kernel) (by decide +kernel)
theorem mw_389 : (Jvm.Cond.selects "WettedNet$Script" ({ cls := "WettedNet$Script", name := "firstFault", desc := "(I)I" } : Jvm.MethodName) ({ cls := "WettedNet$Script", name := "firstFault", desc := "(I)I" } : Jvm.MethodName)) ∈ mz_big := mz_w 389 (by decide +kernel) (by decide +kernel)
theorem mw_390 : (Jvm.Cond.code ({ cls := "WettedNet$Script", name := "firstFault", desc := "(I)I" } : Jvm.MethodName) prog_9_method_9_code (3 : Nat) (Option.some Jvm.ClassFile.FieldType.int)) ∈ mz_big := mz_w 390 (by decide +kernel) (by decide +kernel)
theorem mw_391 : (Jvm.Cond.methodLink "WettedNet$Script" (41 : Nat) ({ cls := "WettedNet$Script", name := "readLine", desc := "(I)Z" } : Jvm.MethodName)) ∈ mz_big := mz_w 391 (by decide +kernel) (by decide +kernel)
theorem mw_393 : (Jvm.Cond.instanceMethod ({ cls := "WettedNet$Script", name := "readLine", desc := "(I)Z" } : Jvm.MethodName)) ∈ mz_big := mz_w 393 (by decide +kernel) (by decide +kernel)
theorem mw_394 : (Jvm.Cond.code ({ cls := "WettedNet$Script", name := "readLine", desc := "(I)Z" } : Jvm.MethodName) prog_9_method_10_code (6 : Nat) (Option.some Jvm.ClassFile.FieldType.boolean)) ∈ mz_big := mz_w 394 (by decide +kernel) (by decide +kernel)
theorem mw_395 : (Jvm.Cond.methodLink "WettedNet$Script" (45 : Nat) ({ cls := "WettedNet$Script", name := "skipBlanks", desc := "()V" } : Jvm.MethodName)) ∈ mz_big := mz_w 395 (by decide +kernel) (by decide +kernel)
theorem mw_397 : (Jvm.Cond.instanceMethod ({ cls := "WettedNet$Script", name := "skipBlanks", desc := "()V" } : Jvm.MethodName)) ∈ mz_big := mz_w 397 (by decide +kernel) (by decide +kernel)
theorem mw_398 : (Jvm.Cond.code ({ cls := "WettedNet$Script", name := "skipBlanks", desc := "()V" } : Jvm.MethodName) prog_9_method_15_code (1 : Nat) (Option.none : Option Jvm.ClassFile.FieldType)) ∈ mz_big := mz_w 398 (by decide +kernel) (by decide +kernel)
theorem mw_399 : (Jvm.Cond.methodLink "WettedNet$Script" (52 : Nat) ({ cls := "WettedNet$Script", name := "endOfRow", desc := "(II)I" } : Jvm.MethodName)) ∈ mz_big := mz_w 399 (by decide +kernel) (by decide +kernel)
theorem mw_401 : (Jvm.Cond.instanceMethod ({ cls := "WettedNet$Script", name := "endOfRow", desc := "(II)I" } : Jvm.MethodName)) ∈ mz_big := mz_w 401 (by decide +kernel) (by decide +kernel)
theorem mw_402 : (Jvm.Cond.code ({ cls := "WettedNet$Script", name := "endOfRow", desc := "(II)I" } : Jvm.MethodName) prog_9_method_16_code (4 : Nat) (Option.some Jvm.ClassFile.FieldType.int)) ∈ mz_big := mz_w 402 (by decide +kernel) (by decide +kernel)
theorem mw_403 : (Jvm.Cond.methodLink "WettedNet$Script" (56 : Nat) ({ cls := "WettedNet$Script", name := "kindOf", desc := "(I)I" } : Jvm.MethodName)) ∈ mz_big := mz_w 403 (by decide +kernel) (by decide +kernel)
theorem mw_405 : (Jvm.Cond.instanceMethod ({ cls := "WettedNet$Script", name := "kindOf", desc := "(I)I" } : Jvm.MethodName)) ∈ mz_big := mz_w 405 (by decide +kernel) (by decide +kernel)
theorem mw_406 : (Jvm.Cond.code ({ cls := "WettedNet$Script", name := "kindOf", desc := "(I)I" } : Jvm.MethodName) prog_9_method_18_code (3 : Nat) (Option.some Jvm.ClassFile.FieldType.int)) ∈ mz_big := mz_w 406 (by decide +kernel) (by decide +kernel)
theorem mw_407 : (Jvm.Cond.methodLink "WettedNet$Script" (72 : Nat) ({ cls := "WettedNet$Script", name := "wordOf", desc := "(I)Ljava/lang/String;" } : Jvm.MethodName)) ∈ mz_big := mz_w 407 (by decide +kernel) (by decide +kernel)
theorem mw_408 : (Jvm.Cond.static ({ cls := "WettedNet$Script", name := "wordOf", desc := "(I)Ljava/lang/String;" } : Jvm.MethodName)) ∈ mz_big := mz_w 408 (by decide +kernel) (by decide +kernel)
theorem mw_409 : (Jvm.Cond.code ({ cls := "WettedNet$Script", name := "wordOf", desc := "(I)Ljava/lang/String;" } : Jvm.MethodName) prog_9_method_20_code (1 : Nat) (Option.some (Jvm.ClassFile.FieldType.object "java/lang/String"))) ∈ mz_big := mz_w 409 (by decide +kernel) (by decide +kernel)
theorem mw_418 : (Jvm.Cond.methodLink "WettedNet$Script" (76 : Nat) ({ cls := "WettedNet$Script", name := "spells", desc := "(Ljava/lang/String;I)Z" } : Jvm.MethodName)) ∈ mz_big := mz_w 418 (by decide +kernel) (by decide +kernel)
theorem mw_420 : (Jvm.Cond.instanceMethod ({ cls := "WettedNet$Script", name := "spells", desc := "(Ljava/lang/String;I)Z" } : Jvm.MethodName)) ∈ mz_big := mz_w 420 (by decide +kernel) (by decide +kernel)
theorem mw_421 : (Jvm.Cond.code ({ cls := "WettedNet$Script", name := "spells", desc := "(Ljava/lang/String;I)Z" } : Jvm.MethodName) prog_9_method_19_code (4 : Nat) (Option.some Jvm.ClassFile.FieldType.boolean)) ∈ mz_big := mz_w 421 (by decide +kernel) (by decide +kernel)
theorem mw_422 : (Jvm.Cond.methodLink "WettedNet$Script" (80 : Nat) ({ cls := "java/lang/String", name := "length", desc := "()I" } : Jvm.MethodName)) ∈ mz_big := mz_w 422 (by decide +kernel) (by decide +kernel)
theorem mw_423 : (Jvm.Cond.instanceMethod ({ cls := "java/lang/String", name := "length", desc := "()I" } : Jvm.MethodName)) ∈ mz_big := mz_w 423 (by decide +kernel) (by decide +kernel)
theorem mw_424 : (Jvm.Cond.selects "java/lang/String" ({ cls := "java/lang/String", name := "length", desc := "()I" } : Jvm.MethodName) ({ cls := "java/lang/String", name := "length", desc := "()I" } : Jvm.MethodName)) ∈ mz_big := mz_w 424 (by decide +kernel) (by decide +kernel)
theorem mw_425 : (Jvm.Cond.code ({ cls := "java/lang/String", name := "length", desc := "()I" } : Jvm.MethodName) prog_18_method_54_code (1 : Nat) (Option.some Jvm.ClassFile.FieldType.int)) ∈ mz_big := mz_w 425 (by decide +kernel) (by decide +kernel)
theorem mw_426 : (Jvm.Cond.methodLink "java/lang/String" (335 : Nat) ({ cls := "java/lang/String", name := "coder", desc := "()B" } : Jvm.MethodName)) ∈ mz_big := mz_w 426 (by decide +kernel) (by decide +kernel)
theorem mw_427 : (Jvm.Cond.instanceMethod ({ cls := "java/lang/String", name := "coder", desc := "()B" } : Jvm.MethodName)) ∈ mz_big := mz_w 427 (by decide +kernel) (by decide +kernel)
theorem mw_428 : (Jvm.Cond.selects "java/lang/String" ({ cls := "java/lang/String", name := "coder", desc := "()B" } : Jvm.MethodName) ({ cls := "java/lang/String", name := "coder", desc := "()B" } : Jvm.MethodName)) ∈ mz_big := mz_w 428 (by decide +kernel) (by decide +kernel)
theorem mw_429 : (Jvm.Cond.code ({ cls := "java/lang/String", name := "coder", desc := "()B" } : Jvm.MethodName) prog_18_method_152_code (1 : Nat) (Option.some Jvm.ClassFile.FieldType.byte)) ∈ mz_big := mz_w 429 (by decide +kernel) (by decide +kernel)
theorem mw_430 : (Jvm.Cond.fieldLink "java/lang/String" (38 : Nat) "java/lang/String" "COMPACT_STRINGS" "Z") ∈ mz_big := mz_w 430 (by decide +kernel) (by decide +kernel)
theorem mw_491 : (Jvm.Cond.methodLink "WettedNetLaw" (29 : Nat) ({ cls := "WettedNet", name := "net", desc := "()I" } : Jvm.MethodName)) ∈ mz_big := mz_w 491 (by decide +kernel) (by decide +kernel)
theorem mw_492 : (Jvm.Cond.instanceMethod ({ cls := "WettedNet", name := "net", desc := "()I" } : Jvm.MethodName)) ∈ mz_big := mz_w 492 (by decide +kernel) (by decide +kernel)
theorem mw_493 : (Jvm.Cond.selects "WettedNet" ({ cls := "WettedNet", name := "net", desc := "()I" } : Jvm.MethodName) ({ cls := "WettedNet", name := "net", desc := "()I" } : Jvm.MethodName)) ∈ mz_big := mz_w 493 (by decide +kernel) (by decide +kernel)
theorem mw_494 : (Jvm.Cond.code ({ cls := "WettedNet", name := "net", desc := "()I" } : Jvm.MethodName) prog_1_method_5_code (3 : Nat) (Option.some Jvm.ClassFile.FieldType.int)) ∈ mz_big := mz_w 494 (by decide +kernel) (by decide +kernel)
theorem mw_520 : (Jvm.Cond.instanceMethod ({ cls := "WettedNet$Rooms", name := "isRoom", desc := "(I)Z" } : Jvm.MethodName)) ∈ mz_big := mz_w 520 (by decide +kernel) (by decide +kernel)
theorem mw_521 : (Jvm.Cond.selects "WettedNet$Rooms" ({ cls := "WettedNet$Rooms", name := "isRoom", desc := "(I)Z" } : Jvm.MethodName) ({ cls := "WettedNet$Rooms", name := "isRoom", desc := "(I)Z" } : Jvm.MethodName)) ∈ mz_big := mz_w 521 (by decide +kernel) (by decide +kernel)
theorem mw_522 : (Jvm.Cond.code ({ cls := "WettedNet$Rooms", name := "isRoom", desc := "(I)Z" } : Jvm.MethodName) prog_8_method_6_code (2 : Nat) (Option.some Jvm.ClassFile.FieldType.boolean)) ∈ mz_big := mz_w 522 (by decide +kernel) (by decide +kernel)
theorem mw_535 : (Jvm.Cond.methodLink "WettedNetLaw" (33 : Nat) ({ cls := "WettedNet", name := "room", desc := "(II)I" } : Jvm.MethodName)) ∈ mz_big := mz_w 535 (by decide +kernel) (by decide +kernel)
theorem mw_536 : (Jvm.Cond.instanceMethod ({ cls := "WettedNet", name := "room", desc := "(II)I" } : Jvm.MethodName)) ∈ mz_big := mz_w 536 (by decide +kernel) (by decide +kernel)
theorem mw_537 : (Jvm.Cond.selects "WettedNet" ({ cls := "WettedNet", name := "room", desc := "(II)I" } : Jvm.MethodName) ({ cls := "WettedNet", name := "room", desc := "(II)I" } : Jvm.MethodName)) ∈ mz_big := mz_w 537 (by decide +kernel) (by decide +kernel)
theorem mw_538 : (Jvm.Cond.code ({ cls := "WettedNet", name := "room", desc := "(II)I" } : Jvm.MethodName) prog_1_method_6_code (3 : Nat) (Option.some Jvm.ClassFile.FieldType.int)) ∈ mz_big := mz_w 538 (by decide +kernel) (by decide +kernel)
theorem mw_539 : (Jvm.Cond.methodLink "WettedNet" (129 : Nat) ({ cls := "WettedNet$Rooms", name := "isRoom", desc := "(I)Z" } : Jvm.MethodName)) ∈ mz_big := mz_w 539 (by decide +kernel) (by decide +kernel)
theorem mw_540 : (Jvm.Cond.methodLink "WettedNet" (133 : Nat) ({ cls := "WettedNet$Rooms", name := "beside", desc := "(I)I" } : Jvm.MethodName)) ∈ mz_big := mz_w 540 (by decide +kernel) (by decide +kernel)
theorem mw_541 : (Jvm.Cond.instanceMethod ({ cls := "WettedNet$Rooms", name := "beside", desc := "(I)I" } : Jvm.MethodName)) ∈ mz_big := mz_w 541 (by decide +kernel) (by decide +kernel)
theorem mw_542 : (Jvm.Cond.selects "WettedNet$Rooms" ({ cls := "WettedNet$Rooms", name := "beside", desc := "(I)I" } : Jvm.MethodName) ({ cls := "WettedNet$Rooms", name := "beside", desc := "(I)I" } : Jvm.MethodName)) ∈ mz_big := mz_w 542 (by decide +kernel) (by decide +kernel)
theorem mw_543 : (Jvm.Cond.code ({ cls := "WettedNet$Rooms", name := "beside", desc := "(I)I" } : Jvm.MethodName) prog_8_method_8_code (2 : Nat) (Option.some Jvm.ClassFile.FieldType.int)) ∈ mz_big := mz_w 543 (by decide +kernel) (by decide +kernel)
theorem mw_544 : (Jvm.Cond.methodLink "WettedNet" (136 : Nat) ({ cls := "WettedNet$Rooms", name := "at", desc := "(I)I" } : Jvm.MethodName)) ∈ mz_big := mz_w 544 (by decide +kernel) (by decide +kernel)
theorem mw_545 : (Jvm.Cond.instanceMethod ({ cls := "WettedNet$Rooms", name := "at", desc := "(I)I" } : Jvm.MethodName)) ∈ mz_big := mz_w 545 (by decide +kernel) (by decide +kernel)
theorem mw_546 : (Jvm.Cond.selects "WettedNet$Rooms" ({ cls := "WettedNet$Rooms", name := "at", desc := "(I)I" } : Jvm.MethodName) ({ cls := "WettedNet$Rooms", name := "at", desc := "(I)I" } : Jvm.MethodName)) ∈ mz_big := mz_w 546 (by decide +kernel) (by decide +kernel)
theorem mw_547 : (Jvm.Cond.code ({ cls := "WettedNet$Rooms", name := "at", desc := "(I)I" } : Jvm.MethodName) prog_8_method_9_code (2 : Nat) (Option.some Jvm.ClassFile.FieldType.int)) ∈ mz_big := mz_w 547 (by decide +kernel) (by decide +kernel)
theorem mw_548 : (Jvm.Cond.methodLink "WettedNet" (139 : Nat) ({ cls := "WettedNet$Rooms", name := "folk", desc := "(I)I" } : Jvm.MethodName)) ∈ mz_big := mz_w 548 (by decide +kernel) (by decide +kernel)
theorem mw_549 : (Jvm.Cond.instanceMethod ({ cls := "WettedNet$Rooms", name := "folk", desc := "(I)I" } : Jvm.MethodName)) ∈ mz_big := mz_w 549 (by decide +kernel) (by decide +kernel)
theorem mw_550 : (Jvm.Cond.selects "WettedNet$Rooms" ({ cls := "WettedNet$Rooms", name := "folk", desc := "(I)I" } : Jvm.MethodName) ({ cls := "WettedNet$Rooms", name := "folk", desc := "(I)I" } : Jvm.MethodName)) ∈ mz_big := mz_w 550 (by decide +kernel) (by decide +kernel)
theorem mw_551 : (Jvm.Cond.code ({ cls := "WettedNet$Rooms", name := "folk", desc := "(I)I" } : Jvm.MethodName) prog_8_method_10_code (2 : Nat) (Option.some Jvm.ClassFile.FieldType.int)) ∈ mz_big := mz_w 551 (by decide +kernel) (by decide +kernel)
theorem mw_552 : (Jvm.Cond.methodLink "WettedNet" (142 : Nat) ({ cls := "WettedNet$Rooms", name := "thick", desc := "(I)I" } : Jvm.MethodName)) ∈ mz_big := mz_w 552 (by decide +kernel) (by decide +kernel)
theorem mw_553 : (Jvm.Cond.instanceMethod ({ cls := "WettedNet$Rooms", name := "thick", desc := "(I)I" } : Jvm.MethodName)) ∈ mz_big := mz_w 553 (by decide +kernel) (by decide +kernel)
theorem mw_554 : (Jvm.Cond.selects "WettedNet$Rooms" ({ cls := "WettedNet$Rooms", name := "thick", desc := "(I)I" } : Jvm.MethodName) ({ cls := "WettedNet$Rooms", name := "thick", desc := "(I)I" } : Jvm.MethodName)) ∈ mz_big := mz_w 554 (by decide +kernel) (by decide +kernel)
theorem mw_555 : (Jvm.Cond.code ({ cls := "WettedNet$Rooms", name := "thick", desc := "(I)I" } : Jvm.MethodName) prog_8_method_11_code (2 : Nat) (Option.some Jvm.ClassFile.FieldType.int)) ∈ mz_big := mz_w 555 (by decide +kernel) (by decide +kernel)
theorem mw_556 : (Jvm.Cond.methodLink "WettedNetLaw" (38 : Nat) ({ cls := "WettedNet", name := "least", desc := "(II)I" } : Jvm.MethodName)) ∈ mz_big := mz_w 556 (by decide +kernel) (by decide +kernel)
theorem mw_557 : (Jvm.Cond.instanceMethod ({ cls := "WettedNet", name := "least", desc := "(II)I" } : Jvm.MethodName)) ∈ mz_big := mz_w 557 (by decide +kernel) (by decide +kernel)
theorem mw_558 : (Jvm.Cond.selects "WettedNet" ({ cls := "WettedNet", name := "least", desc := "(II)I" } : Jvm.MethodName) ({ cls := "WettedNet", name := "least", desc := "(II)I" } : Jvm.MethodName)) ∈ mz_big := mz_w 558 (by decide +kernel) (by decide +kernel)
theorem mw_559 : (Jvm.Cond.code ({ cls := "WettedNet", name := "least", desc := "(II)I" } : Jvm.MethodName) prog_1_method_7_code (3 : Nat) (Option.some Jvm.ClassFile.FieldType.int)) ∈ mz_big := mz_w 559 (by decide +kernel) (by decide +kernel)
theorem mw_560 : (Jvm.Cond.methodLink "WettedNet" (145 : Nat) ({ cls := "WettedNet$Rooms", name := "isSet", desc := "(I)Z" } : Jvm.MethodName)) ∈ mz_big := mz_w 560 (by decide +kernel) (by decide +kernel)
theorem mw_561 : (Jvm.Cond.instanceMethod ({ cls := "WettedNet$Rooms", name := "isSet", desc := "(I)Z" } : Jvm.MethodName)) ∈ mz_big := mz_w 561 (by decide +kernel) (by decide +kernel)
theorem mw_562 : (Jvm.Cond.selects "WettedNet$Rooms" ({ cls := "WettedNet$Rooms", name := "isSet", desc := "(I)Z" } : Jvm.MethodName) ({ cls := "WettedNet$Rooms", name := "isSet", desc := "(I)Z" } : Jvm.MethodName)) ∈ mz_big := mz_w 562 (by decide +kernel) (by decide +kernel)
theorem mw_563 : (Jvm.Cond.code ({ cls := "WettedNet$Rooms", name := "isSet", desc := "(I)Z" } : Jvm.MethodName) prog_8_method_7_code (2 : Nat) (Option.some Jvm.ClassFile.FieldType.boolean)) ∈ mz_big := mz_w 563 (by decide +kernel) (by decide +kernel)
theorem mw_564 : (Jvm.Cond.methodLink "WettedNet$Rooms" (38 : Nat) ({ cls := "WettedNet$Rooms", name := "all", desc := "()I" } : Jvm.MethodName)) ∈ mz_big := mz_w 564 (by decide +kernel) (by decide +kernel)
theorem mw_565 : (Jvm.Cond.instanceMethod ({ cls := "WettedNet$Rooms", name := "all", desc := "()I" } : Jvm.MethodName)) ∈ mz_big := mz_w 565 (by decide +kernel) (by decide +kernel)
theorem mw_566 : (Jvm.Cond.selects "WettedNet$Rooms" ({ cls := "WettedNet$Rooms", name := "all", desc := "()I" } : Jvm.MethodName) ({ cls := "WettedNet$Rooms", name := "all", desc := "()I" } : Jvm.MethodName)) ∈ mz_big := mz_w 566 (by decide +kernel) (by decide +kernel)
theorem mw_567 : (Jvm.Cond.code ({ cls := "WettedNet$Rooms", name := "all", desc := "()I" } : Jvm.MethodName) prog_8_method_5_code (1 : Nat) (Option.some Jvm.ClassFile.FieldType.int)) ∈ mz_big := mz_w 567 (by decide +kernel) (by decide +kernel)
theorem mw_568 : (Jvm.Cond.methodLink "WettedNet" (148 : Nat) ({ cls := "WettedNet$Rooms", name := "hands", desc := "()I" } : Jvm.MethodName)) ∈ mz_big := mz_w 568 (by decide +kernel) (by decide +kernel)
theorem mw_569 : (Jvm.Cond.instanceMethod ({ cls := "WettedNet$Rooms", name := "hands", desc := "()I" } : Jvm.MethodName)) ∈ mz_big := mz_w 569 (by decide +kernel) (by decide +kernel)
theorem mw_570 : (Jvm.Cond.selects "WettedNet$Rooms" ({ cls := "WettedNet$Rooms", name := "hands", desc := "()I" } : Jvm.MethodName) ({ cls := "WettedNet$Rooms", name := "hands", desc := "()I" } : Jvm.MethodName)) ∈ mz_big := mz_w 570 (by decide +kernel) (by decide +kernel)
theorem mw_571 : (Jvm.Cond.code ({ cls := "WettedNet$Rooms", name := "hands", desc := "()I" } : Jvm.MethodName) prog_8_method_3_code (1 : Nat) (Option.some Jvm.ClassFile.FieldType.int)) ∈ mz_big := mz_w 571 (by decide +kernel) (by decide +kernel)
theorem mw_572 : (Jvm.Cond.methodLink "WettedNet" (151 : Nat) ({ cls := "WettedNet$Fires", name := "leastLost", desc := "(III)I" } : Jvm.MethodName)) ∈ mz_big := mz_w 572 (by decide +kernel) (by decide +kernel)
theorem mw_573 : (Jvm.Cond.instanceMethod ({ cls := "WettedNet$Fires", name := "leastLost", desc := "(III)I" } : Jvm.MethodName)) ∈ mz_big := mz_w 573 (by decide +kernel) (by decide +kernel)
theorem mw_574 : (Jvm.Cond.selects "WettedNet$Fires" ({ cls := "WettedNet$Fires", name := "leastLost", desc := "(III)I" } : Jvm.MethodName) ({ cls := "WettedNet$Fires", name := "leastLost", desc := "(III)I" } : Jvm.MethodName)) ∈ mz_big := mz_w 574 (by decide +kernel) (by decide +kernel)
theorem mw_575 : (Jvm.Cond.code ({ cls := "WettedNet$Fires", name := "leastLost", desc := "(III)I" } : Jvm.MethodName) prog_4_method_2_code (4 : Nat) (Option.some Jvm.ClassFile.FieldType.int)) ∈ mz_big := mz_w 575 (by decide +kernel) (by decide +kernel)
theorem mw_576 : (Jvm.Cond.methodLink "WettedNet$Fires" (27 : Nat) ({ cls := "WettedNet$Memo", name := "startSearch", desc := "()V" } : Jvm.MethodName)) ∈ mz_big := mz_w 576 (by decide +kernel) (by decide +kernel)
theorem mw_577 : (Jvm.Cond.instanceMethod ({ cls := "WettedNet$Memo", name := "startSearch", desc := "()V" } : Jvm.MethodName)) ∈ mz_big := mz_w 577 (by decide +kernel) (by decide +kernel)
theorem mw_578 : (Jvm.Cond.selects "WettedNet$Memo" ({ cls := "WettedNet$Memo", name := "startSearch", desc := "()V" } : Jvm.MethodName) ({ cls := "WettedNet$Memo", name := "startSearch", desc := "()V" } : Jvm.MethodName)) ∈ mz_big := mz_w 578 (by decide +kernel) (by decide +kernel)
theorem mw_579 : (Jvm.Cond.code ({ cls := "WettedNet$Memo", name := "startSearch", desc := "()V" } : Jvm.MethodName) prog_7_method_2_code (1 : Nat) (Option.none : Option Jvm.ClassFile.FieldType)) ∈ mz_big := mz_w 579 (by decide +kernel) (by decide +kernel)
theorem mw_580 : (Jvm.Cond.methodLink "WettedNet$Fires" (32 : Nat) ({ cls := "WettedNet$Fires", name := "lostFrom", desc := "(III)I" } : Jvm.MethodName)) ∈ mz_big := mz_w 580 (by decide +kernel) (by decide +kernel)
theorem mw_582 : (Jvm.Cond.instanceMethod ({ cls := "WettedNet$Fires", name := "lostFrom", desc := "(III)I" } : Jvm.MethodName)) ∈ mz_big := mz_w 582 (by decide +kernel) (by decide +kernel)
theorem mw_583 : (Jvm.Cond.code ({ cls := "WettedNet$Fires", name := "lostFrom", desc := "(III)I" } : Jvm.MethodName) prog_4_method_8_code (8 : Nat) (Option.some Jvm.ClassFile.FieldType.int)) ∈ mz_big := mz_w 583 (by decide +kernel) (by decide +kernel)
theorem mw_584 : (Jvm.Cond.methodLink "WettedNet$Fires" (81 : Nat) ({ cls := "WettedNet$Fires", name := "threes", desc := "(I)I" } : Jvm.MethodName)) ∈ mz_big := mz_w 584 (by decide +kernel) (by decide +kernel)
theorem mw_585 : (Jvm.Cond.static ({ cls := "WettedNet$Fires", name := "threes", desc := "(I)I" } : Jvm.MethodName)) ∈ mz_big := mz_w 585 (by decide +kernel) (by decide +kernel)
theorem mw_586 : (Jvm.Cond.code ({ cls := "WettedNet$Fires", name := "threes", desc := "(I)I" } : Jvm.MethodName) prog_4_method_10_code (1 : Nat) (Option.some Jvm.ClassFile.FieldType.int)) ∈ mz_big := mz_w 586 (by decide +kernel) (by decide +kernel)
theorem mw_587 : (Jvm.Cond.fieldLink "WettedNet$Fires" (99 : Nat) "WettedNet$Fires" "THREES" "[I") ∈ mz_big := mz_w 587 (by decide +kernel) (by decide +kernel)
theorem mw_589 : (Jvm.Cond.methodLink "WettedNet$Fires" (84 : Nat) ({ cls := "WettedNet$Memo", name := "recall", desc := "(I)I" } : Jvm.MethodName)) ∈ mz_big := mz_w 589 (by decide +kernel) (by decide +kernel)
theorem mw_590 : (Jvm.Cond.instanceMethod ({ cls := "WettedNet$Memo", name := "recall", desc := "(I)I" } : Jvm.MethodName)) ∈ mz_big := mz_w 590 (by decide +kernel) (by decide +kernel)
theorem mw_591 : (Jvm.Cond.selects "WettedNet$Memo" ({ cls := "WettedNet$Memo", name := "recall", desc := "(I)I" } : Jvm.MethodName) ({ cls := "WettedNet$Memo", name := "recall", desc := "(I)I" } : Jvm.MethodName)) ∈ mz_big := mz_w 591 (by decide +kernel) (by decide +kernel)
theorem mw_592 : (Jvm.Cond.code ({ cls := "WettedNet$Memo", name := "recall", desc := "(I)I" } : Jvm.MethodName) prog_7_method_3_code (2 : Nat) (Option.some Jvm.ClassFile.FieldType.int)) ∈ mz_big := mz_w 592 (by decide +kernel) (by decide +kernel)
theorem mw_594 : (Jvm.Cond.methodLink "WettedNet$Fires" (67 : Nat) ({ cls := "WettedNet$Fires", name := "burnOn", desc := "(II)I" } : Jvm.MethodName)) ∈ mz_big := mz_w 594 (by decide +kernel) (by decide +kernel)
theorem mw_595 : (Jvm.Cond.instanceMethod ({ cls := "WettedNet$Fires", name := "burnOn", desc := "(II)I" } : Jvm.MethodName)) ∈ mz_big := mz_w 595 (by decide +kernel) (by decide +kernel)
theorem mw_596 : (Jvm.Cond.selects "WettedNet$Fires" ({ cls := "WettedNet$Fires", name := "burnOn", desc := "(II)I" } : Jvm.MethodName) ({ cls := "WettedNet$Fires", name := "burnOn", desc := "(II)I" } : Jvm.MethodName)) ∈ mz_big := mz_w 596 (by decide +kernel) (by decide +kernel)
theorem mw_597 : (Jvm.Cond.code ({ cls := "WettedNet$Fires", name := "burnOn", desc := "(II)I" } : Jvm.MethodName) prog_4_method_5_code (3 : Nat) (Option.some Jvm.ClassFile.FieldType.int)) ∈ mz_big := mz_w 597 (by decide +kernel) (by decide +kernel)
theorem mw_598 : (Jvm.Cond.methodLink "WettedNet$Fires" (64 : Nat) ({ cls := "WettedNet$Rooms", name := "besideAny", desc := "(I)I" } : Jvm.MethodName)) ∈ mz_big := mz_w 598 (by decide +kernel) (by decide +kernel)
theorem mw_599 : (Jvm.Cond.instanceMethod ({ cls := "WettedNet$Rooms", name := "besideAny", desc := "(I)I" } : Jvm.MethodName)) ∈ mz_big := mz_w 599 (by decide +kernel) (by decide +kernel)
theorem mw_600 : (Jvm.Cond.selects "WettedNet$Rooms" ({ cls := "WettedNet$Rooms", name := "besideAny", desc := "(I)I" } : Jvm.MethodName) ({ cls := "WettedNet$Rooms", name := "besideAny", desc := "(I)I" } : Jvm.MethodName)) ∈ mz_big := mz_w 600 (by decide +kernel) (by decide +kernel)
theorem mw_601 : (Jvm.Cond.code ({ cls := "WettedNet$Rooms", name := "besideAny", desc := "(I)I" } : Jvm.MethodName) prog_8_method_12_code (4 : Nat) (Option.some Jvm.ClassFile.FieldType.int)) ∈ mz_big := mz_w 601 (by decide +kernel) (by decide +kernel)
theorem mw_603 : (Jvm.Cond.static ({ cls := "WettedNet", name := "has", desc := "(II)Z" } : Jvm.MethodName)) ∈ mz_big := mz_w 603 (by decide +kernel) (by decide +kernel)
theorem mw_604 : (Jvm.Cond.code ({ cls := "WettedNet", name := "has", desc := "(II)Z" } : Jvm.MethodName) prog_1_method_25_code (2 : Nat) (Option.some Jvm.ClassFile.FieldType.boolean)) ∈ mz_big := mz_w 604 (by decide +kernel) (by decide +kernel)
theorem mw_605 : (Jvm.Cond.methodLink "WettedNet$Fires" (87 : Nat) ({ cls := "WettedNet$Rooms", name := "folkOf", desc := "(I)I" } : Jvm.MethodName)) ∈ mz_big := mz_w 605 (by decide +kernel) (by decide +kernel)
theorem mw_606 : (Jvm.Cond.instanceMethod ({ cls := "WettedNet$Rooms", name := "folkOf", desc := "(I)I" } : Jvm.MethodName)) ∈ mz_big := mz_w 606 (by decide +kernel) (by decide +kernel)
theorem mw_607 : (Jvm.Cond.selects "WettedNet$Rooms" ({ cls := "WettedNet$Rooms", name := "folkOf", desc := "(I)I" } : Jvm.MethodName) ({ cls := "WettedNet$Rooms", name := "folkOf", desc := "(I)I" } : Jvm.MethodName)) ∈ mz_big := mz_w 607 (by decide +kernel) (by decide +kernel)
theorem mw_608 : (Jvm.Cond.code ({ cls := "WettedNet$Rooms", name := "folkOf", desc := "(I)I" } : Jvm.MethodName) prog_8_method_13_code (4 : Nat) (Option.some Jvm.ClassFile.FieldType.int)) ∈ mz_big := mz_w 608 (by decide +kernel) (by decide +kernel)
theorem mw_609 : (Jvm.Cond.methodLink "WettedNet$Fires" (45 : Nat) ({ cls := "WettedNet$Rooms", name := "all", desc := "()I" } : Jvm.MethodName)) ∈ mz_big := mz_w 609 (by decide +kernel) (by decide +kernel)
theorem mw_614 : (Jvm.Cond.methodLink "WettedNet$Fires" (48 : Nat) ({ cls := "WettedNet$Fires", name := "howManyWet", desc := "(I)I" } : Jvm.MethodName)) ∈ mz_big := mz_w 614 (by decide +kernel) (by decide +kernel)
theorem mw_616 : (Jvm.Cond.instanceMethod ({ cls := "WettedNet$Fires", name := "howManyWet", desc := "(I)I" } : Jvm.MethodName)) ∈ mz_big := mz_w 616 (by decide +kernel) (by decide +kernel)
theorem mw_617 : (Jvm.Cond.code ({ cls := "WettedNet$Fires", name := "howManyWet", desc := "(I)I" } : Jvm.MethodName) prog_4_method_7_code (2 : Nat) (Option.some Jvm.ClassFile.FieldType.int)) ∈ mz_big := mz_w 617 (by decide +kernel) (by decide +kernel)
theorem mw_618 : (Jvm.Cond.methodLink "WettedNet$Fires" (71 : Nat) ({ cls := "java/lang/Integer", name := "bitCount", desc := "(I)I" } : Jvm.MethodName)) ∈ mz_big := mz_w 618 (by decide +kernel) (by decide +kernel)
theorem mw_619 : (Jvm.Cond.methodLink "WettedNet$Fires" (76 : Nat) ({ cls := "java/lang/Math", name := "min", desc := "(II)I" } : Jvm.MethodName)) ∈ mz_big := mz_w 619 (by decide +kernel) (by decide +kernel)
theorem mw_620 : (Jvm.Cond.static ({ cls := "java/lang/Math", name := "min", desc := "(II)I" } : Jvm.MethodName)) ∈ mz_big := mz_w 620 (by decide +kernel) (by decide +kernel)
theorem mw_621 : (Jvm.Cond.code ({ cls := "java/lang/Math", name := "min", desc := "(II)I" } : Jvm.MethodName) prog_17_method_69_code (2 : Nat) (Option.some Jvm.ClassFile.FieldType.int)) ∈ mz_big := mz_w 621 (by decide +kernel) (by decide +kernel)
theorem mw_623 : (Jvm.Cond.methodLink "WettedNet$Fires" (52 : Nat) ({ cls := "WettedNet$Sets", name := "startOf", desc := "(I)I" } : Jvm.MethodName)) ∈ mz_big := mz_w 623 (by decide +kernel) (by decide +kernel)
theorem mw_624 : (Jvm.Cond.instanceMethod ({ cls := "WettedNet$Sets", name := "startOf", desc := "(I)I" } : Jvm.MethodName)) ∈ mz_big := mz_w 624 (by decide +kernel) (by decide +kernel)
theorem mw_625 : (Jvm.Cond.selects "WettedNet$Sets" ({ cls := "WettedNet$Sets", name := "startOf", desc := "(I)I" } : Jvm.MethodName) ({ cls := "WettedNet$Sets", name := "startOf", desc := "(I)I" } : Jvm.MethodName)) ∈ mz_big := mz_w 625 (by decide +kernel) (by decide +kernel)
theorem mw_626 : (Jvm.Cond.code ({ cls := "WettedNet$Sets", name := "startOf", desc := "(I)I" } : Jvm.MethodName) prog_10_method_3_code (2 : Nat) (Option.some Jvm.ClassFile.FieldType.int)) ∈ mz_big := mz_w 626 (by decide +kernel) (by decide +kernel)
theorem mw_628 : (Jvm.Cond.methodLink "WettedNet$Fires" (57 : Nat) ({ cls := "WettedNet$Sets", name := "get", desc := "(I)I" } : Jvm.MethodName)) ∈ mz_big := mz_w 628 (by decide +kernel) (by decide +kernel)
theorem mw_629 : (Jvm.Cond.instanceMethod ({ cls := "WettedNet$Sets", name := "get", desc := "(I)I" } : Jvm.MethodName)) ∈ mz_big := mz_w 629 (by decide +kernel) (by decide +kernel)
theorem mw_630 : (Jvm.Cond.selects "WettedNet$Sets" ({ cls := "WettedNet$Sets", name := "get", desc := "(I)I" } : Jvm.MethodName) ({ cls := "WettedNet$Sets", name := "get", desc := "(I)I" } : Jvm.MethodName)) ∈ mz_big := mz_w 630 (by decide +kernel) (by decide +kernel)
theorem mw_631 : (Jvm.Cond.code ({ cls := "WettedNet$Sets", name := "get", desc := "(I)I" } : Jvm.MethodName) prog_10_method_2_code (2 : Nat) (Option.some Jvm.ClassFile.FieldType.int)) ∈ mz_big := mz_w 631 (by decide +kernel) (by decide +kernel)
theorem mw_632 : (Jvm.Cond.methodLink "WettedNet$Fires" (94 : Nat) ({ cls := "WettedNet$Memo", name := "keep", desc := "(II)V" } : Jvm.MethodName)) ∈ mz_big := mz_w 632 (by decide +kernel) (by decide +kernel)
theorem mw_633 : (Jvm.Cond.instanceMethod ({ cls := "WettedNet$Memo", name := "keep", desc := "(II)V" } : Jvm.MethodName)) ∈ mz_big := mz_w 633 (by decide +kernel) (by decide +kernel)
theorem mw_634 : (Jvm.Cond.selects "WettedNet$Memo" ({ cls := "WettedNet$Memo", name := "keep", desc := "(II)V" } : Jvm.MethodName) ({ cls := "WettedNet$Memo", name := "keep", desc := "(II)V" } : Jvm.MethodName)) ∈ mz_big := mz_w 634 (by decide +kernel) (by decide +kernel)
theorem mw_635 : (Jvm.Cond.code ({ cls := "WettedNet$Memo", name := "keep", desc := "(II)V" } : Jvm.MethodName) prog_7_method_4_code (3 : Nat) (Option.none : Option Jvm.ClassFile.FieldType)) ∈ mz_big := mz_w 635 (by decide +kernel) (by decide +kernel)
theorem mw_636 : (Jvm.Cond.methodLink "WettedNet" (155 : Nat) ({ cls := "WettedNet$Fires", name := "firstWet", desc := "(I)I" } : Jvm.MethodName)) ∈ mz_big := mz_w 636 (by decide +kernel) (by decide +kernel)
theorem mw_637 : (Jvm.Cond.instanceMethod ({ cls := "WettedNet$Fires", name := "firstWet", desc := "(I)I" } : Jvm.MethodName)) ∈ mz_big := mz_w 637 (by decide +kernel) (by decide +kernel)
theorem mw_638 : (Jvm.Cond.selects "WettedNet$Fires" ({ cls := "WettedNet$Fires", name := "firstWet", desc := "(I)I" } : Jvm.MethodName) ({ cls := "WettedNet$Fires", name := "firstWet", desc := "(I)I" } : Jvm.MethodName)) ∈ mz_big := mz_w 638 (by decide +kernel) (by decide +kernel)
theorem mw_639 : (Jvm.Cond.code ({ cls := "WettedNet$Fires", name := "firstWet", desc := "(I)I" } : Jvm.MethodName) prog_4_method_3_code (6 : Nat) (Option.some Jvm.ClassFile.FieldType.int)) ∈ mz_big := mz_w 639 (by decide +kernel) (by decide +kernel)
theorem mw_640 : (Jvm.Cond.methodLink "WettedNet$Fires" (36 : Nat) ({ cls := "WettedNet$Rooms", name := "hands", desc := "()I" } : Jvm.MethodName)) ∈ mz_big := mz_w 640 (by decide +kernel) (by decide +kernel)
theorem mw_641 : (Jvm.Cond.methodLink "WettedNet$Fires" (42 : Nat) ({ cls := "WettedNet$Fires", name := "leastLost", desc := "(III)I" } : Jvm.MethodName)) ∈ mz_big := mz_w 641 (by decide +kernel) (by decide +kernel)
theorem mw_642 : (Jvm.Cond.methodLink "WettedNet$Fires" (60 : Nat) ({ cls := "WettedNet$Fires", name := "isFirstWet", desc := "(III)Z" } : Jvm.MethodName)) ∈ mz_big := mz_w 642 (by decide +kernel) (by decide +kernel)
theorem mw_644 : (Jvm.Cond.instanceMethod ({ cls := "WettedNet$Fires", name := "isFirstWet", desc := "(III)Z" } : Jvm.MethodName)) ∈ mz_big := mz_w 644 (by decide +kernel) (by decide +kernel)
theorem mw_645 : (Jvm.Cond.code ({ cls := "WettedNet$Fires", name := "isFirstWet", desc := "(III)Z" } : Jvm.MethodName) prog_4_method_6_code (4 : Nat) (Option.some Jvm.ClassFile.FieldType.boolean)) ∈ mz_big := mz_w 645 (by decide +kernel) (by decide +kernel)
theorem mw_646 : (Jvm.Cond.methodLink "WettedNet" (158 : Nat) ({ cls := "WettedNet$Fires", name := "firstWets", desc := "(I)I" } : Jvm.MethodName)) ∈ mz_big := mz_w 646 (by decide +kernel) (by decide +kernel)
theorem mw_647 : (Jvm.Cond.instanceMethod ({ cls := "WettedNet$Fires", name := "firstWets", desc := "(I)I" } : Jvm.MethodName)) ∈ mz_big := mz_w 647 (by decide +kernel) (by decide +kernel)
theorem mw_648 : (Jvm.Cond.selects "WettedNet$Fires" ({ cls := "WettedNet$Fires", name := "firstWets", desc := "(I)I" } : Jvm.MethodName) ({ cls := "WettedNet$Fires", name := "firstWets", desc := "(I)I" } : Jvm.MethodName)) ∈ mz_big := mz_w 648 (by decide +kernel) (by decide +kernel)
theorem mw_649 : (Jvm.Cond.code ({ cls := "WettedNet$Fires", name := "firstWets", desc := "(I)I" } : Jvm.MethodName) prog_4_method_4_code (7 : Nat) (Option.some Jvm.ClassFile.FieldType.int)) ∈ mz_big := mz_w 649 (by decide +kernel) (by decide +kernel)
theorem mw_650 : (Jvm.Cond.methodLink "WettedNetLaw" (42 : Nat) ({ cls := "WettedNet", name := "hold", desc := "(II)I" } : Jvm.MethodName)) ∈ mz_big := mz_w 650 (by decide +kernel) (by decide +kernel)
theorem mw_651 : (Jvm.Cond.instanceMethod ({ cls := "WettedNet", name := "hold", desc := "(II)I" } : Jvm.MethodName)) ∈ mz_big := mz_w 651 (by decide +kernel) (by decide +kernel)
theorem mw_652 : (Jvm.Cond.selects "WettedNet" ({ cls := "WettedNet", name := "hold", desc := "(II)I" } : Jvm.MethodName) ({ cls := "WettedNet", name := "hold", desc := "(II)I" } : Jvm.MethodName)) ∈ mz_big := mz_w 652 (by decide +kernel) (by decide +kernel)
theorem mw_653 : (Jvm.Cond.code ({ cls := "WettedNet", name := "hold", desc := "(II)I" } : Jvm.MethodName) prog_1_method_8_code (4 : Nat) (Option.some Jvm.ClassFile.FieldType.int)) ∈ mz_big := mz_w 653 (by decide +kernel) (by decide +kernel)
theorem mw_654 : (Jvm.Cond.methodLink "WettedNetLaw" (46 : Nat) ({ cls := "WettedNet", name := "begin", desc := "(I)I" } : Jvm.MethodName)) ∈ mz_big := mz_w 654 (by decide +kernel) (by decide +kernel)
theorem mw_655 : (Jvm.Cond.instanceMethod ({ cls := "WettedNet", name := "begin", desc := "(I)I" } : Jvm.MethodName)) ∈ mz_big := mz_w 655 (by decide +kernel) (by decide +kernel)
theorem mw_656 : (Jvm.Cond.selects "WettedNet" ({ cls := "WettedNet", name := "begin", desc := "(I)I" } : Jvm.MethodName) ({ cls := "WettedNet", name := "begin", desc := "(I)I" } : Jvm.MethodName)) ∈ mz_big := mz_w 656 (by decide +kernel) (by decide +kernel)
theorem mw_657 : (Jvm.Cond.code ({ cls := "WettedNet", name := "begin", desc := "(I)I" } : Jvm.MethodName) prog_1_method_9_code (2 : Nat) (Option.some Jvm.ClassFile.FieldType.int)) ∈ mz_big := mz_w 657 (by decide +kernel) (by decide +kernel)
theorem mw_658 : (Jvm.Cond.methodLink "WettedNet" (161 : Nat) ({ cls := "WettedNet$Game", name := "start", desc := "(I)I" } : Jvm.MethodName)) ∈ mz_big := mz_w 658 (by decide +kernel) (by decide +kernel)
theorem mw_659 : (Jvm.Cond.instanceMethod ({ cls := "WettedNet$Game", name := "start", desc := "(I)I" } : Jvm.MethodName)) ∈ mz_big := mz_w 659 (by decide +kernel) (by decide +kernel)
theorem mw_660 : (Jvm.Cond.selects "WettedNet$Game" ({ cls := "WettedNet$Game", name := "start", desc := "(I)I" } : Jvm.MethodName) ({ cls := "WettedNet$Game", name := "start", desc := "(I)I" } : Jvm.MethodName)) ∈ mz_big := mz_w 660 (by decide +kernel) (by decide +kernel)
theorem mw_661 : (Jvm.Cond.code ({ cls := "WettedNet$Game", name := "start", desc := "(I)I" } : Jvm.MethodName) prog_6_method_2_code (2 : Nat) (Option.some Jvm.ClassFile.FieldType.int)) ∈ mz_big := mz_w 661 (by decide +kernel) (by decide +kernel)
theorem mw_662 : (Jvm.Cond.methodLink "WettedNet$Game" (40 : Nat) ({ cls := "WettedNet$Rooms", name := "hands", desc := "()I" } : Jvm.MethodName)) ∈ mz_big := mz_w 662 (by decide +kernel) (by decide +kernel)
theorem mw_663 : (Jvm.Cond.methodLink "WettedNet$Game" (46 : Nat) ({ cls := "WettedNet$Fires", name := "leastLost", desc := "(III)I" } : Jvm.MethodName)) ∈ mz_big := mz_w 663 (by decide +kernel) (by decide +kernel)
theorem mw_664 : (Jvm.Cond.methodLink "WettedNetLaw" (51 : Nat) ({ cls := "WettedNet", name := "wets", desc := "(I)I" } : Jvm.MethodName)) ∈ mz_big := mz_w 664 (by decide +kernel) (by decide +kernel)
theorem mw_665 : (Jvm.Cond.instanceMethod ({ cls := "WettedNet", name := "wets", desc := "(I)I" } : Jvm.MethodName)) ∈ mz_big := mz_w 665 (by decide +kernel) (by decide +kernel)
theorem mw_666 : (Jvm.Cond.selects "WettedNet" ({ cls := "WettedNet", name := "wets", desc := "(I)I" } : Jvm.MethodName) ({ cls := "WettedNet", name := "wets", desc := "(I)I" } : Jvm.MethodName)) ∈ mz_big := mz_w 666 (by decide +kernel) (by decide +kernel)
theorem mw_667 : (Jvm.Cond.code ({ cls := "WettedNet", name := "wets", desc := "(I)I" } : Jvm.MethodName) prog_1_method_10_code (2 : Nat) (Option.some Jvm.ClassFile.FieldType.int)) ∈ mz_big := mz_w 667 (by decide +kernel) (by decide +kernel)
theorem mw_668 : (Jvm.Cond.methodLink "WettedNet" (164 : Nat) ({ cls := "WettedNet$Game", name := "mayWet", desc := "(I)Z" } : Jvm.MethodName)) ∈ mz_big := mz_w 668 (by decide +kernel) (by decide +kernel)
theorem mw_669 : (Jvm.Cond.instanceMethod ({ cls := "WettedNet$Game", name := "mayWet", desc := "(I)Z" } : Jvm.MethodName)) ∈ mz_big := mz_w 669 (by decide +kernel) (by decide +kernel)
theorem mw_670 : (Jvm.Cond.selects "WettedNet$Game" ({ cls := "WettedNet$Game", name := "mayWet", desc := "(I)Z" } : Jvm.MethodName) ({ cls := "WettedNet$Game", name := "mayWet", desc := "(I)Z" } : Jvm.MethodName)) ∈ mz_big := mz_w 670 (by decide +kernel) (by decide +kernel)
theorem mw_671 : (Jvm.Cond.code ({ cls := "WettedNet$Game", name := "mayWet", desc := "(I)Z" } : Jvm.MethodName) prog_6_method_5_code (3 : Nat) (Option.some Jvm.ClassFile.FieldType.boolean)) ∈ mz_big := mz_w 671 (by decide +kernel) (by decide +kernel)
theorem mw_672 : (Jvm.Cond.methodLink "WettedNet$Game" (52 : Nat) ({ cls := "WettedNet$Rooms", name := "all", desc := "()I" } : Jvm.MethodName)) ∈ mz_big := mz_w 672 (by decide +kernel) (by decide +kernel)
theorem mw_680 : (Jvm.Cond.methodLink "WettedNetLaw" (55 : Nat) ({ cls := "WettedNet", name := "play", desc := "(I)I" } : Jvm.MethodName)) ∈ mz_big := mz_w 680 (by decide +kernel) (by decide +kernel)
theorem mw_681 : (Jvm.Cond.instanceMethod ({ cls := "WettedNet", name := "play", desc := "(I)I" } : Jvm.MethodName)) ∈ mz_big := mz_w 681 (by decide +kernel) (by decide +kernel)
theorem mw_682 : (Jvm.Cond.selects "WettedNet" ({ cls := "WettedNet", name := "play", desc := "(I)I" } : Jvm.MethodName) ({ cls := "WettedNet", name := "play", desc := "(I)I" } : Jvm.MethodName)) ∈ mz_big := mz_w 682 (by decide +kernel) (by decide +kernel)
theorem mw_683 : (Jvm.Cond.code ({ cls := "WettedNet", name := "play", desc := "(I)I" } : Jvm.MethodName) prog_1_method_11_code (2 : Nat) (Option.some Jvm.ClassFile.FieldType.int)) ∈ mz_big := mz_w 683 (by decide +kernel) (by decide +kernel)
theorem mw_684 : (Jvm.Cond.methodLink "WettedNet" (170 : Nat) ({ cls := "WettedNet$Game", name := "isBegun", desc := "()Z" } : Jvm.MethodName)) ∈ mz_big := mz_w 684 (by decide +kernel) (by decide +kernel)
theorem mw_685 : (Jvm.Cond.instanceMethod ({ cls := "WettedNet$Game", name := "isBegun", desc := "()Z" } : Jvm.MethodName)) ∈ mz_big := mz_w 685 (by decide +kernel) (by decide +kernel)
theorem mw_686 : (Jvm.Cond.selects "WettedNet$Game" ({ cls := "WettedNet$Game", name := "isBegun", desc := "()Z" } : Jvm.MethodName) ({ cls := "WettedNet$Game", name := "isBegun", desc := "()Z" } : Jvm.MethodName)) ∈ mz_big := mz_w 686 (by decide +kernel) (by decide +kernel)
theorem mw_687 : (Jvm.Cond.code ({ cls := "WettedNet$Game", name := "isBegun", desc := "()Z" } : Jvm.MethodName) prog_6_method_4_code (1 : Nat) (Option.some Jvm.ClassFile.FieldType.boolean)) ∈ mz_big := mz_w 687 (by decide +kernel) (by decide +kernel)
theorem mw_692 : (Jvm.Cond.methodLink "WettedNetLaw" (59 : Nat) ({ cls := "WettedNet", name := "sparks", desc := "(I)I" } : Jvm.MethodName)) ∈ mz_big := mz_w 692 (by decide +kernel) (by decide +kernel)
theorem mw_693 : (Jvm.Cond.instanceMethod ({ cls := "WettedNet", name := "sparks", desc := "(I)I" } : Jvm.MethodName)) ∈ mz_big := mz_w 693 (by decide +kernel) (by decide +kernel)
theorem mw_694 : (Jvm.Cond.selects "WettedNet" ({ cls := "WettedNet", name := "sparks", desc := "(I)I" } : Jvm.MethodName) ({ cls := "WettedNet", name := "sparks", desc := "(I)I" } : Jvm.MethodName)) ∈ mz_big := mz_w 694 (by decide +kernel) (by decide +kernel)
theorem mw_695 : (Jvm.Cond.code ({ cls := "WettedNet", name := "sparks", desc := "(I)I" } : Jvm.MethodName) prog_1_method_12_code (2 : Nat) (Option.some Jvm.ClassFile.FieldType.int)) ∈ mz_big := mz_w 695 (by decide +kernel) (by decide +kernel)
theorem mw_696 : (Jvm.Cond.methodLink "WettedNet" (177 : Nat) ({ cls := "WettedNet$Throwing", name := "fewestTurns", desc := "()I" } : Jvm.MethodName)) ∈ mz_big := mz_w 696 (by decide +kernel) (by decide +kernel)
theorem mw_697 : (Jvm.Cond.instanceMethod ({ cls := "WettedNet$Throwing", name := "fewestTurns", desc := "()I" } : Jvm.MethodName)) ∈ mz_big := mz_w 697 (by decide +kernel) (by decide +kernel)
theorem mw_698 : (Jvm.Cond.selects "WettedNet$Throwing" ({ cls := "WettedNet$Throwing", name := "fewestTurns", desc := "()I" } : Jvm.MethodName) ({ cls := "WettedNet$Throwing", name := "fewestTurns", desc := "()I" } : Jvm.MethodName)) ∈ mz_big := mz_w 698 (by decide +kernel) (by decide +kernel)
theorem mw_699 : (Jvm.Cond.code ({ cls := "WettedNet$Throwing", name := "fewestTurns", desc := "()I" } : Jvm.MethodName) prog_11_method_2_code (1 : Nat) (Option.some Jvm.ClassFile.FieldType.int)) ∈ mz_big := mz_w 699 (by decide +kernel) (by decide +kernel)
theorem mw_700 : (Jvm.Cond.methodLink "WettedNet$Throwing" (19 : Nat) ({ cls := "WettedNet$Memo", name := "startSearch", desc := "()V" } : Jvm.MethodName)) ∈ mz_big := mz_w 700 (by decide +kernel) (by decide +kernel)
theorem mw_701 : (Jvm.Cond.methodLink "WettedNet$Throwing" (24 : Nat) ({ cls := "WettedNet$Throwing", name := "turnsFrom", desc := "(II)I" } : Jvm.MethodName)) ∈ mz_big := mz_w 701 (by decide +kernel) (by decide +kernel)
theorem mw_703 : (Jvm.Cond.instanceMethod ({ cls := "WettedNet$Throwing", name := "turnsFrom", desc := "(II)I" } : Jvm.MethodName)) ∈ mz_big := mz_w 703 (by decide +kernel) (by decide +kernel)
theorem mw_704 : (Jvm.Cond.code ({ cls := "WettedNet$Throwing", name := "turnsFrom", desc := "(II)I" } : Jvm.MethodName) prog_11_method_7_code (6 : Nat) (Option.some Jvm.ClassFile.FieldType.int)) ∈ mz_big := mz_w 704 (by decide +kernel) (by decide +kernel)
theorem mw_705 : (Jvm.Cond.methodLink "WettedNet$Throwing" (38 : Nat) ({ cls := "WettedNet$Rooms", name := "all", desc := "()I" } : Jvm.MethodName)) ∈ mz_big := mz_w 705 (by decide +kernel) (by decide +kernel)
theorem mw_706 : (Jvm.Cond.methodLink "WettedNet$Throwing" (54 : Nat) ({ cls := "WettedNet$Memo", name := "recall", desc := "(I)I" } : Jvm.MethodName)) ∈ mz_big := mz_w 706 (by decide +kernel) (by decide +kernel)
theorem mw_707 : (Jvm.Cond.methodLink "WettedNet$Throwing" (32 : Nat) ({ cls := "WettedNet$Rooms", name := "besideAny", desc := "(I)I" } : Jvm.MethodName)) ∈ mz_big := mz_w 707 (by decide +kernel) (by decide +kernel)
theorem mw_708 : (Jvm.Cond.methodLink "WettedNet$Throwing" (57 : Nat) ({ cls := "WettedNet$Throwing", name := "turnsByBest", desc := "(II)I" } : Jvm.MethodName)) ∈ mz_big := mz_w 708 (by decide +kernel) (by decide +kernel)
theorem mw_710 : (Jvm.Cond.instanceMethod ({ cls := "WettedNet$Throwing", name := "turnsByBest", desc := "(II)I" } : Jvm.MethodName)) ∈ mz_big := mz_w 710 (by decide +kernel) (by decide +kernel)
theorem mw_711 : (Jvm.Cond.code ({ cls := "WettedNet$Throwing", name := "turnsByBest", desc := "(II)I" } : Jvm.MethodName) prog_11_method_8_code (5 : Nat) (Option.some Jvm.ClassFile.FieldType.int)) ∈ mz_big := mz_w 711 (by decide +kernel) (by decide +kernel)
theorem mw_712 : (Jvm.Cond.constant "WettedNet$Throwing" (64 : Nat) (1000000 : Int32)) ∈ mz_big := mz_w 712 (by decide +kernel) (by decide +kernel)
theorem mw_713 : (Jvm.Cond.methodLink "WettedNet$Throwing" (51 : Nat) ({ cls := "WettedNet$Rooms", name := "howMany", desc := "()I" } : Jvm.MethodName)) ∈ mz_big := mz_w 713 (by decide +kernel) (by decide +kernel)
theorem mw_715 : (Jvm.Cond.methodLink "WettedNet$Throwing" (65 : Nat) ({ cls := "java/lang/Math", name := "min", desc := "(II)I" } : Jvm.MethodName)) ∈ mz_big := mz_w 715 (by decide +kernel) (by decide +kernel)
theorem mw_716 : (Jvm.Cond.methodLink "WettedNet$Throwing" (60 : Nat) ({ cls := "WettedNet$Memo", name := "keep", desc := "(II)V" } : Jvm.MethodName)) ∈ mz_big := mz_w 716 (by decide +kernel) (by decide +kernel)
theorem mw_717 : (Jvm.Cond.methodLink "WettedNet" (180 : Nat) ({ cls := "WettedNet$Throwing", name := "sparkOf", desc := "(I)I" } : Jvm.MethodName)) ∈ mz_big := mz_w 717 (by decide +kernel) (by decide +kernel)
theorem mw_718 : (Jvm.Cond.instanceMethod ({ cls := "WettedNet$Throwing", name := "sparkOf", desc := "(I)I" } : Jvm.MethodName)) ∈ mz_big := mz_w 718 (by decide +kernel) (by decide +kernel)
theorem mw_719 : (Jvm.Cond.selects "WettedNet$Throwing" ({ cls := "WettedNet$Throwing", name := "sparkOf", desc := "(I)I" } : Jvm.MethodName) ({ cls := "WettedNet$Throwing", name := "sparkOf", desc := "(I)I" } : Jvm.MethodName)) ∈ mz_big := mz_w 719 (by decide +kernel) (by decide +kernel)
theorem mw_720 : (Jvm.Cond.code ({ cls := "WettedNet$Throwing", name := "sparkOf", desc := "(I)I" } : Jvm.MethodName) prog_11_method_3_code (7 : Nat) (Option.some Jvm.ClassFile.FieldType.int)) ∈ mz_big := mz_w 720 (by decide +kernel) (by decide +kernel)
theorem mw_721 : (Jvm.Cond.methodLink "WettedNet$Throwing" (28 : Nat) ({ cls := "WettedNet$Throwing", name := "fewestTurns", desc := "()I" } : Jvm.MethodName)) ∈ mz_big := mz_w 721 (by decide +kernel) (by decide +kernel)
theorem mw_722 : (Jvm.Cond.methodLink "WettedNet$Throwing" (41 : Nat) ({ cls := "WettedNet$Throwing", name := "leastSpark", desc := "(II)I" } : Jvm.MethodName)) ∈ mz_big := mz_w 722 (by decide +kernel) (by decide +kernel)
theorem mw_724 : (Jvm.Cond.instanceMethod ({ cls := "WettedNet$Throwing", name := "leastSpark", desc := "(II)I" } : Jvm.MethodName)) ∈ mz_big := mz_w 724 (by decide +kernel) (by decide +kernel)
theorem mw_725 : (Jvm.Cond.code ({ cls := "WettedNet$Throwing", name := "leastSpark", desc := "(II)I" } : Jvm.MethodName) prog_11_method_6_code (4 : Nat) (Option.some Jvm.ClassFile.FieldType.int)) ∈ mz_big := mz_w 725 (by decide +kernel) (by decide +kernel)
theorem mw_726 : (Jvm.Cond.methodLink "WettedNetLaw" (63 : Nat) ({ cls := "WettedNet", name := "when", desc := "(III)I" } : Jvm.MethodName)) ∈ mz_big := mz_w 726 (by decide +kernel) (by decide +kernel)
theorem mw_727 : (Jvm.Cond.instanceMethod ({ cls := "WettedNet", name := "when", desc := "(III)I" } : Jvm.MethodName)) ∈ mz_big := mz_w 727 (by decide +kernel) (by decide +kernel)
theorem mw_728 : (Jvm.Cond.selects "WettedNet" ({ cls := "WettedNet", name := "when", desc := "(III)I" } : Jvm.MethodName) ({ cls := "WettedNet", name := "when", desc := "(III)I" } : Jvm.MethodName)) ∈ mz_big := mz_w 728 (by decide +kernel) (by decide +kernel)
theorem mw_729 : (Jvm.Cond.code ({ cls := "WettedNet", name := "when", desc := "(III)I" } : Jvm.MethodName) prog_1_method_13_code (5 : Nat) (Option.some Jvm.ClassFile.FieldType.int)) ∈ mz_big := mz_w 729 (by decide +kernel) (by decide +kernel)
theorem mw_730 : (Jvm.Cond.methodLink "WettedNet" (183 : Nat) ({ cls := "WettedNet$Throwing", name := "told", desc := "(II)I" } : Jvm.MethodName)) ∈ mz_big := mz_w 730 (by decide +kernel) (by decide +kernel)
theorem mw_731 : (Jvm.Cond.static ({ cls := "WettedNet$Throwing", name := "told", desc := "(II)I" } : Jvm.MethodName)) ∈ mz_big := mz_w 731 (by decide +kernel) (by decide +kernel)
theorem mw_732 : (Jvm.Cond.code ({ cls := "WettedNet$Throwing", name := "told", desc := "(II)I" } : Jvm.MethodName) prog_11_method_5_code (2 : Nat) (Option.some Jvm.ClassFile.FieldType.int)) ∈ mz_big := mz_w 732 (by decide +kernel) (by decide +kernel)
theorem mw_733 : (Jvm.Cond.methodLink "WettedNet" (187 : Nat) ({ cls := "WettedNet$Throwing", name := "turnOf", desc := "(III)I" } : Jvm.MethodName)) ∈ mz_big := mz_w 733 (by decide +kernel) (by decide +kernel)
theorem mw_734 : (Jvm.Cond.instanceMethod ({ cls := "WettedNet$Throwing", name := "turnOf", desc := "(III)I" } : Jvm.MethodName)) ∈ mz_big := mz_w 734 (by decide +kernel) (by decide +kernel)
theorem mw_735 : (Jvm.Cond.selects "WettedNet$Throwing" ({ cls := "WettedNet$Throwing", name := "turnOf", desc := "(III)I" } : Jvm.MethodName) ({ cls := "WettedNet$Throwing", name := "turnOf", desc := "(III)I" } : Jvm.MethodName)) ∈ mz_big := mz_w 735 (by decide +kernel) (by decide +kernel)
theorem mw_736 : (Jvm.Cond.code ({ cls := "WettedNet$Throwing", name := "turnOf", desc := "(III)I" } : Jvm.MethodName) prog_11_method_4_code (6 : Nat) (Option.some Jvm.ClassFile.FieldType.int)) ∈ mz_big := mz_w 736 (by decide +kernel) (by decide +kernel)
theorem mw_737 : (Jvm.Cond.methodLink "WettedNet$Throwing" (44 : Nat) ({ cls := "WettedNet$Throwing", name := "told", desc := "(II)I" } : Jvm.MethodName)) ∈ mz_big := mz_w 737 (by decide +kernel) (by decide +kernel)
theorem mw_738 : (Jvm.Cond.methodLink "WettedNetLaw" (68 : Nat) ({ cls := "WettedNet", name := "caught", desc := "(II)I" } : Jvm.MethodName)) ∈ mz_big := mz_w 738 (by decide +kernel) (by decide +kernel)
theorem mw_739 : (Jvm.Cond.instanceMethod ({ cls := "WettedNet", name := "caught", desc := "(II)I" } : Jvm.MethodName)) ∈ mz_big := mz_w 739 (by decide +kernel) (by decide +kernel)
theorem mw_740 : (Jvm.Cond.selects "WettedNet" ({ cls := "WettedNet", name := "caught", desc := "(II)I" } : Jvm.MethodName) ({ cls := "WettedNet", name := "caught", desc := "(II)I" } : Jvm.MethodName)) ∈ mz_big := mz_w 740 (by decide +kernel) (by decide +kernel)
theorem mw_741 : (Jvm.Cond.code ({ cls := "WettedNet", name := "caught", desc := "(II)I" } : Jvm.MethodName) prog_1_method_14_code (4 : Nat) (Option.some Jvm.ClassFile.FieldType.int)) ∈ mz_big := mz_w 741 (by decide +kernel) (by decide +kernel)
theorem mw_742 : (Jvm.Cond.methodLink "WettedNet" (190 : Nat) ({ cls := "WettedNet$Catching", name := "burnFrom", desc := "(III)I" } : Jvm.MethodName)) ∈ mz_big := mz_w 742 (by decide +kernel) (by decide +kernel)
theorem mw_743 : (Jvm.Cond.instanceMethod ({ cls := "WettedNet$Catching", name := "burnFrom", desc := "(III)I" } : Jvm.MethodName)) ∈ mz_big := mz_w 743 (by decide +kernel) (by decide +kernel)
theorem mw_744 : (Jvm.Cond.selects "WettedNet$Catching" ({ cls := "WettedNet$Catching", name := "burnFrom", desc := "(III)I" } : Jvm.MethodName) ({ cls := "WettedNet$Catching", name := "burnFrom", desc := "(III)I" } : Jvm.MethodName)) ∈ mz_big := mz_w 744 (by decide +kernel) (by decide +kernel)
theorem mw_745 : (Jvm.Cond.code ({ cls := "WettedNet$Catching", name := "burnFrom", desc := "(III)I" } : Jvm.MethodName) prog_2_method_2_code (7 : Nat) (Option.some Jvm.ClassFile.FieldType.int)) ∈ mz_big := mz_w 745 (by decide +kernel) (by decide +kernel)
theorem mw_747 : (Jvm.Cond.methodLink "WettedNet$Catching" (27 : Nat) ({ cls := "WettedNet$Catching", name := "catchOnce", desc := "(III)I" } : Jvm.MethodName)) ∈ mz_big := mz_w 747 (by decide +kernel) (by decide +kernel)
theorem mw_749 : (Jvm.Cond.instanceMethod ({ cls := "WettedNet$Catching", name := "catchOnce", desc := "(III)I" } : Jvm.MethodName)) ∈ mz_big := mz_w 749 (by decide +kernel) (by decide +kernel)
theorem mw_750 : (Jvm.Cond.code ({ cls := "WettedNet$Catching", name := "catchOnce", desc := "(III)I" } : Jvm.MethodName) prog_2_method_8_code (6 : Nat) (Option.some Jvm.ClassFile.FieldType.int)) ∈ mz_big := mz_w 750 (by decide +kernel) (by decide +kernel)
theorem mw_751 : (Jvm.Cond.methodLink "WettedNet$Catching" (70 : Nat) ({ cls := "WettedNet$Rooms", name := "howMany", desc := "()I" } : Jvm.MethodName)) ∈ mz_big := mz_w 751 (by decide +kernel) (by decide +kernel)
theorem mw_752 : (Jvm.Cond.methodLink "WettedNet$Catching" (73 : Nat) ({ cls := "WettedNet$Rooms", name := "at", desc := "(I)I" } : Jvm.MethodName)) ∈ mz_big := mz_w 752 (by decide +kernel) (by decide +kernel)
theorem mw_753 : (Jvm.Cond.methodLink "WettedNet$Catching" (53 : Nat) ({ cls := "java/lang/Integer", name := "bitCount", desc := "(I)I" } : Jvm.MethodName)) ∈ mz_big := mz_w 753 (by decide +kernel) (by decide +kernel)
theorem mw_754 : (Jvm.Cond.methodLink "WettedNet$Catching" (76 : Nat) ({ cls := "WettedNet$Rooms", name := "thick", desc := "(I)I" } : Jvm.MethodName)) ∈ mz_big := mz_w 754 (by decide +kernel) (by decide +kernel)
theorem mw_755 : (Jvm.Cond.methodLink "WettedNet" (193 : Nat) ({ cls := "WettedNet$Catching", name := "turnOf", desc := "(I)I" } : Jvm.MethodName)) ∈ mz_big := mz_w 755 (by decide +kernel) (by decide +kernel)
theorem mw_756 : (Jvm.Cond.instanceMethod ({ cls := "WettedNet$Catching", name := "turnOf", desc := "(I)I" } : Jvm.MethodName)) ∈ mz_big := mz_w 756 (by decide +kernel) (by decide +kernel)
theorem mw_757 : (Jvm.Cond.selects "WettedNet$Catching" ({ cls := "WettedNet$Catching", name := "turnOf", desc := "(I)I" } : Jvm.MethodName) ({ cls := "WettedNet$Catching", name := "turnOf", desc := "(I)I" } : Jvm.MethodName)) ∈ mz_big := mz_w 757 (by decide +kernel) (by decide +kernel)
theorem mw_758 : (Jvm.Cond.code ({ cls := "WettedNet$Catching", name := "turnOf", desc := "(I)I" } : Jvm.MethodName) prog_2_method_3_code (2 : Nat) (Option.some Jvm.ClassFile.FieldType.int)) ∈ mz_big := mz_w 758 (by decide +kernel) (by decide +kernel)
theorem mw_759 : (Jvm.Cond.methodLink "WettedNet$Catching" (31 : Nat) ({ cls := "WettedNet$Rooms", name := "isRoom", desc := "(I)Z" } : Jvm.MethodName)) ∈ mz_big := mz_w 759 (by decide +kernel) (by decide +kernel)
theorem mw_760 : (Jvm.Cond.methodLink "WettedNetLaw" (72 : Nat) ({ cls := "WettedNet", name := "seeds", desc := "(II)I" } : Jvm.MethodName)) ∈ mz_big := mz_w 760 (by decide +kernel) (by decide +kernel)
theorem mw_761 : (Jvm.Cond.instanceMethod ({ cls := "WettedNet", name := "seeds", desc := "(II)I" } : Jvm.MethodName)) ∈ mz_big := mz_w 761 (by decide +kernel) (by decide +kernel)
theorem mw_762 : (Jvm.Cond.selects "WettedNet" ({ cls := "WettedNet", name := "seeds", desc := "(II)I" } : Jvm.MethodName) ({ cls := "WettedNet", name := "seeds", desc := "(II)I" } : Jvm.MethodName)) ∈ mz_big := mz_w 762 (by decide +kernel) (by decide +kernel)
theorem mw_763 : (Jvm.Cond.code ({ cls := "WettedNet", name := "seeds", desc := "(II)I" } : Jvm.MethodName) prog_1_method_15_code (4 : Nat) (Option.some Jvm.ClassFile.FieldType.int)) ∈ mz_big := mz_w 763 (by decide +kernel) (by decide +kernel)
theorem mw_764 : (Jvm.Cond.methodLink "WettedNet" (195 : Nat) ({ cls := "WettedNet$Catching", name := "leastSeedSets", desc := "(I)I" } : Jvm.MethodName)) ∈ mz_big := mz_w 764 (by decide +kernel) (by decide +kernel)
theorem mw_765 : (Jvm.Cond.instanceMethod ({ cls := "WettedNet$Catching", name := "leastSeedSets", desc := "(I)I" } : Jvm.MethodName)) ∈ mz_big := mz_w 765 (by decide +kernel) (by decide +kernel)
theorem mw_766 : (Jvm.Cond.selects "WettedNet$Catching" ({ cls := "WettedNet$Catching", name := "leastSeedSets", desc := "(I)I" } : Jvm.MethodName) ({ cls := "WettedNet$Catching", name := "leastSeedSets", desc := "(I)I" } : Jvm.MethodName)) ∈ mz_big := mz_w 766 (by decide +kernel) (by decide +kernel)
theorem mw_767 : (Jvm.Cond.code ({ cls := "WettedNet$Catching", name := "leastSeedSets", desc := "(I)I" } : Jvm.MethodName) prog_2_method_5_code (6 : Nat) (Option.some Jvm.ClassFile.FieldType.int)) ∈ mz_big := mz_w 767 (by decide +kernel) (by decide +kernel)
theorem mw_768 : (Jvm.Cond.methodLink "WettedNet$Catching" (50 : Nat) ({ cls := "WettedNet$Catching", name := "leastSeeds", desc := "(I)I" } : Jvm.MethodName)) ∈ mz_big := mz_w 768 (by decide +kernel) (by decide +kernel)
theorem mw_769 : (Jvm.Cond.instanceMethod ({ cls := "WettedNet$Catching", name := "leastSeeds", desc := "(I)I" } : Jvm.MethodName)) ∈ mz_big := mz_w 769 (by decide +kernel) (by decide +kernel)
theorem mw_770 : (Jvm.Cond.selects "WettedNet$Catching" ({ cls := "WettedNet$Catching", name := "leastSeeds", desc := "(I)I" } : Jvm.MethodName) ({ cls := "WettedNet$Catching", name := "leastSeeds", desc := "(I)I" } : Jvm.MethodName)) ∈ mz_big := mz_w 770 (by decide +kernel) (by decide +kernel)
theorem mw_771 : (Jvm.Cond.code ({ cls := "WettedNet$Catching", name := "leastSeeds", desc := "(I)I" } : Jvm.MethodName) prog_2_method_4_code (3 : Nat) (Option.some Jvm.ClassFile.FieldType.int)) ∈ mz_big := mz_w 771 (by decide +kernel) (by decide +kernel)
theorem mw_772 : (Jvm.Cond.methodLink "WettedNet$Catching" (37 : Nat) ({ cls := "WettedNet$Sets", name := "get", desc := "(I)I" } : Jvm.MethodName)) ∈ mz_big := mz_w 772 (by decide +kernel) (by decide +kernel)
theorem mw_773 : (Jvm.Cond.methodLink "WettedNet$Catching" (43 : Nat) ({ cls := "WettedNet$Catching", name := "isSeeds", desc := "(II)Z" } : Jvm.MethodName)) ∈ mz_big := mz_w 773 (by decide +kernel) (by decide +kernel)
theorem mw_775 : (Jvm.Cond.instanceMethod ({ cls := "WettedNet$Catching", name := "isSeeds", desc := "(II)Z" } : Jvm.MethodName)) ∈ mz_big := mz_w 775 (by decide +kernel) (by decide +kernel)
theorem mw_776 : (Jvm.Cond.code ({ cls := "WettedNet$Catching", name := "isSeeds", desc := "(II)Z" } : Jvm.MethodName) prog_2_method_7_code (3 : Nat) (Option.some Jvm.ClassFile.FieldType.boolean)) ∈ mz_big := mz_w 776 (by decide +kernel) (by decide +kernel)
theorem mw_777 : (Jvm.Cond.methodLink "WettedNet$Catching" (67 : Nat) ({ cls := "WettedNet$Rooms", name := "isSet", desc := "(I)Z" } : Jvm.MethodName)) ∈ mz_big := mz_w 777 (by decide +kernel) (by decide +kernel)
theorem mw_778 : (Jvm.Cond.methodLink "WettedNet$Catching" (61 : Nat) ({ cls := "WettedNet$Catching", name := "burnFrom", desc := "(III)I" } : Jvm.MethodName)) ∈ mz_big := mz_w 778 (by decide +kernel) (by decide +kernel)
theorem mw_779 : (Jvm.Cond.methodLink "WettedNet$Catching" (46 : Nat) ({ cls := "WettedNet$Rooms", name := "all", desc := "()I" } : Jvm.MethodName)) ∈ mz_big := mz_w 779 (by decide +kernel) (by decide +kernel)
theorem mw_780 : (Jvm.Cond.methodLink "WettedNet$Catching" (58 : Nat) ({ cls := "WettedNet$Sets", name := "startOf", desc := "(I)I" } : Jvm.MethodName)) ∈ mz_big := mz_w 780 (by decide +kernel) (by decide +kernel)
theorem mw_781 : (Jvm.Cond.methodLink "WettedNet" (198 : Nat) ({ cls := "WettedNet$Catching", name := "leastSeeds", desc := "(I)I" } : Jvm.MethodName)) ∈ mz_big := mz_w 781 (by decide +kernel) (by decide +kernel)
theorem mw_782 : (Jvm.Cond.methodLink "WettedNet" (201 : Nat) ({ cls := "java/lang/Integer", name := "bitCount", desc := "(I)I" } : Jvm.MethodName)) ∈ mz_big := mz_w 782 (by decide +kernel) (by decide +kernel)
theorem mw_783 : (Jvm.Cond.methodLink "WettedNetLaw" (76 : Nat) ({ cls := "WettedNet", name := "ahead", desc := "(II)I" } : Jvm.MethodName)) ∈ mz_big := mz_w 783 (by decide +kernel) (by decide +kernel)
theorem mw_784 : (Jvm.Cond.instanceMethod ({ cls := "WettedNet", name := "ahead", desc := "(II)I" } : Jvm.MethodName)) ∈ mz_big := mz_w 784 (by decide +kernel) (by decide +kernel)
theorem mw_785 : (Jvm.Cond.selects "WettedNet" ({ cls := "WettedNet", name := "ahead", desc := "(II)I" } : Jvm.MethodName) ({ cls := "WettedNet", name := "ahead", desc := "(II)I" } : Jvm.MethodName)) ∈ mz_big := mz_w 785 (by decide +kernel) (by decide +kernel)
theorem mw_786 : (Jvm.Cond.code ({ cls := "WettedNet", name := "ahead", desc := "(II)I" } : Jvm.MethodName) prog_1_method_16_code (3 : Nat) (Option.some Jvm.ClassFile.FieldType.int)) ∈ mz_big := mz_w 786 (by decide +kernel) (by decide +kernel)
theorem mw_787 : (Jvm.Cond.methodLink "WettedNet" (206 : Nat) ({ cls := "WettedNet$Catching", name := "leastWetAhead", desc := "(II)I" } : Jvm.MethodName)) ∈ mz_big := mz_w 787 (by decide +kernel) (by decide +kernel)
theorem mw_788 : (Jvm.Cond.instanceMethod ({ cls := "WettedNet$Catching", name := "leastWetAhead", desc := "(II)I" } : Jvm.MethodName)) ∈ mz_big := mz_w 788 (by decide +kernel) (by decide +kernel)
theorem mw_789 : (Jvm.Cond.selects "WettedNet$Catching" ({ cls := "WettedNet$Catching", name := "leastWetAhead", desc := "(II)I" } : Jvm.MethodName) ({ cls := "WettedNet$Catching", name := "leastWetAhead", desc := "(II)I" } : Jvm.MethodName)) ∈ mz_big := mz_w 789 (by decide +kernel) (by decide +kernel)
theorem mw_790 : (Jvm.Cond.code ({ cls := "WettedNet$Catching", name := "leastWetAhead", desc := "(II)I" } : Jvm.MethodName) prog_2_method_6_code (6 : Nat) (Option.some Jvm.ClassFile.FieldType.int)) ∈ mz_big := mz_w 790 (by decide +kernel) (by decide +kernel)
theorem mw_791 : (Jvm.Cond.methodLink "WettedNet$Catching" (64 : Nat) ({ cls := "WettedNet$Rooms", name := "folkOf", desc := "(I)I" } : Jvm.MethodName)) ∈ mz_big := mz_w 791 (by decide +kernel) (by decide +kernel)
theorem mw_792 : (Jvm.Cond.methodLink "WettedNetLaw" (80 : Nat) ({ cls := "WettedNet", name := "forced", desc := "(III)I" } : Jvm.MethodName)) ∈ mz_big := mz_w 792 (by decide +kernel) (by decide +kernel)
theorem mw_793 : (Jvm.Cond.instanceMethod ({ cls := "WettedNet", name := "forced", desc := "(III)I" } : Jvm.MethodName)) ∈ mz_big := mz_w 793 (by decide +kernel) (by decide +kernel)
theorem mw_794 : (Jvm.Cond.selects "WettedNet" ({ cls := "WettedNet", name := "forced", desc := "(III)I" } : Jvm.MethodName) ({ cls := "WettedNet", name := "forced", desc := "(III)I" } : Jvm.MethodName)) ∈ mz_big := mz_w 794 (by decide +kernel) (by decide +kernel)
theorem mw_795 : (Jvm.Cond.code ({ cls := "WettedNet", name := "forced", desc := "(III)I" } : Jvm.MethodName) prog_1_method_17_code (5 : Nat) (Option.some Jvm.ClassFile.FieldType.int)) ∈ mz_big := mz_w 795 (by decide +kernel) (by decide +kernel)
theorem mw_796 : (Jvm.Cond.methodLink "WettedNet" (209 : Nat) ({ cls := "WettedNet$Forcing", name := "burnFrom", desc := "(I)I" } : Jvm.MethodName)) ∈ mz_big := mz_w 796 (by decide +kernel) (by decide +kernel)
theorem mw_797 : (Jvm.Cond.instanceMethod ({ cls := "WettedNet$Forcing", name := "burnFrom", desc := "(I)I" } : Jvm.MethodName)) ∈ mz_big := mz_w 797 (by decide +kernel) (by decide +kernel)
theorem mw_798 : (Jvm.Cond.selects "WettedNet$Forcing" ({ cls := "WettedNet$Forcing", name := "burnFrom", desc := "(I)I" } : Jvm.MethodName) ({ cls := "WettedNet$Forcing", name := "burnFrom", desc := "(I)I" } : Jvm.MethodName)) ∈ mz_big := mz_w 798 (by decide +kernel) (by decide +kernel)
theorem mw_799 : (Jvm.Cond.code ({ cls := "WettedNet$Forcing", name := "burnFrom", desc := "(I)I" } : Jvm.MethodName) prog_5_method_2_code (5 : Nat) (Option.some Jvm.ClassFile.FieldType.int)) ∈ mz_big := mz_w 799 (by decide +kernel) (by decide +kernel)
theorem mw_801 : (Jvm.Cond.methodLink "WettedNet$Forcing" (34 : Nat) ({ cls := "WettedNet$Forcing", name := "forceOnce", desc := "(II)I" } : Jvm.MethodName)) ∈ mz_big := mz_w 801 (by decide +kernel) (by decide +kernel)
theorem mw_803 : (Jvm.Cond.instanceMethod ({ cls := "WettedNet$Forcing", name := "forceOnce", desc := "(II)I" } : Jvm.MethodName)) ∈ mz_big := mz_w 803 (by decide +kernel) (by decide +kernel)
theorem mw_804 : (Jvm.Cond.code ({ cls := "WettedNet$Forcing", name := "forceOnce", desc := "(II)I" } : Jvm.MethodName) prog_5_method_10_code (7 : Nat) (Option.some Jvm.ClassFile.FieldType.int)) ∈ mz_big := mz_w 804 (by decide +kernel) (by decide +kernel)
theorem mw_805 : (Jvm.Cond.methodLink "WettedNet$Forcing" (78 : Nat) ({ cls := "WettedNet$Rooms", name := "howMany", desc := "()I" } : Jvm.MethodName)) ∈ mz_big := mz_w 805 (by decide +kernel) (by decide +kernel)
theorem mw_806 : (Jvm.Cond.methodLink "WettedNet$Forcing" (81 : Nat) ({ cls := "WettedNet$Rooms", name := "beside", desc := "(I)I" } : Jvm.MethodName)) ∈ mz_big := mz_w 806 (by decide +kernel) (by decide +kernel)
theorem mw_807 : (Jvm.Cond.methodLink "WettedNet$Forcing" (60 : Nat) ({ cls := "java/lang/Integer", name := "bitCount", desc := "(I)I" } : Jvm.MethodName)) ∈ mz_big := mz_w 807 (by decide +kernel) (by decide +kernel)
theorem mw_809 : (Jvm.Cond.static ({ cls := "java/lang/Integer", name := "numberOfTrailingZeros", desc := "(I)I" } : Jvm.MethodName)) ∈ mz_big := mz_w 809 (by decide +kernel) (by decide +kernel)
theorem mw_810 : (Jvm.Cond.code ({ cls := "java/lang/Integer", name := "numberOfTrailingZeros", desc := "(I)I" } : Jvm.MethodName) prog_16_method_48_code (2 : Nat) (Option.some Jvm.ClassFile.FieldType.int)) ∈ mz_big := mz_w 810 (by decide +kernel) (by decide +kernel)
theorem mw_812 : (Jvm.Cond.methodLink "WettedNet$Forcing" (38 : Nat) ({ cls := "WettedNet$Rooms", name := "isRoom", desc := "(I)Z" } : Jvm.MethodName)) ∈ mz_big := mz_w 812 (by decide +kernel) (by decide +kernel)
theorem mw_813 : (Jvm.Cond.methodLink "WettedNet" (211 : Nat) ({ cls := "WettedNet$Forcing", name := "roundOf", desc := "(I)I" } : Jvm.MethodName)) ∈ mz_big := mz_w 813 (by decide +kernel) (by decide +kernel)
theorem mw_814 : (Jvm.Cond.instanceMethod ({ cls := "WettedNet$Forcing", name := "roundOf", desc := "(I)I" } : Jvm.MethodName)) ∈ mz_big := mz_w 814 (by decide +kernel) (by decide +kernel)
theorem mw_815 : (Jvm.Cond.selects "WettedNet$Forcing" ({ cls := "WettedNet$Forcing", name := "roundOf", desc := "(I)I" } : Jvm.MethodName) ({ cls := "WettedNet$Forcing", name := "roundOf", desc := "(I)I" } : Jvm.MethodName)) ∈ mz_big := mz_w 815 (by decide +kernel) (by decide +kernel)
theorem mw_816 : (Jvm.Cond.code ({ cls := "WettedNet$Forcing", name := "roundOf", desc := "(I)I" } : Jvm.MethodName) prog_5_method_3_code (2 : Nat) (Option.some Jvm.ClassFile.FieldType.int)) ∈ mz_big := mz_w 816 (by decide +kernel) (by decide +kernel)
theorem mw_817 : (Jvm.Cond.methodLink "WettedNet" (214 : Nat) ({ cls := "WettedNet$Forcing", name := "forcerOf", desc := "(I)I" } : Jvm.MethodName)) ∈ mz_big := mz_w 817 (by decide +kernel) (by decide +kernel)
theorem mw_818 : (Jvm.Cond.instanceMethod ({ cls := "WettedNet$Forcing", name := "forcerOf", desc := "(I)I" } : Jvm.MethodName)) ∈ mz_big := mz_w 818 (by decide +kernel) (by decide +kernel)
theorem mw_819 : (Jvm.Cond.selects "WettedNet$Forcing" ({ cls := "WettedNet$Forcing", name := "forcerOf", desc := "(I)I" } : Jvm.MethodName) ({ cls := "WettedNet$Forcing", name := "forcerOf", desc := "(I)I" } : Jvm.MethodName)) ∈ mz_big := mz_w 819 (by decide +kernel) (by decide +kernel)
theorem mw_820 : (Jvm.Cond.code ({ cls := "WettedNet$Forcing", name := "forcerOf", desc := "(I)I" } : Jvm.MethodName) prog_5_method_4_code (2 : Nat) (Option.some Jvm.ClassFile.FieldType.int)) ∈ mz_big := mz_w 820 (by decide +kernel) (by decide +kernel)
theorem mw_821 : (Jvm.Cond.methodLink "WettedNetLaw" (84 : Nat) ({ cls := "WettedNet", name := "forcers", desc := "(I)I" } : Jvm.MethodName)) ∈ mz_big := mz_w 821 (by decide +kernel) (by decide +kernel)
theorem mw_822 : (Jvm.Cond.instanceMethod ({ cls := "WettedNet", name := "forcers", desc := "(I)I" } : Jvm.MethodName)) ∈ mz_big := mz_w 822 (by decide +kernel) (by decide +kernel)
theorem mw_823 : (Jvm.Cond.selects "WettedNet" ({ cls := "WettedNet", name := "forcers", desc := "(I)I" } : Jvm.MethodName) ({ cls := "WettedNet", name := "forcers", desc := "(I)I" } : Jvm.MethodName)) ∈ mz_big := mz_w 823 (by decide +kernel) (by decide +kernel)
theorem mw_824 : (Jvm.Cond.code ({ cls := "WettedNet", name := "forcers", desc := "(I)I" } : Jvm.MethodName) prog_1_method_18_code (2 : Nat) (Option.some Jvm.ClassFile.FieldType.int)) ∈ mz_big := mz_w 824 (by decide +kernel) (by decide +kernel)
theorem mw_825 : (Jvm.Cond.methodLink "WettedNet" (217 : Nat) ({ cls := "WettedNet$Forcing", name := "leastForcers", desc := "()I" } : Jvm.MethodName)) ∈ mz_big := mz_w 825 (by decide +kernel) (by decide +kernel)
theorem mw_826 : (Jvm.Cond.instanceMethod ({ cls := "WettedNet$Forcing", name := "leastForcers", desc := "()I" } : Jvm.MethodName)) ∈ mz_big := mz_w 826 (by decide +kernel) (by decide +kernel)
theorem mw_827 : (Jvm.Cond.selects "WettedNet$Forcing" ({ cls := "WettedNet$Forcing", name := "leastForcers", desc := "()I" } : Jvm.MethodName) ({ cls := "WettedNet$Forcing", name := "leastForcers", desc := "()I" } : Jvm.MethodName)) ∈ mz_big := mz_w 827 (by decide +kernel) (by decide +kernel)
theorem mw_828 : (Jvm.Cond.code ({ cls := "WettedNet$Forcing", name := "leastForcers", desc := "()I" } : Jvm.MethodName) prog_5_method_5_code (2 : Nat) (Option.some Jvm.ClassFile.FieldType.int)) ∈ mz_big := mz_w 828 (by decide +kernel) (by decide +kernel)
theorem mw_829 : (Jvm.Cond.methodLink "WettedNet$Forcing" (44 : Nat) ({ cls := "WettedNet$Sets", name := "get", desc := "(I)I" } : Jvm.MethodName)) ∈ mz_big := mz_w 829 (by decide +kernel) (by decide +kernel)
theorem mw_830 : (Jvm.Cond.methodLink "WettedNet$Forcing" (50 : Nat) ({ cls := "WettedNet$Forcing", name := "forcesAll", desc := "(I)Z" } : Jvm.MethodName)) ∈ mz_big := mz_w 830 (by decide +kernel) (by decide +kernel)
theorem mw_832 : (Jvm.Cond.instanceMethod ({ cls := "WettedNet$Forcing", name := "forcesAll", desc := "(I)Z" } : Jvm.MethodName)) ∈ mz_big := mz_w 832 (by decide +kernel) (by decide +kernel)
theorem mw_833 : (Jvm.Cond.code ({ cls := "WettedNet$Forcing", name := "forcesAll", desc := "(I)Z" } : Jvm.MethodName) prog_5_method_9_code (2 : Nat) (Option.some Jvm.ClassFile.FieldType.boolean)) ∈ mz_big := mz_w 833 (by decide +kernel) (by decide +kernel)
theorem mw_834 : (Jvm.Cond.methodLink "WettedNet$Forcing" (72 : Nat) ({ cls := "WettedNet$Rooms", name := "isSet", desc := "(I)Z" } : Jvm.MethodName)) ∈ mz_big := mz_w 834 (by decide +kernel) (by decide +kernel)
theorem mw_835 : (Jvm.Cond.methodLink "WettedNet$Forcing" (75 : Nat) ({ cls := "WettedNet$Forcing", name := "burnFrom", desc := "(I)I" } : Jvm.MethodName)) ∈ mz_big := mz_w 835 (by decide +kernel) (by decide +kernel)
theorem mw_836 : (Jvm.Cond.methodLink "WettedNet$Forcing" (53 : Nat) ({ cls := "WettedNet$Rooms", name := "all", desc := "()I" } : Jvm.MethodName)) ∈ mz_big := mz_w 836 (by decide +kernel) (by decide +kernel)
theorem mw_837 : (Jvm.Cond.methodLink "WettedNet" (220 : Nat) ({ cls := "WettedNet$Forcing", name := "leastForcerSets", desc := "()I" } : Jvm.MethodName)) ∈ mz_big := mz_w 837 (by decide +kernel) (by decide +kernel)
theorem mw_838 : (Jvm.Cond.instanceMethod ({ cls := "WettedNet$Forcing", name := "leastForcerSets", desc := "()I" } : Jvm.MethodName)) ∈ mz_big := mz_w 838 (by decide +kernel) (by decide +kernel)
theorem mw_839 : (Jvm.Cond.selects "WettedNet$Forcing" ({ cls := "WettedNet$Forcing", name := "leastForcerSets", desc := "()I" } : Jvm.MethodName) ({ cls := "WettedNet$Forcing", name := "leastForcerSets", desc := "()I" } : Jvm.MethodName)) ∈ mz_big := mz_w 839 (by decide +kernel) (by decide +kernel)
theorem mw_840 : (Jvm.Cond.code ({ cls := "WettedNet$Forcing", name := "leastForcerSets", desc := "()I" } : Jvm.MethodName) prog_5_method_6_code (5 : Nat) (Option.some Jvm.ClassFile.FieldType.int)) ∈ mz_big := mz_w 840 (by decide +kernel) (by decide +kernel)
theorem mw_841 : (Jvm.Cond.methodLink "WettedNet$Forcing" (57 : Nat) ({ cls := "WettedNet$Forcing", name := "leastForcers", desc := "()I" } : Jvm.MethodName)) ∈ mz_big := mz_w 841 (by decide +kernel) (by decide +kernel)
theorem mw_842 : (Jvm.Cond.methodLink "WettedNet$Forcing" (65 : Nat) ({ cls := "WettedNet$Sets", name := "startOf", desc := "(I)I" } : Jvm.MethodName)) ∈ mz_big := mz_w 842 (by decide +kernel) (by decide +kernel)
theorem mw_843 : (Jvm.Cond.methodLink "WettedNet" (223 : Nat) ({ cls := "WettedNet$Forcing", name := "cheapest", desc := "()I" } : Jvm.MethodName)) ∈ mz_big := mz_w 843 (by decide +kernel) (by decide +kernel)
theorem mw_844 : (Jvm.Cond.instanceMethod ({ cls := "WettedNet$Forcing", name := "cheapest", desc := "()I" } : Jvm.MethodName)) ∈ mz_big := mz_w 844 (by decide +kernel) (by decide +kernel)
theorem mw_845 : (Jvm.Cond.selects "WettedNet$Forcing" ({ cls := "WettedNet$Forcing", name := "cheapest", desc := "()I" } : Jvm.MethodName) ({ cls := "WettedNet$Forcing", name := "cheapest", desc := "()I" } : Jvm.MethodName)) ∈ mz_big := mz_w 845 (by decide +kernel) (by decide +kernel)
theorem mw_846 : (Jvm.Cond.code ({ cls := "WettedNet$Forcing", name := "cheapest", desc := "()I" } : Jvm.MethodName) prog_5_method_7_code (5 : Nat) (Option.some Jvm.ClassFile.FieldType.int)) ∈ mz_big := mz_w 846 (by decide +kernel) (by decide +kernel)
theorem mw_847 : (Jvm.Cond.constant "WettedNet$Forcing" (68 : Nat) (1000000 : Int32)) ∈ mz_big := mz_w 847 (by decide +kernel) (by decide +kernel)
theorem mw_848 : (Jvm.Cond.methodLink "WettedNet$Forcing" (69 : Nat) ({ cls := "WettedNet$Forcing", name := "costOf", desc := "(I)I" } : Jvm.MethodName)) ∈ mz_big := mz_w 848 (by decide +kernel) (by decide +kernel)
theorem mw_849 : (Jvm.Cond.instanceMethod ({ cls := "WettedNet$Forcing", name := "costOf", desc := "(I)I" } : Jvm.MethodName)) ∈ mz_big := mz_w 849 (by decide +kernel) (by decide +kernel)
theorem mw_850 : (Jvm.Cond.selects "WettedNet$Forcing" ({ cls := "WettedNet$Forcing", name := "costOf", desc := "(I)I" } : Jvm.MethodName) ({ cls := "WettedNet$Forcing", name := "costOf", desc := "(I)I" } : Jvm.MethodName)) ∈ mz_big := mz_w 850 (by decide +kernel) (by decide +kernel)
theorem mw_851 : (Jvm.Cond.code ({ cls := "WettedNet$Forcing", name := "costOf", desc := "(I)I" } : Jvm.MethodName) prog_5_method_8_code (2 : Nat) (Option.some Jvm.ClassFile.FieldType.int)) ∈ mz_big := mz_w 851 (by decide +kernel) (by decide +kernel)
theorem mw_852 : (Jvm.Cond.methodLink "WettedNet" (226 : Nat) ({ cls := "WettedNet$Forcing", name := "costOf", desc := "(I)I" } : Jvm.MethodName)) ∈ mz_big := mz_w 852 (by decide +kernel) (by decide +kernel)
theorem mw_853 : (Jvm.Cond.methodLink "WettedNetLaw" (88 : Nat) ({ cls := "WettedNet", name := "carried", desc := "(III)J" } : Jvm.MethodName)) ∈ mz_big := mz_w 853 (by decide +kernel) (by decide +kernel)
theorem mw_854 : (Jvm.Cond.instanceMethod ({ cls := "WettedNet", name := "carried", desc := "(III)J" } : Jvm.MethodName)) ∈ mz_big := mz_w 854 (by decide +kernel) (by decide +kernel)
theorem mw_855 : (Jvm.Cond.selects "WettedNet" ({ cls := "WettedNet", name := "carried", desc := "(III)J" } : Jvm.MethodName) ({ cls := "WettedNet", name := "carried", desc := "(III)J" } : Jvm.MethodName)) ∈ mz_big := mz_w 855 (by decide +kernel) (by decide +kernel)
theorem mw_856 : (Jvm.Cond.code ({ cls := "WettedNet", name := "carried", desc := "(III)J" } : Jvm.MethodName) prog_1_method_19_code (4 : Nat) (Option.some Jvm.ClassFile.FieldType.long)) ∈ mz_big := mz_w 856 (by decide +kernel) (by decide +kernel)
theorem mw_857 : (Jvm.Cond.constantLong "WettedNet" (229 : Nat) (-2 : Int64)) ∈ mz_big := mz_w 857 (by decide +kernel) (by decide +kernel)
theorem mw_858 : (Jvm.Cond.constantLong "WettedNet" (231 : Nat) (-3 : Int64)) ∈ mz_big := mz_w 858 (by decide +kernel) (by decide +kernel)
theorem mw_859 : (Jvm.Cond.methodLink "WettedNet" (233 : Nat) ({ cls := "WettedNet$Rooms", name := "ways", desc := "()I" } : Jvm.MethodName)) ∈ mz_big := mz_w 859 (by decide +kernel) (by decide +kernel)
theorem mw_860 : (Jvm.Cond.instanceMethod ({ cls := "WettedNet$Rooms", name := "ways", desc := "()I" } : Jvm.MethodName)) ∈ mz_big := mz_w 860 (by decide +kernel) (by decide +kernel)
theorem mw_861 : (Jvm.Cond.selects "WettedNet$Rooms" ({ cls := "WettedNet$Rooms", name := "ways", desc := "()I" } : Jvm.MethodName) ({ cls := "WettedNet$Rooms", name := "ways", desc := "()I" } : Jvm.MethodName)) ∈ mz_big := mz_w 861 (by decide +kernel) (by decide +kernel)
theorem mw_862 : (Jvm.Cond.code ({ cls := "WettedNet$Rooms", name := "ways", desc := "()I" } : Jvm.MethodName) prog_8_method_14_code (3 : Nat) (Option.some Jvm.ClassFile.FieldType.int)) ∈ mz_big := mz_w 862 (by decide +kernel) (by decide +kernel)
theorem mw_863 : (Jvm.Cond.methodLink "WettedNet$Rooms" (50 : Nat) ({ cls := "java/lang/Integer", name := "bitCount", desc := "(I)I" } : Jvm.MethodName)) ∈ mz_big := mz_w 863 (by decide +kernel) (by decide +kernel)
theorem mw_865 : (Jvm.Cond.methodLink "WettedNet" (238 : Nat) ({ cls := "WettedNet$Chances", name := "reach", desc := "(III)J" } : Jvm.MethodName)) ∈ mz_big := mz_w 865 (by decide +kernel) (by decide +kernel)
theorem mw_866 : (Jvm.Cond.instanceMethod ({ cls := "WettedNet$Chances", name := "reach", desc := "(III)J" } : Jvm.MethodName)) ∈ mz_big := mz_w 866 (by decide +kernel) (by decide +kernel)
theorem mw_867 : (Jvm.Cond.selects "WettedNet$Chances" ({ cls := "WettedNet$Chances", name := "reach", desc := "(III)J" } : Jvm.MethodName) ({ cls := "WettedNet$Chances", name := "reach", desc := "(III)J" } : Jvm.MethodName)) ∈ mz_big := mz_w 867 (by decide +kernel) (by decide +kernel)
theorem mw_868 : (Jvm.Cond.code ({ cls := "WettedNet$Chances", name := "reach", desc := "(III)J" } : Jvm.MethodName) prog_3_method_2_code (4 : Nat) (Option.some Jvm.ClassFile.FieldType.long)) ∈ mz_big := mz_w 868 (by decide +kernel) (by decide +kernel)
theorem mw_869 : (Jvm.Cond.methodLink "WettedNet$Chances" (22 : Nat) ({ cls := "WettedNet$Chances", name := "partOfSum", desc := "(III)J" } : Jvm.MethodName)) ∈ mz_big := mz_w 869 (by decide +kernel) (by decide +kernel)
theorem mw_871 : (Jvm.Cond.instanceMethod ({ cls := "WettedNet$Chances", name := "partOfSum", desc := "(III)J" } : Jvm.MethodName)) ∈ mz_big := mz_w 871 (by decide +kernel) (by decide +kernel)
theorem mw_872 : (Jvm.Cond.code ({ cls := "WettedNet$Chances", name := "partOfSum", desc := "(III)J" } : Jvm.MethodName) prog_3_method_4_code (10 : Nat) (Option.some Jvm.ClassFile.FieldType.long)) ∈ mz_big := mz_w 872 (by decide +kernel) (by decide +kernel)
theorem mw_873 : (Jvm.Cond.methodLink "WettedNet$Chances" (26 : Nat) ({ cls := "WettedNet$Chances", name := "listWays", desc := "()V" } : Jvm.MethodName)) ∈ mz_big := mz_w 873 (by decide +kernel) (by decide +kernel)
theorem mw_875 : (Jvm.Cond.instanceMethod ({ cls := "WettedNet$Chances", name := "listWays", desc := "()V" } : Jvm.MethodName)) ∈ mz_big := mz_w 875 (by decide +kernel) (by decide +kernel)
theorem mw_876 : (Jvm.Cond.code ({ cls := "WettedNet$Chances", name := "listWays", desc := "()V" } : Jvm.MethodName) prog_3_method_5_code (3 : Nat) (Option.none : Option Jvm.ClassFile.FieldType)) ∈ mz_big := mz_w 876 (by decide +kernel) (by decide +kernel)
theorem mw_877 : (Jvm.Cond.methodLink "WettedNet$Chances" (43 : Nat) ({ cls := "WettedNet$Rooms", name := "howMany", desc := "()I" } : Jvm.MethodName)) ∈ mz_big := mz_w 877 (by decide +kernel) (by decide +kernel)
theorem mw_878 : (Jvm.Cond.methodLink "WettedNet$Chances" (49 : Nat) ({ cls := "WettedNet$Rooms", name := "beside", desc := "(I)I" } : Jvm.MethodName)) ∈ mz_big := mz_w 878 (by decide +kernel) (by decide +kernel)
theorem mw_881 : (Jvm.Cond.methodLink "WettedNet$Chances" (35 : Nat) ({ cls := "WettedNet$Chances", name := "sumFrom", desc := "(IIJII)J" } : Jvm.MethodName)) ∈ mz_big := mz_w 881 (by decide +kernel) (by decide +kernel)
theorem mw_883 : (Jvm.Cond.instanceMethod ({ cls := "WettedNet$Chances", name := "sumFrom", desc := "(IIJII)J" } : Jvm.MethodName)) ∈ mz_big := mz_w 883 (by decide +kernel) (by decide +kernel)
theorem mw_884 : (Jvm.Cond.code ({ cls := "WettedNet$Chances", name := "sumFrom", desc := "(IIJII)J" } : Jvm.MethodName) prog_3_method_6_code (11 : Nat) (Option.some Jvm.ClassFile.FieldType.long)) ∈ mz_big := mz_w 884 (by decide +kernel) (by decide +kernel)
theorem mw_885 : (Jvm.Cond.methodLink "WettedNet$Chances" (57 : Nat) ({ cls := "WettedNet$Chances", name := "openWay", desc := "(II)I" } : Jvm.MethodName)) ∈ mz_big := mz_w 885 (by decide +kernel) (by decide +kernel)
theorem mw_887 : (Jvm.Cond.instanceMethod ({ cls := "WettedNet$Chances", name := "openWay", desc := "(II)I" } : Jvm.MethodName)) ∈ mz_big := mz_w 887 (by decide +kernel) (by decide +kernel)
theorem mw_888 : (Jvm.Cond.code ({ cls := "WettedNet$Chances", name := "openWay", desc := "(II)I" } : Jvm.MethodName) prog_3_method_7_code (4 : Nat) (Option.some Jvm.ClassFile.FieldType.int)) ∈ mz_big := mz_w 888 (by decide +kernel) (by decide +kernel)
theorem mw_889 : (Jvm.Cond.methodLink "WettedNet$Chances" (61 : Nat) ({ cls := "WettedNet$Chances", name := "worth", desc := "(II)I" } : Jvm.MethodName)) ∈ mz_big := mz_w 889 (by decide +kernel) (by decide +kernel)
theorem mw_891 : (Jvm.Cond.instanceMethod ({ cls := "WettedNet$Chances", name := "worth", desc := "(II)I" } : Jvm.MethodName)) ∈ mz_big := mz_w 891 (by decide +kernel) (by decide +kernel)
theorem mw_892 : (Jvm.Cond.code ({ cls := "WettedNet$Chances", name := "worth", desc := "(II)I" } : Jvm.MethodName) prog_3_method_8_code (3 : Nat) (Option.some Jvm.ClassFile.FieldType.int)) ∈ mz_big := mz_w 892 (by decide +kernel) (by decide +kernel)
theorem mw_893 : (Jvm.Cond.methodLink "WettedNet$Chances" (67 : Nat) ({ cls := "WettedNet$Rooms", name := "folkOf", desc := "(I)I" } : Jvm.MethodName)) ∈ mz_big := mz_w 893 (by decide +kernel) (by decide +kernel)
theorem mw_895 : (Jvm.Cond.instanceMethod ({ cls := "WettedNet$Rooms", name := "chance", desc := "()I" } : Jvm.MethodName)) ∈ mz_big := mz_w 895 (by decide +kernel) (by decide +kernel)
theorem mw_896 : (Jvm.Cond.selects "WettedNet$Rooms" ({ cls := "WettedNet$Rooms", name := "chance", desc := "()I" } : Jvm.MethodName) ({ cls := "WettedNet$Rooms", name := "chance", desc := "()I" } : Jvm.MethodName)) ∈ mz_big := mz_w 896 (by decide +kernel) (by decide +kernel)
theorem mw_897 : (Jvm.Cond.code ({ cls := "WettedNet$Rooms", name := "chance", desc := "()I" } : Jvm.MethodName) prog_8_method_4_code (1 : Nat) (Option.some Jvm.ClassFile.FieldType.int)) ∈ mz_big := mz_w 897 (by decide +kernel) (by decide +kernel)
theorem mw_898 : (Jvm.Cond.methodLink "WettedNet$Chances" (39 : Nat) ({ cls := "WettedNet$Chances", name := "commonDivisor", desc := "(JJ)J" } : Jvm.MethodName)) ∈ mz_big := mz_w 898 (by decide +kernel) (by decide +kernel)
theorem mw_899 : (Jvm.Cond.static ({ cls := "WettedNet$Chances", name := "commonDivisor", desc := "(JJ)J" } : Jvm.MethodName)) ∈ mz_big := mz_w 899 (by decide +kernel) (by decide +kernel)
theorem mw_900 : (Jvm.Cond.code ({ cls := "WettedNet$Chances", name := "commonDivisor", desc := "(JJ)J" } : Jvm.MethodName) prog_3_method_9_code (11 : Nat) (Option.some Jvm.ClassFile.FieldType.long)) ∈ mz_big := mz_w 900 (by decide +kernel) (by decide +kernel)
theorem mw_901 : (Jvm.Cond.methodLink "WettedNetLaw" (93 : Nat) ({ cls := "WettedNet", name := "mean", desc := "(II)J" } : Jvm.MethodName)) ∈ mz_big := mz_w 901 (by decide +kernel) (by decide +kernel)
theorem mw_902 : (Jvm.Cond.instanceMethod ({ cls := "WettedNet", name := "mean", desc := "(II)J" } : Jvm.MethodName)) ∈ mz_big := mz_w 902 (by decide +kernel) (by decide +kernel)
theorem mw_903 : (Jvm.Cond.selects "WettedNet" ({ cls := "WettedNet", name := "mean", desc := "(II)J" } : Jvm.MethodName) ({ cls := "WettedNet", name := "mean", desc := "(II)J" } : Jvm.MethodName)) ∈ mz_big := mz_w 903 (by decide +kernel) (by decide +kernel)
theorem mw_904 : (Jvm.Cond.code ({ cls := "WettedNet", name := "mean", desc := "(II)J" } : Jvm.MethodName) prog_1_method_20_code (3 : Nat) (Option.some Jvm.ClassFile.FieldType.long)) ∈ mz_big := mz_w 904 (by decide +kernel) (by decide +kernel)
theorem mw_905 : (Jvm.Cond.methodLink "WettedNet" (242 : Nat) ({ cls := "WettedNet$Chances", name := "meanFolk", desc := "(II)J" } : Jvm.MethodName)) ∈ mz_big := mz_w 905 (by decide +kernel) (by decide +kernel)
theorem mw_906 : (Jvm.Cond.instanceMethod ({ cls := "WettedNet$Chances", name := "meanFolk", desc := "(II)J" } : Jvm.MethodName)) ∈ mz_big := mz_w 906 (by decide +kernel) (by decide +kernel)
theorem mw_907 : (Jvm.Cond.selects "WettedNet$Chances" ({ cls := "WettedNet$Chances", name := "meanFolk", desc := "(II)J" } : Jvm.MethodName) ({ cls := "WettedNet$Chances", name := "meanFolk", desc := "(II)J" } : Jvm.MethodName)) ∈ mz_big := mz_w 907 (by decide +kernel) (by decide +kernel)
theorem mw_908 : (Jvm.Cond.code ({ cls := "WettedNet$Chances", name := "meanFolk", desc := "(II)J" } : Jvm.MethodName) prog_3_method_3_code (3 : Nat) (Option.some Jvm.ClassFile.FieldType.long)) ∈ mz_big := mz_w 908 (by decide +kernel) (by decide +kernel)
theorem mw_909 : (Jvm.Cond.methodLink "WettedNetLaw" (98 : Nat) ({ cls := "WettedNet", name := "token", desc := "(III)I" } : Jvm.MethodName)) ∈ mz_big := mz_w 909 (by decide +kernel) (by decide +kernel)
theorem mw_910 : (Jvm.Cond.instanceMethod ({ cls := "WettedNet", name := "token", desc := "(III)I" } : Jvm.MethodName)) ∈ mz_big := mz_w 910 (by decide +kernel) (by decide +kernel)
theorem mw_911 : (Jvm.Cond.selects "WettedNet" ({ cls := "WettedNet", name := "token", desc := "(III)I" } : Jvm.MethodName) ({ cls := "WettedNet", name := "token", desc := "(III)I" } : Jvm.MethodName)) ∈ mz_big := mz_w 911 (by decide +kernel) (by decide +kernel)
theorem mw_912 : (Jvm.Cond.code ({ cls := "WettedNet", name := "token", desc := "(III)I" } : Jvm.MethodName) prog_1_method_21_code (4 : Nat) (Option.some Jvm.ClassFile.FieldType.int)) ∈ mz_big := mz_w 912 (by decide +kernel) (by decide +kernel)
theorem mw_913 : (Jvm.Cond.methodLink "WettedNet" (246 : Nat) ({ cls := "WettedNet$Walks", name := "length", desc := "(II)I" } : Jvm.MethodName)) ∈ mz_big := mz_w 913 (by decide +kernel) (by decide +kernel)
theorem mw_914 : (Jvm.Cond.instanceMethod ({ cls := "WettedNet$Walks", name := "length", desc := "(II)I" } : Jvm.MethodName)) ∈ mz_big := mz_w 914 (by decide +kernel) (by decide +kernel)
theorem mw_915 : (Jvm.Cond.selects "WettedNet$Walks" ({ cls := "WettedNet$Walks", name := "length", desc := "(II)I" } : Jvm.MethodName) ({ cls := "WettedNet$Walks", name := "length", desc := "(II)I" } : Jvm.MethodName)) ∈ mz_big := mz_w 915 (by decide +kernel) (by decide +kernel)
theorem mw_916 : (Jvm.Cond.code ({ cls := "WettedNet$Walks", name := "length", desc := "(II)I" } : Jvm.MethodName) prog_12_method_2_code (3 : Nat) (Option.some Jvm.ClassFile.FieldType.int)) ∈ mz_big := mz_w 916 (by decide +kernel) (by decide +kernel)
theorem mw_917 : (Jvm.Cond.methodLink "WettedNet$Walks" (19 : Nat) ({ cls := "WettedNet$Memo", name := "startSearch", desc := "()V" } : Jvm.MethodName)) ∈ mz_big := mz_w 917 (by decide +kernel) (by decide +kernel)
theorem mw_918 : (Jvm.Cond.methodLink "WettedNet$Walks" (24 : Nat) ({ cls := "WettedNet$Walks", name := "goesFrom", desc := "(IIZI)I" } : Jvm.MethodName)) ∈ mz_big := mz_w 918 (by decide +kernel) (by decide +kernel)
theorem mw_920 : (Jvm.Cond.instanceMethod ({ cls := "WettedNet$Walks", name := "goesFrom", desc := "(IIZI)I" } : Jvm.MethodName)) ∈ mz_big := mz_w 920 (by decide +kernel) (by decide +kernel)
theorem mw_921 : (Jvm.Cond.code ({ cls := "WettedNet$Walks", name := "goesFrom", desc := "(IIZI)I" } : Jvm.MethodName) prog_12_method_6_code (12 : Nat) (Option.some Jvm.ClassFile.FieldType.int)) ∈ mz_big := mz_w 921 (by decide +kernel) (by decide +kernel)
theorem mw_922 : (Jvm.Cond.methodLink "WettedNet$Walks" (32 : Nat) ({ cls := "WettedNet$Rooms", name := "beside", desc := "(I)I" } : Jvm.MethodName)) ∈ mz_big := mz_w 922 (by decide +kernel) (by decide +kernel)
theorem mw_923 : (Jvm.Cond.methodLink "WettedNet$Walks" (52 : Nat) ({ cls := "WettedNet$Memo", name := "recall", desc := "(I)I" } : Jvm.MethodName)) ∈ mz_big := mz_w 923 (by decide +kernel) (by decide +kernel)
theorem mw_925 : (Jvm.Cond.methodLink "WettedNet$Walks" (38 : Nat) ({ cls := "WettedNet$Rooms", name := "howMany", desc := "()I" } : Jvm.MethodName)) ∈ mz_big := mz_w 925 (by decide +kernel) (by decide +kernel)
theorem mw_931 : (Jvm.Cond.methodLink "WettedNet$Walks" (64 : Nat) ({ cls := "WettedNet$Memo", name := "keep", desc := "(II)V" } : Jvm.MethodName)) ∈ mz_big := mz_w 931 (by decide +kernel) (by decide +kernel)
theorem mw_932 : (Jvm.Cond.methodLink "WettedNet" (249 : Nat) ({ cls := "WettedNet$Walks", name := "step", desc := "(II)I" } : Jvm.MethodName)) ∈ mz_big := mz_w 932 (by decide +kernel) (by decide +kernel)
theorem mw_933 : (Jvm.Cond.instanceMethod ({ cls := "WettedNet$Walks", name := "step", desc := "(II)I" } : Jvm.MethodName)) ∈ mz_big := mz_w 933 (by decide +kernel) (by decide +kernel)
theorem mw_934 : (Jvm.Cond.selects "WettedNet$Walks" ({ cls := "WettedNet$Walks", name := "step", desc := "(II)I" } : Jvm.MethodName) ({ cls := "WettedNet$Walks", name := "step", desc := "(II)I" } : Jvm.MethodName)) ∈ mz_big := mz_w 934 (by decide +kernel) (by decide +kernel)
theorem mw_935 : (Jvm.Cond.code ({ cls := "WettedNet$Walks", name := "step", desc := "(II)I" } : Jvm.MethodName) prog_12_method_4_code (6 : Nat) (Option.some Jvm.ClassFile.FieldType.int)) ∈ mz_big := mz_w 935 (by decide +kernel) (by decide +kernel)
theorem mw_936 : (Jvm.Cond.methodLink "WettedNet$Walks" (28 : Nat) ({ cls := "WettedNet$Walks", name := "length", desc := "(II)I" } : Jvm.MethodName)) ∈ mz_big := mz_w 936 (by decide +kernel) (by decide +kernel)
theorem mw_937 : (Jvm.Cond.methodLink "WettedNet" (252 : Nat) ({ cls := "WettedNet$Walks", name := "alone", desc := "(II)I" } : Jvm.MethodName)) ∈ mz_big := mz_w 937 (by decide +kernel) (by decide +kernel)
theorem mw_938 : (Jvm.Cond.instanceMethod ({ cls := "WettedNet$Walks", name := "alone", desc := "(II)I" } : Jvm.MethodName)) ∈ mz_big := mz_w 938 (by decide +kernel) (by decide +kernel)
theorem mw_939 : (Jvm.Cond.selects "WettedNet$Walks" ({ cls := "WettedNet$Walks", name := "alone", desc := "(II)I" } : Jvm.MethodName) ({ cls := "WettedNet$Walks", name := "alone", desc := "(II)I" } : Jvm.MethodName)) ∈ mz_big := mz_w 939 (by decide +kernel) (by decide +kernel)
theorem mw_940 : (Jvm.Cond.code ({ cls := "WettedNet$Walks", name := "alone", desc := "(II)I" } : Jvm.MethodName) prog_12_method_3_code (3 : Nat) (Option.some Jvm.ClassFile.FieldType.int)) ∈ mz_big := mz_w 940 (by decide +kernel) (by decide +kernel)
theorem mw_941 : (Jvm.Cond.methodLink "WettedNetLaw" (102 : Nat) ({ cls := "WettedNet", name := "pairs", desc := "()I" } : Jvm.MethodName)) ∈ mz_big := mz_w 941 (by decide +kernel) (by decide +kernel)
theorem mw_942 : (Jvm.Cond.instanceMethod ({ cls := "WettedNet", name := "pairs", desc := "()I" } : Jvm.MethodName)) ∈ mz_big := mz_w 942 (by decide +kernel) (by decide +kernel)
theorem mw_943 : (Jvm.Cond.selects "WettedNet" ({ cls := "WettedNet", name := "pairs", desc := "()I" } : Jvm.MethodName) ({ cls := "WettedNet", name := "pairs", desc := "()I" } : Jvm.MethodName)) ∈ mz_big := mz_w 943 (by decide +kernel) (by decide +kernel)
theorem mw_944 : (Jvm.Cond.code ({ cls := "WettedNet", name := "pairs", desc := "()I" } : Jvm.MethodName) prog_1_method_22_code (1 : Nat) (Option.some Jvm.ClassFile.FieldType.int)) ∈ mz_big := mz_w 944 (by decide +kernel) (by decide +kernel)
theorem mw_945 : (Jvm.Cond.methodLink "WettedNet" (255 : Nat) ({ cls := "WettedNet$Rooms", name := "isEven", desc := "()Z" } : Jvm.MethodName)) ∈ mz_big := mz_w 945 (by decide +kernel) (by decide +kernel)
theorem mw_946 : (Jvm.Cond.instanceMethod ({ cls := "WettedNet$Rooms", name := "isEven", desc := "()Z" } : Jvm.MethodName)) ∈ mz_big := mz_w 946 (by decide +kernel) (by decide +kernel)
theorem mw_947 : (Jvm.Cond.selects "WettedNet$Rooms" ({ cls := "WettedNet$Rooms", name := "isEven", desc := "()Z" } : Jvm.MethodName) ({ cls := "WettedNet$Rooms", name := "isEven", desc := "()Z" } : Jvm.MethodName)) ∈ mz_big := mz_w 947 (by decide +kernel) (by decide +kernel)
theorem mw_948 : (Jvm.Cond.code ({ cls := "WettedNet$Rooms", name := "isEven", desc := "()Z" } : Jvm.MethodName) prog_8_method_15_code (2 : Nat) (Option.some Jvm.ClassFile.FieldType.boolean)) ∈ mz_big := mz_w 948 (by decide +kernel) (by decide +kernel)
theorem mw_949 : (Jvm.Cond.methodLink "WettedNet" (258 : Nat) ({ cls := "WettedNet$Walks", name := "mostPairs", desc := "()I" } : Jvm.MethodName)) ∈ mz_big := mz_w 949 (by decide +kernel) (by decide +kernel)
theorem mw_950 : (Jvm.Cond.instanceMethod ({ cls := "WettedNet$Walks", name := "mostPairs", desc := "()I" } : Jvm.MethodName)) ∈ mz_big := mz_w 950 (by decide +kernel) (by decide +kernel)
theorem mw_951 : (Jvm.Cond.selects "WettedNet$Walks" ({ cls := "WettedNet$Walks", name := "mostPairs", desc := "()I" } : Jvm.MethodName) ({ cls := "WettedNet$Walks", name := "mostPairs", desc := "()I" } : Jvm.MethodName)) ∈ mz_big := mz_w 951 (by decide +kernel) (by decide +kernel)
theorem mw_952 : (Jvm.Cond.code ({ cls := "WettedNet$Walks", name := "mostPairs", desc := "()I" } : Jvm.MethodName) prog_12_method_5_code (1 : Nat) (Option.some Jvm.ClassFile.FieldType.int)) ∈ mz_big := mz_w 952 (by decide +kernel) (by decide +kernel)
theorem mw_953 : (Jvm.Cond.methodLink "WettedNet$Walks" (46 : Nat) ({ cls := "WettedNet$Rooms", name := "all", desc := "()I" } : Jvm.MethodName)) ∈ mz_big := mz_w 953 (by decide +kernel) (by decide +kernel)
theorem mw_954 : (Jvm.Cond.methodLink "WettedNet$Walks" (49 : Nat) ({ cls := "WettedNet$Walks", name := "pairsAmong", desc := "(II)I" } : Jvm.MethodName)) ∈ mz_big := mz_w 954 (by decide +kernel) (by decide +kernel)
theorem mw_956 : (Jvm.Cond.instanceMethod ({ cls := "WettedNet$Walks", name := "pairsAmong", desc := "(II)I" } : Jvm.MethodName)) ∈ mz_big := mz_w 956 (by decide +kernel) (by decide +kernel)
theorem mw_957 : (Jvm.Cond.code ({ cls := "WettedNet$Walks", name := "pairsAmong", desc := "(II)I" } : Jvm.MethodName) prog_12_method_7_code (8 : Nat) (Option.some Jvm.ClassFile.FieldType.int)) ∈ mz_big := mz_w 957 (by decide +kernel) (by decide +kernel)
theorem mw_958 : (Jvm.Cond.methodLink "WettedNet$Walks" (68 : Nat) ({ cls := "java/lang/Integer", name := "numberOfTrailingZeros", desc := "(I)I" } : Jvm.MethodName)) ∈ mz_big := mz_w 958 (by decide +kernel) (by decide +kernel)
theorem mw_959 : (Jvm.Cond.methodLink "WettedNetLaw" (106 : Nat) ({ cls := "WettedNet", name := "count", desc := "(I)I" } : Jvm.MethodName)) ∈ mz_big := mz_w 959 (by decide +kernel) (by decide +kernel)
theorem mw_960 : (Jvm.Cond.instanceMethod ({ cls := "WettedNet", name := "count", desc := "(I)I" } : Jvm.MethodName)) ∈ mz_big := mz_w 960 (by decide +kernel) (by decide +kernel)
theorem mw_961 : (Jvm.Cond.selects "WettedNet" ({ cls := "WettedNet", name := "count", desc := "(I)I" } : Jvm.MethodName) ({ cls := "WettedNet", name := "count", desc := "(I)I" } : Jvm.MethodName)) ∈ mz_big := mz_w 961 (by decide +kernel) (by decide +kernel)
theorem mw_962 : (Jvm.Cond.code ({ cls := "WettedNet", name := "count", desc := "(I)I" } : Jvm.MethodName) prog_1_method_23_code (2 : Nat) (Option.some Jvm.ClassFile.FieldType.int)) ∈ mz_big := mz_w 962 (by decide +kernel) (by decide +kernel)
theorem mw_963 : (Jvm.Cond.methodLink "WettedNet" (261 : Nat) ({ cls := "WettedNet$Rooms", name := "chance", desc := "()I" } : Jvm.MethodName)) ∈ mz_big := mz_w 963 (by decide +kernel) (by decide +kernel)
theorem mw_964 : (Jvm.Cond.methodLink "WettedNet" (264 : Nat) ({ cls := "WettedNet$Rooms", name := "all", desc := "()I" } : Jvm.MethodName)) ∈ mz_big := mz_w 964 (by decide +kernel) (by decide +kernel)
theorem mw_965 : (Jvm.Cond.methodLink "WettedNet" (267 : Nat) ({ cls := "WettedNet$Rooms", name := "folkOf", desc := "(I)I" } : Jvm.MethodName)) ∈ mz_big := mz_w 965 (by decide +kernel) (by decide +kernel)
theorem mw_966 : (Jvm.Cond.classLink "WettedNetLaw" (10 : Nat) "WettedNetModel") ∈ mz_big := mz_w 966 (by decide +kernel) (by decide +kernel)
theorem mw_967 : (Jvm.Cond.instantiable "WettedNetModel" (29 : Nat)) ∈ mz_big := mz_w 967 (by decide +kernel) (by decide +kernel)
theorem mw_968 : (Jvm.Cond.methodLink "WettedNetLaw" (12 : Nat) ({ cls := "WettedNetModel", name := "<init>", desc := "()V" } : Jvm.MethodName)) ∈ mz_big := mz_w 968 (by decide +kernel) (by decide +kernel)
theorem mw_969 : (Jvm.Cond.instanceMethod ({ cls := "WettedNetModel", name := "<init>", desc := "()V" } : Jvm.MethodName)) ∈ mz_big := mz_w 969 (by decide +kernel) (by decide +kernel)
theorem mw_970 : (Jvm.Cond.code ({ cls := "WettedNetModel", name := "<init>", desc := "()V" } : Jvm.MethodName) prog_14_method_1_code (1 : Nat) (Option.none : Option Jvm.ClassFile.FieldType)) ∈ mz_big := mz_w 970 (by decide +kernel) (by decide +kernel)
theorem mw_971 : (Jvm.Cond.methodLink "WettedNetModel" (1 : Nat) ({ cls := "java/lang/Object", name := "<init>", desc := "()V" } : Jvm.MethodName)) ∈ mz_big := mz_w 971 (by decide +kernel) (by decide +kernel)
theorem mw_972 : (Jvm.Cond.fieldLink "WettedNetModel" (7 : Nat) "WettedNetModel" "text" "[I") ∈ mz_big := mz_w 972 (by decide +kernel) (by decide +kernel)
theorem mw_973 : (Jvm.Cond.fieldLink "WettedNetModel" (69 : Nat) "WettedNetModel" "length" "I") ∈ mz_big := mz_w 973 (by decide +kernel) (by decide +kernel)
theorem mw_974 : (Jvm.Cond.fieldLink "WettedNetModel" (13 : Nat) "WettedNetModel" "read" "[I") ∈ mz_big := mz_w 974 (by decide +kernel) (by decide +kernel)
theorem mw_975 : (Jvm.Cond.fieldLink "WettedNetModel" (87 : Nat) "WettedNetModel" "readMany" "I") ∈ mz_big := mz_w 975 (by decide +kernel) (by decide +kernel)
theorem mw_976 : (Jvm.Cond.fieldLink "WettedNetModel" (16 : Nat) "WettedNetModel" "rooms" "I") ∈ mz_big := mz_w 976 (by decide +kernel) (by decide +kernel)
theorem mw_977 : (Jvm.Cond.fieldLink "WettedNetModel" (20 : Nat) "WettedNetModel" "ways" "[I") ∈ mz_big := mz_w 977 (by decide +kernel) (by decide +kernel)
theorem mw_978 : (Jvm.Cond.fieldLink "WettedNetModel" (23 : Nat) "WettedNetModel" "folk" "[I") ∈ mz_big := mz_w 978 (by decide +kernel) (by decide +kernel)
theorem mw_979 : (Jvm.Cond.fieldLink "WettedNetModel" (26 : Nat) "WettedNetModel" "thick" "[I") ∈ mz_big := mz_w 979 (by decide +kernel) (by decide +kernel)
theorem mw_980 : (Jvm.Cond.fieldLink "WettedNetModel" (29 : Nat) "WettedNetModel" "hands" "I") ∈ mz_big := mz_w 980 (by decide +kernel) (by decide +kernel)
theorem mw_981 : (Jvm.Cond.fieldLink "WettedNetModel" (32 : Nat) "WettedNetModel" "chance" "I") ∈ mz_big := mz_w 981 (by decide +kernel) (by decide +kernel)
theorem mw_982 : (Jvm.Cond.fieldLink "WettedNetModel" (74 : Nat) "WettedNetModel" "at" "I") ∈ mz_big := mz_w 982 (by decide +kernel) (by decide +kernel)
theorem mw_983 : (Jvm.Cond.fieldLink "WettedNetModel" (77 : Nat) "WettedNetModel" "place" "I") ∈ mz_big := mz_w 983 (by decide +kernel) (by decide +kernel)
theorem mw_984 : (Jvm.Cond.fieldLink "WettedNetModel" (84 : Nat) "WettedNetModel" "end" "I") ∈ mz_big := mz_w 984 (by decide +kernel) (by decide +kernel)
theorem mw_985 : (Jvm.Cond.fieldLink "WettedNetModel" (93 : Nat) "WettedNetModel" "readRooms" "I") ∈ mz_big := mz_w 985 (by decide +kernel) (by decide +kernel)
theorem mw_986 : (Jvm.Cond.fieldLink "WettedNetModel" (35 : Nat) "WettedNetModel" "lost" "[I") ∈ mz_big := mz_w 986 (by decide +kernel) (by decide +kernel)
theorem mw_987 : (Jvm.Cond.fieldLink "WettedNetModel" (127 : Nat) "WettedNetModel" "playing" "Z") ∈ mz_big := mz_w 987 (by decide +kernel) (by decide +kernel)
theorem mw_988 : (Jvm.Cond.fieldLink "WettedNetModel" (177 : Nat) "WettedNetModel" "burning" "I") ∈ mz_big := mz_w 988 (by decide +kernel) (by decide +kernel)
theorem mw_989 : (Jvm.Cond.fieldLink "WettedNetModel" (180 : Nat) "WettedNetModel" "wetted" "I") ∈ mz_big := mz_w 989 (by decide +kernel) (by decide +kernel)
theorem mw_990 : (Jvm.Cond.fieldLink "WettedNetModel" (183 : Nat) "WettedNetModel" "turns" "I") ∈ mz_big := mz_w 990 (by decide +kernel) (by decide +kernel)
theorem mw_991 : (Jvm.Cond.fieldLink "WettedNetModel" (186 : Nat) "WettedNetModel" "ended" "Z") ∈ mz_big := mz_w 991 (by decide +kernel) (by decide +kernel)
theorem mw_992 : (Jvm.Cond.fieldLink "WettedNetModel" (189 : Nat) "WettedNetModel" "bad" "I") ∈ mz_big := mz_w 992 (by decide +kernel) (by decide +kernel)
theorem mw_993 : (Jvm.Cond.fieldLink "WettedNetModel" (38 : Nat) "WettedNetModel" "till" "[I") ∈ mz_big := mz_w 993 (by decide +kernel) (by decide +kernel)
theorem mw_994 : (Jvm.Cond.fieldLink "WettedNetModel" (41 : Nat) "WettedNetModel" "wayFrom" "[I") ∈ mz_big := mz_w 994 (by decide +kernel) (by decide +kernel)
theorem mw_995 : (Jvm.Cond.fieldLink "WettedNetModel" (44 : Nat) "WettedNetModel" "wayTo" "[I") ∈ mz_big := mz_w 995 (by decide +kernel) (by decide +kernel)
theorem mw_996 : (Jvm.Cond.fieldLink "WettedNetModel" (47 : Nat) "WettedNetModel" "wins" "[Z") ∈ mz_big := mz_w 996 (by decide +kernel) (by decide +kernel)
theorem mw_997 : (Jvm.Cond.fieldLink "WettedNetModel" (51 : Nat) "WettedNetModel" "lasts" "[I") ∈ mz_big := mz_w 997 (by decide +kernel) (by decide +kernel)
theorem mw_998 : (Jvm.Cond.fieldLink "WettedNetModel" (54 : Nat) "WettedNetModel" "longest" "[I") ∈ mz_big := mz_w 998 (by decide +kernel) (by decide +kernel)
theorem mw_999 : (Jvm.Cond.fieldLink "WettedNetModel" (57 : Nat) "WettedNetModel" "steps" "[I") ∈ mz_big := mz_w 999 (by decide +kernel) (by decide +kernel)
theorem mw_1000 : (Jvm.Cond.fieldLink "WettedNetModel" (60 : Nat) "WettedNetModel" "paired" "[I") ∈ mz_big := mz_w 1000 (by decide +kernel) (by decide +kernel)
theorem mw_1060 : (Jvm.Cond.arrayClass Jvm.ClassFile.FieldType.boolean) ∈ mz_big := mz_w 1060 (by decide +kernel) (by decide +kernel)
theorem mw_1061 : (Jvm.Cond.methodLink "WettedNetLaw" (19 : Nat) ({ cls := "WettedNetModel", name := "write", desc := "(JI)I" } : Jvm.MethodName)) ∈ mz_big := mz_w 1061 (by decide +kernel) (by decide +kernel)
theorem mw_1062 : (Jvm.Cond.instanceMethod ({ cls := "WettedNetModel", name := "write", desc := "(JI)I" } : Jvm.MethodName)) ∈ mz_big := mz_w 1062 (by decide +kernel) (by decide +kernel)
theorem mw_1063 : (Jvm.Cond.selects "WettedNetModel" ({ cls := "WettedNetModel", name := "write", desc := "(JI)I" } : Jvm.MethodName) ({ cls := "WettedNetModel", name := "write", desc := "(JI)I" } : Jvm.MethodName)) ∈ mz_big := mz_w 1063 (by decide +kernel) (by decide +kernel)
theorem mw_1064 : (Jvm.Cond.code ({ cls := "WettedNetModel", name := "write", desc := "(JI)I" } : Jvm.MethodName) prog_14_method_5_code (5 : Nat) (Option.some Jvm.ClassFile.FieldType.int)) ∈ mz_big := mz_w 1064 (by decide +kernel) (by decide +kernel)
theorem mw_1065 : (Jvm.Cond.constantLong "WettedNetModel" (63 : Nat) (8 : Int64)) ∈ mz_big := mz_w 1065 (by decide +kernel) (by decide +kernel)
theorem mw_1066 : (Jvm.Cond.methodLink "WettedNetModel" (65 : Nat) ({ cls := "WettedNetModel", name := "in", desc := "(JJJ)Z" } : Jvm.MethodName)) ∈ mz_big := mz_w 1066 (by decide +kernel) (by decide +kernel)
theorem mw_1067 : (Jvm.Cond.static ({ cls := "WettedNetModel", name := "in", desc := "(JJJ)Z" } : Jvm.MethodName)) ∈ mz_big := mz_w 1067 (by decide +kernel) (by decide +kernel)
theorem mw_1068 : (Jvm.Cond.code ({ cls := "WettedNetModel", name := "in", desc := "(JJJ)Z" } : Jvm.MethodName) prog_14_method_2_code (6 : Nat) (Option.some Jvm.ClassFile.FieldType.boolean)) ∈ mz_big := mz_w 1068 (by decide +kernel) (by decide +kernel)
theorem mw_1069 : (Jvm.Cond.constantLong "WettedNetModel" (72 : Nat) (255 : Int64)) ∈ mz_big := mz_w 1069 (by decide +kernel) (by decide +kernel)
theorem mw_1070 : (Jvm.Cond.methodLink "WettedNetLaw" (24 : Nat) ({ cls := "WettedNetModel", name := "erase", desc := "()I" } : Jvm.MethodName)) ∈ mz_big := mz_w 1070 (by decide +kernel) (by decide +kernel)
theorem mw_1071 : (Jvm.Cond.instanceMethod ({ cls := "WettedNetModel", name := "erase", desc := "()I" } : Jvm.MethodName)) ∈ mz_big := mz_w 1071 (by decide +kernel) (by decide +kernel)
theorem mw_1072 : (Jvm.Cond.selects "WettedNetModel" ({ cls := "WettedNetModel", name := "erase", desc := "()I" } : Jvm.MethodName) ({ cls := "WettedNetModel", name := "erase", desc := "()I" } : Jvm.MethodName)) ∈ mz_big := mz_w 1072 (by decide +kernel) (by decide +kernel)
theorem mw_1073 : (Jvm.Cond.code ({ cls := "WettedNetModel", name := "erase", desc := "()I" } : Jvm.MethodName) prog_14_method_6_code (2 : Nat) (Option.some Jvm.ClassFile.FieldType.int)) ∈ mz_big := mz_w 1073 (by decide +kernel) (by decide +kernel)
theorem mw_1074 : (Jvm.Cond.methodLink "WettedNetLaw" (28 : Nat) ({ cls := "WettedNetModel", name := "fault", desc := "()I" } : Jvm.MethodName)) ∈ mz_big := mz_w 1074 (by decide +kernel) (by decide +kernel)
theorem mw_1075 : (Jvm.Cond.instanceMethod ({ cls := "WettedNetModel", name := "fault", desc := "()I" } : Jvm.MethodName)) ∈ mz_big := mz_w 1075 (by decide +kernel) (by decide +kernel)
theorem mw_1076 : (Jvm.Cond.selects "WettedNetModel" ({ cls := "WettedNetModel", name := "fault", desc := "()I" } : Jvm.MethodName) ({ cls := "WettedNetModel", name := "fault", desc := "()I" } : Jvm.MethodName)) ∈ mz_big := mz_w 1076 (by decide +kernel) (by decide +kernel)
theorem mw_1077 : (Jvm.Cond.code ({ cls := "WettedNetModel", name := "fault", desc := "()I" } : Jvm.MethodName) prog_14_method_13_code (2 : Nat) (Option.some Jvm.ClassFile.FieldType.int)) ∈ mz_big := mz_w 1077 (by decide +kernel) (by decide +kernel)
theorem mw_1078 : (Jvm.Cond.methodLink "WettedNetModel" (90 : Nat) ({ cls := "WettedNetModel", name := "token", desc := "()V" } : Jvm.MethodName)) ∈ mz_big := mz_w 1078 (by decide +kernel) (by decide +kernel)
theorem mw_1080 : (Jvm.Cond.instanceMethod ({ cls := "WettedNetModel", name := "token", desc := "()V" } : Jvm.MethodName)) ∈ mz_big := mz_w 1080 (by decide +kernel) (by decide +kernel)
theorem mw_1081 : (Jvm.Cond.code ({ cls := "WettedNetModel", name := "token", desc := "()V" } : Jvm.MethodName) prog_14_method_8_code (1 : Nat) (Option.none : Option Jvm.ClassFile.FieldType)) ∈ mz_big := mz_w 1081 (by decide +kernel) (by decide +kernel)
theorem mw_1085 : (Jvm.Cond.methodLink "WettedNetModel" (115 : Nat) ({ cls := "WettedNetModel", name := "readsLine", desc := "()Z" } : Jvm.MethodName)) ∈ mz_big := mz_w 1085 (by decide +kernel) (by decide +kernel)
theorem mw_1087 : (Jvm.Cond.instanceMethod ({ cls := "WettedNetModel", name := "readsLine", desc := "()Z" } : Jvm.MethodName)) ∈ mz_big := mz_w 1087 (by decide +kernel) (by decide +kernel)
theorem mw_1088 : (Jvm.Cond.code ({ cls := "WettedNetModel", name := "readsLine", desc := "()Z" } : Jvm.MethodName) prog_14_method_12_code (2 : Nat) (Option.some Jvm.ClassFile.FieldType.boolean)) ∈ mz_big := mz_w 1088 (by decide +kernel) (by decide +kernel)
theorem mw_1089 : (Jvm.Cond.constant "WettedNetModel" (100 : Nat) (20364786 : Int32)) ∈ mz_big := mz_w 1089 (by decide +kernel) (by decide +kernel)
theorem mw_1090 : (Jvm.Cond.methodLink "WettedNetModel" (101 : Nat) ({ cls := "WettedNetModel", name := "isWord", desc := "(II)Z" } : Jvm.MethodName)) ∈ mz_big := mz_w 1090 (by decide +kernel) (by decide +kernel)
theorem mw_1092 : (Jvm.Cond.instanceMethod ({ cls := "WettedNetModel", name := "isWord", desc := "(II)Z" } : Jvm.MethodName)) ∈ mz_big := mz_w 1092 (by decide +kernel) (by decide +kernel)
theorem mw_1093 : (Jvm.Cond.code ({ cls := "WettedNetModel", name := "isWord", desc := "(II)Z" } : Jvm.MethodName) prog_14_method_9_code (5 : Nat) (Option.some Jvm.ClassFile.FieldType.boolean)) ∈ mz_big := mz_w 1093 (by decide +kernel) (by decide +kernel)
theorem mw_1094 : (Jvm.Cond.constant "WettedNetModel" (105 : Nat) (605668 : Int32)) ∈ mz_big := mz_w 1094 (by decide +kernel) (by decide +kernel)
theorem mw_1095 : (Jvm.Cond.constant "WettedNetModel" (106 : Nat) (677139 : Int32)) ∈ mz_big := mz_w 1095 (by decide +kernel) (by decide +kernel)
theorem mw_1096 : (Jvm.Cond.constant "WettedNetModel" (107 : Nat) (373222 : Int32)) ∈ mz_big := mz_w 1096 (by decide +kernel) (by decide +kernel)
theorem mw_1097 : (Jvm.Cond.constant "WettedNetModel" (108 : Nat) (11642132 : Int32)) ∈ mz_big := mz_w 1097 (by decide +kernel) (by decide +kernel)
theorem mw_1098 : (Jvm.Cond.constant "WettedNetModel" (109 : Nat) (20068392 : Int32)) ∈ mz_big := mz_w 1098 (by decide +kernel) (by decide +kernel)
theorem mw_1099 : (Jvm.Cond.constant "WettedNetModel" (110 : Nat) (171377923 : Int32)) ∈ mz_big := mz_w 1099 (by decide +kernel) (by decide +kernel)
theorem mw_1108 : (Jvm.Cond.methodLink "WettedNetLaw" (32 : Nat) ({ cls := "WettedNetModel", name := "net", desc := "()I" } : Jvm.MethodName)) ∈ mz_big := mz_w 1108 (by decide +kernel) (by decide +kernel)
theorem mw_1109 : (Jvm.Cond.instanceMethod ({ cls := "WettedNetModel", name := "net", desc := "()I" } : Jvm.MethodName)) ∈ mz_big := mz_w 1109 (by decide +kernel) (by decide +kernel)
theorem mw_1110 : (Jvm.Cond.selects "WettedNetModel" ({ cls := "WettedNetModel", name := "net", desc := "()I" } : Jvm.MethodName) ({ cls := "WettedNetModel", name := "net", desc := "()I" } : Jvm.MethodName)) ∈ mz_big := mz_w 1110 (by decide +kernel) (by decide +kernel)
theorem mw_1111 : (Jvm.Cond.code ({ cls := "WettedNetModel", name := "net", desc := "()I" } : Jvm.MethodName) prog_14_method_15_code (2 : Nat) (Option.some Jvm.ClassFile.FieldType.int)) ∈ mz_big := mz_w 1111 (by decide +kernel) (by decide +kernel)
theorem mw_1112 : (Jvm.Cond.methodLink "WettedNetModel" (119 : Nat) ({ cls := "WettedNetModel", name := "fault", desc := "()I" } : Jvm.MethodName)) ∈ mz_big := mz_w 1112 (by decide +kernel) (by decide +kernel)
theorem mw_1117 : (Jvm.Cond.methodLink "WettedNetLaw" (37 : Nat) ({ cls := "WettedNetModel", name := "room", desc := "(II)I" } : Jvm.MethodName)) ∈ mz_big := mz_w 1117 (by decide +kernel) (by decide +kernel)
theorem mw_1118 : (Jvm.Cond.instanceMethod ({ cls := "WettedNetModel", name := "room", desc := "(II)I" } : Jvm.MethodName)) ∈ mz_big := mz_w 1118 (by decide +kernel) (by decide +kernel)
theorem mw_1119 : (Jvm.Cond.selects "WettedNetModel" ({ cls := "WettedNetModel", name := "room", desc := "(II)I" } : Jvm.MethodName) ({ cls := "WettedNetModel", name := "room", desc := "(II)I" } : Jvm.MethodName)) ∈ mz_big := mz_w 1119 (by decide +kernel) (by decide +kernel)
theorem mw_1120 : (Jvm.Cond.code ({ cls := "WettedNetModel", name := "room", desc := "(II)I" } : Jvm.MethodName) prog_14_method_20_code (3 : Nat) (Option.some Jvm.ClassFile.FieldType.int)) ∈ mz_big := mz_w 1120 (by decide +kernel) (by decide +kernel)
theorem mw_1121 : (Jvm.Cond.methodLink "WettedNetModel" (137 : Nat) ({ cls := "WettedNetModel", name := "isRoom", desc := "(I)Z" } : Jvm.MethodName)) ∈ mz_big := mz_w 1121 (by decide +kernel) (by decide +kernel)
theorem mw_1123 : (Jvm.Cond.instanceMethod ({ cls := "WettedNetModel", name := "isRoom", desc := "(I)Z" } : Jvm.MethodName)) ∈ mz_big := mz_w 1123 (by decide +kernel) (by decide +kernel)
theorem mw_1124 : (Jvm.Cond.code ({ cls := "WettedNetModel", name := "isRoom", desc := "(I)Z" } : Jvm.MethodName) prog_14_method_16_code (2 : Nat) (Option.some Jvm.ClassFile.FieldType.boolean)) ∈ mz_big := mz_w 1124 (by decide +kernel) (by decide +kernel)
theorem mw_1125 : (Jvm.Cond.methodLink "WettedNetModel" (140 : Nat) ({ cls := "WettedNetModel", name := "atOf", desc := "(I)I" } : Jvm.MethodName)) ∈ mz_big := mz_w 1125 (by decide +kernel) (by decide +kernel)
theorem mw_1127 : (Jvm.Cond.instanceMethod ({ cls := "WettedNetModel", name := "atOf", desc := "(I)I" } : Jvm.MethodName)) ∈ mz_big := mz_w 1127 (by decide +kernel) (by decide +kernel)
theorem mw_1128 : (Jvm.Cond.code ({ cls := "WettedNetModel", name := "atOf", desc := "(I)I" } : Jvm.MethodName) prog_14_method_19_code (4 : Nat) (Option.some Jvm.ClassFile.FieldType.int)) ∈ mz_big := mz_w 1128 (by decide +kernel) (by decide +kernel)
theorem mw_1129 : (Jvm.Cond.methodLink "WettedNetModel" (134 : Nat) ({ cls := "WettedNetModel", name := "has", desc := "(II)Z" } : Jvm.MethodName)) ∈ mz_big := mz_w 1129 (by decide +kernel) (by decide +kernel)
theorem mw_1130 : (Jvm.Cond.static ({ cls := "WettedNetModel", name := "has", desc := "(II)Z" } : Jvm.MethodName)) ∈ mz_big := mz_w 1130 (by decide +kernel) (by decide +kernel)
theorem mw_1131 : (Jvm.Cond.code ({ cls := "WettedNetModel", name := "has", desc := "(II)Z" } : Jvm.MethodName) prog_14_method_3_code (2 : Nat) (Option.some Jvm.ClassFile.FieldType.boolean)) ∈ mz_big := mz_w 1131 (by decide +kernel) (by decide +kernel)
theorem mw_1132 : (Jvm.Cond.methodLink "WettedNetLaw" (41 : Nat) ({ cls := "WettedNetModel", name := "least", desc := "(II)I" } : Jvm.MethodName)) ∈ mz_big := mz_w 1132 (by decide +kernel) (by decide +kernel)
theorem mw_1133 : (Jvm.Cond.instanceMethod ({ cls := "WettedNetModel", name := "least", desc := "(II)I" } : Jvm.MethodName)) ∈ mz_big := mz_w 1133 (by decide +kernel) (by decide +kernel)
theorem mw_1134 : (Jvm.Cond.selects "WettedNetModel" ({ cls := "WettedNetModel", name := "least", desc := "(II)I" } : Jvm.MethodName) ({ cls := "WettedNetModel", name := "least", desc := "(II)I" } : Jvm.MethodName)) ∈ mz_big := mz_w 1134 (by decide +kernel) (by decide +kernel)
theorem mw_1135 : (Jvm.Cond.code ({ cls := "WettedNetModel", name := "least", desc := "(II)I" } : Jvm.MethodName) prog_14_method_28_code (7 : Nat) (Option.some Jvm.ClassFile.FieldType.int)) ∈ mz_big := mz_w 1135 (by decide +kernel) (by decide +kernel)
theorem mw_1136 : (Jvm.Cond.methodLink "WettedNetModel" (167 : Nat) ({ cls := "WettedNetModel", name := "isSetOf", desc := "(I)Z" } : Jvm.MethodName)) ∈ mz_big := mz_w 1136 (by decide +kernel) (by decide +kernel)
theorem mw_1138 : (Jvm.Cond.instanceMethod ({ cls := "WettedNetModel", name := "isSetOf", desc := "(I)Z" } : Jvm.MethodName)) ∈ mz_big := mz_w 1138 (by decide +kernel) (by decide +kernel)
theorem mw_1139 : (Jvm.Cond.code ({ cls := "WettedNetModel", name := "isSetOf", desc := "(I)Z" } : Jvm.MethodName) prog_14_method_18_code (2 : Nat) (Option.some Jvm.ClassFile.FieldType.boolean)) ∈ mz_big := mz_w 1139 (by decide +kernel) (by decide +kernel)
theorem mw_1140 : (Jvm.Cond.methodLink "WettedNetModel" (131 : Nat) ({ cls := "WettedNetModel", name := "all", desc := "()I" } : Jvm.MethodName)) ∈ mz_big := mz_w 1140 (by decide +kernel) (by decide +kernel)
theorem mw_1142 : (Jvm.Cond.instanceMethod ({ cls := "WettedNetModel", name := "all", desc := "()I" } : Jvm.MethodName)) ∈ mz_big := mz_w 1142 (by decide +kernel) (by decide +kernel)
theorem mw_1143 : (Jvm.Cond.code ({ cls := "WettedNetModel", name := "all", desc := "()I" } : Jvm.MethodName) prog_14_method_17_code (1 : Nat) (Option.some Jvm.ClassFile.FieldType.int)) ∈ mz_big := mz_w 1143 (by decide +kernel) (by decide +kernel)
theorem mw_1144 : (Jvm.Cond.constantLong "WettedNetModel" (170 : Nat) (2 : Int64)) ∈ mz_big := mz_w 1144 (by decide +kernel) (by decide +kernel)
theorem mw_1145 : (Jvm.Cond.methodLink "WettedNetModel" (172 : Nat) ({ cls := "WettedNetModel", name := "layLost", desc := "(I)V" } : Jvm.MethodName)) ∈ mz_big := mz_w 1145 (by decide +kernel) (by decide +kernel)
theorem mw_1147 : (Jvm.Cond.instanceMethod ({ cls := "WettedNetModel", name := "layLost", desc := "(I)V" } : Jvm.MethodName)) ∈ mz_big := mz_w 1147 (by decide +kernel) (by decide +kernel)
theorem mw_1148 : (Jvm.Cond.code ({ cls := "WettedNetModel", name := "layLost", desc := "(I)V" } : Jvm.MethodName) prog_14_method_27_code (10 : Nat) (Option.none : Option Jvm.ClassFile.FieldType)) ∈ mz_big := mz_w 1148 (by decide +kernel) (by decide +kernel)
theorem mw_1149 : (Jvm.Cond.methodLink "WettedNetModel" (143 : Nat) ({ cls := "WettedNetModel", name := "many", desc := "(I)I" } : Jvm.MethodName)) ∈ mz_big := mz_w 1149 (by decide +kernel) (by decide +kernel)
theorem mw_1150 : (Jvm.Cond.static ({ cls := "WettedNetModel", name := "many", desc := "(I)I" } : Jvm.MethodName)) ∈ mz_big := mz_w 1150 (by decide +kernel) (by decide +kernel)
theorem mw_1151 : (Jvm.Cond.code ({ cls := "WettedNetModel", name := "many", desc := "(I)I" } : Jvm.MethodName) prog_14_method_4_code (3 : Nat) (Option.some Jvm.ClassFile.FieldType.int)) ∈ mz_big := mz_w 1151 (by decide +kernel) (by decide +kernel)
theorem mw_1152 : (Jvm.Cond.constant "WettedNetModel" (159 : Nat) (268435456 : Int32)) ∈ mz_big := mz_w 1152 (by decide +kernel) (by decide +kernel)
theorem mw_1153 : (Jvm.Cond.methodLink "WettedNetModel" (160 : Nat) ({ cls := "WettedNetModel", name := "mayWet", desc := "(IIII)Z" } : Jvm.MethodName)) ∈ mz_big := mz_w 1153 (by decide +kernel) (by decide +kernel)
theorem mw_1155 : (Jvm.Cond.instanceMethod ({ cls := "WettedNetModel", name := "mayWet", desc := "(IIII)Z" } : Jvm.MethodName)) ∈ mz_big := mz_w 1155 (by decide +kernel) (by decide +kernel)
theorem mw_1156 : (Jvm.Cond.code ({ cls := "WettedNetModel", name := "mayWet", desc := "(IIII)Z" } : Jvm.MethodName) prog_14_method_24_code (7 : Nat) (Option.some Jvm.ClassFile.FieldType.boolean)) ∈ mz_big := mz_w 1156 (by decide +kernel) (by decide +kernel)
theorem mw_1157 : (Jvm.Cond.methodLink "WettedNetModel" (163 : Nat) ({ cls := "WettedNetModel", name := "behind", desc := "(III)I" } : Jvm.MethodName)) ∈ mz_big := mz_w 1157 (by decide +kernel) (by decide +kernel)
theorem mw_1159 : (Jvm.Cond.instanceMethod ({ cls := "WettedNetModel", name := "behind", desc := "(III)I" } : Jvm.MethodName)) ∈ mz_big := mz_w 1159 (by decide +kernel) (by decide +kernel)
theorem mw_1160 : (Jvm.Cond.code ({ cls := "WettedNetModel", name := "behind", desc := "(III)I" } : Jvm.MethodName) prog_14_method_26_code (5 : Nat) (Option.some Jvm.ClassFile.FieldType.int)) ∈ mz_big := mz_w 1160 (by decide +kernel) (by decide +kernel)
theorem mw_1161 : (Jvm.Cond.methodLink "WettedNetModel" (149 : Nat) ({ cls := "WettedNetModel", name := "spread", desc := "(II)I" } : Jvm.MethodName)) ∈ mz_big := mz_w 1161 (by decide +kernel) (by decide +kernel)
theorem mw_1163 : (Jvm.Cond.instanceMethod ({ cls := "WettedNetModel", name := "spread", desc := "(II)I" } : Jvm.MethodName)) ∈ mz_big := mz_w 1163 (by decide +kernel) (by decide +kernel)
theorem mw_1164 : (Jvm.Cond.code ({ cls := "WettedNetModel", name := "spread", desc := "(II)I" } : Jvm.MethodName) prog_14_method_25_code (3 : Nat) (Option.some Jvm.ClassFile.FieldType.int)) ∈ mz_big := mz_w 1164 (by decide +kernel) (by decide +kernel)
theorem mw_1165 : (Jvm.Cond.methodLink "WettedNetModel" (146 : Nat) ({ cls := "WettedNetModel", name := "besideAll", desc := "(I)I" } : Jvm.MethodName)) ∈ mz_big := mz_w 1165 (by decide +kernel) (by decide +kernel)
theorem mw_1167 : (Jvm.Cond.instanceMethod ({ cls := "WettedNetModel", name := "besideAll", desc := "(I)I" } : Jvm.MethodName)) ∈ mz_big := mz_w 1167 (by decide +kernel) (by decide +kernel)
theorem mw_1168 : (Jvm.Cond.code ({ cls := "WettedNetModel", name := "besideAll", desc := "(I)I" } : Jvm.MethodName) prog_14_method_21_code (4 : Nat) (Option.some Jvm.ClassFile.FieldType.int)) ∈ mz_big := mz_w 1168 (by decide +kernel) (by decide +kernel)
theorem mw_1169 : (Jvm.Cond.methodLink "WettedNetModel" (153 : Nat) ({ cls := "WettedNetModel", name := "folkOf", desc := "(I)I" } : Jvm.MethodName)) ∈ mz_big := mz_w 1169 (by decide +kernel) (by decide +kernel)
theorem mw_1171 : (Jvm.Cond.instanceMethod ({ cls := "WettedNetModel", name := "folkOf", desc := "(I)I" } : Jvm.MethodName)) ∈ mz_big := mz_w 1171 (by decide +kernel) (by decide +kernel)
theorem mw_1172 : (Jvm.Cond.code ({ cls := "WettedNetModel", name := "folkOf", desc := "(I)I" } : Jvm.MethodName) prog_14_method_22_code (4 : Nat) (Option.some Jvm.ClassFile.FieldType.int)) ∈ mz_big := mz_w 1172 (by decide +kernel) (by decide +kernel)
theorem mw_1173 : (Jvm.Cond.methodLink "WettedNetModel" (156 : Nat) ({ cls := "WettedNetModel", name := "code", desc := "(II)I" } : Jvm.MethodName)) ∈ mz_big := mz_w 1173 (by decide +kernel) (by decide +kernel)
theorem mw_1174 : (Jvm.Cond.static ({ cls := "WettedNetModel", name := "code", desc := "(II)I" } : Jvm.MethodName)) ∈ mz_big := mz_w 1174 (by decide +kernel) (by decide +kernel)
theorem mw_1175 : (Jvm.Cond.code ({ cls := "WettedNetModel", name := "code", desc := "(II)I" } : Jvm.MethodName) prog_14_method_23_code (4 : Nat) (Option.some Jvm.ClassFile.FieldType.int)) ∈ mz_big := mz_w 1175 (by decide +kernel) (by decide +kernel)
theorem mw_1176 : (Jvm.Cond.methodLink "WettedNetLaw" (45 : Nat) ({ cls := "WettedNetModel", name := "hold", desc := "(II)I" } : Jvm.MethodName)) ∈ mz_big := mz_w 1176 (by decide +kernel) (by decide +kernel)
theorem mw_1177 : (Jvm.Cond.instanceMethod ({ cls := "WettedNetModel", name := "hold", desc := "(II)I" } : Jvm.MethodName)) ∈ mz_big := mz_w 1177 (by decide +kernel) (by decide +kernel)
theorem mw_1178 : (Jvm.Cond.selects "WettedNetModel" ({ cls := "WettedNetModel", name := "hold", desc := "(II)I" } : Jvm.MethodName) ({ cls := "WettedNetModel", name := "hold", desc := "(II)I" } : Jvm.MethodName)) ∈ mz_big := mz_w 1178 (by decide +kernel) (by decide +kernel)
theorem mw_1179 : (Jvm.Cond.code ({ cls := "WettedNetModel", name := "hold", desc := "(II)I" } : Jvm.MethodName) prog_14_method_29_code (4 : Nat) (Option.some Jvm.ClassFile.FieldType.int)) ∈ mz_big := mz_w 1179 (by decide +kernel) (by decide +kernel)
theorem mw_1180 : (Jvm.Cond.constantLong "WettedNetModel" (175 : Nat) (999 : Int64)) ∈ mz_big := mz_w 1180 (by decide +kernel) (by decide +kernel)
theorem mw_1181 : (Jvm.Cond.methodLink "WettedNetLaw" (50 : Nat) ({ cls := "WettedNetModel", name := "begin", desc := "(I)I" } : Jvm.MethodName)) ∈ mz_big := mz_w 1181 (by decide +kernel) (by decide +kernel)
theorem mw_1182 : (Jvm.Cond.instanceMethod ({ cls := "WettedNetModel", name := "begin", desc := "(I)I" } : Jvm.MethodName)) ∈ mz_big := mz_w 1182 (by decide +kernel) (by decide +kernel)
theorem mw_1183 : (Jvm.Cond.selects "WettedNetModel" ({ cls := "WettedNetModel", name := "begin", desc := "(I)I" } : Jvm.MethodName) ({ cls := "WettedNetModel", name := "begin", desc := "(I)I" } : Jvm.MethodName)) ∈ mz_big := mz_w 1183 (by decide +kernel) (by decide +kernel)
theorem mw_1184 : (Jvm.Cond.code ({ cls := "WettedNetModel", name := "begin", desc := "(I)I" } : Jvm.MethodName) prog_14_method_30_code (2 : Nat) (Option.some Jvm.ClassFile.FieldType.int)) ∈ mz_big := mz_w 1184 (by decide +kernel) (by decide +kernel)
theorem mw_1185 : (Jvm.Cond.methodLink "WettedNetLaw" (54 : Nat) ({ cls := "WettedNetModel", name := "wets", desc := "(I)I" } : Jvm.MethodName)) ∈ mz_big := mz_w 1185 (by decide +kernel) (by decide +kernel)
theorem mw_1186 : (Jvm.Cond.instanceMethod ({ cls := "WettedNetModel", name := "wets", desc := "(I)I" } : Jvm.MethodName)) ∈ mz_big := mz_w 1186 (by decide +kernel) (by decide +kernel)
theorem mw_1187 : (Jvm.Cond.selects "WettedNetModel" ({ cls := "WettedNetModel", name := "wets", desc := "(I)I" } : Jvm.MethodName) ({ cls := "WettedNetModel", name := "wets", desc := "(I)I" } : Jvm.MethodName)) ∈ mz_big := mz_w 1187 (by decide +kernel) (by decide +kernel)
theorem mw_1188 : (Jvm.Cond.code ({ cls := "WettedNetModel", name := "wets", desc := "(I)I" } : Jvm.MethodName) prog_14_method_31_code (5 : Nat) (Option.some Jvm.ClassFile.FieldType.int)) ∈ mz_big := mz_w 1188 (by decide +kernel) (by decide +kernel)
theorem mw_1189 : (Jvm.Cond.methodLink "WettedNetLaw" (58 : Nat) ({ cls := "WettedNetModel", name := "play", desc := "(I)I" } : Jvm.MethodName)) ∈ mz_big := mz_w 1189 (by decide +kernel) (by decide +kernel)
theorem mw_1190 : (Jvm.Cond.instanceMethod ({ cls := "WettedNetModel", name := "play", desc := "(I)I" } : Jvm.MethodName)) ∈ mz_big := mz_w 1190 (by decide +kernel) (by decide +kernel)
theorem mw_1191 : (Jvm.Cond.selects "WettedNetModel" ({ cls := "WettedNetModel", name := "play", desc := "(I)I" } : Jvm.MethodName) ({ cls := "WettedNetModel", name := "play", desc := "(I)I" } : Jvm.MethodName)) ∈ mz_big := mz_w 1191 (by decide +kernel) (by decide +kernel)
theorem mw_1192 : (Jvm.Cond.code ({ cls := "WettedNetModel", name := "play", desc := "(I)I" } : Jvm.MethodName) prog_14_method_32_code (2 : Nat) (Option.some Jvm.ClassFile.FieldType.int)) ∈ mz_big := mz_w 1192 (by decide +kernel) (by decide +kernel)
theorem mw_1193 : (Jvm.Cond.constantLong "WettedNetModel" (192 : Nat) (4 : Int64)) ∈ mz_big := mz_w 1193 (by decide +kernel) (by decide +kernel)
theorem mw_1194 : (Jvm.Cond.methodLink "WettedNetLaw" (62 : Nat) ({ cls := "WettedNetModel", name := "sparks", desc := "(I)I" } : Jvm.MethodName)) ∈ mz_big := mz_w 1194 (by decide +kernel) (by decide +kernel)
theorem mw_1195 : (Jvm.Cond.instanceMethod ({ cls := "WettedNetModel", name := "sparks", desc := "(I)I" } : Jvm.MethodName)) ∈ mz_big := mz_w 1195 (by decide +kernel) (by decide +kernel)
theorem mw_1196 : (Jvm.Cond.selects "WettedNetModel" ({ cls := "WettedNetModel", name := "sparks", desc := "(I)I" } : Jvm.MethodName) ({ cls := "WettedNetModel", name := "sparks", desc := "(I)I" } : Jvm.MethodName)) ∈ mz_big := mz_w 1196 (by decide +kernel) (by decide +kernel)
theorem mw_1197 : (Jvm.Cond.code ({ cls := "WettedNetModel", name := "sparks", desc := "(I)I" } : Jvm.MethodName) prog_14_method_34_code (7 : Nat) (Option.some Jvm.ClassFile.FieldType.int)) ∈ mz_big := mz_w 1197 (by decide +kernel) (by decide +kernel)
theorem mw_1198 : (Jvm.Cond.methodLink "WettedNetModel" (194 : Nat) ({ cls := "WettedNetModel", name := "layTill", desc := "()V" } : Jvm.MethodName)) ∈ mz_big := mz_w 1198 (by decide +kernel) (by decide +kernel)
theorem mw_1200 : (Jvm.Cond.instanceMethod ({ cls := "WettedNetModel", name := "layTill", desc := "()V" } : Jvm.MethodName)) ∈ mz_big := mz_w 1200 (by decide +kernel) (by decide +kernel)
theorem mw_1201 : (Jvm.Cond.code ({ cls := "WettedNetModel", name := "layTill", desc := "()V" } : Jvm.MethodName) prog_14_method_33_code (5 : Nat) (Option.none : Option Jvm.ClassFile.FieldType)) ∈ mz_big := mz_w 1201 (by decide +kernel) (by decide +kernel)
theorem mw_1202 : (Jvm.Cond.methodLink "WettedNetLaw" (67 : Nat) ({ cls := "WettedNetModel", name := "when", desc := "(III)I" } : Jvm.MethodName)) ∈ mz_big := mz_w 1202 (by decide +kernel) (by decide +kernel)
theorem mw_1203 : (Jvm.Cond.instanceMethod ({ cls := "WettedNetModel", name := "when", desc := "(III)I" } : Jvm.MethodName)) ∈ mz_big := mz_w 1203 (by decide +kernel) (by decide +kernel)
theorem mw_1204 : (Jvm.Cond.selects "WettedNetModel" ({ cls := "WettedNetModel", name := "when", desc := "(III)I" } : Jvm.MethodName) ({ cls := "WettedNetModel", name := "when", desc := "(III)I" } : Jvm.MethodName)) ∈ mz_big := mz_w 1204 (by decide +kernel) (by decide +kernel)
theorem mw_1205 : (Jvm.Cond.code ({ cls := "WettedNetModel", name := "when", desc := "(III)I" } : Jvm.MethodName) prog_14_method_35_code (6 : Nat) (Option.some Jvm.ClassFile.FieldType.int)) ∈ mz_big := mz_w 1205 (by decide +kernel) (by decide +kernel)
theorem mw_1206 : (Jvm.Cond.methodLink "WettedNetLaw" (71 : Nat) ({ cls := "WettedNetModel", name := "caught", desc := "(II)I" } : Jvm.MethodName)) ∈ mz_big := mz_w 1206 (by decide +kernel) (by decide +kernel)
theorem mw_1207 : (Jvm.Cond.instanceMethod ({ cls := "WettedNetModel", name := "caught", desc := "(II)I" } : Jvm.MethodName)) ∈ mz_big := mz_w 1207 (by decide +kernel) (by decide +kernel)
theorem mw_1208 : (Jvm.Cond.selects "WettedNetModel" ({ cls := "WettedNetModel", name := "caught", desc := "(II)I" } : Jvm.MethodName) ({ cls := "WettedNetModel", name := "caught", desc := "(II)I" } : Jvm.MethodName)) ∈ mz_big := mz_w 1208 (by decide +kernel) (by decide +kernel)
theorem mw_1209 : (Jvm.Cond.code ({ cls := "WettedNetModel", name := "caught", desc := "(II)I" } : Jvm.MethodName) prog_14_method_38_code (5 : Nat) (Option.some Jvm.ClassFile.FieldType.int)) ∈ mz_big := mz_w 1209 (by decide +kernel) (by decide +kernel)
theorem mw_1210 : (Jvm.Cond.methodLink "WettedNetModel" (200 : Nat) ({ cls := "WettedNetModel", name := "caughtEnd", desc := "(II)I" } : Jvm.MethodName)) ∈ mz_big := mz_w 1210 (by decide +kernel) (by decide +kernel)
theorem mw_1212 : (Jvm.Cond.instanceMethod ({ cls := "WettedNetModel", name := "caughtEnd", desc := "(II)I" } : Jvm.MethodName)) ∈ mz_big := mz_w 1212 (by decide +kernel) (by decide +kernel)
theorem mw_1213 : (Jvm.Cond.code ({ cls := "WettedNetModel", name := "caughtEnd", desc := "(II)I" } : Jvm.MethodName) prog_14_method_37_code (5 : Nat) (Option.some Jvm.ClassFile.FieldType.int)) ∈ mz_big := mz_w 1213 (by decide +kernel) (by decide +kernel)
theorem mw_1214 : (Jvm.Cond.methodLink "WettedNetModel" (197 : Nat) ({ cls := "WettedNetModel", name := "caughtBy", desc := "(II)I" } : Jvm.MethodName)) ∈ mz_big := mz_w 1214 (by decide +kernel) (by decide +kernel)
theorem mw_1216 : (Jvm.Cond.instanceMethod ({ cls := "WettedNetModel", name := "caughtBy", desc := "(II)I" } : Jvm.MethodName)) ∈ mz_big := mz_w 1216 (by decide +kernel) (by decide +kernel)
theorem mw_1217 : (Jvm.Cond.code ({ cls := "WettedNetModel", name := "caughtBy", desc := "(II)I" } : Jvm.MethodName) prog_14_method_36_code (5 : Nat) (Option.some Jvm.ClassFile.FieldType.int)) ∈ mz_big := mz_w 1217 (by decide +kernel) (by decide +kernel)
theorem mw_1218 : (Jvm.Cond.methodLink "WettedNetLaw" (75 : Nat) ({ cls := "WettedNetModel", name := "seeds", desc := "(II)I" } : Jvm.MethodName)) ∈ mz_big := mz_w 1218 (by decide +kernel) (by decide +kernel)
theorem mw_1219 : (Jvm.Cond.instanceMethod ({ cls := "WettedNetModel", name := "seeds", desc := "(II)I" } : Jvm.MethodName)) ∈ mz_big := mz_w 1219 (by decide +kernel) (by decide +kernel)
theorem mw_1220 : (Jvm.Cond.selects "WettedNetModel" ({ cls := "WettedNetModel", name := "seeds", desc := "(II)I" } : Jvm.MethodName) ({ cls := "WettedNetModel", name := "seeds", desc := "(II)I" } : Jvm.MethodName)) ∈ mz_big := mz_w 1220 (by decide +kernel) (by decide +kernel)
theorem mw_1221 : (Jvm.Cond.code ({ cls := "WettedNetModel", name := "seeds", desc := "(II)I" } : Jvm.MethodName) prog_14_method_39_code (8 : Nat) (Option.some Jvm.ClassFile.FieldType.int)) ∈ mz_big := mz_w 1221 (by decide +kernel) (by decide +kernel)
theorem mw_1222 : (Jvm.Cond.constantLong "WettedNetModel" (203 : Nat) (9 : Int64)) ∈ mz_big := mz_w 1222 (by decide +kernel) (by decide +kernel)
theorem mw_1223 : (Jvm.Cond.methodLink "WettedNetLaw" (79 : Nat) ({ cls := "WettedNetModel", name := "ahead", desc := "(II)I" } : Jvm.MethodName)) ∈ mz_big := mz_w 1223 (by decide +kernel) (by decide +kernel)
theorem mw_1224 : (Jvm.Cond.instanceMethod ({ cls := "WettedNetModel", name := "ahead", desc := "(II)I" } : Jvm.MethodName)) ∈ mz_big := mz_w 1224 (by decide +kernel) (by decide +kernel)
theorem mw_1225 : (Jvm.Cond.selects "WettedNetModel" ({ cls := "WettedNetModel", name := "ahead", desc := "(II)I" } : Jvm.MethodName) ({ cls := "WettedNetModel", name := "ahead", desc := "(II)I" } : Jvm.MethodName)) ∈ mz_big := mz_w 1225 (by decide +kernel) (by decide +kernel)
theorem mw_1226 : (Jvm.Cond.code ({ cls := "WettedNetModel", name := "ahead", desc := "(II)I" } : Jvm.MethodName) prog_14_method_40_code (6 : Nat) (Option.some Jvm.ClassFile.FieldType.int)) ∈ mz_big := mz_w 1226 (by decide +kernel) (by decide +kernel)
theorem mw_1227 : (Jvm.Cond.methodLink "WettedNetLaw" (83 : Nat) ({ cls := "WettedNetModel", name := "forced", desc := "(III)I" } : Jvm.MethodName)) ∈ mz_big := mz_w 1227 (by decide +kernel) (by decide +kernel)
theorem mw_1228 : (Jvm.Cond.instanceMethod ({ cls := "WettedNetModel", name := "forced", desc := "(III)I" } : Jvm.MethodName)) ∈ mz_big := mz_w 1228 (by decide +kernel) (by decide +kernel)
theorem mw_1229 : (Jvm.Cond.selects "WettedNetModel" ({ cls := "WettedNetModel", name := "forced", desc := "(III)I" } : Jvm.MethodName) ({ cls := "WettedNetModel", name := "forced", desc := "(III)I" } : Jvm.MethodName)) ∈ mz_big := mz_w 1229 (by decide +kernel) (by decide +kernel)
theorem mw_1230 : (Jvm.Cond.code ({ cls := "WettedNetModel", name := "forced", desc := "(III)I" } : Jvm.MethodName) prog_14_method_43_code (8 : Nat) (Option.some Jvm.ClassFile.FieldType.int)) ∈ mz_big := mz_w 1230 (by decide +kernel) (by decide +kernel)
theorem mw_1231 : (Jvm.Cond.methodLink "WettedNetModel" (208 : Nat) ({ cls := "WettedNetModel", name := "forcedBy", desc := "(I)I" } : Jvm.MethodName)) ∈ mz_big := mz_w 1231 (by decide +kernel) (by decide +kernel)
theorem mw_1233 : (Jvm.Cond.instanceMethod ({ cls := "WettedNetModel", name := "forcedBy", desc := "(I)I" } : Jvm.MethodName)) ∈ mz_big := mz_w 1233 (by decide +kernel) (by decide +kernel)
theorem mw_1234 : (Jvm.Cond.code ({ cls := "WettedNetModel", name := "forcedBy", desc := "(I)I" } : Jvm.MethodName) prog_14_method_42_code (4 : Nat) (Option.some Jvm.ClassFile.FieldType.int)) ∈ mz_big := mz_w 1234 (by decide +kernel) (by decide +kernel)
theorem mw_1235 : (Jvm.Cond.methodLink "WettedNetModel" (205 : Nat) ({ cls := "WettedNetModel", name := "forces", desc := "(II)I" } : Jvm.MethodName)) ∈ mz_big := mz_w 1235 (by decide +kernel) (by decide +kernel)
theorem mw_1237 : (Jvm.Cond.instanceMethod ({ cls := "WettedNetModel", name := "forces", desc := "(II)I" } : Jvm.MethodName)) ∈ mz_big := mz_w 1237 (by decide +kernel) (by decide +kernel)
theorem mw_1238 : (Jvm.Cond.code ({ cls := "WettedNetModel", name := "forces", desc := "(II)I" } : Jvm.MethodName) prog_14_method_41_code (5 : Nat) (Option.some Jvm.ClassFile.FieldType.int)) ∈ mz_big := mz_w 1238 (by decide +kernel) (by decide +kernel)
theorem mw_1239 : (Jvm.Cond.methodLink "WettedNetLaw" (87 : Nat) ({ cls := "WettedNetModel", name := "forcers", desc := "(I)I" } : Jvm.MethodName)) ∈ mz_big := mz_w 1239 (by decide +kernel) (by decide +kernel)
theorem mw_1240 : (Jvm.Cond.instanceMethod ({ cls := "WettedNetModel", name := "forcers", desc := "(I)I" } : Jvm.MethodName)) ∈ mz_big := mz_w 1240 (by decide +kernel) (by decide +kernel)
theorem mw_1241 : (Jvm.Cond.selects "WettedNetModel" ({ cls := "WettedNetModel", name := "forcers", desc := "(I)I" } : Jvm.MethodName) ({ cls := "WettedNetModel", name := "forcers", desc := "(I)I" } : Jvm.MethodName)) ∈ mz_big := mz_w 1241 (by decide +kernel) (by decide +kernel)
theorem mw_1242 : (Jvm.Cond.code ({ cls := "WettedNetModel", name := "forcers", desc := "(I)I" } : Jvm.MethodName) prog_14_method_45_code (9 : Nat) (Option.some Jvm.ClassFile.FieldType.int)) ∈ mz_big := mz_w 1242 (by decide +kernel) (by decide +kernel)
theorem mw_1243 : (Jvm.Cond.methodLink "WettedNetModel" (211 : Nat) ({ cls := "WettedNetModel", name := "roundsOf", desc := "(I)I" } : Jvm.MethodName)) ∈ mz_big := mz_w 1243 (by decide +kernel) (by decide +kernel)
theorem mw_1245 : (Jvm.Cond.instanceMethod ({ cls := "WettedNetModel", name := "roundsOf", desc := "(I)I" } : Jvm.MethodName)) ∈ mz_big := mz_w 1245 (by decide +kernel) (by decide +kernel)
theorem mw_1246 : (Jvm.Cond.code ({ cls := "WettedNetModel", name := "roundsOf", desc := "(I)I" } : Jvm.MethodName) prog_14_method_44_code (4 : Nat) (Option.some Jvm.ClassFile.FieldType.int)) ∈ mz_big := mz_w 1246 (by decide +kernel) (by decide +kernel)
theorem mw_1247 : (Jvm.Cond.methodLink "WettedNetLaw" (92 : Nat) ({ cls := "WettedNetModel", name := "carried", desc := "(III)J" } : Jvm.MethodName)) ∈ mz_big := mz_w 1247 (by decide +kernel) (by decide +kernel)
theorem mw_1248 : (Jvm.Cond.instanceMethod ({ cls := "WettedNetModel", name := "carried", desc := "(III)J" } : Jvm.MethodName)) ∈ mz_big := mz_w 1248 (by decide +kernel) (by decide +kernel)
theorem mw_1249 : (Jvm.Cond.selects "WettedNetModel" ({ cls := "WettedNetModel", name := "carried", desc := "(III)J" } : Jvm.MethodName) ({ cls := "WettedNetModel", name := "carried", desc := "(III)J" } : Jvm.MethodName)) ∈ mz_big := mz_w 1249 (by decide +kernel) (by decide +kernel)
theorem mw_1250 : (Jvm.Cond.code ({ cls := "WettedNetModel", name := "carried", desc := "(III)J" } : Jvm.MethodName) prog_14_method_53_code (4 : Nat) (Option.some Jvm.ClassFile.FieldType.long)) ∈ mz_big := mz_w 1250 (by decide +kernel) (by decide +kernel)
theorem mw_1251 : (Jvm.Cond.constantLong "WettedNetModel" (233 : Nat) (-2 : Int64)) ∈ mz_big := mz_w 1251 (by decide +kernel) (by decide +kernel)
theorem mw_1252 : (Jvm.Cond.constantLong "WettedNetModel" (235 : Nat) (-3 : Int64)) ∈ mz_big := mz_w 1252 (by decide +kernel) (by decide +kernel)
theorem mw_1253 : (Jvm.Cond.methodLink "WettedNetModel" (214 : Nat) ({ cls := "WettedNetModel", name := "wayMany", desc := "()I" } : Jvm.MethodName)) ∈ mz_big := mz_w 1253 (by decide +kernel) (by decide +kernel)
theorem mw_1255 : (Jvm.Cond.instanceMethod ({ cls := "WettedNetModel", name := "wayMany", desc := "()I" } : Jvm.MethodName)) ∈ mz_big := mz_w 1255 (by decide +kernel) (by decide +kernel)
theorem mw_1256 : (Jvm.Cond.code ({ cls := "WettedNetModel", name := "wayMany", desc := "()I" } : Jvm.MethodName) prog_14_method_46_code (3 : Nat) (Option.some Jvm.ClassFile.FieldType.int)) ∈ mz_big := mz_w 1256 (by decide +kernel) (by decide +kernel)
theorem mw_1258 : (Jvm.Cond.methodLink "WettedNetModel" (239 : Nat) ({ cls := "WettedNetModel", name := "carriedBy", desc := "(II)J" } : Jvm.MethodName)) ∈ mz_big := mz_w 1258 (by decide +kernel) (by decide +kernel)
theorem mw_1260 : (Jvm.Cond.instanceMethod ({ cls := "WettedNetModel", name := "carriedBy", desc := "(II)J" } : Jvm.MethodName)) ∈ mz_big := mz_w 1260 (by decide +kernel) (by decide +kernel)
theorem mw_1261 : (Jvm.Cond.code ({ cls := "WettedNetModel", name := "carriedBy", desc := "(II)J" } : Jvm.MethodName) prog_14_method_50_code (10 : Nat) (Option.some Jvm.ClassFile.FieldType.long)) ∈ mz_big := mz_w 1261 (by decide +kernel) (by decide +kernel)
theorem mw_1262 : (Jvm.Cond.methodLink "WettedNetModel" (217 : Nat) ({ cls := "WettedNetModel", name := "layWays", desc := "()V" } : Jvm.MethodName)) ∈ mz_big := mz_w 1262 (by decide +kernel) (by decide +kernel)
theorem mw_1264 : (Jvm.Cond.instanceMethod ({ cls := "WettedNetModel", name := "layWays", desc := "()V" } : Jvm.MethodName)) ∈ mz_big := mz_w 1264 (by decide +kernel) (by decide +kernel)
theorem mw_1265 : (Jvm.Cond.code ({ cls := "WettedNetModel", name := "layWays", desc := "()V" } : Jvm.MethodName) prog_14_method_47_code (3 : Nat) (Option.none : Option Jvm.ClassFile.FieldType)) ∈ mz_big := mz_w 1265 (by decide +kernel) (by decide +kernel)
theorem mw_1266 : (Jvm.Cond.methodLink "WettedNetModel" (220 : Nat) ({ cls := "WettedNetModel", name := "reached", desc := "(III)I" } : Jvm.MethodName)) ∈ mz_big := mz_w 1266 (by decide +kernel) (by decide +kernel)
theorem mw_1268 : (Jvm.Cond.instanceMethod ({ cls := "WettedNetModel", name := "reached", desc := "(III)I" } : Jvm.MethodName)) ∈ mz_big := mz_w 1268 (by decide +kernel) (by decide +kernel)
theorem mw_1269 : (Jvm.Cond.code ({ cls := "WettedNetModel", name := "reached", desc := "(III)I" } : Jvm.MethodName) prog_14_method_48_code (7 : Nat) (Option.some Jvm.ClassFile.FieldType.int)) ∈ mz_big := mz_w 1269 (by decide +kernel) (by decide +kernel)
theorem mw_1270 : (Jvm.Cond.methodLink "WettedNetModel" (243 : Nat) ({ cls := "WettedNetModel", name := "part", desc := "(JI)J" } : Jvm.MethodName)) ∈ mz_big := mz_w 1270 (by decide +kernel) (by decide +kernel)
theorem mw_1272 : (Jvm.Cond.instanceMethod ({ cls := "WettedNetModel", name := "part", desc := "(JI)J" } : Jvm.MethodName)) ∈ mz_big := mz_w 1272 (by decide +kernel) (by decide +kernel)
theorem mw_1273 : (Jvm.Cond.code ({ cls := "WettedNetModel", name := "part", desc := "(JI)J" } : Jvm.MethodName) prog_14_method_52_code (8 : Nat) (Option.some Jvm.ClassFile.FieldType.long)) ∈ mz_big := mz_w 1273 (by decide +kernel) (by decide +kernel)
theorem mw_1274 : (Jvm.Cond.methodLink "WettedNetModel" (225 : Nat) ({ cls := "WettedNetModel", name := "power", desc := "(I)J" } : Jvm.MethodName)) ∈ mz_big := mz_w 1274 (by decide +kernel) (by decide +kernel)
theorem mw_1275 : (Jvm.Cond.static ({ cls := "WettedNetModel", name := "power", desc := "(I)J" } : Jvm.MethodName)) ∈ mz_big := mz_w 1275 (by decide +kernel) (by decide +kernel)
theorem mw_1276 : (Jvm.Cond.code ({ cls := "WettedNetModel", name := "power", desc := "(I)J" } : Jvm.MethodName) prog_14_method_51_code (4 : Nat) (Option.some Jvm.ClassFile.FieldType.long)) ∈ mz_big := mz_w 1276 (by decide +kernel) (by decide +kernel)
theorem mw_1278 : (Jvm.Cond.methodLink "WettedNetModel" (229 : Nat) ({ cls := "WettedNetModel", name := "divisor", desc := "(JJ)J" } : Jvm.MethodName)) ∈ mz_big := mz_w 1278 (by decide +kernel) (by decide +kernel)
theorem mw_1279 : (Jvm.Cond.static ({ cls := "WettedNetModel", name := "divisor", desc := "(JJ)J" } : Jvm.MethodName)) ∈ mz_big := mz_w 1279 (by decide +kernel) (by decide +kernel)
theorem mw_1280 : (Jvm.Cond.code ({ cls := "WettedNetModel", name := "divisor", desc := "(JJ)J" } : Jvm.MethodName) prog_14_method_49_code (10 : Nat) (Option.some Jvm.ClassFile.FieldType.long)) ∈ mz_big := mz_w 1280 (by decide +kernel) (by decide +kernel)
theorem mw_1281 : (Jvm.Cond.methodLink "WettedNetLaw" (97 : Nat) ({ cls := "WettedNetModel", name := "mean", desc := "(II)J" } : Jvm.MethodName)) ∈ mz_big := mz_w 1281 (by decide +kernel) (by decide +kernel)
theorem mw_1282 : (Jvm.Cond.instanceMethod ({ cls := "WettedNetModel", name := "mean", desc := "(II)J" } : Jvm.MethodName)) ∈ mz_big := mz_w 1282 (by decide +kernel) (by decide +kernel)
theorem mw_1283 : (Jvm.Cond.selects "WettedNetModel" ({ cls := "WettedNetModel", name := "mean", desc := "(II)J" } : Jvm.MethodName) ({ cls := "WettedNetModel", name := "mean", desc := "(II)J" } : Jvm.MethodName)) ∈ mz_big := mz_w 1283 (by decide +kernel) (by decide +kernel)
theorem mw_1284 : (Jvm.Cond.code ({ cls := "WettedNetModel", name := "mean", desc := "(II)J" } : Jvm.MethodName) prog_14_method_54_code (3 : Nat) (Option.some Jvm.ClassFile.FieldType.long)) ∈ mz_big := mz_w 1284 (by decide +kernel) (by decide +kernel)
theorem mw_1285 : (Jvm.Cond.methodLink "WettedNetLaw" (101 : Nat) ({ cls := "WettedNetModel", name := "token", desc := "(III)I" } : Jvm.MethodName)) ∈ mz_big := mz_w 1285 (by decide +kernel) (by decide +kernel)
theorem mw_1286 : (Jvm.Cond.instanceMethod ({ cls := "WettedNetModel", name := "token", desc := "(III)I" } : Jvm.MethodName)) ∈ mz_big := mz_w 1286 (by decide +kernel) (by decide +kernel)
theorem mw_1287 : (Jvm.Cond.selects "WettedNetModel" ({ cls := "WettedNetModel", name := "token", desc := "(III)I" } : Jvm.MethodName) ({ cls := "WettedNetModel", name := "token", desc := "(III)I" } : Jvm.MethodName)) ∈ mz_big := mz_w 1287 (by decide +kernel) (by decide +kernel)
theorem mw_1288 : (Jvm.Cond.code ({ cls := "WettedNetModel", name := "token", desc := "(III)I" } : Jvm.MethodName) prog_14_method_56_code (6 : Nat) (Option.some Jvm.ClassFile.FieldType.int)) ∈ mz_big := mz_w 1288 (by decide +kernel) (by decide +kernel)
theorem mw_1289 : (Jvm.Cond.constantLong "WettedNetModel" (247 : Nat) (3 : Int64)) ∈ mz_big := mz_w 1289 (by decide +kernel) (by decide +kernel)
theorem mw_1290 : (Jvm.Cond.methodLink "WettedNetModel" (249 : Nat) ({ cls := "WettedNetModel", name := "layToken", desc := "(II)V" } : Jvm.MethodName)) ∈ mz_big := mz_w 1290 (by decide +kernel) (by decide +kernel)
theorem mw_1292 : (Jvm.Cond.instanceMethod ({ cls := "WettedNetModel", name := "layToken", desc := "(II)V" } : Jvm.MethodName)) ∈ mz_big := mz_w 1292 (by decide +kernel) (by decide +kernel)
theorem mw_1293 : (Jvm.Cond.code ({ cls := "WettedNetModel", name := "layToken", desc := "(II)V" } : Jvm.MethodName) prog_14_method_55_code (9 : Nat) (Option.none : Option Jvm.ClassFile.FieldType)) ∈ mz_big := mz_w 1293 (by decide +kernel) (by decide +kernel)
theorem mw_1294 : (Jvm.Cond.methodLink "WettedNetLaw" (105 : Nat) ({ cls := "WettedNetModel", name := "pairs", desc := "()I" } : Jvm.MethodName)) ∈ mz_big := mz_w 1294 (by decide +kernel) (by decide +kernel)
theorem mw_1295 : (Jvm.Cond.instanceMethod ({ cls := "WettedNetModel", name := "pairs", desc := "()I" } : Jvm.MethodName)) ∈ mz_big := mz_w 1295 (by decide +kernel) (by decide +kernel)
theorem mw_1296 : (Jvm.Cond.selects "WettedNetModel" ({ cls := "WettedNetModel", name := "pairs", desc := "()I" } : Jvm.MethodName) ({ cls := "WettedNetModel", name := "pairs", desc := "()I" } : Jvm.MethodName)) ∈ mz_big := mz_w 1296 (by decide +kernel) (by decide +kernel)
theorem mw_1297 : (Jvm.Cond.code ({ cls := "WettedNetModel", name := "pairs", desc := "()I" } : Jvm.MethodName) prog_14_method_58_code (7 : Nat) (Option.some Jvm.ClassFile.FieldType.int)) ∈ mz_big := mz_w 1297 (by decide +kernel) (by decide +kernel)
theorem mw_1298 : (Jvm.Cond.methodLink "WettedNetModel" (253 : Nat) ({ cls := "WettedNetModel", name := "isEven", desc := "()Z" } : Jvm.MethodName)) ∈ mz_big := mz_w 1298 (by decide +kernel) (by decide +kernel)
theorem mw_1300 : (Jvm.Cond.instanceMethod ({ cls := "WettedNetModel", name := "isEven", desc := "()Z" } : Jvm.MethodName)) ∈ mz_big := mz_w 1300 (by decide +kernel) (by decide +kernel)
theorem mw_1301 : (Jvm.Cond.code ({ cls := "WettedNetModel", name := "isEven", desc := "()Z" } : Jvm.MethodName) prog_14_method_57_code (3 : Nat) (Option.some Jvm.ClassFile.FieldType.boolean)) ∈ mz_big := mz_w 1301 (by decide +kernel) (by decide +kernel)
theorem mw_1302 : (Jvm.Cond.methodLink "WettedNetLaw" (109 : Nat) ({ cls := "WettedNetModel", name := "count", desc := "(I)I" } : Jvm.MethodName)) ∈ mz_big := mz_w 1302 (by decide +kernel) (by decide +kernel)
theorem mw_1303 : (Jvm.Cond.instanceMethod ({ cls := "WettedNetModel", name := "count", desc := "(I)I" } : Jvm.MethodName)) ∈ mz_big := mz_w 1303 (by decide +kernel) (by decide +kernel)
theorem mw_1304 : (Jvm.Cond.selects "WettedNetModel" ({ cls := "WettedNetModel", name := "count", desc := "(I)I" } : Jvm.MethodName) ({ cls := "WettedNetModel", name := "count", desc := "(I)I" } : Jvm.MethodName)) ∈ mz_big := mz_w 1304 (by decide +kernel) (by decide +kernel)
theorem mw_1305 : (Jvm.Cond.code ({ cls := "WettedNetModel", name := "count", desc := "(I)I" } : Jvm.MethodName) prog_14_method_59_code (2 : Nat) (Option.some Jvm.ClassFile.FieldType.int)) ∈ mz_big := mz_w 1305 (by decide +kernel) (by decide +kernel)
theorem mw_1306 : (Jvm.Cond.constantLong "WettedNetLaw" (13 : Nat) (4294967295 : Int64)) ∈ mz_big := mz_w 1306 (by decide +kernel) (by decide +kernel)
theorem mw_1307 : (Jvm.Cond.fieldLink "java/lang/String" (9 : Nat) "java/lang/String" "value" "[B") ∈ mz_big := mz_w 1307 (by decide +kernel) (by decide +kernel)
theorem mw_1308 : (Jvm.Cond.fieldLink "java/lang/String" (15 : Nat) "java/lang/String" "coder" "B") ∈ mz_big := mz_w 1308 (by decide +kernel) (by decide +kernel)
end
section
/-! ===== Math.min ===== -/
theorem mw_min : Cond.code Lib.Math.min.name Lib.Math.min.code 2 (some .int) ∈ mz_big := mz_w 621 (by decide +kernel) (by decide +kernel)
theorem mw_minS : Cond.static Lib.Math.min.name ∈ mz_big := mz_w 620 (by decide +kernel) (by decide +kernel)
theorem mw_minI : Cond.initialized "java/lang/Math" ∈ mz_big := mz_w 79 (by decide +kernel) (by decide +kernel)
def mz_mn (n : Nat) : mz_S → Option (Nat × mz_S) := fun st => match st.2.1 with
  | .inl y :: .inl x :: r => bif Nat.ble (r.map mz_cat).sum 8 then mz_fi (if y < x then y else x) (fun z => some (n, st.1, .inl z :: r, st.2.2)) else none
  | _ => none
theorem mz_min {E : List mz_V} {M : mz_M} {pc i : Nat} (h1 : 1 ≤ M.2.2.2.2.2.1) (h2 : 22 ≤ M.2.2.2.2.2.2) (w1 : Cond.methodLink M.2.2.2.1 i Lib.Math.min.name ∈ mz_big) (hd : decode M.1 pc = .ok (.invokestatic i, 3)) : mz_ok E M pc (mz_mn (pc + 3)) := by
  have inv : ∀ (st : mz_S) (pc' : Nat) (st' : mz_S), mz_mn (pc + 3) st = some (pc', st') → ∃ y x r, st.2.1 = .inl y :: .inl x :: r ∧ (r.map mz_cat).sum ≤ 8 ∧ pc' = pc + 3 ∧ st' = (st.1, .inl (if y < x then y else x) :: r, st.2.2) := by
    intro st pc' st' h
    unfold mz_mn at h
    split at h
    next y x r hs =>
      cases hb : Nat.ble (r.map mz_cat).sum 8 with
      | false => simp only [hb] at h; cases h
      | true =>
        simp only [hb, cond_true] at h
        rw [mz_fi_eq] at h
        cases h
        exact ⟨y, x, r, hs, Nat.le_of_ble_eq_true hb, rfl, rfl⟩
    next => cases h
  intro st pc' st' h
  obtain ⟨y, x, r, g1, g2, rfl, rfl⟩ := inv st pc' st' h
  refine ⟨⟨Nat.le_refl _, Nat.le_refl _⟩, ?_⟩
  intro G p l e R s m args below meth c A ls stk cw H locs cells slots Q hc hr b1 b2 kk
  simp only [Nat.sub_self, Nat.add_zero] at b1 b2 kk
  have hs := hr.2.1
  rw [g1] at hs
  obtain ⟨vy, _, rfl, gy, vx, vs, rfl, gx, hs⟩ := hs
  have gy : vy = .int y := gy
  have gx : vx = .int x := gx
  subst gy
  subst gx
  have hts := hc.2.2.2.2.2.2.2.2.2.1
  obtain ⟨tr, t1, t2, t3⟩ := id hr.1
  exact va_mmin hc.1 hc.2.1 (hc.2.2.1.trans t2.1.symm) hc.2.2.2.2.1 (hts _ w1) (hts _ mw_minS) (hts _ mw_minI) (hts _ mw_min) (by rw [hc.2.2.2.2.2.2.1]; exact h1) (by rw [hc.2.2.2.2.2.2.2.1, mz_sk_cats _ _ hs]; omega) b1 b2 hd (kk ls _ cw H locs ⟨hr.1, ⟨_, vs, rfl, rfl, hs⟩, hr.2.2⟩ (fun _ _ h => h))
end
section
abbrev tM_J0_coder_7d493 : mz_M := (cJ0_coder_7d493, 1, (some .byte), RJ0, "coder", 1, 22)
noncomputable def ck_J0_coder_7d493_0 : List (Nat × mz_O) := [(0, .inl (mz_push (.inl 1) 3)), (3, .inl (mz_j1 mz_eq0 13 6)), (6, .inl (mz_ld mz_isR 0 7)), (7, .inl (mz_xf false 10)), (10, .inl (mz_go 14)), (14, .inr (mz_rt mz_is01))]
theorem tk_J0_coder_7d493_0 (E : List mz_V) : mz_all E tM_J0_coder_7d493 (ck_J0_coder_7d493_0) :=
  mz_cons (mz_gsCom mw_430 (show decode cJ0_coder_7d493 0 = .ok (.getstatic 38, 3) by decide +kernel)) (
  mz_cons (mz_if_eq 13 (by decide) (show decode cJ0_coder_7d493 3 = .ok (.ifCond .eq 10, 3) by decide +kernel)) (
  mz_cons (mz_aload_n (k := 0) (show decode cJ0_coder_7d493 6 = .ok (.aload_n 0, 1) by decide +kernel)) (
  mz_cons (mz_gfCod mw_1308 (show decode cJ0_coder_7d493 7 = .ok (.getfield 15, 3) by decide +kernel)) (
  mz_cons (mz_goto 14 (by decide) (show decode cJ0_coder_7d493 10 = .ok (.goto 4, 3) by decide +kernel)) (
  mz_consR (mz_breturn rfl (show decode cJ0_coder_7d493 14 = .ok (.ireturn, 1) by decide +kernel)) (
  mz_nil))))))
noncomputable def tb_J0_coder_7d493 : List (Nat × List (Nat × mz_O)) := [(14, ck_J0_coder_7d493_0)]
theorem tok_J0_coder_7d493 (E : List mz_V) : mz_tok E tM_J0_coder_7d493 (tb_J0_coder_7d493) := mz_tcons (tk_J0_coder_7d493_0 E) (mz_tnil)
noncomputable def rn_J0_coder_7d493 : List mz_V → List mz_C → Option (Option mz_V × List mz_C) := mz_rn tb_J0_coder_7d493 16 1
theorem ctr_J0_coder_7d493 (E : List mz_V) : mz_ctr E yJ0_coder_7d493 tM_J0_coder_7d493 rn_J0_coder_7d493 := mz_ctr_of 16 (tok_J0_coder_7d493 E) (by decide) rfl rfl
abbrev tM_J0_length_8abf5 : mz_M := (cJ0_length_8abf5, 1, (some .int), RJ0, "length", 2, 42)
noncomputable def ck_J0_length_8abf5_0 : List (Nat × mz_O) := [(0, .inl (mz_ld mz_isR 0 1)), (1, .inl (mz_xf true 4)), (4, .inl (mz_bn 5)), (5, .inl (mz_ld mz_isR 0 6)), (6, .inl (mz_call rn_J0_coder_7d493 1 mz_ckX 9)), (9, .inl (mz_o2 mz_f_ishr 10)), (10, .inr (mz_rt mz_isI))]
theorem tk_J0_length_8abf5_0 (E : List mz_V) : mz_all E tM_J0_length_8abf5 (ck_J0_length_8abf5_0) :=
  mz_cons (mz_aload_n (k := 0) (show decode cJ0_length_8abf5 0 = .ok (.aload_n 0, 1) by decide +kernel)) (
  mz_cons (mz_gfVal mw_1307 (show decode cJ0_length_8abf5 1 = .ok (.getfield 9, 3) by decide +kernel)) (
  mz_cons (mz_blen (show decode cJ0_length_8abf5 4 = .ok (.arraylength, 1) by decide +kernel)) (
  mz_cons (mz_aload_n (k := 0) (show decode cJ0_length_8abf5 5 = .ok (.aload_n 0, 1) by decide +kernel)) (
  mz_cons (mz_invX (n := 0) (ctr_J0_coder_7d493 E) rfl ⟨by decide, by decide, by decide +kernel⟩ ⟨by decide, by decide⟩ mw_429 mw_426 mw_427 mw_428 mw_75 (show decode cJ0_length_8abf5 6 = .ok (.invokevirtual 335, 3) by decide +kernel)) (
  mz_cons (mz_ishr (show decode cJ0_length_8abf5 9 = .ok (.ishr, 1) by decide +kernel)) (
  mz_consR (mz_ireturn rfl (show decode cJ0_length_8abf5 10 = .ok (.ireturn, 1) by decide +kernel)) (
  mz_nil)))))))
noncomputable def tb_J0_length_8abf5 : List (Nat × List (Nat × mz_O)) := [(10, ck_J0_length_8abf5_0)]
theorem tok_J0_length_8abf5 (E : List mz_V) : mz_tok E tM_J0_length_8abf5 (tb_J0_length_8abf5) := mz_tcons (tk_J0_length_8abf5_0 E) (mz_tnil)
noncomputable def rn_J0_length_8abf5 : List mz_V → List mz_C → Option (Option mz_V × List mz_C) := mz_rn tb_J0_length_8abf5 17 1
theorem ctr_J0_length_8abf5 (E : List mz_V) : mz_ctr E yJ0_length_8abf5 tM_J0_length_8abf5 rn_J0_length_8abf5 := mz_ctr_of 17 (tok_J0_length_8abf5 E) (by decide) rfl rfl
abbrev tM_J6_bitCount_0f7a4 : mz_M := (cJ6_bitCount_0f7a4, 1, (some .int), RJ6, "bitCount", 1, 22)
noncomputable def ck_J6_bitCount_0f7a4_0 : List (Nat × mz_O) := [(0, .inl (mz_ld mz_isI 0 1)), (1, .inl (mz_ld mz_isI 0 2)), (2, .inl (mz_push (.inl 1) 3)), (3, .inl (mz_o2 mz_f_iushr 4)), (4, .inl (mz_push (.inl 1431655765) 7)), (7, .inl (mz_o2 mz_f_iand 8)), (8, .inl (mz_o2 mz_f_isub 9)), (9, .inl (mz_sto mz_isI mz_p1 0 10)), (10, .inl (mz_ld mz_isI 0 11)), (11, .inl (mz_push (.inl 858993459) 14)), (14, .inl (mz_o2 mz_f_iand 15)), (15, .inl (mz_ld mz_isI 0 16)), (16, .inl (mz_push (.inl 2) 17)), (17, .inl (mz_o2 mz_f_iushr 18)), (18, .inl (mz_push (.inl 858993459) 21)), (21, .inl (mz_o2 mz_f_iand 22))]
theorem tk_J6_bitCount_0f7a4_0 (E : List mz_V) : mz_all E tM_J6_bitCount_0f7a4 (ck_J6_bitCount_0f7a4_0) :=
  mz_cons (mz_iload_n (k := 0) (show decode cJ6_bitCount_0f7a4 0 = .ok (.iload_n 0, 1) by decide +kernel)) (
  mz_cons (mz_iload_n (k := 0) (show decode cJ6_bitCount_0f7a4 1 = .ok (.iload_n 0, 1) by decide +kernel)) (
  mz_cons (mz_iconst 1 (by decide) (show decode cJ6_bitCount_0f7a4 2 = .ok (.iconst 1, 1) by decide +kernel)) (
  mz_cons (mz_iushr (show decode cJ6_bitCount_0f7a4 3 = .ok (.iushr, 1) by decide +kernel)) (
  mz_cons (mz_ldcw mw_110 (show decode cJ6_bitCount_0f7a4 4 = .ok (.ldc_w 265, 3) by decide +kernel)) (
  mz_cons (mz_iand (show decode cJ6_bitCount_0f7a4 7 = .ok (.iand, 1) by decide +kernel)) (
  mz_cons (mz_isub (show decode cJ6_bitCount_0f7a4 8 = .ok (.isub, 1) by decide +kernel)) (
  mz_cons (mz_istore_n (k := 0) (by decide) (show decode cJ6_bitCount_0f7a4 9 = .ok (.istore_n 0, 1) by decide +kernel)) (
  mz_cons (mz_iload_n (k := 0) (show decode cJ6_bitCount_0f7a4 10 = .ok (.iload_n 0, 1) by decide +kernel)) (
  mz_cons (mz_ldcw mw_111 (show decode cJ6_bitCount_0f7a4 11 = .ok (.ldc_w 266, 3) by decide +kernel)) (
  mz_cons (mz_iand (show decode cJ6_bitCount_0f7a4 14 = .ok (.iand, 1) by decide +kernel)) (
  mz_cons (mz_iload_n (k := 0) (show decode cJ6_bitCount_0f7a4 15 = .ok (.iload_n 0, 1) by decide +kernel)) (
  mz_cons (mz_iconst 2 (by decide) (show decode cJ6_bitCount_0f7a4 16 = .ok (.iconst 2, 1) by decide +kernel)) (
  mz_cons (mz_iushr (show decode cJ6_bitCount_0f7a4 17 = .ok (.iushr, 1) by decide +kernel)) (
  mz_cons (mz_ldcw mw_111 (show decode cJ6_bitCount_0f7a4 18 = .ok (.ldc_w 266, 3) by decide +kernel)) (
  mz_cons (mz_iand (show decode cJ6_bitCount_0f7a4 21 = .ok (.iand, 1) by decide +kernel)) (
  mz_nil))))))))))))))))
noncomputable def ck_J6_bitCount_0f7a4_1 : List (Nat × mz_O) := [(22, .inl (mz_o2 mz_f_iadd 23)), (23, .inl (mz_sto mz_isI mz_p1 0 24)), (24, .inl (mz_ld mz_isI 0 25)), (25, .inl (mz_ld mz_isI 0 26)), (26, .inl (mz_push (.inl 4) 27)), (27, .inl (mz_o2 mz_f_iushr 28)), (28, .inl (mz_o2 mz_f_iadd 29)), (29, .inl (mz_push (.inl 252645135) 32)), (32, .inl (mz_o2 mz_f_iand 33)), (33, .inl (mz_sto mz_isI mz_p1 0 34)), (34, .inl (mz_ld mz_isI 0 35)), (35, .inl (mz_ld mz_isI 0 36)), (36, .inl (mz_push (.inl 8) 38)), (38, .inl (mz_o2 mz_f_iushr 39)), (39, .inl (mz_o2 mz_f_iadd 40)), (40, .inl (mz_sto mz_isI mz_p1 0 41))]
theorem tk_J6_bitCount_0f7a4_1 (E : List mz_V) : mz_all E tM_J6_bitCount_0f7a4 (ck_J6_bitCount_0f7a4_1) :=
  mz_cons (mz_iadd (show decode cJ6_bitCount_0f7a4 22 = .ok (.iadd, 1) by decide +kernel)) (
  mz_cons (mz_istore_n (k := 0) (by decide) (show decode cJ6_bitCount_0f7a4 23 = .ok (.istore_n 0, 1) by decide +kernel)) (
  mz_cons (mz_iload_n (k := 0) (show decode cJ6_bitCount_0f7a4 24 = .ok (.iload_n 0, 1) by decide +kernel)) (
  mz_cons (mz_iload_n (k := 0) (show decode cJ6_bitCount_0f7a4 25 = .ok (.iload_n 0, 1) by decide +kernel)) (
  mz_cons (mz_iconst 4 (by decide) (show decode cJ6_bitCount_0f7a4 26 = .ok (.iconst 4, 1) by decide +kernel)) (
  mz_cons (mz_iushr (show decode cJ6_bitCount_0f7a4 27 = .ok (.iushr, 1) by decide +kernel)) (
  mz_cons (mz_iadd (show decode cJ6_bitCount_0f7a4 28 = .ok (.iadd, 1) by decide +kernel)) (
  mz_cons (mz_ldcw mw_112 (show decode cJ6_bitCount_0f7a4 29 = .ok (.ldc_w 267, 3) by decide +kernel)) (
  mz_cons (mz_iand (show decode cJ6_bitCount_0f7a4 32 = .ok (.iand, 1) by decide +kernel)) (
  mz_cons (mz_istore_n (k := 0) (by decide) (show decode cJ6_bitCount_0f7a4 33 = .ok (.istore_n 0, 1) by decide +kernel)) (
  mz_cons (mz_iload_n (k := 0) (show decode cJ6_bitCount_0f7a4 34 = .ok (.iload_n 0, 1) by decide +kernel)) (
  mz_cons (mz_iload_n (k := 0) (show decode cJ6_bitCount_0f7a4 35 = .ok (.iload_n 0, 1) by decide +kernel)) (
  mz_cons (mz_bipush 8 (by decide) (show decode cJ6_bitCount_0f7a4 36 = .ok (.bipush 8, 2) by decide +kernel)) (
  mz_cons (mz_iushr (show decode cJ6_bitCount_0f7a4 38 = .ok (.iushr, 1) by decide +kernel)) (
  mz_cons (mz_iadd (show decode cJ6_bitCount_0f7a4 39 = .ok (.iadd, 1) by decide +kernel)) (
  mz_cons (mz_istore_n (k := 0) (by decide) (show decode cJ6_bitCount_0f7a4 40 = .ok (.istore_n 0, 1) by decide +kernel)) (
  mz_nil))))))))))))))))
noncomputable def ck_J6_bitCount_0f7a4_2 : List (Nat × mz_O) := [(41, .inl (mz_ld mz_isI 0 42)), (42, .inl (mz_ld mz_isI 0 43)), (43, .inl (mz_push (.inl 16) 45)), (45, .inl (mz_o2 mz_f_iushr 46)), (46, .inl (mz_o2 mz_f_iadd 47)), (47, .inl (mz_sto mz_isI mz_p1 0 48)), (48, .inl (mz_ld mz_isI 0 49)), (49, .inl (mz_push (.inl 63) 51)), (51, .inl (mz_o2 mz_f_iand 52)), (52, .inr (mz_rt mz_isI))]
theorem tk_J6_bitCount_0f7a4_2 (E : List mz_V) : mz_all E tM_J6_bitCount_0f7a4 (ck_J6_bitCount_0f7a4_2) :=
  mz_cons (mz_iload_n (k := 0) (show decode cJ6_bitCount_0f7a4 41 = .ok (.iload_n 0, 1) by decide +kernel)) (
  mz_cons (mz_iload_n (k := 0) (show decode cJ6_bitCount_0f7a4 42 = .ok (.iload_n 0, 1) by decide +kernel)) (
  mz_cons (mz_bipush 16 (by decide) (show decode cJ6_bitCount_0f7a4 43 = .ok (.bipush 16, 2) by decide +kernel)) (
  mz_cons (mz_iushr (show decode cJ6_bitCount_0f7a4 45 = .ok (.iushr, 1) by decide +kernel)) (
  mz_cons (mz_iadd (show decode cJ6_bitCount_0f7a4 46 = .ok (.iadd, 1) by decide +kernel)) (
  mz_cons (mz_istore_n (k := 0) (by decide) (show decode cJ6_bitCount_0f7a4 47 = .ok (.istore_n 0, 1) by decide +kernel)) (
  mz_cons (mz_iload_n (k := 0) (show decode cJ6_bitCount_0f7a4 48 = .ok (.iload_n 0, 1) by decide +kernel)) (
  mz_cons (mz_bipush 63 (by decide) (show decode cJ6_bitCount_0f7a4 49 = .ok (.bipush 63, 2) by decide +kernel)) (
  mz_cons (mz_iand (show decode cJ6_bitCount_0f7a4 51 = .ok (.iand, 1) by decide +kernel)) (
  mz_consR (mz_ireturn rfl (show decode cJ6_bitCount_0f7a4 52 = .ok (.ireturn, 1) by decide +kernel)) (
  mz_nil))))))))))
noncomputable def tb_J6_bitCount_0f7a4 : List (Nat × List (Nat × mz_O)) := [(21, ck_J6_bitCount_0f7a4_0), (40, ck_J6_bitCount_0f7a4_1), (52, ck_J6_bitCount_0f7a4_2)]
theorem tok_J6_bitCount_0f7a4 (E : List mz_V) : mz_tok E tM_J6_bitCount_0f7a4 (tb_J6_bitCount_0f7a4) := mz_tcons (tk_J6_bitCount_0f7a4_0 E) (mz_tcons (tk_J6_bitCount_0f7a4_1 E) (mz_tcons (tk_J6_bitCount_0f7a4_2 E) (mz_tnil)))
noncomputable def rn_J6_bitCount_0f7a4 : List mz_V → List mz_C → Option (Option mz_V × List mz_C) := mz_rn tb_J6_bitCount_0f7a4 52 1
theorem ctr_J6_bitCount_0f7a4 (E : List mz_V) : mz_ctr E yJ6_bitCount_0f7a4 tM_J6_bitCount_0f7a4 rn_J6_bitCount_0f7a4 := mz_ctr_of 52 (tok_J6_bitCount_0f7a4 E) (by decide) rfl rfl
abbrev tM_J6_numberOfTrailingZeros_0f7a4 : mz_M := (cJ6_numberOfTrailingZeros_0f7a4, 2, (some .int), RJ6, "numberOfTrailingZeros", 1, 22)
noncomputable def ck_J6_numberOfTrailingZeros_0f7a4_0 : List (Nat × mz_O) := [(0, .inl (mz_ld mz_isI 0 1)), (1, .inl (mz_push (.inl (-1)) 2)), (2, .inl (mz_o2 mz_f_ixor 3)), (3, .inl (mz_ld mz_isI 0 4)), (4, .inl (mz_push (.inl 1) 5)), (5, .inl (mz_o2 mz_f_isub 6)), (6, .inl (mz_o2 mz_f_iand 7)), (7, .inl (mz_sto mz_isI mz_p1 0 8)), (8, .inl (mz_ld mz_isI 0 9)), (9, .inl (mz_j1 mz_gt0 17 12)), (12, .inl (mz_ld mz_isI 0 13)), (13, .inl (mz_push (.inl 32) 15)), (15, .inl (mz_o2 mz_f_iand 16)), (16, .inr (mz_rt mz_isI))]
theorem tk_J6_numberOfTrailingZeros_0f7a4_0 (E : List mz_V) : mz_all E tM_J6_numberOfTrailingZeros_0f7a4 (ck_J6_numberOfTrailingZeros_0f7a4_0) :=
  mz_cons (mz_iload_n (k := 0) (show decode cJ6_numberOfTrailingZeros_0f7a4 0 = .ok (.iload_n 0, 1) by decide +kernel)) (
  mz_cons (mz_iconst (-1) (by decide) (show decode cJ6_numberOfTrailingZeros_0f7a4 1 = .ok (.iconst (-1), 1) by decide +kernel)) (
  mz_cons (mz_ixor (show decode cJ6_numberOfTrailingZeros_0f7a4 2 = .ok (.ixor, 1) by decide +kernel)) (
  mz_cons (mz_iload_n (k := 0) (show decode cJ6_numberOfTrailingZeros_0f7a4 3 = .ok (.iload_n 0, 1) by decide +kernel)) (
  mz_cons (mz_iconst 1 (by decide) (show decode cJ6_numberOfTrailingZeros_0f7a4 4 = .ok (.iconst 1, 1) by decide +kernel)) (
  mz_cons (mz_isub (show decode cJ6_numberOfTrailingZeros_0f7a4 5 = .ok (.isub, 1) by decide +kernel)) (
  mz_cons (mz_iand (show decode cJ6_numberOfTrailingZeros_0f7a4 6 = .ok (.iand, 1) by decide +kernel)) (
  mz_cons (mz_istore_n (k := 0) (by decide) (show decode cJ6_numberOfTrailingZeros_0f7a4 7 = .ok (.istore_n 0, 1) by decide +kernel)) (
  mz_cons (mz_iload_n (k := 0) (show decode cJ6_numberOfTrailingZeros_0f7a4 8 = .ok (.iload_n 0, 1) by decide +kernel)) (
  mz_cons (mz_if_gt 17 (by decide) (show decode cJ6_numberOfTrailingZeros_0f7a4 9 = .ok (.ifCond .gt 8, 3) by decide +kernel)) (
  mz_cons (mz_iload_n (k := 0) (show decode cJ6_numberOfTrailingZeros_0f7a4 12 = .ok (.iload_n 0, 1) by decide +kernel)) (
  mz_cons (mz_bipush 32 (by decide) (show decode cJ6_numberOfTrailingZeros_0f7a4 13 = .ok (.bipush 32, 2) by decide +kernel)) (
  mz_cons (mz_iand (show decode cJ6_numberOfTrailingZeros_0f7a4 15 = .ok (.iand, 1) by decide +kernel)) (
  mz_consR (mz_ireturn rfl (show decode cJ6_numberOfTrailingZeros_0f7a4 16 = .ok (.ireturn, 1) by decide +kernel)) (
  mz_nil))))))))))))))
noncomputable def tb_J6_numberOfTrailingZeros_0f7a4 : List (Nat × List (Nat × mz_O)) := [(16, ck_J6_numberOfTrailingZeros_0f7a4_0)]
theorem tok_J6_numberOfTrailingZeros_0f7a4 (E : List mz_V) : mz_tok E tM_J6_numberOfTrailingZeros_0f7a4 (tb_J6_numberOfTrailingZeros_0f7a4) := mz_tcons (tk_J6_numberOfTrailingZeros_0f7a4_0 E) (mz_tnil)
noncomputable def rn_J6_numberOfTrailingZeros_0f7a4 : List mz_V → List mz_C → Option (Option mz_V × List mz_C) := mz_rn tb_J6_numberOfTrailingZeros_0f7a4 24 2
theorem ctr_J6_numberOfTrailingZeros_0f7a4 (E : List mz_V) : mz_ctr E yJ6_numberOfTrailingZeros_0f7a4 tM_J6_numberOfTrailingZeros_0f7a4 rn_J6_numberOfTrailingZeros_0f7a4 := mz_ctr_of 24 (tok_J6_numberOfTrailingZeros_0f7a4 E) (by decide) rfl rfl
abbrev tM_X11_has : mz_M := (cX11_has, 2, (some .boolean), RX11, "has", 1, 22)
noncomputable def ck_X11_has_0 : List (Nat × mz_O) := [(0, .inl (mz_ld mz_isI 0 1)), (1, .inl (mz_ld mz_isI 1 2)), (2, .inl (mz_o2 mz_f_ishr 3)), (3, .inl (mz_push (.inl 1) 4)), (4, .inl (mz_o2 mz_f_iand 5)), (5, .inl (mz_j1 mz_eq0 12 8)), (8, .inl (mz_push (.inl 1) 9)), (9, .inl (mz_go 13)), (12, .inl (mz_push (.inl 0) 13)), (13, .inr (mz_rt mz_is01))]
theorem tk_X11_has_0 (E : List mz_V) : mz_all E tM_X11_has (ck_X11_has_0) :=
  mz_cons (mz_iload_n (k := 0) (show decode cX11_has 0 = .ok (.iload_n 0, 1) by decide +kernel)) (
  mz_cons (mz_iload_n (k := 1) (show decode cX11_has 1 = .ok (.iload_n 1, 1) by decide +kernel)) (
  mz_cons (mz_ishr (show decode cX11_has 2 = .ok (.ishr, 1) by decide +kernel)) (
  mz_cons (mz_iconst 1 (by decide) (show decode cX11_has 3 = .ok (.iconst 1, 1) by decide +kernel)) (
  mz_cons (mz_iand (show decode cX11_has 4 = .ok (.iand, 1) by decide +kernel)) (
  mz_cons (mz_if_eq 12 (by decide) (show decode cX11_has 5 = .ok (.ifCond .eq 7, 3) by decide +kernel)) (
  mz_cons (mz_iconst 1 (by decide) (show decode cX11_has 8 = .ok (.iconst 1, 1) by decide +kernel)) (
  mz_cons (mz_goto 13 (by decide) (show decode cX11_has 9 = .ok (.goto 4, 3) by decide +kernel)) (
  mz_cons (mz_iconst 0 (by decide) (show decode cX11_has 12 = .ok (.iconst 0, 1) by decide +kernel)) (
  mz_consR (mz_zreturn rfl (show decode cX11_has 13 = .ok (.ireturn, 1) by decide +kernel)) (
  mz_nil))))))))))
noncomputable def tb_X11_has : List (Nat × List (Nat × mz_O)) := [(13, ck_X11_has_0)]
theorem tok_X11_has (E : List mz_V) : mz_tok E tM_X11_has (tb_X11_has) := mz_tcons (tk_X11_has_0 E) (mz_tnil)
noncomputable def rn_X11_has : List mz_V → List mz_C → Option (Option mz_V × List mz_C) := mz_rn tb_X11_has 19 2
theorem ctr_X11_has (E : List mz_V) : mz_ctr E yX11_has tM_X11_has rn_X11_has := mz_ctr_of 19 (tok_X11_has E) (by decide) rfl rfl
abbrev tM_X6_at : mz_M := (cX6_at, 2, (some .int), RX6, "at", 1, 22)
noncomputable def ck_X6_at_0 : List (Nat × mz_O) := [(0, .inl (mz_ld mz_isI 1 1)), (1, .inl (mz_j1 mz_lt0 21 4)), (4, .inl (mz_ld mz_isI 1 5)), (5, .inl (mz_ld mz_isR 0 6)), (6, .inl (mz_gf 6 4 9)), (9, .inl (mz_j2 mz_lt 12 21)), (12, .inl (mz_ld mz_isR 0 13)), (13, .inl (mz_gf 6 1 16)), (16, .inl (mz_ld mz_isI 1 17)), (17, .inl (mz_al false 18)), (18, .inl (mz_go 22)), (22, .inr (mz_rt mz_isI))]
theorem tk_X6_at_0 (E : List mz_V) : mz_all E tM_X6_at (ck_X6_at_0) :=
  mz_cons (mz_iload_n (k := 1) (show decode cX6_at 0 = .ok (.iload_n 1, 1) by decide +kernel)) (
  mz_cons (mz_if_lt 21 (by decide) (show decode cX6_at 1 = .ok (.ifCond .lt 20, 3) by decide +kernel)) (
  mz_cons (mz_iload_n (k := 1) (show decode cX6_at 4 = .ok (.iload_n 1, 1) by decide +kernel)) (
  mz_cons (mz_aload_n (k := 0) (show decode cX6_at 5 = .ok (.aload_n 0, 1) by decide +kernel)) (
  mz_cons (mz_getfield (C := RX6) (T := TX6) (N := 7) rfl mz_inX6 (by decide) mw_145 (show decode cX6_at 6 = .ok (.getfield 35, 3) by decide +kernel)) (
  mz_cons (mz_icmp_ge 21 (by decide) (show decode cX6_at 9 = .ok (.if_icmp .ge 12, 3) by decide +kernel)) (
  mz_cons (mz_aload_n (k := 0) (show decode cX6_at 12 = .ok (.aload_n 0, 1) by decide +kernel)) (
  mz_cons (mz_getfield (C := RX6) (T := TX6) (N := 7) rfl mz_inX6 (by decide) mw_142 (show decode cX6_at 13 = .ok (.getfield 15, 3) by decide +kernel)) (
  mz_cons (mz_iload_n (k := 1) (show decode cX6_at 16 = .ok (.iload_n 1, 1) by decide +kernel)) (
  mz_cons (mz_iaload (show decode cX6_at 17 = .ok (.iaload, 1) by decide +kernel)) (
  mz_cons (mz_goto 22 (by decide) (show decode cX6_at 18 = .ok (.goto 4, 3) by decide +kernel)) (
  mz_consR (mz_ireturn rfl (show decode cX6_at 22 = .ok (.ireturn, 1) by decide +kernel)) (
  mz_nil))))))))))))
noncomputable def tb_X6_at : List (Nat × List (Nat × mz_O)) := [(22, ck_X6_at_0)]
theorem tok_X6_at (E : List mz_V) : mz_tok E tM_X6_at (tb_X6_at) := mz_tcons (tk_X6_at_0 E) (mz_tnil)
noncomputable def rn_X6_at : List mz_V → List mz_C → Option (Option mz_V × List mz_C) := mz_rn tb_X6_at 22 2
theorem ctr_X6_at (E : List mz_V) : mz_ctr E yX6_at tM_X6_at rn_X6_at := mz_ctr_of 22 (tok_X6_at E) (by decide) rfl rfl
abbrev tM_X6_howMany : mz_M := (cX6_howMany, 1, (some .int), RX6, "howMany", 1, 22)
noncomputable def ck_X6_howMany_0 : List (Nat × mz_O) := [(0, .inl (mz_ld mz_isR 0 1)), (1, .inl (mz_gf 6 4 4)), (4, .inr (mz_rt mz_isI))]
theorem tk_X6_howMany_0 (E : List mz_V) : mz_all E tM_X6_howMany (ck_X6_howMany_0) :=
  mz_cons (mz_aload_n (k := 0) (show decode cX6_howMany 0 = .ok (.aload_n 0, 1) by decide +kernel)) (
  mz_cons (mz_getfield (C := RX6) (T := TX6) (N := 7) rfl mz_inX6 (by decide) mw_145 (show decode cX6_howMany 1 = .ok (.getfield 35, 3) by decide +kernel)) (
  mz_consR (mz_ireturn rfl (show decode cX6_howMany 4 = .ok (.ireturn, 1) by decide +kernel)) (
  mz_nil)))
noncomputable def tb_X6_howMany : List (Nat × List (Nat × mz_O)) := [(4, ck_X6_howMany_0)]
theorem tok_X6_howMany (E : List mz_V) : mz_tok E tM_X6_howMany (tb_X6_howMany) := mz_tcons (tk_X6_howMany_0 E) (mz_tnil)
noncomputable def rn_X6_howMany : List mz_V → List mz_C → Option (Option mz_V × List mz_C) := mz_rn tb_X6_howMany 13 1
theorem ctr_X6_howMany (E : List mz_V) : mz_ctr E yX6_howMany tM_X6_howMany rn_X6_howMany := mz_ctr_of 13 (tok_X6_howMany E) (by decide) rfl rfl
abbrev tM_X6_thick : mz_M := (cX6_thick, 2, (some .int), RX6, "thick", 1, 22)
noncomputable def ck_X6_thick_0 : List (Nat × mz_O) := [(0, .inl (mz_ld mz_isI 1 1)), (1, .inl (mz_j1 mz_lt0 21 4)), (4, .inl (mz_ld mz_isI 1 5)), (5, .inl (mz_ld mz_isR 0 6)), (6, .inl (mz_gf 6 4 9)), (9, .inl (mz_j2 mz_lt 12 21)), (12, .inl (mz_ld mz_isR 0 13)), (13, .inl (mz_gf 6 3 16)), (16, .inl (mz_ld mz_isI 1 17)), (17, .inl (mz_al false 18)), (18, .inl (mz_go 22)), (22, .inr (mz_rt mz_isI))]
theorem tk_X6_thick_0 (E : List mz_V) : mz_all E tM_X6_thick (ck_X6_thick_0) :=
  mz_cons (mz_iload_n (k := 1) (show decode cX6_thick 0 = .ok (.iload_n 1, 1) by decide +kernel)) (
  mz_cons (mz_if_lt 21 (by decide) (show decode cX6_thick 1 = .ok (.ifCond .lt 20, 3) by decide +kernel)) (
  mz_cons (mz_iload_n (k := 1) (show decode cX6_thick 4 = .ok (.iload_n 1, 1) by decide +kernel)) (
  mz_cons (mz_aload_n (k := 0) (show decode cX6_thick 5 = .ok (.aload_n 0, 1) by decide +kernel)) (
  mz_cons (mz_getfield (C := RX6) (T := TX6) (N := 7) rfl mz_inX6 (by decide) mw_145 (show decode cX6_thick 6 = .ok (.getfield 35, 3) by decide +kernel)) (
  mz_cons (mz_icmp_ge 21 (by decide) (show decode cX6_thick 9 = .ok (.if_icmp .ge 12, 3) by decide +kernel)) (
  mz_cons (mz_aload_n (k := 0) (show decode cX6_thick 12 = .ok (.aload_n 0, 1) by decide +kernel)) (
  mz_cons (mz_getfield (C := RX6) (T := TX6) (N := 7) rfl mz_inX6 (by decide) mw_144 (show decode cX6_thick 13 = .ok (.getfield 21, 3) by decide +kernel)) (
  mz_cons (mz_iload_n (k := 1) (show decode cX6_thick 16 = .ok (.iload_n 1, 1) by decide +kernel)) (
  mz_cons (mz_iaload (show decode cX6_thick 17 = .ok (.iaload, 1) by decide +kernel)) (
  mz_cons (mz_goto 22 (by decide) (show decode cX6_thick 18 = .ok (.goto 4, 3) by decide +kernel)) (
  mz_consR (mz_ireturn rfl (show decode cX6_thick 22 = .ok (.ireturn, 1) by decide +kernel)) (
  mz_nil))))))))))))
noncomputable def tb_X6_thick : List (Nat × List (Nat × mz_O)) := [(22, ck_X6_thick_0)]
theorem tok_X6_thick (E : List mz_V) : mz_tok E tM_X6_thick (tb_X6_thick) := mz_tcons (tk_X6_thick_0 E) (mz_tnil)
noncomputable def rn_X6_thick : List mz_V → List mz_C → Option (Option mz_V × List mz_C) := mz_rn tb_X6_thick 22 2
theorem ctr_X6_thick (E : List mz_V) : mz_ctr E yX6_thick tM_X6_thick rn_X6_thick := mz_ctr_of 22 (tok_X6_thick E) (by decide) rfl rfl
abbrev tM_X0_catchOnce : mz_M := (cX0_catchOnce, 6, (some .int), RX0, "catchOnce", 2, 43)
noncomputable def ck_X0_catchOnce_0 : List (Nat × mz_O) := [(0, .inl (mz_ld mz_isI 1 1)), (1, .inl (mz_sto mz_isI mz_p1 4 3)), (3, .inl (mz_push (.inl 0) 4)), (4, .inl (mz_sto mz_isI mz_p1 5 6)), (6, .inl (mz_ld mz_isI 5 8)), (8, .inl (mz_ld mz_isR 0 9)), (9, .inl (mz_gf 0 0 12)), (12, .inl (mz_call rn_X6_howMany 1 (mz_ckV 6) 15)), (15, .inl (mz_j2 mz_lt 18 78)), (18, .inl (mz_ld mz_isI 1 19)), (19, .inl (mz_ld mz_isI 2 20)), (20, .inl (mz_o2 mz_f_ior 21)), (21, .inl (mz_ld mz_isI 5 23)), (23, .inl (mz_call rn_X11_has 2 mz_ckT 26)), (26, .inl (mz_j1 mz_eq0 29 72)), (29, .inl (mz_ld mz_isR 0 30))]
theorem tk_X0_catchOnce_0 (E : List mz_V) : mz_all E tM_X0_catchOnce (ck_X0_catchOnce_0) :=
  mz_cons (mz_iload_n (k := 1) (show decode cX0_catchOnce 0 = .ok (.iload_n 1, 1) by decide +kernel)) (
  mz_cons (mz_istore (by decide) (show decode cX0_catchOnce 1 = .ok (.istore 4, 2) by decide +kernel)) (
  mz_cons (mz_iconst 0 (by decide) (show decode cX0_catchOnce 3 = .ok (.iconst 0, 1) by decide +kernel)) (
  mz_cons (mz_istore (by decide) (show decode cX0_catchOnce 4 = .ok (.istore 5, 2) by decide +kernel)) (
  mz_cons (mz_iload (show decode cX0_catchOnce 6 = .ok (.iload 5, 2) by decide +kernel)) (
  mz_cons (mz_aload_n (k := 0) (show decode cX0_catchOnce 8 = .ok (.aload_n 0, 1) by decide +kernel)) (
  mz_cons (mz_getfield (C := RX0) (T := TX0) (N := 3) rfl mz_inX0 (by decide) mw_266 (show decode cX0_catchOnce 9 = .ok (.getfield 15, 3) by decide +kernel)) (
  mz_cons (mz_invV (n := 0) (ctr_X6_howMany E) rfl ⟨by decide, by decide, by decide +kernel⟩ ⟨by decide, by decide⟩ mw_386 mw_751 mw_384 mw_385 mw_65 (show decode cX0_catchOnce 12 = .ok (.invokevirtual 70, 3) by decide +kernel)) (
  mz_cons (mz_icmp_ge 78 (by decide) (show decode cX0_catchOnce 15 = .ok (.if_icmp .ge 63, 3) by decide +kernel)) (
  mz_cons (mz_iload_n (k := 1) (show decode cX0_catchOnce 18 = .ok (.iload_n 1, 1) by decide +kernel)) (
  mz_cons (mz_iload_n (k := 2) (show decode cX0_catchOnce 19 = .ok (.iload_n 2, 1) by decide +kernel)) (
  mz_cons (mz_ior (show decode cX0_catchOnce 20 = .ok (.ior, 1) by decide +kernel)) (
  mz_cons (mz_iload (show decode cX0_catchOnce 21 = .ok (.iload 5, 2) by decide +kernel)) (
  mz_cons (mz_invSN (n := 2) (host := "WettedNet") (ctr_X11_has E) ⟨by decide, by decide, by decide +kernel⟩ ⟨by decide, by decide⟩ mw_604 (by decide +kernel) mw_603 mw_61 (show decode cX0_catchOnce 23 = .ok (.invokestatic 23, 3) by decide +kernel)) (
  mz_cons (mz_if_ne 72 (by decide) (show decode cX0_catchOnce 26 = .ok (.ifCond .ne 46, 3) by decide +kernel)) (
  mz_cons (mz_aload_n (k := 0) (show decode cX0_catchOnce 29 = .ok (.aload_n 0, 1) by decide +kernel)) (
  mz_nil))))))))))))))))
noncomputable def ck_X0_catchOnce_1 : List (Nat × mz_O) := [(30, .inl (mz_gf 0 0 33)), (33, .inl (mz_ld mz_isI 5 35)), (35, .inl (mz_call rn_X6_at 2 (mz_ckV 6) 38)), (38, .inl (mz_ld mz_isI 1 39)), (39, .inl (mz_o2 mz_f_iand 40)), (40, .inl (mz_call rn_J6_bitCount_0f7a4 1 mz_ckT 43)), (43, .inl (mz_ld mz_isR 0 44)), (44, .inl (mz_gf 0 0 47)), (47, .inl (mz_ld mz_isI 5 49)), (49, .inl (mz_call rn_X6_thick 2 (mz_ckV 6) 52)), (52, .inl (mz_j2 mz_lt 72 55)), (72, .inl (mz_inc 5 1 75)), (75, .inl (mz_go 6)), (78, .inl (mz_ld mz_isI 4 80)), (80, .inr (mz_rt mz_isI))]
theorem tk_X0_catchOnce_1 (E : List mz_V) : mz_all E tM_X0_catchOnce (ck_X0_catchOnce_1) :=
  mz_cons (mz_getfield (C := RX0) (T := TX0) (N := 3) rfl mz_inX0 (by decide) mw_266 (show decode cX0_catchOnce 30 = .ok (.getfield 15, 3) by decide +kernel)) (
  mz_cons (mz_iload (show decode cX0_catchOnce 33 = .ok (.iload 5, 2) by decide +kernel)) (
  mz_cons (mz_invV (n := 1) (ctr_X6_at E) rfl ⟨by decide, by decide, by decide +kernel⟩ ⟨by decide, by decide⟩ mw_547 mw_752 mw_545 mw_546 mw_65 (show decode cX0_catchOnce 35 = .ok (.invokevirtual 73, 3) by decide +kernel)) (
  mz_cons (mz_iload_n (k := 1) (show decode cX0_catchOnce 38 = .ok (.iload_n 1, 1) by decide +kernel)) (
  mz_cons (mz_iand (show decode cX0_catchOnce 39 = .ok (.iand, 1) by decide +kernel)) (
  mz_cons (mz_invS (n := 1) (ctr_J6_bitCount_0f7a4 E) ⟨by decide, by decide, by decide +kernel⟩ ⟨by decide, by decide⟩ mw_109 mw_753 mw_108 mw_64 (show decode cX0_catchOnce 40 = .ok (.invokestatic 53, 3) by decide +kernel)) (
  mz_cons (mz_aload_n (k := 0) (show decode cX0_catchOnce 43 = .ok (.aload_n 0, 1) by decide +kernel)) (
  mz_cons (mz_getfield (C := RX0) (T := TX0) (N := 3) rfl mz_inX0 (by decide) mw_266 (show decode cX0_catchOnce 44 = .ok (.getfield 15, 3) by decide +kernel)) (
  mz_cons (mz_iload (show decode cX0_catchOnce 47 = .ok (.iload 5, 2) by decide +kernel)) (
  mz_cons (mz_invV (n := 1) (ctr_X6_thick E) rfl ⟨by decide, by decide, by decide +kernel⟩ ⟨by decide, by decide⟩ mw_555 mw_754 mw_553 mw_554 mw_65 (show decode cX0_catchOnce 49 = .ok (.invokevirtual 76, 3) by decide +kernel)) (
  mz_cons (mz_icmp_lt 72 (by decide) (show decode cX0_catchOnce 52 = .ok (.if_icmp .lt 20, 3) by decide +kernel)) (
  mz_cons (mz_iinc 1 (by decide) (by decide) (show decode cX0_catchOnce 72 = .ok (.iinc 5 1, 3) by decide +kernel)) (
  mz_cons (mz_goto 6 (by decide) (show decode cX0_catchOnce 75 = .ok (.goto (-69), 3) by decide +kernel)) (
  mz_cons (mz_iload (show decode cX0_catchOnce 78 = .ok (.iload 4, 2) by decide +kernel)) (
  mz_consR (mz_ireturn rfl (show decode cX0_catchOnce 80 = .ok (.ireturn, 1) by decide +kernel)) (
  mz_nil)))))))))))))))
noncomputable def tb_X0_catchOnce : List (Nat × List (Nat × mz_O)) := [(29, ck_X0_catchOnce_0), (80, ck_X0_catchOnce_1)]
theorem tok_X0_catchOnce (E : List mz_V) : mz_tok E tM_X0_catchOnce (tb_X0_catchOnce) := mz_tcons (tk_X0_catchOnce_0 E) (mz_tcons (tk_X0_catchOnce_1 E) (mz_tnil))
noncomputable def rn_X0_catchOnce : List mz_V → List mz_C → Option (Option mz_V × List mz_C) := mz_rn tb_X0_catchOnce 46 6
theorem ctr_X0_catchOnce (E : List mz_V) : mz_ctr E yX0_catchOnce tM_X0_catchOnce rn_X0_catchOnce := mz_ctr_of 46 (tok_X0_catchOnce E) (by decide) rfl rfl
abbrev tM_X0_burnFrom : mz_M := (cX0_burnFrom, 7, (some .int), RX0, "burnFrom", 3, 68)
noncomputable def ck_X0_burnFrom_0 : List (Nat × mz_O) := [(0, .inl (mz_push (.inl 0) 1)), (1, .inl (mz_sto mz_isI mz_p1 4 3)), (3, .inl (mz_ld mz_isI 4 5)), (5, .inl (mz_push (.inl 9) 7)), (7, .inl (mz_j2 mz_lt 10 37)), (10, .inl (mz_ld mz_isR 0 11)), (11, .inl (mz_gf 0 2 14)), (14, .inl (mz_ld mz_isI 4 16)), (16, .inl (mz_ld mz_isI 1 17)), (17, .inl (mz_ld mz_isI 4 19)), (19, .inl (mz_call rn_X11_has 2 mz_ckT 22)), (22, .inl (mz_j1 mz_eq0 29 25)), (25, .inl (mz_push (.inl 0) 26)), (26, .inl (mz_go 30)), (29, .inl (mz_push (.inl (-1)) 30)), (30, .inl (mz_ast false mz_isI 31))]
theorem tk_X0_burnFrom_0 (E : List mz_V) : mz_all E tM_X0_burnFrom (ck_X0_burnFrom_0) :=
  mz_cons (mz_iconst 0 (by decide) (show decode cX0_burnFrom 0 = .ok (.iconst 0, 1) by decide +kernel)) (
  mz_cons (mz_istore (by decide) (show decode cX0_burnFrom 1 = .ok (.istore 4, 2) by decide +kernel)) (
  mz_cons (mz_iload (show decode cX0_burnFrom 3 = .ok (.iload 4, 2) by decide +kernel)) (
  mz_cons (mz_bipush 9 (by decide) (show decode cX0_burnFrom 5 = .ok (.bipush 9, 2) by decide +kernel)) (
  mz_cons (mz_icmp_ge 37 (by decide) (show decode cX0_burnFrom 7 = .ok (.if_icmp .ge 30, 3) by decide +kernel)) (
  mz_cons (mz_aload_n (k := 0) (show decode cX0_burnFrom 10 = .ok (.aload_n 0, 1) by decide +kernel)) (
  mz_cons (mz_getfield (C := RX0) (T := TX0) (N := 3) rfl mz_inX0 (by decide) mw_268 (show decode cX0_burnFrom 11 = .ok (.getfield 9, 3) by decide +kernel)) (
  mz_cons (mz_iload (show decode cX0_burnFrom 14 = .ok (.iload 4, 2) by decide +kernel)) (
  mz_cons (mz_iload_n (k := 1) (show decode cX0_burnFrom 16 = .ok (.iload_n 1, 1) by decide +kernel)) (
  mz_cons (mz_iload (show decode cX0_burnFrom 17 = .ok (.iload 4, 2) by decide +kernel)) (
  mz_cons (mz_invSN (n := 2) (host := "WettedNet") (ctr_X11_has E) ⟨by decide, by decide, by decide +kernel⟩ ⟨by decide, by decide⟩ mw_604 (by decide +kernel) mw_603 mw_61 (show decode cX0_burnFrom 19 = .ok (.invokestatic 23, 3) by decide +kernel)) (
  mz_cons (mz_if_eq 29 (by decide) (show decode cX0_burnFrom 22 = .ok (.ifCond .eq 7, 3) by decide +kernel)) (
  mz_cons (mz_iconst 0 (by decide) (show decode cX0_burnFrom 25 = .ok (.iconst 0, 1) by decide +kernel)) (
  mz_cons (mz_goto 30 (by decide) (show decode cX0_burnFrom 26 = .ok (.goto 4, 3) by decide +kernel)) (
  mz_cons (mz_iconst (-1) (by decide) (show decode cX0_burnFrom 29 = .ok (.iconst (-1), 1) by decide +kernel)) (
  mz_cons (mz_iastore (show decode cX0_burnFrom 30 = .ok (.iastore, 1) by decide +kernel)) (
  mz_nil))))))))))))))))
noncomputable def ck_X0_burnFrom_1 : List (Nat × mz_O) := [(31, .inl (mz_inc 4 1 34)), (34, .inl (mz_go 3)), (37, .inl (mz_ld mz_isI 1 38)), (38, .inl (mz_sto mz_isI mz_p1 4 40)), (40, .inl (mz_push (.inl 1) 41)), (41, .inl (mz_sto mz_isI mz_p1 5 43)), (43, .inl (mz_ld mz_isI 5 45)), (45, .inl (mz_ld mz_isI 3 46)), (46, .inl (mz_j2 mz_gt 80 49)), (49, .inl (mz_ld mz_isR 0 50)), (50, .inl (mz_ld mz_isI 4 52)), (52, .inl (mz_ld mz_isI 2 53)), (53, .inl (mz_ld mz_isI 5 55)), (55, .inl (mz_call rn_X0_catchOnce 4 (mz_ckV 0) 58)), (58, .inl (mz_sto mz_isI mz_p1 6 60)), (60, .inl (mz_ld mz_isI 6 62))]
theorem tk_X0_burnFrom_1 (E : List mz_V) : mz_all E tM_X0_burnFrom (ck_X0_burnFrom_1) :=
  mz_cons (mz_iinc 1 (by decide) (by decide) (show decode cX0_burnFrom 31 = .ok (.iinc 4 1, 3) by decide +kernel)) (
  mz_cons (mz_goto 3 (by decide) (show decode cX0_burnFrom 34 = .ok (.goto (-31), 3) by decide +kernel)) (
  mz_cons (mz_iload_n (k := 1) (show decode cX0_burnFrom 37 = .ok (.iload_n 1, 1) by decide +kernel)) (
  mz_cons (mz_istore (by decide) (show decode cX0_burnFrom 38 = .ok (.istore 4, 2) by decide +kernel)) (
  mz_cons (mz_iconst 1 (by decide) (show decode cX0_burnFrom 40 = .ok (.iconst 1, 1) by decide +kernel)) (
  mz_cons (mz_istore (by decide) (show decode cX0_burnFrom 41 = .ok (.istore 5, 2) by decide +kernel)) (
  mz_cons (mz_iload (show decode cX0_burnFrom 43 = .ok (.iload 5, 2) by decide +kernel)) (
  mz_cons (mz_iload_n (k := 3) (show decode cX0_burnFrom 45 = .ok (.iload_n 3, 1) by decide +kernel)) (
  mz_cons (mz_icmp_gt 80 (by decide) (show decode cX0_burnFrom 46 = .ok (.if_icmp .gt 34, 3) by decide +kernel)) (
  mz_cons (mz_aload_n (k := 0) (show decode cX0_burnFrom 49 = .ok (.aload_n 0, 1) by decide +kernel)) (
  mz_cons (mz_iload (show decode cX0_burnFrom 50 = .ok (.iload 4, 2) by decide +kernel)) (
  mz_cons (mz_iload_n (k := 2) (show decode cX0_burnFrom 52 = .ok (.iload_n 2, 1) by decide +kernel)) (
  mz_cons (mz_iload (show decode cX0_burnFrom 53 = .ok (.iload 5, 2) by decide +kernel)) (
  mz_cons (mz_invV (n := 3) (ctr_X0_catchOnce E) rfl ⟨by decide, by decide, by decide +kernel⟩ ⟨by decide, by decide⟩ mw_750 mw_747 mw_749 mw_20 mw_70 (show decode cX0_burnFrom 55 = .ok (.invokevirtual 27, 3) by decide +kernel)) (
  mz_cons (mz_istore (by decide) (show decode cX0_burnFrom 58 = .ok (.istore 6, 2) by decide +kernel)) (
  mz_cons (mz_iload (show decode cX0_burnFrom 60 = .ok (.iload 6, 2) by decide +kernel)) (
  mz_nil))))))))))))))))
noncomputable def ck_X0_burnFrom_2 : List (Nat × mz_O) := [(62, .inl (mz_ld mz_isI 4 64)), (64, .inl (mz_j2 mz_eq 67 70)), (67, .inl (mz_ld mz_isI 4 69)), (69, .inr (mz_rt mz_isI))]
theorem tk_X0_burnFrom_2 (E : List mz_V) : mz_all E tM_X0_burnFrom (ck_X0_burnFrom_2) :=
  mz_cons (mz_iload (show decode cX0_burnFrom 62 = .ok (.iload 4, 2) by decide +kernel)) (
  mz_cons (mz_icmp_ne 70 (by decide) (show decode cX0_burnFrom 64 = .ok (.if_icmp .ne 6, 3) by decide +kernel)) (
  mz_cons (mz_iload (show decode cX0_burnFrom 67 = .ok (.iload 4, 2) by decide +kernel)) (
  mz_consR (mz_ireturn rfl (show decode cX0_burnFrom 69 = .ok (.ireturn, 1) by decide +kernel)) (
  mz_nil))))
noncomputable def tb_X0_burnFrom : List (Nat × List (Nat × mz_O)) := [(30, ck_X0_burnFrom_0), (60, ck_X0_burnFrom_1), (69, ck_X0_burnFrom_2)]
theorem tok_X0_burnFrom (E : List mz_V) : mz_tok E tM_X0_burnFrom (tb_X0_burnFrom) := mz_tcons (tk_X0_burnFrom_0 E) (mz_tcons (tk_X0_burnFrom_1 E) (mz_tcons (tk_X0_burnFrom_2 E) (mz_tnil)))
noncomputable def rn_X0_burnFrom : List mz_V → List mz_C → Option (Option mz_V × List mz_C) := mz_rn tb_X0_burnFrom 160 7
theorem ctr_X0_burnFrom (E : List mz_V) : mz_ctr E yX0_burnFrom tM_X0_burnFrom rn_X0_burnFrom := mz_ctr_of 160 (tok_X0_burnFrom E) (by decide) rfl rfl
abbrev tM_X6_all : mz_M := (cX6_all, 1, (some .int), RX6, "all", 1, 22)
noncomputable def ck_X6_all_0 : List (Nat × mz_O) := [(0, .inl (mz_push (.inl 1) 1)), (1, .inl (mz_ld mz_isR 0 2)), (2, .inl (mz_gf 6 4 5)), (5, .inl (mz_o2 mz_f_ishl 6)), (6, .inl (mz_push (.inl 1) 7)), (7, .inl (mz_o2 mz_f_isub 8)), (8, .inr (mz_rt mz_isI))]
theorem tk_X6_all_0 (E : List mz_V) : mz_all E tM_X6_all (ck_X6_all_0) :=
  mz_cons (mz_iconst 1 (by decide) (show decode cX6_all 0 = .ok (.iconst 1, 1) by decide +kernel)) (
  mz_cons (mz_aload_n (k := 0) (show decode cX6_all 1 = .ok (.aload_n 0, 1) by decide +kernel)) (
  mz_cons (mz_getfield (C := RX6) (T := TX6) (N := 7) rfl mz_inX6 (by decide) mw_145 (show decode cX6_all 2 = .ok (.getfield 35, 3) by decide +kernel)) (
  mz_cons (mz_ishl (show decode cX6_all 5 = .ok (.ishl, 1) by decide +kernel)) (
  mz_cons (mz_iconst 1 (by decide) (show decode cX6_all 6 = .ok (.iconst 1, 1) by decide +kernel)) (
  mz_cons (mz_isub (show decode cX6_all 7 = .ok (.isub, 1) by decide +kernel)) (
  mz_consR (mz_ireturn rfl (show decode cX6_all 8 = .ok (.ireturn, 1) by decide +kernel)) (
  mz_nil)))))))
noncomputable def tb_X6_all : List (Nat × List (Nat × mz_O)) := [(8, ck_X6_all_0)]
theorem tok_X6_all (E : List mz_V) : mz_tok E tM_X6_all (tb_X6_all) := mz_tcons (tk_X6_all_0 E) (mz_tnil)
noncomputable def rn_X6_all : List mz_V → List mz_C → Option (Option mz_V × List mz_C) := mz_rn tb_X6_all 17 1
theorem ctr_X6_all (E : List mz_V) : mz_ctr E yX6_all tM_X6_all rn_X6_all := mz_ctr_of 17 (tok_X6_all E) (by decide) rfl rfl
abbrev tM_X6_folkOf : mz_M := (cX6_folkOf, 4, (some .int), RX6, "folkOf", 2, 43)
noncomputable def ck_X6_folkOf_0 : List (Nat × mz_O) := [(0, .inl (mz_push (.inl 0) 1)), (1, .inl (mz_sto mz_isI mz_p1 2 2)), (2, .inl (mz_push (.inl 0) 3)), (3, .inl (mz_sto mz_isI mz_p1 3 4)), (4, .inl (mz_ld mz_isI 3 5)), (5, .inl (mz_ld mz_isR 0 6)), (6, .inl (mz_gf 6 4 9)), (9, .inl (mz_j2 mz_lt 12 35)), (12, .inl (mz_ld mz_isI 1 13)), (13, .inl (mz_ld mz_isI 3 14)), (14, .inl (mz_call rn_X11_has 2 mz_ckT 17)), (17, .inl (mz_j1 mz_eq0 29 20)), (20, .inl (mz_ld mz_isI 2 21)), (21, .inl (mz_ld mz_isR 0 22)), (22, .inl (mz_gf 6 2 25)), (25, .inl (mz_ld mz_isI 3 26))]
theorem tk_X6_folkOf_0 (E : List mz_V) : mz_all E tM_X6_folkOf (ck_X6_folkOf_0) :=
  mz_cons (mz_iconst 0 (by decide) (show decode cX6_folkOf 0 = .ok (.iconst 0, 1) by decide +kernel)) (
  mz_cons (mz_istore_n (k := 2) (by decide) (show decode cX6_folkOf 1 = .ok (.istore_n 2, 1) by decide +kernel)) (
  mz_cons (mz_iconst 0 (by decide) (show decode cX6_folkOf 2 = .ok (.iconst 0, 1) by decide +kernel)) (
  mz_cons (mz_istore_n (k := 3) (by decide) (show decode cX6_folkOf 3 = .ok (.istore_n 3, 1) by decide +kernel)) (
  mz_cons (mz_iload_n (k := 3) (show decode cX6_folkOf 4 = .ok (.iload_n 3, 1) by decide +kernel)) (
  mz_cons (mz_aload_n (k := 0) (show decode cX6_folkOf 5 = .ok (.aload_n 0, 1) by decide +kernel)) (
  mz_cons (mz_getfield (C := RX6) (T := TX6) (N := 7) rfl mz_inX6 (by decide) mw_145 (show decode cX6_folkOf 6 = .ok (.getfield 35, 3) by decide +kernel)) (
  mz_cons (mz_icmp_ge 35 (by decide) (show decode cX6_folkOf 9 = .ok (.if_icmp .ge 26, 3) by decide +kernel)) (
  mz_cons (mz_iload_n (k := 1) (show decode cX6_folkOf 12 = .ok (.iload_n 1, 1) by decide +kernel)) (
  mz_cons (mz_iload_n (k := 3) (show decode cX6_folkOf 13 = .ok (.iload_n 3, 1) by decide +kernel)) (
  mz_cons (mz_invSN (n := 2) (host := "WettedNet") (ctr_X11_has E) ⟨by decide, by decide, by decide +kernel⟩ ⟨by decide, by decide⟩ mw_604 (by decide +kernel) mw_603 mw_61 (show decode cX6_folkOf 14 = .ok (.invokestatic 46, 3) by decide +kernel)) (
  mz_cons (mz_if_eq 29 (by decide) (show decode cX6_folkOf 17 = .ok (.ifCond .eq 12, 3) by decide +kernel)) (
  mz_cons (mz_iload_n (k := 2) (show decode cX6_folkOf 20 = .ok (.iload_n 2, 1) by decide +kernel)) (
  mz_cons (mz_aload_n (k := 0) (show decode cX6_folkOf 21 = .ok (.aload_n 0, 1) by decide +kernel)) (
  mz_cons (mz_getfield (C := RX6) (T := TX6) (N := 7) rfl mz_inX6 (by decide) mw_143 (show decode cX6_folkOf 22 = .ok (.getfield 18, 3) by decide +kernel)) (
  mz_cons (mz_iload_n (k := 3) (show decode cX6_folkOf 25 = .ok (.iload_n 3, 1) by decide +kernel)) (
  mz_nil))))))))))))))))
noncomputable def ck_X6_folkOf_1 : List (Nat × mz_O) := [(26, .inl (mz_al false 27)), (27, .inl (mz_o2 mz_f_iadd 28)), (28, .inl (mz_sto mz_isI mz_p1 2 29)), (29, .inl (mz_inc 3 1 32)), (32, .inl (mz_go 4)), (35, .inl (mz_ld mz_isI 2 36)), (36, .inr (mz_rt mz_isI))]
theorem tk_X6_folkOf_1 (E : List mz_V) : mz_all E tM_X6_folkOf (ck_X6_folkOf_1) :=
  mz_cons (mz_iaload (show decode cX6_folkOf 26 = .ok (.iaload, 1) by decide +kernel)) (
  mz_cons (mz_iadd (show decode cX6_folkOf 27 = .ok (.iadd, 1) by decide +kernel)) (
  mz_cons (mz_istore_n (k := 2) (by decide) (show decode cX6_folkOf 28 = .ok (.istore_n 2, 1) by decide +kernel)) (
  mz_cons (mz_iinc 1 (by decide) (by decide) (show decode cX6_folkOf 29 = .ok (.iinc 3 1, 3) by decide +kernel)) (
  mz_cons (mz_goto 4 (by decide) (show decode cX6_folkOf 32 = .ok (.goto (-28), 3) by decide +kernel)) (
  mz_cons (mz_iload_n (k := 2) (show decode cX6_folkOf 35 = .ok (.iload_n 2, 1) by decide +kernel)) (
  mz_consR (mz_ireturn rfl (show decode cX6_folkOf 36 = .ok (.ireturn, 1) by decide +kernel)) (
  mz_nil)))))))
noncomputable def tb_X6_folkOf : List (Nat × List (Nat × mz_O)) := [(25, ck_X6_folkOf_0), (36, ck_X6_folkOf_1)]
theorem tok_X6_folkOf (E : List mz_V) : mz_tok E tM_X6_folkOf (tb_X6_folkOf) := mz_tcons (tk_X6_folkOf_0 E) (mz_tcons (tk_X6_folkOf_1 E) (mz_tnil))
noncomputable def rn_X6_folkOf : List mz_V → List mz_C → Option (Option mz_V × List mz_C) := mz_rn tb_X6_folkOf 37 4
theorem ctr_X6_folkOf (E : List mz_V) : mz_ctr E yX6_folkOf tM_X6_folkOf rn_X6_folkOf := mz_ctr_of 37 (tok_X6_folkOf E) (by decide) rfl rfl
abbrev tM_X8_get : mz_M := (cX8_get, 2, (some .int), RX8, "get", 1, 22)
noncomputable def ck_X8_get_0 : List (Nat × mz_O) := [(0, .inl (mz_ld mz_isI 1 1)), (1, .inl (mz_j1 mz_lt0 20 4)), (4, .inl (mz_ld mz_isI 1 5)), (5, .inl (mz_push (.inl 512) 8)), (8, .inl (mz_j2 mz_lt 11 20)), (11, .inl (mz_ld mz_isR 0 12)), (12, .inl (mz_gf 8 0 15)), (15, .inl (mz_ld mz_isI 1 16)), (16, .inl (mz_al false 17)), (17, .inl (mz_go 21)), (21, .inr (mz_rt mz_isI))]
theorem tk_X8_get_0 (E : List mz_V) : mz_all E tM_X8_get (ck_X8_get_0) :=
  mz_cons (mz_iload_n (k := 1) (show decode cX8_get 0 = .ok (.iload_n 1, 1) by decide +kernel)) (
  mz_cons (mz_if_lt 20 (by decide) (show decode cX8_get 1 = .ok (.ifCond .lt 19, 3) by decide +kernel)) (
  mz_cons (mz_iload_n (k := 1) (show decode cX8_get 4 = .ok (.iload_n 1, 1) by decide +kernel)) (
  mz_cons (mz_sipush 512 (by decide) (show decode cX8_get 5 = .ok (.sipush 512, 3) by decide +kernel)) (
  mz_cons (mz_icmp_ge 20 (by decide) (show decode cX8_get 8 = .ok (.if_icmp .ge 12, 3) by decide +kernel)) (
  mz_cons (mz_aload_n (k := 0) (show decode cX8_get 11 = .ok (.aload_n 0, 1) by decide +kernel)) (
  mz_cons (mz_getfield (C := RX8) (T := TX8) (N := 2) rfl mz_inX8 (by decide) mw_120 (show decode cX8_get 12 = .ok (.getfield 9, 3) by decide +kernel)) (
  mz_cons (mz_iload_n (k := 1) (show decode cX8_get 15 = .ok (.iload_n 1, 1) by decide +kernel)) (
  mz_cons (mz_iaload (show decode cX8_get 16 = .ok (.iaload, 1) by decide +kernel)) (
  mz_cons (mz_goto 21 (by decide) (show decode cX8_get 17 = .ok (.goto 4, 3) by decide +kernel)) (
  mz_consR (mz_ireturn rfl (show decode cX8_get 21 = .ok (.ireturn, 1) by decide +kernel)) (
  mz_nil)))))))))))
noncomputable def tb_X8_get : List (Nat × List (Nat × mz_O)) := [(21, ck_X8_get_0)]
theorem tok_X8_get (E : List mz_V) : mz_tok E tM_X8_get (tb_X8_get) := mz_tcons (tk_X8_get_0 E) (mz_tnil)
noncomputable def rn_X8_get : List mz_V → List mz_C → Option (Option mz_V × List mz_C) := mz_rn tb_X8_get 21 2
theorem ctr_X8_get (E : List mz_V) : mz_ctr E yX8_get tM_X8_get rn_X8_get := mz_ctr_of 21 (tok_X8_get E) (by decide) rfl rfl
abbrev tM_X0_leastWetAhead : mz_M := (cX0_leastWetAhead, 6, (some .int), RX0, "leastWetAhead", 4, 94)
noncomputable def ck_X0_leastWetAhead_0 : List (Nat × mz_O) := [(0, .inl (mz_ld mz_isR 0 1)), (1, .inl (mz_gf 0 0 4)), (4, .inl (mz_call rn_X6_all 1 (mz_ckV 6) 7)), (7, .inl (mz_ld mz_isI 1 8)), (8, .inl (mz_push (.inl (-1)) 9)), (9, .inl (mz_o2 mz_f_ixor 10)), (10, .inl (mz_o2 mz_f_iand 11)), (11, .inl (mz_sto mz_isI mz_p1 3 12)), (12, .inl (mz_push (.inl 0) 13)), (13, .inl (mz_sto mz_isI mz_p1 4 15)), (15, .inl (mz_ld mz_isI 4 17)), (17, .inl (mz_push (.inl 512) 20)), (20, .inl (mz_j2 mz_lt 23 72)), (23, .inl (mz_ld mz_isR 0 24)), (24, .inl (mz_gf 0 1 27)), (27, .inl (mz_ld mz_isI 4 29))]
theorem tk_X0_leastWetAhead_0 (E : List mz_V) : mz_all E tM_X0_leastWetAhead (ck_X0_leastWetAhead_0) :=
  mz_cons (mz_aload_n (k := 0) (show decode cX0_leastWetAhead 0 = .ok (.aload_n 0, 1) by decide +kernel)) (
  mz_cons (mz_getfield (C := RX0) (T := TX0) (N := 3) rfl mz_inX0 (by decide) mw_266 (show decode cX0_leastWetAhead 1 = .ok (.getfield 15, 3) by decide +kernel)) (
  mz_cons (mz_invV (n := 0) (ctr_X6_all E) rfl ⟨by decide, by decide, by decide +kernel⟩ ⟨by decide, by decide⟩ mw_567 mw_779 mw_565 mw_566 mw_65 (show decode cX0_leastWetAhead 4 = .ok (.invokevirtual 46, 3) by decide +kernel)) (
  mz_cons (mz_iload_n (k := 1) (show decode cX0_leastWetAhead 7 = .ok (.iload_n 1, 1) by decide +kernel)) (
  mz_cons (mz_iconst (-1) (by decide) (show decode cX0_leastWetAhead 8 = .ok (.iconst (-1), 1) by decide +kernel)) (
  mz_cons (mz_ixor (show decode cX0_leastWetAhead 9 = .ok (.ixor, 1) by decide +kernel)) (
  mz_cons (mz_iand (show decode cX0_leastWetAhead 10 = .ok (.iand, 1) by decide +kernel)) (
  mz_cons (mz_istore_n (k := 3) (by decide) (show decode cX0_leastWetAhead 11 = .ok (.istore_n 3, 1) by decide +kernel)) (
  mz_cons (mz_iconst 0 (by decide) (show decode cX0_leastWetAhead 12 = .ok (.iconst 0, 1) by decide +kernel)) (
  mz_cons (mz_istore (by decide) (show decode cX0_leastWetAhead 13 = .ok (.istore 4, 2) by decide +kernel)) (
  mz_cons (mz_iload (show decode cX0_leastWetAhead 15 = .ok (.iload 4, 2) by decide +kernel)) (
  mz_cons (mz_sipush 512 (by decide) (show decode cX0_leastWetAhead 17 = .ok (.sipush 512, 3) by decide +kernel)) (
  mz_cons (mz_icmp_ge 72 (by decide) (show decode cX0_leastWetAhead 20 = .ok (.if_icmp .ge 52, 3) by decide +kernel)) (
  mz_cons (mz_aload_n (k := 0) (show decode cX0_leastWetAhead 23 = .ok (.aload_n 0, 1) by decide +kernel)) (
  mz_cons (mz_getfield (C := RX0) (T := TX0) (N := 3) rfl mz_inX0 (by decide) mw_267 (show decode cX0_leastWetAhead 24 = .ok (.getfield 19, 3) by decide +kernel)) (
  mz_cons (mz_iload (show decode cX0_leastWetAhead 27 = .ok (.iload 4, 2) by decide +kernel)) (
  mz_nil))))))))))))))))
noncomputable def ck_X0_leastWetAhead_1 : List (Nat × mz_O) := [(29, .inl (mz_call rn_X8_get 2 (mz_ckV 8) 32)), (32, .inl (mz_sto mz_isI mz_p1 5 34)), (34, .inl (mz_ld mz_isI 5 36)), (36, .inl (mz_ld mz_isI 3 37)), (37, .inl (mz_push (.inl (-1)) 38)), (38, .inl (mz_o2 mz_f_ixor 39)), (39, .inl (mz_o2 mz_f_iand 40)), (40, .inl (mz_j1 mz_eq0 43 66)), (43, .inl (mz_ld mz_isR 0 44)), (44, .inl (mz_gf 0 0 47)), (47, .inl (mz_ld mz_isR 0 48)), (48, .inl (mz_ld mz_isI 1 49)), (49, .inl (mz_ld mz_isI 5 51)), (51, .inl (mz_push (.inl 9) 53)), (53, .inl (mz_call rn_X0_burnFrom 4 (mz_ckV 0) 56)), (56, .inl (mz_call rn_X6_folkOf 2 (mz_ckV 6) 59))]
theorem tk_X0_leastWetAhead_1 (E : List mz_V) : mz_all E tM_X0_leastWetAhead (ck_X0_leastWetAhead_1) :=
  mz_cons (mz_invV (n := 1) (ctr_X8_get E) rfl ⟨by decide, by decide, by decide +kernel⟩ ⟨by decide, by decide⟩ mw_631 mw_772 mw_629 mw_630 mw_63 (show decode cX0_leastWetAhead 29 = .ok (.invokevirtual 37, 3) by decide +kernel)) (
  mz_cons (mz_istore (by decide) (show decode cX0_leastWetAhead 32 = .ok (.istore 5, 2) by decide +kernel)) (
  mz_cons (mz_iload (show decode cX0_leastWetAhead 34 = .ok (.iload 5, 2) by decide +kernel)) (
  mz_cons (mz_iload_n (k := 3) (show decode cX0_leastWetAhead 36 = .ok (.iload_n 3, 1) by decide +kernel)) (
  mz_cons (mz_iconst (-1) (by decide) (show decode cX0_leastWetAhead 37 = .ok (.iconst (-1), 1) by decide +kernel)) (
  mz_cons (mz_ixor (show decode cX0_leastWetAhead 38 = .ok (.ixor, 1) by decide +kernel)) (
  mz_cons (mz_iand (show decode cX0_leastWetAhead 39 = .ok (.iand, 1) by decide +kernel)) (
  mz_cons (mz_if_ne 66 (by decide) (show decode cX0_leastWetAhead 40 = .ok (.ifCond .ne 26, 3) by decide +kernel)) (
  mz_cons (mz_aload_n (k := 0) (show decode cX0_leastWetAhead 43 = .ok (.aload_n 0, 1) by decide +kernel)) (
  mz_cons (mz_getfield (C := RX0) (T := TX0) (N := 3) rfl mz_inX0 (by decide) mw_266 (show decode cX0_leastWetAhead 44 = .ok (.getfield 15, 3) by decide +kernel)) (
  mz_cons (mz_aload_n (k := 0) (show decode cX0_leastWetAhead 47 = .ok (.aload_n 0, 1) by decide +kernel)) (
  mz_cons (mz_iload_n (k := 1) (show decode cX0_leastWetAhead 48 = .ok (.iload_n 1, 1) by decide +kernel)) (
  mz_cons (mz_iload (show decode cX0_leastWetAhead 49 = .ok (.iload 5, 2) by decide +kernel)) (
  mz_cons (mz_bipush 9 (by decide) (show decode cX0_leastWetAhead 51 = .ok (.bipush 9, 2) by decide +kernel)) (
  mz_cons (mz_invV (n := 3) (ctr_X0_burnFrom E) rfl ⟨by decide, by decide, by decide +kernel⟩ ⟨by decide, by decide⟩ mw_745 mw_778 mw_743 mw_744 mw_70 (show decode cX0_leastWetAhead 53 = .ok (.invokevirtual 61, 3) by decide +kernel)) (
  mz_cons (mz_invV (n := 1) (ctr_X6_folkOf E) rfl ⟨by decide, by decide, by decide +kernel⟩ ⟨by decide, by decide⟩ mw_608 mw_791 mw_606 mw_607 mw_65 (show decode cX0_leastWetAhead 56 = .ok (.invokevirtual 64, 3) by decide +kernel)) (
  mz_nil))))))))))))))))
noncomputable def ck_X0_leastWetAhead_2 : List (Nat × mz_O) := [(59, .inl (mz_ld mz_isI 2 60)), (60, .inl (mz_j2 mz_gt 66 63)), (63, .inl (mz_ld mz_isI 5 65)), (65, .inr (mz_rt mz_isI)), (66, .inl (mz_inc 4 1 69)), (69, .inl (mz_go 15)), (72, .inl (mz_push (.inl (-1)) 73)), (73, .inr (mz_rt mz_isI))]
theorem tk_X0_leastWetAhead_2 (E : List mz_V) : mz_all E tM_X0_leastWetAhead (ck_X0_leastWetAhead_2) :=
  mz_cons (mz_iload_n (k := 2) (show decode cX0_leastWetAhead 59 = .ok (.iload_n 2, 1) by decide +kernel)) (
  mz_cons (mz_icmp_gt 66 (by decide) (show decode cX0_leastWetAhead 60 = .ok (.if_icmp .gt 6, 3) by decide +kernel)) (
  mz_cons (mz_iload (show decode cX0_leastWetAhead 63 = .ok (.iload 5, 2) by decide +kernel)) (
  mz_consR (mz_ireturn rfl (show decode cX0_leastWetAhead 65 = .ok (.ireturn, 1) by decide +kernel)) (
  mz_cons (mz_iinc 1 (by decide) (by decide) (show decode cX0_leastWetAhead 66 = .ok (.iinc 4 1, 3) by decide +kernel)) (
  mz_cons (mz_goto 15 (by decide) (show decode cX0_leastWetAhead 69 = .ok (.goto (-54), 3) by decide +kernel)) (
  mz_cons (mz_iconst (-1) (by decide) (show decode cX0_leastWetAhead 72 = .ok (.iconst (-1), 1) by decide +kernel)) (
  mz_consR (mz_ireturn rfl (show decode cX0_leastWetAhead 73 = .ok (.ireturn, 1) by decide +kernel)) (
  mz_nil))))))))
noncomputable def tb_X0_leastWetAhead : List (Nat × List (Nat × mz_O)) := [(27, ck_X0_leastWetAhead_0), (56, ck_X0_leastWetAhead_1), (73, ck_X0_leastWetAhead_2)]
theorem tok_X0_leastWetAhead (E : List mz_V) : mz_tok E tM_X0_leastWetAhead (tb_X0_leastWetAhead) := mz_tcons (tk_X0_leastWetAhead_0 E) (mz_tcons (tk_X0_leastWetAhead_1 E) (mz_tcons (tk_X0_leastWetAhead_2 E) (mz_tnil)))
noncomputable def rn_X0_leastWetAhead : List mz_V → List mz_C → Option (Option mz_V × List mz_C) := mz_rn tb_X0_leastWetAhead 8227 6
theorem ctr_X0_leastWetAhead (E : List mz_V) : mz_ctr E yX0_leastWetAhead tM_X0_leastWetAhead rn_X0_leastWetAhead := mz_ctr_of 8227 (tok_X0_leastWetAhead E) (by decide) rfl rfl
abbrev tM_X11_within : mz_M := (cX11_within, 3, (some .boolean), RX11, "within", 1, 22)
noncomputable def ck_X11_within_0 : List (Nat × mz_O) := [(0, .inl (mz_ld mz_isI 0 1)), (1, .inl (mz_ld mz_isI 1 2)), (2, .inl (mz_j2 mz_lt 14 5)), (5, .inl (mz_ld mz_isI 0 6)), (6, .inl (mz_ld mz_isI 2 7)), (7, .inl (mz_j2 mz_gt 14 10)), (10, .inl (mz_push (.inl 1) 11)), (11, .inl (mz_go 15)), (14, .inl (mz_push (.inl 0) 15)), (15, .inr (mz_rt mz_is01))]
theorem tk_X11_within_0 (E : List mz_V) : mz_all E tM_X11_within (ck_X11_within_0) :=
  mz_cons (mz_iload_n (k := 0) (show decode cX11_within 0 = .ok (.iload_n 0, 1) by decide +kernel)) (
  mz_cons (mz_iload_n (k := 1) (show decode cX11_within 1 = .ok (.iload_n 1, 1) by decide +kernel)) (
  mz_cons (mz_icmp_lt 14 (by decide) (show decode cX11_within 2 = .ok (.if_icmp .lt 12, 3) by decide +kernel)) (
  mz_cons (mz_iload_n (k := 0) (show decode cX11_within 5 = .ok (.iload_n 0, 1) by decide +kernel)) (
  mz_cons (mz_iload_n (k := 2) (show decode cX11_within 6 = .ok (.iload_n 2, 1) by decide +kernel)) (
  mz_cons (mz_icmp_gt 14 (by decide) (show decode cX11_within 7 = .ok (.if_icmp .gt 7, 3) by decide +kernel)) (
  mz_cons (mz_iconst 1 (by decide) (show decode cX11_within 10 = .ok (.iconst 1, 1) by decide +kernel)) (
  mz_cons (mz_goto 15 (by decide) (show decode cX11_within 11 = .ok (.goto 4, 3) by decide +kernel)) (
  mz_cons (mz_iconst 0 (by decide) (show decode cX11_within 14 = .ok (.iconst 0, 1) by decide +kernel)) (
  mz_consR (mz_zreturn rfl (show decode cX11_within 15 = .ok (.ireturn, 1) by decide +kernel)) (
  mz_nil))))))))))
noncomputable def tb_X11_within : List (Nat × List (Nat × mz_O)) := [(15, ck_X11_within_0)]
theorem tok_X11_within (E : List mz_V) : mz_tok E tM_X11_within (tb_X11_within) := mz_tcons (tk_X11_within_0 E) (mz_tnil)
noncomputable def rn_X11_within : List mz_V → List mz_C → Option (Option mz_V × List mz_C) := mz_rn tb_X11_within 19 3
theorem ctr_X11_within (E : List mz_V) : mz_ctr E yX11_within tM_X11_within rn_X11_within := mz_ctr_of 19 (tok_X11_within E) (by decide) rfl rfl
abbrev tM_X6_isSet : mz_M := (cX6_isSet, 2, (some .boolean), RX6, "isSet", 2, 44)
noncomputable def ck_X6_isSet_0 : List (Nat × mz_O) := [(0, .inl (mz_ld mz_isI 1 1)), (1, .inl (mz_push (.inl 0) 2)), (2, .inl (mz_ld mz_isR 0 3)), (3, .inl (mz_call rn_X6_all 1 (mz_ckV 6) 6)), (6, .inl (mz_call rn_X11_within 3 mz_ckT 9)), (9, .inr (mz_rt mz_is01))]
theorem tk_X6_isSet_0 (E : List mz_V) : mz_all E tM_X6_isSet (ck_X6_isSet_0) :=
  mz_cons (mz_iload_n (k := 1) (show decode cX6_isSet 0 = .ok (.iload_n 1, 1) by decide +kernel)) (
  mz_cons (mz_iconst 0 (by decide) (show decode cX6_isSet 1 = .ok (.iconst 0, 1) by decide +kernel)) (
  mz_cons (mz_aload_n (k := 0) (show decode cX6_isSet 2 = .ok (.aload_n 0, 1) by decide +kernel)) (
  mz_cons (mz_invV (n := 0) (ctr_X6_all E) rfl ⟨by decide, by decide, by decide +kernel⟩ ⟨by decide, by decide⟩ mw_567 mw_564 mw_565 mw_566 mw_65 (show decode cX6_isSet 3 = .ok (.invokevirtual 38, 3) by decide +kernel)) (
  mz_cons (mz_invSN (n := 3) (host := "WettedNet") (ctr_X11_within E) ⟨by decide, by decide, by decide +kernel⟩ ⟨by decide, by decide⟩ mw_140 (by decide +kernel) mw_139 mw_61 (show decode cX6_isSet 6 = .ok (.invokestatic 42, 3) by decide +kernel)) (
  mz_consR (mz_zreturn rfl (show decode cX6_isSet 9 = .ok (.ireturn, 1) by decide +kernel)) (
  mz_nil))))))
noncomputable def tb_X6_isSet : List (Nat × List (Nat × mz_O)) := [(9, ck_X6_isSet_0)]
theorem tok_X6_isSet (E : List mz_V) : mz_tok E tM_X6_isSet (tb_X6_isSet) := mz_tcons (tk_X6_isSet_0 E) (mz_tnil)
noncomputable def rn_X6_isSet : List mz_V → List mz_C → Option (Option mz_V × List mz_C) := mz_rn tb_X6_isSet 16 2
theorem ctr_X6_isSet (E : List mz_V) : mz_ctr E yX6_isSet tM_X6_isSet rn_X6_isSet := mz_ctr_of 16 (tok_X6_isSet E) (by decide) rfl rfl
abbrev tM_X11_ahead : mz_M := (cX11_ahead, 3, (some .int), RX11, "ahead", 5, 119)
noncomputable def ck_X11_ahead_0 : List (Nat × mz_O) := [(0, .inl (mz_ld mz_isR 0 1)), (1, .inl (mz_gf 11 0 4)), (4, .inl (mz_ld mz_isI 1 5)), (5, .inl (mz_call rn_X6_isSet 2 (mz_ckV 6) 8)), (8, .inl (mz_j1 mz_eq0 22 11)), (11, .inl (mz_ld mz_isI 2 12)), (12, .inl (mz_push (.inl 0) 13)), (13, .inl (mz_push (.inl 999) 16)), (16, .inl (mz_call rn_X11_within 3 mz_ckT 19)), (19, .inl (mz_j1 mz_eq0 22 25)), (22, .inl (mz_push (.inl (-3)) 24)), (24, .inr (mz_rt mz_isI)), (25, .inl (mz_ld mz_isR 0 26)), (26, .inl (mz_gf 11 5 29)), (29, .inl (mz_ld mz_isI 1 30)), (30, .inl (mz_ld mz_isI 2 31))]
theorem tk_X11_ahead_0 (E : List mz_V) : mz_all E tM_X11_ahead (ck_X11_ahead_0) :=
  mz_cons (mz_aload_n (k := 0) (show decode cX11_ahead 0 = .ok (.aload_n 0, 1) by decide +kernel)) (
  mz_cons (mz_getfield (C := RX11) (T := TX11) (N := 9) rfl mz_inX11 (by decide) mw_330 (show decode cX11_ahead 1 = .ok (.getfield 18, 3) by decide +kernel)) (
  mz_cons (mz_iload_n (k := 1) (show decode cX11_ahead 4 = .ok (.iload_n 1, 1) by decide +kernel)) (
  mz_cons (mz_invV (n := 1) (ctr_X6_isSet E) rfl ⟨by decide, by decide, by decide +kernel⟩ ⟨by decide, by decide⟩ mw_563 mw_560 mw_561 mw_562 mw_65 (show decode cX11_ahead 5 = .ok (.invokevirtual 145, 3) by decide +kernel)) (
  mz_cons (mz_if_eq 22 (by decide) (show decode cX11_ahead 8 = .ok (.ifCond .eq 14, 3) by decide +kernel)) (
  mz_cons (mz_iload_n (k := 2) (show decode cX11_ahead 11 = .ok (.iload_n 2, 1) by decide +kernel)) (
  mz_cons (mz_iconst 0 (by decide) (show decode cX11_ahead 12 = .ok (.iconst 0, 1) by decide +kernel)) (
  mz_cons (mz_sipush 999 (by decide) (show decode cX11_ahead 13 = .ok (.sipush 999, 3) by decide +kernel)) (
  mz_cons (mz_invS (n := 3) (ctr_X11_within E) ⟨by decide, by decide, by decide +kernel⟩ ⟨by decide, by decide⟩ mw_140 mw_362 mw_139 mw_61 (show decode cX11_ahead 16 = .ok (.invokestatic 88, 3) by decide +kernel)) (
  mz_cons (mz_if_ne 25 (by decide) (show decode cX11_ahead 19 = .ok (.ifCond .ne 6, 3) by decide +kernel)) (
  mz_cons (mz_bipush (-3) (by decide) (show decode cX11_ahead 22 = .ok (.bipush (-3), 2) by decide +kernel)) (
  mz_consR (mz_ireturn rfl (show decode cX11_ahead 24 = .ok (.ireturn, 1) by decide +kernel)) (
  mz_cons (mz_aload_n (k := 0) (show decode cX11_ahead 25 = .ok (.aload_n 0, 1) by decide +kernel)) (
  mz_cons (mz_getfield (C := RX11) (T := TX11) (N := 9) rfl mz_inX11 (by decide) mw_335 (show decode cX11_ahead 26 = .ok (.getfield 61, 3) by decide +kernel)) (
  mz_cons (mz_iload_n (k := 1) (show decode cX11_ahead 29 = .ok (.iload_n 1, 1) by decide +kernel)) (
  mz_cons (mz_iload_n (k := 2) (show decode cX11_ahead 30 = .ok (.iload_n 2, 1) by decide +kernel)) (
  mz_nil))))))))))))))))
noncomputable def ck_X11_ahead_1 : List (Nat × mz_O) := [(31, .inl (mz_call rn_X0_leastWetAhead 3 (mz_ckV 0) 34)), (34, .inr (mz_rt mz_isI))]
theorem tk_X11_ahead_1 (E : List mz_V) : mz_all E tM_X11_ahead (ck_X11_ahead_1) :=
  mz_cons (mz_invV (n := 2) (ctr_X0_leastWetAhead E) rfl ⟨by decide, by decide, by decide +kernel⟩ ⟨by decide, by decide⟩ mw_790 mw_787 mw_788 mw_789 mw_70 (show decode cX11_ahead 31 = .ok (.invokevirtual 206, 3) by decide +kernel)) (
  mz_consR (mz_ireturn rfl (show decode cX11_ahead 34 = .ok (.ireturn, 1) by decide +kernel)) (
  mz_nil))
noncomputable def tb_X11_ahead : List (Nat × List (Nat × mz_O)) := [(30, ck_X11_ahead_0), (34, ck_X11_ahead_1)]
theorem tok_X11_ahead (E : List mz_V) : mz_tok E tM_X11_ahead (tb_X11_ahead) := mz_tcons (tk_X11_ahead_0 E) (mz_tcons (tk_X11_ahead_1 E) (mz_tnil))
noncomputable def rn_X11_ahead : List mz_V → List mz_C → Option (Option mz_V × List mz_C) := mz_rn tb_X11_ahead 26 3
theorem ctr_X11_ahead (E : List mz_V) : mz_ctr E yX11_ahead tM_X11_ahead rn_X11_ahead := mz_ctr_of 26 (tok_X11_ahead E) (by decide) rfl rfl
abbrev tM_X6_besideAny : mz_M := (cX6_besideAny, 4, (some .int), RX6, "besideAny", 2, 43)
noncomputable def ck_X6_besideAny_0 : List (Nat × mz_O) := [(0, .inl (mz_push (.inl 0) 1)), (1, .inl (mz_sto mz_isI mz_p1 2 2)), (2, .inl (mz_push (.inl 0) 3)), (3, .inl (mz_sto mz_isI mz_p1 3 4)), (4, .inl (mz_ld mz_isI 3 5)), (5, .inl (mz_ld mz_isR 0 6)), (6, .inl (mz_gf 6 4 9)), (9, .inl (mz_j2 mz_lt 12 35)), (12, .inl (mz_ld mz_isI 1 13)), (13, .inl (mz_ld mz_isI 3 14)), (14, .inl (mz_call rn_X11_has 2 mz_ckT 17)), (17, .inl (mz_j1 mz_eq0 29 20)), (20, .inl (mz_ld mz_isI 2 21)), (21, .inl (mz_ld mz_isR 0 22)), (22, .inl (mz_gf 6 0 25)), (25, .inl (mz_ld mz_isI 3 26))]
theorem tk_X6_besideAny_0 (E : List mz_V) : mz_all E tM_X6_besideAny (ck_X6_besideAny_0) :=
  mz_cons (mz_iconst 0 (by decide) (show decode cX6_besideAny 0 = .ok (.iconst 0, 1) by decide +kernel)) (
  mz_cons (mz_istore_n (k := 2) (by decide) (show decode cX6_besideAny 1 = .ok (.istore_n 2, 1) by decide +kernel)) (
  mz_cons (mz_iconst 0 (by decide) (show decode cX6_besideAny 2 = .ok (.iconst 0, 1) by decide +kernel)) (
  mz_cons (mz_istore_n (k := 3) (by decide) (show decode cX6_besideAny 3 = .ok (.istore_n 3, 1) by decide +kernel)) (
  mz_cons (mz_iload_n (k := 3) (show decode cX6_besideAny 4 = .ok (.iload_n 3, 1) by decide +kernel)) (
  mz_cons (mz_aload_n (k := 0) (show decode cX6_besideAny 5 = .ok (.aload_n 0, 1) by decide +kernel)) (
  mz_cons (mz_getfield (C := RX6) (T := TX6) (N := 7) rfl mz_inX6 (by decide) mw_145 (show decode cX6_besideAny 6 = .ok (.getfield 35, 3) by decide +kernel)) (
  mz_cons (mz_icmp_ge 35 (by decide) (show decode cX6_besideAny 9 = .ok (.if_icmp .ge 26, 3) by decide +kernel)) (
  mz_cons (mz_iload_n (k := 1) (show decode cX6_besideAny 12 = .ok (.iload_n 1, 1) by decide +kernel)) (
  mz_cons (mz_iload_n (k := 3) (show decode cX6_besideAny 13 = .ok (.iload_n 3, 1) by decide +kernel)) (
  mz_cons (mz_invSN (n := 2) (host := "WettedNet") (ctr_X11_has E) ⟨by decide, by decide, by decide +kernel⟩ ⟨by decide, by decide⟩ mw_604 (by decide +kernel) mw_603 mw_61 (show decode cX6_besideAny 14 = .ok (.invokestatic 46, 3) by decide +kernel)) (
  mz_cons (mz_if_eq 29 (by decide) (show decode cX6_besideAny 17 = .ok (.ifCond .eq 12, 3) by decide +kernel)) (
  mz_cons (mz_iload_n (k := 2) (show decode cX6_besideAny 20 = .ok (.iload_n 2, 1) by decide +kernel)) (
  mz_cons (mz_aload_n (k := 0) (show decode cX6_besideAny 21 = .ok (.aload_n 0, 1) by decide +kernel)) (
  mz_cons (mz_getfield (C := RX6) (T := TX6) (N := 7) rfl mz_inX6 (by decide) mw_141 (show decode cX6_besideAny 22 = .ok (.getfield 9, 3) by decide +kernel)) (
  mz_cons (mz_iload_n (k := 3) (show decode cX6_besideAny 25 = .ok (.iload_n 3, 1) by decide +kernel)) (
  mz_nil))))))))))))))))
noncomputable def ck_X6_besideAny_1 : List (Nat × mz_O) := [(26, .inl (mz_al false 27)), (27, .inl (mz_o2 mz_f_ior 28)), (28, .inl (mz_sto mz_isI mz_p1 2 29)), (29, .inl (mz_inc 3 1 32)), (32, .inl (mz_go 4)), (35, .inl (mz_ld mz_isI 2 36)), (36, .inr (mz_rt mz_isI))]
theorem tk_X6_besideAny_1 (E : List mz_V) : mz_all E tM_X6_besideAny (ck_X6_besideAny_1) :=
  mz_cons (mz_iaload (show decode cX6_besideAny 26 = .ok (.iaload, 1) by decide +kernel)) (
  mz_cons (mz_ior (show decode cX6_besideAny 27 = .ok (.ior, 1) by decide +kernel)) (
  mz_cons (mz_istore_n (k := 2) (by decide) (show decode cX6_besideAny 28 = .ok (.istore_n 2, 1) by decide +kernel)) (
  mz_cons (mz_iinc 1 (by decide) (by decide) (show decode cX6_besideAny 29 = .ok (.iinc 3 1, 3) by decide +kernel)) (
  mz_cons (mz_goto 4 (by decide) (show decode cX6_besideAny 32 = .ok (.goto (-28), 3) by decide +kernel)) (
  mz_cons (mz_iload_n (k := 2) (show decode cX6_besideAny 35 = .ok (.iload_n 2, 1) by decide +kernel)) (
  mz_consR (mz_ireturn rfl (show decode cX6_besideAny 36 = .ok (.ireturn, 1) by decide +kernel)) (
  mz_nil)))))))
noncomputable def tb_X6_besideAny : List (Nat × List (Nat × mz_O)) := [(25, ck_X6_besideAny_0), (36, ck_X6_besideAny_1)]
theorem tok_X6_besideAny (E : List mz_V) : mz_tok E tM_X6_besideAny (tb_X6_besideAny) := mz_tcons (tk_X6_besideAny_0 E) (mz_tcons (tk_X6_besideAny_1 E) (mz_tnil))
noncomputable def rn_X6_besideAny : List mz_V → List mz_C → Option (Option mz_V × List mz_C) := mz_rn tb_X6_besideAny 37 4
theorem ctr_X6_besideAny (E : List mz_V) : mz_ctr E yX6_besideAny tM_X6_besideAny rn_X6_besideAny := mz_ctr_of 37 (tok_X6_besideAny E) (by decide) rfl rfl
abbrev tM_X2_burnOn : mz_M := (cX2_burnOn, 3, (some .int), RX2, "burnOn", 3, 66)
noncomputable def ck_X2_burnOn_0 : List (Nat × mz_O) := [(0, .inl (mz_ld mz_isI 1 1)), (1, .inl (mz_ld mz_isR 0 2)), (2, .inl (mz_gf 2 0 5)), (5, .inl (mz_ld mz_isI 1 6)), (6, .inl (mz_call rn_X6_besideAny 2 (mz_ckV 6) 9)), (9, .inl (mz_ld mz_isI 2 10)), (10, .inl (mz_push (.inl (-1)) 11)), (11, .inl (mz_o2 mz_f_ixor 12)), (12, .inl (mz_o2 mz_f_iand 13)), (13, .inl (mz_o2 mz_f_ior 14)), (14, .inr (mz_rt mz_isI))]
theorem tk_X2_burnOn_0 (E : List mz_V) : mz_all E tM_X2_burnOn (ck_X2_burnOn_0) :=
  mz_cons (mz_iload_n (k := 1) (show decode cX2_burnOn 0 = .ok (.iload_n 1, 1) by decide +kernel)) (
  mz_cons (mz_aload_n (k := 0) (show decode cX2_burnOn 1 = .ok (.aload_n 0, 1) by decide +kernel)) (
  mz_cons (mz_getfield (C := RX2) (T := TX2) (N := 4) rfl mz_inX2 (by decide) mw_200 (show decode cX2_burnOn 2 = .ok (.getfield 9, 3) by decide +kernel)) (
  mz_cons (mz_iload_n (k := 1) (show decode cX2_burnOn 5 = .ok (.iload_n 1, 1) by decide +kernel)) (
  mz_cons (mz_invV (n := 1) (ctr_X6_besideAny E) rfl ⟨by decide, by decide, by decide +kernel⟩ ⟨by decide, by decide⟩ mw_601 mw_598 mw_599 mw_600 mw_65 (show decode cX2_burnOn 6 = .ok (.invokevirtual 64, 3) by decide +kernel)) (
  mz_cons (mz_iload_n (k := 2) (show decode cX2_burnOn 9 = .ok (.iload_n 2, 1) by decide +kernel)) (
  mz_cons (mz_iconst (-1) (by decide) (show decode cX2_burnOn 10 = .ok (.iconst (-1), 1) by decide +kernel)) (
  mz_cons (mz_ixor (show decode cX2_burnOn 11 = .ok (.ixor, 1) by decide +kernel)) (
  mz_cons (mz_iand (show decode cX2_burnOn 12 = .ok (.iand, 1) by decide +kernel)) (
  mz_cons (mz_ior (show decode cX2_burnOn 13 = .ok (.ior, 1) by decide +kernel)) (
  mz_consR (mz_ireturn rfl (show decode cX2_burnOn 14 = .ok (.ireturn, 1) by decide +kernel)) (
  mz_nil)))))))))))
noncomputable def tb_X2_burnOn : List (Nat × List (Nat × mz_O)) := [(14, ck_X2_burnOn_0)]
theorem tok_X2_burnOn (E : List mz_V) : mz_tok E tM_X2_burnOn (tb_X2_burnOn) := mz_tcons (tk_X2_burnOn_0 E) (mz_tnil)
noncomputable def rn_X2_burnOn : List mz_V → List mz_C → Option (Option mz_V × List mz_C) := mz_rn tb_X2_burnOn 21 3
theorem ctr_X2_burnOn (E : List mz_V) : mz_ctr E yX2_burnOn tM_X2_burnOn rn_X2_burnOn := mz_ctr_of 21 (tok_X2_burnOn E) (by decide) rfl rfl
abbrev tM_X2_threes : mz_M := (cX2_threes, 1, (some .int), RX2, "threes", 1, 22)
noncomputable def ck_X2_threes_0 : List (Nat × mz_O) := [(0, .inl (mz_push (.inr (.inr (.inr (.inr (.inr (.inr 1)))))) 3)), (3, .inl (mz_ld mz_isI 0 4)), (4, .inl (mz_push (.inl 7) 6)), (6, .inl (mz_o2 mz_f_iand 7)), (7, .inl (mz_xl 1 mz_thrV 8)), (8, .inl (mz_push (.inl 27) 10)), (10, .inl (mz_push (.inr (.inr (.inr (.inr (.inr (.inr 1)))))) 13)), (13, .inl (mz_ld mz_isI 0 14)), (14, .inl (mz_push (.inl 3) 15)), (15, .inl (mz_o2 mz_f_ishr 16)), (16, .inl (mz_push (.inl 7) 18)), (18, .inl (mz_o2 mz_f_iand 19)), (19, .inl (mz_xl 1 mz_thrV 20)), (20, .inl (mz_o2 mz_f_imul 21)), (21, .inl (mz_o2 mz_f_iadd 22)), (22, .inl (mz_push (.inl 729) 25))]
theorem tk_X2_threes_0 (E : List mz_V) : mz_all E tM_X2_threes (ck_X2_threes_0) :=
  mz_cons (mz_gsThr mw_587 (show decode cX2_threes 0 = .ok (.getstatic 99, 3) by decide +kernel)) (
  mz_cons (mz_iload_n (k := 0) (show decode cX2_threes 3 = .ok (.iload_n 0, 1) by decide +kernel)) (
  mz_cons (mz_bipush 7 (by decide) (show decode cX2_threes 4 = .ok (.bipush 7, 2) by decide +kernel)) (
  mz_cons (mz_iand (show decode cX2_threes 6 = .ok (.iand, 1) by decide +kernel)) (
  mz_cons (mz_xlThr (show decode cX2_threes 7 = .ok (.iaload, 1) by decide +kernel)) (
  mz_cons (mz_bipush 27 (by decide) (show decode cX2_threes 8 = .ok (.bipush 27, 2) by decide +kernel)) (
  mz_cons (mz_gsThr mw_587 (show decode cX2_threes 10 = .ok (.getstatic 99, 3) by decide +kernel)) (
  mz_cons (mz_iload_n (k := 0) (show decode cX2_threes 13 = .ok (.iload_n 0, 1) by decide +kernel)) (
  mz_cons (mz_iconst 3 (by decide) (show decode cX2_threes 14 = .ok (.iconst 3, 1) by decide +kernel)) (
  mz_cons (mz_ishr (show decode cX2_threes 15 = .ok (.ishr, 1) by decide +kernel)) (
  mz_cons (mz_bipush 7 (by decide) (show decode cX2_threes 16 = .ok (.bipush 7, 2) by decide +kernel)) (
  mz_cons (mz_iand (show decode cX2_threes 18 = .ok (.iand, 1) by decide +kernel)) (
  mz_cons (mz_xlThr (show decode cX2_threes 19 = .ok (.iaload, 1) by decide +kernel)) (
  mz_cons (mz_imul (show decode cX2_threes 20 = .ok (.imul, 1) by decide +kernel)) (
  mz_cons (mz_iadd (show decode cX2_threes 21 = .ok (.iadd, 1) by decide +kernel)) (
  mz_cons (mz_sipush 729 (by decide) (show decode cX2_threes 22 = .ok (.sipush 729, 3) by decide +kernel)) (
  mz_nil))))))))))))))))
noncomputable def ck_X2_threes_1 : List (Nat × mz_O) := [(25, .inl (mz_push (.inr (.inr (.inr (.inr (.inr (.inr 1)))))) 28)), (28, .inl (mz_ld mz_isI 0 29)), (29, .inl (mz_push (.inl 6) 31)), (31, .inl (mz_o2 mz_f_ishr 32)), (32, .inl (mz_push (.inl 7) 34)), (34, .inl (mz_o2 mz_f_iand 35)), (35, .inl (mz_xl 1 mz_thrV 36)), (36, .inl (mz_o2 mz_f_imul 37)), (37, .inl (mz_o2 mz_f_iadd 38)), (38, .inr (mz_rt mz_isI))]
theorem tk_X2_threes_1 (E : List mz_V) : mz_all E tM_X2_threes (ck_X2_threes_1) :=
  mz_cons (mz_gsThr mw_587 (show decode cX2_threes 25 = .ok (.getstatic 99, 3) by decide +kernel)) (
  mz_cons (mz_iload_n (k := 0) (show decode cX2_threes 28 = .ok (.iload_n 0, 1) by decide +kernel)) (
  mz_cons (mz_bipush 6 (by decide) (show decode cX2_threes 29 = .ok (.bipush 6, 2) by decide +kernel)) (
  mz_cons (mz_ishr (show decode cX2_threes 31 = .ok (.ishr, 1) by decide +kernel)) (
  mz_cons (mz_bipush 7 (by decide) (show decode cX2_threes 32 = .ok (.bipush 7, 2) by decide +kernel)) (
  mz_cons (mz_iand (show decode cX2_threes 34 = .ok (.iand, 1) by decide +kernel)) (
  mz_cons (mz_xlThr (show decode cX2_threes 35 = .ok (.iaload, 1) by decide +kernel)) (
  mz_cons (mz_imul (show decode cX2_threes 36 = .ok (.imul, 1) by decide +kernel)) (
  mz_cons (mz_iadd (show decode cX2_threes 37 = .ok (.iadd, 1) by decide +kernel)) (
  mz_consR (mz_ireturn rfl (show decode cX2_threes 38 = .ok (.ireturn, 1) by decide +kernel)) (
  mz_nil))))))))))
noncomputable def tb_X2_threes : List (Nat × List (Nat × mz_O)) := [(22, ck_X2_threes_0), (38, ck_X2_threes_1)]
theorem tok_X2_threes (E : List mz_V) : mz_tok E tM_X2_threes (tb_X2_threes) := mz_tcons (tk_X2_threes_0 E) (mz_tcons (tk_X2_threes_1 E) (mz_tnil))
noncomputable def rn_X2_threes : List mz_V → List mz_C → Option (Option mz_V × List mz_C) := mz_rn tb_X2_threes 36 1
theorem ctr_X2_threes (E : List mz_V) : mz_ctr E yX2_threes tM_X2_threes rn_X2_threes := mz_ctr_of 36 (tok_X2_threes E) (by decide) rfl rfl
abbrev tM_X5_keep : mz_M := (cX5_keep, 3, none, RX5, "keep", 2, 44)
noncomputable def ck_X5_keep_0 : List (Nat × mz_O) := [(0, .inl (mz_ld mz_isR 0 1)), (1, .inl (mz_gf 5 0 4)), (4, .inl (mz_j1 mz_nul 33 7)), (7, .inl (mz_ld mz_isI 1 8)), (8, .inl (mz_push (.inl 0) 9)), (9, .inl (mz_push (.inl 19682) 12)), (12, .inl (mz_call rn_X11_within 3 mz_ckT 15)), (15, .inl (mz_j1 mz_eq0 33 18)), (18, .inl (mz_ld mz_isR 0 19)), (19, .inl (mz_gf 5 0 22)), (22, .inl (mz_ld mz_isI 1 23)), (23, .inl (mz_ld mz_isR 0 24)), (24, .inl (mz_gf 5 1 27)), (27, .inl (mz_push (.inl 10) 29)), (29, .inl (mz_o2 mz_f_ishl 30)), (30, .inl (mz_ld mz_isI 2 31))]
theorem tk_X5_keep_0 (E : List mz_V) : mz_all E tM_X5_keep (ck_X5_keep_0) :=
  mz_cons (mz_aload_n (k := 0) (show decode cX5_keep 0 = .ok (.aload_n 0, 1) by decide +kernel)) (
  mz_cons (mz_getfield (C := RX5) (T := TX5) (N := 2) rfl mz_inX5 (by decide) mw_94 (show decode cX5_keep 1 = .ok (.getfield 9, 3) by decide +kernel)) (
  mz_cons (mz_ifnull 33 (by decide) (show decode cX5_keep 4 = .ok (.ifnull 29, 3) by decide +kernel)) (
  mz_cons (mz_iload_n (k := 1) (show decode cX5_keep 7 = .ok (.iload_n 1, 1) by decide +kernel)) (
  mz_cons (mz_iconst 0 (by decide) (show decode cX5_keep 8 = .ok (.iconst 0, 1) by decide +kernel)) (
  mz_cons (mz_sipush 19682 (by decide) (show decode cX5_keep 9 = .ok (.sipush 19682, 3) by decide +kernel)) (
  mz_cons (mz_invSN (n := 3) (host := "WettedNet") (ctr_X11_within E) ⟨by decide, by decide, by decide +kernel⟩ ⟨by decide, by decide⟩ mw_140 (by decide +kernel) mw_139 mw_61 (show decode cX5_keep 12 = .ok (.invokestatic 19, 3) by decide +kernel)) (
  mz_cons (mz_if_eq 33 (by decide) (show decode cX5_keep 15 = .ok (.ifCond .eq 18, 3) by decide +kernel)) (
  mz_cons (mz_aload_n (k := 0) (show decode cX5_keep 18 = .ok (.aload_n 0, 1) by decide +kernel)) (
  mz_cons (mz_getfield (C := RX5) (T := TX5) (N := 2) rfl mz_inX5 (by decide) mw_94 (show decode cX5_keep 19 = .ok (.getfield 9, 3) by decide +kernel)) (
  mz_cons (mz_iload_n (k := 1) (show decode cX5_keep 22 = .ok (.iload_n 1, 1) by decide +kernel)) (
  mz_cons (mz_aload_n (k := 0) (show decode cX5_keep 23 = .ok (.aload_n 0, 1) by decide +kernel)) (
  mz_cons (mz_getfield (C := RX5) (T := TX5) (N := 2) rfl mz_inX5 (by decide) mw_95 (show decode cX5_keep 24 = .ok (.getfield 15, 3) by decide +kernel)) (
  mz_cons (mz_bipush 10 (by decide) (show decode cX5_keep 27 = .ok (.bipush 10, 2) by decide +kernel)) (
  mz_cons (mz_ishl (show decode cX5_keep 29 = .ok (.ishl, 1) by decide +kernel)) (
  mz_cons (mz_iload_n (k := 2) (show decode cX5_keep 30 = .ok (.iload_n 2, 1) by decide +kernel)) (
  mz_nil))))))))))))))))
noncomputable def ck_X5_keep_1 : List (Nat × mz_O) := [(31, .inl (mz_o2 mz_f_ior 32)), (32, .inl (mz_ast false mz_isI 33)), (33, .inr (mz_rv))]
theorem tk_X5_keep_1 (E : List mz_V) : mz_all E tM_X5_keep (ck_X5_keep_1) :=
  mz_cons (mz_ior (show decode cX5_keep 31 = .ok (.ior, 1) by decide +kernel)) (
  mz_cons (mz_iastore (show decode cX5_keep 32 = .ok (.iastore, 1) by decide +kernel)) (
  mz_consR (mz_return rfl (show decode cX5_keep 33 = .ok (.return_, 1) by decide +kernel)) (
  mz_nil)))
noncomputable def tb_X5_keep : List (Nat × List (Nat × mz_O)) := [(30, ck_X5_keep_0), (33, ck_X5_keep_1)]
theorem tok_X5_keep (E : List mz_V) : mz_tok E tM_X5_keep (tb_X5_keep) := mz_tcons (tk_X5_keep_0 E) (mz_tcons (tk_X5_keep_1 E) (mz_tnil))
noncomputable def rn_X5_keep : List mz_V → List mz_C → Option (Option mz_V × List mz_C) := mz_rn tb_X5_keep 29 3
theorem ctr_X5_keep (E : List mz_V) : mz_ctr E yX5_keep tM_X5_keep rn_X5_keep := mz_ctr_of 29 (tok_X5_keep E) (by decide) rfl rfl
abbrev tM_X5_recall : mz_M := (cX5_recall, 2, (some .int), RX5, "recall", 2, 44)
noncomputable def ck_X5_recall_0 : List (Nat × mz_O) := [(0, .inl (mz_ld mz_isR 0 1)), (1, .inl (mz_gf 5 0 4)), (4, .inl (mz_j1 mz_nul 34 7)), (7, .inl (mz_ld mz_isI 1 8)), (8, .inl (mz_push (.inl 0) 9)), (9, .inl (mz_push (.inl 19682) 12)), (12, .inl (mz_call rn_X11_within 3 mz_ckT 15)), (15, .inl (mz_j1 mz_eq0 34 18)), (18, .inl (mz_ld mz_isR 0 19)), (19, .inl (mz_gf 5 0 22)), (22, .inl (mz_ld mz_isI 1 23)), (23, .inl (mz_al false 24)), (24, .inl (mz_push (.inl 10) 26)), (26, .inl (mz_o2 mz_f_ishr 27)), (27, .inl (mz_ld mz_isR 0 28)), (28, .inl (mz_gf 5 1 31))]
theorem tk_X5_recall_0 (E : List mz_V) : mz_all E tM_X5_recall (ck_X5_recall_0) :=
  mz_cons (mz_aload_n (k := 0) (show decode cX5_recall 0 = .ok (.aload_n 0, 1) by decide +kernel)) (
  mz_cons (mz_getfield (C := RX5) (T := TX5) (N := 2) rfl mz_inX5 (by decide) mw_94 (show decode cX5_recall 1 = .ok (.getfield 9, 3) by decide +kernel)) (
  mz_cons (mz_ifnull 34 (by decide) (show decode cX5_recall 4 = .ok (.ifnull 30, 3) by decide +kernel)) (
  mz_cons (mz_iload_n (k := 1) (show decode cX5_recall 7 = .ok (.iload_n 1, 1) by decide +kernel)) (
  mz_cons (mz_iconst 0 (by decide) (show decode cX5_recall 8 = .ok (.iconst 0, 1) by decide +kernel)) (
  mz_cons (mz_sipush 19682 (by decide) (show decode cX5_recall 9 = .ok (.sipush 19682, 3) by decide +kernel)) (
  mz_cons (mz_invSN (n := 3) (host := "WettedNet") (ctr_X11_within E) ⟨by decide, by decide, by decide +kernel⟩ ⟨by decide, by decide⟩ mw_140 (by decide +kernel) mw_139 mw_61 (show decode cX5_recall 12 = .ok (.invokestatic 19, 3) by decide +kernel)) (
  mz_cons (mz_if_eq 34 (by decide) (show decode cX5_recall 15 = .ok (.ifCond .eq 19, 3) by decide +kernel)) (
  mz_cons (mz_aload_n (k := 0) (show decode cX5_recall 18 = .ok (.aload_n 0, 1) by decide +kernel)) (
  mz_cons (mz_getfield (C := RX5) (T := TX5) (N := 2) rfl mz_inX5 (by decide) mw_94 (show decode cX5_recall 19 = .ok (.getfield 9, 3) by decide +kernel)) (
  mz_cons (mz_iload_n (k := 1) (show decode cX5_recall 22 = .ok (.iload_n 1, 1) by decide +kernel)) (
  mz_cons (mz_iaload (show decode cX5_recall 23 = .ok (.iaload, 1) by decide +kernel)) (
  mz_cons (mz_bipush 10 (by decide) (show decode cX5_recall 24 = .ok (.bipush 10, 2) by decide +kernel)) (
  mz_cons (mz_ishr (show decode cX5_recall 26 = .ok (.ishr, 1) by decide +kernel)) (
  mz_cons (mz_aload_n (k := 0) (show decode cX5_recall 27 = .ok (.aload_n 0, 1) by decide +kernel)) (
  mz_cons (mz_getfield (C := RX5) (T := TX5) (N := 2) rfl mz_inX5 (by decide) mw_95 (show decode cX5_recall 28 = .ok (.getfield 15, 3) by decide +kernel)) (
  mz_nil))))))))))))))))
noncomputable def ck_X5_recall_1 : List (Nat × mz_O) := [(31, .inl (mz_j2 mz_eq 36 34)), (34, .inl (mz_push (.inl (-1)) 35)), (35, .inr (mz_rt mz_isI)), (36, .inl (mz_ld mz_isR 0 37)), (37, .inl (mz_gf 5 0 40)), (40, .inl (mz_ld mz_isI 1 41)), (41, .inl (mz_al false 42)), (42, .inl (mz_push (.inl 1023) 45)), (45, .inl (mz_o2 mz_f_iand 46)), (46, .inr (mz_rt mz_isI))]
theorem tk_X5_recall_1 (E : List mz_V) : mz_all E tM_X5_recall (ck_X5_recall_1) :=
  mz_cons (mz_icmp_eq 36 (by decide) (show decode cX5_recall 31 = .ok (.if_icmp .eq 5, 3) by decide +kernel)) (
  mz_cons (mz_iconst (-1) (by decide) (show decode cX5_recall 34 = .ok (.iconst (-1), 1) by decide +kernel)) (
  mz_consR (mz_ireturn rfl (show decode cX5_recall 35 = .ok (.ireturn, 1) by decide +kernel)) (
  mz_cons (mz_aload_n (k := 0) (show decode cX5_recall 36 = .ok (.aload_n 0, 1) by decide +kernel)) (
  mz_cons (mz_getfield (C := RX5) (T := TX5) (N := 2) rfl mz_inX5 (by decide) mw_94 (show decode cX5_recall 37 = .ok (.getfield 9, 3) by decide +kernel)) (
  mz_cons (mz_iload_n (k := 1) (show decode cX5_recall 40 = .ok (.iload_n 1, 1) by decide +kernel)) (
  mz_cons (mz_iaload (show decode cX5_recall 41 = .ok (.iaload, 1) by decide +kernel)) (
  mz_cons (mz_sipush 1023 (by decide) (show decode cX5_recall 42 = .ok (.sipush 1023, 3) by decide +kernel)) (
  mz_cons (mz_iand (show decode cX5_recall 45 = .ok (.iand, 1) by decide +kernel)) (
  mz_consR (mz_ireturn rfl (show decode cX5_recall 46 = .ok (.ireturn, 1) by decide +kernel)) (
  mz_nil))))))))))
noncomputable def tb_X5_recall : List (Nat × List (Nat × mz_O)) := [(28, ck_X5_recall_0), (46, ck_X5_recall_1)]
theorem tok_X5_recall (E : List mz_V) : mz_tok E tM_X5_recall (tb_X5_recall) := mz_tcons (tk_X5_recall_0 E) (mz_tcons (tk_X5_recall_1 E) (mz_tnil))
noncomputable def rn_X5_recall : List mz_V → List mz_C → Option (Option mz_V × List mz_C) := mz_rn tb_X5_recall 34 2
theorem ctr_X5_recall (E : List mz_V) : mz_ctr E yX5_recall tM_X5_recall rn_X5_recall := mz_ctr_of 34 (tok_X5_recall E) (by decide) rfl rfl
end
