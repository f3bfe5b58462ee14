-- ===== PART A: goes FIRST, ahead of the names: the tables' words, and 'selects' of the private methods out of them =====
/-- a private method of a class that the tables say can be made, by its rows of tables_1 -/
def lw_okq (q : MethodName × Nat) : Prop := (q.1.cls ≠ "java/lang/invoke/MethodHandle" ∧ q.1.cls ≠ "java/lang/invoke/VarHandle") ∧ Cond.instantiable q.1.cls q.2 ∈ tables_1 ∧ Cond.privateMethod q.1 ∈ tables_1 ∧ Cond.instanceMethod q.1 ∈ tables_1
theorem lw_p0 : lw_okq (⟨"PairSymbols$Level", "numberPairs", "()I"⟩, 16) := ⟨⟨by decide +kernel, by decide +kernel⟩, List.mem_of_getElem? (i := 24) (by decide +kernel), List.mem_of_getElem? (i := 30) (by decide +kernel), List.mem_of_getElem? (i := 31) (by decide +kernel)⟩
theorem lw_p1 : lw_okq (⟨"PairSymbols$Level", "markClass", "(III)V"⟩, 16) := ⟨⟨by decide +kernel, by decide +kernel⟩, List.mem_of_getElem? (i := 24) (by decide +kernel), List.mem_of_getElem? (i := 40) (by decide +kernel), List.mem_of_getElem? (i := 41) (by decide +kernel)⟩
theorem lw_p2 : lw_okq (⟨"PairSymbols$Level", "listPairs", "()V"⟩, 16) := ⟨⟨by decide +kernel, by decide +kernel⟩, List.mem_of_getElem? (i := 24) (by decide +kernel), List.mem_of_getElem? (i := 44) (by decide +kernel), List.mem_of_getElem? (i := 45) (by decide +kernel)⟩
theorem lw_p3 : lw_okq (⟨"PairSymbols$Level", "listMaps", "()V"⟩, 16) := ⟨⟨by decide +kernel, by decide +kernel⟩, List.mem_of_getElem? (i := 24) (by decide +kernel), List.mem_of_getElem? (i := 48) (by decide +kernel), List.mem_of_getElem? (i := 49) (by decide +kernel)⟩
theorem lw_p4 : lw_okq (⟨"PairSymbols$Level", "numberCusps", "()I"⟩, 16) := ⟨⟨by decide +kernel, by decide +kernel⟩, List.mem_of_getElem? (i := 24) (by decide +kernel), List.mem_of_getElem? (i := 56) (by decide +kernel), List.mem_of_getElem? (i := 57) (by decide +kernel)⟩
theorem lw_p5 : lw_okq (⟨"PairSymbols$Level", "relateSymbols", "(LPairSymbols$Relations;)V"⟩, 16) := ⟨⟨by decide +kernel, by decide +kernel⟩, List.mem_of_getElem? (i := 24) (by decide +kernel), List.mem_of_getElem? (i := 83) (by decide +kernel), List.mem_of_getElem? (i := 84) (by decide +kernel)⟩
theorem lw_p6 : lw_okq (⟨"PairSymbols$Relations", "bind", "(I[I)V"⟩, 4) := ⟨⟨by decide +kernel, by decide +kernel⟩, List.mem_of_getElem? (i := 60) (by decide +kernel), List.mem_of_getElem? (i := 91) (by decide +kernel), List.mem_of_getElem? (i := 92) (by decide +kernel)⟩
theorem lw_p7 : lw_okq (⟨"PairSymbols$Level", "relateCoordinates", "(LPairSymbols$Relations;)V"⟩, 16) := ⟨⟨by decide +kernel, by decide +kernel⟩, List.mem_of_getElem? (i := 24) (by decide +kernel), List.mem_of_getElem? (i := 107) (by decide +kernel), List.mem_of_getElem? (i := 108) (by decide +kernel)⟩
theorem lw_p8 : lw_okq (⟨"PairSymbols", "ente\x72", "(I)I"⟩, 9) := ⟨⟨by decide +kernel, by decide +kernel⟩, List.mem_of_getElem? (i := 16) (by decide +kernel), List.mem_of_getElem? (i := 326) (by decide +kernel), List.mem_of_getElem? (i := 327) (by decide +kernel)⟩
theorem lw_p9 : lw_okq (⟨"PairSymbols", "settle", "(I)I"⟩, 9) := ⟨⟨by decide +kernel, by decide +kernel⟩, List.mem_of_getElem? (i := 16) (by decide +kernel), List.mem_of_getElem? (i := 340) (by decide +kernel), List.mem_of_getElem? (i := 341) (by decide +kernel)⟩
theorem lw_p10 : lw_okq (⟨"PairSymbols", "refuse", "(I)I"⟩, 9) := ⟨⟨by decide +kernel, by decide +kernel⟩, List.mem_of_getElem? (i := 16) (by decide +kernel), List.mem_of_getElem? (i := 344) (by decide +kernel), List.mem_of_getElem? (i := 345) (by decide +kernel)⟩
theorem lw_p11 : lw_okq (⟨"PairSymbols$History", "forgetOldest", "()V"⟩, 2) := ⟨⟨by decide +kernel, by decide +kernel⟩, List.mem_of_getElem? (i := 222) (by decide +kernel), List.mem_of_getElem? (i := 352) (by decide +kernel), List.mem_of_getElem? (i := 353) (by decide +kernel)⟩
theorem lw_p12 : lw_okq (⟨"PairSymbols$Operato\x72", "addTerms", "(LPairSymbols$Level;I)V"⟩, 5) := ⟨⟨by decide +kernel, by decide +kernel⟩, List.mem_of_getElem? (i := 398) (by decide +kernel), List.mem_of_getElem? (i := 406) (by decide +kernel), List.mem_of_getElem? (i := 407) (by decide +kernel)⟩
theorem lw_p13 : lw_okq (⟨"PairSymbols$Operato\x72", "addTerm", "(LPairSymbols$Level;IIII)V"⟩, 5) := ⟨⟨by decide +kernel, by decide +kernel⟩, List.mem_of_getElem? (i := 398) (by decide +kernel), List.mem_of_getElem? (i := 410) (by decide +kernel), List.mem_of_getElem? (i := 411) (by decide +kernel)⟩
theorem lw_p14 : lw_okq (⟨"PairSymbols$Operato\x72", "restrictTo", "(LPairSymbols$Cycles;)V"⟩, 5) := ⟨⟨by decide +kernel, by decide +kernel⟩, List.mem_of_getElem? (i := 398) (by decide +kernel), List.mem_of_getElem? (i := 415) (by decide +kernel), List.mem_of_getElem? (i := 416) (by decide +kernel)⟩
theorem lw_p15 : lw_okq (⟨"PairSymbols$Formulas", "oldForms", "(I)I"⟩, 1) := ⟨⟨by decide +kernel, by decide +kernel⟩, List.mem_of_getElem? (i := 276) (by decide +kernel), List.mem_of_getElem? (i := 530) (by decide +kernel), List.mem_of_getElem? (i := 531) (by decide +kernel)⟩
def lw_privs_1 : List (MethodName × Nat) := [(⟨"PairSymbols$Level", "numberPairs", "()I"⟩, 16), (⟨"PairSymbols$Level", "markClass", "(III)V"⟩, 16), (⟨"PairSymbols$Level", "listPairs", "()V"⟩, 16), (⟨"PairSymbols$Level", "listMaps", "()V"⟩, 16), (⟨"PairSymbols$Level", "numberCusps", "()I"⟩, 16), (⟨"PairSymbols$Level", "relateSymbols", "(LPairSymbols$Relations;)V"⟩, 16), (⟨"PairSymbols$Relations", "bind", "(I[I)V"⟩, 4), (⟨"PairSymbols$Level", "relateCoordinates", "(LPairSymbols$Relations;)V"⟩, 16), (⟨"PairSymbols", "ente\x72", "(I)I"⟩, 9), (⟨"PairSymbols", "settle", "(I)I"⟩, 9), (⟨"PairSymbols", "refuse", "(I)I"⟩, 9), (⟨"PairSymbols$History", "forgetOldest", "()V"⟩, 2), (⟨"PairSymbols$Operato\x72", "addTerms", "(LPairSymbols$Level;I)V"⟩, 5), (⟨"PairSymbols$Operato\x72", "addTerm", "(LPairSymbols$Level;IIII)V"⟩, 5), (⟨"PairSymbols$Operato\x72", "restrictTo", "(LPairSymbols$Cycles;)V"⟩, 5), (⟨"PairSymbols$Formulas", "oldForms", "(I)I"⟩, 1)]
theorem lw_r1 : ∀ q ∈ lw_privs_1, lw_okq q := List.forall_mem_cons.mpr ⟨lw_p0, List.forall_mem_cons.mpr ⟨lw_p1, List.forall_mem_cons.mpr ⟨lw_p2, List.forall_mem_cons.mpr ⟨lw_p3, List.forall_mem_cons.mpr ⟨lw_p4, List.forall_mem_cons.mpr ⟨lw_p5, List.forall_mem_cons.mpr ⟨lw_p6, List.forall_mem_cons.mpr ⟨lw_p7, List.forall_mem_cons.mpr ⟨lw_p8, List.forall_mem_cons.mpr ⟨lw_p9, List.forall_mem_cons.mpr ⟨lw_p10, List.forall_mem_cons.mpr ⟨lw_p11, List.forall_mem_cons.mpr ⟨lw_p12, List.forall_mem_cons.mpr ⟨lw_p13, List.forall_mem_cons.mpr ⟨lw_p14, List.forall_mem_cons.mpr ⟨lw_p15, fun _ h => absurd h List.not_mem_nil⟩⟩⟩⟩⟩⟩⟩⟩⟩⟩⟩⟩⟩⟩⟩⟩
theorem lw_p16 : lw_okq (⟨"PairSymbols$State", "addSymbol", "(II)V"⟩, 2) := ⟨⟨by decide +kernel, by decide +kernel⟩, List.mem_of_getElem? (i := 206) (by decide +kernel), List.mem_of_getElem? (i := 544) (by decide +kernel), List.mem_of_getElem? (i := 545) (by decide +kernel)⟩
theorem lw_p17 : lw_okq (⟨"PairSymbols$State", "verdict", "()I"⟩, 2) := ⟨⟨by decide +kernel, by decide +kernel⟩, List.mem_of_getElem? (i := 206) (by decide +kernel), List.mem_of_getElem? (i := 548) (by decide +kernel), List.mem_of_getElem? (i := 549) (by decide +kernel)⟩
theorem lw_p18 : lw_okq (⟨"PairSymbols$Script", "skipBlanks", "()V"⟩, 8) := ⟨⟨by decide +kernel, by decide +kernel⟩, List.mem_of_getElem? (i := 239) (by decide +kernel), List.mem_of_getElem? (i := 614) (by decide +kernel), List.mem_of_getElem? (i := 615) (by decide +kernel)⟩
theorem lw_p19 : lw_okq (⟨"PairSymbols$Script", "byteHere", "()I"⟩, 8) := ⟨⟨by decide +kernel, by decide +kernel⟩, List.mem_of_getElem? (i := 239) (by decide +kernel), List.mem_of_getElem? (i := 618) (by decide +kernel), List.mem_of_getElem? (i := 619) (by decide +kernel)⟩
theorem lw_p20 : lw_okq (⟨"PairSymbols$Script", "parseCommand", "()Z"⟩, 8) := ⟨⟨by decide +kernel, by decide +kernel⟩, List.mem_of_getElem? (i := 239) (by decide +kernel), List.mem_of_getElem? (i := 622) (by decide +kernel), List.mem_of_getElem? (i := 623) (by decide +kernel)⟩
theorem lw_p21 : lw_okq (⟨"PairSymbols$Script", "parseNumbe\x72", "(Z)Z"⟩, 8) := ⟨⟨by decide +kernel, by decide +kernel⟩, List.mem_of_getElem? (i := 239) (by decide +kernel), List.mem_of_getElem? (i := 629) (by decide +kernel), List.mem_of_getElem? (i := 630) (by decide +kernel)⟩
theorem lw_p22 : lw_okq (⟨"PairSymbols$Script", "digitHere", "()Z"⟩, 8) := ⟨⟨by decide +kernel, by decide +kernel⟩, List.mem_of_getElem? (i := 239) (by decide +kernel), List.mem_of_getElem? (i := 633) (by decide +kernel), List.mem_of_getElem? (i := 634) (by decide +kernel)⟩
theorem lw_p23 : lw_okq (⟨"PairSymbols", "perform", "(I)I"⟩, 9) := ⟨⟨by decide +kernel, by decide +kernel⟩, List.mem_of_getElem? (i := 16) (by decide +kernel), List.mem_of_getElem? (i := 638) (by decide +kernel), List.mem_of_getElem? (i := 639) (by decide +kernel)⟩
theorem lw_p24 : lw_okq (⟨"PairSymbolsModel", "zeroes", "()V"⟩, 51) := ⟨⟨by decide +kernel, by decide +kernel⟩, List.mem_of_getElem? (i := 665) (by decide +kernel), List.mem_of_getElem? (i := 672) (by decide +kernel), List.mem_of_getElem? (i := 673) (by decide +kernel)⟩
theorem lw_p25 : lw_okq (⟨"PairSymbolsModel", "refuses", "(I)I"⟩, 51) := ⟨⟨by decide +kernel, by decide +kernel⟩, List.mem_of_getElem? (i := 665) (by decide +kernel), List.mem_of_getElem? (i := 838) (by decide +kernel), List.mem_of_getElem? (i := 839) (by decide +kernel)⟩
theorem lw_p26 : lw_okq (⟨"PairSymbolsModel", "keep", "()V"⟩, 51) := ⟨⟨by decide +kernel, by decide +kernel⟩, List.mem_of_getElem? (i := 665) (by decide +kernel), List.mem_of_getElem? (i := 842) (by decide +kernel), List.mem_of_getElem? (i := 843) (by decide +kernel)⟩
theorem lw_p27 : lw_okq (⟨"PairSymbolsModel", "levelNow", "(I)I"⟩, 51) := ⟨⟨by decide +kernel, by decide +kernel⟩, List.mem_of_getElem? (i := 665) (by decide +kernel), List.mem_of_getElem? (i := 846) (by decide +kernel), List.mem_of_getElem? (i := 847) (by decide +kernel)⟩
theorem lw_p28 : lw_okq (⟨"PairSymbolsModel", "levelHere", "()I"⟩, 51) := ⟨⟨by decide +kernel, by decide +kernel⟩, List.mem_of_getElem? (i := 665) (by decide +kernel), List.mem_of_getElem? (i := 850) (by decide +kernel), List.mem_of_getElem? (i := 851) (by decide +kernel)⟩
theorem lw_p29 : lw_okq (⟨"PairSymbolsModel", "lays", "()V"⟩, 51) := ⟨⟨by decide +kernel, by decide +kernel⟩, List.mem_of_getElem? (i := 665) (by decide +kernel), List.mem_of_getElem? (i := 858) (by decide +kernel), List.mem_of_getElem? (i := 859) (by decide +kernel)⟩
theorem lw_p30 : lw_okq (⟨"PairSymbolsModel", "isPai\x72", "(II)Z"⟩, 51) := ⟨⟨by decide +kernel, by decide +kernel⟩, List.mem_of_getElem? (i := 665) (by decide +kernel), List.mem_of_getElem? (i := 862) (by decide +kernel), List.mem_of_getElem? (i := 863) (by decide +kernel)⟩
theorem lw_p31 : lw_okq (⟨"PairSymbolsModel", "of", "(II)I"⟩, 51) := ⟨⟨by decide +kernel, by decide +kernel⟩, List.mem_of_getElem? (i := 665) (by decide +kernel), List.mem_of_getElem? (i := 869) (by decide +kernel), List.mem_of_getElem? (i := 870) (by decide +kernel)⟩
def lw_privs_2 : List (MethodName × Nat) := [(⟨"PairSymbols$State", "addSymbol", "(II)V"⟩, 2), (⟨"PairSymbols$State", "verdict", "()I"⟩, 2), (⟨"PairSymbols$Script", "skipBlanks", "()V"⟩, 8), (⟨"PairSymbols$Script", "byteHere", "()I"⟩, 8), (⟨"PairSymbols$Script", "parseCommand", "()Z"⟩, 8), (⟨"PairSymbols$Script", "parseNumbe\x72", "(Z)Z"⟩, 8), (⟨"PairSymbols$Script", "digitHere", "()Z"⟩, 8), (⟨"PairSymbols", "perform", "(I)I"⟩, 9), (⟨"PairSymbolsModel", "zeroes", "()V"⟩, 51), (⟨"PairSymbolsModel", "refuses", "(I)I"⟩, 51), (⟨"PairSymbolsModel", "keep", "()V"⟩, 51), (⟨"PairSymbolsModel", "levelNow", "(I)I"⟩, 51), (⟨"PairSymbolsModel", "levelHere", "()I"⟩, 51), (⟨"PairSymbolsModel", "lays", "()V"⟩, 51), (⟨"PairSymbolsModel", "isPai\x72", "(II)Z"⟩, 51), (⟨"PairSymbolsModel", "of", "(II)I"⟩, 51)]
theorem lw_r2 : ∀ q ∈ lw_privs_2, lw_okq q := List.forall_mem_cons.mpr ⟨lw_p16, List.forall_mem_cons.mpr ⟨lw_p17, List.forall_mem_cons.mpr ⟨lw_p18, List.forall_mem_cons.mpr ⟨lw_p19, List.forall_mem_cons.mpr ⟨lw_p20, List.forall_mem_cons.mpr ⟨lw_p21, List.forall_mem_cons.mpr ⟨lw_p22, List.forall_mem_cons.mpr ⟨lw_p23, List.forall_mem_cons.mpr ⟨lw_p24, List.forall_mem_cons.mpr ⟨lw_p25, List.forall_mem_cons.mpr ⟨lw_p26, List.forall_mem_cons.mpr ⟨lw_p27, List.forall_mem_cons.mpr ⟨lw_p28, List.forall_mem_cons.mpr ⟨lw_p29, List.forall_mem_cons.mpr ⟨lw_p30, List.forall_mem_cons.mpr ⟨lw_p31, fun _ h => absurd h List.not_mem_nil⟩⟩⟩⟩⟩⟩⟩⟩⟩⟩⟩⟩⟩⟩⟩⟩
theorem lw_p32 : lw_okq (⟨"PairSymbolsModel", "countsIn", "(II)V"⟩, 51) := ⟨⟨by decide +kernel, by decide +kernel⟩, List.mem_of_getElem? (i := 665) (by decide +kernel), List.mem_of_getElem? (i := 876) (by decide +kernel), List.mem_of_getElem? (i := 877) (by decide +kernel)⟩
theorem lw_p33 : lw_okq (⟨"PairSymbolsModel", "laysCusps", "()V"⟩, 51) := ⟨⟨by decide +kernel, by decide +kernel⟩, List.mem_of_getElem? (i := 665) (by decide +kernel), List.mem_of_getElem? (i := 880) (by decide +kernel), List.mem_of_getElem? (i := 881) (by decide +kernel)⟩
theorem lw_p34 : lw_okq (⟨"PairSymbolsModel", "u", "(I)I"⟩, 51) := ⟨⟨by decide +kernel, by decide +kernel⟩, List.mem_of_getElem? (i := 665) (by decide +kernel), List.mem_of_getElem? (i := 884) (by decide +kernel), List.mem_of_getElem? (i := 885) (by decide +kernel)⟩
theorem lw_p35 : lw_okq (⟨"PairSymbolsModel", "laysRelations", "()V"⟩, 51) := ⟨⟨by decide +kernel, by decide +kernel⟩, List.mem_of_getElem? (i := 665) (by decide +kernel), List.mem_of_getElem? (i := 888) (by decide +kernel), List.mem_of_getElem? (i := 889) (by decide +kernel)⟩
theorem lw_p36 : lw_okq (⟨"PairSymbolsModel", "emptiesRow", "()V"⟩, 51) := ⟨⟨by decide +kernel, by decide +kernel⟩, List.mem_of_getElem? (i := 665) (by decide +kernel), List.mem_of_getElem? (i := 892) (by decide +kernel), List.mem_of_getElem? (i := 893) (by decide +kernel)⟩
theorem lw_p37 : lw_okq (⟨"PairSymbolsModel", "addsOne", "(I)V"⟩, 51) := ⟨⟨by decide +kernel, by decide +kernel⟩, List.mem_of_getElem? (i := 665) (by decide +kernel), List.mem_of_getElem? (i := 896) (by decide +kernel), List.mem_of_getElem? (i := 897) (by decide +kernel)⟩
theorem lw_p38 : lw_okq (⟨"PairSymbolsModel", "sumOf", "(JJJJ)V"⟩, 51) := ⟨⟨by decide +kernel, by decide +kernel⟩, List.mem_of_getElem? (i := 665) (by decide +kernel), List.mem_of_getElem? (i := 900) (by decide +kernel), List.mem_of_getElem? (i := 901) (by decide +kernel)⟩
theorem lw_p39 : lw_okq (⟨"PairSymbolsModel", "lowest", "(JJ)V"⟩, 51) := ⟨⟨by decide +kernel, by decide +kernel⟩, List.mem_of_getElem? (i := 665) (by decide +kernel), List.mem_of_getElem? (i := 904) (by decide +kernel), List.mem_of_getElem? (i := 905) (by decide +kernel)⟩
theorem lw_p40 : lw_okq (⟨"PairSymbolsModel", "s", "(I)I"⟩, 51) := ⟨⟨by decide +kernel, by decide +kernel⟩, List.mem_of_getElem? (i := 665) (by decide +kernel), List.mem_of_getElem? (i := 908) (by decide +kernel), List.mem_of_getElem? (i := 909) (by decide +kernel)⟩
theorem lw_p41 : lw_okq (⟨"PairSymbolsModel", "relates", "()V"⟩, 51) := ⟨⟨by decide +kernel, by decide +kernel⟩, List.mem_of_getElem? (i := 665) (by decide +kernel), List.mem_of_getElem? (i := 912) (by decide +kernel), List.mem_of_getElem? (i := 913) (by decide +kernel)⟩
theorem lw_p42 : lw_okq (⟨"PairSymbolsModel", "lowers", "()V"⟩, 51) := ⟨⟨by decide +kernel, by decide +kernel⟩, List.mem_of_getElem? (i := 665) (by decide +kernel), List.mem_of_getElem? (i := 916) (by decide +kernel), List.mem_of_getElem? (i := 917) (by decide +kernel)⟩
theorem lw_p43 : lw_okq (⟨"PairSymbolsModel", "more", "(JJJJJJ)V"⟩, 51) := ⟨⟨by decide +kernel, by decide +kernel⟩, List.mem_of_getElem? (i := 665) (by decide +kernel), List.mem_of_getElem? (i := 920) (by decide +kernel), List.mem_of_getElem? (i := 921) (by decide +kernel)⟩
theorem lw_p44 : lw_okq (⟨"PairSymbolsModel", "\x72", "(I)I"⟩, 51) := ⟨⟨by decide +kernel, by decide +kernel⟩, List.mem_of_getElem? (i := 665) (by decide +kernel), List.mem_of_getElem? (i := 924) (by decide +kernel), List.mem_of_getElem? (i := 925) (by decide +kernel)⟩
theorem lw_p45 : lw_okq (⟨"PairSymbolsModel", "laysFree", "()V"⟩, 51) := ⟨⟨by decide +kernel, by decide +kernel⟩, List.mem_of_getElem? (i := 665) (by decide +kernel), List.mem_of_getElem? (i := 928) (by decide +kernel), List.mem_of_getElem? (i := 929) (by decide +kernel)⟩
theorem lw_p46 : lw_okq (⟨"PairSymbolsModel", "isSymbol", "(I)Z"⟩, 51) := ⟨⟨by decide +kernel, by decide +kernel⟩, List.mem_of_getElem? (i := 665) (by decide +kernel), List.mem_of_getElem? (i := 936) (by decide +kernel), List.mem_of_getElem? (i := 937) (by decide +kernel)⟩
theorem lw_p47 : lw_okq (⟨"PairSymbolsModel", "symbolNow", "(II)I"⟩, 51) := ⟨⟨by decide +kernel, by decide +kernel⟩, List.mem_of_getElem? (i := 665) (by decide +kernel), List.mem_of_getElem? (i := 941) (by decide +kernel), List.mem_of_getElem? (i := 942) (by decide +kernel)⟩
def lw_privs_3 : List (MethodName × Nat) := [(⟨"PairSymbolsModel", "countsIn", "(II)V"⟩, 51), (⟨"PairSymbolsModel", "laysCusps", "()V"⟩, 51), (⟨"PairSymbolsModel", "u", "(I)I"⟩, 51), (⟨"PairSymbolsModel", "laysRelations", "()V"⟩, 51), (⟨"PairSymbolsModel", "emptiesRow", "()V"⟩, 51), (⟨"PairSymbolsModel", "addsOne", "(I)V"⟩, 51), (⟨"PairSymbolsModel", "sumOf", "(JJJJ)V"⟩, 51), (⟨"PairSymbolsModel", "lowest", "(JJ)V"⟩, 51), (⟨"PairSymbolsModel", "s", "(I)I"⟩, 51), (⟨"PairSymbolsModel", "relates", "()V"⟩, 51), (⟨"PairSymbolsModel", "lowers", "()V"⟩, 51), (⟨"PairSymbolsModel", "more", "(JJJJJJ)V"⟩, 51), (⟨"PairSymbolsModel", "\x72", "(I)I"⟩, 51), (⟨"PairSymbolsModel", "laysFree", "()V"⟩, 51), (⟨"PairSymbolsModel", "isSymbol", "(I)Z"⟩, 51), (⟨"PairSymbolsModel", "symbolNow", "(II)I"⟩, 51)]
theorem lw_r3 : ∀ q ∈ lw_privs_3, lw_okq q := List.forall_mem_cons.mpr ⟨lw_p32, List.forall_mem_cons.mpr ⟨lw_p33, List.forall_mem_cons.mpr ⟨lw_p34, List.forall_mem_cons.mpr ⟨lw_p35, List.forall_mem_cons.mpr ⟨lw_p36, List.forall_mem_cons.mpr ⟨lw_p37, List.forall_mem_cons.mpr ⟨lw_p38, List.forall_mem_cons.mpr ⟨lw_p39, List.forall_mem_cons.mpr ⟨lw_p40, List.forall_mem_cons.mpr ⟨lw_p41, List.forall_mem_cons.mpr ⟨lw_p42, List.forall_mem_cons.mpr ⟨lw_p43, List.forall_mem_cons.mpr ⟨lw_p44, List.forall_mem_cons.mpr ⟨lw_p45, List.forall_mem_cons.mpr ⟨lw_p46, List.forall_mem_cons.mpr ⟨lw_p47, fun _ h => absurd h List.not_mem_nil⟩⟩⟩⟩⟩⟩⟩⟩⟩⟩⟩⟩⟩⟩⟩⟩
theorem lw_p48 : lw_okq (⟨"PairSymbolsModel", "spaceNow", "(I)I"⟩, 51) := ⟨⟨by decide +kernel, by decide +kernel⟩, List.mem_of_getElem? (i := 665) (by decide +kernel), List.mem_of_getElem? (i := 956) (by decide +kernel), List.mem_of_getElem? (i := 957) (by decide +kernel)⟩
theorem lw_p49 : lw_okq (⟨"PairSymbolsModel", "genus", "()I"⟩, 51) := ⟨⟨by decide +kernel, by decide +kernel⟩, List.mem_of_getElem? (i := 665) (by decide +kernel), List.mem_of_getElem? (i := 960) (by decide +kernel), List.mem_of_getElem? (i := 961) (by decide +kernel)⟩
theorem lw_p50 : lw_okq (⟨"PairSymbolsModel", "laysCuspidals", "()V"⟩, 51) := ⟨⟨by decide +kernel, by decide +kernel⟩, List.mem_of_getElem? (i := 665) (by decide +kernel), List.mem_of_getElem? (i := 964) (by decide +kernel), List.mem_of_getElem? (i := 965) (by decide +kernel)⟩
theorem lw_p51 : lw_okq (⟨"PairSymbolsModel", "solvesBoundary", "()V"⟩, 51) := ⟨⟨by decide +kernel, by decide +kernel⟩, List.mem_of_getElem? (i := 665) (by decide +kernel), List.mem_of_getElem? (i := 968) (by decide +kernel), List.mem_of_getElem? (i := 969) (by decide +kernel)⟩
theorem lw_p52 : lw_okq (⟨"PairSymbolsModel", "boundaryOf", "(II)I"⟩, 51) := ⟨⟨by decide +kernel, by decide +kernel⟩, List.mem_of_getElem? (i := 665) (by decide +kernel), List.mem_of_getElem? (i := 972) (by decide +kernel), List.mem_of_getElem? (i := 973) (by decide +kernel)⟩
theorem lw_p53 : lw_okq (⟨"PairSymbolsModel", "exchanges", "(II)V"⟩, 51) := ⟨⟨by decide +kernel, by decide +kernel⟩, List.mem_of_getElem? (i := 665) (by decide +kernel), List.mem_of_getElem? (i := 976) (by decide +kernel), List.mem_of_getElem? (i := 977) (by decide +kernel)⟩
theorem lw_p54 : lw_okq (⟨"PairSymbolsModel", "divides", "(II)V"⟩, 51) := ⟨⟨by decide +kernel, by decide +kernel⟩, List.mem_of_getElem? (i := 665) (by decide +kernel), List.mem_of_getElem? (i := 980) (by decide +kernel), List.mem_of_getElem? (i := 981) (by decide +kernel)⟩
theorem lw_p55 : lw_okq (⟨"PairSymbolsModel", "takesOff", "(IIJJ)V"⟩, 51) := ⟨⟨by decide +kernel, by decide +kernel⟩, List.mem_of_getElem? (i := 665) (by decide +kernel), List.mem_of_getElem? (i := 984) (by decide +kernel), List.mem_of_getElem? (i := 985) (by decide +kernel)⟩
theorem lw_p56 : lw_okq (⟨"PairSymbolsModel", "plain", "()I"⟩, 51) := ⟨⟨by decide +kernel, by decide +kernel⟩, List.mem_of_getElem? (i := 665) (by decide +kernel), List.mem_of_getElem? (i := 988) (by decide +kernel), List.mem_of_getElem? (i := 989) (by decide +kernel)⟩
theorem lw_p57 : lw_okq (⟨"PairSymbolsModel", "canOperate", "(I)I"⟩, 51) := ⟨⟨by decide +kernel, by decide +kernel⟩, List.mem_of_getElem? (i := 665) (by decide +kernel), List.mem_of_getElem? (i := 1000) (by decide +kernel), List.mem_of_getElem? (i := 1001) (by decide +kernel)⟩
theorem lw_p58 : lw_okq (⟨"PairSymbolsModel", "laysOperato\x72", "(I)V"⟩, 51) := ⟨⟨by decide +kernel, by decide +kernel⟩, List.mem_of_getElem? (i := 665) (by decide +kernel), List.mem_of_getElem? (i := 1005) (by decide +kernel), List.mem_of_getElem? (i := 1006) (by decide +kernel)⟩
theorem lw_p59 : lw_okq (⟨"PairSymbolsModel", "laysImage", "(II)V"⟩, 51) := ⟨⟨by decide +kernel, by decide +kernel⟩, List.mem_of_getElem? (i := 665) (by decide +kernel), List.mem_of_getElem? (i := 1009) (by decide +kernel), List.mem_of_getElem? (i := 1010) (by decide +kernel)⟩
theorem lw_p60 : lw_okq (⟨"PairSymbolsModel", "addsImage", "(I)V"⟩, 51) := ⟨⟨by decide +kernel, by decide +kernel⟩, List.mem_of_getElem? (i := 665) (by decide +kernel), List.mem_of_getElem? (i := 1013) (by decide +kernel), List.mem_of_getElem? (i := 1014) (by decide +kernel)⟩
theorem lw_p61 : lw_okq (⟨"PairSymbolsModel", "refusesBy", "(IJ)J"⟩, 51) := ⟨⟨by decide +kernel, by decide +kernel⟩, List.mem_of_getElem? (i := 665) (by decide +kernel), List.mem_of_getElem? (i := 1021) (by decide +kernel), List.mem_of_getElem? (i := 1022) (by decide +kernel)⟩
theorem lw_p62 : lw_okq (⟨"PairSymbolsModel", "laysTable", "(IZ)V"⟩, 51) := ⟨⟨by decide +kernel, by decide +kernel⟩, List.mem_of_getElem? (i := 665) (by decide +kernel), List.mem_of_getElem? (i := 1026) (by decide +kernel), List.mem_of_getElem? (i := 1027) (by decide +kernel)⟩
theorem lw_p63 : lw_okq (⟨"PairSymbolsModel", "diagonal", "()J"⟩, 51) := ⟨⟨by decide +kernel, by decide +kernel⟩, List.mem_of_getElem? (i := 665) (by decide +kernel), List.mem_of_getElem? (i := 1030) (by decide +kernel), List.mem_of_getElem? (i := 1031) (by decide +kernel)⟩
def lw_privs_4 : List (MethodName × Nat) := [(⟨"PairSymbolsModel", "spaceNow", "(I)I"⟩, 51), (⟨"PairSymbolsModel", "genus", "()I"⟩, 51), (⟨"PairSymbolsModel", "laysCuspidals", "()V"⟩, 51), (⟨"PairSymbolsModel", "solvesBoundary", "()V"⟩, 51), (⟨"PairSymbolsModel", "boundaryOf", "(II)I"⟩, 51), (⟨"PairSymbolsModel", "exchanges", "(II)V"⟩, 51), (⟨"PairSymbolsModel", "divides", "(II)V"⟩, 51), (⟨"PairSymbolsModel", "takesOff", "(IIJJ)V"⟩, 51), (⟨"PairSymbolsModel", "plain", "()I"⟩, 51), (⟨"PairSymbolsModel", "canOperate", "(I)I"⟩, 51), (⟨"PairSymbolsModel", "laysOperato\x72", "(I)V"⟩, 51), (⟨"PairSymbolsModel", "laysImage", "(II)V"⟩, 51), (⟨"PairSymbolsModel", "addsImage", "(I)V"⟩, 51), (⟨"PairSymbolsModel", "refusesBy", "(IJ)J"⟩, 51), (⟨"PairSymbolsModel", "laysTable", "(IZ)V"⟩, 51), (⟨"PairSymbolsModel", "diagonal", "()J"⟩, 51)]
theorem lw_r4 : ∀ q ∈ lw_privs_4, lw_okq q := List.forall_mem_cons.mpr ⟨lw_p48, List.forall_mem_cons.mpr ⟨lw_p49, List.forall_mem_cons.mpr ⟨lw_p50, List.forall_mem_cons.mpr ⟨lw_p51, List.forall_mem_cons.mpr ⟨lw_p52, List.forall_mem_cons.mpr ⟨lw_p53, List.forall_mem_cons.mpr ⟨lw_p54, List.forall_mem_cons.mpr ⟨lw_p55, List.forall_mem_cons.mpr ⟨lw_p56, List.forall_mem_cons.mpr ⟨lw_p57, List.forall_mem_cons.mpr ⟨lw_p58, List.forall_mem_cons.mpr ⟨lw_p59, List.forall_mem_cons.mpr ⟨lw_p60, List.forall_mem_cons.mpr ⟨lw_p61, List.forall_mem_cons.mpr ⟨lw_p62, List.forall_mem_cons.mpr ⟨lw_p63, fun _ h => absurd h List.not_mem_nil⟩⟩⟩⟩⟩⟩⟩⟩⟩⟩⟩⟩⟩⟩⟩⟩
theorem lw_p64 : lw_okq (⟨"PairSymbolsModel", "laysTrace", "()V"⟩, 51) := ⟨⟨by decide +kernel, by decide +kernel⟩, List.mem_of_getElem? (i := 665) (by decide +kernel), List.mem_of_getElem? (i := 1034) (by decide +kernel), List.mem_of_getElem? (i := 1035) (by decide +kernel)⟩
theorem lw_p65 : lw_okq (⟨"PairSymbolsModel", "laysPolynomial", "()V"⟩, 51) := ⟨⟨by decide +kernel, by decide +kernel⟩, List.mem_of_getElem? (i := 665) (by decide +kernel), List.mem_of_getElem? (i := 1044) (by decide +kernel), List.mem_of_getElem? (i := 1045) (by decide +kernel)⟩
theorem lw_p66 : lw_okq (⟨"PairSymbolsModel", "multiplies", "()V"⟩, 51) := ⟨⟨by decide +kernel, by decide +kernel⟩, List.mem_of_getElem? (i := 665) (by decide +kernel), List.mem_of_getElem? (i := 1048) (by decide +kernel), List.mem_of_getElem? (i := 1049) (by decide +kernel)⟩
theorem lw_p67 : lw_okq (⟨"PairSymbolsModel", "rootOf", "(I)I"⟩, 51) := ⟨⟨by decide +kernel, by decide +kernel⟩, List.mem_of_getElem? (i := 665) (by decide +kernel), List.mem_of_getElem? (i := 1058) (by decide +kernel), List.mem_of_getElem? (i := 1059) (by decide +kernel)⟩
theorem lw_p68 : lw_okq (⟨"PairSymbolsModel", "formulaNow", "(II)I"⟩, 51) := ⟨⟨by decide +kernel, by decide +kernel⟩, List.mem_of_getElem? (i := 665) (by decide +kernel), List.mem_of_getElem? (i := 1068) (by decide +kernel), List.mem_of_getElem? (i := 1069) (by decide +kernel)⟩
theorem lw_p69 : lw_okq (⟨"PairSymbolsModel", "freshOf", "(I)I"⟩, 51) := ⟨⟨by decide +kernel, by decide +kernel⟩, List.mem_of_getElem? (i := 665) (by decide +kernel), List.mem_of_getElem? (i := 1087) (by decide +kernel), List.mem_of_getElem? (i := 1088) (by decide +kernel)⟩
theorem lw_p70 : lw_okq (⟨"PairSymbolsModel", "canAdd", "(II)I"⟩, 51) := ⟨⟨by decide +kernel, by decide +kernel⟩, List.mem_of_getElem? (i := 665) (by decide +kernel), List.mem_of_getElem? (i := 1095) (by decide +kernel), List.mem_of_getElem? (i := 1096) (by decide +kernel)⟩
theorem lw_p71 : lw_okq (⟨"PairSymbolsModel", "laysSum", "()V"⟩, 51) := ⟨⟨by decide +kernel, by decide +kernel⟩, List.mem_of_getElem? (i := 665) (by decide +kernel), List.mem_of_getElem? (i := 1101) (by decide +kernel), List.mem_of_getElem? (i := 1102) (by decide +kernel)⟩
theorem lw_p72 : lw_okq (⟨"PairSymbolsModel", "addsTo", "(IJ)V"⟩, 51) := ⟨⟨by decide +kernel, by decide +kernel⟩, List.mem_of_getElem? (i := 665) (by decide +kernel), List.mem_of_getElem? (i := 1105) (by decide +kernel), List.mem_of_getElem? (i := 1106) (by decide +kernel)⟩
theorem lw_p73 : lw_okq (⟨"PairSymbolsModel", "canBe", "()I"⟩, 51) := ⟨⟨by decide +kernel, by decide +kernel⟩, List.mem_of_getElem? (i := 665) (by decide +kernel), List.mem_of_getElem? (i := 1109) (by decide +kernel), List.mem_of_getElem? (i := 1110) (by decide +kernel)⟩
theorem lw_p74 : lw_okq (⟨"PairSymbolsModel", "becomes", "()I"⟩, 51) := ⟨⟨by decide +kernel, by decide +kernel⟩, List.mem_of_getElem? (i := 665) (by decide +kernel), List.mem_of_getElem? (i := 1115) (by decide +kernel), List.mem_of_getElem? (i := 1116) (by decide +kernel)⟩
theorem lw_p75 : lw_okq (⟨"PairSymbolsModel", "canApply", "(I)I"⟩, 51) := ⟨⟨by decide +kernel, by decide +kernel⟩, List.mem_of_getElem? (i := 665) (by decide +kernel), List.mem_of_getElem? (i := 1123) (by decide +kernel), List.mem_of_getElem? (i := 1124) (by decide +kernel)⟩
theorem lw_p76 : lw_okq (⟨"PairSymbolsModel", "canWalk", "(II)I"⟩, 51) := ⟨⟨by decide +kernel, by decide +kernel⟩, List.mem_of_getElem? (i := 665) (by decide +kernel), List.mem_of_getElem? (i := 1131) (by decide +kernel), List.mem_of_getElem? (i := 1132) (by decide +kernel)⟩
theorem lw_p77 : lw_okq (⟨"PairSymbolsModel", "laysBoundary", "(I)V"⟩, 51) := ⟨⟨by decide +kernel, by decide +kernel⟩, List.mem_of_getElem? (i := 665) (by decide +kernel), List.mem_of_getElem? (i := 1144) (by decide +kernel), List.mem_of_getElem? (i := 1145) (by decide +kernel)⟩
theorem lw_p78 : lw_okq (⟨"PairSymbolsModel", "isCuspidal", "()Z"⟩, 51) := ⟨⟨by decide +kernel, by decide +kernel⟩, List.mem_of_getElem? (i := 665) (by decide +kernel), List.mem_of_getElem? (i := 1152) (by decide +kernel), List.mem_of_getElem? (i := 1153) (by decide +kernel)⟩
theorem lw_p79 : lw_okq (⟨"PairSymbolsModel", "readsOrde\x72", "(Z)Z"⟩, 51) := ⟨⟨by decide +kernel, by decide +kernel⟩, List.mem_of_getElem? (i := 665) (by decide +kernel), List.mem_of_getElem? (i := 1169) (by decide +kernel), List.mem_of_getElem? (i := 1170) (by decide +kernel)⟩
def lw_privs_5 : List (MethodName × Nat) := [(⟨"PairSymbolsModel", "laysTrace", "()V"⟩, 51), (⟨"PairSymbolsModel", "laysPolynomial", "()V"⟩, 51), (⟨"PairSymbolsModel", "multiplies", "()V"⟩, 51), (⟨"PairSymbolsModel", "rootOf", "(I)I"⟩, 51), (⟨"PairSymbolsModel", "formulaNow", "(II)I"⟩, 51), (⟨"PairSymbolsModel", "freshOf", "(I)I"⟩, 51), (⟨"PairSymbolsModel", "canAdd", "(II)I"⟩, 51), (⟨"PairSymbolsModel", "laysSum", "()V"⟩, 51), (⟨"PairSymbolsModel", "addsTo", "(IJ)V"⟩, 51), (⟨"PairSymbolsModel", "canBe", "()I"⟩, 51), (⟨"PairSymbolsModel", "becomes", "()I"⟩, 51), (⟨"PairSymbolsModel", "canApply", "(I)I"⟩, 51), (⟨"PairSymbolsModel", "canWalk", "(II)I"⟩, 51), (⟨"PairSymbolsModel", "laysBoundary", "(I)V"⟩, 51), (⟨"PairSymbolsModel", "isCuspidal", "()Z"⟩, 51), (⟨"PairSymbolsModel", "readsOrde\x72", "(Z)Z"⟩, 51)]
theorem lw_r5 : ∀ q ∈ lw_privs_5, lw_okq q := List.forall_mem_cons.mpr ⟨lw_p64, List.forall_mem_cons.mpr ⟨lw_p65, List.forall_mem_cons.mpr ⟨lw_p66, List.forall_mem_cons.mpr ⟨lw_p67, List.forall_mem_cons.mpr ⟨lw_p68, List.forall_mem_cons.mpr ⟨lw_p69, List.forall_mem_cons.mpr ⟨lw_p70, List.forall_mem_cons.mpr ⟨lw_p71, List.forall_mem_cons.mpr ⟨lw_p72, List.forall_mem_cons.mpr ⟨lw_p73, List.forall_mem_cons.mpr ⟨lw_p74, List.forall_mem_cons.mpr ⟨lw_p75, List.forall_mem_cons.mpr ⟨lw_p76, List.forall_mem_cons.mpr ⟨lw_p77, List.forall_mem_cons.mpr ⟨lw_p78, List.forall_mem_cons.mpr ⟨lw_p79, fun _ h => absurd h List.not_mem_nil⟩⟩⟩⟩⟩⟩⟩⟩⟩⟩⟩⟩⟩⟩⟩⟩
theorem lw_p80 : lw_okq (⟨"PairSymbolsModel", "here", "()I"⟩, 51) := ⟨⟨by decide +kernel, by decide +kernel⟩, List.mem_of_getElem? (i := 665) (by decide +kernel), List.mem_of_getElem? (i := 1173) (by decide +kernel), List.mem_of_getElem? (i := 1174) (by decide +kernel)⟩
theorem lw_p81 : lw_okq (⟨"PairSymbolsModel", "takesNumbers", "(I)Z"⟩, 51) := ⟨⟨by decide +kernel, by decide +kernel⟩, List.mem_of_getElem? (i := 665) (by decide +kernel), List.mem_of_getElem? (i := 1177) (by decide +kernel), List.mem_of_getElem? (i := 1178) (by decide +kernel)⟩
theorem lw_p82 : lw_okq (⟨"PairSymbolsModel", "takes", "(Z)Z"⟩, 51) := ⟨⟨by decide +kernel, by decide +kernel⟩, List.mem_of_getElem? (i := 665) (by decide +kernel), List.mem_of_getElem? (i := 1181) (by decide +kernel), List.mem_of_getElem? (i := 1182) (by decide +kernel)⟩
theorem lw_p83 : lw_okq (⟨"PairSymbolsModel", "isFigure", "(I)Z"⟩, 51) := ⟨⟨by decide +kernel, by decide +kernel⟩, List.mem_of_getElem? (i := 665) (by decide +kernel), List.mem_of_getElem? (i := 1185) (by decide +kernel), List.mem_of_getElem? (i := 1186) (by decide +kernel)⟩
theorem lw_p84 : lw_okq (⟨"PairSymbolsModel", "can", "(I)I"⟩, 51) := ⟨⟨by decide +kernel, by decide +kernel⟩, List.mem_of_getElem? (i := 665) (by decide +kernel), List.mem_of_getElem? (i := 1191) (by decide +kernel), List.mem_of_getElem? (i := 1192) (by decide +kernel)⟩
theorem lw_p85 : lw_okq (⟨"PairSymbolsModel", "does", "(I)I"⟩, 51) := ⟨⟨by decide +kernel, by decide +kernel⟩, List.mem_of_getElem? (i := 665) (by decide +kernel), List.mem_of_getElem? (i := 1195) (by decide +kernel), List.mem_of_getElem? (i := 1196) (by decide +kernel)⟩
theorem lw_p86 : lw_okq (⟨"PairSymbolsModel", "keepsAside", "()V"⟩, 51) := ⟨⟨by decide +kernel, by decide +kernel⟩, List.mem_of_getElem? (i := 665) (by decide +kernel), List.mem_of_getElem? (i := 1199) (by decide +kernel), List.mem_of_getElem? (i := 1200) (by decide +kernel)⟩
theorem lw_p87 : lw_okq (⟨"PairSymbolsModel", "toldOf", "(I)I"⟩, 51) := ⟨⟨by decide +kernel, by decide +kernel⟩, List.mem_of_getElem? (i := 665) (by decide +kernel), List.mem_of_getElem? (i := 1211) (by decide +kernel), List.mem_of_getElem? (i := 1212) (by decide +kernel)⟩
def lw_privs_6 : List (MethodName × Nat) := [(⟨"PairSymbolsModel", "here", "()I"⟩, 51), (⟨"PairSymbolsModel", "takesNumbers", "(I)Z"⟩, 51), (⟨"PairSymbolsModel", "takes", "(Z)Z"⟩, 51), (⟨"PairSymbolsModel", "isFigure", "(I)Z"⟩, 51), (⟨"PairSymbolsModel", "can", "(I)I"⟩, 51), (⟨"PairSymbolsModel", "does", "(I)I"⟩, 51), (⟨"PairSymbolsModel", "keepsAside", "()V"⟩, 51), (⟨"PairSymbolsModel", "toldOf", "(I)I"⟩, 51)]
theorem lw_r6 : ∀ q ∈ lw_privs_6, lw_okq q := List.forall_mem_cons.mpr ⟨lw_p80, List.forall_mem_cons.mpr ⟨lw_p81, List.forall_mem_cons.mpr ⟨lw_p82, List.forall_mem_cons.mpr ⟨lw_p83, List.forall_mem_cons.mpr ⟨lw_p84, List.forall_mem_cons.mpr ⟨lw_p85, List.forall_mem_cons.mpr ⟨lw_p86, List.forall_mem_cons.mpr ⟨lw_p87, fun _ h => absurd h List.not_mem_nil⟩⟩⟩⟩⟩⟩⟩⟩
def lw_privs : List (MethodName × Nat) := lw_privs_1 ++ (lw_privs_2 ++ (lw_privs_3 ++ (lw_privs_4 ++ (lw_privs_5 ++ (lw_privs_6)))))
def lw_tbl : List Cond := k2_sels lw_privs ++ tables_1
theorem lw_privs_ok : ∀ q ∈ lw_privs, lw_okq q := by
  show ∀ q ∈ lw_privs_1 ++ (lw_privs_2 ++ (lw_privs_3 ++ (lw_privs_4 ++ (lw_privs_5 ++ (lw_privs_6))))), lw_okq q
  exact List.forall_mem_append.mpr ⟨lw_r1, List.forall_mem_append.mpr ⟨lw_r2, List.forall_mem_append.mpr ⟨lw_r3, List.forall_mem_append.mpr ⟨lw_r4, List.forall_mem_append.mpr ⟨lw_r5, lw_r6⟩⟩⟩⟩⟩

def RX0 : String := "PairSymbols$Cycles"
def TX0 : u_T := fun k => match k with
  | 0 => ("PairSymbols$Cycles", "free", "[I", true)
  | _ => ("PairSymbols$Cycles", "basis", "[[I", true)
def tyX0 : Nat → FieldType := fun k => match k with
  | 0 => .array .int
  | _ => .array (.array .int)
abbrev wsX00 : List Cond := u_ws RX0 TX0 2
theorem nmX0 : ∀ a, a < 2 → ∀ b, b < 2 → a ≠ b → (TX0 a).2.1 ≠ (TX0 b).2.1 := by decide +kernel
theorem tyX0_ok : ∀ k, k < 2 → parseFieldDescriptor (TX0 k).2.2.1 = some (tyX0 k) := by decide +kernel
abbrev cX0_init : ByteArray := prog_2_method_1_code
def yX0_init : MethodName := ⟨RX0, "<init>", "(LPairSymbols$Relations;)V"⟩
def RX1 : String := "PairSymbols$Formulas"
def TX1 : u_T := fun k => match k with
  | _ => ("PairSymbols$Formulas", "news", "[I", true)
def tyX1 : Nat → FieldType := fun k => match k with
  | _ => .array .int
abbrev wsX10 : List Cond := u_ws RX1 TX1 1
theorem nmX1 : ∀ a, a < 1 → ∀ b, b < 1 → a ≠ b → (TX1 a).2.1 ≠ (TX1 b).2.1 := by decide +kernel
theorem tyX1_ok : ∀ k, k < 1 → parseFieldDescriptor (TX1 k).2.2.1 = some (tyX1 k) := by decide +kernel
abbrev cX1_init : ByteArray := prog_3_method_1_code
def yX1_init : MethodName := ⟨RX1, "<init>", "()V"⟩
abbrev cX1_index : ByteArray := prog_3_method_2_code
def yX1_index : MethodName := ⟨RX1, "index", "(I)I"⟩
abbrev cX1_orderTwo : ByteArray := prog_3_method_3_code
def yX1_orderTwo : MethodName := ⟨RX1, "orderTwo", "(I)I"⟩
abbrev cX1_orderThree : ByteArray := prog_3_method_4_code
def yX1_orderThree : MethodName := ⟨RX1, "orderThree", "(I)I"⟩
abbrev cX1_ends : ByteArray := prog_3_method_5_code
def yX1_ends : MethodName := ⟨RX1, "ends", "(I)I"⟩
abbrev cX1_forms : ByteArray := prog_3_method_6_code
def yX1_forms : MethodName := ⟨RX1, "forms", "(I)I"⟩
abbrev cX1_newForms : ByteArray := prog_3_method_7_code
def yX1_newForms : MethodName := ⟨RX1, "newForms", "(I)I"⟩
abbrev cX1_oldForms : ByteArray := prog_3_method_8_code
def yX1_oldForms : MethodName := ⟨RX1, "oldForms", "(I)I"⟩
abbrev cX1_divisors : ByteArray := prog_3_method_9_code
def yX1_divisors : MethodName := ⟨RX1, "divisors", "(I)I"⟩
abbrev cX1_coprimes : ByteArray := prog_3_method_10_code
def yX1_coprimes : MethodName := ⟨RX1, "coprimes", "(I)I"⟩
abbrev cX1_primeDivides : ByteArray := prog_3_method_11_code
def yX1_primeDivides : MethodName := ⟨RX1, "primeDivides", "(II)Z"⟩
def RX2 : String := "PairSymbols$History"
def TX2 : u_T := fun k => match k with
  | 0 => ("PairSymbols$History", "kept", "[LPairSymbols$State;", true)
  | _ => ("PairSymbols$History", "count", "I", false)
def tyX2 : Nat → FieldType := fun k => match k with
  | 0 => .array (.object "PairSymbols$State")
  | _ => .int
abbrev wsX20 : List Cond := u_ws RX2 TX2 2
theorem nmX2 : ∀ a, a < 2 → ∀ b, b < 2 → a ≠ b → (TX2 a).2.1 ≠ (TX2 b).2.1 := by decide +kernel
theorem tyX2_ok : ∀ k, k < 2 → parseFieldDescriptor (TX2 k).2.2.1 = some (tyX2 k) := by decide +kernel
abbrev cX2_init : ByteArray := prog_4_method_1_code
def yX2_init : MethodName := ⟨RX2, "<init>", "(LPairSymbols$Level;)V"⟩
abbrev cX2_keep : ByteArray := prog_4_method_2_code
def yX2_keep : MethodName := ⟨RX2, "keep", "(LPairSymbols$State;)V"⟩
abbrev cX2_forgetOldest : ByteArray := prog_4_method_3_code
def yX2_forgetOldest : MethodName := ⟨RX2, "forgetOldest", "()V"⟩
abbrev cX2_restore : ByteArray := prog_4_method_4_code
def yX2_restore : MethodName := ⟨RX2, "restore", "(LPairSymbols$State;)V"⟩
def RX3 : String := "PairSymbols$Level"
def TX3 : u_T := fun k => match k with
  | 0 => ("PairSymbols$Level", "numbe\x72", "I", true)
  | 1 => ("PairSymbols$Level", "symbolAt", "[I", true)
  | 2 => ("PairSymbols$Level", "count", "I", true)
  | 3 => ("PairSymbols$Level", "first", "[I", true)
  | 4 => ("PairSymbols$Level", "second", "[I", true)
  | 5 => ("PairSymbols$Level", "turned", "[I", true)
  | 6 => ("PairSymbols$Level", "rotated", "[I", true)
  | 7 => ("PairSymbols$Level", "shifted", "[I", true)
  | 8 => ("PairSymbols$Level", "cuspOf", "[I", true)
  | 9 => ("PairSymbols$Level", "cusps", "I", true)
  | 10 => ("PairSymbols$Level", "free", "[I", true)
  | 11 => ("PairSymbols$Level", "freeNumbe\x72", "[I", true)
  | 12 => ("PairSymbols$Level", "dimension", "I", true)
  | 13 => ("PairSymbols$Level", "coordinates", "[[I", true)
  | 14 => ("PairSymbols$Level", "cycles", "LPairSymbols$Cycles;", true)
  | _ => ("PairSymbols$Level", "operators", "[LPairSymbols$Operator;", true)
def tyX3 : Nat → FieldType := fun k => match k with
  | 0 => .int
  | 1 => .array .int
  | 2 => .int
  | 3 => .array .int
  | 4 => .array .int
  | 5 => .array .int
  | 6 => .array .int
  | 7 => .array .int
  | 8 => .array .int
  | 9 => .int
  | 10 => .array .int
  | 11 => .array .int
  | 12 => .int
  | 13 => .array (.array .int)
  | 14 => .object "PairSymbols$Cycles"
  | _ => .array (.object "PairSymbols$Operato\x72")
abbrev wsX30 : List Cond := u_ws RX3 TX3 16
theorem nmX3 : ∀ a, a < 16 → ∀ b, b < 16 → a ≠ b → (TX3 a).2.1 ≠ (TX3 b).2.1 := by decide +kernel
theorem tyX3_ok : ∀ k, k < 16 → parseFieldDescriptor (TX3 k).2.2.1 = some (tyX3 k) := by decide +kernel
abbrev cX3_init : ByteArray := prog_5_method_1_code
def yX3_init : MethodName := ⟨RX3, "<init>", "(I)V"⟩
abbrev cX3_hasSymbol : ByteArray := prog_5_method_2_code
def yX3_hasSymbol : MethodName := ⟨RX3, "hasSymbol", "(I)Z"⟩
abbrev cX3_hasCoordinate : ByteArray := prog_5_method_3_code
def yX3_hasCoordinate : MethodName := ⟨RX3, "hasCoordinate", "(I)Z"⟩
abbrev cX3_find : ByteArray := prog_5_method_4_code
def yX3_find : MethodName := ⟨RX3, "find", "(II)I"⟩
abbrev cX3_numberPairs : ByteArray := prog_5_method_5_code
def yX3_numberPairs : MethodName := ⟨RX3, "numberPairs", "()I"⟩
abbrev cX3_markClass : ByteArray := prog_5_method_6_code
def yX3_markClass : MethodName := ⟨RX3, "markClass", "(III)V"⟩
abbrev cX3_listPairs : ByteArray := prog_5_method_7_code
def yX3_listPairs : MethodName := ⟨RX3, "listPairs", "()V"⟩
abbrev cX3_listMaps : ByteArray := prog_5_method_8_code
def yX3_listMaps : MethodName := ⟨RX3, "listMaps", "()V"⟩
abbrev cX3_numberCusps : ByteArray := prog_5_method_9_code
def yX3_numberCusps : MethodName := ⟨RX3, "numberCusps", "()I"⟩
abbrev cX3_relateSymbols : ByteArray := prog_5_method_10_code
def yX3_relateSymbols : MethodName := ⟨RX3, "relateSymbols", "(LPairSymbols$Relations;)V"⟩
abbrev cX3_relateCoordinates : ByteArray := prog_5_method_11_code
def yX3_relateCoordinates : MethodName := ⟨RX3, "relateCoordinates", "(LPairSymbols$Relations;)V"⟩
abbrev cX3_edge : ByteArray := prog_5_method_12_code
def yX3_edge : MethodName := ⟨RX3, "edge", "(II)I"⟩
abbrev cX3_closedSymbols : ByteArray := prog_5_method_13_code
def yX3_closedSymbols : MethodName := ⟨RX3, "closedSymbols", "()I"⟩
abbrev cX3_operatorFor : ByteArray := prog_5_method_14_code
def yX3_operatorFor : MethodName := ⟨RX3, "operatorFo\x72", "(I)LPairSymbols$Operator;"⟩
def RX4 : String := "PairSymbols$Matrices"
def TX4 : u_T := fun k => match k with
  | _ => ("", "", "", false)
def tyX4 : Nat → FieldType := fun k => match k with
  | _ => .int
abbrev wsX40 : List Cond := u_ws RX4 TX4 0
theorem nmX4 : ∀ a, a < 0 → ∀ b, b < 0 → a ≠ b → (TX4 a).2.1 ≠ (TX4 b).2.1 := by decide +kernel
theorem tyX4_ok : ∀ k, k < 0 → parseFieldDescriptor (TX4 k).2.2.1 = some (tyX4 k) := by decide +kernel
abbrev cX4_diagonalSum : ByteArray := prog_6_method_2_code
def yX4_diagonalSum : MethodName := ⟨RX4, "diagonalSum", "([[J)J"⟩
abbrev cX4_characteristic : ByteArray := prog_6_method_3_code
def yX4_characteristic : MethodName := ⟨RX4, "characteristic", "([[J)[J"⟩
abbrev cX4_addToDiagonal : ByteArray := prog_6_method_4_code
def yX4_addToDiagonal : MethodName := ⟨RX4, "addToDiagonal", "(J[[J)V"⟩
abbrev cX4_multiply : ByteArray := prog_6_method_5_code
def yX4_multiply : MethodName := ⟨RX4, "multiply", "([[J[[J[[J)V"⟩
abbrev cX4_multiplicity : ByteArray := prog_6_method_6_code
def yX4_multiplicity : MethodName := ⟨RX4, "multiplicity", "([JI)I"⟩
def RX5 : String := "PairSymbols$Operato\x72"
def TX5 : u_T := fun k => match k with
  | 0 => ("PairSymbols$Operato\x72", "matrix", "[[J", true)
  | 1 => ("PairSymbols$Operato\x72", "restricted", "[[J", true)
  | 2 => ("PairSymbols$Operato\x72", "image", "[J", true)
  | 3 => ("PairSymbols$Operato\x72", "whole", "[J", false)
  | _ => ("PairSymbols$Operato\x72", "ofCycles", "[J", false)
def tyX5 : Nat → FieldType := fun k => match k with
  | 0 => .array (.array .long)
  | 1 => .array (.array .long)
  | 2 => .array .long
  | 3 => .array .long
  | _ => .array .long
abbrev wsX50 : List Cond := u_ws RX5 TX5 5
theorem nmX5 : ∀ a, a < 5 → ∀ b, b < 5 → a ≠ b → (TX5 a).2.1 ≠ (TX5 b).2.1 := by decide +kernel
theorem tyX5_ok : ∀ k, k < 5 → parseFieldDescriptor (TX5 k).2.2.1 = some (tyX5 k) := by decide +kernel
abbrev cX5_init : ByteArray := prog_7_method_1_code
def yX5_init : MethodName := ⟨RX5, "<init>", "(LPairSymbols$Level;I)V"⟩
abbrev cX5_addTerms : ByteArray := prog_7_method_2_code
def yX5_addTerms : MethodName := ⟨RX5, "addTerms", "(LPairSymbols$Level;I)V"⟩
abbrev cX5_addTerm : ByteArray := prog_7_method_3_code
def yX5_addTerm : MethodName := ⟨RX5, "addTerm", "(LPairSymbols$Level;IIII)V"⟩
abbrev cX5_restrictTo : ByteArray := prog_7_method_4_code
def yX5_restrictTo : MethodName := ⟨RX5, "restrictTo", "(LPairSymbols$Cycles;)V"⟩
abbrev cX5_applyTo : ByteArray := prog_7_method_5_code
def yX5_applyTo : MethodName := ⟨RX5, "applyTo", "([J)V"⟩
abbrev cX5_wholeCoefficients : ByteArray := prog_7_method_6_code
def yX5_wholeCoefficients : MethodName := ⟨RX5, "wholeCoefficients", "()[J"⟩
abbrev cX5_cuspidalCoefficients : ByteArray := prog_7_method_7_code
def yX5_cuspidalCoefficients : MethodName := ⟨RX5, "cuspidalCoefficients", "()[J"⟩
def RX6 : String := "PairSymbols$Relations"
def TX6 : u_T := fun k => match k with
  | 0 => ("PairSymbols$Relations", "columns", "I", true)
  | 1 => ("PairSymbols$Relations", "bound", "[Z", true)
  | 2 => ("PairSymbols$Relations", "rows", "[[I", true)
  | _ => ("PairSymbols$Relations", "boundCount", "I", false)
def tyX6 : Nat → FieldType := fun k => match k with
  | 0 => .int
  | 1 => .array .boolean
  | 2 => .array (.array .int)
  | _ => .int
abbrev wsX60 : List Cond := u_ws RX6 TX6 4
theorem nmX6 : ∀ a, a < 4 → ∀ b, b < 4 → a ≠ b → (TX6 a).2.1 ≠ (TX6 b).2.1 := by decide +kernel
theorem tyX6_ok : ∀ k, k < 4 → parseFieldDescriptor (TX6 k).2.2.1 = some (tyX6 k) := by decide +kernel
abbrev cX6_init : ByteArray := prog_8_method_1_code
def yX6_init : MethodName := ⟨RX6, "<init>", "(I)V"⟩
abbrev cX6_impose : ByteArray := prog_8_method_2_code
def yX6_impose : MethodName := ⟨RX6, "impose", "([I)V"⟩
abbrev cX6_bind : ByteArray := prog_8_method_3_code
def yX6_bind : MethodName := ⟨RX6, "bind", "(I[I)V"⟩
abbrev cX6_subtract : ByteArray := prog_8_method_4_code
def yX6_subtract : MethodName := ⟨RX6, "subtract", "(I[I[I)V"⟩
abbrev cX6_freeColumns : ByteArray := prog_8_method_5_code
def yX6_freeColumns : MethodName := ⟨RX6, "freeColumns", "()[I"⟩
abbrev cX6_coordinatesIn : ByteArray := prog_8_method_6_code
def yX6_coordinatesIn : MethodName := ⟨RX6, "coordinatesIn", "([I)[[I"⟩
def RX7 : String := "PairSymbols$Script"
def TX7 : u_T := fun k => match k with
  | 0 => ("PairSymbols$Script", "bytes", "[B", true)
  | 1 => ("PairSymbols$Script", "length", "I", false)
  | 2 => ("PairSymbols$Script", "kinds", "[I", true)
  | 3 => ("PairSymbols$Script", "one", "[I", true)
  | 4 => ("PairSymbols$Script", "two", "[I", true)
  | 5 => ("PairSymbols$Script", "commands", "I", false)
  | 6 => ("PairSymbols$Script", "place", "I", false)
  | _ => ("PairSymbols$Script", "numbe\x72", "I", false)
def tyX7 : Nat → FieldType := fun k => match k with
  | 0 => .array .byte
  | 1 => .int
  | 2 => .array .int
  | 3 => .array .int
  | 4 => .array .int
  | 5 => .int
  | 6 => .int
  | _ => .int
abbrev wsX70 : List Cond := u_ws RX7 TX7 8
theorem nmX7 : ∀ a, a < 8 → ∀ b, b < 8 → a ≠ b → (TX7 a).2.1 ≠ (TX7 b).2.1 := by decide +kernel
theorem tyX7_ok : ∀ k, k < 8 → parseFieldDescriptor (TX7 k).2.2.1 = some (tyX7 k) := by decide +kernel
abbrev cX7_init : ByteArray := prog_9_method_1_code
def yX7_init : MethodName := ⟨RX7, "<init>", "()V"⟩
abbrev cX7_append : ByteArray := prog_9_method_2_code
def yX7_append : MethodName := ⟨RX7, "append", "(I)Z"⟩
abbrev cX7_parse : ByteArray := prog_9_method_3_code
def yX7_parse : MethodName := ⟨RX7, "parse", "()I"⟩
abbrev cX7_parseCommand : ByteArray := prog_9_method_4_code
def yX7_parseCommand : MethodName := ⟨RX7, "parseCommand", "()Z"⟩
abbrev cX7_numbersOf : ByteArray := prog_9_method_5_code
def yX7_numbersOf : MethodName := ⟨RX7, "numbersOf", "(I)I"⟩
abbrev cX7_parseNumber : ByteArray := prog_9_method_6_code
def yX7_parseNumber : MethodName := ⟨RX7, "parseNumbe\x72", "(Z)Z"⟩
abbrev cX7_skipBlanks : ByteArray := prog_9_method_7_code
def yX7_skipBlanks : MethodName := ⟨RX7, "skipBlanks", "()V"⟩
abbrev cX7_digitHere : ByteArray := prog_9_method_8_code
def yX7_digitHere : MethodName := ⟨RX7, "digitHere", "()Z"⟩
abbrev cX7_byteHere : ByteArray := prog_9_method_9_code
def yX7_byteHere : MethodName := ⟨RX7, "byteHere", "()I"⟩
def RX8 : String := "PairSymbols$State"
def TX8 : u_T := fun k => match k with
  | 0 => ("PairSymbols$State", "at", "LPairSymbols$Level;", false)
  | _ => ("PairSymbols$State", "row", "[J", true)
def tyX8 : Nat → FieldType := fun k => match k with
  | 0 => .object "PairSymbols$Level"
  | _ => .array .long
abbrev wsX80 : List Cond := u_ws RX8 TX8 2
theorem nmX8 : ∀ a, a < 2 → ∀ b, b < 2 → a ≠ b → (TX8 a).2.1 ≠ (TX8 b).2.1 := by decide +kernel
theorem tyX8_ok : ∀ k, k < 2 → parseFieldDescriptor (TX8 k).2.2.1 = some (tyX8 k) := by decide +kernel
abbrev cX8_init : ByteArray := prog_10_method_1_code
def yX8_init : MethodName := ⟨RX8, "<init>", "(LPairSymbols$Level;)V"⟩
abbrev cX8_copyFrom : ByteArray := prog_10_method_2_code
def yX8_copyFrom : MethodName := ⟨RX8, "copyFrom", "(LPairSymbols$State;)V"⟩
abbrev cX8_becomeZero : ByteArray := prog_10_method_3_code
def yX8_becomeZero : MethodName := ⟨RX8, "becomeZero", "()I"⟩
abbrev cX8_addMultiple : ByteArray := prog_10_method_4_code
def yX8_addMultiple : MethodName := ⟨RX8, "addMultiple", "(II)I"⟩
abbrev cX8_applyOperator : ByteArray := prog_10_method_5_code
def yX8_applyOperator : MethodName := ⟨RX8, "applyOperato\x72", "(I)I"⟩
abbrev cX8_addPath : ByteArray := prog_10_method_6_code
def yX8_addPath : MethodName := ⟨RX8, "addPath", "(II)I"⟩
abbrev cX8_addSymbol : ByteArray := prog_10_method_7_code
def yX8_addSymbol : MethodName := ⟨RX8, "addSymbol", "(II)V"⟩
abbrev cX8_verdict : ByteArray := prog_10_method_8_code
def yX8_verdict : MethodName := ⟨RX8, "verdict", "()I"⟩
abbrev cX8_boundaryAt : ByteArray := prog_10_method_9_code
def yX8_boundaryAt : MethodName := ⟨RX8, "boundaryAt", "(I)J"⟩
def RX9 : String := "PairSymbols"
def TX9 : u_T := fun k => match k with
  | 0 => ("PairSymbols", "made", "[LPairSymbols$Level;", true)
  | 1 => ("PairSymbols", "now", "LPairSymbols$State;", true)
  | 2 => ("PairSymbols", "trial", "LPairSymbols$State;", true)
  | 3 => ("PairSymbols", "history", "LPairSymbols$History;", true)
  | 4 => ("PairSymbols", "script", "LPairSymbols$Script;", true)
  | 5 => ("PairSymbols", "formulas", "LPairSymbols$Formulas;", true)
  | 6 => ("PairSymbols", "badCount", "I", false)
  | 7 => ("PairSymbols", "noCount", "I", false)
  | _ => ("PairSymbols", "fullCount", "I", false)
def tyX9 : Nat → FieldType := fun k => match k with
  | 0 => .array (.object "PairSymbols$Level")
  | 1 => .object "PairSymbols$State"
  | 2 => .object "PairSymbols$State"
  | 3 => .object "PairSymbols$History"
  | 4 => .object "PairSymbols$Script"
  | 5 => .object "PairSymbols$Formulas"
  | 6 => .int
  | 7 => .int
  | _ => .int
abbrev wsX90 : List Cond := u_ws RX9 TX9 9
theorem nmX9 : ∀ a, a < 9 → ∀ b, b < 9 → a ≠ b → (TX9 a).2.1 ≠ (TX9 b).2.1 := by decide +kernel
theorem tyX9_ok : ∀ k, k < 9 → parseFieldDescriptor (TX9 k).2.2.1 = some (tyX9 k) := by decide +kernel
abbrev cX9_init : ByteArray := prog_1_method_1_code
def yX9_init : MethodName := ⟨RX9, "<init>", "()V"⟩
abbrev cX9_level : ByteArray := prog_1_method_2_code
def yX9_level : MethodName := ⟨RX9, "level", "(I)I"⟩
abbrev cX9_symbols : ByteArray := prog_1_method_3_code
def yX9_symbols : MethodName := ⟨RX9, "symbols", "()I"⟩
abbrev cX9_symbol : ByteArray := prog_1_method_4_code
def yX9_symbol : MethodName := ⟨RX9, "symbol", "(II)I"⟩
abbrev cX9_pair : ByteArray := prog_1_method_5_code
def yX9_pair : MethodName := ⟨RX9, "pai\x72", "(II)I"⟩
abbrev cX9_space : ByteArray := prog_1_method_6_code
def yX9_space : MethodName := ⟨RX9, "space", "(I)I"⟩
abbrev cX9_fraction : ByteArray := prog_1_method_7_code
def yX9_fraction : MethodName := ⟨RX9, "fraction", "(III)J"⟩
abbrev cX9_table : ByteArray := prog_1_method_8_code
def yX9_table : MethodName := ⟨RX9, "table", "(IIII)J"⟩
abbrev cX9_trace : ByteArray := prog_1_method_9_code
def yX9_trace : MethodName := ⟨RX9, "trace", "(II)J"⟩
abbrev cX9_polynomial : ByteArray := prog_1_method_10_code
def yX9_polynomial : MethodName := ⟨RX9, "polynomial", "(III)J"⟩
abbrev cX9_root : ByteArray := prog_1_method_11_code
def yX9_root : MethodName := ⟨RX9, "root", "(II)I"⟩
abbrev cX9_formula : ByteArray := prog_1_method_12_code
def yX9_formula : MethodName := ⟨RX9, "formula", "(II)I"⟩
abbrev cX9_adds : ByteArray := prog_1_method_13_code
def yX9_adds : MethodName := ⟨RX9, "adds", "(II)I"⟩
abbrev cX9_applies : ByteArray := prog_1_method_14_code
def yX9_applies : MethodName := ⟨RX9, "applies", "(I)I"⟩
abbrev cX9_walks : ByteArray := prog_1_method_15_code
def yX9_walks : MethodName := ⟨RX9, "walks", "(II)I"⟩
abbrev cX9_sum : ByteArray := prog_1_method_16_code
def yX9_sum : MethodName := ⟨RX9, "sum", "(II)J"⟩
abbrev cX9_boundary : ByteArray := prog_1_method_17_code
def yX9_boundary : MethodName := ⟨RX9, "boundary", "(II)J"⟩
abbrev cX9_cuspidal : ByteArray := prog_1_method_18_code
def yX9_cuspidal : MethodName := ⟨RX9, "cuspidal", "()I"⟩
abbrev cX9_type : ByteArray := prog_1_method_19_code
def yX9_type : MethodName := ⟨RX9, "type", "(I)I"⟩
abbrev cX9_clear : ByteArray := prog_1_method_20_code
def yX9_clear : MethodName := ⟨RX9, "clea\x72", "()I"⟩
abbrev cX9_reads : ByteArray := prog_1_method_21_code
def yX9_reads : MethodName := ⟨RX9, "reads", "()I"⟩
abbrev cX9_back : ByteArray := prog_1_method_22_code
def yX9_back : MethodName := ⟨RX9, "back", "()I"⟩
abbrev cX9_told : ByteArray := prog_1_method_23_code
def yX9_told : MethodName := ⟨RX9, "told", "(I)I"⟩
abbrev cX9_digest : ByteArray := prog_1_method_24_code
def yX9_digest : MethodName := ⟨RX9, "digest", "()J"⟩
abbrev cX9_within : ByteArray := prog_1_method_25_code
def yX9_within : MethodName := ⟨RX9, "within", "(III)Z"⟩
abbrev cX9_gcd : ByteArray := prog_1_method_26_code
def yX9_gcd : MethodName := ⟨RX9, "gcd", "(II)I"⟩
abbrev cX9_refuse : ByteArray := prog_1_method_27_code
def yX9_refuse : MethodName := ⟨RX9, "refuse", "(I)I"⟩
abbrev cX9_settle : ByteArray := prog_1_method_28_code
def yX9_settle : MethodName := ⟨RX9, "settle", "(I)I"⟩
abbrev cX9_enter : ByteArray := prog_1_method_29_code
def yX9_enter : MethodName := ⟨RX9, "ente\x72", "(I)I"⟩
abbrev cX9_perform : ByteArray := prog_1_method_30_code
def yX9_perform : MethodName := ⟨RX9, "perform", "(I)I"⟩
def RX10 : String := "PairSymbolsModel"
def TX10 : u_T := fun k => match k with
  | 0 => ("PairSymbolsModel", "all", "[J", true)
  | 1 => ("PairSymbolsModel", "past", "[J", true)
  | 2 => ("PairSymbolsModel", "aside", "[J", true)
  | 3 => ("PairSymbolsModel", "states", "I", false)
  | 4 => ("PairSymbolsModel", "refused", "[I", true)
  | 5 => ("PairSymbolsModel", "above", "J", false)
  | 6 => ("PairSymbolsModel", "below", "J", false)
  | 7 => ("PairSymbolsModel", "laid", "I", false)
  | 8 => ("PairSymbolsModel", "symbols", "I", false)
  | 9 => ("PairSymbolsModel", "pairs", "[I", true)
  | 10 => ("PairSymbolsModel", "ofC", "[I", true)
  | 11 => ("PairSymbolsModel", "ofD", "[I", true)
  | 12 => ("PairSymbolsModel", "cusps", "[I", true)
  | 13 => ("PairSymbolsModel", "cuspMany", "I", false)
  | 14 => ("PairSymbolsModel", "free", "I", false)
  | 15 => ("PairSymbolsModel", "freeOf", "[I", true)
  | 16 => ("PairSymbolsModel", "freeSymbol", "[I", true)
  | 17 => ("PairSymbolsModel", "told", "[Z", true)
  | 18 => ("PairSymbolsModel", "ruleAbove", "[J", true)
  | 19 => ("PairSymbolsModel", "ruleBelow", "[J", true)
  | 20 => ("PairSymbolsModel", "freeAbove", "[J", true)
  | 21 => ("PairSymbolsModel", "freeBelow", "[J", true)
  | 22 => ("PairSymbolsModel", "rowAbove", "[J", true)
  | 23 => ("PairSymbolsModel", "rowBelow", "[J", true)
  | 24 => ("PairSymbolsModel", "tableAbove", "[J", true)
  | 25 => ("PairSymbolsModel", "tableBelow", "[J", true)
  | 26 => ("PairSymbolsModel", "cuspidals", "I", false)
  | 27 => ("PairSymbolsModel", "chosen", "[I", true)
  | 28 => ("PairSymbolsModel", "sumsAbove", "[J", true)
  | 29 => ("PairSymbolsModel", "sumsBelow", "[J", true)
  | 30 => ("PairSymbolsModel", "leads", "[I", true)
  | 31 => ("PairSymbolsModel", "imageAbove", "[J", true)
  | 32 => ("PairSymbolsModel", "imageBelow", "[J", true)
  | 33 => ("PairSymbolsModel", "actsAbove", "[J", true)
  | 34 => ("PairSymbolsModel", "actsBelow", "[J", true)
  | 35 => ("PairSymbolsModel", "wide", "I", false)
  | 36 => ("PairSymbolsModel", "powerAbove", "[J", true)
  | 37 => ("PairSymbolsModel", "powerBelow", "[J", true)
  | 38 => ("PairSymbolsModel", "nextAbove", "[J", true)
  | 39 => ("PairSymbolsModel", "nextBelow", "[J", true)
  | 40 => ("PairSymbolsModel", "numbers", "[J", true)
  | 41 => ("PairSymbolsModel", "fresh", "[I", true)
  | 42 => ("PairSymbolsModel", "thenAbove", "[J", true)
  | 43 => ("PairSymbolsModel", "thenBelow", "[J", true)
  | 44 => ("PairSymbolsModel", "text", "[I", true)
  | 45 => ("PairSymbolsModel", "textLong", "I", false)
  | 46 => ("PairSymbolsModel", "place", "I", false)
  | 47 => ("PairSymbolsModel", "value", "I", false)
  | 48 => ("PairSymbolsModel", "first", "I", false)
  | 49 => ("PairSymbolsModel", "second", "I", false)
  | _ => ("PairSymbolsModel", "not", "I", false)
def tyX10 : Nat → FieldType := fun k => match k with
  | 0 => .array .long
  | 1 => .array .long
  | 2 => .array .long
  | 3 => .int
  | 4 => .array .int
  | 5 => .long
  | 6 => .long
  | 7 => .int
  | 8 => .int
  | 9 => .array .int
  | 10 => .array .int
  | 11 => .array .int
  | 12 => .array .int
  | 13 => .int
  | 14 => .int
  | 15 => .array .int
  | 16 => .array .int
  | 17 => .array .boolean
  | 18 => .array .long
  | 19 => .array .long
  | 20 => .array .long
  | 21 => .array .long
  | 22 => .array .long
  | 23 => .array .long
  | 24 => .array .long
  | 25 => .array .long
  | 26 => .int
  | 27 => .array .int
  | 28 => .array .long
  | 29 => .array .long
  | 30 => .array .int
  | 31 => .array .long
  | 32 => .array .long
  | 33 => .array .long
  | 34 => .array .long
  | 35 => .int
  | 36 => .array .long
  | 37 => .array .long
  | 38 => .array .long
  | 39 => .array .long
  | 40 => .array .long
  | 41 => .array .int
  | 42 => .array .long
  | 43 => .array .long
  | 44 => .array .int
  | 45 => .int
  | 46 => .int
  | 47 => .int
  | 48 => .int
  | 49 => .int
  | _ => .int
abbrev wsX100 : List Cond := u_ws RX10 TX10 51
theorem nmX10 : ∀ a, a < 51 → ∀ b, b < 51 → a ≠ b → (TX10 a).2.1 ≠ (TX10 b).2.1 := by decide +kernel
theorem tyX10_ok : ∀ k, k < 51 → parseFieldDescriptor (TX10 k).2.2.1 = some (tyX10 k) := by decide +kernel
abbrev cX10_init : ByteArray := prog_12_method_1_code
def yX10_init : MethodName := ⟨RX10, "<init>", "()V"⟩
abbrev cX10_in : ByteArray := prog_12_method_3_code
def yX10_in : MethodName := ⟨RX10, "in", "(JJJ)Z"⟩
abbrev cX10_refuses : ByteArray := prog_12_method_4_code
def yX10_refuses : MethodName := ⟨RX10, "refuses", "(I)I"⟩
abbrev cX10_refusesBy : ByteArray := prog_12_method_5_code
def yX10_refusesBy : MethodName := ⟨RX10, "refusesBy", "(IJ)J"⟩
abbrev cX10_keep : ByteArray := prog_12_method_6_code
def yX10_keep : MethodName := ⟨RX10, "keep", "()V"⟩
abbrev cX10_levelHere : ByteArray := prog_12_method_7_code
def yX10_levelHere : MethodName := ⟨RX10, "levelHere", "()I"⟩
abbrev cX10_zeroes : ByteArray := prog_12_method_8_code
def yX10_zeroes : MethodName := ⟨RX10, "zeroes", "()V"⟩
abbrev cX10_divisor : ByteArray := prog_12_method_9_code
def yX10_divisor : MethodName := ⟨RX10, "diviso\x72", "(JJ)J"⟩
abbrev cX10_lowest : ByteArray := prog_12_method_10_code
def yX10_lowest : MethodName := ⟨RX10, "lowest", "(JJ)V"⟩
abbrev cX10_sumOf : ByteArray := prog_12_method_11_code
def yX10_sumOf : MethodName := ⟨RX10, "sumOf", "(JJJJ)V"⟩
abbrev cX10_more : ByteArray := prog_12_method_12_code
def yX10_more : MethodName := ⟨RX10, "more", "(JJJJJJ)V"⟩
abbrev cX10_over : ByteArray := prog_12_method_13_code
def yX10_over : MethodName := ⟨RX10, "ove\x72", "(II)I"⟩
abbrev cX10_of : ByteArray := prog_12_method_14_code
def yX10_of : MethodName := ⟨RX10, "of", "(II)I"⟩
abbrev cX10_isPair : ByteArray := prog_12_method_15_code
def yX10_isPair : MethodName := ⟨RX10, "isPai\x72", "(II)Z"⟩
abbrev cX10_countsIn : ByteArray := prog_12_method_16_code
def yX10_countsIn : MethodName := ⟨RX10, "countsIn", "(II)V"⟩
abbrev cX10_s : ByteArray := prog_12_method_17_code
def yX10_s : MethodName := ⟨RX10, "s", "(I)I"⟩
abbrev cX10_r : ByteArray := prog_12_method_18_code
def yX10_r : MethodName := ⟨RX10, "\x72", "(I)I"⟩
abbrev cX10_u : ByteArray := prog_12_method_19_code
def yX10_u : MethodName := ⟨RX10, "u", "(I)I"⟩
abbrev cX10_laysCusps : ByteArray := prog_12_method_20_code
def yX10_laysCusps : MethodName := ⟨RX10, "laysCusps", "()V"⟩
abbrev cX10_emptiesRow : ByteArray := prog_12_method_21_code
def yX10_emptiesRow : MethodName := ⟨RX10, "emptiesRow", "()V"⟩
abbrev cX10_addsOne : ByteArray := prog_12_method_22_code
def yX10_addsOne : MethodName := ⟨RX10, "addsOne", "(I)V"⟩
abbrev cX10_lowers : ByteArray := prog_12_method_23_code
def yX10_lowers : MethodName := ⟨RX10, "lowers", "()V"⟩
abbrev cX10_relates : ByteArray := prog_12_method_24_code
def yX10_relates : MethodName := ⟨RX10, "relates", "()V"⟩
abbrev cX10_laysRelations : ByteArray := prog_12_method_25_code
def yX10_laysRelations : MethodName := ⟨RX10, "laysRelations", "()V"⟩
abbrev cX10_laysFree : ByteArray := prog_12_method_26_code
def yX10_laysFree : MethodName := ⟨RX10, "laysFree", "()V"⟩
abbrev cX10_lays : ByteArray := prog_12_method_27_code
def yX10_lays : MethodName := ⟨RX10, "lays", "()V"⟩
abbrev cX10_boundaryOf : ByteArray := prog_12_method_28_code
def yX10_boundaryOf : MethodName := ⟨RX10, "boundaryOf", "(II)I"⟩
abbrev cX10_takesOff : ByteArray := prog_12_method_29_code
def yX10_takesOff : MethodName := ⟨RX10, "takesOff", "(IIJJ)V"⟩
abbrev cX10_exchanges : ByteArray := prog_12_method_30_code
def yX10_exchanges : MethodName := ⟨RX10, "exchanges", "(II)V"⟩
abbrev cX10_divides : ByteArray := prog_12_method_31_code
def yX10_divides : MethodName := ⟨RX10, "divides", "(II)V"⟩
abbrev cX10_solvesBoundary : ByteArray := prog_12_method_32_code
def yX10_solvesBoundary : MethodName := ⟨RX10, "solvesBoundary", "()V"⟩
abbrev cX10_laysCuspidals : ByteArray := prog_12_method_33_code
def yX10_laysCuspidals : MethodName := ⟨RX10, "laysCuspidals", "()V"⟩
abbrev cX10_level : ByteArray := prog_12_method_34_code
def yX10_level : MethodName := ⟨RX10, "level", "(I)I"⟩
abbrev cX10_levelNow : ByteArray := prog_12_method_35_code
def yX10_levelNow : MethodName := ⟨RX10, "levelNow", "(I)I"⟩
abbrev cX10_symbols : ByteArray := prog_12_method_36_code
def yX10_symbols : MethodName := ⟨RX10, "symbols", "()I"⟩
abbrev cX10_isSymbol : ByteArray := prog_12_method_37_code
def yX10_isSymbol : MethodName := ⟨RX10, "isSymbol", "(I)Z"⟩
abbrev cX10_symbolNow : ByteArray := prog_12_method_38_code
def yX10_symbolNow : MethodName := ⟨RX10, "symbolNow", "(II)I"⟩
abbrev cX10_symbol : ByteArray := prog_12_method_39_code
def yX10_symbol : MethodName := ⟨RX10, "symbol", "(II)I"⟩
abbrev cX10_pair : ByteArray := prog_12_method_40_code
def yX10_pair : MethodName := ⟨RX10, "pai\x72", "(II)I"⟩
abbrev cX10_plain : ByteArray := prog_12_method_41_code
def yX10_plain : MethodName := ⟨RX10, "plain", "()I"⟩
abbrev cX10_genus : ByteArray := prog_12_method_42_code
def yX10_genus : MethodName := ⟨RX10, "genus", "()I"⟩
abbrev cX10_spaceNow : ByteArray := prog_12_method_43_code
def yX10_spaceNow : MethodName := ⟨RX10, "spaceNow", "(I)I"⟩
abbrev cX10_space : ByteArray := prog_12_method_44_code
def yX10_space : MethodName := ⟨RX10, "space", "(I)I"⟩
abbrev cX10_fraction : ByteArray := prog_12_method_45_code
def yX10_fraction : MethodName := ⟨RX10, "fraction", "(III)J"⟩
abbrev cX10_canOperate : ByteArray := prog_12_method_46_code
def yX10_canOperate : MethodName := ⟨RX10, "canOperate", "(I)I"⟩
abbrev cX10_addsImage : ByteArray := prog_12_method_47_code
def yX10_addsImage : MethodName := ⟨RX10, "addsImage", "(I)V"⟩
abbrev cX10_laysImage : ByteArray := prog_12_method_48_code
def yX10_laysImage : MethodName := ⟨RX10, "laysImage", "(II)V"⟩
abbrev cX10_laysOperator : ByteArray := prog_12_method_49_code
def yX10_laysOperator : MethodName := ⟨RX10, "laysOperato\x72", "(I)V"⟩
abbrev cX10_table : ByteArray := prog_12_method_50_code
def yX10_table : MethodName := ⟨RX10, "table", "(IIII)J"⟩
abbrev cX10_laysTable : ByteArray := prog_12_method_51_code
def yX10_laysTable : MethodName := ⟨RX10, "laysTable", "(IZ)V"⟩
abbrev cX10_laysTrace : ByteArray := prog_12_method_52_code
def yX10_laysTrace : MethodName := ⟨RX10, "laysTrace", "()V"⟩
abbrev cX10_diagonal : ByteArray := prog_12_method_53_code
def yX10_diagonal : MethodName := ⟨RX10, "diagonal", "()J"⟩
abbrev cX10_multiplies : ByteArray := prog_12_method_54_code
def yX10_multiplies : MethodName := ⟨RX10, "multiplies", "()V"⟩
abbrev cX10_laysPolynomial : ByteArray := prog_12_method_55_code
def yX10_laysPolynomial : MethodName := ⟨RX10, "laysPolynomial", "()V"⟩
abbrev cX10_trace : ByteArray := prog_12_method_56_code
def yX10_trace : MethodName := ⟨RX10, "trace", "(II)J"⟩
abbrev cX10_polynomial : ByteArray := prog_12_method_57_code
def yX10_polynomial : MethodName := ⟨RX10, "polynomial", "(III)J"⟩
abbrev cX10_rootOf : ByteArray := prog_12_method_58_code
def yX10_rootOf : MethodName := ⟨RX10, "rootOf", "(I)I"⟩
abbrev cX10_root : ByteArray := prog_12_method_59_code
def yX10_root : MethodName := ⟨RX10, "root", "(II)I"⟩
abbrev cX10_isPrime : ByteArray := prog_12_method_60_code
def yX10_isPrime : MethodName := ⟨RX10, "isPrime", "(I)Z"⟩
abbrev cX10_index : ByteArray := prog_12_method_61_code
def yX10_index : MethodName := ⟨RX10, "index", "(I)I"⟩
abbrev cX10_product : ByteArray := prog_12_method_62_code
def yX10_product : MethodName := ⟨RX10, "product", "(III)I"⟩
abbrev cX10_ends : ByteArray := prog_12_method_63_code
def yX10_ends : MethodName := ⟨RX10, "ends", "(I)I"⟩
abbrev cX10_forms : ByteArray := prog_12_method_64_code
def yX10_forms : MethodName := ⟨RX10, "forms", "(I)I"⟩
abbrev cX10_freshOf : ByteArray := prog_12_method_65_code
def yX10_freshOf : MethodName := ⟨RX10, "freshOf", "(I)I"⟩
abbrev cX10_formulaNow : ByteArray := prog_12_method_66_code
def yX10_formulaNow : MethodName := ⟨RX10, "formulaNow", "(II)I"⟩
abbrev cX10_formula : ByteArray := prog_12_method_67_code
def yX10_formula : MethodName := ⟨RX10, "formula", "(II)I"⟩
abbrev cX10_laysSum : ByteArray := prog_12_method_68_code
def yX10_laysSum : MethodName := ⟨RX10, "laysSum", "()V"⟩
abbrev cX10_addsTo : ByteArray := prog_12_method_69_code
def yX10_addsTo : MethodName := ⟨RX10, "addsTo", "(IJ)V"⟩
abbrev cX10_canBe : ByteArray := prog_12_method_70_code
def yX10_canBe : MethodName := ⟨RX10, "canBe", "()I"⟩
abbrev cX10_becomes : ByteArray := prog_12_method_71_code
def yX10_becomes : MethodName := ⟨RX10, "becomes", "()I"⟩
abbrev cX10_canAdd : ByteArray := prog_12_method_72_code
def yX10_canAdd : MethodName := ⟨RX10, "canAdd", "(II)I"⟩
abbrev cX10_adds : ByteArray := prog_12_method_73_code
def yX10_adds : MethodName := ⟨RX10, "adds", "(II)I"⟩
abbrev cX10_canApply : ByteArray := prog_12_method_74_code
def yX10_canApply : MethodName := ⟨RX10, "canApply", "(I)I"⟩
abbrev cX10_applies : ByteArray := prog_12_method_75_code
def yX10_applies : MethodName := ⟨RX10, "applies", "(I)I"⟩
abbrev cX10_canWalk : ByteArray := prog_12_method_76_code
def yX10_canWalk : MethodName := ⟨RX10, "canWalk", "(II)I"⟩
abbrev cX10_walks : ByteArray := prog_12_method_77_code
def yX10_walks : MethodName := ⟨RX10, "walks", "(II)I"⟩
abbrev cX10_sum : ByteArray := prog_12_method_78_code
def yX10_sum : MethodName := ⟨RX10, "sum", "(II)J"⟩
abbrev cX10_laysBoundary : ByteArray := prog_12_method_79_code
def yX10_laysBoundary : MethodName := ⟨RX10, "laysBoundary", "(I)V"⟩
abbrev cX10_boundary : ByteArray := prog_12_method_80_code
def yX10_boundary : MethodName := ⟨RX10, "boundary", "(II)J"⟩
abbrev cX10_isCuspidal : ByteArray := prog_12_method_81_code
def yX10_isCuspidal : MethodName := ⟨RX10, "isCuspidal", "()Z"⟩
abbrev cX10_cuspidal : ByteArray := prog_12_method_82_code
def yX10_cuspidal : MethodName := ⟨RX10, "cuspidal", "()I"⟩
abbrev cX10_type : ByteArray := prog_12_method_83_code
def yX10_type : MethodName := ⟨RX10, "type", "(I)I"⟩
abbrev cX10_clear : ByteArray := prog_12_method_84_code
def yX10_clear : MethodName := ⟨RX10, "clea\x72", "()I"⟩
abbrev cX10_here : ByteArray := prog_12_method_85_code
def yX10_here : MethodName := ⟨RX10, "here", "()I"⟩
abbrev cX10_isFigure : ByteArray := prog_12_method_86_code
def yX10_isFigure : MethodName := ⟨RX10, "isFigure", "(I)Z"⟩
abbrev cX10_takes : ByteArray := prog_12_method_87_code
def yX10_takes : MethodName := ⟨RX10, "takes", "(Z)Z"⟩
abbrev cX10_takesNumbers : ByteArray := prog_12_method_88_code
def yX10_takesNumbers : MethodName := ⟨RX10, "takesNumbers", "(I)Z"⟩
abbrev cX10_can : ByteArray := prog_12_method_89_code
def yX10_can : MethodName := ⟨RX10, "can", "(I)I"⟩
abbrev cX10_does : ByteArray := prog_12_method_90_code
def yX10_does : MethodName := ⟨RX10, "does", "(I)I"⟩
abbrev cX10_readsOrder : ByteArray := prog_12_method_91_code
def yX10_readsOrder : MethodName := ⟨RX10, "readsOrde\x72", "(Z)Z"⟩
abbrev cX10_reads : ByteArray := prog_12_method_92_code
def yX10_reads : MethodName := ⟨RX10, "reads", "()I"⟩
abbrev cX10_keepsAside : ByteArray := prog_12_method_93_code
def yX10_keepsAside : MethodName := ⟨RX10, "keepsAside", "()V"⟩
abbrev cX10_back : ByteArray := prog_12_method_94_code
def yX10_back : MethodName := ⟨RX10, "back", "()I"⟩
abbrev cX10_toldOf : ByteArray := prog_12_method_95_code
def yX10_toldOf : MethodName := ⟨RX10, "toldOf", "(I)I"⟩
abbrev cX10_told : ByteArray := prog_12_method_96_code
def yX10_told : MethodName := ⟨RX10, "told", "(I)I"⟩
abbrev cX10_digest : ByteArray := prog_12_method_97_code
def yX10_digest : MethodName := ⟨RX10, "digest", "()J"⟩
def RJx8e188 : String := "java/lang/Cloneable"
def RJ9 : String := "java/lang/Math"
abbrev cJ9_min_7cf53 : ByteArray := prog_14_method_69_code
def yJ9_min_7cf53 : MethodName := ⟨RJ9, "min", "(II)I"⟩
def RJ10 : String := "java/lang/System"
def RJ7 : String := "java/util/Arrays"
abbrev cJ7_fill_d0a16 : ByteArray := prog_16_method_101_code
def yJ7_fill_d0a16 : MethodName := ⟨RJ7, "fill", "([JJ)V"⟩
abbrev cJ7_fill_53178 : ByteArray := prog_16_method_103_code
def yJ7_fill_53178 : MethodName := ⟨RJ7, "fill", "([II)V"⟩
abbrev cJ7_copyOf_c38d5 : ByteArray := prog_16_method_124_code
def yJ7_copyOf_c38d5 : MethodName := ⟨RJ7, "copyOf", "([JI)[J"⟩
def RL : String := "PairSymbolsLaw"
abbrev cL_law : ByteArray := code
def yL_law : MethodName := ⟨RL, "law", "([I)Z"⟩
abbrev vwCl : List vw_C := [(RX0, TX0, 2), (RX1, TX1, 1), (RX2, TX2, 2), (RX3, TX3, 16), (RX5, TX5, 5), (RX6, TX6, 4), (RX7, TX7, 8), (RX8, TX8, 2), (RX9, TX9, 9), (RX10, TX10, 51)]
-- a row a word of the tables
theorem q_0 : (Jvm.Cond.initialized "PairSymbolsLaw") ∈ lw_tbl := List.mem_of_getElem? (i := 88) (by decide +kernel)
theorem q_1 : (Jvm.Cond.initialized "PairSymbols") ∈ lw_tbl := List.mem_of_getElem? (i := 89) (by decide +kernel)
theorem q_2 : (Jvm.Cond.initialized "PairSymbols$Level") ∈ lw_tbl := List.mem_of_getElem? (i := 90) (by decide +kernel)
theorem q_3 : (Jvm.Cond.initialized "java/util/Arrays") ∈ lw_tbl := List.mem_of_getElem? (i := 91) (by decide +kernel)
theorem q_4 : (Jvm.Cond.initialized "PairSymbols$Relations") ∈ lw_tbl := List.mem_of_getElem? (i := 92) (by decide +kernel)
theorem q_5 : (Jvm.Cond.initialized "PairSymbols$Cycles") ∈ lw_tbl := List.mem_of_getElem? (i := 93) (by decide +kernel)
theorem q_6 : (Jvm.Cond.initialized "PairSymbols$State") ∈ lw_tbl := List.mem_of_getElem? (i := 94) (by decide +kernel)
theorem q_7 : (Jvm.Cond.initialized "PairSymbols$History") ∈ lw_tbl := List.mem_of_getElem? (i := 95) (by decide +kernel)
theorem q_8 : (Jvm.Cond.initialized "PairSymbols$Script") ∈ lw_tbl := List.mem_of_getElem? (i := 96) (by decide +kernel)
theorem q_9 : (Jvm.Cond.initialized "PairSymbols$Formulas") ∈ lw_tbl := List.mem_of_getElem? (i := 97) (by decide +kernel)
theorem q_10 : (Jvm.Cond.initialized "PairSymbolsModel") ∈ lw_tbl := List.mem_of_getElem? (i := 98) (by decide +kernel)
theorem q_11 : (Jvm.Cond.initialized "java/lang/System") ∈ lw_tbl := List.mem_of_getElem? (i := 99) (by decide +kernel)
theorem q_12 : (Jvm.Cond.initialized "PairSymbols$Operato\x72") ∈ lw_tbl := List.mem_of_getElem? (i := 100) (by decide +kernel)
theorem q_13 : (Jvm.Cond.initialized "PairSymbols$Matrices") ∈ lw_tbl := List.mem_of_getElem? (i := 101) (by decide +kernel)
theorem q_14 : (Jvm.Cond.initialized "java/lang/Math") ∈ lw_tbl := List.mem_of_getElem? (i := 102) (by decide +kernel)
theorem q_15 : (Jvm.Cond.classLink "PairSymbolsLaw" (7 : Nat) "PairSymbols") ∈ lw_tbl := List.mem_of_getElem? (i := 103) (by decide +kernel)
theorem q_16 : (Jvm.Cond.instantiable "PairSymbols" (9 : Nat)) ∈ lw_tbl := List.mem_of_getElem? (i := 104) (by decide +kernel)
theorem q_17 : (Jvm.Cond.methodLink "PairSymbolsLaw" (9 : Nat) ({ cls := "PairSymbols", name := "<init>", desc := "()V" } : Jvm.MethodName)) ∈ lw_tbl := List.mem_of_getElem? (i := 105) (by decide +kernel)
theorem q_18 : (Jvm.Cond.instanceMethod ({ cls := "PairSymbols", name := "<init>", desc := "()V" } : Jvm.MethodName)) ∈ lw_tbl := List.mem_of_getElem? (i := 106) (by decide +kernel)
theorem q_19 : (Jvm.Cond.code ({ cls := "PairSymbols", name := "<init>", desc := "()V" } : Jvm.MethodName) prog_1_method_1_code (2 : Nat) (Option.none : Option Jvm.ClassFile.FieldType)) ∈ lw_tbl := List.mem_of_getElem? (i := 107) (by decide +kernel)
theorem q_20 : (Jvm.Cond.methodLink "PairSymbols" (1 : Nat) ({ cls := "java/lang/Object", name := "<init>", desc := "()V" } : Jvm.MethodName)) ∈ lw_tbl := List.mem_of_getElem? (i := 108) (by decide +kernel)
theorem q_21 : (Jvm.Cond.instanceMethod ({ cls := "java/lang/Object", name := "<init>", desc := "()V" } : Jvm.MethodName)) ∈ lw_tbl := List.mem_of_getElem? (i := 109) (by decide +kernel)
theorem q_22 : (Jvm.Cond.code ({ cls := "java/lang/Object", name := "<init>", desc := "()V" } : Jvm.MethodName) object_method_1_code (1 : Nat) (Option.none : Option Jvm.ClassFile.FieldType)) ∈ lw_tbl := List.mem_of_getElem? (i := 110) (by decide +kernel)
theorem q_23 : (Jvm.Cond.classLink "PairSymbols" (7 : Nat) "PairSymbols$Level") ∈ lw_tbl := List.mem_of_getElem? (i := 111) (by decide +kernel)
theorem q_24 : (Jvm.Cond.instantiable "PairSymbols$Level" (16 : Nat)) ∈ lw_tbl := List.mem_of_getElem? (i := 112) (by decide +kernel)
theorem q_25 : (Jvm.Cond.methodLink "PairSymbols" (11 : Nat) ({ cls := "PairSymbols$Level", name := "<init>", desc := "(I)V" } : Jvm.MethodName)) ∈ lw_tbl := List.mem_of_getElem? (i := 113) (by decide +kernel)
theorem q_26 : (Jvm.Cond.instanceMethod ({ cls := "PairSymbols$Level", name := "<init>", desc := "(I)V" } : Jvm.MethodName)) ∈ lw_tbl := List.mem_of_getElem? (i := 114) (by decide +kernel)
theorem q_27 : (Jvm.Cond.code ({ cls := "PairSymbols$Level", name := "<init>", desc := "(I)V" } : Jvm.MethodName) prog_5_method_1_code (4 : Nat) (Option.none : Option Jvm.ClassFile.FieldType)) ∈ lw_tbl := List.mem_of_getElem? (i := 115) (by decide +kernel)
theorem q_28 : (Jvm.Cond.methodLink "PairSymbols$Level" (3 : Nat) ({ cls := "java/lang/Object", name := "<init>", desc := "()V" } : Jvm.MethodName)) ∈ lw_tbl := List.mem_of_getElem? (i := 116) (by decide +kernel)
theorem q_29 : (Jvm.Cond.methodLink "PairSymbols$Level" (19 : Nat) ({ cls := "PairSymbols$Level", name := "numberPairs", desc := "()I" } : Jvm.MethodName)) ∈ lw_tbl := List.mem_of_getElem? (i := 117) (by decide +kernel)
theorem q_30 : (Jvm.Cond.privateMethod ({ cls := "PairSymbols$Level", name := "numberPairs", desc := "()I" } : Jvm.MethodName)) ∈ lw_tbl := List.mem_of_getElem? (i := 118) (by decide +kernel)
theorem q_31 : (Jvm.Cond.instanceMethod ({ cls := "PairSymbols$Level", name := "numberPairs", desc := "()I" } : Jvm.MethodName)) ∈ lw_tbl := List.mem_of_getElem? (i := 119) (by decide +kernel)
theorem q_32 : (Jvm.Cond.code ({ cls := "PairSymbols$Level", name := "numberPairs", desc := "()I" } : Jvm.MethodName) prog_5_method_5_code (4 : Nat) (Option.some Jvm.ClassFile.FieldType.int)) ∈ lw_tbl := List.mem_of_getElem? (i := 120) (by decide +kernel)
theorem q_33 : (Jvm.Cond.methodLink "PairSymbols$Level" (86 : Nat) ({ cls := "java/util/Arrays", name := "fill", desc := "([II)V" } : Jvm.MethodName)) ∈ lw_tbl := List.mem_of_getElem? (i := 121) (by decide +kernel)
theorem q_34 : (Jvm.Cond.static ({ cls := "java/util/Arrays", name := "fill", desc := "([II)V" } : Jvm.MethodName)) ∈ lw_tbl := List.mem_of_getElem? (i := 122) (by decide +kernel)
theorem q_35 : (Jvm.Cond.code ({ cls := "java/util/Arrays", name := "fill", desc := "([II)V" } : Jvm.MethodName) prog_16_method_103_code (4 : Nat) (Option.none : Option Jvm.ClassFile.FieldType)) ∈ lw_tbl := List.mem_of_getElem? (i := 123) (by decide +kernel)
theorem q_36 : (Jvm.Cond.methodLinkNest "PairSymbols$Level" (109 : Nat) ({ cls := "PairSymbols", name := "gcd", desc := "(II)I" } : Jvm.MethodName) "PairSymbols") ∈ lw_tbl := List.mem_of_getElem? (i := 124) (by decide +kernel)
theorem q_37 : (Jvm.Cond.static ({ cls := "PairSymbols", name := "gcd", desc := "(II)I" } : Jvm.MethodName)) ∈ lw_tbl := List.mem_of_getElem? (i := 125) (by decide +kernel)
theorem q_38 : (Jvm.Cond.code ({ cls := "PairSymbols", name := "gcd", desc := "(II)I" } : Jvm.MethodName) prog_1_method_26_code (6 : Nat) (Option.some Jvm.ClassFile.FieldType.int)) ∈ lw_tbl := List.mem_of_getElem? (i := 126) (by decide +kernel)
theorem q_39 : (Jvm.Cond.methodLink "PairSymbols$Level" (113 : Nat) ({ cls := "PairSymbols$Level", name := "markClass", desc := "(III)V" } : Jvm.MethodName)) ∈ lw_tbl := List.mem_of_getElem? (i := 127) (by decide +kernel)
theorem q_40 : (Jvm.Cond.privateMethod ({ cls := "PairSymbols$Level", name := "markClass", desc := "(III)V" } : Jvm.MethodName)) ∈ lw_tbl := List.mem_of_getElem? (i := 128) (by decide +kernel)
theorem q_41 : (Jvm.Cond.instanceMethod ({ cls := "PairSymbols$Level", name := "markClass", desc := "(III)V" } : Jvm.MethodName)) ∈ lw_tbl := List.mem_of_getElem? (i := 129) (by decide +kernel)
theorem q_42 : (Jvm.Cond.code ({ cls := "PairSymbols$Level", name := "markClass", desc := "(III)V" } : Jvm.MethodName) prog_5_method_6_code (5 : Nat) (Option.none : Option Jvm.ClassFile.FieldType)) ∈ lw_tbl := List.mem_of_getElem? (i := 130) (by decide +kernel)
theorem q_43 : (Jvm.Cond.methodLink "PairSymbols$Level" (41 : Nat) ({ cls := "PairSymbols$Level", name := "listPairs", desc := "()V" } : Jvm.MethodName)) ∈ lw_tbl := List.mem_of_getElem? (i := 131) (by decide +kernel)
theorem q_44 : (Jvm.Cond.privateMethod ({ cls := "PairSymbols$Level", name := "listPairs", desc := "()V" } : Jvm.MethodName)) ∈ lw_tbl := List.mem_of_getElem? (i := 132) (by decide +kernel)
theorem q_45 : (Jvm.Cond.instanceMethod ({ cls := "PairSymbols$Level", name := "listPairs", desc := "()V" } : Jvm.MethodName)) ∈ lw_tbl := List.mem_of_getElem? (i := 133) (by decide +kernel)
theorem q_46 : (Jvm.Cond.code ({ cls := "PairSymbols$Level", name := "listPairs", desc := "()V" } : Jvm.MethodName) prog_5_method_7_code (4 : Nat) (Option.none : Option Jvm.ClassFile.FieldType)) ∈ lw_tbl := List.mem_of_getElem? (i := 134) (by decide +kernel)
theorem q_47 : (Jvm.Cond.methodLink "PairSymbols$Level" (44 : Nat) ({ cls := "PairSymbols$Level", name := "listMaps", desc := "()V" } : Jvm.MethodName)) ∈ lw_tbl := List.mem_of_getElem? (i := 135) (by decide +kernel)
theorem q_48 : (Jvm.Cond.privateMethod ({ cls := "PairSymbols$Level", name := "listMaps", desc := "()V" } : Jvm.MethodName)) ∈ lw_tbl := List.mem_of_getElem? (i := 136) (by decide +kernel)
theorem q_49 : (Jvm.Cond.instanceMethod ({ cls := "PairSymbols$Level", name := "listMaps", desc := "()V" } : Jvm.MethodName)) ∈ lw_tbl := List.mem_of_getElem? (i := 137) (by decide +kernel)
theorem q_50 : (Jvm.Cond.code ({ cls := "PairSymbols$Level", name := "listMaps", desc := "()V" } : Jvm.MethodName) prog_5_method_8_code (4 : Nat) (Option.none : Option Jvm.ClassFile.FieldType)) ∈ lw_tbl := List.mem_of_getElem? (i := 138) (by decide +kernel)
theorem q_51 : (Jvm.Cond.methodLink "PairSymbols$Level" (117 : Nat) ({ cls := "PairSymbols$Level", name := "find", desc := "(II)I" } : Jvm.MethodName)) ∈ lw_tbl := List.mem_of_getElem? (i := 139) (by decide +kernel)
theorem q_52 : (Jvm.Cond.instanceMethod ({ cls := "PairSymbols$Level", name := "find", desc := "(II)I" } : Jvm.MethodName)) ∈ lw_tbl := List.mem_of_getElem? (i := 140) (by decide +kernel)
theorem q_53 : (Jvm.Cond.selects "PairSymbols$Level" ({ cls := "PairSymbols$Level", name := "find", desc := "(II)I" } : Jvm.MethodName) ({ cls := "PairSymbols$Level", name := "find", desc := "(II)I" } : Jvm.MethodName)) ∈ lw_tbl := List.mem_of_getElem? (i := 141) (by decide +kernel)
theorem q_54 : (Jvm.Cond.code ({ cls := "PairSymbols$Level", name := "find", desc := "(II)I" } : Jvm.MethodName) prog_5_method_4_code (5 : Nat) (Option.some Jvm.ClassFile.FieldType.int)) ∈ lw_tbl := List.mem_of_getElem? (i := 142) (by decide +kernel)
theorem q_55 : (Jvm.Cond.methodLink "PairSymbols$Level" (50 : Nat) ({ cls := "PairSymbols$Level", name := "numberCusps", desc := "()I" } : Jvm.MethodName)) ∈ lw_tbl := List.mem_of_getElem? (i := 143) (by decide +kernel)
theorem q_56 : (Jvm.Cond.privateMethod ({ cls := "PairSymbols$Level", name := "numberCusps", desc := "()I" } : Jvm.MethodName)) ∈ lw_tbl := List.mem_of_getElem? (i := 144) (by decide +kernel)
theorem q_57 : (Jvm.Cond.instanceMethod ({ cls := "PairSymbols$Level", name := "numberCusps", desc := "()I" } : Jvm.MethodName)) ∈ lw_tbl := List.mem_of_getElem? (i := 145) (by decide +kernel)
theorem q_58 : (Jvm.Cond.code ({ cls := "PairSymbols$Level", name := "numberCusps", desc := "()I" } : Jvm.MethodName) prog_5_method_9_code (5 : Nat) (Option.some Jvm.ClassFile.FieldType.int)) ∈ lw_tbl := List.mem_of_getElem? (i := 146) (by decide +kernel)
theorem q_59 : (Jvm.Cond.classLink "PairSymbols$Level" (56 : Nat) "PairSymbols$Relations") ∈ lw_tbl := List.mem_of_getElem? (i := 147) (by decide +kernel)
theorem q_60 : (Jvm.Cond.instantiable "PairSymbols$Relations" (4 : Nat)) ∈ lw_tbl := List.mem_of_getElem? (i := 148) (by decide +kernel)
theorem q_61 : (Jvm.Cond.methodLink "PairSymbols$Level" (58 : Nat) ({ cls := "PairSymbols$Relations", name := "<init>", desc := "(I)V" } : Jvm.MethodName)) ∈ lw_tbl := List.mem_of_getElem? (i := 149) (by decide +kernel)
theorem q_62 : (Jvm.Cond.instanceMethod ({ cls := "PairSymbols$Relations", name := "<init>", desc := "(I)V" } : Jvm.MethodName)) ∈ lw_tbl := List.mem_of_getElem? (i := 150) (by decide +kernel)
theorem q_63 : (Jvm.Cond.code ({ cls := "PairSymbols$Relations", name := "<init>", desc := "(I)V" } : Jvm.MethodName) prog_8_method_1_code (2 : Nat) (Option.none : Option Jvm.ClassFile.FieldType)) ∈ lw_tbl := List.mem_of_getElem? (i := 151) (by decide +kernel)
theorem q_64 : (Jvm.Cond.methodLink "PairSymbols$Relations" (1 : Nat) ({ cls := "java/lang/Object", name := "<init>", desc := "()V" } : Jvm.MethodName)) ∈ lw_tbl := List.mem_of_getElem? (i := 152) (by decide +kernel)
theorem q_65 : (Jvm.Cond.classLink "PairSymbols$Relations" (17 : Nat) "[[I") ∈ lw_tbl := List.mem_of_getElem? (i := 153) (by decide +kernel)
theorem q_66 : (Jvm.Cond.arrayOver (Jvm.ClassFile.FieldType.array Jvm.ClassFile.FieldType.int)) ∈ lw_tbl := List.mem_of_getElem? (i := 154) (by decide +kernel)
theorem q_67 : (Jvm.Cond.fieldLink "PairSymbols$Relations" (7 : Nat) "PairSymbols$Relations" "columns" "I") ∈ lw_tbl := List.mem_of_getElem? (i := 155) (by decide +kernel)
theorem q_68 : (Jvm.Cond.fieldLink "PairSymbols$Relations" (13 : Nat) "PairSymbols$Relations" "bound" "[Z") ∈ lw_tbl := List.mem_of_getElem? (i := 156) (by decide +kernel)
theorem q_69 : (Jvm.Cond.fieldLink "PairSymbols$Relations" (19 : Nat) "PairSymbols$Relations" "rows" "[[I") ∈ lw_tbl := List.mem_of_getElem? (i := 157) (by decide +kernel)
theorem q_70 : (Jvm.Cond.fieldLink "PairSymbols$Relations" (36 : Nat) "PairSymbols$Relations" "boundCount" "I") ∈ lw_tbl := List.mem_of_getElem? (i := 158) (by decide +kernel)
theorem q_71 : (Jvm.Cond.laysFinal "PairSymbols$Relations" "PairSymbols$Relations" "columns" "I") ∈ lw_tbl := List.mem_of_getElem? (i := 159) (by decide +kernel)
theorem q_72 : (Jvm.Cond.soleField "PairSymbols$Relations" "columns") ∈ lw_tbl := List.mem_of_getElem? (i := 160) (by decide +kernel)
theorem q_73 : (Jvm.Cond.laysFinal "PairSymbols$Relations" "PairSymbols$Relations" "bound" "[Z") ∈ lw_tbl := List.mem_of_getElem? (i := 161) (by decide +kernel)
theorem q_74 : (Jvm.Cond.soleField "PairSymbols$Relations" "bound") ∈ lw_tbl := List.mem_of_getElem? (i := 162) (by decide +kernel)
theorem q_75 : (Jvm.Cond.laysFinal "PairSymbols$Relations" "PairSymbols$Relations" "rows" "[[I") ∈ lw_tbl := List.mem_of_getElem? (i := 163) (by decide +kernel)
theorem q_76 : (Jvm.Cond.soleField "PairSymbols$Relations" "rows") ∈ lw_tbl := List.mem_of_getElem? (i := 164) (by decide +kernel)
theorem q_77 : (Jvm.Cond.lays "PairSymbols$Relations" "PairSymbols$Relations" "boundCount" "I") ∈ lw_tbl := List.mem_of_getElem? (i := 165) (by decide +kernel)
theorem q_78 : (Jvm.Cond.soleField "PairSymbols$Relations" "boundCount") ∈ lw_tbl := List.mem_of_getElem? (i := 166) (by decide +kernel)
theorem q_79 : (Jvm.Cond.superclass "PairSymbols$Relations" "java/lang/Object") ∈ lw_tbl := List.mem_of_getElem? (i := 167) (by decide +kernel)
theorem q_80 : (Jvm.Cond.arrayClass Jvm.ClassFile.FieldType.int) ∈ lw_tbl := List.mem_of_getElem? (i := 168) (by decide +kernel)
theorem q_81 : (Jvm.Cond.arrayClass Jvm.ClassFile.FieldType.boolean) ∈ lw_tbl := List.mem_of_getElem? (i := 169) (by decide +kernel)
theorem q_82 : (Jvm.Cond.methodLink "PairSymbols$Level" (61 : Nat) ({ cls := "PairSymbols$Level", name := "relateSymbols", desc := "(LPairSymbols$Relations;)V" } : Jvm.MethodName)) ∈ lw_tbl := List.mem_of_getElem? (i := 170) (by decide +kernel)
theorem q_83 : (Jvm.Cond.privateMethod ({ cls := "PairSymbols$Level", name := "relateSymbols", desc := "(LPairSymbols$Relations;)V" } : Jvm.MethodName)) ∈ lw_tbl := List.mem_of_getElem? (i := 171) (by decide +kernel)
theorem q_84 : (Jvm.Cond.instanceMethod ({ cls := "PairSymbols$Level", name := "relateSymbols", desc := "(LPairSymbols$Relations;)V" } : Jvm.MethodName)) ∈ lw_tbl := List.mem_of_getElem? (i := 172) (by decide +kernel)
theorem q_85 : (Jvm.Cond.code ({ cls := "PairSymbols$Level", name := "relateSymbols", desc := "(LPairSymbols$Relations;)V" } : Jvm.MethodName) prog_5_method_10_code (6 : Nat) (Option.none : Option Jvm.ClassFile.FieldType)) ∈ lw_tbl := List.mem_of_getElem? (i := 173) (by decide +kernel)
theorem q_86 : (Jvm.Cond.methodLink "PairSymbols$Level" (120 : Nat) ({ cls := "PairSymbols$Relations", name := "impose", desc := "([I)V" } : Jvm.MethodName)) ∈ lw_tbl := List.mem_of_getElem? (i := 174) (by decide +kernel)
theorem q_87 : (Jvm.Cond.instanceMethod ({ cls := "PairSymbols$Relations", name := "impose", desc := "([I)V" } : Jvm.MethodName)) ∈ lw_tbl := List.mem_of_getElem? (i := 175) (by decide +kernel)
theorem q_88 : (Jvm.Cond.selects "PairSymbols$Relations" ({ cls := "PairSymbols$Relations", name := "impose", desc := "([I)V" } : Jvm.MethodName) ({ cls := "PairSymbols$Relations", name := "impose", desc := "([I)V" } : Jvm.MethodName)) ∈ lw_tbl := List.mem_of_getElem? (i := 176) (by decide +kernel)
theorem q_89 : (Jvm.Cond.code ({ cls := "PairSymbols$Relations", name := "impose", desc := "([I)V" } : Jvm.MethodName) prog_8_method_2_code (3 : Nat) (Option.none : Option Jvm.ClassFile.FieldType)) ∈ lw_tbl := List.mem_of_getElem? (i := 177) (by decide +kernel)
theorem q_90 : (Jvm.Cond.methodLink "PairSymbols$Relations" (22 : Nat) ({ cls := "PairSymbols$Relations", name := "bind", desc := "(I[I)V" } : Jvm.MethodName)) ∈ lw_tbl := List.mem_of_getElem? (i := 178) (by decide +kernel)
theorem q_91 : (Jvm.Cond.privateMethod ({ cls := "PairSymbols$Relations", name := "bind", desc := "(I[I)V" } : Jvm.MethodName)) ∈ lw_tbl := List.mem_of_getElem? (i := 179) (by decide +kernel)
theorem q_92 : (Jvm.Cond.instanceMethod ({ cls := "PairSymbols$Relations", name := "bind", desc := "(I[I)V" } : Jvm.MethodName)) ∈ lw_tbl := List.mem_of_getElem? (i := 180) (by decide +kernel)
theorem q_93 : (Jvm.Cond.code ({ cls := "PairSymbols$Relations", name := "bind", desc := "(I[I)V" } : Jvm.MethodName) prog_8_method_3_code (5 : Nat) (Option.none : Option Jvm.ClassFile.FieldType)) ∈ lw_tbl := List.mem_of_getElem? (i := 181) (by decide +kernel)
theorem q_94 : (Jvm.Cond.methodLink "PairSymbols$Relations" (26 : Nat) ({ cls := "PairSymbols$Relations", name := "subtract", desc := "(I[I[I)V" } : Jvm.MethodName)) ∈ lw_tbl := List.mem_of_getElem? (i := 182) (by decide +kernel)
theorem q_95 : (Jvm.Cond.static ({ cls := "PairSymbols$Relations", name := "subtract", desc := "(I[I[I)V" } : Jvm.MethodName)) ∈ lw_tbl := List.mem_of_getElem? (i := 183) (by decide +kernel)
theorem q_96 : (Jvm.Cond.code ({ cls := "PairSymbols$Relations", name := "subtract", desc := "(I[I[I)V" } : Jvm.MethodName) prog_8_method_4_code (4 : Nat) (Option.none : Option Jvm.ClassFile.FieldType)) ∈ lw_tbl := List.mem_of_getElem? (i := 184) (by decide +kernel)
theorem q_97 : (Jvm.Cond.methodLink "PairSymbols$Relations" (30 : Nat) ({ cls := "java/util/Arrays", name := "fill", desc := "([II)V" } : Jvm.MethodName)) ∈ lw_tbl := List.mem_of_getElem? (i := 185) (by decide +kernel)
theorem q_98 : (Jvm.Cond.methodLink "PairSymbols$Level" (65 : Nat) ({ cls := "PairSymbols$Relations", name := "freeColumns", desc := "()[I" } : Jvm.MethodName)) ∈ lw_tbl := List.mem_of_getElem? (i := 186) (by decide +kernel)
theorem q_99 : (Jvm.Cond.instanceMethod ({ cls := "PairSymbols$Relations", name := "freeColumns", desc := "()[I" } : Jvm.MethodName)) ∈ lw_tbl := List.mem_of_getElem? (i := 187) (by decide +kernel)
theorem q_100 : (Jvm.Cond.selects "PairSymbols$Relations" ({ cls := "PairSymbols$Relations", name := "freeColumns", desc := "()[I" } : Jvm.MethodName) ({ cls := "PairSymbols$Relations", name := "freeColumns", desc := "()[I" } : Jvm.MethodName)) ∈ lw_tbl := List.mem_of_getElem? (i := 188) (by decide +kernel)
theorem q_101 : (Jvm.Cond.code ({ cls := "PairSymbols$Relations", name := "freeColumns", desc := "()[I" } : Jvm.MethodName) prog_8_method_5_code (4 : Nat) (Option.some (Jvm.ClassFile.FieldType.array Jvm.ClassFile.FieldType.int))) ∈ lw_tbl := List.mem_of_getElem? (i := 189) (by decide +kernel)
theorem q_102 : (Jvm.Cond.methodLink "PairSymbols$Level" (75 : Nat) ({ cls := "PairSymbols$Relations", name := "coordinatesIn", desc := "([I)[[I" } : Jvm.MethodName)) ∈ lw_tbl := List.mem_of_getElem? (i := 190) (by decide +kernel)
theorem q_103 : (Jvm.Cond.instanceMethod ({ cls := "PairSymbols$Relations", name := "coordinatesIn", desc := "([I)[[I" } : Jvm.MethodName)) ∈ lw_tbl := List.mem_of_getElem? (i := 191) (by decide +kernel)
theorem q_104 : (Jvm.Cond.selects "PairSymbols$Relations" ({ cls := "PairSymbols$Relations", name := "coordinatesIn", desc := "([I)[[I" } : Jvm.MethodName) ({ cls := "PairSymbols$Relations", name := "coordinatesIn", desc := "([I)[[I" } : Jvm.MethodName)) ∈ lw_tbl := List.mem_of_getElem? (i := 192) (by decide +kernel)
theorem q_105 : (Jvm.Cond.code ({ cls := "PairSymbols$Relations", name := "coordinatesIn", desc := "([I)[[I" } : Jvm.MethodName) prog_8_method_6_code (5 : Nat) (Option.some (Jvm.ClassFile.FieldType.array (Jvm.ClassFile.FieldType.array Jvm.ClassFile.FieldType.int)))) ∈ lw_tbl := List.mem_of_getElem? (i := 193) (by decide +kernel)
theorem q_106 : (Jvm.Cond.methodLink "PairSymbols$Level" (92 : Nat) ({ cls := "PairSymbols$Level", name := "relateCoordinates", desc := "(LPairSymbols$Relations;)V" } : Jvm.MethodName)) ∈ lw_tbl := List.mem_of_getElem? (i := 194) (by decide +kernel)
theorem q_107 : (Jvm.Cond.privateMethod ({ cls := "PairSymbols$Level", name := "relateCoordinates", desc := "(LPairSymbols$Relations;)V" } : Jvm.MethodName)) ∈ lw_tbl := List.mem_of_getElem? (i := 195) (by decide +kernel)
theorem q_108 : (Jvm.Cond.instanceMethod ({ cls := "PairSymbols$Level", name := "relateCoordinates", desc := "(LPairSymbols$Relations;)V" } : Jvm.MethodName)) ∈ lw_tbl := List.mem_of_getElem? (i := 196) (by decide +kernel)
theorem q_109 : (Jvm.Cond.code ({ cls := "PairSymbols$Level", name := "relateCoordinates", desc := "(LPairSymbols$Relations;)V" } : Jvm.MethodName) prog_5_method_11_code (5 : Nat) (Option.none : Option Jvm.ClassFile.FieldType)) ∈ lw_tbl := List.mem_of_getElem? (i := 197) (by decide +kernel)
theorem q_110 : (Jvm.Cond.methodLink "PairSymbols$Level" (124 : Nat) ({ cls := "PairSymbols$Level", name := "edge", desc := "(II)I" } : Jvm.MethodName)) ∈ lw_tbl := List.mem_of_getElem? (i := 198) (by decide +kernel)
theorem q_111 : (Jvm.Cond.instanceMethod ({ cls := "PairSymbols$Level", name := "edge", desc := "(II)I" } : Jvm.MethodName)) ∈ lw_tbl := List.mem_of_getElem? (i := 199) (by decide +kernel)
theorem q_112 : (Jvm.Cond.selects "PairSymbols$Level" ({ cls := "PairSymbols$Level", name := "edge", desc := "(II)I" } : Jvm.MethodName) ({ cls := "PairSymbols$Level", name := "edge", desc := "(II)I" } : Jvm.MethodName)) ∈ lw_tbl := List.mem_of_getElem? (i := 200) (by decide +kernel)
theorem q_113 : (Jvm.Cond.code ({ cls := "PairSymbols$Level", name := "edge", desc := "(II)I" } : Jvm.MethodName) prog_5_method_12_code (6 : Nat) (Option.some Jvm.ClassFile.FieldType.int)) ∈ lw_tbl := List.mem_of_getElem? (i := 201) (by decide +kernel)
theorem q_114 : (Jvm.Cond.classLink "PairSymbols$Level" (95 : Nat) "PairSymbols$Cycles") ∈ lw_tbl := List.mem_of_getElem? (i := 202) (by decide +kernel)
theorem q_115 : (Jvm.Cond.instantiable "PairSymbols$Cycles" (2 : Nat)) ∈ lw_tbl := List.mem_of_getElem? (i := 203) (by decide +kernel)
theorem q_116 : (Jvm.Cond.methodLink "PairSymbols$Level" (97 : Nat) ({ cls := "PairSymbols$Cycles", name := "<init>", desc := "(LPairSymbols$Relations;)V" } : Jvm.MethodName)) ∈ lw_tbl := List.mem_of_getElem? (i := 204) (by decide +kernel)
theorem q_117 : (Jvm.Cond.instanceMethod ({ cls := "PairSymbols$Cycles", name := "<init>", desc := "(LPairSymbols$Relations;)V" } : Jvm.MethodName)) ∈ lw_tbl := List.mem_of_getElem? (i := 205) (by decide +kernel)
theorem q_118 : (Jvm.Cond.code ({ cls := "PairSymbols$Cycles", name := "<init>", desc := "(LPairSymbols$Relations;)V" } : Jvm.MethodName) prog_2_method_1_code (2 : Nat) (Option.none : Option Jvm.ClassFile.FieldType)) ∈ lw_tbl := List.mem_of_getElem? (i := 206) (by decide +kernel)
theorem q_119 : (Jvm.Cond.methodLink "PairSymbols$Cycles" (1 : Nat) ({ cls := "java/lang/Object", name := "<init>", desc := "()V" } : Jvm.MethodName)) ∈ lw_tbl := List.mem_of_getElem? (i := 207) (by decide +kernel)
theorem q_120 : (Jvm.Cond.methodLink "PairSymbols$Cycles" (7 : Nat) ({ cls := "PairSymbols$Relations", name := "freeColumns", desc := "()[I" } : Jvm.MethodName)) ∈ lw_tbl := List.mem_of_getElem? (i := 208) (by decide +kernel)
theorem q_121 : (Jvm.Cond.methodLink "PairSymbols$Cycles" (19 : Nat) ({ cls := "PairSymbols$Relations", name := "coordinatesIn", desc := "([I)[[I" } : Jvm.MethodName)) ∈ lw_tbl := List.mem_of_getElem? (i := 209) (by decide +kernel)
theorem q_122 : (Jvm.Cond.fieldLink "PairSymbols$Cycles" (13 : Nat) "PairSymbols$Cycles" "free" "[I") ∈ lw_tbl := List.mem_of_getElem? (i := 210) (by decide +kernel)
theorem q_123 : (Jvm.Cond.fieldLink "PairSymbols$Operato\x72" (34 : Nat) "PairSymbols$Cycles" "free" "[I") ∈ lw_tbl := List.mem_of_getElem? (i := 211) (by decide +kernel)
theorem q_124 : (Jvm.Cond.fieldLink "PairSymbols" (117 : Nat) "PairSymbols$Cycles" "free" "[I") ∈ lw_tbl := List.mem_of_getElem? (i := 212) (by decide +kernel)
theorem q_125 : (Jvm.Cond.fieldLink "PairSymbols$Cycles" (23 : Nat) "PairSymbols$Cycles" "basis" "[[I") ∈ lw_tbl := List.mem_of_getElem? (i := 213) (by decide +kernel)
theorem q_126 : (Jvm.Cond.fieldLink "PairSymbols$Operato\x72" (66 : Nat) "PairSymbols$Cycles" "basis" "[[I") ∈ lw_tbl := List.mem_of_getElem? (i := 214) (by decide +kernel)
theorem q_127 : (Jvm.Cond.laysFinal "PairSymbols$Cycles" "PairSymbols$Cycles" "free" "[I") ∈ lw_tbl := List.mem_of_getElem? (i := 215) (by decide +kernel)
theorem q_128 : (Jvm.Cond.soleField "PairSymbols$Cycles" "free") ∈ lw_tbl := List.mem_of_getElem? (i := 216) (by decide +kernel)
theorem q_129 : (Jvm.Cond.laysFinal "PairSymbols$Cycles" "PairSymbols$Cycles" "basis" "[[I") ∈ lw_tbl := List.mem_of_getElem? (i := 217) (by decide +kernel)
theorem q_130 : (Jvm.Cond.soleField "PairSymbols$Cycles" "basis") ∈ lw_tbl := List.mem_of_getElem? (i := 218) (by decide +kernel)
theorem q_131 : (Jvm.Cond.superclass "PairSymbols$Cycles" "java/lang/Object") ∈ lw_tbl := List.mem_of_getElem? (i := 219) (by decide +kernel)
theorem q_132 : (Jvm.Cond.classLink "PairSymbols$Level" (103 : Nat) "PairSymbols$Operato\x72") ∈ lw_tbl := List.mem_of_getElem? (i := 220) (by decide +kernel)
theorem q_133 : (Jvm.Cond.arrayOver (Jvm.ClassFile.FieldType.object "PairSymbols$Operato\x72")) ∈ lw_tbl := List.mem_of_getElem? (i := 221) (by decide +kernel)
theorem q_134 : (Jvm.Cond.fieldLink "PairSymbols$Level" (9 : Nat) "PairSymbols$Level" "numbe\x72" "I") ∈ lw_tbl := List.mem_of_getElem? (i := 222) (by decide +kernel)
theorem q_135 : (Jvm.Cond.fieldLink "PairSymbols" (234 : Nat) "PairSymbols$Level" "numbe\x72" "I") ∈ lw_tbl := List.mem_of_getElem? (i := 223) (by decide +kernel)
theorem q_136 : (Jvm.Cond.fieldLink "PairSymbols$Level" (15 : Nat) "PairSymbols$Level" "symbolAt" "[I") ∈ lw_tbl := List.mem_of_getElem? (i := 224) (by decide +kernel)
theorem q_137 : (Jvm.Cond.fieldLink "PairSymbols$Level" (23 : Nat) "PairSymbols$Level" "count" "I") ∈ lw_tbl := List.mem_of_getElem? (i := 225) (by decide +kernel)
theorem q_138 : (Jvm.Cond.fieldLink "PairSymbols" (66 : Nat) "PairSymbols$Level" "count" "I") ∈ lw_tbl := List.mem_of_getElem? (i := 226) (by decide +kernel)
theorem q_139 : (Jvm.Cond.fieldLink "PairSymbols$Level" (26 : Nat) "PairSymbols$Level" "first" "[I") ∈ lw_tbl := List.mem_of_getElem? (i := 227) (by decide +kernel)
theorem q_140 : (Jvm.Cond.fieldLink "PairSymbols$Operato\x72" (51 : Nat) "PairSymbols$Level" "first" "[I") ∈ lw_tbl := List.mem_of_getElem? (i := 228) (by decide +kernel)
theorem q_141 : (Jvm.Cond.fieldLink "PairSymbols" (77 : Nat) "PairSymbols$Level" "first" "[I") ∈ lw_tbl := List.mem_of_getElem? (i := 229) (by decide +kernel)
theorem q_142 : (Jvm.Cond.fieldLink "PairSymbols$Level" (29 : Nat) "PairSymbols$Level" "second" "[I") ∈ lw_tbl := List.mem_of_getElem? (i := 230) (by decide +kernel)
theorem q_143 : (Jvm.Cond.fieldLink "PairSymbols$Operato\x72" (55 : Nat) "PairSymbols$Level" "second" "[I") ∈ lw_tbl := List.mem_of_getElem? (i := 231) (by decide +kernel)
theorem q_144 : (Jvm.Cond.fieldLink "PairSymbols" (81 : Nat) "PairSymbols$Level" "second" "[I") ∈ lw_tbl := List.mem_of_getElem? (i := 232) (by decide +kernel)
theorem q_145 : (Jvm.Cond.fieldLink "PairSymbols$Level" (32 : Nat) "PairSymbols$Level" "turned" "[I") ∈ lw_tbl := List.mem_of_getElem? (i := 233) (by decide +kernel)
theorem q_146 : (Jvm.Cond.fieldLink "PairSymbols" (84 : Nat) "PairSymbols$Level" "turned" "[I") ∈ lw_tbl := List.mem_of_getElem? (i := 234) (by decide +kernel)
theorem q_147 : (Jvm.Cond.fieldLink "PairSymbols$Level" (35 : Nat) "PairSymbols$Level" "rotated" "[I") ∈ lw_tbl := List.mem_of_getElem? (i := 235) (by decide +kernel)
theorem q_148 : (Jvm.Cond.fieldLink "PairSymbols" (87 : Nat) "PairSymbols$Level" "rotated" "[I") ∈ lw_tbl := List.mem_of_getElem? (i := 236) (by decide +kernel)
theorem q_149 : (Jvm.Cond.fieldLink "PairSymbols$Level" (38 : Nat) "PairSymbols$Level" "shifted" "[I") ∈ lw_tbl := List.mem_of_getElem? (i := 237) (by decide +kernel)
theorem q_150 : (Jvm.Cond.fieldLink "PairSymbols" (90 : Nat) "PairSymbols$Level" "shifted" "[I") ∈ lw_tbl := List.mem_of_getElem? (i := 238) (by decide +kernel)
theorem q_151 : (Jvm.Cond.fieldLink "PairSymbols$Level" (47 : Nat) "PairSymbols$Level" "cuspOf" "[I") ∈ lw_tbl := List.mem_of_getElem? (i := 239) (by decide +kernel)
theorem q_152 : (Jvm.Cond.fieldLink "PairSymbols" (93 : Nat) "PairSymbols$Level" "cuspOf" "[I") ∈ lw_tbl := List.mem_of_getElem? (i := 240) (by decide +kernel)
theorem q_153 : (Jvm.Cond.fieldLink "PairSymbols$Level" (53 : Nat) "PairSymbols$Level" "cusps" "I") ∈ lw_tbl := List.mem_of_getElem? (i := 241) (by decide +kernel)
theorem q_154 : (Jvm.Cond.fieldLink "PairSymbols" (110 : Nat) "PairSymbols$Level" "cusps" "I") ∈ lw_tbl := List.mem_of_getElem? (i := 242) (by decide +kernel)
theorem q_155 : (Jvm.Cond.fieldLink "PairSymbols$Level" (69 : Nat) "PairSymbols$Level" "free" "[I") ∈ lw_tbl := List.mem_of_getElem? (i := 243) (by decide +kernel)
theorem q_156 : (Jvm.Cond.fieldLink "PairSymbols$Operato\x72" (54 : Nat) "PairSymbols$Level" "free" "[I") ∈ lw_tbl := List.mem_of_getElem? (i := 244) (by decide +kernel)
theorem q_157 : (Jvm.Cond.fieldLink "PairSymbols$Level" (83 : Nat) "PairSymbols$Level" "freeNumbe\x72" "[I") ∈ lw_tbl := List.mem_of_getElem? (i := 245) (by decide +kernel)
theorem q_158 : (Jvm.Cond.fieldLink "PairSymbols" (96 : Nat) "PairSymbols$Level" "freeNumbe\x72" "[I") ∈ lw_tbl := List.mem_of_getElem? (i := 246) (by decide +kernel)
theorem q_159 : (Jvm.Cond.fieldLink "PairSymbols$Operato\x72" (9 : Nat) "PairSymbols$Level" "dimension" "I") ∈ lw_tbl := List.mem_of_getElem? (i := 247) (by decide +kernel)
theorem q_160 : (Jvm.Cond.fieldLink "PairSymbols$Level" (72 : Nat) "PairSymbols$Level" "dimension" "I") ∈ lw_tbl := List.mem_of_getElem? (i := 248) (by decide +kernel)
theorem q_161 : (Jvm.Cond.fieldLink "PairSymbols" (107 : Nat) "PairSymbols$Level" "dimension" "I") ∈ lw_tbl := List.mem_of_getElem? (i := 249) (by decide +kernel)
theorem q_162 : (Jvm.Cond.fieldLink "PairSymbols$State" (63 : Nat) "PairSymbols$Level" "dimension" "I") ∈ lw_tbl := List.mem_of_getElem? (i := 250) (by decide +kernel)
theorem q_163 : (Jvm.Cond.fieldLink "PairSymbols$Level" (79 : Nat) "PairSymbols$Level" "coordinates" "[[I") ∈ lw_tbl := List.mem_of_getElem? (i := 251) (by decide +kernel)
theorem q_164 : (Jvm.Cond.fieldLink "PairSymbols$Operato\x72" (62 : Nat) "PairSymbols$Level" "coordinates" "[[I") ∈ lw_tbl := List.mem_of_getElem? (i := 252) (by decide +kernel)
theorem q_165 : (Jvm.Cond.fieldLink "PairSymbols$State" (67 : Nat) "PairSymbols$Level" "coordinates" "[[I") ∈ lw_tbl := List.mem_of_getElem? (i := 253) (by decide +kernel)
theorem q_166 : (Jvm.Cond.fieldLink "PairSymbols" (129 : Nat) "PairSymbols$Level" "coordinates" "[[I") ∈ lw_tbl := List.mem_of_getElem? (i := 254) (by decide +kernel)
theorem q_167 : (Jvm.Cond.fieldLink "PairSymbols$Operato\x72" (30 : Nat) "PairSymbols$Level" "cycles" "LPairSymbols$Cycles;") ∈ lw_tbl := List.mem_of_getElem? (i := 255) (by decide +kernel)
theorem q_168 : (Jvm.Cond.fieldLink "PairSymbols$Level" (99 : Nat) "PairSymbols$Level" "cycles" "LPairSymbols$Cycles;") ∈ lw_tbl := List.mem_of_getElem? (i := 256) (by decide +kernel)
theorem q_169 : (Jvm.Cond.fieldLink "PairSymbols" (113 : Nat) "PairSymbols$Level" "cycles" "LPairSymbols$Cycles;") ∈ lw_tbl := List.mem_of_getElem? (i := 257) (by decide +kernel)
theorem q_170 : (Jvm.Cond.fieldLink "PairSymbols$Level" (105 : Nat) "PairSymbols$Level" "operators" "[LPairSymbols$Operator;") ∈ lw_tbl := List.mem_of_getElem? (i := 258) (by decide +kernel)
theorem q_171 : (Jvm.Cond.laysFinal "PairSymbols$Level" "PairSymbols$Level" "numbe\x72" "I") ∈ lw_tbl := List.mem_of_getElem? (i := 259) (by decide +kernel)
theorem q_172 : (Jvm.Cond.soleField "PairSymbols$Level" "numbe\x72") ∈ lw_tbl := List.mem_of_getElem? (i := 260) (by decide +kernel)
theorem q_173 : (Jvm.Cond.laysFinal "PairSymbols$Level" "PairSymbols$Level" "symbolAt" "[I") ∈ lw_tbl := List.mem_of_getElem? (i := 261) (by decide +kernel)
theorem q_174 : (Jvm.Cond.soleField "PairSymbols$Level" "symbolAt") ∈ lw_tbl := List.mem_of_getElem? (i := 262) (by decide +kernel)
theorem q_175 : (Jvm.Cond.laysFinal "PairSymbols$Level" "PairSymbols$Level" "count" "I") ∈ lw_tbl := List.mem_of_getElem? (i := 263) (by decide +kernel)
theorem q_176 : (Jvm.Cond.soleField "PairSymbols$Level" "count") ∈ lw_tbl := List.mem_of_getElem? (i := 264) (by decide +kernel)
theorem q_177 : (Jvm.Cond.laysFinal "PairSymbols$Level" "PairSymbols$Level" "first" "[I") ∈ lw_tbl := List.mem_of_getElem? (i := 265) (by decide +kernel)
theorem q_178 : (Jvm.Cond.soleField "PairSymbols$Level" "first") ∈ lw_tbl := List.mem_of_getElem? (i := 266) (by decide +kernel)
theorem q_179 : (Jvm.Cond.laysFinal "PairSymbols$Level" "PairSymbols$Level" "second" "[I") ∈ lw_tbl := List.mem_of_getElem? (i := 267) (by decide +kernel)
theorem q_180 : (Jvm.Cond.soleField "PairSymbols$Level" "second") ∈ lw_tbl := List.mem_of_getElem? (i := 268) (by decide +kernel)
theorem q_181 : (Jvm.Cond.laysFinal "PairSymbols$Level" "PairSymbols$Level" "turned" "[I") ∈ lw_tbl := List.mem_of_getElem? (i := 269) (by decide +kernel)
theorem q_182 : (Jvm.Cond.soleField "PairSymbols$Level" "turned") ∈ lw_tbl := List.mem_of_getElem? (i := 270) (by decide +kernel)
theorem q_183 : (Jvm.Cond.laysFinal "PairSymbols$Level" "PairSymbols$Level" "rotated" "[I") ∈ lw_tbl := List.mem_of_getElem? (i := 271) (by decide +kernel)
theorem q_184 : (Jvm.Cond.soleField "PairSymbols$Level" "rotated") ∈ lw_tbl := List.mem_of_getElem? (i := 272) (by decide +kernel)
theorem q_185 : (Jvm.Cond.laysFinal "PairSymbols$Level" "PairSymbols$Level" "shifted" "[I") ∈ lw_tbl := List.mem_of_getElem? (i := 273) (by decide +kernel)
theorem q_186 : (Jvm.Cond.soleField "PairSymbols$Level" "shifted") ∈ lw_tbl := List.mem_of_getElem? (i := 274) (by decide +kernel)
theorem q_187 : (Jvm.Cond.laysFinal "PairSymbols$Level" "PairSymbols$Level" "cuspOf" "[I") ∈ lw_tbl := List.mem_of_getElem? (i := 275) (by decide +kernel)
theorem q_188 : (Jvm.Cond.soleField "PairSymbols$Level" "cuspOf") ∈ lw_tbl := List.mem_of_getElem? (i := 276) (by decide +kernel)
theorem q_189 : (Jvm.Cond.laysFinal "PairSymbols$Level" "PairSymbols$Level" "cusps" "I") ∈ lw_tbl := List.mem_of_getElem? (i := 277) (by decide +kernel)
theorem q_190 : (Jvm.Cond.soleField "PairSymbols$Level" "cusps") ∈ lw_tbl := List.mem_of_getElem? (i := 278) (by decide +kernel)
theorem q_191 : (Jvm.Cond.laysFinal "PairSymbols$Level" "PairSymbols$Level" "free" "[I") ∈ lw_tbl := List.mem_of_getElem? (i := 279) (by decide +kernel)
theorem q_192 : (Jvm.Cond.soleField "PairSymbols$Level" "free") ∈ lw_tbl := List.mem_of_getElem? (i := 280) (by decide +kernel)
theorem q_193 : (Jvm.Cond.laysFinal "PairSymbols$Level" "PairSymbols$Level" "freeNumbe\x72" "[I") ∈ lw_tbl := List.mem_of_getElem? (i := 281) (by decide +kernel)
theorem q_194 : (Jvm.Cond.soleField "PairSymbols$Level" "freeNumbe\x72") ∈ lw_tbl := List.mem_of_getElem? (i := 282) (by decide +kernel)
theorem q_195 : (Jvm.Cond.laysFinal "PairSymbols$Level" "PairSymbols$Level" "dimension" "I") ∈ lw_tbl := List.mem_of_getElem? (i := 283) (by decide +kernel)
theorem q_196 : (Jvm.Cond.soleField "PairSymbols$Level" "dimension") ∈ lw_tbl := List.mem_of_getElem? (i := 284) (by decide +kernel)
theorem q_197 : (Jvm.Cond.laysFinal "PairSymbols$Level" "PairSymbols$Level" "coordinates" "[[I") ∈ lw_tbl := List.mem_of_getElem? (i := 285) (by decide +kernel)
theorem q_198 : (Jvm.Cond.soleField "PairSymbols$Level" "coordinates") ∈ lw_tbl := List.mem_of_getElem? (i := 286) (by decide +kernel)
theorem q_199 : (Jvm.Cond.laysFinal "PairSymbols$Level" "PairSymbols$Level" "cycles" "LPairSymbols$Cycles;") ∈ lw_tbl := List.mem_of_getElem? (i := 287) (by decide +kernel)
theorem q_200 : (Jvm.Cond.soleField "PairSymbols$Level" "cycles") ∈ lw_tbl := List.mem_of_getElem? (i := 288) (by decide +kernel)
theorem q_201 : (Jvm.Cond.laysFinal "PairSymbols$Level" "PairSymbols$Level" "operators" "[LPairSymbols$Operator;") ∈ lw_tbl := List.mem_of_getElem? (i := 289) (by decide +kernel)
theorem q_202 : (Jvm.Cond.soleField "PairSymbols$Level" "operators") ∈ lw_tbl := List.mem_of_getElem? (i := 290) (by decide +kernel)
theorem q_203 : (Jvm.Cond.superclass "PairSymbols$Level" "java/lang/Object") ∈ lw_tbl := List.mem_of_getElem? (i := 291) (by decide +kernel)
theorem q_204 : (Jvm.Cond.arrayOver (Jvm.ClassFile.FieldType.object "PairSymbols$Level")) ∈ lw_tbl := List.mem_of_getElem? (i := 292) (by decide +kernel)
theorem q_205 : (Jvm.Cond.classLink "PairSymbols" (18 : Nat) "PairSymbols$State") ∈ lw_tbl := List.mem_of_getElem? (i := 293) (by decide +kernel)
theorem q_206 : (Jvm.Cond.instantiable "PairSymbols$State" (2 : Nat)) ∈ lw_tbl := List.mem_of_getElem? (i := 294) (by decide +kernel)
theorem q_207 : (Jvm.Cond.methodLink "PairSymbols" (20 : Nat) ({ cls := "PairSymbols$State", name := "<init>", desc := "(LPairSymbols$Level;)V" } : Jvm.MethodName)) ∈ lw_tbl := List.mem_of_getElem? (i := 295) (by decide +kernel)
theorem q_208 : (Jvm.Cond.instanceMethod ({ cls := "PairSymbols$State", name := "<init>", desc := "(LPairSymbols$Level;)V" } : Jvm.MethodName)) ∈ lw_tbl := List.mem_of_getElem? (i := 296) (by decide +kernel)
theorem q_209 : (Jvm.Cond.code ({ cls := "PairSymbols$State", name := "<init>", desc := "(LPairSymbols$Level;)V" } : Jvm.MethodName) prog_10_method_1_code (2 : Nat) (Option.none : Option Jvm.ClassFile.FieldType)) ∈ lw_tbl := List.mem_of_getElem? (i := 297) (by decide +kernel)
theorem q_210 : (Jvm.Cond.methodLink "PairSymbols$State" (3 : Nat) ({ cls := "java/lang/Object", name := "<init>", desc := "()V" } : Jvm.MethodName)) ∈ lw_tbl := List.mem_of_getElem? (i := 298) (by decide +kernel)
theorem q_211 : (Jvm.Cond.fieldLink "PairSymbols$State" (9 : Nat) "PairSymbols$State" "at" "LPairSymbols$Level;") ∈ lw_tbl := List.mem_of_getElem? (i := 299) (by decide +kernel)
theorem q_212 : (Jvm.Cond.fieldLink "PairSymbols" (62 : Nat) "PairSymbols$State" "at" "LPairSymbols$Level;") ∈ lw_tbl := List.mem_of_getElem? (i := 300) (by decide +kernel)
theorem q_213 : (Jvm.Cond.fieldLink "PairSymbols$State" (15 : Nat) "PairSymbols$State" "row" "[J") ∈ lw_tbl := List.mem_of_getElem? (i := 301) (by decide +kernel)
theorem q_214 : (Jvm.Cond.fieldLink "PairSymbols" (198 : Nat) "PairSymbols$State" "row" "[J") ∈ lw_tbl := List.mem_of_getElem? (i := 302) (by decide +kernel)
theorem q_215 : (Jvm.Cond.lays "PairSymbols$State" "PairSymbols$State" "at" "LPairSymbols$Level;") ∈ lw_tbl := List.mem_of_getElem? (i := 303) (by decide +kernel)
theorem q_216 : (Jvm.Cond.soleField "PairSymbols$State" "at") ∈ lw_tbl := List.mem_of_getElem? (i := 304) (by decide +kernel)
theorem q_217 : (Jvm.Cond.laysFinal "PairSymbols$State" "PairSymbols$State" "row" "[J") ∈ lw_tbl := List.mem_of_getElem? (i := 305) (by decide +kernel)
theorem q_218 : (Jvm.Cond.soleField "PairSymbols$State" "row") ∈ lw_tbl := List.mem_of_getElem? (i := 306) (by decide +kernel)
theorem q_219 : (Jvm.Cond.superclass "PairSymbols$State" "java/lang/Object") ∈ lw_tbl := List.mem_of_getElem? (i := 307) (by decide +kernel)
theorem q_220 : (Jvm.Cond.arrayClass Jvm.ClassFile.FieldType.long) ∈ lw_tbl := List.mem_of_getElem? (i := 308) (by decide +kernel)
theorem q_221 : (Jvm.Cond.classLink "PairSymbols" (30 : Nat) "PairSymbols$History") ∈ lw_tbl := List.mem_of_getElem? (i := 309) (by decide +kernel)
theorem q_222 : (Jvm.Cond.instantiable "PairSymbols$History" (2 : Nat)) ∈ lw_tbl := List.mem_of_getElem? (i := 310) (by decide +kernel)
theorem q_223 : (Jvm.Cond.methodLink "PairSymbols" (32 : Nat) ({ cls := "PairSymbols$History", name := "<init>", desc := "(LPairSymbols$Level;)V" } : Jvm.MethodName)) ∈ lw_tbl := List.mem_of_getElem? (i := 311) (by decide +kernel)
theorem q_224 : (Jvm.Cond.instanceMethod ({ cls := "PairSymbols$History", name := "<init>", desc := "(LPairSymbols$Level;)V" } : Jvm.MethodName)) ∈ lw_tbl := List.mem_of_getElem? (i := 312) (by decide +kernel)
theorem q_225 : (Jvm.Cond.code ({ cls := "PairSymbols$History", name := "<init>", desc := "(LPairSymbols$Level;)V" } : Jvm.MethodName) prog_4_method_1_code (3 : Nat) (Option.none : Option Jvm.ClassFile.FieldType)) ∈ lw_tbl := List.mem_of_getElem? (i := 313) (by decide +kernel)
theorem q_226 : (Jvm.Cond.methodLink "PairSymbols$History" (3 : Nat) ({ cls := "java/lang/Object", name := "<init>", desc := "()V" } : Jvm.MethodName)) ∈ lw_tbl := List.mem_of_getElem? (i := 314) (by decide +kernel)
theorem q_227 : (Jvm.Cond.classLink "PairSymbols$History" (9 : Nat) "PairSymbols$State") ∈ lw_tbl := List.mem_of_getElem? (i := 315) (by decide +kernel)
theorem q_228 : (Jvm.Cond.arrayOver (Jvm.ClassFile.FieldType.object "PairSymbols$State")) ∈ lw_tbl := List.mem_of_getElem? (i := 316) (by decide +kernel)
theorem q_229 : (Jvm.Cond.methodLink "PairSymbols$History" (17 : Nat) ({ cls := "PairSymbols$State", name := "<init>", desc := "(LPairSymbols$Level;)V" } : Jvm.MethodName)) ∈ lw_tbl := List.mem_of_getElem? (i := 317) (by decide +kernel)
theorem q_230 : (Jvm.Cond.fieldLink "PairSymbols$History" (11 : Nat) "PairSymbols$History" "kept" "[LPairSymbols$State;") ∈ lw_tbl := List.mem_of_getElem? (i := 318) (by decide +kernel)
theorem q_231 : (Jvm.Cond.fieldLink "PairSymbols$History" (20 : Nat) "PairSymbols$History" "count" "I") ∈ lw_tbl := List.mem_of_getElem? (i := 319) (by decide +kernel)
theorem q_232 : (Jvm.Cond.fieldLink "PairSymbols" (221 : Nat) "PairSymbols$History" "count" "I") ∈ lw_tbl := List.mem_of_getElem? (i := 320) (by decide +kernel)
theorem q_233 : (Jvm.Cond.laysFinal "PairSymbols$History" "PairSymbols$History" "kept" "[LPairSymbols$State;") ∈ lw_tbl := List.mem_of_getElem? (i := 321) (by decide +kernel)
theorem q_234 : (Jvm.Cond.soleField "PairSymbols$History" "kept") ∈ lw_tbl := List.mem_of_getElem? (i := 322) (by decide +kernel)
theorem q_235 : (Jvm.Cond.lays "PairSymbols$History" "PairSymbols$History" "count" "I") ∈ lw_tbl := List.mem_of_getElem? (i := 323) (by decide +kernel)
theorem q_236 : (Jvm.Cond.soleField "PairSymbols$History" "count") ∈ lw_tbl := List.mem_of_getElem? (i := 324) (by decide +kernel)
theorem q_237 : (Jvm.Cond.superclass "PairSymbols$History" "java/lang/Object") ∈ lw_tbl := List.mem_of_getElem? (i := 325) (by decide +kernel)
theorem q_238 : (Jvm.Cond.classLink "PairSymbols" (37 : Nat) "PairSymbols$Script") ∈ lw_tbl := List.mem_of_getElem? (i := 326) (by decide +kernel)
theorem q_239 : (Jvm.Cond.instantiable "PairSymbols$Script" (8 : Nat)) ∈ lw_tbl := List.mem_of_getElem? (i := 327) (by decide +kernel)
theorem q_240 : (Jvm.Cond.methodLink "PairSymbols" (39 : Nat) ({ cls := "PairSymbols$Script", name := "<init>", desc := "()V" } : Jvm.MethodName)) ∈ lw_tbl := List.mem_of_getElem? (i := 328) (by decide +kernel)
theorem q_241 : (Jvm.Cond.instanceMethod ({ cls := "PairSymbols$Script", name := "<init>", desc := "()V" } : Jvm.MethodName)) ∈ lw_tbl := List.mem_of_getElem? (i := 329) (by decide +kernel)
theorem q_242 : (Jvm.Cond.code ({ cls := "PairSymbols$Script", name := "<init>", desc := "()V" } : Jvm.MethodName) prog_9_method_1_code (1 : Nat) (Option.none : Option Jvm.ClassFile.FieldType)) ∈ lw_tbl := List.mem_of_getElem? (i := 330) (by decide +kernel)
theorem q_243 : (Jvm.Cond.methodLink "PairSymbols$Script" (3 : Nat) ({ cls := "java/lang/Object", name := "<init>", desc := "()V" } : Jvm.MethodName)) ∈ lw_tbl := List.mem_of_getElem? (i := 331) (by decide +kernel)
theorem q_244 : (Jvm.Cond.fieldLink "PairSymbols$Script" (9 : Nat) "PairSymbols$Script" "bytes" "[B") ∈ lw_tbl := List.mem_of_getElem? (i := 332) (by decide +kernel)
theorem q_245 : (Jvm.Cond.fieldLink "PairSymbols$Script" (25 : Nat) "PairSymbols$Script" "length" "I") ∈ lw_tbl := List.mem_of_getElem? (i := 333) (by decide +kernel)
theorem q_246 : (Jvm.Cond.fieldLink "PairSymbols" (209 : Nat) "PairSymbols$Script" "length" "I") ∈ lw_tbl := List.mem_of_getElem? (i := 334) (by decide +kernel)
theorem q_247 : (Jvm.Cond.fieldLink "PairSymbols$Script" (15 : Nat) "PairSymbols$Script" "kinds" "[I") ∈ lw_tbl := List.mem_of_getElem? (i := 335) (by decide +kernel)
theorem q_248 : (Jvm.Cond.fieldLink "PairSymbols" (269 : Nat) "PairSymbols$Script" "kinds" "[I") ∈ lw_tbl := List.mem_of_getElem? (i := 336) (by decide +kernel)
theorem q_249 : (Jvm.Cond.fieldLink "PairSymbols$Script" (19 : Nat) "PairSymbols$Script" "one" "[I") ∈ lw_tbl := List.mem_of_getElem? (i := 337) (by decide +kernel)
theorem q_250 : (Jvm.Cond.fieldLink "PairSymbols" (263 : Nat) "PairSymbols$Script" "one" "[I") ∈ lw_tbl := List.mem_of_getElem? (i := 338) (by decide +kernel)
theorem q_251 : (Jvm.Cond.fieldLink "PairSymbols$Script" (22 : Nat) "PairSymbols$Script" "two" "[I") ∈ lw_tbl := List.mem_of_getElem? (i := 339) (by decide +kernel)
theorem q_252 : (Jvm.Cond.fieldLink "PairSymbols" (266 : Nat) "PairSymbols$Script" "two" "[I") ∈ lw_tbl := List.mem_of_getElem? (i := 340) (by decide +kernel)
theorem q_253 : (Jvm.Cond.fieldLink "PairSymbols$Script" (29 : Nat) "PairSymbols$Script" "commands" "I") ∈ lw_tbl := List.mem_of_getElem? (i := 341) (by decide +kernel)
theorem q_254 : (Jvm.Cond.fieldLink "PairSymbols" (215 : Nat) "PairSymbols$Script" "commands" "I") ∈ lw_tbl := List.mem_of_getElem? (i := 342) (by decide +kernel)
theorem q_255 : (Jvm.Cond.fieldLink "PairSymbols$Script" (32 : Nat) "PairSymbols$Script" "place" "I") ∈ lw_tbl := List.mem_of_getElem? (i := 343) (by decide +kernel)
theorem q_256 : (Jvm.Cond.fieldLink "PairSymbols$Script" (54 : Nat) "PairSymbols$Script" "numbe\x72" "I") ∈ lw_tbl := List.mem_of_getElem? (i := 344) (by decide +kernel)
theorem q_257 : (Jvm.Cond.laysFinal "PairSymbols$Script" "PairSymbols$Script" "bytes" "[B") ∈ lw_tbl := List.mem_of_getElem? (i := 345) (by decide +kernel)
theorem q_258 : (Jvm.Cond.soleField "PairSymbols$Script" "bytes") ∈ lw_tbl := List.mem_of_getElem? (i := 346) (by decide +kernel)
theorem q_259 : (Jvm.Cond.lays "PairSymbols$Script" "PairSymbols$Script" "length" "I") ∈ lw_tbl := List.mem_of_getElem? (i := 347) (by decide +kernel)
theorem q_260 : (Jvm.Cond.soleField "PairSymbols$Script" "length") ∈ lw_tbl := List.mem_of_getElem? (i := 348) (by decide +kernel)
theorem q_261 : (Jvm.Cond.laysFinal "PairSymbols$Script" "PairSymbols$Script" "kinds" "[I") ∈ lw_tbl := List.mem_of_getElem? (i := 349) (by decide +kernel)
theorem q_262 : (Jvm.Cond.soleField "PairSymbols$Script" "kinds") ∈ lw_tbl := List.mem_of_getElem? (i := 350) (by decide +kernel)
theorem q_263 : (Jvm.Cond.laysFinal "PairSymbols$Script" "PairSymbols$Script" "one" "[I") ∈ lw_tbl := List.mem_of_getElem? (i := 351) (by decide +kernel)
theorem q_264 : (Jvm.Cond.soleField "PairSymbols$Script" "one") ∈ lw_tbl := List.mem_of_getElem? (i := 352) (by decide +kernel)
theorem q_265 : (Jvm.Cond.laysFinal "PairSymbols$Script" "PairSymbols$Script" "two" "[I") ∈ lw_tbl := List.mem_of_getElem? (i := 353) (by decide +kernel)
theorem q_266 : (Jvm.Cond.soleField "PairSymbols$Script" "two") ∈ lw_tbl := List.mem_of_getElem? (i := 354) (by decide +kernel)
theorem q_267 : (Jvm.Cond.lays "PairSymbols$Script" "PairSymbols$Script" "commands" "I") ∈ lw_tbl := List.mem_of_getElem? (i := 355) (by decide +kernel)
theorem q_268 : (Jvm.Cond.soleField "PairSymbols$Script" "commands") ∈ lw_tbl := List.mem_of_getElem? (i := 356) (by decide +kernel)
theorem q_269 : (Jvm.Cond.lays "PairSymbols$Script" "PairSymbols$Script" "place" "I") ∈ lw_tbl := List.mem_of_getElem? (i := 357) (by decide +kernel)
theorem q_270 : (Jvm.Cond.soleField "PairSymbols$Script" "place") ∈ lw_tbl := List.mem_of_getElem? (i := 358) (by decide +kernel)
theorem q_271 : (Jvm.Cond.lays "PairSymbols$Script" "PairSymbols$Script" "numbe\x72" "I") ∈ lw_tbl := List.mem_of_getElem? (i := 359) (by decide +kernel)
theorem q_272 : (Jvm.Cond.soleField "PairSymbols$Script" "numbe\x72") ∈ lw_tbl := List.mem_of_getElem? (i := 360) (by decide +kernel)
theorem q_273 : (Jvm.Cond.superclass "PairSymbols$Script" "java/lang/Object") ∈ lw_tbl := List.mem_of_getElem? (i := 361) (by decide +kernel)
theorem q_274 : (Jvm.Cond.arrayClass Jvm.ClassFile.FieldType.byte) ∈ lw_tbl := List.mem_of_getElem? (i := 362) (by decide +kernel)
theorem q_275 : (Jvm.Cond.classLink "PairSymbols" (44 : Nat) "PairSymbols$Formulas") ∈ lw_tbl := List.mem_of_getElem? (i := 363) (by decide +kernel)
theorem q_276 : (Jvm.Cond.instantiable "PairSymbols$Formulas" (1 : Nat)) ∈ lw_tbl := List.mem_of_getElem? (i := 364) (by decide +kernel)
theorem q_277 : (Jvm.Cond.methodLink "PairSymbols" (46 : Nat) ({ cls := "PairSymbols$Formulas", name := "<init>", desc := "()V" } : Jvm.MethodName)) ∈ lw_tbl := List.mem_of_getElem? (i := 365) (by decide +kernel)
theorem q_278 : (Jvm.Cond.instanceMethod ({ cls := "PairSymbols$Formulas", name := "<init>", desc := "()V" } : Jvm.MethodName)) ∈ lw_tbl := List.mem_of_getElem? (i := 366) (by decide +kernel)
theorem q_279 : (Jvm.Cond.code ({ cls := "PairSymbols$Formulas", name := "<init>", desc := "()V" } : Jvm.MethodName) prog_3_method_1_code (1 : Nat) (Option.none : Option Jvm.ClassFile.FieldType)) ∈ lw_tbl := List.mem_of_getElem? (i := 367) (by decide +kernel)
theorem q_280 : (Jvm.Cond.methodLink "PairSymbols$Formulas" (3 : Nat) ({ cls := "java/lang/Object", name := "<init>", desc := "()V" } : Jvm.MethodName)) ∈ lw_tbl := List.mem_of_getElem? (i := 368) (by decide +kernel)
theorem q_281 : (Jvm.Cond.methodLink "PairSymbols$Formulas" (15 : Nat) ({ cls := "java/util/Arrays", name := "fill", desc := "([II)V" } : Jvm.MethodName)) ∈ lw_tbl := List.mem_of_getElem? (i := 369) (by decide +kernel)
theorem q_282 : (Jvm.Cond.fieldLink "PairSymbols$Formulas" (9 : Nat) "PairSymbols$Formulas" "news" "[I") ∈ lw_tbl := List.mem_of_getElem? (i := 370) (by decide +kernel)
theorem q_283 : (Jvm.Cond.laysFinal "PairSymbols$Formulas" "PairSymbols$Formulas" "news" "[I") ∈ lw_tbl := List.mem_of_getElem? (i := 371) (by decide +kernel)
theorem q_284 : (Jvm.Cond.soleField "PairSymbols$Formulas" "news") ∈ lw_tbl := List.mem_of_getElem? (i := 372) (by decide +kernel)
theorem q_285 : (Jvm.Cond.superclass "PairSymbols$Formulas" "java/lang/Object") ∈ lw_tbl := List.mem_of_getElem? (i := 373) (by decide +kernel)
theorem q_286 : (Jvm.Cond.fieldLink "PairSymbols" (14 : Nat) "PairSymbols" "made" "[LPairSymbols$Level;") ∈ lw_tbl := List.mem_of_getElem? (i := 374) (by decide +kernel)
theorem q_287 : (Jvm.Cond.fieldLink "PairSymbols" (23 : Nat) "PairSymbols" "now" "LPairSymbols$State;") ∈ lw_tbl := List.mem_of_getElem? (i := 375) (by decide +kernel)
theorem q_288 : (Jvm.Cond.fieldLink "PairSymbols" (27 : Nat) "PairSymbols" "trial" "LPairSymbols$State;") ∈ lw_tbl := List.mem_of_getElem? (i := 376) (by decide +kernel)
theorem q_289 : (Jvm.Cond.fieldLink "PairSymbols" (33 : Nat) "PairSymbols" "history" "LPairSymbols$History;") ∈ lw_tbl := List.mem_of_getElem? (i := 377) (by decide +kernel)
theorem q_290 : (Jvm.Cond.fieldLink "PairSymbols" (40 : Nat) "PairSymbols" "script" "LPairSymbols$Script;") ∈ lw_tbl := List.mem_of_getElem? (i := 378) (by decide +kernel)
theorem q_291 : (Jvm.Cond.fieldLink "PairSymbols" (47 : Nat) "PairSymbols" "formulas" "LPairSymbols$Formulas;") ∈ lw_tbl := List.mem_of_getElem? (i := 379) (by decide +kernel)
theorem q_292 : (Jvm.Cond.fieldLink "PairSymbols" (225 : Nat) "PairSymbols" "badCount" "I") ∈ lw_tbl := List.mem_of_getElem? (i := 380) (by decide +kernel)
theorem q_293 : (Jvm.Cond.fieldLink "PairSymbols" (228 : Nat) "PairSymbols" "noCount" "I") ∈ lw_tbl := List.mem_of_getElem? (i := 381) (by decide +kernel)
theorem q_294 : (Jvm.Cond.fieldLink "PairSymbols" (231 : Nat) "PairSymbols" "fullCount" "I") ∈ lw_tbl := List.mem_of_getElem? (i := 382) (by decide +kernel)
theorem q_295 : (Jvm.Cond.laysFinal "PairSymbols" "PairSymbols" "made" "[LPairSymbols$Level;") ∈ lw_tbl := List.mem_of_getElem? (i := 383) (by decide +kernel)
theorem q_296 : (Jvm.Cond.soleField "PairSymbols" "made") ∈ lw_tbl := List.mem_of_getElem? (i := 384) (by decide +kernel)
theorem q_297 : (Jvm.Cond.laysFinal "PairSymbols" "PairSymbols" "now" "LPairSymbols$State;") ∈ lw_tbl := List.mem_of_getElem? (i := 385) (by decide +kernel)
theorem q_298 : (Jvm.Cond.soleField "PairSymbols" "now") ∈ lw_tbl := List.mem_of_getElem? (i := 386) (by decide +kernel)
theorem q_299 : (Jvm.Cond.laysFinal "PairSymbols" "PairSymbols" "trial" "LPairSymbols$State;") ∈ lw_tbl := List.mem_of_getElem? (i := 387) (by decide +kernel)
theorem q_300 : (Jvm.Cond.soleField "PairSymbols" "trial") ∈ lw_tbl := List.mem_of_getElem? (i := 388) (by decide +kernel)
theorem q_301 : (Jvm.Cond.laysFinal "PairSymbols" "PairSymbols" "history" "LPairSymbols$History;") ∈ lw_tbl := List.mem_of_getElem? (i := 389) (by decide +kernel)
theorem q_302 : (Jvm.Cond.soleField "PairSymbols" "history") ∈ lw_tbl := List.mem_of_getElem? (i := 390) (by decide +kernel)
theorem q_303 : (Jvm.Cond.laysFinal "PairSymbols" "PairSymbols" "script" "LPairSymbols$Script;") ∈ lw_tbl := List.mem_of_getElem? (i := 391) (by decide +kernel)
theorem q_304 : (Jvm.Cond.soleField "PairSymbols" "script") ∈ lw_tbl := List.mem_of_getElem? (i := 392) (by decide +kernel)
theorem q_305 : (Jvm.Cond.laysFinal "PairSymbols" "PairSymbols" "formulas" "LPairSymbols$Formulas;") ∈ lw_tbl := List.mem_of_getElem? (i := 393) (by decide +kernel)
theorem q_306 : (Jvm.Cond.soleField "PairSymbols" "formulas") ∈ lw_tbl := List.mem_of_getElem? (i := 394) (by decide +kernel)
theorem q_307 : (Jvm.Cond.lays "PairSymbols" "PairSymbols" "badCount" "I") ∈ lw_tbl := List.mem_of_getElem? (i := 395) (by decide +kernel)
theorem q_308 : (Jvm.Cond.soleField "PairSymbols" "badCount") ∈ lw_tbl := List.mem_of_getElem? (i := 396) (by decide +kernel)
theorem q_309 : (Jvm.Cond.lays "PairSymbols" "PairSymbols" "noCount" "I") ∈ lw_tbl := List.mem_of_getElem? (i := 397) (by decide +kernel)
theorem q_310 : (Jvm.Cond.soleField "PairSymbols" "noCount") ∈ lw_tbl := List.mem_of_getElem? (i := 398) (by decide +kernel)
theorem q_311 : (Jvm.Cond.lays "PairSymbols" "PairSymbols" "fullCount" "I") ∈ lw_tbl := List.mem_of_getElem? (i := 399) (by decide +kernel)
theorem q_312 : (Jvm.Cond.soleField "PairSymbols" "fullCount") ∈ lw_tbl := List.mem_of_getElem? (i := 400) (by decide +kernel)
theorem q_313 : (Jvm.Cond.superclass "PairSymbols" "java/lang/Object") ∈ lw_tbl := List.mem_of_getElem? (i := 401) (by decide +kernel)
theorem q_314 : (Jvm.Cond.methodLink "PairSymbolsLaw" (13 : Nat) ({ cls := "PairSymbols", name := "level", desc := "(I)I" } : Jvm.MethodName)) ∈ lw_tbl := List.mem_of_getElem? (i := 402) (by decide +kernel)
theorem q_315 : (Jvm.Cond.instanceMethod ({ cls := "PairSymbols", name := "level", desc := "(I)I" } : Jvm.MethodName)) ∈ lw_tbl := List.mem_of_getElem? (i := 403) (by decide +kernel)
theorem q_316 : (Jvm.Cond.selects "PairSymbols" ({ cls := "PairSymbols", name := "level", desc := "(I)I" } : Jvm.MethodName) ({ cls := "PairSymbols", name := "level", desc := "(I)I" } : Jvm.MethodName)) ∈ lw_tbl := List.mem_of_getElem? (i := 404) (by decide +kernel)
theorem q_317 : (Jvm.Cond.code ({ cls := "PairSymbols", name := "level", desc := "(I)I" } : Jvm.MethodName) prog_1_method_2_code (2 : Nat) (Option.some Jvm.ClassFile.FieldType.int)) ∈ lw_tbl := List.mem_of_getElem? (i := 405) (by decide +kernel)
theorem q_318 : (Jvm.Cond.methodLink "PairSymbols" (51 : Nat) ({ cls := "PairSymbols$State", name := "copyFrom", desc := "(LPairSymbols$State;)V" } : Jvm.MethodName)) ∈ lw_tbl := List.mem_of_getElem? (i := 406) (by decide +kernel)
theorem q_319 : (Jvm.Cond.instanceMethod ({ cls := "PairSymbols$State", name := "copyFrom", desc := "(LPairSymbols$State;)V" } : Jvm.MethodName)) ∈ lw_tbl := List.mem_of_getElem? (i := 407) (by decide +kernel)
theorem q_320 : (Jvm.Cond.selects "PairSymbols$State" ({ cls := "PairSymbols$State", name := "copyFrom", desc := "(LPairSymbols$State;)V" } : Jvm.MethodName) ({ cls := "PairSymbols$State", name := "copyFrom", desc := "(LPairSymbols$State;)V" } : Jvm.MethodName)) ∈ lw_tbl := List.mem_of_getElem? (i := 408) (by decide +kernel)
theorem q_321 : (Jvm.Cond.code ({ cls := "PairSymbols$State", name := "copyFrom", desc := "(LPairSymbols$State;)V" } : Jvm.MethodName) prog_10_method_2_code (2 : Nat) (Option.none : Option Jvm.ClassFile.FieldType)) ∈ lw_tbl := List.mem_of_getElem? (i := 409) (by decide +kernel)
theorem q_322 : (Jvm.Cond.methodLink "PairSymbols$State" (19 : Nat) ({ cls := "java/lang/System", name := "arraycopy", desc := "(Ljava/lang/Object;ILjava/lang/Object;II)V" } : Jvm.MethodName)) ∈ lw_tbl := List.mem_of_getElem? (i := 410) (by decide +kernel)
theorem q_323 : (Jvm.Cond.static ({ cls := "java/lang/System", name := "arraycopy", desc := "(Ljava/lang/Object;ILjava/lang/Object;II)V" } : Jvm.MethodName)) ∈ lw_tbl := List.mem_of_getElem? (i := 411) (by decide +kernel)
theorem q_324 : (Jvm.Cond.native ({ cls := "java/lang/System", name := "arraycopy", desc := "(Ljava/lang/Object;ILjava/lang/Object;II)V" } : Jvm.MethodName)) ∈ lw_tbl := List.mem_of_getElem? (i := 412) (by decide +kernel)
theorem q_325 : (Jvm.Cond.methodLink "PairSymbols" (55 : Nat) ({ cls := "PairSymbols", name := "ente\x72", desc := "(I)I" } : Jvm.MethodName)) ∈ lw_tbl := List.mem_of_getElem? (i := 413) (by decide +kernel)
theorem q_326 : (Jvm.Cond.privateMethod ({ cls := "PairSymbols", name := "ente\x72", desc := "(I)I" } : Jvm.MethodName)) ∈ lw_tbl := List.mem_of_getElem? (i := 414) (by decide +kernel)
theorem q_327 : (Jvm.Cond.instanceMethod ({ cls := "PairSymbols", name := "ente\x72", desc := "(I)I" } : Jvm.MethodName)) ∈ lw_tbl := List.mem_of_getElem? (i := 415) (by decide +kernel)
theorem q_328 : (Jvm.Cond.code ({ cls := "PairSymbols", name := "ente\x72", desc := "(I)I" } : Jvm.MethodName) prog_1_method_29_code (4 : Nat) (Option.some Jvm.ClassFile.FieldType.int)) ∈ lw_tbl := List.mem_of_getElem? (i := 416) (by decide +kernel)
theorem q_329 : (Jvm.Cond.methodLink "PairSymbols" (99 : Nat) ({ cls := "PairSymbols", name := "within", desc := "(III)Z" } : Jvm.MethodName)) ∈ lw_tbl := List.mem_of_getElem? (i := 417) (by decide +kernel)
theorem q_330 : (Jvm.Cond.static ({ cls := "PairSymbols", name := "within", desc := "(III)Z" } : Jvm.MethodName)) ∈ lw_tbl := List.mem_of_getElem? (i := 418) (by decide +kernel)
theorem q_331 : (Jvm.Cond.code ({ cls := "PairSymbols", name := "within", desc := "(III)Z" } : Jvm.MethodName) prog_1_method_25_code (3 : Nat) (Option.some Jvm.ClassFile.FieldType.boolean)) ∈ lw_tbl := List.mem_of_getElem? (i := 419) (by decide +kernel)
theorem q_332 : (Jvm.Cond.methodLink "PairSymbols" (260 : Nat) ({ cls := "PairSymbols$State", name := "becomeZero", desc := "()I" } : Jvm.MethodName)) ∈ lw_tbl := List.mem_of_getElem? (i := 420) (by decide +kernel)
theorem q_333 : (Jvm.Cond.instanceMethod ({ cls := "PairSymbols$State", name := "becomeZero", desc := "()I" } : Jvm.MethodName)) ∈ lw_tbl := List.mem_of_getElem? (i := 421) (by decide +kernel)
theorem q_334 : (Jvm.Cond.selects "PairSymbols$State" ({ cls := "PairSymbols$State", name := "becomeZero", desc := "()I" } : Jvm.MethodName) ({ cls := "PairSymbols$State", name := "becomeZero", desc := "()I" } : Jvm.MethodName)) ∈ lw_tbl := List.mem_of_getElem? (i := 422) (by decide +kernel)
theorem q_335 : (Jvm.Cond.code ({ cls := "PairSymbols$State", name := "becomeZero", desc := "()I" } : Jvm.MethodName) prog_10_method_3_code (1 : Nat) (Option.some Jvm.ClassFile.FieldType.int)) ∈ lw_tbl := List.mem_of_getElem? (i := 423) (by decide +kernel)
theorem q_336 : (Jvm.Cond.methodLink "PairSymbols$State" (25 : Nat) ({ cls := "java/util/Arrays", name := "fill", desc := "([JJ)V" } : Jvm.MethodName)) ∈ lw_tbl := List.mem_of_getElem? (i := 424) (by decide +kernel)
theorem q_337 : (Jvm.Cond.static ({ cls := "java/util/Arrays", name := "fill", desc := "([JJ)V" } : Jvm.MethodName)) ∈ lw_tbl := List.mem_of_getElem? (i := 425) (by decide +kernel)
theorem q_338 : (Jvm.Cond.code ({ cls := "java/util/Arrays", name := "fill", desc := "([JJ)V" } : Jvm.MethodName) prog_16_method_101_code (5 : Nat) (Option.none : Option Jvm.ClassFile.FieldType)) ∈ lw_tbl := List.mem_of_getElem? (i := 426) (by decide +kernel)
theorem q_339 : (Jvm.Cond.methodLink "PairSymbols" (59 : Nat) ({ cls := "PairSymbols", name := "settle", desc := "(I)I" } : Jvm.MethodName)) ∈ lw_tbl := List.mem_of_getElem? (i := 427) (by decide +kernel)
theorem q_340 : (Jvm.Cond.privateMethod ({ cls := "PairSymbols", name := "settle", desc := "(I)I" } : Jvm.MethodName)) ∈ lw_tbl := List.mem_of_getElem? (i := 428) (by decide +kernel)
theorem q_341 : (Jvm.Cond.instanceMethod ({ cls := "PairSymbols", name := "settle", desc := "(I)I" } : Jvm.MethodName)) ∈ lw_tbl := List.mem_of_getElem? (i := 429) (by decide +kernel)
theorem q_342 : (Jvm.Cond.code ({ cls := "PairSymbols", name := "settle", desc := "(I)I" } : Jvm.MethodName) prog_1_method_28_code (2 : Nat) (Option.some Jvm.ClassFile.FieldType.int)) ∈ lw_tbl := List.mem_of_getElem? (i := 430) (by decide +kernel)
theorem q_343 : (Jvm.Cond.methodLink "PairSymbols" (74 : Nat) ({ cls := "PairSymbols", name := "refuse", desc := "(I)I" } : Jvm.MethodName)) ∈ lw_tbl := List.mem_of_getElem? (i := 431) (by decide +kernel)
theorem q_344 : (Jvm.Cond.privateMethod ({ cls := "PairSymbols", name := "refuse", desc := "(I)I" } : Jvm.MethodName)) ∈ lw_tbl := List.mem_of_getElem? (i := 432) (by decide +kernel)
theorem q_345 : (Jvm.Cond.instanceMethod ({ cls := "PairSymbols", name := "refuse", desc := "(I)I" } : Jvm.MethodName)) ∈ lw_tbl := List.mem_of_getElem? (i := 433) (by decide +kernel)
theorem q_346 : (Jvm.Cond.code ({ cls := "PairSymbols", name := "refuse", desc := "(I)I" } : Jvm.MethodName) prog_1_method_27_code (2 : Nat) (Option.some Jvm.ClassFile.FieldType.int)) ∈ lw_tbl := List.mem_of_getElem? (i := 434) (by decide +kernel)
theorem q_347 : (Jvm.Cond.methodLink "PairSymbols" (257 : Nat) ({ cls := "PairSymbols$History", name := "keep", desc := "(LPairSymbols$State;)V" } : Jvm.MethodName)) ∈ lw_tbl := List.mem_of_getElem? (i := 435) (by decide +kernel)
theorem q_348 : (Jvm.Cond.instanceMethod ({ cls := "PairSymbols$History", name := "keep", desc := "(LPairSymbols$State;)V" } : Jvm.MethodName)) ∈ lw_tbl := List.mem_of_getElem? (i := 436) (by decide +kernel)
theorem q_349 : (Jvm.Cond.selects "PairSymbols$History" ({ cls := "PairSymbols$History", name := "keep", desc := "(LPairSymbols$State;)V" } : Jvm.MethodName) ({ cls := "PairSymbols$History", name := "keep", desc := "(LPairSymbols$State;)V" } : Jvm.MethodName)) ∈ lw_tbl := List.mem_of_getElem? (i := 437) (by decide +kernel)
theorem q_350 : (Jvm.Cond.code ({ cls := "PairSymbols$History", name := "keep", desc := "(LPairSymbols$State;)V" } : Jvm.MethodName) prog_4_method_2_code (2 : Nat) (Option.none : Option Jvm.ClassFile.FieldType)) ∈ lw_tbl := List.mem_of_getElem? (i := 438) (by decide +kernel)
theorem q_351 : (Jvm.Cond.methodLink "PairSymbols$History" (24 : Nat) ({ cls := "PairSymbols$History", name := "forgetOldest", desc := "()V" } : Jvm.MethodName)) ∈ lw_tbl := List.mem_of_getElem? (i := 439) (by decide +kernel)
theorem q_352 : (Jvm.Cond.privateMethod ({ cls := "PairSymbols$History", name := "forgetOldest", desc := "()V" } : Jvm.MethodName)) ∈ lw_tbl := List.mem_of_getElem? (i := 440) (by decide +kernel)
theorem q_353 : (Jvm.Cond.instanceMethod ({ cls := "PairSymbols$History", name := "forgetOldest", desc := "()V" } : Jvm.MethodName)) ∈ lw_tbl := List.mem_of_getElem? (i := 441) (by decide +kernel)
theorem q_354 : (Jvm.Cond.code ({ cls := "PairSymbols$History", name := "forgetOldest", desc := "()V" } : Jvm.MethodName) prog_4_method_3_code (3 : Nat) (Option.none : Option Jvm.ClassFile.FieldType)) ∈ lw_tbl := List.mem_of_getElem? (i := 442) (by decide +kernel)
theorem q_355 : (Jvm.Cond.methodLink "PairSymbols$History" (27 : Nat) ({ cls := "PairSymbols$State", name := "copyFrom", desc := "(LPairSymbols$State;)V" } : Jvm.MethodName)) ∈ lw_tbl := List.mem_of_getElem? (i := 443) (by decide +kernel)
theorem q_356 : (Jvm.Cond.methodLink "PairSymbolsLaw" (18 : Nat) ({ cls := "PairSymbols", name := "symbols", desc := "()I" } : Jvm.MethodName)) ∈ lw_tbl := List.mem_of_getElem? (i := 444) (by decide +kernel)
theorem q_357 : (Jvm.Cond.instanceMethod ({ cls := "PairSymbols", name := "symbols", desc := "()I" } : Jvm.MethodName)) ∈ lw_tbl := List.mem_of_getElem? (i := 445) (by decide +kernel)
theorem q_358 : (Jvm.Cond.selects "PairSymbols" ({ cls := "PairSymbols", name := "symbols", desc := "()I" } : Jvm.MethodName) ({ cls := "PairSymbols", name := "symbols", desc := "()I" } : Jvm.MethodName)) ∈ lw_tbl := List.mem_of_getElem? (i := 446) (by decide +kernel)
theorem q_359 : (Jvm.Cond.code ({ cls := "PairSymbols", name := "symbols", desc := "()I" } : Jvm.MethodName) prog_1_method_3_code (1 : Nat) (Option.some Jvm.ClassFile.FieldType.int)) ∈ lw_tbl := List.mem_of_getElem? (i := 447) (by decide +kernel)
theorem q_360 : (Jvm.Cond.methodLink "PairSymbolsLaw" (23 : Nat) ({ cls := "PairSymbols", name := "symbol", desc := "(II)I" } : Jvm.MethodName)) ∈ lw_tbl := List.mem_of_getElem? (i := 448) (by decide +kernel)
theorem q_361 : (Jvm.Cond.instanceMethod ({ cls := "PairSymbols", name := "symbol", desc := "(II)I" } : Jvm.MethodName)) ∈ lw_tbl := List.mem_of_getElem? (i := 449) (by decide +kernel)
theorem q_362 : (Jvm.Cond.selects "PairSymbols" ({ cls := "PairSymbols", name := "symbol", desc := "(II)I" } : Jvm.MethodName) ({ cls := "PairSymbols", name := "symbol", desc := "(II)I" } : Jvm.MethodName)) ∈ lw_tbl := List.mem_of_getElem? (i := 450) (by decide +kernel)
theorem q_363 : (Jvm.Cond.code ({ cls := "PairSymbols", name := "symbol", desc := "(II)I" } : Jvm.MethodName) prog_1_method_4_code (4 : Nat) (Option.some Jvm.ClassFile.FieldType.int)) ∈ lw_tbl := List.mem_of_getElem? (i := 451) (by decide +kernel)
theorem q_364 : (Jvm.Cond.methodLink "PairSymbols" (70 : Nat) ({ cls := "PairSymbols$Level", name := "hasSymbol", desc := "(I)Z" } : Jvm.MethodName)) ∈ lw_tbl := List.mem_of_getElem? (i := 452) (by decide +kernel)
theorem q_365 : (Jvm.Cond.instanceMethod ({ cls := "PairSymbols$Level", name := "hasSymbol", desc := "(I)Z" } : Jvm.MethodName)) ∈ lw_tbl := List.mem_of_getElem? (i := 453) (by decide +kernel)
theorem q_366 : (Jvm.Cond.selects "PairSymbols$Level" ({ cls := "PairSymbols$Level", name := "hasSymbol", desc := "(I)Z" } : Jvm.MethodName) ({ cls := "PairSymbols$Level", name := "hasSymbol", desc := "(I)Z" } : Jvm.MethodName)) ∈ lw_tbl := List.mem_of_getElem? (i := 454) (by decide +kernel)
theorem q_367 : (Jvm.Cond.code ({ cls := "PairSymbols$Level", name := "hasSymbol", desc := "(I)Z" } : Jvm.MethodName) prog_5_method_2_code (2 : Nat) (Option.some Jvm.ClassFile.FieldType.boolean)) ∈ lw_tbl := List.mem_of_getElem? (i := 455) (by decide +kernel)
theorem q_368 : (Jvm.Cond.methodLink "PairSymbolsLaw" (28 : Nat) ({ cls := "PairSymbols", name := "pai\x72", desc := "(II)I" } : Jvm.MethodName)) ∈ lw_tbl := List.mem_of_getElem? (i := 456) (by decide +kernel)
theorem q_369 : (Jvm.Cond.instanceMethod ({ cls := "PairSymbols", name := "pai\x72", desc := "(II)I" } : Jvm.MethodName)) ∈ lw_tbl := List.mem_of_getElem? (i := 457) (by decide +kernel)
theorem q_370 : (Jvm.Cond.selects "PairSymbols" ({ cls := "PairSymbols", name := "pai\x72", desc := "(II)I" } : Jvm.MethodName) ({ cls := "PairSymbols", name := "pai\x72", desc := "(II)I" } : Jvm.MethodName)) ∈ lw_tbl := List.mem_of_getElem? (i := 458) (by decide +kernel)
theorem q_371 : (Jvm.Cond.code ({ cls := "PairSymbols", name := "pai\x72", desc := "(II)I" } : Jvm.MethodName) prog_1_method_5_code (3 : Nat) (Option.some Jvm.ClassFile.FieldType.int)) ∈ lw_tbl := List.mem_of_getElem? (i := 459) (by decide +kernel)
theorem q_372 : (Jvm.Cond.methodLink "PairSymbols" (103 : Nat) ({ cls := "PairSymbols$Level", name := "find", desc := "(II)I" } : Jvm.MethodName)) ∈ lw_tbl := List.mem_of_getElem? (i := 460) (by decide +kernel)
theorem q_373 : (Jvm.Cond.methodLink "PairSymbolsLaw" (32 : Nat) ({ cls := "PairSymbols", name := "space", desc := "(I)I" } : Jvm.MethodName)) ∈ lw_tbl := List.mem_of_getElem? (i := 461) (by decide +kernel)
theorem q_374 : (Jvm.Cond.instanceMethod ({ cls := "PairSymbols", name := "space", desc := "(I)I" } : Jvm.MethodName)) ∈ lw_tbl := List.mem_of_getElem? (i := 462) (by decide +kernel)
theorem q_375 : (Jvm.Cond.selects "PairSymbols" ({ cls := "PairSymbols", name := "space", desc := "(I)I" } : Jvm.MethodName) ({ cls := "PairSymbols", name := "space", desc := "(I)I" } : Jvm.MethodName)) ∈ lw_tbl := List.mem_of_getElem? (i := 463) (by decide +kernel)
theorem q_376 : (Jvm.Cond.code ({ cls := "PairSymbols", name := "space", desc := "(I)I" } : Jvm.MethodName) prog_1_method_6_code (3 : Nat) (Option.some Jvm.ClassFile.FieldType.int)) ∈ lw_tbl := List.mem_of_getElem? (i := 464) (by decide +kernel)
theorem q_377 : (Jvm.Cond.methodLink "PairSymbols" (122 : Nat) ({ cls := "PairSymbols$Level", name := "closedSymbols", desc := "()I" } : Jvm.MethodName)) ∈ lw_tbl := List.mem_of_getElem? (i := 465) (by decide +kernel)
theorem q_378 : (Jvm.Cond.instanceMethod ({ cls := "PairSymbols$Level", name := "closedSymbols", desc := "()I" } : Jvm.MethodName)) ∈ lw_tbl := List.mem_of_getElem? (i := 466) (by decide +kernel)
theorem q_379 : (Jvm.Cond.selects "PairSymbols$Level" ({ cls := "PairSymbols$Level", name := "closedSymbols", desc := "()I" } : Jvm.MethodName) ({ cls := "PairSymbols$Level", name := "closedSymbols", desc := "()I" } : Jvm.MethodName)) ∈ lw_tbl := List.mem_of_getElem? (i := 467) (by decide +kernel)
theorem q_380 : (Jvm.Cond.code ({ cls := "PairSymbols$Level", name := "closedSymbols", desc := "()I" } : Jvm.MethodName) prog_5_method_13_code (3 : Nat) (Option.some Jvm.ClassFile.FieldType.int)) ∈ lw_tbl := List.mem_of_getElem? (i := 468) (by decide +kernel)
theorem q_381 : (Jvm.Cond.methodLink "PairSymbolsLaw" (36 : Nat) ({ cls := "PairSymbols", name := "fraction", desc := "(III)J" } : Jvm.MethodName)) ∈ lw_tbl := List.mem_of_getElem? (i := 469) (by decide +kernel)
theorem q_382 : (Jvm.Cond.instanceMethod ({ cls := "PairSymbols", name := "fraction", desc := "(III)J" } : Jvm.MethodName)) ∈ lw_tbl := List.mem_of_getElem? (i := 470) (by decide +kernel)
theorem q_383 : (Jvm.Cond.selects "PairSymbols" ({ cls := "PairSymbols", name := "fraction", desc := "(III)J" } : Jvm.MethodName) ({ cls := "PairSymbols", name := "fraction", desc := "(III)J" } : Jvm.MethodName)) ∈ lw_tbl := List.mem_of_getElem? (i := 471) (by decide +kernel)
theorem q_384 : (Jvm.Cond.code ({ cls := "PairSymbols", name := "fraction", desc := "(III)J" } : Jvm.MethodName) prog_1_method_7_code (5 : Nat) (Option.some Jvm.ClassFile.FieldType.long)) ∈ lw_tbl := List.mem_of_getElem? (i := 472) (by decide +kernel)
theorem q_385 : (Jvm.Cond.methodLink "PairSymbols" (126 : Nat) ({ cls := "PairSymbols$Level", name := "hasCoordinate", desc := "(I)Z" } : Jvm.MethodName)) ∈ lw_tbl := List.mem_of_getElem? (i := 473) (by decide +kernel)
theorem q_386 : (Jvm.Cond.instanceMethod ({ cls := "PairSymbols$Level", name := "hasCoordinate", desc := "(I)Z" } : Jvm.MethodName)) ∈ lw_tbl := List.mem_of_getElem? (i := 474) (by decide +kernel)
theorem q_387 : (Jvm.Cond.selects "PairSymbols$Level" ({ cls := "PairSymbols$Level", name := "hasCoordinate", desc := "(I)Z" } : Jvm.MethodName) ({ cls := "PairSymbols$Level", name := "hasCoordinate", desc := "(I)Z" } : Jvm.MethodName)) ∈ lw_tbl := List.mem_of_getElem? (i := 475) (by decide +kernel)
theorem q_388 : (Jvm.Cond.code ({ cls := "PairSymbols$Level", name := "hasCoordinate", desc := "(I)Z" } : Jvm.MethodName) prog_5_method_3_code (2 : Nat) (Option.some Jvm.ClassFile.FieldType.boolean)) ∈ lw_tbl := List.mem_of_getElem? (i := 476) (by decide +kernel)
theorem q_389 : (Jvm.Cond.methodLink "PairSymbolsLaw" (41 : Nat) ({ cls := "PairSymbols", name := "table", desc := "(IIII)J" } : Jvm.MethodName)) ∈ lw_tbl := List.mem_of_getElem? (i := 477) (by decide +kernel)
theorem q_390 : (Jvm.Cond.instanceMethod ({ cls := "PairSymbols", name := "table", desc := "(IIII)J" } : Jvm.MethodName)) ∈ lw_tbl := List.mem_of_getElem? (i := 478) (by decide +kernel)
theorem q_391 : (Jvm.Cond.selects "PairSymbols" ({ cls := "PairSymbols", name := "table", desc := "(IIII)J" } : Jvm.MethodName) ({ cls := "PairSymbols", name := "table", desc := "(IIII)J" } : Jvm.MethodName)) ∈ lw_tbl := List.mem_of_getElem? (i := 479) (by decide +kernel)
theorem q_392 : (Jvm.Cond.code ({ cls := "PairSymbols", name := "table", desc := "(IIII)J" } : Jvm.MethodName) prog_1_method_8_code (7 : Nat) (Option.some Jvm.ClassFile.FieldType.long)) ∈ lw_tbl := List.mem_of_getElem? (i := 480) (by decide +kernel)
theorem q_393 : (Jvm.Cond.methodLink "PairSymbols" (133 : Nat) ({ cls := "PairSymbols$Level", name := "operatorFo\x72", desc := "(I)LPairSymbols$Operator;" } : Jvm.MethodName)) ∈ lw_tbl := List.mem_of_getElem? (i := 481) (by decide +kernel)
theorem q_394 : (Jvm.Cond.instanceMethod ({ cls := "PairSymbols$Level", name := "operatorFo\x72", desc := "(I)LPairSymbols$Operator;" } : Jvm.MethodName)) ∈ lw_tbl := List.mem_of_getElem? (i := 482) (by decide +kernel)
theorem q_395 : (Jvm.Cond.selects "PairSymbols$Level" ({ cls := "PairSymbols$Level", name := "operatorFo\x72", desc := "(I)LPairSymbols$Operator;" } : Jvm.MethodName) ({ cls := "PairSymbols$Level", name := "operatorFo\x72", desc := "(I)LPairSymbols$Operator;" } : Jvm.MethodName)) ∈ lw_tbl := List.mem_of_getElem? (i := 483) (by decide +kernel)
theorem q_396 : (Jvm.Cond.code ({ cls := "PairSymbols$Level", name := "operatorFo\x72", desc := "(I)LPairSymbols$Operator;" } : Jvm.MethodName) prog_5_method_14_code (3 : Nat) (Option.some (Jvm.ClassFile.FieldType.object "PairSymbols$Operato\x72"))) ∈ lw_tbl := List.mem_of_getElem? (i := 484) (by decide +kernel)
theorem q_397 : (Jvm.Cond.methodLinkNest "PairSymbols$Level" (127 : Nat) ({ cls := "PairSymbols", name := "within", desc := "(III)Z" } : Jvm.MethodName) "PairSymbols") ∈ lw_tbl := List.mem_of_getElem? (i := 485) (by decide +kernel)
theorem q_398 : (Jvm.Cond.instantiable "PairSymbols$Operato\x72" (5 : Nat)) ∈ lw_tbl := List.mem_of_getElem? (i := 486) (by decide +kernel)
theorem q_399 : (Jvm.Cond.methodLink "PairSymbols$Level" (131 : Nat) ({ cls := "PairSymbols$Operato\x72", name := "<init>", desc := "(LPairSymbols$Level;I)V" } : Jvm.MethodName)) ∈ lw_tbl := List.mem_of_getElem? (i := 487) (by decide +kernel)
theorem q_400 : (Jvm.Cond.instanceMethod ({ cls := "PairSymbols$Operato\x72", name := "<init>", desc := "(LPairSymbols$Level;I)V" } : Jvm.MethodName)) ∈ lw_tbl := List.mem_of_getElem? (i := 488) (by decide +kernel)
theorem q_401 : (Jvm.Cond.code ({ cls := "PairSymbols$Operato\x72", name := "<init>", desc := "(LPairSymbols$Level;I)V" } : Jvm.MethodName) prog_7_method_1_code (4 : Nat) (Option.none : Option Jvm.ClassFile.FieldType)) ∈ lw_tbl := List.mem_of_getElem? (i := 489) (by decide +kernel)
theorem q_402 : (Jvm.Cond.methodLink "PairSymbols$Operato\x72" (3 : Nat) ({ cls := "java/lang/Object", name := "<init>", desc := "()V" } : Jvm.MethodName)) ∈ lw_tbl := List.mem_of_getElem? (i := 490) (by decide +kernel)
theorem q_403 : (Jvm.Cond.classLink "PairSymbols$Operato\x72" (15 : Nat) "[[J") ∈ lw_tbl := List.mem_of_getElem? (i := 491) (by decide +kernel)
theorem q_404 : (Jvm.Cond.arrayOver (Jvm.ClassFile.FieldType.array Jvm.ClassFile.FieldType.long)) ∈ lw_tbl := List.mem_of_getElem? (i := 492) (by decide +kernel)
theorem q_405 : (Jvm.Cond.methodLink "PairSymbols$Operato\x72" (26 : Nat) ({ cls := "PairSymbols$Operato\x72", name := "addTerms", desc := "(LPairSymbols$Level;I)V" } : Jvm.MethodName)) ∈ lw_tbl := List.mem_of_getElem? (i := 493) (by decide +kernel)
theorem q_406 : (Jvm.Cond.privateMethod ({ cls := "PairSymbols$Operato\x72", name := "addTerms", desc := "(LPairSymbols$Level;I)V" } : Jvm.MethodName)) ∈ lw_tbl := List.mem_of_getElem? (i := 494) (by decide +kernel)
theorem q_407 : (Jvm.Cond.instanceMethod ({ cls := "PairSymbols$Operato\x72", name := "addTerms", desc := "(LPairSymbols$Level;I)V" } : Jvm.MethodName)) ∈ lw_tbl := List.mem_of_getElem? (i := 495) (by decide +kernel)
theorem q_408 : (Jvm.Cond.code ({ cls := "PairSymbols$Operato\x72", name := "addTerms", desc := "(LPairSymbols$Level;I)V" } : Jvm.MethodName) prog_7_method_2_code (7 : Nat) (Option.none : Option Jvm.ClassFile.FieldType)) ∈ lw_tbl := List.mem_of_getElem? (i := 496) (by decide +kernel)
theorem q_409 : (Jvm.Cond.methodLink "PairSymbols$Operato\x72" (47 : Nat) ({ cls := "PairSymbols$Operato\x72", name := "addTerm", desc := "(LPairSymbols$Level;IIII)V" } : Jvm.MethodName)) ∈ lw_tbl := List.mem_of_getElem? (i := 497) (by decide +kernel)
theorem q_410 : (Jvm.Cond.privateMethod ({ cls := "PairSymbols$Operato\x72", name := "addTerm", desc := "(LPairSymbols$Level;IIII)V" } : Jvm.MethodName)) ∈ lw_tbl := List.mem_of_getElem? (i := 498) (by decide +kernel)
theorem q_411 : (Jvm.Cond.instanceMethod ({ cls := "PairSymbols$Operato\x72", name := "addTerm", desc := "(LPairSymbols$Level;IIII)V" } : Jvm.MethodName)) ∈ lw_tbl := List.mem_of_getElem? (i := 499) (by decide +kernel)
theorem q_412 : (Jvm.Cond.code ({ cls := "PairSymbols$Operato\x72", name := "addTerm", desc := "(LPairSymbols$Level;IIII)V" } : Jvm.MethodName) prog_7_method_3_code (11 : Nat) (Option.none : Option Jvm.ClassFile.FieldType)) ∈ lw_tbl := List.mem_of_getElem? (i := 500) (by decide +kernel)
theorem q_413 : (Jvm.Cond.methodLink "PairSymbols$Operato\x72" (58 : Nat) ({ cls := "PairSymbols$Level", name := "find", desc := "(II)I" } : Jvm.MethodName)) ∈ lw_tbl := List.mem_of_getElem? (i := 501) (by decide +kernel)
theorem q_414 : (Jvm.Cond.methodLink "PairSymbols$Operato\x72" (43 : Nat) ({ cls := "PairSymbols$Operato\x72", name := "restrictTo", desc := "(LPairSymbols$Cycles;)V" } : Jvm.MethodName)) ∈ lw_tbl := List.mem_of_getElem? (i := 502) (by decide +kernel)
theorem q_415 : (Jvm.Cond.privateMethod ({ cls := "PairSymbols$Operato\x72", name := "restrictTo", desc := "(LPairSymbols$Cycles;)V" } : Jvm.MethodName)) ∈ lw_tbl := List.mem_of_getElem? (i := 503) (by decide +kernel)
theorem q_416 : (Jvm.Cond.instanceMethod ({ cls := "PairSymbols$Operato\x72", name := "restrictTo", desc := "(LPairSymbols$Cycles;)V" } : Jvm.MethodName)) ∈ lw_tbl := List.mem_of_getElem? (i := 504) (by decide +kernel)
theorem q_417 : (Jvm.Cond.code ({ cls := "PairSymbols$Operato\x72", name := "restrictTo", desc := "(LPairSymbols$Cycles;)V" } : Jvm.MethodName) prog_7_method_4_code (6 : Nat) (Option.none : Option Jvm.ClassFile.FieldType)) ∈ lw_tbl := List.mem_of_getElem? (i := 505) (by decide +kernel)
theorem q_418 : (Jvm.Cond.fieldLink "PairSymbols$Operato\x72" (17 : Nat) "PairSymbols$Operato\x72" "matrix" "[[J") ∈ lw_tbl := List.mem_of_getElem? (i := 506) (by decide +kernel)
theorem q_419 : (Jvm.Cond.fieldLink "PairSymbols" (137 : Nat) "PairSymbols$Operato\x72" "matrix" "[[J") ∈ lw_tbl := List.mem_of_getElem? (i := 507) (by decide +kernel)
theorem q_420 : (Jvm.Cond.fieldLink "PairSymbols$Operato\x72" (40 : Nat) "PairSymbols$Operato\x72" "restricted" "[[J") ∈ lw_tbl := List.mem_of_getElem? (i := 508) (by decide +kernel)
theorem q_421 : (Jvm.Cond.fieldLink "PairSymbols" (147 : Nat) "PairSymbols$Operato\x72" "restricted" "[[J") ∈ lw_tbl := List.mem_of_getElem? (i := 509) (by decide +kernel)
theorem q_422 : (Jvm.Cond.fieldLink "PairSymbols$Operato\x72" (22 : Nat) "PairSymbols$Operato\x72" "image" "[J") ∈ lw_tbl := List.mem_of_getElem? (i := 510) (by decide +kernel)
theorem q_423 : (Jvm.Cond.fieldLink "PairSymbols$Operato\x72" (75 : Nat) "PairSymbols$Operato\x72" "whole" "[J") ∈ lw_tbl := List.mem_of_getElem? (i := 511) (by decide +kernel)
theorem q_424 : (Jvm.Cond.fieldLink "PairSymbols$Operato\x72" (84 : Nat) "PairSymbols$Operato\x72" "ofCycles" "[J") ∈ lw_tbl := List.mem_of_getElem? (i := 512) (by decide +kernel)
theorem q_425 : (Jvm.Cond.laysFinal "PairSymbols$Operato\x72" "PairSymbols$Operato\x72" "matrix" "[[J") ∈ lw_tbl := List.mem_of_getElem? (i := 513) (by decide +kernel)
theorem q_426 : (Jvm.Cond.soleField "PairSymbols$Operato\x72" "matrix") ∈ lw_tbl := List.mem_of_getElem? (i := 514) (by decide +kernel)
theorem q_427 : (Jvm.Cond.laysFinal "PairSymbols$Operato\x72" "PairSymbols$Operato\x72" "restricted" "[[J") ∈ lw_tbl := List.mem_of_getElem? (i := 515) (by decide +kernel)
theorem q_428 : (Jvm.Cond.soleField "PairSymbols$Operato\x72" "restricted") ∈ lw_tbl := List.mem_of_getElem? (i := 516) (by decide +kernel)
theorem q_429 : (Jvm.Cond.laysFinal "PairSymbols$Operato\x72" "PairSymbols$Operato\x72" "image" "[J") ∈ lw_tbl := List.mem_of_getElem? (i := 517) (by decide +kernel)
theorem q_430 : (Jvm.Cond.soleField "PairSymbols$Operato\x72" "image") ∈ lw_tbl := List.mem_of_getElem? (i := 518) (by decide +kernel)
theorem q_431 : (Jvm.Cond.lays "PairSymbols$Operato\x72" "PairSymbols$Operato\x72" "whole" "[J") ∈ lw_tbl := List.mem_of_getElem? (i := 519) (by decide +kernel)
theorem q_432 : (Jvm.Cond.soleField "PairSymbols$Operato\x72" "whole") ∈ lw_tbl := List.mem_of_getElem? (i := 520) (by decide +kernel)
theorem q_433 : (Jvm.Cond.lays "PairSymbols$Operato\x72" "PairSymbols$Operato\x72" "ofCycles" "[J") ∈ lw_tbl := List.mem_of_getElem? (i := 521) (by decide +kernel)
theorem q_434 : (Jvm.Cond.soleField "PairSymbols$Operato\x72" "ofCycles") ∈ lw_tbl := List.mem_of_getElem? (i := 522) (by decide +kernel)
theorem q_435 : (Jvm.Cond.superclass "PairSymbols$Operato\x72" "java/lang/Object") ∈ lw_tbl := List.mem_of_getElem? (i := 523) (by decide +kernel)
theorem q_436 : (Jvm.Cond.methodLink "PairSymbolsLaw" (46 : Nat) ({ cls := "PairSymbols", name := "trace", desc := "(II)J" } : Jvm.MethodName)) ∈ lw_tbl := List.mem_of_getElem? (i := 524) (by decide +kernel)
theorem q_437 : (Jvm.Cond.instanceMethod ({ cls := "PairSymbols", name := "trace", desc := "(II)J" } : Jvm.MethodName)) ∈ lw_tbl := List.mem_of_getElem? (i := 525) (by decide +kernel)
theorem q_438 : (Jvm.Cond.selects "PairSymbols" ({ cls := "PairSymbols", name := "trace", desc := "(II)J" } : Jvm.MethodName) ({ cls := "PairSymbols", name := "trace", desc := "(II)J" } : Jvm.MethodName)) ∈ lw_tbl := List.mem_of_getElem? (i := 526) (by decide +kernel)
theorem q_439 : (Jvm.Cond.code ({ cls := "PairSymbols", name := "trace", desc := "(II)J" } : Jvm.MethodName) prog_1_method_9_code (4 : Nat) (Option.some Jvm.ClassFile.FieldType.long)) ∈ lw_tbl := List.mem_of_getElem? (i := 527) (by decide +kernel)
theorem q_440 : (Jvm.Cond.constantLong "PairSymbols" (143 : Nat) (-9999 : Int64)) ∈ lw_tbl := List.mem_of_getElem? (i := 528) (by decide +kernel)
theorem q_441 : (Jvm.Cond.constantLong "PairSymbols" (145 : Nat) (-9998 : Int64)) ∈ lw_tbl := List.mem_of_getElem? (i := 529) (by decide +kernel)
theorem q_442 : (Jvm.Cond.methodLink "PairSymbols" (150 : Nat) ({ cls := "PairSymbols$Matrices", name := "diagonalSum", desc := "([[J)J" } : Jvm.MethodName)) ∈ lw_tbl := List.mem_of_getElem? (i := 530) (by decide +kernel)
theorem q_443 : (Jvm.Cond.static ({ cls := "PairSymbols$Matrices", name := "diagonalSum", desc := "([[J)J" } : Jvm.MethodName)) ∈ lw_tbl := List.mem_of_getElem? (i := 531) (by decide +kernel)
theorem q_444 : (Jvm.Cond.code ({ cls := "PairSymbols$Matrices", name := "diagonalSum", desc := "([[J)J" } : Jvm.MethodName) prog_6_method_2_code (4 : Nat) (Option.some Jvm.ClassFile.FieldType.long)) ∈ lw_tbl := List.mem_of_getElem? (i := 532) (by decide +kernel)
theorem q_445 : (Jvm.Cond.methodLink "PairSymbolsLaw" (51 : Nat) ({ cls := "PairSymbols", name := "polynomial", desc := "(III)J" } : Jvm.MethodName)) ∈ lw_tbl := List.mem_of_getElem? (i := 533) (by decide +kernel)
theorem q_446 : (Jvm.Cond.instanceMethod ({ cls := "PairSymbols", name := "polynomial", desc := "(III)J" } : Jvm.MethodName)) ∈ lw_tbl := List.mem_of_getElem? (i := 534) (by decide +kernel)
theorem q_447 : (Jvm.Cond.selects "PairSymbols" ({ cls := "PairSymbols", name := "polynomial", desc := "(III)J" } : Jvm.MethodName) ({ cls := "PairSymbols", name := "polynomial", desc := "(III)J" } : Jvm.MethodName)) ∈ lw_tbl := List.mem_of_getElem? (i := 535) (by decide +kernel)
theorem q_448 : (Jvm.Cond.code ({ cls := "PairSymbols", name := "polynomial", desc := "(III)J" } : Jvm.MethodName) prog_1_method_10_code (6 : Nat) (Option.some Jvm.ClassFile.FieldType.long)) ∈ lw_tbl := List.mem_of_getElem? (i := 536) (by decide +kernel)
theorem q_449 : (Jvm.Cond.constantLong "PairSymbols" (156 : Nat) (-9223372036854775808 : Int64)) ∈ lw_tbl := List.mem_of_getElem? (i := 537) (by decide +kernel)
theorem q_450 : (Jvm.Cond.constantLong "PairSymbols" (158 : Nat) (-9223372036854775807 : Int64)) ∈ lw_tbl := List.mem_of_getElem? (i := 538) (by decide +kernel)
theorem q_451 : (Jvm.Cond.methodLink "PairSymbols" (160 : Nat) ({ cls := "PairSymbols$Operato\x72", name := "wholeCoefficients", desc := "()[J" } : Jvm.MethodName)) ∈ lw_tbl := List.mem_of_getElem? (i := 539) (by decide +kernel)
theorem q_452 : (Jvm.Cond.instanceMethod ({ cls := "PairSymbols$Operato\x72", name := "wholeCoefficients", desc := "()[J" } : Jvm.MethodName)) ∈ lw_tbl := List.mem_of_getElem? (i := 540) (by decide +kernel)
theorem q_453 : (Jvm.Cond.selects "PairSymbols$Operato\x72" ({ cls := "PairSymbols$Operato\x72", name := "wholeCoefficients", desc := "()[J" } : Jvm.MethodName) ({ cls := "PairSymbols$Operato\x72", name := "wholeCoefficients", desc := "()[J" } : Jvm.MethodName)) ∈ lw_tbl := List.mem_of_getElem? (i := 541) (by decide +kernel)
theorem q_454 : (Jvm.Cond.code ({ cls := "PairSymbols$Operato\x72", name := "wholeCoefficients", desc := "()[J" } : Jvm.MethodName) prog_7_method_6_code (1 : Nat) (Option.some (Jvm.ClassFile.FieldType.array Jvm.ClassFile.FieldType.long))) ∈ lw_tbl := List.mem_of_getElem? (i := 542) (by decide +kernel)
theorem q_455 : (Jvm.Cond.methodLink "PairSymbols$Operato\x72" (78 : Nat) ({ cls := "PairSymbols$Matrices", name := "characteristic", desc := "([[J)[J" } : Jvm.MethodName)) ∈ lw_tbl := List.mem_of_getElem? (i := 543) (by decide +kernel)
theorem q_456 : (Jvm.Cond.static ({ cls := "PairSymbols$Matrices", name := "characteristic", desc := "([[J)[J" } : Jvm.MethodName)) ∈ lw_tbl := List.mem_of_getElem? (i := 544) (by decide +kernel)
theorem q_457 : (Jvm.Cond.code ({ cls := "PairSymbols$Matrices", name := "characteristic", desc := "([[J)[J" } : Jvm.MethodName) prog_6_method_3_code (9 : Nat) (Option.some (Jvm.ClassFile.FieldType.array Jvm.ClassFile.FieldType.long))) ∈ lw_tbl := List.mem_of_getElem? (i := 545) (by decide +kernel)
theorem q_458 : (Jvm.Cond.classLink "PairSymbols$Matrices" (7 : Nat) "[[J") ∈ lw_tbl := List.mem_of_getElem? (i := 546) (by decide +kernel)
theorem q_459 : (Jvm.Cond.methodLink "PairSymbols$Matrices" (9 : Nat) ({ cls := "PairSymbols$Matrices", name := "addToDiagonal", desc := "(J[[J)V" } : Jvm.MethodName)) ∈ lw_tbl := List.mem_of_getElem? (i := 547) (by decide +kernel)
theorem q_460 : (Jvm.Cond.static ({ cls := "PairSymbols$Matrices", name := "addToDiagonal", desc := "(J[[J)V" } : Jvm.MethodName)) ∈ lw_tbl := List.mem_of_getElem? (i := 548) (by decide +kernel)
theorem q_461 : (Jvm.Cond.code ({ cls := "PairSymbols$Matrices", name := "addToDiagonal", desc := "(J[[J)V" } : Jvm.MethodName) prog_6_method_4_code (4 : Nat) (Option.none : Option Jvm.ClassFile.FieldType)) ∈ lw_tbl := List.mem_of_getElem? (i := 549) (by decide +kernel)
theorem q_462 : (Jvm.Cond.methodLink "PairSymbols$Matrices" (15 : Nat) ({ cls := "PairSymbols$Matrices", name := "multiply", desc := "([[J[[J[[J)V" } : Jvm.MethodName)) ∈ lw_tbl := List.mem_of_getElem? (i := 550) (by decide +kernel)
theorem q_463 : (Jvm.Cond.static ({ cls := "PairSymbols$Matrices", name := "multiply", desc := "([[J[[J[[J)V" } : Jvm.MethodName)) ∈ lw_tbl := List.mem_of_getElem? (i := 551) (by decide +kernel)
theorem q_464 : (Jvm.Cond.code ({ cls := "PairSymbols$Matrices", name := "multiply", desc := "([[J[[J[[J)V" } : Jvm.MethodName) prog_6_method_5_code (9 : Nat) (Option.none : Option Jvm.ClassFile.FieldType)) ∈ lw_tbl := List.mem_of_getElem? (i := 552) (by decide +kernel)
theorem q_465 : (Jvm.Cond.methodLink "PairSymbols$Matrices" (19 : Nat) ({ cls := "PairSymbols$Matrices", name := "diagonalSum", desc := "([[J)J" } : Jvm.MethodName)) ∈ lw_tbl := List.mem_of_getElem? (i := 553) (by decide +kernel)
theorem q_466 : (Jvm.Cond.methodLink "PairSymbols" (164 : Nat) ({ cls := "PairSymbols$Operato\x72", name := "cuspidalCoefficients", desc := "()[J" } : Jvm.MethodName)) ∈ lw_tbl := List.mem_of_getElem? (i := 554) (by decide +kernel)
theorem q_467 : (Jvm.Cond.instanceMethod ({ cls := "PairSymbols$Operato\x72", name := "cuspidalCoefficients", desc := "()[J" } : Jvm.MethodName)) ∈ lw_tbl := List.mem_of_getElem? (i := 555) (by decide +kernel)
theorem q_468 : (Jvm.Cond.selects "PairSymbols$Operato\x72" ({ cls := "PairSymbols$Operato\x72", name := "cuspidalCoefficients", desc := "()[J" } : Jvm.MethodName) ({ cls := "PairSymbols$Operato\x72", name := "cuspidalCoefficients", desc := "()[J" } : Jvm.MethodName)) ∈ lw_tbl := List.mem_of_getElem? (i := 556) (by decide +kernel)
theorem q_469 : (Jvm.Cond.code ({ cls := "PairSymbols$Operato\x72", name := "cuspidalCoefficients", desc := "()[J" } : Jvm.MethodName) prog_7_method_7_code (1 : Nat) (Option.some (Jvm.ClassFile.FieldType.array Jvm.ClassFile.FieldType.long))) ∈ lw_tbl := List.mem_of_getElem? (i := 557) (by decide +kernel)
theorem q_470 : (Jvm.Cond.methodLink "PairSymbolsLaw" (55 : Nat) ({ cls := "PairSymbols", name := "root", desc := "(II)I" } : Jvm.MethodName)) ∈ lw_tbl := List.mem_of_getElem? (i := 558) (by decide +kernel)
theorem q_471 : (Jvm.Cond.instanceMethod ({ cls := "PairSymbols", name := "root", desc := "(II)I" } : Jvm.MethodName)) ∈ lw_tbl := List.mem_of_getElem? (i := 559) (by decide +kernel)
theorem q_472 : (Jvm.Cond.selects "PairSymbols" ({ cls := "PairSymbols", name := "root", desc := "(II)I" } : Jvm.MethodName) ({ cls := "PairSymbols", name := "root", desc := "(II)I" } : Jvm.MethodName)) ∈ lw_tbl := List.mem_of_getElem? (i := 560) (by decide +kernel)
theorem q_473 : (Jvm.Cond.code ({ cls := "PairSymbols", name := "root", desc := "(II)I" } : Jvm.MethodName) prog_1_method_11_code (4 : Nat) (Option.some Jvm.ClassFile.FieldType.int)) ∈ lw_tbl := List.mem_of_getElem? (i := 561) (by decide +kernel)
theorem q_474 : (Jvm.Cond.methodLink "PairSymbols" (167 : Nat) ({ cls := "PairSymbols$Matrices", name := "multiplicity", desc := "([JI)I" } : Jvm.MethodName)) ∈ lw_tbl := List.mem_of_getElem? (i := 562) (by decide +kernel)
theorem q_475 : (Jvm.Cond.static ({ cls := "PairSymbols$Matrices", name := "multiplicity", desc := "([JI)I" } : Jvm.MethodName)) ∈ lw_tbl := List.mem_of_getElem? (i := 563) (by decide +kernel)
theorem q_476 : (Jvm.Cond.code ({ cls := "PairSymbols$Matrices", name := "multiplicity", desc := "([JI)I" } : Jvm.MethodName) prog_6_method_6_code (7 : Nat) (Option.some Jvm.ClassFile.FieldType.int)) ∈ lw_tbl := List.mem_of_getElem? (i := 564) (by decide +kernel)
theorem q_477 : (Jvm.Cond.methodLink "PairSymbols$Matrices" (23 : Nat) ({ cls := "java/util/Arrays", name := "copyOf", desc := "([JI)[J" } : Jvm.MethodName)) ∈ lw_tbl := List.mem_of_getElem? (i := 565) (by decide +kernel)
theorem q_478 : (Jvm.Cond.static ({ cls := "java/util/Arrays", name := "copyOf", desc := "([JI)[J" } : Jvm.MethodName)) ∈ lw_tbl := List.mem_of_getElem? (i := 566) (by decide +kernel)
theorem q_479 : (Jvm.Cond.code ({ cls := "java/util/Arrays", name := "copyOf", desc := "([JI)[J" } : Jvm.MethodName) prog_16_method_124_code (3 : Nat) (Option.some (Jvm.ClassFile.FieldType.array Jvm.ClassFile.FieldType.long))) ∈ lw_tbl := List.mem_of_getElem? (i := 567) (by decide +kernel)
theorem q_480 : (Jvm.Cond.methodLink "java/util/Arrays" (319 : Nat) ({ cls := "[J", name := "clone", desc := "()Ljava/lang/Object;" } : Jvm.MethodName)) ∈ lw_tbl := List.mem_of_getElem? (i := 568) (by decide +kernel)
theorem q_481 : (Jvm.Cond.sameMethod "[J" "java/lang/Object" "clone" "()Ljava/lang/Object;") ∈ lw_tbl := List.mem_of_getElem? (i := 569) (by decide +kernel)
theorem q_482 : (Jvm.Cond.native ({ cls := "java/lang/Object", name := "clone", desc := "()Ljava/lang/Object;" } : Jvm.MethodName)) ∈ lw_tbl := List.mem_of_getElem? (i := 570) (by decide +kernel)
theorem q_483 : (Jvm.Cond.instanceMethod ({ cls := "java/lang/Object", name := "clone", desc := "()Ljava/lang/Object;" } : Jvm.MethodName)) ∈ lw_tbl := List.mem_of_getElem? (i := 571) (by decide +kernel)
theorem q_484 : (Jvm.Cond.selects "[J" ({ cls := "[J", name := "clone", desc := "()Ljava/lang/Object;" } : Jvm.MethodName) ({ cls := "java/lang/Object", name := "clone", desc := "()Ljava/lang/Object;" } : Jvm.MethodName)) ∈ lw_tbl := List.mem_of_getElem? (i := 572) (by decide +kernel)
theorem q_485 : (Jvm.Cond.castable "[J" "java/lang/Cloneable") ∈ lw_tbl := List.mem_of_getElem? (i := 573) (by decide +kernel)
theorem q_486 : (Jvm.Cond.classLink "java/util/Arrays" (320 : Nat) "[J") ∈ lw_tbl := List.mem_of_getElem? (i := 574) (by decide +kernel)
theorem q_487 : (Jvm.Cond.methodLink "java/util/Arrays" (304 : Nat) ({ cls := "java/lang/Math", name := "min", desc := "(II)I" } : Jvm.MethodName)) ∈ lw_tbl := List.mem_of_getElem? (i := 575) (by decide +kernel)
theorem q_488 : (Jvm.Cond.static ({ cls := "java/lang/Math", name := "min", desc := "(II)I" } : Jvm.MethodName)) ∈ lw_tbl := List.mem_of_getElem? (i := 576) (by decide +kernel)
theorem q_489 : (Jvm.Cond.code ({ cls := "java/lang/Math", name := "min", desc := "(II)I" } : Jvm.MethodName) prog_14_method_69_code (2 : Nat) (Option.some Jvm.ClassFile.FieldType.int)) ∈ lw_tbl := List.mem_of_getElem? (i := 577) (by decide +kernel)
theorem q_490 : (Jvm.Cond.methodLink "java/util/Arrays" (150 : Nat) ({ cls := "java/lang/System", name := "arraycopy", desc := "(Ljava/lang/Object;ILjava/lang/Object;II)V" } : Jvm.MethodName)) ∈ lw_tbl := List.mem_of_getElem? (i := 578) (by decide +kernel)
theorem q_491 : (Jvm.Cond.methodLink "PairSymbolsLaw" (59 : Nat) ({ cls := "PairSymbols", name := "formula", desc := "(II)I" } : Jvm.MethodName)) ∈ lw_tbl := List.mem_of_getElem? (i := 579) (by decide +kernel)
theorem q_492 : (Jvm.Cond.instanceMethod ({ cls := "PairSymbols", name := "formula", desc := "(II)I" } : Jvm.MethodName)) ∈ lw_tbl := List.mem_of_getElem? (i := 580) (by decide +kernel)
theorem q_493 : (Jvm.Cond.selects "PairSymbols" ({ cls := "PairSymbols", name := "formula", desc := "(II)I" } : Jvm.MethodName) ({ cls := "PairSymbols", name := "formula", desc := "(II)I" } : Jvm.MethodName)) ∈ lw_tbl := List.mem_of_getElem? (i := 581) (by decide +kernel)
theorem q_494 : (Jvm.Cond.code ({ cls := "PairSymbols", name := "formula", desc := "(II)I" } : Jvm.MethodName) prog_1_method_12_code (3 : Nat) (Option.some Jvm.ClassFile.FieldType.int)) ∈ lw_tbl := List.mem_of_getElem? (i := 582) (by decide +kernel)
theorem q_495 : (Jvm.Cond.methodLink "PairSymbols" (171 : Nat) ({ cls := "PairSymbols$Formulas", name := "index", desc := "(I)I" } : Jvm.MethodName)) ∈ lw_tbl := List.mem_of_getElem? (i := 583) (by decide +kernel)
theorem q_496 : (Jvm.Cond.static ({ cls := "PairSymbols$Formulas", name := "index", desc := "(I)I" } : Jvm.MethodName)) ∈ lw_tbl := List.mem_of_getElem? (i := 584) (by decide +kernel)
theorem q_497 : (Jvm.Cond.code ({ cls := "PairSymbols$Formulas", name := "index", desc := "(I)I" } : Jvm.MethodName) prog_3_method_2_code (3 : Nat) (Option.some Jvm.ClassFile.FieldType.int)) ∈ lw_tbl := List.mem_of_getElem? (i := 585) (by decide +kernel)
theorem q_498 : (Jvm.Cond.methodLink "PairSymbols$Formulas" (21 : Nat) ({ cls := "PairSymbols$Formulas", name := "primeDivides", desc := "(II)Z" } : Jvm.MethodName)) ∈ lw_tbl := List.mem_of_getElem? (i := 586) (by decide +kernel)
theorem q_499 : (Jvm.Cond.static ({ cls := "PairSymbols$Formulas", name := "primeDivides", desc := "(II)Z" } : Jvm.MethodName)) ∈ lw_tbl := List.mem_of_getElem? (i := 587) (by decide +kernel)
theorem q_500 : (Jvm.Cond.code ({ cls := "PairSymbols$Formulas", name := "primeDivides", desc := "(II)Z" } : Jvm.MethodName) prog_3_method_11_code (2 : Nat) (Option.some Jvm.ClassFile.FieldType.boolean)) ∈ lw_tbl := List.mem_of_getElem? (i := 588) (by decide +kernel)
theorem q_501 : (Jvm.Cond.methodLink "PairSymbols$Formulas" (51 : Nat) ({ cls := "PairSymbols$Formulas", name := "divisors", desc := "(I)I" } : Jvm.MethodName)) ∈ lw_tbl := List.mem_of_getElem? (i := 589) (by decide +kernel)
theorem q_502 : (Jvm.Cond.static ({ cls := "PairSymbols$Formulas", name := "divisors", desc := "(I)I" } : Jvm.MethodName)) ∈ lw_tbl := List.mem_of_getElem? (i := 590) (by decide +kernel)
theorem q_503 : (Jvm.Cond.code ({ cls := "PairSymbols$Formulas", name := "divisors", desc := "(I)I" } : Jvm.MethodName) prog_3_method_9_code (3 : Nat) (Option.some Jvm.ClassFile.FieldType.int)) ∈ lw_tbl := List.mem_of_getElem? (i := 591) (by decide +kernel)
theorem q_504 : (Jvm.Cond.methodLink "PairSymbols" (174 : Nat) ({ cls := "PairSymbols$Formulas", name := "orderTwo", desc := "(I)I" } : Jvm.MethodName)) ∈ lw_tbl := List.mem_of_getElem? (i := 592) (by decide +kernel)
theorem q_505 : (Jvm.Cond.static ({ cls := "PairSymbols$Formulas", name := "orderTwo", desc := "(I)I" } : Jvm.MethodName)) ∈ lw_tbl := List.mem_of_getElem? (i := 593) (by decide +kernel)
theorem q_506 : (Jvm.Cond.code ({ cls := "PairSymbols$Formulas", name := "orderTwo", desc := "(I)I" } : Jvm.MethodName) prog_3_method_3_code (3 : Nat) (Option.some Jvm.ClassFile.FieldType.int)) ∈ lw_tbl := List.mem_of_getElem? (i := 594) (by decide +kernel)
theorem q_507 : (Jvm.Cond.methodLink "PairSymbols" (177 : Nat) ({ cls := "PairSymbols$Formulas", name := "orderThree", desc := "(I)I" } : Jvm.MethodName)) ∈ lw_tbl := List.mem_of_getElem? (i := 595) (by decide +kernel)
theorem q_508 : (Jvm.Cond.static ({ cls := "PairSymbols$Formulas", name := "orderThree", desc := "(I)I" } : Jvm.MethodName)) ∈ lw_tbl := List.mem_of_getElem? (i := 596) (by decide +kernel)
theorem q_509 : (Jvm.Cond.code ({ cls := "PairSymbols$Formulas", name := "orderThree", desc := "(I)I" } : Jvm.MethodName) prog_3_method_4_code (3 : Nat) (Option.some Jvm.ClassFile.FieldType.int)) ∈ lw_tbl := List.mem_of_getElem? (i := 597) (by decide +kernel)
theorem q_510 : (Jvm.Cond.methodLink "PairSymbols" (180 : Nat) ({ cls := "PairSymbols$Formulas", name := "ends", desc := "(I)I" } : Jvm.MethodName)) ∈ lw_tbl := List.mem_of_getElem? (i := 598) (by decide +kernel)
theorem q_511 : (Jvm.Cond.static ({ cls := "PairSymbols$Formulas", name := "ends", desc := "(I)I" } : Jvm.MethodName)) ∈ lw_tbl := List.mem_of_getElem? (i := 599) (by decide +kernel)
theorem q_512 : (Jvm.Cond.code ({ cls := "PairSymbols$Formulas", name := "ends", desc := "(I)I" } : Jvm.MethodName) prog_3_method_5_code (3 : Nat) (Option.some Jvm.ClassFile.FieldType.int)) ∈ lw_tbl := List.mem_of_getElem? (i := 600) (by decide +kernel)
theorem q_513 : (Jvm.Cond.methodLinkNest "PairSymbols$Formulas" (25 : Nat) ({ cls := "PairSymbols", name := "gcd", desc := "(II)I" } : Jvm.MethodName) "PairSymbols") ∈ lw_tbl := List.mem_of_getElem? (i := 601) (by decide +kernel)
theorem q_514 : (Jvm.Cond.methodLink "PairSymbols$Formulas" (29 : Nat) ({ cls := "PairSymbols$Formulas", name := "coprimes", desc := "(I)I" } : Jvm.MethodName)) ∈ lw_tbl := List.mem_of_getElem? (i := 602) (by decide +kernel)
theorem q_515 : (Jvm.Cond.static ({ cls := "PairSymbols$Formulas", name := "coprimes", desc := "(I)I" } : Jvm.MethodName)) ∈ lw_tbl := List.mem_of_getElem? (i := 603) (by decide +kernel)
theorem q_516 : (Jvm.Cond.code ({ cls := "PairSymbols$Formulas", name := "coprimes", desc := "(I)I" } : Jvm.MethodName) prog_3_method_10_code (3 : Nat) (Option.some Jvm.ClassFile.FieldType.int)) ∈ lw_tbl := List.mem_of_getElem? (i := 604) (by decide +kernel)
theorem q_517 : (Jvm.Cond.methodLink "PairSymbols" (183 : Nat) ({ cls := "PairSymbols$Formulas", name := "forms", desc := "(I)I" } : Jvm.MethodName)) ∈ lw_tbl := List.mem_of_getElem? (i := 605) (by decide +kernel)
theorem q_518 : (Jvm.Cond.static ({ cls := "PairSymbols$Formulas", name := "forms", desc := "(I)I" } : Jvm.MethodName)) ∈ lw_tbl := List.mem_of_getElem? (i := 606) (by decide +kernel)
theorem q_519 : (Jvm.Cond.code ({ cls := "PairSymbols$Formulas", name := "forms", desc := "(I)I" } : Jvm.MethodName) prog_3_method_6_code (1 : Nat) (Option.some Jvm.ClassFile.FieldType.int)) ∈ lw_tbl := List.mem_of_getElem? (i := 607) (by decide +kernel)
theorem q_520 : (Jvm.Cond.methodLink "PairSymbols$Formulas" (33 : Nat) ({ cls := "PairSymbols$Formulas", name := "index", desc := "(I)I" } : Jvm.MethodName)) ∈ lw_tbl := List.mem_of_getElem? (i := 608) (by decide +kernel)
theorem q_521 : (Jvm.Cond.methodLink "PairSymbols$Formulas" (36 : Nat) ({ cls := "PairSymbols$Formulas", name := "orderTwo", desc := "(I)I" } : Jvm.MethodName)) ∈ lw_tbl := List.mem_of_getElem? (i := 609) (by decide +kernel)
theorem q_522 : (Jvm.Cond.methodLink "PairSymbols$Formulas" (39 : Nat) ({ cls := "PairSymbols$Formulas", name := "orderThree", desc := "(I)I" } : Jvm.MethodName)) ∈ lw_tbl := List.mem_of_getElem? (i := 610) (by decide +kernel)
theorem q_523 : (Jvm.Cond.methodLink "PairSymbols$Formulas" (42 : Nat) ({ cls := "PairSymbols$Formulas", name := "ends", desc := "(I)I" } : Jvm.MethodName)) ∈ lw_tbl := List.mem_of_getElem? (i := 611) (by decide +kernel)
theorem q_524 : (Jvm.Cond.methodLink "PairSymbols" (186 : Nat) ({ cls := "PairSymbols$Formulas", name := "newForms", desc := "(I)I" } : Jvm.MethodName)) ∈ lw_tbl := List.mem_of_getElem? (i := 612) (by decide +kernel)
theorem q_525 : (Jvm.Cond.instanceMethod ({ cls := "PairSymbols$Formulas", name := "newForms", desc := "(I)I" } : Jvm.MethodName)) ∈ lw_tbl := List.mem_of_getElem? (i := 613) (by decide +kernel)
theorem q_526 : (Jvm.Cond.selects "PairSymbols$Formulas" ({ cls := "PairSymbols$Formulas", name := "newForms", desc := "(I)I" } : Jvm.MethodName) ({ cls := "PairSymbols$Formulas", name := "newForms", desc := "(I)I" } : Jvm.MethodName)) ∈ lw_tbl := List.mem_of_getElem? (i := 614) (by decide +kernel)
theorem q_527 : (Jvm.Cond.code ({ cls := "PairSymbols$Formulas", name := "newForms", desc := "(I)I" } : Jvm.MethodName) prog_3_method_7_code (3 : Nat) (Option.some Jvm.ClassFile.FieldType.int)) ∈ lw_tbl := List.mem_of_getElem? (i := 615) (by decide +kernel)
theorem q_528 : (Jvm.Cond.methodLink "PairSymbols$Formulas" (45 : Nat) ({ cls := "PairSymbols$Formulas", name := "forms", desc := "(I)I" } : Jvm.MethodName)) ∈ lw_tbl := List.mem_of_getElem? (i := 616) (by decide +kernel)
theorem q_529 : (Jvm.Cond.methodLink "PairSymbols$Formulas" (48 : Nat) ({ cls := "PairSymbols$Formulas", name := "oldForms", desc := "(I)I" } : Jvm.MethodName)) ∈ lw_tbl := List.mem_of_getElem? (i := 617) (by decide +kernel)
theorem q_530 : (Jvm.Cond.privateMethod ({ cls := "PairSymbols$Formulas", name := "oldForms", desc := "(I)I" } : Jvm.MethodName)) ∈ lw_tbl := List.mem_of_getElem? (i := 618) (by decide +kernel)
theorem q_531 : (Jvm.Cond.instanceMethod ({ cls := "PairSymbols$Formulas", name := "oldForms", desc := "(I)I" } : Jvm.MethodName)) ∈ lw_tbl := List.mem_of_getElem? (i := 619) (by decide +kernel)
theorem q_532 : (Jvm.Cond.code ({ cls := "PairSymbols$Formulas", name := "oldForms", desc := "(I)I" } : Jvm.MethodName) prog_3_method_8_code (4 : Nat) (Option.some Jvm.ClassFile.FieldType.int)) ∈ lw_tbl := List.mem_of_getElem? (i := 620) (by decide +kernel)
theorem q_533 : (Jvm.Cond.methodLink "PairSymbolsLaw" (63 : Nat) ({ cls := "PairSymbols", name := "adds", desc := "(II)I" } : Jvm.MethodName)) ∈ lw_tbl := List.mem_of_getElem? (i := 621) (by decide +kernel)
theorem q_534 : (Jvm.Cond.instanceMethod ({ cls := "PairSymbols", name := "adds", desc := "(II)I" } : Jvm.MethodName)) ∈ lw_tbl := List.mem_of_getElem? (i := 622) (by decide +kernel)
theorem q_535 : (Jvm.Cond.selects "PairSymbols" ({ cls := "PairSymbols", name := "adds", desc := "(II)I" } : Jvm.MethodName) ({ cls := "PairSymbols", name := "adds", desc := "(II)I" } : Jvm.MethodName)) ∈ lw_tbl := List.mem_of_getElem? (i := 623) (by decide +kernel)
theorem q_536 : (Jvm.Cond.code ({ cls := "PairSymbols", name := "adds", desc := "(II)I" } : Jvm.MethodName) prog_1_method_13_code (3 : Nat) (Option.some Jvm.ClassFile.FieldType.int)) ∈ lw_tbl := List.mem_of_getElem? (i := 624) (by decide +kernel)
theorem q_537 : (Jvm.Cond.methodLink "PairSymbols" (189 : Nat) ({ cls := "PairSymbols$State", name := "addMultiple", desc := "(II)I" } : Jvm.MethodName)) ∈ lw_tbl := List.mem_of_getElem? (i := 625) (by decide +kernel)
theorem q_538 : (Jvm.Cond.instanceMethod ({ cls := "PairSymbols$State", name := "addMultiple", desc := "(II)I" } : Jvm.MethodName)) ∈ lw_tbl := List.mem_of_getElem? (i := 626) (by decide +kernel)
theorem q_539 : (Jvm.Cond.selects "PairSymbols$State" ({ cls := "PairSymbols$State", name := "addMultiple", desc := "(II)I" } : Jvm.MethodName) ({ cls := "PairSymbols$State", name := "addMultiple", desc := "(II)I" } : Jvm.MethodName)) ∈ lw_tbl := List.mem_of_getElem? (i := 627) (by decide +kernel)
theorem q_540 : (Jvm.Cond.code ({ cls := "PairSymbols$State", name := "addMultiple", desc := "(II)I" } : Jvm.MethodName) prog_10_method_4_code (3 : Nat) (Option.some Jvm.ClassFile.FieldType.int)) ∈ lw_tbl := List.mem_of_getElem? (i := 628) (by decide +kernel)
theorem q_541 : (Jvm.Cond.methodLink "PairSymbols$State" (31 : Nat) ({ cls := "PairSymbols$Level", name := "hasSymbol", desc := "(I)Z" } : Jvm.MethodName)) ∈ lw_tbl := List.mem_of_getElem? (i := 629) (by decide +kernel)
theorem q_542 : (Jvm.Cond.methodLinkNest "PairSymbols$State" (37 : Nat) ({ cls := "PairSymbols", name := "within", desc := "(III)Z" } : Jvm.MethodName) "PairSymbols") ∈ lw_tbl := List.mem_of_getElem? (i := 630) (by decide +kernel)
theorem q_543 : (Jvm.Cond.methodLink "PairSymbols$State" (41 : Nat) ({ cls := "PairSymbols$State", name := "addSymbol", desc := "(II)V" } : Jvm.MethodName)) ∈ lw_tbl := List.mem_of_getElem? (i := 631) (by decide +kernel)
theorem q_544 : (Jvm.Cond.privateMethod ({ cls := "PairSymbols$State", name := "addSymbol", desc := "(II)V" } : Jvm.MethodName)) ∈ lw_tbl := List.mem_of_getElem? (i := 632) (by decide +kernel)
theorem q_545 : (Jvm.Cond.instanceMethod ({ cls := "PairSymbols$State", name := "addSymbol", desc := "(II)V" } : Jvm.MethodName)) ∈ lw_tbl := List.mem_of_getElem? (i := 633) (by decide +kernel)
theorem q_546 : (Jvm.Cond.code ({ cls := "PairSymbols$State", name := "addSymbol", desc := "(II)V" } : Jvm.MethodName) prog_10_method_7_code (4 : Nat) (Option.none : Option Jvm.ClassFile.FieldType)) ∈ lw_tbl := List.mem_of_getElem? (i := 634) (by decide +kernel)
theorem q_547 : (Jvm.Cond.methodLink "PairSymbols$State" (45 : Nat) ({ cls := "PairSymbols$State", name := "verdict", desc := "()I" } : Jvm.MethodName)) ∈ lw_tbl := List.mem_of_getElem? (i := 635) (by decide +kernel)
theorem q_548 : (Jvm.Cond.privateMethod ({ cls := "PairSymbols$State", name := "verdict", desc := "()I" } : Jvm.MethodName)) ∈ lw_tbl := List.mem_of_getElem? (i := 636) (by decide +kernel)
theorem q_549 : (Jvm.Cond.instanceMethod ({ cls := "PairSymbols$State", name := "verdict", desc := "()I" } : Jvm.MethodName)) ∈ lw_tbl := List.mem_of_getElem? (i := 637) (by decide +kernel)
theorem q_550 : (Jvm.Cond.code ({ cls := "PairSymbols$State", name := "verdict", desc := "()I" } : Jvm.MethodName) prog_10_method_8_code (3 : Nat) (Option.some Jvm.ClassFile.FieldType.int)) ∈ lw_tbl := List.mem_of_getElem? (i := 638) (by decide +kernel)
theorem q_551 : (Jvm.Cond.constantLong "PairSymbols$State" (71 : Nat) (1000000000000 : Int64)) ∈ lw_tbl := List.mem_of_getElem? (i := 639) (by decide +kernel)
theorem q_552 : (Jvm.Cond.constantLong "PairSymbols$State" (73 : Nat) (-1000000000000 : Int64)) ∈ lw_tbl := List.mem_of_getElem? (i := 640) (by decide +kernel)
theorem q_553 : (Jvm.Cond.methodLink "PairSymbolsLaw" (67 : Nat) ({ cls := "PairSymbols", name := "applies", desc := "(I)I" } : Jvm.MethodName)) ∈ lw_tbl := List.mem_of_getElem? (i := 641) (by decide +kernel)
theorem q_554 : (Jvm.Cond.instanceMethod ({ cls := "PairSymbols", name := "applies", desc := "(I)I" } : Jvm.MethodName)) ∈ lw_tbl := List.mem_of_getElem? (i := 642) (by decide +kernel)
theorem q_555 : (Jvm.Cond.selects "PairSymbols" ({ cls := "PairSymbols", name := "applies", desc := "(I)I" } : Jvm.MethodName) ({ cls := "PairSymbols", name := "applies", desc := "(I)I" } : Jvm.MethodName)) ∈ lw_tbl := List.mem_of_getElem? (i := 643) (by decide +kernel)
theorem q_556 : (Jvm.Cond.code ({ cls := "PairSymbols", name := "applies", desc := "(I)I" } : Jvm.MethodName) prog_1_method_14_code (2 : Nat) (Option.some Jvm.ClassFile.FieldType.int)) ∈ lw_tbl := List.mem_of_getElem? (i := 644) (by decide +kernel)
theorem q_557 : (Jvm.Cond.methodLink "PairSymbols" (192 : Nat) ({ cls := "PairSymbols$State", name := "applyOperato\x72", desc := "(I)I" } : Jvm.MethodName)) ∈ lw_tbl := List.mem_of_getElem? (i := 645) (by decide +kernel)
theorem q_558 : (Jvm.Cond.instanceMethod ({ cls := "PairSymbols$State", name := "applyOperato\x72", desc := "(I)I" } : Jvm.MethodName)) ∈ lw_tbl := List.mem_of_getElem? (i := 646) (by decide +kernel)
theorem q_559 : (Jvm.Cond.selects "PairSymbols$State" ({ cls := "PairSymbols$State", name := "applyOperato\x72", desc := "(I)I" } : Jvm.MethodName) ({ cls := "PairSymbols$State", name := "applyOperato\x72", desc := "(I)I" } : Jvm.MethodName)) ∈ lw_tbl := List.mem_of_getElem? (i := 647) (by decide +kernel)
theorem q_560 : (Jvm.Cond.code ({ cls := "PairSymbols$State", name := "applyOperato\x72", desc := "(I)I" } : Jvm.MethodName) prog_10_method_5_code (3 : Nat) (Option.some Jvm.ClassFile.FieldType.int)) ∈ lw_tbl := List.mem_of_getElem? (i := 648) (by decide +kernel)
theorem q_561 : (Jvm.Cond.methodLink "PairSymbols$State" (49 : Nat) ({ cls := "PairSymbols$Level", name := "operatorFo\x72", desc := "(I)LPairSymbols$Operator;" } : Jvm.MethodName)) ∈ lw_tbl := List.mem_of_getElem? (i := 649) (by decide +kernel)
theorem q_562 : (Jvm.Cond.methodLink "PairSymbols$State" (53 : Nat) ({ cls := "PairSymbols$Operato\x72", name := "applyTo", desc := "([J)V" } : Jvm.MethodName)) ∈ lw_tbl := List.mem_of_getElem? (i := 650) (by decide +kernel)
theorem q_563 : (Jvm.Cond.instanceMethod ({ cls := "PairSymbols$Operato\x72", name := "applyTo", desc := "([J)V" } : Jvm.MethodName)) ∈ lw_tbl := List.mem_of_getElem? (i := 651) (by decide +kernel)
theorem q_564 : (Jvm.Cond.selects "PairSymbols$Operato\x72" ({ cls := "PairSymbols$Operato\x72", name := "applyTo", desc := "([J)V" } : Jvm.MethodName) ({ cls := "PairSymbols$Operato\x72", name := "applyTo", desc := "([J)V" } : Jvm.MethodName)) ∈ lw_tbl := List.mem_of_getElem? (i := 652) (by decide +kernel)
theorem q_565 : (Jvm.Cond.code ({ cls := "PairSymbols$Operato\x72", name := "applyTo", desc := "([J)V" } : Jvm.MethodName) prog_7_method_5_code (6 : Nat) (Option.none : Option Jvm.ClassFile.FieldType)) ∈ lw_tbl := List.mem_of_getElem? (i := 653) (by decide +kernel)
theorem q_566 : (Jvm.Cond.methodLink "PairSymbols$Operato\x72" (69 : Nat) ({ cls := "java/lang/System", name := "arraycopy", desc := "(Ljava/lang/Object;ILjava/lang/Object;II)V" } : Jvm.MethodName)) ∈ lw_tbl := List.mem_of_getElem? (i := 654) (by decide +kernel)
theorem q_567 : (Jvm.Cond.methodLink "PairSymbolsLaw" (71 : Nat) ({ cls := "PairSymbols", name := "walks", desc := "(II)I" } : Jvm.MethodName)) ∈ lw_tbl := List.mem_of_getElem? (i := 655) (by decide +kernel)
theorem q_568 : (Jvm.Cond.instanceMethod ({ cls := "PairSymbols", name := "walks", desc := "(II)I" } : Jvm.MethodName)) ∈ lw_tbl := List.mem_of_getElem? (i := 656) (by decide +kernel)
theorem q_569 : (Jvm.Cond.selects "PairSymbols" ({ cls := "PairSymbols", name := "walks", desc := "(II)I" } : Jvm.MethodName) ({ cls := "PairSymbols", name := "walks", desc := "(II)I" } : Jvm.MethodName)) ∈ lw_tbl := List.mem_of_getElem? (i := 657) (by decide +kernel)
theorem q_570 : (Jvm.Cond.code ({ cls := "PairSymbols", name := "walks", desc := "(II)I" } : Jvm.MethodName) prog_1_method_15_code (3 : Nat) (Option.some Jvm.ClassFile.FieldType.int)) ∈ lw_tbl := List.mem_of_getElem? (i := 658) (by decide +kernel)
theorem q_571 : (Jvm.Cond.methodLink "PairSymbols" (195 : Nat) ({ cls := "PairSymbols$State", name := "addPath", desc := "(II)I" } : Jvm.MethodName)) ∈ lw_tbl := List.mem_of_getElem? (i := 659) (by decide +kernel)
theorem q_572 : (Jvm.Cond.instanceMethod ({ cls := "PairSymbols$State", name := "addPath", desc := "(II)I" } : Jvm.MethodName)) ∈ lw_tbl := List.mem_of_getElem? (i := 660) (by decide +kernel)
theorem q_573 : (Jvm.Cond.selects "PairSymbols$State" ({ cls := "PairSymbols$State", name := "addPath", desc := "(II)I" } : Jvm.MethodName) ({ cls := "PairSymbols$State", name := "addPath", desc := "(II)I" } : Jvm.MethodName)) ∈ lw_tbl := List.mem_of_getElem? (i := 661) (by decide +kernel)
theorem q_574 : (Jvm.Cond.code ({ cls := "PairSymbols$State", name := "addPath", desc := "(II)I" } : Jvm.MethodName) prog_10_method_6_code (11 : Nat) (Option.some Jvm.ClassFile.FieldType.int)) ∈ lw_tbl := List.mem_of_getElem? (i := 662) (by decide +kernel)
theorem q_575 : (Jvm.Cond.methodLink "PairSymbols$State" (59 : Nat) ({ cls := "PairSymbols$Level", name := "find", desc := "(II)I" } : Jvm.MethodName)) ∈ lw_tbl := List.mem_of_getElem? (i := 663) (by decide +kernel)
theorem q_576 : (Jvm.Cond.methodLink "PairSymbolsLaw" (75 : Nat) ({ cls := "PairSymbols", name := "sum", desc := "(II)J" } : Jvm.MethodName)) ∈ lw_tbl := List.mem_of_getElem? (i := 664) (by decide +kernel)
theorem q_577 : (Jvm.Cond.instanceMethod ({ cls := "PairSymbols", name := "sum", desc := "(II)J" } : Jvm.MethodName)) ∈ lw_tbl := List.mem_of_getElem? (i := 665) (by decide +kernel)
theorem q_578 : (Jvm.Cond.selects "PairSymbols" ({ cls := "PairSymbols", name := "sum", desc := "(II)J" } : Jvm.MethodName) ({ cls := "PairSymbols", name := "sum", desc := "(II)J" } : Jvm.MethodName)) ∈ lw_tbl := List.mem_of_getElem? (i := 666) (by decide +kernel)
theorem q_579 : (Jvm.Cond.code ({ cls := "PairSymbols", name := "sum", desc := "(II)J" } : Jvm.MethodName) prog_1_method_16_code (3 : Nat) (Option.some Jvm.ClassFile.FieldType.long)) ∈ lw_tbl := List.mem_of_getElem? (i := 667) (by decide +kernel)
theorem q_580 : (Jvm.Cond.methodLink "PairSymbolsLaw" (79 : Nat) ({ cls := "PairSymbols", name := "boundary", desc := "(II)J" } : Jvm.MethodName)) ∈ lw_tbl := List.mem_of_getElem? (i := 668) (by decide +kernel)
theorem q_581 : (Jvm.Cond.instanceMethod ({ cls := "PairSymbols", name := "boundary", desc := "(II)J" } : Jvm.MethodName)) ∈ lw_tbl := List.mem_of_getElem? (i := 669) (by decide +kernel)
theorem q_582 : (Jvm.Cond.selects "PairSymbols" ({ cls := "PairSymbols", name := "boundary", desc := "(II)J" } : Jvm.MethodName) ({ cls := "PairSymbols", name := "boundary", desc := "(II)J" } : Jvm.MethodName)) ∈ lw_tbl := List.mem_of_getElem? (i := 670) (by decide +kernel)
theorem q_583 : (Jvm.Cond.code ({ cls := "PairSymbols", name := "boundary", desc := "(II)J" } : Jvm.MethodName) prog_1_method_17_code (3 : Nat) (Option.some Jvm.ClassFile.FieldType.long)) ∈ lw_tbl := List.mem_of_getElem? (i := 671) (by decide +kernel)
theorem q_584 : (Jvm.Cond.methodLink "PairSymbols" (202 : Nat) ({ cls := "PairSymbols$State", name := "boundaryAt", desc := "(I)J" } : Jvm.MethodName)) ∈ lw_tbl := List.mem_of_getElem? (i := 672) (by decide +kernel)
theorem q_585 : (Jvm.Cond.instanceMethod ({ cls := "PairSymbols$State", name := "boundaryAt", desc := "(I)J" } : Jvm.MethodName)) ∈ lw_tbl := List.mem_of_getElem? (i := 673) (by decide +kernel)
theorem q_586 : (Jvm.Cond.selects "PairSymbols$State" ({ cls := "PairSymbols$State", name := "boundaryAt", desc := "(I)J" } : Jvm.MethodName) ({ cls := "PairSymbols$State", name := "boundaryAt", desc := "(I)J" } : Jvm.MethodName)) ∈ lw_tbl := List.mem_of_getElem? (i := 674) (by decide +kernel)
theorem q_587 : (Jvm.Cond.code ({ cls := "PairSymbols$State", name := "boundaryAt", desc := "(I)J" } : Jvm.MethodName) prog_10_method_9_code (5 : Nat) (Option.some Jvm.ClassFile.FieldType.long)) ∈ lw_tbl := List.mem_of_getElem? (i := 675) (by decide +kernel)
theorem q_588 : (Jvm.Cond.methodLink "PairSymbols$State" (75 : Nat) ({ cls := "PairSymbols$Level", name := "edge", desc := "(II)I" } : Jvm.MethodName)) ∈ lw_tbl := List.mem_of_getElem? (i := 676) (by decide +kernel)
theorem q_589 : (Jvm.Cond.methodLink "PairSymbolsLaw" (83 : Nat) ({ cls := "PairSymbols", name := "cuspidal", desc := "()I" } : Jvm.MethodName)) ∈ lw_tbl := List.mem_of_getElem? (i := 677) (by decide +kernel)
theorem q_590 : (Jvm.Cond.instanceMethod ({ cls := "PairSymbols", name := "cuspidal", desc := "()I" } : Jvm.MethodName)) ∈ lw_tbl := List.mem_of_getElem? (i := 678) (by decide +kernel)
theorem q_591 : (Jvm.Cond.selects "PairSymbols" ({ cls := "PairSymbols", name := "cuspidal", desc := "()I" } : Jvm.MethodName) ({ cls := "PairSymbols", name := "cuspidal", desc := "()I" } : Jvm.MethodName)) ∈ lw_tbl := List.mem_of_getElem? (i := 679) (by decide +kernel)
theorem q_592 : (Jvm.Cond.code ({ cls := "PairSymbols", name := "cuspidal", desc := "()I" } : Jvm.MethodName) prog_1_method_18_code (2 : Nat) (Option.some Jvm.ClassFile.FieldType.int)) ∈ lw_tbl := List.mem_of_getElem? (i := 680) (by decide +kernel)
theorem q_593 : (Jvm.Cond.methodLink "PairSymbolsLaw" (87 : Nat) ({ cls := "PairSymbols", name := "type", desc := "(I)I" } : Jvm.MethodName)) ∈ lw_tbl := List.mem_of_getElem? (i := 681) (by decide +kernel)
theorem q_594 : (Jvm.Cond.instanceMethod ({ cls := "PairSymbols", name := "type", desc := "(I)I" } : Jvm.MethodName)) ∈ lw_tbl := List.mem_of_getElem? (i := 682) (by decide +kernel)
theorem q_595 : (Jvm.Cond.selects "PairSymbols" ({ cls := "PairSymbols", name := "type", desc := "(I)I" } : Jvm.MethodName) ({ cls := "PairSymbols", name := "type", desc := "(I)I" } : Jvm.MethodName)) ∈ lw_tbl := List.mem_of_getElem? (i := 683) (by decide +kernel)
theorem q_596 : (Jvm.Cond.code ({ cls := "PairSymbols", name := "type", desc := "(I)I" } : Jvm.MethodName) prog_1_method_19_code (2 : Nat) (Option.some Jvm.ClassFile.FieldType.int)) ∈ lw_tbl := List.mem_of_getElem? (i := 684) (by decide +kernel)
theorem q_597 : (Jvm.Cond.methodLink "PairSymbols" (206 : Nat) ({ cls := "PairSymbols$Script", name := "append", desc := "(I)Z" } : Jvm.MethodName)) ∈ lw_tbl := List.mem_of_getElem? (i := 685) (by decide +kernel)
theorem q_598 : (Jvm.Cond.instanceMethod ({ cls := "PairSymbols$Script", name := "append", desc := "(I)Z" } : Jvm.MethodName)) ∈ lw_tbl := List.mem_of_getElem? (i := 686) (by decide +kernel)
theorem q_599 : (Jvm.Cond.selects "PairSymbols$Script" ({ cls := "PairSymbols$Script", name := "append", desc := "(I)Z" } : Jvm.MethodName) ({ cls := "PairSymbols$Script", name := "append", desc := "(I)Z" } : Jvm.MethodName)) ∈ lw_tbl := List.mem_of_getElem? (i := 687) (by decide +kernel)
theorem q_600 : (Jvm.Cond.code ({ cls := "PairSymbols$Script", name := "append", desc := "(I)Z" } : Jvm.MethodName) prog_9_method_2_code (2 : Nat) (Option.some Jvm.ClassFile.FieldType.boolean)) ∈ lw_tbl := List.mem_of_getElem? (i := 688) (by decide +kernel)
theorem q_601 : (Jvm.Cond.methodLink "PairSymbolsLaw" (91 : Nat) ({ cls := "PairSymbols", name := "clea\x72", desc := "()I" } : Jvm.MethodName)) ∈ lw_tbl := List.mem_of_getElem? (i := 689) (by decide +kernel)
theorem q_602 : (Jvm.Cond.instanceMethod ({ cls := "PairSymbols", name := "clea\x72", desc := "()I" } : Jvm.MethodName)) ∈ lw_tbl := List.mem_of_getElem? (i := 690) (by decide +kernel)
theorem q_603 : (Jvm.Cond.selects "PairSymbols" ({ cls := "PairSymbols", name := "clea\x72", desc := "()I" } : Jvm.MethodName) ({ cls := "PairSymbols", name := "clea\x72", desc := "()I" } : Jvm.MethodName)) ∈ lw_tbl := List.mem_of_getElem? (i := 691) (by decide +kernel)
theorem q_604 : (Jvm.Cond.code ({ cls := "PairSymbols", name := "clea\x72", desc := "()I" } : Jvm.MethodName) prog_1_method_20_code (2 : Nat) (Option.some Jvm.ClassFile.FieldType.int)) ∈ lw_tbl := List.mem_of_getElem? (i := 692) (by decide +kernel)
theorem q_605 : (Jvm.Cond.methodLink "PairSymbolsLaw" (95 : Nat) ({ cls := "PairSymbols", name := "reads", desc := "()I" } : Jvm.MethodName)) ∈ lw_tbl := List.mem_of_getElem? (i := 693) (by decide +kernel)
theorem q_606 : (Jvm.Cond.instanceMethod ({ cls := "PairSymbols", name := "reads", desc := "()I" } : Jvm.MethodName)) ∈ lw_tbl := List.mem_of_getElem? (i := 694) (by decide +kernel)
theorem q_607 : (Jvm.Cond.selects "PairSymbols" ({ cls := "PairSymbols", name := "reads", desc := "()I" } : Jvm.MethodName) ({ cls := "PairSymbols", name := "reads", desc := "()I" } : Jvm.MethodName)) ∈ lw_tbl := List.mem_of_getElem? (i := 695) (by decide +kernel)
theorem q_608 : (Jvm.Cond.code ({ cls := "PairSymbols", name := "reads", desc := "()I" } : Jvm.MethodName) prog_1_method_21_code (3 : Nat) (Option.some Jvm.ClassFile.FieldType.int)) ∈ lw_tbl := List.mem_of_getElem? (i := 696) (by decide +kernel)
theorem q_609 : (Jvm.Cond.methodLink "PairSymbols" (212 : Nat) ({ cls := "PairSymbols$Script", name := "parse", desc := "()I" } : Jvm.MethodName)) ∈ lw_tbl := List.mem_of_getElem? (i := 697) (by decide +kernel)
theorem q_610 : (Jvm.Cond.instanceMethod ({ cls := "PairSymbols$Script", name := "parse", desc := "()I" } : Jvm.MethodName)) ∈ lw_tbl := List.mem_of_getElem? (i := 698) (by decide +kernel)
theorem q_611 : (Jvm.Cond.selects "PairSymbols$Script" ({ cls := "PairSymbols$Script", name := "parse", desc := "()I" } : Jvm.MethodName) ({ cls := "PairSymbols$Script", name := "parse", desc := "()I" } : Jvm.MethodName)) ∈ lw_tbl := List.mem_of_getElem? (i := 699) (by decide +kernel)
theorem q_612 : (Jvm.Cond.code ({ cls := "PairSymbols$Script", name := "parse", desc := "()I" } : Jvm.MethodName) prog_9_method_3_code (2 : Nat) (Option.some Jvm.ClassFile.FieldType.int)) ∈ lw_tbl := List.mem_of_getElem? (i := 700) (by decide +kernel)
theorem q_613 : (Jvm.Cond.methodLink "PairSymbols$Script" (35 : Nat) ({ cls := "PairSymbols$Script", name := "skipBlanks", desc := "()V" } : Jvm.MethodName)) ∈ lw_tbl := List.mem_of_getElem? (i := 701) (by decide +kernel)
theorem q_614 : (Jvm.Cond.privateMethod ({ cls := "PairSymbols$Script", name := "skipBlanks", desc := "()V" } : Jvm.MethodName)) ∈ lw_tbl := List.mem_of_getElem? (i := 702) (by decide +kernel)
theorem q_615 : (Jvm.Cond.instanceMethod ({ cls := "PairSymbols$Script", name := "skipBlanks", desc := "()V" } : Jvm.MethodName)) ∈ lw_tbl := List.mem_of_getElem? (i := 703) (by decide +kernel)
theorem q_616 : (Jvm.Cond.code ({ cls := "PairSymbols$Script", name := "skipBlanks", desc := "()V" } : Jvm.MethodName) prog_9_method_7_code (1 : Nat) (Option.none : Option Jvm.ClassFile.FieldType)) ∈ lw_tbl := List.mem_of_getElem? (i := 704) (by decide +kernel)
theorem q_617 : (Jvm.Cond.methodLink "PairSymbols$Script" (42 : Nat) ({ cls := "PairSymbols$Script", name := "byteHere", desc := "()I" } : Jvm.MethodName)) ∈ lw_tbl := List.mem_of_getElem? (i := 705) (by decide +kernel)
theorem q_618 : (Jvm.Cond.privateMethod ({ cls := "PairSymbols$Script", name := "byteHere", desc := "()I" } : Jvm.MethodName)) ∈ lw_tbl := List.mem_of_getElem? (i := 706) (by decide +kernel)
theorem q_619 : (Jvm.Cond.instanceMethod ({ cls := "PairSymbols$Script", name := "byteHere", desc := "()I" } : Jvm.MethodName)) ∈ lw_tbl := List.mem_of_getElem? (i := 707) (by decide +kernel)
theorem q_620 : (Jvm.Cond.code ({ cls := "PairSymbols$Script", name := "byteHere", desc := "()I" } : Jvm.MethodName) prog_9_method_9_code (1 : Nat) (Option.some Jvm.ClassFile.FieldType.int)) ∈ lw_tbl := List.mem_of_getElem? (i := 708) (by decide +kernel)
theorem q_621 : (Jvm.Cond.methodLink "PairSymbols$Script" (38 : Nat) ({ cls := "PairSymbols$Script", name := "parseCommand", desc := "()Z" } : Jvm.MethodName)) ∈ lw_tbl := List.mem_of_getElem? (i := 709) (by decide +kernel)
theorem q_622 : (Jvm.Cond.privateMethod ({ cls := "PairSymbols$Script", name := "parseCommand", desc := "()Z" } : Jvm.MethodName)) ∈ lw_tbl := List.mem_of_getElem? (i := 710) (by decide +kernel)
theorem q_623 : (Jvm.Cond.instanceMethod ({ cls := "PairSymbols$Script", name := "parseCommand", desc := "()Z" } : Jvm.MethodName)) ∈ lw_tbl := List.mem_of_getElem? (i := 711) (by decide +kernel)
theorem q_624 : (Jvm.Cond.code ({ cls := "PairSymbols$Script", name := "parseCommand", desc := "()Z" } : Jvm.MethodName) prog_9_method_4_code (3 : Nat) (Option.some Jvm.ClassFile.FieldType.boolean)) ∈ lw_tbl := List.mem_of_getElem? (i := 712) (by decide +kernel)
theorem q_625 : (Jvm.Cond.methodLink "PairSymbols$Script" (46 : Nat) ({ cls := "PairSymbols$Script", name := "numbersOf", desc := "(I)I" } : Jvm.MethodName)) ∈ lw_tbl := List.mem_of_getElem? (i := 713) (by decide +kernel)
theorem q_626 : (Jvm.Cond.static ({ cls := "PairSymbols$Script", name := "numbersOf", desc := "(I)I" } : Jvm.MethodName)) ∈ lw_tbl := List.mem_of_getElem? (i := 714) (by decide +kernel)
theorem q_627 : (Jvm.Cond.code ({ cls := "PairSymbols$Script", name := "numbersOf", desc := "(I)I" } : Jvm.MethodName) prog_9_method_5_code (1 : Nat) (Option.some Jvm.ClassFile.FieldType.int)) ∈ lw_tbl := List.mem_of_getElem? (i := 715) (by decide +kernel)
theorem q_628 : (Jvm.Cond.methodLink "PairSymbols$Script" (50 : Nat) ({ cls := "PairSymbols$Script", name := "parseNumbe\x72", desc := "(Z)Z" } : Jvm.MethodName)) ∈ lw_tbl := List.mem_of_getElem? (i := 716) (by decide +kernel)
theorem q_629 : (Jvm.Cond.privateMethod ({ cls := "PairSymbols$Script", name := "parseNumbe\x72", desc := "(Z)Z" } : Jvm.MethodName)) ∈ lw_tbl := List.mem_of_getElem? (i := 717) (by decide +kernel)
theorem q_630 : (Jvm.Cond.instanceMethod ({ cls := "PairSymbols$Script", name := "parseNumbe\x72", desc := "(Z)Z" } : Jvm.MethodName)) ∈ lw_tbl := List.mem_of_getElem? (i := 718) (by decide +kernel)
theorem q_631 : (Jvm.Cond.code ({ cls := "PairSymbols$Script", name := "parseNumbe\x72", desc := "(Z)Z" } : Jvm.MethodName) prog_9_method_6_code (5 : Nat) (Option.some Jvm.ClassFile.FieldType.boolean)) ∈ lw_tbl := List.mem_of_getElem? (i := 719) (by decide +kernel)
theorem q_632 : (Jvm.Cond.methodLink "PairSymbols$Script" (57 : Nat) ({ cls := "PairSymbols$Script", name := "digitHere", desc := "()Z" } : Jvm.MethodName)) ∈ lw_tbl := List.mem_of_getElem? (i := 720) (by decide +kernel)
theorem q_633 : (Jvm.Cond.privateMethod ({ cls := "PairSymbols$Script", name := "digitHere", desc := "()Z" } : Jvm.MethodName)) ∈ lw_tbl := List.mem_of_getElem? (i := 721) (by decide +kernel)
theorem q_634 : (Jvm.Cond.instanceMethod ({ cls := "PairSymbols$Script", name := "digitHere", desc := "()Z" } : Jvm.MethodName)) ∈ lw_tbl := List.mem_of_getElem? (i := 722) (by decide +kernel)
theorem q_635 : (Jvm.Cond.code ({ cls := "PairSymbols$Script", name := "digitHere", desc := "()Z" } : Jvm.MethodName) prog_9_method_8_code (1 : Nat) (Option.some Jvm.ClassFile.FieldType.boolean)) ∈ lw_tbl := List.mem_of_getElem? (i := 723) (by decide +kernel)
theorem q_636 : (Jvm.Cond.methodLinkNest "PairSymbols$Script" (60 : Nat) ({ cls := "PairSymbols", name := "within", desc := "(III)Z" } : Jvm.MethodName) "PairSymbols") ∈ lw_tbl := List.mem_of_getElem? (i := 724) (by decide +kernel)
theorem q_637 : (Jvm.Cond.methodLink "PairSymbols" (218 : Nat) ({ cls := "PairSymbols", name := "perform", desc := "(I)I" } : Jvm.MethodName)) ∈ lw_tbl := List.mem_of_getElem? (i := 725) (by decide +kernel)
theorem q_638 : (Jvm.Cond.privateMethod ({ cls := "PairSymbols", name := "perform", desc := "(I)I" } : Jvm.MethodName)) ∈ lw_tbl := List.mem_of_getElem? (i := 726) (by decide +kernel)
theorem q_639 : (Jvm.Cond.instanceMethod ({ cls := "PairSymbols", name := "perform", desc := "(I)I" } : Jvm.MethodName)) ∈ lw_tbl := List.mem_of_getElem? (i := 727) (by decide +kernel)
theorem q_640 : (Jvm.Cond.code ({ cls := "PairSymbols", name := "perform", desc := "(I)I" } : Jvm.MethodName) prog_1_method_30_code (4 : Nat) (Option.some Jvm.ClassFile.FieldType.int)) ∈ lw_tbl := List.mem_of_getElem? (i := 728) (by decide +kernel)
theorem q_641 : (Jvm.Cond.methodLink "PairSymbolsLaw" (99 : Nat) ({ cls := "PairSymbols", name := "back", desc := "()I" } : Jvm.MethodName)) ∈ lw_tbl := List.mem_of_getElem? (i := 729) (by decide +kernel)
theorem q_642 : (Jvm.Cond.instanceMethod ({ cls := "PairSymbols", name := "back", desc := "()I" } : Jvm.MethodName)) ∈ lw_tbl := List.mem_of_getElem? (i := 730) (by decide +kernel)
theorem q_643 : (Jvm.Cond.selects "PairSymbols" ({ cls := "PairSymbols", name := "back", desc := "()I" } : Jvm.MethodName) ({ cls := "PairSymbols", name := "back", desc := "()I" } : Jvm.MethodName)) ∈ lw_tbl := List.mem_of_getElem? (i := 731) (by decide +kernel)
theorem q_644 : (Jvm.Cond.code ({ cls := "PairSymbols", name := "back", desc := "()I" } : Jvm.MethodName) prog_1_method_22_code (1 : Nat) (Option.some Jvm.ClassFile.FieldType.int)) ∈ lw_tbl := List.mem_of_getElem? (i := 732) (by decide +kernel)
theorem q_645 : (Jvm.Cond.methodLink "PairSymbols" (222 : Nat) ({ cls := "PairSymbols$History", name := "restore", desc := "(LPairSymbols$State;)V" } : Jvm.MethodName)) ∈ lw_tbl := List.mem_of_getElem? (i := 733) (by decide +kernel)
theorem q_646 : (Jvm.Cond.instanceMethod ({ cls := "PairSymbols$History", name := "restore", desc := "(LPairSymbols$State;)V" } : Jvm.MethodName)) ∈ lw_tbl := List.mem_of_getElem? (i := 734) (by decide +kernel)
theorem q_647 : (Jvm.Cond.selects "PairSymbols$History" ({ cls := "PairSymbols$History", name := "restore", desc := "(LPairSymbols$State;)V" } : Jvm.MethodName) ({ cls := "PairSymbols$History", name := "restore", desc := "(LPairSymbols$State;)V" } : Jvm.MethodName)) ∈ lw_tbl := List.mem_of_getElem? (i := 735) (by decide +kernel)
theorem q_648 : (Jvm.Cond.code ({ cls := "PairSymbols$History", name := "restore", desc := "(LPairSymbols$State;)V" } : Jvm.MethodName) prog_4_method_4_code (2 : Nat) (Option.none : Option Jvm.ClassFile.FieldType)) ∈ lw_tbl := List.mem_of_getElem? (i := 736) (by decide +kernel)
theorem q_649 : (Jvm.Cond.methodLink "PairSymbolsLaw" (103 : Nat) ({ cls := "PairSymbols", name := "told", desc := "(I)I" } : Jvm.MethodName)) ∈ lw_tbl := List.mem_of_getElem? (i := 737) (by decide +kernel)
theorem q_650 : (Jvm.Cond.instanceMethod ({ cls := "PairSymbols", name := "told", desc := "(I)I" } : Jvm.MethodName)) ∈ lw_tbl := List.mem_of_getElem? (i := 738) (by decide +kernel)
theorem q_651 : (Jvm.Cond.selects "PairSymbols" ({ cls := "PairSymbols", name := "told", desc := "(I)I" } : Jvm.MethodName) ({ cls := "PairSymbols", name := "told", desc := "(I)I" } : Jvm.MethodName)) ∈ lw_tbl := List.mem_of_getElem? (i := 739) (by decide +kernel)
theorem q_652 : (Jvm.Cond.code ({ cls := "PairSymbols", name := "told", desc := "(I)I" } : Jvm.MethodName) prog_1_method_23_code (2 : Nat) (Option.some Jvm.ClassFile.FieldType.int)) ∈ lw_tbl := List.mem_of_getElem? (i := 740) (by decide +kernel)
theorem q_653 : (Jvm.Cond.methodLink "PairSymbolsLaw" (107 : Nat) ({ cls := "PairSymbols", name := "digest", desc := "()J" } : Jvm.MethodName)) ∈ lw_tbl := List.mem_of_getElem? (i := 741) (by decide +kernel)
theorem q_654 : (Jvm.Cond.instanceMethod ({ cls := "PairSymbols", name := "digest", desc := "()J" } : Jvm.MethodName)) ∈ lw_tbl := List.mem_of_getElem? (i := 742) (by decide +kernel)
theorem q_655 : (Jvm.Cond.selects "PairSymbols" ({ cls := "PairSymbols", name := "digest", desc := "()J" } : Jvm.MethodName) ({ cls := "PairSymbols", name := "digest", desc := "()J" } : Jvm.MethodName)) ∈ lw_tbl := List.mem_of_getElem? (i := 743) (by decide +kernel)
theorem q_656 : (Jvm.Cond.code ({ cls := "PairSymbols", name := "digest", desc := "()J" } : Jvm.MethodName) prog_1_method_24_code (4 : Nat) (Option.some Jvm.ClassFile.FieldType.long)) ∈ lw_tbl := List.mem_of_getElem? (i := 744) (by decide +kernel)
theorem q_657 : (Jvm.Cond.constantLong "PairSymbols" (237 : Nat) (2297 : Int64)) ∈ lw_tbl := List.mem_of_getElem? (i := 745) (by decide +kernel)
theorem q_658 : (Jvm.Cond.constantLong "PairSymbols" (239 : Nat) (31 : Int64)) ∈ lw_tbl := List.mem_of_getElem? (i := 746) (by decide +kernel)
theorem q_659 : (Jvm.Cond.methodLink "PairSymbols" (241 : Nat) ({ cls := "PairSymbols", name := "told", desc := "(I)I" } : Jvm.MethodName)) ∈ lw_tbl := List.mem_of_getElem? (i := 747) (by decide +kernel)
theorem q_660 : (Jvm.Cond.methodLink "PairSymbols" (244 : Nat) ({ cls := "PairSymbols", name := "symbols", desc := "()I" } : Jvm.MethodName)) ∈ lw_tbl := List.mem_of_getElem? (i := 748) (by decide +kernel)
theorem q_661 : (Jvm.Cond.methodLink "PairSymbols" (247 : Nat) ({ cls := "PairSymbols", name := "space", desc := "(I)I" } : Jvm.MethodName)) ∈ lw_tbl := List.mem_of_getElem? (i := 749) (by decide +kernel)
theorem q_662 : (Jvm.Cond.methodLink "PairSymbols" (250 : Nat) ({ cls := "PairSymbols", name := "sum", desc := "(II)J" } : Jvm.MethodName)) ∈ lw_tbl := List.mem_of_getElem? (i := 750) (by decide +kernel)
theorem q_663 : (Jvm.Cond.methodLink "PairSymbols" (254 : Nat) ({ cls := "PairSymbols", name := "cuspidal", desc := "()I" } : Jvm.MethodName)) ∈ lw_tbl := List.mem_of_getElem? (i := 751) (by decide +kernel)
theorem q_664 : (Jvm.Cond.classLink "PairSymbolsLaw" (10 : Nat) "PairSymbolsModel") ∈ lw_tbl := List.mem_of_getElem? (i := 752) (by decide +kernel)
theorem q_665 : (Jvm.Cond.instantiable "PairSymbolsModel" (51 : Nat)) ∈ lw_tbl := List.mem_of_getElem? (i := 753) (by decide +kernel)
theorem q_666 : (Jvm.Cond.methodLink "PairSymbolsLaw" (12 : Nat) ({ cls := "PairSymbolsModel", name := "<init>", desc := "()V" } : Jvm.MethodName)) ∈ lw_tbl := List.mem_of_getElem? (i := 754) (by decide +kernel)
theorem q_667 : (Jvm.Cond.instanceMethod ({ cls := "PairSymbolsModel", name := "<init>", desc := "()V" } : Jvm.MethodName)) ∈ lw_tbl := List.mem_of_getElem? (i := 755) (by decide +kernel)
theorem q_668 : (Jvm.Cond.code ({ cls := "PairSymbolsModel", name := "<init>", desc := "()V" } : Jvm.MethodName) prog_12_method_1_code (1 : Nat) (Option.none : Option Jvm.ClassFile.FieldType)) ∈ lw_tbl := List.mem_of_getElem? (i := 756) (by decide +kernel)
theorem q_669 : (Jvm.Cond.methodLink "PairSymbolsModel" (1 : Nat) ({ cls := "java/lang/Object", name := "<init>", desc := "()V" } : Jvm.MethodName)) ∈ lw_tbl := List.mem_of_getElem? (i := 757) (by decide +kernel)
theorem q_670 : (Jvm.Cond.constantLong "PairSymbolsModel" (120 : Nat) (11 : Int64)) ∈ lw_tbl := List.mem_of_getElem? (i := 758) (by decide +kernel)
theorem q_671 : (Jvm.Cond.methodLink "PairSymbolsModel" (122 : Nat) ({ cls := "PairSymbolsModel", name := "zeroes", desc := "()V" } : Jvm.MethodName)) ∈ lw_tbl := List.mem_of_getElem? (i := 759) (by decide +kernel)
theorem q_672 : (Jvm.Cond.privateMethod ({ cls := "PairSymbolsModel", name := "zeroes", desc := "()V" } : Jvm.MethodName)) ∈ lw_tbl := List.mem_of_getElem? (i := 760) (by decide +kernel)
theorem q_673 : (Jvm.Cond.instanceMethod ({ cls := "PairSymbolsModel", name := "zeroes", desc := "()V" } : Jvm.MethodName)) ∈ lw_tbl := List.mem_of_getElem? (i := 761) (by decide +kernel)
theorem q_674 : (Jvm.Cond.code ({ cls := "PairSymbolsModel", name := "zeroes", desc := "()V" } : Jvm.MethodName) prog_12_method_8_code (2 : Nat) (Option.none : Option Jvm.ClassFile.FieldType)) ∈ lw_tbl := List.mem_of_getElem? (i := 762) (by decide +kernel)
theorem q_675 : (Jvm.Cond.fieldLink "PairSymbolsModel" (7 : Nat) "PairSymbolsModel" "all" "[J") ∈ lw_tbl := List.mem_of_getElem? (i := 763) (by decide +kernel)
theorem q_676 : (Jvm.Cond.fieldLink "PairSymbolsModel" (13 : Nat) "PairSymbolsModel" "past" "[J") ∈ lw_tbl := List.mem_of_getElem? (i := 764) (by decide +kernel)
theorem q_677 : (Jvm.Cond.fieldLink "PairSymbolsModel" (16 : Nat) "PairSymbolsModel" "aside" "[J") ∈ lw_tbl := List.mem_of_getElem? (i := 765) (by decide +kernel)
theorem q_678 : (Jvm.Cond.fieldLink "PairSymbolsModel" (125 : Nat) "PairSymbolsModel" "states" "I") ∈ lw_tbl := List.mem_of_getElem? (i := 766) (by decide +kernel)
theorem q_679 : (Jvm.Cond.fieldLink "PairSymbolsModel" (19 : Nat) "PairSymbolsModel" "refused" "[I") ∈ lw_tbl := List.mem_of_getElem? (i := 767) (by decide +kernel)
theorem q_680 : (Jvm.Cond.fieldLink "PairSymbolsModel" (133 : Nat) "PairSymbolsModel" "above" "J") ∈ lw_tbl := List.mem_of_getElem? (i := 768) (by decide +kernel)
theorem q_681 : (Jvm.Cond.fieldLink "PairSymbolsModel" (137 : Nat) "PairSymbolsModel" "below" "J") ∈ lw_tbl := List.mem_of_getElem? (i := 769) (by decide +kernel)
theorem q_682 : (Jvm.Cond.fieldLink "PairSymbolsModel" (195 : Nat) "PairSymbolsModel" "laid" "I") ∈ lw_tbl := List.mem_of_getElem? (i := 770) (by decide +kernel)
theorem q_683 : (Jvm.Cond.fieldLink "PairSymbolsModel" (156 : Nat) "PairSymbolsModel" "symbols" "I") ∈ lw_tbl := List.mem_of_getElem? (i := 771) (by decide +kernel)
theorem q_684 : (Jvm.Cond.fieldLink "PairSymbolsModel" (23 : Nat) "PairSymbolsModel" "pairs" "[I") ∈ lw_tbl := List.mem_of_getElem? (i := 772) (by decide +kernel)
theorem q_685 : (Jvm.Cond.fieldLink "PairSymbolsModel" (26 : Nat) "PairSymbolsModel" "ofC" "[I") ∈ lw_tbl := List.mem_of_getElem? (i := 773) (by decide +kernel)
theorem q_686 : (Jvm.Cond.fieldLink "PairSymbolsModel" (29 : Nat) "PairSymbolsModel" "ofD" "[I") ∈ lw_tbl := List.mem_of_getElem? (i := 774) (by decide +kernel)
theorem q_687 : (Jvm.Cond.fieldLink "PairSymbolsModel" (32 : Nat) "PairSymbolsModel" "cusps" "[I") ∈ lw_tbl := List.mem_of_getElem? (i := 775) (by decide +kernel)
theorem q_688 : (Jvm.Cond.fieldLink "PairSymbolsModel" (162 : Nat) "PairSymbolsModel" "cuspMany" "I") ∈ lw_tbl := List.mem_of_getElem? (i := 776) (by decide +kernel)
theorem q_689 : (Jvm.Cond.fieldLink "PairSymbolsModel" (192 : Nat) "PairSymbolsModel" "free" "I") ∈ lw_tbl := List.mem_of_getElem? (i := 777) (by decide +kernel)
theorem q_690 : (Jvm.Cond.fieldLink "PairSymbolsModel" (35 : Nat) "PairSymbolsModel" "freeOf" "[I") ∈ lw_tbl := List.mem_of_getElem? (i := 778) (by decide +kernel)
theorem q_691 : (Jvm.Cond.fieldLink "PairSymbolsModel" (38 : Nat) "PairSymbolsModel" "freeSymbol" "[I") ∈ lw_tbl := List.mem_of_getElem? (i := 779) (by decide +kernel)
theorem q_692 : (Jvm.Cond.fieldLink "PairSymbolsModel" (41 : Nat) "PairSymbolsModel" "told" "[Z") ∈ lw_tbl := List.mem_of_getElem? (i := 780) (by decide +kernel)
theorem q_693 : (Jvm.Cond.fieldLink "PairSymbolsModel" (45 : Nat) "PairSymbolsModel" "ruleAbove" "[J") ∈ lw_tbl := List.mem_of_getElem? (i := 781) (by decide +kernel)
theorem q_694 : (Jvm.Cond.fieldLink "PairSymbolsModel" (48 : Nat) "PairSymbolsModel" "ruleBelow" "[J") ∈ lw_tbl := List.mem_of_getElem? (i := 782) (by decide +kernel)
theorem q_695 : (Jvm.Cond.fieldLink "PairSymbolsModel" (51 : Nat) "PairSymbolsModel" "freeAbove" "[J") ∈ lw_tbl := List.mem_of_getElem? (i := 783) (by decide +kernel)
theorem q_696 : (Jvm.Cond.fieldLink "PairSymbolsModel" (54 : Nat) "PairSymbolsModel" "freeBelow" "[J") ∈ lw_tbl := List.mem_of_getElem? (i := 784) (by decide +kernel)
theorem q_697 : (Jvm.Cond.fieldLink "PairSymbolsModel" (57 : Nat) "PairSymbolsModel" "rowAbove" "[J") ∈ lw_tbl := List.mem_of_getElem? (i := 785) (by decide +kernel)
theorem q_698 : (Jvm.Cond.fieldLink "PairSymbolsModel" (60 : Nat) "PairSymbolsModel" "rowBelow" "[J") ∈ lw_tbl := List.mem_of_getElem? (i := 786) (by decide +kernel)
theorem q_699 : (Jvm.Cond.fieldLink "PairSymbolsModel" (63 : Nat) "PairSymbolsModel" "tableAbove" "[J") ∈ lw_tbl := List.mem_of_getElem? (i := 787) (by decide +kernel)
theorem q_700 : (Jvm.Cond.fieldLink "PairSymbolsModel" (66 : Nat) "PairSymbolsModel" "tableBelow" "[J") ∈ lw_tbl := List.mem_of_getElem? (i := 788) (by decide +kernel)
theorem q_701 : (Jvm.Cond.fieldLink "PairSymbolsModel" (231 : Nat) "PairSymbolsModel" "cuspidals" "I") ∈ lw_tbl := List.mem_of_getElem? (i := 789) (by decide +kernel)
theorem q_702 : (Jvm.Cond.fieldLink "PairSymbolsModel" (69 : Nat) "PairSymbolsModel" "chosen" "[I") ∈ lw_tbl := List.mem_of_getElem? (i := 790) (by decide +kernel)
theorem q_703 : (Jvm.Cond.fieldLink "PairSymbolsModel" (72 : Nat) "PairSymbolsModel" "sumsAbove" "[J") ∈ lw_tbl := List.mem_of_getElem? (i := 791) (by decide +kernel)
theorem q_704 : (Jvm.Cond.fieldLink "PairSymbolsModel" (75 : Nat) "PairSymbolsModel" "sumsBelow" "[J") ∈ lw_tbl := List.mem_of_getElem? (i := 792) (by decide +kernel)
theorem q_705 : (Jvm.Cond.fieldLink "PairSymbolsModel" (78 : Nat) "PairSymbolsModel" "leads" "[I") ∈ lw_tbl := List.mem_of_getElem? (i := 793) (by decide +kernel)
theorem q_706 : (Jvm.Cond.fieldLink "PairSymbolsModel" (81 : Nat) "PairSymbolsModel" "imageAbove" "[J") ∈ lw_tbl := List.mem_of_getElem? (i := 794) (by decide +kernel)
theorem q_707 : (Jvm.Cond.fieldLink "PairSymbolsModel" (84 : Nat) "PairSymbolsModel" "imageBelow" "[J") ∈ lw_tbl := List.mem_of_getElem? (i := 795) (by decide +kernel)
theorem q_708 : (Jvm.Cond.fieldLink "PairSymbolsModel" (87 : Nat) "PairSymbolsModel" "actsAbove" "[J") ∈ lw_tbl := List.mem_of_getElem? (i := 796) (by decide +kernel)
theorem q_709 : (Jvm.Cond.fieldLink "PairSymbolsModel" (90 : Nat) "PairSymbolsModel" "actsBelow" "[J") ∈ lw_tbl := List.mem_of_getElem? (i := 797) (by decide +kernel)
theorem q_710 : (Jvm.Cond.fieldLink "PairSymbolsModel" (293 : Nat) "PairSymbolsModel" "wide" "I") ∈ lw_tbl := List.mem_of_getElem? (i := 798) (by decide +kernel)
theorem q_711 : (Jvm.Cond.fieldLink "PairSymbolsModel" (93 : Nat) "PairSymbolsModel" "powerAbove" "[J") ∈ lw_tbl := List.mem_of_getElem? (i := 799) (by decide +kernel)
theorem q_712 : (Jvm.Cond.fieldLink "PairSymbolsModel" (96 : Nat) "PairSymbolsModel" "powerBelow" "[J") ∈ lw_tbl := List.mem_of_getElem? (i := 800) (by decide +kernel)
theorem q_713 : (Jvm.Cond.fieldLink "PairSymbolsModel" (99 : Nat) "PairSymbolsModel" "nextAbove" "[J") ∈ lw_tbl := List.mem_of_getElem? (i := 801) (by decide +kernel)
theorem q_714 : (Jvm.Cond.fieldLink "PairSymbolsModel" (102 : Nat) "PairSymbolsModel" "nextBelow" "[J") ∈ lw_tbl := List.mem_of_getElem? (i := 802) (by decide +kernel)
theorem q_715 : (Jvm.Cond.fieldLink "PairSymbolsModel" (105 : Nat) "PairSymbolsModel" "numbers" "[J") ∈ lw_tbl := List.mem_of_getElem? (i := 803) (by decide +kernel)
theorem q_716 : (Jvm.Cond.fieldLink "PairSymbolsModel" (108 : Nat) "PairSymbolsModel" "fresh" "[I") ∈ lw_tbl := List.mem_of_getElem? (i := 804) (by decide +kernel)
theorem q_717 : (Jvm.Cond.fieldLink "PairSymbolsModel" (111 : Nat) "PairSymbolsModel" "thenAbove" "[J") ∈ lw_tbl := List.mem_of_getElem? (i := 805) (by decide +kernel)
theorem q_718 : (Jvm.Cond.fieldLink "PairSymbolsModel" (114 : Nat) "PairSymbolsModel" "thenBelow" "[J") ∈ lw_tbl := List.mem_of_getElem? (i := 806) (by decide +kernel)
theorem q_719 : (Jvm.Cond.fieldLink "PairSymbolsModel" (117 : Nat) "PairSymbolsModel" "text" "[I") ∈ lw_tbl := List.mem_of_getElem? (i := 807) (by decide +kernel)
theorem q_720 : (Jvm.Cond.fieldLink "PairSymbolsModel" (397 : Nat) "PairSymbolsModel" "textLong" "I") ∈ lw_tbl := List.mem_of_getElem? (i := 808) (by decide +kernel)
theorem q_721 : (Jvm.Cond.fieldLink "PairSymbolsModel" (400 : Nat) "PairSymbolsModel" "place" "I") ∈ lw_tbl := List.mem_of_getElem? (i := 809) (by decide +kernel)
theorem q_722 : (Jvm.Cond.fieldLink "PairSymbolsModel" (410 : Nat) "PairSymbolsModel" "value" "I") ∈ lw_tbl := List.mem_of_getElem? (i := 810) (by decide +kernel)
theorem q_723 : (Jvm.Cond.fieldLink "PairSymbolsModel" (420 : Nat) "PairSymbolsModel" "first" "I") ∈ lw_tbl := List.mem_of_getElem? (i := 811) (by decide +kernel)
theorem q_724 : (Jvm.Cond.fieldLink "PairSymbolsModel" (423 : Nat) "PairSymbolsModel" "second" "I") ∈ lw_tbl := List.mem_of_getElem? (i := 812) (by decide +kernel)
theorem q_725 : (Jvm.Cond.fieldLink "PairSymbolsModel" (432 : Nat) "PairSymbolsModel" "not" "I") ∈ lw_tbl := List.mem_of_getElem? (i := 813) (by decide +kernel)
theorem q_726 : (Jvm.Cond.laysFinal "PairSymbolsModel" "PairSymbolsModel" "all" "[J") ∈ lw_tbl := List.mem_of_getElem? (i := 814) (by decide +kernel)
theorem q_727 : (Jvm.Cond.soleField "PairSymbolsModel" "all") ∈ lw_tbl := List.mem_of_getElem? (i := 815) (by decide +kernel)
theorem q_728 : (Jvm.Cond.laysFinal "PairSymbolsModel" "PairSymbolsModel" "past" "[J") ∈ lw_tbl := List.mem_of_getElem? (i := 816) (by decide +kernel)
theorem q_729 : (Jvm.Cond.soleField "PairSymbolsModel" "past") ∈ lw_tbl := List.mem_of_getElem? (i := 817) (by decide +kernel)
theorem q_730 : (Jvm.Cond.laysFinal "PairSymbolsModel" "PairSymbolsModel" "aside" "[J") ∈ lw_tbl := List.mem_of_getElem? (i := 818) (by decide +kernel)
theorem q_731 : (Jvm.Cond.soleField "PairSymbolsModel" "aside") ∈ lw_tbl := List.mem_of_getElem? (i := 819) (by decide +kernel)
theorem q_732 : (Jvm.Cond.lays "PairSymbolsModel" "PairSymbolsModel" "states" "I") ∈ lw_tbl := List.mem_of_getElem? (i := 820) (by decide +kernel)
theorem q_733 : (Jvm.Cond.soleField "PairSymbolsModel" "states") ∈ lw_tbl := List.mem_of_getElem? (i := 821) (by decide +kernel)
theorem q_734 : (Jvm.Cond.laysFinal "PairSymbolsModel" "PairSymbolsModel" "refused" "[I") ∈ lw_tbl := List.mem_of_getElem? (i := 822) (by decide +kernel)
theorem q_735 : (Jvm.Cond.soleField "PairSymbolsModel" "refused") ∈ lw_tbl := List.mem_of_getElem? (i := 823) (by decide +kernel)
theorem q_736 : (Jvm.Cond.lays "PairSymbolsModel" "PairSymbolsModel" "above" "J") ∈ lw_tbl := List.mem_of_getElem? (i := 824) (by decide +kernel)
theorem q_737 : (Jvm.Cond.soleField "PairSymbolsModel" "above") ∈ lw_tbl := List.mem_of_getElem? (i := 825) (by decide +kernel)
theorem q_738 : (Jvm.Cond.lays "PairSymbolsModel" "PairSymbolsModel" "below" "J") ∈ lw_tbl := List.mem_of_getElem? (i := 826) (by decide +kernel)
theorem q_739 : (Jvm.Cond.soleField "PairSymbolsModel" "below") ∈ lw_tbl := List.mem_of_getElem? (i := 827) (by decide +kernel)
theorem q_740 : (Jvm.Cond.lays "PairSymbolsModel" "PairSymbolsModel" "laid" "I") ∈ lw_tbl := List.mem_of_getElem? (i := 828) (by decide +kernel)
theorem q_741 : (Jvm.Cond.soleField "PairSymbolsModel" "laid") ∈ lw_tbl := List.mem_of_getElem? (i := 829) (by decide +kernel)
theorem q_742 : (Jvm.Cond.lays "PairSymbolsModel" "PairSymbolsModel" "symbols" "I") ∈ lw_tbl := List.mem_of_getElem? (i := 830) (by decide +kernel)
theorem q_743 : (Jvm.Cond.soleField "PairSymbolsModel" "symbols") ∈ lw_tbl := List.mem_of_getElem? (i := 831) (by decide +kernel)
theorem q_744 : (Jvm.Cond.laysFinal "PairSymbolsModel" "PairSymbolsModel" "pairs" "[I") ∈ lw_tbl := List.mem_of_getElem? (i := 832) (by decide +kernel)
theorem q_745 : (Jvm.Cond.soleField "PairSymbolsModel" "pairs") ∈ lw_tbl := List.mem_of_getElem? (i := 833) (by decide +kernel)
theorem q_746 : (Jvm.Cond.laysFinal "PairSymbolsModel" "PairSymbolsModel" "ofC" "[I") ∈ lw_tbl := List.mem_of_getElem? (i := 834) (by decide +kernel)
theorem q_747 : (Jvm.Cond.soleField "PairSymbolsModel" "ofC") ∈ lw_tbl := List.mem_of_getElem? (i := 835) (by decide +kernel)
theorem q_748 : (Jvm.Cond.laysFinal "PairSymbolsModel" "PairSymbolsModel" "ofD" "[I") ∈ lw_tbl := List.mem_of_getElem? (i := 836) (by decide +kernel)
theorem q_749 : (Jvm.Cond.soleField "PairSymbolsModel" "ofD") ∈ lw_tbl := List.mem_of_getElem? (i := 837) (by decide +kernel)
theorem q_750 : (Jvm.Cond.laysFinal "PairSymbolsModel" "PairSymbolsModel" "cusps" "[I") ∈ lw_tbl := List.mem_of_getElem? (i := 838) (by decide +kernel)
theorem q_751 : (Jvm.Cond.soleField "PairSymbolsModel" "cusps") ∈ lw_tbl := List.mem_of_getElem? (i := 839) (by decide +kernel)
theorem q_752 : (Jvm.Cond.lays "PairSymbolsModel" "PairSymbolsModel" "cuspMany" "I") ∈ lw_tbl := List.mem_of_getElem? (i := 840) (by decide +kernel)
theorem q_753 : (Jvm.Cond.soleField "PairSymbolsModel" "cuspMany") ∈ lw_tbl := List.mem_of_getElem? (i := 841) (by decide +kernel)
theorem q_754 : (Jvm.Cond.lays "PairSymbolsModel" "PairSymbolsModel" "free" "I") ∈ lw_tbl := List.mem_of_getElem? (i := 842) (by decide +kernel)
theorem q_755 : (Jvm.Cond.soleField "PairSymbolsModel" "free") ∈ lw_tbl := List.mem_of_getElem? (i := 843) (by decide +kernel)
theorem q_756 : (Jvm.Cond.laysFinal "PairSymbolsModel" "PairSymbolsModel" "freeOf" "[I") ∈ lw_tbl := List.mem_of_getElem? (i := 844) (by decide +kernel)
theorem q_757 : (Jvm.Cond.soleField "PairSymbolsModel" "freeOf") ∈ lw_tbl := List.mem_of_getElem? (i := 845) (by decide +kernel)
theorem q_758 : (Jvm.Cond.laysFinal "PairSymbolsModel" "PairSymbolsModel" "freeSymbol" "[I") ∈ lw_tbl := List.mem_of_getElem? (i := 846) (by decide +kernel)
theorem q_759 : (Jvm.Cond.soleField "PairSymbolsModel" "freeSymbol") ∈ lw_tbl := List.mem_of_getElem? (i := 847) (by decide +kernel)
theorem q_760 : (Jvm.Cond.laysFinal "PairSymbolsModel" "PairSymbolsModel" "told" "[Z") ∈ lw_tbl := List.mem_of_getElem? (i := 848) (by decide +kernel)
theorem q_761 : (Jvm.Cond.soleField "PairSymbolsModel" "told") ∈ lw_tbl := List.mem_of_getElem? (i := 849) (by decide +kernel)
theorem q_762 : (Jvm.Cond.laysFinal "PairSymbolsModel" "PairSymbolsModel" "ruleAbove" "[J") ∈ lw_tbl := List.mem_of_getElem? (i := 850) (by decide +kernel)
theorem q_763 : (Jvm.Cond.soleField "PairSymbolsModel" "ruleAbove") ∈ lw_tbl := List.mem_of_getElem? (i := 851) (by decide +kernel)
theorem q_764 : (Jvm.Cond.laysFinal "PairSymbolsModel" "PairSymbolsModel" "ruleBelow" "[J") ∈ lw_tbl := List.mem_of_getElem? (i := 852) (by decide +kernel)
theorem q_765 : (Jvm.Cond.soleField "PairSymbolsModel" "ruleBelow") ∈ lw_tbl := List.mem_of_getElem? (i := 853) (by decide +kernel)
theorem q_766 : (Jvm.Cond.laysFinal "PairSymbolsModel" "PairSymbolsModel" "freeAbove" "[J") ∈ lw_tbl := List.mem_of_getElem? (i := 854) (by decide +kernel)
theorem q_767 : (Jvm.Cond.soleField "PairSymbolsModel" "freeAbove") ∈ lw_tbl := List.mem_of_getElem? (i := 855) (by decide +kernel)
theorem q_768 : (Jvm.Cond.laysFinal "PairSymbolsModel" "PairSymbolsModel" "freeBelow" "[J") ∈ lw_tbl := List.mem_of_getElem? (i := 856) (by decide +kernel)
theorem q_769 : (Jvm.Cond.soleField "PairSymbolsModel" "freeBelow") ∈ lw_tbl := List.mem_of_getElem? (i := 857) (by decide +kernel)
theorem q_770 : (Jvm.Cond.laysFinal "PairSymbolsModel" "PairSymbolsModel" "rowAbove" "[J") ∈ lw_tbl := List.mem_of_getElem? (i := 858) (by decide +kernel)
theorem q_771 : (Jvm.Cond.soleField "PairSymbolsModel" "rowAbove") ∈ lw_tbl := List.mem_of_getElem? (i := 859) (by decide +kernel)
theorem q_772 : (Jvm.Cond.laysFinal "PairSymbolsModel" "PairSymbolsModel" "rowBelow" "[J") ∈ lw_tbl := List.mem_of_getElem? (i := 860) (by decide +kernel)
theorem q_773 : (Jvm.Cond.soleField "PairSymbolsModel" "rowBelow") ∈ lw_tbl := List.mem_of_getElem? (i := 861) (by decide +kernel)
theorem q_774 : (Jvm.Cond.laysFinal "PairSymbolsModel" "PairSymbolsModel" "tableAbove" "[J") ∈ lw_tbl := List.mem_of_getElem? (i := 862) (by decide +kernel)
theorem q_775 : (Jvm.Cond.soleField "PairSymbolsModel" "tableAbove") ∈ lw_tbl := List.mem_of_getElem? (i := 863) (by decide +kernel)
theorem q_776 : (Jvm.Cond.laysFinal "PairSymbolsModel" "PairSymbolsModel" "tableBelow" "[J") ∈ lw_tbl := List.mem_of_getElem? (i := 864) (by decide +kernel)
theorem q_777 : (Jvm.Cond.soleField "PairSymbolsModel" "tableBelow") ∈ lw_tbl := List.mem_of_getElem? (i := 865) (by decide +kernel)
theorem q_778 : (Jvm.Cond.lays "PairSymbolsModel" "PairSymbolsModel" "cuspidals" "I") ∈ lw_tbl := List.mem_of_getElem? (i := 866) (by decide +kernel)
theorem q_779 : (Jvm.Cond.soleField "PairSymbolsModel" "cuspidals") ∈ lw_tbl := List.mem_of_getElem? (i := 867) (by decide +kernel)
theorem q_780 : (Jvm.Cond.laysFinal "PairSymbolsModel" "PairSymbolsModel" "chosen" "[I") ∈ lw_tbl := List.mem_of_getElem? (i := 868) (by decide +kernel)
theorem q_781 : (Jvm.Cond.soleField "PairSymbolsModel" "chosen") ∈ lw_tbl := List.mem_of_getElem? (i := 869) (by decide +kernel)
theorem q_782 : (Jvm.Cond.laysFinal "PairSymbolsModel" "PairSymbolsModel" "sumsAbove" "[J") ∈ lw_tbl := List.mem_of_getElem? (i := 870) (by decide +kernel)
theorem q_783 : (Jvm.Cond.soleField "PairSymbolsModel" "sumsAbove") ∈ lw_tbl := List.mem_of_getElem? (i := 871) (by decide +kernel)
theorem q_784 : (Jvm.Cond.laysFinal "PairSymbolsModel" "PairSymbolsModel" "sumsBelow" "[J") ∈ lw_tbl := List.mem_of_getElem? (i := 872) (by decide +kernel)
theorem q_785 : (Jvm.Cond.soleField "PairSymbolsModel" "sumsBelow") ∈ lw_tbl := List.mem_of_getElem? (i := 873) (by decide +kernel)
theorem q_786 : (Jvm.Cond.laysFinal "PairSymbolsModel" "PairSymbolsModel" "leads" "[I") ∈ lw_tbl := List.mem_of_getElem? (i := 874) (by decide +kernel)
theorem q_787 : (Jvm.Cond.soleField "PairSymbolsModel" "leads") ∈ lw_tbl := List.mem_of_getElem? (i := 875) (by decide +kernel)
theorem q_788 : (Jvm.Cond.laysFinal "PairSymbolsModel" "PairSymbolsModel" "imageAbove" "[J") ∈ lw_tbl := List.mem_of_getElem? (i := 876) (by decide +kernel)
theorem q_789 : (Jvm.Cond.soleField "PairSymbolsModel" "imageAbove") ∈ lw_tbl := List.mem_of_getElem? (i := 877) (by decide +kernel)
theorem q_790 : (Jvm.Cond.laysFinal "PairSymbolsModel" "PairSymbolsModel" "imageBelow" "[J") ∈ lw_tbl := List.mem_of_getElem? (i := 878) (by decide +kernel)
theorem q_791 : (Jvm.Cond.soleField "PairSymbolsModel" "imageBelow") ∈ lw_tbl := List.mem_of_getElem? (i := 879) (by decide +kernel)
theorem q_792 : (Jvm.Cond.laysFinal "PairSymbolsModel" "PairSymbolsModel" "actsAbove" "[J") ∈ lw_tbl := List.mem_of_getElem? (i := 880) (by decide +kernel)
theorem q_793 : (Jvm.Cond.soleField "PairSymbolsModel" "actsAbove") ∈ lw_tbl := List.mem_of_getElem? (i := 881) (by decide +kernel)
theorem q_794 : (Jvm.Cond.laysFinal "PairSymbolsModel" "PairSymbolsModel" "actsBelow" "[J") ∈ lw_tbl := List.mem_of_getElem? (i := 882) (by decide +kernel)
theorem q_795 : (Jvm.Cond.soleField "PairSymbolsModel" "actsBelow") ∈ lw_tbl := List.mem_of_getElem? (i := 883) (by decide +kernel)
theorem q_796 : (Jvm.Cond.lays "PairSymbolsModel" "PairSymbolsModel" "wide" "I") ∈ lw_tbl := List.mem_of_getElem? (i := 884) (by decide +kernel)
theorem q_797 : (Jvm.Cond.soleField "PairSymbolsModel" "wide") ∈ lw_tbl := List.mem_of_getElem? (i := 885) (by decide +kernel)
theorem q_798 : (Jvm.Cond.laysFinal "PairSymbolsModel" "PairSymbolsModel" "powerAbove" "[J") ∈ lw_tbl := List.mem_of_getElem? (i := 886) (by decide +kernel)
theorem q_799 : (Jvm.Cond.soleField "PairSymbolsModel" "powerAbove") ∈ lw_tbl := List.mem_of_getElem? (i := 887) (by decide +kernel)
theorem q_800 : (Jvm.Cond.laysFinal "PairSymbolsModel" "PairSymbolsModel" "powerBelow" "[J") ∈ lw_tbl := List.mem_of_getElem? (i := 888) (by decide +kernel)
theorem q_801 : (Jvm.Cond.soleField "PairSymbolsModel" "powerBelow") ∈ lw_tbl := List.mem_of_getElem? (i := 889) (by decide +kernel)
theorem q_802 : (Jvm.Cond.laysFinal "PairSymbolsModel" "PairSymbolsModel" "nextAbove" "[J") ∈ lw_tbl := List.mem_of_getElem? (i := 890) (by decide +kernel)
theorem q_803 : (Jvm.Cond.soleField "PairSymbolsModel" "nextAbove") ∈ lw_tbl := List.mem_of_getElem? (i := 891) (by decide +kernel)
theorem q_804 : (Jvm.Cond.laysFinal "PairSymbolsModel" "PairSymbolsModel" "nextBelow" "[J") ∈ lw_tbl := List.mem_of_getElem? (i := 892) (by decide +kernel)
theorem q_805 : (Jvm.Cond.soleField "PairSymbolsModel" "nextBelow") ∈ lw_tbl := List.mem_of_getElem? (i := 893) (by decide +kernel)
theorem q_806 : (Jvm.Cond.laysFinal "PairSymbolsModel" "PairSymbolsModel" "numbers" "[J") ∈ lw_tbl := List.mem_of_getElem? (i := 894) (by decide +kernel)
theorem q_807 : (Jvm.Cond.soleField "PairSymbolsModel" "numbers") ∈ lw_tbl := List.mem_of_getElem? (i := 895) (by decide +kernel)
theorem q_808 : (Jvm.Cond.laysFinal "PairSymbolsModel" "PairSymbolsModel" "fresh" "[I") ∈ lw_tbl := List.mem_of_getElem? (i := 896) (by decide +kernel)
theorem q_809 : (Jvm.Cond.soleField "PairSymbolsModel" "fresh") ∈ lw_tbl := List.mem_of_getElem? (i := 897) (by decide +kernel)
theorem q_810 : (Jvm.Cond.laysFinal "PairSymbolsModel" "PairSymbolsModel" "thenAbove" "[J") ∈ lw_tbl := List.mem_of_getElem? (i := 898) (by decide +kernel)
theorem q_811 : (Jvm.Cond.soleField "PairSymbolsModel" "thenAbove") ∈ lw_tbl := List.mem_of_getElem? (i := 899) (by decide +kernel)
theorem q_812 : (Jvm.Cond.laysFinal "PairSymbolsModel" "PairSymbolsModel" "thenBelow" "[J") ∈ lw_tbl := List.mem_of_getElem? (i := 900) (by decide +kernel)
theorem q_813 : (Jvm.Cond.soleField "PairSymbolsModel" "thenBelow") ∈ lw_tbl := List.mem_of_getElem? (i := 901) (by decide +kernel)
theorem q_814 : (Jvm.Cond.laysFinal "PairSymbolsModel" "PairSymbolsModel" "text" "[I") ∈ lw_tbl := List.mem_of_getElem? (i := 902) (by decide +kernel)
theorem q_815 : (Jvm.Cond.soleField "PairSymbolsModel" "text") ∈ lw_tbl := List.mem_of_getElem? (i := 903) (by decide +kernel)
theorem q_816 : (Jvm.Cond.lays "PairSymbolsModel" "PairSymbolsModel" "textLong" "I") ∈ lw_tbl := List.mem_of_getElem? (i := 904) (by decide +kernel)
theorem q_817 : (Jvm.Cond.soleField "PairSymbolsModel" "textLong") ∈ lw_tbl := List.mem_of_getElem? (i := 905) (by decide +kernel)
theorem q_818 : (Jvm.Cond.lays "PairSymbolsModel" "PairSymbolsModel" "place" "I") ∈ lw_tbl := List.mem_of_getElem? (i := 906) (by decide +kernel)
theorem q_819 : (Jvm.Cond.soleField "PairSymbolsModel" "place") ∈ lw_tbl := List.mem_of_getElem? (i := 907) (by decide +kernel)
theorem q_820 : (Jvm.Cond.lays "PairSymbolsModel" "PairSymbolsModel" "value" "I") ∈ lw_tbl := List.mem_of_getElem? (i := 908) (by decide +kernel)
theorem q_821 : (Jvm.Cond.soleField "PairSymbolsModel" "value") ∈ lw_tbl := List.mem_of_getElem? (i := 909) (by decide +kernel)
theorem q_822 : (Jvm.Cond.lays "PairSymbolsModel" "PairSymbolsModel" "first" "I") ∈ lw_tbl := List.mem_of_getElem? (i := 910) (by decide +kernel)
theorem q_823 : (Jvm.Cond.soleField "PairSymbolsModel" "first") ∈ lw_tbl := List.mem_of_getElem? (i := 911) (by decide +kernel)
theorem q_824 : (Jvm.Cond.lays "PairSymbolsModel" "PairSymbolsModel" "second" "I") ∈ lw_tbl := List.mem_of_getElem? (i := 912) (by decide +kernel)
theorem q_825 : (Jvm.Cond.soleField "PairSymbolsModel" "second") ∈ lw_tbl := List.mem_of_getElem? (i := 913) (by decide +kernel)
theorem q_826 : (Jvm.Cond.lays "PairSymbolsModel" "PairSymbolsModel" "not" "I") ∈ lw_tbl := List.mem_of_getElem? (i := 914) (by decide +kernel)
theorem q_827 : (Jvm.Cond.soleField "PairSymbolsModel" "not") ∈ lw_tbl := List.mem_of_getElem? (i := 915) (by decide +kernel)
theorem q_828 : (Jvm.Cond.superclass "PairSymbolsModel" "java/lang/Object") ∈ lw_tbl := List.mem_of_getElem? (i := 916) (by decide +kernel)
theorem q_829 : (Jvm.Cond.methodLink "PairSymbolsLaw" (17 : Nat) ({ cls := "PairSymbolsModel", name := "level", desc := "(I)I" } : Jvm.MethodName)) ∈ lw_tbl := List.mem_of_getElem? (i := 917) (by decide +kernel)
theorem q_830 : (Jvm.Cond.instanceMethod ({ cls := "PairSymbolsModel", name := "level", desc := "(I)I" } : Jvm.MethodName)) ∈ lw_tbl := List.mem_of_getElem? (i := 918) (by decide +kernel)
theorem q_831 : (Jvm.Cond.selects "PairSymbolsModel" ({ cls := "PairSymbolsModel", name := "level", desc := "(I)I" } : Jvm.MethodName) ({ cls := "PairSymbolsModel", name := "level", desc := "(I)I" } : Jvm.MethodName)) ∈ lw_tbl := List.mem_of_getElem? (i := 919) (by decide +kernel)
theorem q_832 : (Jvm.Cond.code ({ cls := "PairSymbolsModel", name := "level", desc := "(I)I" } : Jvm.MethodName) prog_12_method_34_code (2 : Nat) (Option.some Jvm.ClassFile.FieldType.int)) ∈ lw_tbl := List.mem_of_getElem? (i := 920) (by decide +kernel)
theorem q_833 : (Jvm.Cond.constantLong "PairSymbolsModel" (234 : Nat) (25 : Int64)) ∈ lw_tbl := List.mem_of_getElem? (i := 921) (by decide +kernel)
theorem q_834 : (Jvm.Cond.methodLink "PairSymbolsModel" (236 : Nat) ({ cls := "PairSymbolsModel", name := "in", desc := "(JJJ)Z" } : Jvm.MethodName)) ∈ lw_tbl := List.mem_of_getElem? (i := 922) (by decide +kernel)
theorem q_835 : (Jvm.Cond.static ({ cls := "PairSymbolsModel", name := "in", desc := "(JJJ)Z" } : Jvm.MethodName)) ∈ lw_tbl := List.mem_of_getElem? (i := 923) (by decide +kernel)
theorem q_836 : (Jvm.Cond.code ({ cls := "PairSymbolsModel", name := "in", desc := "(JJJ)Z" } : Jvm.MethodName) prog_12_method_3_code (6 : Nat) (Option.some Jvm.ClassFile.FieldType.boolean)) ∈ lw_tbl := List.mem_of_getElem? (i := 924) (by decide +kernel)
theorem q_837 : (Jvm.Cond.methodLink "PairSymbolsModel" (240 : Nat) ({ cls := "PairSymbolsModel", name := "refuses", desc := "(I)I" } : Jvm.MethodName)) ∈ lw_tbl := List.mem_of_getElem? (i := 925) (by decide +kernel)
theorem q_838 : (Jvm.Cond.privateMethod ({ cls := "PairSymbolsModel", name := "refuses", desc := "(I)I" } : Jvm.MethodName)) ∈ lw_tbl := List.mem_of_getElem? (i := 926) (by decide +kernel)
theorem q_839 : (Jvm.Cond.instanceMethod ({ cls := "PairSymbolsModel", name := "refuses", desc := "(I)I" } : Jvm.MethodName)) ∈ lw_tbl := List.mem_of_getElem? (i := 927) (by decide +kernel)
theorem q_840 : (Jvm.Cond.code ({ cls := "PairSymbolsModel", name := "refuses", desc := "(I)I" } : Jvm.MethodName) prog_12_method_4_code (2 : Nat) (Option.some Jvm.ClassFile.FieldType.int)) ∈ lw_tbl := List.mem_of_getElem? (i := 928) (by decide +kernel)
theorem q_841 : (Jvm.Cond.methodLink "PairSymbolsModel" (243 : Nat) ({ cls := "PairSymbolsModel", name := "keep", desc := "()V" } : Jvm.MethodName)) ∈ lw_tbl := List.mem_of_getElem? (i := 929) (by decide +kernel)
theorem q_842 : (Jvm.Cond.privateMethod ({ cls := "PairSymbolsModel", name := "keep", desc := "()V" } : Jvm.MethodName)) ∈ lw_tbl := List.mem_of_getElem? (i := 930) (by decide +kernel)
theorem q_843 : (Jvm.Cond.instanceMethod ({ cls := "PairSymbolsModel", name := "keep", desc := "()V" } : Jvm.MethodName)) ∈ lw_tbl := List.mem_of_getElem? (i := 931) (by decide +kernel)
theorem q_844 : (Jvm.Cond.code ({ cls := "PairSymbolsModel", name := "keep", desc := "()V" } : Jvm.MethodName) prog_12_method_6_code (2 : Nat) (Option.none : Option Jvm.ClassFile.FieldType)) ∈ lw_tbl := List.mem_of_getElem? (i := 932) (by decide +kernel)
theorem q_845 : (Jvm.Cond.methodLink "PairSymbolsModel" (246 : Nat) ({ cls := "PairSymbolsModel", name := "levelNow", desc := "(I)I" } : Jvm.MethodName)) ∈ lw_tbl := List.mem_of_getElem? (i := 933) (by decide +kernel)
theorem q_846 : (Jvm.Cond.privateMethod ({ cls := "PairSymbolsModel", name := "levelNow", desc := "(I)I" } : Jvm.MethodName)) ∈ lw_tbl := List.mem_of_getElem? (i := 934) (by decide +kernel)
theorem q_847 : (Jvm.Cond.instanceMethod ({ cls := "PairSymbolsModel", name := "levelNow", desc := "(I)I" } : Jvm.MethodName)) ∈ lw_tbl := List.mem_of_getElem? (i := 935) (by decide +kernel)
theorem q_848 : (Jvm.Cond.code ({ cls := "PairSymbolsModel", name := "levelNow", desc := "(I)I" } : Jvm.MethodName) prog_12_method_35_code (3 : Nat) (Option.some Jvm.ClassFile.FieldType.int)) ∈ lw_tbl := List.mem_of_getElem? (i := 936) (by decide +kernel)
theorem q_849 : (Jvm.Cond.methodLink "PairSymbolsModel" (148 : Nat) ({ cls := "PairSymbolsModel", name := "levelHere", desc := "()I" } : Jvm.MethodName)) ∈ lw_tbl := List.mem_of_getElem? (i := 937) (by decide +kernel)
theorem q_850 : (Jvm.Cond.privateMethod ({ cls := "PairSymbolsModel", name := "levelHere", desc := "()I" } : Jvm.MethodName)) ∈ lw_tbl := List.mem_of_getElem? (i := 938) (by decide +kernel)
theorem q_851 : (Jvm.Cond.instanceMethod ({ cls := "PairSymbolsModel", name := "levelHere", desc := "()I" } : Jvm.MethodName)) ∈ lw_tbl := List.mem_of_getElem? (i := 939) (by decide +kernel)
theorem q_852 : (Jvm.Cond.code ({ cls := "PairSymbolsModel", name := "levelHere", desc := "()I" } : Jvm.MethodName) prog_12_method_7_code (1 : Nat) (Option.some Jvm.ClassFile.FieldType.int)) ∈ lw_tbl := List.mem_of_getElem? (i := 940) (by decide +kernel)
theorem q_853 : (Jvm.Cond.methodLink "PairSymbolsLaw" (22 : Nat) ({ cls := "PairSymbolsModel", name := "symbols", desc := "()I" } : Jvm.MethodName)) ∈ lw_tbl := List.mem_of_getElem? (i := 941) (by decide +kernel)
theorem q_854 : (Jvm.Cond.instanceMethod ({ cls := "PairSymbolsModel", name := "symbols", desc := "()I" } : Jvm.MethodName)) ∈ lw_tbl := List.mem_of_getElem? (i := 942) (by decide +kernel)
theorem q_855 : (Jvm.Cond.selects "PairSymbolsModel" ({ cls := "PairSymbolsModel", name := "symbols", desc := "()I" } : Jvm.MethodName) ({ cls := "PairSymbolsModel", name := "symbols", desc := "()I" } : Jvm.MethodName)) ∈ lw_tbl := List.mem_of_getElem? (i := 943) (by decide +kernel)
theorem q_856 : (Jvm.Cond.code ({ cls := "PairSymbolsModel", name := "symbols", desc := "()I" } : Jvm.MethodName) prog_12_method_36_code (1 : Nat) (Option.some Jvm.ClassFile.FieldType.int)) ∈ lw_tbl := List.mem_of_getElem? (i := 944) (by decide +kernel)
theorem q_857 : (Jvm.Cond.methodLink "PairSymbolsModel" (249 : Nat) ({ cls := "PairSymbolsModel", name := "lays", desc := "()V" } : Jvm.MethodName)) ∈ lw_tbl := List.mem_of_getElem? (i := 945) (by decide +kernel)
theorem q_858 : (Jvm.Cond.privateMethod ({ cls := "PairSymbolsModel", name := "lays", desc := "()V" } : Jvm.MethodName)) ∈ lw_tbl := List.mem_of_getElem? (i := 946) (by decide +kernel)
theorem q_859 : (Jvm.Cond.instanceMethod ({ cls := "PairSymbolsModel", name := "lays", desc := "()V" } : Jvm.MethodName)) ∈ lw_tbl := List.mem_of_getElem? (i := 947) (by decide +kernel)
theorem q_860 : (Jvm.Cond.code ({ cls := "PairSymbolsModel", name := "lays", desc := "()V" } : Jvm.MethodName) prog_12_method_27_code (3 : Nat) (Option.none : Option Jvm.ClassFile.FieldType)) ∈ lw_tbl := List.mem_of_getElem? (i := 948) (by decide +kernel)
theorem q_861 : (Jvm.Cond.methodLink "PairSymbolsModel" (198 : Nat) ({ cls := "PairSymbolsModel", name := "isPai\x72", desc := "(II)Z" } : Jvm.MethodName)) ∈ lw_tbl := List.mem_of_getElem? (i := 949) (by decide +kernel)
theorem q_862 : (Jvm.Cond.privateMethod ({ cls := "PairSymbolsModel", name := "isPai\x72", desc := "(II)Z" } : Jvm.MethodName)) ∈ lw_tbl := List.mem_of_getElem? (i := 950) (by decide +kernel)
theorem q_863 : (Jvm.Cond.instanceMethod ({ cls := "PairSymbolsModel", name := "isPai\x72", desc := "(II)Z" } : Jvm.MethodName)) ∈ lw_tbl := List.mem_of_getElem? (i := 951) (by decide +kernel)
theorem q_864 : (Jvm.Cond.code ({ cls := "PairSymbolsModel", name := "isPai\x72", desc := "(II)Z" } : Jvm.MethodName) prog_12_method_15_code (3 : Nat) (Option.some Jvm.ClassFile.FieldType.boolean)) ∈ lw_tbl := List.mem_of_getElem? (i := 952) (by decide +kernel)
theorem q_865 : (Jvm.Cond.methodLink "PairSymbolsModel" (129 : Nat) ({ cls := "PairSymbolsModel", name := "diviso\x72", desc := "(JJ)J" } : Jvm.MethodName)) ∈ lw_tbl := List.mem_of_getElem? (i := 953) (by decide +kernel)
theorem q_866 : (Jvm.Cond.static ({ cls := "PairSymbolsModel", name := "diviso\x72", desc := "(JJ)J" } : Jvm.MethodName)) ∈ lw_tbl := List.mem_of_getElem? (i := 954) (by decide +kernel)
theorem q_867 : (Jvm.Cond.code ({ cls := "PairSymbolsModel", name := "diviso\x72", desc := "(JJ)J" } : Jvm.MethodName) prog_12_method_9_code (10 : Nat) (Option.some Jvm.ClassFile.FieldType.long)) ∈ lw_tbl := List.mem_of_getElem? (i := 955) (by decide +kernel)
theorem q_868 : (Jvm.Cond.methodLink "PairSymbolsModel" (159 : Nat) ({ cls := "PairSymbolsModel", name := "of", desc := "(II)I" } : Jvm.MethodName)) ∈ lw_tbl := List.mem_of_getElem? (i := 956) (by decide +kernel)
theorem q_869 : (Jvm.Cond.privateMethod ({ cls := "PairSymbolsModel", name := "of", desc := "(II)I" } : Jvm.MethodName)) ∈ lw_tbl := List.mem_of_getElem? (i := 957) (by decide +kernel)
theorem q_870 : (Jvm.Cond.instanceMethod ({ cls := "PairSymbolsModel", name := "of", desc := "(II)I" } : Jvm.MethodName)) ∈ lw_tbl := List.mem_of_getElem? (i := 958) (by decide +kernel)
theorem q_871 : (Jvm.Cond.code ({ cls := "PairSymbolsModel", name := "of", desc := "(II)I" } : Jvm.MethodName) prog_12_method_14_code (4 : Nat) (Option.some Jvm.ClassFile.FieldType.int)) ∈ lw_tbl := List.mem_of_getElem? (i := 959) (by decide +kernel)
theorem q_872 : (Jvm.Cond.methodLink "PairSymbolsModel" (152 : Nat) ({ cls := "PairSymbolsModel", name := "ove\x72", desc := "(II)I" } : Jvm.MethodName)) ∈ lw_tbl := List.mem_of_getElem? (i := 960) (by decide +kernel)
theorem q_873 : (Jvm.Cond.static ({ cls := "PairSymbolsModel", name := "ove\x72", desc := "(II)I" } : Jvm.MethodName)) ∈ lw_tbl := List.mem_of_getElem? (i := 961) (by decide +kernel)
theorem q_874 : (Jvm.Cond.code ({ cls := "PairSymbolsModel", name := "ove\x72", desc := "(II)I" } : Jvm.MethodName) prog_12_method_13_code (3 : Nat) (Option.some Jvm.ClassFile.FieldType.int)) ∈ lw_tbl := List.mem_of_getElem? (i := 962) (by decide +kernel)
theorem q_875 : (Jvm.Cond.methodLink "PairSymbolsModel" (202 : Nat) ({ cls := "PairSymbolsModel", name := "countsIn", desc := "(II)V" } : Jvm.MethodName)) ∈ lw_tbl := List.mem_of_getElem? (i := 963) (by decide +kernel)
theorem q_876 : (Jvm.Cond.privateMethod ({ cls := "PairSymbolsModel", name := "countsIn", desc := "(II)V" } : Jvm.MethodName)) ∈ lw_tbl := List.mem_of_getElem? (i := 964) (by decide +kernel)
theorem q_877 : (Jvm.Cond.instanceMethod ({ cls := "PairSymbolsModel", name := "countsIn", desc := "(II)V" } : Jvm.MethodName)) ∈ lw_tbl := List.mem_of_getElem? (i := 965) (by decide +kernel)
theorem q_878 : (Jvm.Cond.code ({ cls := "PairSymbolsModel", name := "countsIn", desc := "(II)V" } : Jvm.MethodName) prog_12_method_16_code (5 : Nat) (Option.none : Option Jvm.ClassFile.FieldType)) ∈ lw_tbl := List.mem_of_getElem? (i := 966) (by decide +kernel)
theorem q_879 : (Jvm.Cond.methodLink "PairSymbolsModel" (206 : Nat) ({ cls := "PairSymbolsModel", name := "laysCusps", desc := "()V" } : Jvm.MethodName)) ∈ lw_tbl := List.mem_of_getElem? (i := 967) (by decide +kernel)
theorem q_880 : (Jvm.Cond.privateMethod ({ cls := "PairSymbolsModel", name := "laysCusps", desc := "()V" } : Jvm.MethodName)) ∈ lw_tbl := List.mem_of_getElem? (i := 968) (by decide +kernel)
theorem q_881 : (Jvm.Cond.instanceMethod ({ cls := "PairSymbolsModel", name := "laysCusps", desc := "()V" } : Jvm.MethodName)) ∈ lw_tbl := List.mem_of_getElem? (i := 969) (by decide +kernel)
theorem q_882 : (Jvm.Cond.code ({ cls := "PairSymbolsModel", name := "laysCusps", desc := "()V" } : Jvm.MethodName) prog_12_method_20_code (3 : Nat) (Option.none : Option Jvm.ClassFile.FieldType)) ∈ lw_tbl := List.mem_of_getElem? (i := 970) (by decide +kernel)
theorem q_883 : (Jvm.Cond.methodLink "PairSymbolsModel" (165 : Nat) ({ cls := "PairSymbolsModel", name := "u", desc := "(I)I" } : Jvm.MethodName)) ∈ lw_tbl := List.mem_of_getElem? (i := 971) (by decide +kernel)
theorem q_884 : (Jvm.Cond.privateMethod ({ cls := "PairSymbolsModel", name := "u", desc := "(I)I" } : Jvm.MethodName)) ∈ lw_tbl := List.mem_of_getElem? (i := 972) (by decide +kernel)
theorem q_885 : (Jvm.Cond.instanceMethod ({ cls := "PairSymbolsModel", name := "u", desc := "(I)I" } : Jvm.MethodName)) ∈ lw_tbl := List.mem_of_getElem? (i := 973) (by decide +kernel)
theorem q_886 : (Jvm.Cond.code ({ cls := "PairSymbolsModel", name := "u", desc := "(I)I" } : Jvm.MethodName) prog_12_method_19_code (2 : Nat) (Option.some Jvm.ClassFile.FieldType.int)) ∈ lw_tbl := List.mem_of_getElem? (i := 974) (by decide +kernel)
theorem q_887 : (Jvm.Cond.methodLink "PairSymbolsModel" (209 : Nat) ({ cls := "PairSymbolsModel", name := "laysRelations", desc := "()V" } : Jvm.MethodName)) ∈ lw_tbl := List.mem_of_getElem? (i := 975) (by decide +kernel)
theorem q_888 : (Jvm.Cond.privateMethod ({ cls := "PairSymbolsModel", name := "laysRelations", desc := "()V" } : Jvm.MethodName)) ∈ lw_tbl := List.mem_of_getElem? (i := 976) (by decide +kernel)
theorem q_889 : (Jvm.Cond.instanceMethod ({ cls := "PairSymbolsModel", name := "laysRelations", desc := "()V" } : Jvm.MethodName)) ∈ lw_tbl := List.mem_of_getElem? (i := 977) (by decide +kernel)
theorem q_890 : (Jvm.Cond.code ({ cls := "PairSymbolsModel", name := "laysRelations", desc := "()V" } : Jvm.MethodName) prog_12_method_25_code (2 : Nat) (Option.none : Option Jvm.ClassFile.FieldType)) ∈ lw_tbl := List.mem_of_getElem? (i := 978) (by decide +kernel)
theorem q_891 : (Jvm.Cond.methodLink "PairSymbolsModel" (176 : Nat) ({ cls := "PairSymbolsModel", name := "emptiesRow", desc := "()V" } : Jvm.MethodName)) ∈ lw_tbl := List.mem_of_getElem? (i := 979) (by decide +kernel)
theorem q_892 : (Jvm.Cond.privateMethod ({ cls := "PairSymbolsModel", name := "emptiesRow", desc := "()V" } : Jvm.MethodName)) ∈ lw_tbl := List.mem_of_getElem? (i := 980) (by decide +kernel)
theorem q_893 : (Jvm.Cond.instanceMethod ({ cls := "PairSymbolsModel", name := "emptiesRow", desc := "()V" } : Jvm.MethodName)) ∈ lw_tbl := List.mem_of_getElem? (i := 981) (by decide +kernel)
theorem q_894 : (Jvm.Cond.code ({ cls := "PairSymbolsModel", name := "emptiesRow", desc := "()V" } : Jvm.MethodName) prog_12_method_21_code (2 : Nat) (Option.none : Option Jvm.ClassFile.FieldType)) ∈ lw_tbl := List.mem_of_getElem? (i := 982) (by decide +kernel)
theorem q_895 : (Jvm.Cond.methodLink "PairSymbolsModel" (179 : Nat) ({ cls := "PairSymbolsModel", name := "addsOne", desc := "(I)V" } : Jvm.MethodName)) ∈ lw_tbl := List.mem_of_getElem? (i := 983) (by decide +kernel)
theorem q_896 : (Jvm.Cond.privateMethod ({ cls := "PairSymbolsModel", name := "addsOne", desc := "(I)V" } : Jvm.MethodName)) ∈ lw_tbl := List.mem_of_getElem? (i := 984) (by decide +kernel)
theorem q_897 : (Jvm.Cond.instanceMethod ({ cls := "PairSymbolsModel", name := "addsOne", desc := "(I)V" } : Jvm.MethodName)) ∈ lw_tbl := List.mem_of_getElem? (i := 985) (by decide +kernel)
theorem q_898 : (Jvm.Cond.code ({ cls := "PairSymbolsModel", name := "addsOne", desc := "(I)V" } : Jvm.MethodName) prog_12_method_22_code (2 : Nat) (Option.none : Option Jvm.ClassFile.FieldType)) ∈ lw_tbl := List.mem_of_getElem? (i := 986) (by decide +kernel)
theorem q_899 : (Jvm.Cond.methodLink "PairSymbolsModel" (144 : Nat) ({ cls := "PairSymbolsModel", name := "sumOf", desc := "(JJJJ)V" } : Jvm.MethodName)) ∈ lw_tbl := List.mem_of_getElem? (i := 987) (by decide +kernel)
theorem q_900 : (Jvm.Cond.privateMethod ({ cls := "PairSymbolsModel", name := "sumOf", desc := "(JJJJ)V" } : Jvm.MethodName)) ∈ lw_tbl := List.mem_of_getElem? (i := 988) (by decide +kernel)
theorem q_901 : (Jvm.Cond.instanceMethod ({ cls := "PairSymbolsModel", name := "sumOf", desc := "(JJJJ)V" } : Jvm.MethodName)) ∈ lw_tbl := List.mem_of_getElem? (i := 989) (by decide +kernel)
theorem q_902 : (Jvm.Cond.code ({ cls := "PairSymbolsModel", name := "sumOf", desc := "(JJJJ)V" } : Jvm.MethodName) prog_12_method_11_code (9 : Nat) (Option.none : Option Jvm.ClassFile.FieldType)) ∈ lw_tbl := List.mem_of_getElem? (i := 990) (by decide +kernel)
theorem q_903 : (Jvm.Cond.methodLink "PairSymbolsModel" (140 : Nat) ({ cls := "PairSymbolsModel", name := "lowest", desc := "(JJ)V" } : Jvm.MethodName)) ∈ lw_tbl := List.mem_of_getElem? (i := 991) (by decide +kernel)
theorem q_904 : (Jvm.Cond.privateMethod ({ cls := "PairSymbolsModel", name := "lowest", desc := "(JJ)V" } : Jvm.MethodName)) ∈ lw_tbl := List.mem_of_getElem? (i := 992) (by decide +kernel)
theorem q_905 : (Jvm.Cond.instanceMethod ({ cls := "PairSymbolsModel", name := "lowest", desc := "(JJ)V" } : Jvm.MethodName)) ∈ lw_tbl := List.mem_of_getElem? (i := 993) (by decide +kernel)
theorem q_906 : (Jvm.Cond.code ({ cls := "PairSymbolsModel", name := "lowest", desc := "(JJ)V" } : Jvm.MethodName) prog_12_method_10_code (7 : Nat) (Option.none : Option Jvm.ClassFile.FieldType)) ∈ lw_tbl := List.mem_of_getElem? (i := 994) (by decide +kernel)
theorem q_907 : (Jvm.Cond.methodLink "PairSymbolsModel" (183 : Nat) ({ cls := "PairSymbolsModel", name := "s", desc := "(I)I" } : Jvm.MethodName)) ∈ lw_tbl := List.mem_of_getElem? (i := 995) (by decide +kernel)
theorem q_908 : (Jvm.Cond.privateMethod ({ cls := "PairSymbolsModel", name := "s", desc := "(I)I" } : Jvm.MethodName)) ∈ lw_tbl := List.mem_of_getElem? (i := 996) (by decide +kernel)
theorem q_909 : (Jvm.Cond.instanceMethod ({ cls := "PairSymbolsModel", name := "s", desc := "(I)I" } : Jvm.MethodName)) ∈ lw_tbl := List.mem_of_getElem? (i := 997) (by decide +kernel)
theorem q_910 : (Jvm.Cond.code ({ cls := "PairSymbolsModel", name := "s", desc := "(I)I" } : Jvm.MethodName) prog_12_method_17_code (2 : Nat) (Option.some Jvm.ClassFile.FieldType.int)) ∈ lw_tbl := List.mem_of_getElem? (i := 998) (by decide +kernel)
theorem q_911 : (Jvm.Cond.methodLink "PairSymbolsModel" (186 : Nat) ({ cls := "PairSymbolsModel", name := "relates", desc := "()V" } : Jvm.MethodName)) ∈ lw_tbl := List.mem_of_getElem? (i := 999) (by decide +kernel)
theorem q_912 : (Jvm.Cond.privateMethod ({ cls := "PairSymbolsModel", name := "relates", desc := "()V" } : Jvm.MethodName)) ∈ lw_tbl := List.mem_of_getElem? (i := 1000) (by decide +kernel)
theorem q_913 : (Jvm.Cond.instanceMethod ({ cls := "PairSymbolsModel", name := "relates", desc := "()V" } : Jvm.MethodName)) ∈ lw_tbl := List.mem_of_getElem? (i := 1001) (by decide +kernel)
theorem q_914 : (Jvm.Cond.code ({ cls := "PairSymbolsModel", name := "relates", desc := "()V" } : Jvm.MethodName) prog_12_method_24_code (3 : Nat) (Option.none : Option Jvm.ClassFile.FieldType)) ∈ lw_tbl := List.mem_of_getElem? (i := 1002) (by decide +kernel)
theorem q_915 : (Jvm.Cond.methodLink "PairSymbolsModel" (173 : Nat) ({ cls := "PairSymbolsModel", name := "lowers", desc := "()V" } : Jvm.MethodName)) ∈ lw_tbl := List.mem_of_getElem? (i := 1003) (by decide +kernel)
theorem q_916 : (Jvm.Cond.privateMethod ({ cls := "PairSymbolsModel", name := "lowers", desc := "()V" } : Jvm.MethodName)) ∈ lw_tbl := List.mem_of_getElem? (i := 1004) (by decide +kernel)
theorem q_917 : (Jvm.Cond.instanceMethod ({ cls := "PairSymbolsModel", name := "lowers", desc := "()V" } : Jvm.MethodName)) ∈ lw_tbl := List.mem_of_getElem? (i := 1005) (by decide +kernel)
theorem q_918 : (Jvm.Cond.code ({ cls := "PairSymbolsModel", name := "lowers", desc := "()V" } : Jvm.MethodName) prog_12_method_23_code (8 : Nat) (Option.none : Option Jvm.ClassFile.FieldType)) ∈ lw_tbl := List.mem_of_getElem? (i := 1006) (by decide +kernel)
theorem q_919 : (Jvm.Cond.methodLink "PairSymbolsModel" (169 : Nat) ({ cls := "PairSymbolsModel", name := "more", desc := "(JJJJJJ)V" } : Jvm.MethodName)) ∈ lw_tbl := List.mem_of_getElem? (i := 1007) (by decide +kernel)
theorem q_920 : (Jvm.Cond.privateMethod ({ cls := "PairSymbolsModel", name := "more", desc := "(JJJJJJ)V" } : Jvm.MethodName)) ∈ lw_tbl := List.mem_of_getElem? (i := 1008) (by decide +kernel)
theorem q_921 : (Jvm.Cond.instanceMethod ({ cls := "PairSymbolsModel", name := "more", desc := "(JJJJJJ)V" } : Jvm.MethodName)) ∈ lw_tbl := List.mem_of_getElem? (i := 1009) (by decide +kernel)
theorem q_922 : (Jvm.Cond.code ({ cls := "PairSymbolsModel", name := "more", desc := "(JJJJJJ)V" } : Jvm.MethodName) prog_12_method_12_code (13 : Nat) (Option.none : Option Jvm.ClassFile.FieldType)) ∈ lw_tbl := List.mem_of_getElem? (i := 1010) (by decide +kernel)
theorem q_923 : (Jvm.Cond.methodLink "PairSymbolsModel" (189 : Nat) ({ cls := "PairSymbolsModel", name := "\x72", desc := "(I)I" } : Jvm.MethodName)) ∈ lw_tbl := List.mem_of_getElem? (i := 1011) (by decide +kernel)
theorem q_924 : (Jvm.Cond.privateMethod ({ cls := "PairSymbolsModel", name := "\x72", desc := "(I)I" } : Jvm.MethodName)) ∈ lw_tbl := List.mem_of_getElem? (i := 1012) (by decide +kernel)
theorem q_925 : (Jvm.Cond.instanceMethod ({ cls := "PairSymbolsModel", name := "\x72", desc := "(I)I" } : Jvm.MethodName)) ∈ lw_tbl := List.mem_of_getElem? (i := 1013) (by decide +kernel)
theorem q_926 : (Jvm.Cond.code ({ cls := "PairSymbolsModel", name := "\x72", desc := "(I)I" } : Jvm.MethodName) prog_12_method_18_code (2 : Nat) (Option.some Jvm.ClassFile.FieldType.int)) ∈ lw_tbl := List.mem_of_getElem? (i := 1014) (by decide +kernel)
theorem q_927 : (Jvm.Cond.methodLink "PairSymbolsModel" (212 : Nat) ({ cls := "PairSymbolsModel", name := "laysFree", desc := "()V" } : Jvm.MethodName)) ∈ lw_tbl := List.mem_of_getElem? (i := 1015) (by decide +kernel)
theorem q_928 : (Jvm.Cond.privateMethod ({ cls := "PairSymbolsModel", name := "laysFree", desc := "()V" } : Jvm.MethodName)) ∈ lw_tbl := List.mem_of_getElem? (i := 1016) (by decide +kernel)
theorem q_929 : (Jvm.Cond.instanceMethod ({ cls := "PairSymbolsModel", name := "laysFree", desc := "()V" } : Jvm.MethodName)) ∈ lw_tbl := List.mem_of_getElem? (i := 1017) (by decide +kernel)
theorem q_930 : (Jvm.Cond.code ({ cls := "PairSymbolsModel", name := "laysFree", desc := "()V" } : Jvm.MethodName) prog_12_method_26_code (3 : Nat) (Option.none : Option Jvm.ClassFile.FieldType)) ∈ lw_tbl := List.mem_of_getElem? (i := 1018) (by decide +kernel)
theorem q_931 : (Jvm.Cond.methodLink "PairSymbolsLaw" (27 : Nat) ({ cls := "PairSymbolsModel", name := "symbol", desc := "(II)I" } : Jvm.MethodName)) ∈ lw_tbl := List.mem_of_getElem? (i := 1019) (by decide +kernel)
theorem q_932 : (Jvm.Cond.instanceMethod ({ cls := "PairSymbolsModel", name := "symbol", desc := "(II)I" } : Jvm.MethodName)) ∈ lw_tbl := List.mem_of_getElem? (i := 1020) (by decide +kernel)
theorem q_933 : (Jvm.Cond.selects "PairSymbolsModel" ({ cls := "PairSymbolsModel", name := "symbol", desc := "(II)I" } : Jvm.MethodName) ({ cls := "PairSymbolsModel", name := "symbol", desc := "(II)I" } : Jvm.MethodName)) ∈ lw_tbl := List.mem_of_getElem? (i := 1021) (by decide +kernel)
theorem q_934 : (Jvm.Cond.code ({ cls := "PairSymbolsModel", name := "symbol", desc := "(II)I" } : Jvm.MethodName) prog_12_method_39_code (3 : Nat) (Option.some Jvm.ClassFile.FieldType.int)) ∈ lw_tbl := List.mem_of_getElem? (i := 1022) (by decide +kernel)
theorem q_935 : (Jvm.Cond.methodLink "PairSymbolsModel" (252 : Nat) ({ cls := "PairSymbolsModel", name := "isSymbol", desc := "(I)Z" } : Jvm.MethodName)) ∈ lw_tbl := List.mem_of_getElem? (i := 1023) (by decide +kernel)
theorem q_936 : (Jvm.Cond.privateMethod ({ cls := "PairSymbolsModel", name := "isSymbol", desc := "(I)Z" } : Jvm.MethodName)) ∈ lw_tbl := List.mem_of_getElem? (i := 1024) (by decide +kernel)
theorem q_937 : (Jvm.Cond.instanceMethod ({ cls := "PairSymbolsModel", name := "isSymbol", desc := "(I)Z" } : Jvm.MethodName)) ∈ lw_tbl := List.mem_of_getElem? (i := 1025) (by decide +kernel)
theorem q_938 : (Jvm.Cond.code ({ cls := "PairSymbolsModel", name := "isSymbol", desc := "(I)Z" } : Jvm.MethodName) prog_12_method_37_code (2 : Nat) (Option.some Jvm.ClassFile.FieldType.boolean)) ∈ lw_tbl := List.mem_of_getElem? (i := 1026) (by decide +kernel)
theorem q_939 : (Jvm.Cond.constantLong "PairSymbolsModel" (256 : Nat) (6 : Int64)) ∈ lw_tbl := List.mem_of_getElem? (i := 1027) (by decide +kernel)
theorem q_940 : (Jvm.Cond.methodLink "PairSymbolsModel" (258 : Nat) ({ cls := "PairSymbolsModel", name := "symbolNow", desc := "(II)I" } : Jvm.MethodName)) ∈ lw_tbl := List.mem_of_getElem? (i := 1028) (by decide +kernel)
theorem q_941 : (Jvm.Cond.privateMethod ({ cls := "PairSymbolsModel", name := "symbolNow", desc := "(II)I" } : Jvm.MethodName)) ∈ lw_tbl := List.mem_of_getElem? (i := 1029) (by decide +kernel)
theorem q_942 : (Jvm.Cond.instanceMethod ({ cls := "PairSymbolsModel", name := "symbolNow", desc := "(II)I" } : Jvm.MethodName)) ∈ lw_tbl := List.mem_of_getElem? (i := 1030) (by decide +kernel)
theorem q_943 : (Jvm.Cond.code ({ cls := "PairSymbolsModel", name := "symbolNow", desc := "(II)I" } : Jvm.MethodName) prog_12_method_38_code (3 : Nat) (Option.some Jvm.ClassFile.FieldType.int)) ∈ lw_tbl := List.mem_of_getElem? (i := 1031) (by decide +kernel)
theorem q_944 : (Jvm.Cond.methodLink "PairSymbolsLaw" (31 : Nat) ({ cls := "PairSymbolsModel", name := "pai\x72", desc := "(II)I" } : Jvm.MethodName)) ∈ lw_tbl := List.mem_of_getElem? (i := 1032) (by decide +kernel)
theorem q_945 : (Jvm.Cond.instanceMethod ({ cls := "PairSymbolsModel", name := "pai\x72", desc := "(II)I" } : Jvm.MethodName)) ∈ lw_tbl := List.mem_of_getElem? (i := 1033) (by decide +kernel)
theorem q_946 : (Jvm.Cond.selects "PairSymbolsModel" ({ cls := "PairSymbolsModel", name := "pai\x72", desc := "(II)I" } : Jvm.MethodName) ({ cls := "PairSymbolsModel", name := "pai\x72", desc := "(II)I" } : Jvm.MethodName)) ∈ lw_tbl := List.mem_of_getElem? (i := 1034) (by decide +kernel)
theorem q_947 : (Jvm.Cond.code ({ cls := "PairSymbolsModel", name := "pai\x72", desc := "(II)I" } : Jvm.MethodName) prog_12_method_40_code (3 : Nat) (Option.some Jvm.ClassFile.FieldType.int)) ∈ lw_tbl := List.mem_of_getElem? (i := 1035) (by decide +kernel)
theorem q_948 : (Jvm.Cond.constantLong "PairSymbolsModel" (261 : Nat) (-9999 : Int64)) ∈ lw_tbl := List.mem_of_getElem? (i := 1036) (by decide +kernel)
theorem q_949 : (Jvm.Cond.constantLong "PairSymbolsModel" (263 : Nat) (9999 : Int64)) ∈ lw_tbl := List.mem_of_getElem? (i := 1037) (by decide +kernel)
theorem q_950 : (Jvm.Cond.methodLink "PairSymbolsLaw" (35 : Nat) ({ cls := "PairSymbolsModel", name := "space", desc := "(I)I" } : Jvm.MethodName)) ∈ lw_tbl := List.mem_of_getElem? (i := 1038) (by decide +kernel)
theorem q_951 : (Jvm.Cond.instanceMethod ({ cls := "PairSymbolsModel", name := "space", desc := "(I)I" } : Jvm.MethodName)) ∈ lw_tbl := List.mem_of_getElem? (i := 1039) (by decide +kernel)
theorem q_952 : (Jvm.Cond.selects "PairSymbolsModel" ({ cls := "PairSymbolsModel", name := "space", desc := "(I)I" } : Jvm.MethodName) ({ cls := "PairSymbolsModel", name := "space", desc := "(I)I" } : Jvm.MethodName)) ∈ lw_tbl := List.mem_of_getElem? (i := 1040) (by decide +kernel)
theorem q_953 : (Jvm.Cond.code ({ cls := "PairSymbolsModel", name := "space", desc := "(I)I" } : Jvm.MethodName) prog_12_method_44_code (2 : Nat) (Option.some Jvm.ClassFile.FieldType.int)) ∈ lw_tbl := List.mem_of_getElem? (i := 1041) (by decide +kernel)
theorem q_954 : (Jvm.Cond.constantLong "PairSymbolsModel" (274 : Nat) (3 : Int64)) ∈ lw_tbl := List.mem_of_getElem? (i := 1042) (by decide +kernel)
theorem q_955 : (Jvm.Cond.methodLink "PairSymbolsModel" (276 : Nat) ({ cls := "PairSymbolsModel", name := "spaceNow", desc := "(I)I" } : Jvm.MethodName)) ∈ lw_tbl := List.mem_of_getElem? (i := 1043) (by decide +kernel)
theorem q_956 : (Jvm.Cond.privateMethod ({ cls := "PairSymbolsModel", name := "spaceNow", desc := "(I)I" } : Jvm.MethodName)) ∈ lw_tbl := List.mem_of_getElem? (i := 1044) (by decide +kernel)
theorem q_957 : (Jvm.Cond.instanceMethod ({ cls := "PairSymbolsModel", name := "spaceNow", desc := "(I)I" } : Jvm.MethodName)) ∈ lw_tbl := List.mem_of_getElem? (i := 1045) (by decide +kernel)
theorem q_958 : (Jvm.Cond.code ({ cls := "PairSymbolsModel", name := "spaceNow", desc := "(I)I" } : Jvm.MethodName) prog_12_method_43_code (2 : Nat) (Option.some Jvm.ClassFile.FieldType.int)) ∈ lw_tbl := List.mem_of_getElem? (i := 1046) (by decide +kernel)
theorem q_959 : (Jvm.Cond.methodLink "PairSymbolsModel" (268 : Nat) ({ cls := "PairSymbolsModel", name := "genus", desc := "()I" } : Jvm.MethodName)) ∈ lw_tbl := List.mem_of_getElem? (i := 1047) (by decide +kernel)
theorem q_960 : (Jvm.Cond.privateMethod ({ cls := "PairSymbolsModel", name := "genus", desc := "()I" } : Jvm.MethodName)) ∈ lw_tbl := List.mem_of_getElem? (i := 1048) (by decide +kernel)
theorem q_961 : (Jvm.Cond.instanceMethod ({ cls := "PairSymbolsModel", name := "genus", desc := "()I" } : Jvm.MethodName)) ∈ lw_tbl := List.mem_of_getElem? (i := 1049) (by decide +kernel)
theorem q_962 : (Jvm.Cond.code ({ cls := "PairSymbolsModel", name := "genus", desc := "()I" } : Jvm.MethodName) prog_12_method_42_code (1 : Nat) (Option.some Jvm.ClassFile.FieldType.int)) ∈ lw_tbl := List.mem_of_getElem? (i := 1050) (by decide +kernel)
theorem q_963 : (Jvm.Cond.methodLink "PairSymbolsModel" (265 : Nat) ({ cls := "PairSymbolsModel", name := "laysCuspidals", desc := "()V" } : Jvm.MethodName)) ∈ lw_tbl := List.mem_of_getElem? (i := 1051) (by decide +kernel)
theorem q_964 : (Jvm.Cond.privateMethod ({ cls := "PairSymbolsModel", name := "laysCuspidals", desc := "()V" } : Jvm.MethodName)) ∈ lw_tbl := List.mem_of_getElem? (i := 1052) (by decide +kernel)
theorem q_965 : (Jvm.Cond.instanceMethod ({ cls := "PairSymbolsModel", name := "laysCuspidals", desc := "()V" } : Jvm.MethodName)) ∈ lw_tbl := List.mem_of_getElem? (i := 1053) (by decide +kernel)
theorem q_966 : (Jvm.Cond.code ({ cls := "PairSymbolsModel", name := "laysCuspidals", desc := "()V" } : Jvm.MethodName) prog_12_method_33_code (4 : Nat) (Option.none : Option Jvm.ClassFile.FieldType)) ∈ lw_tbl := List.mem_of_getElem? (i := 1054) (by decide +kernel)
theorem q_967 : (Jvm.Cond.methodLink "PairSymbolsModel" (228 : Nat) ({ cls := "PairSymbolsModel", name := "solvesBoundary", desc := "()V" } : Jvm.MethodName)) ∈ lw_tbl := List.mem_of_getElem? (i := 1055) (by decide +kernel)
theorem q_968 : (Jvm.Cond.privateMethod ({ cls := "PairSymbolsModel", name := "solvesBoundary", desc := "()V" } : Jvm.MethodName)) ∈ lw_tbl := List.mem_of_getElem? (i := 1056) (by decide +kernel)
theorem q_969 : (Jvm.Cond.instanceMethod ({ cls := "PairSymbolsModel", name := "solvesBoundary", desc := "()V" } : Jvm.MethodName)) ∈ lw_tbl := List.mem_of_getElem? (i := 1057) (by decide +kernel)
theorem q_970 : (Jvm.Cond.code ({ cls := "PairSymbolsModel", name := "solvesBoundary", desc := "()V" } : Jvm.MethodName) prog_12_method_32_code (5 : Nat) (Option.none : Option Jvm.ClassFile.FieldType)) ∈ lw_tbl := List.mem_of_getElem? (i := 1058) (by decide +kernel)
theorem q_971 : (Jvm.Cond.methodLink "PairSymbolsModel" (215 : Nat) ({ cls := "PairSymbolsModel", name := "boundaryOf", desc := "(II)I" } : Jvm.MethodName)) ∈ lw_tbl := List.mem_of_getElem? (i := 1059) (by decide +kernel)
theorem q_972 : (Jvm.Cond.privateMethod ({ cls := "PairSymbolsModel", name := "boundaryOf", desc := "(II)I" } : Jvm.MethodName)) ∈ lw_tbl := List.mem_of_getElem? (i := 1060) (by decide +kernel)
theorem q_973 : (Jvm.Cond.instanceMethod ({ cls := "PairSymbolsModel", name := "boundaryOf", desc := "(II)I" } : Jvm.MethodName)) ∈ lw_tbl := List.mem_of_getElem? (i := 1061) (by decide +kernel)
theorem q_974 : (Jvm.Cond.code ({ cls := "PairSymbolsModel", name := "boundaryOf", desc := "(II)I" } : Jvm.MethodName) prog_12_method_28_code (4 : Nat) (Option.some Jvm.ClassFile.FieldType.int)) ∈ lw_tbl := List.mem_of_getElem? (i := 1062) (by decide +kernel)
theorem q_975 : (Jvm.Cond.methodLink "PairSymbolsModel" (218 : Nat) ({ cls := "PairSymbolsModel", name := "exchanges", desc := "(II)V" } : Jvm.MethodName)) ∈ lw_tbl := List.mem_of_getElem? (i := 1063) (by decide +kernel)
theorem q_976 : (Jvm.Cond.privateMethod ({ cls := "PairSymbolsModel", name := "exchanges", desc := "(II)V" } : Jvm.MethodName)) ∈ lw_tbl := List.mem_of_getElem? (i := 1064) (by decide +kernel)
theorem q_977 : (Jvm.Cond.instanceMethod ({ cls := "PairSymbolsModel", name := "exchanges", desc := "(II)V" } : Jvm.MethodName)) ∈ lw_tbl := List.mem_of_getElem? (i := 1065) (by decide +kernel)
theorem q_978 : (Jvm.Cond.code ({ cls := "PairSymbolsModel", name := "exchanges", desc := "(II)V" } : Jvm.MethodName) prog_12_method_30_code (6 : Nat) (Option.none : Option Jvm.ClassFile.FieldType)) ∈ lw_tbl := List.mem_of_getElem? (i := 1066) (by decide +kernel)
theorem q_979 : (Jvm.Cond.methodLink "PairSymbolsModel" (221 : Nat) ({ cls := "PairSymbolsModel", name := "divides", desc := "(II)V" } : Jvm.MethodName)) ∈ lw_tbl := List.mem_of_getElem? (i := 1067) (by decide +kernel)
theorem q_980 : (Jvm.Cond.privateMethod ({ cls := "PairSymbolsModel", name := "divides", desc := "(II)V" } : Jvm.MethodName)) ∈ lw_tbl := List.mem_of_getElem? (i := 1068) (by decide +kernel)
theorem q_981 : (Jvm.Cond.instanceMethod ({ cls := "PairSymbolsModel", name := "divides", desc := "(II)V" } : Jvm.MethodName)) ∈ lw_tbl := List.mem_of_getElem? (i := 1069) (by decide +kernel)
theorem q_982 : (Jvm.Cond.code ({ cls := "PairSymbolsModel", name := "divides", desc := "(II)V" } : Jvm.MethodName) prog_12_method_31_code (8 : Nat) (Option.none : Option Jvm.ClassFile.FieldType)) ∈ lw_tbl := List.mem_of_getElem? (i := 1070) (by decide +kernel)
theorem q_983 : (Jvm.Cond.methodLink "PairSymbolsModel" (224 : Nat) ({ cls := "PairSymbolsModel", name := "takesOff", desc := "(IIJJ)V" } : Jvm.MethodName)) ∈ lw_tbl := List.mem_of_getElem? (i := 1071) (by decide +kernel)
theorem q_984 : (Jvm.Cond.privateMethod ({ cls := "PairSymbolsModel", name := "takesOff", desc := "(IIJJ)V" } : Jvm.MethodName)) ∈ lw_tbl := List.mem_of_getElem? (i := 1072) (by decide +kernel)
theorem q_985 : (Jvm.Cond.instanceMethod ({ cls := "PairSymbolsModel", name := "takesOff", desc := "(IIJJ)V" } : Jvm.MethodName)) ∈ lw_tbl := List.mem_of_getElem? (i := 1073) (by decide +kernel)
theorem q_986 : (Jvm.Cond.code ({ cls := "PairSymbolsModel", name := "takesOff", desc := "(IIJJ)V" } : Jvm.MethodName) prog_12_method_29_code (8 : Nat) (Option.none : Option Jvm.ClassFile.FieldType)) ∈ lw_tbl := List.mem_of_getElem? (i := 1074) (by decide +kernel)
theorem q_987 : (Jvm.Cond.methodLink "PairSymbolsModel" (271 : Nat) ({ cls := "PairSymbolsModel", name := "plain", desc := "()I" } : Jvm.MethodName)) ∈ lw_tbl := List.mem_of_getElem? (i := 1075) (by decide +kernel)
theorem q_988 : (Jvm.Cond.privateMethod ({ cls := "PairSymbolsModel", name := "plain", desc := "()I" } : Jvm.MethodName)) ∈ lw_tbl := List.mem_of_getElem? (i := 1076) (by decide +kernel)
theorem q_989 : (Jvm.Cond.instanceMethod ({ cls := "PairSymbolsModel", name := "plain", desc := "()I" } : Jvm.MethodName)) ∈ lw_tbl := List.mem_of_getElem? (i := 1077) (by decide +kernel)
theorem q_990 : (Jvm.Cond.code ({ cls := "PairSymbolsModel", name := "plain", desc := "()I" } : Jvm.MethodName) prog_12_method_41_code (3 : Nat) (Option.some Jvm.ClassFile.FieldType.int)) ∈ lw_tbl := List.mem_of_getElem? (i := 1078) (by decide +kernel)
theorem q_991 : (Jvm.Cond.methodLink "PairSymbolsLaw" (40 : Nat) ({ cls := "PairSymbolsModel", name := "fraction", desc := "(III)J" } : Jvm.MethodName)) ∈ lw_tbl := List.mem_of_getElem? (i := 1079) (by decide +kernel)
theorem q_992 : (Jvm.Cond.instanceMethod ({ cls := "PairSymbolsModel", name := "fraction", desc := "(III)J" } : Jvm.MethodName)) ∈ lw_tbl := List.mem_of_getElem? (i := 1080) (by decide +kernel)
theorem q_993 : (Jvm.Cond.selects "PairSymbolsModel" ({ cls := "PairSymbolsModel", name := "fraction", desc := "(III)J" } : Jvm.MethodName) ({ cls := "PairSymbolsModel", name := "fraction", desc := "(III)J" } : Jvm.MethodName)) ∈ lw_tbl := List.mem_of_getElem? (i := 1081) (by decide +kernel)
theorem q_994 : (Jvm.Cond.code ({ cls := "PairSymbolsModel", name := "fraction", desc := "(III)J" } : Jvm.MethodName) prog_12_method_45_code (4 : Nat) (Option.some Jvm.ClassFile.FieldType.long)) ∈ lw_tbl := List.mem_of_getElem? (i := 1082) (by decide +kernel)
theorem q_995 : (Jvm.Cond.methodLink "PairSymbolsLaw" (45 : Nat) ({ cls := "PairSymbolsModel", name := "table", desc := "(IIII)J" } : Jvm.MethodName)) ∈ lw_tbl := List.mem_of_getElem? (i := 1083) (by decide +kernel)
theorem q_996 : (Jvm.Cond.instanceMethod ({ cls := "PairSymbolsModel", name := "table", desc := "(IIII)J" } : Jvm.MethodName)) ∈ lw_tbl := List.mem_of_getElem? (i := 1084) (by decide +kernel)
theorem q_997 : (Jvm.Cond.selects "PairSymbolsModel" ({ cls := "PairSymbolsModel", name := "table", desc := "(IIII)J" } : Jvm.MethodName) ({ cls := "PairSymbolsModel", name := "table", desc := "(IIII)J" } : Jvm.MethodName)) ∈ lw_tbl := List.mem_of_getElem? (i := 1085) (by decide +kernel)
theorem q_998 : (Jvm.Cond.code ({ cls := "PairSymbolsModel", name := "table", desc := "(IIII)J" } : Jvm.MethodName) prog_12_method_50_code (6 : Nat) (Option.some Jvm.ClassFile.FieldType.long)) ∈ lw_tbl := List.mem_of_getElem? (i := 1086) (by decide +kernel)
theorem q_999 : (Jvm.Cond.methodLink "PairSymbolsModel" (287 : Nat) ({ cls := "PairSymbolsModel", name := "canOperate", desc := "(I)I" } : Jvm.MethodName)) ∈ lw_tbl := List.mem_of_getElem? (i := 1087) (by decide +kernel)
theorem q_1000 : (Jvm.Cond.privateMethod ({ cls := "PairSymbolsModel", name := "canOperate", desc := "(I)I" } : Jvm.MethodName)) ∈ lw_tbl := List.mem_of_getElem? (i := 1088) (by decide +kernel)
theorem q_1001 : (Jvm.Cond.instanceMethod ({ cls := "PairSymbolsModel", name := "canOperate", desc := "(I)I" } : Jvm.MethodName)) ∈ lw_tbl := List.mem_of_getElem? (i := 1089) (by decide +kernel)
theorem q_1002 : (Jvm.Cond.code ({ cls := "PairSymbolsModel", name := "canOperate", desc := "(I)I" } : Jvm.MethodName) prog_12_method_46_code (2 : Nat) (Option.some Jvm.ClassFile.FieldType.int)) ∈ lw_tbl := List.mem_of_getElem? (i := 1090) (by decide +kernel)
theorem q_1003 : (Jvm.Cond.constantLong "PairSymbolsModel" (279 : Nat) (7 : Int64)) ∈ lw_tbl := List.mem_of_getElem? (i := 1091) (by decide +kernel)
theorem q_1004 : (Jvm.Cond.methodLink "PairSymbolsModel" (290 : Nat) ({ cls := "PairSymbolsModel", name := "laysOperato\x72", desc := "(I)V" } : Jvm.MethodName)) ∈ lw_tbl := List.mem_of_getElem? (i := 1092) (by decide +kernel)
theorem q_1005 : (Jvm.Cond.privateMethod ({ cls := "PairSymbolsModel", name := "laysOperato\x72", desc := "(I)V" } : Jvm.MethodName)) ∈ lw_tbl := List.mem_of_getElem? (i := 1093) (by decide +kernel)
theorem q_1006 : (Jvm.Cond.instanceMethod ({ cls := "PairSymbolsModel", name := "laysOperato\x72", desc := "(I)V" } : Jvm.MethodName)) ∈ lw_tbl := List.mem_of_getElem? (i := 1094) (by decide +kernel)
theorem q_1007 : (Jvm.Cond.code ({ cls := "PairSymbolsModel", name := "laysOperato\x72", desc := "(I)V" } : Jvm.MethodName) prog_12_method_49_code (4 : Nat) (Option.none : Option Jvm.ClassFile.FieldType)) ∈ lw_tbl := List.mem_of_getElem? (i := 1095) (by decide +kernel)
theorem q_1008 : (Jvm.Cond.methodLink "PairSymbolsModel" (284 : Nat) ({ cls := "PairSymbolsModel", name := "laysImage", desc := "(II)V" } : Jvm.MethodName)) ∈ lw_tbl := List.mem_of_getElem? (i := 1096) (by decide +kernel)
theorem q_1009 : (Jvm.Cond.privateMethod ({ cls := "PairSymbolsModel", name := "laysImage", desc := "(II)V" } : Jvm.MethodName)) ∈ lw_tbl := List.mem_of_getElem? (i := 1097) (by decide +kernel)
theorem q_1010 : (Jvm.Cond.instanceMethod ({ cls := "PairSymbolsModel", name := "laysImage", desc := "(II)V" } : Jvm.MethodName)) ∈ lw_tbl := List.mem_of_getElem? (i := 1098) (by decide +kernel)
theorem q_1011 : (Jvm.Cond.code ({ cls := "PairSymbolsModel", name := "laysImage", desc := "(II)V" } : Jvm.MethodName) prog_12_method_48_code (7 : Nat) (Option.none : Option Jvm.ClassFile.FieldType)) ∈ lw_tbl := List.mem_of_getElem? (i := 1099) (by decide +kernel)
theorem q_1012 : (Jvm.Cond.methodLink "PairSymbolsModel" (281 : Nat) ({ cls := "PairSymbolsModel", name := "addsImage", desc := "(I)V" } : Jvm.MethodName)) ∈ lw_tbl := List.mem_of_getElem? (i := 1100) (by decide +kernel)
theorem q_1013 : (Jvm.Cond.privateMethod ({ cls := "PairSymbolsModel", name := "addsImage", desc := "(I)V" } : Jvm.MethodName)) ∈ lw_tbl := List.mem_of_getElem? (i := 1101) (by decide +kernel)
theorem q_1014 : (Jvm.Cond.instanceMethod ({ cls := "PairSymbolsModel", name := "addsImage", desc := "(I)V" } : Jvm.MethodName)) ∈ lw_tbl := List.mem_of_getElem? (i := 1102) (by decide +kernel)
theorem q_1015 : (Jvm.Cond.code ({ cls := "PairSymbolsModel", name := "addsImage", desc := "(I)V" } : Jvm.MethodName) prog_12_method_47_code (3 : Nat) (Option.none : Option Jvm.ClassFile.FieldType)) ∈ lw_tbl := List.mem_of_getElem? (i := 1103) (by decide +kernel)
theorem q_1016 : (Jvm.Cond.methodLink "PairSymbolsLaw" (50 : Nat) ({ cls := "PairSymbolsModel", name := "trace", desc := "(II)J" } : Jvm.MethodName)) ∈ lw_tbl := List.mem_of_getElem? (i := 1104) (by decide +kernel)
theorem q_1017 : (Jvm.Cond.instanceMethod ({ cls := "PairSymbolsModel", name := "trace", desc := "(II)J" } : Jvm.MethodName)) ∈ lw_tbl := List.mem_of_getElem? (i := 1105) (by decide +kernel)
theorem q_1018 : (Jvm.Cond.selects "PairSymbolsModel" ({ cls := "PairSymbolsModel", name := "trace", desc := "(II)J" } : Jvm.MethodName) ({ cls := "PairSymbolsModel", name := "trace", desc := "(II)J" } : Jvm.MethodName)) ∈ lw_tbl := List.mem_of_getElem? (i := 1106) (by decide +kernel)
theorem q_1019 : (Jvm.Cond.code ({ cls := "PairSymbolsModel", name := "trace", desc := "(II)J" } : Jvm.MethodName) prog_12_method_56_code (5 : Nat) (Option.some Jvm.ClassFile.FieldType.long)) ∈ lw_tbl := List.mem_of_getElem? (i := 1107) (by decide +kernel)
theorem q_1020 : (Jvm.Cond.methodLink "PairSymbolsModel" (306 : Nat) ({ cls := "PairSymbolsModel", name := "refusesBy", desc := "(IJ)J" } : Jvm.MethodName)) ∈ lw_tbl := List.mem_of_getElem? (i := 1108) (by decide +kernel)
theorem q_1021 : (Jvm.Cond.privateMethod ({ cls := "PairSymbolsModel", name := "refusesBy", desc := "(IJ)J" } : Jvm.MethodName)) ∈ lw_tbl := List.mem_of_getElem? (i := 1109) (by decide +kernel)
theorem q_1022 : (Jvm.Cond.instanceMethod ({ cls := "PairSymbolsModel", name := "refusesBy", desc := "(IJ)J" } : Jvm.MethodName)) ∈ lw_tbl := List.mem_of_getElem? (i := 1110) (by decide +kernel)
theorem q_1023 : (Jvm.Cond.code ({ cls := "PairSymbolsModel", name := "refusesBy", desc := "(IJ)J" } : Jvm.MethodName) prog_12_method_5_code (4 : Nat) (Option.some Jvm.ClassFile.FieldType.long)) ∈ lw_tbl := List.mem_of_getElem? (i := 1111) (by decide +kernel)
theorem q_1024 : (Jvm.Cond.constantLong "PairSymbolsModel" (310 : Nat) (-9998 : Int64)) ∈ lw_tbl := List.mem_of_getElem? (i := 1112) (by decide +kernel)
theorem q_1025 : (Jvm.Cond.methodLink "PairSymbolsModel" (312 : Nat) ({ cls := "PairSymbolsModel", name := "laysTable", desc := "(IZ)V" } : Jvm.MethodName)) ∈ lw_tbl := List.mem_of_getElem? (i := 1113) (by decide +kernel)
theorem q_1026 : (Jvm.Cond.privateMethod ({ cls := "PairSymbolsModel", name := "laysTable", desc := "(IZ)V" } : Jvm.MethodName)) ∈ lw_tbl := List.mem_of_getElem? (i := 1114) (by decide +kernel)
theorem q_1027 : (Jvm.Cond.instanceMethod ({ cls := "PairSymbolsModel", name := "laysTable", desc := "(IZ)V" } : Jvm.MethodName)) ∈ lw_tbl := List.mem_of_getElem? (i := 1115) (by decide +kernel)
theorem q_1028 : (Jvm.Cond.code ({ cls := "PairSymbolsModel", name := "laysTable", desc := "(IZ)V" } : Jvm.MethodName) prog_12_method_51_code (10 : Nat) (Option.none : Option Jvm.ClassFile.FieldType)) ∈ lw_tbl := List.mem_of_getElem? (i := 1116) (by decide +kernel)
theorem q_1029 : (Jvm.Cond.methodLink "PairSymbolsModel" (302 : Nat) ({ cls := "PairSymbolsModel", name := "diagonal", desc := "()J" } : Jvm.MethodName)) ∈ lw_tbl := List.mem_of_getElem? (i := 1117) (by decide +kernel)
theorem q_1030 : (Jvm.Cond.privateMethod ({ cls := "PairSymbolsModel", name := "diagonal", desc := "()J" } : Jvm.MethodName)) ∈ lw_tbl := List.mem_of_getElem? (i := 1118) (by decide +kernel)
theorem q_1031 : (Jvm.Cond.instanceMethod ({ cls := "PairSymbolsModel", name := "diagonal", desc := "()J" } : Jvm.MethodName)) ∈ lw_tbl := List.mem_of_getElem? (i := 1119) (by decide +kernel)
theorem q_1032 : (Jvm.Cond.code ({ cls := "PairSymbolsModel", name := "diagonal", desc := "()J" } : Jvm.MethodName) prog_12_method_53_code (2 : Nat) (Option.some Jvm.ClassFile.FieldType.long)) ∈ lw_tbl := List.mem_of_getElem? (i := 1120) (by decide +kernel)
theorem q_1033 : (Jvm.Cond.methodLink "PairSymbolsModel" (296 : Nat) ({ cls := "PairSymbolsModel", name := "laysTrace", desc := "()V" } : Jvm.MethodName)) ∈ lw_tbl := List.mem_of_getElem? (i := 1121) (by decide +kernel)
theorem q_1034 : (Jvm.Cond.privateMethod ({ cls := "PairSymbolsModel", name := "laysTrace", desc := "()V" } : Jvm.MethodName)) ∈ lw_tbl := List.mem_of_getElem? (i := 1122) (by decide +kernel)
theorem q_1035 : (Jvm.Cond.instanceMethod ({ cls := "PairSymbolsModel", name := "laysTrace", desc := "()V" } : Jvm.MethodName)) ∈ lw_tbl := List.mem_of_getElem? (i := 1123) (by decide +kernel)
theorem q_1036 : (Jvm.Cond.code ({ cls := "PairSymbolsModel", name := "laysTrace", desc := "()V" } : Jvm.MethodName) prog_12_method_52_code (1 : Nat) (Option.none : Option Jvm.ClassFile.FieldType)) ∈ lw_tbl := List.mem_of_getElem? (i := 1124) (by decide +kernel)
theorem q_1037 : (Jvm.Cond.methodLink "PairSymbolsLaw" (54 : Nat) ({ cls := "PairSymbolsModel", name := "polynomial", desc := "(III)J" } : Jvm.MethodName)) ∈ lw_tbl := List.mem_of_getElem? (i := 1125) (by decide +kernel)
theorem q_1038 : (Jvm.Cond.instanceMethod ({ cls := "PairSymbolsModel", name := "polynomial", desc := "(III)J" } : Jvm.MethodName)) ∈ lw_tbl := List.mem_of_getElem? (i := 1126) (by decide +kernel)
theorem q_1039 : (Jvm.Cond.selects "PairSymbolsModel" ({ cls := "PairSymbolsModel", name := "polynomial", desc := "(III)J" } : Jvm.MethodName) ({ cls := "PairSymbolsModel", name := "polynomial", desc := "(III)J" } : Jvm.MethodName)) ∈ lw_tbl := List.mem_of_getElem? (i := 1127) (by decide +kernel)
theorem q_1040 : (Jvm.Cond.code ({ cls := "PairSymbolsModel", name := "polynomial", desc := "(III)J" } : Jvm.MethodName) prog_12_method_57_code (5 : Nat) (Option.some Jvm.ClassFile.FieldType.long)) ∈ lw_tbl := List.mem_of_getElem? (i := 1128) (by decide +kernel)
theorem q_1041 : (Jvm.Cond.constantLong "PairSymbolsModel" (316 : Nat) (-9223372036854775808 : Int64)) ∈ lw_tbl := List.mem_of_getElem? (i := 1129) (by decide +kernel)
theorem q_1042 : (Jvm.Cond.constantLong "PairSymbolsModel" (318 : Nat) (-9223372036854775807 : Int64)) ∈ lw_tbl := List.mem_of_getElem? (i := 1130) (by decide +kernel)
theorem q_1043 : (Jvm.Cond.methodLink "PairSymbolsModel" (320 : Nat) ({ cls := "PairSymbolsModel", name := "laysPolynomial", desc := "()V" } : Jvm.MethodName)) ∈ lw_tbl := List.mem_of_getElem? (i := 1131) (by decide +kernel)
theorem q_1044 : (Jvm.Cond.privateMethod ({ cls := "PairSymbolsModel", name := "laysPolynomial", desc := "()V" } : Jvm.MethodName)) ∈ lw_tbl := List.mem_of_getElem? (i := 1132) (by decide +kernel)
theorem q_1045 : (Jvm.Cond.instanceMethod ({ cls := "PairSymbolsModel", name := "laysPolynomial", desc := "()V" } : Jvm.MethodName)) ∈ lw_tbl := List.mem_of_getElem? (i := 1133) (by decide +kernel)
theorem q_1046 : (Jvm.Cond.code ({ cls := "PairSymbolsModel", name := "laysPolynomial", desc := "()V" } : Jvm.MethodName) prog_12_method_55_code (5 : Nat) (Option.none : Option Jvm.ClassFile.FieldType)) ∈ lw_tbl := List.mem_of_getElem? (i := 1134) (by decide +kernel)
theorem q_1047 : (Jvm.Cond.methodLink "PairSymbolsModel" (299 : Nat) ({ cls := "PairSymbolsModel", name := "multiplies", desc := "()V" } : Jvm.MethodName)) ∈ lw_tbl := List.mem_of_getElem? (i := 1135) (by decide +kernel)
theorem q_1048 : (Jvm.Cond.privateMethod ({ cls := "PairSymbolsModel", name := "multiplies", desc := "()V" } : Jvm.MethodName)) ∈ lw_tbl := List.mem_of_getElem? (i := 1136) (by decide +kernel)
theorem q_1049 : (Jvm.Cond.instanceMethod ({ cls := "PairSymbolsModel", name := "multiplies", desc := "()V" } : Jvm.MethodName)) ∈ lw_tbl := List.mem_of_getElem? (i := 1137) (by decide +kernel)
theorem q_1050 : (Jvm.Cond.code ({ cls := "PairSymbolsModel", name := "multiplies", desc := "()V" } : Jvm.MethodName) prog_12_method_54_code (8 : Nat) (Option.none : Option Jvm.ClassFile.FieldType)) ∈ lw_tbl := List.mem_of_getElem? (i := 1138) (by decide +kernel)
theorem q_1051 : (Jvm.Cond.methodLink "PairSymbolsLaw" (58 : Nat) ({ cls := "PairSymbolsModel", name := "root", desc := "(II)I" } : Jvm.MethodName)) ∈ lw_tbl := List.mem_of_getElem? (i := 1139) (by decide +kernel)
theorem q_1052 : (Jvm.Cond.instanceMethod ({ cls := "PairSymbolsModel", name := "root", desc := "(II)I" } : Jvm.MethodName)) ∈ lw_tbl := List.mem_of_getElem? (i := 1140) (by decide +kernel)
theorem q_1053 : (Jvm.Cond.selects "PairSymbolsModel" ({ cls := "PairSymbolsModel", name := "root", desc := "(II)I" } : Jvm.MethodName) ({ cls := "PairSymbolsModel", name := "root", desc := "(II)I" } : Jvm.MethodName)) ∈ lw_tbl := List.mem_of_getElem? (i := 1141) (by decide +kernel)
theorem q_1054 : (Jvm.Cond.code ({ cls := "PairSymbolsModel", name := "root", desc := "(II)I" } : Jvm.MethodName) prog_12_method_59_code (4 : Nat) (Option.some Jvm.ClassFile.FieldType.int)) ∈ lw_tbl := List.mem_of_getElem? (i := 1142) (by decide +kernel)
theorem q_1055 : (Jvm.Cond.constantLong "PairSymbolsModel" (323 : Nat) (-8 : Int64)) ∈ lw_tbl := List.mem_of_getElem? (i := 1143) (by decide +kernel)
theorem q_1056 : (Jvm.Cond.constantLong "PairSymbolsModel" (325 : Nat) (8 : Int64)) ∈ lw_tbl := List.mem_of_getElem? (i := 1144) (by decide +kernel)
theorem q_1057 : (Jvm.Cond.methodLink "PairSymbolsModel" (327 : Nat) ({ cls := "PairSymbolsModel", name := "rootOf", desc := "(I)I" } : Jvm.MethodName)) ∈ lw_tbl := List.mem_of_getElem? (i := 1145) (by decide +kernel)
theorem q_1058 : (Jvm.Cond.privateMethod ({ cls := "PairSymbolsModel", name := "rootOf", desc := "(I)I" } : Jvm.MethodName)) ∈ lw_tbl := List.mem_of_getElem? (i := 1146) (by decide +kernel)
theorem q_1059 : (Jvm.Cond.instanceMethod ({ cls := "PairSymbolsModel", name := "rootOf", desc := "(I)I" } : Jvm.MethodName)) ∈ lw_tbl := List.mem_of_getElem? (i := 1147) (by decide +kernel)
theorem q_1060 : (Jvm.Cond.code ({ cls := "PairSymbolsModel", name := "rootOf", desc := "(I)I" } : Jvm.MethodName) prog_12_method_58_code (11 : Nat) (Option.some Jvm.ClassFile.FieldType.int)) ∈ lw_tbl := List.mem_of_getElem? (i := 1148) (by decide +kernel)
theorem q_1061 : (Jvm.Cond.methodLink "PairSymbolsLaw" (62 : Nat) ({ cls := "PairSymbolsModel", name := "formula", desc := "(II)I" } : Jvm.MethodName)) ∈ lw_tbl := List.mem_of_getElem? (i := 1149) (by decide +kernel)
theorem q_1062 : (Jvm.Cond.instanceMethod ({ cls := "PairSymbolsModel", name := "formula", desc := "(II)I" } : Jvm.MethodName)) ∈ lw_tbl := List.mem_of_getElem? (i := 1150) (by decide +kernel)
theorem q_1063 : (Jvm.Cond.selects "PairSymbolsModel" ({ cls := "PairSymbolsModel", name := "formula", desc := "(II)I" } : Jvm.MethodName) ({ cls := "PairSymbolsModel", name := "formula", desc := "(II)I" } : Jvm.MethodName)) ∈ lw_tbl := List.mem_of_getElem? (i := 1151) (by decide +kernel)
theorem q_1064 : (Jvm.Cond.code ({ cls := "PairSymbolsModel", name := "formula", desc := "(II)I" } : Jvm.MethodName) prog_12_method_67_code (3 : Nat) (Option.some Jvm.ClassFile.FieldType.int)) ∈ lw_tbl := List.mem_of_getElem? (i := 1152) (by decide +kernel)
theorem q_1065 : (Jvm.Cond.constantLong "PairSymbolsModel" (349 : Nat) (60 : Int64)) ∈ lw_tbl := List.mem_of_getElem? (i := 1153) (by decide +kernel)
theorem q_1066 : (Jvm.Cond.constantLong "PairSymbolsModel" (351 : Nat) (5 : Int64)) ∈ lw_tbl := List.mem_of_getElem? (i := 1154) (by decide +kernel)
theorem q_1067 : (Jvm.Cond.methodLink "PairSymbolsModel" (353 : Nat) ({ cls := "PairSymbolsModel", name := "formulaNow", desc := "(II)I" } : Jvm.MethodName)) ∈ lw_tbl := List.mem_of_getElem? (i := 1155) (by decide +kernel)
theorem q_1068 : (Jvm.Cond.privateMethod ({ cls := "PairSymbolsModel", name := "formulaNow", desc := "(II)I" } : Jvm.MethodName)) ∈ lw_tbl := List.mem_of_getElem? (i := 1156) (by decide +kernel)
theorem q_1069 : (Jvm.Cond.instanceMethod ({ cls := "PairSymbolsModel", name := "formulaNow", desc := "(II)I" } : Jvm.MethodName)) ∈ lw_tbl := List.mem_of_getElem? (i := 1157) (by decide +kernel)
theorem q_1070 : (Jvm.Cond.code ({ cls := "PairSymbolsModel", name := "formulaNow", desc := "(II)I" } : Jvm.MethodName) prog_12_method_66_code (3 : Nat) (Option.some Jvm.ClassFile.FieldType.int)) ∈ lw_tbl := List.mem_of_getElem? (i := 1158) (by decide +kernel)
theorem q_1071 : (Jvm.Cond.methodLink "PairSymbolsModel" (337 : Nat) ({ cls := "PairSymbolsModel", name := "index", desc := "(I)I" } : Jvm.MethodName)) ∈ lw_tbl := List.mem_of_getElem? (i := 1159) (by decide +kernel)
theorem q_1072 : (Jvm.Cond.static ({ cls := "PairSymbolsModel", name := "index", desc := "(I)I" } : Jvm.MethodName)) ∈ lw_tbl := List.mem_of_getElem? (i := 1160) (by decide +kernel)
theorem q_1073 : (Jvm.Cond.code ({ cls := "PairSymbolsModel", name := "index", desc := "(I)I" } : Jvm.MethodName) prog_12_method_61_code (3 : Nat) (Option.some Jvm.ClassFile.FieldType.int)) ∈ lw_tbl := List.mem_of_getElem? (i := 1161) (by decide +kernel)
theorem q_1074 : (Jvm.Cond.methodLink "PairSymbolsModel" (330 : Nat) ({ cls := "PairSymbolsModel", name := "isPrime", desc := "(I)Z" } : Jvm.MethodName)) ∈ lw_tbl := List.mem_of_getElem? (i := 1162) (by decide +kernel)
theorem q_1075 : (Jvm.Cond.static ({ cls := "PairSymbolsModel", name := "isPrime", desc := "(I)Z" } : Jvm.MethodName)) ∈ lw_tbl := List.mem_of_getElem? (i := 1163) (by decide +kernel)
theorem q_1076 : (Jvm.Cond.code ({ cls := "PairSymbolsModel", name := "isPrime", desc := "(I)Z" } : Jvm.MethodName) prog_12_method_60_code (3 : Nat) (Option.some Jvm.ClassFile.FieldType.boolean)) ∈ lw_tbl := List.mem_of_getElem? (i := 1164) (by decide +kernel)
theorem q_1077 : (Jvm.Cond.methodLink "PairSymbolsModel" (333 : Nat) ({ cls := "PairSymbolsModel", name := "product", desc := "(III)I" } : Jvm.MethodName)) ∈ lw_tbl := List.mem_of_getElem? (i := 1165) (by decide +kernel)
theorem q_1078 : (Jvm.Cond.static ({ cls := "PairSymbolsModel", name := "product", desc := "(III)I" } : Jvm.MethodName)) ∈ lw_tbl := List.mem_of_getElem? (i := 1166) (by decide +kernel)
theorem q_1079 : (Jvm.Cond.code ({ cls := "PairSymbolsModel", name := "product", desc := "(III)I" } : Jvm.MethodName) prog_12_method_62_code (5 : Nat) (Option.some Jvm.ClassFile.FieldType.int)) ∈ lw_tbl := List.mem_of_getElem? (i := 1167) (by decide +kernel)
theorem q_1080 : (Jvm.Cond.methodLink "PairSymbolsModel" (340 : Nat) ({ cls := "PairSymbolsModel", name := "ends", desc := "(I)I" } : Jvm.MethodName)) ∈ lw_tbl := List.mem_of_getElem? (i := 1168) (by decide +kernel)
theorem q_1081 : (Jvm.Cond.static ({ cls := "PairSymbolsModel", name := "ends", desc := "(I)I" } : Jvm.MethodName)) ∈ lw_tbl := List.mem_of_getElem? (i := 1169) (by decide +kernel)
theorem q_1082 : (Jvm.Cond.code ({ cls := "PairSymbolsModel", name := "ends", desc := "(I)I" } : Jvm.MethodName) prog_12_method_63_code (5 : Nat) (Option.some Jvm.ClassFile.FieldType.int)) ∈ lw_tbl := List.mem_of_getElem? (i := 1170) (by decide +kernel)
theorem q_1083 : (Jvm.Cond.methodLink "PairSymbolsModel" (343 : Nat) ({ cls := "PairSymbolsModel", name := "forms", desc := "(I)I" } : Jvm.MethodName)) ∈ lw_tbl := List.mem_of_getElem? (i := 1171) (by decide +kernel)
theorem q_1084 : (Jvm.Cond.static ({ cls := "PairSymbolsModel", name := "forms", desc := "(I)I" } : Jvm.MethodName)) ∈ lw_tbl := List.mem_of_getElem? (i := 1172) (by decide +kernel)
theorem q_1085 : (Jvm.Cond.code ({ cls := "PairSymbolsModel", name := "forms", desc := "(I)I" } : Jvm.MethodName) prog_12_method_64_code (3 : Nat) (Option.some Jvm.ClassFile.FieldType.int)) ∈ lw_tbl := List.mem_of_getElem? (i := 1173) (by decide +kernel)
theorem q_1086 : (Jvm.Cond.methodLink "PairSymbolsModel" (346 : Nat) ({ cls := "PairSymbolsModel", name := "freshOf", desc := "(I)I" } : Jvm.MethodName)) ∈ lw_tbl := List.mem_of_getElem? (i := 1174) (by decide +kernel)
theorem q_1087 : (Jvm.Cond.privateMethod ({ cls := "PairSymbolsModel", name := "freshOf", desc := "(I)I" } : Jvm.MethodName)) ∈ lw_tbl := List.mem_of_getElem? (i := 1175) (by decide +kernel)
theorem q_1088 : (Jvm.Cond.instanceMethod ({ cls := "PairSymbolsModel", name := "freshOf", desc := "(I)I" } : Jvm.MethodName)) ∈ lw_tbl := List.mem_of_getElem? (i := 1176) (by decide +kernel)
theorem q_1089 : (Jvm.Cond.code ({ cls := "PairSymbolsModel", name := "freshOf", desc := "(I)I" } : Jvm.MethodName) prog_12_method_65_code (6 : Nat) (Option.some Jvm.ClassFile.FieldType.int)) ∈ lw_tbl := List.mem_of_getElem? (i := 1177) (by decide +kernel)
theorem q_1090 : (Jvm.Cond.methodLink "PairSymbolsLaw" (66 : Nat) ({ cls := "PairSymbolsModel", name := "adds", desc := "(II)I" } : Jvm.MethodName)) ∈ lw_tbl := List.mem_of_getElem? (i := 1178) (by decide +kernel)
theorem q_1091 : (Jvm.Cond.instanceMethod ({ cls := "PairSymbolsModel", name := "adds", desc := "(II)I" } : Jvm.MethodName)) ∈ lw_tbl := List.mem_of_getElem? (i := 1179) (by decide +kernel)
theorem q_1092 : (Jvm.Cond.selects "PairSymbolsModel" ({ cls := "PairSymbolsModel", name := "adds", desc := "(II)I" } : Jvm.MethodName) ({ cls := "PairSymbolsModel", name := "adds", desc := "(II)I" } : Jvm.MethodName)) ∈ lw_tbl := List.mem_of_getElem? (i := 1180) (by decide +kernel)
theorem q_1093 : (Jvm.Cond.code ({ cls := "PairSymbolsModel", name := "adds", desc := "(II)I" } : Jvm.MethodName) prog_12_method_73_code (4 : Nat) (Option.some Jvm.ClassFile.FieldType.int)) ∈ lw_tbl := List.mem_of_getElem? (i := 1181) (by decide +kernel)
theorem q_1094 : (Jvm.Cond.methodLink "PairSymbolsModel" (374 : Nat) ({ cls := "PairSymbolsModel", name := "canAdd", desc := "(II)I" } : Jvm.MethodName)) ∈ lw_tbl := List.mem_of_getElem? (i := 1182) (by decide +kernel)
theorem q_1095 : (Jvm.Cond.privateMethod ({ cls := "PairSymbolsModel", name := "canAdd", desc := "(II)I" } : Jvm.MethodName)) ∈ lw_tbl := List.mem_of_getElem? (i := 1183) (by decide +kernel)
theorem q_1096 : (Jvm.Cond.instanceMethod ({ cls := "PairSymbolsModel", name := "canAdd", desc := "(II)I" } : Jvm.MethodName)) ∈ lw_tbl := List.mem_of_getElem? (i := 1184) (by decide +kernel)
theorem q_1097 : (Jvm.Cond.code ({ cls := "PairSymbolsModel", name := "canAdd", desc := "(II)I" } : Jvm.MethodName) prog_12_method_72_code (3 : Nat) (Option.some Jvm.ClassFile.FieldType.int)) ∈ lw_tbl := List.mem_of_getElem? (i := 1185) (by decide +kernel)
theorem q_1098 : (Jvm.Cond.constantLong "PairSymbolsModel" (360 : Nat) (-999 : Int64)) ∈ lw_tbl := List.mem_of_getElem? (i := 1186) (by decide +kernel)
theorem q_1099 : (Jvm.Cond.constantLong "PairSymbolsModel" (362 : Nat) (999 : Int64)) ∈ lw_tbl := List.mem_of_getElem? (i := 1187) (by decide +kernel)
theorem q_1100 : (Jvm.Cond.methodLink "PairSymbolsModel" (364 : Nat) ({ cls := "PairSymbolsModel", name := "laysSum", desc := "()V" } : Jvm.MethodName)) ∈ lw_tbl := List.mem_of_getElem? (i := 1188) (by decide +kernel)
theorem q_1101 : (Jvm.Cond.privateMethod ({ cls := "PairSymbolsModel", name := "laysSum", desc := "()V" } : Jvm.MethodName)) ∈ lw_tbl := List.mem_of_getElem? (i := 1189) (by decide +kernel)
theorem q_1102 : (Jvm.Cond.instanceMethod ({ cls := "PairSymbolsModel", name := "laysSum", desc := "()V" } : Jvm.MethodName)) ∈ lw_tbl := List.mem_of_getElem? (i := 1190) (by decide +kernel)
theorem q_1103 : (Jvm.Cond.code ({ cls := "PairSymbolsModel", name := "laysSum", desc := "()V" } : Jvm.MethodName) prog_12_method_68_code (2 : Nat) (Option.none : Option Jvm.ClassFile.FieldType)) ∈ lw_tbl := List.mem_of_getElem? (i := 1191) (by decide +kernel)
theorem q_1104 : (Jvm.Cond.methodLink "PairSymbolsModel" (367 : Nat) ({ cls := "PairSymbolsModel", name := "addsTo", desc := "(IJ)V" } : Jvm.MethodName)) ∈ lw_tbl := List.mem_of_getElem? (i := 1192) (by decide +kernel)
theorem q_1105 : (Jvm.Cond.privateMethod ({ cls := "PairSymbolsModel", name := "addsTo", desc := "(IJ)V" } : Jvm.MethodName)) ∈ lw_tbl := List.mem_of_getElem? (i := 1193) (by decide +kernel)
theorem q_1106 : (Jvm.Cond.instanceMethod ({ cls := "PairSymbolsModel", name := "addsTo", desc := "(IJ)V" } : Jvm.MethodName)) ∈ lw_tbl := List.mem_of_getElem? (i := 1194) (by decide +kernel)
theorem q_1107 : (Jvm.Cond.code ({ cls := "PairSymbolsModel", name := "addsTo", desc := "(IJ)V" } : Jvm.MethodName) prog_12_method_69_code (5 : Nat) (Option.none : Option Jvm.ClassFile.FieldType)) ∈ lw_tbl := List.mem_of_getElem? (i := 1195) (by decide +kernel)
theorem q_1108 : (Jvm.Cond.methodLink "PairSymbolsModel" (371 : Nat) ({ cls := "PairSymbolsModel", name := "canBe", desc := "()I" } : Jvm.MethodName)) ∈ lw_tbl := List.mem_of_getElem? (i := 1196) (by decide +kernel)
theorem q_1109 : (Jvm.Cond.privateMethod ({ cls := "PairSymbolsModel", name := "canBe", desc := "()I" } : Jvm.MethodName)) ∈ lw_tbl := List.mem_of_getElem? (i := 1197) (by decide +kernel)
theorem q_1110 : (Jvm.Cond.instanceMethod ({ cls := "PairSymbolsModel", name := "canBe", desc := "()I" } : Jvm.MethodName)) ∈ lw_tbl := List.mem_of_getElem? (i := 1198) (by decide +kernel)
theorem q_1111 : (Jvm.Cond.code ({ cls := "PairSymbolsModel", name := "canBe", desc := "()I" } : Jvm.MethodName) prog_12_method_70_code (2 : Nat) (Option.some Jvm.ClassFile.FieldType.int)) ∈ lw_tbl := List.mem_of_getElem? (i := 1199) (by decide +kernel)
theorem q_1112 : (Jvm.Cond.constantLong "PairSymbolsModel" (356 : Nat) (-1000000000000 : Int64)) ∈ lw_tbl := List.mem_of_getElem? (i := 1200) (by decide +kernel)
theorem q_1113 : (Jvm.Cond.constantLong "PairSymbolsModel" (358 : Nat) (1000000000000 : Int64)) ∈ lw_tbl := List.mem_of_getElem? (i := 1201) (by decide +kernel)
theorem q_1114 : (Jvm.Cond.methodLink "PairSymbolsModel" (377 : Nat) ({ cls := "PairSymbolsModel", name := "becomes", desc := "()I" } : Jvm.MethodName)) ∈ lw_tbl := List.mem_of_getElem? (i := 1202) (by decide +kernel)
theorem q_1115 : (Jvm.Cond.privateMethod ({ cls := "PairSymbolsModel", name := "becomes", desc := "()I" } : Jvm.MethodName)) ∈ lw_tbl := List.mem_of_getElem? (i := 1203) (by decide +kernel)
theorem q_1116 : (Jvm.Cond.instanceMethod ({ cls := "PairSymbolsModel", name := "becomes", desc := "()I" } : Jvm.MethodName)) ∈ lw_tbl := List.mem_of_getElem? (i := 1204) (by decide +kernel)
theorem q_1117 : (Jvm.Cond.code ({ cls := "PairSymbolsModel", name := "becomes", desc := "()I" } : Jvm.MethodName) prog_12_method_71_code (3 : Nat) (Option.some Jvm.ClassFile.FieldType.int)) ∈ lw_tbl := List.mem_of_getElem? (i := 1205) (by decide +kernel)
theorem q_1118 : (Jvm.Cond.methodLink "PairSymbolsLaw" (70 : Nat) ({ cls := "PairSymbolsModel", name := "applies", desc := "(I)I" } : Jvm.MethodName)) ∈ lw_tbl := List.mem_of_getElem? (i := 1206) (by decide +kernel)
theorem q_1119 : (Jvm.Cond.instanceMethod ({ cls := "PairSymbolsModel", name := "applies", desc := "(I)I" } : Jvm.MethodName)) ∈ lw_tbl := List.mem_of_getElem? (i := 1207) (by decide +kernel)
theorem q_1120 : (Jvm.Cond.selects "PairSymbolsModel" ({ cls := "PairSymbolsModel", name := "applies", desc := "(I)I" } : Jvm.MethodName) ({ cls := "PairSymbolsModel", name := "applies", desc := "(I)I" } : Jvm.MethodName)) ∈ lw_tbl := List.mem_of_getElem? (i := 1208) (by decide +kernel)
theorem q_1121 : (Jvm.Cond.code ({ cls := "PairSymbolsModel", name := "applies", desc := "(I)I" } : Jvm.MethodName) prog_12_method_75_code (3 : Nat) (Option.some Jvm.ClassFile.FieldType.int)) ∈ lw_tbl := List.mem_of_getElem? (i := 1209) (by decide +kernel)
theorem q_1122 : (Jvm.Cond.methodLink "PairSymbolsModel" (380 : Nat) ({ cls := "PairSymbolsModel", name := "canApply", desc := "(I)I" } : Jvm.MethodName)) ∈ lw_tbl := List.mem_of_getElem? (i := 1210) (by decide +kernel)
theorem q_1123 : (Jvm.Cond.privateMethod ({ cls := "PairSymbolsModel", name := "canApply", desc := "(I)I" } : Jvm.MethodName)) ∈ lw_tbl := List.mem_of_getElem? (i := 1211) (by decide +kernel)
theorem q_1124 : (Jvm.Cond.instanceMethod ({ cls := "PairSymbolsModel", name := "canApply", desc := "(I)I" } : Jvm.MethodName)) ∈ lw_tbl := List.mem_of_getElem? (i := 1212) (by decide +kernel)
theorem q_1125 : (Jvm.Cond.code ({ cls := "PairSymbolsModel", name := "canApply", desc := "(I)I" } : Jvm.MethodName) prog_12_method_74_code (9 : Nat) (Option.some Jvm.ClassFile.FieldType.int)) ∈ lw_tbl := List.mem_of_getElem? (i := 1213) (by decide +kernel)
theorem q_1126 : (Jvm.Cond.methodLink "PairSymbolsLaw" (74 : Nat) ({ cls := "PairSymbolsModel", name := "walks", desc := "(II)I" } : Jvm.MethodName)) ∈ lw_tbl := List.mem_of_getElem? (i := 1214) (by decide +kernel)
theorem q_1127 : (Jvm.Cond.instanceMethod ({ cls := "PairSymbolsModel", name := "walks", desc := "(II)I" } : Jvm.MethodName)) ∈ lw_tbl := List.mem_of_getElem? (i := 1215) (by decide +kernel)
theorem q_1128 : (Jvm.Cond.selects "PairSymbolsModel" ({ cls := "PairSymbolsModel", name := "walks", desc := "(II)I" } : Jvm.MethodName) ({ cls := "PairSymbolsModel", name := "walks", desc := "(II)I" } : Jvm.MethodName)) ∈ lw_tbl := List.mem_of_getElem? (i := 1216) (by decide +kernel)
theorem q_1129 : (Jvm.Cond.code ({ cls := "PairSymbolsModel", name := "walks", desc := "(II)I" } : Jvm.MethodName) prog_12_method_77_code (4 : Nat) (Option.some Jvm.ClassFile.FieldType.int)) ∈ lw_tbl := List.mem_of_getElem? (i := 1217) (by decide +kernel)
theorem q_1130 : (Jvm.Cond.methodLink "PairSymbolsModel" (385 : Nat) ({ cls := "PairSymbolsModel", name := "canWalk", desc := "(II)I" } : Jvm.MethodName)) ∈ lw_tbl := List.mem_of_getElem? (i := 1218) (by decide +kernel)
theorem q_1131 : (Jvm.Cond.privateMethod ({ cls := "PairSymbolsModel", name := "canWalk", desc := "(II)I" } : Jvm.MethodName)) ∈ lw_tbl := List.mem_of_getElem? (i := 1219) (by decide +kernel)
theorem q_1132 : (Jvm.Cond.instanceMethod ({ cls := "PairSymbolsModel", name := "canWalk", desc := "(II)I" } : Jvm.MethodName)) ∈ lw_tbl := List.mem_of_getElem? (i := 1220) (by decide +kernel)
theorem q_1133 : (Jvm.Cond.code ({ cls := "PairSymbolsModel", name := "canWalk", desc := "(II)I" } : Jvm.MethodName) prog_12_method_76_code (11 : Nat) (Option.some Jvm.ClassFile.FieldType.int)) ∈ lw_tbl := List.mem_of_getElem? (i := 1221) (by decide +kernel)
theorem q_1134 : (Jvm.Cond.constantLong "PairSymbolsModel" (383 : Nat) (99 : Int64)) ∈ lw_tbl := List.mem_of_getElem? (i := 1222) (by decide +kernel)
theorem q_1135 : (Jvm.Cond.methodLink "PairSymbolsLaw" (78 : Nat) ({ cls := "PairSymbolsModel", name := "sum", desc := "(II)J" } : Jvm.MethodName)) ∈ lw_tbl := List.mem_of_getElem? (i := 1223) (by decide +kernel)
theorem q_1136 : (Jvm.Cond.instanceMethod ({ cls := "PairSymbolsModel", name := "sum", desc := "(II)J" } : Jvm.MethodName)) ∈ lw_tbl := List.mem_of_getElem? (i := 1224) (by decide +kernel)
theorem q_1137 : (Jvm.Cond.selects "PairSymbolsModel" ({ cls := "PairSymbolsModel", name := "sum", desc := "(II)J" } : Jvm.MethodName) ({ cls := "PairSymbolsModel", name := "sum", desc := "(II)J" } : Jvm.MethodName)) ∈ lw_tbl := List.mem_of_getElem? (i := 1225) (by decide +kernel)
theorem q_1138 : (Jvm.Cond.code ({ cls := "PairSymbolsModel", name := "sum", desc := "(II)J" } : Jvm.MethodName) prog_12_method_78_code (3 : Nat) (Option.some Jvm.ClassFile.FieldType.long)) ∈ lw_tbl := List.mem_of_getElem? (i := 1226) (by decide +kernel)
theorem q_1139 : (Jvm.Cond.methodLink "PairSymbolsLaw" (82 : Nat) ({ cls := "PairSymbolsModel", name := "boundary", desc := "(II)J" } : Jvm.MethodName)) ∈ lw_tbl := List.mem_of_getElem? (i := 1227) (by decide +kernel)
theorem q_1140 : (Jvm.Cond.instanceMethod ({ cls := "PairSymbolsModel", name := "boundary", desc := "(II)J" } : Jvm.MethodName)) ∈ lw_tbl := List.mem_of_getElem? (i := 1228) (by decide +kernel)
theorem q_1141 : (Jvm.Cond.selects "PairSymbolsModel" ({ cls := "PairSymbolsModel", name := "boundary", desc := "(II)J" } : Jvm.MethodName) ({ cls := "PairSymbolsModel", name := "boundary", desc := "(II)J" } : Jvm.MethodName)) ∈ lw_tbl := List.mem_of_getElem? (i := 1229) (by decide +kernel)
theorem q_1142 : (Jvm.Cond.code ({ cls := "PairSymbolsModel", name := "boundary", desc := "(II)J" } : Jvm.MethodName) prog_12_method_80_code (3 : Nat) (Option.some Jvm.ClassFile.FieldType.long)) ∈ lw_tbl := List.mem_of_getElem? (i := 1230) (by decide +kernel)
theorem q_1143 : (Jvm.Cond.methodLink "PairSymbolsModel" (388 : Nat) ({ cls := "PairSymbolsModel", name := "laysBoundary", desc := "(I)V" } : Jvm.MethodName)) ∈ lw_tbl := List.mem_of_getElem? (i := 1231) (by decide +kernel)
theorem q_1144 : (Jvm.Cond.privateMethod ({ cls := "PairSymbolsModel", name := "laysBoundary", desc := "(I)V" } : Jvm.MethodName)) ∈ lw_tbl := List.mem_of_getElem? (i := 1232) (by decide +kernel)
theorem q_1145 : (Jvm.Cond.instanceMethod ({ cls := "PairSymbolsModel", name := "laysBoundary", desc := "(I)V" } : Jvm.MethodName)) ∈ lw_tbl := List.mem_of_getElem? (i := 1233) (by decide +kernel)
theorem q_1146 : (Jvm.Cond.code ({ cls := "PairSymbolsModel", name := "laysBoundary", desc := "(I)V" } : Jvm.MethodName) prog_12_method_79_code (3 : Nat) (Option.none : Option Jvm.ClassFile.FieldType)) ∈ lw_tbl := List.mem_of_getElem? (i := 1234) (by decide +kernel)
theorem q_1147 : (Jvm.Cond.methodLink "PairSymbolsLaw" (86 : Nat) ({ cls := "PairSymbolsModel", name := "cuspidal", desc := "()I" } : Jvm.MethodName)) ∈ lw_tbl := List.mem_of_getElem? (i := 1235) (by decide +kernel)
theorem q_1148 : (Jvm.Cond.instanceMethod ({ cls := "PairSymbolsModel", name := "cuspidal", desc := "()I" } : Jvm.MethodName)) ∈ lw_tbl := List.mem_of_getElem? (i := 1236) (by decide +kernel)
theorem q_1149 : (Jvm.Cond.selects "PairSymbolsModel" ({ cls := "PairSymbolsModel", name := "cuspidal", desc := "()I" } : Jvm.MethodName) ({ cls := "PairSymbolsModel", name := "cuspidal", desc := "()I" } : Jvm.MethodName)) ∈ lw_tbl := List.mem_of_getElem? (i := 1237) (by decide +kernel)
theorem q_1150 : (Jvm.Cond.code ({ cls := "PairSymbolsModel", name := "cuspidal", desc := "()I" } : Jvm.MethodName) prog_12_method_82_code (1 : Nat) (Option.some Jvm.ClassFile.FieldType.int)) ∈ lw_tbl := List.mem_of_getElem? (i := 1238) (by decide +kernel)
theorem q_1151 : (Jvm.Cond.methodLink "PairSymbolsModel" (391 : Nat) ({ cls := "PairSymbolsModel", name := "isCuspidal", desc := "()Z" } : Jvm.MethodName)) ∈ lw_tbl := List.mem_of_getElem? (i := 1239) (by decide +kernel)
theorem q_1152 : (Jvm.Cond.privateMethod ({ cls := "PairSymbolsModel", name := "isCuspidal", desc := "()Z" } : Jvm.MethodName)) ∈ lw_tbl := List.mem_of_getElem? (i := 1240) (by decide +kernel)
theorem q_1153 : (Jvm.Cond.instanceMethod ({ cls := "PairSymbolsModel", name := "isCuspidal", desc := "()Z" } : Jvm.MethodName)) ∈ lw_tbl := List.mem_of_getElem? (i := 1241) (by decide +kernel)
theorem q_1154 : (Jvm.Cond.code ({ cls := "PairSymbolsModel", name := "isCuspidal", desc := "()Z" } : Jvm.MethodName) prog_12_method_81_code (3 : Nat) (Option.some Jvm.ClassFile.FieldType.boolean)) ∈ lw_tbl := List.mem_of_getElem? (i := 1242) (by decide +kernel)
theorem q_1155 : (Jvm.Cond.methodLink "PairSymbolsLaw" (90 : Nat) ({ cls := "PairSymbolsModel", name := "type", desc := "(I)I" } : Jvm.MethodName)) ∈ lw_tbl := List.mem_of_getElem? (i := 1243) (by decide +kernel)
theorem q_1156 : (Jvm.Cond.instanceMethod ({ cls := "PairSymbolsModel", name := "type", desc := "(I)I" } : Jvm.MethodName)) ∈ lw_tbl := List.mem_of_getElem? (i := 1244) (by decide +kernel)
theorem q_1157 : (Jvm.Cond.selects "PairSymbolsModel" ({ cls := "PairSymbolsModel", name := "type", desc := "(I)I" } : Jvm.MethodName) ({ cls := "PairSymbolsModel", name := "type", desc := "(I)I" } : Jvm.MethodName)) ∈ lw_tbl := List.mem_of_getElem? (i := 1245) (by decide +kernel)
theorem q_1158 : (Jvm.Cond.code ({ cls := "PairSymbolsModel", name := "type", desc := "(I)I" } : Jvm.MethodName) prog_12_method_83_code (2 : Nat) (Option.some Jvm.ClassFile.FieldType.int)) ∈ lw_tbl := List.mem_of_getElem? (i := 1246) (by decide +kernel)
theorem q_1159 : (Jvm.Cond.constantLong "PairSymbolsModel" (395 : Nat) (127 : Int64)) ∈ lw_tbl := List.mem_of_getElem? (i := 1247) (by decide +kernel)
theorem q_1160 : (Jvm.Cond.methodLink "PairSymbolsLaw" (94 : Nat) ({ cls := "PairSymbolsModel", name := "clea\x72", desc := "()I" } : Jvm.MethodName)) ∈ lw_tbl := List.mem_of_getElem? (i := 1248) (by decide +kernel)
theorem q_1161 : (Jvm.Cond.instanceMethod ({ cls := "PairSymbolsModel", name := "clea\x72", desc := "()I" } : Jvm.MethodName)) ∈ lw_tbl := List.mem_of_getElem? (i := 1249) (by decide +kernel)
theorem q_1162 : (Jvm.Cond.selects "PairSymbolsModel" ({ cls := "PairSymbolsModel", name := "clea\x72", desc := "()I" } : Jvm.MethodName) ({ cls := "PairSymbolsModel", name := "clea\x72", desc := "()I" } : Jvm.MethodName)) ∈ lw_tbl := List.mem_of_getElem? (i := 1250) (by decide +kernel)
theorem q_1163 : (Jvm.Cond.code ({ cls := "PairSymbolsModel", name := "clea\x72", desc := "()I" } : Jvm.MethodName) prog_12_method_84_code (2 : Nat) (Option.some Jvm.ClassFile.FieldType.int)) ∈ lw_tbl := List.mem_of_getElem? (i := 1251) (by decide +kernel)
theorem q_1164 : (Jvm.Cond.methodLink "PairSymbolsLaw" (98 : Nat) ({ cls := "PairSymbolsModel", name := "reads", desc := "()I" } : Jvm.MethodName)) ∈ lw_tbl := List.mem_of_getElem? (i := 1252) (by decide +kernel)
theorem q_1165 : (Jvm.Cond.instanceMethod ({ cls := "PairSymbolsModel", name := "reads", desc := "()I" } : Jvm.MethodName)) ∈ lw_tbl := List.mem_of_getElem? (i := 1253) (by decide +kernel)
theorem q_1166 : (Jvm.Cond.selects "PairSymbolsModel" ({ cls := "PairSymbolsModel", name := "reads", desc := "()I" } : Jvm.MethodName) ({ cls := "PairSymbolsModel", name := "reads", desc := "()I" } : Jvm.MethodName)) ∈ lw_tbl := List.mem_of_getElem? (i := 1254) (by decide +kernel)
theorem q_1167 : (Jvm.Cond.code ({ cls := "PairSymbolsModel", name := "reads", desc := "()I" } : Jvm.MethodName) prog_12_method_92_code (4 : Nat) (Option.some Jvm.ClassFile.FieldType.int)) ∈ lw_tbl := List.mem_of_getElem? (i := 1255) (by decide +kernel)
theorem q_1168 : (Jvm.Cond.methodLink "PairSymbolsModel" (438 : Nat) ({ cls := "PairSymbolsModel", name := "readsOrde\x72", desc := "(Z)Z" } : Jvm.MethodName)) ∈ lw_tbl := List.mem_of_getElem? (i := 1256) (by decide +kernel)
theorem q_1169 : (Jvm.Cond.privateMethod ({ cls := "PairSymbolsModel", name := "readsOrde\x72", desc := "(Z)Z" } : Jvm.MethodName)) ∈ lw_tbl := List.mem_of_getElem? (i := 1257) (by decide +kernel)
theorem q_1170 : (Jvm.Cond.instanceMethod ({ cls := "PairSymbolsModel", name := "readsOrde\x72", desc := "(Z)Z" } : Jvm.MethodName)) ∈ lw_tbl := List.mem_of_getElem? (i := 1258) (by decide +kernel)
theorem q_1171 : (Jvm.Cond.code ({ cls := "PairSymbolsModel", name := "readsOrde\x72", desc := "(Z)Z" } : Jvm.MethodName) prog_12_method_91_code (4 : Nat) (Option.some Jvm.ClassFile.FieldType.boolean)) ∈ lw_tbl := List.mem_of_getElem? (i := 1259) (by decide +kernel)
theorem q_1172 : (Jvm.Cond.methodLink "PairSymbolsModel" (407 : Nat) ({ cls := "PairSymbolsModel", name := "here", desc := "()I" } : Jvm.MethodName)) ∈ lw_tbl := List.mem_of_getElem? (i := 1260) (by decide +kernel)
theorem q_1173 : (Jvm.Cond.privateMethod ({ cls := "PairSymbolsModel", name := "here", desc := "()I" } : Jvm.MethodName)) ∈ lw_tbl := List.mem_of_getElem? (i := 1261) (by decide +kernel)
theorem q_1174 : (Jvm.Cond.instanceMethod ({ cls := "PairSymbolsModel", name := "here", desc := "()I" } : Jvm.MethodName)) ∈ lw_tbl := List.mem_of_getElem? (i := 1262) (by decide +kernel)
theorem q_1175 : (Jvm.Cond.code ({ cls := "PairSymbolsModel", name := "here", desc := "()I" } : Jvm.MethodName) prog_12_method_85_code (1 : Nat) (Option.some Jvm.ClassFile.FieldType.int)) ∈ lw_tbl := List.mem_of_getElem? (i := 1263) (by decide +kernel)
theorem q_1176 : (Jvm.Cond.methodLink "PairSymbolsModel" (426 : Nat) ({ cls := "PairSymbolsModel", name := "takesNumbers", desc := "(I)Z" } : Jvm.MethodName)) ∈ lw_tbl := List.mem_of_getElem? (i := 1264) (by decide +kernel)
theorem q_1177 : (Jvm.Cond.privateMethod ({ cls := "PairSymbolsModel", name := "takesNumbers", desc := "(I)Z" } : Jvm.MethodName)) ∈ lw_tbl := List.mem_of_getElem? (i := 1265) (by decide +kernel)
theorem q_1178 : (Jvm.Cond.instanceMethod ({ cls := "PairSymbolsModel", name := "takesNumbers", desc := "(I)Z" } : Jvm.MethodName)) ∈ lw_tbl := List.mem_of_getElem? (i := 1266) (by decide +kernel)
theorem q_1179 : (Jvm.Cond.code ({ cls := "PairSymbolsModel", name := "takesNumbers", desc := "(I)Z" } : Jvm.MethodName) prog_12_method_88_code (3 : Nat) (Option.some Jvm.ClassFile.FieldType.boolean)) ∈ lw_tbl := List.mem_of_getElem? (i := 1267) (by decide +kernel)
theorem q_1180 : (Jvm.Cond.methodLink "PairSymbolsModel" (416 : Nat) ({ cls := "PairSymbolsModel", name := "takes", desc := "(Z)Z" } : Jvm.MethodName)) ∈ lw_tbl := List.mem_of_getElem? (i := 1268) (by decide +kernel)
theorem q_1181 : (Jvm.Cond.privateMethod ({ cls := "PairSymbolsModel", name := "takes", desc := "(Z)Z" } : Jvm.MethodName)) ∈ lw_tbl := List.mem_of_getElem? (i := 1269) (by decide +kernel)
theorem q_1182 : (Jvm.Cond.instanceMethod ({ cls := "PairSymbolsModel", name := "takes", desc := "(Z)Z" } : Jvm.MethodName)) ∈ lw_tbl := List.mem_of_getElem? (i := 1270) (by decide +kernel)
theorem q_1183 : (Jvm.Cond.code ({ cls := "PairSymbolsModel", name := "takes", desc := "(Z)Z" } : Jvm.MethodName) prog_12_method_87_code (5 : Nat) (Option.some Jvm.ClassFile.FieldType.boolean)) ∈ lw_tbl := List.mem_of_getElem? (i := 1271) (by decide +kernel)
theorem q_1184 : (Jvm.Cond.methodLink "PairSymbolsModel" (413 : Nat) ({ cls := "PairSymbolsModel", name := "isFigure", desc := "(I)Z" } : Jvm.MethodName)) ∈ lw_tbl := List.mem_of_getElem? (i := 1272) (by decide +kernel)
theorem q_1185 : (Jvm.Cond.privateMethod ({ cls := "PairSymbolsModel", name := "isFigure", desc := "(I)Z" } : Jvm.MethodName)) ∈ lw_tbl := List.mem_of_getElem? (i := 1273) (by decide +kernel)
theorem q_1186 : (Jvm.Cond.instanceMethod ({ cls := "PairSymbolsModel", name := "isFigure", desc := "(I)Z" } : Jvm.MethodName)) ∈ lw_tbl := List.mem_of_getElem? (i := 1274) (by decide +kernel)
theorem q_1187 : (Jvm.Cond.code ({ cls := "PairSymbolsModel", name := "isFigure", desc := "(I)Z" } : Jvm.MethodName) prog_12_method_86_code (2 : Nat) (Option.some Jvm.ClassFile.FieldType.boolean)) ∈ lw_tbl := List.mem_of_getElem? (i := 1275) (by decide +kernel)
theorem q_1188 : (Jvm.Cond.constantLong "PairSymbolsModel" (403 : Nat) (48 : Int64)) ∈ lw_tbl := List.mem_of_getElem? (i := 1276) (by decide +kernel)
theorem q_1189 : (Jvm.Cond.constantLong "PairSymbolsModel" (405 : Nat) (57 : Int64)) ∈ lw_tbl := List.mem_of_getElem? (i := 1277) (by decide +kernel)
theorem q_1190 : (Jvm.Cond.methodLink "PairSymbolsModel" (429 : Nat) ({ cls := "PairSymbolsModel", name := "can", desc := "(I)I" } : Jvm.MethodName)) ∈ lw_tbl := List.mem_of_getElem? (i := 1278) (by decide +kernel)
theorem q_1191 : (Jvm.Cond.privateMethod ({ cls := "PairSymbolsModel", name := "can", desc := "(I)I" } : Jvm.MethodName)) ∈ lw_tbl := List.mem_of_getElem? (i := 1279) (by decide +kernel)
theorem q_1192 : (Jvm.Cond.instanceMethod ({ cls := "PairSymbolsModel", name := "can", desc := "(I)I" } : Jvm.MethodName)) ∈ lw_tbl := List.mem_of_getElem? (i := 1280) (by decide +kernel)
theorem q_1193 : (Jvm.Cond.code ({ cls := "PairSymbolsModel", name := "can", desc := "(I)I" } : Jvm.MethodName) prog_12_method_89_code (2 : Nat) (Option.some Jvm.ClassFile.FieldType.int)) ∈ lw_tbl := List.mem_of_getElem? (i := 1281) (by decide +kernel)
theorem q_1194 : (Jvm.Cond.methodLink "PairSymbolsModel" (435 : Nat) ({ cls := "PairSymbolsModel", name := "does", desc := "(I)I" } : Jvm.MethodName)) ∈ lw_tbl := List.mem_of_getElem? (i := 1282) (by decide +kernel)
theorem q_1195 : (Jvm.Cond.privateMethod ({ cls := "PairSymbolsModel", name := "does", desc := "(I)I" } : Jvm.MethodName)) ∈ lw_tbl := List.mem_of_getElem? (i := 1283) (by decide +kernel)
theorem q_1196 : (Jvm.Cond.instanceMethod ({ cls := "PairSymbolsModel", name := "does", desc := "(I)I" } : Jvm.MethodName)) ∈ lw_tbl := List.mem_of_getElem? (i := 1284) (by decide +kernel)
theorem q_1197 : (Jvm.Cond.code ({ cls := "PairSymbolsModel", name := "does", desc := "(I)I" } : Jvm.MethodName) prog_12_method_90_code (2 : Nat) (Option.some Jvm.ClassFile.FieldType.int)) ∈ lw_tbl := List.mem_of_getElem? (i := 1285) (by decide +kernel)
theorem q_1198 : (Jvm.Cond.methodLink "PairSymbolsModel" (441 : Nat) ({ cls := "PairSymbolsModel", name := "keepsAside", desc := "()V" } : Jvm.MethodName)) ∈ lw_tbl := List.mem_of_getElem? (i := 1286) (by decide +kernel)
theorem q_1199 : (Jvm.Cond.privateMethod ({ cls := "PairSymbolsModel", name := "keepsAside", desc := "()V" } : Jvm.MethodName)) ∈ lw_tbl := List.mem_of_getElem? (i := 1287) (by decide +kernel)
theorem q_1200 : (Jvm.Cond.instanceMethod ({ cls := "PairSymbolsModel", name := "keepsAside", desc := "()V" } : Jvm.MethodName)) ∈ lw_tbl := List.mem_of_getElem? (i := 1288) (by decide +kernel)
theorem q_1201 : (Jvm.Cond.code ({ cls := "PairSymbolsModel", name := "keepsAside", desc := "()V" } : Jvm.MethodName) prog_12_method_93_code (4 : Nat) (Option.none : Option Jvm.ClassFile.FieldType)) ∈ lw_tbl := List.mem_of_getElem? (i := 1289) (by decide +kernel)
theorem q_1202 : (Jvm.Cond.methodLink "PairSymbolsLaw" (102 : Nat) ({ cls := "PairSymbolsModel", name := "back", desc := "()I" } : Jvm.MethodName)) ∈ lw_tbl := List.mem_of_getElem? (i := 1290) (by decide +kernel)
theorem q_1203 : (Jvm.Cond.instanceMethod ({ cls := "PairSymbolsModel", name := "back", desc := "()I" } : Jvm.MethodName)) ∈ lw_tbl := List.mem_of_getElem? (i := 1291) (by decide +kernel)
theorem q_1204 : (Jvm.Cond.selects "PairSymbolsModel" ({ cls := "PairSymbolsModel", name := "back", desc := "()I" } : Jvm.MethodName) ({ cls := "PairSymbolsModel", name := "back", desc := "()I" } : Jvm.MethodName)) ∈ lw_tbl := List.mem_of_getElem? (i := 1292) (by decide +kernel)
theorem q_1205 : (Jvm.Cond.code ({ cls := "PairSymbolsModel", name := "back", desc := "()I" } : Jvm.MethodName) prog_12_method_94_code (2 : Nat) (Option.some Jvm.ClassFile.FieldType.int)) ∈ lw_tbl := List.mem_of_getElem? (i := 1293) (by decide +kernel)
theorem q_1206 : (Jvm.Cond.methodLink "PairSymbolsLaw" (106 : Nat) ({ cls := "PairSymbolsModel", name := "told", desc := "(I)I" } : Jvm.MethodName)) ∈ lw_tbl := List.mem_of_getElem? (i := 1294) (by decide +kernel)
theorem q_1207 : (Jvm.Cond.instanceMethod ({ cls := "PairSymbolsModel", name := "told", desc := "(I)I" } : Jvm.MethodName)) ∈ lw_tbl := List.mem_of_getElem? (i := 1295) (by decide +kernel)
theorem q_1208 : (Jvm.Cond.selects "PairSymbolsModel" ({ cls := "PairSymbolsModel", name := "told", desc := "(I)I" } : Jvm.MethodName) ({ cls := "PairSymbolsModel", name := "told", desc := "(I)I" } : Jvm.MethodName)) ∈ lw_tbl := List.mem_of_getElem? (i := 1296) (by decide +kernel)
theorem q_1209 : (Jvm.Cond.code ({ cls := "PairSymbolsModel", name := "told", desc := "(I)I" } : Jvm.MethodName) prog_12_method_96_code (2 : Nat) (Option.some Jvm.ClassFile.FieldType.int)) ∈ lw_tbl := List.mem_of_getElem? (i := 1297) (by decide +kernel)
theorem q_1210 : (Jvm.Cond.methodLink "PairSymbolsModel" (444 : Nat) ({ cls := "PairSymbolsModel", name := "toldOf", desc := "(I)I" } : Jvm.MethodName)) ∈ lw_tbl := List.mem_of_getElem? (i := 1298) (by decide +kernel)
theorem q_1211 : (Jvm.Cond.privateMethod ({ cls := "PairSymbolsModel", name := "toldOf", desc := "(I)I" } : Jvm.MethodName)) ∈ lw_tbl := List.mem_of_getElem? (i := 1299) (by decide +kernel)
theorem q_1212 : (Jvm.Cond.instanceMethod ({ cls := "PairSymbolsModel", name := "toldOf", desc := "(I)I" } : Jvm.MethodName)) ∈ lw_tbl := List.mem_of_getElem? (i := 1300) (by decide +kernel)
theorem q_1213 : (Jvm.Cond.code ({ cls := "PairSymbolsModel", name := "toldOf", desc := "(I)I" } : Jvm.MethodName) prog_12_method_95_code (2 : Nat) (Option.some Jvm.ClassFile.FieldType.int)) ∈ lw_tbl := List.mem_of_getElem? (i := 1301) (by decide +kernel)
theorem q_1214 : (Jvm.Cond.methodLink "PairSymbolsLaw" (111 : Nat) ({ cls := "PairSymbolsModel", name := "digest", desc := "()J" } : Jvm.MethodName)) ∈ lw_tbl := List.mem_of_getElem? (i := 1302) (by decide +kernel)
theorem q_1215 : (Jvm.Cond.instanceMethod ({ cls := "PairSymbolsModel", name := "digest", desc := "()J" } : Jvm.MethodName)) ∈ lw_tbl := List.mem_of_getElem? (i := 1303) (by decide +kernel)
theorem q_1216 : (Jvm.Cond.selects "PairSymbolsModel" ({ cls := "PairSymbolsModel", name := "digest", desc := "()J" } : Jvm.MethodName) ({ cls := "PairSymbolsModel", name := "digest", desc := "()J" } : Jvm.MethodName)) ∈ lw_tbl := List.mem_of_getElem? (i := 1304) (by decide +kernel)
theorem q_1217 : (Jvm.Cond.code ({ cls := "PairSymbolsModel", name := "digest", desc := "()J" } : Jvm.MethodName) prog_12_method_97_code (4 : Nat) (Option.some Jvm.ClassFile.FieldType.long)) ∈ lw_tbl := List.mem_of_getElem? (i := 1305) (by decide +kernel)
theorem q_1218 : (Jvm.Cond.constantLong "PairSymbolsModel" (447 : Nat) (2297 : Int64)) ∈ lw_tbl := List.mem_of_getElem? (i := 1306) (by decide +kernel)
theorem q_1219 : (Jvm.Cond.constantLong "PairSymbolsModel" (449 : Nat) (31 : Int64)) ∈ lw_tbl := List.mem_of_getElem? (i := 1307) (by decide +kernel)
theorem z_0 : Cond.selects "PairSymbols$Level" ⟨"PairSymbols$Level", "numberPairs", "()I"⟩ ⟨"PairSymbols$Level", "numberPairs", "()I"⟩ ∈ lw_tbl := List.mem_of_getElem? (i := 0) (by decide +kernel)
theorem z_1 : Cond.selects "PairSymbols$Level" ⟨"PairSymbols$Level", "markClass", "(III)V"⟩ ⟨"PairSymbols$Level", "markClass", "(III)V"⟩ ∈ lw_tbl := List.mem_of_getElem? (i := 1) (by decide +kernel)
theorem z_2 : Cond.selects "PairSymbols$Level" ⟨"PairSymbols$Level", "listPairs", "()V"⟩ ⟨"PairSymbols$Level", "listPairs", "()V"⟩ ∈ lw_tbl := List.mem_of_getElem? (i := 2) (by decide +kernel)
theorem z_3 : Cond.selects "PairSymbols$Level" ⟨"PairSymbols$Level", "listMaps", "()V"⟩ ⟨"PairSymbols$Level", "listMaps", "()V"⟩ ∈ lw_tbl := List.mem_of_getElem? (i := 3) (by decide +kernel)
theorem z_4 : Cond.selects "PairSymbols$Level" ⟨"PairSymbols$Level", "numberCusps", "()I"⟩ ⟨"PairSymbols$Level", "numberCusps", "()I"⟩ ∈ lw_tbl := List.mem_of_getElem? (i := 4) (by decide +kernel)
theorem z_5 : Cond.selects "PairSymbols$Level" ⟨"PairSymbols$Level", "relateSymbols", "(LPairSymbols$Relations;)V"⟩ ⟨"PairSymbols$Level", "relateSymbols", "(LPairSymbols$Relations;)V"⟩ ∈ lw_tbl := List.mem_of_getElem? (i := 5) (by decide +kernel)
theorem z_6 : Cond.selects "PairSymbols$Relations" ⟨"PairSymbols$Relations", "bind", "(I[I)V"⟩ ⟨"PairSymbols$Relations", "bind", "(I[I)V"⟩ ∈ lw_tbl := List.mem_of_getElem? (i := 6) (by decide +kernel)
theorem z_7 : Cond.selects "PairSymbols$Level" ⟨"PairSymbols$Level", "relateCoordinates", "(LPairSymbols$Relations;)V"⟩ ⟨"PairSymbols$Level", "relateCoordinates", "(LPairSymbols$Relations;)V"⟩ ∈ lw_tbl := List.mem_of_getElem? (i := 7) (by decide +kernel)
theorem z_8 : Cond.selects "PairSymbols" ⟨"PairSymbols", "ente\x72", "(I)I"⟩ ⟨"PairSymbols", "ente\x72", "(I)I"⟩ ∈ lw_tbl := List.mem_of_getElem? (i := 8) (by decide +kernel)
theorem z_9 : Cond.selects "PairSymbols" ⟨"PairSymbols", "settle", "(I)I"⟩ ⟨"PairSymbols", "settle", "(I)I"⟩ ∈ lw_tbl := List.mem_of_getElem? (i := 9) (by decide +kernel)
theorem z_10 : Cond.selects "PairSymbols" ⟨"PairSymbols", "refuse", "(I)I"⟩ ⟨"PairSymbols", "refuse", "(I)I"⟩ ∈ lw_tbl := List.mem_of_getElem? (i := 10) (by decide +kernel)
theorem z_11 : Cond.selects "PairSymbols$History" ⟨"PairSymbols$History", "forgetOldest", "()V"⟩ ⟨"PairSymbols$History", "forgetOldest", "()V"⟩ ∈ lw_tbl := List.mem_of_getElem? (i := 11) (by decide +kernel)
theorem z_12 : Cond.selects "PairSymbols$Operato\x72" ⟨"PairSymbols$Operato\x72", "addTerms", "(LPairSymbols$Level;I)V"⟩ ⟨"PairSymbols$Operato\x72", "addTerms", "(LPairSymbols$Level;I)V"⟩ ∈ lw_tbl := List.mem_of_getElem? (i := 12) (by decide +kernel)
theorem z_13 : Cond.selects "PairSymbols$Operato\x72" ⟨"PairSymbols$Operato\x72", "addTerm", "(LPairSymbols$Level;IIII)V"⟩ ⟨"PairSymbols$Operato\x72", "addTerm", "(LPairSymbols$Level;IIII)V"⟩ ∈ lw_tbl := List.mem_of_getElem? (i := 13) (by decide +kernel)
theorem z_14 : Cond.selects "PairSymbols$Operato\x72" ⟨"PairSymbols$Operato\x72", "restrictTo", "(LPairSymbols$Cycles;)V"⟩ ⟨"PairSymbols$Operato\x72", "restrictTo", "(LPairSymbols$Cycles;)V"⟩ ∈ lw_tbl := List.mem_of_getElem? (i := 14) (by decide +kernel)
theorem z_15 : Cond.selects "PairSymbols$Formulas" ⟨"PairSymbols$Formulas", "oldForms", "(I)I"⟩ ⟨"PairSymbols$Formulas", "oldForms", "(I)I"⟩ ∈ lw_tbl := List.mem_of_getElem? (i := 15) (by decide +kernel)
theorem z_16 : Cond.selects "PairSymbols$State" ⟨"PairSymbols$State", "addSymbol", "(II)V"⟩ ⟨"PairSymbols$State", "addSymbol", "(II)V"⟩ ∈ lw_tbl := List.mem_of_getElem? (i := 16) (by decide +kernel)
theorem z_17 : Cond.selects "PairSymbols$State" ⟨"PairSymbols$State", "verdict", "()I"⟩ ⟨"PairSymbols$State", "verdict", "()I"⟩ ∈ lw_tbl := List.mem_of_getElem? (i := 17) (by decide +kernel)
theorem z_18 : Cond.selects "PairSymbols$Script" ⟨"PairSymbols$Script", "skipBlanks", "()V"⟩ ⟨"PairSymbols$Script", "skipBlanks", "()V"⟩ ∈ lw_tbl := List.mem_of_getElem? (i := 18) (by decide +kernel)
theorem z_19 : Cond.selects "PairSymbols$Script" ⟨"PairSymbols$Script", "byteHere", "()I"⟩ ⟨"PairSymbols$Script", "byteHere", "()I"⟩ ∈ lw_tbl := List.mem_of_getElem? (i := 19) (by decide +kernel)
theorem z_20 : Cond.selects "PairSymbols$Script" ⟨"PairSymbols$Script", "parseCommand", "()Z"⟩ ⟨"PairSymbols$Script", "parseCommand", "()Z"⟩ ∈ lw_tbl := List.mem_of_getElem? (i := 20) (by decide +kernel)
theorem z_21 : Cond.selects "PairSymbols$Script" ⟨"PairSymbols$Script", "parseNumbe\x72", "(Z)Z"⟩ ⟨"PairSymbols$Script", "parseNumbe\x72", "(Z)Z"⟩ ∈ lw_tbl := List.mem_of_getElem? (i := 21) (by decide +kernel)
theorem z_22 : Cond.selects "PairSymbols$Script" ⟨"PairSymbols$Script", "digitHere", "()Z"⟩ ⟨"PairSymbols$Script", "digitHere", "()Z"⟩ ∈ lw_tbl := List.mem_of_getElem? (i := 22) (by decide +kernel)
theorem z_23 : Cond.selects "PairSymbols" ⟨"PairSymbols", "perform", "(I)I"⟩ ⟨"PairSymbols", "perform", "(I)I"⟩ ∈ lw_tbl := List.mem_of_getElem? (i := 23) (by decide +kernel)
theorem z_24 : Cond.selects "PairSymbolsModel" ⟨"PairSymbolsModel", "zeroes", "()V"⟩ ⟨"PairSymbolsModel", "zeroes", "()V"⟩ ∈ lw_tbl := List.mem_of_getElem? (i := 24) (by decide +kernel)
theorem z_25 : Cond.selects "PairSymbolsModel" ⟨"PairSymbolsModel", "refuses", "(I)I"⟩ ⟨"PairSymbolsModel", "refuses", "(I)I"⟩ ∈ lw_tbl := List.mem_of_getElem? (i := 25) (by decide +kernel)
theorem z_26 : Cond.selects "PairSymbolsModel" ⟨"PairSymbolsModel", "keep", "()V"⟩ ⟨"PairSymbolsModel", "keep", "()V"⟩ ∈ lw_tbl := List.mem_of_getElem? (i := 26) (by decide +kernel)
theorem z_27 : Cond.selects "PairSymbolsModel" ⟨"PairSymbolsModel", "levelNow", "(I)I"⟩ ⟨"PairSymbolsModel", "levelNow", "(I)I"⟩ ∈ lw_tbl := List.mem_of_getElem? (i := 27) (by decide +kernel)
theorem z_28 : Cond.selects "PairSymbolsModel" ⟨"PairSymbolsModel", "levelHere", "()I"⟩ ⟨"PairSymbolsModel", "levelHere", "()I"⟩ ∈ lw_tbl := List.mem_of_getElem? (i := 28) (by decide +kernel)
theorem z_29 : Cond.selects "PairSymbolsModel" ⟨"PairSymbolsModel", "lays", "()V"⟩ ⟨"PairSymbolsModel", "lays", "()V"⟩ ∈ lw_tbl := List.mem_of_getElem? (i := 29) (by decide +kernel)
theorem z_30 : Cond.selects "PairSymbolsModel" ⟨"PairSymbolsModel", "isPai\x72", "(II)Z"⟩ ⟨"PairSymbolsModel", "isPai\x72", "(II)Z"⟩ ∈ lw_tbl := List.mem_of_getElem? (i := 30) (by decide +kernel)
theorem z_31 : Cond.selects "PairSymbolsModel" ⟨"PairSymbolsModel", "of", "(II)I"⟩ ⟨"PairSymbolsModel", "of", "(II)I"⟩ ∈ lw_tbl := List.mem_of_getElem? (i := 31) (by decide +kernel)
theorem z_32 : Cond.selects "PairSymbolsModel" ⟨"PairSymbolsModel", "countsIn", "(II)V"⟩ ⟨"PairSymbolsModel", "countsIn", "(II)V"⟩ ∈ lw_tbl := List.mem_of_getElem? (i := 32) (by decide +kernel)
theorem z_33 : Cond.selects "PairSymbolsModel" ⟨"PairSymbolsModel", "laysCusps", "()V"⟩ ⟨"PairSymbolsModel", "laysCusps", "()V"⟩ ∈ lw_tbl := List.mem_of_getElem? (i := 33) (by decide +kernel)
theorem z_34 : Cond.selects "PairSymbolsModel" ⟨"PairSymbolsModel", "u", "(I)I"⟩ ⟨"PairSymbolsModel", "u", "(I)I"⟩ ∈ lw_tbl := List.mem_of_getElem? (i := 34) (by decide +kernel)
theorem z_35 : Cond.selects "PairSymbolsModel" ⟨"PairSymbolsModel", "laysRelations", "()V"⟩ ⟨"PairSymbolsModel", "laysRelations", "()V"⟩ ∈ lw_tbl := List.mem_of_getElem? (i := 35) (by decide +kernel)
theorem z_36 : Cond.selects "PairSymbolsModel" ⟨"PairSymbolsModel", "emptiesRow", "()V"⟩ ⟨"PairSymbolsModel", "emptiesRow", "()V"⟩ ∈ lw_tbl := List.mem_of_getElem? (i := 36) (by decide +kernel)
theorem z_37 : Cond.selects "PairSymbolsModel" ⟨"PairSymbolsModel", "addsOne", "(I)V"⟩ ⟨"PairSymbolsModel", "addsOne", "(I)V"⟩ ∈ lw_tbl := List.mem_of_getElem? (i := 37) (by decide +kernel)
theorem z_38 : Cond.selects "PairSymbolsModel" ⟨"PairSymbolsModel", "sumOf", "(JJJJ)V"⟩ ⟨"PairSymbolsModel", "sumOf", "(JJJJ)V"⟩ ∈ lw_tbl := List.mem_of_getElem? (i := 38) (by decide +kernel)
theorem z_39 : Cond.selects "PairSymbolsModel" ⟨"PairSymbolsModel", "lowest", "(JJ)V"⟩ ⟨"PairSymbolsModel", "lowest", "(JJ)V"⟩ ∈ lw_tbl := List.mem_of_getElem? (i := 39) (by decide +kernel)
theorem z_40 : Cond.selects "PairSymbolsModel" ⟨"PairSymbolsModel", "s", "(I)I"⟩ ⟨"PairSymbolsModel", "s", "(I)I"⟩ ∈ lw_tbl := List.mem_of_getElem? (i := 40) (by decide +kernel)
theorem z_41 : Cond.selects "PairSymbolsModel" ⟨"PairSymbolsModel", "relates", "()V"⟩ ⟨"PairSymbolsModel", "relates", "()V"⟩ ∈ lw_tbl := List.mem_of_getElem? (i := 41) (by decide +kernel)
theorem z_42 : Cond.selects "PairSymbolsModel" ⟨"PairSymbolsModel", "lowers", "()V"⟩ ⟨"PairSymbolsModel", "lowers", "()V"⟩ ∈ lw_tbl := List.mem_of_getElem? (i := 42) (by decide +kernel)
theorem z_43 : Cond.selects "PairSymbolsModel" ⟨"PairSymbolsModel", "more", "(JJJJJJ)V"⟩ ⟨"PairSymbolsModel", "more", "(JJJJJJ)V"⟩ ∈ lw_tbl := List.mem_of_getElem? (i := 43) (by decide +kernel)
theorem z_44 : Cond.selects "PairSymbolsModel" ⟨"PairSymbolsModel", "\x72", "(I)I"⟩ ⟨"PairSymbolsModel", "\x72", "(I)I"⟩ ∈ lw_tbl := List.mem_of_getElem? (i := 44) (by decide +kernel)
theorem z_45 : Cond.selects "PairSymbolsModel" ⟨"PairSymbolsModel", "laysFree", "()V"⟩ ⟨"PairSymbolsModel", "laysFree", "()V"⟩ ∈ lw_tbl := List.mem_of_getElem? (i := 45) (by decide +kernel)
theorem z_46 : Cond.selects "PairSymbolsModel" ⟨"PairSymbolsModel", "isSymbol", "(I)Z"⟩ ⟨"PairSymbolsModel", "isSymbol", "(I)Z"⟩ ∈ lw_tbl := List.mem_of_getElem? (i := 46) (by decide +kernel)
theorem z_47 : Cond.selects "PairSymbolsModel" ⟨"PairSymbolsModel", "symbolNow", "(II)I"⟩ ⟨"PairSymbolsModel", "symbolNow", "(II)I"⟩ ∈ lw_tbl := List.mem_of_getElem? (i := 47) (by decide +kernel)
theorem z_48 : Cond.selects "PairSymbolsModel" ⟨"PairSymbolsModel", "spaceNow", "(I)I"⟩ ⟨"PairSymbolsModel", "spaceNow", "(I)I"⟩ ∈ lw_tbl := List.mem_of_getElem? (i := 48) (by decide +kernel)
theorem z_49 : Cond.selects "PairSymbolsModel" ⟨"PairSymbolsModel", "genus", "()I"⟩ ⟨"PairSymbolsModel", "genus", "()I"⟩ ∈ lw_tbl := List.mem_of_getElem? (i := 49) (by decide +kernel)
theorem z_50 : Cond.selects "PairSymbolsModel" ⟨"PairSymbolsModel", "laysCuspidals", "()V"⟩ ⟨"PairSymbolsModel", "laysCuspidals", "()V"⟩ ∈ lw_tbl := List.mem_of_getElem? (i := 50) (by decide +kernel)
theorem z_51 : Cond.selects "PairSymbolsModel" ⟨"PairSymbolsModel", "solvesBoundary", "()V"⟩ ⟨"PairSymbolsModel", "solvesBoundary", "()V"⟩ ∈ lw_tbl := List.mem_of_getElem? (i := 51) (by decide +kernel)
theorem z_52 : Cond.selects "PairSymbolsModel" ⟨"PairSymbolsModel", "boundaryOf", "(II)I"⟩ ⟨"PairSymbolsModel", "boundaryOf", "(II)I"⟩ ∈ lw_tbl := List.mem_of_getElem? (i := 52) (by decide +kernel)
theorem z_53 : Cond.selects "PairSymbolsModel" ⟨"PairSymbolsModel", "exchanges", "(II)V"⟩ ⟨"PairSymbolsModel", "exchanges", "(II)V"⟩ ∈ lw_tbl := List.mem_of_getElem? (i := 53) (by decide +kernel)
theorem z_54 : Cond.selects "PairSymbolsModel" ⟨"PairSymbolsModel", "divides", "(II)V"⟩ ⟨"PairSymbolsModel", "divides", "(II)V"⟩ ∈ lw_tbl := List.mem_of_getElem? (i := 54) (by decide +kernel)
theorem z_55 : Cond.selects "PairSymbolsModel" ⟨"PairSymbolsModel", "takesOff", "(IIJJ)V"⟩ ⟨"PairSymbolsModel", "takesOff", "(IIJJ)V"⟩ ∈ lw_tbl := List.mem_of_getElem? (i := 55) (by decide +kernel)
theorem z_56 : Cond.selects "PairSymbolsModel" ⟨"PairSymbolsModel", "plain", "()I"⟩ ⟨"PairSymbolsModel", "plain", "()I"⟩ ∈ lw_tbl := List.mem_of_getElem? (i := 56) (by decide +kernel)
theorem z_57 : Cond.selects "PairSymbolsModel" ⟨"PairSymbolsModel", "canOperate", "(I)I"⟩ ⟨"PairSymbolsModel", "canOperate", "(I)I"⟩ ∈ lw_tbl := List.mem_of_getElem? (i := 57) (by decide +kernel)
theorem z_58 : Cond.selects "PairSymbolsModel" ⟨"PairSymbolsModel", "laysOperato\x72", "(I)V"⟩ ⟨"PairSymbolsModel", "laysOperato\x72", "(I)V"⟩ ∈ lw_tbl := List.mem_of_getElem? (i := 58) (by decide +kernel)
theorem z_59 : Cond.selects "PairSymbolsModel" ⟨"PairSymbolsModel", "laysImage", "(II)V"⟩ ⟨"PairSymbolsModel", "laysImage", "(II)V"⟩ ∈ lw_tbl := List.mem_of_getElem? (i := 59) (by decide +kernel)
theorem z_60 : Cond.selects "PairSymbolsModel" ⟨"PairSymbolsModel", "addsImage", "(I)V"⟩ ⟨"PairSymbolsModel", "addsImage", "(I)V"⟩ ∈ lw_tbl := List.mem_of_getElem? (i := 60) (by decide +kernel)
theorem z_61 : Cond.selects "PairSymbolsModel" ⟨"PairSymbolsModel", "refusesBy", "(IJ)J"⟩ ⟨"PairSymbolsModel", "refusesBy", "(IJ)J"⟩ ∈ lw_tbl := List.mem_of_getElem? (i := 61) (by decide +kernel)
theorem z_62 : Cond.selects "PairSymbolsModel" ⟨"PairSymbolsModel", "laysTable", "(IZ)V"⟩ ⟨"PairSymbolsModel", "laysTable", "(IZ)V"⟩ ∈ lw_tbl := List.mem_of_getElem? (i := 62) (by decide +kernel)
theorem z_63 : Cond.selects "PairSymbolsModel" ⟨"PairSymbolsModel", "diagonal", "()J"⟩ ⟨"PairSymbolsModel", "diagonal", "()J"⟩ ∈ lw_tbl := List.mem_of_getElem? (i := 63) (by decide +kernel)
theorem z_64 : Cond.selects "PairSymbolsModel" ⟨"PairSymbolsModel", "laysTrace", "()V"⟩ ⟨"PairSymbolsModel", "laysTrace", "()V"⟩ ∈ lw_tbl := List.mem_of_getElem? (i := 64) (by decide +kernel)
theorem z_65 : Cond.selects "PairSymbolsModel" ⟨"PairSymbolsModel", "laysPolynomial", "()V"⟩ ⟨"PairSymbolsModel", "laysPolynomial", "()V"⟩ ∈ lw_tbl := List.mem_of_getElem? (i := 65) (by decide +kernel)
theorem z_66 : Cond.selects "PairSymbolsModel" ⟨"PairSymbolsModel", "multiplies", "()V"⟩ ⟨"PairSymbolsModel", "multiplies", "()V"⟩ ∈ lw_tbl := List.mem_of_getElem? (i := 66) (by decide +kernel)
theorem z_67 : Cond.selects "PairSymbolsModel" ⟨"PairSymbolsModel", "rootOf", "(I)I"⟩ ⟨"PairSymbolsModel", "rootOf", "(I)I"⟩ ∈ lw_tbl := List.mem_of_getElem? (i := 67) (by decide +kernel)
theorem z_68 : Cond.selects "PairSymbolsModel" ⟨"PairSymbolsModel", "formulaNow", "(II)I"⟩ ⟨"PairSymbolsModel", "formulaNow", "(II)I"⟩ ∈ lw_tbl := List.mem_of_getElem? (i := 68) (by decide +kernel)
theorem z_69 : Cond.selects "PairSymbolsModel" ⟨"PairSymbolsModel", "freshOf", "(I)I"⟩ ⟨"PairSymbolsModel", "freshOf", "(I)I"⟩ ∈ lw_tbl := List.mem_of_getElem? (i := 69) (by decide +kernel)
theorem z_70 : Cond.selects "PairSymbolsModel" ⟨"PairSymbolsModel", "canAdd", "(II)I"⟩ ⟨"PairSymbolsModel", "canAdd", "(II)I"⟩ ∈ lw_tbl := List.mem_of_getElem? (i := 70) (by decide +kernel)
theorem z_71 : Cond.selects "PairSymbolsModel" ⟨"PairSymbolsModel", "laysSum", "()V"⟩ ⟨"PairSymbolsModel", "laysSum", "()V"⟩ ∈ lw_tbl := List.mem_of_getElem? (i := 71) (by decide +kernel)
theorem z_72 : Cond.selects "PairSymbolsModel" ⟨"PairSymbolsModel", "addsTo", "(IJ)V"⟩ ⟨"PairSymbolsModel", "addsTo", "(IJ)V"⟩ ∈ lw_tbl := List.mem_of_getElem? (i := 72) (by decide +kernel)
theorem z_73 : Cond.selects "PairSymbolsModel" ⟨"PairSymbolsModel", "canBe", "()I"⟩ ⟨"PairSymbolsModel", "canBe", "()I"⟩ ∈ lw_tbl := List.mem_of_getElem? (i := 73) (by decide +kernel)
theorem z_74 : Cond.selects "PairSymbolsModel" ⟨"PairSymbolsModel", "becomes", "()I"⟩ ⟨"PairSymbolsModel", "becomes", "()I"⟩ ∈ lw_tbl := List.mem_of_getElem? (i := 74) (by decide +kernel)
theorem z_75 : Cond.selects "PairSymbolsModel" ⟨"PairSymbolsModel", "canApply", "(I)I"⟩ ⟨"PairSymbolsModel", "canApply", "(I)I"⟩ ∈ lw_tbl := List.mem_of_getElem? (i := 75) (by decide +kernel)
theorem z_76 : Cond.selects "PairSymbolsModel" ⟨"PairSymbolsModel", "canWalk", "(II)I"⟩ ⟨"PairSymbolsModel", "canWalk", "(II)I"⟩ ∈ lw_tbl := List.mem_of_getElem? (i := 76) (by decide +kernel)
theorem z_77 : Cond.selects "PairSymbolsModel" ⟨"PairSymbolsModel", "laysBoundary", "(I)V"⟩ ⟨"PairSymbolsModel", "laysBoundary", "(I)V"⟩ ∈ lw_tbl := List.mem_of_getElem? (i := 77) (by decide +kernel)
theorem z_78 : Cond.selects "PairSymbolsModel" ⟨"PairSymbolsModel", "isCuspidal", "()Z"⟩ ⟨"PairSymbolsModel", "isCuspidal", "()Z"⟩ ∈ lw_tbl := List.mem_of_getElem? (i := 78) (by decide +kernel)
theorem z_79 : Cond.selects "PairSymbolsModel" ⟨"PairSymbolsModel", "readsOrde\x72", "(Z)Z"⟩ ⟨"PairSymbolsModel", "readsOrde\x72", "(Z)Z"⟩ ∈ lw_tbl := List.mem_of_getElem? (i := 79) (by decide +kernel)
theorem z_80 : Cond.selects "PairSymbolsModel" ⟨"PairSymbolsModel", "here", "()I"⟩ ⟨"PairSymbolsModel", "here", "()I"⟩ ∈ lw_tbl := List.mem_of_getElem? (i := 80) (by decide +kernel)
theorem z_81 : Cond.selects "PairSymbolsModel" ⟨"PairSymbolsModel", "takesNumbers", "(I)Z"⟩ ⟨"PairSymbolsModel", "takesNumbers", "(I)Z"⟩ ∈ lw_tbl := List.mem_of_getElem? (i := 81) (by decide +kernel)
theorem z_82 : Cond.selects "PairSymbolsModel" ⟨"PairSymbolsModel", "takes", "(Z)Z"⟩ ⟨"PairSymbolsModel", "takes", "(Z)Z"⟩ ∈ lw_tbl := List.mem_of_getElem? (i := 82) (by decide +kernel)
theorem z_83 : Cond.selects "PairSymbolsModel" ⟨"PairSymbolsModel", "isFigure", "(I)Z"⟩ ⟨"PairSymbolsModel", "isFigure", "(I)Z"⟩ ∈ lw_tbl := List.mem_of_getElem? (i := 83) (by decide +kernel)
theorem z_84 : Cond.selects "PairSymbolsModel" ⟨"PairSymbolsModel", "can", "(I)I"⟩ ⟨"PairSymbolsModel", "can", "(I)I"⟩ ∈ lw_tbl := List.mem_of_getElem? (i := 84) (by decide +kernel)
theorem z_85 : Cond.selects "PairSymbolsModel" ⟨"PairSymbolsModel", "does", "(I)I"⟩ ⟨"PairSymbolsModel", "does", "(I)I"⟩ ∈ lw_tbl := List.mem_of_getElem? (i := 85) (by decide +kernel)
theorem z_86 : Cond.selects "PairSymbolsModel" ⟨"PairSymbolsModel", "keepsAside", "()V"⟩ ⟨"PairSymbolsModel", "keepsAside", "()V"⟩ ∈ lw_tbl := List.mem_of_getElem? (i := 86) (by decide +kernel)
theorem z_87 : Cond.selects "PairSymbolsModel" ⟨"PairSymbolsModel", "toldOf", "(I)I"⟩ ⟨"PairSymbolsModel", "toldOf", "(I)I"⟩ ∈ lw_tbl := List.mem_of_getElem? (i := 87) (by decide +kernel)
