section
-- ===== PART A: goes FIRST, ahead of the names: the tables' words, and 'selects' of the private methods out of them =====
/-- a private method of a class that the tables say can be made, by its rows of tables_1 -/
def lw_okq (q : MethodName × Nat) : Prop := (q.1.cls ≠ "java/lang/invoke/MethodHandle" ∧ q.1.cls ≠ "java/lang/invoke/VarHandle") ∧ Cond.instantiable q.1.cls q.2 ∈ tables_1 ∧ Cond.privateMethod q.1 ∈ tables_1 ∧ Cond.instanceMethod q.1 ∈ tables_1
theorem lw_p0 : lw_okq (⟨"OpensAtNine$Reader", "advance", "()V"⟩, 11) := ⟨⟨by decide +kernel, by decide +kernel⟩, List.mem_of_getElem? (i := 158) (by decide +kernel), List.mem_of_getElem? (i := 281) (by decide +kernel), List.mem_of_getElem? (i := 282) (by decide +kernel)⟩
theorem lw_p1 : lw_okq (⟨"OpensAtNine$Reader", "takeWord", "()V"⟩, 11) := ⟨⟨by decide +kernel, by decide +kernel⟩, List.mem_of_getElem? (i := 158) (by decide +kernel), List.mem_of_getElem? (i := 288) (by decide +kernel), List.mem_of_getElem? (i := 289) (by decide +kernel)⟩
theorem lw_p2 : lw_okq (⟨"OpensAtNine$Reader", "spells", "(Ljava/lang/String;)Z"⟩, 11) := ⟨⟨by decide +kernel, by decide +kernel⟩, List.mem_of_getElem? (i := 158) (by decide +kernel), List.mem_of_getElem? (i := 307) (by decide +kernel), List.mem_of_getElem? (i := 308) (by decide +kernel)⟩
theorem lw_p3 : lw_okq (⟨"OpensAtNine$Reader", "takeNumber", "()V"⟩, 11) := ⟨⟨by decide +kernel, by decide +kernel⟩, List.mem_of_getElem? (i := 158) (by decide +kernel), List.mem_of_getElem? (i := 314) (by decide +kernel), List.mem_of_getElem? (i := 315) (by decide +kernel)⟩
theorem lw_p4 : lw_okq (⟨"OpensAtNine$Reader", "takeSign", "(I)V"⟩, 11) := ⟨⟨by decide +kernel, by decide +kernel⟩, List.mem_of_getElem? (i := 158) (by decide +kernel), List.mem_of_getElem? (i := 318) (by decide +kernel), List.mem_of_getElem? (i := 319) (by decide +kernel)⟩
theorem lw_p5 : lw_okq (⟨"OpensAtNine$Reader", "readPart", "(II)Z"⟩, 11) := ⟨⟨by decide +kernel, by decide +kernel⟩, List.mem_of_getElem? (i := 158) (by decide +kernel), List.mem_of_getElem? (i := 322) (by decide +kernel), List.mem_of_getElem? (i := 323) (by decide +kernel)⟩
theorem lw_p6 : lw_okq (⟨"OpensAtNine$Reader", "pass", "(I)Z"⟩, 11) := ⟨⟨by decide +kernel, by decide +kernel⟩, List.mem_of_getElem? (i := 158) (by decide +kernel), List.mem_of_getElem? (i := 326) (by decide +kernel), List.mem_of_getElem? (i := 327) (by decide +kernel)⟩
theorem lw_p7 : lw_okq (⟨"OpensAtNine$Reader", "readEither", "()Z"⟩, 11) := ⟨⟨by decide +kernel, by decide +kernel⟩, List.mem_of_getElem? (i := 158) (by decide +kernel), List.mem_of_getElem? (i := 330) (by decide +kernel), List.mem_of_getElem? (i := 331) (by decide +kernel)⟩
theorem lw_p8 : lw_okq (⟨"OpensAtNine$Reader", "readBoth", "()Z"⟩, 11) := ⟨⟨by decide +kernel, by decide +kernel⟩, List.mem_of_getElem? (i := 158) (by decide +kernel), List.mem_of_getElem? (i := 334) (by decide +kernel), List.mem_of_getElem? (i := 335) (by decide +kernel)⟩
theorem lw_p9 : lw_okq (⟨"OpensAtNine$Reader", "readNot", "()Z"⟩, 11) := ⟨⟨by decide +kernel, by decide +kernel⟩, List.mem_of_getElem? (i := 158) (by decide +kernel), List.mem_of_getElem? (i := 338) (by decide +kernel), List.mem_of_getElem? (i := 339) (by decide +kernel)⟩
theorem lw_p10 : lw_okq (⟨"OpensAtNine$Reader", "readCompared", "()Z"⟩, 11) := ⟨⟨by decide +kernel, by decide +kernel⟩, List.mem_of_getElem? (i := 158) (by decide +kernel), List.mem_of_getElem? (i := 342) (by decide +kernel), List.mem_of_getElem? (i := 343) (by decide +kernel)⟩
theorem lw_p11 : lw_okq (⟨"OpensAtNine$Reader", "readSum", "()Z"⟩, 11) := ⟨⟨by decide +kernel, by decide +kernel⟩, List.mem_of_getElem? (i := 158) (by decide +kernel), List.mem_of_getElem? (i := 346) (by decide +kernel), List.mem_of_getElem? (i := 347) (by decide +kernel)⟩
theorem lw_p12 : lw_okq (⟨"OpensAtNine$Reader", "readTerm", "()Z"⟩, 11) := ⟨⟨by decide +kernel, by decide +kernel⟩, List.mem_of_getElem? (i := 158) (by decide +kernel), List.mem_of_getElem? (i := 350) (by decide +kernel), List.mem_of_getElem? (i := 351) (by decide +kernel)⟩
theorem lw_p13 : lw_okq (⟨"OpensAtNine$Reader", "readOne", "()Z"⟩, 11) := ⟨⟨by decide +kernel, by decide +kernel⟩, List.mem_of_getElem? (i := 158) (by decide +kernel), List.mem_of_getElem? (i := 354) (by decide +kernel), List.mem_of_getElem? (i := 355) (by decide +kernel)⟩
theorem lw_p14 : lw_okq (⟨"OpensAtNine$Reader", "addStep", "(I)V"⟩, 11) := ⟨⟨by decide +kernel, by decide +kernel⟩, List.mem_of_getElem? (i := 158) (by decide +kernel), List.mem_of_getElem? (i := 358) (by decide +kernel), List.mem_of_getElem? (i := 359) (by decide +kernel)⟩
theorem lw_p15 : lw_okq (⟨"OpensAtNine$Reader", "enter", "()Z"⟩, 11) := ⟨⟨by decide +kernel, by decide +kernel⟩, List.mem_of_getElem? (i := 158) (by decide +kernel), List.mem_of_getElem? (i := 362) (by decide +kernel), List.mem_of_getElem? (i := 363) (by decide +kernel)⟩
def lw_privs_1 : List (MethodName × Nat) := [(⟨"OpensAtNine$Reader", "advance", "()V"⟩, 11), (⟨"OpensAtNine$Reader", "takeWord", "()V"⟩, 11), (⟨"OpensAtNine$Reader", "spells", "(Ljava/lang/String;)Z"⟩, 11), (⟨"OpensAtNine$Reader", "takeNumber", "()V"⟩, 11), (⟨"OpensAtNine$Reader", "takeSign", "(I)V"⟩, 11), (⟨"OpensAtNine$Reader", "readPart", "(II)Z"⟩, 11), (⟨"OpensAtNine$Reader", "pass", "(I)Z"⟩, 11), (⟨"OpensAtNine$Reader", "readEither", "()Z"⟩, 11), (⟨"OpensAtNine$Reader", "readBoth", "()Z"⟩, 11), (⟨"OpensAtNine$Reader", "readNot", "()Z"⟩, 11), (⟨"OpensAtNine$Reader", "readCompared", "()Z"⟩, 11), (⟨"OpensAtNine$Reader", "readSum", "()Z"⟩, 11), (⟨"OpensAtNine$Reader", "readTerm", "()Z"⟩, 11), (⟨"OpensAtNine$Reader", "readOne", "()Z"⟩, 11), (⟨"OpensAtNine$Reader", "addStep", "(I)V"⟩, 11), (⟨"OpensAtNine$Reader", "enter", "()Z"⟩, 11)]
theorem lw_r1 : ∀ q ∈ lw_privs_1, lw_okq q := List.forall_mem_cons.mpr ⟨lw_p0, List.forall_mem_cons.mpr ⟨lw_p1, List.forall_mem_cons.mpr ⟨lw_p2, List.forall_mem_cons.mpr ⟨lw_p3, List.forall_mem_cons.mpr ⟨lw_p4, List.forall_mem_cons.mpr ⟨lw_p5, List.forall_mem_cons.mpr ⟨lw_p6, List.forall_mem_cons.mpr ⟨lw_p7, List.forall_mem_cons.mpr ⟨lw_p8, List.forall_mem_cons.mpr ⟨lw_p9, List.forall_mem_cons.mpr ⟨lw_p10, List.forall_mem_cons.mpr ⟨lw_p11, List.forall_mem_cons.mpr ⟨lw_p12, List.forall_mem_cons.mpr ⟨lw_p13, List.forall_mem_cons.mpr ⟨lw_p14, List.forall_mem_cons.mpr ⟨lw_p15, fun _ h => absurd h List.not_mem_nil⟩⟩⟩⟩⟩⟩⟩⟩⟩⟩⟩⟩⟩⟩⟩⟩
theorem lw_p16 : lw_okq (⟨"OpensAtNine$Coin", "worn", "()I"⟩, 3) := ⟨⟨by decide +kernel, by decide +kernel⟩, List.mem_of_getElem? (i := 505) (by decide +kernel), List.mem_of_getElem? (i := 552) (by decide +kernel), List.mem_of_getElem? (i := 553) (by decide +kernel)⟩
theorem lw_p17 : lw_okq (⟨"OpensAtNine$Ways", "goOn", "(III)V"⟩, 6) := ⟨⟨by decide +kernel, by decide +kernel⟩, List.mem_of_getElem? (i := 102) (by decide +kernel), List.mem_of_getElem? (i := 621) (by decide +kernel), List.mem_of_getElem? (i := 622) (by decide +kernel)⟩
theorem lw_p18 : lw_okq (⟨"OpensAtNine$Ways", "addRests", "(III)V"⟩, 6) := ⟨⟨by decide +kernel, by decide +kernel⟩, List.mem_of_getElem? (i := 102) (by decide +kernel), List.mem_of_getElem? (i := 677) (by decide +kernel), List.mem_of_getElem? (i := 678) (by decide +kernel)⟩
theorem lw_p19 : lw_okq (⟨"OpensAtNine", "isGift", "(II)Z"⟩, 11) := ⟨⟨by decide +kernel, by decide +kernel⟩, List.mem_of_getElem? (i := 20) (by decide +kernel), List.mem_of_getElem? (i := 694) (by decide +kernel), List.mem_of_getElem? (i := 695) (by decide +kernel)⟩
theorem lw_p20 : lw_okq (⟨"OpensAtNine$Turns", "solve", "(I)V"⟩, 7) := ⟨⟨by decide +kernel, by decide +kernel⟩, List.mem_of_getElem? (i := 128) (by decide +kernel), List.mem_of_getElem? (i := 714) (by decide +kernel), List.mem_of_getElem? (i := 715) (by decide +kernel)⟩
theorem lw_p21 : lw_okq (⟨"OpensAtNine$Turns", "settle", "(I)V"⟩, 7) := ⟨⟨by decide +kernel, by decide +kernel⟩, List.mem_of_getElem? (i := 128) (by decide +kernel), List.mem_of_getElem? (i := 718) (by decide +kernel), List.mem_of_getElem? (i := 719) (by decide +kernel)⟩
theorem lw_p22 : lw_okq (⟨"OpensAtNine$Turns", "recall", "(II)V"⟩, 7) := ⟨⟨by decide +kernel, by decide +kernel⟩, List.mem_of_getElem? (i := 128) (by decide +kernel), List.mem_of_getElem? (i := 725) (by decide +kernel), List.mem_of_getElem? (i := 726) (by decide +kernel)⟩
theorem lw_p23 : lw_okq (⟨"OpensAtNine$Turns", "choose", "(IIII)V"⟩, 7) := ⟨⟨by decide +kernel, by decide +kernel⟩, List.mem_of_getElem? (i := 128) (by decide +kernel), List.mem_of_getElem? (i := 731) (by decide +kernel), List.mem_of_getElem? (i := 732) (by decide +kernel)⟩
theorem lw_p24 : lw_okq (⟨"OpensAtNine$Turns", "keep", "(II)V"⟩, 7) := ⟨⟨by decide +kernel, by decide +kernel⟩, List.mem_of_getElem? (i := 128) (by decide +kernel), List.mem_of_getElem? (i := 740) (by decide +kernel), List.mem_of_getElem? (i := 741) (by decide +kernel)⟩
theorem lw_p25 : lw_okq (⟨"OpensAtNine", "refusedStart", "(II)I"⟩, 11) := ⟨⟨by decide +kernel, by decide +kernel⟩, List.mem_of_getElem? (i := 20) (by decide +kernel), List.mem_of_getElem? (i := 766) (by decide +kernel), List.mem_of_getElem? (i := 767) (by decide +kernel)⟩
theorem lw_p26 : lw_okq (⟨"OpensAtNine", "refusedRows", "(I)I"⟩, 11) := ⟨⟨by decide +kernel, by decide +kernel⟩, List.mem_of_getElem? (i := 20) (by decide +kernel), List.mem_of_getElem? (i := 770) (by decide +kernel), List.mem_of_getElem? (i := 771) (by decide +kernel)⟩
theorem lw_p27 : lw_okq (⟨"OpensAtNine$Sheet", "isSoBy", "(II)Z"⟩, 3) := ⟨⟨by decide +kernel, by decide +kernel⟩, List.mem_of_getElem? (i := 201) (by decide +kernel), List.mem_of_getElem? (i := 781) (by decide +kernel), List.mem_of_getElem? (i := 782) (by decide +kernel)⟩
theorem lw_p28 : lw_okq (⟨"OpensAtNine", "firstWrong", "(LOpensAtNine$Sheet;II)I"⟩, 11) := ⟨⟨by decide +kernel, by decide +kernel⟩, List.mem_of_getElem? (i := 20) (by decide +kernel), List.mem_of_getElem? (i := 805) (by decide +kernel), List.mem_of_getElem? (i := 806) (by decide +kernel)⟩
theorem lw_p29 : lw_okq (⟨"OpensAtNine", "insideBy", "(I)I"⟩, 11) := ⟨⟨by decide +kernel, by decide +kernel⟩, List.mem_of_getElem? (i := 20) (by decide +kernel), List.mem_of_getElem? (i := 841) (by decide +kernel), List.mem_of_getElem? (i := 842) (by decide +kernel)⟩
theorem lw_p30 : lw_okq (⟨"OpensAtNineModel", "next", "()V"⟩, 49) := ⟨⟨by decide +kernel, by decide +kernel⟩, List.mem_of_getElem? (i := 893) (by decide +kernel), List.mem_of_getElem? (i := 903) (by decide +kernel), List.mem_of_getElem? (i := 904) (by decide +kernel)⟩
theorem lw_p31 : lw_okq (⟨"OpensAtNineModel", "wordFrom", "(II)I"⟩, 49) := ⟨⟨by decide +kernel, by decide +kernel⟩, List.mem_of_getElem? (i := 893) (by decide +kernel), List.mem_of_getElem? (i := 910) (by decide +kernel), List.mem_of_getElem? (i := 911) (by decide +kernel)⟩
def lw_privs_2 : List (MethodName × Nat) := [(⟨"OpensAtNine$Coin", "worn", "()I"⟩, 3), (⟨"OpensAtNine$Ways", "goOn", "(III)V"⟩, 6), (⟨"OpensAtNine$Ways", "addRests", "(III)V"⟩, 6), (⟨"OpensAtNine", "isGift", "(II)Z"⟩, 11), (⟨"OpensAtNine$Turns", "solve", "(I)V"⟩, 7), (⟨"OpensAtNine$Turns", "settle", "(I)V"⟩, 7), (⟨"OpensAtNine$Turns", "recall", "(II)V"⟩, 7), (⟨"OpensAtNine$Turns", "choose", "(IIII)V"⟩, 7), (⟨"OpensAtNine$Turns", "keep", "(II)V"⟩, 7), (⟨"OpensAtNine", "refusedStart", "(II)I"⟩, 11), (⟨"OpensAtNine", "refusedRows", "(I)I"⟩, 11), (⟨"OpensAtNine$Sheet", "isSoBy", "(II)Z"⟩, 3), (⟨"OpensAtNine", "firstWrong", "(LOpensAtNine$Sheet;II)I"⟩, 11), (⟨"OpensAtNine", "insideBy", "(I)I"⟩, 11), (⟨"OpensAtNineModel", "next", "()V"⟩, 49), (⟨"OpensAtNineModel", "wordFrom", "(II)I"⟩, 49)]
theorem lw_r2 : ∀ q ∈ lw_privs_2, lw_okq q := List.forall_mem_cons.mpr ⟨lw_p16, List.forall_mem_cons.mpr ⟨lw_p17, List.forall_mem_cons.mpr ⟨lw_p18, List.forall_mem_cons.mpr ⟨lw_p19, List.forall_mem_cons.mpr ⟨lw_p20, List.forall_mem_cons.mpr ⟨lw_p21, List.forall_mem_cons.mpr ⟨lw_p22, List.forall_mem_cons.mpr ⟨lw_p23, List.forall_mem_cons.mpr ⟨lw_p24, List.forall_mem_cons.mpr ⟨lw_p25, List.forall_mem_cons.mpr ⟨lw_p26, List.forall_mem_cons.mpr ⟨lw_p27, List.forall_mem_cons.mpr ⟨lw_p28, List.forall_mem_cons.mpr ⟨lw_p29, List.forall_mem_cons.mpr ⟨lw_p30, List.forall_mem_cons.mpr ⟨lw_p31, fun _ h => absurd h List.not_mem_nil⟩⟩⟩⟩⟩⟩⟩⟩⟩⟩⟩⟩⟩⟩⟩⟩
theorem lw_p32 : lw_okq (⟨"OpensAtNineModel", "eRead", "()Z"⟩, 49) := ⟨⟨by decide +kernel, by decide +kernel⟩, List.mem_of_getElem? (i := 893) (by decide +kernel), List.mem_of_getElem? (i := 914) (by decide +kernel), List.mem_of_getElem? (i := 915) (by decide +kernel)⟩
theorem lw_p33 : lw_okq (⟨"OpensAtNineModel", "puts", "(I)V"⟩, 49) := ⟨⟨by decide +kernel, by decide +kernel⟩, List.mem_of_getElem? (i := 893) (by decide +kernel), List.mem_of_getElem? (i := 919) (by decide +kernel), List.mem_of_getElem? (i := 920) (by decide +kernel)⟩
theorem lw_p34 : lw_okq (⟨"OpensAtNineModel", "unwinds", "(I)V"⟩, 49) := ⟨⟨by decide +kernel, by decide +kernel⟩, List.mem_of_getElem? (i := 893) (by decide +kernel), List.mem_of_getElem? (i := 923) (by decide +kernel), List.mem_of_getElem? (i := 924) (by decide +kernel)⟩
theorem lw_p35 : lw_okq (⟨"OpensAtNineModel", "opensOne", "(I)Z"⟩, 49) := ⟨⟨by decide +kernel, by decide +kernel⟩, List.mem_of_getElem? (i := 893) (by decide +kernel), List.mem_of_getElem? (i := 930) (by decide +kernel), List.mem_of_getElem? (i := 931) (by decide +kernel)⟩
theorem lw_p36 : lw_okq (⟨"OpensAtNineModel", "holds", "(I)V"⟩, 49) := ⟨⟨by decide +kernel, by decide +kernel⟩, List.mem_of_getElem? (i := 893) (by decide +kernel), List.mem_of_getElem? (i := 934) (by decide +kernel), List.mem_of_getElem? (i := 935) (by decide +kernel)⟩
theorem lw_p37 : lw_okq (⟨"OpensAtNineModel", "signOf", "()I"⟩, 49) := ⟨⟨by decide +kernel, by decide +kernel⟩, List.mem_of_getElem? (i := 893) (by decide +kernel), List.mem_of_getElem? (i := 938) (by decide +kernel), List.mem_of_getElem? (i := 939) (by decide +kernel)⟩
theorem lw_p38 : lw_okq (⟨"OpensAtNineModel", "between", "(I)Z"⟩, 49) := ⟨⟨by decide +kernel, by decide +kernel⟩, List.mem_of_getElem? (i := 893) (by decide +kernel), List.mem_of_getElem? (i := 942) (by decide +kernel), List.mem_of_getElem? (i := 943) (by decide +kernel)⟩
theorem lw_p39 : lw_okq (⟨"OpensAtNineModel", "isOne", "(I)Z"⟩, 49) := ⟨⟨by decide +kernel, by decide +kernel⟩, List.mem_of_getElem? (i := 893) (by decide +kernel), List.mem_of_getElem? (i := 1107) (by decide +kernel), List.mem_of_getElem? (i := 1108) (by decide +kernel)⟩
theorem lw_p40 : lw_okq (⟨"OpensAtNineModel", "asksOf", "(IIIIII)I"⟩, 49) := ⟨⟨by decide +kernel, by decide +kernel⟩, List.mem_of_getElem? (i := 893) (by decide +kernel), List.mem_of_getElem? (i := 1131) (by decide +kernel), List.mem_of_getElem? (i := 1132) (by decide +kernel)⟩
theorem lw_p41 : lw_okq (⟨"OpensAtNineModel", "worksOut", "(IIIIII)I"⟩, 49) := ⟨⟨by decide +kernel, by decide +kernel⟩, List.mem_of_getElem? (i := 893) (by decide +kernel), List.mem_of_getElem? (i := 1135) (by decide +kernel), List.mem_of_getElem? (i := 1136) (by decide +kernel)⟩
theorem lw_p42 : lw_okq (⟨"OpensAtNineModel", "says", "(I)I"⟩, 49) := ⟨⟨by decide +kernel, by decide +kernel⟩, List.mem_of_getElem? (i := 893) (by decide +kernel), List.mem_of_getElem? (i := 1139) (by decide +kernel), List.mem_of_getElem? (i := 1140) (by decide +kernel)⟩
theorem lw_p43 : lw_okq (⟨"OpensAtNineModel", "isCoin", "(I)Z"⟩, 49) := ⟨⟨by decide +kernel, by decide +kernel⟩, List.mem_of_getElem? (i := 893) (by decide +kernel), List.mem_of_getElem? (i := 1164) (by decide +kernel), List.mem_of_getElem? (i := 1165) (by decide +kernel)⟩
theorem lw_p44 : lw_okq (⟨"OpensAtNineModel", "isLeft", "(I)Z"⟩, 49) := ⟨⟨by decide +kernel, by decide +kernel⟩, List.mem_of_getElem? (i := 893) (by decide +kernel), List.mem_of_getElem? (i := 1168) (by decide +kernel), List.mem_of_getElem? (i := 1169) (by decide +kernel)⟩
theorem lw_p45 : lw_okq (⟨"OpensAtNineModel", "countsNow", "(I)I"⟩, 49) := ⟨⟨by decide +kernel, by decide +kernel⟩, List.mem_of_getElem? (i := 893) (by decide +kernel), List.mem_of_getElem? (i := 1176) (by decide +kernel), List.mem_of_getElem? (i := 1177) (by decide +kernel)⟩
theorem lw_p46 : lw_okq (⟨"OpensAtNineModel", "costsOf", "(I)I"⟩, 49) := ⟨⟨by decide +kernel, by decide +kernel⟩, List.mem_of_getElem? (i := 893) (by decide +kernel), List.mem_of_getElem? (i := 1180) (by decide +kernel), List.mem_of_getElem? (i := 1181) (by decide +kernel)⟩
theorem lw_p47 : lw_okq (⟨"OpensAtNineModel", "canPut", "(I)Z"⟩, 49) := ⟨⟨by decide +kernel, by decide +kernel⟩, List.mem_of_getElem? (i := 893) (by decide +kernel), List.mem_of_getElem? (i := 1188) (by decide +kernel), List.mem_of_getElem? (i := 1189) (by decide +kernel)⟩
def lw_privs_3 : List (MethodName × Nat) := [(⟨"OpensAtNineModel", "eRead", "()Z"⟩, 49), (⟨"OpensAtNineModel", "puts", "(I)V"⟩, 49), (⟨"OpensAtNineModel", "unwinds", "(I)V"⟩, 49), (⟨"OpensAtNineModel", "opensOne", "(I)Z"⟩, 49), (⟨"OpensAtNineModel", "holds", "(I)V"⟩, 49), (⟨"OpensAtNineModel", "signOf", "()I"⟩, 49), (⟨"OpensAtNineModel", "between", "(I)Z"⟩, 49), (⟨"OpensAtNineModel", "isOne", "(I)Z"⟩, 49), (⟨"OpensAtNineModel", "asksOf", "(IIIIII)I"⟩, 49), (⟨"OpensAtNineModel", "worksOut", "(IIIIII)I"⟩, 49), (⟨"OpensAtNineModel", "says", "(I)I"⟩, 49), (⟨"OpensAtNineModel", "isCoin", "(I)Z"⟩, 49), (⟨"OpensAtNineModel", "isLeft", "(I)Z"⟩, 49), (⟨"OpensAtNineModel", "countsNow", "(I)I"⟩, 49), (⟨"OpensAtNineModel", "costsOf", "(I)I"⟩, 49), (⟨"OpensAtNineModel", "canPut", "(I)Z"⟩, 49)]
theorem lw_r3 : ∀ q ∈ lw_privs_3, lw_okq q := List.forall_mem_cons.mpr ⟨lw_p32, List.forall_mem_cons.mpr ⟨lw_p33, List.forall_mem_cons.mpr ⟨lw_p34, List.forall_mem_cons.mpr ⟨lw_p35, List.forall_mem_cons.mpr ⟨lw_p36, List.forall_mem_cons.mpr ⟨lw_p37, List.forall_mem_cons.mpr ⟨lw_p38, List.forall_mem_cons.mpr ⟨lw_p39, List.forall_mem_cons.mpr ⟨lw_p40, List.forall_mem_cons.mpr ⟨lw_p41, List.forall_mem_cons.mpr ⟨lw_p42, List.forall_mem_cons.mpr ⟨lw_p43, List.forall_mem_cons.mpr ⟨lw_p44, List.forall_mem_cons.mpr ⟨lw_p45, List.forall_mem_cons.mpr ⟨lw_p46, List.forall_mem_cons.mpr ⟨lw_p47, fun _ h => absurd h List.not_mem_nil⟩⟩⟩⟩⟩⟩⟩⟩⟩⟩⟩⟩⟩⟩⟩⟩
theorem lw_p48 : lw_okq (⟨"OpensAtNineModel", "isInside", "(I)Z"⟩, 49) := ⟨⟨by decide +kernel, by decide +kernel⟩, List.mem_of_getElem? (i := 893) (by decide +kernel), List.mem_of_getElem? (i := 1192) (by decide +kernel), List.mem_of_getElem? (i := 1193) (by decide +kernel)⟩
theorem lw_p49 : lw_okq (⟨"OpensAtNineModel", "paysIn", "(I)Z"⟩, 49) := ⟨⟨by decide +kernel, by decide +kernel⟩, List.mem_of_getElem? (i := 893) (by decide +kernel), List.mem_of_getElem? (i := 1196) (by decide +kernel), List.mem_of_getElem? (i := 1197) (by decide +kernel)⟩
theorem lw_p50 : lw_okq (⟨"OpensAtNineModel", "leftOf", "(I)I"⟩, 49) := ⟨⟨by decide +kernel, by decide +kernel⟩, List.mem_of_getElem? (i := 893) (by decide +kernel), List.mem_of_getElem? (i := 1200) (by decide +kernel), List.mem_of_getElem? (i := 1201) (by decide +kernel)⟩
theorem lw_p51 : lw_okq (⟨"OpensAtNineModel", "worthOf", "(I)I"⟩, 49) := ⟨⟨by decide +kernel, by decide +kernel⟩, List.mem_of_getElem? (i := 893) (by decide +kernel), List.mem_of_getElem? (i := 1208) (by decide +kernel), List.mem_of_getElem? (i := 1209) (by decide +kernel)⟩
theorem lw_p52 : lw_okq (⟨"OpensAtNineModel", "findsCheapest", "(I)V"⟩, 49) := ⟨⟨by decide +kernel, by decide +kernel⟩, List.mem_of_getElem? (i := 893) (by decide +kernel), List.mem_of_getElem? (i := 1217) (by decide +kernel), List.mem_of_getElem? (i := 1218) (by decide +kernel)⟩
theorem lw_p53 : lw_okq (⟨"OpensAtNineModel", "waysIn", "(IIII)V"⟩, 49) := ⟨⟨by decide +kernel, by decide +kernel⟩, List.mem_of_getElem? (i := 893) (by decide +kernel), List.mem_of_getElem? (i := 1221) (by decide +kernel), List.mem_of_getElem? (i := 1222) (by decide +kernel)⟩
theorem lw_p54 : lw_okq (⟨"OpensAtNineModel", "keeps", "(I)V"⟩, 49) := ⟨⟨by decide +kernel, by decide +kernel⟩, List.mem_of_getElem? (i := 893) (by decide +kernel), List.mem_of_getElem? (i := 1225) (by decide +kernel), List.mem_of_getElem? (i := 1226) (by decide +kernel)⟩
theorem lw_p55 : lw_okq (⟨"OpensAtNineModel", "laysBack", "(I)V"⟩, 49) := ⟨⟨by decide +kernel, by decide +kernel⟩, List.mem_of_getElem? (i := 893) (by decide +kernel), List.mem_of_getElem? (i := 1229) (by decide +kernel), List.mem_of_getElem? (i := 1230) (by decide +kernel)⟩
theorem lw_p56 : lw_okq (⟨"OpensAtNineModel", "goesCheapest", "()V"⟩, 49) := ⟨⟨by decide +kernel, by decide +kernel⟩, List.mem_of_getElem? (i := 893) (by decide +kernel), List.mem_of_getElem? (i := 1237) (by decide +kernel), List.mem_of_getElem? (i := 1238) (by decide +kernel)⟩
theorem lw_p57 : lw_okq (⟨"OpensAtNineModel", "restsFrom", "(II)V"⟩, 49) := ⟨⟨by decide +kernel, by decide +kernel⟩, List.mem_of_getElem? (i := 893) (by decide +kernel), List.mem_of_getElem? (i := 1245) (by decide +kernel), List.mem_of_getElem? (i := 1246) (by decide +kernel)⟩
theorem lw_p58 : lw_okq (⟨"OpensAtNineModel", "wouldOpen", "(II)Z"⟩, 49) := ⟨⟨by decide +kernel, by decide +kernel⟩, List.mem_of_getElem? (i := 893) (by decide +kernel), List.mem_of_getElem? (i := 1253) (by decide +kernel), List.mem_of_getElem? (i := 1254) (by decide +kernel)⟩
theorem lw_p59 : lw_okq (⟨"OpensAtNineModel", "isGift", "(I)Z"⟩, 49) := ⟨⟨by decide +kernel, by decide +kernel⟩, List.mem_of_getElem? (i := 893) (by decide +kernel), List.mem_of_getElem? (i := 1261) (by decide +kernel), List.mem_of_getElem? (i := 1262) (by decide +kernel)⟩
theorem lw_p60 : lw_okq (⟨"OpensAtNineModel", "goesByTurns", "(I)V"⟩, 49) := ⟨⟨by decide +kernel, by decide +kernel⟩, List.mem_of_getElem? (i := 893) (by decide +kernel), List.mem_of_getElem? (i := 1269) (by decide +kernel), List.mem_of_getElem? (i := 1270) (by decide +kernel)⟩
theorem lw_p61 : lw_okq (⟨"OpensAtNineModel", "turns", "(II)V"⟩, 49) := ⟨⟨by decide +kernel, by decide +kernel⟩, List.mem_of_getElem? (i := 893) (by decide +kernel), List.mem_of_getElem? (i := 1274) (by decide +kernel), List.mem_of_getElem? (i := 1275) (by decide +kernel)⟩
theorem lw_p62 : lw_okq (⟨"OpensAtNineModel", "endsNow", "(I)V"⟩, 49) := ⟨⟨by decide +kernel, by decide +kernel⟩, List.mem_of_getElem? (i := 893) (by decide +kernel), List.mem_of_getElem? (i := 1278) (by decide +kernel), List.mem_of_getElem? (i := 1279) (by decide +kernel)⟩
theorem lw_p63 : lw_okq (⟨"OpensAtNineModel", "takes", "(IIIIZ)V"⟩, 49) := ⟨⟨by decide +kernel, by decide +kernel⟩, List.mem_of_getElem? (i := 893) (by decide +kernel), List.mem_of_getElem? (i := 1282) (by decide +kernel), List.mem_of_getElem? (i := 1283) (by decide +kernel)⟩
def lw_privs_4 : List (MethodName × Nat) := [(⟨"OpensAtNineModel", "isInside", "(I)Z"⟩, 49), (⟨"OpensAtNineModel", "paysIn", "(I)Z"⟩, 49), (⟨"OpensAtNineModel", "leftOf", "(I)I"⟩, 49), (⟨"OpensAtNineModel", "worthOf", "(I)I"⟩, 49), (⟨"OpensAtNineModel", "findsCheapest", "(I)V"⟩, 49), (⟨"OpensAtNineModel", "waysIn", "(IIII)V"⟩, 49), (⟨"OpensAtNineModel", "keeps", "(I)V"⟩, 49), (⟨"OpensAtNineModel", "laysBack", "(I)V"⟩, 49), (⟨"OpensAtNineModel", "goesCheapest", "()V"⟩, 49), (⟨"OpensAtNineModel", "restsFrom", "(II)V"⟩, 49), (⟨"OpensAtNineModel", "wouldOpen", "(II)Z"⟩, 49), (⟨"OpensAtNineModel", "isGift", "(I)Z"⟩, 49), (⟨"OpensAtNineModel", "goesByTurns", "(I)V"⟩, 49), (⟨"OpensAtNineModel", "turns", "(II)V"⟩, 49), (⟨"OpensAtNineModel", "endsNow", "(I)V"⟩, 49), (⟨"OpensAtNineModel", "takes", "(IIIIZ)V"⟩, 49)]
theorem lw_r4 : ∀ q ∈ lw_privs_4, lw_okq q := List.forall_mem_cons.mpr ⟨lw_p48, List.forall_mem_cons.mpr ⟨lw_p49, List.forall_mem_cons.mpr ⟨lw_p50, List.forall_mem_cons.mpr ⟨lw_p51, List.forall_mem_cons.mpr ⟨lw_p52, List.forall_mem_cons.mpr ⟨lw_p53, List.forall_mem_cons.mpr ⟨lw_p54, List.forall_mem_cons.mpr ⟨lw_p55, List.forall_mem_cons.mpr ⟨lw_p56, List.forall_mem_cons.mpr ⟨lw_p57, List.forall_mem_cons.mpr ⟨lw_p58, List.forall_mem_cons.mpr ⟨lw_p59, List.forall_mem_cons.mpr ⟨lw_p60, List.forall_mem_cons.mpr ⟨lw_p61, List.forall_mem_cons.mpr ⟨lw_p62, List.forall_mem_cons.mpr ⟨lw_p63, fun _ h => absurd h List.not_mem_nil⟩⟩⟩⟩⟩⟩⟩⟩⟩⟩⟩⟩⟩⟩⟩⟩
theorem lw_p64 : lw_okq (⟨"OpensAtNineModel", "sheetWrong", "(I)I"⟩, 49) := ⟨⟨by decide +kernel, by decide +kernel⟩, List.mem_of_getElem? (i := 893) (by decide +kernel), List.mem_of_getElem? (i := 1301) (by decide +kernel), List.mem_of_getElem? (i := 1302) (by decide +kernel)⟩
theorem lw_p65 : lw_okq (⟨"OpensAtNineModel", "numbersFor", "(II)I"⟩, 49) := ⟨⟨by decide +kernel, by decide +kernel⟩, List.mem_of_getElem? (i := 893) (by decide +kernel), List.mem_of_getElem? (i := 1305) (by decide +kernel), List.mem_of_getElem? (i := 1306) (by decide +kernel)⟩
theorem lw_p66 : lw_okq (⟨"OpensAtNineModel", "unlike", "(I)I"⟩, 49) := ⟨⟨by decide +kernel, by decide +kernel⟩, List.mem_of_getElem? (i := 893) (by decide +kernel), List.mem_of_getElem? (i := 1320) (by decide +kernel), List.mem_of_getElem? (i := 1321) (by decide +kernel)⟩
theorem lw_p67 : lw_okq (⟨"OpensAtNineModel", "insideBy", "(I)I"⟩, 49) := ⟨⟨by decide +kernel, by decide +kernel⟩, List.mem_of_getElem? (i := 893) (by decide +kernel), List.mem_of_getElem? (i := 1341) (by decide +kernel), List.mem_of_getElem? (i := 1342) (by decide +kernel)⟩
def lw_privs_5 : List (MethodName × Nat) := [(⟨"OpensAtNineModel", "sheetWrong", "(I)I"⟩, 49), (⟨"OpensAtNineModel", "numbersFor", "(II)I"⟩, 49), (⟨"OpensAtNineModel", "unlike", "(I)I"⟩, 49), (⟨"OpensAtNineModel", "insideBy", "(I)I"⟩, 49)]
theorem lw_r5 : ∀ q ∈ lw_privs_5, lw_okq q := List.forall_mem_cons.mpr ⟨lw_p64, List.forall_mem_cons.mpr ⟨lw_p65, List.forall_mem_cons.mpr ⟨lw_p66, List.forall_mem_cons.mpr ⟨lw_p67, fun _ h => absurd h List.not_mem_nil⟩⟩⟩⟩
def lw_privs : List (MethodName × Nat) := lw_privs_1 ++ (lw_privs_2 ++ (lw_privs_3 ++ (lw_privs_4 ++ (lw_privs_5))))
def lw_tbl : List Cond := k2_sels lw_privs ++ tables_1
theorem lw_privs_ok : ∀ q ∈ lw_privs, lw_okq q := by
  show ∀ q ∈ lw_privs_1 ++ (lw_privs_2 ++ (lw_privs_3 ++ (lw_privs_4 ++ (lw_privs_5)))), lw_okq q
  exact List.forall_mem_append.mpr ⟨lw_r1, List.forall_mem_append.mpr ⟨lw_r2, List.forall_mem_append.mpr ⟨lw_r3, List.forall_mem_append.mpr ⟨lw_r4, lw_r5⟩⟩⟩⟩
end
section
/-! names: the classes, their fields, the words by their places (written by wip/whole/gen/gen_names.py) -/
def xR0 : String := "OpensAtNine$Coin"
def xT0 : u_T := fun k => match k with
  | 0 => ("OpensAtNine$Coin", "kind", "I", true)
  | 1 => ("OpensAtNine$Coin", "told", "I", true)
  | _ => ("OpensAtNine$Coin", "more", "I", true)
def xty0 : Nat → FieldType := fun k => match k with
  | 0 => .int
  | 1 => .int
  | _ => .int
def xR1 : String := "OpensAtNine$Gate"
def xT1 : u_T := fun k => match k with
  | 0 => ("OpensAtNine$Gate", "purse", "[LOpensAtNine$Coin;", true)
  | 1 => ("OpensAtNine$Gate", "texts", "[LOpensAtNine$Text;", true)
  | 2 => ("OpensAtNine$Gate", "own", "[I", true)
  | 3 => ("OpensAtNine$Gate", "names", "[I", true)
  | 4 => ("OpensAtNine$Gate", "number", "I", false)
  | 5 => ("OpensAtNine$Gate", "sum", "I", false)
  | 6 => ("OpensAtNine$Gate", "minute", "I", false)
  | 7 => ("OpensAtNine$Gate", "people", "I", false)
  | 8 => ("OpensAtNine$Gate", "inside", "I", false)
  | 9 => ("OpensAtNine$Gate", "coins", "I", false)
  | 10 => ("OpensAtNine$Gate", "spent", "I", false)
  | _ => ("OpensAtNine$Gate", "law", "I", false)
def xty1 : Nat → FieldType := fun k => match k with
  | 0 => .array (.object "OpensAtNine$Coin")
  | 1 => .array (.object "OpensAtNine$Text")
  | 2 => .array .int
  | 3 => .array .int
  | 4 => .int
  | 5 => .int
  | 6 => .int
  | 7 => .int
  | 8 => .int
  | 9 => .int
  | 10 => .int
  | _ => .int
def xR2 : String := "OpensAtNine$Met"
def xT2 : u_T := fun k => match k with
  | _ => ("OpensAtNine$Met", "states", "[I", true)
def xty2 : Nat → FieldType := fun k => match k with
  | _ => .array .int
def xR3 : String := "OpensAtNine$Reader"
def xT3 : u_T := fun k => match k with
  | 0 => ("OpensAtNine$Reader", "tape", "[I", true)
  | 1 => ("OpensAtNine$Reader", "steps", "[I", true)
  | 2 => ("OpensAtNine$Reader", "from", "[I", true)
  | 3 => ("OpensAtNine$Reader", "size", "I", false)
  | 4 => ("OpensAtNine$Reader", "fault", "I", false)
  | 5 => ("OpensAtNine$Reader", "at", "I", false)
  | 6 => ("OpensAtNine$Reader", "place", "I", false)
  | 7 => ("OpensAtNine$Reader", "token", "I", false)
  | 8 => ("OpensAtNine$Reader", "value", "I", false)
  | 9 => ("OpensAtNine$Reader", "open", "I", false)
  | _ => ("OpensAtNine$Reader", "many", "I", false)
def xty3 : Nat → FieldType := fun k => match k with
  | 0 => .array .int
  | 1 => .array .int
  | 2 => .array .int
  | 3 => .int
  | 4 => .int
  | 5 => .int
  | 6 => .int
  | 7 => .int
  | 8 => .int
  | 9 => .int
  | _ => .int
def xR4 : String := "OpensAtNine$Sheet"
def xT4 : u_T := fun k => match k with
  | 0 => ("OpensAtNine$Sheet", "cells", "[I", true)
  | 1 => ("OpensAtNine$Sheet", "sort", "I", false)
  | _ => ("OpensAtNine$Sheet", "size", "I", false)
def xty4 : Nat → FieldType := fun k => match k with
  | 0 => .array .int
  | 1 => .int
  | _ => .int
def xR5 : String := "OpensAtNine$Text"
def xT5 : u_T := fun k => match k with
  | 0 => ("OpensAtNine$Text", "steps", "[I", true)
  | 1 => ("OpensAtNine$Text", "from", "[I", true)
  | _ => ("OpensAtNine$Text", "stack", "[I", true)
def xty5 : Nat → FieldType := fun k => match k with
  | 0 => .array .int
  | 1 => .array .int
  | _ => .array .int
def xR6 : String := "OpensAtNine$Turns"
def xT6 : u_T := fun k => match k with
  | 0 => ("OpensAtNine$Turns", "gate", "LOpensAtNine$Gate;", true)
  | 1 => ("OpensAtNine$Turns", "ends", "[[I", true)
  | 2 => ("OpensAtNine$Turns", "lines", "[I", true)
  | 3 => ("OpensAtNine$Turns", "met", "LOpensAtNine$Met;", true)
  | 4 => ("OpensAtNine$Turns", "metEnds", "[I", true)
  | 5 => ("OpensAtNine$Turns", "metLines", "[I", true)
  | _ => ("OpensAtNine$Turns", "last", "I", false)
def xty6 : Nat → FieldType := fun k => match k with
  | 0 => .object "OpensAtNine$Gate"
  | 1 => .array (.array .int)
  | 2 => .array .int
  | 3 => .object "OpensAtNine$Met"
  | 4 => .array .int
  | 5 => .array .int
  | _ => .int
def xR7 : String := "OpensAtNine$Ways"
def xT7 : u_T := fun k => match k with
  | 0 => ("OpensAtNine$Ways", "gate", "LOpensAtNine$Gate;", true)
  | 1 => ("OpensAtNine$Ways", "met", "LOpensAtNine$Met;", true)
  | 2 => ("OpensAtNine$Ways", "set", "I", false)
  | 3 => ("OpensAtNine$Ways", "best", "I", false)
  | 4 => ("OpensAtNine$Ways", "rests", "I", false)
  | _ => ("OpensAtNine$Ways", "way", "I", false)
def xty7 : Nat → FieldType := fun k => match k with
  | 0 => .object "OpensAtNine$Gate"
  | 1 => .object "OpensAtNine$Met"
  | 2 => .int
  | 3 => .int
  | 4 => .int
  | _ => .int
def xR8 : String := "OpensAtNine"
def xT8 : u_T := fun k => match k with
  | 0 => ("OpensAtNine", "purse", "[LOpensAtNine$Coin;", true)
  | 1 => ("OpensAtNine", "texts", "[LOpensAtNine$Text;", true)
  | 2 => ("OpensAtNine", "gate", "LOpensAtNine$Gate;", true)
  | 3 => ("OpensAtNine", "image", "LOpensAtNine$Gate;", true)
  | 4 => ("OpensAtNine", "thought", "LOpensAtNine$Gate;", true)
  | 5 => ("OpensAtNine", "ways", "LOpensAtNine$Ways;", true)
  | 6 => ("OpensAtNine", "turns", "LOpensAtNine$Turns;", true)
  | 7 => ("OpensAtNine", "reader", "LOpensAtNine$Reader;", true)
  | 8 => ("OpensAtNine", "sheets", "[LOpensAtNine$Sheet;", true)
  | 9 => ("OpensAtNine", "manyTexts", "I", false)
  | _ => ("OpensAtNine", "imageKept", "Z", false)
def xty8 : Nat → FieldType := fun k => match k with
  | 0 => .array (.object "OpensAtNine$Coin")
  | 1 => .array (.object "OpensAtNine$Text")
  | 2 => .object "OpensAtNine$Gate"
  | 3 => .object "OpensAtNine$Gate"
  | 4 => .object "OpensAtNine$Gate"
  | 5 => .object "OpensAtNine$Ways"
  | 6 => .object "OpensAtNine$Turns"
  | 7 => .object "OpensAtNine$Reader"
  | 8 => .array (.object "OpensAtNine$Sheet")
  | 9 => .int
  | _ => .boolean
def xR9 : String := "OpensAtNineModel"
def xT9 : u_T := fun k => match k with
  | 0 => ("OpensAtNineModel", "number", "I", false)
  | 1 => ("OpensAtNineModel", "sum", "I", false)
  | 2 => ("OpensAtNineModel", "minute", "I", false)
  | 3 => ("OpensAtNineModel", "people", "I", false)
  | 4 => ("OpensAtNineModel", "inside", "I", false)
  | 5 => ("OpensAtNineModel", "coins", "I", false)
  | 6 => ("OpensAtNineModel", "whose", "[I", true)
  | 7 => ("OpensAtNineModel", "kind", "[I", true)
  | 8 => ("OpensAtNineModel", "toldOf", "[I", true)
  | 9 => ("OpensAtNineModel", "more", "[I", true)
  | 10 => ("OpensAtNineModel", "spent", "I", false)
  | 11 => ("OpensAtNineModel", "tape", "[I", true)
  | 12 => ("OpensAtNineModel", "taped", "I", false)
  | 13 => ("OpensAtNineModel", "codes", "[I", true)
  | 14 => ("OpensAtNineModel", "starts", "[I", true)
  | 15 => ("OpensAtNineModel", "texts", "I", false)
  | 16 => ("OpensAtNineModel", "rule", "I", false)
  | 17 => ("OpensAtNineModel", "hasImage", "Z", false)
  | 18 => ("OpensAtNineModel", "imageNumbers", "[I", true)
  | 19 => ("OpensAtNineModel", "imageWhose", "[I", true)
  | 20 => ("OpensAtNineModel", "sheetSort", "[I", true)
  | 21 => ("OpensAtNineModel", "sheetSize", "[I", true)
  | 22 => ("OpensAtNineModel", "cells", "[I", true)
  | 23 => ("OpensAtNineModel", "law", "[I", true)
  | 24 => ("OpensAtNineModel", "at", "I", false)
  | 25 => ("OpensAtNineModel", "begun", "I", false)
  | 26 => ("OpensAtNineModel", "token", "I", false)
  | 27 => ("OpensAtNineModel", "value", "I", false)
  | 28 => ("OpensAtNineModel", "words", "[I", true)
  | 29 => ("OpensAtNineModel", "held", "[I", true)
  | 30 => ("OpensAtNineModel", "heldMany", "I", false)
  | 31 => ("OpensAtNineModel", "opens", "I", false)
  | 32 => ("OpensAtNineModel", "out", "I", false)
  | 33 => ("OpensAtNineModel", "stack", "[I", true)
  | 34 => ("OpensAtNineModel", "named", "[I", true)
  | 35 => ("OpensAtNineModel", "toldFor", "[J", true)
  | 36 => ("OpensAtNineModel", "toldOnce", "[I", true)
  | 37 => ("OpensAtNineModel", "keepsTold", "Z", false)
  | 38 => ("OpensAtNineModel", "kept", "[I", true)
  | 39 => ("OpensAtNineModel", "bestCosts", "I", false)
  | 40 => ("OpensAtNineModel", "bestMany", "I", false)
  | 41 => ("OpensAtNineModel", "bestDigits", "I", false)
  | 42 => ("OpensAtNineModel", "rests", "I", false)
  | 43 => ("OpensAtNineModel", "ends", "[I", true)
  | 44 => ("OpensAtNineModel", "line", "[I", true)
  | 45 => ("OpensAtNineModel", "bestEnds", "[I", true)
  | 46 => ("OpensAtNineModel", "bestLine", "[I", true)
  | 47 => ("OpensAtNineModel", "paid", "[I", true)
  | _ => ("OpensAtNineModel", "soFar", "I", false)
def xty9 : Nat → FieldType := fun k => match k with
  | 0 => .int
  | 1 => .int
  | 2 => .int
  | 3 => .int
  | 4 => .int
  | 5 => .int
  | 6 => .array .int
  | 7 => .array .int
  | 8 => .array .int
  | 9 => .array .int
  | 10 => .int
  | 11 => .array .int
  | 12 => .int
  | 13 => .array .int
  | 14 => .array .int
  | 15 => .int
  | 16 => .int
  | 17 => .boolean
  | 18 => .array .int
  | 19 => .array .int
  | 20 => .array .int
  | 21 => .array .int
  | 22 => .array .int
  | 23 => .array .int
  | 24 => .int
  | 25 => .int
  | 26 => .int
  | 27 => .int
  | 28 => .array .int
  | 29 => .array .int
  | 30 => .int
  | 31 => .int
  | 32 => .int
  | 33 => .array .int
  | 34 => .array .int
  | 35 => .array .long
  | 36 => .array .int
  | 37 => .boolean
  | 38 => .array .int
  | 39 => .int
  | 40 => .int
  | 41 => .int
  | 42 => .int
  | 43 => .array .int
  | 44 => .array .int
  | 45 => .array .int
  | 46 => .array .int
  | 47 => .array .int
  | _ => .int
abbrev xCl : List vw_C := [(xR0, xT0, 3), (xR1, xT1, 12), (xR2, xT2, 1), (xR3, xT3, 11), (xR4, xT4, 3), (xR5, xT5, 3), (xR6, xT6, 7), (xR7, xT7, 6), (xR8, xT8, 11), (xR9, xT9, 49)]
def XT : List Cond := lw_tbl.filter goodWord
theorem XTi {w : Cond} (i : Nat) (h : lw_tbl[i]? = some w) (hg : goodWord w = true) : w ∈ XT := List.mem_filter.mpr ⟨List.mem_of_getElem? h, hg⟩
theorem XT1 {w : Cond} (i : Nat) (h : tables_1_1[i]? = some w) (hg : goodWord w = true) : w ∈ XT := List.mem_filter.mpr ⟨List.mem_append_right _ (show w ∈ tables_1_1 ++ (tables_1_2 ++ (tables_1_3 ++ (tables_1_4 ++ (tables_1_5 ++ tables_1_6)))) from List.mem_append_left _ (List.mem_of_getElem? h)), hg⟩
theorem XT2 {w : Cond} (i : Nat) (h : tables_1_2[i]? = some w) (hg : goodWord w = true) : w ∈ XT := List.mem_filter.mpr ⟨List.mem_append_right _ (show w ∈ tables_1_1 ++ (tables_1_2 ++ (tables_1_3 ++ (tables_1_4 ++ (tables_1_5 ++ tables_1_6)))) from List.mem_append_right _ (List.mem_append_left _ (List.mem_of_getElem? h))), hg⟩
theorem XT3 {w : Cond} (i : Nat) (h : tables_1_3[i]? = some w) (hg : goodWord w = true) : w ∈ XT := List.mem_filter.mpr ⟨List.mem_append_right _ (show w ∈ tables_1_1 ++ (tables_1_2 ++ (tables_1_3 ++ (tables_1_4 ++ (tables_1_5 ++ tables_1_6)))) from List.mem_append_right _ (List.mem_append_right _ (List.mem_append_left _ (List.mem_of_getElem? h)))), hg⟩
theorem XT4 {w : Cond} (i : Nat) (h : tables_1_4[i]? = some w) (hg : goodWord w = true) : w ∈ XT := List.mem_filter.mpr ⟨List.mem_append_right _ (show w ∈ tables_1_1 ++ (tables_1_2 ++ (tables_1_3 ++ (tables_1_4 ++ (tables_1_5 ++ tables_1_6)))) from List.mem_append_right _ (List.mem_append_right _ (List.mem_append_right _ (List.mem_append_left _ (List.mem_of_getElem? h))))), hg⟩
theorem XT5 {w : Cond} (i : Nat) (h : tables_1_5[i]? = some w) (hg : goodWord w = true) : w ∈ XT := List.mem_filter.mpr ⟨List.mem_append_right _ (show w ∈ tables_1_1 ++ (tables_1_2 ++ (tables_1_3 ++ (tables_1_4 ++ (tables_1_5 ++ tables_1_6)))) from List.mem_append_right _ (List.mem_append_right _ (List.mem_append_right _ (List.mem_append_right _ (List.mem_append_left _ (List.mem_of_getElem? h)))))), hg⟩
theorem XT6 {w : Cond} (i : Nat) (h : tables_1_6[i]? = some w) (hg : goodWord w = true) : w ∈ XT := List.mem_filter.mpr ⟨List.mem_append_right _ (show w ∈ tables_1_1 ++ (tables_1_2 ++ (tables_1_3 ++ (tables_1_4 ++ (tables_1_5 ++ tables_1_6)))) from List.mem_append_right _ (List.mem_append_right _ (List.mem_append_right _ (List.mem_append_right _ (List.mem_append_right _ (List.mem_of_getElem? h)))))), hg⟩
theorem XTgood : GoodIn XT XT := fun w h => ⟨h, good_of_word (List.mem_filter.mp h).2⟩
/-- a class of the worlds: its words, its fields' types, their names -/
def xKC (k : Nat) (C : String) (T : u_T) (N : Nat) (ty : Nat → FieldType) : Prop := xCl[k]? = some (C, T, N) ∧ (∀ w ∈ u_ws C T N, w ∈ XT) ∧ (∀ k, k < N → parseFieldDescriptor (T k).2.2.1 = some (ty k)) ∧ (∀ a, a < N → ∀ b, b < N → a ≠ b → (T a).2.1 ≠ (T b).2.1)
theorem xkc0 : xKC 0 xR0 xT0 3 xty0 := ⟨rfl, fun w hw => List.mem_filter.mpr ⟨(by decide +kernel : ∀ w ∈ u_ws xR0 xT0 3, w ∈ lw_tbl) w hw, (by decide +kernel : ∀ w ∈ u_ws xR0 xT0 3, goodWord w = true) w hw⟩, by decide +kernel, by decide +kernel⟩
theorem xkc1 : xKC 1 xR1 xT1 12 xty1 := ⟨rfl, fun w hw => List.mem_filter.mpr ⟨(by decide +kernel : ∀ w ∈ u_ws xR1 xT1 12, w ∈ lw_tbl) w hw, (by decide +kernel : ∀ w ∈ u_ws xR1 xT1 12, goodWord w = true) w hw⟩, by decide +kernel, by decide +kernel⟩
theorem xkc2 : xKC 2 xR2 xT2 1 xty2 := ⟨rfl, fun w hw => List.mem_filter.mpr ⟨(by decide +kernel : ∀ w ∈ u_ws xR2 xT2 1, w ∈ lw_tbl) w hw, (by decide +kernel : ∀ w ∈ u_ws xR2 xT2 1, goodWord w = true) w hw⟩, by decide +kernel, by decide +kernel⟩
theorem xkc3 : xKC 3 xR3 xT3 11 xty3 := ⟨rfl, fun w hw => List.mem_filter.mpr ⟨(by decide +kernel : ∀ w ∈ u_ws xR3 xT3 11, w ∈ lw_tbl) w hw, (by decide +kernel : ∀ w ∈ u_ws xR3 xT3 11, goodWord w = true) w hw⟩, by decide +kernel, by decide +kernel⟩
theorem xkc4 : xKC 4 xR4 xT4 3 xty4 := ⟨rfl, fun w hw => List.mem_filter.mpr ⟨(by decide +kernel : ∀ w ∈ u_ws xR4 xT4 3, w ∈ lw_tbl) w hw, (by decide +kernel : ∀ w ∈ u_ws xR4 xT4 3, goodWord w = true) w hw⟩, by decide +kernel, by decide +kernel⟩
theorem xkc5 : xKC 5 xR5 xT5 3 xty5 := ⟨rfl, fun w hw => List.mem_filter.mpr ⟨(by decide +kernel : ∀ w ∈ u_ws xR5 xT5 3, w ∈ lw_tbl) w hw, (by decide +kernel : ∀ w ∈ u_ws xR5 xT5 3, goodWord w = true) w hw⟩, by decide +kernel, by decide +kernel⟩
theorem xkc6 : xKC 6 xR6 xT6 7 xty6 := ⟨rfl, fun w hw => List.mem_filter.mpr ⟨(by decide +kernel : ∀ w ∈ u_ws xR6 xT6 7, w ∈ lw_tbl) w hw, (by decide +kernel : ∀ w ∈ u_ws xR6 xT6 7, goodWord w = true) w hw⟩, by decide +kernel, by decide +kernel⟩
theorem xkc7 : xKC 7 xR7 xT7 6 xty7 := ⟨rfl, fun w hw => List.mem_filter.mpr ⟨(by decide +kernel : ∀ w ∈ u_ws xR7 xT7 6, w ∈ lw_tbl) w hw, (by decide +kernel : ∀ w ∈ u_ws xR7 xT7 6, goodWord w = true) w hw⟩, by decide +kernel, by decide +kernel⟩
theorem xkc8 : xKC 8 xR8 xT8 11 xty8 := ⟨rfl, fun w hw => List.mem_filter.mpr ⟨(by decide +kernel : ∀ w ∈ u_ws xR8 xT8 11, w ∈ lw_tbl) w hw, (by decide +kernel : ∀ w ∈ u_ws xR8 xT8 11, goodWord w = true) w hw⟩, by decide +kernel, by decide +kernel⟩
theorem xkc9 : xKC 9 xR9 xT9 49 xty9 := ⟨rfl, fun w hw => List.mem_filter.mpr ⟨(by decide +kernel : ∀ w ∈ u_ws xR9 xT9 49, w ∈ lw_tbl) w hw, (by decide +kernel : ∀ w ∈ u_ws xR9 xT9 49, goodWord w = true) w hw⟩, by decide +kernel, by decide +kernel⟩
/-- a field by its entry in a class's pool -/
def xFL (own : String) (idx k j : Nat) (fin : Bool) (fty : FieldType) : Prop := ∃ (C : String) (T : u_T) (N : Nat) (ty : Nat → FieldType), xKC k C T N ty ∧ j < N ∧ Cond.fieldLink own idx (T j).1 (T j).2.1 (T j).2.2.1 ∈ XT ∧ (T j).2.2.2 = fin ∧ parseFieldDescriptor (T j).2.2.1 = some fty ∧ (fin = true → (T j).1 = own)
/-- a field of another class, read alone -/
def xFR (own : String) (idx k j : Nat) (fin : Bool) (fty : FieldType) : Prop := ∃ (C : String) (T : u_T) (N : Nat) (ty : Nat → FieldType), xKC k C T N ty ∧ j < N ∧ Cond.fieldLink own idx (T j).1 (T j).2.1 (T j).2.2.1 ∈ XT
theorem xFL.r {own : String} {idx k j : Nat} {fin : Bool} {fty : FieldType} (h : xFL own idx k j fin fty) : xFR own idx k j fin fty := by
  obtain ⟨C, T, N, ty, h1, h2, h3, -⟩ := h
  exact ⟨C, T, N, ty, h1, h2, h3⟩
theorem xf_1_22 : xFL xR1 22 1 0 true (.array (.object "OpensAtNine$Coin")) := ⟨xR1, xT1, 12, xty1, xkc1, by decide, XT1 37 rfl rfl, rfl, by decide +kernel, fun _ => rfl⟩
theorem xf_1_26 : xFL xR1 26 1 1 true (.array (.object "OpensAtNine$Text")) := ⟨xR1, xT1, 12, xty1, xkc1, by decide, XT1 38 rfl rfl, rfl, by decide +kernel, fun _ => rfl⟩
theorem xf_1_9 : xFL xR1 9 1 2 true (.array .int) := ⟨xR1, xT1, 12, xty1, xkc1, by decide, XT1 39 rfl rfl, rfl, by decide +kernel, fun _ => rfl⟩
theorem xf_1_15 : xFL xR1 15 1 3 true (.array .int) := ⟨xR1, xT1, 12, xty1, xkc1, by decide, XT1 40 rfl rfl, rfl, by decide +kernel, fun _ => rfl⟩
theorem xf_1_18 : xFL xR1 18 1 4 false (.int) := ⟨xR1, xT1, 12, xty1, xkc1, by decide, XT1 41 rfl rfl, rfl, by decide +kernel, fun h => by cases h⟩
theorem xf_8_87 : xFL xR8 87 1 4 false (.int) := ⟨xR1, xT1, 12, xty1, xkc1, by decide, XT1 42 rfl rfl, rfl, by decide +kernel, fun h => by cases h⟩
theorem xf_1_30 : xFL xR1 30 1 5 false (.int) := ⟨xR1, xT1, 12, xty1, xkc1, by decide, XT1 43 rfl rfl, rfl, by decide +kernel, fun h => by cases h⟩
theorem xf_8_90 : xFL xR8 90 1 5 false (.int) := ⟨xR1, xT1, 12, xty1, xkc1, by decide, XT1 44 rfl rfl, rfl, by decide +kernel, fun h => by cases h⟩
theorem xf_7_50 : xFL xR7 50 1 5 false (.int) := ⟨xR1, xT1, 12, xty1, xkc1, by decide, XT1 45 rfl rfl, rfl, by decide +kernel, fun h => by cases h⟩
theorem xf_6_74 : xFL xR6 74 1 5 false (.int) := ⟨xR1, xT1, 12, xty1, xkc1, by decide, XT1 46 rfl rfl, rfl, by decide +kernel, fun h => by cases h⟩
theorem xf_1_33 : xFL xR1 33 1 6 false (.int) := ⟨xR1, xT1, 12, xty1, xkc1, by decide, XT1 47 rfl rfl, rfl, by decide +kernel, fun h => by cases h⟩
theorem xf_8_93 : xFL xR8 93 1 6 false (.int) := ⟨xR1, xT1, 12, xty1, xkc1, by decide, XT1 48 rfl rfl, rfl, by decide +kernel, fun h => by cases h⟩
theorem xf_7_61 : xFL xR7 61 1 6 false (.int) := ⟨xR1, xT1, 12, xty1, xkc1, by decide, XT1 49 rfl rfl, rfl, by decide +kernel, fun h => by cases h⟩
theorem xf_6_89 : xFL xR6 89 1 6 false (.int) := ⟨xR1, xT1, 12, xty1, xkc1, by decide, XT1 50 rfl rfl, rfl, by decide +kernel, fun h => by cases h⟩
theorem xf_1_36 : xFL xR1 36 1 7 false (.int) := ⟨xR1, xT1, 12, xty1, xkc1, by decide, XT1 51 rfl rfl, rfl, by decide +kernel, fun h => by cases h⟩
theorem xf_8_96 : xFL xR8 96 1 7 false (.int) := ⟨xR1, xT1, 12, xty1, xkc1, by decide, XT1 52 rfl rfl, rfl, by decide +kernel, fun h => by cases h⟩
theorem xf_6_62 : xFL xR6 62 1 7 false (.int) := ⟨xR1, xT1, 12, xty1, xkc1, by decide, XT1 53 rfl rfl, rfl, by decide +kernel, fun h => by cases h⟩
theorem xf_1_39 : xFL xR1 39 1 8 false (.int) := ⟨xR1, xT1, 12, xty1, xkc1, by decide, XT1 54 rfl rfl, rfl, by decide +kernel, fun h => by cases h⟩
theorem xf_7_41 : xFL xR7 41 1 8 false (.int) := ⟨xR1, xT1, 12, xty1, xkc1, by decide, XT1 55 rfl rfl, rfl, by decide +kernel, fun h => by cases h⟩
theorem xf_8_106 : xFL xR8 106 1 8 false (.int) := ⟨xR1, xT1, 12, xty1, xkc1, by decide, XT1 56 rfl rfl, rfl, by decide +kernel, fun h => by cases h⟩
theorem xf_6_71 : xFL xR6 71 1 8 false (.int) := ⟨xR1, xT1, 12, xty1, xkc1, by decide, XT1 57 rfl rfl, rfl, by decide +kernel, fun h => by cases h⟩
theorem xf_1_42 : xFL xR1 42 1 9 false (.int) := ⟨xR1, xT1, 12, xty1, xkc1, by decide, XT1 58 rfl rfl, rfl, by decide +kernel, fun h => by cases h⟩
theorem xf_8_109 : xFL xR8 109 1 9 false (.int) := ⟨xR1, xT1, 12, xty1, xkc1, by decide, XT1 59 rfl rfl, rfl, by decide +kernel, fun h => by cases h⟩
theorem xf_1_45 : xFL xR1 45 1 10 false (.int) := ⟨xR1, xT1, 12, xty1, xkc1, by decide, XT1 60 rfl rfl, rfl, by decide +kernel, fun h => by cases h⟩
theorem xf_7_47 : xFL xR7 47 1 10 false (.int) := ⟨xR1, xT1, 12, xty1, xkc1, by decide, XT1 61 rfl rfl, rfl, by decide +kernel, fun h => by cases h⟩
theorem xf_6_68 : xFL xR6 68 1 10 false (.int) := ⟨xR1, xT1, 12, xty1, xkc1, by decide, XT1 62 rfl rfl, rfl, by decide +kernel, fun h => by cases h⟩
theorem xf_1_48 : xFL xR1 48 1 11 false (.int) := ⟨xR1, xT1, 12, xty1, xkc1, by decide, XT1 63 rfl rfl, rfl, by decide +kernel, fun h => by cases h⟩
theorem xf_8_112 : xFL xR8 112 1 11 false (.int) := ⟨xR1, xT1, 12, xty1, xkc1, by decide, XT1 64 rfl rfl, rfl, by decide +kernel, fun h => by cases h⟩
theorem xf_2_9 : xFL xR2 9 2 0 true (.array .int) := ⟨xR2, xT2, 1, xty2, xkc2, by decide, XT1 97 rfl rfl, rfl, by decide +kernel, fun _ => rfl⟩
theorem xf_7_9 : xFL xR7 9 7 0 true (.object "OpensAtNine$Gate") := ⟨xR7, xT7, 6, xty7, xkc7, by decide, XT1 107 rfl rfl, rfl, by decide +kernel, fun _ => rfl⟩
theorem xf_7_15 : xFL xR7 15 7 1 true (.object "OpensAtNine$Met") := ⟨xR7, xT7, 6, xty7, xkc7, by decide, XT1 108 rfl rfl, rfl, by decide +kernel, fun _ => rfl⟩
theorem xf_7_30 : xFL xR7 30 7 2 false (.int) := ⟨xR7, xT7, 6, xty7, xkc7, by decide, XT1 109 rfl rfl, rfl, by decide +kernel, fun h => by cases h⟩
theorem xf_7_34 : xFL xR7 34 7 3 false (.int) := ⟨xR7, xT7, 6, xty7, xkc7, by decide, XT1 110 rfl rfl, rfl, by decide +kernel, fun h => by cases h⟩
theorem xf_7_78 : xFL xR7 78 7 4 false (.int) := ⟨xR7, xT7, 6, xty7, xkc7, by decide, XT1 111 rfl rfl, rfl, by decide +kernel, fun h => by cases h⟩
theorem xf_7_44 : xFL xR7 44 7 5 false (.int) := ⟨xR7, xT7, 6, xty7, xkc7, by decide, XT1 112 rfl rfl, rfl, by decide +kernel, fun h => by cases h⟩
theorem xf_8_179 : xFL xR8 179 7 5 false (.int) := ⟨xR7, xT7, 6, xty7, xkc7, by decide, XT1 113 rfl rfl, rfl, by decide +kernel, fun h => by cases h⟩
theorem xf_6_28 : xFL xR6 28 6 0 true (.object "OpensAtNine$Gate") := ⟨xR6, xT6, 7, xty6, xkc6, by decide, XT1 135 rfl rfl, rfl, by decide +kernel, fun _ => rfl⟩
theorem xf_6_11 : xFL xR6 11 6 1 true (.array (.array .int)) := ⟨xR6, xT6, 7, xty6, xkc6, by decide, XT1 136 rfl rfl, rfl, by decide +kernel, fun _ => rfl⟩
theorem xf_6_16 : xFL xR6 16 6 2 true (.array .int) := ⟨xR6, xT6, 7, xty6, xkc6, by decide, XT1 137 rfl rfl, rfl, by decide +kernel, fun _ => rfl⟩
theorem xf_6_32 : xFL xR6 32 6 3 true (.object "OpensAtNine$Met") := ⟨xR6, xT6, 7, xty6, xkc6, by decide, XT1 138 rfl rfl, rfl, by decide +kernel, fun _ => rfl⟩
theorem xf_6_22 : xFL xR6 22 6 4 true (.array .int) := ⟨xR6, xT6, 7, xty6, xkc6, by decide, XT1 139 rfl rfl, rfl, by decide +kernel, fun _ => rfl⟩
theorem xf_6_25 : xFL xR6 25 6 5 true (.array .int) := ⟨xR6, xT6, 7, xty6, xkc6, by decide, XT1 140 rfl rfl, rfl, by decide +kernel, fun _ => rfl⟩
theorem xf_6_54 : xFL xR6 54 6 6 false (.int) := ⟨xR6, xT6, 7, xty6, xkc6, by decide, XT1 141 rfl rfl, rfl, by decide +kernel, fun h => by cases h⟩
theorem xf_3_9 : xFL xR3 9 3 0 true (.array .int) := ⟨xR3, xT3, 11, xty3, xkc3, by decide, XT1 163 rfl rfl, rfl, by decide +kernel, fun _ => rfl⟩
theorem xf_3_15 : xFL xR3 15 3 1 true (.array .int) := ⟨xR3, xT3, 11, xty3, xkc3, by decide, XT1 164 rfl rfl, rfl, by decide +kernel, fun _ => rfl⟩
theorem xf_3_18 : xFL xR3 18 3 2 true (.array .int) := ⟨xR3, xT3, 11, xty3, xkc3, by decide, XT1 165 rfl rfl, rfl, by decide +kernel, fun _ => rfl⟩
theorem xf_3_21 : xFL xR3 21 3 3 false (.int) := ⟨xR3, xT3, 11, xty3, xkc3, by decide, XT1 166 rfl rfl, rfl, by decide +kernel, fun h => by cases h⟩
theorem xf_8_115 : xFL xR8 115 3 3 false (.int) := ⟨xR3, xT3, 11, xty3, xkc3, by decide, XT1 167 rfl rfl, rfl, by decide +kernel, fun h => by cases h⟩
theorem xf_3_61 : xFL xR3 61 3 4 false (.int) := ⟨xR3, xT3, 11, xty3, xkc3, by decide, XT1 168 rfl rfl, rfl, by decide +kernel, fun h => by cases h⟩
theorem xf_8_125 : xFL xR8 125 3 4 false (.int) := ⟨xR3, xT3, 11, xty3, xkc3, by decide, XT1 169 rfl rfl, rfl, by decide +kernel, fun h => by cases h⟩
theorem xf_3_39 : xFL xR3 39 3 5 false (.int) := ⟨xR3, xT3, 11, xty3, xkc3, by decide, XT1 170 rfl rfl, rfl, by decide +kernel, fun h => by cases h⟩
theorem xf_3_58 : xFL xR3 58 3 6 false (.int) := ⟨xR3, xT3, 11, xty3, xkc3, by decide, XT1 171 rfl rfl, rfl, by decide +kernel, fun h => by cases h⟩
theorem xf_3_55 : xFL xR3 55 3 7 false (.int) := ⟨xR3, xT3, 11, xty3, xkc3, by decide, XT1 172 rfl rfl, rfl, by decide +kernel, fun h => by cases h⟩
theorem xf_3_107 : xFL xR3 107 3 8 false (.int) := ⟨xR3, xT3, 11, xty3, xkc3, by decide, XT1 173 rfl rfl, rfl, by decide +kernel, fun h => by cases h⟩
theorem xf_3_42 : xFL xR3 42 3 9 false (.int) := ⟨xR3, xT3, 11, xty3, xkc3, by decide, XT1 174 rfl rfl, rfl, by decide +kernel, fun h => by cases h⟩
theorem xf_3_45 : xFL xR3 45 3 10 false (.int) := ⟨xR3, xT3, 11, xty3, xkc3, by decide, XT1 175 rfl rfl, rfl, by decide +kernel, fun h => by cases h⟩
theorem xf_4_9 : xFL xR4 9 4 0 true (.array .int) := ⟨xR4, xT4, 3, xty4, xkc4, by decide, XT1 206 rfl rfl, rfl, by decide +kernel, fun _ => rfl⟩
theorem xf_8_292 : xFR xR8 292 4 0 true (.array .int) := ⟨xR4, xT4, 3, xty4, xkc4, by decide, XT1 207 rfl rfl⟩
theorem xf_4_15 : xFL xR4 15 4 1 false (.int) := ⟨xR4, xT4, 3, xty4, xkc4, by decide, XT1 208 rfl rfl, rfl, by decide +kernel, fun h => by cases h⟩
theorem xf_8_257 : xFL xR8 257 4 1 false (.int) := ⟨xR4, xT4, 3, xty4, xkc4, by decide, XT1 209 rfl rfl, rfl, by decide +kernel, fun h => by cases h⟩
theorem xf_4_28 : xFL xR4 28 4 2 false (.int) := ⟨xR4, xT4, 3, xty4, xkc4, by decide, XT1 210 rfl rfl, rfl, by decide +kernel, fun h => by cases h⟩
theorem xf_8_260 : xFL xR8 260 4 2 false (.int) := ⟨xR4, xT4, 3, xty4, xkc4, by decide, XT1 211 rfl rfl, rfl, by decide +kernel, fun h => by cases h⟩
theorem xf_5_7 : xFL xR5 7 5 0 true (.array .int) := ⟨xR5, xT5, 3, xty5, xkc5, by decide, XT2 147 rfl rfl, rfl, by decide +kernel, fun _ => rfl⟩
theorem xf_5_13 : xFL xR5 13 5 1 true (.array .int) := ⟨xR5, xT5, 3, xty5, xkc5, by decide, XT2 148 rfl rfl, rfl, by decide +kernel, fun _ => rfl⟩
theorem xf_5_16 : xFL xR5 16 5 2 true (.array .int) := ⟨xR5, xT5, 3, xty5, xkc5, by decide, XT2 149 rfl rfl, rfl, by decide +kernel, fun _ => rfl⟩
theorem xf_8_13 : xFL xR8 13 8 0 true (.array (.object "OpensAtNine$Coin")) := ⟨xR8, xT8, 11, xty8, xkc8, by decide, XT2 158 rfl rfl, rfl, by decide +kernel, fun _ => rfl⟩
theorem xf_8_17 : xFL xR8 17 8 1 true (.array (.object "OpensAtNine$Text")) := ⟨xR8, xT8, 11, xty8, xkc8, by decide, XT2 159 rfl rfl, rfl, by decide +kernel, fun _ => rfl⟩
theorem xf_8_26 : xFL xR8 26 8 2 true (.object "OpensAtNine$Gate") := ⟨xR8, xT8, 11, xty8, xkc8, by decide, XT2 160 rfl rfl, rfl, by decide +kernel, fun _ => rfl⟩
theorem xf_8_30 : xFL xR8 30 8 3 true (.object "OpensAtNine$Gate") := ⟨xR8, xT8, 11, xty8, xkc8, by decide, XT2 161 rfl rfl, rfl, by decide +kernel, fun _ => rfl⟩
theorem xf_8_33 : xFL xR8 33 8 4 true (.object "OpensAtNine$Gate") := ⟨xR8, xT8, 11, xty8, xkc8, by decide, XT2 162 rfl rfl, rfl, by decide +kernel, fun _ => rfl⟩
theorem xf_8_44 : xFL xR8 44 8 5 true (.object "OpensAtNine$Ways") := ⟨xR8, xT8, 11, xty8, xkc8, by decide, XT2 163 rfl rfl, rfl, by decide +kernel, fun _ => rfl⟩
theorem xf_8_51 : xFL xR8 51 8 6 true (.object "OpensAtNine$Turns") := ⟨xR8, xT8, 11, xty8, xkc8, by decide, XT2 164 rfl rfl, rfl, by decide +kernel, fun _ => rfl⟩
theorem xf_8_58 : xFL xR8 58 8 7 true (.object "OpensAtNine$Reader") := ⟨xR8, xT8, 11, xty8, xkc8, by decide, XT2 165 rfl rfl, rfl, by decide +kernel, fun _ => rfl⟩
theorem xf_8_64 : xFL xR8 64 8 8 true (.array (.object "OpensAtNine$Sheet")) := ⟨xR8, xT8, 11, xty8, xkc8, by decide, XT2 166 rfl rfl, rfl, by decide +kernel, fun _ => rfl⟩
theorem xf_8_79 : xFL xR8 79 8 9 false (.int) := ⟨xR8, xT8, 11, xty8, xkc8, by decide, XT2 167 rfl rfl, rfl, by decide +kernel, fun h => by cases h⟩
theorem xf_8_285 : xFL xR8 285 8 10 false (.boolean) := ⟨xR8, xT8, 11, xty8, xkc8, by decide, XT2 168 rfl rfl, rfl, by decide +kernel, fun h => by cases h⟩
theorem xf_0_9 : xFL xR0 9 0 0 true (.int) := ⟨xR0, xT0, 3, xty0, xkc0, by decide, XT3 30 rfl rfl, rfl, by decide +kernel, fun _ => rfl⟩
theorem xf_8_149 : xFR xR8 149 0 0 true (.int) := ⟨xR0, xT0, 3, xty0, xkc0, by decide, XT3 31 rfl rfl⟩
theorem xf_0_15 : xFL xR0 15 0 1 true (.int) := ⟨xR0, xT0, 3, xty0, xkc0, by decide, XT3 32 rfl rfl, rfl, by decide +kernel, fun _ => rfl⟩
theorem xf_8_152 : xFR xR8 152 0 1 true (.int) := ⟨xR0, xT0, 3, xty0, xkc0, by decide, XT3 33 rfl rfl⟩
theorem xf_0_18 : xFL xR0 18 0 2 true (.int) := ⟨xR0, xT0, 3, xty0, xkc0, by decide, XT3 34 rfl rfl, rfl, by decide +kernel, fun _ => rfl⟩
theorem xf_8_155 : xFR xR8 155 0 2 true (.int) := ⟨xR0, xT0, 3, xty0, xkc0, by decide, XT3 35 rfl rfl⟩
theorem xf_9_7 : xFL xR9 7 9 0 false (.int) := ⟨xR9, xT9, 49, xty9, xkc9, by decide, XT4 225 rfl rfl, rfl, by decide +kernel, fun h => by cases h⟩
theorem xf_9_113 : xFL xR9 113 9 1 false (.int) := ⟨xR9, xT9, 49, xty9, xkc9, by decide, XT4 226 rfl rfl, rfl, by decide +kernel, fun h => by cases h⟩
theorem xf_9_116 : xFL xR9 116 9 2 false (.int) := ⟨xR9, xT9, 49, xty9, xkc9, by decide, XT4 227 rfl rfl, rfl, by decide +kernel, fun h => by cases h⟩
theorem xf_9_97 : xFL xR9 97 9 3 false (.int) := ⟨xR9, xT9, 49, xty9, xkc9, by decide, XT4 228 rfl rfl, rfl, by decide +kernel, fun h => by cases h⟩
theorem xf_9_107 : xFL xR9 107 9 4 false (.int) := ⟨xR9, xT9, 49, xty9, xkc9, by decide, XT4 229 rfl rfl, rfl, by decide +kernel, fun h => by cases h⟩
theorem xf_9_104 : xFL xR9 104 9 5 false (.int) := ⟨xR9, xT9, 49, xty9, xkc9, by decide, XT4 230 rfl rfl, rfl, by decide +kernel, fun h => by cases h⟩
theorem xf_9_13 : xFL xR9 13 9 6 true (.array .int) := ⟨xR9, xT9, 49, xty9, xkc9, by decide, XT4 231 rfl rfl, rfl, by decide +kernel, fun _ => rfl⟩
theorem xf_9_17 : xFL xR9 17 9 7 true (.array .int) := ⟨xR9, xT9, 49, xty9, xkc9, by decide, XT4 232 rfl rfl, rfl, by decide +kernel, fun _ => rfl⟩
theorem xf_9_20 : xFL xR9 20 9 8 true (.array .int) := ⟨xR9, xT9, 49, xty9, xkc9, by decide, XT4 233 rfl rfl, rfl, by decide +kernel, fun _ => rfl⟩
theorem xf_9_23 : xFL xR9 23 9 9 true (.array .int) := ⟨xR9, xT9, 49, xty9, xkc9, by decide, XT4 234 rfl rfl, rfl, by decide +kernel, fun _ => rfl⟩
theorem xf_9_110 : xFL xR9 110 9 10 false (.int) := ⟨xR9, xT9, 49, xty9, xkc9, by decide, XT4 235 rfl rfl, rfl, by decide +kernel, fun h => by cases h⟩
theorem xf_9_26 : xFL xR9 26 9 11 true (.array .int) := ⟨xR9, xT9, 49, xty9, xkc9, by decide, XT4 236 rfl rfl, rfl, by decide +kernel, fun _ => rfl⟩
theorem xf_9_90 : xFL xR9 90 9 12 false (.int) := ⟨xR9, xT9, 49, xty9, xkc9, by decide, XT4 237 rfl rfl, rfl, by decide +kernel, fun h => by cases h⟩
theorem xf_9_29 : xFL xR9 29 9 13 true (.array .int) := ⟨xR9, xT9, 49, xty9, xkc9, by decide, XT4 238 rfl rfl, rfl, by decide +kernel, fun _ => rfl⟩
theorem xf_9_32 : xFL xR9 32 9 14 true (.array .int) := ⟨xR9, xT9, 49, xty9, xkc9, by decide, XT4 239 rfl rfl, rfl, by decide +kernel, fun _ => rfl⟩
theorem xf_9_123 : xFL xR9 123 9 15 false (.int) := ⟨xR9, xT9, 49, xty9, xkc9, by decide, XT5 0 rfl rfl, rfl, by decide +kernel, fun h => by cases h⟩
theorem xf_9_126 : xFL xR9 126 9 16 false (.int) := ⟨xR9, xT9, 49, xty9, xkc9, by decide, XT5 1 rfl rfl, rfl, by decide +kernel, fun h => by cases h⟩
theorem xf_9_337 : xFL xR9 337 9 17 false (.boolean) := ⟨xR9, xT9, 49, xty9, xkc9, by decide, XT5 2 rfl rfl, rfl, by decide +kernel, fun h => by cases h⟩
theorem xf_9_35 : xFL xR9 35 9 18 true (.array .int) := ⟨xR9, xT9, 49, xty9, xkc9, by decide, XT5 3 rfl rfl, rfl, by decide +kernel, fun _ => rfl⟩
theorem xf_9_38 : xFL xR9 38 9 19 true (.array .int) := ⟨xR9, xT9, 49, xty9, xkc9, by decide, XT5 4 rfl rfl, rfl, by decide +kernel, fun _ => rfl⟩
theorem xf_9_41 : xFL xR9 41 9 20 true (.array .int) := ⟨xR9, xT9, 49, xty9, xkc9, by decide, XT5 5 rfl rfl, rfl, by decide +kernel, fun _ => rfl⟩
theorem xf_9_44 : xFL xR9 44 9 21 true (.array .int) := ⟨xR9, xT9, 49, xty9, xkc9, by decide, XT5 6 rfl rfl, rfl, by decide +kernel, fun _ => rfl⟩
theorem xf_9_47 : xFL xR9 47 9 22 true (.array .int) := ⟨xR9, xT9, 49, xty9, xkc9, by decide, XT5 7 rfl rfl, rfl, by decide +kernel, fun _ => rfl⟩
theorem xf_9_50 : xFL xR9 50 9 23 true (.array .int) := ⟨xR9, xT9, 49, xty9, xkc9, by decide, XT5 8 rfl rfl, rfl, by decide +kernel, fun _ => rfl⟩
theorem xf_9_132 : xFL xR9 132 9 24 false (.int) := ⟨xR9, xT9, 49, xty9, xkc9, by decide, XT5 9 rfl rfl, rfl, by decide +kernel, fun h => by cases h⟩
theorem xf_9_135 : xFL xR9 135 9 25 false (.int) := ⟨xR9, xT9, 49, xty9, xkc9, by decide, XT5 10 rfl rfl, rfl, by decide +kernel, fun h => by cases h⟩
theorem xf_9_138 : xFL xR9 138 9 26 false (.int) := ⟨xR9, xT9, 49, xty9, xkc9, by decide, XT5 11 rfl rfl, rfl, by decide +kernel, fun h => by cases h⟩
theorem xf_9_141 : xFL xR9 141 9 27 false (.int) := ⟨xR9, xT9, 49, xty9, xkc9, by decide, XT5 12 rfl rfl, rfl, by decide +kernel, fun h => by cases h⟩
theorem xf_9_53 : xFL xR9 53 9 28 true (.array .int) := ⟨xR9, xT9, 49, xty9, xkc9, by decide, XT5 13 rfl rfl, rfl, by decide +kernel, fun _ => rfl⟩
theorem xf_9_56 : xFL xR9 56 9 29 true (.array .int) := ⟨xR9, xT9, 49, xty9, xkc9, by decide, XT5 14 rfl rfl, rfl, by decide +kernel, fun _ => rfl⟩
theorem xf_9_151 : xFL xR9 151 9 30 false (.int) := ⟨xR9, xT9, 49, xty9, xkc9, by decide, XT5 15 rfl rfl, rfl, by decide +kernel, fun h => by cases h⟩
theorem xf_9_158 : xFL xR9 158 9 31 false (.int) := ⟨xR9, xT9, 49, xty9, xkc9, by decide, XT5 16 rfl rfl, rfl, by decide +kernel, fun h => by cases h⟩
theorem xf_9_148 : xFL xR9 148 9 32 false (.int) := ⟨xR9, xT9, 49, xty9, xkc9, by decide, XT5 17 rfl rfl, rfl, by decide +kernel, fun h => by cases h⟩
theorem xf_9_59 : xFL xR9 59 9 33 true (.array .int) := ⟨xR9, xT9, 49, xty9, xkc9, by decide, XT5 18 rfl rfl, rfl, by decide +kernel, fun _ => rfl⟩
theorem xf_9_62 : xFL xR9 62 9 34 true (.array .int) := ⟨xR9, xT9, 49, xty9, xkc9, by decide, XT5 19 rfl rfl, rfl, by decide +kernel, fun _ => rfl⟩
theorem xf_9_65 : xFL xR9 65 9 35 true (.array .long) := ⟨xR9, xT9, 49, xty9, xkc9, by decide, XT5 20 rfl rfl, rfl, by decide +kernel, fun _ => rfl⟩
theorem xf_9_69 : xFL xR9 69 9 36 true (.array .int) := ⟨xR9, xT9, 49, xty9, xkc9, by decide, XT5 21 rfl rfl, rfl, by decide +kernel, fun _ => rfl⟩
theorem xf_9_192 : xFL xR9 192 9 37 false (.boolean) := ⟨xR9, xT9, 49, xty9, xkc9, by decide, XT5 22 rfl rfl, rfl, by decide +kernel, fun h => by cases h⟩
theorem xf_9_72 : xFL xR9 72 9 38 true (.array .int) := ⟨xR9, xT9, 49, xty9, xkc9, by decide, XT5 23 rfl rfl, rfl, by decide +kernel, fun _ => rfl⟩
theorem xf_9_251 : xFL xR9 251 9 39 false (.int) := ⟨xR9, xT9, 49, xty9, xkc9, by decide, XT5 24 rfl rfl, rfl, by decide +kernel, fun h => by cases h⟩
theorem xf_9_254 : xFL xR9 254 9 40 false (.int) := ⟨xR9, xT9, 49, xty9, xkc9, by decide, XT5 25 rfl rfl, rfl, by decide +kernel, fun h => by cases h⟩
theorem xf_9_257 : xFL xR9 257 9 41 false (.int) := ⟨xR9, xT9, 49, xty9, xkc9, by decide, XT5 26 rfl rfl, rfl, by decide +kernel, fun h => by cases h⟩
theorem xf_9_276 : xFL xR9 276 9 42 false (.int) := ⟨xR9, xT9, 49, xty9, xkc9, by decide, XT5 27 rfl rfl, rfl, by decide +kernel, fun h => by cases h⟩
theorem xf_9_75 : xFL xR9 75 9 43 true (.array .int) := ⟨xR9, xT9, 49, xty9, xkc9, by decide, XT5 28 rfl rfl, rfl, by decide +kernel, fun _ => rfl⟩
theorem xf_9_78 : xFL xR9 78 9 44 true (.array .int) := ⟨xR9, xT9, 49, xty9, xkc9, by decide, XT5 29 rfl rfl, rfl, by decide +kernel, fun _ => rfl⟩
theorem xf_9_81 : xFL xR9 81 9 45 true (.array .int) := ⟨xR9, xT9, 49, xty9, xkc9, by decide, XT5 30 rfl rfl, rfl, by decide +kernel, fun _ => rfl⟩
theorem xf_9_84 : xFL xR9 84 9 46 true (.array .int) := ⟨xR9, xT9, 49, xty9, xkc9, by decide, XT5 31 rfl rfl, rfl, by decide +kernel, fun _ => rfl⟩
theorem xf_9_87 : xFL xR9 87 9 47 true (.array .int) := ⟨xR9, xT9, 49, xty9, xkc9, by decide, XT5 32 rfl rfl, rfl, by decide +kernel, fun _ => rfl⟩
theorem xf_9_308 : xFL xR9 308 9 48 false (.int) := ⟨xR9, xT9, 49, xty9, xkc9, by decide, XT5 33 rfl rfl, rfl, by decide +kernel, fun h => by cases h⟩
end
section
/-! The abstract memory: how many cells, each cell's kind (0 .. 9 the classes of xCl; 10 int[]; 11 long[]; 12 .. 14 arrays of Coin, Text, Sheet; 15 int[][]; 99 none) and length, ints, longs, references. -/
abbrev XM : Type := Nat × (Nat → Nat × Nat) × (Nat → Nat → Int32) × (Nat → Nat → Int64) × (Nat → Nat → Option Nat)
def xc (h : XM) : Nat := h.1
def xs (h : XM) : Nat → Nat × Nat := h.2.1
def xi (h : XM) : Nat → Nat → Int32 := h.2.2.1
def xl (h : XM) : Nat → Nat → Int64 := h.2.2.2.1
def xr (h : XM) : Nat → Nat → Option Nat := h.2.2.2.2
def w2 {α : Type} (f : Nat → Nat → α) (a j : Nat) (v : α) : Nat → Nat → α := fun b k => if b = a ∧ k = j then v else f b k
def wI (h : XM) (a j : Nat) (v : Int32) : XM := (h.1, h.2.1, w2 h.2.2.1 a j v, h.2.2.2.1, h.2.2.2.2)
def wL (h : XM) (a j : Nat) (v : Int64) : XM := (h.1, h.2.1, h.2.2.1, w2 h.2.2.2.1 a j v, h.2.2.2.2)
def wR (h : XM) (a j : Nat) (v : Option Nat) : XM := (h.1, h.2.1, h.2.2.1, h.2.2.2.1, w2 h.2.2.2.2 a j v)
def nw (h : XM) (k n : Nat) : XM := (h.1 + 1, (fun b => if b = h.1 then (k, n) else h.2.1 b), (fun b => if b = h.1 then fun _ => 0 else h.2.2.1 b), (fun b => if b = h.1 then fun _ => 0 else h.2.2.2.1 b), (fun b => if b = h.1 then fun _ => none else h.2.2.2.2 b))
def x0 : XM := (0, (fun _ => (99, 0)), (fun _ _ => 0), (fun _ _ => 0), (fun _ _ => none))
/-! What the machine does there, or none where it isn't safe -/
def gI (h : XM) (k : Nat) (r : Option Nat) (j : Nat) : Option Int32 := r.bind fun a => if (xs h a).1 = k then some (xi h a j) else none
def gR (h : XM) (k : Nat) (r : Option Nat) (j : Nat) : Option (Option Nat) := r.bind fun a => if (xs h a).1 = k then some (xr h a j) else none
def pI (h : XM) (k : Nat) (r : Option Nat) (j : Nat) (v : Int32) : Option XM := r.bind fun a => if (xs h a).1 = k then some (wI h a j v) else none
def pZ (h : XM) (k : Nat) (r : Option Nat) (j : Nat) (v : Int32) : Option XM := r.bind fun a => if (xs h a).1 = k ∧ (v = 0 ∨ v = 1) then some (wI h a j v) else none
def pR (h : XM) (k : Nat) (r : Option Nat) (j : Nat) (v : Option Nat) : Option XM := r.bind fun a => if (xs h a).1 = k then some (wR h a j v) else none
def rI (h : XM) (r : Option Nat) (i : Int32) : Option Int32 := r.bind fun a => if (xs h a).1 = 10 ∧ ¬ (i < 0 ∨ (xs h a).2 ≤ i.toNatClampNeg) then some (xi h a i.toNatClampNeg) else none
def sI (h : XM) (r : Option Nat) (i v : Int32) : Option XM := r.bind fun a => if (xs h a).1 = 10 ∧ ¬ (i < 0 ∨ (xs h a).2 ≤ i.toNatClampNeg) then some (wI h a i.toNatClampNeg v) else none
def rL (h : XM) (r : Option Nat) (i : Int32) : Option Int64 := r.bind fun a => if (xs h a).1 = 11 ∧ ¬ (i < 0 ∨ (xs h a).2 ≤ i.toNatClampNeg) then some (xl h a i.toNatClampNeg) else none
def sL (h : XM) (r : Option Nat) (i : Int32) (v : Int64) : Option XM := r.bind fun a => if (xs h a).1 = 11 ∧ ¬ (i < 0 ∨ (xs h a).2 ≤ i.toNatClampNeg) then some (wL h a i.toNatClampNeg v) else none
def rR (k : Nat) (h : XM) (r : Option Nat) (i : Int32) : Option (Option Nat) := r.bind fun a => if (xs h a).1 = k ∧ ¬ (i < 0 ∨ (xs h a).2 ≤ i.toNatClampNeg) then some (xr h a i.toNatClampNeg) else none
/-- only cells of the kind kv are stored (no null) -/
def sR (k kv : Nat) (h : XM) (r : Option Nat) (i : Int32) (v : Option Nat) : Option XM := r.bind fun a => v.bind fun b => if ((xs h a).1 = k ∧ (xs h b).1 = kv) ∧ ¬ (i < 0 ∨ (xs h a).2 ≤ i.toNatClampNeg) then some (wR h a i.toNatClampNeg (some b)) else none
def ln (h : XM) (r : Option Nat) : Option Int32 := r.bind fun a => if 10 ≤ (xs h a).1 ∧ (xs h a).1 ≤ 15 then some (Int32.ofNat (xs h a).2) else none
def nO (h : XM) (k n : Nat) : Option XM := some (nw h k n)
def nA (h : XM) (k lim : Nat) (n : Int32) : Option XM := if n < 0 ∨ lim < n.toNatClampNeg then none else some (nw h k n.toNatClampNeg)
/-- the receiver of a call is there, and of its kind -/
def vc {α : Type} (h : XM) (k : Nat) (r : Option Nat) (o : Option α) : Option α := r.bind fun a => if (xs h a).1 = k then o else none
/-- an answer of boolean, byte, char -/
def rz (h : XM) (v : Int32) : Option (Int32 × XM) := if v = 0 ∨ v = 1 then some (v, h) else none
def irem (x y : Int32) : Option Int32 := if y = 0 then none else some (x - x / y * y)
def idiv (x y : Int32) : Option Int32 := if y = 0 then none else some (x / y)
def lrem (x y : Int64) : Option Int64 := if y = 0 then none else some (x - x / y * y)
def ldiv (x y : Int64) : Option Int64 := if y = 0 then none else some (x / y)
/-! typed values: ints, longs, references, constants (strings, their bytes, a static array) -/
abbrev TV : Type := Int32 ⊕ Int64 ⊕ Option Nat ⊕ Nat
abbrev tI (x : Int32) : TV := .inl x
abbrev tL (x : Int64) : TV := .inr (.inl x)
abbrev tA (r : Option Nat) : TV := .inr (.inr (.inl r))
abbrev tK (n : Nat) : TV := .inr (.inr (.inr n))
def tcat : TV → Nat
  | .inr (.inl _) => 2
  | _ => 1
/-- what is fixed: the address of cell 0, the classes, the arrays' classes, the strings, their bytes, TENS, the formatter -/
abbrev XG : Type := Nat × va_G × (Nat → ClassId) × (Nat → Nat) × (Nat → Nat) × Nat × Option Nat
def gB (G : XG) : Nat := G.1
def gD (G : XG) : va_G := G.2.1
def gC (G : XG) : Nat → ClassId := G.2.2.1
def gK (G : XG) : Nat → Nat := G.2.2.2.1
def gV (G : XG) : Nat → Nat := G.2.2.2.2.1
def gT (G : XG) : Nat := G.2.2.2.2.2.1
def gF (G : XG) : Option Nat := G.2.2.2.2.2.2
def xk (G : XG) (n : Nat) : Value := if n % 3 = 0 then .ref (gK G (n / 3)) else if n % 3 = 1 then .ref (gV G (n / 3)) else if n = 2 then .ref (gT G) else va_rf (gF G)
def xa (G : XG) (k : Nat) : Nat := gB G + k
def xtv (G : XG) : TV → Value
  | .inl x => .int x
  | .inr (.inl y) => .long y
  | .inr (.inr (.inl r)) => va_rf (r.map (xa G))
  | .inr (.inr (.inr n)) => xk G n
theorem va_rf_cat (r : Option Nat) : (va_rf r).category = 1 := by cases r <;> rfl
theorem xk_cat (G : XG) (n : Nat) : (xk G n).category = 1 := by
  unfold xk
  split
  · rfl
  · split
    · rfl
    · split
      · rfl
      · exact va_rf_cat _
theorem xtv_cat (G : XG) (v : TV) : (xtv G v).category = tcat v := by
  rcases v with x | y | r | n
  · rfl
  · rfl
  · exact va_rf_cat _
  · exact xk_cat G n
/-- which fields are references -/
def xrf : Nat → Nat → Bool := fun c j => match c with
  | 1 => decide (j < 4)
  | 2 => true
  | 3 => decide (j < 3)
  | 4 => decide (j = 0)
  | 5 => true
  | 6 => decide (j < 6)
  | 7 => decide (j < 2)
  | 8 => decide (j < 9)
  | 9 => decide (j ∈ [6, 7, 8, 9, 11, 13, 14, 18, 19, 20, 21, 22, 23, 28, 29, 33, 34, 35, 36, 38, 43, 44, 45, 46, 47])
  | _ => false
def xFs (G : XG) (h : XM) (k : Nat) : List Value := (List.range (xs h k).2).map fun j => if xrf (xs h k).1 j = true then va_rf ((xr h k j).map (xa G)) else .int (xi h k j)
def xAr (G : XG) (h : XM) (k : Nat) : vp_A := ((xs h k).2, if (xs h k).1 = 10 then .inl (xi h k) else if (xs h k).1 = 11 then .inr (.inl (xl h k)) else .inr (.inr (.inr (.inr (fun j => (xr h k j).map (xa G))))))
def xE (G : XG) (h : XM) (k : Nat) : va_E := if (xs h k).1 < 10 then .inr ((xs h k).1, xFs G h k) else .inl (gC G (xs h k).1, xAr G h k)
def xW (G : XG) (h : XM) : va_W := (List.range h.1).map fun k => (gB G + k, xE G h k)
/-- lengths of objects are their classes' -/
def xN : Nat → Nat := fun c => match c with
  | 0 => 3 | 1 => 12 | 2 => 1 | 3 => 11 | 4 => 3 | 5 => 3 | 6 => 7 | 7 => 6 | 8 => 11 | 9 => 49 | _ => 0
def Rep (G : XG) (h : XM) (H : Heap) : Prop := va_P (gD G) xCl (xW G h) H ∧ H.size = gB G + h.1 ∧ (∀ a, h.1 ≤ a → xs h a = (99, 0)) ∧ (∀ a, (xs h a).1 < 10 → (xs h a).2 = xN (xs h a).1)
def xtys (G : XG) : List (ClassId × FieldType) := [(gC G 10, .int), (gC G 11, .long), (gC G 12, .object xR0), (gC G 13, .object xR5), (gC G 14, .object xR4), (gC G 15, .array .int)]
/-! the strings -/
def xSidx : List (String × Nat) := [("OpensAtNine", 69), ("OpensAtNine$Reader", 133), ("OpensAtNine$Reader", 135), ("OpensAtNine$Reader", 137), ("OpensAtNine$Reader", 138), ("OpensAtNine$Reader", 140), ("OpensAtNine$Reader", 142), ("OpensAtNine$Reader", 144), ("OpensAtNine$Reader", 146), ("OpensAtNine$Reader", 148), ("OpensAtNine$Reader", 150), ("OpensAtNine$Reader", 152), ("OpensAtNine$Reader", 154)]
def xStx : List String := ["opens rest = 0 ; worth 20 ; haste minute ;", "sum", "rest", "value", "minute", "coins", "who", "opens", "worth", "haste", "or", "and", "not"]
def xByt : List (List Int32) := [[111, 112, 101, 110, 115, 32, 114, 101, 115, 116, 32, 61, 32, 48, 32, 59, 32, 119, 111, 114, 116, 104, 32, 50, 48, 32, 59, 32, 104, 97, 115, 116, 101, 32, 109, 105, 110, 117, 116, 101, 32, 59], [115, 117, 109], [114, 101, 115, 116], [118, 97, 108, 117, 101], [109, 105, 110, 117, 116, 101], [99, 111, 105, 110, 115], [119, 104, 111], [111, 112, 101, 110, 115], [119, 111, 114, 116, 104], [104, 97, 115, 116, 101], [111, 114], [97, 110, 100], [110, 111, 116]]
def xLen : List Nat := [42, 3, 4, 5, 6, 5, 3, 5, 5, 5, 2, 3, 3]
def xTens : List Int32 := [1, 10, 100, 1000, 10000, 100000, 1000000]
/-- what stays of the start: the classes, the strings, the statics -/
def GI (G : XG) (U : State) (H : Heap) : Prop :=
  va_K (gD G) xCl (xtys G) U ∧ vk_S 13 xLen xByt (gK G) (gV G) (fun q => gB G ≤ q) U H ∧ (∀ i, i < 13 → vk_R (xSidx.getD i ("", 0)).1 (xSidx.getD i ("", 0)).2 (xStx.getD i "") (gK G i) U) ∧
  va_Z "java/lang/String" "COMPACT_STRINGS" "Z" (.int 1) (fun q => gB G ≤ q) U H ∧ va_Z "jdk/internal/util/Preconditions" "SIOOBE_FORMATTER" "Ljava/util/function/BiFunction;" (va_rf (gF G)) (fun q => gB G ≤ q) U H ∧
  va_Z "OpensAtNine" "TENS" "[I" (.ref (gT G)) (fun q => gB G ≤ q) U H ∧ va_T .int (gT G) 7 (fun j => .int (xTens.getD j 0)) (fun q => gB G ≤ q) U H ∧
  (va_AO xR0 U ∧ va_AO xR5 U ∧ va_AO xR4 U ∧ (Cond.arrayOver (.array .int)).before #[] U = true ∧ va_Nw (.castable "[I" "java/lang/Cloneable") U) ∧
  (va_Nw (.methodLinkNest xR8 38 ⟨xR2, "<init>", "()V"⟩ xR8) U ∧ va_Nw (.methodLinkNest xR8 57 ⟨xR3, "<init>", "()V"⟩ xR8) U ∧ va_Nw (.methodLinkNest xR8 68 ⟨xR4, "<init>", "()V"⟩ xR8) U ∧ va_Nw (.fieldLinkNest xR1 92 "OpensAtNine" "TENS" "[I" xR8) U ∧ va_Nw (.fieldLinkNest xR6 120 "OpensAtNine" "TENS" "[I" xR8) U)
/-! One method under way: SW says that from here, where o is some answer, the machine ends with it -/
/-- bytes, locals, return type, class, name, the decoded rows (place, instruction, length, next place), cells, slots, frames, words -/
abbrev MI : Type := ByteArray × Nat × Option FieldType × String × String × List (Nat × Instr × Nat × Nat) × Nat × Nat × Nat × Nat
def mtab (I : MI) : List (Nat × Instr × Nat × Nat) := I.2.2.2.2.2.1
def mroom (I : MI) : Room := { frames := I.2.2.2.2.2.2.2.2.1, cells := I.2.2.2.2.2.2.1, slots := I.2.2.2.2.2.2.2.1, locals := I.2.2.2.2.2.2.2.2.2 }
def mmc (I : MI) : Nat := I.2.2.2.2.2.2.1
def mms (I : MI) : Nat := I.2.2.2.2.2.2.2.1
abbrev XX : Type := XG × Program × Launch × Env × State × MethodId × Array Value × List Frame × Method × Code
def xQ (G : XG) (r : Option TV × XM) : Array Value → State → Outcome → State → Prop := fun _ st oc t => oc = .returned (r.1.map (xtv G)) ∧ Rep G r.2 t.heap ∧ va_F (fun q => gB G ≤ q) st t
def XOK (X : XX) (I : MI) : Prop := match X with
  | (G, p, l, e, s, m, args, below, meth, c) => match I with
    | (cc, nL, ret, own, nm, tab, mc, ms, nfr, nlo) =>
      p.tables.exec = Jvm.exec ∧ c.code = cc ∧ c.maxLocals = nL ∧ meth.sig.returnType = ret ∧ s.vm.findClass own = some m.cls ∧ (∀ w ∈ XT, w.before args s = true) ∧ meth.locks = false ∧ meth.name = nm ∧ (∀ q ∈ tab, decode cc q.1 = .ok (q.2.1, q.2.2.1) ∧ q.2.2.2 = q.1 + q.2.2.1) ∧ GI G s s.heap ∧ gB G ≤ s.heap.size
def lmap (G : XG) (ls : List (Nat × TV)) : List (Nat × Value) := ls.map fun q => (q.1, xtv G q.2)
def SW {α : Type} (X : XX) (I : MI) (ρ : α → Option TV × XM) (pc : Nat) (ls : List (Nat × TV)) (st : List TV) (h : XM) (bc bs : Nat) (o : Option α) : Prop := match X with
  | (G, p, l, e, s, m, args, below, meth, c) => XOK (G, p, l, e, s, m, args, below, meth, c) I → ∀ r, o = some r → ∀ (H : Heap) (locs : List Loc) (lsA : Array Slot) (cells slots : Nat), Rep G h H → va_S (fun q => gB G ≤ q) s.heap H locs → lv_has lsA I.2.1 (lmap G ls) → cells + bc ≤ mmc I → slots + bs ≤ mms I →
    W p l e (mroom I) s m args below meth c H locs cells slots (MQ below (xQ G (ρ r)) args s (mmc I) (mms I) (fun q => gB G ≤ q)) (F0 m pc lsA (st.map (xtv G)))
def ρi (q : Int32 × XM) : Option TV × XM := (some (tI q.1), q.2)
def ρl (q : Int64 × XM) : Option TV × XM := (some (tL q.1), q.2)
def ρa (q : Option Nat × XM) : Option TV × XM := (some (tA q.1), q.2)
def ρk (q : Nat × XM) : Option TV × XM := (some (tK q.1), q.2)
def ρv (h : XM) : Option TV × XM := (none, h)
end
section
/-! rows over SW: constants, locals, stack, arithmetic, branches (written by wip/whole/gen/gen_rows1.py) -/
theorem s_iconst {α : Type} {X : XX} {I : MI} {ρ : α → Option TV × XM} {pc npc i : Nat} {ls : List (Nat × TV)} {st : List TV} {h : XM} {bc bs : Nat} {o : Option α} {n : Int} {v : Int32} (hi : (mtab I)[i]? = some (pc, .iconst n, 1, npc)) (hv : Int32.ofInt n = v) (k : SW X I ρ npc ls (tI v :: st) h bc bs o) : SW X I ρ pc ls (st) h bc bs o := by
  obtain ⟨G, p, l, e, s, m, args, below, meth, c⟩ := X
  obtain ⟨cc, nL, ret, own, nm, tab, mc, ms, nfr, nlo⟩ := I
  intro ok r hr H locs lsA cells slots hR hS hl hc hs
  obtain ⟨hx, hb, hml, hret, hown, hts, hlocks, hnm, htab, hG, hB⟩ := id ok
  obtain ⟨hd, hn⟩ := htab _ (List.mem_of_getElem? hi)
  have hn : npc = pc + 1 := hn
  subst hn
  refine lv_iconst hx hb hd hv ?_
  exact k ok r hr H locs lsA cells slots hR hS hl hc hs
theorem s_bipush {α : Type} {X : XX} {I : MI} {ρ : α → Option TV × XM} {pc npc i : Nat} {ls : List (Nat × TV)} {st : List TV} {h : XM} {bc bs : Nat} {o : Option α} {n : Int} {v : Int32} (hi : (mtab I)[i]? = some (pc, .bipush n, 2, npc)) (hv : (Int8.ofInt n).toInt32 = v) (k : SW X I ρ npc ls (tI v :: st) h bc bs o) : SW X I ρ pc ls (st) h bc bs o := by
  obtain ⟨G, p, l, e, s, m, args, below, meth, c⟩ := X
  obtain ⟨cc, nL, ret, own, nm, tab, mc, ms, nfr, nlo⟩ := I
  intro ok r hr H locs lsA cells slots hR hS hl hc hs
  obtain ⟨hx, hb, hml, hret, hown, hts, hlocks, hnm, htab, hG, hB⟩ := id ok
  obtain ⟨hd, hn⟩ := htab _ (List.mem_of_getElem? hi)
  have hn : npc = pc + 2 := hn
  subst hn
  refine lv_bipush hx hb hd hv ?_
  exact k ok r hr H locs lsA cells slots hR hS hl hc hs
theorem s_sipush {α : Type} {X : XX} {I : MI} {ρ : α → Option TV × XM} {pc npc i : Nat} {ls : List (Nat × TV)} {st : List TV} {h : XM} {bc bs : Nat} {o : Option α} {n : Int} {v : Int32} (hi : (mtab I)[i]? = some (pc, .sipush n, 3, npc)) (hv : (Int16.ofInt n).toInt32 = v) (k : SW X I ρ npc ls (tI v :: st) h bc bs o) : SW X I ρ pc ls (st) h bc bs o := by
  obtain ⟨G, p, l, e, s, m, args, below, meth, c⟩ := X
  obtain ⟨cc, nL, ret, own, nm, tab, mc, ms, nfr, nlo⟩ := I
  intro ok r hr H locs lsA cells slots hR hS hl hc hs
  obtain ⟨hx, hb, hml, hret, hown, hts, hlocks, hnm, htab, hG, hB⟩ := id ok
  obtain ⟨hd, hn⟩ := htab _ (List.mem_of_getElem? hi)
  have hn : npc = pc + 3 := hn
  subst hn
  refine lv_sipush hx hb hd hv ?_
  exact k ok r hr H locs lsA cells slots hR hS hl hc hs
theorem s_lconst {α : Type} {X : XX} {I : MI} {ρ : α → Option TV × XM} {pc npc i : Nat} {ls : List (Nat × TV)} {st : List TV} {h : XM} {bc bs : Nat} {o : Option α} {n : Fin 2} {v : Int64} (hi : (mtab I)[i]? = some (pc, .lconst n, 1, npc)) (hv : Int64.ofNat (n : Nat) = v) (k : SW X I ρ npc ls (tL v :: st) h bc bs o) : SW X I ρ pc ls (st) h bc bs o := by
  obtain ⟨G, p, l, e, s, m, args, below, meth, c⟩ := X
  obtain ⟨cc, nL, ret, own, nm, tab, mc, ms, nfr, nlo⟩ := I
  intro ok r hr H locs lsA cells slots hR hS hl hc hs
  obtain ⟨hx, hb, hml, hret, hown, hts, hlocks, hnm, htab, hG, hB⟩ := id ok
  obtain ⟨hd, hn⟩ := htab _ (List.mem_of_getElem? hi)
  have hn : npc = pc + 1 := hn
  subst hn
  refine lv_lconst hx hb hd hv ?_
  exact k ok r hr H locs lsA cells slots hR hS hl hc hs
theorem s_null {α : Type} {X : XX} {I : MI} {ρ : α → Option TV × XM} {pc npc i : Nat} {ls : List (Nat × TV)} {st : List TV} {h : XM} {bc bs : Nat} {o : Option α}  (hi : (mtab I)[i]? = some (pc, .aconst_null, 1, npc))  (k : SW X I ρ npc ls (tA none :: st) h bc bs o) : SW X I ρ pc ls (st) h bc bs o := by
  obtain ⟨G, p, l, e, s, m, args, below, meth, c⟩ := X
  obtain ⟨cc, nL, ret, own, nm, tab, mc, ms, nfr, nlo⟩ := I
  intro ok r hr H locs lsA cells slots hR hS hl hc hs
  obtain ⟨hx, hb, hml, hret, hown, hts, hlocks, hnm, htab, hG, hB⟩ := id ok
  obtain ⟨hd, hn⟩ := htab _ (List.mem_of_getElem? hi)
  have hn : npc = pc + 1 := hn
  subst hn
  refine lv_null hx hb hd ?_
  exact k ok r hr H locs lsA cells slots hR hS hl hc hs
theorem s_ldc {α : Type} {X : XX} {I : MI} {ρ : α → Option TV × XM} {pc npc i : Nat} {ls : List (Nat × TV)} {st : List TV} {h : XM} {bc bs : Nat} {o : Option α} {n : Nat} {v : Int32} (hi : (mtab I)[i]? = some (pc, .ldc n, 2, npc)) (hw : Cond.constant I.2.2.2.1 n v ∈ XT) (k : SW X I ρ npc ls (tI v :: st) h bc bs o) : SW X I ρ pc ls (st) h bc bs o := by
  obtain ⟨G, p, l, e, s, m, args, below, meth, c⟩ := X
  obtain ⟨cc, nL, ret, own, nm, tab, mc, ms, nfr, nlo⟩ := I
  intro ok r hr H locs lsA cells slots hR hS hl hc hs
  obtain ⟨hx, hb, hml, hret, hown, hts, hlocks, hnm, htab, hG, hB⟩ := id ok
  obtain ⟨hd, hn⟩ := htab _ (List.mem_of_getElem? hi)
  have hn : npc = pc + 2 := hn
  subst hn
  refine lv_ldc hx hb hown (hts _ hw) hd ?_
  exact k ok r hr H locs lsA cells slots hR hS hl hc hs
theorem s_ldcw {α : Type} {X : XX} {I : MI} {ρ : α → Option TV × XM} {pc npc i : Nat} {ls : List (Nat × TV)} {st : List TV} {h : XM} {bc bs : Nat} {o : Option α} {n : Nat} {v : Int32} (hi : (mtab I)[i]? = some (pc, .ldc_w n, 3, npc)) (hw : Cond.constant I.2.2.2.1 n v ∈ XT) (k : SW X I ρ npc ls (tI v :: st) h bc bs o) : SW X I ρ pc ls (st) h bc bs o := by
  obtain ⟨G, p, l, e, s, m, args, below, meth, c⟩ := X
  obtain ⟨cc, nL, ret, own, nm, tab, mc, ms, nfr, nlo⟩ := I
  intro ok r hr H locs lsA cells slots hR hS hl hc hs
  obtain ⟨hx, hb, hml, hret, hown, hts, hlocks, hnm, htab, hG, hB⟩ := id ok
  obtain ⟨hd, hn⟩ := htab _ (List.mem_of_getElem? hi)
  have hn : npc = pc + 3 := hn
  subst hn
  refine lv_ldcw hx hb hown (hts _ hw) hd ?_
  exact k ok r hr H locs lsA cells slots hR hS hl hc hs
theorem s_ldc2 {α : Type} {X : XX} {I : MI} {ρ : α → Option TV × XM} {pc npc i : Nat} {ls : List (Nat × TV)} {st : List TV} {h : XM} {bc bs : Nat} {o : Option α} {n : Nat} {v : Int64} (hi : (mtab I)[i]? = some (pc, .ldc2_w n, 3, npc)) (hw : Cond.constantLong I.2.2.2.1 n v ∈ XT) (k : SW X I ρ npc ls (tL v :: st) h bc bs o) : SW X I ρ pc ls (st) h bc bs o := by
  obtain ⟨G, p, l, e, s, m, args, below, meth, c⟩ := X
  obtain ⟨cc, nL, ret, own, nm, tab, mc, ms, nfr, nlo⟩ := I
  intro ok r hr H locs lsA cells slots hR hS hl hc hs
  obtain ⟨hx, hb, hml, hret, hown, hts, hlocks, hnm, htab, hG, hB⟩ := id ok
  obtain ⟨hd, hn⟩ := htab _ (List.mem_of_getElem? hi)
  have hn : npc = pc + 3 := hn
  subst hn
  refine lv_ldc2 hx hb hown (hts _ hw) hd ?_
  exact k ok r hr H locs lsA cells slots hR hS hl hc hs
theorem lmap_at {G : XG} {ls : List (Nat × TV)} {k j : Nat} {v : TV} (h : ls[k]? = some (j, v)) : (lmap G ls)[k]? = some (j, xtv G v) := by
  unfold lmap
  rw [List.getElem?_map, h]
  rfl
def lset (j : Nat) (v : TV) (ls : List (Nat × TV)) : List (Nat × TV) := (j, v) :: ls.filter (fun q => !(q.1 == j) && !(q.1 + 1 == j && tcat q.2 == 2))
def lset2 (j : Nat) (v : TV) (ls : List (Nat × TV)) : List (Nat × TV) := (j, v) :: ls.filter (fun q => !(q.1 == j) && (!(q.1 == j + 1) && !(q.1 + 1 == j && tcat q.2 == 2)))
theorem lmap_set {G : XG} {j : Nat} {v : TV} (ls : List (Nat × TV)) : (j, xtv G v) :: (lmap G ls).filter (fun q => !(q.1 == j) && !(q.1 + 1 == j && q.2.category == 2)) = lmap G (lset j v ls) := by
  unfold lmap lset
  rw [List.map_cons, List.filter_map]
  congr 2
  apply List.filter_congr
  intro q _
  simp [xtv_cat]
theorem lmap_set2 {G : XG} {j : Nat} {v : TV} (ls : List (Nat × TV)) : (j, xtv G v) :: (lmap G ls).filter (fun q => !(q.1 == j) && (!(q.1 == j + 1) && !(q.1 + 1 == j && q.2.category == 2))) = lmap G (lset2 j v ls) := by
  unfold lmap lset2
  rw [List.map_cons, List.filter_map]
  congr 2
  apply List.filter_congr
  intro q _
  simp [xtv_cat]
def lpick (ls : List (Nat × TV)) (ks : List Nat) : List (Nat × TV) := ks.filterMap (fun k => ls[k]?)
theorem lmap_pick {G : XG} {ls ls2 : List (Nat × TV)} (ks : List Nat) (h : lpick ls ks = ls2) : lv_pick (lmap G ls) ks = lmap G ls2 := by
  subst h
  unfold lv_pick lpick lmap
  rw [List.map_filterMap]
  congr 1
  funext k
  rw [List.getElem?_map]
theorem s_iload_n {α : Type} {X : XX} {I : MI} {ρ : α → Option TV × XM} {pc npc i : Nat} {ls : List (Nat × TV)} {st : List TV} {h : XM} {bc bs : Nat} {o : Option α} {f : Fin 4} {x : Int32} (hi : (mtab I)[i]? = some (pc, .iload_n f, 1, npc)) (q : Nat) (hq : ls[q]? = some ((f : Nat), tI x)) (k : SW X I ρ npc ls (tI x :: st) h bc bs o) : SW X I ρ pc ls (st) h bc bs o := by
  obtain ⟨G, p, l, e, s, m, args, below, meth, c⟩ := X
  obtain ⟨cc, nL, ret, own, nm, tab, mc, ms, nfr, nlo⟩ := I
  intro ok r hr H locs lsA cells slots hR hS hl hc hs
  obtain ⟨hx, hb, hml, hret, hown, hts, hlocks, hnm, htab, hG, hB⟩ := id ok
  obtain ⟨hd, hn⟩ := htab _ (List.mem_of_getElem? hi)
  have hn : npc = pc + 1 := hn
  subst hn
  refine lv_iload_n hx hb hd rfl (lv_at hl q (lmap_at hq)) ?_
  exact k ok r hr H locs lsA cells slots hR hS hl hc hs
theorem s_iload {α : Type} {X : XX} {I : MI} {ρ : α → Option TV × XM} {pc npc i : Nat} {ls : List (Nat × TV)} {st : List TV} {h : XM} {bc bs : Nat} {o : Option α} {j : Nat} {x : Int32} (hi : (mtab I)[i]? = some (pc, .iload j, 2, npc)) (q : Nat) (hq : ls[q]? = some (j, tI x)) (k : SW X I ρ npc ls (tI x :: st) h bc bs o) : SW X I ρ pc ls (st) h bc bs o := by
  obtain ⟨G, p, l, e, s, m, args, below, meth, c⟩ := X
  obtain ⟨cc, nL, ret, own, nm, tab, mc, ms, nfr, nlo⟩ := I
  intro ok r hr H locs lsA cells slots hR hS hl hc hs
  obtain ⟨hx, hb, hml, hret, hown, hts, hlocks, hnm, htab, hG, hB⟩ := id ok
  obtain ⟨hd, hn⟩ := htab _ (List.mem_of_getElem? hi)
  have hn : npc = pc + 2 := hn
  subst hn
  refine lv_iload hx hb hd (lv_at hl q (lmap_at hq)) ?_
  exact k ok r hr H locs lsA cells slots hR hS hl hc hs
theorem s_lload_n {α : Type} {X : XX} {I : MI} {ρ : α → Option TV × XM} {pc npc i : Nat} {ls : List (Nat × TV)} {st : List TV} {h : XM} {bc bs : Nat} {o : Option α} {f : Fin 4} {x : Int64} (hi : (mtab I)[i]? = some (pc, .lload_n f, 1, npc)) (q : Nat) (hq : ls[q]? = some ((f : Nat), tL x)) (k : SW X I ρ npc ls (tL x :: st) h bc bs o) : SW X I ρ pc ls (st) h bc bs o := by
  obtain ⟨G, p, l, e, s, m, args, below, meth, c⟩ := X
  obtain ⟨cc, nL, ret, own, nm, tab, mc, ms, nfr, nlo⟩ := I
  intro ok r hr H locs lsA cells slots hR hS hl hc hs
  obtain ⟨hx, hb, hml, hret, hown, hts, hlocks, hnm, htab, hG, hB⟩ := id ok
  obtain ⟨hd, hn⟩ := htab _ (List.mem_of_getElem? hi)
  have hn : npc = pc + 1 := hn
  subst hn
  refine lv_lload_n hx hb hd rfl (lv_at hl q (lmap_at hq)) ?_
  exact k ok r hr H locs lsA cells slots hR hS hl hc hs
theorem s_lload {α : Type} {X : XX} {I : MI} {ρ : α → Option TV × XM} {pc npc i : Nat} {ls : List (Nat × TV)} {st : List TV} {h : XM} {bc bs : Nat} {o : Option α} {j : Nat} {x : Int64} (hi : (mtab I)[i]? = some (pc, .lload j, 2, npc)) (q : Nat) (hq : ls[q]? = some (j, tL x)) (k : SW X I ρ npc ls (tL x :: st) h bc bs o) : SW X I ρ pc ls (st) h bc bs o := by
  obtain ⟨G, p, l, e, s, m, args, below, meth, c⟩ := X
  obtain ⟨cc, nL, ret, own, nm, tab, mc, ms, nfr, nlo⟩ := I
  intro ok r hr H locs lsA cells slots hR hS hl hc hs
  obtain ⟨hx, hb, hml, hret, hown, hts, hlocks, hnm, htab, hG, hB⟩ := id ok
  obtain ⟨hd, hn⟩ := htab _ (List.mem_of_getElem? hi)
  have hn : npc = pc + 2 := hn
  subst hn
  refine lv_lload hx hb hd (lv_at hl q (lmap_at hq)) ?_
  exact k ok r hr H locs lsA cells slots hR hS hl hc hs
theorem s_aload_n {α : Type} {X : XX} {I : MI} {ρ : α → Option TV × XM} {pc npc i : Nat} {ls : List (Nat × TV)} {st : List TV} {h : XM} {bc bs : Nat} {o : Option α} {f : Fin 4} {x : Option Nat} (hi : (mtab I)[i]? = some (pc, .aload_n f, 1, npc)) (q : Nat) (hq : ls[q]? = some ((f : Nat), tA x)) (k : SW X I ρ npc ls (tA x :: st) h bc bs o) : SW X I ρ pc ls (st) h bc bs o := by
  obtain ⟨G, p, l, e, s, m, args, below, meth, c⟩ := X
  obtain ⟨cc, nL, ret, own, nm, tab, mc, ms, nfr, nlo⟩ := I
  intro ok r hr H locs lsA cells slots hR hS hl hc hs
  obtain ⟨hx, hb, hml, hret, hown, hts, hlocks, hnm, htab, hG, hB⟩ := id ok
  obtain ⟨hd, hn⟩ := htab _ (List.mem_of_getElem? hi)
  have hn : npc = pc + 1 := hn
  subst hn
  have hv := lv_at hl q (lmap_at hq)
  cases x with
  | none => exact lv_aload_nN hx hb hd rfl hv (k ok r hr H locs lsA cells slots hR hS hl hc hs)
  | some x => exact lv_aload_n hx hb hd rfl hv (k ok r hr H locs lsA cells slots hR hS hl hc hs)
theorem s_aload {α : Type} {X : XX} {I : MI} {ρ : α → Option TV × XM} {pc npc i : Nat} {ls : List (Nat × TV)} {st : List TV} {h : XM} {bc bs : Nat} {o : Option α} {j : Nat} {x : Option Nat} (hi : (mtab I)[i]? = some (pc, .aload j, 2, npc)) (q : Nat) (hq : ls[q]? = some (j, tA x)) (k : SW X I ρ npc ls (tA x :: st) h bc bs o) : SW X I ρ pc ls (st) h bc bs o := by
  obtain ⟨G, p, l, e, s, m, args, below, meth, c⟩ := X
  obtain ⟨cc, nL, ret, own, nm, tab, mc, ms, nfr, nlo⟩ := I
  intro ok r hr H locs lsA cells slots hR hS hl hc hs
  obtain ⟨hx, hb, hml, hret, hown, hts, hlocks, hnm, htab, hG, hB⟩ := id ok
  obtain ⟨hd, hn⟩ := htab _ (List.mem_of_getElem? hi)
  have hn : npc = pc + 2 := hn
  subst hn
  have hv := lv_at hl q (lmap_at hq)
  cases x with
  | none => exact lv_aloadN hx hb hd hv (k ok r hr H locs lsA cells slots hR hS hl hc hs)
  | some x => exact lv_aload hx hb hd hv (k ok r hr H locs lsA cells slots hR hS hl hc hs)
theorem xk_ref (G : XG) (n : Nat) : xk G n = .null ∨ ∃ a, xk G n = .ref a := by
  unfold xk
  split
  · exact Or.inr ⟨_, rfl⟩
  · split
    · exact Or.inr ⟨_, rfl⟩
    · split
      · exact Or.inr ⟨_, rfl⟩
      · cases gF G with
        | none => exact Or.inl rfl
        | some a => exact Or.inr ⟨a, rfl⟩
theorem s_aloadK_n {α : Type} {X : XX} {I : MI} {ρ : α → Option TV × XM} {pc npc i : Nat} {ls : List (Nat × TV)} {st : List TV} {h : XM} {bc bs : Nat} {o : Option α} {f : Fin 4} {x : Nat} (hi : (mtab I)[i]? = some (pc, .aload_n f, 1, npc)) (q : Nat) (hq : ls[q]? = some ((f : Nat), tK x)) (k : SW X I ρ npc ls (tK x :: st) h bc bs o) : SW X I ρ pc ls (st) h bc bs o := by
  obtain ⟨G, p, l, e, s, m, args, below, meth, c⟩ := X
  obtain ⟨cc, nL, ret, own, nm, tab, mc, ms, nfr, nlo⟩ := I
  intro ok r hr H locs lsA cells slots hR hS hl hc hs
  obtain ⟨hx, hb, hml, hret, hown, hts, hlocks, hnm, htab, hG, hB⟩ := id ok
  obtain ⟨hd, hn⟩ := htab _ (List.mem_of_getElem? hi)
  have hn : npc = pc + 1 := hn
  subst hn
  have hv := lv_at hl q (lmap_at hq)
  have K := k ok r hr H locs lsA cells slots hR hS hl hc hs
  have hv : lsA[(f : Nat)]? = some (.val (xk G x)) := hv
  have K : W p l e (mroom (cc, nL, ret, own, nm, tab, mc, ms, nfr, nlo)) s m args below meth c H locs cells slots (MQ below (xQ G (ρ r)) args s mc ms (fun q => gB G ≤ q)) (F0 m (pc + 1) lsA (xk G x :: st.map (xtv G))) := K
  rcases xk_ref G x with hz | ⟨a, hz⟩
  · rw [hz] at hv K
    exact lv_aload_nN hx hb hd rfl hv K
  · rw [hz] at hv K
    exact lv_aload_n hx hb hd rfl hv K
theorem s_istore_n {α : Type} {X : XX} {I : MI} {ρ : α → Option TV × XM} {pc npc i : Nat} {ls ls2 : List (Nat × TV)} {st : List TV} {h : XM} {bc bs : Nat} {o : Option α} {f : Fin 4} {x : Int32} (hi : (mtab I)[i]? = some (pc, .istore_n f, 1, npc)) (hj : (f : Nat) < I.2.1) (hls : lset f (tI x) ls = ls2) (k : SW X I ρ npc ls2 st h bc bs o) : SW X I ρ pc ls (tI x :: st) h bc bs o := by
  obtain ⟨G, p, l, e, s, m, args, below, meth, c⟩ := X
  obtain ⟨cc, nL, ret, own, nm, tab, mc, ms, nfr, nlo⟩ := I
  intro ok r hr H locs lsA cells slots hR hS hl hc hs
  obtain ⟨hx, hb, hml, hret, hown, hts, hlocks, hnm, htab, hG, hB⟩ := id ok
  obtain ⟨hd, hn⟩ := htab _ (List.mem_of_getElem? hi)
  have hn : npc = pc + 1 := hn
  subst hn
  subst hls
  exact lv_istore_n hx hb hd rfl hl hj (lmap_set (v := tI x) ls) (fun ls9 hl9 => k ok r hr H locs ls9 cells slots hR hS hl9 hc hs)
theorem s_istore {α : Type} {X : XX} {I : MI} {ρ : α → Option TV × XM} {pc npc i : Nat} {ls ls2 : List (Nat × TV)} {st : List TV} {h : XM} {bc bs : Nat} {o : Option α} {j : Nat} {x : Int32} (hi : (mtab I)[i]? = some (pc, .istore j, 2, npc)) (hj : j < I.2.1) (hls : lset j (tI x) ls = ls2) (k : SW X I ρ npc ls2 st h bc bs o) : SW X I ρ pc ls (tI x :: st) h bc bs o := by
  obtain ⟨G, p, l, e, s, m, args, below, meth, c⟩ := X
  obtain ⟨cc, nL, ret, own, nm, tab, mc, ms, nfr, nlo⟩ := I
  intro ok r hr H locs lsA cells slots hR hS hl hc hs
  obtain ⟨hx, hb, hml, hret, hown, hts, hlocks, hnm, htab, hG, hB⟩ := id ok
  obtain ⟨hd, hn⟩ := htab _ (List.mem_of_getElem? hi)
  have hn : npc = pc + 2 := hn
  subst hn
  subst hls
  exact lv_istore hx hb hd hl hj (lmap_set (v := tI x) ls) (fun ls9 hl9 => k ok r hr H locs ls9 cells slots hR hS hl9 hc hs)
theorem s_lstore_n {α : Type} {X : XX} {I : MI} {ρ : α → Option TV × XM} {pc npc i : Nat} {ls ls2 : List (Nat × TV)} {st : List TV} {h : XM} {bc bs : Nat} {o : Option α} {f : Fin 4} {x : Int64} (hi : (mtab I)[i]? = some (pc, .lstore_n f, 1, npc)) (hj : (f : Nat) + 1 < I.2.1) (hls : lset2 f (tL x) ls = ls2) (k : SW X I ρ npc ls2 st h bc bs o) : SW X I ρ pc ls (tL x :: st) h bc bs o := by
  obtain ⟨G, p, l, e, s, m, args, below, meth, c⟩ := X
  obtain ⟨cc, nL, ret, own, nm, tab, mc, ms, nfr, nlo⟩ := I
  intro ok r hr H locs lsA cells slots hR hS hl hc hs
  obtain ⟨hx, hb, hml, hret, hown, hts, hlocks, hnm, htab, hG, hB⟩ := id ok
  obtain ⟨hd, hn⟩ := htab _ (List.mem_of_getElem? hi)
  have hn : npc = pc + 1 := hn
  subst hn
  subst hls
  exact lv_lstore_n hx hb hd rfl hl hj (lmap_set2 (v := tL x) ls) (fun ls9 hl9 => k ok r hr H locs ls9 cells slots hR hS hl9 hc hs)
theorem s_lstore {α : Type} {X : XX} {I : MI} {ρ : α → Option TV × XM} {pc npc i : Nat} {ls ls2 : List (Nat × TV)} {st : List TV} {h : XM} {bc bs : Nat} {o : Option α} {j : Nat} {x : Int64} (hi : (mtab I)[i]? = some (pc, .lstore j, 2, npc)) (hj : j + 1 < I.2.1) (hls : lset2 j (tL x) ls = ls2) (k : SW X I ρ npc ls2 st h bc bs o) : SW X I ρ pc ls (tL x :: st) h bc bs o := by
  obtain ⟨G, p, l, e, s, m, args, below, meth, c⟩ := X
  obtain ⟨cc, nL, ret, own, nm, tab, mc, ms, nfr, nlo⟩ := I
  intro ok r hr H locs lsA cells slots hR hS hl hc hs
  obtain ⟨hx, hb, hml, hret, hown, hts, hlocks, hnm, htab, hG, hB⟩ := id ok
  obtain ⟨hd, hn⟩ := htab _ (List.mem_of_getElem? hi)
  have hn : npc = pc + 2 := hn
  subst hn
  subst hls
  exact lv_lstore hx hb hd hl hj (lmap_set2 (v := tL x) ls) (fun ls9 hl9 => k ok r hr H locs ls9 cells slots hR hS hl9 hc hs)
theorem s_astore_n {α : Type} {X : XX} {I : MI} {ρ : α → Option TV × XM} {pc npc i : Nat} {ls ls2 : List (Nat × TV)} {st : List TV} {h : XM} {bc bs : Nat} {o : Option α} {f : Fin 4} {x : Option Nat} (hi : (mtab I)[i]? = some (pc, .astore_n f, 1, npc)) (hj : (f : Nat) < I.2.1) (hls : lset f (tA x) ls = ls2) (k : SW X I ρ npc ls2 st h bc bs o) : SW X I ρ pc ls (tA x :: st) h bc bs o := by
  obtain ⟨G, p, l, e, s, m, args, below, meth, c⟩ := X
  obtain ⟨cc, nL, ret, own, nm, tab, mc, ms, nfr, nlo⟩ := I
  intro ok r hr H locs lsA cells slots hR hS hl hc hs
  obtain ⟨hx, hb, hml, hret, hown, hts, hlocks, hnm, htab, hG, hB⟩ := id ok
  obtain ⟨hd, hn⟩ := htab _ (List.mem_of_getElem? hi)
  have hn : npc = pc + 1 := hn
  subst hn
  subst hls
  cases x with
  | none => exact lv_astore_nN hx hb hd rfl hl hj (lmap_set (v := tA none) ls) (fun ls9 hl9 => k ok r hr H locs ls9 cells slots hR hS hl9 hc hs)
  | some x => exact lv_astore_n hx hb hd rfl hl hj (lmap_set (v := tA (some x)) ls) (fun ls9 hl9 => k ok r hr H locs ls9 cells slots hR hS hl9 hc hs)
theorem s_astore {α : Type} {X : XX} {I : MI} {ρ : α → Option TV × XM} {pc npc i : Nat} {ls ls2 : List (Nat × TV)} {st : List TV} {h : XM} {bc bs : Nat} {o : Option α} {j : Nat} {x : Option Nat} (hi : (mtab I)[i]? = some (pc, .astore j, 2, npc)) (hj : j < I.2.1) (hls : lset j (tA x) ls = ls2) (k : SW X I ρ npc ls2 st h bc bs o) : SW X I ρ pc ls (tA x :: st) h bc bs o := by
  obtain ⟨G, p, l, e, s, m, args, below, meth, c⟩ := X
  obtain ⟨cc, nL, ret, own, nm, tab, mc, ms, nfr, nlo⟩ := I
  intro ok r hr H locs lsA cells slots hR hS hl hc hs
  obtain ⟨hx, hb, hml, hret, hown, hts, hlocks, hnm, htab, hG, hB⟩ := id ok
  obtain ⟨hd, hn⟩ := htab _ (List.mem_of_getElem? hi)
  have hn : npc = pc + 2 := hn
  subst hn
  subst hls
  cases x with
  | none => exact lv_astoreN hx hb hd hl hj (lmap_set (v := tA none) ls) (fun ls9 hl9 => k ok r hr H locs ls9 cells slots hR hS hl9 hc hs)
  | some x => exact lv_astore hx hb hd hl hj (lmap_set (v := tA (some x)) ls) (fun ls9 hl9 => k ok r hr H locs ls9 cells slots hR hS hl9 hc hs)
theorem s_iinc {α : Type} {X : XX} {I : MI} {ρ : α → Option TV × XM} {pc npc i : Nat} {ls ls2 : List (Nat × TV)} {st : List TV} {h : XM} {bc bs : Nat} {o : Option α} {j : Nat} {n : Int} {x v : Int32} (hi : (mtab I)[i]? = some (pc, .iinc j n, 3, npc)) (q : Nat) (hq : ls[q]? = some (j, tI x)) (hv : x + Int32.ofInt n = v) (hj : j < I.2.1) (hls : lset j (tI v) ls = ls2) (k : SW X I ρ npc ls2 st h bc bs o) : SW X I ρ pc ls st h bc bs o := by
  obtain ⟨G, p, l, e, s, m, args, below, meth, c⟩ := X
  obtain ⟨cc, nL, ret, own, nm, tab, mc, ms, nfr, nlo⟩ := I
  intro ok r hr H locs lsA cells slots hR hS hl hc hs
  obtain ⟨hx, hb, hml, hret, hown, hts, hlocks, hnm, htab, hG, hB⟩ := id ok
  obtain ⟨hd, hn⟩ := htab _ (List.mem_of_getElem? hi)
  have hn : npc = pc + 3 := hn
  subst hn
  subst hls
  exact lv_iinc hx hb hd hl (lmap_at hq) hv hj (lmap_set (v := tI v) ls) (fun ls9 hl9 => k ok r hr H locs ls9 cells slots hR hS hl9 hc hs)
theorem s_sub {α : Type} {X : XX} {I : MI} {ρ : α → Option TV × XM} {pc : Nat} {ls ls2 : List (Nat × TV)} {st : List TV} {h : XM} {bc bs : Nat} {o : Option α} (ks : List Nat) (hls : lpick ls ks = ls2) (k : SW X I ρ pc ls2 st h bc bs o) : SW X I ρ pc ls st h bc bs o := by
  obtain ⟨G, p, l, e, s, m, args, below, meth, c⟩ := X
  intro ok r hr H locs lsA cells slots hR hS hl hc hs
  exact k ok r hr H locs lsA cells slots hR hS (lv_sub hl ks (lmap_pick ks hls)) hc hs
theorem s_iadd {α : Type} {X : XX} {I : MI} {ρ : α → Option TV × XM} {pc npc i : Nat} {ls : List (Nat × TV)} {st : List TV} {h : XM} {bc bs : Nat} {o : Option α} {x y : Int32} (hi : (mtab I)[i]? = some (pc, .iadd, 1, npc))  (k : SW X I ρ npc ls (tI (x + y) :: st) h bc bs o) : SW X I ρ pc ls (tI y :: tI x :: st) h bc bs o := by
  obtain ⟨G, p, l, e, s, m, args, below, meth, c⟩ := X
  obtain ⟨cc, nL, ret, own, nm, tab, mc, ms, nfr, nlo⟩ := I
  intro ok r hr H locs lsA cells slots hR hS hl hc hs
  obtain ⟨hx, hb, hml, hret, hown, hts, hlocks, hnm, htab, hG, hB⟩ := id ok
  obtain ⟨hd, hn⟩ := htab _ (List.mem_of_getElem? hi)
  have hn : npc = pc + 1 := hn
  subst hn
  refine lv_iadd hx hb hd ?_
  exact k ok r hr H locs lsA cells slots hR hS hl hc hs
theorem s_isub {α : Type} {X : XX} {I : MI} {ρ : α → Option TV × XM} {pc npc i : Nat} {ls : List (Nat × TV)} {st : List TV} {h : XM} {bc bs : Nat} {o : Option α} {x y : Int32} (hi : (mtab I)[i]? = some (pc, .isub, 1, npc))  (k : SW X I ρ npc ls (tI (x - y) :: st) h bc bs o) : SW X I ρ pc ls (tI y :: tI x :: st) h bc bs o := by
  obtain ⟨G, p, l, e, s, m, args, below, meth, c⟩ := X
  obtain ⟨cc, nL, ret, own, nm, tab, mc, ms, nfr, nlo⟩ := I
  intro ok r hr H locs lsA cells slots hR hS hl hc hs
  obtain ⟨hx, hb, hml, hret, hown, hts, hlocks, hnm, htab, hG, hB⟩ := id ok
  obtain ⟨hd, hn⟩ := htab _ (List.mem_of_getElem? hi)
  have hn : npc = pc + 1 := hn
  subst hn
  refine lv_isub hx hb hd ?_
  exact k ok r hr H locs lsA cells slots hR hS hl hc hs
theorem s_imul {α : Type} {X : XX} {I : MI} {ρ : α → Option TV × XM} {pc npc i : Nat} {ls : List (Nat × TV)} {st : List TV} {h : XM} {bc bs : Nat} {o : Option α} {x y : Int32} (hi : (mtab I)[i]? = some (pc, .imul, 1, npc))  (k : SW X I ρ npc ls (tI (x * y) :: st) h bc bs o) : SW X I ρ pc ls (tI y :: tI x :: st) h bc bs o := by
  obtain ⟨G, p, l, e, s, m, args, below, meth, c⟩ := X
  obtain ⟨cc, nL, ret, own, nm, tab, mc, ms, nfr, nlo⟩ := I
  intro ok r hr H locs lsA cells slots hR hS hl hc hs
  obtain ⟨hx, hb, hml, hret, hown, hts, hlocks, hnm, htab, hG, hB⟩ := id ok
  obtain ⟨hd, hn⟩ := htab _ (List.mem_of_getElem? hi)
  have hn : npc = pc + 1 := hn
  subst hn
  refine lv_imul hx hb hd ?_
  exact k ok r hr H locs lsA cells slots hR hS hl hc hs
theorem s_iand {α : Type} {X : XX} {I : MI} {ρ : α → Option TV × XM} {pc npc i : Nat} {ls : List (Nat × TV)} {st : List TV} {h : XM} {bc bs : Nat} {o : Option α} {x y : Int32} (hi : (mtab I)[i]? = some (pc, .iand, 1, npc))  (k : SW X I ρ npc ls (tI (x &&& y) :: st) h bc bs o) : SW X I ρ pc ls (tI y :: tI x :: st) h bc bs o := by
  obtain ⟨G, p, l, e, s, m, args, below, meth, c⟩ := X
  obtain ⟨cc, nL, ret, own, nm, tab, mc, ms, nfr, nlo⟩ := I
  intro ok r hr H locs lsA cells slots hR hS hl hc hs
  obtain ⟨hx, hb, hml, hret, hown, hts, hlocks, hnm, htab, hG, hB⟩ := id ok
  obtain ⟨hd, hn⟩ := htab _ (List.mem_of_getElem? hi)
  have hn : npc = pc + 1 := hn
  subst hn
  refine lv_iand hx hb hd ?_
  exact k ok r hr H locs lsA cells slots hR hS hl hc hs
theorem s_ior {α : Type} {X : XX} {I : MI} {ρ : α → Option TV × XM} {pc npc i : Nat} {ls : List (Nat × TV)} {st : List TV} {h : XM} {bc bs : Nat} {o : Option α} {x y : Int32} (hi : (mtab I)[i]? = some (pc, .ior, 1, npc))  (k : SW X I ρ npc ls (tI (x ||| y) :: st) h bc bs o) : SW X I ρ pc ls (tI y :: tI x :: st) h bc bs o := by
  obtain ⟨G, p, l, e, s, m, args, below, meth, c⟩ := X
  obtain ⟨cc, nL, ret, own, nm, tab, mc, ms, nfr, nlo⟩ := I
  intro ok r hr H locs lsA cells slots hR hS hl hc hs
  obtain ⟨hx, hb, hml, hret, hown, hts, hlocks, hnm, htab, hG, hB⟩ := id ok
  obtain ⟨hd, hn⟩ := htab _ (List.mem_of_getElem? hi)
  have hn : npc = pc + 1 := hn
  subst hn
  refine lv_ior hx hb hd ?_
  exact k ok r hr H locs lsA cells slots hR hS hl hc hs
theorem s_ixor {α : Type} {X : XX} {I : MI} {ρ : α → Option TV × XM} {pc npc i : Nat} {ls : List (Nat × TV)} {st : List TV} {h : XM} {bc bs : Nat} {o : Option α} {x y : Int32} (hi : (mtab I)[i]? = some (pc, .ixor, 1, npc))  (k : SW X I ρ npc ls (tI (x ^^^ y) :: st) h bc bs o) : SW X I ρ pc ls (tI y :: tI x :: st) h bc bs o := by
  obtain ⟨G, p, l, e, s, m, args, below, meth, c⟩ := X
  obtain ⟨cc, nL, ret, own, nm, tab, mc, ms, nfr, nlo⟩ := I
  intro ok r hr H locs lsA cells slots hR hS hl hc hs
  obtain ⟨hx, hb, hml, hret, hown, hts, hlocks, hnm, htab, hG, hB⟩ := id ok
  obtain ⟨hd, hn⟩ := htab _ (List.mem_of_getElem? hi)
  have hn : npc = pc + 1 := hn
  subst hn
  refine lv_ixor hx hb hd ?_
  exact k ok r hr H locs lsA cells slots hR hS hl hc hs
theorem s_ishl {α : Type} {X : XX} {I : MI} {ρ : α → Option TV × XM} {pc npc i : Nat} {ls : List (Nat × TV)} {st : List TV} {h : XM} {bc bs : Nat} {o : Option α} {x y : Int32} (hi : (mtab I)[i]? = some (pc, .ishl, 1, npc))  (k : SW X I ρ npc ls (tI (x <<< (y &&& 31)) :: st) h bc bs o) : SW X I ρ pc ls (tI y :: tI x :: st) h bc bs o := by
  obtain ⟨G, p, l, e, s, m, args, below, meth, c⟩ := X
  obtain ⟨cc, nL, ret, own, nm, tab, mc, ms, nfr, nlo⟩ := I
  intro ok r hr H locs lsA cells slots hR hS hl hc hs
  obtain ⟨hx, hb, hml, hret, hown, hts, hlocks, hnm, htab, hG, hB⟩ := id ok
  obtain ⟨hd, hn⟩ := htab _ (List.mem_of_getElem? hi)
  have hn : npc = pc + 1 := hn
  subst hn
  refine lv_ishl hx hb hd ?_
  exact k ok r hr H locs lsA cells slots hR hS hl hc hs
theorem s_ishr {α : Type} {X : XX} {I : MI} {ρ : α → Option TV × XM} {pc npc i : Nat} {ls : List (Nat × TV)} {st : List TV} {h : XM} {bc bs : Nat} {o : Option α} {x y : Int32} (hi : (mtab I)[i]? = some (pc, .ishr, 1, npc))  (k : SW X I ρ npc ls (tI (x >>> (y &&& 31)) :: st) h bc bs o) : SW X I ρ pc ls (tI y :: tI x :: st) h bc bs o := by
  obtain ⟨G, p, l, e, s, m, args, below, meth, c⟩ := X
  obtain ⟨cc, nL, ret, own, nm, tab, mc, ms, nfr, nlo⟩ := I
  intro ok r hr H locs lsA cells slots hR hS hl hc hs
  obtain ⟨hx, hb, hml, hret, hown, hts, hlocks, hnm, htab, hG, hB⟩ := id ok
  obtain ⟨hd, hn⟩ := htab _ (List.mem_of_getElem? hi)
  have hn : npc = pc + 1 := hn
  subst hn
  refine lv_ishr hx hb hd ?_
  exact k ok r hr H locs lsA cells slots hR hS hl hc hs
theorem s_iushr {α : Type} {X : XX} {I : MI} {ρ : α → Option TV × XM} {pc npc i : Nat} {ls : List (Nat × TV)} {st : List TV} {h : XM} {bc bs : Nat} {o : Option α} {x y : Int32} (hi : (mtab I)[i]? = some (pc, .iushr, 1, npc))  (k : SW X I ρ npc ls (tI ((x.toUInt32 >>> (y.toUInt32 &&& Int32.toUInt32 31)).toInt32) :: st) h bc bs o) : SW X I ρ pc ls (tI y :: tI x :: st) h bc bs o := by
  obtain ⟨G, p, l, e, s, m, args, below, meth, c⟩ := X
  obtain ⟨cc, nL, ret, own, nm, tab, mc, ms, nfr, nlo⟩ := I
  intro ok r hr H locs lsA cells slots hR hS hl hc hs
  obtain ⟨hx, hb, hml, hret, hown, hts, hlocks, hnm, htab, hG, hB⟩ := id ok
  obtain ⟨hd, hn⟩ := htab _ (List.mem_of_getElem? hi)
  have hn : npc = pc + 1 := hn
  subst hn
  refine lv_iushr hx hb hd rfl ?_
  exact k ok r hr H locs lsA cells slots hR hS hl hc hs
theorem s_ladd {α : Type} {X : XX} {I : MI} {ρ : α → Option TV × XM} {pc npc i : Nat} {ls : List (Nat × TV)} {st : List TV} {h : XM} {bc bs : Nat} {o : Option α} {x y : Int64} (hi : (mtab I)[i]? = some (pc, .ladd, 1, npc))  (k : SW X I ρ npc ls (tL (x + y) :: st) h bc bs o) : SW X I ρ pc ls (tL y :: tL x :: st) h bc bs o := by
  obtain ⟨G, p, l, e, s, m, args, below, meth, c⟩ := X
  obtain ⟨cc, nL, ret, own, nm, tab, mc, ms, nfr, nlo⟩ := I
  intro ok r hr H locs lsA cells slots hR hS hl hc hs
  obtain ⟨hx, hb, hml, hret, hown, hts, hlocks, hnm, htab, hG, hB⟩ := id ok
  obtain ⟨hd, hn⟩ := htab _ (List.mem_of_getElem? hi)
  have hn : npc = pc + 1 := hn
  subst hn
  refine lv_ladd hx hb hd ?_
  exact k ok r hr H locs lsA cells slots hR hS hl hc hs
theorem s_lmul {α : Type} {X : XX} {I : MI} {ρ : α → Option TV × XM} {pc npc i : Nat} {ls : List (Nat × TV)} {st : List TV} {h : XM} {bc bs : Nat} {o : Option α} {x y : Int64} (hi : (mtab I)[i]? = some (pc, .lmul, 1, npc))  (k : SW X I ρ npc ls (tL (x * y) :: st) h bc bs o) : SW X I ρ pc ls (tL y :: tL x :: st) h bc bs o := by
  obtain ⟨G, p, l, e, s, m, args, below, meth, c⟩ := X
  obtain ⟨cc, nL, ret, own, nm, tab, mc, ms, nfr, nlo⟩ := I
  intro ok r hr H locs lsA cells slots hR hS hl hc hs
  obtain ⟨hx, hb, hml, hret, hown, hts, hlocks, hnm, htab, hG, hB⟩ := id ok
  obtain ⟨hd, hn⟩ := htab _ (List.mem_of_getElem? hi)
  have hn : npc = pc + 1 := hn
  subst hn
  refine lv_lmul hx hb hd ?_
  exact k ok r hr H locs lsA cells slots hR hS hl hc hs
theorem s_lcmp {α : Type} {X : XX} {I : MI} {ρ : α → Option TV × XM} {pc npc i : Nat} {ls : List (Nat × TV)} {st : List TV} {h : XM} {bc bs : Nat} {o : Option α} {x y : Int64} (hi : (mtab I)[i]? = some (pc, .lcmp, 1, npc))  (k : SW X I ρ npc ls (tI (lg_cmp x y) :: st) h bc bs o) : SW X I ρ pc ls (tL y :: tL x :: st) h bc bs o := by
  obtain ⟨G, p, l, e, s, m, args, below, meth, c⟩ := X
  obtain ⟨cc, nL, ret, own, nm, tab, mc, ms, nfr, nlo⟩ := I
  intro ok r hr H locs lsA cells slots hR hS hl hc hs
  obtain ⟨hx, hb, hml, hret, hown, hts, hlocks, hnm, htab, hG, hB⟩ := id ok
  obtain ⟨hd, hn⟩ := htab _ (List.mem_of_getElem? hi)
  have hn : npc = pc + 1 := hn
  subst hn
  refine W.lcmp hx hb hd ?_
  exact k ok r hr H locs lsA cells slots hR hS hl hc hs
theorem s_ineg {α : Type} {X : XX} {I : MI} {ρ : α → Option TV × XM} {pc npc i : Nat} {ls : List (Nat × TV)} {st : List TV} {h : XM} {bc bs : Nat} {o : Option α} {x : Int32} (hi : (mtab I)[i]? = some (pc, .ineg, 1, npc))  (k : SW X I ρ npc ls (tI (-x) :: st) h bc bs o) : SW X I ρ pc ls (tI x :: st) h bc bs o := by
  obtain ⟨G, p, l, e, s, m, args, below, meth, c⟩ := X
  obtain ⟨cc, nL, ret, own, nm, tab, mc, ms, nfr, nlo⟩ := I
  intro ok r hr H locs lsA cells slots hR hS hl hc hs
  obtain ⟨hx, hb, hml, hret, hown, hts, hlocks, hnm, htab, hG, hB⟩ := id ok
  obtain ⟨hd, hn⟩ := htab _ (List.mem_of_getElem? hi)
  have hn : npc = pc + 1 := hn
  subst hn
  refine lv_ineg hx hb hd ?_
  exact k ok r hr H locs lsA cells slots hR hS hl hc hs
theorem s_i2l {α : Type} {X : XX} {I : MI} {ρ : α → Option TV × XM} {pc npc i : Nat} {ls : List (Nat × TV)} {st : List TV} {h : XM} {bc bs : Nat} {o : Option α} {x : Int32} (hi : (mtab I)[i]? = some (pc, .i2l, 1, npc))  (k : SW X I ρ npc ls (tL (x.toInt64) :: st) h bc bs o) : SW X I ρ pc ls (tI x :: st) h bc bs o := by
  obtain ⟨G, p, l, e, s, m, args, below, meth, c⟩ := X
  obtain ⟨cc, nL, ret, own, nm, tab, mc, ms, nfr, nlo⟩ := I
  intro ok r hr H locs lsA cells slots hR hS hl hc hs
  obtain ⟨hx, hb, hml, hret, hown, hts, hlocks, hnm, htab, hG, hB⟩ := id ok
  obtain ⟨hd, hn⟩ := htab _ (List.mem_of_getElem? hi)
  have hn : npc = pc + 1 := hn
  subst hn
  refine lv_i2l hx hb hd rfl ?_
  exact k ok r hr H locs lsA cells slots hR hS hl hc hs
theorem s_l2i {α : Type} {X : XX} {I : MI} {ρ : α → Option TV × XM} {pc npc i : Nat} {ls : List (Nat × TV)} {st : List TV} {h : XM} {bc bs : Nat} {o : Option α} {x : Int64} (hi : (mtab I)[i]? = some (pc, .l2i, 1, npc))  (k : SW X I ρ npc ls (tI (x.toInt32) :: st) h bc bs o) : SW X I ρ pc ls (tL x :: st) h bc bs o := by
  obtain ⟨G, p, l, e, s, m, args, below, meth, c⟩ := X
  obtain ⟨cc, nL, ret, own, nm, tab, mc, ms, nfr, nlo⟩ := I
  intro ok r hr H locs lsA cells slots hR hS hl hc hs
  obtain ⟨hx, hb, hml, hret, hown, hts, hlocks, hnm, htab, hG, hB⟩ := id ok
  obtain ⟨hd, hn⟩ := htab _ (List.mem_of_getElem? hi)
  have hn : npc = pc + 1 := hn
  subst hn
  refine lv_l2i hx hb hd rfl ?_
  exact k ok r hr H locs lsA cells slots hR hS hl hc hs
theorem s_i2b {α : Type} {X : XX} {I : MI} {ρ : α → Option TV × XM} {pc npc i : Nat} {ls : List (Nat × TV)} {st : List TV} {h : XM} {bc bs : Nat} {o : Option α} {x : Int32} (hi : (mtab I)[i]? = some (pc, .i2b, 1, npc))  (k : SW X I ρ npc ls (tI (x.toInt8.toInt32) :: st) h bc bs o) : SW X I ρ pc ls (tI x :: st) h bc bs o := by
  obtain ⟨G, p, l, e, s, m, args, below, meth, c⟩ := X
  obtain ⟨cc, nL, ret, own, nm, tab, mc, ms, nfr, nlo⟩ := I
  intro ok r hr H locs lsA cells slots hR hS hl hc hs
  obtain ⟨hx, hb, hml, hret, hown, hts, hlocks, hnm, htab, hG, hB⟩ := id ok
  obtain ⟨hd, hn⟩ := htab _ (List.mem_of_getElem? hi)
  have hn : npc = pc + 1 := hn
  subst hn
  refine lv_i2b hx hb hd rfl ?_
  exact k ok r hr H locs lsA cells slots hR hS hl hc hs
theorem s_i2s {α : Type} {X : XX} {I : MI} {ρ : α → Option TV × XM} {pc npc i : Nat} {ls : List (Nat × TV)} {st : List TV} {h : XM} {bc bs : Nat} {o : Option α} {x : Int32} (hi : (mtab I)[i]? = some (pc, .i2s, 1, npc))  (k : SW X I ρ npc ls (tI (x.toInt16.toInt32) :: st) h bc bs o) : SW X I ρ pc ls (tI x :: st) h bc bs o := by
  obtain ⟨G, p, l, e, s, m, args, below, meth, c⟩ := X
  obtain ⟨cc, nL, ret, own, nm, tab, mc, ms, nfr, nlo⟩ := I
  intro ok r hr H locs lsA cells slots hR hS hl hc hs
  obtain ⟨hx, hb, hml, hret, hown, hts, hlocks, hnm, htab, hG, hB⟩ := id ok
  obtain ⟨hd, hn⟩ := htab _ (List.mem_of_getElem? hi)
  have hn : npc = pc + 1 := hn
  subst hn
  refine lv_i2s hx hb hd rfl ?_
  exact k ok r hr H locs lsA cells slots hR hS hl hc hs
theorem s_i2c {α : Type} {X : XX} {I : MI} {ρ : α → Option TV × XM} {pc npc i : Nat} {ls : List (Nat × TV)} {st : List TV} {h : XM} {bc bs : Nat} {o : Option α} {x : Int32} (hi : (mtab I)[i]? = some (pc, .i2c, 1, npc))  (k : SW X I ρ npc ls (tI ((x.toUInt32 % 65536).toInt32) :: st) h bc bs o) : SW X I ρ pc ls (tI x :: st) h bc bs o := by
  obtain ⟨G, p, l, e, s, m, args, below, meth, c⟩ := X
  obtain ⟨cc, nL, ret, own, nm, tab, mc, ms, nfr, nlo⟩ := I
  intro ok r hr H locs lsA cells slots hR hS hl hc hs
  obtain ⟨hx, hb, hml, hret, hown, hts, hlocks, hnm, htab, hG, hB⟩ := id ok
  obtain ⟨hd, hn⟩ := htab _ (List.mem_of_getElem? hi)
  have hn : npc = pc + 1 := hn
  subst hn
  refine lv_i2c hx hb hd rfl ?_
  exact k ok r hr H locs lsA cells slots hR hS hl hc hs
theorem s_idiv {α : Type} {X : XX} {I : MI} {ρ : α → Option TV × XM} {pc npc i : Nat} {ls : List (Nat × TV)} {st : List TV} {h : XM} {bc bs : Nat} {F : Int32 → Option α} {x y : Int32} (hi : (mtab I)[i]? = some (pc, .idiv, 1, npc)) (k : ∀ z, SW X I ρ npc ls (tI z :: st) h bc bs (F z)) : SW X I ρ pc ls (tI y :: tI x :: st) h bc bs ((idiv x y).bind F) := by
  obtain ⟨G, p, l, e, s, m, args, below, meth, c⟩ := X
  obtain ⟨cc, nL, ret, own, nm, tab, mc, ms, nfr, nlo⟩ := I
  intro ok r hr H locs lsA cells slots hR hS hl hc hs
  obtain ⟨hx, hb, hml, hret, hown, hts, hlocks, hnm, htab, hG, hB⟩ := id ok
  obtain ⟨hd, hn⟩ := htab _ (List.mem_of_getElem? hi)
  have hn : npc = pc + 1 := hn
  subst hn
  unfold idiv at hr
  by_cases hy : y = 0
  · rw [if_pos hy] at hr
    cases hr
  · rw [if_neg hy] at hr
    refine lv_idiv hx hb hd hy ?_
    exact k _ ok r hr H locs lsA cells slots hR hS hl hc hs
theorem s_irem {α : Type} {X : XX} {I : MI} {ρ : α → Option TV × XM} {pc npc i : Nat} {ls : List (Nat × TV)} {st : List TV} {h : XM} {bc bs : Nat} {F : Int32 → Option α} {x y : Int32} (hi : (mtab I)[i]? = some (pc, .irem, 1, npc)) (k : ∀ z, SW X I ρ npc ls (tI z :: st) h bc bs (F z)) : SW X I ρ pc ls (tI y :: tI x :: st) h bc bs ((irem x y).bind F) := by
  obtain ⟨G, p, l, e, s, m, args, below, meth, c⟩ := X
  obtain ⟨cc, nL, ret, own, nm, tab, mc, ms, nfr, nlo⟩ := I
  intro ok r hr H locs lsA cells slots hR hS hl hc hs
  obtain ⟨hx, hb, hml, hret, hown, hts, hlocks, hnm, htab, hG, hB⟩ := id ok
  obtain ⟨hd, hn⟩ := htab _ (List.mem_of_getElem? hi)
  have hn : npc = pc + 1 := hn
  subst hn
  unfold irem at hr
  by_cases hy : y = 0
  · rw [if_pos hy] at hr
    cases hr
  · rw [if_neg hy] at hr
    refine lv_irem hx hb hd hy ?_
    exact k _ ok r hr H locs lsA cells slots hR hS hl hc hs
theorem s_ldiv {α : Type} {X : XX} {I : MI} {ρ : α → Option TV × XM} {pc npc i : Nat} {ls : List (Nat × TV)} {st : List TV} {h : XM} {bc bs : Nat} {F : Int64 → Option α} {x y : Int64} (hi : (mtab I)[i]? = some (pc, .ldiv, 1, npc)) (k : ∀ z, SW X I ρ npc ls (tL z :: st) h bc bs (F z)) : SW X I ρ pc ls (tL y :: tL x :: st) h bc bs ((ldiv x y).bind F) := by
  obtain ⟨G, p, l, e, s, m, args, below, meth, c⟩ := X
  obtain ⟨cc, nL, ret, own, nm, tab, mc, ms, nfr, nlo⟩ := I
  intro ok r hr H locs lsA cells slots hR hS hl hc hs
  obtain ⟨hx, hb, hml, hret, hown, hts, hlocks, hnm, htab, hG, hB⟩ := id ok
  obtain ⟨hd, hn⟩ := htab _ (List.mem_of_getElem? hi)
  have hn : npc = pc + 1 := hn
  subst hn
  unfold ldiv at hr
  by_cases hy : y = 0
  · rw [if_pos hy] at hr
    cases hr
  · rw [if_neg hy] at hr
    refine lv_ldiv hx hb hd hy ?_
    exact k _ ok r hr H locs lsA cells slots hR hS hl hc hs
theorem s_lrem {α : Type} {X : XX} {I : MI} {ρ : α → Option TV × XM} {pc npc i : Nat} {ls : List (Nat × TV)} {st : List TV} {h : XM} {bc bs : Nat} {F : Int64 → Option α} {x y : Int64} (hi : (mtab I)[i]? = some (pc, .lrem, 1, npc)) (k : ∀ z, SW X I ρ npc ls (tL z :: st) h bc bs (F z)) : SW X I ρ pc ls (tL y :: tL x :: st) h bc bs ((lrem x y).bind F) := by
  obtain ⟨G, p, l, e, s, m, args, below, meth, c⟩ := X
  obtain ⟨cc, nL, ret, own, nm, tab, mc, ms, nfr, nlo⟩ := I
  intro ok r hr H locs lsA cells slots hR hS hl hc hs
  obtain ⟨hx, hb, hml, hret, hown, hts, hlocks, hnm, htab, hG, hB⟩ := id ok
  obtain ⟨hd, hn⟩ := htab _ (List.mem_of_getElem? hi)
  have hn : npc = pc + 1 := hn
  subst hn
  unfold lrem at hr
  by_cases hy : y = 0
  · rw [if_pos hy] at hr
    cases hr
  · rw [if_neg hy] at hr
    refine lv_lrem hx hb hd hy ?_
    exact k _ ok r hr H locs lsA cells slots hR hS hl hc hs
theorem s_dup {α : Type} {X : XX} {I : MI} {ρ : α → Option TV × XM} {pc npc i : Nat} {ls : List (Nat × TV)} {st : List TV} {h : XM} {bc bs : Nat} {o : Option α} {v : TV} (hi : (mtab I)[i]? = some (pc, .dup, 1, npc)) (hv : tcat v = 1) (k : SW X I ρ npc ls (v :: v :: st) h bc bs o) : SW X I ρ pc ls (v :: st) h bc bs o := by
  obtain ⟨G, p, l, e, s, m, args, below, meth, c⟩ := X
  obtain ⟨cc, nL, ret, own, nm, tab, mc, ms, nfr, nlo⟩ := I
  intro ok r hr H locs lsA cells slots hR hS hl hc hs
  obtain ⟨hx, hb, hml, hret, hown, hts, hlocks, hnm, htab, hG, hB⟩ := id ok
  obtain ⟨hd, hn⟩ := htab _ (List.mem_of_getElem? hi)
  have hn : npc = pc + 1 := hn
  subst hn
  refine lv_dup hx hb hd ((xtv_cat G v).trans hv) ?_
  exact k ok r hr H locs lsA cells slots hR hS hl hc hs
theorem s_pop {α : Type} {X : XX} {I : MI} {ρ : α → Option TV × XM} {pc npc i : Nat} {ls : List (Nat × TV)} {st : List TV} {h : XM} {bc bs : Nat} {o : Option α} {v : TV} (hi : (mtab I)[i]? = some (pc, .pop, 1, npc)) (hv : tcat v = 1) (k : SW X I ρ npc ls (st) h bc bs o) : SW X I ρ pc ls (v :: st) h bc bs o := by
  obtain ⟨G, p, l, e, s, m, args, below, meth, c⟩ := X
  obtain ⟨cc, nL, ret, own, nm, tab, mc, ms, nfr, nlo⟩ := I
  intro ok r hr H locs lsA cells slots hR hS hl hc hs
  obtain ⟨hx, hb, hml, hret, hown, hts, hlocks, hnm, htab, hG, hB⟩ := id ok
  obtain ⟨hd, hn⟩ := htab _ (List.mem_of_getElem? hi)
  have hn : npc = pc + 1 := hn
  subst hn
  refine lv_pop hx hb hd ((xtv_cat G v).trans hv) ?_
  exact k ok r hr H locs lsA cells slots hR hS hl hc hs
theorem s_dup2 {α : Type} {X : XX} {I : MI} {ρ : α → Option TV × XM} {pc npc i : Nat} {ls : List (Nat × TV)} {st : List TV} {h : XM} {bc bs : Nat} {o : Option α} {v u : TV} (hi : (mtab I)[i]? = some (pc, .dup2, 1, npc)) (hv : tcat v = 1) (hu : tcat u = 1) (k : SW X I ρ npc ls (v :: u :: v :: u :: st) h bc bs o) : SW X I ρ pc ls (v :: u :: st) h bc bs o := by
  obtain ⟨G, p, l, e, s, m, args, below, meth, c⟩ := X
  obtain ⟨cc, nL, ret, own, nm, tab, mc, ms, nfr, nlo⟩ := I
  intro ok r hr H locs lsA cells slots hR hS hl hc hs
  obtain ⟨hx, hb, hml, hret, hown, hts, hlocks, hnm, htab, hG, hB⟩ := id ok
  obtain ⟨hd, hn⟩ := htab _ (List.mem_of_getElem? hi)
  have hn : npc = pc + 1 := hn
  subst hn
  refine lv_dup2_11 hx hb hd ((xtv_cat G v).trans hv) ((xtv_cat G u).trans hu) ?_
  exact k ok r hr H locs lsA cells slots hR hS hl hc hs
theorem xle {x y : Int32} (h : ¬ x < y) : y ≤ x := Int32.not_lt.mp h
theorem s_ifeq {α : Type} {X : XX} {I : MI} {ρ : α → Option TV × XM} {pc npc i : Nat} {ls : List (Nat × TV)} {st : List TV} {h : XM} {bc bs : Nat} {A B : Option α} {x : Int32} {off : Int} {tgt : Nat} (hi : (mtab I)[i]? = some (pc, .ifCond .eq off, 3, npc)) (ht : (pc : Int) + off = (tgt : Int)) (kt : x = 0 → SW X I ρ tgt ls st h bc bs A) (kf : ¬ x = 0 → SW X I ρ npc ls st h bc bs B) : SW X I ρ pc ls (tI x :: st) h bc bs (if x = 0 then A else B) := by
  obtain ⟨G, p, l, e, s, m, args, below, meth, c⟩ := X
  obtain ⟨cc, nL, ret, own, nm, tab, mc, ms, nfr, nlo⟩ := I
  intro ok r hr H locs lsA cells slots hR hS hl hc hs
  obtain ⟨hx, hb, hml, hret, hown, hts, hlocks, hnm, htab, hG, hB⟩ := id ok
  obtain ⟨hd, hn⟩ := htab _ (List.mem_of_getElem? hi)
  have hn : npc = pc + 3 := hn
  subst hn
  by_cases hz : x = 0
  · rw [if_pos hz] at hr
    have K := kt hz ok r hr H locs lsA cells slots hR hS hl hc hs
    exact lv_if_eq hx hb hd ht (fun _ => K) (fun q => absurd hz q)
  · rw [if_neg hz] at hr
    have K := kf hz ok r hr H locs lsA cells slots hR hS hl hc hs
    exact lv_if_eq hx hb hd ht (fun q => absurd q hz) (fun _ => K)
theorem s_ifne {α : Type} {X : XX} {I : MI} {ρ : α → Option TV × XM} {pc npc i : Nat} {ls : List (Nat × TV)} {st : List TV} {h : XM} {bc bs : Nat} {A B : Option α} {x : Int32} {off : Int} {tgt : Nat} (hi : (mtab I)[i]? = some (pc, .ifCond .ne off, 3, npc)) (ht : (pc : Int) + off = (tgt : Int)) (kt : x = 0 → SW X I ρ npc ls st h bc bs A) (kf : ¬ x = 0 → SW X I ρ tgt ls st h bc bs B) : SW X I ρ pc ls (tI x :: st) h bc bs (if x = 0 then A else B) := by
  obtain ⟨G, p, l, e, s, m, args, below, meth, c⟩ := X
  obtain ⟨cc, nL, ret, own, nm, tab, mc, ms, nfr, nlo⟩ := I
  intro ok r hr H locs lsA cells slots hR hS hl hc hs
  obtain ⟨hx, hb, hml, hret, hown, hts, hlocks, hnm, htab, hG, hB⟩ := id ok
  obtain ⟨hd, hn⟩ := htab _ (List.mem_of_getElem? hi)
  have hn : npc = pc + 3 := hn
  subst hn
  by_cases hz : x = 0
  · rw [if_pos hz] at hr
    have K := kt hz ok r hr H locs lsA cells slots hR hS hl hc hs
    exact lv_if_ne hx hb hd ht (fun q => absurd hz q) (fun _ => K)
  · rw [if_neg hz] at hr
    have K := kf hz ok r hr H locs lsA cells slots hR hS hl hc hs
    exact lv_if_ne hx hb hd ht (fun _ => K) (fun q => absurd q hz)
theorem s_iflt {α : Type} {X : XX} {I : MI} {ρ : α → Option TV × XM} {pc npc i : Nat} {ls : List (Nat × TV)} {st : List TV} {h : XM} {bc bs : Nat} {A B : Option α} {x : Int32} {off : Int} {tgt : Nat} (hi : (mtab I)[i]? = some (pc, .ifCond .lt off, 3, npc)) (ht : (pc : Int) + off = (tgt : Int)) (kt : x < 0 → SW X I ρ tgt ls st h bc bs A) (kf : ¬ x < 0 → SW X I ρ npc ls st h bc bs B) : SW X I ρ pc ls (tI x :: st) h bc bs (if x < 0 then A else B) := by
  obtain ⟨G, p, l, e, s, m, args, below, meth, c⟩ := X
  obtain ⟨cc, nL, ret, own, nm, tab, mc, ms, nfr, nlo⟩ := I
  intro ok r hr H locs lsA cells slots hR hS hl hc hs
  obtain ⟨hx, hb, hml, hret, hown, hts, hlocks, hnm, htab, hG, hB⟩ := id ok
  obtain ⟨hd, hn⟩ := htab _ (List.mem_of_getElem? hi)
  have hn : npc = pc + 3 := hn
  subst hn
  by_cases hz : x < 0
  · rw [if_pos hz] at hr
    have K := kt hz ok r hr H locs lsA cells slots hR hS hl hc hs
    exact lv_if_lt hx hb hd ht (fun _ => K) (fun q => absurd hz q)
  · rw [if_neg hz] at hr
    have K := kf hz ok r hr H locs lsA cells slots hR hS hl hc hs
    exact lv_if_lt hx hb hd ht (fun q => absurd q hz) (fun _ => K)
theorem s_ifge {α : Type} {X : XX} {I : MI} {ρ : α → Option TV × XM} {pc npc i : Nat} {ls : List (Nat × TV)} {st : List TV} {h : XM} {bc bs : Nat} {A B : Option α} {x : Int32} {off : Int} {tgt : Nat} (hi : (mtab I)[i]? = some (pc, .ifCond .ge off, 3, npc)) (ht : (pc : Int) + off = (tgt : Int)) (kt : x < 0 → SW X I ρ npc ls st h bc bs A) (kf : ¬ x < 0 → SW X I ρ tgt ls st h bc bs B) : SW X I ρ pc ls (tI x :: st) h bc bs (if x < 0 then A else B) := by
  obtain ⟨G, p, l, e, s, m, args, below, meth, c⟩ := X
  obtain ⟨cc, nL, ret, own, nm, tab, mc, ms, nfr, nlo⟩ := I
  intro ok r hr H locs lsA cells slots hR hS hl hc hs
  obtain ⟨hx, hb, hml, hret, hown, hts, hlocks, hnm, htab, hG, hB⟩ := id ok
  obtain ⟨hd, hn⟩ := htab _ (List.mem_of_getElem? hi)
  have hn : npc = pc + 3 := hn
  subst hn
  by_cases hz : x < 0
  · rw [if_pos hz] at hr
    have K := kt hz ok r hr H locs lsA cells slots hR hS hl hc hs
    exact lv_if_ge hx hb hd ht (fun q => absurd hz (Int32.not_lt.mpr q)) (fun _ => K)
  · rw [if_neg hz] at hr
    have K := kf hz ok r hr H locs lsA cells slots hR hS hl hc hs
    exact lv_if_ge hx hb hd ht (fun _ => K) (fun q => absurd (xle hz) q)
theorem s_ifgt {α : Type} {X : XX} {I : MI} {ρ : α → Option TV × XM} {pc npc i : Nat} {ls : List (Nat × TV)} {st : List TV} {h : XM} {bc bs : Nat} {A B : Option α} {x : Int32} {off : Int} {tgt : Nat} (hi : (mtab I)[i]? = some (pc, .ifCond .gt off, 3, npc)) (ht : (pc : Int) + off = (tgt : Int)) (kt : 0 < x → SW X I ρ tgt ls st h bc bs A) (kf : ¬ 0 < x → SW X I ρ npc ls st h bc bs B) : SW X I ρ pc ls (tI x :: st) h bc bs (if 0 < x then A else B) := by
  obtain ⟨G, p, l, e, s, m, args, below, meth, c⟩ := X
  obtain ⟨cc, nL, ret, own, nm, tab, mc, ms, nfr, nlo⟩ := I
  intro ok r hr H locs lsA cells slots hR hS hl hc hs
  obtain ⟨hx, hb, hml, hret, hown, hts, hlocks, hnm, htab, hG, hB⟩ := id ok
  obtain ⟨hd, hn⟩ := htab _ (List.mem_of_getElem? hi)
  have hn : npc = pc + 3 := hn
  subst hn
  by_cases hz : 0 < x
  · rw [if_pos hz] at hr
    have K := kt hz ok r hr H locs lsA cells slots hR hS hl hc hs
    exact lv_if_gt hx hb hd ht (fun _ => K) (fun q => absurd hz q)
  · rw [if_neg hz] at hr
    have K := kf hz ok r hr H locs lsA cells slots hR hS hl hc hs
    exact lv_if_gt hx hb hd ht (fun q => absurd q hz) (fun _ => K)
theorem s_ifle {α : Type} {X : XX} {I : MI} {ρ : α → Option TV × XM} {pc npc i : Nat} {ls : List (Nat × TV)} {st : List TV} {h : XM} {bc bs : Nat} {A B : Option α} {x : Int32} {off : Int} {tgt : Nat} (hi : (mtab I)[i]? = some (pc, .ifCond .le off, 3, npc)) (ht : (pc : Int) + off = (tgt : Int)) (kt : 0 < x → SW X I ρ npc ls st h bc bs A) (kf : ¬ 0 < x → SW X I ρ tgt ls st h bc bs B) : SW X I ρ pc ls (tI x :: st) h bc bs (if 0 < x then A else B) := by
  obtain ⟨G, p, l, e, s, m, args, below, meth, c⟩ := X
  obtain ⟨cc, nL, ret, own, nm, tab, mc, ms, nfr, nlo⟩ := I
  intro ok r hr H locs lsA cells slots hR hS hl hc hs
  obtain ⟨hx, hb, hml, hret, hown, hts, hlocks, hnm, htab, hG, hB⟩ := id ok
  obtain ⟨hd, hn⟩ := htab _ (List.mem_of_getElem? hi)
  have hn : npc = pc + 3 := hn
  subst hn
  by_cases hz : 0 < x
  · rw [if_pos hz] at hr
    have K := kt hz ok r hr H locs lsA cells slots hR hS hl hc hs
    exact lv_if_le hx hb hd ht (fun q => absurd hz (Int32.not_lt.mpr q)) (fun _ => K)
  · rw [if_neg hz] at hr
    have K := kf hz ok r hr H locs lsA cells slots hR hS hl hc hs
    exact lv_if_le hx hb hd ht (fun _ => K) (fun q => absurd (xle hz) q)
theorem s_icmpeq {α : Type} {X : XX} {I : MI} {ρ : α → Option TV × XM} {pc npc i : Nat} {ls : List (Nat × TV)} {st : List TV} {h : XM} {bc bs : Nat} {A B : Option α} {x y : Int32} {off : Int} {tgt : Nat} (hi : (mtab I)[i]? = some (pc, .if_icmp .eq off, 3, npc)) (ht : (pc : Int) + off = (tgt : Int)) (kt : x = y → SW X I ρ tgt ls st h bc bs A) (kf : ¬ x = y → SW X I ρ npc ls st h bc bs B) : SW X I ρ pc ls (tI y :: tI x :: st) h bc bs (if x = y then A else B) := by
  obtain ⟨G, p, l, e, s, m, args, below, meth, c⟩ := X
  obtain ⟨cc, nL, ret, own, nm, tab, mc, ms, nfr, nlo⟩ := I
  intro ok r hr H locs lsA cells slots hR hS hl hc hs
  obtain ⟨hx, hb, hml, hret, hown, hts, hlocks, hnm, htab, hG, hB⟩ := id ok
  obtain ⟨hd, hn⟩ := htab _ (List.mem_of_getElem? hi)
  have hn : npc = pc + 3 := hn
  subst hn
  by_cases hz : x = y
  · rw [if_pos hz] at hr
    have K := kt hz ok r hr H locs lsA cells slots hR hS hl hc hs
    exact lv_icmp_eq hx hb hd ht (fun _ => K) (fun q => absurd hz q)
  · rw [if_neg hz] at hr
    have K := kf hz ok r hr H locs lsA cells slots hR hS hl hc hs
    exact lv_icmp_eq hx hb hd ht (fun q => absurd q hz) (fun _ => K)
theorem s_icmpne {α : Type} {X : XX} {I : MI} {ρ : α → Option TV × XM} {pc npc i : Nat} {ls : List (Nat × TV)} {st : List TV} {h : XM} {bc bs : Nat} {A B : Option α} {x y : Int32} {off : Int} {tgt : Nat} (hi : (mtab I)[i]? = some (pc, .if_icmp .ne off, 3, npc)) (ht : (pc : Int) + off = (tgt : Int)) (kt : x = y → SW X I ρ npc ls st h bc bs A) (kf : ¬ x = y → SW X I ρ tgt ls st h bc bs B) : SW X I ρ pc ls (tI y :: tI x :: st) h bc bs (if x = y then A else B) := by
  obtain ⟨G, p, l, e, s, m, args, below, meth, c⟩ := X
  obtain ⟨cc, nL, ret, own, nm, tab, mc, ms, nfr, nlo⟩ := I
  intro ok r hr H locs lsA cells slots hR hS hl hc hs
  obtain ⟨hx, hb, hml, hret, hown, hts, hlocks, hnm, htab, hG, hB⟩ := id ok
  obtain ⟨hd, hn⟩ := htab _ (List.mem_of_getElem? hi)
  have hn : npc = pc + 3 := hn
  subst hn
  by_cases hz : x = y
  · rw [if_pos hz] at hr
    have K := kt hz ok r hr H locs lsA cells slots hR hS hl hc hs
    exact lv_icmp_ne hx hb hd ht (fun q => absurd hz q) (fun _ => K)
  · rw [if_neg hz] at hr
    have K := kf hz ok r hr H locs lsA cells slots hR hS hl hc hs
    exact lv_icmp_ne hx hb hd ht (fun _ => K) (fun q => absurd q hz)
theorem s_icmplt {α : Type} {X : XX} {I : MI} {ρ : α → Option TV × XM} {pc npc i : Nat} {ls : List (Nat × TV)} {st : List TV} {h : XM} {bc bs : Nat} {A B : Option α} {x y : Int32} {off : Int} {tgt : Nat} (hi : (mtab I)[i]? = some (pc, .if_icmp .lt off, 3, npc)) (ht : (pc : Int) + off = (tgt : Int)) (kt : x < y → SW X I ρ tgt ls st h bc bs A) (kf : ¬ x < y → SW X I ρ npc ls st h bc bs B) : SW X I ρ pc ls (tI y :: tI x :: st) h bc bs (if x < y then A else B) := by
  obtain ⟨G, p, l, e, s, m, args, below, meth, c⟩ := X
  obtain ⟨cc, nL, ret, own, nm, tab, mc, ms, nfr, nlo⟩ := I
  intro ok r hr H locs lsA cells slots hR hS hl hc hs
  obtain ⟨hx, hb, hml, hret, hown, hts, hlocks, hnm, htab, hG, hB⟩ := id ok
  obtain ⟨hd, hn⟩ := htab _ (List.mem_of_getElem? hi)
  have hn : npc = pc + 3 := hn
  subst hn
  by_cases hz : x < y
  · rw [if_pos hz] at hr
    have K := kt hz ok r hr H locs lsA cells slots hR hS hl hc hs
    exact lv_icmp_lt hx hb hd ht (fun _ => K) (fun q => absurd hz q)
  · rw [if_neg hz] at hr
    have K := kf hz ok r hr H locs lsA cells slots hR hS hl hc hs
    exact lv_icmp_lt hx hb hd ht (fun q => absurd q hz) (fun _ => K)
theorem s_icmpge {α : Type} {X : XX} {I : MI} {ρ : α → Option TV × XM} {pc npc i : Nat} {ls : List (Nat × TV)} {st : List TV} {h : XM} {bc bs : Nat} {A B : Option α} {x y : Int32} {off : Int} {tgt : Nat} (hi : (mtab I)[i]? = some (pc, .if_icmp .ge off, 3, npc)) (ht : (pc : Int) + off = (tgt : Int)) (kt : x < y → SW X I ρ npc ls st h bc bs A) (kf : ¬ x < y → SW X I ρ tgt ls st h bc bs B) : SW X I ρ pc ls (tI y :: tI x :: st) h bc bs (if x < y then A else B) := by
  obtain ⟨G, p, l, e, s, m, args, below, meth, c⟩ := X
  obtain ⟨cc, nL, ret, own, nm, tab, mc, ms, nfr, nlo⟩ := I
  intro ok r hr H locs lsA cells slots hR hS hl hc hs
  obtain ⟨hx, hb, hml, hret, hown, hts, hlocks, hnm, htab, hG, hB⟩ := id ok
  obtain ⟨hd, hn⟩ := htab _ (List.mem_of_getElem? hi)
  have hn : npc = pc + 3 := hn
  subst hn
  by_cases hz : x < y
  · rw [if_pos hz] at hr
    have K := kt hz ok r hr H locs lsA cells slots hR hS hl hc hs
    exact lv_icmp_ge hx hb hd ht (fun q => absurd hz (Int32.not_lt.mpr q)) (fun _ => K)
  · rw [if_neg hz] at hr
    have K := kf hz ok r hr H locs lsA cells slots hR hS hl hc hs
    exact lv_icmp_ge hx hb hd ht (fun _ => K) (fun q => absurd (xle hz) q)
theorem s_icmpgt {α : Type} {X : XX} {I : MI} {ρ : α → Option TV × XM} {pc npc i : Nat} {ls : List (Nat × TV)} {st : List TV} {h : XM} {bc bs : Nat} {A B : Option α} {x y : Int32} {off : Int} {tgt : Nat} (hi : (mtab I)[i]? = some (pc, .if_icmp .gt off, 3, npc)) (ht : (pc : Int) + off = (tgt : Int)) (kt : y < x → SW X I ρ tgt ls st h bc bs A) (kf : ¬ y < x → SW X I ρ npc ls st h bc bs B) : SW X I ρ pc ls (tI y :: tI x :: st) h bc bs (if y < x then A else B) := by
  obtain ⟨G, p, l, e, s, m, args, below, meth, c⟩ := X
  obtain ⟨cc, nL, ret, own, nm, tab, mc, ms, nfr, nlo⟩ := I
  intro ok r hr H locs lsA cells slots hR hS hl hc hs
  obtain ⟨hx, hb, hml, hret, hown, hts, hlocks, hnm, htab, hG, hB⟩ := id ok
  obtain ⟨hd, hn⟩ := htab _ (List.mem_of_getElem? hi)
  have hn : npc = pc + 3 := hn
  subst hn
  by_cases hz : y < x
  · rw [if_pos hz] at hr
    have K := kt hz ok r hr H locs lsA cells slots hR hS hl hc hs
    exact lv_icmp_gt hx hb hd ht (fun _ => K) (fun q => absurd hz q)
  · rw [if_neg hz] at hr
    have K := kf hz ok r hr H locs lsA cells slots hR hS hl hc hs
    exact lv_icmp_gt hx hb hd ht (fun q => absurd q hz) (fun _ => K)
theorem s_icmple {α : Type} {X : XX} {I : MI} {ρ : α → Option TV × XM} {pc npc i : Nat} {ls : List (Nat × TV)} {st : List TV} {h : XM} {bc bs : Nat} {A B : Option α} {x y : Int32} {off : Int} {tgt : Nat} (hi : (mtab I)[i]? = some (pc, .if_icmp .le off, 3, npc)) (ht : (pc : Int) + off = (tgt : Int)) (kt : y < x → SW X I ρ npc ls st h bc bs A) (kf : ¬ y < x → SW X I ρ tgt ls st h bc bs B) : SW X I ρ pc ls (tI y :: tI x :: st) h bc bs (if y < x then A else B) := by
  obtain ⟨G, p, l, e, s, m, args, below, meth, c⟩ := X
  obtain ⟨cc, nL, ret, own, nm, tab, mc, ms, nfr, nlo⟩ := I
  intro ok r hr H locs lsA cells slots hR hS hl hc hs
  obtain ⟨hx, hb, hml, hret, hown, hts, hlocks, hnm, htab, hG, hB⟩ := id ok
  obtain ⟨hd, hn⟩ := htab _ (List.mem_of_getElem? hi)
  have hn : npc = pc + 3 := hn
  subst hn
  by_cases hz : y < x
  · rw [if_pos hz] at hr
    have K := kt hz ok r hr H locs lsA cells slots hR hS hl hc hs
    exact lv_icmp_le hx hb hd ht (fun q => absurd hz (Int32.not_lt.mpr q)) (fun _ => K)
  · rw [if_neg hz] at hr
    have K := kf hz ok r hr H locs lsA cells slots hR hS hl hc hs
    exact lv_icmp_le hx hb hd ht (fun _ => K) (fun q => absurd (xle hz) q)
theorem s_ifnull {α : Type} {X : XX} {I : MI} {ρ : α → Option TV × XM} {pc npc i : Nat} {ls : List (Nat × TV)} {st : List TV} {h : XM} {bc bs : Nat} {A B : Option α} {x : Option Nat} {off : Int} {tgt : Nat} (hi : (mtab I)[i]? = some (pc, .ifnull off, 3, npc)) (ht : (pc : Int) + off = (tgt : Int)) (kt : x = none → SW X I ρ tgt ls st h bc bs A) (kf : ¬ x = none → SW X I ρ npc ls st h bc bs B) : SW X I ρ pc ls (tA x :: st) h bc bs (if x = none then A else B) := by
  obtain ⟨G, p, l, e, s, m, args, below, meth, c⟩ := X
  obtain ⟨cc, nL, ret, own, nm, tab, mc, ms, nfr, nlo⟩ := I
  intro ok r hr H locs lsA cells slots hR hS hl hc hs
  obtain ⟨hx, hb, hml, hret, hown, hts, hlocks, hnm, htab, hG, hB⟩ := id ok
  obtain ⟨hd, hn⟩ := htab _ (List.mem_of_getElem? hi)
  have hn : npc = pc + 3 := hn
  subst hn
  cases x with
  | none => exact lv_ifnullN hx hb hd ht (kt rfl ok r hr H locs lsA cells slots hR hS hl hc hs)
  | some y => exact lv_ifnull hx hb hd (kf (fun q => by cases q) ok r hr H locs lsA cells slots hR hS hl hc hs)
theorem s_ifnonnull {α : Type} {X : XX} {I : MI} {ρ : α → Option TV × XM} {pc npc i : Nat} {ls : List (Nat × TV)} {st : List TV} {h : XM} {bc bs : Nat} {A B : Option α} {x : Option Nat} {off : Int} {tgt : Nat} (hi : (mtab I)[i]? = some (pc, .ifnonnull off, 3, npc)) (ht : (pc : Int) + off = (tgt : Int)) (kt : x = none → SW X I ρ npc ls st h bc bs A) (kf : ¬ x = none → SW X I ρ tgt ls st h bc bs B) : SW X I ρ pc ls (tA x :: st) h bc bs (if x = none then A else B) := by
  obtain ⟨G, p, l, e, s, m, args, below, meth, c⟩ := X
  obtain ⟨cc, nL, ret, own, nm, tab, mc, ms, nfr, nlo⟩ := I
  intro ok r hr H locs lsA cells slots hR hS hl hc hs
  obtain ⟨hx, hb, hml, hret, hown, hts, hlocks, hnm, htab, hG, hB⟩ := id ok
  obtain ⟨hd, hn⟩ := htab _ (List.mem_of_getElem? hi)
  have hn : npc = pc + 3 := hn
  subst hn
  cases x with
  | none => exact lv_ifnonnullN hx hb hd (kt rfl ok r hr H locs lsA cells slots hR hS hl hc hs)
  | some y => exact lv_ifnonnull hx hb hd ht (kf (fun q => by cases q) ok r hr H locs lsA cells slots hR hS hl hc hs)
theorem s_goto {α : Type} {X : XX} {I : MI} {ρ : α → Option TV × XM} {pc npc i : Nat} {ls : List (Nat × TV)} {st : List TV} {h : XM} {bc bs : Nat} {o : Option α} {off : Int} {tgt : Nat} (hi : (mtab I)[i]? = some (pc, .goto off, 3, npc)) (ht : (pc : Int) + off = (tgt : Int)) (k : SW X I ρ tgt ls st h bc bs o) : SW X I ρ pc ls st h bc bs o := by
  obtain ⟨G, p, l, e, s, m, args, below, meth, c⟩ := X
  obtain ⟨cc, nL, ret, own, nm, tab, mc, ms, nfr, nlo⟩ := I
  intro ok r hr H locs lsA cells slots hR hS hl hc hs
  obtain ⟨hx, hb, hml, hret, hown, hts, hlocks, hnm, htab, hG, hB⟩ := id ok
  obtain ⟨hd, hn⟩ := htab _ (List.mem_of_getElem? hi)
  have hn : npc = pc + 3 := hn
  subst hn
  exact lv_goto hx hb hd ht (k ok r hr H locs lsA cells slots hR hS hl hc hs)
/-- where a switch goes, by the value -/
def swT (dflt lo hi : Int) (offs : Array Int) (x : Int32) : Int := if x.toInt < lo ∨ hi < x.toInt then dflt else (offs[(x.toInt - lo).toNat]?).getD dflt
theorem s_table {α : Type} {X : XX} {I : MI} {ρ : α → Option TV × XM} {pc npc i : Nat} {ls : List (Nat × TV)} {st : List TV} {h : XM} {bc bs : Nat} {o : Option α} {dflt lo hi9 : Int} {offs : Array Int} {len : Nat} {x : Int32} (tgt : Nat) (hi : (mtab I)[i]? = some (pc, .tableswitch dflt lo hi9 offs, len, npc)) (hsz : (hi9 - lo + 1).toNat = offs.size) (ht : (pc : Int) + swT dflt lo hi9 offs x = (tgt : Int)) (k : SW X I ρ tgt ls st h bc bs o) : SW X I ρ pc ls (tI x :: st) h bc bs o := by
  obtain ⟨G, p, l, e, s, m, args, below, meth, c⟩ := X
  obtain ⟨cc, nL, ret, own, nm, tab, mc, ms, nfr, nlo⟩ := I
  intro ok r hr H locs lsA cells slots hR hS hl hc hs
  obtain ⟨hx, hb, hml, hret, hown, hts, hlocks, hnm, htab, hG, hB⟩ := id ok
  obtain ⟨hd, hn⟩ := htab _ (List.mem_of_getElem? hi)
  have K := k ok r hr H locs lsA cells slots hR hS hl hc hs
  unfold swT at ht
  by_cases hz : x.toInt < lo ∨ hi9 < x.toInt
  · rw [if_pos hz] at ht
    exact lv_tableOut hx hb hd hz ht K
  · rw [if_neg hz] at ht
    have h1 : ¬ x.toInt < lo := fun q => hz (Or.inl q)
    have h2 : ¬ hi9 < x.toInt := fun q => hz (Or.inr q)
    have h3 : (x.toInt - lo).toNat < offs.size := by omega
    have h4 : offs[(x.toInt - lo).toNat]? = some (offs[(x.toInt - lo).toNat]'h3) := Array.getElem?_eq_getElem h3
    rw [h4] at ht
    exact lv_tableIn hx hb hd h1 h2 h4 ht K
theorem s_lookup {α : Type} {X : XX} {I : MI} {ρ : α → Option TV × XM} {pc npc i : Nat} {ls : List (Nat × TV)} {st : List TV} {h : XM} {bc bs : Nat} {o : Option α} {dflt : Int} {ps : Array (Int × Int)} {len : Nat} {x : Int32} (tgt : Nat) (hi : (mtab I)[i]? = some (pc, .lookupswitch dflt ps, len, npc)) (hp : (ps.toList.zip (ps.toList.drop 1)).all (fun (a, next) => a.1 < next.1) = true) (ht : (pc : Int) + Op.lookupswitch.offset ps.toList dflt x.toInt = (tgt : Int)) (k : SW X I ρ tgt ls st h bc bs o) : SW X I ρ pc ls (tI x :: st) h bc bs o := by
  obtain ⟨G, p, l, e, s, m, args, below, meth, c⟩ := X
  obtain ⟨cc, nL, ret, own, nm, tab, mc, ms, nfr, nlo⟩ := I
  intro ok r hr H locs lsA cells slots hR hS hl hc hs
  obtain ⟨hx, hb, hml, hret, hown, hts, hlocks, hnm, htab, hG, hB⟩ := id ok
  obtain ⟨hd, hn⟩ := htab _ (List.mem_of_getElem? hi)
  exact lv_lookup hx hb hd hp rfl ht (k ok r hr H locs lsA cells slots hR hS hl hc hs)
theorem s_if {α : Type} {X : XX} {I : MI} {ρ : α → Option TV × XM} {pc : Nat} {ls : List (Nat × TV)} {st : List TV} {h : XM} {bc bs : Nat} {P : Prop} [Decidable P] {A B : Option α} (kt : P → SW X I ρ pc ls st h bc bs A) (kf : ¬ P → SW X I ρ pc ls st h bc bs B) : SW X I ρ pc ls st h bc bs (if P then A else B) := by
  by_cases hz : P
  · rw [if_pos hz]
    exact kt hz
  · rw [if_neg hz]
    exact kf hz
end
section
/-! rows over SW: fields, arrays (written by wip/whole/gen/gen_rows2.py) -/
theorem xN_of {k : Nat} {C : String} {T : u_T} {N : Nat} (h : xCl[k]? = some (C, T, N)) : k < 10 ∧ xN k = N := by
  have hk : k < 10 := (List.getElem?_eq_some_iff.mp h).1
  refine ⟨hk, ?_⟩
  rcases (show k = 0 ∨ k = 1 ∨ k = 2 ∨ k = 3 ∨ k = 4 ∨ k = 5 ∨ k = 6 ∨ k = 7 ∨ k = 8 ∨ k = 9 by omega) with e | e | e | e | e | e | e | e | e | e <;> subst e <;> cases h <;> rfl
theorem xW_get {G : XG} {h : XM} {a : Nat} (ha : a < h.1) : (xW G h)[a]? = some (gB G + a, xE G h a) := by
  unfold xW
  rw [List.getElem?_map, List.getElem?_range ha]
  rfl
theorem xW_inv {G : XG} {h : XM} {a : Nat} {q : Nat × va_E} (hq : (xW G h)[a]? = some q) : a < h.1 ∧ q = (gB G + a, xE G h a) := by
  have ha : a < h.1 := by
    have := (List.getElem?_eq_some_iff.mp hq).1
    simpa [xW] using this
  rw [xW_get ha] at hq
  exact ⟨ha, (Option.some.inj hq).symm⟩
theorem xW_D {G : XG} {h : XM} : va_D (fun q => gB G ≤ q) (xW G h) := by
  refine ⟨fun i j p q hp hq e => ?_, fun k q hq => ?_⟩
  · obtain ⟨-, rfl⟩ := xW_inv hp
    obtain ⟨-, rfl⟩ := xW_inv hq
    exact Nat.add_left_cancel e
  · obtain ⟨-, rfl⟩ := xW_inv hq
    exact Nat.le_add_right _ _
theorem Rep.lt {G : XG} {h : XM} {H : Heap} (hR : Rep G h H) {a k : Nat} (hk : (xs h a).1 = k) (h9 : k ≠ 99) : a < h.1 := by
  rcases Nat.lt_or_ge a h.1 with q | q
  · exact q
  · rw [hR.2.2.1 a q] at hk
    exact absurd hk.symm h9
theorem Rep.at {G : XG} {h : XM} {H : Heap} (hR : Rep G h H) {a k : Nat} (hk : (xs h a).1 = k) (h9 : k ≠ 99) : va_at (gD G) xCl (gB G + a, xE G h a) H := hR.1 a _ (xW_get (hR.lt hk h9))
theorem xE_obj {G : XG} {h : XM} {a k : Nat} (hk : (xs h a).1 = k) (h10 : k < 10) : xE G h a = .inr (k, xFs G h a) := by
  unfold xE
  rw [if_pos (by rw [hk]; exact h10), hk]
theorem xE_arr {G : XG} {h : XM} {a k : Nat} (hk : (xs h a).1 = k) (h10 : 10 ≤ k) : xE G h a = .inl (gC G k, xAr G h a) := by
  unfold xE
  rw [if_neg (by rw [hk]; omega), hk]
theorem xFs_get {G : XG} {h : XM} {a j : Nat} (hj : j < (xs h a).2) : (xFs G h a)[j]? = some (if xrf (xs h a).1 j = true then va_rf ((xr h a j).map (xa G)) else .int (xi h a j)) := by
  unfold xFs
  rw [List.getElem?_map, List.getElem?_range hj]
  rfl
theorem xFs_V {G : XG} {h : XM} {a j : Nat} (hj : j < (xs h a).2) : vp_V (xFs G h a) j = if xrf (xs h a).1 j = true then va_rf ((xr h a j).map (xa G)) else .int (xi h a j) := by
  unfold vp_V
  rw [List.getD_eq_getElem?_getD, xFs_get hj]
  rfl
theorem Rep.set {G : XG} {h h2 : XM} {H H1 : Heap} (hR : Rep G h H) {a : Nat} (hc : h2.1 = h.1) (hs : xs h2 = xs h) (hE : ∀ b, b ≠ a → xE G h2 b = xE G h b) (hat : va_at (gD G) xCl (gB G + a, xE G h2 a) H1) (e2 : H1.size = H.size) (e3 : ∀ q, q ≠ gB G + a → H1[q]? = H[q]?) : Rep G h2 H1 := by
  refine ⟨fun k q hq => ?_, by rw [e2, hR.2.1, hc], fun b hb => by rw [hs]; exact hR.2.2.1 b (by rw [← hc]; exact hb), fun b hb => by rw [hs] at hb ⊢; exact hR.2.2.2 b hb⟩
  obtain ⟨hk, rfl⟩ := xW_inv hq
  by_cases e : k = a
  · subst e
    exact hat
  · rw [hE k e]
    exact (hR.1 k _ (xW_get (by rw [← hc]; exact hk))).kept (e3 _ (by omega))
theorem w2_ne {α : Type} {f : Nat → Nat → α} {a j b : Nat} {v : α} (hb : b ≠ a) : w2 f a j v b = f b := by
  funext k
  unfold w2
  rw [if_neg (fun q => hb q.1)]
theorem w2_i {f : Nat → Nat → Int32} {a j : Nat} {v : Int32} : w2 f a j v a = upd (f a) j v := by
  funext k
  unfold w2 upd
  by_cases e : k = j
  · rw [if_pos ⟨rfl, e⟩, if_pos e]
  · rw [if_neg (fun q => e q.2), if_neg e]
theorem w2_l {f : Nat → Nat → Int64} {a j : Nat} {v : Int64} : w2 f a j v a = vp_updL (f a) j v := by
  funext k
  unfold w2 vp_updL
  by_cases e : k = j
  · rw [if_pos ⟨rfl, e⟩, if_pos e]
  · rw [if_neg (fun q => e q.2), if_neg e]
theorem w2_at {α : Type} {f : Nat → Nat → α} {a j k : Nat} {v : α} : w2 f a j v a k = if k = j then v else f a k := by
  unfold w2
  by_cases e : k = j
  · rw [if_pos ⟨rfl, e⟩, if_pos e]
  · rw [if_neg (fun q => e q.2), if_neg e]
theorem xE_wI {G : XG} {h : XM} {a j b : Nat} {v : Int32} (hb : b ≠ a) : xE G (wI h a j v) b = xE G h b := by
  have e : xi (wI h a j v) b = xi h b := w2_ne hb
  unfold xE xFs xAr
  rw [e]
  rfl
theorem xE_wL {G : XG} {h : XM} {a j b : Nat} {v : Int64} (hb : b ≠ a) : xE G (wL h a j v) b = xE G h b := by
  have e : xl (wL h a j v) b = xl h b := w2_ne hb
  unfold xE xFs xAr
  rw [e]
  rfl
theorem xE_wR {G : XG} {h : XM} {a j b : Nat} {v : Option Nat} (hb : b ≠ a) : xE G (wR h a j v) b = xE G h b := by
  have e : xr (wR h a j v) b = xr h b := w2_ne hb
  unfold xE xFs xAr
  rw [e]
  rfl
/-- a field's store, whatever the value: what the machine needs -/
theorem xput {G : XG} {p : Program} {l : Launch} {e : Env} {R : Room} {s : State} {m : MethodId} {args : Array Value} {below : List Frame} {meth : Method} {c : Code} {H : Heap} {locs : List Loc} {cells slots : Nat} {Q : State → Prop} {cc : ByteArray} {pc : Nat} {lsA : Array Slot} {rest : List Value} {h h2 : XM} {own : String} {idx k j a : Nat} {fin : Bool} {fty : FieldType} {v : Value}
    (hx : p.tables.exec = Jvm.exec) (hb : c.code = cc) (hts : ∀ w ∈ XT, w.before args s = true) (hown : s.vm.findClass own = some m.cls) (hK : va_K (gD G) xCl (xtys G) s) (hf : xFL own idx k j fin fty) (hfin : fin = true → meth.name = "<init>") (hR : Rep G h H) (hS : va_S (fun q => gB G ≤ q) s.heap H locs) (hk : (xs h a).1 = k)
    (hn : narrow fty v = v) (hfit : fits fty v = true) (hc2 : h2.1 = h.1) (hs2 : xs h2 = xs h) (hE : ∀ b, b ≠ a → xE G h2 b = xE G h b) (hV : ∀ i, i < xN k → updV (vp_V (xFs G h a)) j v i = vp_V (xFs G h2 a) i)
    (hd : decode cc pc = .ok (.putfield idx, 3)) (kk : ∀ (H1 : Heap) (locs1 : List Loc), Rep G h2 H1 → va_S (fun q => gB G ≤ q) s.heap H1 locs1 → W p l e R s m args below meth c H1 locs1 cells slots Q (F0 m (pc + 3) lsA rest)) : W p l e R s m args below meth c H locs cells slots Q (F0 m pc lsA (v :: .ref (gB G + a) :: rest)) := by
  obtain ⟨C, T, N, ty, ⟨hcl, hin, hty, hnm⟩, hj, hlw, hff, hfd, hdecl⟩ := hf
  obtain ⟨hk10, hN⟩ := xN_of hcl
  have hlink := hts _ hlw
  have hap := va_apart (own := own) hts hin ty hty hnm hK hcl
  have hat := hR.at hk (by omega)
  rw [xE_obj hk hk10] at hat
  obtain ⟨r, h1, cell, q1, q2, q3, q4⟩ := hat
  have hr : r = (C, T, N) := Option.some.inj (h1.symm.trans hcl)
  subst hr
  obtain ⟨hSl, hfc, kC, hkC, hkind⟩ := hK.1 k _ hcl
  obtain ⟨cf, kf, fi, f, hi, hsl⟩ := hSl j hj
  have hlay := hts _ (hin _ (u_in_lay hj))
  unfold u_lay at hlay
  have hst := (u_facts hfc hkC (u_lays hts hin hj) hi).1
  have fin9 : ∀ (H1 : Heap), H1[gB G + a]? = some (cell.setSlot f.slot v) → H1.size = H.size → (∀ q, q ≠ gB G + a → H1[q]? = H[q]?) → Rep G h2 H1 := by
    intro H1 e1 e2 e3
    refine hR.set hc2 hs2 hE ?_ e2 e3
    rw [xE_obj (by rw [hs2]; exact hk) hk10]
    refine ⟨_, hcl, ?_⟩
    rw [hsl] at e1
    exact t_OB.to (V := updV (vp_V (xFs G h a)) j v) ⟨_, e1, q2, q3, t_set q4 hap hj v⟩ (fun i hi9 => hV i (by rw [hN]; exact hi9))
  cases fin with
  | false =>
    rw [if_neg (by rw [hff]; decide)] at hlay
    have h6 := u_store hfc hkC hkind hlay hi hfd hn hfit
    refine W.putK hx hb (f := f) ⟨hown, hlink, ⟨_, _, _, hi⟩, hst⟩ (by rw [q2]; exact h6) q1 q3 (by rw [hsl]; exact k2_hasslot (q4 j hj)) rfl rfl hd fun H1 e1 e2 e3 => ?_
    exact kk H1 _ (fin9 H1 e1 e2 e3) (hS.put e2 e3 (Nat.le_add_right _ _))
  | true =>
    rw [if_pos hff] at hlay
    have hcf : m.cls = cf := by
      obtain ⟨_, _, c', _, _, _, -, -, hf', -, -, -, hown2, -⟩ := Cond.laysFinal_spec hlay
      have e1 : c' = cf := by have := hi.symm.trans hf'; simp at this; exact this.1.symm
      rw [hdecl rfl] at hown2
      rw [← e1]; exact Option.some.inj (hown.symm.trans hown2)
    have h6 := u_fits hfc hkC hkind (Or.inr hlay) hi hfd hn hfit
    refine W.putFinK hx hb hown hlink hi hst hcf (hfin rfl) (by rw [q2]; exact h6) q1 q3 (by rw [hsl]; exact k2_hasslot (q4 j hj)) rfl rfl hd fun H1 e1 e2 e3 => ?_
    exact kk H1 _ (fin9 H1 e1 e2 e3) (hS.put e2 e3 (Nat.le_add_right _ _))
theorem xV_I {G : XG} {h : XM} {H : Heap} {a k j : Nat} {v : Int32} (hR : Rep G h H) (hk : (xs h a).1 = k) (h10 : k < 10) (hrf : xrf k j = false) : ∀ i, i < xN k → updV (vp_V (xFs G h a)) j (.int v) i = vp_V (xFs G (wI h a j v) a) i := by
  intro i hi
  have hn : (xs h a).2 = xN k := by rw [hR.2.2.2 a (by rw [hk]; exact h10), hk]
  have e : xs (wI h a j v) = xs h := rfl
  have e0 := xFs_V (G := G) (h := wI h a j v) (a := a) (j := i) (by rw [e, hn]; exact hi)
  have e2 : xr (wI h a j v) = xr h := rfl
  have e3 : xi (wI h a j v) a i = if i = j then v else xi h a i := w2_at
  unfold updV
  rw [e0, e, e2, e3, hk]
  by_cases q : i = j
  · subst q
    rw [if_pos rfl, if_pos rfl, hrf]
    rfl
  · rw [if_neg q, if_neg q, xFs_V (by rw [hn]; exact hi), hk]
theorem xV_R {G : XG} {h : XM} {H : Heap} {a k j : Nat} {v : Option Nat} (hR : Rep G h H) (hk : (xs h a).1 = k) (h10 : k < 10) (hrf : xrf k j = true) : ∀ i, i < xN k → updV (vp_V (xFs G h a)) j (va_rf (v.map (xa G))) i = vp_V (xFs G (wR h a j v) a) i := by
  intro i hi
  have hn : (xs h a).2 = xN k := by rw [hR.2.2.2 a (by rw [hk]; exact h10), hk]
  have e : xs (wR h a j v) = xs h := rfl
  have e0 := xFs_V (G := G) (h := wR h a j v) (a := a) (j := i) (by rw [e, hn]; exact hi)
  have e2 : xi (wR h a j v) = xi h := rfl
  have e3 : xr (wR h a j v) a i = if i = j then v else xr h a i := w2_at
  unfold updV
  rw [e0, e, e2, e3, hk]
  by_cases q : i = j
  · subst q
    rw [if_pos rfl, if_pos rfl, hrf]
    rfl
  · rw [if_neg q, if_neg q, xFs_V (by rw [hn]; exact hi), hk]
theorem fits_rf (fty : FieldType) (h : (∃ n, fty = .object n) ∨ ∃ t, fty = .array t) (v : Option Nat) : narrow fty (va_rf v) = va_rf v ∧ fits fty (va_rf v) = true := by
  rcases h with ⟨n, rfl⟩ | ⟨t, rfl⟩ <;> cases v <;> exact ⟨rfl, rfl⟩
theorem s_getI {α : Type} {X : XX} {I : MI} {ρ : α → Option TV × XM} {pc npc i : Nat} {ls : List (Nat × TV)} {st : List TV} {h : XM} {bc bs : Nat} {F : Int32 → Option α} {idx kk j : Nat} {r9 : Option Nat} {fin : Bool} {fty : FieldType} (hi : (mtab I)[i]? = some (pc, .getfield idx, 3, npc)) (hf : xFR I.2.2.2.1 idx kk j fin fty) (hrf : xrf kk j = false) (k : ∀ v, SW X I ρ npc ls (tI v :: st) h bc bs (F v)) : SW X I ρ pc ls (tA r9 :: st) h bc bs ((gI h kk r9 j).bind F) := by
  obtain ⟨G, p, l, e, s, m, args, below, meth, c⟩ := X
  obtain ⟨cc, nL, ret, own, nm, tab, mc, ms, nfr, nlo⟩ := I
  intro ok r hr H locs lsA cells slots hR hS hl hc hs
  obtain ⟨hx, hb, hml, hret, hown, hts, hlocks, hnm, htab, hG, hB⟩ := id ok
  obtain ⟨hd, hn⟩ := htab _ (List.mem_of_getElem? hi)
  have hn : npc = pc + 3 := hn
  subst hn
  unfold gI at hr
  cases r9 with
  | none => cases hr
  | some a =>
    simp only [Option.bind_some] at hr
    by_cases hk : (xs h a).1 = kk
    · rw [if_pos hk] at hr
      have K := k _ ok r hr H locs lsA cells slots hR hS hl hc hs
      obtain ⟨C, T, N, ty, ⟨hcl, hin, hty, hnm9⟩, hj, hlw⟩ := hf
      obtain ⟨hk10, hN⟩ := xN_of hcl
      have hn2 : (xs h a).2 = xN kk := by rw [hR.2.2.2 a (by rw [hk]; exact hk10), hk]
      have hv := xFs_get (G := G) (h := h) (a := a) (j := j) (by rw [hn2, hN]; exact hj)
      rw [hk, hrf] at hv
      have hw := xW_get (G := G) (h := h) (a := a) (hR.lt hk (by omega))
      rw [xE_obj hk hk10] at hw
      exact va_get (D := gD G) hx hb hts hin hown hG.1 hR.1 a hw hcl j hj (hts _ hlw) (fun _ h9 => h9) hv hd K
    · rw [if_neg hk] at hr
      cases hr
theorem s_getR {α : Type} {X : XX} {I : MI} {ρ : α → Option TV × XM} {pc npc i : Nat} {ls : List (Nat × TV)} {st : List TV} {h : XM} {bc bs : Nat} {F : Option Nat → Option α} {idx kk j : Nat} {r9 : Option Nat} {fin : Bool} {fty : FieldType} (hi : (mtab I)[i]? = some (pc, .getfield idx, 3, npc)) (hf : xFR I.2.2.2.1 idx kk j fin fty) (hrf : xrf kk j = true) (k : ∀ v, SW X I ρ npc ls (tA v :: st) h bc bs (F v)) : SW X I ρ pc ls (tA r9 :: st) h bc bs ((gR h kk r9 j).bind F) := by
  obtain ⟨G, p, l, e, s, m, args, below, meth, c⟩ := X
  obtain ⟨cc, nL, ret, own, nm, tab, mc, ms, nfr, nlo⟩ := I
  intro ok r hr H locs lsA cells slots hR hS hl hc hs
  obtain ⟨hx, hb, hml, hret, hown, hts, hlocks, hnm, htab, hG, hB⟩ := id ok
  obtain ⟨hd, hn⟩ := htab _ (List.mem_of_getElem? hi)
  have hn : npc = pc + 3 := hn
  subst hn
  unfold gR at hr
  cases r9 with
  | none => cases hr
  | some a =>
    simp only [Option.bind_some] at hr
    by_cases hk : (xs h a).1 = kk
    · rw [if_pos hk] at hr
      have K := k _ ok r hr H locs lsA cells slots hR hS hl hc hs
      obtain ⟨C, T, N, ty, ⟨hcl, hin, hty, hnm9⟩, hj, hlw⟩ := hf
      obtain ⟨hk10, hN⟩ := xN_of hcl
      have hn2 : (xs h a).2 = xN kk := by rw [hR.2.2.2 a (by rw [hk]; exact hk10), hk]
      have hv := xFs_get (G := G) (h := h) (a := a) (j := j) (by rw [hn2, hN]; exact hj)
      rw [hk, hrf] at hv
      have hw := xW_get (G := G) (h := h) (a := a) (hR.lt hk (by omega))
      rw [xE_obj hk hk10] at hw
      exact va_get (D := gD G) hx hb hts hin hown hG.1 hR.1 a hw hcl j hj (hts _ hlw) (fun _ h9 => h9) hv hd K
    · rw [if_neg hk] at hr
      cases hr
theorem s_putI {α : Type} {X : XX} {I : MI} {ρ : α → Option TV × XM} {pc npc i : Nat} {ls : List (Nat × TV)} {st : List TV} {h : XM} {bc bs : Nat} {F : XM → Option α} {idx kk j : Nat} {r9 : Option Nat} {v : Int32} {fin : Bool} {fty : FieldType} (hi : (mtab I)[i]? = some (pc, .putfield idx, 3, npc)) (hf : xFL I.2.2.2.1 idx kk j fin fty) (hfin : fin = true → I.2.2.2.2.1 = "<init>") (hrf : xrf kk j = false) (hty : fty = .int) (k : ∀ h2, SW X I ρ npc ls st h2 bc bs (F h2)) : SW X I ρ pc ls (tI v :: tA r9 :: st) h bc bs ((pI h kk r9 j v).bind F) := by
  obtain ⟨G, p, l, e, s, m, args, below, meth, c⟩ := X
  obtain ⟨cc, nL, ret, own, nm, tab, mc, ms, nfr, nlo⟩ := I
  intro ok r hr H locs lsA cells slots hR hS hl hc hs
  obtain ⟨hx, hb, hml, hret, hown, hts, hlocks, hnm, htab, hG, hB⟩ := id ok
  obtain ⟨hd, hn⟩ := htab _ (List.mem_of_getElem? hi)
  have hn : npc = pc + 3 := hn
  subst hn
  unfold pI at hr
  cases r9 with
  | none => cases hr
  | some a =>
    simp only [Option.bind_some] at hr
    by_cases hk9 : (xs h a).1 = kk
    · rw [if_pos hk9] at hr
      have hk : (xs h a).1 = kk := hk9
      have hcl := hf
      obtain ⟨C, T, N, ty, ⟨hcl, -⟩, -⟩ := hcl
      have hk10 := (xN_of hcl).1
      have hft : narrow fty (.int v) = (.int v) ∧ fits fty (.int v) = true := by subst hty; exact ⟨rfl, rfl⟩
      exact xput (G := G) (h := h) (h2 := wI h a j v) hx hb hts hown hG.1 hf (fun q => hnm.trans (hfin q)) hR hS hk hft.1 hft.2 rfl rfl (fun b hb9 => xE_wI hb9) (xV_I hR hk hk10 hrf) hd (fun H1 locs1 hR1 hS1 => k _ ok r hr H1 locs1 lsA cells slots hR1 hS1 hl hc hs)
    · rw [if_neg hk9] at hr
      cases hr
theorem s_putZ {α : Type} {X : XX} {I : MI} {ρ : α → Option TV × XM} {pc npc i : Nat} {ls : List (Nat × TV)} {st : List TV} {h : XM} {bc bs : Nat} {F : XM → Option α} {idx kk j : Nat} {r9 : Option Nat} {v : Int32} {fin : Bool} {fty : FieldType} (hi : (mtab I)[i]? = some (pc, .putfield idx, 3, npc)) (hf : xFL I.2.2.2.1 idx kk j fin fty) (hfin : fin = true → I.2.2.2.2.1 = "<init>") (hrf : xrf kk j = false) (hty : fty = .boolean) (k : ∀ h2, SW X I ρ npc ls st h2 bc bs (F h2)) : SW X I ρ pc ls (tI v :: tA r9 :: st) h bc bs ((pZ h kk r9 j v).bind F) := by
  obtain ⟨G, p, l, e, s, m, args, below, meth, c⟩ := X
  obtain ⟨cc, nL, ret, own, nm, tab, mc, ms, nfr, nlo⟩ := I
  intro ok r hr H locs lsA cells slots hR hS hl hc hs
  obtain ⟨hx, hb, hml, hret, hown, hts, hlocks, hnm, htab, hG, hB⟩ := id ok
  obtain ⟨hd, hn⟩ := htab _ (List.mem_of_getElem? hi)
  have hn : npc = pc + 3 := hn
  subst hn
  unfold pZ at hr
  cases r9 with
  | none => cases hr
  | some a =>
    simp only [Option.bind_some] at hr
    by_cases hk9 : (xs h a).1 = kk ∧ (v = 0 ∨ v = 1)
    · rw [if_pos hk9] at hr
      have hk : (xs h a).1 = kk := hk9.1
      have hcl := hf
      obtain ⟨C, T, N, ty, ⟨hcl, -⟩, -⟩ := hcl
      have hk10 := (xN_of hcl).1
      have hft : narrow fty (.int v) = (.int v) ∧ fits fty (.int v) = true := by subst hty; rcases hk9.2 with e9 | e9 <;> subst e9 <;> exact ⟨rfl, rfl⟩
      exact xput (G := G) (h := h) (h2 := wI h a j v) hx hb hts hown hG.1 hf (fun q => hnm.trans (hfin q)) hR hS hk hft.1 hft.2 rfl rfl (fun b hb9 => xE_wI hb9) (xV_I hR hk hk10 hrf) hd (fun H1 locs1 hR1 hS1 => k _ ok r hr H1 locs1 lsA cells slots hR1 hS1 hl hc hs)
    · rw [if_neg hk9] at hr
      cases hr
theorem s_putR {α : Type} {X : XX} {I : MI} {ρ : α → Option TV × XM} {pc npc i : Nat} {ls : List (Nat × TV)} {st : List TV} {h : XM} {bc bs : Nat} {F : XM → Option α} {idx kk j : Nat} {r9 : Option Nat} {v : Option Nat} {fin : Bool} {fty : FieldType} (hi : (mtab I)[i]? = some (pc, .putfield idx, 3, npc)) (hf : xFL I.2.2.2.1 idx kk j fin fty) (hfin : fin = true → I.2.2.2.2.1 = "<init>") (hrf : xrf kk j = true) (hty : (∃ n, fty = .object n) ∨ ∃ t, fty = .array t) (k : ∀ h2, SW X I ρ npc ls st h2 bc bs (F h2)) : SW X I ρ pc ls (tA v :: tA r9 :: st) h bc bs ((pR h kk r9 j v).bind F) := by
  obtain ⟨G, p, l, e, s, m, args, below, meth, c⟩ := X
  obtain ⟨cc, nL, ret, own, nm, tab, mc, ms, nfr, nlo⟩ := I
  intro ok r hr H locs lsA cells slots hR hS hl hc hs
  obtain ⟨hx, hb, hml, hret, hown, hts, hlocks, hnm, htab, hG, hB⟩ := id ok
  obtain ⟨hd, hn⟩ := htab _ (List.mem_of_getElem? hi)
  have hn : npc = pc + 3 := hn
  subst hn
  unfold pR at hr
  cases r9 with
  | none => cases hr
  | some a =>
    simp only [Option.bind_some] at hr
    by_cases hk9 : (xs h a).1 = kk
    · rw [if_pos hk9] at hr
      have hk : (xs h a).1 = kk := hk9
      have hcl := hf
      obtain ⟨C, T, N, ty, ⟨hcl, -⟩, -⟩ := hcl
      have hk10 := (xN_of hcl).1
      have hft : narrow fty (va_rf (v.map (xa G))) = (va_rf (v.map (xa G))) ∧ fits fty (va_rf (v.map (xa G))) = true := fits_rf fty hty _
      exact xput (G := G) (h := h) (h2 := wR h a j v) hx hb hts hown hG.1 hf (fun q => hnm.trans (hfin q)) hR hS hk hft.1 hft.2 rfl rfl (fun b hb9 => xE_wR hb9) (xV_R hR hk hk10 hrf) hd (fun H1 locs1 hR1 hS1 => k _ ok r hr H1 locs1 lsA cells slots hR1 hS1 hl hc hs)
    · rw [if_neg hk9] at hr
      cases hr
theorem s_iaload {α : Type} {X : XX} {I : MI} {ρ : α → Option TV × XM} {pc npc i : Nat} {ls : List (Nat × TV)} {st : List TV} {h : XM} {bc bs : Nat} {F : Int32 → Option α} {j : Int32} {r9 : Option Nat} (hi : (mtab I)[i]? = some (pc, .iaload, 1, npc)) (k : ∀ v, SW X I ρ npc ls (tI v :: st) h bc bs (F v)) : SW X I ρ pc ls (tI j :: tA r9 :: st) h bc bs ((rI h r9 j).bind F) := by
  obtain ⟨G, p, l, e, s, m, args, below, meth, c⟩ := X
  obtain ⟨cc, nL, ret, own, nm, tab, mc, ms, nfr, nlo⟩ := I
  intro ok r hr H locs lsA cells slots hR hS hl hc hs
  obtain ⟨hx, hb, hml, hret, hown, hts, hlocks, hnm, htab, hG, hB⟩ := id ok
  obtain ⟨hd, hn⟩ := htab _ (List.mem_of_getElem? hi)
  have hn : npc = pc + 1 := hn
  subst hn
  unfold rI at hr
  cases r9 with
  | none => cases hr
  | some a =>
    simp only [Option.bind_some] at hr
    by_cases hk9 : (xs h a).1 = 10 ∧ ¬ (j < 0 ∨ (xs h a).2 ≤ j.toNatClampNeg)
    · rw [if_pos hk9] at hr
      obtain ⟨hk, hin⟩ := hk9
      have K := k _ ok r hr H locs lsA cells slots hR hS hl hc hs
      have hw := xW_get (G := G) (h := h) (a := a) (hR.lt hk (by decide))
      rw [xE_arr hk (by decide)] at hw
      unfold xAr at hw
      rw [hk] at hw
      exact va_iald (D := gD G) (tys := xtys G) hx hb hG.1 hR.1 a 0 (f := xi h a) hw rfl hin hd K
    · rw [if_neg hk9] at hr
      cases hr
theorem s_laload {α : Type} {X : XX} {I : MI} {ρ : α → Option TV × XM} {pc npc i : Nat} {ls : List (Nat × TV)} {st : List TV} {h : XM} {bc bs : Nat} {F : Int64 → Option α} {j : Int32} {r9 : Option Nat} (hi : (mtab I)[i]? = some (pc, .laload, 1, npc)) (k : ∀ v, SW X I ρ npc ls (tL v :: st) h bc bs (F v)) : SW X I ρ pc ls (tI j :: tA r9 :: st) h bc bs ((rL h r9 j).bind F) := by
  obtain ⟨G, p, l, e, s, m, args, below, meth, c⟩ := X
  obtain ⟨cc, nL, ret, own, nm, tab, mc, ms, nfr, nlo⟩ := I
  intro ok r hr H locs lsA cells slots hR hS hl hc hs
  obtain ⟨hx, hb, hml, hret, hown, hts, hlocks, hnm, htab, hG, hB⟩ := id ok
  obtain ⟨hd, hn⟩ := htab _ (List.mem_of_getElem? hi)
  have hn : npc = pc + 1 := hn
  subst hn
  unfold rL at hr
  cases r9 with
  | none => cases hr
  | some a =>
    simp only [Option.bind_some] at hr
    by_cases hk9 : (xs h a).1 = 11 ∧ ¬ (j < 0 ∨ (xs h a).2 ≤ j.toNatClampNeg)
    · rw [if_pos hk9] at hr
      obtain ⟨hk, hin⟩ := hk9
      have K := k _ ok r hr H locs lsA cells slots hR hS hl hc hs
      have hw := xW_get (G := G) (h := h) (a := a) (hR.lt hk (by decide))
      rw [xE_arr hk (by decide)] at hw
      unfold xAr at hw
      rw [hk] at hw
      exact va_lald (D := gD G) (tys := xtys G) hx hb hG.1 hR.1 a 1 (f := xl h a) hw rfl hin hd K
    · rw [if_neg hk9] at hr
      cases hr
theorem s_iastore {α : Type} {X : XX} {I : MI} {ρ : α → Option TV × XM} {pc npc i : Nat} {ls : List (Nat × TV)} {st : List TV} {h : XM} {bc bs : Nat} {F : XM → Option α} {j : Int32} {v : Int32} {r9 : Option Nat} (hi : (mtab I)[i]? = some (pc, .iastore, 1, npc)) (k : ∀ h2, SW X I ρ npc ls st h2 bc bs (F h2)) : SW X I ρ pc ls (tI v :: tI j :: tA r9 :: st) h bc bs ((sI h r9 j v).bind F) := by
  obtain ⟨G, p, l, e, s, m, args, below, meth, c⟩ := X
  obtain ⟨cc, nL, ret, own, nm, tab, mc, ms, nfr, nlo⟩ := I
  intro ok r hr H locs lsA cells slots hR hS hl hc hs
  obtain ⟨hx, hb, hml, hret, hown, hts, hlocks, hnm, htab, hG, hB⟩ := id ok
  obtain ⟨hd, hn⟩ := htab _ (List.mem_of_getElem? hi)
  have hn : npc = pc + 1 := hn
  subst hn
  unfold sI at hr
  cases r9 with
  | none => cases hr
  | some a =>
    simp only [Option.bind_some] at hr
    by_cases hk9 : (xs h a).1 = 10 ∧ ¬ (j < 0 ∨ (xs h a).2 ≤ j.toNatClampNeg)
    · rw [if_pos hk9] at hr
      obtain ⟨hk, hin⟩ := hk9
      have hat := hR.at hk (by decide)
      rw [xE_arr hk (by decide)] at hat
      unfold xAr at hat
      rw [hk] at hat
      refine W.iast hx hb hat ((hG.1.2 0 _ rfl).1 (xs h a).2 (fun j => .int (xi h a j))) (fun q => by cases q) (by show ¬ (j < 0 ∨ (arrV _ _ _).slots.size ≤ _); rw [arrV_size]; exact hin) rfl rfl hd fun H1 e1 e2 e3 => ?_
      refine k _ ok r hr H1 _ lsA cells slots (hR.set (h2 := wI h a j.toNatClampNeg v) rfl rfl (fun b hb9 => xE_wI hb9) ?_ e2 e3) (hS.put e2 e3 (Nat.le_add_right _ _)) hl hc hs
      have hk2 : (xs (wI h a j.toNatClampNeg v) a).1 = 10 := hk
      rw [xE_arr hk2 (by decide)]
      unfold xAr
      rw [hk2]
      show H1[gB G + a]? = some (vp_cell _ _)
      rw [e1]
      have e9 : xi (wI h a j.toNatClampNeg v) a = upd (xi h a) j.toNatClampNeg v := w2_i
      simp only [e9, if_true, if_false, show (11 : Nat) ≠ 10 by decide]
      have e8 : xs (wI h a j.toNatClampNeg v) a = xs h a := rfl
      rw [e8, vp_cell_i, vp_cell_i, arrV_store]
      congr 2
      funext q
      by_cases hq : q = j.toNatClampNeg
      · subst hq
        simp [updV, upd]
      · simp [updV, upd, hq]
    · rw [if_neg hk9] at hr
      cases hr
theorem s_lastore {α : Type} {X : XX} {I : MI} {ρ : α → Option TV × XM} {pc npc i : Nat} {ls : List (Nat × TV)} {st : List TV} {h : XM} {bc bs : Nat} {F : XM → Option α} {j : Int32} {v : Int64} {r9 : Option Nat} (hi : (mtab I)[i]? = some (pc, .lastore, 1, npc)) (k : ∀ h2, SW X I ρ npc ls st h2 bc bs (F h2)) : SW X I ρ pc ls (tL v :: tI j :: tA r9 :: st) h bc bs ((sL h r9 j v).bind F) := by
  obtain ⟨G, p, l, e, s, m, args, below, meth, c⟩ := X
  obtain ⟨cc, nL, ret, own, nm, tab, mc, ms, nfr, nlo⟩ := I
  intro ok r hr H locs lsA cells slots hR hS hl hc hs
  obtain ⟨hx, hb, hml, hret, hown, hts, hlocks, hnm, htab, hG, hB⟩ := id ok
  obtain ⟨hd, hn⟩ := htab _ (List.mem_of_getElem? hi)
  have hn : npc = pc + 1 := hn
  subst hn
  unfold sL at hr
  cases r9 with
  | none => cases hr
  | some a =>
    simp only [Option.bind_some] at hr
    by_cases hk9 : (xs h a).1 = 11 ∧ ¬ (j < 0 ∨ (xs h a).2 ≤ j.toNatClampNeg)
    · rw [if_pos hk9] at hr
      obtain ⟨hk, hin⟩ := hk9
      have hat := hR.at hk (by decide)
      rw [xE_arr hk (by decide)] at hat
      unfold xAr at hat
      rw [hk] at hat
      refine W.last hx hb hat ((hG.1.2 1 _ rfl).1 (xs h a).2 (fun j => .long (xl h a j))) (fun q => by cases q) (by show ¬ (j < 0 ∨ (arrV _ _ _).slots.size ≤ _); rw [arrV_size]; exact hin) rfl rfl hd fun H1 e1 e2 e3 => ?_
      refine k _ ok r hr H1 _ lsA cells slots (hR.set (h2 := wL h a j.toNatClampNeg v) rfl rfl (fun b hb9 => xE_wL hb9) ?_ e2 e3) (hS.put e2 e3 (Nat.le_add_right _ _)) hl hc hs
      have hk2 : (xs (wL h a j.toNatClampNeg v) a).1 = 11 := hk
      rw [xE_arr hk2 (by decide)]
      unfold xAr
      rw [hk2]
      show H1[gB G + a]? = some (vp_cell _ _)
      rw [e1]
      have e9 : xl (wL h a j.toNatClampNeg v) a = vp_updL (xl h a) j.toNatClampNeg v := w2_l
      simp only [e9, if_true, if_false, show (11 : Nat) ≠ 10 by decide]
      have e8 : xs (wL h a j.toNatClampNeg v) a = xs h a := rfl
      rw [e8, vp_cell_l, vp_cell_l, arrV_store]
      congr 2
      funext q
      by_cases hq : q = j.toNatClampNeg
      · subst hq
        simp [updV, vp_updL]
      · simp [updV, vp_updL, hq]
    · rw [if_neg hk9] at hr
      cases hr
theorem s_alen {α : Type} {X : XX} {I : MI} {ρ : α → Option TV × XM} {pc npc i : Nat} {ls : List (Nat × TV)} {st : List TV} {h : XM} {bc bs : Nat} {F : Int32 → Option α} {r9 : Option Nat} (hi : (mtab I)[i]? = some (pc, .arraylength, 1, npc)) (k : ∀ v, SW X I ρ npc ls (tI v :: st) h bc bs (F v)) : SW X I ρ pc ls (tA r9 :: st) h bc bs ((ln h r9).bind F) := by
  obtain ⟨G, p, l, e, s, m, args, below, meth, c⟩ := X
  obtain ⟨cc, nL, ret, own, nm, tab, mc, ms, nfr, nlo⟩ := I
  intro ok r hr H locs lsA cells slots hR hS hl hc hs
  obtain ⟨hx, hb, hml, hret, hown, hts, hlocks, hnm, htab, hG, hB⟩ := id ok
  obtain ⟨hd, hn⟩ := htab _ (List.mem_of_getElem? hi)
  have hn : npc = pc + 1 := hn
  subst hn
  unfold ln at hr
  cases r9 with
  | none => cases hr
  | some a =>
    simp only [Option.bind_some] at hr
    by_cases hk9 : 10 ≤ (xs h a).1 ∧ (xs h a).1 ≤ 15
    · rw [if_pos hk9] at hr
      have K := k _ ok r hr H locs lsA cells slots hR hS hl hc hs
      obtain ⟨kk, hk⟩ : ∃ kk, (xs h a).1 = kk := ⟨_, rfl⟩
      rw [hk] at hk9
      have hw := xW_get (G := G) (h := h) (a := a) (hR.lt hk (by omega))
      rw [xE_arr hk hk9.1] at hw
      rcases (show kk = 10 ∨ kk = 11 ∨ kk = 12 ∨ kk = 13 ∨ kk = 14 ∨ kk = 15 by omega) with e9 | e9 | e9 | e9 | e9 | e9 <;> subst e9
      · exact va_alen (D := gD G) (tys := xtys G) hx hb hG.1 hR.1 a 0 hw rfl rfl hd K
      · exact va_alen (D := gD G) (tys := xtys G) hx hb hG.1 hR.1 a 1 hw rfl rfl hd K
      · exact va_alen (D := gD G) (tys := xtys G) hx hb hG.1 hR.1 a 2 hw rfl rfl hd K
      · exact va_alen (D := gD G) (tys := xtys G) hx hb hG.1 hR.1 a 3 hw rfl rfl hd K
      · exact va_alen (D := gD G) (tys := xtys G) hx hb hG.1 hR.1 a 4 hw rfl rfl hd K
      · exact va_alen (D := gD G) (tys := xtys G) hx hb hG.1 hR.1 a 5 hw rfl rfl hd K
    · rw [if_neg hk9] at hr
      cases hr
theorem s_aaload {α : Type} {X : XX} {I : MI} {ρ : α → Option TV × XM} {pc npc i : Nat} {ls : List (Nat × TV)} {st : List TV} {h : XM} {bc bs : Nat} {F : Option Nat → Option α} {j : Int32} {r9 : Option Nat} {kk : Nat} (hi : (mtab I)[i]? = some (pc, .aaload, 1, npc)) (hkk : 12 ≤ kk ∧ kk ≤ 15) (k : ∀ v, SW X I ρ npc ls (tA v :: st) h bc bs (F v)) : SW X I ρ pc ls (tI j :: tA r9 :: st) h bc bs ((rR kk h r9 j).bind F) := by
  obtain ⟨G, p, l, e, s, m, args, below, meth, c⟩ := X
  obtain ⟨cc, nL, ret, own, nm, tab, mc, ms, nfr, nlo⟩ := I
  intro ok r hr H locs lsA cells slots hR hS hl hc hs
  obtain ⟨hx, hb, hml, hret, hown, hts, hlocks, hnm, htab, hG, hB⟩ := id ok
  obtain ⟨hd, hn⟩ := htab _ (List.mem_of_getElem? hi)
  have hn : npc = pc + 1 := hn
  subst hn
  unfold rR at hr
  cases r9 with
  | none => cases hr
  | some a =>
    simp only [Option.bind_some] at hr
    by_cases hk9 : (xs h a).1 = kk ∧ ¬ (j < 0 ∨ (xs h a).2 ≤ j.toNatClampNeg)
    · rw [if_pos hk9] at hr
      obtain ⟨hk, hin⟩ := hk9
      have K := k _ ok r hr H locs lsA cells slots hR hS hl hc hs
      have hat := hR.at hk (by omega)
      rw [xE_arr hk (by omega)] at hat
      have hA : xAr G h a = ((xs h a).2, .inr (.inr (.inr (.inr (fun j => (xr h a j).map (xa G)))))) := by
        unfold xAr
        rw [hk, if_neg (by omega), if_neg (by omega)]
      rw [hA] at hat
      have hlt : j.toNatClampNeg < (xs h a).2 := Nat.not_le.mp fun q => hin (Or.inr q)
      have hof : ∃ ty, ty.isReference = true ∧ s.isArrayOf (arrV (gC G kk) (xs h a).2 (fun j => va_rf ((xr h a j).map (xa G)))) ty := by
        rcases (show kk = 12 ∨ kk = 13 ∨ kk = 14 ∨ kk = 15 by omega) with e9 | e9 | e9 | e9 <;> subst e9
        · exact ⟨.object xR0, rfl, (hG.1.2 2 _ rfl).1 _ _⟩
        · exact ⟨.object xR5, rfl, (hG.1.2 3 _ rfl).1 _ _⟩
        · exact ⟨.object xR4, rfl, (hG.1.2 4 _ rfl).1 _ _⟩
        · exact ⟨.array .int, rfl, (hG.1.2 5 _ rfl).1 _ _⟩
      obtain ⟨ty, hty, hof⟩ := hof
      exact W.aald (v := va_rf ((xr h a j.toNatClampNeg).map (xa G))) (ty := ty) hx hb hat hof hty (fun q => by cases q) (by show ¬ (j < 0 ∨ (arrV _ _ _).slots.size ≤ _); rw [arrV_size]; exact hin) (by show (arrV _ _ _).slots[_]? = _; rw [arrV_read _ _ hlt]) rfl rfl hd K
    · rw [if_neg hk9] at hr
      cases hr
end
section
/-! rows over SW: statics, strings, new cells, calls, ends (written by wip/whole/gen/gen_rows3.py) -/
theorem xAOA.moved {u U : State} (hvm : u.vm.Alike U.vm) (h : (Cond.arrayOver (.array .int)).before #[] u = true) : (Cond.arrayOver (.array .int)).before #[] U = true := by
  have e := Cond.arrayOver_setVmC (args := #[]) hvm (.array .int)
  have e2 : (Cond.arrayOver (.array .int)).before #[] U = (Cond.arrayOver (.array .int)).before #[] (u.setVm U.vm) := rfl
  rw [e2, e]
  exact h
theorem GI.call {G : XG} {s U : State} {H : Heap} {locs : List Loc} (hG : GI G s s.heap) (hW : s.WarmedH U.vm) (hS : va_S (fun q => gB G ≤ q) s.heap H locs) (hU : U.heap = H) : GI G U U.heap := by
  have hv := hW.alike
  obtain ⟨h1, h2, h3, h4, h5, h6, h7, ⟨h8, h9, h10, h11, h12⟩, h13, h14, h15, h16, h17⟩ := hG
  rw [hU]
  exact ⟨va_K.moved hv h1, vk_S.moved hv (h2.kept hS.2.1), fun i hi => (h3 i hi).warm hW, va_Z.moved hv (h4.kept hS.2.1), va_Z.moved hv (h5.kept hS.2.1), va_Z.moved hv (h6.kept hS.2.1), va_T.moved hv (h7.kept hS.2.1),
    ⟨va_AO.moved hv h8, va_AO.moved hv h9, va_AO.moved hv h10, xAOA.moved hv h11, va_Nw.warmC hW h12⟩, va_Nw.warmM hW h13, va_Nw.warmM hW h14, va_Nw.warmM hW h15, va_Nw.warmF hW h16, va_Nw.warmF hW h17⟩
theorem GI.blind {G : XG} {U : State} {g : JFrame} {mk : MethodId} {a : Array Value} (hG : GI G U U.heap) : GI G (U.calling g mk a) (U.calling g mk a).heap := by
  have hv : U.vm.Alike (U.calling g mk a).vm := Vm.Alike.refl U.vm
  obtain ⟨h1, h2, h3, h4, h5, h6, h7, ⟨h8, h9, h10, h11, h12⟩, h13, h14, h15, h16, h17⟩ := hG
  have e : ∀ (c : Cond), c.onTables = true → va_Nw c U → va_Nw c (U.calling g mk a) := fun c hc h => va_tabs (u := U) (U := U.calling g mk a) hc rfl h
  exact ⟨va_K.moved hv h1, vk_S.moved hv h2, fun i hi => (h3 i hi).same rfl, va_Z.moved hv h4, va_Z.moved hv h5, va_Z.moved hv h6, va_T.moved hv h7,
    ⟨va_AO.moved hv h8, va_AO.moved hv h9, va_AO.moved hv h10, xAOA.moved hv h11, e _ rfl h12⟩, e _ rfl h13, e _ rfl h14, e _ rfl h15, e _ rfl h16, e _ rfl h17⟩
def xPc (G : XG) (h : XM) (av : List TV) : Array Value → State → Prop := va_Pc (av.map (xtv G)) (fun U => GI G U U.heap ∧ gB G ≤ U.heap.size ∧ Rep G h U.heap)
theorem xPc_blind {G : XG} {h : XM} {av : List TV} : FrameBlind (xPc G h av) := fun a U g mk q => ⟨q.1, q.2.1.blind, q.2.2⟩
/-- A METHOD'S CONTRACT: at arguments av and memory h, where o is some answer -/
def MC {α : Type} (J : MI) (y : MethodName) (av : List TV) (h : XM) (ρ : α → Option TV × XM) (o : Option α) : Prop := ∀ (G : XG) (l : Launch) (r : α), o = some r → Met l y (Cond.code y J.1 J.2.1 J.2.2.1 :: XT) (mroom J) (xPc G h av) (xQ G (ρ r)) (mmc J) (mms J) (fun q => gB G ≤ q)
def targs : Nat → List TV → List (Nat × TV)
  | _, [] => []
  | i, v :: vs => (i, v) :: targs (if tcat v = 2 then i + 2 else i + 1) vs
theorem targs_map {G : XG} : ∀ (vs : List TV) (i : Nat), lv_args i (vs.map (xtv G)) = lmap G (targs i vs)
  | [], _ => rfl
  | v :: vs, i => by
    show (i, xtv G v) :: lv_args (if (xtv G v).category = 2 then i + 2 else i + 1) (vs.map (xtv G)) = (i, xtv G v) :: lmap G (targs (if tcat v = 2 then i + 2 else i + 1) vs)
    rw [xtv_cat, targs_map vs]
def tlen : List TV → Nat
  | [] => 0
  | v :: vs => (if tcat v = 2 then 2 else 1) + tlen vs
theorem tlen_map {G : XG} : ∀ (vs : List TV), (lg_sl (vs.map (xtv G))).length = tlen vs
  | [] => rfl
  | v :: vs => by
    have e : lg_sl ((v :: vs).map (xtv G)) = (if (xtv G v).category = 2 then [Slot.val (xtv G v), Slot.second] else [Slot.val (xtv G v)]) ++ lg_sl (vs.map (xtv G)) := rfl
    rw [e, List.length_append, tlen_map vs, xtv_cat]
    show _ = (if tcat v = 2 then 2 else 1) + tlen vs
    by_cases q : tcat v = 2
    · rw [if_pos q, if_pos q]
      rfl
    · rw [if_neg q, if_neg q]
      rfl
theorem MC_of {α : Type} {J : MI} {y : MethodName} {av : List TV} {h : XM} {ρ : α → Option TV × XM} {o : Option α} (hy : plainFor y = true ∧ J.2.2.2.1 = y.cls ∧ J.2.2.2.2.1 = y.name ∧ tlen av ≤ J.2.1) (htab : ∀ q ∈ mtab J, decode J.1 q.1 = .ok (q.2.1, q.2.2.1) ∧ q.2.2.2 = q.1 + q.2.2.1)
    (hb : ∀ X : XX, SW X J ρ 0 (targs 0 av) [] h (mmc J) (mms J) o) : MC J y av h ρ o := by
  intro G l r hr
  obtain ⟨hpl, hcls, hnm, hlen⟩ := hy
  refine va_MetF (cc := J.1) (maxL := J.2.1) (ret := J.2.2.1) hpl rfl ?_
  intro p e s m args below meth c s₁ B hml hv
  obtain ⟨rfl, hG, hB, hR⟩ := hv
  have hts := atoms_spec (ws := Cond.code y J.1 J.2.1 J.2.2.1 :: XT) B.pre
  have hown : s.vm.findClass J.2.2.2.1 = some m.cls := by rw [hcls]; exact findClass_of_methodNamed B.named
  have hin : meth.name = J.2.2.2.2.1 := by rw [hnm]; exact (name_of_methodNamed B.named B.method).1
  have hl := lv_entry (av.map (xtv G)) (n := J.2.1) (by rw [tlen_map]; exact hlen)
  rw [targs_map] at hl
  rw [lg_entry_eq]
  have K := hb (G, p, l, e, s, m, (av.map (xtv G)).toArray, below, meth, c)
  obtain ⟨cc, nL, ret, own, nm, tab, mc, ms, nfr, nlo⟩ := J
  exact K ⟨B.exec, B.bytes, hml, B.returns, hown, fun w hw => hts w (List.mem_cons_of_mem _ hw), B.notSynchronized, hin, htab, hG, hB⟩ r hr s.heap [] _ 0 0 hR va_S.rf hl (Nat.le_of_eq (Nat.zero_add _)) (Nat.le_of_eq (Nat.zero_add _))
/-- a method as a call finds it: its class's number, how many parameters -/
def xCM (y : MethodName) (J : MI) (kk n : Nat) : Prop := (Cond.instanceMethod y ∈ XT ∧ Cond.selects y.cls y y ∈ XT) ∧ Cond.initialized y.cls ∈ XT ∧ Cond.code y J.1 J.2.1 J.2.2.1 ∈ XT ∧ (∃ (T : u_T) (N : Nat), xCl[kk]? = some (y.cls, T, N)) ∧ (y.cls ≠ "java/lang/invoke/MethodHandle" ∧ y.cls ≠ "java/lang/invoke/VarHandle" ∧ (parseMethodDescriptor y.desc).map (fun d => d.parameters.length) = some n)
def xCK (y : MethodName) (J : MI) (n : Nat) : Prop := y.cls = "java/lang/String" ∧ (Cond.instanceMethod y ∈ XT ∧ Cond.selects y.cls y y ∈ XT) ∧ Cond.initialized y.cls ∈ XT ∧ Cond.code y J.1 J.2.1 J.2.2.1 ∈ XT ∧ (y.cls ≠ "java/lang/invoke/MethodHandle" ∧ y.cls ≠ "java/lang/invoke/VarHandle" ∧ (parseMethodDescriptor y.desc).map (fun d => d.parameters.length) = some n)
def xCS (y : MethodName) (J : MI) (n : Nat) : Prop := Cond.static y ∈ XT ∧ Cond.initialized y.cls ∈ XT ∧ Cond.code y J.1 J.2.1 J.2.2.1 ∈ XT ∧ (y.cls ≠ "java/lang/invoke/MethodHandle" ∧ y.cls ≠ "java/lang/invoke/VarHandle" ∧ (parseMethodDescriptor y.desc).map (fun d => d.parameters.length) = some n)
def xCI (y : MethodName) (J : MI) (n : Nat) : Prop := (y.name = "<init>" ∧ J.2.2.1 = none) ∧ Cond.instanceMethod y ∈ XT ∧ Cond.initialized y.cls ∈ XT ∧ Cond.code y J.1 J.2.1 J.2.2.1 ∈ XT ∧ (y.cls ≠ "java/lang/invoke/MethodHandle" ∧ y.cls ≠ "java/lang/invoke/VarHandle" ∧ (parseMethodDescriptor y.desc).map (fun d => d.parameters.length) = some n)
/-- the callee's frames and words have room in the caller's -/
def xRm (J I : MI) : Prop := J.2.2.2.2.2.2.2.2.1 + 1 ≤ I.2.2.2.2.2.2.2.2.1 ∧ 8 + (J.2.1 + 11) + J.2.2.2.2.2.2.2.2.2 ≤ I.2.2.2.2.2.2.2.2.2
theorem xgood {y : MethodName} {J : MI} (hc : Cond.code y J.1 J.2.1 J.2.2.1 ∈ XT) : GoodIn XT (Cond.code y J.1 J.2.1 J.2.2.1 :: XT) := fun w hw => by
  rcases List.mem_cons.mp hw with e | e
  · rw [e]
    exact XTgood _ hc
  · exact XTgood _ e
theorem xcats {G : XG} (st : List TV) : ((st.map (xtv G)).map fun v => v.category).sum = (st.map tcat).sum := by
  rw [List.map_map]
  congr 1
  apply List.map_congr_left
  intro v _
  exact xtv_cat G v
/-- behind a call -/
theorem xcall {p : Program} {l : Launch} {e : Env} {R : Room} {s : State} {m : MethodId} {args : Array Value} {below : List Frame} {meth : Method} {c : Code} {H : Heap} {locs : List Loc} {cells slots mc ms pc : Nat} {ls : Array Slot} {st0 rest : List Value} {a : Array Value} {Q : State → Prop} {G : XG} {q : Option TV × XM}
    (hr : va_Run p l e R s m args below meth c H locs cells slots mc ms (F0 m pc ls st0) rest (xQ G q a) (fun z => gB G ≤ z)) (hS : va_S (fun z => gB G ≤ z) s.heap H locs)
    (kk : ∀ (H1 : Heap) (locs1 : List Loc), Rep G q.2 H1 → va_S (fun z => gB G ≤ z) s.heap H1 locs1 → W p l e R s m args below meth c H1 locs1 (cells + mc) (slots + ms) Q (F0 m (pc + 3) ls ((q.1.map (xtv G)).toList ++ rest))) : W p l e R s m args below meth c H locs cells slots Q (F0 m pc ls st0) := by
  intro T hT X
  obtain ⟨v, st₀, t, T', L, h0, X', hL, e1, e2, ⟨hv, hrep, hz, hk⟩, st⟩ := hr T hT X
  have hv : v = q.1.map (xtv G) := Outcome.returned.inj hv
  subst hv
  rw [h0] at hz hk
  obtain ⟨t2, a1, b1⟩ := kk T'.heap (locs ++ L) (by rw [e1]; exact hrep)
    ⟨Nat.le_trans hS.1 (by rw [e1]; exact hz), fun q h1 h2 => by rw [e1, hk q (Nat.lt_of_lt_of_le h1 hS.1) h2]; exact hS.2.1 q h1 h2, fun q hq => by
      rcases List.mem_append.mp hq with h | h
      · exact hS.2.2 q h
      · exact hL q h⟩ T' rfl X'
  exact ⟨t2, st t2 a1, b1⟩
theorem tcat_list (o : Option TV) {G : XG} : (o.map (xtv G)).toList = o.toList.map (xtv G) := by cases o <;> rfl
/-- reads of what is constant: a string's bytes, their number, TENS -/
def gS (n : Nat) : Option Nat := if n % 3 = 0 ∧ n / 3 < 13 then some (n + 1) else none
def gCo (n : Nat) : Option Int32 := if n % 3 = 0 ∧ n / 3 < 13 then some 0 else none
def lnK (n : Nat) : Option Int32 := if n % 3 = 1 ∧ n / 3 < 13 then some (Int32.ofNat (xLen.getD (n / 3) 0)) else if n = 2 then some 7 else none
def rB (n : Nat) (j : Int32) : Option Int32 := if (n % 3 = 1 ∧ n / 3 < 13) ∧ ¬ (j < 0 ∨ xLen.getD (n / 3) 0 ≤ j.toNatClampNeg) then some ((xByt.getD (n / 3) []).getD j.toNatClampNeg 0) else none
def rT (j : Int32) : Option Int32 := if ¬ (j < 0 ∨ 7 ≤ j.toNatClampNeg) then some (xTens.getD j.toNatClampNeg 0) else none
def vk {α : Type} (n : Nat) (o : Option α) : Option α := if n % 3 = 0 ∧ n / 3 < 13 then o else none
theorem xk_s {G : XG} {n : Nat} (h : n % 3 = 0) : xk G n = .ref (gK G (n / 3)) := if_pos h
theorem xk_v {G : XG} {n : Nat} (h : n % 3 = 1) : xk G n = .ref (gV G (n / 3)) := by
  unfold xk
  rw [if_neg (by omega), if_pos h]
theorem s_getTens {α : Type} {X : XX} {I : MI} {ρ : α → Option TV × XM} {pc npc i : Nat} {ls : List (Nat × TV)} {st : List TV} {h : XM} {bc bs : Nat} {o : Option α} {idx : Nat} (hi : (mtab I)[i]? = some (pc, .getstatic idx, 3, npc)) (hw : Cond.fieldLink I.2.2.2.1 idx "OpensAtNine" "TENS" "[I" ∈ XT) (k : SW X I ρ npc ls (tK 2 :: st) h bc bs o) : SW X I ρ pc ls (st) h bc bs o := by
  obtain ⟨G, p, l, e, s, m, args, below, meth, c⟩ := X
  obtain ⟨cc, nL, ret, own, nm, tab, mc, ms, nfr, nlo⟩ := I
  intro ok r hr H locs lsA cells slots hR hS hl hc hs
  obtain ⟨hx, hb, hml, hret, hown, hts, hlocks, hnm, htab, hG, hB⟩ := id ok
  obtain ⟨hd, hn⟩ := htab _ (List.mem_of_getElem? hi)
  have hn : npc = pc + 3 := hn
  subst hn
  exact va_gets hx hb hG.2.2.2.2.2.1 hS hown (hts _ hw) (fun _ h9 => h9) hd (k ok r hr H locs lsA cells slots hR hS hl hc hs)
theorem s_getTensN1 {α : Type} {X : XX} {I : MI} {ρ : α → Option TV × XM} {pc npc i : Nat} {ls : List (Nat × TV)} {st : List TV} {h : XM} {bc bs : Nat} {o : Option α}  (hi : (mtab I)[i]? = some (pc, .getstatic 92, 3, npc)) (hw : I.2.2.2.1 = xR1) (k : SW X I ρ npc ls (tK 2 :: st) h bc bs o) : SW X I ρ pc ls (st) h bc bs o := by
  obtain ⟨G, p, l, e, s, m, args, below, meth, c⟩ := X
  obtain ⟨cc, nL, ret, own, nm, tab, mc, ms, nfr, nlo⟩ := I
  intro ok r hr H locs lsA cells slots hR hS hl hc hs
  obtain ⟨hx, hb, hml, hret, hown, hts, hlocks, hnm, htab, hG, hB⟩ := id ok
  obtain ⟨hd, hn⟩ := htab _ (List.mem_of_getElem? hi)
  have hn : npc = pc + 3 := hn
  subst hn
  have hw : own = xR1 := hw
  subst hw
  exact va_getsN hx hb hG.2.2.2.2.2.1 hS hown (va_Nw.use rfl hG.2.2.2.2.2.2.2.2.2.2.2.1) (fun _ h9 => h9) hd (k ok r hr H locs lsA cells slots hR hS hl hc hs)
theorem s_getTensN6 {α : Type} {X : XX} {I : MI} {ρ : α → Option TV × XM} {pc npc i : Nat} {ls : List (Nat × TV)} {st : List TV} {h : XM} {bc bs : Nat} {o : Option α}  (hi : (mtab I)[i]? = some (pc, .getstatic 120, 3, npc)) (hw : I.2.2.2.1 = xR6) (k : SW X I ρ npc ls (tK 2 :: st) h bc bs o) : SW X I ρ pc ls (st) h bc bs o := by
  obtain ⟨G, p, l, e, s, m, args, below, meth, c⟩ := X
  obtain ⟨cc, nL, ret, own, nm, tab, mc, ms, nfr, nlo⟩ := I
  intro ok r hr H locs lsA cells slots hR hS hl hc hs
  obtain ⟨hx, hb, hml, hret, hown, hts, hlocks, hnm, htab, hG, hB⟩ := id ok
  obtain ⟨hd, hn⟩ := htab _ (List.mem_of_getElem? hi)
  have hn : npc = pc + 3 := hn
  subst hn
  have hw : own = xR6 := hw
  subst hw
  exact va_getsN hx hb hG.2.2.2.2.2.1 hS hown (va_Nw.use rfl hG.2.2.2.2.2.2.2.2.2.2.2.2) (fun _ h9 => h9) hd (k ok r hr H locs lsA cells slots hR hS hl hc hs)
theorem s_getCompact {α : Type} {X : XX} {I : MI} {ρ : α → Option TV × XM} {pc npc i : Nat} {ls : List (Nat × TV)} {st : List TV} {h : XM} {bc bs : Nat} {o : Option α} {idx : Nat} (hi : (mtab I)[i]? = some (pc, .getstatic idx, 3, npc)) (hw : Cond.fieldLink I.2.2.2.1 idx "java/lang/String" "COMPACT_STRINGS" "Z" ∈ XT) (k : SW X I ρ npc ls (tI 1 :: st) h bc bs o) : SW X I ρ pc ls (st) h bc bs o := by
  obtain ⟨G, p, l, e, s, m, args, below, meth, c⟩ := X
  obtain ⟨cc, nL, ret, own, nm, tab, mc, ms, nfr, nlo⟩ := I
  intro ok r hr H locs lsA cells slots hR hS hl hc hs
  obtain ⟨hx, hb, hml, hret, hown, hts, hlocks, hnm, htab, hG, hB⟩ := id ok
  obtain ⟨hd, hn⟩ := htab _ (List.mem_of_getElem? hi)
  have hn : npc = pc + 3 := hn
  subst hn
  exact va_gets hx hb hG.2.2.2.1 hS hown (hts _ hw) (fun _ h9 => h9) hd (k ok r hr H locs lsA cells slots hR hS hl hc hs)
theorem s_getFmt {α : Type} {X : XX} {I : MI} {ρ : α → Option TV × XM} {pc npc i : Nat} {ls : List (Nat × TV)} {st : List TV} {h : XM} {bc bs : Nat} {o : Option α} {idx : Nat} (hi : (mtab I)[i]? = some (pc, .getstatic idx, 3, npc)) (hw : Cond.fieldLink I.2.2.2.1 idx "jdk/internal/util/Preconditions" "SIOOBE_FORMATTER" "Ljava/util/function/BiFunction;" ∈ XT) (k : SW X I ρ npc ls (tK 5 :: st) h bc bs o) : SW X I ρ pc ls (st) h bc bs o := by
  obtain ⟨G, p, l, e, s, m, args, below, meth, c⟩ := X
  obtain ⟨cc, nL, ret, own, nm, tab, mc, ms, nfr, nlo⟩ := I
  intro ok r hr H locs lsA cells slots hR hS hl hc hs
  obtain ⟨hx, hb, hml, hret, hown, hts, hlocks, hnm, htab, hG, hB⟩ := id ok
  obtain ⟨hd, hn⟩ := htab _ (List.mem_of_getElem? hi)
  have hn : npc = pc + 3 := hn
  subst hn
  exact va_gets (v := va_rf (gF G)) hx hb hG.2.2.2.2.1 hS hown (hts _ hw) (fun _ h9 => h9) hd (k ok r hr H locs lsA cells slots hR hS hl hc hs)
theorem s_ldcS {α : Type} {X : XX} {I : MI} {ρ : α → Option TV × XM} {pc npc i : Nat} {ls : List (Nat × TV)} {st : List TV} {h : XM} {bc bs : Nat} {o : Option α} {idx j : Nat} (hi : (mtab I)[i]? = some (pc, .ldc idx, 2, npc)) (hj : j < 13) (hw : xSidx[j]? = some (I.2.2.2.1, idx)) (k : SW X I ρ npc ls (tK (3 * j) :: st) h bc bs o) : SW X I ρ pc ls (st) h bc bs o := by
  obtain ⟨G, p, l, e, s, m, args, below, meth, c⟩ := X
  obtain ⟨cc, nL, ret, own, nm, tab, mc, ms, nfr, nlo⟩ := I
  intro ok r hr H locs lsA cells slots hR hS hl hc hs
  obtain ⟨hx, hb, hml, hret, hown, hts, hlocks, hnm, htab, hG, hB⟩ := id ok
  obtain ⟨hd, hn⟩ := htab _ (List.mem_of_getElem? hi)
  have hn : npc = pc + 2 := hn
  subst hn
  have h3 := hG.2.2.1 j hj
  rw [List.getD_eq_getElem?_getD, hw] at h3
  have K := (k ok r hr H locs lsA cells slots hR hS hl hc hs)
  have e0 : xtv G (tK (3 * j)) = .ref (gK G j) := by
    show xk G (3 * j) = _
    rw [xk_s (by omega), Nat.mul_div_cancel_left j (by decide)]
  have K2 : W p l e (mroom (cc, nL, ret, own, nm, tab, mc, ms, nfr, nlo)) s m args below meth c H locs cells slots (MQ below (xQ G (ρ r)) args s mc ms (fun q => gB G ≤ q)) (F0 m (pc + 2) lsA (.ref (gK G j) :: st.map (xtv G))) := by
    rw [← e0]
    exact K
  exact va_ldcS hx hb hown h3 hd K2
theorem s_strV {α : Type} {X : XX} {I : MI} {ρ : α → Option TV × XM} {pc npc i : Nat} {ls : List (Nat × TV)} {st : List TV} {h : XM} {bc bs : Nat} {F : Nat → Option α} {idx n : Nat} (hi : (mtab I)[i]? = some (pc, .getfield idx, 3, npc)) (hw : Cond.fieldLink I.2.2.2.1 idx "java/lang/String" "value" "[B" ∈ XT) (k : ∀ v, SW X I ρ npc ls (tK v :: st) h bc bs (F v)) : SW X I ρ pc ls (tK n :: st) h bc bs ((gS n).bind F) := by
  obtain ⟨G, p, l, e, s, m, args, below, meth, c⟩ := X
  obtain ⟨cc, nL, ret, own, nm, tab, mc, ms, nfr, nlo⟩ := I
  intro ok r hr H locs lsA cells slots hR hS hl hc hs
  obtain ⟨hx, hb, hml, hret, hown, hts, hlocks, hnm, htab, hG, hB⟩ := id ok
  obtain ⟨hd, hn⟩ := htab _ (List.mem_of_getElem? hi)
  have hn : npc = pc + 3 := hn
  subst hn
  unfold gS at hr
  by_cases hz : n % 3 = 0 ∧ n / 3 < 13
  · rw [if_pos hz] at hr
    have K := k _ ok r hr H locs lsA cells slots hR hS hl hc hs
    have e1 : xtv G (tK n) = .ref (gK G (n / 3)) := xk_s hz.1
    have e2 : xtv G (tK (n + 1)) = .ref (gV G (n / 3)) := by
      show xk G (n + 1) = _
      rw [xk_v (by omega), show (n + 1) / 3 = n / 3 by omega]
    rw [List.map_cons, e2] at K
    rw [List.map_cons, e1]
    exact vk_getf hx hb (hG.2.1.1 _ hz.2).2.2.1 hS hown (hts _ hw) (fun _ h9 => h9) hd K
  · rw [if_neg hz] at hr
    cases hr
theorem s_strC {α : Type} {X : XX} {I : MI} {ρ : α → Option TV × XM} {pc npc i : Nat} {ls : List (Nat × TV)} {st : List TV} {h : XM} {bc bs : Nat} {F : Int32 → Option α} {idx n : Nat} (hi : (mtab I)[i]? = some (pc, .getfield idx, 3, npc)) (hw : Cond.fieldLink I.2.2.2.1 idx "java/lang/String" "coder" "B" ∈ XT) (k : ∀ v, SW X I ρ npc ls (tI v :: st) h bc bs (F v)) : SW X I ρ pc ls (tK n :: st) h bc bs ((gCo n).bind F) := by
  obtain ⟨G, p, l, e, s, m, args, below, meth, c⟩ := X
  obtain ⟨cc, nL, ret, own, nm, tab, mc, ms, nfr, nlo⟩ := I
  intro ok r hr H locs lsA cells slots hR hS hl hc hs
  obtain ⟨hx, hb, hml, hret, hown, hts, hlocks, hnm, htab, hG, hB⟩ := id ok
  obtain ⟨hd, hn⟩ := htab _ (List.mem_of_getElem? hi)
  have hn : npc = pc + 3 := hn
  subst hn
  unfold gCo at hr
  by_cases hz : n % 3 = 0 ∧ n / 3 < 13
  · rw [if_pos hz] at hr
    have K := k _ ok r hr H locs lsA cells slots hR hS hl hc hs
    have e1 : xtv G (tK n) = .ref (gK G (n / 3)) := xk_s hz.1
    rw [List.map_cons, e1]
    exact vk_getf hx hb (hG.2.1.1 _ hz.2).2.1 hS hown (hts _ hw) (fun _ h9 => h9) hd K
  · rw [if_neg hz] at hr
    cases hr
theorem s_alenK {α : Type} {X : XX} {I : MI} {ρ : α → Option TV × XM} {pc npc i : Nat} {ls : List (Nat × TV)} {st : List TV} {h : XM} {bc bs : Nat} {F : Int32 → Option α} {n : Nat} (hi : (mtab I)[i]? = some (pc, .arraylength, 1, npc))  (k : ∀ v, SW X I ρ npc ls (tI v :: st) h bc bs (F v)) : SW X I ρ pc ls (tK n :: st) h bc bs ((lnK n).bind F) := by
  obtain ⟨G, p, l, e, s, m, args, below, meth, c⟩ := X
  obtain ⟨cc, nL, ret, own, nm, tab, mc, ms, nfr, nlo⟩ := I
  intro ok r hr H locs lsA cells slots hR hS hl hc hs
  obtain ⟨hx, hb, hml, hret, hown, hts, hlocks, hnm, htab, hG, hB⟩ := id ok
  obtain ⟨hd, hn⟩ := htab _ (List.mem_of_getElem? hi)
  have hn : npc = pc + 1 := hn
  subst hn
  unfold lnK at hr
  by_cases hz : n % 3 = 1 ∧ n / 3 < 13
  · rw [if_pos hz] at hr
    have K := k _ ok r hr H locs lsA cells slots hR hS hl hc hs
    have e1 : xtv G (tK n) = .ref (gV G (n / 3)) := xk_v hz.1
    rw [List.map_cons, e1]
    exact va_tlen hx hb (hG.2.1.1 _ hz.2).2.2.2 hS rfl hd K
  · rw [if_neg hz] at hr
    by_cases hz2 : n = 2
    · subst hz2
      rw [if_pos rfl] at hr
      have K := k _ ok r hr H locs lsA cells slots hR hS hl hc hs
      exact va_tlen hx hb hG.2.2.2.2.2.2.1 hS rfl hd K
    · rw [if_neg hz2] at hr
      cases hr
theorem s_baloadK {α : Type} {X : XX} {I : MI} {ρ : α → Option TV × XM} {pc npc i : Nat} {ls : List (Nat × TV)} {st : List TV} {h : XM} {bc bs : Nat} {F : Int32 → Option α} {n : Nat} {j : Int32} (hi : (mtab I)[i]? = some (pc, .baload, 1, npc))  (k : ∀ v, SW X I ρ npc ls (tI v :: st) h bc bs (F v)) : SW X I ρ pc ls (tI j :: tK n :: st) h bc bs ((rB n j).bind F) := by
  obtain ⟨G, p, l, e, s, m, args, below, meth, c⟩ := X
  obtain ⟨cc, nL, ret, own, nm, tab, mc, ms, nfr, nlo⟩ := I
  intro ok r hr H locs lsA cells slots hR hS hl hc hs
  obtain ⟨hx, hb, hml, hret, hown, hts, hlocks, hnm, htab, hG, hB⟩ := id ok
  obtain ⟨hd, hn⟩ := htab _ (List.mem_of_getElem? hi)
  have hn : npc = pc + 1 := hn
  subst hn
  unfold rB at hr
  by_cases hz : (n % 3 = 1 ∧ n / 3 < 13) ∧ ¬ (j < 0 ∨ xLen.getD (n / 3) 0 ≤ j.toNatClampNeg)
  · rw [if_pos hz] at hr
    have K := k _ ok r hr H locs lsA cells slots hR hS hl hc hs
    have e1 : xtv G (tK n) = .ref (gV G (n / 3)) := xk_v hz.1.1
    rw [List.map_cons, List.map_cons, e1]
    exact va_tb hx hb (hG.2.1.1 _ hz.1.2).2.2.2 hS hz.2 rfl hd K
  · rw [if_neg hz] at hr
    cases hr
theorem s_ialoadK {α : Type} {X : XX} {I : MI} {ρ : α → Option TV × XM} {pc npc i : Nat} {ls : List (Nat × TV)} {st : List TV} {h : XM} {bc bs : Nat} {F : Int32 → Option α} {j : Int32} (hi : (mtab I)[i]? = some (pc, .iaload, 1, npc))  (k : ∀ v, SW X I ρ npc ls (tI v :: st) h bc bs (F v)) : SW X I ρ pc ls (tI j :: tK 2 :: st) h bc bs ((rT j).bind F) := by
  obtain ⟨G, p, l, e, s, m, args, below, meth, c⟩ := X
  obtain ⟨cc, nL, ret, own, nm, tab, mc, ms, nfr, nlo⟩ := I
  intro ok r hr H locs lsA cells slots hR hS hl hc hs
  obtain ⟨hx, hb, hml, hret, hown, hts, hlocks, hnm, htab, hG, hB⟩ := id ok
  obtain ⟨hd, hn⟩ := htab _ (List.mem_of_getElem? hi)
  have hn : npc = pc + 1 := hn
  subst hn
  unfold rT at hr
  by_cases hz : ¬ (j < 0 ∨ 7 ≤ j.toNatClampNeg)
  · rw [if_pos hz] at hr
    have K := k _ ok r hr H locs lsA cells slots hR hS hl hc hs
    exact va_ti hx hb hG.2.2.2.2.2.2.1 hS hz rfl hd K
  · rw [if_neg hz] at hr
    cases hr
theorem s_callVi {α : Type} {X : XX} {I : MI} {ρ : α → Option TV × XM} {pc npc i : Nat} {ls : List (Nat × TV)} {st : List TV} {h : XM} {bc bs : Nat} {F : Int32 × XM → Option α} {oc : Option (Int32 × XM)} {J : MI} {idx kk n : Nat} {y : MethodName} (As : List TV) {r9 : Option Nat} (hi : (mtab I)[i]? = some (pc, .invokevirtual idx, 3, npc)) (hM : MC J y (tA r9 :: As) h ρi oc) (hw : xCM y J kk n) (hlk : Cond.methodLink I.2.2.2.1 idx y ∈ XT) (hnA : As.length = n) (hst : (st.map tcat).sum ≤ 8) (hroom : xRm J I) (k : ∀ q, SW X I ρ npc ls (tI q.1 :: st) (q.2) bc bs (F q)) : SW X I ρ pc ls (As.reverse ++ tA r9 :: st) h (mmc J + bc) (mms J + bs) ((vc h kk r9 oc).bind F) := by
  obtain ⟨G, p, l, e, s, m, args, below, meth, c⟩ := X
  obtain ⟨cc, nL, ret, own, nm, tab, mc, ms, nfr, nlo⟩ := I
  intro ok r hr H locs lsA cells slots hR hS hl hc hs
  obtain ⟨hx, hb, hml, hret, hown, hts, hlocks, hnm, htab, hG, hB⟩ := id ok
  obtain ⟨hd, hn⟩ := htab _ (List.mem_of_getElem? hi)
  have hn : npc = pc + 3 := hn
  subst hn
  unfold vc at hr
  cases r9 with
  | none => cases hr
  | some a =>
  simp only [Option.bind_some] at hr
  by_cases hk : (xs h a).1 = kk
  · rw [if_pos hk] at hr
    cases hoc : oc with
    | none =>
      rw [hoc] at hr
      cases hr
    | some q =>
    rw [hoc] at hr
    obtain ⟨⟨hw1, hw2⟩, hw3, hw4, ⟨Tc, Nc, hcl⟩, hw5⟩ := hw
    have hk10 := (xN_of hcl).1
    have hwx := xW_get (G := G) (h := h) (a := a) (hR.lt hk (by omega))
    rw [xE_obj hk hk10] at hwx
    have hMet := hM G l q hoc
    refine xcall (rest := st.map (xtv G)) (va_runV (nL := nL) (own := own) (C := y.cls) (n := n) (b := gB G + a) (As := As.map (xtv G)) ⟨hx, hb, hml, hown, hts⟩ hMet (cwV n hts (C := y.cls) (fun w hw9 => by
      unfold wsV at hw9
      rcases List.mem_append.mp hw9 with h9 | h9
      · simp only [List.mem_cons, List.not_mem_nil, or_false] at h9
        rcases h9 with h9 | h9 | h9 | h9 <;> subst h9
        · exact XTgood _ hlk
        · exact XTgood _ hw1
        · exact XTgood _ hw2
        · exact XTgood _ hw3
      · exact xgood hw4 w h9) rfl rfl rfl ⟨rfl, hw5⟩ hroom) ⟨xPc_blind, va_recv hG.1 hR.1 hcl hwx, fun U hU hW => ⟨rfl, hG.call hW hS hU, by rw [hU]; exact Nat.le_trans hB hS.1, by rw [hU]; exact hR⟩⟩ rfl (by rw [List.length_map]; exact hnA) hl.1 (by rw [List.map_append, List.map_reverse]; rfl) (lv_room (by rw [xcats]; exact hst)) hd ⟨by show cells + mmc J ≤ mc; have hc : cells + (mmc J + bc) ≤ mc := hc; omega, by show slots + mms J ≤ ms; have hs : slots + (mms J + bs) ≤ ms := hs; omega⟩) hS (fun H1 locs1 hR1 hS1 => by
      rw [tcat_list, ← List.map_append]
      exact k q ok r hr H1 locs1 lsA _ _ hR1 hS1 hl (by show cells + mmc J + bc ≤ mc; have hc : cells + (mmc J + bc) ≤ mc := hc; omega) (by show slots + mms J + bs ≤ ms; have hs : slots + (mms J + bs) ≤ ms := hs; omega))
  · rw [if_neg hk] at hr
    cases hr
theorem s_callVv {α : Type} {X : XX} {I : MI} {ρ : α → Option TV × XM} {pc npc i : Nat} {ls : List (Nat × TV)} {st : List TV} {h : XM} {bc bs : Nat} {F : XM → Option α} {oc : Option (XM)} {J : MI} {idx kk n : Nat} {y : MethodName} (As : List TV) {r9 : Option Nat} (hi : (mtab I)[i]? = some (pc, .invokevirtual idx, 3, npc)) (hM : MC J y (tA r9 :: As) h ρv oc) (hw : xCM y J kk n) (hlk : Cond.methodLink I.2.2.2.1 idx y ∈ XT) (hnA : As.length = n) (hst : (st.map tcat).sum ≤ 8) (hroom : xRm J I) (k : ∀ q, SW X I ρ npc ls (st) (q) bc bs (F q)) : SW X I ρ pc ls (As.reverse ++ tA r9 :: st) h (mmc J + bc) (mms J + bs) ((vc h kk r9 oc).bind F) := by
  obtain ⟨G, p, l, e, s, m, args, below, meth, c⟩ := X
  obtain ⟨cc, nL, ret, own, nm, tab, mc, ms, nfr, nlo⟩ := I
  intro ok r hr H locs lsA cells slots hR hS hl hc hs
  obtain ⟨hx, hb, hml, hret, hown, hts, hlocks, hnm, htab, hG, hB⟩ := id ok
  obtain ⟨hd, hn⟩ := htab _ (List.mem_of_getElem? hi)
  have hn : npc = pc + 3 := hn
  subst hn
  unfold vc at hr
  cases r9 with
  | none => cases hr
  | some a =>
  simp only [Option.bind_some] at hr
  by_cases hk : (xs h a).1 = kk
  · rw [if_pos hk] at hr
    cases hoc : oc with
    | none =>
      rw [hoc] at hr
      cases hr
    | some q =>
    rw [hoc] at hr
    obtain ⟨⟨hw1, hw2⟩, hw3, hw4, ⟨Tc, Nc, hcl⟩, hw5⟩ := hw
    have hk10 := (xN_of hcl).1
    have hwx := xW_get (G := G) (h := h) (a := a) (hR.lt hk (by omega))
    rw [xE_obj hk hk10] at hwx
    have hMet := hM G l q hoc
    refine xcall (rest := st.map (xtv G)) (va_runV (nL := nL) (own := own) (C := y.cls) (n := n) (b := gB G + a) (As := As.map (xtv G)) ⟨hx, hb, hml, hown, hts⟩ hMet (cwV n hts (C := y.cls) (fun w hw9 => by
      unfold wsV at hw9
      rcases List.mem_append.mp hw9 with h9 | h9
      · simp only [List.mem_cons, List.not_mem_nil, or_false] at h9
        rcases h9 with h9 | h9 | h9 | h9 <;> subst h9
        · exact XTgood _ hlk
        · exact XTgood _ hw1
        · exact XTgood _ hw2
        · exact XTgood _ hw3
      · exact xgood hw4 w h9) rfl rfl rfl ⟨rfl, hw5⟩ hroom) ⟨xPc_blind, va_recv hG.1 hR.1 hcl hwx, fun U hU hW => ⟨rfl, hG.call hW hS hU, by rw [hU]; exact Nat.le_trans hB hS.1, by rw [hU]; exact hR⟩⟩ rfl (by rw [List.length_map]; exact hnA) hl.1 (by rw [List.map_append, List.map_reverse]; rfl) (lv_room (by rw [xcats]; exact hst)) hd ⟨by show cells + mmc J ≤ mc; have hc : cells + (mmc J + bc) ≤ mc := hc; omega, by show slots + mms J ≤ ms; have hs : slots + (mms J + bs) ≤ ms := hs; omega⟩) hS (fun H1 locs1 hR1 hS1 => by
      rw [tcat_list, ← List.map_append]
      exact k q ok r hr H1 locs1 lsA _ _ hR1 hS1 hl (by show cells + mmc J + bc ≤ mc; have hc : cells + (mmc J + bc) ≤ mc := hc; omega) (by show slots + mms J + bs ≤ ms; have hs : slots + (mms J + bs) ≤ ms := hs; omega))
  · rw [if_neg hk] at hr
    cases hr
theorem s_callVa {α : Type} {X : XX} {I : MI} {ρ : α → Option TV × XM} {pc npc i : Nat} {ls : List (Nat × TV)} {st : List TV} {h : XM} {bc bs : Nat} {F : Option Nat × XM → Option α} {oc : Option (Option Nat × XM)} {J : MI} {idx kk n : Nat} {y : MethodName} (As : List TV) {r9 : Option Nat} (hi : (mtab I)[i]? = some (pc, .invokevirtual idx, 3, npc)) (hM : MC J y (tA r9 :: As) h ρa oc) (hw : xCM y J kk n) (hlk : Cond.methodLink I.2.2.2.1 idx y ∈ XT) (hnA : As.length = n) (hst : (st.map tcat).sum ≤ 8) (hroom : xRm J I) (k : ∀ q, SW X I ρ npc ls (tA q.1 :: st) (q.2) bc bs (F q)) : SW X I ρ pc ls (As.reverse ++ tA r9 :: st) h (mmc J + bc) (mms J + bs) ((vc h kk r9 oc).bind F) := by
  obtain ⟨G, p, l, e, s, m, args, below, meth, c⟩ := X
  obtain ⟨cc, nL, ret, own, nm, tab, mc, ms, nfr, nlo⟩ := I
  intro ok r hr H locs lsA cells slots hR hS hl hc hs
  obtain ⟨hx, hb, hml, hret, hown, hts, hlocks, hnm, htab, hG, hB⟩ := id ok
  obtain ⟨hd, hn⟩ := htab _ (List.mem_of_getElem? hi)
  have hn : npc = pc + 3 := hn
  subst hn
  unfold vc at hr
  cases r9 with
  | none => cases hr
  | some a =>
  simp only [Option.bind_some] at hr
  by_cases hk : (xs h a).1 = kk
  · rw [if_pos hk] at hr
    cases hoc : oc with
    | none =>
      rw [hoc] at hr
      cases hr
    | some q =>
    rw [hoc] at hr
    obtain ⟨⟨hw1, hw2⟩, hw3, hw4, ⟨Tc, Nc, hcl⟩, hw5⟩ := hw
    have hk10 := (xN_of hcl).1
    have hwx := xW_get (G := G) (h := h) (a := a) (hR.lt hk (by omega))
    rw [xE_obj hk hk10] at hwx
    have hMet := hM G l q hoc
    refine xcall (rest := st.map (xtv G)) (va_runV (nL := nL) (own := own) (C := y.cls) (n := n) (b := gB G + a) (As := As.map (xtv G)) ⟨hx, hb, hml, hown, hts⟩ hMet (cwV n hts (C := y.cls) (fun w hw9 => by
      unfold wsV at hw9
      rcases List.mem_append.mp hw9 with h9 | h9
      · simp only [List.mem_cons, List.not_mem_nil, or_false] at h9
        rcases h9 with h9 | h9 | h9 | h9 <;> subst h9
        · exact XTgood _ hlk
        · exact XTgood _ hw1
        · exact XTgood _ hw2
        · exact XTgood _ hw3
      · exact xgood hw4 w h9) rfl rfl rfl ⟨rfl, hw5⟩ hroom) ⟨xPc_blind, va_recv hG.1 hR.1 hcl hwx, fun U hU hW => ⟨rfl, hG.call hW hS hU, by rw [hU]; exact Nat.le_trans hB hS.1, by rw [hU]; exact hR⟩⟩ rfl (by rw [List.length_map]; exact hnA) hl.1 (by rw [List.map_append, List.map_reverse]; rfl) (lv_room (by rw [xcats]; exact hst)) hd ⟨by show cells + mmc J ≤ mc; have hc : cells + (mmc J + bc) ≤ mc := hc; omega, by show slots + mms J ≤ ms; have hs : slots + (mms J + bs) ≤ ms := hs; omega⟩) hS (fun H1 locs1 hR1 hS1 => by
      rw [tcat_list, ← List.map_append]
      exact k q ok r hr H1 locs1 lsA _ _ hR1 hS1 hl (by show cells + mmc J + bc ≤ mc; have hc : cells + (mmc J + bc) ≤ mc := hc; omega) (by show slots + mms J + bs ≤ ms; have hs : slots + (mms J + bs) ≤ ms := hs; omega))
  · rw [if_neg hk] at hr
    cases hr
theorem s_callVl {α : Type} {X : XX} {I : MI} {ρ : α → Option TV × XM} {pc npc i : Nat} {ls : List (Nat × TV)} {st : List TV} {h : XM} {bc bs : Nat} {F : Int64 × XM → Option α} {oc : Option (Int64 × XM)} {J : MI} {idx kk n : Nat} {y : MethodName} (As : List TV) {r9 : Option Nat} (hi : (mtab I)[i]? = some (pc, .invokevirtual idx, 3, npc)) (hM : MC J y (tA r9 :: As) h ρl oc) (hw : xCM y J kk n) (hlk : Cond.methodLink I.2.2.2.1 idx y ∈ XT) (hnA : As.length = n) (hst : (st.map tcat).sum ≤ 8) (hroom : xRm J I) (k : ∀ q, SW X I ρ npc ls (tL q.1 :: st) (q.2) bc bs (F q)) : SW X I ρ pc ls (As.reverse ++ tA r9 :: st) h (mmc J + bc) (mms J + bs) ((vc h kk r9 oc).bind F) := by
  obtain ⟨G, p, l, e, s, m, args, below, meth, c⟩ := X
  obtain ⟨cc, nL, ret, own, nm, tab, mc, ms, nfr, nlo⟩ := I
  intro ok r hr H locs lsA cells slots hR hS hl hc hs
  obtain ⟨hx, hb, hml, hret, hown, hts, hlocks, hnm, htab, hG, hB⟩ := id ok
  obtain ⟨hd, hn⟩ := htab _ (List.mem_of_getElem? hi)
  have hn : npc = pc + 3 := hn
  subst hn
  unfold vc at hr
  cases r9 with
  | none => cases hr
  | some a =>
  simp only [Option.bind_some] at hr
  by_cases hk : (xs h a).1 = kk
  · rw [if_pos hk] at hr
    cases hoc : oc with
    | none =>
      rw [hoc] at hr
      cases hr
    | some q =>
    rw [hoc] at hr
    obtain ⟨⟨hw1, hw2⟩, hw3, hw4, ⟨Tc, Nc, hcl⟩, hw5⟩ := hw
    have hk10 := (xN_of hcl).1
    have hwx := xW_get (G := G) (h := h) (a := a) (hR.lt hk (by omega))
    rw [xE_obj hk hk10] at hwx
    have hMet := hM G l q hoc
    refine xcall (rest := st.map (xtv G)) (va_runV (nL := nL) (own := own) (C := y.cls) (n := n) (b := gB G + a) (As := As.map (xtv G)) ⟨hx, hb, hml, hown, hts⟩ hMet (cwV n hts (C := y.cls) (fun w hw9 => by
      unfold wsV at hw9
      rcases List.mem_append.mp hw9 with h9 | h9
      · simp only [List.mem_cons, List.not_mem_nil, or_false] at h9
        rcases h9 with h9 | h9 | h9 | h9 <;> subst h9
        · exact XTgood _ hlk
        · exact XTgood _ hw1
        · exact XTgood _ hw2
        · exact XTgood _ hw3
      · exact xgood hw4 w h9) rfl rfl rfl ⟨rfl, hw5⟩ hroom) ⟨xPc_blind, va_recv hG.1 hR.1 hcl hwx, fun U hU hW => ⟨rfl, hG.call hW hS hU, by rw [hU]; exact Nat.le_trans hB hS.1, by rw [hU]; exact hR⟩⟩ rfl (by rw [List.length_map]; exact hnA) hl.1 (by rw [List.map_append, List.map_reverse]; rfl) (lv_room (by rw [xcats]; exact hst)) hd ⟨by show cells + mmc J ≤ mc; have hc : cells + (mmc J + bc) ≤ mc := hc; omega, by show slots + mms J ≤ ms; have hs : slots + (mms J + bs) ≤ ms := hs; omega⟩) hS (fun H1 locs1 hR1 hS1 => by
      rw [tcat_list, ← List.map_append]
      exact k q ok r hr H1 locs1 lsA _ _ hR1 hS1 hl (by show cells + mmc J + bc ≤ mc; have hc : cells + (mmc J + bc) ≤ mc := hc; omega) (by show slots + mms J + bs ≤ ms; have hs : slots + (mms J + bs) ≤ ms := hs; omega))
  · rw [if_neg hk] at hr
    cases hr
theorem s_callVk {α : Type} {X : XX} {I : MI} {ρ : α → Option TV × XM} {pc npc i : Nat} {ls : List (Nat × TV)} {st : List TV} {h : XM} {bc bs : Nat} {F : Nat × XM → Option α} {oc : Option (Nat × XM)} {J : MI} {idx kk n : Nat} {y : MethodName} (As : List TV) {r9 : Option Nat} (hi : (mtab I)[i]? = some (pc, .invokevirtual idx, 3, npc)) (hM : MC J y (tA r9 :: As) h ρk oc) (hw : xCM y J kk n) (hlk : Cond.methodLink I.2.2.2.1 idx y ∈ XT) (hnA : As.length = n) (hst : (st.map tcat).sum ≤ 8) (hroom : xRm J I) (k : ∀ q, SW X I ρ npc ls (tK q.1 :: st) (q.2) bc bs (F q)) : SW X I ρ pc ls (As.reverse ++ tA r9 :: st) h (mmc J + bc) (mms J + bs) ((vc h kk r9 oc).bind F) := by
  obtain ⟨G, p, l, e, s, m, args, below, meth, c⟩ := X
  obtain ⟨cc, nL, ret, own, nm, tab, mc, ms, nfr, nlo⟩ := I
  intro ok r hr H locs lsA cells slots hR hS hl hc hs
  obtain ⟨hx, hb, hml, hret, hown, hts, hlocks, hnm, htab, hG, hB⟩ := id ok
  obtain ⟨hd, hn⟩ := htab _ (List.mem_of_getElem? hi)
  have hn : npc = pc + 3 := hn
  subst hn
  unfold vc at hr
  cases r9 with
  | none => cases hr
  | some a =>
  simp only [Option.bind_some] at hr
  by_cases hk : (xs h a).1 = kk
  · rw [if_pos hk] at hr
    cases hoc : oc with
    | none =>
      rw [hoc] at hr
      cases hr
    | some q =>
    rw [hoc] at hr
    obtain ⟨⟨hw1, hw2⟩, hw3, hw4, ⟨Tc, Nc, hcl⟩, hw5⟩ := hw
    have hk10 := (xN_of hcl).1
    have hwx := xW_get (G := G) (h := h) (a := a) (hR.lt hk (by omega))
    rw [xE_obj hk hk10] at hwx
    have hMet := hM G l q hoc
    refine xcall (rest := st.map (xtv G)) (va_runV (nL := nL) (own := own) (C := y.cls) (n := n) (b := gB G + a) (As := As.map (xtv G)) ⟨hx, hb, hml, hown, hts⟩ hMet (cwV n hts (C := y.cls) (fun w hw9 => by
      unfold wsV at hw9
      rcases List.mem_append.mp hw9 with h9 | h9
      · simp only [List.mem_cons, List.not_mem_nil, or_false] at h9
        rcases h9 with h9 | h9 | h9 | h9 <;> subst h9
        · exact XTgood _ hlk
        · exact XTgood _ hw1
        · exact XTgood _ hw2
        · exact XTgood _ hw3
      · exact xgood hw4 w h9) rfl rfl rfl ⟨rfl, hw5⟩ hroom) ⟨xPc_blind, va_recv hG.1 hR.1 hcl hwx, fun U hU hW => ⟨rfl, hG.call hW hS hU, by rw [hU]; exact Nat.le_trans hB hS.1, by rw [hU]; exact hR⟩⟩ rfl (by rw [List.length_map]; exact hnA) hl.1 (by rw [List.map_append, List.map_reverse]; rfl) (lv_room (by rw [xcats]; exact hst)) hd ⟨by show cells + mmc J ≤ mc; have hc : cells + (mmc J + bc) ≤ mc := hc; omega, by show slots + mms J ≤ ms; have hs : slots + (mms J + bs) ≤ ms := hs; omega⟩) hS (fun H1 locs1 hR1 hS1 => by
      rw [tcat_list, ← List.map_append]
      exact k q ok r hr H1 locs1 lsA _ _ hR1 hS1 hl (by show cells + mmc J + bc ≤ mc; have hc : cells + (mmc J + bc) ≤ mc := hc; omega) (by show slots + mms J + bs ≤ ms; have hs : slots + (mms J + bs) ≤ ms := hs; omega))
  · rw [if_neg hk] at hr
    cases hr
theorem s_callKi {α : Type} {X : XX} {I : MI} {ρ : α → Option TV × XM} {pc npc i : Nat} {ls : List (Nat × TV)} {st : List TV} {h : XM} {bc bs : Nat} {F : Int32 × XM → Option α} {oc : Option (Int32 × XM)} {J : MI} {idx n : Nat} {y : MethodName} (As : List TV) {n9 : Nat} (hi : (mtab I)[i]? = some (pc, .invokevirtual idx, 3, npc)) (hM : MC J y (tK n9 :: As) h ρi oc) (hw : xCK y J n) (hlk : Cond.methodLink I.2.2.2.1 idx y ∈ XT) (hnA : As.length = n) (hst : (st.map tcat).sum ≤ 8) (hroom : xRm J I) (k : ∀ q, SW X I ρ npc ls (tI q.1 :: st) (q.2) bc bs (F q)) : SW X I ρ pc ls (As.reverse ++ tK n9 :: st) h (mmc J + bc) (mms J + bs) ((vk n9 oc).bind F) := by
  obtain ⟨G, p, l, e, s, m, args, below, meth, c⟩ := X
  obtain ⟨cc, nL, ret, own, nm, tab, mc, ms, nfr, nlo⟩ := I
  intro ok r hr H locs lsA cells slots hR hS hl hc hs
  obtain ⟨hx, hb, hml, hret, hown, hts, hlocks, hnm, htab, hG, hB⟩ := id ok
  obtain ⟨hd, hn⟩ := htab _ (List.mem_of_getElem? hi)
  have hn : npc = pc + 3 := hn
  subst hn
  unfold vk at hr
  by_cases hk : n9 % 3 = 0 ∧ n9 / 3 < 13
  · rw [if_pos hk] at hr
    cases hoc : oc with
    | none =>
      rw [hoc] at hr
      cases hr
    | some q =>
    rw [hoc] at hr
    obtain ⟨hy, ⟨hw1, hw2⟩, hw3, hw4, hw5⟩ := hw
    have hMet := hM G l q hoc
    have e1 : xtv G (tK n9) = .ref (gK G (n9 / 3)) := xk_s hk.1
    have hrec := vk_recv hG.2.1 hk.2 hS
    rw [← hy] at hrec
    have hPcx : xPc G h (tK n9 :: As) = xPc G h (tK n9 :: As) := rfl
    refine xcall (rest := st.map (xtv G)) (va_runV (nL := nL) (own := own) (C := y.cls) (n := n) (b := gK G (n9 / 3)) (As := As.map (xtv G)) ⟨hx, hb, hml, hown, hts⟩ hMet (cwV n hts (C := y.cls) (fun w hw9 => by
      unfold wsV at hw9
      rcases List.mem_append.mp hw9 with h9 | h9
      · simp only [List.mem_cons, List.not_mem_nil, or_false] at h9
        rcases h9 with h9 | h9 | h9 | h9 <;> subst h9
        · exact XTgood _ hlk
        · exact XTgood _ hw1
        · exact XTgood _ hw2
        · exact XTgood _ hw3
      · exact xgood hw4 w h9) rfl rfl rfl ⟨rfl, hw5⟩ hroom) ⟨xPc_blind, hrec, fun U hU hW => ⟨by rw [List.map_cons, e1], hG.call hW hS hU, by rw [hU]; exact Nat.le_trans hB hS.1, by rw [hU]; exact hR⟩⟩ rfl (by rw [List.length_map]; exact hnA) hl.1 (by rw [List.map_append, List.map_reverse, List.map_cons, e1]) (lv_room (by rw [xcats]; exact hst)) hd ⟨by show cells + mmc J ≤ mc; have hc : cells + (mmc J + bc) ≤ mc := hc; omega, by show slots + mms J ≤ ms; have hs : slots + (mms J + bs) ≤ ms := hs; omega⟩) hS (fun H1 locs1 hR1 hS1 => by
      rw [tcat_list, ← List.map_append]
      exact k q ok r hr H1 locs1 lsA _ _ hR1 hS1 hl (by show cells + mmc J + bc ≤ mc; have hc : cells + (mmc J + bc) ≤ mc := hc; omega) (by show slots + mms J + bs ≤ ms; have hs : slots + (mms J + bs) ≤ ms := hs; omega))
  · rw [if_neg hk] at hr
    cases hr
theorem s_callKv {α : Type} {X : XX} {I : MI} {ρ : α → Option TV × XM} {pc npc i : Nat} {ls : List (Nat × TV)} {st : List TV} {h : XM} {bc bs : Nat} {F : XM → Option α} {oc : Option (XM)} {J : MI} {idx n : Nat} {y : MethodName} (As : List TV) {n9 : Nat} (hi : (mtab I)[i]? = some (pc, .invokevirtual idx, 3, npc)) (hM : MC J y (tK n9 :: As) h ρv oc) (hw : xCK y J n) (hlk : Cond.methodLink I.2.2.2.1 idx y ∈ XT) (hnA : As.length = n) (hst : (st.map tcat).sum ≤ 8) (hroom : xRm J I) (k : ∀ q, SW X I ρ npc ls (st) (q) bc bs (F q)) : SW X I ρ pc ls (As.reverse ++ tK n9 :: st) h (mmc J + bc) (mms J + bs) ((vk n9 oc).bind F) := by
  obtain ⟨G, p, l, e, s, m, args, below, meth, c⟩ := X
  obtain ⟨cc, nL, ret, own, nm, tab, mc, ms, nfr, nlo⟩ := I
  intro ok r hr H locs lsA cells slots hR hS hl hc hs
  obtain ⟨hx, hb, hml, hret, hown, hts, hlocks, hnm, htab, hG, hB⟩ := id ok
  obtain ⟨hd, hn⟩ := htab _ (List.mem_of_getElem? hi)
  have hn : npc = pc + 3 := hn
  subst hn
  unfold vk at hr
  by_cases hk : n9 % 3 = 0 ∧ n9 / 3 < 13
  · rw [if_pos hk] at hr
    cases hoc : oc with
    | none =>
      rw [hoc] at hr
      cases hr
    | some q =>
    rw [hoc] at hr
    obtain ⟨hy, ⟨hw1, hw2⟩, hw3, hw4, hw5⟩ := hw
    have hMet := hM G l q hoc
    have e1 : xtv G (tK n9) = .ref (gK G (n9 / 3)) := xk_s hk.1
    have hrec := vk_recv hG.2.1 hk.2 hS
    rw [← hy] at hrec
    have hPcx : xPc G h (tK n9 :: As) = xPc G h (tK n9 :: As) := rfl
    refine xcall (rest := st.map (xtv G)) (va_runV (nL := nL) (own := own) (C := y.cls) (n := n) (b := gK G (n9 / 3)) (As := As.map (xtv G)) ⟨hx, hb, hml, hown, hts⟩ hMet (cwV n hts (C := y.cls) (fun w hw9 => by
      unfold wsV at hw9
      rcases List.mem_append.mp hw9 with h9 | h9
      · simp only [List.mem_cons, List.not_mem_nil, or_false] at h9
        rcases h9 with h9 | h9 | h9 | h9 <;> subst h9
        · exact XTgood _ hlk
        · exact XTgood _ hw1
        · exact XTgood _ hw2
        · exact XTgood _ hw3
      · exact xgood hw4 w h9) rfl rfl rfl ⟨rfl, hw5⟩ hroom) ⟨xPc_blind, hrec, fun U hU hW => ⟨by rw [List.map_cons, e1], hG.call hW hS hU, by rw [hU]; exact Nat.le_trans hB hS.1, by rw [hU]; exact hR⟩⟩ rfl (by rw [List.length_map]; exact hnA) hl.1 (by rw [List.map_append, List.map_reverse, List.map_cons, e1]) (lv_room (by rw [xcats]; exact hst)) hd ⟨by show cells + mmc J ≤ mc; have hc : cells + (mmc J + bc) ≤ mc := hc; omega, by show slots + mms J ≤ ms; have hs : slots + (mms J + bs) ≤ ms := hs; omega⟩) hS (fun H1 locs1 hR1 hS1 => by
      rw [tcat_list, ← List.map_append]
      exact k q ok r hr H1 locs1 lsA _ _ hR1 hS1 hl (by show cells + mmc J + bc ≤ mc; have hc : cells + (mmc J + bc) ≤ mc := hc; omega) (by show slots + mms J + bs ≤ ms; have hs : slots + (mms J + bs) ≤ ms := hs; omega))
  · rw [if_neg hk] at hr
    cases hr
theorem s_callKa {α : Type} {X : XX} {I : MI} {ρ : α → Option TV × XM} {pc npc i : Nat} {ls : List (Nat × TV)} {st : List TV} {h : XM} {bc bs : Nat} {F : Option Nat × XM → Option α} {oc : Option (Option Nat × XM)} {J : MI} {idx n : Nat} {y : MethodName} (As : List TV) {n9 : Nat} (hi : (mtab I)[i]? = some (pc, .invokevirtual idx, 3, npc)) (hM : MC J y (tK n9 :: As) h ρa oc) (hw : xCK y J n) (hlk : Cond.methodLink I.2.2.2.1 idx y ∈ XT) (hnA : As.length = n) (hst : (st.map tcat).sum ≤ 8) (hroom : xRm J I) (k : ∀ q, SW X I ρ npc ls (tA q.1 :: st) (q.2) bc bs (F q)) : SW X I ρ pc ls (As.reverse ++ tK n9 :: st) h (mmc J + bc) (mms J + bs) ((vk n9 oc).bind F) := by
  obtain ⟨G, p, l, e, s, m, args, below, meth, c⟩ := X
  obtain ⟨cc, nL, ret, own, nm, tab, mc, ms, nfr, nlo⟩ := I
  intro ok r hr H locs lsA cells slots hR hS hl hc hs
  obtain ⟨hx, hb, hml, hret, hown, hts, hlocks, hnm, htab, hG, hB⟩ := id ok
  obtain ⟨hd, hn⟩ := htab _ (List.mem_of_getElem? hi)
  have hn : npc = pc + 3 := hn
  subst hn
  unfold vk at hr
  by_cases hk : n9 % 3 = 0 ∧ n9 / 3 < 13
  · rw [if_pos hk] at hr
    cases hoc : oc with
    | none =>
      rw [hoc] at hr
      cases hr
    | some q =>
    rw [hoc] at hr
    obtain ⟨hy, ⟨hw1, hw2⟩, hw3, hw4, hw5⟩ := hw
    have hMet := hM G l q hoc
    have e1 : xtv G (tK n9) = .ref (gK G (n9 / 3)) := xk_s hk.1
    have hrec := vk_recv hG.2.1 hk.2 hS
    rw [← hy] at hrec
    have hPcx : xPc G h (tK n9 :: As) = xPc G h (tK n9 :: As) := rfl
    refine xcall (rest := st.map (xtv G)) (va_runV (nL := nL) (own := own) (C := y.cls) (n := n) (b := gK G (n9 / 3)) (As := As.map (xtv G)) ⟨hx, hb, hml, hown, hts⟩ hMet (cwV n hts (C := y.cls) (fun w hw9 => by
      unfold wsV at hw9
      rcases List.mem_append.mp hw9 with h9 | h9
      · simp only [List.mem_cons, List.not_mem_nil, or_false] at h9
        rcases h9 with h9 | h9 | h9 | h9 <;> subst h9
        · exact XTgood _ hlk
        · exact XTgood _ hw1
        · exact XTgood _ hw2
        · exact XTgood _ hw3
      · exact xgood hw4 w h9) rfl rfl rfl ⟨rfl, hw5⟩ hroom) ⟨xPc_blind, hrec, fun U hU hW => ⟨by rw [List.map_cons, e1], hG.call hW hS hU, by rw [hU]; exact Nat.le_trans hB hS.1, by rw [hU]; exact hR⟩⟩ rfl (by rw [List.length_map]; exact hnA) hl.1 (by rw [List.map_append, List.map_reverse, List.map_cons, e1]) (lv_room (by rw [xcats]; exact hst)) hd ⟨by show cells + mmc J ≤ mc; have hc : cells + (mmc J + bc) ≤ mc := hc; omega, by show slots + mms J ≤ ms; have hs : slots + (mms J + bs) ≤ ms := hs; omega⟩) hS (fun H1 locs1 hR1 hS1 => by
      rw [tcat_list, ← List.map_append]
      exact k q ok r hr H1 locs1 lsA _ _ hR1 hS1 hl (by show cells + mmc J + bc ≤ mc; have hc : cells + (mmc J + bc) ≤ mc := hc; omega) (by show slots + mms J + bs ≤ ms; have hs : slots + (mms J + bs) ≤ ms := hs; omega))
  · rw [if_neg hk] at hr
    cases hr
theorem s_callKl {α : Type} {X : XX} {I : MI} {ρ : α → Option TV × XM} {pc npc i : Nat} {ls : List (Nat × TV)} {st : List TV} {h : XM} {bc bs : Nat} {F : Int64 × XM → Option α} {oc : Option (Int64 × XM)} {J : MI} {idx n : Nat} {y : MethodName} (As : List TV) {n9 : Nat} (hi : (mtab I)[i]? = some (pc, .invokevirtual idx, 3, npc)) (hM : MC J y (tK n9 :: As) h ρl oc) (hw : xCK y J n) (hlk : Cond.methodLink I.2.2.2.1 idx y ∈ XT) (hnA : As.length = n) (hst : (st.map tcat).sum ≤ 8) (hroom : xRm J I) (k : ∀ q, SW X I ρ npc ls (tL q.1 :: st) (q.2) bc bs (F q)) : SW X I ρ pc ls (As.reverse ++ tK n9 :: st) h (mmc J + bc) (mms J + bs) ((vk n9 oc).bind F) := by
  obtain ⟨G, p, l, e, s, m, args, below, meth, c⟩ := X
  obtain ⟨cc, nL, ret, own, nm, tab, mc, ms, nfr, nlo⟩ := I
  intro ok r hr H locs lsA cells slots hR hS hl hc hs
  obtain ⟨hx, hb, hml, hret, hown, hts, hlocks, hnm, htab, hG, hB⟩ := id ok
  obtain ⟨hd, hn⟩ := htab _ (List.mem_of_getElem? hi)
  have hn : npc = pc + 3 := hn
  subst hn
  unfold vk at hr
  by_cases hk : n9 % 3 = 0 ∧ n9 / 3 < 13
  · rw [if_pos hk] at hr
    cases hoc : oc with
    | none =>
      rw [hoc] at hr
      cases hr
    | some q =>
    rw [hoc] at hr
    obtain ⟨hy, ⟨hw1, hw2⟩, hw3, hw4, hw5⟩ := hw
    have hMet := hM G l q hoc
    have e1 : xtv G (tK n9) = .ref (gK G (n9 / 3)) := xk_s hk.1
    have hrec := vk_recv hG.2.1 hk.2 hS
    rw [← hy] at hrec
    have hPcx : xPc G h (tK n9 :: As) = xPc G h (tK n9 :: As) := rfl
    refine xcall (rest := st.map (xtv G)) (va_runV (nL := nL) (own := own) (C := y.cls) (n := n) (b := gK G (n9 / 3)) (As := As.map (xtv G)) ⟨hx, hb, hml, hown, hts⟩ hMet (cwV n hts (C := y.cls) (fun w hw9 => by
      unfold wsV at hw9
      rcases List.mem_append.mp hw9 with h9 | h9
      · simp only [List.mem_cons, List.not_mem_nil, or_false] at h9
        rcases h9 with h9 | h9 | h9 | h9 <;> subst h9
        · exact XTgood _ hlk
        · exact XTgood _ hw1
        · exact XTgood _ hw2
        · exact XTgood _ hw3
      · exact xgood hw4 w h9) rfl rfl rfl ⟨rfl, hw5⟩ hroom) ⟨xPc_blind, hrec, fun U hU hW => ⟨by rw [List.map_cons, e1], hG.call hW hS hU, by rw [hU]; exact Nat.le_trans hB hS.1, by rw [hU]; exact hR⟩⟩ rfl (by rw [List.length_map]; exact hnA) hl.1 (by rw [List.map_append, List.map_reverse, List.map_cons, e1]) (lv_room (by rw [xcats]; exact hst)) hd ⟨by show cells + mmc J ≤ mc; have hc : cells + (mmc J + bc) ≤ mc := hc; omega, by show slots + mms J ≤ ms; have hs : slots + (mms J + bs) ≤ ms := hs; omega⟩) hS (fun H1 locs1 hR1 hS1 => by
      rw [tcat_list, ← List.map_append]
      exact k q ok r hr H1 locs1 lsA _ _ hR1 hS1 hl (by show cells + mmc J + bc ≤ mc; have hc : cells + (mmc J + bc) ≤ mc := hc; omega) (by show slots + mms J + bs ≤ ms; have hs : slots + (mms J + bs) ≤ ms := hs; omega))
  · rw [if_neg hk] at hr
    cases hr
theorem s_callSi {α : Type} {X : XX} {I : MI} {ρ : α → Option TV × XM} {pc npc i : Nat} {ls : List (Nat × TV)} {st : List TV} {h : XM} {bc bs : Nat} {F : Int32 × XM → Option α} {oc : Option (Int32 × XM)} {J : MI} {idx n : Nat} {y : MethodName} (As : List TV)  (hi : (mtab I)[i]? = some (pc, .invokestatic idx, 3, npc)) (hM : MC J y (As) h ρi oc) (hw : xCS y J n) (hlk : Cond.methodLink I.2.2.2.1 idx y ∈ XT) (hnA : As.length = n) (hst : (st.map tcat).sum ≤ 8) (hroom : xRm J I) (k : ∀ q, SW X I ρ npc ls (tI q.1 :: st) (q.2) bc bs (F q)) : SW X I ρ pc ls (As.reverse ++ st) h (mmc J + bc) (mms J + bs) ((oc).bind F) := by
  obtain ⟨G, p, l, e, s, m, args, below, meth, c⟩ := X
  obtain ⟨cc, nL, ret, own, nm, tab, mc, ms, nfr, nlo⟩ := I
  intro ok r hr H locs lsA cells slots hR hS hl hc hs
  obtain ⟨hx, hb, hml, hret, hown, hts, hlocks, hnm, htab, hG, hB⟩ := id ok
  obtain ⟨hd, hn⟩ := htab _ (List.mem_of_getElem? hi)
  have hn : npc = pc + 3 := hn
  subst hn
  cases hoc : oc with
  | none =>
    rw [hoc] at hr
    cases hr
  | some q =>
    rw [hoc] at hr
    obtain ⟨hw1, hw3, hw4, hw5⟩ := hw
    have hMet := hM G l q hoc
    refine xcall (rest := st.map (xtv G)) (va_runS (nL := nL) (own := own) (n := n) (As := As.map (xtv G)) ⟨hx, hb, hml, hown, hts⟩ hMet (va_cwS n hts (fun w hw9 => by
      unfold va_wsS at hw9
      rcases List.mem_append.mp hw9 with h9 | h9
      · simp only [List.mem_cons, List.not_mem_nil, or_false] at h9
        rcases h9 with h9 | h9 | h9 <;> subst h9
        · exact XTgood _ hlk
        · exact XTgood _ hw1
        · exact XTgood _ hw3
      · exact xgood hw4 w h9) rfl rfl rfl hw5 hroom) ⟨xPc_blind, fun U hU hW => ⟨rfl, hG.call hW hS hU, by rw [hU]; exact Nat.le_trans hB hS.1, by rw [hU]; exact hR⟩⟩ rfl (by rw [List.length_map]; exact hnA) hl.1 (by rw [List.map_append, List.map_reverse]) (lv_room (by rw [xcats]; exact hst)) hd ⟨by show cells + mmc J ≤ mc; have hc : cells + (mmc J + bc) ≤ mc := hc; omega, by show slots + mms J ≤ ms; have hs : slots + (mms J + bs) ≤ ms := hs; omega⟩) hS (fun H1 locs1 hR1 hS1 => by
      rw [tcat_list, ← List.map_append]
      exact k q ok r hr H1 locs1 lsA _ _ hR1 hS1 hl (by show cells + mmc J + bc ≤ mc; have hc : cells + (mmc J + bc) ≤ mc := hc; omega) (by show slots + mms J + bs ≤ ms; have hs : slots + (mms J + bs) ≤ ms := hs; omega))
theorem s_callSv {α : Type} {X : XX} {I : MI} {ρ : α → Option TV × XM} {pc npc i : Nat} {ls : List (Nat × TV)} {st : List TV} {h : XM} {bc bs : Nat} {F : XM → Option α} {oc : Option (XM)} {J : MI} {idx n : Nat} {y : MethodName} (As : List TV)  (hi : (mtab I)[i]? = some (pc, .invokestatic idx, 3, npc)) (hM : MC J y (As) h ρv oc) (hw : xCS y J n) (hlk : Cond.methodLink I.2.2.2.1 idx y ∈ XT) (hnA : As.length = n) (hst : (st.map tcat).sum ≤ 8) (hroom : xRm J I) (k : ∀ q, SW X I ρ npc ls (st) (q) bc bs (F q)) : SW X I ρ pc ls (As.reverse ++ st) h (mmc J + bc) (mms J + bs) ((oc).bind F) := by
  obtain ⟨G, p, l, e, s, m, args, below, meth, c⟩ := X
  obtain ⟨cc, nL, ret, own, nm, tab, mc, ms, nfr, nlo⟩ := I
  intro ok r hr H locs lsA cells slots hR hS hl hc hs
  obtain ⟨hx, hb, hml, hret, hown, hts, hlocks, hnm, htab, hG, hB⟩ := id ok
  obtain ⟨hd, hn⟩ := htab _ (List.mem_of_getElem? hi)
  have hn : npc = pc + 3 := hn
  subst hn
  cases hoc : oc with
  | none =>
    rw [hoc] at hr
    cases hr
  | some q =>
    rw [hoc] at hr
    obtain ⟨hw1, hw3, hw4, hw5⟩ := hw
    have hMet := hM G l q hoc
    refine xcall (rest := st.map (xtv G)) (va_runS (nL := nL) (own := own) (n := n) (As := As.map (xtv G)) ⟨hx, hb, hml, hown, hts⟩ hMet (va_cwS n hts (fun w hw9 => by
      unfold va_wsS at hw9
      rcases List.mem_append.mp hw9 with h9 | h9
      · simp only [List.mem_cons, List.not_mem_nil, or_false] at h9
        rcases h9 with h9 | h9 | h9 <;> subst h9
        · exact XTgood _ hlk
        · exact XTgood _ hw1
        · exact XTgood _ hw3
      · exact xgood hw4 w h9) rfl rfl rfl hw5 hroom) ⟨xPc_blind, fun U hU hW => ⟨rfl, hG.call hW hS hU, by rw [hU]; exact Nat.le_trans hB hS.1, by rw [hU]; exact hR⟩⟩ rfl (by rw [List.length_map]; exact hnA) hl.1 (by rw [List.map_append, List.map_reverse]) (lv_room (by rw [xcats]; exact hst)) hd ⟨by show cells + mmc J ≤ mc; have hc : cells + (mmc J + bc) ≤ mc := hc; omega, by show slots + mms J ≤ ms; have hs : slots + (mms J + bs) ≤ ms := hs; omega⟩) hS (fun H1 locs1 hR1 hS1 => by
      rw [tcat_list, ← List.map_append]
      exact k q ok r hr H1 locs1 lsA _ _ hR1 hS1 hl (by show cells + mmc J + bc ≤ mc; have hc : cells + (mmc J + bc) ≤ mc := hc; omega) (by show slots + mms J + bs ≤ ms; have hs : slots + (mms J + bs) ≤ ms := hs; omega))
theorem s_callSa {α : Type} {X : XX} {I : MI} {ρ : α → Option TV × XM} {pc npc i : Nat} {ls : List (Nat × TV)} {st : List TV} {h : XM} {bc bs : Nat} {F : Option Nat × XM → Option α} {oc : Option (Option Nat × XM)} {J : MI} {idx n : Nat} {y : MethodName} (As : List TV)  (hi : (mtab I)[i]? = some (pc, .invokestatic idx, 3, npc)) (hM : MC J y (As) h ρa oc) (hw : xCS y J n) (hlk : Cond.methodLink I.2.2.2.1 idx y ∈ XT) (hnA : As.length = n) (hst : (st.map tcat).sum ≤ 8) (hroom : xRm J I) (k : ∀ q, SW X I ρ npc ls (tA q.1 :: st) (q.2) bc bs (F q)) : SW X I ρ pc ls (As.reverse ++ st) h (mmc J + bc) (mms J + bs) ((oc).bind F) := by
  obtain ⟨G, p, l, e, s, m, args, below, meth, c⟩ := X
  obtain ⟨cc, nL, ret, own, nm, tab, mc, ms, nfr, nlo⟩ := I
  intro ok r hr H locs lsA cells slots hR hS hl hc hs
  obtain ⟨hx, hb, hml, hret, hown, hts, hlocks, hnm, htab, hG, hB⟩ := id ok
  obtain ⟨hd, hn⟩ := htab _ (List.mem_of_getElem? hi)
  have hn : npc = pc + 3 := hn
  subst hn
  cases hoc : oc with
  | none =>
    rw [hoc] at hr
    cases hr
  | some q =>
    rw [hoc] at hr
    obtain ⟨hw1, hw3, hw4, hw5⟩ := hw
    have hMet := hM G l q hoc
    refine xcall (rest := st.map (xtv G)) (va_runS (nL := nL) (own := own) (n := n) (As := As.map (xtv G)) ⟨hx, hb, hml, hown, hts⟩ hMet (va_cwS n hts (fun w hw9 => by
      unfold va_wsS at hw9
      rcases List.mem_append.mp hw9 with h9 | h9
      · simp only [List.mem_cons, List.not_mem_nil, or_false] at h9
        rcases h9 with h9 | h9 | h9 <;> subst h9
        · exact XTgood _ hlk
        · exact XTgood _ hw1
        · exact XTgood _ hw3
      · exact xgood hw4 w h9) rfl rfl rfl hw5 hroom) ⟨xPc_blind, fun U hU hW => ⟨rfl, hG.call hW hS hU, by rw [hU]; exact Nat.le_trans hB hS.1, by rw [hU]; exact hR⟩⟩ rfl (by rw [List.length_map]; exact hnA) hl.1 (by rw [List.map_append, List.map_reverse]) (lv_room (by rw [xcats]; exact hst)) hd ⟨by show cells + mmc J ≤ mc; have hc : cells + (mmc J + bc) ≤ mc := hc; omega, by show slots + mms J ≤ ms; have hs : slots + (mms J + bs) ≤ ms := hs; omega⟩) hS (fun H1 locs1 hR1 hS1 => by
      rw [tcat_list, ← List.map_append]
      exact k q ok r hr H1 locs1 lsA _ _ hR1 hS1 hl (by show cells + mmc J + bc ≤ mc; have hc : cells + (mmc J + bc) ≤ mc := hc; omega) (by show slots + mms J + bs ≤ ms; have hs : slots + (mms J + bs) ≤ ms := hs; omega))
theorem s_callSl {α : Type} {X : XX} {I : MI} {ρ : α → Option TV × XM} {pc npc i : Nat} {ls : List (Nat × TV)} {st : List TV} {h : XM} {bc bs : Nat} {F : Int64 × XM → Option α} {oc : Option (Int64 × XM)} {J : MI} {idx n : Nat} {y : MethodName} (As : List TV)  (hi : (mtab I)[i]? = some (pc, .invokestatic idx, 3, npc)) (hM : MC J y (As) h ρl oc) (hw : xCS y J n) (hlk : Cond.methodLink I.2.2.2.1 idx y ∈ XT) (hnA : As.length = n) (hst : (st.map tcat).sum ≤ 8) (hroom : xRm J I) (k : ∀ q, SW X I ρ npc ls (tL q.1 :: st) (q.2) bc bs (F q)) : SW X I ρ pc ls (As.reverse ++ st) h (mmc J + bc) (mms J + bs) ((oc).bind F) := by
  obtain ⟨G, p, l, e, s, m, args, below, meth, c⟩ := X
  obtain ⟨cc, nL, ret, own, nm, tab, mc, ms, nfr, nlo⟩ := I
  intro ok r hr H locs lsA cells slots hR hS hl hc hs
  obtain ⟨hx, hb, hml, hret, hown, hts, hlocks, hnm, htab, hG, hB⟩ := id ok
  obtain ⟨hd, hn⟩ := htab _ (List.mem_of_getElem? hi)
  have hn : npc = pc + 3 := hn
  subst hn
  cases hoc : oc with
  | none =>
    rw [hoc] at hr
    cases hr
  | some q =>
    rw [hoc] at hr
    obtain ⟨hw1, hw3, hw4, hw5⟩ := hw
    have hMet := hM G l q hoc
    refine xcall (rest := st.map (xtv G)) (va_runS (nL := nL) (own := own) (n := n) (As := As.map (xtv G)) ⟨hx, hb, hml, hown, hts⟩ hMet (va_cwS n hts (fun w hw9 => by
      unfold va_wsS at hw9
      rcases List.mem_append.mp hw9 with h9 | h9
      · simp only [List.mem_cons, List.not_mem_nil, or_false] at h9
        rcases h9 with h9 | h9 | h9 <;> subst h9
        · exact XTgood _ hlk
        · exact XTgood _ hw1
        · exact XTgood _ hw3
      · exact xgood hw4 w h9) rfl rfl rfl hw5 hroom) ⟨xPc_blind, fun U hU hW => ⟨rfl, hG.call hW hS hU, by rw [hU]; exact Nat.le_trans hB hS.1, by rw [hU]; exact hR⟩⟩ rfl (by rw [List.length_map]; exact hnA) hl.1 (by rw [List.map_append, List.map_reverse]) (lv_room (by rw [xcats]; exact hst)) hd ⟨by show cells + mmc J ≤ mc; have hc : cells + (mmc J + bc) ≤ mc := hc; omega, by show slots + mms J ≤ ms; have hs : slots + (mms J + bs) ≤ ms := hs; omega⟩) hS (fun H1 locs1 hR1 hS1 => by
      rw [tcat_list, ← List.map_append]
      exact k q ok r hr H1 locs1 lsA _ _ hR1 hS1 hl (by show cells + mmc J + bc ≤ mc; have hc : cells + (mmc J + bc) ≤ mc := hc; omega) (by show slots + mms J + bs ≤ ms; have hs : slots + (mms J + bs) ≤ ms := hs; omega))
theorem s_callSk {α : Type} {X : XX} {I : MI} {ρ : α → Option TV × XM} {pc npc i : Nat} {ls : List (Nat × TV)} {st : List TV} {h : XM} {bc bs : Nat} {F : Nat × XM → Option α} {oc : Option (Nat × XM)} {J : MI} {idx n : Nat} {y : MethodName} (As : List TV)  (hi : (mtab I)[i]? = some (pc, .invokestatic idx, 3, npc)) (hM : MC J y (As) h ρk oc) (hw : xCS y J n) (hlk : Cond.methodLink I.2.2.2.1 idx y ∈ XT) (hnA : As.length = n) (hst : (st.map tcat).sum ≤ 8) (hroom : xRm J I) (k : ∀ q, SW X I ρ npc ls (tK q.1 :: st) (q.2) bc bs (F q)) : SW X I ρ pc ls (As.reverse ++ st) h (mmc J + bc) (mms J + bs) ((oc).bind F) := by
  obtain ⟨G, p, l, e, s, m, args, below, meth, c⟩ := X
  obtain ⟨cc, nL, ret, own, nm, tab, mc, ms, nfr, nlo⟩ := I
  intro ok r hr H locs lsA cells slots hR hS hl hc hs
  obtain ⟨hx, hb, hml, hret, hown, hts, hlocks, hnm, htab, hG, hB⟩ := id ok
  obtain ⟨hd, hn⟩ := htab _ (List.mem_of_getElem? hi)
  have hn : npc = pc + 3 := hn
  subst hn
  cases hoc : oc with
  | none =>
    rw [hoc] at hr
    cases hr
  | some q =>
    rw [hoc] at hr
    obtain ⟨hw1, hw3, hw4, hw5⟩ := hw
    have hMet := hM G l q hoc
    refine xcall (rest := st.map (xtv G)) (va_runS (nL := nL) (own := own) (n := n) (As := As.map (xtv G)) ⟨hx, hb, hml, hown, hts⟩ hMet (va_cwS n hts (fun w hw9 => by
      unfold va_wsS at hw9
      rcases List.mem_append.mp hw9 with h9 | h9
      · simp only [List.mem_cons, List.not_mem_nil, or_false] at h9
        rcases h9 with h9 | h9 | h9 <;> subst h9
        · exact XTgood _ hlk
        · exact XTgood _ hw1
        · exact XTgood _ hw3
      · exact xgood hw4 w h9) rfl rfl rfl hw5 hroom) ⟨xPc_blind, fun U hU hW => ⟨rfl, hG.call hW hS hU, by rw [hU]; exact Nat.le_trans hB hS.1, by rw [hU]; exact hR⟩⟩ rfl (by rw [List.length_map]; exact hnA) hl.1 (by rw [List.map_append, List.map_reverse]) (lv_room (by rw [xcats]; exact hst)) hd ⟨by show cells + mmc J ≤ mc; have hc : cells + (mmc J + bc) ≤ mc := hc; omega, by show slots + mms J ≤ ms; have hs : slots + (mms J + bs) ≤ ms := hs; omega⟩) hS (fun H1 locs1 hR1 hS1 => by
      rw [tcat_list, ← List.map_append]
      exact k q ok r hr H1 locs1 lsA _ _ hR1 hS1 hl (by show cells + mmc J + bc ≤ mc; have hc : cells + (mmc J + bc) ≤ mc := hc; omega) (by show slots + mms J + bs ≤ ms; have hs : slots + (mms J + bs) ≤ ms := hs; omega))
theorem s_callIv {α : Type} {X : XX} {I : MI} {ρ : α → Option TV × XM} {pc npc i : Nat} {ls : List (Nat × TV)} {st : List TV} {h : XM} {bc bs : Nat} {F : XM → Option α} {oc : Option (XM)} {J : MI} {idx n : Nat} {y : MethodName} (As : List TV) {r9 : Option Nat} (hi : (mtab I)[i]? = some (pc, .invokespecial idx, 3, npc)) (hM : MC J y (tA r9 :: As) h ρv oc) (hw : xCI y J n) (hlk : Cond.methodLink I.2.2.2.1 idx y ∈ XT) (hnA : As.length = n) (hst : (st.map tcat).sum ≤ 8) (hroom : xRm J I) (k : ∀ q, SW X I ρ npc ls (st) (q) bc bs (F q)) : SW X I ρ pc ls (As.reverse ++ tA r9 :: st) h (mmc J + bc) (mms J + bs) ((r9.bind fun _ => oc).bind F) := by
  obtain ⟨G, p, l, e, s, m, args, below, meth, c⟩ := X
  obtain ⟨cc, nL, ret, own, nm, tab, mc, ms, nfr, nlo⟩ := I
  intro ok r hr H locs lsA cells slots hR hS hl hc hs
  obtain ⟨hx, hb, hml, hret, hown, hts, hlocks, hnm, htab, hG, hB⟩ := id ok
  obtain ⟨hd, hn⟩ := htab _ (List.mem_of_getElem? hi)
  have hn : npc = pc + 3 := hn
  subst hn
  cases r9 with
  | none => cases hr
  | some a =>
  simp only [Option.bind_some] at hr
  cases hoc : oc with
  | none =>
    rw [hoc] at hr
    cases hr
  | some q =>
    rw [hoc] at hr
    obtain ⟨⟨hw0, hret9⟩, hw1, hw3, hw4, hw5⟩ := hw
    have hMet := hM G l q hoc
    rw [hret9] at hMet hw4
    refine xcall (rest := st.map (xtv G)) (va_runI (nL := nL) (own := own) (n := n) (b := gB G + a) (As := As.map (xtv G)) ⟨hx, hb, hml, hown, hts⟩ hMet (cwI n hts (fun w hw9 => by
      rcases List.mem_cons.mp hw9 with e | e
      · rw [e]
        exact XTgood _ hw4
      · exact XTgood _ e) rfl rfl rfl (hts _ hw3) (hts _ hlk) (hts _ hw1) hw0 hw5 hroom) ⟨xPc_blind, fun U hU hW => ⟨rfl, hG.call hW hS hU, by rw [hU]; exact Nat.le_trans hB hS.1, by rw [hU]; exact hR⟩⟩ rfl (by rw [List.length_map]; exact hnA) hl.1 (by rw [List.map_append, List.map_reverse]; rfl) (lv_room (by rw [xcats]; exact hst)) hd ⟨by show cells + mmc J ≤ mc; have hc : cells + (mmc J + bc) ≤ mc := hc; omega, by show slots + mms J ≤ ms; have hs : slots + (mms J + bs) ≤ ms := hs; omega⟩) hS (fun H1 locs1 hR1 hS1 => by
      rw [tcat_list, ← List.map_append]
      exact k q ok r hr H1 locs1 lsA _ _ hR1 hS1 hl (by show cells + mmc J + bc ≤ mc; have hc : cells + (mmc J + bc) ≤ mc := hc; omega) (by show slots + mms J + bs ≤ ms; have hs : slots + (mms J + bs) ≤ ms := hs; omega))
theorem s_callNv {α : Type} {X : XX} {I : MI} {ρ : α → Option TV × XM} {pc npc i : Nat} {ls : List (Nat × TV)} {st : List TV} {h : XM} {bc bs : Nat} {F : XM → Option α} {oc : Option (XM)} {J : MI} {idx n : Nat} {y : MethodName} (As : List TV) {r9 : Option Nat} (hi : (mtab I)[i]? = some (pc, .invokespecial idx, 3, npc)) (hM : MC J y (tA r9 :: As) h ρv oc) (hw : xCI y J n) (hlk : ∀ (G : XG) (s : State), GI G s s.heap → va_Nw (.methodLinkNest I.2.2.2.1 idx y xR8) s) (hnA : As.length = n) (hst : (st.map tcat).sum ≤ 8) (hroom : xRm J I) (k : ∀ q, SW X I ρ npc ls (st) (q) bc bs (F q)) : SW X I ρ pc ls (As.reverse ++ tA r9 :: st) h (mmc J + bc) (mms J + bs) ((r9.bind fun _ => oc).bind F) := by
  obtain ⟨G, p, l, e, s, m, args, below, meth, c⟩ := X
  obtain ⟨cc, nL, ret, own, nm, tab, mc, ms, nfr, nlo⟩ := I
  intro ok r hr H locs lsA cells slots hR hS hl hc hs
  obtain ⟨hx, hb, hml, hret, hown, hts, hlocks, hnm, htab, hG, hB⟩ := id ok
  obtain ⟨hd, hn⟩ := htab _ (List.mem_of_getElem? hi)
  have hn : npc = pc + 3 := hn
  subst hn
  cases r9 with
  | none => cases hr
  | some a =>
  simp only [Option.bind_some] at hr
  cases hoc : oc with
  | none =>
    rw [hoc] at hr
    cases hr
  | some q =>
    rw [hoc] at hr
    obtain ⟨⟨hw0, hret9⟩, hw1, hw3, hw4, hw5⟩ := hw
    have hMet := hM G l q hoc
    rw [hret9] at hMet hw4
    refine xcall (rest := st.map (xtv G)) (va_runIN (nL := nL) (own := own) (n := n) (b := gB G + a) (As := As.map (xtv G)) ⟨hx, hb, hml, hown, hts⟩ hMet ⟨va_cnB n hts (fun w hw9 => by
      rcases List.mem_cons.mp hw9 with e | e
      · rw [e]
        exact XTgood _ hw4
      · exact XTgood _ e) rfl rfl rfl (hlk G s hG) (hts _ hw3) hw5 hroom, hw0, hts _ hw1⟩ ⟨xPc_blind, fun U hU hW => ⟨rfl, hG.call hW hS hU, by rw [hU]; exact Nat.le_trans hB hS.1, by rw [hU]; exact hR⟩⟩ rfl (by rw [List.length_map]; exact hnA) hl.1 (by rw [List.map_append, List.map_reverse]; rfl) (lv_room (by rw [xcats]; exact hst)) hd ⟨by show cells + mmc J ≤ mc; have hc : cells + (mmc J + bc) ≤ mc := hc; omega, by show slots + mms J ≤ ms; have hs : slots + (mms J + bs) ≤ ms := hs; omega⟩) hS (fun H1 locs1 hR1 hS1 => by
      rw [tcat_list, ← List.map_append]
      exact k q ok r hr H1 locs1 lsA _ _ hR1 hS1 hl (by show cells + mmc J + bc ≤ mc; have hc : cells + (mmc J + bc) ≤ mc := hc; omega) (by show slots + mms J + bs ≤ ms; have hs : slots + (mms J + bs) ≤ ms := hs; omega))
theorem s_objInit {α : Type} {X : XX} {I : MI} {ρ : α → Option TV × XM} {pc npc i : Nat} {ls : List (Nat × TV)} {st : List TV} {h : XM} {bc bs : Nat} {o : Option α} {idx : Nat} {r9 : Option Nat} (hi : (mtab I)[i]? = some (pc, .invokespecial idx, 3, npc)) (hlk : Cond.methodLink I.2.2.2.1 idx objectInit ∈ XT ∧ Cond.instanceMethod objectInit ∈ XT ∧ Cond.code objectInit ⟨#[0xb1]⟩ 1 none ∈ XT) (hroom : 1 ≤ I.2.2.2.2.2.2.2.2.1 ∧ 20 ≤ I.2.2.2.2.2.2.2.2.2) (hst : st = []) (k : SW X I ρ npc ls st h bc bs o) : SW X I ρ pc ls (tA r9 :: st) h bc bs (r9.bind fun _ => o) := by
  obtain ⟨G, p, l, e, s, m, args, below, meth, c⟩ := X
  obtain ⟨cc, nL, ret, own, nm, tab, mc, ms, nfr, nlo⟩ := I
  intro ok r hr H locs lsA cells slots hR hS hl hc hs
  obtain ⟨hx, hb, hml, hret, hown, hts, hlocks, hnm, htab, hG, hB⟩ := id ok
  obtain ⟨hd, hn⟩ := htab _ (List.mem_of_getElem? hi)
  have hn : npc = pc + 3 := hn
  subst hn
  subst hst
  cases r9 with
  | none => cases hr
  | some a =>
    refine W.objInit hx hb hown (hts _ hlk.1) (hts _ hlk.2.1) (hts _ hlk.2.2) rfl (by rw [hml]; exact hl.1) rfl hd hroom.1 (Nat.le_trans (m := 20) (Nat.le_of_ble_eq_true rfl) hroom.2) ?_
    exact k ok r hr H locs lsA cells slots hR hS hl hc hs
theorem s_iret {X : XX} {I : MI} {pc npc i : Nat} {ls : List (Nat × TV)} {h : XM} {bc bs : Nat} {v : Int32} (hi : (mtab I)[i]? = some (pc, .ireturn, 1, npc)) (hret9 : I.2.2.1 = some .int) : SW (α := Int32 × XM) X I ρi pc ls [tI v] h bc bs (some (v, h)) := by
  obtain ⟨G, p, l, e, s, m, args, below, meth, c⟩ := X
  obtain ⟨cc, nL, ret, own, nm, tab, mc, ms, nfr, nlo⟩ := I
  intro ok r hr H locs lsA cells slots hR hS hl hc hs
  obtain ⟨hx, hb, hml, hret, hown, hts, hlocks, hnm, htab, hG, hB⟩ := id ok
  obtain ⟨hd, hn⟩ := htab _ (List.mem_of_getElem? hi)
  have hn : npc = pc + 1 := hn
  subst hn
  cases hr
  have hret9 : ret = some .int := hret9
  subst hret9
  exact W.widen (k := mc) (n := ms) (by have hc : cells + bc ≤ mc := hc; omega) (by have hs : slots + bs ≤ ms := hs; omega) (W.iret (v := v) hx hb hret (fun t ht hW => ⟨rfl, by rw [ht]; exact hR, hS.F ht⟩) hS.2.2 hd)
theorem s_zret {X : XX} {I : MI} {pc npc i : Nat} {ls : List (Nat × TV)} {h : XM} {bc bs : Nat} {v : Int32} (hi : (mtab I)[i]? = some (pc, .ireturn, 1, npc)) (hret9 : I.2.2.1 = some .boolean) : SW (α := Int32 × XM) X I ρi pc ls [tI v] h bc bs (rz h v) := by
  obtain ⟨G, p, l, e, s, m, args, below, meth, c⟩ := X
  obtain ⟨cc, nL, ret, own, nm, tab, mc, ms, nfr, nlo⟩ := I
  intro ok r hr H locs lsA cells slots hR hS hl hc hs
  obtain ⟨hx, hb, hml, hret, hown, hts, hlocks, hnm, htab, hG, hB⟩ := id ok
  obtain ⟨hd, hn⟩ := htab _ (List.mem_of_getElem? hi)
  have hn : npc = pc + 1 := hn
  subst hn
  unfold rz at hr
  by_cases hz : v = 0 ∨ v = 1
  · rw [if_pos hz] at hr
    cases hr
    have hret9 : ret = some .boolean := hret9
    subst hret9
    exact W.widen (k := mc) (n := ms) (by have hc : cells + bc ≤ mc := hc; omega) (by have hs : slots + bs ≤ ms := hs; omega) (W.zret (v := v) hx hb hret (by rcases hz with e9 | e9 <;> subst e9 <;> rfl) (fun t ht hW => ⟨rfl, by rw [ht]; exact hR, hS.F ht⟩) hS.2.2 hd)
  · rw [if_neg hz] at hr
    cases hr
def rzb (h : XM) (v : Int32) : Option (Int32 × XM) := if v = 0 then some (v, h) else none
theorem s_bret {X : XX} {I : MI} {pc npc i : Nat} {ls : List (Nat × TV)} {h : XM} {bc bs : Nat} {v : Int32} (hi : (mtab I)[i]? = some (pc, .ireturn, 1, npc)) (hret9 : I.2.2.1 = some .byte) : SW (α := Int32 × XM) X I ρi pc ls [tI v] h bc bs (rzb h v) := by
  obtain ⟨G, p, l, e, s, m, args, below, meth, c⟩ := X
  obtain ⟨cc, nL, ret, own, nm, tab, mc, ms, nfr, nlo⟩ := I
  intro ok r hr H locs lsA cells slots hR hS hl hc hs
  obtain ⟨hx, hb, hml, hret, hown, hts, hlocks, hnm, htab, hG, hB⟩ := id ok
  obtain ⟨hd, hn⟩ := htab _ (List.mem_of_getElem? hi)
  have hn : npc = pc + 1 := hn
  subst hn
  unfold rzb at hr
  by_cases hz : v = 0
  · rw [if_pos hz] at hr
    cases hr
    have hret9 : ret = some .byte := hret9
    subst hret9
    exact W.widen (k := mc) (n := ms) (by have hc : cells + bc ≤ mc := hc; omega) (by have hs : slots + bs ≤ ms := hs; omega) (W.zret (v := v) hx hb hret (by subst hz; rfl) (fun t ht hW => ⟨rfl, by rw [ht]; exact hR, hS.F ht⟩) hS.2.2 hd)
  · rw [if_neg hz] at hr
    cases hr
def rzc (h : XM) (v : Int32) : Option (Int32 × XM) := if narrow .char (.int v) = .int v then some (v, h) else none
theorem s_cret {X : XX} {I : MI} {pc npc i : Nat} {ls : List (Nat × TV)} {h : XM} {bc bs : Nat} {v : Int32} (hi : (mtab I)[i]? = some (pc, .ireturn, 1, npc)) (hret9 : I.2.2.1 = some .char) : SW (α := Int32 × XM) X I ρi pc ls [tI v] h bc bs (rzc h v) := by
  obtain ⟨G, p, l, e, s, m, args, below, meth, c⟩ := X
  obtain ⟨cc, nL, ret, own, nm, tab, mc, ms, nfr, nlo⟩ := I
  intro ok r hr H locs lsA cells slots hR hS hl hc hs
  obtain ⟨hx, hb, hml, hret, hown, hts, hlocks, hnm, htab, hG, hB⟩ := id ok
  obtain ⟨hd, hn⟩ := htab _ (List.mem_of_getElem? hi)
  have hn : npc = pc + 1 := hn
  subst hn
  unfold rzc at hr
  by_cases hz : narrow .char (.int v) = .int v
  · rw [if_pos hz] at hr
    cases hr
    have hret9 : ret = some .char := hret9
    subst hret9
    exact W.widen (k := mc) (n := ms) (by have hc : cells + bc ≤ mc := hc; omega) (by have hs : slots + bs ≤ ms := hs; omega) (W.zret (v := v) hx hb hret hz (fun t ht hW => ⟨rfl, by rw [ht]; exact hR, hS.F ht⟩) hS.2.2 hd)
  · rw [if_neg hz] at hr
    cases hr
theorem s_lret {X : XX} {I : MI} {pc npc i : Nat} {ls : List (Nat × TV)} {h : XM} {bc bs : Nat} {v : Int64} (hi : (mtab I)[i]? = some (pc, .lreturn, 1, npc)) (hret9 : I.2.2.1 = some .long) : SW (α := Int64 × XM) X I ρl pc ls [tL v] h bc bs (some (v, h)) := by
  obtain ⟨G, p, l, e, s, m, args, below, meth, c⟩ := X
  obtain ⟨cc, nL, ret, own, nm, tab, mc, ms, nfr, nlo⟩ := I
  intro ok r hr H locs lsA cells slots hR hS hl hc hs
  obtain ⟨hx, hb, hml, hret, hown, hts, hlocks, hnm, htab, hG, hB⟩ := id ok
  obtain ⟨hd, hn⟩ := htab _ (List.mem_of_getElem? hi)
  have hn : npc = pc + 1 := hn
  subst hn
  cases hr
  have hret9 : ret = some .long := hret9
  subst hret9
  exact W.widen (k := mc) (n := ms) (by have hc : cells + bc ≤ mc := hc; omega) (by have hs : slots + bs ≤ ms := hs; omega) (W.lret (v := v) hx hb hret (fun t ht hW => ⟨rfl, by rw [ht]; exact hR, hS.F ht⟩) hS.2.2 hd)
theorem s_aret {X : XX} {I : MI} {pc npc i : Nat} {ls : List (Nat × TV)} {h : XM} {bc bs : Nat} {v : Option Nat} (hi : (mtab I)[i]? = some (pc, .areturn, 1, npc)) {rt : FieldType} (hret9 : I.2.2.1 = some rt) (hrt : (∃ n, rt = .object n) ∨ ∃ t, rt = .array t) : SW (α := Option Nat × XM) X I ρa pc ls [tA v] h bc bs (some (v, h)) := by
  obtain ⟨G, p, l, e, s, m, args, below, meth, c⟩ := X
  obtain ⟨cc, nL, ret, own, nm, tab, mc, ms, nfr, nlo⟩ := I
  intro ok r hr H locs lsA cells slots hR hS hl hc hs
  obtain ⟨hx, hb, hml, hret, hown, hts, hlocks, hnm, htab, hG, hB⟩ := id ok
  obtain ⟨hd, hn⟩ := htab _ (List.mem_of_getElem? hi)
  have hn : npc = pc + 1 := hn
  subst hn
  cases hr
  have hret9 : ret = some rt := hret9
  subst hret9
  exact W.widen (k := mc) (n := ms) (by have hc : cells + bc ≤ mc := hc; omega) (by have hs : slots + bs ≤ ms := hs; omega) (W.aret (v := va_rf (v.map (xa G))) hx hb hret hrt (by cases v; exact Or.inl rfl; exact Or.inr ⟨_, rfl⟩) (fun t ht hW => ⟨rfl, by rw [ht]; exact hR, hS.F ht⟩) hS.2.2 hd)
theorem s_kret {X : XX} {I : MI} {pc npc i : Nat} {ls : List (Nat × TV)} {h : XM} {bc bs : Nat} {v : Nat} (hi : (mtab I)[i]? = some (pc, .areturn, 1, npc)) {rt : FieldType} (hret9 : I.2.2.1 = some rt) (hrt : (∃ n, rt = .object n) ∨ ∃ t, rt = .array t) : SW (α := Nat × XM) X I ρk pc ls [tK v] h bc bs (some (v, h)) := by
  obtain ⟨G, p, l, e, s, m, args, below, meth, c⟩ := X
  obtain ⟨cc, nL, ret, own, nm, tab, mc, ms, nfr, nlo⟩ := I
  intro ok r hr H locs lsA cells slots hR hS hl hc hs
  obtain ⟨hx, hb, hml, hret, hown, hts, hlocks, hnm, htab, hG, hB⟩ := id ok
  obtain ⟨hd, hn⟩ := htab _ (List.mem_of_getElem? hi)
  have hn : npc = pc + 1 := hn
  subst hn
  cases hr
  have hret9 : ret = some rt := hret9
  subst hret9
  exact W.widen (k := mc) (n := ms) (by have hc : cells + bc ≤ mc := hc; omega) (by have hs : slots + bs ≤ ms := hs; omega) (W.aret (v := xk G v) hx hb hret hrt (xk_ref G v) (fun t ht hW => ⟨rfl, by rw [ht]; exact hR, hS.F ht⟩) hS.2.2 hd)
theorem s_vret {X : XX} {I : MI} {pc npc i : Nat} {ls : List (Nat × TV)} {h : XM} {bc bs : Nat}  (hi : (mtab I)[i]? = some (pc, .return_, 1, npc)) (hret9 : I.2.2.1 = none) : SW (α := XM) X I ρv pc ls [] h bc bs (some h) := by
  obtain ⟨G, p, l, e, s, m, args, below, meth, c⟩ := X
  obtain ⟨cc, nL, ret, own, nm, tab, mc, ms, nfr, nlo⟩ := I
  intro ok r hr H locs lsA cells slots hR hS hl hc hs
  obtain ⟨hx, hb, hml, hret, hown, hts, hlocks, hnm, htab, hG, hB⟩ := id ok
  obtain ⟨hd, hn⟩ := htab _ (List.mem_of_getElem? hi)
  have hn : npc = pc + 1 := hn
  subst hn
  cases hr
  have hret9 : ret = none := hret9
  subst hret9
  exact W.widen (k := mc) (n := ms) (by have hc : cells + bc ≤ mc := hc; omega) (by have hs : slots + bs ≤ ms := hs; omega) (W.vret hx hb hret (fun t ht hW => ⟨rfl, by rw [ht]; exact hR, hS.F ht⟩) hS.2.2 hd)
theorem s_mmax {α : Type} {X : XX} {I : MI} {ρ : α → Option TV × XM} {pc npc i : Nat} {ls : List (Nat × TV)} {st : List TV} {h : XM} {bc bs : Nat} {o : Option α} {idx : Nat} {x y : Int32} (hi : (mtab I)[i]? = some (pc, .invokestatic idx, 3, npc)) (hw : Cond.methodLink I.2.2.2.1 idx Lib.Math.max.name ∈ XT ∧ Cond.static Lib.Math.max.name ∈ XT ∧ Cond.initialized "java/lang/Math" ∈ XT ∧ Cond.code Lib.Math.max.name Lib.Math.max.code 2 (some .int) ∈ XT) (hst : (st.map tcat).sum ≤ 8) (hroom : 1 ≤ I.2.2.2.2.2.2.2.2.1 ∧ 40 ≤ I.2.2.2.2.2.2.2.2.2) (k : SW X I ρ npc ls (tI (if x < y then y else x) :: st) h bc bs o) : SW X I ρ pc ls (tI y :: tI x :: st) h bc bs o := by
  obtain ⟨G, p, l, e, s, m, args, below, meth, c⟩ := X
  obtain ⟨cc, nL, ret, own, nm, tab, mc, ms, nfr, nlo⟩ := I
  intro ok r hr H locs lsA cells slots hR hS hl hc hs
  obtain ⟨hx, hb, hml, hret, hown, hts, hlocks, hnm, htab, hG, hB⟩ := id ok
  obtain ⟨hd, hn⟩ := htab _ (List.mem_of_getElem? hi)
  have hn : npc = pc + 3 := hn
  subst hn
  refine va_mmax hx hb (by show c.maxLocals = lsA.size; rw [hml]; exact hl.1.symm) hown (hts _ hw.1) (hts _ hw.2.1) (hts _ hw.2.2.1) (hts _ hw.2.2.2) hroom.1 (by rw [xcats]; have h40 : 40 ≤ nlo := hroom.2; show _ + 13 ≤ nlo; omega) (by show cells ≤ mc; have hc : cells + bc ≤ mc := hc; omega) (by show slots ≤ ms; have hs : slots + bs ≤ ms := hs; omega) hd ?_
  exact k ok r hr H locs lsA cells slots hR hS hl hc hs
theorem s_mmin {α : Type} {X : XX} {I : MI} {ρ : α → Option TV × XM} {pc npc i : Nat} {ls : List (Nat × TV)} {st : List TV} {h : XM} {bc bs : Nat} {o : Option α} {idx : Nat} {x y : Int32} (hi : (mtab I)[i]? = some (pc, .invokestatic idx, 3, npc)) (hw : Cond.methodLink I.2.2.2.1 idx Lib.Math.min.name ∈ XT ∧ Cond.static Lib.Math.min.name ∈ XT ∧ Cond.initialized "java/lang/Math" ∈ XT ∧ Cond.code Lib.Math.min.name Lib.Math.min.code 2 (some .int) ∈ XT) (hst : (st.map tcat).sum ≤ 8) (hroom : 1 ≤ I.2.2.2.2.2.2.2.2.1 ∧ 40 ≤ I.2.2.2.2.2.2.2.2.2) (k : SW X I ρ npc ls (tI (if y < x then y else x) :: st) h bc bs o) : SW X I ρ pc ls (tI y :: tI x :: st) h bc bs o := by
  obtain ⟨G, p, l, e, s, m, args, below, meth, c⟩ := X
  obtain ⟨cc, nL, ret, own, nm, tab, mc, ms, nfr, nlo⟩ := I
  intro ok r hr H locs lsA cells slots hR hS hl hc hs
  obtain ⟨hx, hb, hml, hret, hown, hts, hlocks, hnm, htab, hG, hB⟩ := id ok
  obtain ⟨hd, hn⟩ := htab _ (List.mem_of_getElem? hi)
  have hn : npc = pc + 3 := hn
  subst hn
  refine va_mmin hx hb (by show c.maxLocals = lsA.size; rw [hml]; exact hl.1.symm) hown (hts _ hw.1) (hts _ hw.2.1) (hts _ hw.2.2.1) (hts _ hw.2.2.2) hroom.1 (by rw [xcats]; have h40 : 40 ≤ nlo := hroom.2; show _ + 13 ≤ nlo; omega) (by show cells ≤ mc; have hc : cells + bc ≤ mc := hc; omega) (by show slots ≤ ms; have hs : slots + bs ≤ ms := hs; omega) hd ?_
  exact k ok r hr H locs lsA cells slots hR hS hl hc hs
end
section
/-! rows over SW: new cells, stores of references, copies (written by wip/whole/gen/gen_rows4.py) -/
theorem Rep.push {G : XG} {h h2 : XM} {H H1 : Heap} (hR : Rep G h H) (n : Nat) (hc : h2.1 = h.1 + n) (hE : ∀ b, b < h.1 → xE G h2 b = xE G h b) (hs : ∀ a, h2.1 ≤ a → xs h2 a = (99, 0)) (hn : ∀ a, (xs h2 a).1 < 10 → (xs h2 a).2 = xN (xs h2 a).1) (hat : ∀ j, j < n → va_at (gD G) xCl (gB G + (h.1 + j), xE G h2 (h.1 + j)) H1) (z : H1.size = H.size + n) (o : ∀ q, q < H.size → H1[q]? = H[q]?) : Rep G h2 H1 := by
  refine ⟨fun k q hq => ?_, by rw [z, hR.2.1, hc, Nat.add_assoc], hs, hn⟩
  obtain ⟨hk, rfl⟩ := xW_inv hq
  rcases Nat.lt_or_ge k h.1 with q | q
  · rw [hE k q]
    exact (hR.1 k _ (xW_get q)).kept (o _ (by rw [hR.2.1]; show gB G + k < _; omega))
  · have e : k = h.1 + (k - h.1) := by omega
    rw [e]
    exact hat _ (by omega)
theorem nw_E {G : XG} {h : XM} {k n b : Nat} (hb : b ≠ h.1) : xE G (nw h k n) b = xE G h b := by
  have e1 : xs (nw h k n) b = xs h b := by simp [nw, xs, hb]
  have e2 : xi (nw h k n) b = xi h b := by simp [nw, xi, hb]
  have e3 : xl (nw h k n) b = xl h b := by simp [nw, xl, hb]
  have e4 : xr (nw h k n) b = xr h b := by simp [nw, xr, hb]
  unfold xE xFs xAr
  rw [e1, e2, e3, e4]
theorem nw_s {h : XM} {k n : Nat} : xs (nw h k n) h.1 = (k, n) := by
  simp [nw, xs]
theorem nw_s2 {h : XM} {k n b : Nat} (hb : b ≠ h.1) : xs (nw h k n) b = xs h b := by
  simp [nw, xs, hb]
theorem Rep.push1 {G : XG} {h : XM} {H H1 : Heap} (hR : Rep G h H) {k n : Nat} (hkn : k < 10 → n = xN k) (hat : va_at (gD G) xCl (gB G + h.1, xE G (nw h k n) h.1) H1) (z : H1.size = H.size + 1) (o : ∀ q, q < H.size → H1[q]? = H[q]?) : Rep G (nw h k n) H1 := by
  refine hR.push 1 rfl (fun b hb => nw_E (Nat.ne_of_lt hb)) (fun a ha => ?_) (fun a ha => ?_) (fun j hj => ?_) z o
  · have ha : h.1 + 1 ≤ a := ha
    rw [nw_s2 (by omega)]
    exact hR.2.2.1 a (by omega)
  · by_cases e : a = h.1
    · subst e
      rw [nw_s] at ha ⊢
      exact hkn ha
    · rw [nw_s2 e] at ha ⊢
      exact hR.2.2.2 a ha
  · rw [show j = 0 by omega]
    exact hat
theorem xAr_i {G : XG} {h : XM} {a : Nat} (hk : (xs h a).1 = 10) : xAr G h a = ((xs h a).2, .inl (xi h a)) := by
  unfold xAr
  rw [hk]
  rfl
theorem xAr_l {G : XG} {h : XM} {a : Nat} (hk : (xs h a).1 = 11) : xAr G h a = ((xs h a).2, .inr (.inl (xl h a))) := by
  unfold xAr
  rw [hk]
  rfl
theorem xAr_r {G : XG} {h : XM} {a : Nat} (hk : 12 ≤ (xs h a).1) : xAr G h a = ((xs h a).2, .inr (.inr (.inr (.inr (fun j => (xr h a j).map (xa G)))))) := by
  unfold xAr
  rw [if_neg (by omega), if_neg (by omega)]
theorem xS_push {G : XG} {H0 H H1 : Heap} {locs : List Loc} (hS : va_S (fun q => gB G ≤ q) H0 H locs) {n : Nat} (z : H1.size = H.size + n) (o : ∀ q, q < H.size → H1[q]? = H[q]?) : va_S (fun q => gB G ≤ q) H0 H1 locs :=
  ⟨Nat.le_trans hS.1 (by omega), fun q h1 h2 => (o q (Nat.lt_of_lt_of_le h1 hS.1)).trans (hS.2.1 q h1 h2), hS.2.2⟩
theorem xFs_nw {G : XG} {h : XM} {k n j : Nat} (hj : j < n) : vp_V (xFs G (nw h k n) h.1) j = if xrf k j = true then .null else .int 0 := by
  rw [xFs_V (by rw [nw_s]; exact hj), nw_s]
  have e1 : xr (nw h k n) h.1 j = none := by simp [nw, xr]
  have e2 : xi (nw h k n) h.1 j = 0 := by simp [nw, xi]
  rw [e1, e2]
  rfl
theorem s_new {α : Type} {X : XX} {I : MI} {ρ : α → Option TV × XM} {pc npc i : Nat} {ls : List (Nat × TV)} {st : List TV} {h : XM} {bc bs : Nat} {F : XM → Option α} {idx kk N : Nat} {C : String} {T : u_T} {ty : Nat → FieldType} (hi : (mtab I)[i]? = some (pc, .new idx, 3, npc)) (hkc : xKC kk C T N ty) (hdef : ∀ j, j < N → defaultValue (ty j) = if xrf kk j = true then .null else .int 0) (hw : Cond.classLink I.2.2.2.1 idx C ∈ XT ∧ Cond.instantiable C N ∈ XT ∧ Cond.initialized C ∈ XT) (k : ∀ h2, SW X I ρ npc ls (tA (some (xc h)) :: st) h2 bc bs (F h2)) : SW X I ρ pc ls st h (1 + bc) (N + bs) ((nO h kk N).bind F) := by
  obtain ⟨G, p, l, e, s, m, args, below, meth, c⟩ := X
  obtain ⟨cc, nL, ret, own, nm, tab, mc, ms, nfr, nlo⟩ := I
  intro ok r hr H locs lsA cells slots hR hS hl hc hs
  obtain ⟨hx, hb, hml, hret, hown, hts, hlocks, hnm, htab, hG, hB⟩ := id ok
  obtain ⟨hd, hn⟩ := htab _ (List.mem_of_getElem? hi)
  have hn : npc = pc + 3 := hn
  subst hn
  obtain ⟨hcl, hin, hty, hnm9⟩ := hkc
  obtain ⟨hk10, hN⟩ := xN_of hcl
  have hKn := hG.1.1 kk _ hcl
  refine W.newcK hx hb hown (hts _ hw.1) (hts _ hw.2.1) (hts _ hw.2.2) rfl hd (by show cells + 1 ≤ mc; have hc : cells + (1 + bc) ≤ mc := hc; omega) (by show slots + N ≤ ms; have hs : slots + (N + bs) ≤ ms := hs; omega) hKn.2.1 rfl fun H1 kC hkC e1 z1 o1 => ?_
  have hz := hR.2.1
  have hR1 : Rep G (nw h kk N) H1 := by
    refine hR.push1 (fun _ => hN.symm) ?_ z1 o1
    rw [xE_obj (by rw [nw_s]) hk10]
    refine ⟨_, hcl, ?_⟩
    rw [hz] at e1
    exact (u_born ty hts hin hKn hkC e1 hty).to (fun j hj => by rw [xFs_nw hj]; exact hdef j hj)
  rw [hz]
  exact k _ ok r hr H1 locs lsA _ _ hR1 (xS_push hS z1 o1) hl (by show cells + 1 + bc ≤ mc; have hc : cells + (1 + bc) ≤ mc := hc; omega) (by show slots + N + bs ≤ ms; have hs : slots + (N + bs) ≤ ms := hs; omega)
theorem s_newarr {α : Type} {X : XX} {I : MI} {ρ : α → Option TV × XM} {pc npc i : Nat} {ls : List (Nat × TV)} {st : List TV} {h : XM} {bc bs : Nat} {F : XM → Option α} {at9 : ArrayType} {lim kk : Nat} {n : Int32} (hi : (mtab I)[i]? = some (pc, .newarray at9, 2, npc)) (hkk : (at9 = .int ∧ kk = 10) ∨ (at9 = .long ∧ kk = 11)) (hlim : lim ≤ 100000) (hw : Cond.arrayClass (newarray.typeOf at9) ∈ XT) (k : ∀ h2, SW X I ρ npc ls (tA (some (xc h)) :: st) h2 bc bs (F h2)) : SW X I ρ pc ls (tI n :: st) h (1 + bc) (lim + bs) ((nA h kk lim n).bind F) := by
  obtain ⟨G, p, l, e, s, m, args, below, meth, c⟩ := X
  obtain ⟨cc, nL, ret, own, nm, tab, mc, ms, nfr, nlo⟩ := I
  intro ok r hr H locs lsA cells slots hR hS hl hc hs
  obtain ⟨hx, hb, hml, hret, hown, hts, hlocks, hnm, htab, hG, hB⟩ := id ok
  obtain ⟨hd, hn⟩ := htab _ (List.mem_of_getElem? hi)
  have hn : npc = pc + 2 := hn
  subst hn
  unfold nA at hr
  by_cases hz : n < 0 ∨ lim < n.toNatClampNeg
  · rw [if_pos hz] at hr
    cases hr
  · rw [if_neg hz] at hr
    have hn0 : ¬ n < 0 := fun q => hz (Or.inl q)
    have hnl : n.toNatClampNeg ≤ lim := Nat.not_lt.mp fun q => hz (Or.inr q)
    have hsz := hR.2.1
    have hw9 := hts _ hw
    rcases hkk with ⟨e9, e8⟩ | ⟨e9, e8⟩ <;> subst e9 <;> subst e8
    · refine va_newaK hx hb hw9 rfl hd rfl hn0 rfl (show n.toNatClampNeg * 4 ≤ 536870912 by omega) (by show cells + 1 ≤ mc; have hc : cells + (1 + bc) ≤ mc := hc; omega) (by show slots + n.toNatClampNeg ≤ ms; have hs : slots + (lim + bs) ≤ ms := hs; omega) rfl fun H1 cA e1 z1 o1 hAr hfc => ?_
      have hcA : cA = gC G 10 := Option.some.inj (hfc.symm.trans (hG.1.2 0 _ rfl).2)
      subst hcA
      have hR1 : Rep G (nw h 10 n.toNatClampNeg) H1 := by
        refine hR.push1 (fun q => absurd q (by decide)) ?_ z1 o1
        rw [xE_arr (k := 10) (by rw [nw_s]) (by decide)]
        show H1[gB G + h.1]? = some (vp_cell _ _)
        rw [← hsz, e1, xAr_i (by rw [nw_s])]
        have e0 : xi (nw h 10 n.toNatClampNeg) h.1 = fun _ => 0 := by simp [nw, xi]
        rw [e0, nw_s]
        rfl
      rw [hsz]
      exact k _ ok r hr H1 locs lsA _ _ hR1 (xS_push hS z1 o1) hl (by show cells + 1 + bc ≤ mc; have hc : cells + (1 + bc) ≤ mc := hc; omega) (by show slots + n.toNatClampNeg + bs ≤ ms; have hs : slots + (lim + bs) ≤ ms := hs; omega)
    · refine va_newaK hx hb hw9 rfl hd rfl hn0 rfl (show n.toNatClampNeg * 8 ≤ 536870912 by omega) (by show cells + 1 ≤ mc; have hc : cells + (1 + bc) ≤ mc := hc; omega) (by show slots + n.toNatClampNeg ≤ ms; have hs : slots + (lim + bs) ≤ ms := hs; omega) rfl fun H1 cA e1 z1 o1 hAr hfc => ?_
      have hcA : cA = gC G 11 := Option.some.inj (hfc.symm.trans (hG.1.2 1 _ rfl).2)
      subst hcA
      have hR1 : Rep G (nw h 11 n.toNatClampNeg) H1 := by
        refine hR.push1 (fun q => absurd q (by decide)) ?_ z1 o1
        rw [xE_arr (k := 11) (by rw [nw_s]) (by decide)]
        show H1[gB G + h.1]? = some (vp_cell _ _)
        rw [← hsz, e1, xAr_l (by rw [nw_s])]
        have e0 : xl (nw h 11 n.toNatClampNeg) h.1 = fun _ => 0 := by simp [nw, xl]
        rw [e0, nw_s]
        rfl
      rw [hsz]
      exact k _ ok r hr H1 locs lsA _ _ hR1 (xS_push hS z1 o1) hl (by show cells + 1 + bc ≤ mc; have hc : cells + (1 + bc) ≤ mc := hc; omega) (by show slots + n.toNatClampNeg + bs ≤ ms; have hs : slots + (lim + bs) ≤ ms := hs; omega)
theorem s_anew {α : Type} {X : XX} {I : MI} {ρ : α → Option TV × XM} {pc npc i : Nat} {ls : List (Nat × TV)} {st : List TV} {h : XM} {bc bs : Nat} {F : XM → Option α} {idx lim kk t9 : Nat} {C : String} {n : Int32} (hi : (mtab I)[i]? = some (pc, .anewarray idx, 3, npc)) (hkk : (C = xR0 ∧ kk = 12 ∧ t9 = 2) ∨ (C = xR5 ∧ kk = 13 ∧ t9 = 3) ∨ (C = xR4 ∧ kk = 14 ∧ t9 = 4)) (hlim : lim ≤ 100000) (hw : Cond.classLink I.2.2.2.1 idx C ∈ XT) (k : ∀ h2, SW X I ρ npc ls (tA (some (xc h)) :: st) h2 bc bs (F h2)) : SW X I ρ pc ls (tI n :: st) h (1 + bc) (lim + bs) ((nA h kk lim n).bind F) := by
  obtain ⟨G, p, l, e, s, m, args, below, meth, c⟩ := X
  obtain ⟨cc, nL, ret, own, nm, tab, mc, ms, nfr, nlo⟩ := I
  intro ok r hr H locs lsA cells slots hR hS hl hc hs
  obtain ⟨hx, hb, hml, hret, hown, hts, hlocks, hnm, htab, hG, hB⟩ := id ok
  obtain ⟨hd, hn⟩ := htab _ (List.mem_of_getElem? hi)
  have hn : npc = pc + 3 := hn
  subst hn
  unfold nA at hr
  by_cases hz : n < 0 ∨ lim < n.toNatClampNeg
  · rw [if_pos hz] at hr
    cases hr
  · rw [if_neg hz] at hr
    have hn0 : ¬ n < 0 := fun q => hz (Or.inl q)
    have hnl : n.toNatClampNeg ≤ lim := Nat.not_lt.mp fun q => hz (Or.inr q)
    have hsz := hR.2.1
    have hov : va_AO C s := by
      rcases hkk with ⟨e9, -⟩ | ⟨e9, -⟩ | ⟨e9, -⟩ <;> subst e9
      · exact hG.2.2.2.2.2.2.2.1.1
      · exact hG.2.2.2.2.2.2.2.1.2.1
      · exact hG.2.2.2.2.2.2.2.1.2.2.1
    refine W.anew hx hb hown (hts _ hw) (va_AO.use hov) rfl hd rfl hn0 (by omega) (by show cells + 1 ≤ mc; have hc : cells + (1 + bc) ≤ mc := hc; omega) (by show slots + n.toNatClampNeg ≤ ms; have hs : slots + (lim + bs) ≤ ms := hs; omega) fun cA kA comp f1 f2 f3 f4 => ?_
    have hcA : cA = gC G kk ∧ 12 ≤ kk := by
      rcases hkk with ⟨e9, e8, -⟩ | ⟨e9, e8, -⟩ | ⟨e9, e8, -⟩ <;> subst e9 <;> subst e8
      · obtain ⟨_, _, _, _, _, g4⟩ := (hG.1.2 2 _ rfl).2
        exact ⟨Option.some.inj (f1.symm.trans g4), by decide⟩
      · obtain ⟨_, _, _, _, _, g4⟩ := (hG.1.2 3 _ rfl).2
        exact ⟨Option.some.inj (f1.symm.trans g4), by decide⟩
      · obtain ⟨_, _, _, _, _, g4⟩ := (hG.1.2 4 _ rfl).2
        exact ⟨Option.some.inj (f1.symm.trans g4), by decide⟩
    obtain ⟨hcA, hk12⟩ := hcA
    subst hcA
    generalize hH1 : H.push ({ cls := gC G kk, slots := Array.replicate n.toNatClampNeg .null, vm := .none } : Cell) = H1
    have z1 : H1.size = H.size + 1 := by rw [← hH1, Array.size_push]
    have e1 : H1[H.size]? = some (arrV (gC G kk) n.toNatClampNeg (fun _ => .null)) := by rw [← hH1, Array.getElem?_push_size, ← arrV_new]
    have o1 : ∀ q : Nat, q < H.size → H1[q]? = H[q]? := fun q hq => by rw [← hH1, Array.getElem?_push, if_neg (Nat.ne_of_lt hq)]
    have hR1 : Rep G (nw h kk n.toNatClampNeg) H1 := by
      refine hR.push1 (fun q => absurd q (by omega)) ?_ z1 o1
      rw [xE_arr (k := kk) (by rw [nw_s]) (by omega)]
      show H1[gB G + h.1]? = some (vp_cell _ _)
      rw [← hsz, e1, xAr_r (by rw [nw_s]; exact hk12)]
      have e0 : xr (nw h kk n.toNatClampNeg) h.1 = fun _ => none := by simp [nw, xr]
      rw [e0, nw_s]
      rfl
    rw [hsz]
    exact k _ ok r hr H1 locs lsA _ _ hR1 (xS_push hS z1 o1) hl (by show cells + 1 + bc ≤ mc; have hc : cells + (1 + bc) ≤ mc := hc; omega) (by show slots + n.toNatClampNeg + bs ≤ ms; have hs : slots + (lim + bs) ≤ ms := hs; omega)
theorem s_aastore {α : Type} {X : XX} {I : MI} {ρ : α → Option TV × XM} {pc npc i : Nat} {ls : List (Nat × TV)} {st : List TV} {h : XM} {bc bs : Nat} {F : XM → Option α} {j : Int32} {v r9 : Option Nat} {kk kv t9 : Nat} (hi : (mtab I)[i]? = some (pc, .aastore, 1, npc)) (hkk : (kk = 12 ∧ kv = 0 ∧ t9 = 2) ∨ (kk = 13 ∧ kv = 5 ∧ t9 = 3) ∨ (kk = 14 ∧ kv = 4 ∧ t9 = 4)) (k : ∀ h2, SW X I ρ npc ls st h2 bc bs (F h2)) : SW X I ρ pc ls (tA v :: tI j :: tA r9 :: st) h bc bs ((sR kk kv h r9 j v).bind F) := by
  obtain ⟨G, p, l, e, s, m, args, below, meth, c⟩ := X
  obtain ⟨cc, nL, ret, own, nm, tab, mc, ms, nfr, nlo⟩ := I
  intro ok r hr H locs lsA cells slots hR hS hl hc hs
  obtain ⟨hx, hb, hml, hret, hown, hts, hlocks, hnm, htab, hG, hB⟩ := id ok
  obtain ⟨hd, hn⟩ := htab _ (List.mem_of_getElem? hi)
  have hn : npc = pc + 1 := hn
  subst hn
  unfold sR at hr
  cases r9 with
  | none => cases hr
  | some a =>
  cases v with
  | none => cases hr
  | some b =>
    simp only [Option.bind_some] at hr
    by_cases hk9 : ((xs h a).1 = kk ∧ (xs h b).1 = kv) ∧ ¬ (j < 0 ∨ (xs h a).2 ≤ j.toNatClampNeg)
    · rw [if_pos hk9] at hr
      obtain ⟨⟨hk, hkv⟩, hin⟩ := hk9
      have hat := hR.at hk (by omega)
      rw [xE_arr hk (by omega)] at hat
      have hA : xAr G h a = ((xs h a).2, .inr (.inr (.inr (.inr (fun j => (xr h a j).map (xa G)))))) := by
        unfold xAr
        rw [hk, if_neg (by omega), if_neg (by omega)]
      rw [hA] at hat
      have hlt : j.toNatClampNeg < (xs h a).2 := Nat.not_le.mp fun q => hin (Or.inr q)
      have h0 : ¬ j < 0 := fun q => hin (Or.inl q)
      obtain ⟨C, T, N, hcl, htc⟩ : ∃ C T N, xCl[kv]? = some (C, T, N) ∧ (xtys G)[t9]? = some (gC G kk, .object C) := by
        rcases hkk with ⟨e7, e8, e9⟩ | ⟨e7, e8, e9⟩ | ⟨e7, e8, e9⟩ <;> subst e7 <;> subst e8 <;> subst e9
        · exact ⟨_, _, _, rfl, rfl⟩
        · exact ⟨_, _, _, rfl, rfl⟩
        · exact ⟨_, _, _, rfl, rfl⟩
      have hk10 := (xN_of hcl).1
      have hatv := hR.at hkv (by omega)
      rw [xE_obj hkv hk10] at hatv
      obtain ⟨r', hr', cellV, g1, g2, g3, -⟩ := hatv
      have hcls := (hG.1.1 kv _ hcl).2
      obtain ⟨kA, comp, k1, k2, k3, -⟩ := (hG.1.2 t9 _ htc).2
      have hcomp : comp = (gD G).1 kv := Option.some.inj (k3.symm.trans hcls.1)
      subst hcomp
      obtain ⟨kC, hkC, -⟩ := hcls.2
      refine W.aast hx hb hat (fun q h => by cases h) (fun h => by cases h) k1 k2 rfl hkC ⟨h0, by show _ < (arrV _ _ _).slots.size; rw [arrV_size]; exact hlt⟩ g1 (fun q h => by rw [g3] at h; cases h) (by rw [g2]; exact hkC) (by rw [g2]; exact va_assign hcls) rfl rfl hd fun H1 e1 e2 e3 => ?_
      refine k _ ok r hr H1 _ lsA cells slots (hR.set (h2 := wR h a j.toNatClampNeg (some b)) rfl rfl (fun b hb9 => xE_wR hb9) ?_ e2 e3) (hS.put e2 e3 (Nat.le_add_right _ _)) hl hc hs
      have hk2 : (xs (wR h a j.toNatClampNeg (some b)) a).1 = kk := hk
      rw [xE_arr hk2 (by omega)]
      have hA2 : xAr G (wR h a j.toNatClampNeg (some b)) a = ((xs h a).2, .inr (.inr (.inr (.inr (fun i => ((if i = j.toNatClampNeg then some b else xr h a i)).map (xa G)))))) := by
        unfold xAr
        rw [hk2, if_neg (by omega), if_neg (by omega)]
        have e7 : xr (wR h a j.toNatClampNeg (some b)) a = fun i => if i = j.toNatClampNeg then some b else xr h a i := by
          funext i
          exact w2_at
        rw [e7]
        rfl
      rw [hA2]
      show H1[gB G + a]? = some (vp_cell _ _)
      rw [e1, vp_cell_q, vp_cell_q, arrV_store]
      congr 2
      funext q
      by_cases hq : q = j.toNatClampNeg
      · subst hq
        simp [updV, va_rf, xa]
      · simp [updV, hq]
    · rw [if_neg hk9] at hr
      cases hr
def nwC (h : XM) (a : Nat) : XM := (h.1 + 1, (fun b => if b = h.1 then (10, (xs h a).2) else h.2.1 b), (fun b => if b = h.1 then xi h a else h.2.2.1 b), (fun b => if b = h.1 then fun _ => 0 else h.2.2.2.1 b), (fun b => if b = h.1 then fun _ => none else h.2.2.2.2 b))
def nC (h : XM) (lim : Nat) (r : Option Nat) : Option XM := r.bind fun a => if (xs h a).1 = 10 ∧ (xs h a).2 ≤ lim then some (nwC h a) else none
def cpM (h : XM) (a b sp dp n : Nat) : XM := (h.1, h.2.1, (fun c => if c = b then va_cpy (xi h a) (xi h b) sp dp n else h.2.2.1 c), h.2.2.2.1, h.2.2.2.2)
def cp (h : XM) (r1 : Option Nat) (sp : Int32) (r2 : Option Nat) (dp n : Int32) : Option XM := r1.bind fun a => r2.bind fun b => if ((xs h a).1 = 10 ∧ (xs h b).1 = 10) ∧ (¬ sp < 0 ∧ ¬ dp < 0 ∧ ¬ n < 0) ∧ sp.toNatClampNeg + n.toNatClampNeg ≤ (xs h a).2 ∧ dp.toNatClampNeg + n.toNatClampNeg ≤ (xs h b).2 then some (cpM h a b sp.toNatClampNeg dp.toNatClampNeg n.toNatClampNeg) else none
theorem nwC_E {G : XG} {h : XM} {a b : Nat} (hb : b ≠ h.1) : xE G (nwC h a) b = xE G h b := by
  have e1 : xs (nwC h a) b = xs h b := by simp [nwC, xs, hb]
  have e2 : xi (nwC h a) b = xi h b := by simp [nwC, xi, hb]
  have e3 : xl (nwC h a) b = xl h b := by simp [nwC, xl, hb]
  have e4 : xr (nwC h a) b = xr h b := by simp [nwC, xr, hb]
  unfold xE xFs xAr
  rw [e1, e2, e3, e4]
theorem nwC_s {h : XM} {a : Nat} : xs (nwC h a) h.1 = (10, (xs h a).2) := by
  simp [nwC, xs]
theorem nwC_s2 {h : XM} {a b : Nat} (hb : b ≠ h.1) : xs (nwC h a) b = xs h b := by
  simp [nwC, xs, hb]
theorem fits_arr {cA : ClassId} {n : Nat} {f : Nat → Int32} : ∀ (i : Nat) (v : Value), (vp_cell cA (n, .inl f)).slots[i]? = some v → fits .int v = true := by
  intro i v hv
  have hv : (arrV cA n (fun j => .int (f j))).slots[i]? = some v := hv
  have hi : i < n := by
    have := (Array.getElem?_eq_some_iff.mp hv).1
    rwa [arrV_size] at this
  rw [arrV_read _ _ hi] at hv
  cases hv
  rfl
theorem s_clone {α : Type} {X : XX} {I : MI} {ρ : α → Option TV × XM} {pc npc i : Nat} {ls : List (Nat × TV)} {st : List TV} {h : XM} {bc bs : Nat} {F : XM → Option α} {idx lim : Nat} {r9 : Option Nat} (hi : (mtab I)[i]? = some (pc, .invokevirtual idx, 3, npc)) (hw : Cond.methodLink I.2.2.2.1 idx ⟨"[I", "clone", "()Ljava/lang/Object;"⟩ ∈ XT ∧ Cond.sameMethod "[I" "java/lang/Object" "clone" "()Ljava/lang/Object;" ∈ XT ∧ Cond.native ⟨"java/lang/Object", "clone", "()Ljava/lang/Object;"⟩ ∈ XT ∧ Cond.instanceMethod ⟨"java/lang/Object", "clone", "()Ljava/lang/Object;"⟩ ∈ XT ∧ Cond.selects "[I" ⟨"[I", "clone", "()Ljava/lang/Object;"⟩ ⟨"java/lang/Object", "clone", "()Ljava/lang/Object;"⟩ ∈ XT) (hst : (st.map tcat).sum ≤ 8) (hroom : 1 ≤ I.2.2.2.2.2.2.2.2.1 ∧ 40 ≤ I.2.2.2.2.2.2.2.2.2) (k : ∀ h2, SW X I ρ npc ls (tA (some (xc h)) :: st) h2 bc bs (F h2)) : SW X I ρ pc ls (tA r9 :: st) h (1 + bc) (lim + bs) ((nC h lim r9).bind F) := by
  obtain ⟨G, p, l, e, s, m, args, below, meth, c⟩ := X
  obtain ⟨cc, nL, ret, own, nm, tab, mc, ms, nfr, nlo⟩ := I
  intro ok r hr H locs lsA cells slots hR hS hl hc hs
  obtain ⟨hx, hb, hml, hret, hown, hts, hlocks, hnm, htab, hG, hB⟩ := id ok
  obtain ⟨hd, hn⟩ := htab _ (List.mem_of_getElem? hi)
  have hn : npc = pc + 3 := hn
  subst hn
  unfold nC at hr
  cases r9 with
  | none => cases hr
  | some a =>
    simp only [Option.bind_some] at hr
    by_cases hz : (xs h a).1 = 10 ∧ (xs h a).2 ≤ lim
    · rw [if_pos hz] at hr
      obtain ⟨hk, hlim⟩ := hz
      have hsz := hR.2.1
      have hat := hR.at hk (by decide)
      rw [xE_arr hk (by decide)] at hat
      have hA : xAr G h a = ((xs h a).2, .inl (xi h a)) := by
        unfold xAr
        rw [hk]
        rfl
      rw [hA] at hat
      have hat : H[gB G + a]? = some (vp_cell (gC G 10) ((xs h a).2, .inl (xi h a))) := hat
      have hnm10 : s.vm.findClass "[I" = some (gC G 10) := (hG.1.2 0 _ rfl).2
      obtain ⟨c0, t0', f1, f2, f3⟩ := Cond.castable_spec (va_Nw.use (A := args) rfl hG.2.2.2.2.2.2.2.1.2.2.2.2)
      cases hnm10.symm.trans f1
      intro T9 hT X9
      have hcellT : T9.heap[gB G + a]? = some (vp_cell (gC G 10) ((xs h a).2, .inl (xi h a))) := by rw [hT]; exact hat
      obtain ⟨-, kA, hkA, comp, hkind⟩ := State.isArrayOf_alike X9.warmed.alike ((hG.1.2 0 _ rfl).1 0 (fun _ => .null))
      obtain ⟨-, kS, hkS, compS, hkindS⟩ := (hG.1.2 0 _ rfl).1 0 (fun _ => .null)
      have hsz9 : (vp_cell (gC G 10) ((xs h a).2, .inl (xi h a))).slots.size = (xs h a).2 := arrV_size _ _ _
      obtain ⟨vm', X', st'⟩ := X9.cloneArray hx hown (hts _ hw.1) (hts _ hw.2.1) (hts _ hw.2.2.1) (hts _ hw.2.2.2.1) (hts _ hw.2.2.2.2) (a := gB G + a) (cell := vp_cell (gC G 10) ((xs h a).2, .inl (xi h a))) hcellT (fun k h => by cases h) (fun h => by cases h) hnm10 f2 f3
        (fun i v hv => by
          have hk' : T9.vm.classes[gC G 10]? = some kA := hkA
          have hclq : (vp_cell (gC G 10) ((xs h a).2, .inl (xi h a))).cls = gC G 10 := rfl
          rw [hclq]
          simpa [State.fitsSlot, State.slotType?, hk', hkind] using fits_arr i v hv)
        (g := F0 m pc lsA (.ref (gB G + a) :: st.map (xtv G))) rfl (by show lsA.size = _; rw [hml]; exact hl.1) rfl (by rw [hb]; exact hd) hroom.1 (by rw [xcats]; show 2 * 0 + _ + 14 ≤ _; have h40 : 40 ≤ nlo := hroom.2; show 2 * 0 + _ + 14 ≤ nlo; omega) (by show cells + 1 ≤ mc; have hc : cells + (1 + bc) ≤ mc := hc; omega) (by rw [hsz9]; show slots + (xs h a).2 ≤ ms; have hs : slots + (lim + bs) ≤ ms := hs; omega) (hloader := Vm.clonesLoader_of_array hkS hkindS)
      have hcellE : ({ cls := (vp_cell (gC G 10) ((xs h a).2, .inl (xi h a))).cls, slots := (vp_cell (gC G 10) ((xs h a).2, .inl (xi h a))).slots } : Cell) = vp_cell (gC G 10) ((xs h a).2, .inl (xi h a)) := rfl
      rw [hcellE, hsz9] at X'
      generalize hH1 : H.push (vp_cell (gC G 10) ((xs h a).2, .inl (xi h a))) = H1
      have z1 : H1.size = H.size + 1 := by rw [← hH1, Array.size_push]
      have e1 : H1[H.size]? = some (vp_cell (gC G 10) ((xs h a).2, .inl (xi h a))) := by rw [← hH1, Array.getElem?_push_size]
      have o1 : ∀ q : Nat, q < H.size → H1[q]? = H[q]? := fun q hq => by rw [← hH1, Array.getElem?_push, if_neg (Nat.ne_of_lt hq)]
      have hR1 : Rep G (nwC h a) H1 := by
        refine hR.push 1 rfl (fun b hb => nwC_E (Nat.ne_of_lt hb)) (fun a9 ha => ?_) (fun a9 ha => ?_) (fun j hj => ?_) z1 o1
        · have ha : h.1 + 1 ≤ a9 := ha
          rw [nwC_s2 (by omega)]
          exact hR.2.2.1 a9 (by omega)
        · by_cases e : a9 = h.1
          · subst e
            rw [nwC_s] at ha
            exact absurd (show (10 : Nat) < 10 from ha) (by decide)
          · rw [nwC_s2 e] at ha ⊢
            exact hR.2.2.2 a9 ha
        · rw [show j = 0 by omega, Nat.add_zero, xE_arr (k := 10) (by rw [nwC_s]) (by decide)]
          show H1[gB G + h.1]? = some (vp_cell _ _)
          rw [← hsz, e1]
          rw [xAr_i (by rw [nwC_s]), nwC_s]
          have e0 : xi (nwC h a) h.1 = xi h a := by simp [nwC, xi]
          rw [e0]
      have K := k _ ok r hr H1 locs lsA (cells + 1) (slots + (xs h a).2) hR1 (xS_push hS z1 o1) hl (by show cells + 1 + bc ≤ mc; have hc : cells + (1 + bc) ≤ mc := hc; omega) (by show slots + (xs h a).2 + bs ≤ ms; have hs : slots + (lim + bs) ≤ ms := hs; omega)
      obtain ⟨t, b1, b2⟩ := K ((T9.setVm vm').pushCell (vp_cell (gC G 10) ((xs h a).2, .inl (xi h a)))) (by rw [← hH1, ← hT]; rfl) X'
      refine ⟨t, st' t ?_, b2⟩
      rw [hcellE, hT, hsz]
      exact b1
    · rw [if_neg hz] at hr
      cases hr
theorem s_castI {α : Type} {X : XX} {I : MI} {ρ : α → Option TV × XM} {pc npc i : Nat} {ls : List (Nat × TV)} {st : List TV} {h : XM} {bc bs : Nat} {o : Option α} {idx : Nat} {r9 : Option Nat} (hi : (mtab I)[i]? = some (pc, .checkcast idx, 3, npc)) (hw : Cond.classLink I.2.2.2.1 idx "[I" ∈ XT) (k : SW X I ρ npc ls (tA r9 :: st) h bc bs o) : SW X I ρ pc ls (tA r9 :: st) h bc bs (vc h 10 r9 o) := by
  obtain ⟨G, p, l, e, s, m, args, below, meth, c⟩ := X
  obtain ⟨cc, nL, ret, own, nm, tab, mc, ms, nfr, nlo⟩ := I
  intro ok r hr H locs lsA cells slots hR hS hl hc hs
  obtain ⟨hx, hb, hml, hret, hown, hts, hlocks, hnm, htab, hG, hB⟩ := id ok
  obtain ⟨hd, hn⟩ := htab _ (List.mem_of_getElem? hi)
  have hn : npc = pc + 3 := hn
  subst hn
  unfold vc at hr
  cases r9 with
  | none => cases hr
  | some a =>
    simp only [Option.bind_some] at hr
    by_cases hk : (xs h a).1 = 10
    · rw [if_pos hk] at hr
      have hwx := xW_get (G := G) (h := h) (a := a) (hR.lt hk (by decide))
      rw [xE_arr hk (by decide)] at hwx
      exact va_castA hx hb hown (hts _ hw) hR.1 a hwx (hG.1.2 0 _ rfl).2 hd (k ok r hr H locs lsA cells slots hR hS hl hc hs)
    · rw [if_neg hk] at hr
      cases hr
theorem xnn {z : Int32} (hz : ¬ z < 0) : z.toInt = (z.toNatClampNeg : Int) := by
  have hz0 : (0 : Int) ≤ z.toInt := by
    have := Int32.not_lt.mp hz
    simpa using Int32.le_iff_toInt_le.mp this
  show z.toInt = ((z.toInt.toNat : Nat) : Int)
  omega
theorem s_copy {α : Type} {X : XX} {I : MI} {ρ : α → Option TV × XM} {pc npc i : Nat} {ls : List (Nat × TV)} {st : List TV} {h : XM} {bc bs : Nat} {F : XM → Option α} {idx : Nat} {r1 r2 : Option Nat} {sp dp n : Int32} (hi : (mtab I)[i]? = some (pc, .invokestatic idx, 3, npc)) (hw : Cond.methodLink I.2.2.2.1 idx arraycopyName ∈ XT ∧ Cond.native arraycopyName ∈ XT ∧ Cond.static arraycopyName ∈ XT ∧ Cond.initialized "java/lang/System" ∈ XT) (hst : (st.map tcat).sum ≤ 8) (hroom : 1 ≤ I.2.2.2.2.2.2.2.2.1 ∧ 60 ≤ I.2.2.2.2.2.2.2.2.2) (k : ∀ h2, SW X I ρ npc ls st h2 bc bs (F h2)) : SW X I ρ pc ls (tI n :: tI dp :: tA r2 :: tI sp :: tA r1 :: st) h bc bs ((cp h r1 sp r2 dp n).bind F) := by
  obtain ⟨G, p, l, e, s, m, args, below, meth, c⟩ := X
  obtain ⟨cc, nL, ret, own, nm, tab, mc, ms, nfr, nlo⟩ := I
  intro ok r hr H locs lsA cells slots hR hS hl hc hs
  obtain ⟨hx, hb, hml, hret, hown, hts, hlocks, hnm, htab, hG, hB⟩ := id ok
  obtain ⟨hd, hn⟩ := htab _ (List.mem_of_getElem? hi)
  have hn : npc = pc + 3 := hn
  subst hn
  unfold cp at hr
  cases r1 with
  | none => cases hr
  | some a =>
  cases r2 with
  | none => cases hr
  | some b =>
    simp only [Option.bind_some] at hr
    by_cases hz : ((xs h a).1 = 10 ∧ (xs h b).1 = 10) ∧ (¬ sp < 0 ∧ ¬ dp < 0 ∧ ¬ n < 0) ∧ sp.toNatClampNeg + n.toNatClampNeg ≤ (xs h a).2 ∧ dp.toNatClampNeg + n.toNatClampNeg ≤ (xs h b).2
    · rw [if_pos hz] at hr
      obtain ⟨⟨hka, hkb⟩, ⟨h1, h2, h3⟩, h4, h5⟩ := hz
      have hc0 := hR.at hka (by decide)
      rw [xE_arr hka (by decide)] at hc0
      have hA : ∀ a, (xs h a).1 = 10 → xAr G h a = ((xs h a).2, .inl (xi h a)) := by
        intro a hk
        unfold xAr
        rw [hk]
        rfl
      rw [hA a hka] at hc0
      have hc1 := hR.at hkb (by decide)
      rw [xE_arr hkb (by decide), hA b hkb] at hc1
      have hc0 : H[gB G + a]? = some (vp_cell (gC G 10) ((xs h a).2, .inl (xi h a))) := hc0
      have hc1 : H[gB G + b]? = some (vp_cell (gC G 10) ((xs h b).2, .inl (xi h b))) := hc1
      have hlo9 : 2 * 0 + (st.map tcat).sum + (nativeFrameWords "java/lang/System" "arraycopy" 5 + 11) ≤ nlo := by
        have h60 : 60 ≤ nlo := hroom.2
        have e9 : nativeFrameWords "java/lang/System" "arraycopy" 5 + 11 ≤ 52 := by decide +kernel
        omega
      intro T9 hT X9
      obtain ⟨-, k0, hk0, cm0, hkk0⟩ := (hG.1.2 0 _ rfl).1 (xs h a).2 (fun j => .int (xi h a j))
      obtain ⟨-, k1, hk1, cm1, hkk1⟩ := (hG.1.2 0 _ rfl).1 (xs h b).2 (fun j => .int (xi h b j))
      obtain ⟨vm', X', step⟩ := X9.arraycopy hx hown (hts _ hw.1) (hts _ hw.2.1) (hts _ hw.2.2.1) (hts _ hw.2.2.2) (src := gB G + a) (dst := gB G + b) (cs := vp_cell (gC G 10) ((xs h a).2, .inl (xi h a))) (cd := vp_cell (gC G 10) ((xs h b).2, .inl (xi h b))) (srcPos := sp) (destPos := dp) (n := n) (by rw [hT]; exact hc0) (by rw [hT]; exact hc1)
        (fun _ h => by cases h) (fun _ h => by cases h) (fun h => by cases h) (fun h => by cases h) hk0 hk1 hkk0 hkk1 (by simp) h1 h2 h3
        (by rw [xnn h1, xnn h3]; show ¬ _ > ((arrV (gC G 10) (xs h a).2 (fun j => .int (xi h a j))).slots.size : Int); rw [arrV_size]; omega)
        (by rw [xnn h2, xnn h3]; show ¬ _ > ((arrV (gC G 10) (xs h b).2 (fun j => .int (xi h b j))).slots.size : Int); rw [arrV_size]; omega)
        (fun vm₁ _ i hi => by
          have e : (vp_cell (gC G 10) ((xs h a).2, .inl (xi h a))).slots.getD (sp.toNatClampNeg + i) .null = .int (xi h a (sp.toNatClampNeg + i)) := by
            show (arrV (gC G 10) (xs h a).2 (fun j => .int (xi h a j))).slots.getD _ _ = _
            rw [Array.getD_eq_getD_getElem?, arrV_read _ _ (by omega)]
            rfl
          refine ⟨?_, ?_⟩
          · rw [e]
            rfl
          · rw [e]
            exact trivial)
        (g := F0 m pc lsA (.int n :: .int dp :: .ref (gB G + b) :: .int sp :: .ref (gB G + a) :: st.map (xtv G))) rfl (by show lsA.size = _; rw [hml]; exact hl.1) (rest := st.map (xtv G)) rfl (by rw [hb]; exact hd) hroom.1 (by rw [xcats]; exact hlo9)
      have e1 : copied (vp_cell (gC G 10) ((xs h a).2, .inl (xi h a))) (vp_cell (gC G 10) ((xs h b).2, .inl (xi h b))) sp dp n = vp_cell (gC G 10) ((xs h b).2, .inl (va_cpy (xi h a) (xi h b) sp.toNatClampNeg dp.toNatClampNeg n.toNatClampNeg)) := va_copied (fun z => .int z) (gC G 10) (gC G 10) (xi h a) (xi h b) h4
      rw [e1] at X' step
      have hl9 : gB G + b < H.size := (Array.getElem?_eq_some_iff.mp hc1).1
      generalize hH1 : H.setIfInBounds (gB G + b) (vp_cell (gC G 10) ((xs h b).2, .inl (va_cpy (xi h a) (xi h b) sp.toNatClampNeg dp.toNatClampNeg n.toNatClampNeg))) = H1
      have hheap : ((T9.setVm vm').setCell (gB G + b) (vp_cell (gC G 10) ((xs h b).2, .inl (va_cpy (xi h a) (xi h b) sp.toNatClampNeg dp.toNatClampNeg n.toNatClampNeg)))).heap = H1 := by rw [← hH1, ← hT]; rfl
      have oq : ∀ q : Nat, q ≠ gB G + b → H1[q]? = H[q]? := fun q hq => by rw [← hH1]; simp [Array.getElem?_setIfInBounds, Ne.symm hq]
      have z1 : H1.size = H.size := by rw [← hH1]; simp
      have hR1 : Rep G (cpM h a b sp.toNatClampNeg dp.toNatClampNeg n.toNatClampNeg) H1 := by
        refine hR.set (a := b) rfl rfl (fun c hc9 => ?_) ?_ z1 oq
        · have e5 : xi (cpM h a b sp.toNatClampNeg dp.toNatClampNeg n.toNatClampNeg) c = xi h c := by simp [cpM, xi, hc9]
          unfold xE xFs xAr
          rw [e5]
          rfl
        · have hk2 : (xs (cpM h a b sp.toNatClampNeg dp.toNatClampNeg n.toNatClampNeg) b).1 = 10 := hkb
          rw [xE_arr hk2 (by decide)]
          have e6 : xAr G (cpM h a b sp.toNatClampNeg dp.toNatClampNeg n.toNatClampNeg) b = ((xs h b).2, .inl (va_cpy (xi h a) (xi h b) sp.toNatClampNeg dp.toNatClampNeg n.toNatClampNeg)) := by
            unfold xAr
            rw [hk2]
            have e5 : xi (cpM h a b sp.toNatClampNeg dp.toNatClampNeg n.toNatClampNeg) b = va_cpy (xi h a) (xi h b) sp.toNatClampNeg dp.toNatClampNeg n.toNatClampNeg := by simp [cpM, xi]
            rw [e5]
            rfl
          rw [e6]
          show H1[gB G + b]? = some _
          rw [← hH1]
          simp [Array.getElem?_setIfInBounds, hl9]
      obtain ⟨t, a1, b1⟩ := k _ ok r hr H1 _ lsA cells slots hR1 ⟨by rw [z1]; exact hS.1, fun q g1 g2 => by
          rw [oq q (fun e => g2 (by rw [e]; exact Nat.le_add_right _ _))]
          exact hS.2.1 q g1 g2, fun q hq => by
          rcases List.mem_append.mp hq with h | h
          · exact hS.2.2 q h
          · obtain ⟨z, -, hz⟩ := List.mem_map.mp h
            rw [← hz]
            exact Nat.le_add_right _ _⟩ hl hc hs _ hheap X'
      exact ⟨t, step t a1, b1⟩
    · rw [if_neg hz] at hr
      cases hr
def nwM (h : XM) (n k : Nat) : XM := (h.1 + (1 + n), (fun b => if b = h.1 then (15, n) else if h.1 < b ∧ b < h.1 + (1 + n) then (10, k) else h.2.1 b), (fun b => if h.1 ≤ b ∧ b < h.1 + (1 + n) then fun _ => 0 else h.2.2.1 b), (fun b => if h.1 ≤ b ∧ b < h.1 + (1 + n) then fun _ => 0 else h.2.2.2.1 b), (fun b => if b = h.1 then (fun j => if j < n then some (h.1 + 1 + j) else none) else if h.1 < b ∧ b < h.1 + (1 + n) then fun _ => none else h.2.2.2.2 b))
def nM (h : XM) (n k : Int32) : Option XM := if n < 0 ∨ k < 0 ∨ 10 < n.toNatClampNeg ∨ 10 < k.toNatClampNeg then none else some (nwM h n.toNatClampNeg k.toNatClampNeg)
theorem nwM_lo {G : XG} {h : XM} {n k b : Nat} (hb : b < h.1) : xE G (nwM h n k) b = xE G h b := by
  have e1 : xs (nwM h n k) b = xs h b := by
    show (if b = h.1 then _ else if h.1 < b ∧ _ then _ else _) = _
    rw [if_neg (by omega), if_neg (by omega)]
    rfl
  have e2 : xi (nwM h n k) b = xi h b := by
    show (if h.1 ≤ b ∧ _ then _ else _) = _
    rw [if_neg (by omega)]
    rfl
  have e3 : xl (nwM h n k) b = xl h b := by
    show (if h.1 ≤ b ∧ _ then _ else _) = _
    rw [if_neg (by omega)]
    rfl
  have e4 : xr (nwM h n k) b = xr h b := by
    show (if b = h.1 then _ else if h.1 < b ∧ _ then _ else _) = _
    rw [if_neg (by omega), if_neg (by omega)]
    rfl
  unfold xE xFs xAr
  rw [e1, e2, e3, e4]
theorem nwM_s0 {h : XM} {n k : Nat} : xs (nwM h n k) h.1 = (15, n) := if_pos rfl
theorem nwM_s1 {h : XM} {n k b : Nat} (hb : h.1 < b ∧ b < h.1 + (1 + n)) : xs (nwM h n k) b = (10, k) := by
  show (if b = h.1 then _ else if h.1 < b ∧ _ then _ else _) = _
  rw [if_neg (by omega), if_pos hb]
theorem nwM_s2 {h : XM} {n k b : Nat} (hb : b < h.1 ∨ h.1 + (1 + n) ≤ b) : xs (nwM h n k) b = xs h b := by
  show (if b = h.1 then _ else if h.1 < b ∧ _ then _ else _) = _
  rw [if_neg (by omega), if_neg (by omega)]
  rfl
theorem xouter (c : ClassId) (N h0 : Nat) : ∀ i : Nat, Multi.outerC c N h0 i = arrV c N (fun j => va_rf (if j < i then some (h0 + 1 + j) else none))
  | 0 => by
    show ({ cls := c, slots := Array.replicate N .null, vm := .none } : Cell) = _
    rw [arrV_new]
    refine congrArg (arrV c N) (funext fun j => ?_)
    simp [va_rf]
  | i + 1 => by
    show (Multi.outerC c N h0 i).setSlot i (.ref (h0 + 1 + i)) = _
    rw [xouter c N h0 i, arrV_store]
    refine congrArg (arrV c N) (funext fun j => ?_)
    by_cases e : j = i
    · subst e
      simp [updV, va_rf]
    · by_cases h : j < i
      · simp [updV, e, h, Nat.lt_succ_of_lt h]
      · simp [updV, e, h, show ¬ j < i + 1 by omega]
theorem s_mna {α : Type} {X : XX} {I : MI} {ρ : α → Option TV × XM} {pc npc i : Nat} {ls : List (Nat × TV)} {st : List TV} {h : XM} {bc bs : Nat} {F : XM → Option α} {idx : Nat} {n k9 : Int32} (hi : (mtab I)[i]? = some (pc, .multianewarray idx 2, 4, npc)) (hw : Cond.classLink I.2.2.2.1 idx "[[I" ∈ XT ∧ Cond.arrayClass .int ∈ XT) (k : ∀ h2, SW X I ρ npc ls (tA (some (xc h)) :: st) h2 bc bs (F h2)) : SW X I ρ pc ls (tI k9 :: tI n :: st) h (11 + bc) (110 + bs) ((nM h n k9).bind F) := by
  obtain ⟨G, p, l, e, s, m, args, below, meth, c⟩ := X
  obtain ⟨cc, nL, ret, own, nm, tab, mc, ms, nfr, nlo⟩ := I
  intro ok r hr H locs lsA cells slots hR hS hl hc hs
  obtain ⟨hx, hb, hml, hret, hown, hts, hlocks, hnm, htab, hG, hB⟩ := id ok
  obtain ⟨hd, hn⟩ := htab _ (List.mem_of_getElem? hi)
  have hn : npc = pc + 4 := hn
  subst hn
  unfold nM at hr
  by_cases hz : n < 0 ∨ k9 < 0 ∨ 10 < n.toNatClampNeg ∨ 10 < k9.toNatClampNeg
  · rw [if_pos hz] at hr
    cases hr
  · rw [if_neg hz] at hr
    have hn0 : ¬ n < 0 := fun q => hz (Or.inl q)
    have hk0 : ¬ k9 < 0 := fun q => hz (Or.inr (Or.inl q))
    have hnl : n.toNatClampNeg ≤ 10 := Nat.not_lt.mp fun q => hz (Or.inr (Or.inr (Or.inl q)))
    have hkl : k9.toNatClampNeg ≤ 10 := Nat.not_lt.mp fun q => hz (Or.inr (Or.inr (Or.inr q)))
    have hmul : n.toNatClampNeg * k9.toNatClampNeg ≤ 10 * 10 := Nat.mul_le_mul hnl hkl
    have hsz := hR.2.1
    intro T9 hT X9
    obtain ⟨vm₁, cA, comp, -, fA, fC, hO, -, X', step⟩ := X9.multianewarray2F hx hown (ty := .int) (hts _ hw.1) (show (Cond.arrayOver (.array .int)).before args s = true from hG.2.2.2.2.2.2.2.1.2.2.2.1) (hts _ hw.2) (g := F0 m pc lsA (.int k9 :: .int n :: st.map (xtv G))) rfl (by rw [hb]; exact hd) rfl hn0 hk0 (by omega) (show k9.toNatClampNeg * 4 ≤ 536870912 by omega) (by omega) rfl rfl (by show cells + (1 + n.toNatClampNeg) ≤ mc; have hc : cells + (11 + bc) ≤ mc := hc; omega) (by show slots + (n.toNatClampNeg + n.toNatClampNeg * k9.toNatClampNeg) ≤ ms; have hs : slots + (110 + bs) ≤ ms := hs; omega)
    have hcomp : comp = gC G 10 := Option.some.inj (fC.symm.trans (hG.1.2 0 _ rfl).2)
    have hcA : cA = gC G 15 := Option.some.inj (fA.symm.trans (hG.1.2 5 _ rfl).2)
    subst hcomp
    subst hcA
    generalize hF : Multi.fill (T9.setVm vm₁) (gC G 15) (gC G 10) n.toNatClampNeg k9.toNatClampNeg (defaultValue .int) n.toNatClampNeg = F9 at X' step
    have hTh : (T9.setVm vm₁).heap = H := hT
    obtain ⟨f1, f2, -, -⟩ := Multi.fill_facts (T9.setVm vm₁) (gC G 15) (gC G 10) n.toNatClampNeg k9.toNatClampNeg (defaultValue .int) n.toNatClampNeg
    rw [hF, hTh] at f1 f2
    have hold : ∀ x : Nat, x < H.size → F9.heap[x]? = H[x]? := fun x hx => by
      have := Multi.fill_old (T9.setVm vm₁) (gC G 15) (gC G 10) n.toNatClampNeg k9.toNatClampNeg (defaultValue .int) (a := x) (by rw [hTh]; exact hx) n.toNatClampNeg
      rw [hF, hTh] at this
      exact this
    have hrow : ∀ j : Nat, j < n.toNatClampNeg → F9.heap[H.size + 1 + j]? = some (vp_cell (gC G 10) (k9.toNatClampNeg, .inl (fun _ => 0))) := fun j hj => by
      have := Multi.fill_inner (T9.setVm vm₁) (gC G 15) (gC G 10) n.toNatClampNeg k9.toNatClampNeg (defaultValue .int) n.toNatClampNeg j hj
      rw [hF, hTh] at this
      rw [this, vp_cell_i, ← arrV_new]
      rfl
    rw [xouter] at f2
    have z1 : F9.heap.size = H.size + (1 + n.toNatClampNeg) := by rw [f1]; omega
    have hR1 : Rep G (nwM h n.toNatClampNeg k9.toNatClampNeg) F9.heap := by
      refine hR.push (1 + n.toNatClampNeg) rfl (fun b hb => nwM_lo hb) (fun a9 ha => ?_) (fun a9 ha => ?_) (fun j hj => ?_) z1 hold
      · have ha : h.1 + (1 + n.toNatClampNeg) ≤ a9 := ha
        rw [nwM_s2 (Or.inr ha)]
        exact hR.2.2.1 a9 (by omega)
      · by_cases e : a9 = h.1
        · subst e
          rw [nwM_s0] at ha
          exact absurd (show (15 : Nat) < 10 from ha) (by decide)
        · by_cases e2 : h.1 < a9 ∧ a9 < h.1 + (1 + n.toNatClampNeg)
          · rw [nwM_s1 e2] at ha
            exact absurd (show (10 : Nat) < 10 from ha) (by decide)
          · rw [nwM_s2 (by omega)] at ha ⊢
            exact hR.2.2.2 a9 ha
      · by_cases e : j = 0
        · subst e
          rw [Nat.add_zero, xE_arr (k := 15) (by rw [nwM_s0]) (by decide), xAr_r (by rw [nwM_s0]; show (12 : Nat) ≤ 15; decide)]
          show F9.heap[gB G + h.1]? = some (vp_cell _ _)
          rw [← hsz, f2, nwM_s0]
          have e0 : xr (nwM h n.toNatClampNeg k9.toNatClampNeg) h.1 = fun j => if j < n.toNatClampNeg then some (h.1 + 1 + j) else none := if_pos rfl
          rw [e0]
          show some _ = some (vp_cell (gC G 15) (n.toNatClampNeg, .inr (.inr (.inr (.inr (fun j => (if j < n.toNatClampNeg then some (h.1 + 1 + j) else none).map (xa G)))))))
          rw [vp_cell_q]
          congr 2
          funext i9
          by_cases q : i9 < n.toNatClampNeg
          · rw [if_pos q, if_pos q]
            show Value.ref _ = Value.ref _
            rw [hsz]
            exact congrArg Value.ref (show gB G + h.1 + 1 + i9 = gB G + (h.1 + 1 + i9) by omega)
          · rw [if_neg q, if_neg q]
            rfl
        · rw [xE_arr (k := 10) (by rw [nwM_s1 (by omega)]) (by decide), xAr_i (by rw [nwM_s1 (by omega)])]
          show F9.heap[gB G + (h.1 + j)]? = some (vp_cell _ _)
          have e3 : gB G + (h.1 + j) = H.size + 1 + (j - 1) := by rw [hsz]; omega
          rw [e3, hrow (j - 1) (by omega), nwM_s1 (by omega)]
          have e0 : xi (nwM h n.toNatClampNeg k9.toNatClampNeg) (h.1 + j) = fun _ => 0 := if_pos (by omega)
          rw [e0]
    have K := k _ ok r hr F9.heap locs lsA (cells + 1 + n.toNatClampNeg) (slots + n.toNatClampNeg + n.toNatClampNeg * k9.toNatClampNeg) hR1 (xS_push hS z1 hold) hl (by show cells + 1 + n.toNatClampNeg + bc ≤ mc; have hc : cells + (11 + bc) ≤ mc := hc; omega) (by show slots + n.toNatClampNeg + n.toNatClampNeg * k9.toNatClampNeg + bs ≤ ms; have hs : slots + (110 + bs) ≤ ms := hs; omega)
    rw [List.map_cons] at K
    have e4 : xtv G (tA (some (xc h))) = .ref H.size := by rw [hsz]; rfl
    rw [e4] at K
    obtain ⟨t, b1, b2⟩ := K F9 rfl X'
    refine ⟨t, step t ?_, b2⟩
    rw [← hTh] at b1
    exact b1
end
section
/-! rows as the generator uses them (written by wip/whole/gen/gen_rows5.py) -/
def FU : Nat := 5000
/-- a value gets a name -/
def bnd {β α : Type} (e : β) (F : β → Option α) : Option α := F e
theorem bnd_eq {β α : Type} (e : β) (F : β → Option α) : bnd e F = F e := rfl
theorem s_none {α : Type} {X : XX} {I : MI} {ρ : α → Option TV × XM} {pc : Nat} {ls : List (Nat × TV)} {st : List TV} {h : XM} {bc bs : Nat} : SW X I ρ pc ls st h bc bs (none : Option α) := by
  obtain ⟨G, p, l, e, s, m, args, below, meth, c⟩ := X
  intro ok r hr
  cases hr
theorem s_bnd {α : Type} {X : XX} {I : MI} {ρ : α → Option TV × XM} {pc : Nat} {ls : List (Nat × TV)} {st : List TV} {h : XM} {bc bs : Nat} {F : Int32 → Option α} {e : Int32} (k : ∀ v, SW X I ρ pc ls (tI v :: st) h bc bs (F v)) : SW X I ρ pc ls (tI e :: st) h bc bs (bnd e F) := k e
theorem s_bndL {α : Type} {X : XX} {I : MI} {ρ : α → Option TV × XM} {pc : Nat} {ls : List (Nat × TV)} {st : List TV} {h : XM} {bc bs : Nat} {F : Int64 → Option α} {e : Int64} (k : ∀ v, SW X I ρ pc ls (tL v :: st) h bc bs (F v)) : SW X I ρ pc ls (tL e :: st) h bc bs (bnd e F) := k e
theorem s_bnd2 {α : Type} {X : XX} {I : MI} {ρ : α → Option TV × XM} {pc : Nat} {ls : List (Nat × TV)} {st : List TV} {h : XM} {bc bs : Nat} {F : Int32 → Option α} {e : Int32} {u : TV} (k : ∀ v, SW X I ρ pc ls (u :: tI v :: st) h bc bs (F v)) : SW X I ρ pc ls (u :: tI e :: st) h bc bs (bnd e F) := k e
theorem s_inc {α : Type} {X : XX} {I : MI} {ρ : α → Option TV × XM} {pc npc i : Nat} {ls : List (Nat × TV)} {st : List TV} {h : XM} {bc bs : Nat} {F : Int32 → Option α} {j : Nat} {n : Int} {x c9 : Int32} (hi : (mtab I)[i]? = some (pc, .iinc j n, 3, npc)) (q : Nat) (hq : ls[q]? = some (j, tI x)) (hv : Int32.ofInt n = c9) (hj : j < I.2.1) (k : ∀ v, SW X I ρ npc (lset j (tI v) ls) st h bc bs (F v)) : SW X I ρ pc ls st h bc bs (bnd (x + c9) F) := by
  subst hv
  exact s_iinc hi q hq rfl hj rfl (k _)
theorem s_ls {α : Type} {X : XX} {I : MI} {ρ : α → Option TV × XM} {pc : Nat} {ls ls2 : List (Nat × TV)} {st : List TV} {h : XM} {bc bs : Nat} {o : Option α} (hls : ls = ls2) (k : SW X I ρ pc ls2 st h bc bs o) : SW X I ρ pc ls st h bc bs o := by
  rw [hls]
  exact k
theorem s_bud {α : Type} {X : XX} {I : MI} {ρ : α → Option TV × XM} {pc : Nat} {ls : List (Nat × TV)} {st : List TV} {h : XM} {bc bs : Nat} {o : Option α} (bc1 bs1 : Nat) (h1 : bc1 ≤ bc) (h2 : bs1 ≤ bs) (k : SW X I ρ pc ls st h bc1 bs1 o) : SW X I ρ pc ls st h bc bs o := by
  obtain ⟨G, p, l, e, s, m, args, below, meth, c⟩ := X
  intro ok r hr H locs lsA cells slots hR hS hl hc hs
  exact k ok r hr H locs lsA cells slots hR hS hl (by omega) (by omega)
theorem MC_none {α : Type} {J : MI} {y : MethodName} {av : List TV} {h : XM} {ρ : α → Option TV × XM} : MC J y av h ρ (none : Option α) := fun G l r hr => by cases hr
theorem xRm.of {J I : MI} (h : (Nat.ble (J.2.2.2.2.2.2.2.2.1 + 1) I.2.2.2.2.2.2.2.2.1 && Nat.ble (8 + (J.2.1 + 11) + J.2.2.2.2.2.2.2.2.2) I.2.2.2.2.2.2.2.2.2) = true) : xRm J I := by
  rw [Bool.and_eq_true] at h
  exact ⟨Nat.le_of_ble_eq_true h.1, Nat.le_of_ble_eq_true h.2⟩
theorem xRm.in {J I : MI} (a : J.2.2.2.2.2.2.2.2.1 + 1 ≤ I.2.2.2.2.2.2.2.2.1) (b : 8 + (J.2.1 + 11) + J.2.2.2.2.2.2.2.2.2 ≤ I.2.2.2.2.2.2.2.2.2) : xRm J I := ⟨a, b⟩
theorem swT_out {dflt lo hi9 : Int} {offs : Array Int} {x : Int32} (h : ∀ k : Int, lo ≤ k → k ≤ hi9 → (offs[(k - lo).toNat]?).getD dflt = dflt ∨ ¬ x = Int32.ofInt k) : swT dflt lo hi9 offs x = dflt := by
  unfold swT
  by_cases hz : x.toInt < lo ∨ hi9 < x.toInt
  · rw [if_pos hz]
  · rw [if_neg hz]
    rcases h x.toInt (by omega) (by omega) with q | q
    · exact q
    · exact absurd (Int32.ofInt_toInt x).symm q
theorem t_callVi {α : Type} {X : XX} {I : MI} {ρ : α → Option TV × XM} {pc npc i : Nat} {ls : List (Nat × TV)} {stk : List TV} {h : XM} {bc bs : Nat} {F : Int32 × XM → Option α} {oc : Option (Int32 × XM)} {J : MI} {idx kk n : Nat} {y : MethodName} (As : List TV) (r9 : Option Nat) (st : List TV) (hstk : As.reverse ++ tA r9 :: st = stk) (hi : (mtab I)[i]? = some (pc, .invokevirtual idx, 3, npc)) (hM : MC J y (tA r9 :: As) h ρi oc) (hw : xCM y J kk n) (hlk : Cond.methodLink I.2.2.2.1 idx y ∈ XT) (hnA : As.length = n) (hst : (st.map tcat).sum ≤ 8) (hroom : xRm J I) (k : ∀ q, SW X I ρ npc ls (tI q.1 :: st) (q.2) bc bs (F q)) : SW X I ρ pc ls stk h (mmc J + bc) (mms J + bs) ((vc h kk r9 oc).bind F) := by
  subst hstk
  exact s_callVi As hi hM hw hlk hnA hst hroom k
theorem u_callVi {α : Type} {X : XX} {I : MI} {ρ : α → Option TV × XM} {pc npc i : Nat} {ls : List (Nat × TV)} {stk : List TV} {h : XM} {bc bs : Nat} {F : Int32 × XM → Option α} {oc : Option (Int32 × XM)} {J : MI} {idx kk n : Nat} {y : MethodName} (As : List TV) (r9 : Option Nat) (st : List TV) (hstk : As.reverse ++ tA r9 :: st = stk) (hi : (mtab I)[i]? = some (pc, .invokevirtual idx, 3, npc)) (hM : MC J y (tA r9 :: As) h ρi oc) (hw : xCM y J kk n) (hlk : Cond.methodLink I.2.2.2.1 idx y ∈ XT) (hnA : As.length = n) (hst : (st.map tcat).sum ≤ 8) (hroom : xRm J I) (hz : mmc J = 0 ∧ mms J = 0) (k : ∀ q, SW X I ρ npc ls (tI q.1 :: st) (q.2) bc bs (F q)) : SW X I ρ pc ls stk h bc bs ((vc h kk r9 oc).bind F) := by
  have K := t_callVi (kk := kk) As r9 st hstk hi hM hw hlk hnA hst hroom k
  rw [hz.1, hz.2, Nat.zero_add, Nat.zero_add] at K
  exact K
theorem t_callVv {α : Type} {X : XX} {I : MI} {ρ : α → Option TV × XM} {pc npc i : Nat} {ls : List (Nat × TV)} {stk : List TV} {h : XM} {bc bs : Nat} {F : XM → Option α} {oc : Option (XM)} {J : MI} {idx kk n : Nat} {y : MethodName} (As : List TV) (r9 : Option Nat) (st : List TV) (hstk : As.reverse ++ tA r9 :: st = stk) (hi : (mtab I)[i]? = some (pc, .invokevirtual idx, 3, npc)) (hM : MC J y (tA r9 :: As) h ρv oc) (hw : xCM y J kk n) (hlk : Cond.methodLink I.2.2.2.1 idx y ∈ XT) (hnA : As.length = n) (hst : (st.map tcat).sum ≤ 8) (hroom : xRm J I) (k : ∀ q, SW X I ρ npc ls (st) (q) bc bs (F q)) : SW X I ρ pc ls stk h (mmc J + bc) (mms J + bs) ((vc h kk r9 oc).bind F) := by
  subst hstk
  exact s_callVv As hi hM hw hlk hnA hst hroom k
theorem u_callVv {α : Type} {X : XX} {I : MI} {ρ : α → Option TV × XM} {pc npc i : Nat} {ls : List (Nat × TV)} {stk : List TV} {h : XM} {bc bs : Nat} {F : XM → Option α} {oc : Option (XM)} {J : MI} {idx kk n : Nat} {y : MethodName} (As : List TV) (r9 : Option Nat) (st : List TV) (hstk : As.reverse ++ tA r9 :: st = stk) (hi : (mtab I)[i]? = some (pc, .invokevirtual idx, 3, npc)) (hM : MC J y (tA r9 :: As) h ρv oc) (hw : xCM y J kk n) (hlk : Cond.methodLink I.2.2.2.1 idx y ∈ XT) (hnA : As.length = n) (hst : (st.map tcat).sum ≤ 8) (hroom : xRm J I) (hz : mmc J = 0 ∧ mms J = 0) (k : ∀ q, SW X I ρ npc ls (st) (q) bc bs (F q)) : SW X I ρ pc ls stk h bc bs ((vc h kk r9 oc).bind F) := by
  have K := t_callVv (kk := kk) As r9 st hstk hi hM hw hlk hnA hst hroom k
  rw [hz.1, hz.2, Nat.zero_add, Nat.zero_add] at K
  exact K
theorem t_callVa {α : Type} {X : XX} {I : MI} {ρ : α → Option TV × XM} {pc npc i : Nat} {ls : List (Nat × TV)} {stk : List TV} {h : XM} {bc bs : Nat} {F : Option Nat × XM → Option α} {oc : Option (Option Nat × XM)} {J : MI} {idx kk n : Nat} {y : MethodName} (As : List TV) (r9 : Option Nat) (st : List TV) (hstk : As.reverse ++ tA r9 :: st = stk) (hi : (mtab I)[i]? = some (pc, .invokevirtual idx, 3, npc)) (hM : MC J y (tA r9 :: As) h ρa oc) (hw : xCM y J kk n) (hlk : Cond.methodLink I.2.2.2.1 idx y ∈ XT) (hnA : As.length = n) (hst : (st.map tcat).sum ≤ 8) (hroom : xRm J I) (k : ∀ q, SW X I ρ npc ls (tA q.1 :: st) (q.2) bc bs (F q)) : SW X I ρ pc ls stk h (mmc J + bc) (mms J + bs) ((vc h kk r9 oc).bind F) := by
  subst hstk
  exact s_callVa As hi hM hw hlk hnA hst hroom k
theorem u_callVa {α : Type} {X : XX} {I : MI} {ρ : α → Option TV × XM} {pc npc i : Nat} {ls : List (Nat × TV)} {stk : List TV} {h : XM} {bc bs : Nat} {F : Option Nat × XM → Option α} {oc : Option (Option Nat × XM)} {J : MI} {idx kk n : Nat} {y : MethodName} (As : List TV) (r9 : Option Nat) (st : List TV) (hstk : As.reverse ++ tA r9 :: st = stk) (hi : (mtab I)[i]? = some (pc, .invokevirtual idx, 3, npc)) (hM : MC J y (tA r9 :: As) h ρa oc) (hw : xCM y J kk n) (hlk : Cond.methodLink I.2.2.2.1 idx y ∈ XT) (hnA : As.length = n) (hst : (st.map tcat).sum ≤ 8) (hroom : xRm J I) (hz : mmc J = 0 ∧ mms J = 0) (k : ∀ q, SW X I ρ npc ls (tA q.1 :: st) (q.2) bc bs (F q)) : SW X I ρ pc ls stk h bc bs ((vc h kk r9 oc).bind F) := by
  have K := t_callVa (kk := kk) As r9 st hstk hi hM hw hlk hnA hst hroom k
  rw [hz.1, hz.2, Nat.zero_add, Nat.zero_add] at K
  exact K
theorem t_callVl {α : Type} {X : XX} {I : MI} {ρ : α → Option TV × XM} {pc npc i : Nat} {ls : List (Nat × TV)} {stk : List TV} {h : XM} {bc bs : Nat} {F : Int64 × XM → Option α} {oc : Option (Int64 × XM)} {J : MI} {idx kk n : Nat} {y : MethodName} (As : List TV) (r9 : Option Nat) (st : List TV) (hstk : As.reverse ++ tA r9 :: st = stk) (hi : (mtab I)[i]? = some (pc, .invokevirtual idx, 3, npc)) (hM : MC J y (tA r9 :: As) h ρl oc) (hw : xCM y J kk n) (hlk : Cond.methodLink I.2.2.2.1 idx y ∈ XT) (hnA : As.length = n) (hst : (st.map tcat).sum ≤ 8) (hroom : xRm J I) (k : ∀ q, SW X I ρ npc ls (tL q.1 :: st) (q.2) bc bs (F q)) : SW X I ρ pc ls stk h (mmc J + bc) (mms J + bs) ((vc h kk r9 oc).bind F) := by
  subst hstk
  exact s_callVl As hi hM hw hlk hnA hst hroom k
theorem u_callVl {α : Type} {X : XX} {I : MI} {ρ : α → Option TV × XM} {pc npc i : Nat} {ls : List (Nat × TV)} {stk : List TV} {h : XM} {bc bs : Nat} {F : Int64 × XM → Option α} {oc : Option (Int64 × XM)} {J : MI} {idx kk n : Nat} {y : MethodName} (As : List TV) (r9 : Option Nat) (st : List TV) (hstk : As.reverse ++ tA r9 :: st = stk) (hi : (mtab I)[i]? = some (pc, .invokevirtual idx, 3, npc)) (hM : MC J y (tA r9 :: As) h ρl oc) (hw : xCM y J kk n) (hlk : Cond.methodLink I.2.2.2.1 idx y ∈ XT) (hnA : As.length = n) (hst : (st.map tcat).sum ≤ 8) (hroom : xRm J I) (hz : mmc J = 0 ∧ mms J = 0) (k : ∀ q, SW X I ρ npc ls (tL q.1 :: st) (q.2) bc bs (F q)) : SW X I ρ pc ls stk h bc bs ((vc h kk r9 oc).bind F) := by
  have K := t_callVl (kk := kk) As r9 st hstk hi hM hw hlk hnA hst hroom k
  rw [hz.1, hz.2, Nat.zero_add, Nat.zero_add] at K
  exact K
theorem t_callVk {α : Type} {X : XX} {I : MI} {ρ : α → Option TV × XM} {pc npc i : Nat} {ls : List (Nat × TV)} {stk : List TV} {h : XM} {bc bs : Nat} {F : Nat × XM → Option α} {oc : Option (Nat × XM)} {J : MI} {idx kk n : Nat} {y : MethodName} (As : List TV) (r9 : Option Nat) (st : List TV) (hstk : As.reverse ++ tA r9 :: st = stk) (hi : (mtab I)[i]? = some (pc, .invokevirtual idx, 3, npc)) (hM : MC J y (tA r9 :: As) h ρk oc) (hw : xCM y J kk n) (hlk : Cond.methodLink I.2.2.2.1 idx y ∈ XT) (hnA : As.length = n) (hst : (st.map tcat).sum ≤ 8) (hroom : xRm J I) (k : ∀ q, SW X I ρ npc ls (tK q.1 :: st) (q.2) bc bs (F q)) : SW X I ρ pc ls stk h (mmc J + bc) (mms J + bs) ((vc h kk r9 oc).bind F) := by
  subst hstk
  exact s_callVk As hi hM hw hlk hnA hst hroom k
theorem u_callVk {α : Type} {X : XX} {I : MI} {ρ : α → Option TV × XM} {pc npc i : Nat} {ls : List (Nat × TV)} {stk : List TV} {h : XM} {bc bs : Nat} {F : Nat × XM → Option α} {oc : Option (Nat × XM)} {J : MI} {idx kk n : Nat} {y : MethodName} (As : List TV) (r9 : Option Nat) (st : List TV) (hstk : As.reverse ++ tA r9 :: st = stk) (hi : (mtab I)[i]? = some (pc, .invokevirtual idx, 3, npc)) (hM : MC J y (tA r9 :: As) h ρk oc) (hw : xCM y J kk n) (hlk : Cond.methodLink I.2.2.2.1 idx y ∈ XT) (hnA : As.length = n) (hst : (st.map tcat).sum ≤ 8) (hroom : xRm J I) (hz : mmc J = 0 ∧ mms J = 0) (k : ∀ q, SW X I ρ npc ls (tK q.1 :: st) (q.2) bc bs (F q)) : SW X I ρ pc ls stk h bc bs ((vc h kk r9 oc).bind F) := by
  have K := t_callVk (kk := kk) As r9 st hstk hi hM hw hlk hnA hst hroom k
  rw [hz.1, hz.2, Nat.zero_add, Nat.zero_add] at K
  exact K
theorem t_callKi {α : Type} {X : XX} {I : MI} {ρ : α → Option TV × XM} {pc npc i : Nat} {ls : List (Nat × TV)} {stk : List TV} {h : XM} {bc bs : Nat} {F : Int32 × XM → Option α} {oc : Option (Int32 × XM)} {J : MI} {idx n : Nat} {y : MethodName} (As : List TV) (n9 : Nat) (st : List TV) (hstk : As.reverse ++ tK n9 :: st = stk) (hi : (mtab I)[i]? = some (pc, .invokevirtual idx, 3, npc)) (hM : MC J y (tK n9 :: As) h ρi oc) (hw : xCK y J n) (hlk : Cond.methodLink I.2.2.2.1 idx y ∈ XT) (hnA : As.length = n) (hst : (st.map tcat).sum ≤ 8) (hroom : xRm J I) (k : ∀ q, SW X I ρ npc ls (tI q.1 :: st) (q.2) bc bs (F q)) : SW X I ρ pc ls stk h (mmc J + bc) (mms J + bs) ((vk n9 oc).bind F) := by
  subst hstk
  exact s_callKi As hi hM hw hlk hnA hst hroom k
theorem u_callKi {α : Type} {X : XX} {I : MI} {ρ : α → Option TV × XM} {pc npc i : Nat} {ls : List (Nat × TV)} {stk : List TV} {h : XM} {bc bs : Nat} {F : Int32 × XM → Option α} {oc : Option (Int32 × XM)} {J : MI} {idx n : Nat} {y : MethodName} (As : List TV) (n9 : Nat) (st : List TV) (hstk : As.reverse ++ tK n9 :: st = stk) (hi : (mtab I)[i]? = some (pc, .invokevirtual idx, 3, npc)) (hM : MC J y (tK n9 :: As) h ρi oc) (hw : xCK y J n) (hlk : Cond.methodLink I.2.2.2.1 idx y ∈ XT) (hnA : As.length = n) (hst : (st.map tcat).sum ≤ 8) (hroom : xRm J I) (hz : mmc J = 0 ∧ mms J = 0) (k : ∀ q, SW X I ρ npc ls (tI q.1 :: st) (q.2) bc bs (F q)) : SW X I ρ pc ls stk h bc bs ((vk n9 oc).bind F) := by
  have K := t_callKi As n9 st hstk hi hM hw hlk hnA hst hroom k
  rw [hz.1, hz.2, Nat.zero_add, Nat.zero_add] at K
  exact K
theorem t_callKv {α : Type} {X : XX} {I : MI} {ρ : α → Option TV × XM} {pc npc i : Nat} {ls : List (Nat × TV)} {stk : List TV} {h : XM} {bc bs : Nat} {F : XM → Option α} {oc : Option (XM)} {J : MI} {idx n : Nat} {y : MethodName} (As : List TV) (n9 : Nat) (st : List TV) (hstk : As.reverse ++ tK n9 :: st = stk) (hi : (mtab I)[i]? = some (pc, .invokevirtual idx, 3, npc)) (hM : MC J y (tK n9 :: As) h ρv oc) (hw : xCK y J n) (hlk : Cond.methodLink I.2.2.2.1 idx y ∈ XT) (hnA : As.length = n) (hst : (st.map tcat).sum ≤ 8) (hroom : xRm J I) (k : ∀ q, SW X I ρ npc ls (st) (q) bc bs (F q)) : SW X I ρ pc ls stk h (mmc J + bc) (mms J + bs) ((vk n9 oc).bind F) := by
  subst hstk
  exact s_callKv As hi hM hw hlk hnA hst hroom k
theorem u_callKv {α : Type} {X : XX} {I : MI} {ρ : α → Option TV × XM} {pc npc i : Nat} {ls : List (Nat × TV)} {stk : List TV} {h : XM} {bc bs : Nat} {F : XM → Option α} {oc : Option (XM)} {J : MI} {idx n : Nat} {y : MethodName} (As : List TV) (n9 : Nat) (st : List TV) (hstk : As.reverse ++ tK n9 :: st = stk) (hi : (mtab I)[i]? = some (pc, .invokevirtual idx, 3, npc)) (hM : MC J y (tK n9 :: As) h ρv oc) (hw : xCK y J n) (hlk : Cond.methodLink I.2.2.2.1 idx y ∈ XT) (hnA : As.length = n) (hst : (st.map tcat).sum ≤ 8) (hroom : xRm J I) (hz : mmc J = 0 ∧ mms J = 0) (k : ∀ q, SW X I ρ npc ls (st) (q) bc bs (F q)) : SW X I ρ pc ls stk h bc bs ((vk n9 oc).bind F) := by
  have K := t_callKv As n9 st hstk hi hM hw hlk hnA hst hroom k
  rw [hz.1, hz.2, Nat.zero_add, Nat.zero_add] at K
  exact K
theorem t_callKa {α : Type} {X : XX} {I : MI} {ρ : α → Option TV × XM} {pc npc i : Nat} {ls : List (Nat × TV)} {stk : List TV} {h : XM} {bc bs : Nat} {F : Option Nat × XM → Option α} {oc : Option (Option Nat × XM)} {J : MI} {idx n : Nat} {y : MethodName} (As : List TV) (n9 : Nat) (st : List TV) (hstk : As.reverse ++ tK n9 :: st = stk) (hi : (mtab I)[i]? = some (pc, .invokevirtual idx, 3, npc)) (hM : MC J y (tK n9 :: As) h ρa oc) (hw : xCK y J n) (hlk : Cond.methodLink I.2.2.2.1 idx y ∈ XT) (hnA : As.length = n) (hst : (st.map tcat).sum ≤ 8) (hroom : xRm J I) (k : ∀ q, SW X I ρ npc ls (tA q.1 :: st) (q.2) bc bs (F q)) : SW X I ρ pc ls stk h (mmc J + bc) (mms J + bs) ((vk n9 oc).bind F) := by
  subst hstk
  exact s_callKa As hi hM hw hlk hnA hst hroom k
theorem u_callKa {α : Type} {X : XX} {I : MI} {ρ : α → Option TV × XM} {pc npc i : Nat} {ls : List (Nat × TV)} {stk : List TV} {h : XM} {bc bs : Nat} {F : Option Nat × XM → Option α} {oc : Option (Option Nat × XM)} {J : MI} {idx n : Nat} {y : MethodName} (As : List TV) (n9 : Nat) (st : List TV) (hstk : As.reverse ++ tK n9 :: st = stk) (hi : (mtab I)[i]? = some (pc, .invokevirtual idx, 3, npc)) (hM : MC J y (tK n9 :: As) h ρa oc) (hw : xCK y J n) (hlk : Cond.methodLink I.2.2.2.1 idx y ∈ XT) (hnA : As.length = n) (hst : (st.map tcat).sum ≤ 8) (hroom : xRm J I) (hz : mmc J = 0 ∧ mms J = 0) (k : ∀ q, SW X I ρ npc ls (tA q.1 :: st) (q.2) bc bs (F q)) : SW X I ρ pc ls stk h bc bs ((vk n9 oc).bind F) := by
  have K := t_callKa As n9 st hstk hi hM hw hlk hnA hst hroom k
  rw [hz.1, hz.2, Nat.zero_add, Nat.zero_add] at K
  exact K
theorem t_callKl {α : Type} {X : XX} {I : MI} {ρ : α → Option TV × XM} {pc npc i : Nat} {ls : List (Nat × TV)} {stk : List TV} {h : XM} {bc bs : Nat} {F : Int64 × XM → Option α} {oc : Option (Int64 × XM)} {J : MI} {idx n : Nat} {y : MethodName} (As : List TV) (n9 : Nat) (st : List TV) (hstk : As.reverse ++ tK n9 :: st = stk) (hi : (mtab I)[i]? = some (pc, .invokevirtual idx, 3, npc)) (hM : MC J y (tK n9 :: As) h ρl oc) (hw : xCK y J n) (hlk : Cond.methodLink I.2.2.2.1 idx y ∈ XT) (hnA : As.length = n) (hst : (st.map tcat).sum ≤ 8) (hroom : xRm J I) (k : ∀ q, SW X I ρ npc ls (tL q.1 :: st) (q.2) bc bs (F q)) : SW X I ρ pc ls stk h (mmc J + bc) (mms J + bs) ((vk n9 oc).bind F) := by
  subst hstk
  exact s_callKl As hi hM hw hlk hnA hst hroom k
theorem u_callKl {α : Type} {X : XX} {I : MI} {ρ : α → Option TV × XM} {pc npc i : Nat} {ls : List (Nat × TV)} {stk : List TV} {h : XM} {bc bs : Nat} {F : Int64 × XM → Option α} {oc : Option (Int64 × XM)} {J : MI} {idx n : Nat} {y : MethodName} (As : List TV) (n9 : Nat) (st : List TV) (hstk : As.reverse ++ tK n9 :: st = stk) (hi : (mtab I)[i]? = some (pc, .invokevirtual idx, 3, npc)) (hM : MC J y (tK n9 :: As) h ρl oc) (hw : xCK y J n) (hlk : Cond.methodLink I.2.2.2.1 idx y ∈ XT) (hnA : As.length = n) (hst : (st.map tcat).sum ≤ 8) (hroom : xRm J I) (hz : mmc J = 0 ∧ mms J = 0) (k : ∀ q, SW X I ρ npc ls (tL q.1 :: st) (q.2) bc bs (F q)) : SW X I ρ pc ls stk h bc bs ((vk n9 oc).bind F) := by
  have K := t_callKl As n9 st hstk hi hM hw hlk hnA hst hroom k
  rw [hz.1, hz.2, Nat.zero_add, Nat.zero_add] at K
  exact K
theorem t_callSi {α : Type} {X : XX} {I : MI} {ρ : α → Option TV × XM} {pc npc i : Nat} {ls : List (Nat × TV)} {stk : List TV} {h : XM} {bc bs : Nat} {F : Int32 × XM → Option α} {oc : Option (Int32 × XM)} {J : MI} {idx n : Nat} {y : MethodName} (As : List TV)  (st : List TV) (hstk : As.reverse ++ st = stk) (hi : (mtab I)[i]? = some (pc, .invokestatic idx, 3, npc)) (hM : MC J y (As) h ρi oc) (hw : xCS y J n) (hlk : Cond.methodLink I.2.2.2.1 idx y ∈ XT) (hnA : As.length = n) (hst : (st.map tcat).sum ≤ 8) (hroom : xRm J I) (k : ∀ q, SW X I ρ npc ls (tI q.1 :: st) (q.2) bc bs (F q)) : SW X I ρ pc ls stk h (mmc J + bc) (mms J + bs) ((oc).bind F) := by
  subst hstk
  exact s_callSi As hi hM hw hlk hnA hst hroom k
theorem u_callSi {α : Type} {X : XX} {I : MI} {ρ : α → Option TV × XM} {pc npc i : Nat} {ls : List (Nat × TV)} {stk : List TV} {h : XM} {bc bs : Nat} {F : Int32 × XM → Option α} {oc : Option (Int32 × XM)} {J : MI} {idx n : Nat} {y : MethodName} (As : List TV)  (st : List TV) (hstk : As.reverse ++ st = stk) (hi : (mtab I)[i]? = some (pc, .invokestatic idx, 3, npc)) (hM : MC J y (As) h ρi oc) (hw : xCS y J n) (hlk : Cond.methodLink I.2.2.2.1 idx y ∈ XT) (hnA : As.length = n) (hst : (st.map tcat).sum ≤ 8) (hroom : xRm J I) (hz : mmc J = 0 ∧ mms J = 0) (k : ∀ q, SW X I ρ npc ls (tI q.1 :: st) (q.2) bc bs (F q)) : SW X I ρ pc ls stk h bc bs ((oc).bind F) := by
  have K := t_callSi As st hstk hi hM hw hlk hnA hst hroom k
  rw [hz.1, hz.2, Nat.zero_add, Nat.zero_add] at K
  exact K
theorem t_callSv {α : Type} {X : XX} {I : MI} {ρ : α → Option TV × XM} {pc npc i : Nat} {ls : List (Nat × TV)} {stk : List TV} {h : XM} {bc bs : Nat} {F : XM → Option α} {oc : Option (XM)} {J : MI} {idx n : Nat} {y : MethodName} (As : List TV)  (st : List TV) (hstk : As.reverse ++ st = stk) (hi : (mtab I)[i]? = some (pc, .invokestatic idx, 3, npc)) (hM : MC J y (As) h ρv oc) (hw : xCS y J n) (hlk : Cond.methodLink I.2.2.2.1 idx y ∈ XT) (hnA : As.length = n) (hst : (st.map tcat).sum ≤ 8) (hroom : xRm J I) (k : ∀ q, SW X I ρ npc ls (st) (q) bc bs (F q)) : SW X I ρ pc ls stk h (mmc J + bc) (mms J + bs) ((oc).bind F) := by
  subst hstk
  exact s_callSv As hi hM hw hlk hnA hst hroom k
theorem u_callSv {α : Type} {X : XX} {I : MI} {ρ : α → Option TV × XM} {pc npc i : Nat} {ls : List (Nat × TV)} {stk : List TV} {h : XM} {bc bs : Nat} {F : XM → Option α} {oc : Option (XM)} {J : MI} {idx n : Nat} {y : MethodName} (As : List TV)  (st : List TV) (hstk : As.reverse ++ st = stk) (hi : (mtab I)[i]? = some (pc, .invokestatic idx, 3, npc)) (hM : MC J y (As) h ρv oc) (hw : xCS y J n) (hlk : Cond.methodLink I.2.2.2.1 idx y ∈ XT) (hnA : As.length = n) (hst : (st.map tcat).sum ≤ 8) (hroom : xRm J I) (hz : mmc J = 0 ∧ mms J = 0) (k : ∀ q, SW X I ρ npc ls (st) (q) bc bs (F q)) : SW X I ρ pc ls stk h bc bs ((oc).bind F) := by
  have K := t_callSv As st hstk hi hM hw hlk hnA hst hroom k
  rw [hz.1, hz.2, Nat.zero_add, Nat.zero_add] at K
  exact K
theorem t_callSa {α : Type} {X : XX} {I : MI} {ρ : α → Option TV × XM} {pc npc i : Nat} {ls : List (Nat × TV)} {stk : List TV} {h : XM} {bc bs : Nat} {F : Option Nat × XM → Option α} {oc : Option (Option Nat × XM)} {J : MI} {idx n : Nat} {y : MethodName} (As : List TV)  (st : List TV) (hstk : As.reverse ++ st = stk) (hi : (mtab I)[i]? = some (pc, .invokestatic idx, 3, npc)) (hM : MC J y (As) h ρa oc) (hw : xCS y J n) (hlk : Cond.methodLink I.2.2.2.1 idx y ∈ XT) (hnA : As.length = n) (hst : (st.map tcat).sum ≤ 8) (hroom : xRm J I) (k : ∀ q, SW X I ρ npc ls (tA q.1 :: st) (q.2) bc bs (F q)) : SW X I ρ pc ls stk h (mmc J + bc) (mms J + bs) ((oc).bind F) := by
  subst hstk
  exact s_callSa As hi hM hw hlk hnA hst hroom k
theorem u_callSa {α : Type} {X : XX} {I : MI} {ρ : α → Option TV × XM} {pc npc i : Nat} {ls : List (Nat × TV)} {stk : List TV} {h : XM} {bc bs : Nat} {F : Option Nat × XM → Option α} {oc : Option (Option Nat × XM)} {J : MI} {idx n : Nat} {y : MethodName} (As : List TV)  (st : List TV) (hstk : As.reverse ++ st = stk) (hi : (mtab I)[i]? = some (pc, .invokestatic idx, 3, npc)) (hM : MC J y (As) h ρa oc) (hw : xCS y J n) (hlk : Cond.methodLink I.2.2.2.1 idx y ∈ XT) (hnA : As.length = n) (hst : (st.map tcat).sum ≤ 8) (hroom : xRm J I) (hz : mmc J = 0 ∧ mms J = 0) (k : ∀ q, SW X I ρ npc ls (tA q.1 :: st) (q.2) bc bs (F q)) : SW X I ρ pc ls stk h bc bs ((oc).bind F) := by
  have K := t_callSa As st hstk hi hM hw hlk hnA hst hroom k
  rw [hz.1, hz.2, Nat.zero_add, Nat.zero_add] at K
  exact K
theorem t_callSl {α : Type} {X : XX} {I : MI} {ρ : α → Option TV × XM} {pc npc i : Nat} {ls : List (Nat × TV)} {stk : List TV} {h : XM} {bc bs : Nat} {F : Int64 × XM → Option α} {oc : Option (Int64 × XM)} {J : MI} {idx n : Nat} {y : MethodName} (As : List TV)  (st : List TV) (hstk : As.reverse ++ st = stk) (hi : (mtab I)[i]? = some (pc, .invokestatic idx, 3, npc)) (hM : MC J y (As) h ρl oc) (hw : xCS y J n) (hlk : Cond.methodLink I.2.2.2.1 idx y ∈ XT) (hnA : As.length = n) (hst : (st.map tcat).sum ≤ 8) (hroom : xRm J I) (k : ∀ q, SW X I ρ npc ls (tL q.1 :: st) (q.2) bc bs (F q)) : SW X I ρ pc ls stk h (mmc J + bc) (mms J + bs) ((oc).bind F) := by
  subst hstk
  exact s_callSl As hi hM hw hlk hnA hst hroom k
theorem u_callSl {α : Type} {X : XX} {I : MI} {ρ : α → Option TV × XM} {pc npc i : Nat} {ls : List (Nat × TV)} {stk : List TV} {h : XM} {bc bs : Nat} {F : Int64 × XM → Option α} {oc : Option (Int64 × XM)} {J : MI} {idx n : Nat} {y : MethodName} (As : List TV)  (st : List TV) (hstk : As.reverse ++ st = stk) (hi : (mtab I)[i]? = some (pc, .invokestatic idx, 3, npc)) (hM : MC J y (As) h ρl oc) (hw : xCS y J n) (hlk : Cond.methodLink I.2.2.2.1 idx y ∈ XT) (hnA : As.length = n) (hst : (st.map tcat).sum ≤ 8) (hroom : xRm J I) (hz : mmc J = 0 ∧ mms J = 0) (k : ∀ q, SW X I ρ npc ls (tL q.1 :: st) (q.2) bc bs (F q)) : SW X I ρ pc ls stk h bc bs ((oc).bind F) := by
  have K := t_callSl As st hstk hi hM hw hlk hnA hst hroom k
  rw [hz.1, hz.2, Nat.zero_add, Nat.zero_add] at K
  exact K
theorem t_callSk {α : Type} {X : XX} {I : MI} {ρ : α → Option TV × XM} {pc npc i : Nat} {ls : List (Nat × TV)} {stk : List TV} {h : XM} {bc bs : Nat} {F : Nat × XM → Option α} {oc : Option (Nat × XM)} {J : MI} {idx n : Nat} {y : MethodName} (As : List TV)  (st : List TV) (hstk : As.reverse ++ st = stk) (hi : (mtab I)[i]? = some (pc, .invokestatic idx, 3, npc)) (hM : MC J y (As) h ρk oc) (hw : xCS y J n) (hlk : Cond.methodLink I.2.2.2.1 idx y ∈ XT) (hnA : As.length = n) (hst : (st.map tcat).sum ≤ 8) (hroom : xRm J I) (k : ∀ q, SW X I ρ npc ls (tK q.1 :: st) (q.2) bc bs (F q)) : SW X I ρ pc ls stk h (mmc J + bc) (mms J + bs) ((oc).bind F) := by
  subst hstk
  exact s_callSk As hi hM hw hlk hnA hst hroom k
theorem u_callSk {α : Type} {X : XX} {I : MI} {ρ : α → Option TV × XM} {pc npc i : Nat} {ls : List (Nat × TV)} {stk : List TV} {h : XM} {bc bs : Nat} {F : Nat × XM → Option α} {oc : Option (Nat × XM)} {J : MI} {idx n : Nat} {y : MethodName} (As : List TV)  (st : List TV) (hstk : As.reverse ++ st = stk) (hi : (mtab I)[i]? = some (pc, .invokestatic idx, 3, npc)) (hM : MC J y (As) h ρk oc) (hw : xCS y J n) (hlk : Cond.methodLink I.2.2.2.1 idx y ∈ XT) (hnA : As.length = n) (hst : (st.map tcat).sum ≤ 8) (hroom : xRm J I) (hz : mmc J = 0 ∧ mms J = 0) (k : ∀ q, SW X I ρ npc ls (tK q.1 :: st) (q.2) bc bs (F q)) : SW X I ρ pc ls stk h bc bs ((oc).bind F) := by
  have K := t_callSk As st hstk hi hM hw hlk hnA hst hroom k
  rw [hz.1, hz.2, Nat.zero_add, Nat.zero_add] at K
  exact K
theorem t_callIv {α : Type} {X : XX} {I : MI} {ρ : α → Option TV × XM} {pc npc i : Nat} {ls : List (Nat × TV)} {stk : List TV} {h : XM} {bc bs : Nat} {F : XM → Option α} {oc : Option (XM)} {J : MI} {idx n : Nat} {y : MethodName} (As : List TV) (r9 : Option Nat) (st : List TV) (hstk : As.reverse ++ tA r9 :: st = stk) (hi : (mtab I)[i]? = some (pc, .invokespecial idx, 3, npc)) (hM : MC J y (tA r9 :: As) h ρv oc) (hw : xCI y J n) (hlk : Cond.methodLink I.2.2.2.1 idx y ∈ XT) (hnA : As.length = n) (hst : (st.map tcat).sum ≤ 8) (hroom : xRm J I) (k : ∀ q, SW X I ρ npc ls (st) (q) bc bs (F q)) : SW X I ρ pc ls stk h (mmc J + bc) (mms J + bs) ((r9.bind fun _ => oc).bind F) := by
  subst hstk
  exact s_callIv As hi hM hw hlk hnA hst hroom k
theorem u_callIv {α : Type} {X : XX} {I : MI} {ρ : α → Option TV × XM} {pc npc i : Nat} {ls : List (Nat × TV)} {stk : List TV} {h : XM} {bc bs : Nat} {F : XM → Option α} {oc : Option (XM)} {J : MI} {idx n : Nat} {y : MethodName} (As : List TV) (r9 : Option Nat) (st : List TV) (hstk : As.reverse ++ tA r9 :: st = stk) (hi : (mtab I)[i]? = some (pc, .invokespecial idx, 3, npc)) (hM : MC J y (tA r9 :: As) h ρv oc) (hw : xCI y J n) (hlk : Cond.methodLink I.2.2.2.1 idx y ∈ XT) (hnA : As.length = n) (hst : (st.map tcat).sum ≤ 8) (hroom : xRm J I) (hz : mmc J = 0 ∧ mms J = 0) (k : ∀ q, SW X I ρ npc ls (st) (q) bc bs (F q)) : SW X I ρ pc ls stk h bc bs ((r9.bind fun _ => oc).bind F) := by
  have K := t_callIv As r9 st hstk hi hM hw hlk hnA hst hroom k
  rw [hz.1, hz.2, Nat.zero_add, Nat.zero_add] at K
  exact K
theorem t_callNv {α : Type} {X : XX} {I : MI} {ρ : α → Option TV × XM} {pc npc i : Nat} {ls : List (Nat × TV)} {stk : List TV} {h : XM} {bc bs : Nat} {F : XM → Option α} {oc : Option (XM)} {J : MI} {idx n : Nat} {y : MethodName} (As : List TV) (r9 : Option Nat) (st : List TV) (hstk : As.reverse ++ tA r9 :: st = stk) (hi : (mtab I)[i]? = some (pc, .invokespecial idx, 3, npc)) (hM : MC J y (tA r9 :: As) h ρv oc) (hw : xCI y J n) (hlk : ∀ (G : XG) (s : State), GI G s s.heap → va_Nw (.methodLinkNest I.2.2.2.1 idx y xR8) s) (hnA : As.length = n) (hst : (st.map tcat).sum ≤ 8) (hroom : xRm J I) (k : ∀ q, SW X I ρ npc ls (st) (q) bc bs (F q)) : SW X I ρ pc ls stk h (mmc J + bc) (mms J + bs) ((r9.bind fun _ => oc).bind F) := by
  subst hstk
  exact s_callNv As hi hM hw hlk hnA hst hroom k
theorem u_callNv {α : Type} {X : XX} {I : MI} {ρ : α → Option TV × XM} {pc npc i : Nat} {ls : List (Nat × TV)} {stk : List TV} {h : XM} {bc bs : Nat} {F : XM → Option α} {oc : Option (XM)} {J : MI} {idx n : Nat} {y : MethodName} (As : List TV) (r9 : Option Nat) (st : List TV) (hstk : As.reverse ++ tA r9 :: st = stk) (hi : (mtab I)[i]? = some (pc, .invokespecial idx, 3, npc)) (hM : MC J y (tA r9 :: As) h ρv oc) (hw : xCI y J n) (hlk : ∀ (G : XG) (s : State), GI G s s.heap → va_Nw (.methodLinkNest I.2.2.2.1 idx y xR8) s) (hnA : As.length = n) (hst : (st.map tcat).sum ≤ 8) (hroom : xRm J I) (hz : mmc J = 0 ∧ mms J = 0) (k : ∀ q, SW X I ρ npc ls (st) (q) bc bs (F q)) : SW X I ρ pc ls stk h bc bs ((r9.bind fun _ => oc).bind F) := by
  have K := t_callNv As r9 st hstk hi hM hw hlk hnA hst hroom k
  rw [hz.1, hz.2, Nat.zero_add, Nat.zero_add] at K
  exact K
end
section
/-! 09.words: the words that the methods use, by their places (written by wip/whole/gen/gen_parts.py) -/
theorem tw0 : (Jvm.Cond.selects "OpensAtNine$Reader" ({ cls := "OpensAtNine$Reader", name := "advance", desc := "()V" } : Jvm.MethodName) ({ cls := "OpensAtNine$Reader", name := "advance", desc := "()V" } : Jvm.MethodName)) ∈ XT := XTi 0 (by decide +kernel) rfl
theorem tw1 : (Jvm.Cond.selects "OpensAtNine$Reader" ({ cls := "OpensAtNine$Reader", name := "takeWord", desc := "()V" } : Jvm.MethodName) ({ cls := "OpensAtNine$Reader", name := "takeWord", desc := "()V" } : Jvm.MethodName)) ∈ XT := XTi 1 (by decide +kernel) rfl
theorem tw2 : (Jvm.Cond.selects "OpensAtNine$Reader" ({ cls := "OpensAtNine$Reader", name := "spells", desc := "(Ljava/lang/String;)Z" } : Jvm.MethodName) ({ cls := "OpensAtNine$Reader", name := "spells", desc := "(Ljava/lang/String;)Z" } : Jvm.MethodName)) ∈ XT := XTi 2 (by decide +kernel) rfl
theorem tw3 : (Jvm.Cond.selects "OpensAtNine$Reader" ({ cls := "OpensAtNine$Reader", name := "takeNumber", desc := "()V" } : Jvm.MethodName) ({ cls := "OpensAtNine$Reader", name := "takeNumber", desc := "()V" } : Jvm.MethodName)) ∈ XT := XTi 3 (by decide +kernel) rfl
theorem tw4 : (Jvm.Cond.selects "OpensAtNine$Reader" ({ cls := "OpensAtNine$Reader", name := "takeSign", desc := "(I)V" } : Jvm.MethodName) ({ cls := "OpensAtNine$Reader", name := "takeSign", desc := "(I)V" } : Jvm.MethodName)) ∈ XT := XTi 4 (by decide +kernel) rfl
theorem tw5 : (Jvm.Cond.selects "OpensAtNine$Reader" ({ cls := "OpensAtNine$Reader", name := "readPart", desc := "(II)Z" } : Jvm.MethodName) ({ cls := "OpensAtNine$Reader", name := "readPart", desc := "(II)Z" } : Jvm.MethodName)) ∈ XT := XTi 5 (by decide +kernel) rfl
theorem tw6 : (Jvm.Cond.selects "OpensAtNine$Reader" ({ cls := "OpensAtNine$Reader", name := "pass", desc := "(I)Z" } : Jvm.MethodName) ({ cls := "OpensAtNine$Reader", name := "pass", desc := "(I)Z" } : Jvm.MethodName)) ∈ XT := XTi 6 (by decide +kernel) rfl
theorem tw7 : (Jvm.Cond.selects "OpensAtNine$Reader" ({ cls := "OpensAtNine$Reader", name := "readEither", desc := "()Z" } : Jvm.MethodName) ({ cls := "OpensAtNine$Reader", name := "readEither", desc := "()Z" } : Jvm.MethodName)) ∈ XT := XTi 7 (by decide +kernel) rfl
theorem tw8 : (Jvm.Cond.selects "OpensAtNine$Reader" ({ cls := "OpensAtNine$Reader", name := "readBoth", desc := "()Z" } : Jvm.MethodName) ({ cls := "OpensAtNine$Reader", name := "readBoth", desc := "()Z" } : Jvm.MethodName)) ∈ XT := XTi 8 (by decide +kernel) rfl
theorem tw9 : (Jvm.Cond.selects "OpensAtNine$Reader" ({ cls := "OpensAtNine$Reader", name := "readNot", desc := "()Z" } : Jvm.MethodName) ({ cls := "OpensAtNine$Reader", name := "readNot", desc := "()Z" } : Jvm.MethodName)) ∈ XT := XTi 9 (by decide +kernel) rfl
theorem tw10 : (Jvm.Cond.selects "OpensAtNine$Reader" ({ cls := "OpensAtNine$Reader", name := "readCompared", desc := "()Z" } : Jvm.MethodName) ({ cls := "OpensAtNine$Reader", name := "readCompared", desc := "()Z" } : Jvm.MethodName)) ∈ XT := XTi 10 (by decide +kernel) rfl
theorem tw11 : (Jvm.Cond.selects "OpensAtNine$Reader" ({ cls := "OpensAtNine$Reader", name := "readSum", desc := "()Z" } : Jvm.MethodName) ({ cls := "OpensAtNine$Reader", name := "readSum", desc := "()Z" } : Jvm.MethodName)) ∈ XT := XTi 11 (by decide +kernel) rfl
theorem tw12 : (Jvm.Cond.selects "OpensAtNine$Reader" ({ cls := "OpensAtNine$Reader", name := "readTerm", desc := "()Z" } : Jvm.MethodName) ({ cls := "OpensAtNine$Reader", name := "readTerm", desc := "()Z" } : Jvm.MethodName)) ∈ XT := XTi 12 (by decide +kernel) rfl
theorem tw13 : (Jvm.Cond.selects "OpensAtNine$Reader" ({ cls := "OpensAtNine$Reader", name := "readOne", desc := "()Z" } : Jvm.MethodName) ({ cls := "OpensAtNine$Reader", name := "readOne", desc := "()Z" } : Jvm.MethodName)) ∈ XT := XTi 13 (by decide +kernel) rfl
theorem tw14 : (Jvm.Cond.selects "OpensAtNine$Reader" ({ cls := "OpensAtNine$Reader", name := "addStep", desc := "(I)V" } : Jvm.MethodName) ({ cls := "OpensAtNine$Reader", name := "addStep", desc := "(I)V" } : Jvm.MethodName)) ∈ XT := XTi 14 (by decide +kernel) rfl
theorem tw15 : (Jvm.Cond.selects "OpensAtNine$Reader" ({ cls := "OpensAtNine$Reader", name := "enter", desc := "()Z" } : Jvm.MethodName) ({ cls := "OpensAtNine$Reader", name := "enter", desc := "()Z" } : Jvm.MethodName)) ∈ XT := XTi 15 (by decide +kernel) rfl
theorem tw16 : (Jvm.Cond.selects "OpensAtNine$Coin" ({ cls := "OpensAtNine$Coin", name := "worn", desc := "()I" } : Jvm.MethodName) ({ cls := "OpensAtNine$Coin", name := "worn", desc := "()I" } : Jvm.MethodName)) ∈ XT := XTi 16 (by decide +kernel) rfl
theorem tw17 : (Jvm.Cond.selects "OpensAtNine$Ways" ({ cls := "OpensAtNine$Ways", name := "goOn", desc := "(III)V" } : Jvm.MethodName) ({ cls := "OpensAtNine$Ways", name := "goOn", desc := "(III)V" } : Jvm.MethodName)) ∈ XT := XTi 17 (by decide +kernel) rfl
theorem tw18 : (Jvm.Cond.selects "OpensAtNine$Ways" ({ cls := "OpensAtNine$Ways", name := "addRests", desc := "(III)V" } : Jvm.MethodName) ({ cls := "OpensAtNine$Ways", name := "addRests", desc := "(III)V" } : Jvm.MethodName)) ∈ XT := XTi 18 (by decide +kernel) rfl
theorem tw19 : (Jvm.Cond.selects "OpensAtNine" ({ cls := "OpensAtNine", name := "isGift", desc := "(II)Z" } : Jvm.MethodName) ({ cls := "OpensAtNine", name := "isGift", desc := "(II)Z" } : Jvm.MethodName)) ∈ XT := XTi 19 (by decide +kernel) rfl
theorem tw20 : (Jvm.Cond.selects "OpensAtNine$Turns" ({ cls := "OpensAtNine$Turns", name := "solve", desc := "(I)V" } : Jvm.MethodName) ({ cls := "OpensAtNine$Turns", name := "solve", desc := "(I)V" } : Jvm.MethodName)) ∈ XT := XTi 20 (by decide +kernel) rfl
theorem tw21 : (Jvm.Cond.selects "OpensAtNine$Turns" ({ cls := "OpensAtNine$Turns", name := "settle", desc := "(I)V" } : Jvm.MethodName) ({ cls := "OpensAtNine$Turns", name := "settle", desc := "(I)V" } : Jvm.MethodName)) ∈ XT := XTi 21 (by decide +kernel) rfl
theorem tw22 : (Jvm.Cond.selects "OpensAtNine$Turns" ({ cls := "OpensAtNine$Turns", name := "recall", desc := "(II)V" } : Jvm.MethodName) ({ cls := "OpensAtNine$Turns", name := "recall", desc := "(II)V" } : Jvm.MethodName)) ∈ XT := XTi 22 (by decide +kernel) rfl
theorem tw23 : (Jvm.Cond.selects "OpensAtNine$Turns" ({ cls := "OpensAtNine$Turns", name := "choose", desc := "(IIII)V" } : Jvm.MethodName) ({ cls := "OpensAtNine$Turns", name := "choose", desc := "(IIII)V" } : Jvm.MethodName)) ∈ XT := XTi 23 (by decide +kernel) rfl
theorem tw24 : (Jvm.Cond.selects "OpensAtNine$Turns" ({ cls := "OpensAtNine$Turns", name := "keep", desc := "(II)V" } : Jvm.MethodName) ({ cls := "OpensAtNine$Turns", name := "keep", desc := "(II)V" } : Jvm.MethodName)) ∈ XT := XTi 24 (by decide +kernel) rfl
theorem tw25 : (Jvm.Cond.selects "OpensAtNine" ({ cls := "OpensAtNine", name := "refusedStart", desc := "(II)I" } : Jvm.MethodName) ({ cls := "OpensAtNine", name := "refusedStart", desc := "(II)I" } : Jvm.MethodName)) ∈ XT := XTi 25 (by decide +kernel) rfl
theorem tw26 : (Jvm.Cond.selects "OpensAtNine" ({ cls := "OpensAtNine", name := "refusedRows", desc := "(I)I" } : Jvm.MethodName) ({ cls := "OpensAtNine", name := "refusedRows", desc := "(I)I" } : Jvm.MethodName)) ∈ XT := XTi 26 (by decide +kernel) rfl
theorem tw27 : (Jvm.Cond.selects "OpensAtNine$Sheet" ({ cls := "OpensAtNine$Sheet", name := "isSoBy", desc := "(II)Z" } : Jvm.MethodName) ({ cls := "OpensAtNine$Sheet", name := "isSoBy", desc := "(II)Z" } : Jvm.MethodName)) ∈ XT := XTi 27 (by decide +kernel) rfl
theorem tw28 : (Jvm.Cond.selects "OpensAtNine" ({ cls := "OpensAtNine", name := "firstWrong", desc := "(LOpensAtNine$Sheet;II)I" } : Jvm.MethodName) ({ cls := "OpensAtNine", name := "firstWrong", desc := "(LOpensAtNine$Sheet;II)I" } : Jvm.MethodName)) ∈ XT := XTi 28 (by decide +kernel) rfl
theorem tw29 : (Jvm.Cond.selects "OpensAtNine" ({ cls := "OpensAtNine", name := "insideBy", desc := "(I)I" } : Jvm.MethodName) ({ cls := "OpensAtNine", name := "insideBy", desc := "(I)I" } : Jvm.MethodName)) ∈ XT := XTi 29 (by decide +kernel) rfl
theorem tw30 : (Jvm.Cond.selects "OpensAtNineModel" ({ cls := "OpensAtNineModel", name := "next", desc := "()V" } : Jvm.MethodName) ({ cls := "OpensAtNineModel", name := "next", desc := "()V" } : Jvm.MethodName)) ∈ XT := XTi 30 (by decide +kernel) rfl
theorem tw31 : (Jvm.Cond.selects "OpensAtNineModel" ({ cls := "OpensAtNineModel", name := "wordFrom", desc := "(II)I" } : Jvm.MethodName) ({ cls := "OpensAtNineModel", name := "wordFrom", desc := "(II)I" } : Jvm.MethodName)) ∈ XT := XTi 31 (by decide +kernel) rfl
theorem tw32 : (Jvm.Cond.selects "OpensAtNineModel" ({ cls := "OpensAtNineModel", name := "eRead", desc := "()Z" } : Jvm.MethodName) ({ cls := "OpensAtNineModel", name := "eRead", desc := "()Z" } : Jvm.MethodName)) ∈ XT := XTi 32 (by decide +kernel) rfl
theorem tw33 : (Jvm.Cond.selects "OpensAtNineModel" ({ cls := "OpensAtNineModel", name := "puts", desc := "(I)V" } : Jvm.MethodName) ({ cls := "OpensAtNineModel", name := "puts", desc := "(I)V" } : Jvm.MethodName)) ∈ XT := XTi 33 (by decide +kernel) rfl
theorem tw34 : (Jvm.Cond.selects "OpensAtNineModel" ({ cls := "OpensAtNineModel", name := "unwinds", desc := "(I)V" } : Jvm.MethodName) ({ cls := "OpensAtNineModel", name := "unwinds", desc := "(I)V" } : Jvm.MethodName)) ∈ XT := XTi 34 (by decide +kernel) rfl
theorem tw35 : (Jvm.Cond.selects "OpensAtNineModel" ({ cls := "OpensAtNineModel", name := "opensOne", desc := "(I)Z" } : Jvm.MethodName) ({ cls := "OpensAtNineModel", name := "opensOne", desc := "(I)Z" } : Jvm.MethodName)) ∈ XT := XTi 35 (by decide +kernel) rfl
theorem tw36 : (Jvm.Cond.selects "OpensAtNineModel" ({ cls := "OpensAtNineModel", name := "holds", desc := "(I)V" } : Jvm.MethodName) ({ cls := "OpensAtNineModel", name := "holds", desc := "(I)V" } : Jvm.MethodName)) ∈ XT := XTi 36 (by decide +kernel) rfl
theorem tw37 : (Jvm.Cond.selects "OpensAtNineModel" ({ cls := "OpensAtNineModel", name := "signOf", desc := "()I" } : Jvm.MethodName) ({ cls := "OpensAtNineModel", name := "signOf", desc := "()I" } : Jvm.MethodName)) ∈ XT := XTi 37 (by decide +kernel) rfl
theorem tw38 : (Jvm.Cond.selects "OpensAtNineModel" ({ cls := "OpensAtNineModel", name := "between", desc := "(I)Z" } : Jvm.MethodName) ({ cls := "OpensAtNineModel", name := "between", desc := "(I)Z" } : Jvm.MethodName)) ∈ XT := XTi 38 (by decide +kernel) rfl
theorem tw39 : (Jvm.Cond.selects "OpensAtNineModel" ({ cls := "OpensAtNineModel", name := "isOne", desc := "(I)Z" } : Jvm.MethodName) ({ cls := "OpensAtNineModel", name := "isOne", desc := "(I)Z" } : Jvm.MethodName)) ∈ XT := XTi 39 (by decide +kernel) rfl
theorem tw40 : (Jvm.Cond.selects "OpensAtNineModel" ({ cls := "OpensAtNineModel", name := "asksOf", desc := "(IIIIII)I" } : Jvm.MethodName) ({ cls := "OpensAtNineModel", name := "asksOf", desc := "(IIIIII)I" } : Jvm.MethodName)) ∈ XT := XTi 40 (by decide +kernel) rfl
theorem tw41 : (Jvm.Cond.selects "OpensAtNineModel" ({ cls := "OpensAtNineModel", name := "worksOut", desc := "(IIIIII)I" } : Jvm.MethodName) ({ cls := "OpensAtNineModel", name := "worksOut", desc := "(IIIIII)I" } : Jvm.MethodName)) ∈ XT := XTi 41 (by decide +kernel) rfl
theorem tw42 : (Jvm.Cond.selects "OpensAtNineModel" ({ cls := "OpensAtNineModel", name := "says", desc := "(I)I" } : Jvm.MethodName) ({ cls := "OpensAtNineModel", name := "says", desc := "(I)I" } : Jvm.MethodName)) ∈ XT := XTi 42 (by decide +kernel) rfl
theorem tw43 : (Jvm.Cond.selects "OpensAtNineModel" ({ cls := "OpensAtNineModel", name := "isCoin", desc := "(I)Z" } : Jvm.MethodName) ({ cls := "OpensAtNineModel", name := "isCoin", desc := "(I)Z" } : Jvm.MethodName)) ∈ XT := XTi 43 (by decide +kernel) rfl
theorem tw44 : (Jvm.Cond.selects "OpensAtNineModel" ({ cls := "OpensAtNineModel", name := "isLeft", desc := "(I)Z" } : Jvm.MethodName) ({ cls := "OpensAtNineModel", name := "isLeft", desc := "(I)Z" } : Jvm.MethodName)) ∈ XT := XTi 44 (by decide +kernel) rfl
theorem tw45 : (Jvm.Cond.selects "OpensAtNineModel" ({ cls := "OpensAtNineModel", name := "countsNow", desc := "(I)I" } : Jvm.MethodName) ({ cls := "OpensAtNineModel", name := "countsNow", desc := "(I)I" } : Jvm.MethodName)) ∈ XT := XTi 45 (by decide +kernel) rfl
theorem tw46 : (Jvm.Cond.selects "OpensAtNineModel" ({ cls := "OpensAtNineModel", name := "costsOf", desc := "(I)I" } : Jvm.MethodName) ({ cls := "OpensAtNineModel", name := "costsOf", desc := "(I)I" } : Jvm.MethodName)) ∈ XT := XTi 46 (by decide +kernel) rfl
theorem tw47 : (Jvm.Cond.selects "OpensAtNineModel" ({ cls := "OpensAtNineModel", name := "canPut", desc := "(I)Z" } : Jvm.MethodName) ({ cls := "OpensAtNineModel", name := "canPut", desc := "(I)Z" } : Jvm.MethodName)) ∈ XT := XTi 47 (by decide +kernel) rfl
theorem tw48 : (Jvm.Cond.selects "OpensAtNineModel" ({ cls := "OpensAtNineModel", name := "isInside", desc := "(I)Z" } : Jvm.MethodName) ({ cls := "OpensAtNineModel", name := "isInside", desc := "(I)Z" } : Jvm.MethodName)) ∈ XT := XTi 48 (by decide +kernel) rfl
theorem tw49 : (Jvm.Cond.selects "OpensAtNineModel" ({ cls := "OpensAtNineModel", name := "paysIn", desc := "(I)Z" } : Jvm.MethodName) ({ cls := "OpensAtNineModel", name := "paysIn", desc := "(I)Z" } : Jvm.MethodName)) ∈ XT := XTi 49 (by decide +kernel) rfl
theorem tw50 : (Jvm.Cond.selects "OpensAtNineModel" ({ cls := "OpensAtNineModel", name := "leftOf", desc := "(I)I" } : Jvm.MethodName) ({ cls := "OpensAtNineModel", name := "leftOf", desc := "(I)I" } : Jvm.MethodName)) ∈ XT := XTi 50 (by decide +kernel) rfl
theorem tw51 : (Jvm.Cond.selects "OpensAtNineModel" ({ cls := "OpensAtNineModel", name := "worthOf", desc := "(I)I" } : Jvm.MethodName) ({ cls := "OpensAtNineModel", name := "worthOf", desc := "(I)I" } : Jvm.MethodName)) ∈ XT := XTi 51 (by decide +kernel) rfl
theorem tw52 : (Jvm.Cond.selects "OpensAtNineModel" ({ cls := "OpensAtNineModel", name := "findsCheapest", desc := "(I)V" } : Jvm.MethodName) ({ cls := "OpensAtNineModel", name := "findsCheapest", desc := "(I)V" } : Jvm.MethodName)) ∈ XT := XTi 52 (by decide +kernel) rfl
theorem tw53 : (Jvm.Cond.selects "OpensAtNineModel" ({ cls := "OpensAtNineModel", name := "waysIn", desc := "(IIII)V" } : Jvm.MethodName) ({ cls := "OpensAtNineModel", name := "waysIn", desc := "(IIII)V" } : Jvm.MethodName)) ∈ XT := XTi 53 (by decide +kernel) rfl
theorem tw54 : (Jvm.Cond.selects "OpensAtNineModel" ({ cls := "OpensAtNineModel", name := "keeps", desc := "(I)V" } : Jvm.MethodName) ({ cls := "OpensAtNineModel", name := "keeps", desc := "(I)V" } : Jvm.MethodName)) ∈ XT := XTi 54 (by decide +kernel) rfl
theorem tw55 : (Jvm.Cond.selects "OpensAtNineModel" ({ cls := "OpensAtNineModel", name := "laysBack", desc := "(I)V" } : Jvm.MethodName) ({ cls := "OpensAtNineModel", name := "laysBack", desc := "(I)V" } : Jvm.MethodName)) ∈ XT := XTi 55 (by decide +kernel) rfl
theorem tw56 : (Jvm.Cond.selects "OpensAtNineModel" ({ cls := "OpensAtNineModel", name := "goesCheapest", desc := "()V" } : Jvm.MethodName) ({ cls := "OpensAtNineModel", name := "goesCheapest", desc := "()V" } : Jvm.MethodName)) ∈ XT := XTi 56 (by decide +kernel) rfl
theorem tw57 : (Jvm.Cond.selects "OpensAtNineModel" ({ cls := "OpensAtNineModel", name := "restsFrom", desc := "(II)V" } : Jvm.MethodName) ({ cls := "OpensAtNineModel", name := "restsFrom", desc := "(II)V" } : Jvm.MethodName)) ∈ XT := XTi 57 (by decide +kernel) rfl
theorem tw58 : (Jvm.Cond.selects "OpensAtNineModel" ({ cls := "OpensAtNineModel", name := "wouldOpen", desc := "(II)Z" } : Jvm.MethodName) ({ cls := "OpensAtNineModel", name := "wouldOpen", desc := "(II)Z" } : Jvm.MethodName)) ∈ XT := XTi 58 (by decide +kernel) rfl
theorem tw59 : (Jvm.Cond.selects "OpensAtNineModel" ({ cls := "OpensAtNineModel", name := "isGift", desc := "(I)Z" } : Jvm.MethodName) ({ cls := "OpensAtNineModel", name := "isGift", desc := "(I)Z" } : Jvm.MethodName)) ∈ XT := XTi 59 (by decide +kernel) rfl
theorem tw60 : (Jvm.Cond.selects "OpensAtNineModel" ({ cls := "OpensAtNineModel", name := "goesByTurns", desc := "(I)V" } : Jvm.MethodName) ({ cls := "OpensAtNineModel", name := "goesByTurns", desc := "(I)V" } : Jvm.MethodName)) ∈ XT := XTi 60 (by decide +kernel) rfl
theorem tw61 : (Jvm.Cond.selects "OpensAtNineModel" ({ cls := "OpensAtNineModel", name := "turns", desc := "(II)V" } : Jvm.MethodName) ({ cls := "OpensAtNineModel", name := "turns", desc := "(II)V" } : Jvm.MethodName)) ∈ XT := XTi 61 (by decide +kernel) rfl
theorem tw62 : (Jvm.Cond.selects "OpensAtNineModel" ({ cls := "OpensAtNineModel", name := "endsNow", desc := "(I)V" } : Jvm.MethodName) ({ cls := "OpensAtNineModel", name := "endsNow", desc := "(I)V" } : Jvm.MethodName)) ∈ XT := XTi 62 (by decide +kernel) rfl
theorem tw63 : (Jvm.Cond.selects "OpensAtNineModel" ({ cls := "OpensAtNineModel", name := "takes", desc := "(IIIIZ)V" } : Jvm.MethodName) ({ cls := "OpensAtNineModel", name := "takes", desc := "(IIIIZ)V" } : Jvm.MethodName)) ∈ XT := XTi 63 (by decide +kernel) rfl
theorem tw64 : (Jvm.Cond.selects "OpensAtNineModel" ({ cls := "OpensAtNineModel", name := "sheetWrong", desc := "(I)I" } : Jvm.MethodName) ({ cls := "OpensAtNineModel", name := "sheetWrong", desc := "(I)I" } : Jvm.MethodName)) ∈ XT := XTi 64 (by decide +kernel) rfl
theorem tw65 : (Jvm.Cond.selects "OpensAtNineModel" ({ cls := "OpensAtNineModel", name := "numbersFor", desc := "(II)I" } : Jvm.MethodName) ({ cls := "OpensAtNineModel", name := "numbersFor", desc := "(II)I" } : Jvm.MethodName)) ∈ XT := XTi 65 (by decide +kernel) rfl
theorem tw66 : (Jvm.Cond.selects "OpensAtNineModel" ({ cls := "OpensAtNineModel", name := "unlike", desc := "(I)I" } : Jvm.MethodName) ({ cls := "OpensAtNineModel", name := "unlike", desc := "(I)I" } : Jvm.MethodName)) ∈ XT := XTi 66 (by decide +kernel) rfl
theorem tw67 : (Jvm.Cond.selects "OpensAtNineModel" ({ cls := "OpensAtNineModel", name := "insideBy", desc := "(I)I" } : Jvm.MethodName) ({ cls := "OpensAtNineModel", name := "insideBy", desc := "(I)I" } : Jvm.MethodName)) ∈ XT := XTi 67 (by decide +kernel) rfl
theorem tw69 : (Jvm.Cond.initialized "OpensAtNine") ∈ XT := XT1 1 rfl rfl
theorem tw70 : (Jvm.Cond.initialized "OpensAtNine$Gate") ∈ XT := XT1 2 rfl rfl
theorem tw71 : (Jvm.Cond.initialized "OpensAtNine$Met") ∈ XT := XT1 3 rfl rfl
theorem tw72 : (Jvm.Cond.initialized "OpensAtNine$Ways") ∈ XT := XT1 4 rfl rfl
theorem tw73 : (Jvm.Cond.initialized "OpensAtNine$Turns") ∈ XT := XT1 5 rfl rfl
theorem tw74 : (Jvm.Cond.initialized "OpensAtNine$Reader") ∈ XT := XT1 6 rfl rfl
theorem tw75 : (Jvm.Cond.initialized "OpensAtNine$Sheet") ∈ XT := XT1 7 rfl rfl
theorem tw76 : (Jvm.Cond.initialized "java/lang/String") ∈ XT := XT1 8 rfl rfl
theorem tw77 : (Jvm.Cond.initialized "java/lang/StringLatin1") ∈ XT := XT1 9 rfl rfl
theorem tw78 : (Jvm.Cond.initialized "jdk/internal/util/Preconditions") ∈ XT := XT1 10 rfl rfl
theorem tw80 : (Jvm.Cond.initialized "OpensAtNine$Text") ∈ XT := XT1 12 rfl rfl
theorem tw81 : (Jvm.Cond.initialized "java/util/Arrays") ∈ XT := XT1 13 rfl rfl
theorem tw82 : (Jvm.Cond.initialized "java/lang/Math") ∈ XT := XT1 14 rfl rfl
theorem tw83 : (Jvm.Cond.initialized "java/lang/System") ∈ XT := XT1 15 rfl rfl
theorem tw84 : (Jvm.Cond.initialized "OpensAtNineModel") ∈ XT := XT1 16 rfl rfl
theorem tw85 : (Jvm.Cond.initialized "OpensAtNine$Coin") ∈ XT := XT1 17 rfl rfl
theorem tw86 : (Jvm.Cond.initialized "java/lang/Integer") ∈ XT := XT1 18 rfl rfl
theorem tw90 : (Jvm.Cond.instanceMethod ({ cls := "OpensAtNine", name := "<init>", desc := "()V" } : Jvm.MethodName)) ∈ XT := XT1 22 rfl rfl
theorem tw91 : (Jvm.Cond.code ({ cls := "OpensAtNine", name := "<init>", desc := "()V" } : Jvm.MethodName) prog_1_method_1_code (5 : Nat) (Option.none : Option Jvm.ClassFile.FieldType)) ∈ XT := XT1 23 rfl rfl
theorem tw92 : (Jvm.Cond.methodLink "OpensAtNine" (1 : Nat) ({ cls := "java/lang/Object", name := "<init>", desc := "()V" } : Jvm.MethodName)) ∈ XT := XT1 24 rfl rfl
theorem tw93 : (Jvm.Cond.instanceMethod ({ cls := "java/lang/Object", name := "<init>", desc := "()V" } : Jvm.MethodName)) ∈ XT := XT1 25 rfl rfl
theorem tw94 : (Jvm.Cond.code ({ cls := "java/lang/Object", name := "<init>", desc := "()V" } : Jvm.MethodName) object_method_1_code (1 : Nat) (Option.none : Option Jvm.ClassFile.FieldType)) ∈ XT := XT1 26 rfl rfl
theorem tw95 : (Jvm.Cond.classLink "OpensAtNine" (9 : Nat) "OpensAtNine$Coin") ∈ XT := XT1 27 rfl rfl
theorem tw97 : (Jvm.Cond.classLink "OpensAtNine" (11 : Nat) "OpensAtNine$Text") ∈ XT := XT1 29 rfl rfl
theorem tw99 : (Jvm.Cond.classLink "OpensAtNine" (21 : Nat) "OpensAtNine$Gate") ∈ XT := XT1 31 rfl rfl
theorem tw100 : (Jvm.Cond.instantiable "OpensAtNine$Gate" (12 : Nat)) ∈ XT := XT1 32 rfl rfl
theorem tw101 : (Jvm.Cond.methodLink "OpensAtNine" (23 : Nat) ({ cls := "OpensAtNine$Gate", name := "<init>", desc := "([LOpensAtNine$Coin;[LOpensAtNine$Text;)V" } : Jvm.MethodName)) ∈ XT := XT1 33 rfl rfl
theorem tw102 : (Jvm.Cond.instanceMethod ({ cls := "OpensAtNine$Gate", name := "<init>", desc := "([LOpensAtNine$Coin;[LOpensAtNine$Text;)V" } : Jvm.MethodName)) ∈ XT := XT1 34 rfl rfl
theorem tw103 : (Jvm.Cond.code ({ cls := "OpensAtNine$Gate", name := "<init>", desc := "([LOpensAtNine$Coin;[LOpensAtNine$Text;)V" } : Jvm.MethodName) prog_3_method_1_code (3 : Nat) (Option.none : Option Jvm.ClassFile.FieldType)) ∈ XT := XT1 35 rfl rfl
theorem tw104 : (Jvm.Cond.methodLink "OpensAtNine$Gate" (3 : Nat) ({ cls := "java/lang/Object", name := "<init>", desc := "()V" } : Jvm.MethodName)) ∈ XT := XT1 36 rfl rfl
theorem tw158 : (Jvm.Cond.arrayClass Jvm.ClassFile.FieldType.int) ∈ XT := XT1 90 rfl rfl
theorem tw159 : (Jvm.Cond.classLink "OpensAtNine" (36 : Nat) "OpensAtNine$Met") ∈ XT := XT1 91 rfl rfl
theorem tw160 : (Jvm.Cond.instantiable "OpensAtNine$Met" (1 : Nat)) ∈ XT := XT1 92 rfl rfl
theorem tw162 : (Jvm.Cond.instanceMethod ({ cls := "OpensAtNine$Met", name := "<init>", desc := "()V" } : Jvm.MethodName)) ∈ XT := XT1 94 rfl rfl
theorem tw163 : (Jvm.Cond.code ({ cls := "OpensAtNine$Met", name := "<init>", desc := "()V" } : Jvm.MethodName) prog_4_method_1_code (1 : Nat) (Option.none : Option Jvm.ClassFile.FieldType)) ∈ XT := XT1 95 rfl rfl
theorem tw164 : (Jvm.Cond.methodLink "OpensAtNine$Met" (1 : Nat) ({ cls := "java/lang/Object", name := "<init>", desc := "()V" } : Jvm.MethodName)) ∈ XT := XT1 96 rfl rfl
theorem tw169 : (Jvm.Cond.classLink "OpensAtNine" (39 : Nat) "OpensAtNine$Ways") ∈ XT := XT1 101 rfl rfl
theorem tw170 : (Jvm.Cond.instantiable "OpensAtNine$Ways" (6 : Nat)) ∈ XT := XT1 102 rfl rfl
theorem tw171 : (Jvm.Cond.methodLink "OpensAtNine" (41 : Nat) ({ cls := "OpensAtNine$Ways", name := "<init>", desc := "(LOpensAtNine$Gate;LOpensAtNine$Met;)V" } : Jvm.MethodName)) ∈ XT := XT1 103 rfl rfl
theorem tw172 : (Jvm.Cond.instanceMethod ({ cls := "OpensAtNine$Ways", name := "<init>", desc := "(LOpensAtNine$Gate;LOpensAtNine$Met;)V" } : Jvm.MethodName)) ∈ XT := XT1 104 rfl rfl
theorem tw173 : (Jvm.Cond.code ({ cls := "OpensAtNine$Ways", name := "<init>", desc := "(LOpensAtNine$Gate;LOpensAtNine$Met;)V" } : Jvm.MethodName) prog_9_method_1_code (3 : Nat) (Option.none : Option Jvm.ClassFile.FieldType)) ∈ XT := XT1 105 rfl rfl
theorem tw174 : (Jvm.Cond.methodLink "OpensAtNine$Ways" (3 : Nat) ({ cls := "java/lang/Object", name := "<init>", desc := "()V" } : Jvm.MethodName)) ∈ XT := XT1 106 rfl rfl
theorem tw195 : (Jvm.Cond.classLink "OpensAtNine" (48 : Nat) "OpensAtNine$Turns") ∈ XT := XT1 127 rfl rfl
theorem tw196 : (Jvm.Cond.instantiable "OpensAtNine$Turns" (7 : Nat)) ∈ XT := XT1 128 rfl rfl
theorem tw197 : (Jvm.Cond.methodLink "OpensAtNine" (50 : Nat) ({ cls := "OpensAtNine$Turns", name := "<init>", desc := "(LOpensAtNine$Gate;LOpensAtNine$Met;)V" } : Jvm.MethodName)) ∈ XT := XT1 129 rfl rfl
theorem tw198 : (Jvm.Cond.instanceMethod ({ cls := "OpensAtNine$Turns", name := "<init>", desc := "(LOpensAtNine$Gate;LOpensAtNine$Met;)V" } : Jvm.MethodName)) ∈ XT := XT1 130 rfl rfl
theorem tw199 : (Jvm.Cond.code ({ cls := "OpensAtNine$Turns", name := "<init>", desc := "(LOpensAtNine$Gate;LOpensAtNine$Met;)V" } : Jvm.MethodName) prog_8_method_1_code (3 : Nat) (Option.none : Option Jvm.ClassFile.FieldType)) ∈ XT := XT1 131 rfl rfl
theorem tw200 : (Jvm.Cond.methodLink "OpensAtNine$Turns" (3 : Nat) ({ cls := "java/lang/Object", name := "<init>", desc := "()V" } : Jvm.MethodName)) ∈ XT := XT1 132 rfl rfl
theorem tw201 : (Jvm.Cond.classLink "OpensAtNine$Turns" (9 : Nat) "[[I") ∈ XT := XT1 133 rfl rfl
theorem tw225 : (Jvm.Cond.classLink "OpensAtNine" (55 : Nat) "OpensAtNine$Reader") ∈ XT := XT1 157 rfl rfl
theorem tw226 : (Jvm.Cond.instantiable "OpensAtNine$Reader" (11 : Nat)) ∈ XT := XT1 158 rfl rfl
theorem tw228 : (Jvm.Cond.instanceMethod ({ cls := "OpensAtNine$Reader", name := "<init>", desc := "()V" } : Jvm.MethodName)) ∈ XT := XT1 160 rfl rfl
theorem tw229 : (Jvm.Cond.code ({ cls := "OpensAtNine$Reader", name := "<init>", desc := "()V" } : Jvm.MethodName) prog_5_method_1_code (1 : Nat) (Option.none : Option Jvm.ClassFile.FieldType)) ∈ XT := XT1 161 rfl rfl
theorem tw230 : (Jvm.Cond.methodLink "OpensAtNine$Reader" (3 : Nat) ({ cls := "java/lang/Object", name := "<init>", desc := "()V" } : Jvm.MethodName)) ∈ XT := XT1 162 rfl rfl
theorem tw267 : (Jvm.Cond.classLink "OpensAtNine" (62 : Nat) "OpensAtNine$Sheet") ∈ XT := XT1 199 rfl rfl
theorem tw269 : (Jvm.Cond.instantiable "OpensAtNine$Sheet" (3 : Nat)) ∈ XT := XT1 201 rfl rfl
theorem tw271 : (Jvm.Cond.instanceMethod ({ cls := "OpensAtNine$Sheet", name := "<init>", desc := "()V" } : Jvm.MethodName)) ∈ XT := XT1 203 rfl rfl
theorem tw272 : (Jvm.Cond.code ({ cls := "OpensAtNine$Sheet", name := "<init>", desc := "()V" } : Jvm.MethodName) prog_6_method_1_code (1 : Nat) (Option.none : Option Jvm.ClassFile.FieldType)) ∈ XT := XT1 204 rfl rfl
theorem tw273 : (Jvm.Cond.methodLink "OpensAtNine$Sheet" (3 : Nat) ({ cls := "java/lang/Object", name := "<init>", desc := "()V" } : Jvm.MethodName)) ∈ XT := XT1 205 rfl rfl
theorem tw288 : (Jvm.Cond.methodLink "OpensAtNine" (71 : Nat) ({ cls := "OpensAtNine$Reader", name := "write", desc := "(Ljava/lang/String;)V" } : Jvm.MethodName)) ∈ XT := XT1 220 rfl rfl
theorem tw289 : (Jvm.Cond.instanceMethod ({ cls := "OpensAtNine$Reader", name := "write", desc := "(Ljava/lang/String;)V" } : Jvm.MethodName)) ∈ XT := XT1 221 rfl rfl
theorem tw290 : (Jvm.Cond.selects "OpensAtNine$Reader" ({ cls := "OpensAtNine$Reader", name := "write", desc := "(Ljava/lang/String;)V" } : Jvm.MethodName) ({ cls := "OpensAtNine$Reader", name := "write", desc := "(Ljava/lang/String;)V" } : Jvm.MethodName)) ∈ XT := XT1 222 rfl rfl
theorem tw291 : (Jvm.Cond.code ({ cls := "OpensAtNine$Reader", name := "write", desc := "(Ljava/lang/String;)V" } : Jvm.MethodName) prog_5_method_3_code (3 : Nat) (Option.none : Option Jvm.ClassFile.FieldType)) ∈ XT := XT1 223 rfl rfl
theorem tw292 : (Jvm.Cond.methodLink "OpensAtNine$Reader" (25 : Nat) ({ cls := "java/lang/String", name := "length", desc := "()I" } : Jvm.MethodName)) ∈ XT := XT1 224 rfl rfl
theorem tw293 : (Jvm.Cond.instanceMethod ({ cls := "java/lang/String", name := "length", desc := "()I" } : Jvm.MethodName)) ∈ XT := XT1 225 rfl rfl
theorem tw294 : (Jvm.Cond.selects "java/lang/String" ({ cls := "java/lang/String", name := "length", desc := "()I" } : Jvm.MethodName) ({ cls := "java/lang/String", name := "length", desc := "()I" } : Jvm.MethodName)) ∈ XT := XT1 226 rfl rfl
theorem tw295 : (Jvm.Cond.code ({ cls := "java/lang/String", name := "length", desc := "()I" } : Jvm.MethodName) prog_15_method_54_code (1 : Nat) (Option.some Jvm.ClassFile.FieldType.int)) ∈ XT := XT1 227 rfl rfl
theorem tw296 : (Jvm.Cond.methodLink "java/lang/String" (335 : Nat) ({ cls := "java/lang/String", name := "coder", desc := "()B" } : Jvm.MethodName)) ∈ XT := XT1 228 rfl rfl
theorem tw297 : (Jvm.Cond.instanceMethod ({ cls := "java/lang/String", name := "coder", desc := "()B" } : Jvm.MethodName)) ∈ XT := XT1 229 rfl rfl
theorem tw298 : (Jvm.Cond.selects "java/lang/String" ({ cls := "java/lang/String", name := "coder", desc := "()B" } : Jvm.MethodName) ({ cls := "java/lang/String", name := "coder", desc := "()B" } : Jvm.MethodName)) ∈ XT := XT1 230 rfl rfl
theorem tw299 : (Jvm.Cond.code ({ cls := "java/lang/String", name := "coder", desc := "()B" } : Jvm.MethodName) prog_15_method_152_code (1 : Nat) (Option.some Jvm.ClassFile.FieldType.byte)) ∈ XT := XT1 231 rfl rfl
theorem tw300 : (Jvm.Cond.fieldLink "java/lang/String" (38 : Nat) "java/lang/String" "COMPACT_STRINGS" "Z") ∈ XT := XT1 232 rfl rfl
theorem tw302 : (Jvm.Cond.methodLink "OpensAtNine$Reader" (31 : Nat) ({ cls := "java/lang/String", name := "charAt", desc := "(I)C" } : Jvm.MethodName)) ∈ XT := XT1 234 rfl rfl
theorem tw303 : (Jvm.Cond.instanceMethod ({ cls := "java/lang/String", name := "charAt", desc := "(I)C" } : Jvm.MethodName)) ∈ XT := XT1 235 rfl rfl
theorem tw304 : (Jvm.Cond.selects "java/lang/String" ({ cls := "java/lang/String", name := "charAt", desc := "(I)C" } : Jvm.MethodName) ({ cls := "java/lang/String", name := "charAt", desc := "(I)C" } : Jvm.MethodName)) ∈ XT := XT1 236 rfl rfl
theorem tw305 : (Jvm.Cond.code ({ cls := "java/lang/String", name := "charAt", desc := "(I)C" } : Jvm.MethodName) prog_15_method_56_code (2 : Nat) (Option.some Jvm.ClassFile.FieldType.char)) ∈ XT := XT1 237 rfl rfl
theorem tw306 : (Jvm.Cond.methodLink "java/lang/String" (492 : Nat) ({ cls := "java/lang/String", name := "isLatin1", desc := "()Z" } : Jvm.MethodName)) ∈ XT := XT1 238 rfl rfl
theorem tw307 : (Jvm.Cond.instanceMethod ({ cls := "java/lang/String", name := "isLatin1", desc := "()Z" } : Jvm.MethodName)) ∈ XT := XT1 239 rfl rfl
theorem tw308 : (Jvm.Cond.selects "java/lang/String" ({ cls := "java/lang/String", name := "isLatin1", desc := "()Z" } : Jvm.MethodName) ({ cls := "java/lang/String", name := "isLatin1", desc := "()Z" } : Jvm.MethodName)) ∈ XT := XT2 0 rfl rfl
theorem tw309 : (Jvm.Cond.code ({ cls := "java/lang/String", name := "isLatin1", desc := "()Z" } : Jvm.MethodName) prog_15_method_154_code (1 : Nat) (Option.some Jvm.ClassFile.FieldType.boolean)) ∈ XT := XT2 1 rfl rfl
theorem tw310 : (Jvm.Cond.methodLink "java/lang/String" (495 : Nat) ({ cls := "java/lang/StringLatin1", name := "charAt", desc := "([BI)C" } : Jvm.MethodName)) ∈ XT := XT2 2 rfl rfl
theorem tw311 : (Jvm.Cond.static ({ cls := "java/lang/StringLatin1", name := "charAt", desc := "([BI)C" } : Jvm.MethodName)) ∈ XT := XT2 3 rfl rfl
theorem tw312 : (Jvm.Cond.code ({ cls := "java/lang/StringLatin1", name := "charAt", desc := "([BI)C" } : Jvm.MethodName) prog_16_method_2_code (2 : Nat) (Option.some Jvm.ClassFile.FieldType.char)) ∈ XT := XT2 4 rfl rfl
theorem tw313 : (Jvm.Cond.methodLink "java/lang/StringLatin1" (9 : Nat) ({ cls := "java/lang/String", name := "checkIndex", desc := "(II)V" } : Jvm.MethodName)) ∈ XT := XT2 5 rfl rfl
theorem tw314 : (Jvm.Cond.static ({ cls := "java/lang/String", name := "checkIndex", desc := "(II)V" } : Jvm.MethodName)) ∈ XT := XT2 6 rfl rfl
theorem tw315 : (Jvm.Cond.code ({ cls := "java/lang/String", name := "checkIndex", desc := "(II)V" } : Jvm.MethodName) prog_15_method_155_code (2 : Nat) (Option.none : Option Jvm.ClassFile.FieldType)) ∈ XT := XT2 7 rfl rfl
theorem tw316 : (Jvm.Cond.fieldLink "java/lang/String" (1053 : Nat) "jdk/internal/util/Preconditions" "SIOOBE_FORMATTER" "Ljava/util/function/BiFunction;") ∈ XT := XT2 8 rfl rfl
theorem tw318 : (Jvm.Cond.methodLink "java/lang/String" (1059 : Nat) ({ cls := "jdk/internal/util/Preconditions", name := "checkIndex", desc := "(IILjava/util/function/BiFunction;)I" } : Jvm.MethodName)) ∈ XT := XT2 10 rfl rfl
theorem tw319 : (Jvm.Cond.static ({ cls := "jdk/internal/util/Preconditions", name := "checkIndex", desc := "(IILjava/util/function/BiFunction;)I" } : Jvm.MethodName)) ∈ XT := XT2 11 rfl rfl
theorem tw320 : (Jvm.Cond.code ({ cls := "jdk/internal/util/Preconditions", name := "checkIndex", desc := "(IILjava/util/function/BiFunction;)I" } : Jvm.MethodName) prog_20_method_11_code (3 : Nat) (Option.some Jvm.ClassFile.FieldType.int)) ∈ XT := XT2 12 rfl rfl
theorem tw340 : (Jvm.Cond.methodLink "OpensAtNine$Reader" (35 : Nat) ({ cls := "OpensAtNine$Reader", name := "add", desc := "(I)V" } : Jvm.MethodName)) ∈ XT := XT2 32 rfl rfl
theorem tw341 : (Jvm.Cond.instanceMethod ({ cls := "OpensAtNine$Reader", name := "add", desc := "(I)V" } : Jvm.MethodName)) ∈ XT := XT2 33 rfl rfl
theorem tw342 : (Jvm.Cond.selects "OpensAtNine$Reader" ({ cls := "OpensAtNine$Reader", name := "add", desc := "(I)V" } : Jvm.MethodName) ({ cls := "OpensAtNine$Reader", name := "add", desc := "(I)V" } : Jvm.MethodName)) ∈ XT := XT2 34 rfl rfl
theorem tw343 : (Jvm.Cond.code ({ cls := "OpensAtNine$Reader", name := "add", desc := "(I)V" } : Jvm.MethodName) prog_5_method_2_code (2 : Nat) (Option.none : Option Jvm.ClassFile.FieldType)) ∈ XT := XT2 35 rfl rfl
theorem tw344 : (Jvm.Cond.methodLink "OpensAtNine" (75 : Nat) ({ cls := "OpensAtNine$Reader", name := "readText", desc := "()LOpensAtNine$Text;" } : Jvm.MethodName)) ∈ XT := XT2 36 rfl rfl
theorem tw345 : (Jvm.Cond.instanceMethod ({ cls := "OpensAtNine$Reader", name := "readText", desc := "()LOpensAtNine$Text;" } : Jvm.MethodName)) ∈ XT := XT2 37 rfl rfl
theorem tw346 : (Jvm.Cond.selects "OpensAtNine$Reader" ({ cls := "OpensAtNine$Reader", name := "readText", desc := "()LOpensAtNine$Text;" } : Jvm.MethodName) ({ cls := "OpensAtNine$Reader", name := "readText", desc := "()LOpensAtNine$Text;" } : Jvm.MethodName)) ∈ XT := XT2 38 rfl rfl
theorem tw347 : (Jvm.Cond.code ({ cls := "OpensAtNine$Reader", name := "readText", desc := "()LOpensAtNine$Text;" } : Jvm.MethodName) prog_5_method_4_code (2 : Nat) (Option.some (Jvm.ClassFile.FieldType.object "OpensAtNine$Text"))) ∈ XT := XT2 39 rfl rfl
theorem tw348 : (Jvm.Cond.methodLink "OpensAtNine$Reader" (48 : Nat) ({ cls := "OpensAtNine$Reader", name := "advance", desc := "()V" } : Jvm.MethodName)) ∈ XT := XT2 40 rfl rfl
theorem tw350 : (Jvm.Cond.instanceMethod ({ cls := "OpensAtNine$Reader", name := "advance", desc := "()V" } : Jvm.MethodName)) ∈ XT := XT2 42 rfl rfl
theorem tw351 : (Jvm.Cond.code ({ cls := "OpensAtNine$Reader", name := "advance", desc := "()V" } : Jvm.MethodName) prog_5_method_16_code (1 : Nat) (Option.none : Option Jvm.ClassFile.FieldType)) ∈ XT := XT2 43 rfl rfl
theorem tw352 : (Jvm.Cond.methodLink "OpensAtNine$Reader" (110 : Nat) ({ cls := "OpensAtNine$Reader", name := "isLetter", desc := "(I)Z" } : Jvm.MethodName)) ∈ XT := XT2 44 rfl rfl
theorem tw353 : (Jvm.Cond.static ({ cls := "OpensAtNine$Reader", name := "isLetter", desc := "(I)Z" } : Jvm.MethodName)) ∈ XT := XT2 45 rfl rfl
theorem tw354 : (Jvm.Cond.code ({ cls := "OpensAtNine$Reader", name := "isLetter", desc := "(I)Z" } : Jvm.MethodName) prog_5_method_21_code (1 : Nat) (Option.some Jvm.ClassFile.FieldType.boolean)) ∈ XT := XT2 46 rfl rfl
theorem tw355 : (Jvm.Cond.methodLink "OpensAtNine$Reader" (113 : Nat) ({ cls := "OpensAtNine$Reader", name := "takeWord", desc := "()V" } : Jvm.MethodName)) ∈ XT := XT2 47 rfl rfl
theorem tw357 : (Jvm.Cond.instanceMethod ({ cls := "OpensAtNine$Reader", name := "takeWord", desc := "()V" } : Jvm.MethodName)) ∈ XT := XT2 49 rfl rfl
theorem tw358 : (Jvm.Cond.code ({ cls := "OpensAtNine$Reader", name := "takeWord", desc := "()V" } : Jvm.MethodName) prog_5_method_17_code (2 : Nat) (Option.none : Option Jvm.ClassFile.FieldType)) ∈ XT := XT2 50 rfl rfl
theorem tw359 : (Jvm.Cond.methodLink "OpensAtNine$Reader" (125 : Nat) ({ cls := "OpensAtNine$Reader", name := "wordAt", desc := "(I)Ljava/lang/String;" } : Jvm.MethodName)) ∈ XT := XT2 51 rfl rfl
theorem tw360 : (Jvm.Cond.static ({ cls := "OpensAtNine$Reader", name := "wordAt", desc := "(I)Ljava/lang/String;" } : Jvm.MethodName)) ∈ XT := XT2 52 rfl rfl
theorem tw361 : (Jvm.Cond.code ({ cls := "OpensAtNine$Reader", name := "wordAt", desc := "(I)Ljava/lang/String;" } : Jvm.MethodName) prog_5_method_23_code (1 : Nat) (Option.some (Jvm.ClassFile.FieldType.object "java/lang/String"))) ∈ XT := XT2 53 rfl rfl
theorem tw374 : (Jvm.Cond.methodLink "OpensAtNine$Reader" (129 : Nat) ({ cls := "OpensAtNine$Reader", name := "spells", desc := "(Ljava/lang/String;)Z" } : Jvm.MethodName)) ∈ XT := XT2 66 rfl rfl
theorem tw376 : (Jvm.Cond.instanceMethod ({ cls := "OpensAtNine$Reader", name := "spells", desc := "(Ljava/lang/String;)Z" } : Jvm.MethodName)) ∈ XT := XT2 68 rfl rfl
theorem tw377 : (Jvm.Cond.code ({ cls := "OpensAtNine$Reader", name := "spells", desc := "(Ljava/lang/String;)Z" } : Jvm.MethodName) prog_5_method_18_code (3 : Nat) (Option.some Jvm.ClassFile.FieldType.boolean)) ∈ XT := XT2 69 rfl rfl
theorem tw378 : (Jvm.Cond.methodLink "OpensAtNine$Reader" (116 : Nat) ({ cls := "OpensAtNine$Reader", name := "isDigit", desc := "(I)Z" } : Jvm.MethodName)) ∈ XT := XT2 70 rfl rfl
theorem tw379 : (Jvm.Cond.static ({ cls := "OpensAtNine$Reader", name := "isDigit", desc := "(I)Z" } : Jvm.MethodName)) ∈ XT := XT2 71 rfl rfl
theorem tw380 : (Jvm.Cond.code ({ cls := "OpensAtNine$Reader", name := "isDigit", desc := "(I)Z" } : Jvm.MethodName) prog_5_method_22_code (1 : Nat) (Option.some Jvm.ClassFile.FieldType.boolean)) ∈ XT := XT2 72 rfl rfl
theorem tw381 : (Jvm.Cond.methodLink "OpensAtNine$Reader" (119 : Nat) ({ cls := "OpensAtNine$Reader", name := "takeNumber", desc := "()V" } : Jvm.MethodName)) ∈ XT := XT2 73 rfl rfl
theorem tw383 : (Jvm.Cond.instanceMethod ({ cls := "OpensAtNine$Reader", name := "takeNumber", desc := "()V" } : Jvm.MethodName)) ∈ XT := XT2 75 rfl rfl
theorem tw384 : (Jvm.Cond.code ({ cls := "OpensAtNine$Reader", name := "takeNumber", desc := "()V" } : Jvm.MethodName) prog_5_method_19_code (1 : Nat) (Option.none : Option Jvm.ClassFile.FieldType)) ∈ XT := XT2 76 rfl rfl
theorem tw385 : (Jvm.Cond.methodLink "OpensAtNine$Reader" (122 : Nat) ({ cls := "OpensAtNine$Reader", name := "takeSign", desc := "(I)V" } : Jvm.MethodName)) ∈ XT := XT2 77 rfl rfl
theorem tw387 : (Jvm.Cond.instanceMethod ({ cls := "OpensAtNine$Reader", name := "takeSign", desc := "(I)V" } : Jvm.MethodName)) ∈ XT := XT2 79 rfl rfl
theorem tw388 : (Jvm.Cond.code ({ cls := "OpensAtNine$Reader", name := "takeSign", desc := "(I)V" } : Jvm.MethodName) prog_5_method_20_code (2 : Nat) (Option.none : Option Jvm.ClassFile.FieldType)) ∈ XT := XT2 80 rfl rfl
theorem tw389 : (Jvm.Cond.methodLink "OpensAtNine$Reader" (51 : Nat) ({ cls := "OpensAtNine$Reader", name := "readPart", desc := "(II)Z" } : Jvm.MethodName)) ∈ XT := XT2 81 rfl rfl
theorem tw391 : (Jvm.Cond.instanceMethod ({ cls := "OpensAtNine$Reader", name := "readPart", desc := "(II)Z" } : Jvm.MethodName)) ∈ XT := XT2 83 rfl rfl
theorem tw392 : (Jvm.Cond.code ({ cls := "OpensAtNine$Reader", name := "readPart", desc := "(II)Z" } : Jvm.MethodName) prog_5_method_5_code (3 : Nat) (Option.some Jvm.ClassFile.FieldType.boolean)) ∈ XT := XT2 84 rfl rfl
theorem tw393 : (Jvm.Cond.methodLink "OpensAtNine$Reader" (75 : Nat) ({ cls := "OpensAtNine$Reader", name := "pass", desc := "(I)Z" } : Jvm.MethodName)) ∈ XT := XT2 85 rfl rfl
theorem tw395 : (Jvm.Cond.instanceMethod ({ cls := "OpensAtNine$Reader", name := "pass", desc := "(I)Z" } : Jvm.MethodName)) ∈ XT := XT2 87 rfl rfl
theorem tw396 : (Jvm.Cond.code ({ cls := "OpensAtNine$Reader", name := "pass", desc := "(I)Z" } : Jvm.MethodName) prog_5_method_14_code (2 : Nat) (Option.some Jvm.ClassFile.FieldType.boolean)) ∈ XT := XT2 88 rfl rfl
theorem tw397 : (Jvm.Cond.methodLink "OpensAtNine$Reader" (79 : Nat) ({ cls := "OpensAtNine$Reader", name := "readEither", desc := "()Z" } : Jvm.MethodName)) ∈ XT := XT2 89 rfl rfl
theorem tw399 : (Jvm.Cond.instanceMethod ({ cls := "OpensAtNine$Reader", name := "readEither", desc := "()Z" } : Jvm.MethodName)) ∈ XT := XT2 91 rfl rfl
theorem tw400 : (Jvm.Cond.code ({ cls := "OpensAtNine$Reader", name := "readEither", desc := "()Z" } : Jvm.MethodName) prog_5_method_6_code (2 : Nat) (Option.some Jvm.ClassFile.FieldType.boolean)) ∈ XT := XT2 92 rfl rfl
theorem tw401 : (Jvm.Cond.methodLink "OpensAtNine$Reader" (83 : Nat) ({ cls := "OpensAtNine$Reader", name := "readBoth", desc := "()Z" } : Jvm.MethodName)) ∈ XT := XT2 93 rfl rfl
theorem tw403 : (Jvm.Cond.instanceMethod ({ cls := "OpensAtNine$Reader", name := "readBoth", desc := "()Z" } : Jvm.MethodName)) ∈ XT := XT2 95 rfl rfl
theorem tw404 : (Jvm.Cond.code ({ cls := "OpensAtNine$Reader", name := "readBoth", desc := "()Z" } : Jvm.MethodName) prog_5_method_7_code (2 : Nat) (Option.some Jvm.ClassFile.FieldType.boolean)) ∈ XT := XT2 96 rfl rfl
theorem tw405 : (Jvm.Cond.methodLink "OpensAtNine$Reader" (89 : Nat) ({ cls := "OpensAtNine$Reader", name := "readNot", desc := "()Z" } : Jvm.MethodName)) ∈ XT := XT2 97 rfl rfl
theorem tw407 : (Jvm.Cond.instanceMethod ({ cls := "OpensAtNine$Reader", name := "readNot", desc := "()Z" } : Jvm.MethodName)) ∈ XT := XT2 99 rfl rfl
theorem tw408 : (Jvm.Cond.code ({ cls := "OpensAtNine$Reader", name := "readNot", desc := "()Z" } : Jvm.MethodName) prog_5_method_8_code (1 : Nat) (Option.some Jvm.ClassFile.FieldType.boolean)) ∈ XT := XT2 100 rfl rfl
theorem tw409 : (Jvm.Cond.methodLink "OpensAtNine$Reader" (92 : Nat) ({ cls := "OpensAtNine$Reader", name := "readCompared", desc := "()Z" } : Jvm.MethodName)) ∈ XT := XT2 101 rfl rfl
theorem tw411 : (Jvm.Cond.instanceMethod ({ cls := "OpensAtNine$Reader", name := "readCompared", desc := "()Z" } : Jvm.MethodName)) ∈ XT := XT2 103 rfl rfl
theorem tw412 : (Jvm.Cond.code ({ cls := "OpensAtNine$Reader", name := "readCompared", desc := "()Z" } : Jvm.MethodName) prog_5_method_9_code (2 : Nat) (Option.some Jvm.ClassFile.FieldType.boolean)) ∈ XT := XT2 104 rfl rfl
theorem tw413 : (Jvm.Cond.methodLink "OpensAtNine$Reader" (98 : Nat) ({ cls := "OpensAtNine$Reader", name := "readSum", desc := "()Z" } : Jvm.MethodName)) ∈ XT := XT2 105 rfl rfl
theorem tw415 : (Jvm.Cond.instanceMethod ({ cls := "OpensAtNine$Reader", name := "readSum", desc := "()Z" } : Jvm.MethodName)) ∈ XT := XT2 107 rfl rfl
theorem tw416 : (Jvm.Cond.code ({ cls := "OpensAtNine$Reader", name := "readSum", desc := "()Z" } : Jvm.MethodName) prog_5_method_10_code (3 : Nat) (Option.some Jvm.ClassFile.FieldType.boolean)) ∈ XT := XT2 108 rfl rfl
theorem tw417 : (Jvm.Cond.methodLink "OpensAtNine$Reader" (101 : Nat) ({ cls := "OpensAtNine$Reader", name := "readTerm", desc := "()Z" } : Jvm.MethodName)) ∈ XT := XT2 109 rfl rfl
theorem tw419 : (Jvm.Cond.instanceMethod ({ cls := "OpensAtNine$Reader", name := "readTerm", desc := "()Z" } : Jvm.MethodName)) ∈ XT := XT2 111 rfl rfl
theorem tw420 : (Jvm.Cond.code ({ cls := "OpensAtNine$Reader", name := "readTerm", desc := "()Z" } : Jvm.MethodName) prog_5_method_11_code (2 : Nat) (Option.some Jvm.ClassFile.FieldType.boolean)) ∈ XT := XT2 112 rfl rfl
theorem tw421 : (Jvm.Cond.methodLink "OpensAtNine$Reader" (104 : Nat) ({ cls := "OpensAtNine$Reader", name := "readOne", desc := "()Z" } : Jvm.MethodName)) ∈ XT := XT2 113 rfl rfl
theorem tw423 : (Jvm.Cond.instanceMethod ({ cls := "OpensAtNine$Reader", name := "readOne", desc := "()Z" } : Jvm.MethodName)) ∈ XT := XT2 115 rfl rfl
theorem tw424 : (Jvm.Cond.code ({ cls := "OpensAtNine$Reader", name := "readOne", desc := "()Z" } : Jvm.MethodName) prog_5_method_12_code (1 : Nat) (Option.some Jvm.ClassFile.FieldType.boolean)) ∈ XT := XT2 116 rfl rfl
theorem tw425 : (Jvm.Cond.methodLink "OpensAtNine$Reader" (86 : Nat) ({ cls := "OpensAtNine$Reader", name := "addStep", desc := "(I)V" } : Jvm.MethodName)) ∈ XT := XT2 117 rfl rfl
theorem tw427 : (Jvm.Cond.instanceMethod ({ cls := "OpensAtNine$Reader", name := "addStep", desc := "(I)V" } : Jvm.MethodName)) ∈ XT := XT2 119 rfl rfl
theorem tw428 : (Jvm.Cond.code ({ cls := "OpensAtNine$Reader", name := "addStep", desc := "(I)V" } : Jvm.MethodName) prog_5_method_15_code (2 : Nat) (Option.none : Option Jvm.ClassFile.FieldType)) ∈ XT := XT2 120 rfl rfl
theorem tw429 : (Jvm.Cond.methodLink "OpensAtNine$Reader" (95 : Nat) ({ cls := "OpensAtNine$Reader", name := "enter", desc := "()Z" } : Jvm.MethodName)) ∈ XT := XT2 121 rfl rfl
theorem tw431 : (Jvm.Cond.instanceMethod ({ cls := "OpensAtNine$Reader", name := "enter", desc := "()Z" } : Jvm.MethodName)) ∈ XT := XT2 123 rfl rfl
theorem tw432 : (Jvm.Cond.code ({ cls := "OpensAtNine$Reader", name := "enter", desc := "()Z" } : Jvm.MethodName) prog_5_method_13_code (1 : Nat) (Option.some Jvm.ClassFile.FieldType.boolean)) ∈ XT := XT2 124 rfl rfl
theorem tw433 : (Jvm.Cond.classLink "OpensAtNine$Reader" (64 : Nat) "OpensAtNine$Text") ∈ XT := XT2 125 rfl rfl
theorem tw434 : (Jvm.Cond.instantiable "OpensAtNine$Text" (3 : Nat)) ∈ XT := XT2 126 rfl rfl
theorem tw435 : (Jvm.Cond.methodLink "OpensAtNine$Reader" (66 : Nat) ({ cls := "java/util/Arrays", name := "copyOf", desc := "([II)[I" } : Jvm.MethodName)) ∈ XT := XT2 127 rfl rfl
theorem tw436 : (Jvm.Cond.static ({ cls := "java/util/Arrays", name := "copyOf", desc := "([II)[I" } : Jvm.MethodName)) ∈ XT := XT2 128 rfl rfl
theorem tw437 : (Jvm.Cond.code ({ cls := "java/util/Arrays", name := "copyOf", desc := "([II)[I" } : Jvm.MethodName) prog_19_method_123_code (3 : Nat) (Option.some (Jvm.ClassFile.FieldType.array Jvm.ClassFile.FieldType.int))) ∈ XT := XT2 129 rfl rfl
theorem tw438 : (Jvm.Cond.methodLink "java/util/Arrays" (316 : Nat) ({ cls := "[I", name := "clone", desc := "()Ljava/lang/Object;" } : Jvm.MethodName)) ∈ XT := XT2 130 rfl rfl
theorem tw439 : (Jvm.Cond.sameMethod "[I" "java/lang/Object" "clone" "()Ljava/lang/Object;") ∈ XT := XT2 131 rfl rfl
theorem tw440 : (Jvm.Cond.native ({ cls := "java/lang/Object", name := "clone", desc := "()Ljava/lang/Object;" } : Jvm.MethodName)) ∈ XT := XT2 132 rfl rfl
theorem tw441 : (Jvm.Cond.instanceMethod ({ cls := "java/lang/Object", name := "clone", desc := "()Ljava/lang/Object;" } : Jvm.MethodName)) ∈ XT := XT2 133 rfl rfl
theorem tw442 : (Jvm.Cond.selects "[I" ({ cls := "[I", name := "clone", desc := "()Ljava/lang/Object;" } : Jvm.MethodName) ({ cls := "java/lang/Object", name := "clone", desc := "()Ljava/lang/Object;" } : Jvm.MethodName)) ∈ XT := XT2 134 rfl rfl
theorem tw444 : (Jvm.Cond.classLink "java/util/Arrays" (317 : Nat) "[I") ∈ XT := XT2 136 rfl rfl
theorem tw445 : (Jvm.Cond.methodLink "java/util/Arrays" (304 : Nat) ({ cls := "java/lang/Math", name := "min", desc := "(II)I" } : Jvm.MethodName)) ∈ XT := XT2 137 rfl rfl
theorem tw446 : (Jvm.Cond.static ({ cls := "java/lang/Math", name := "min", desc := "(II)I" } : Jvm.MethodName)) ∈ XT := XT2 138 rfl rfl
theorem tw447 : (Jvm.Cond.code ({ cls := "java/lang/Math", name := "min", desc := "(II)I" } : Jvm.MethodName) prog_14_method_69_code (2 : Nat) (Option.some Jvm.ClassFile.FieldType.int)) ∈ XT := XT2 139 rfl rfl
theorem tw448 : (Jvm.Cond.methodLink "java/util/Arrays" (150 : Nat) ({ cls := "java/lang/System", name := "arraycopy", desc := "(Ljava/lang/Object;ILjava/lang/Object;II)V" } : Jvm.MethodName)) ∈ XT := XT2 140 rfl rfl
theorem tw449 : (Jvm.Cond.static ({ cls := "java/lang/System", name := "arraycopy", desc := "(Ljava/lang/Object;ILjava/lang/Object;II)V" } : Jvm.MethodName)) ∈ XT := XT2 141 rfl rfl
theorem tw450 : (Jvm.Cond.native ({ cls := "java/lang/System", name := "arraycopy", desc := "(Ljava/lang/Object;ILjava/lang/Object;II)V" } : Jvm.MethodName)) ∈ XT := XT2 142 rfl rfl
theorem tw451 : (Jvm.Cond.methodLink "OpensAtNine$Reader" (72 : Nat) ({ cls := "OpensAtNine$Text", name := "<init>", desc := "([I[I)V" } : Jvm.MethodName)) ∈ XT := XT2 143 rfl rfl
theorem tw452 : (Jvm.Cond.instanceMethod ({ cls := "OpensAtNine$Text", name := "<init>", desc := "([I[I)V" } : Jvm.MethodName)) ∈ XT := XT2 144 rfl rfl
theorem tw453 : (Jvm.Cond.code ({ cls := "OpensAtNine$Text", name := "<init>", desc := "([I[I)V" } : Jvm.MethodName) prog_7_method_1_code (3 : Nat) (Option.none : Option Jvm.ClassFile.FieldType)) ∈ XT := XT2 145 rfl rfl
theorem tw454 : (Jvm.Cond.methodLink "OpensAtNine$Text" (1 : Nat) ({ cls := "java/lang/Object", name := "<init>", desc := "()V" } : Jvm.MethodName)) ∈ XT := XT2 146 rfl rfl
theorem tw501 : (Jvm.Cond.instanceMethod ({ cls := "OpensAtNine", name := "set", desc := "(II)I" } : Jvm.MethodName)) ∈ XT := XT2 193 rfl rfl
theorem tw502 : (Jvm.Cond.selects "OpensAtNine" ({ cls := "OpensAtNine", name := "set", desc := "(II)I" } : Jvm.MethodName) ({ cls := "OpensAtNine", name := "set", desc := "(II)I" } : Jvm.MethodName)) ∈ XT := XT2 194 rfl rfl
theorem tw503 : (Jvm.Cond.code ({ cls := "OpensAtNine", name := "set", desc := "(II)I" } : Jvm.MethodName) prog_1_method_2_code (4 : Nat) (Option.some Jvm.ClassFile.FieldType.int)) ∈ XT := XT2 195 rfl rfl
theorem tw504 : (Jvm.Cond.methodLink "OpensAtNine" (83 : Nat) ({ cls := "OpensAtNine", name := "count", desc := "(I)I" } : Jvm.MethodName)) ∈ XT := XT2 196 rfl rfl
theorem tw505 : (Jvm.Cond.instanceMethod ({ cls := "OpensAtNine", name := "count", desc := "(I)I" } : Jvm.MethodName)) ∈ XT := XT2 197 rfl rfl
theorem tw506 : (Jvm.Cond.selects "OpensAtNine" ({ cls := "OpensAtNine", name := "count", desc := "(I)I" } : Jvm.MethodName) ({ cls := "OpensAtNine", name := "count", desc := "(I)I" } : Jvm.MethodName)) ∈ XT := XT2 198 rfl rfl
theorem tw507 : (Jvm.Cond.code ({ cls := "OpensAtNine", name := "count", desc := "(I)I" } : Jvm.MethodName) prog_1_method_5_code (2 : Nat) (Option.some Jvm.ClassFile.FieldType.int)) ∈ XT := XT2 199 rfl rfl
theorem tw509 : (Jvm.Cond.instanceMethod ({ cls := "OpensAtNine", name := "come", desc := "()I" } : Jvm.MethodName)) ∈ XT := XT2 201 rfl rfl
theorem tw510 : (Jvm.Cond.selects "OpensAtNine" ({ cls := "OpensAtNine", name := "come", desc := "()I" } : Jvm.MethodName) ({ cls := "OpensAtNine", name := "come", desc := "()I" } : Jvm.MethodName)) ∈ XT := XT2 202 rfl rfl
theorem tw511 : (Jvm.Cond.code ({ cls := "OpensAtNine", name := "come", desc := "()I" } : Jvm.MethodName) prog_1_method_3_code (1 : Nat) (Option.some Jvm.ClassFile.FieldType.int)) ∈ XT := XT2 203 rfl rfl
theorem tw513 : (Jvm.Cond.instanceMethod ({ cls := "OpensAtNine", name := "stand", desc := "(II)I" } : Jvm.MethodName)) ∈ XT := XT2 205 rfl rfl
theorem tw514 : (Jvm.Cond.selects "OpensAtNine" ({ cls := "OpensAtNine", name := "stand", desc := "(II)I" } : Jvm.MethodName) ({ cls := "OpensAtNine", name := "stand", desc := "(II)I" } : Jvm.MethodName)) ∈ XT := XT2 206 rfl rfl
theorem tw515 : (Jvm.Cond.code ({ cls := "OpensAtNine", name := "stand", desc := "(II)I" } : Jvm.MethodName) prog_1_method_4_code (4 : Nat) (Option.some Jvm.ClassFile.FieldType.int)) ∈ XT := XT2 207 rfl rfl
theorem tw516 : (Jvm.Cond.methodLink "OpensAtNine" (99 : Nat) ({ cls := "OpensAtNine$Gate", name := "isOne", desc := "(I)Z" } : Jvm.MethodName)) ∈ XT := XT2 208 rfl rfl
theorem tw517 : (Jvm.Cond.instanceMethod ({ cls := "OpensAtNine$Gate", name := "isOne", desc := "(I)Z" } : Jvm.MethodName)) ∈ XT := XT2 209 rfl rfl
theorem tw518 : (Jvm.Cond.selects "OpensAtNine$Gate" ({ cls := "OpensAtNine$Gate", name := "isOne", desc := "(I)Z" } : Jvm.MethodName) ({ cls := "OpensAtNine$Gate", name := "isOne", desc := "(I)Z" } : Jvm.MethodName)) ∈ XT := XT2 210 rfl rfl
theorem tw519 : (Jvm.Cond.code ({ cls := "OpensAtNine$Gate", name := "isOne", desc := "(I)Z" } : Jvm.MethodName) prog_3_method_4_code (2 : Nat) (Option.some Jvm.ClassFile.FieldType.boolean)) ∈ XT := XT2 211 rfl rfl
theorem tw520 : (Jvm.Cond.methodLink "OpensAtNine" (103 : Nat) ({ cls := "OpensAtNine$Gate", name := "isInside", desc := "(I)Z" } : Jvm.MethodName)) ∈ XT := XT2 212 rfl rfl
theorem tw521 : (Jvm.Cond.instanceMethod ({ cls := "OpensAtNine$Gate", name := "isInside", desc := "(I)Z" } : Jvm.MethodName)) ∈ XT := XT2 213 rfl rfl
theorem tw522 : (Jvm.Cond.selects "OpensAtNine$Gate" ({ cls := "OpensAtNine$Gate", name := "isInside", desc := "(I)Z" } : Jvm.MethodName) ({ cls := "OpensAtNine$Gate", name := "isInside", desc := "(I)Z" } : Jvm.MethodName)) ∈ XT := XT2 214 rfl rfl
theorem tw523 : (Jvm.Cond.code ({ cls := "OpensAtNine$Gate", name := "isInside", desc := "(I)Z" } : Jvm.MethodName) prog_3_method_5_code (2 : Nat) (Option.some Jvm.ClassFile.FieldType.boolean)) ∈ XT := XT2 215 rfl rfl
theorem tw526 : (Jvm.Cond.instanceMethod ({ cls := "OpensAtNine", name := "feed", desc := "(IIIIII)I" } : Jvm.MethodName)) ∈ XT := XT2 218 rfl rfl
theorem tw527 : (Jvm.Cond.selects "OpensAtNine" ({ cls := "OpensAtNine", name := "feed", desc := "(IIIIII)I" } : Jvm.MethodName) ({ cls := "OpensAtNine", name := "feed", desc := "(IIIIII)I" } : Jvm.MethodName)) ∈ XT := XT2 219 rfl rfl
theorem tw528 : (Jvm.Cond.code ({ cls := "OpensAtNine", name := "feed", desc := "(IIIIII)I" } : Jvm.MethodName) prog_1_method_6_code (7 : Nat) (Option.some Jvm.ClassFile.FieldType.int)) ∈ XT := XT2 220 rfl rfl
theorem tw529 : (Jvm.Cond.methodLink "OpensAtNine" (118 : Nat) ({ cls := "OpensAtNine", name := "isByte", desc := "(I)Z" } : Jvm.MethodName)) ∈ XT := XT2 221 rfl rfl
theorem tw530 : (Jvm.Cond.static ({ cls := "OpensAtNine", name := "isByte", desc := "(I)Z" } : Jvm.MethodName)) ∈ XT := XT2 222 rfl rfl
theorem tw531 : (Jvm.Cond.code ({ cls := "OpensAtNine", name := "isByte", desc := "(I)Z" } : Jvm.MethodName) prog_1_method_7_code (1 : Nat) (Option.some Jvm.ClassFile.FieldType.boolean)) ∈ XT := XT2 223 rfl rfl
theorem tw532 : (Jvm.Cond.methodLink "OpensAtNine" (121 : Nat) ({ cls := "OpensAtNine$Reader", name := "add", desc := "(I)V" } : Jvm.MethodName)) ∈ XT := XT2 224 rfl rfl
theorem tw534 : (Jvm.Cond.instanceMethod ({ cls := "OpensAtNine", name := "text", desc := "()I" } : Jvm.MethodName)) ∈ XT := XT2 226 rfl rfl
theorem tw535 : (Jvm.Cond.selects "OpensAtNine" ({ cls := "OpensAtNine", name := "text", desc := "()I" } : Jvm.MethodName) ({ cls := "OpensAtNine", name := "text", desc := "()I" } : Jvm.MethodName)) ∈ XT := XT2 227 rfl rfl
theorem tw536 : (Jvm.Cond.code ({ cls := "OpensAtNine", name := "text", desc := "()I" } : Jvm.MethodName) prog_1_method_8_code (2 : Nat) (Option.some Jvm.ClassFile.FieldType.int)) ∈ XT := XT2 228 rfl rfl
theorem tw538 : (Jvm.Cond.instanceMethod ({ cls := "OpensAtNine", name := "force", desc := "(I)I" } : Jvm.MethodName)) ∈ XT := XT2 230 rfl rfl
theorem tw539 : (Jvm.Cond.selects "OpensAtNine" ({ cls := "OpensAtNine", name := "force", desc := "(I)I" } : Jvm.MethodName) ({ cls := "OpensAtNine", name := "force", desc := "(I)I" } : Jvm.MethodName)) ∈ XT := XT2 231 rfl rfl
theorem tw540 : (Jvm.Cond.code ({ cls := "OpensAtNine", name := "force", desc := "(I)I" } : Jvm.MethodName) prog_1_method_9_code (3 : Nat) (Option.some Jvm.ClassFile.FieldType.int)) ∈ XT := XT2 232 rfl rfl
theorem tw542 : (Jvm.Cond.instanceMethod ({ cls := "OpensAtNine", name := "asks", desc := "(IIIII)I" } : Jvm.MethodName)) ∈ XT := XT2 234 rfl rfl
theorem tw543 : (Jvm.Cond.selects "OpensAtNine" ({ cls := "OpensAtNine", name := "asks", desc := "(IIIII)I" } : Jvm.MethodName) ({ cls := "OpensAtNine", name := "asks", desc := "(IIIII)I" } : Jvm.MethodName)) ∈ XT := XT2 235 rfl rfl
theorem tw544 : (Jvm.Cond.code ({ cls := "OpensAtNine", name := "asks", desc := "(IIIII)I" } : Jvm.MethodName) prog_1_method_10_code (6 : Nat) (Option.some Jvm.ClassFile.FieldType.int)) ∈ XT := XT2 236 rfl rfl
theorem tw545 : (Jvm.Cond.methodLink "OpensAtNine" (128 : Nat) ({ cls := "OpensAtNine$Gate", name := "lawSays", desc := "(IIIIII)I" } : Jvm.MethodName)) ∈ XT := XT2 237 rfl rfl
theorem tw546 : (Jvm.Cond.instanceMethod ({ cls := "OpensAtNine$Gate", name := "lawSays", desc := "(IIIIII)I" } : Jvm.MethodName)) ∈ XT := XT2 238 rfl rfl
theorem tw547 : (Jvm.Cond.selects "OpensAtNine$Gate" ({ cls := "OpensAtNine$Gate", name := "lawSays", desc := "(IIIIII)I" } : Jvm.MethodName) ({ cls := "OpensAtNine$Gate", name := "lawSays", desc := "(IIIIII)I" } : Jvm.MethodName)) ∈ XT := XT2 239 rfl rfl
theorem tw548 : (Jvm.Cond.code ({ cls := "OpensAtNine$Gate", name := "lawSays", desc := "(IIIIII)I" } : Jvm.MethodName) prog_3_method_19_code (9 : Nat) (Option.some Jvm.ClassFile.FieldType.int)) ∈ XT := XT3 0 rfl rfl
theorem tw549 : (Jvm.Cond.methodLink "OpensAtNine$Gate" (102 : Nat) ({ cls := "OpensAtNine$Gate", name := "restOf", desc := "(I)I" } : Jvm.MethodName)) ∈ XT := XT3 1 rfl rfl
theorem tw550 : (Jvm.Cond.instanceMethod ({ cls := "OpensAtNine$Gate", name := "restOf", desc := "(I)I" } : Jvm.MethodName)) ∈ XT := XT3 2 rfl rfl
theorem tw551 : (Jvm.Cond.selects "OpensAtNine$Gate" ({ cls := "OpensAtNine$Gate", name := "restOf", desc := "(I)I" } : Jvm.MethodName) ({ cls := "OpensAtNine$Gate", name := "restOf", desc := "(I)I" } : Jvm.MethodName)) ∈ XT := XT3 3 rfl rfl
theorem tw552 : (Jvm.Cond.code ({ cls := "OpensAtNine$Gate", name := "restOf", desc := "(I)I" } : Jvm.MethodName) prog_3_method_18_code (2 : Nat) (Option.some Jvm.ClassFile.FieldType.int)) ∈ XT := XT3 4 rfl rfl
theorem tw553 : (Jvm.Cond.methodLink "OpensAtNine$Gate" (105 : Nat) ({ cls := "OpensAtNine$Text", name := "says", desc := "(I[I)I" } : Jvm.MethodName)) ∈ XT := XT3 5 rfl rfl
theorem tw554 : (Jvm.Cond.instanceMethod ({ cls := "OpensAtNine$Text", name := "says", desc := "(I[I)I" } : Jvm.MethodName)) ∈ XT := XT3 6 rfl rfl
theorem tw555 : (Jvm.Cond.selects "OpensAtNine$Text" ({ cls := "OpensAtNine$Text", name := "says", desc := "(I[I)I" } : Jvm.MethodName) ({ cls := "OpensAtNine$Text", name := "says", desc := "(I[I)I" } : Jvm.MethodName)) ∈ XT := XT3 7 rfl rfl
theorem tw556 : (Jvm.Cond.code ({ cls := "OpensAtNine$Text", name := "says", desc := "(I[I)I" } : Jvm.MethodName) prog_7_method_2_code (7 : Nat) (Option.some Jvm.ClassFile.FieldType.int)) ∈ XT := XT3 8 rfl rfl
theorem tw557 : (Jvm.Cond.methodLink "OpensAtNine$Text" (19 : Nat) ({ cls := "java/lang/Math", name := "min", desc := "(II)I" } : Jvm.MethodName)) ∈ XT := XT3 9 rfl rfl
theorem tw558 : (Jvm.Cond.methodLink "OpensAtNine$Text" (25 : Nat) ({ cls := "java/lang/Math", name := "max", desc := "(II)I" } : Jvm.MethodName)) ∈ XT := XT3 10 rfl rfl
theorem tw559 : (Jvm.Cond.static ({ cls := "java/lang/Math", name := "max", desc := "(II)I" } : Jvm.MethodName)) ∈ XT := XT3 11 rfl rfl
theorem tw560 : (Jvm.Cond.code ({ cls := "java/lang/Math", name := "max", desc := "(II)I" } : Jvm.MethodName) prog_14_method_65_code (2 : Nat) (Option.some Jvm.ClassFile.FieldType.int)) ∈ XT := XT3 12 rfl rfl
theorem tw561 : (Jvm.Cond.methodLink "OpensAtNine$Text" (28 : Nat) ({ cls := "OpensAtNine$Text", name := "named", desc := "([II)I" } : Jvm.MethodName)) ∈ XT := XT3 13 rfl rfl
theorem tw562 : (Jvm.Cond.static ({ cls := "OpensAtNine$Text", name := "named", desc := "([II)I" } : Jvm.MethodName)) ∈ XT := XT3 14 rfl rfl
theorem tw563 : (Jvm.Cond.code ({ cls := "OpensAtNine$Text", name := "named", desc := "([II)I" } : Jvm.MethodName) prog_7_method_3_code (2 : Nat) (Option.some Jvm.ClassFile.FieldType.int)) ∈ XT := XT3 15 rfl rfl
theorem tw564 : (Jvm.Cond.methodLink "OpensAtNine$Text" (32 : Nat) ({ cls := "OpensAtNine$Text", name := "joined", desc := "(III)I" } : Jvm.MethodName)) ∈ XT := XT3 16 rfl rfl
theorem tw565 : (Jvm.Cond.static ({ cls := "OpensAtNine$Text", name := "joined", desc := "(III)I" } : Jvm.MethodName)) ∈ XT := XT3 17 rfl rfl
theorem tw566 : (Jvm.Cond.code ({ cls := "OpensAtNine$Text", name := "joined", desc := "(III)I" } : Jvm.MethodName) prog_7_method_4_code (3 : Nat) (Option.some Jvm.ClassFile.FieldType.int)) ∈ XT := XT3 18 rfl rfl
theorem tw567 : (Jvm.Cond.methodLink "OpensAtNine$Gate" (74 : Nat) ({ cls := "java/lang/Math", name := "min", desc := "(II)I" } : Jvm.MethodName)) ∈ XT := XT3 19 rfl rfl
theorem tw568 : (Jvm.Cond.methodLink "OpensAtNine$Gate" (111 : Nat) ({ cls := "java/lang/Math", name := "max", desc := "(II)I" } : Jvm.MethodName)) ∈ XT := XT3 20 rfl rfl
theorem tw570 : (Jvm.Cond.instanceMethod ({ cls := "OpensAtNine", name := "coin", desc := "(IIII)I" } : Jvm.MethodName)) ∈ XT := XT3 22 rfl rfl
theorem tw571 : (Jvm.Cond.selects "OpensAtNine" ({ cls := "OpensAtNine", name := "coin", desc := "(IIII)I" } : Jvm.MethodName) ({ cls := "OpensAtNine", name := "coin", desc := "(IIII)I" } : Jvm.MethodName)) ∈ XT := XT3 23 rfl rfl
theorem tw572 : (Jvm.Cond.code ({ cls := "OpensAtNine", name := "coin", desc := "(IIII)I" } : Jvm.MethodName) prog_1_method_11_code (6 : Nat) (Option.some Jvm.ClassFile.FieldType.int)) ∈ XT := XT3 24 rfl rfl
theorem tw573 : (Jvm.Cond.instantiable "OpensAtNine$Coin" (3 : Nat)) ∈ XT := XT3 25 rfl rfl
theorem tw574 : (Jvm.Cond.methodLink "OpensAtNine" (132 : Nat) ({ cls := "OpensAtNine$Coin", name := "<init>", desc := "(III)V" } : Jvm.MethodName)) ∈ XT := XT3 26 rfl rfl
theorem tw575 : (Jvm.Cond.instanceMethod ({ cls := "OpensAtNine$Coin", name := "<init>", desc := "(III)V" } : Jvm.MethodName)) ∈ XT := XT3 27 rfl rfl
theorem tw576 : (Jvm.Cond.code ({ cls := "OpensAtNine$Coin", name := "<init>", desc := "(III)V" } : Jvm.MethodName) prog_2_method_1_code (4 : Nat) (Option.none : Option Jvm.ClassFile.FieldType)) ∈ XT := XT3 28 rfl rfl
theorem tw577 : (Jvm.Cond.methodLink "OpensAtNine$Coin" (3 : Nat) ({ cls := "java/lang/Object", name := "<init>", desc := "()V" } : Jvm.MethodName)) ∈ XT := XT3 29 rfl rfl
theorem tw591 : (Jvm.Cond.methodLink "OpensAtNine" (135 : Nat) ({ cls := "OpensAtNine$Gate", name := "give", desc := "(II)V" } : Jvm.MethodName)) ∈ XT := XT3 43 rfl rfl
theorem tw592 : (Jvm.Cond.instanceMethod ({ cls := "OpensAtNine$Gate", name := "give", desc := "(II)V" } : Jvm.MethodName)) ∈ XT := XT3 44 rfl rfl
theorem tw593 : (Jvm.Cond.selects "OpensAtNine$Gate" ({ cls := "OpensAtNine$Gate", name := "give", desc := "(II)V" } : Jvm.MethodName) ({ cls := "OpensAtNine$Gate", name := "give", desc := "(II)V" } : Jvm.MethodName)) ∈ XT := XT3 45 rfl rfl
theorem tw594 : (Jvm.Cond.code ({ cls := "OpensAtNine$Gate", name := "give", desc := "(II)V" } : Jvm.MethodName) prog_3_method_9_code (4 : Nat) (Option.none : Option Jvm.ClassFile.FieldType)) ∈ XT := XT3 46 rfl rfl
theorem tw596 : (Jvm.Cond.instanceMethod ({ cls := "OpensAtNine", name := "sell", desc := "(II)I" } : Jvm.MethodName)) ∈ XT := XT3 48 rfl rfl
theorem tw597 : (Jvm.Cond.selects "OpensAtNine" ({ cls := "OpensAtNine", name := "sell", desc := "(II)I" } : Jvm.MethodName) ({ cls := "OpensAtNine", name := "sell", desc := "(II)I" } : Jvm.MethodName)) ∈ XT := XT3 49 rfl rfl
theorem tw598 : (Jvm.Cond.code ({ cls := "OpensAtNine", name := "sell", desc := "(II)I" } : Jvm.MethodName) prog_1_method_12_code (4 : Nat) (Option.some Jvm.ClassFile.FieldType.int)) ∈ XT := XT3 50 rfl rfl
theorem tw599 : (Jvm.Cond.methodLink "OpensAtNine" (139 : Nat) ({ cls := "OpensAtNine$Gate", name := "coinAt", desc := "(I)LOpensAtNine$Coin;" } : Jvm.MethodName)) ∈ XT := XT3 51 rfl rfl
theorem tw600 : (Jvm.Cond.instanceMethod ({ cls := "OpensAtNine$Gate", name := "coinAt", desc := "(I)LOpensAtNine$Coin;" } : Jvm.MethodName)) ∈ XT := XT3 52 rfl rfl
theorem tw601 : (Jvm.Cond.selects "OpensAtNine$Gate" ({ cls := "OpensAtNine$Gate", name := "coinAt", desc := "(I)LOpensAtNine$Coin;" } : Jvm.MethodName) ({ cls := "OpensAtNine$Gate", name := "coinAt", desc := "(I)LOpensAtNine$Coin;" } : Jvm.MethodName)) ∈ XT := XT3 53 rfl rfl
theorem tw602 : (Jvm.Cond.code ({ cls := "OpensAtNine$Gate", name := "coinAt", desc := "(I)LOpensAtNine$Coin;" } : Jvm.MethodName) prog_3_method_6_code (2 : Nat) (Option.some (Jvm.ClassFile.FieldType.object "OpensAtNine$Coin"))) ∈ XT := XT3 54 rfl rfl
theorem tw603 : (Jvm.Cond.methodLink "OpensAtNine" (143 : Nat) ({ cls := "OpensAtNine$Gate", name := "isSpent", desc := "(I)Z" } : Jvm.MethodName)) ∈ XT := XT3 55 rfl rfl
theorem tw604 : (Jvm.Cond.instanceMethod ({ cls := "OpensAtNine$Gate", name := "isSpent", desc := "(I)Z" } : Jvm.MethodName)) ∈ XT := XT3 56 rfl rfl
theorem tw605 : (Jvm.Cond.selects "OpensAtNine$Gate" ({ cls := "OpensAtNine$Gate", name := "isSpent", desc := "(I)Z" } : Jvm.MethodName) ({ cls := "OpensAtNine$Gate", name := "isSpent", desc := "(I)Z" } : Jvm.MethodName)) ∈ XT := XT3 57 rfl rfl
theorem tw606 : (Jvm.Cond.code ({ cls := "OpensAtNine$Gate", name := "isSpent", desc := "(I)Z" } : Jvm.MethodName) prog_3_method_7_code (2 : Nat) (Option.some Jvm.ClassFile.FieldType.boolean)) ∈ XT := XT3 58 rfl rfl
theorem tw607 : (Jvm.Cond.methodLink "OpensAtNine" (146 : Nat) ({ cls := "OpensAtNine$Gate", name := "ownerOf", desc := "(I)I" } : Jvm.MethodName)) ∈ XT := XT3 59 rfl rfl
theorem tw608 : (Jvm.Cond.instanceMethod ({ cls := "OpensAtNine$Gate", name := "ownerOf", desc := "(I)I" } : Jvm.MethodName)) ∈ XT := XT3 60 rfl rfl
theorem tw609 : (Jvm.Cond.selects "OpensAtNine$Gate" ({ cls := "OpensAtNine$Gate", name := "ownerOf", desc := "(I)I" } : Jvm.MethodName) ({ cls := "OpensAtNine$Gate", name := "ownerOf", desc := "(I)I" } : Jvm.MethodName)) ∈ XT := XT3 61 rfl rfl
theorem tw610 : (Jvm.Cond.code ({ cls := "OpensAtNine$Gate", name := "ownerOf", desc := "(I)I" } : Jvm.MethodName) prog_3_method_8_code (3 : Nat) (Option.some Jvm.ClassFile.FieldType.int)) ∈ XT := XT3 62 rfl rfl
theorem tw612 : (Jvm.Cond.instanceMethod ({ cls := "OpensAtNine", name := "told", desc := "(II)I" } : Jvm.MethodName)) ∈ XT := XT3 64 rfl rfl
theorem tw613 : (Jvm.Cond.selects "OpensAtNine" ({ cls := "OpensAtNine", name := "told", desc := "(II)I" } : Jvm.MethodName) ({ cls := "OpensAtNine", name := "told", desc := "(II)I" } : Jvm.MethodName)) ∈ XT := XT3 65 rfl rfl
theorem tw614 : (Jvm.Cond.code ({ cls := "OpensAtNine", name := "told", desc := "(II)I" } : Jvm.MethodName) prog_1_method_13_code (4 : Nat) (Option.some Jvm.ClassFile.FieldType.int)) ∈ XT := XT3 66 rfl rfl
theorem tw615 : (Jvm.Cond.methodLink "OpensAtNine" (158 : Nat) ({ cls := "OpensAtNine$Coin", name := "countsBy", desc := "(I)I" } : Jvm.MethodName)) ∈ XT := XT3 67 rfl rfl
theorem tw616 : (Jvm.Cond.instanceMethod ({ cls := "OpensAtNine$Coin", name := "countsBy", desc := "(I)I" } : Jvm.MethodName)) ∈ XT := XT3 68 rfl rfl
theorem tw617 : (Jvm.Cond.selects "OpensAtNine$Coin" ({ cls := "OpensAtNine$Coin", name := "countsBy", desc := "(I)I" } : Jvm.MethodName) ({ cls := "OpensAtNine$Coin", name := "countsBy", desc := "(I)I" } : Jvm.MethodName)) ∈ XT := XT3 69 rfl rfl
theorem tw618 : (Jvm.Cond.code ({ cls := "OpensAtNine$Coin", name := "countsBy", desc := "(I)I" } : Jvm.MethodName) prog_2_method_2_code (2 : Nat) (Option.some Jvm.ClassFile.FieldType.int)) ∈ XT := XT3 70 rfl rfl
theorem tw619 : (Jvm.Cond.methodLink "OpensAtNine$Coin" (21 : Nat) ({ cls := "OpensAtNine$Coin", name := "worn", desc := "()I" } : Jvm.MethodName)) ∈ XT := XT3 71 rfl rfl
theorem tw621 : (Jvm.Cond.instanceMethod ({ cls := "OpensAtNine$Coin", name := "worn", desc := "()I" } : Jvm.MethodName)) ∈ XT := XT3 73 rfl rfl
theorem tw622 : (Jvm.Cond.code ({ cls := "OpensAtNine$Coin", name := "worn", desc := "()I" } : Jvm.MethodName) prog_2_method_3_code (1 : Nat) (Option.some Jvm.ClassFile.FieldType.int)) ∈ XT := XT3 74 rfl rfl
theorem tw623 : (Jvm.Cond.methodLink "OpensAtNine$Coin" (25 : Nat) ({ cls := "java/lang/Math", name := "max", desc := "(II)I" } : Jvm.MethodName)) ∈ XT := XT3 75 rfl rfl
theorem tw624 : (Jvm.Cond.methodLink "OpensAtNine" (161 : Nat) ({ cls := "OpensAtNine$Coin", name := "costs", desc := "()I" } : Jvm.MethodName)) ∈ XT := XT3 76 rfl rfl
theorem tw625 : (Jvm.Cond.instanceMethod ({ cls := "OpensAtNine$Coin", name := "costs", desc := "()I" } : Jvm.MethodName)) ∈ XT := XT3 77 rfl rfl
theorem tw626 : (Jvm.Cond.selects "OpensAtNine$Coin" ({ cls := "OpensAtNine$Coin", name := "costs", desc := "()I" } : Jvm.MethodName) ({ cls := "OpensAtNine$Coin", name := "costs", desc := "()I" } : Jvm.MethodName)) ∈ XT := XT3 78 rfl rfl
theorem tw627 : (Jvm.Cond.code ({ cls := "OpensAtNine$Coin", name := "costs", desc := "()I" } : Jvm.MethodName) prog_2_method_4_code (1 : Nat) (Option.some Jvm.ClassFile.FieldType.int)) ∈ XT := XT3 79 rfl rfl
theorem tw629 : (Jvm.Cond.instanceMethod ({ cls := "OpensAtNine", name := "put", desc := "(I)I" } : Jvm.MethodName)) ∈ XT := XT3 81 rfl rfl
theorem tw630 : (Jvm.Cond.selects "OpensAtNine" ({ cls := "OpensAtNine", name := "put", desc := "(I)I" } : Jvm.MethodName) ({ cls := "OpensAtNine", name := "put", desc := "(I)I" } : Jvm.MethodName)) ∈ XT := XT3 82 rfl rfl
theorem tw631 : (Jvm.Cond.code ({ cls := "OpensAtNine", name := "put", desc := "(I)I" } : Jvm.MethodName) prog_1_method_14_code (2 : Nat) (Option.some Jvm.ClassFile.FieldType.int)) ∈ XT := XT3 83 rfl rfl
theorem tw632 : (Jvm.Cond.methodLink "OpensAtNine" (165 : Nat) ({ cls := "OpensAtNine$Gate", name := "mayPut", desc := "(I)Z" } : Jvm.MethodName)) ∈ XT := XT3 84 rfl rfl
theorem tw633 : (Jvm.Cond.instanceMethod ({ cls := "OpensAtNine$Gate", name := "mayPut", desc := "(I)Z" } : Jvm.MethodName)) ∈ XT := XT3 85 rfl rfl
theorem tw634 : (Jvm.Cond.selects "OpensAtNine$Gate" ({ cls := "OpensAtNine$Gate", name := "mayPut", desc := "(I)Z" } : Jvm.MethodName) ({ cls := "OpensAtNine$Gate", name := "mayPut", desc := "(I)Z" } : Jvm.MethodName)) ∈ XT := XT3 86 rfl rfl
theorem tw635 : (Jvm.Cond.code ({ cls := "OpensAtNine$Gate", name := "mayPut", desc := "(I)Z" } : Jvm.MethodName) prog_3_method_12_code (2 : Nat) (Option.some Jvm.ClassFile.FieldType.boolean)) ∈ XT := XT3 87 rfl rfl
theorem tw636 : (Jvm.Cond.methodLink "OpensAtNine$Gate" (59 : Nat) ({ cls := "OpensAtNine$Gate", name := "coinAt", desc := "(I)LOpensAtNine$Coin;" } : Jvm.MethodName)) ∈ XT := XT3 88 rfl rfl
theorem tw637 : (Jvm.Cond.methodLink "OpensAtNine$Gate" (63 : Nat) ({ cls := "OpensAtNine$Gate", name := "isSpent", desc := "(I)Z" } : Jvm.MethodName)) ∈ XT := XT3 89 rfl rfl
theorem tw638 : (Jvm.Cond.methodLink "OpensAtNine$Gate" (66 : Nat) ({ cls := "OpensAtNine$Gate", name := "ownerOf", desc := "(I)I" } : Jvm.MethodName)) ∈ XT := XT3 90 rfl rfl
theorem tw639 : (Jvm.Cond.methodLink "OpensAtNine$Gate" (51 : Nat) ({ cls := "OpensAtNine$Gate", name := "isInside", desc := "(I)Z" } : Jvm.MethodName)) ∈ XT := XT3 91 rfl rfl
theorem tw640 : (Jvm.Cond.methodLink "OpensAtNine" (168 : Nat) ({ cls := "OpensAtNine$Gate", name := "putIn", desc := "(I)Z" } : Jvm.MethodName)) ∈ XT := XT3 92 rfl rfl
theorem tw641 : (Jvm.Cond.instanceMethod ({ cls := "OpensAtNine$Gate", name := "putIn", desc := "(I)Z" } : Jvm.MethodName)) ∈ XT := XT3 93 rfl rfl
theorem tw642 : (Jvm.Cond.selects "OpensAtNine$Gate" ({ cls := "OpensAtNine$Gate", name := "putIn", desc := "(I)Z" } : Jvm.MethodName) ({ cls := "OpensAtNine$Gate", name := "putIn", desc := "(I)Z" } : Jvm.MethodName)) ∈ XT := XT3 94 rfl rfl
theorem tw643 : (Jvm.Cond.code ({ cls := "OpensAtNine$Gate", name := "putIn", desc := "(I)Z" } : Jvm.MethodName) prog_3_method_13_code (6 : Nat) (Option.some Jvm.ClassFile.FieldType.boolean)) ∈ XT := XT3 95 rfl rfl
theorem tw644 : (Jvm.Cond.methodLink "OpensAtNine$Gate" (69 : Nat) ({ cls := "OpensAtNine$Coin", name := "countsBy", desc := "(I)I" } : Jvm.MethodName)) ∈ XT := XT3 96 rfl rfl
theorem tw645 : (Jvm.Cond.methodLink "OpensAtNine$Gate" (55 : Nat) ({ cls := "OpensAtNine$Gate", name := "leftOf", desc := "(I)I" } : Jvm.MethodName)) ∈ XT := XT3 97 rfl rfl
theorem tw646 : (Jvm.Cond.instanceMethod ({ cls := "OpensAtNine$Gate", name := "leftOf", desc := "(I)I" } : Jvm.MethodName)) ∈ XT := XT3 98 rfl rfl
theorem tw647 : (Jvm.Cond.selects "OpensAtNine$Gate" ({ cls := "OpensAtNine$Gate", name := "leftOf", desc := "(I)I" } : Jvm.MethodName) ({ cls := "OpensAtNine$Gate", name := "leftOf", desc := "(I)I" } : Jvm.MethodName)) ∈ XT := XT3 99 rfl rfl
theorem tw648 : (Jvm.Cond.code ({ cls := "OpensAtNine$Gate", name := "leftOf", desc := "(I)I" } : Jvm.MethodName) prog_3_method_10_code (2 : Nat) (Option.some Jvm.ClassFile.FieldType.int)) ∈ XT := XT3 100 rfl rfl
theorem tw649 : (Jvm.Cond.methodLink "OpensAtNine$Gate" (80 : Nat) ({ cls := "java/lang/Integer", name := "bitCount", desc := "(I)I" } : Jvm.MethodName)) ∈ XT := XT3 101 rfl rfl
theorem tw650 : (Jvm.Cond.static ({ cls := "java/lang/Integer", name := "bitCount", desc := "(I)I" } : Jvm.MethodName)) ∈ XT := XT3 102 rfl rfl
theorem tw651 : (Jvm.Cond.code ({ cls := "java/lang/Integer", name := "bitCount", desc := "(I)I" } : Jvm.MethodName) prog_13_method_49_code (1 : Nat) (Option.some Jvm.ClassFile.FieldType.int)) ∈ XT := XT3 103 rfl rfl
theorem tw652 : (Jvm.Cond.constant "java/lang/Integer" (265 : Nat) (1431655765 : Int32)) ∈ XT := XT3 104 rfl rfl
theorem tw653 : (Jvm.Cond.constant "java/lang/Integer" (266 : Nat) (858993459 : Int32)) ∈ XT := XT3 105 rfl rfl
theorem tw654 : (Jvm.Cond.constant "java/lang/Integer" (267 : Nat) (252645135 : Int32)) ∈ XT := XT3 106 rfl rfl
theorem tw655 : (Jvm.Cond.methodLink "OpensAtNine$Gate" (85 : Nat) ({ cls := "OpensAtNine$Gate", name := "lawSays", desc := "(IIIIII)I" } : Jvm.MethodName)) ∈ XT := XT3 107 rfl rfl
theorem tw656 : (Jvm.Cond.methodLink "OpensAtNine$Gate" (89 : Nat) ({ cls := "OpensAtNine$Gate", name := "waitOn", desc := "()V" } : Jvm.MethodName)) ∈ XT := XT3 108 rfl rfl
theorem tw657 : (Jvm.Cond.instanceMethod ({ cls := "OpensAtNine$Gate", name := "waitOn", desc := "()V" } : Jvm.MethodName)) ∈ XT := XT3 109 rfl rfl
theorem tw658 : (Jvm.Cond.selects "OpensAtNine$Gate" ({ cls := "OpensAtNine$Gate", name := "waitOn", desc := "()V" } : Jvm.MethodName) ({ cls := "OpensAtNine$Gate", name := "waitOn", desc := "()V" } : Jvm.MethodName)) ∈ XT := XT3 110 rfl rfl
theorem tw659 : (Jvm.Cond.code ({ cls := "OpensAtNine$Gate", name := "waitOn", desc := "()V" } : Jvm.MethodName) prog_3_method_14_code (1 : Nat) (Option.none : Option Jvm.ClassFile.FieldType)) ∈ XT := XT3 111 rfl rfl
theorem tw661 : (Jvm.Cond.instanceMethod ({ cls := "OpensAtNine", name := "worth", desc := "(I)I" } : Jvm.MethodName)) ∈ XT := XT3 113 rfl rfl
theorem tw662 : (Jvm.Cond.selects "OpensAtNine" ({ cls := "OpensAtNine", name := "worth", desc := "(I)I" } : Jvm.MethodName) ({ cls := "OpensAtNine", name := "worth", desc := "(I)I" } : Jvm.MethodName)) ∈ XT := XT3 114 rfl rfl
theorem tw663 : (Jvm.Cond.code ({ cls := "OpensAtNine", name := "worth", desc := "(I)I" } : Jvm.MethodName) prog_1_method_15_code (2 : Nat) (Option.some Jvm.ClassFile.FieldType.int)) ∈ XT := XT3 115 rfl rfl
theorem tw664 : (Jvm.Cond.methodLink "OpensAtNine" (171 : Nat) ({ cls := "OpensAtNine$Gate", name := "worthOf", desc := "(I)I" } : Jvm.MethodName)) ∈ XT := XT3 116 rfl rfl
theorem tw665 : (Jvm.Cond.instanceMethod ({ cls := "OpensAtNine$Gate", name := "worthOf", desc := "(I)I" } : Jvm.MethodName)) ∈ XT := XT3 117 rfl rfl
theorem tw666 : (Jvm.Cond.selects "OpensAtNine$Gate" ({ cls := "OpensAtNine$Gate", name := "worthOf", desc := "(I)I" } : Jvm.MethodName) ({ cls := "OpensAtNine$Gate", name := "worthOf", desc := "(I)I" } : Jvm.MethodName)) ∈ XT := XT3 118 rfl rfl
theorem tw667 : (Jvm.Cond.code ({ cls := "OpensAtNine$Gate", name := "worthOf", desc := "(I)I" } : Jvm.MethodName) prog_3_method_17_code (4 : Nat) (Option.some Jvm.ClassFile.FieldType.int)) ∈ XT := XT3 119 rfl rfl
theorem tw668 : (Jvm.Cond.constant "OpensAtNine" (174 : Nat) (-100000 : Int32)) ∈ XT := XT3 120 rfl rfl
theorem tw670 : (Jvm.Cond.instanceMethod ({ cls := "OpensAtNine", name := "gang", desc := "(II)I" } : Jvm.MethodName)) ∈ XT := XT3 122 rfl rfl
theorem tw671 : (Jvm.Cond.selects "OpensAtNine" ({ cls := "OpensAtNine", name := "gang", desc := "(II)I" } : Jvm.MethodName) ({ cls := "OpensAtNine", name := "gang", desc := "(II)I" } : Jvm.MethodName)) ∈ XT := XT3 123 rfl rfl
theorem tw672 : (Jvm.Cond.code ({ cls := "OpensAtNine", name := "gang", desc := "(II)I" } : Jvm.MethodName) prog_1_method_16_code (4 : Nat) (Option.some Jvm.ClassFile.FieldType.int)) ∈ XT := XT3 124 rfl rfl
theorem tw673 : (Jvm.Cond.methodLink "OpensAtNine" (175 : Nat) ({ cls := "OpensAtNine$Ways", name := "cheapest", desc := "(LOpensAtNine$Gate;I)I" } : Jvm.MethodName)) ∈ XT := XT3 125 rfl rfl
theorem tw674 : (Jvm.Cond.instanceMethod ({ cls := "OpensAtNine$Ways", name := "cheapest", desc := "(LOpensAtNine$Gate;I)I" } : Jvm.MethodName)) ∈ XT := XT3 126 rfl rfl
theorem tw675 : (Jvm.Cond.selects "OpensAtNine$Ways" ({ cls := "OpensAtNine$Ways", name := "cheapest", desc := "(LOpensAtNine$Gate;I)I" } : Jvm.MethodName) ({ cls := "OpensAtNine$Ways", name := "cheapest", desc := "(LOpensAtNine$Gate;I)I" } : Jvm.MethodName)) ∈ XT := XT3 127 rfl rfl
theorem tw676 : (Jvm.Cond.code ({ cls := "OpensAtNine$Ways", name := "cheapest", desc := "(LOpensAtNine$Gate;I)I" } : Jvm.MethodName) prog_9_method_2_code (3 : Nat) (Option.some Jvm.ClassFile.FieldType.int)) ∈ XT := XT3 128 rfl rfl
theorem tw677 : (Jvm.Cond.methodLink "OpensAtNine$Ways" (19 : Nat) ({ cls := "OpensAtNine$Gate", name := "become", desc := "(LOpensAtNine$Gate;)V" } : Jvm.MethodName)) ∈ XT := XT3 129 rfl rfl
theorem tw678 : (Jvm.Cond.instanceMethod ({ cls := "OpensAtNine$Gate", name := "become", desc := "(LOpensAtNine$Gate;)V" } : Jvm.MethodName)) ∈ XT := XT3 130 rfl rfl
theorem tw679 : (Jvm.Cond.selects "OpensAtNine$Gate" ({ cls := "OpensAtNine$Gate", name := "become", desc := "(LOpensAtNine$Gate;)V" } : Jvm.MethodName) ({ cls := "OpensAtNine$Gate", name := "become", desc := "(LOpensAtNine$Gate;)V" } : Jvm.MethodName)) ∈ XT := XT3 131 rfl rfl
theorem tw680 : (Jvm.Cond.code ({ cls := "OpensAtNine$Gate", name := "become", desc := "(LOpensAtNine$Gate;)V" } : Jvm.MethodName) prog_3_method_2_code (3 : Nat) (Option.none : Option Jvm.ClassFile.FieldType)) ∈ XT := XT3 132 rfl rfl
theorem tw681 : (Jvm.Cond.methodLink "OpensAtNine$Ways" (25 : Nat) ({ cls := "OpensAtNine$Met", name := "forgetAll", desc := "()V" } : Jvm.MethodName)) ∈ XT := XT3 133 rfl rfl
theorem tw682 : (Jvm.Cond.instanceMethod ({ cls := "OpensAtNine$Met", name := "forgetAll", desc := "()V" } : Jvm.MethodName)) ∈ XT := XT3 134 rfl rfl
theorem tw683 : (Jvm.Cond.selects "OpensAtNine$Met" ({ cls := "OpensAtNine$Met", name := "forgetAll", desc := "()V" } : Jvm.MethodName) ({ cls := "OpensAtNine$Met", name := "forgetAll", desc := "()V" } : Jvm.MethodName)) ∈ XT := XT3 135 rfl rfl
theorem tw684 : (Jvm.Cond.code ({ cls := "OpensAtNine$Met", name := "forgetAll", desc := "()V" } : Jvm.MethodName) prog_4_method_2_code (1 : Nat) (Option.none : Option Jvm.ClassFile.FieldType)) ∈ XT := XT3 136 rfl rfl
theorem tw685 : (Jvm.Cond.methodLink "OpensAtNine$Met" (13 : Nat) ({ cls := "java/util/Arrays", name := "fill", desc := "([II)V" } : Jvm.MethodName)) ∈ XT := XT3 137 rfl rfl
theorem tw686 : (Jvm.Cond.static ({ cls := "java/util/Arrays", name := "fill", desc := "([II)V" } : Jvm.MethodName)) ∈ XT := XT3 138 rfl rfl
theorem tw687 : (Jvm.Cond.code ({ cls := "java/util/Arrays", name := "fill", desc := "([II)V" } : Jvm.MethodName) prog_19_method_103_code (4 : Nat) (Option.none : Option Jvm.ClassFile.FieldType)) ∈ XT := XT3 139 rfl rfl
theorem tw688 : (Jvm.Cond.methodLink "OpensAtNine$Ways" (37 : Nat) ({ cls := "OpensAtNine$Ways", name := "goOn", desc := "(III)V" } : Jvm.MethodName)) ∈ XT := XT3 140 rfl rfl
theorem tw690 : (Jvm.Cond.instanceMethod ({ cls := "OpensAtNine$Ways", name := "goOn", desc := "(III)V" } : Jvm.MethodName)) ∈ XT := XT3 142 rfl rfl
theorem tw691 : (Jvm.Cond.code ({ cls := "OpensAtNine$Ways", name := "goOn", desc := "(III)V" } : Jvm.MethodName) prog_9_method_3_code (12 : Nat) (Option.none : Option Jvm.ClassFile.FieldType)) ∈ XT := XT3 143 rfl rfl
theorem tw692 : (Jvm.Cond.methodLink "OpensAtNine$Ways" (53 : Nat) ({ cls := "OpensAtNine$Met", name := "knows", desc := "(I)Z" } : Jvm.MethodName)) ∈ XT := XT3 144 rfl rfl
theorem tw693 : (Jvm.Cond.instanceMethod ({ cls := "OpensAtNine$Met", name := "knows", desc := "(I)Z" } : Jvm.MethodName)) ∈ XT := XT3 145 rfl rfl
theorem tw694 : (Jvm.Cond.selects "OpensAtNine$Met" ({ cls := "OpensAtNine$Met", name := "knows", desc := "(I)Z" } : Jvm.MethodName) ({ cls := "OpensAtNine$Met", name := "knows", desc := "(I)Z" } : Jvm.MethodName)) ∈ XT := XT3 146 rfl rfl
theorem tw695 : (Jvm.Cond.code ({ cls := "OpensAtNine$Met", name := "knows", desc := "(I)Z" } : Jvm.MethodName) prog_4_method_4_code (2 : Nat) (Option.some Jvm.ClassFile.FieldType.boolean)) ∈ XT := XT3 147 rfl rfl
theorem tw696 : (Jvm.Cond.methodLink "OpensAtNine$Met" (20 : Nat) ({ cls := "OpensAtNine$Met", name := "slotOf", desc := "(I)I" } : Jvm.MethodName)) ∈ XT := XT3 148 rfl rfl
theorem tw697 : (Jvm.Cond.instanceMethod ({ cls := "OpensAtNine$Met", name := "slotOf", desc := "(I)I" } : Jvm.MethodName)) ∈ XT := XT3 149 rfl rfl
theorem tw698 : (Jvm.Cond.selects "OpensAtNine$Met" ({ cls := "OpensAtNine$Met", name := "slotOf", desc := "(I)I" } : Jvm.MethodName) ({ cls := "OpensAtNine$Met", name := "slotOf", desc := "(I)I" } : Jvm.MethodName)) ∈ XT := XT3 150 rfl rfl
theorem tw699 : (Jvm.Cond.code ({ cls := "OpensAtNine$Met", name := "slotOf", desc := "(I)I" } : Jvm.MethodName) prog_4_method_3_code (2 : Nat) (Option.some Jvm.ClassFile.FieldType.int)) ∈ XT := XT3 151 rfl rfl
theorem tw700 : (Jvm.Cond.constant "OpensAtNine$Met" (19 : Nat) (-1640531535 : Int32)) ∈ XT := XT3 152 rfl rfl
theorem tw701 : (Jvm.Cond.methodLink "OpensAtNine$Ways" (57 : Nat) ({ cls := "OpensAtNine$Met", name := "note", desc := "(I)V" } : Jvm.MethodName)) ∈ XT := XT3 153 rfl rfl
theorem tw702 : (Jvm.Cond.instanceMethod ({ cls := "OpensAtNine$Met", name := "note", desc := "(I)V" } : Jvm.MethodName)) ∈ XT := XT3 154 rfl rfl
theorem tw703 : (Jvm.Cond.selects "OpensAtNine$Met" ({ cls := "OpensAtNine$Met", name := "note", desc := "(I)V" } : Jvm.MethodName) ({ cls := "OpensAtNine$Met", name := "note", desc := "(I)V" } : Jvm.MethodName)) ∈ XT := XT3 155 rfl rfl
theorem tw704 : (Jvm.Cond.code ({ cls := "OpensAtNine$Met", name := "note", desc := "(I)V" } : Jvm.MethodName) prog_4_method_5_code (2 : Nat) (Option.none : Option Jvm.ClassFile.FieldType)) ∈ XT := XT3 156 rfl rfl
theorem tw705 : (Jvm.Cond.methodLink "OpensAtNine$Ways" (64 : Nat) ({ cls := "OpensAtNine$Gate", name := "movable", desc := "(I)I" } : Jvm.MethodName)) ∈ XT := XT3 157 rfl rfl
theorem tw706 : (Jvm.Cond.instanceMethod ({ cls := "OpensAtNine$Gate", name := "movable", desc := "(I)I" } : Jvm.MethodName)) ∈ XT := XT3 158 rfl rfl
theorem tw707 : (Jvm.Cond.selects "OpensAtNine$Gate" ({ cls := "OpensAtNine$Gate", name := "movable", desc := "(I)I" } : Jvm.MethodName) ({ cls := "OpensAtNine$Gate", name := "movable", desc := "(I)I" } : Jvm.MethodName)) ∈ XT := XT3 159 rfl rfl
theorem tw708 : (Jvm.Cond.code ({ cls := "OpensAtNine$Gate", name := "movable", desc := "(I)I" } : Jvm.MethodName) prog_3_method_11_code (4 : Nat) (Option.some Jvm.ClassFile.FieldType.int)) ∈ XT := XT3 160 rfl rfl
theorem tw709 : (Jvm.Cond.methodLink "OpensAtNine$Ways" (68 : Nat) ({ cls := "OpensAtNine$Gate", name := "costOf", desc := "(I)I" } : Jvm.MethodName)) ∈ XT := XT3 161 rfl rfl
theorem tw710 : (Jvm.Cond.instanceMethod ({ cls := "OpensAtNine$Gate", name := "costOf", desc := "(I)I" } : Jvm.MethodName)) ∈ XT := XT3 162 rfl rfl
theorem tw711 : (Jvm.Cond.selects "OpensAtNine$Gate" ({ cls := "OpensAtNine$Gate", name := "costOf", desc := "(I)I" } : Jvm.MethodName) ({ cls := "OpensAtNine$Gate", name := "costOf", desc := "(I)I" } : Jvm.MethodName)) ∈ XT := XT3 163 rfl rfl
theorem tw712 : (Jvm.Cond.code ({ cls := "OpensAtNine$Gate", name := "costOf", desc := "(I)I" } : Jvm.MethodName) prog_3_method_16_code (3 : Nat) (Option.some Jvm.ClassFile.FieldType.int)) ∈ XT := XT3 164 rfl rfl
theorem tw713 : (Jvm.Cond.methodLink "OpensAtNine$Gate" (98 : Nat) ({ cls := "OpensAtNine$Coin", name := "costs", desc := "()I" } : Jvm.MethodName)) ∈ XT := XT3 165 rfl rfl
theorem tw714 : (Jvm.Cond.methodLink "OpensAtNine$Ways" (71 : Nat) ({ cls := "OpensAtNine$Gate", name := "putIn", desc := "(I)Z" } : Jvm.MethodName)) ∈ XT := XT3 166 rfl rfl
theorem tw715 : (Jvm.Cond.methodLink "OpensAtNine$Ways" (74 : Nat) ({ cls := "OpensAtNine$Gate", name := "undo", desc := "(IIII)V" } : Jvm.MethodName)) ∈ XT := XT3 167 rfl rfl
theorem tw716 : (Jvm.Cond.instanceMethod ({ cls := "OpensAtNine$Gate", name := "undo", desc := "(IIII)V" } : Jvm.MethodName)) ∈ XT := XT3 168 rfl rfl
theorem tw717 : (Jvm.Cond.selects "OpensAtNine$Gate" ({ cls := "OpensAtNine$Gate", name := "undo", desc := "(IIII)V" } : Jvm.MethodName) ({ cls := "OpensAtNine$Gate", name := "undo", desc := "(IIII)V" } : Jvm.MethodName)) ∈ XT := XT3 169 rfl rfl
theorem tw718 : (Jvm.Cond.code ({ cls := "OpensAtNine$Gate", name := "undo", desc := "(IIII)V" } : Jvm.MethodName) prog_3_method_3_code (5 : Nat) (Option.none : Option Jvm.ClassFile.FieldType)) ∈ XT := XT3 170 rfl rfl
theorem tw719 : (Jvm.Cond.methodLink "OpensAtNine" (182 : Nat) ({ cls := "OpensAtNine", name := "digitsOf", desc := "(I)I" } : Jvm.MethodName)) ∈ XT := XT3 171 rfl rfl
theorem tw720 : (Jvm.Cond.static ({ cls := "OpensAtNine", name := "digitsOf", desc := "(I)I" } : Jvm.MethodName)) ∈ XT := XT3 172 rfl rfl
theorem tw721 : (Jvm.Cond.code ({ cls := "OpensAtNine", name := "digitsOf", desc := "(I)I" } : Jvm.MethodName) prog_1_method_17_code (2 : Nat) (Option.some Jvm.ClassFile.FieldType.int)) ∈ XT := XT3 173 rfl rfl
theorem tw722 : (Jvm.Cond.fieldLink "OpensAtNine" (185 : Nat) "OpensAtNine" "TENS" "[I") ∈ XT := XT3 174 rfl rfl
theorem tw725 : (Jvm.Cond.instanceMethod ({ cls := "OpensAtNine", name := "spare", desc := "(II)I" } : Jvm.MethodName)) ∈ XT := XT3 177 rfl rfl
theorem tw726 : (Jvm.Cond.selects "OpensAtNine" ({ cls := "OpensAtNine", name := "spare", desc := "(II)I" } : Jvm.MethodName) ({ cls := "OpensAtNine", name := "spare", desc := "(II)I" } : Jvm.MethodName)) ∈ XT := XT3 178 rfl rfl
theorem tw727 : (Jvm.Cond.code ({ cls := "OpensAtNine", name := "spare", desc := "(II)I" } : Jvm.MethodName) prog_1_method_18_code (6 : Nat) (Option.some Jvm.ClassFile.FieldType.int)) ∈ XT := XT3 179 rfl rfl
theorem tw728 : (Jvm.Cond.methodLink "OpensAtNine" (189 : Nat) ({ cls := "OpensAtNine$Gate", name := "become", desc := "(LOpensAtNine$Gate;)V" } : Jvm.MethodName)) ∈ XT := XT3 180 rfl rfl
theorem tw729 : (Jvm.Cond.methodLink "OpensAtNine" (193 : Nat) ({ cls := "OpensAtNine$Gate", name := "follow", desc := "(I)V" } : Jvm.MethodName)) ∈ XT := XT3 181 rfl rfl
theorem tw730 : (Jvm.Cond.instanceMethod ({ cls := "OpensAtNine$Gate", name := "follow", desc := "(I)V" } : Jvm.MethodName)) ∈ XT := XT3 182 rfl rfl
theorem tw731 : (Jvm.Cond.selects "OpensAtNine$Gate" ({ cls := "OpensAtNine$Gate", name := "follow", desc := "(I)V" } : Jvm.MethodName) ({ cls := "OpensAtNine$Gate", name := "follow", desc := "(I)V" } : Jvm.MethodName)) ∈ XT := XT3 183 rfl rfl
theorem tw732 : (Jvm.Cond.code ({ cls := "OpensAtNine$Gate", name := "follow", desc := "(I)V" } : Jvm.MethodName) prog_3_method_15_code (4 : Nat) (Option.none : Option Jvm.ClassFile.FieldType)) ∈ XT := XT3 184 rfl rfl
theorem tw734 : (Jvm.Cond.methodLink "OpensAtNine$Gate" (95 : Nat) ({ cls := "OpensAtNine$Gate", name := "putIn", desc := "(I)Z" } : Jvm.MethodName)) ∈ XT := XT3 186 rfl rfl
theorem tw736 : (Jvm.Cond.instanceMethod ({ cls := "OpensAtNine", name := "reach", desc := "(I)I" } : Jvm.MethodName)) ∈ XT := XT3 188 rfl rfl
theorem tw737 : (Jvm.Cond.selects "OpensAtNine" ({ cls := "OpensAtNine", name := "reach", desc := "(I)I" } : Jvm.MethodName) ({ cls := "OpensAtNine", name := "reach", desc := "(I)I" } : Jvm.MethodName)) ∈ XT := XT3 189 rfl rfl
theorem tw738 : (Jvm.Cond.code ({ cls := "OpensAtNine", name := "reach", desc := "(I)I" } : Jvm.MethodName) prog_1_method_19_code (2 : Nat) (Option.some Jvm.ClassFile.FieldType.int)) ∈ XT := XT3 190 rfl rfl
theorem tw739 : (Jvm.Cond.methodLink "OpensAtNine" (196 : Nat) ({ cls := "OpensAtNine$Ways", name := "restsBy", desc := "(LOpensAtNine$Gate;I)I" } : Jvm.MethodName)) ∈ XT := XT3 191 rfl rfl
theorem tw740 : (Jvm.Cond.instanceMethod ({ cls := "OpensAtNine$Ways", name := "restsBy", desc := "(LOpensAtNine$Gate;I)I" } : Jvm.MethodName)) ∈ XT := XT3 192 rfl rfl
theorem tw741 : (Jvm.Cond.selects "OpensAtNine$Ways" ({ cls := "OpensAtNine$Ways", name := "restsBy", desc := "(LOpensAtNine$Gate;I)I" } : Jvm.MethodName) ({ cls := "OpensAtNine$Ways", name := "restsBy", desc := "(LOpensAtNine$Gate;I)I" } : Jvm.MethodName)) ∈ XT := XT3 193 rfl rfl
theorem tw742 : (Jvm.Cond.code ({ cls := "OpensAtNine$Ways", name := "restsBy", desc := "(LOpensAtNine$Gate;I)I" } : Jvm.MethodName) prog_9_method_4_code (3 : Nat) (Option.some Jvm.ClassFile.FieldType.int)) ∈ XT := XT3 194 rfl rfl
theorem tw743 : (Jvm.Cond.methodLink "OpensAtNine$Ways" (81 : Nat) ({ cls := "OpensAtNine$Gate", name := "leftOf", desc := "(I)I" } : Jvm.MethodName)) ∈ XT := XT3 195 rfl rfl
theorem tw744 : (Jvm.Cond.methodLink "OpensAtNine$Ways" (84 : Nat) ({ cls := "OpensAtNine$Ways", name := "addRests", desc := "(III)V" } : Jvm.MethodName)) ∈ XT := XT3 196 rfl rfl
theorem tw746 : (Jvm.Cond.instanceMethod ({ cls := "OpensAtNine$Ways", name := "addRests", desc := "(III)V" } : Jvm.MethodName)) ∈ XT := XT3 198 rfl rfl
theorem tw747 : (Jvm.Cond.code ({ cls := "OpensAtNine$Ways", name := "addRests", desc := "(III)V" } : Jvm.MethodName) prog_9_method_5_code (7 : Nat) (Option.none : Option Jvm.ClassFile.FieldType)) ∈ XT := XT3 199 rfl rfl
theorem tw748 : (Jvm.Cond.methodLink "OpensAtNine$Ways" (87 : Nat) ({ cls := "OpensAtNine$Gate", name := "restOf", desc := "(I)I" } : Jvm.MethodName)) ∈ XT := XT3 200 rfl rfl
theorem tw749 : (Jvm.Cond.methodLink "OpensAtNine$Ways" (90 : Nat) ({ cls := "OpensAtNine$Gate", name := "coinAt", desc := "(I)LOpensAtNine$Coin;" } : Jvm.MethodName)) ∈ XT := XT3 201 rfl rfl
theorem tw750 : (Jvm.Cond.methodLink "OpensAtNine$Ways" (94 : Nat) ({ cls := "OpensAtNine$Coin", name := "countsBy", desc := "(I)I" } : Jvm.MethodName)) ∈ XT := XT3 202 rfl rfl
theorem tw751 : (Jvm.Cond.methodLink "OpensAtNine$Ways" (99 : Nat) ({ cls := "java/lang/Math", name := "min", desc := "(II)I" } : Jvm.MethodName)) ∈ XT := XT3 203 rfl rfl
theorem tw753 : (Jvm.Cond.instanceMethod ({ cls := "OpensAtNine", name := "keys", desc := "()I" } : Jvm.MethodName)) ∈ XT := XT3 205 rfl rfl
theorem tw754 : (Jvm.Cond.selects "OpensAtNine" ({ cls := "OpensAtNine", name := "keys", desc := "()I" } : Jvm.MethodName) ({ cls := "OpensAtNine", name := "keys", desc := "()I" } : Jvm.MethodName)) ∈ XT := XT3 206 rfl rfl
theorem tw755 : (Jvm.Cond.code ({ cls := "OpensAtNine", name := "keys", desc := "()I" } : Jvm.MethodName) prog_1_method_20_code (4 : Nat) (Option.some Jvm.ClassFile.FieldType.int)) ∈ XT := XT3 207 rfl rfl
theorem tw756 : (Jvm.Cond.methodLink "OpensAtNine" (199 : Nat) ({ cls := "OpensAtNine$Gate", name := "movable", desc := "(I)I" } : Jvm.MethodName)) ∈ XT := XT3 208 rfl rfl
theorem tw758 : (Jvm.Cond.instanceMethod ({ cls := "OpensAtNine", name := "gifts", desc := "()I" } : Jvm.MethodName)) ∈ XT := XT3 210 rfl rfl
theorem tw759 : (Jvm.Cond.selects "OpensAtNine" ({ cls := "OpensAtNine", name := "gifts", desc := "()I" } : Jvm.MethodName) ({ cls := "OpensAtNine", name := "gifts", desc := "()I" } : Jvm.MethodName)) ∈ XT := XT3 211 rfl rfl
theorem tw760 : (Jvm.Cond.code ({ cls := "OpensAtNine", name := "gifts", desc := "()I" } : Jvm.MethodName) prog_1_method_21_code (4 : Nat) (Option.some Jvm.ClassFile.FieldType.int)) ∈ XT := XT3 212 rfl rfl
theorem tw761 : (Jvm.Cond.methodLink "OpensAtNine" (202 : Nat) ({ cls := "OpensAtNine", name := "isGift", desc := "(II)Z" } : Jvm.MethodName)) ∈ XT := XT3 213 rfl rfl
theorem tw763 : (Jvm.Cond.instanceMethod ({ cls := "OpensAtNine", name := "isGift", desc := "(II)Z" } : Jvm.MethodName)) ∈ XT := XT3 215 rfl rfl
theorem tw764 : (Jvm.Cond.code ({ cls := "OpensAtNine", name := "isGift", desc := "(II)Z" } : Jvm.MethodName) prog_1_method_22_code (5 : Nat) (Option.some Jvm.ClassFile.FieldType.boolean)) ∈ XT := XT3 216 rfl rfl
theorem tw765 : (Jvm.Cond.methodLink "OpensAtNine" (206 : Nat) ({ cls := "OpensAtNine$Gate", name := "leftOf", desc := "(I)I" } : Jvm.MethodName)) ∈ XT := XT3 217 rfl rfl
theorem tw767 : (Jvm.Cond.instanceMethod ({ cls := "OpensAtNine", name := "rest", desc := "(II)I" } : Jvm.MethodName)) ∈ XT := XT3 219 rfl rfl
theorem tw768 : (Jvm.Cond.selects "OpensAtNine" ({ cls := "OpensAtNine", name := "rest", desc := "(II)I" } : Jvm.MethodName) ({ cls := "OpensAtNine", name := "rest", desc := "(II)I" } : Jvm.MethodName)) ∈ XT := XT3 220 rfl rfl
theorem tw769 : (Jvm.Cond.code ({ cls := "OpensAtNine", name := "rest", desc := "(II)I" } : Jvm.MethodName) prog_1_method_23_code (3 : Nat) (Option.some Jvm.ClassFile.FieldType.int)) ∈ XT := XT3 221 rfl rfl
theorem tw770 : (Jvm.Cond.methodLink "OpensAtNine" (209 : Nat) ({ cls := "OpensAtNine", name := "areTurns", desc := "(I)Z" } : Jvm.MethodName)) ∈ XT := XT3 222 rfl rfl
theorem tw771 : (Jvm.Cond.static ({ cls := "OpensAtNine", name := "areTurns", desc := "(I)Z" } : Jvm.MethodName)) ∈ XT := XT3 223 rfl rfl
theorem tw772 : (Jvm.Cond.code ({ cls := "OpensAtNine", name := "areTurns", desc := "(I)Z" } : Jvm.MethodName) prog_1_method_26_code (1 : Nat) (Option.some Jvm.ClassFile.FieldType.boolean)) ∈ XT := XT3 224 rfl rfl
theorem tw773 : (Jvm.Cond.methodLink "OpensAtNine" (212 : Nat) ({ cls := "OpensAtNine$Turns", name := "think", desc := "(LOpensAtNine$Gate;I)V" } : Jvm.MethodName)) ∈ XT := XT3 225 rfl rfl
theorem tw774 : (Jvm.Cond.instanceMethod ({ cls := "OpensAtNine$Turns", name := "think", desc := "(LOpensAtNine$Gate;I)V" } : Jvm.MethodName)) ∈ XT := XT3 226 rfl rfl
theorem tw775 : (Jvm.Cond.selects "OpensAtNine$Turns" ({ cls := "OpensAtNine$Turns", name := "think", desc := "(LOpensAtNine$Gate;I)V" } : Jvm.MethodName) ({ cls := "OpensAtNine$Turns", name := "think", desc := "(LOpensAtNine$Gate;I)V" } : Jvm.MethodName)) ∈ XT := XT3 227 rfl rfl
theorem tw776 : (Jvm.Cond.code ({ cls := "OpensAtNine$Turns", name := "think", desc := "(LOpensAtNine$Gate;I)V" } : Jvm.MethodName) prog_8_method_2_code (3 : Nat) (Option.none : Option Jvm.ClassFile.FieldType)) ∈ XT := XT3 228 rfl rfl
theorem tw777 : (Jvm.Cond.methodLink "OpensAtNine$Turns" (36 : Nat) ({ cls := "OpensAtNine$Gate", name := "become", desc := "(LOpensAtNine$Gate;)V" } : Jvm.MethodName)) ∈ XT := XT3 229 rfl rfl
theorem tw778 : (Jvm.Cond.methodLink "OpensAtNine$Turns" (42 : Nat) ({ cls := "OpensAtNine$Met", name := "forgetAll", desc := "()V" } : Jvm.MethodName)) ∈ XT := XT3 230 rfl rfl
theorem tw779 : (Jvm.Cond.methodLink "OpensAtNine$Turns" (45 : Nat) ({ cls := "java/lang/Math", name := "min", desc := "(II)I" } : Jvm.MethodName)) ∈ XT := XT3 231 rfl rfl
theorem tw780 : (Jvm.Cond.methodLink "OpensAtNine$Turns" (51 : Nat) ({ cls := "java/lang/Math", name := "max", desc := "(II)I" } : Jvm.MethodName)) ∈ XT := XT3 232 rfl rfl
theorem tw781 : (Jvm.Cond.methodLink "OpensAtNine$Turns" (58 : Nat) ({ cls := "OpensAtNine$Turns", name := "solve", desc := "(I)V" } : Jvm.MethodName)) ∈ XT := XT3 233 rfl rfl
theorem tw783 : (Jvm.Cond.instanceMethod ({ cls := "OpensAtNine$Turns", name := "solve", desc := "(I)V" } : Jvm.MethodName)) ∈ XT := XT3 235 rfl rfl
theorem tw784 : (Jvm.Cond.code ({ cls := "OpensAtNine$Turns", name := "solve", desc := "(I)V" } : Jvm.MethodName) prog_8_method_5_code (11 : Nat) (Option.none : Option Jvm.ClassFile.FieldType)) ∈ XT := XT3 236 rfl rfl
theorem tw785 : (Jvm.Cond.methodLink "OpensAtNine$Turns" (65 : Nat) ({ cls := "OpensAtNine$Turns", name := "settle", desc := "(I)V" } : Jvm.MethodName)) ∈ XT := XT3 237 rfl rfl
theorem tw787 : (Jvm.Cond.instanceMethod ({ cls := "OpensAtNine$Turns", name := "settle", desc := "(I)V" } : Jvm.MethodName)) ∈ XT := XT3 239 rfl rfl
theorem tw788 : (Jvm.Cond.code ({ cls := "OpensAtNine$Turns", name := "settle", desc := "(I)V" } : Jvm.MethodName) prog_8_method_8_code (3 : Nat) (Option.none : Option Jvm.ClassFile.FieldType)) ∈ XT := XT4 0 rfl rfl
theorem tw789 : (Jvm.Cond.methodLink "OpensAtNine$Turns" (117 : Nat) ({ cls := "OpensAtNine$Gate", name := "worthOf", desc := "(I)I" } : Jvm.MethodName)) ∈ XT := XT4 1 rfl rfl
theorem tw790 : (Jvm.Cond.methodLink "OpensAtNine$Turns" (77 : Nat) ({ cls := "OpensAtNine$Met", name := "knows", desc := "(I)Z" } : Jvm.MethodName)) ∈ XT := XT4 2 rfl rfl
theorem tw791 : (Jvm.Cond.methodLink "OpensAtNine$Turns" (81 : Nat) ({ cls := "OpensAtNine$Met", name := "slotOf", desc := "(I)I" } : Jvm.MethodName)) ∈ XT := XT4 3 rfl rfl
theorem tw792 : (Jvm.Cond.methodLink "OpensAtNine$Turns" (85 : Nat) ({ cls := "OpensAtNine$Turns", name := "recall", desc := "(II)V" } : Jvm.MethodName)) ∈ XT := XT4 4 rfl rfl
theorem tw794 : (Jvm.Cond.instanceMethod ({ cls := "OpensAtNine$Turns", name := "recall", desc := "(II)V" } : Jvm.MethodName)) ∈ XT := XT4 6 rfl rfl
theorem tw795 : (Jvm.Cond.code ({ cls := "OpensAtNine$Turns", name := "recall", desc := "(II)V" } : Jvm.MethodName) prog_8_method_7_code (4 : Nat) (Option.none : Option Jvm.ClassFile.FieldType)) ∈ XT := XT4 7 rfl rfl
theorem tw796 : (Jvm.Cond.methodLink "OpensAtNine$Turns" (92 : Nat) ({ cls := "OpensAtNine$Gate", name := "movable", desc := "(I)I" } : Jvm.MethodName)) ∈ XT := XT4 8 rfl rfl
theorem tw797 : (Jvm.Cond.methodLink "OpensAtNine$Turns" (95 : Nat) ({ cls := "OpensAtNine$Gate", name := "waitOn", desc := "()V" } : Jvm.MethodName)) ∈ XT := XT4 9 rfl rfl
theorem tw798 : (Jvm.Cond.methodLink "OpensAtNine$Turns" (98 : Nat) ({ cls := "OpensAtNine$Turns", name := "choose", desc := "(IIII)V" } : Jvm.MethodName)) ∈ XT := XT4 10 rfl rfl
theorem tw800 : (Jvm.Cond.instanceMethod ({ cls := "OpensAtNine$Turns", name := "choose", desc := "(IIII)V" } : Jvm.MethodName)) ∈ XT := XT4 12 rfl rfl
theorem tw801 : (Jvm.Cond.code ({ cls := "OpensAtNine$Turns", name := "choose", desc := "(IIII)V" } : Jvm.MethodName) prog_8_method_9_code (6 : Nat) (Option.none : Option Jvm.ClassFile.FieldType)) ∈ XT := XT4 13 rfl rfl
theorem tw803 : (Jvm.Cond.methodLink "OpensAtNine$Turns" (102 : Nat) ({ cls := "OpensAtNine$Gate", name := "undo", desc := "(IIII)V" } : Jvm.MethodName)) ∈ XT := XT4 15 rfl rfl
theorem tw804 : (Jvm.Cond.methodLink "OpensAtNine$Turns" (105 : Nat) ({ cls := "OpensAtNine$Gate", name := "costOf", desc := "(I)I" } : Jvm.MethodName)) ∈ XT := XT4 16 rfl rfl
theorem tw805 : (Jvm.Cond.methodLink "OpensAtNine$Turns" (108 : Nat) ({ cls := "OpensAtNine$Gate", name := "putIn", desc := "(I)Z" } : Jvm.MethodName)) ∈ XT := XT4 17 rfl rfl
theorem tw806 : (Jvm.Cond.methodLink "OpensAtNine$Turns" (111 : Nat) ({ cls := "OpensAtNine$Met", name := "note", desc := "(I)V" } : Jvm.MethodName)) ∈ XT := XT4 18 rfl rfl
theorem tw807 : (Jvm.Cond.methodLink "OpensAtNine$Turns" (114 : Nat) ({ cls := "OpensAtNine$Turns", name := "keep", desc := "(II)V" } : Jvm.MethodName)) ∈ XT := XT4 19 rfl rfl
theorem tw809 : (Jvm.Cond.instanceMethod ({ cls := "OpensAtNine$Turns", name := "keep", desc := "(II)V" } : Jvm.MethodName)) ∈ XT := XT4 21 rfl rfl
theorem tw810 : (Jvm.Cond.code ({ cls := "OpensAtNine$Turns", name := "keep", desc := "(II)V" } : Jvm.MethodName) prog_8_method_6_code (4 : Nat) (Option.none : Option Jvm.ClassFile.FieldType)) ∈ XT := XT4 22 rfl rfl
theorem tw811 : (Jvm.Cond.methodLink "OpensAtNine" (216 : Nat) ({ cls := "OpensAtNine$Turns", name := "endOf", desc := "(I)I" } : Jvm.MethodName)) ∈ XT := XT4 23 rfl rfl
theorem tw812 : (Jvm.Cond.instanceMethod ({ cls := "OpensAtNine$Turns", name := "endOf", desc := "(I)I" } : Jvm.MethodName)) ∈ XT := XT4 24 rfl rfl
theorem tw813 : (Jvm.Cond.selects "OpensAtNine$Turns" ({ cls := "OpensAtNine$Turns", name := "endOf", desc := "(I)I" } : Jvm.MethodName) ({ cls := "OpensAtNine$Turns", name := "endOf", desc := "(I)I" } : Jvm.MethodName)) ∈ XT := XT4 25 rfl rfl
theorem tw814 : (Jvm.Cond.code ({ cls := "OpensAtNine$Turns", name := "endOf", desc := "(I)I" } : Jvm.MethodName) prog_8_method_3_code (2 : Nat) (Option.some Jvm.ClassFile.FieldType.int)) ∈ XT := XT4 26 rfl rfl
theorem tw816 : (Jvm.Cond.instanceMethod ({ cls := "OpensAtNine", name := "moves", desc := "(I)I" } : Jvm.MethodName)) ∈ XT := XT4 28 rfl rfl
theorem tw817 : (Jvm.Cond.selects "OpensAtNine" ({ cls := "OpensAtNine", name := "moves", desc := "(I)I" } : Jvm.MethodName) ({ cls := "OpensAtNine", name := "moves", desc := "(I)I" } : Jvm.MethodName)) ∈ XT := XT4 29 rfl rfl
theorem tw818 : (Jvm.Cond.code ({ cls := "OpensAtNine", name := "moves", desc := "(I)I" } : Jvm.MethodName) prog_1_method_24_code (2 : Nat) (Option.some Jvm.ClassFile.FieldType.int)) ∈ XT := XT4 30 rfl rfl
theorem tw819 : (Jvm.Cond.methodLink "OpensAtNine" (219 : Nat) ({ cls := "OpensAtNine$Turns", name := "line", desc := "()I" } : Jvm.MethodName)) ∈ XT := XT4 31 rfl rfl
theorem tw820 : (Jvm.Cond.instanceMethod ({ cls := "OpensAtNine$Turns", name := "line", desc := "()I" } : Jvm.MethodName)) ∈ XT := XT4 32 rfl rfl
theorem tw821 : (Jvm.Cond.selects "OpensAtNine$Turns" ({ cls := "OpensAtNine$Turns", name := "line", desc := "()I" } : Jvm.MethodName) ({ cls := "OpensAtNine$Turns", name := "line", desc := "()I" } : Jvm.MethodName)) ∈ XT := XT4 33 rfl rfl
theorem tw822 : (Jvm.Cond.code ({ cls := "OpensAtNine$Turns", name := "line", desc := "()I" } : Jvm.MethodName) prog_8_method_4_code (1 : Nat) (Option.some Jvm.ClassFile.FieldType.int)) ∈ XT := XT4 34 rfl rfl
theorem tw824 : (Jvm.Cond.instanceMethod ({ cls := "OpensAtNine", name := "play", desc := "(I)I" } : Jvm.MethodName)) ∈ XT := XT4 36 rfl rfl
theorem tw825 : (Jvm.Cond.selects "OpensAtNine" ({ cls := "OpensAtNine", name := "play", desc := "(I)I" } : Jvm.MethodName) ({ cls := "OpensAtNine", name := "play", desc := "(I)I" } : Jvm.MethodName)) ∈ XT := XT4 37 rfl rfl
theorem tw826 : (Jvm.Cond.code ({ cls := "OpensAtNine", name := "play", desc := "(I)I" } : Jvm.MethodName) prog_1_method_25_code (5 : Nat) (Option.some Jvm.ClassFile.FieldType.int)) ∈ XT := XT4 38 rfl rfl
theorem tw827 : (Jvm.Cond.methodLink "OpensAtNine" (222 : Nat) ({ cls := "OpensAtNine$Gate", name := "waitOn", desc := "()V" } : Jvm.MethodName)) ∈ XT := XT4 39 rfl rfl
theorem tw828 : (Jvm.Cond.methodLink "OpensAtNine" (225 : Nat) ({ cls := "java/lang/Integer", name := "bitCount", desc := "(I)I" } : Jvm.MethodName)) ∈ XT := XT4 40 rfl rfl
theorem tw830 : (Jvm.Cond.instanceMethod ({ cls := "OpensAtNine", name := "which", desc := "(II)I" } : Jvm.MethodName)) ∈ XT := XT4 42 rfl rfl
theorem tw831 : (Jvm.Cond.selects "OpensAtNine" ({ cls := "OpensAtNine", name := "which", desc := "(II)I" } : Jvm.MethodName) ({ cls := "OpensAtNine", name := "which", desc := "(II)I" } : Jvm.MethodName)) ∈ XT := XT4 43 rfl rfl
theorem tw832 : (Jvm.Cond.code ({ cls := "OpensAtNine", name := "which", desc := "(II)I" } : Jvm.MethodName) prog_1_method_27_code (4 : Nat) (Option.some Jvm.ClassFile.FieldType.int)) ∈ XT := XT4 44 rfl rfl
theorem tw833 : (Jvm.Cond.methodLink "OpensAtNine" (230 : Nat) ({ cls := "OpensAtNine", name := "refusedStart", desc := "(II)I" } : Jvm.MethodName)) ∈ XT := XT4 45 rfl rfl
theorem tw835 : (Jvm.Cond.instanceMethod ({ cls := "OpensAtNine", name := "refusedStart", desc := "(II)I" } : Jvm.MethodName)) ∈ XT := XT4 47 rfl rfl
theorem tw836 : (Jvm.Cond.code ({ cls := "OpensAtNine", name := "refusedStart", desc := "(II)I" } : Jvm.MethodName) prog_1_method_30_code (4 : Nat) (Option.some Jvm.ClassFile.FieldType.int)) ∈ XT := XT4 48 rfl rfl
theorem tw837 : (Jvm.Cond.methodLink "OpensAtNine" (251 : Nat) ({ cls := "OpensAtNine", name := "refusedRows", desc := "(I)I" } : Jvm.MethodName)) ∈ XT := XT4 49 rfl rfl
theorem tw839 : (Jvm.Cond.instanceMethod ({ cls := "OpensAtNine", name := "refusedRows", desc := "(I)I" } : Jvm.MethodName)) ∈ XT := XT4 51 rfl rfl
theorem tw840 : (Jvm.Cond.code ({ cls := "OpensAtNine", name := "refusedRows", desc := "(I)I" } : Jvm.MethodName) prog_1_method_31_code (2 : Nat) (Option.some Jvm.ClassFile.FieldType.int)) ∈ XT := XT4 52 rfl rfl
theorem tw841 : (Jvm.Cond.methodLink "OpensAtNine" (254 : Nat) ({ cls := "OpensAtNine", name := "isSheet", desc := "(I)Z" } : Jvm.MethodName)) ∈ XT := XT4 53 rfl rfl
theorem tw842 : (Jvm.Cond.static ({ cls := "OpensAtNine", name := "isSheet", desc := "(I)Z" } : Jvm.MethodName)) ∈ XT := XT4 54 rfl rfl
theorem tw843 : (Jvm.Cond.code ({ cls := "OpensAtNine", name := "isSheet", desc := "(I)Z" } : Jvm.MethodName) prog_1_method_48_code (1 : Nat) (Option.some Jvm.ClassFile.FieldType.boolean)) ∈ XT := XT4 55 rfl rfl
theorem tw844 : (Jvm.Cond.methodLink "OpensAtNine" (234 : Nat) ({ cls := "OpensAtNine$Sheet", name := "numbersBy", desc := "(I)I" } : Jvm.MethodName)) ∈ XT := XT4 56 rfl rfl
theorem tw845 : (Jvm.Cond.instanceMethod ({ cls := "OpensAtNine$Sheet", name := "numbersBy", desc := "(I)I" } : Jvm.MethodName)) ∈ XT := XT4 57 rfl rfl
theorem tw846 : (Jvm.Cond.selects "OpensAtNine$Sheet" ({ cls := "OpensAtNine$Sheet", name := "numbersBy", desc := "(I)I" } : Jvm.MethodName) ({ cls := "OpensAtNine$Sheet", name := "numbersBy", desc := "(I)I" } : Jvm.MethodName)) ∈ XT := XT4 58 rfl rfl
theorem tw847 : (Jvm.Cond.code ({ cls := "OpensAtNine$Sheet", name := "numbersBy", desc := "(I)I" } : Jvm.MethodName) prog_6_method_7_code (4 : Nat) (Option.some Jvm.ClassFile.FieldType.int)) ∈ XT := XT4 59 rfl rfl
theorem tw848 : (Jvm.Cond.methodLink "OpensAtNine$Sheet" (37 : Nat) ({ cls := "OpensAtNine$Sheet", name := "isSoBy", desc := "(II)Z" } : Jvm.MethodName)) ∈ XT := XT4 60 rfl rfl
theorem tw850 : (Jvm.Cond.instanceMethod ({ cls := "OpensAtNine$Sheet", name := "isSoBy", desc := "(II)Z" } : Jvm.MethodName)) ∈ XT := XT4 62 rfl rfl
theorem tw851 : (Jvm.Cond.code ({ cls := "OpensAtNine$Sheet", name := "isSoBy", desc := "(II)Z" } : Jvm.MethodName) prog_6_method_8_code (6 : Nat) (Option.some Jvm.ClassFile.FieldType.boolean)) ∈ XT := XT4 63 rfl rfl
theorem tw852 : (Jvm.Cond.methodLink "OpensAtNine$Sheet" (41 : Nat) ({ cls := "java/lang/Math", name := "floorMod", desc := "(II)I" } : Jvm.MethodName)) ∈ XT := XT4 64 rfl rfl
theorem tw853 : (Jvm.Cond.static ({ cls := "java/lang/Math", name := "floorMod", desc := "(II)I" } : Jvm.MethodName)) ∈ XT := XT4 65 rfl rfl
theorem tw854 : (Jvm.Cond.code ({ cls := "java/lang/Math", name := "floorMod", desc := "(II)I" } : Jvm.MethodName) prog_14_method_50_code (3 : Nat) (Option.some Jvm.ClassFile.FieldType.int)) ∈ XT := XT4 66 rfl rfl
theorem tw856 : (Jvm.Cond.instanceMethod ({ cls := "OpensAtNine", name := "next", desc := "(III)I" } : Jvm.MethodName)) ∈ XT := XT4 68 rfl rfl
theorem tw857 : (Jvm.Cond.selects "OpensAtNine" ({ cls := "OpensAtNine", name := "next", desc := "(III)I" } : Jvm.MethodName) ({ cls := "OpensAtNine", name := "next", desc := "(III)I" } : Jvm.MethodName)) ∈ XT := XT4 69 rfl rfl
theorem tw858 : (Jvm.Cond.code ({ cls := "OpensAtNine", name := "next", desc := "(III)I" } : Jvm.MethodName) prog_1_method_28_code (11 : Nat) (Option.some Jvm.ClassFile.FieldType.int)) ∈ XT := XT4 70 rfl rfl
theorem tw859 : (Jvm.Cond.methodLink "OpensAtNine" (237 : Nat) ({ cls := "OpensAtNine$Sheet", name := "sumBehind", desc := "(I)I" } : Jvm.MethodName)) ∈ XT := XT4 71 rfl rfl
theorem tw860 : (Jvm.Cond.instanceMethod ({ cls := "OpensAtNine$Sheet", name := "sumBehind", desc := "(I)I" } : Jvm.MethodName)) ∈ XT := XT4 72 rfl rfl
theorem tw861 : (Jvm.Cond.selects "OpensAtNine$Sheet" ({ cls := "OpensAtNine$Sheet", name := "sumBehind", desc := "(I)I" } : Jvm.MethodName) ({ cls := "OpensAtNine$Sheet", name := "sumBehind", desc := "(I)I" } : Jvm.MethodName)) ∈ XT := XT4 73 rfl rfl
theorem tw862 : (Jvm.Cond.code ({ cls := "OpensAtNine$Sheet", name := "sumBehind", desc := "(I)I" } : Jvm.MethodName) prog_6_method_6_code (4 : Nat) (Option.some Jvm.ClassFile.FieldType.int)) ∈ XT := XT4 74 rfl rfl
theorem tw863 : (Jvm.Cond.methodLink "OpensAtNine" (240 : Nat) ({ cls := "OpensAtNine", name := "leftAtWorst", desc := "(II)I" } : Jvm.MethodName)) ∈ XT := XT4 75 rfl rfl
theorem tw864 : (Jvm.Cond.static ({ cls := "OpensAtNine", name := "leftAtWorst", desc := "(II)I" } : Jvm.MethodName)) ∈ XT := XT4 76 rfl rfl
theorem tw865 : (Jvm.Cond.code ({ cls := "OpensAtNine", name := "leftAtWorst", desc := "(II)I" } : Jvm.MethodName) prog_1_method_29_code (5 : Nat) (Option.some Jvm.ClassFile.FieldType.int)) ∈ XT := XT4 77 rfl rfl
theorem tw866 : (Jvm.Cond.methodLink "OpensAtNine" (243 : Nat) ({ cls := "java/lang/Math", name := "floorMod", desc := "(II)I" } : Jvm.MethodName)) ∈ XT := XT4 78 rfl rfl
theorem tw867 : (Jvm.Cond.methodLink "OpensAtNine" (248 : Nat) ({ cls := "java/lang/Math", name := "max", desc := "(II)I" } : Jvm.MethodName)) ∈ XT := XT4 79 rfl rfl
theorem tw869 : (Jvm.Cond.instanceMethod ({ cls := "OpensAtNine", name := "judge", desc := "(I)I" } : Jvm.MethodName)) ∈ XT := XT4 81 rfl rfl
theorem tw870 : (Jvm.Cond.selects "OpensAtNine" ({ cls := "OpensAtNine", name := "judge", desc := "(I)I" } : Jvm.MethodName) ({ cls := "OpensAtNine", name := "judge", desc := "(I)I" } : Jvm.MethodName)) ∈ XT := XT4 82 rfl rfl
theorem tw871 : (Jvm.Cond.code ({ cls := "OpensAtNine", name := "judge", desc := "(I)I" } : Jvm.MethodName) prog_1_method_32_code (3 : Nat) (Option.some Jvm.ClassFile.FieldType.int)) ∈ XT := XT4 83 rfl rfl
theorem tw872 : (Jvm.Cond.methodLink "OpensAtNine" (261 : Nat) ({ cls := "OpensAtNine", name := "firstWrong", desc := "(LOpensAtNine$Sheet;II)I" } : Jvm.MethodName)) ∈ XT := XT4 84 rfl rfl
theorem tw874 : (Jvm.Cond.instanceMethod ({ cls := "OpensAtNine", name := "firstWrong", desc := "(LOpensAtNine$Sheet;II)I" } : Jvm.MethodName)) ∈ XT := XT4 86 rfl rfl
theorem tw875 : (Jvm.Cond.code ({ cls := "OpensAtNine", name := "firstWrong", desc := "(LOpensAtNine$Sheet;II)I" } : Jvm.MethodName) prog_1_method_35_code (7 : Nat) (Option.some Jvm.ClassFile.FieldType.int)) ∈ XT := XT4 87 rfl rfl
theorem tw876 : (Jvm.Cond.methodLink "OpensAtNine" (265 : Nat) ({ cls := "OpensAtNine$Sheet", name := "at", desc := "(I)I" } : Jvm.MethodName)) ∈ XT := XT4 88 rfl rfl
theorem tw877 : (Jvm.Cond.instanceMethod ({ cls := "OpensAtNine$Sheet", name := "at", desc := "(I)I" } : Jvm.MethodName)) ∈ XT := XT4 89 rfl rfl
theorem tw878 : (Jvm.Cond.selects "OpensAtNine$Sheet" ({ cls := "OpensAtNine$Sheet", name := "at", desc := "(I)I" } : Jvm.MethodName) ({ cls := "OpensAtNine$Sheet", name := "at", desc := "(I)I" } : Jvm.MethodName)) ∈ XT := XT4 90 rfl rfl
theorem tw879 : (Jvm.Cond.code ({ cls := "OpensAtNine$Sheet", name := "at", desc := "(I)I" } : Jvm.MethodName) prog_6_method_3_code (2 : Nat) (Option.some Jvm.ClassFile.FieldType.int)) ∈ XT := XT4 91 rfl rfl
theorem tw881 : (Jvm.Cond.instanceMethod ({ cls := "OpensAtNine", name := "laws", desc := "(I)I" } : Jvm.MethodName)) ∈ XT := XT4 93 rfl rfl
theorem tw882 : (Jvm.Cond.selects "OpensAtNine" ({ cls := "OpensAtNine", name := "laws", desc := "(I)I" } : Jvm.MethodName) ({ cls := "OpensAtNine", name := "laws", desc := "(I)I" } : Jvm.MethodName)) ∈ XT := XT4 94 rfl rfl
theorem tw883 : (Jvm.Cond.code ({ cls := "OpensAtNine", name := "laws", desc := "(I)I" } : Jvm.MethodName) prog_1_method_33_code (5 : Nat) (Option.some Jvm.ClassFile.FieldType.int)) ∈ XT := XT4 95 rfl rfl
theorem tw885 : (Jvm.Cond.instanceMethod ({ cls := "OpensAtNine", name := "numbers", desc := "(I)I" } : Jvm.MethodName)) ∈ XT := XT4 97 rfl rfl
theorem tw886 : (Jvm.Cond.selects "OpensAtNine" ({ cls := "OpensAtNine", name := "numbers", desc := "(I)I" } : Jvm.MethodName) ({ cls := "OpensAtNine", name := "numbers", desc := "(I)I" } : Jvm.MethodName)) ∈ XT := XT4 98 rfl rfl
theorem tw887 : (Jvm.Cond.code ({ cls := "OpensAtNine", name := "numbers", desc := "(I)I" } : Jvm.MethodName) prog_1_method_34_code (5 : Nat) (Option.some Jvm.ClassFile.FieldType.int)) ∈ XT := XT4 99 rfl rfl
theorem tw889 : (Jvm.Cond.instanceMethod ({ cls := "OpensAtNine", name := "film", desc := "(I)I" } : Jvm.MethodName)) ∈ XT := XT4 101 rfl rfl
theorem tw890 : (Jvm.Cond.selects "OpensAtNine" ({ cls := "OpensAtNine", name := "film", desc := "(I)I" } : Jvm.MethodName) ({ cls := "OpensAtNine", name := "film", desc := "(I)I" } : Jvm.MethodName)) ∈ XT := XT4 102 rfl rfl
theorem tw891 : (Jvm.Cond.code ({ cls := "OpensAtNine", name := "film", desc := "(I)I" } : Jvm.MethodName) prog_1_method_36_code (5 : Nat) (Option.some Jvm.ClassFile.FieldType.int)) ∈ XT := XT4 103 rfl rfl
theorem tw892 : (Jvm.Cond.methodLink "OpensAtNine" (268 : Nat) ({ cls := "OpensAtNine$Sheet", name := "become", desc := "(II)V" } : Jvm.MethodName)) ∈ XT := XT4 104 rfl rfl
theorem tw893 : (Jvm.Cond.instanceMethod ({ cls := "OpensAtNine$Sheet", name := "become", desc := "(II)V" } : Jvm.MethodName)) ∈ XT := XT4 105 rfl rfl
theorem tw894 : (Jvm.Cond.selects "OpensAtNine$Sheet" ({ cls := "OpensAtNine$Sheet", name := "become", desc := "(II)V" } : Jvm.MethodName) ({ cls := "OpensAtNine$Sheet", name := "become", desc := "(II)V" } : Jvm.MethodName)) ∈ XT := XT4 106 rfl rfl
theorem tw895 : (Jvm.Cond.code ({ cls := "OpensAtNine$Sheet", name := "become", desc := "(II)V" } : Jvm.MethodName) prog_6_method_2_code (3 : Nat) (Option.none : Option Jvm.ClassFile.FieldType)) ∈ XT := XT4 107 rfl rfl
theorem tw896 : (Jvm.Cond.methodLink "OpensAtNine$Sheet" (19 : Nat) ({ cls := "java/lang/Math", name := "min", desc := "(II)I" } : Jvm.MethodName)) ∈ XT := XT4 108 rfl rfl
theorem tw897 : (Jvm.Cond.methodLink "OpensAtNine$Sheet" (25 : Nat) ({ cls := "java/lang/Math", name := "max", desc := "(II)I" } : Jvm.MethodName)) ∈ XT := XT4 109 rfl rfl
theorem tw898 : (Jvm.Cond.methodLink "OpensAtNine$Sheet" (31 : Nat) ({ cls := "java/util/Arrays", name := "fill", desc := "([II)V" } : Jvm.MethodName)) ∈ XT := XT4 110 rfl rfl
theorem tw899 : (Jvm.Cond.methodLink "OpensAtNine" (270 : Nat) ({ cls := "OpensAtNine$Sheet", name := "write", desc := "(II)V" } : Jvm.MethodName)) ∈ XT := XT4 111 rfl rfl
theorem tw900 : (Jvm.Cond.instanceMethod ({ cls := "OpensAtNine$Sheet", name := "write", desc := "(II)V" } : Jvm.MethodName)) ∈ XT := XT4 112 rfl rfl
theorem tw901 : (Jvm.Cond.selects "OpensAtNine$Sheet" ({ cls := "OpensAtNine$Sheet", name := "write", desc := "(II)V" } : Jvm.MethodName) ({ cls := "OpensAtNine$Sheet", name := "write", desc := "(II)V" } : Jvm.MethodName)) ∈ XT := XT4 113 rfl rfl
theorem tw902 : (Jvm.Cond.code ({ cls := "OpensAtNine$Sheet", name := "write", desc := "(II)V" } : Jvm.MethodName) prog_6_method_4_code (3 : Nat) (Option.none : Option Jvm.ClassFile.FieldType)) ∈ XT := XT4 114 rfl rfl
theorem tw904 : (Jvm.Cond.instanceMethod ({ cls := "OpensAtNine", name := "drawn", desc := "(I)I" } : Jvm.MethodName)) ∈ XT := XT4 116 rfl rfl
theorem tw905 : (Jvm.Cond.selects "OpensAtNine" ({ cls := "OpensAtNine", name := "drawn", desc := "(I)I" } : Jvm.MethodName) ({ cls := "OpensAtNine", name := "drawn", desc := "(I)I" } : Jvm.MethodName)) ∈ XT := XT4 117 rfl rfl
theorem tw906 : (Jvm.Cond.code ({ cls := "OpensAtNine", name := "drawn", desc := "(I)I" } : Jvm.MethodName) prog_1_method_37_code (2 : Nat) (Option.some Jvm.ClassFile.FieldType.int)) ∈ XT := XT4 118 rfl rfl
theorem tw907 : (Jvm.Cond.constant "OpensAtNine" (272 : Nat) (99999 : Int32)) ∈ XT := XT4 119 rfl rfl
theorem tw908 : (Jvm.Cond.methodLink "OpensAtNine" (273 : Nat) ({ cls := "OpensAtNine", name := "insideBy", desc := "(I)I" } : Jvm.MethodName)) ∈ XT := XT4 120 rfl rfl
theorem tw910 : (Jvm.Cond.instanceMethod ({ cls := "OpensAtNine", name := "insideBy", desc := "(I)I" } : Jvm.MethodName)) ∈ XT := XT4 122 rfl rfl
theorem tw911 : (Jvm.Cond.code ({ cls := "OpensAtNine", name := "insideBy", desc := "(I)I" } : Jvm.MethodName) prog_1_method_40_code (6 : Nat) (Option.some Jvm.ClassFile.FieldType.int)) ∈ XT := XT4 123 rfl rfl
theorem tw912 : (Jvm.Cond.constantLong "OpensAtNine" (281 : Nat) (48271 : Int64)) ∈ XT := XT4 124 rfl rfl
theorem tw913 : (Jvm.Cond.constantLong "OpensAtNine" (283 : Nat) (2147483647 : Int64)) ∈ XT := XT4 125 rfl rfl
theorem tw915 : (Jvm.Cond.instanceMethod ({ cls := "OpensAtNine", name := "mean", desc := "(III)J" } : Jvm.MethodName)) ∈ XT := XT4 127 rfl rfl
theorem tw916 : (Jvm.Cond.selects "OpensAtNine" ({ cls := "OpensAtNine", name := "mean", desc := "(III)J" } : Jvm.MethodName) ({ cls := "OpensAtNine", name := "mean", desc := "(III)J" } : Jvm.MethodName)) ∈ XT := XT4 128 rfl rfl
theorem tw917 : (Jvm.Cond.code ({ cls := "OpensAtNine", name := "mean", desc := "(III)J" } : Jvm.MethodName) prog_1_method_38_code (6 : Nat) (Option.some Jvm.ClassFile.FieldType.long)) ∈ XT := XT4 129 rfl rfl
theorem tw918 : (Jvm.Cond.constantLong "OpensAtNine" (276 : Nat) (-4611686018427387904 : Int64)) ∈ XT := XT4 130 rfl rfl
theorem tw919 : (Jvm.Cond.methodLink "OpensAtNine" (278 : Nat) ({ cls := "OpensAtNine", name := "commonDivisor", desc := "(II)I" } : Jvm.MethodName)) ∈ XT := XT4 131 rfl rfl
theorem tw920 : (Jvm.Cond.static ({ cls := "OpensAtNine", name := "commonDivisor", desc := "(II)I" } : Jvm.MethodName)) ∈ XT := XT4 132 rfl rfl
theorem tw921 : (Jvm.Cond.code ({ cls := "OpensAtNine", name := "commonDivisor", desc := "(II)I" } : Jvm.MethodName) prog_1_method_39_code (3 : Nat) (Option.some Jvm.ClassFile.FieldType.int)) ∈ XT := XT4 133 rfl rfl
theorem tw923 : (Jvm.Cond.instanceMethod ({ cls := "OpensAtNine", name := "image", desc := "()I" } : Jvm.MethodName)) ∈ XT := XT4 135 rfl rfl
theorem tw924 : (Jvm.Cond.selects "OpensAtNine" ({ cls := "OpensAtNine", name := "image", desc := "()I" } : Jvm.MethodName) ({ cls := "OpensAtNine", name := "image", desc := "()I" } : Jvm.MethodName)) ∈ XT := XT4 136 rfl rfl
theorem tw925 : (Jvm.Cond.code ({ cls := "OpensAtNine", name := "image", desc := "()I" } : Jvm.MethodName) prog_1_method_41_code (1 : Nat) (Option.some Jvm.ClassFile.FieldType.int)) ∈ XT := XT4 137 rfl rfl
theorem tw927 : (Jvm.Cond.instanceMethod ({ cls := "OpensAtNine", name := "back", desc := "()I" } : Jvm.MethodName)) ∈ XT := XT4 139 rfl rfl
theorem tw928 : (Jvm.Cond.selects "OpensAtNine" ({ cls := "OpensAtNine", name := "back", desc := "()I" } : Jvm.MethodName) ({ cls := "OpensAtNine", name := "back", desc := "()I" } : Jvm.MethodName)) ∈ XT := XT4 140 rfl rfl
theorem tw929 : (Jvm.Cond.code ({ cls := "OpensAtNine", name := "back", desc := "()I" } : Jvm.MethodName) prog_1_method_42_code (1 : Nat) (Option.some Jvm.ClassFile.FieldType.int)) ∈ XT := XT4 141 rfl rfl
theorem tw931 : (Jvm.Cond.instanceMethod ({ cls := "OpensAtNine", name := "sheet", desc := "(III)I" } : Jvm.MethodName)) ∈ XT := XT4 143 rfl rfl
theorem tw932 : (Jvm.Cond.selects "OpensAtNine" ({ cls := "OpensAtNine", name := "sheet", desc := "(III)I" } : Jvm.MethodName) ({ cls := "OpensAtNine", name := "sheet", desc := "(III)I" } : Jvm.MethodName)) ∈ XT := XT4 144 rfl rfl
theorem tw933 : (Jvm.Cond.code ({ cls := "OpensAtNine", name := "sheet", desc := "(III)I" } : Jvm.MethodName) prog_1_method_43_code (4 : Nat) (Option.some Jvm.ClassFile.FieldType.int)) ∈ XT := XT4 145 rfl rfl
theorem tw935 : (Jvm.Cond.instanceMethod ({ cls := "OpensAtNine", name := "cell", desc := "(III)I" } : Jvm.MethodName)) ∈ XT := XT4 147 rfl rfl
theorem tw936 : (Jvm.Cond.selects "OpensAtNine" ({ cls := "OpensAtNine", name := "cell", desc := "(III)I" } : Jvm.MethodName) ({ cls := "OpensAtNine", name := "cell", desc := "(III)I" } : Jvm.MethodName)) ∈ XT := XT4 148 rfl rfl
theorem tw937 : (Jvm.Cond.code ({ cls := "OpensAtNine", name := "cell", desc := "(III)I" } : Jvm.MethodName) prog_1_method_44_code (4 : Nat) (Option.some Jvm.ClassFile.FieldType.int)) ∈ XT := XT4 149 rfl rfl
theorem tw939 : (Jvm.Cond.instanceMethod ({ cls := "OpensAtNine", name := "copy", desc := "(IIIII)I" } : Jvm.MethodName)) ∈ XT := XT4 151 rfl rfl
theorem tw940 : (Jvm.Cond.selects "OpensAtNine" ({ cls := "OpensAtNine", name := "copy", desc := "(IIIII)I" } : Jvm.MethodName) ({ cls := "OpensAtNine", name := "copy", desc := "(IIIII)I" } : Jvm.MethodName)) ∈ XT := XT4 152 rfl rfl
theorem tw941 : (Jvm.Cond.code ({ cls := "OpensAtNine", name := "copy", desc := "(IIIII)I" } : Jvm.MethodName) prog_1_method_45_code (8 : Nat) (Option.some Jvm.ClassFile.FieldType.int)) ∈ XT := XT4 153 rfl rfl
theorem tw942 : (Jvm.Cond.methodLink "OpensAtNine" (289 : Nat) ({ cls := "OpensAtNine$Sheet", name := "hasRow", desc := "(II)Z" } : Jvm.MethodName)) ∈ XT := XT4 154 rfl rfl
theorem tw943 : (Jvm.Cond.instanceMethod ({ cls := "OpensAtNine$Sheet", name := "hasRow", desc := "(II)Z" } : Jvm.MethodName)) ∈ XT := XT4 155 rfl rfl
theorem tw944 : (Jvm.Cond.selects "OpensAtNine$Sheet" ({ cls := "OpensAtNine$Sheet", name := "hasRow", desc := "(II)Z" } : Jvm.MethodName) ({ cls := "OpensAtNine$Sheet", name := "hasRow", desc := "(II)Z" } : Jvm.MethodName)) ∈ XT := XT4 156 rfl rfl
theorem tw945 : (Jvm.Cond.code ({ cls := "OpensAtNine$Sheet", name := "hasRow", desc := "(II)Z" } : Jvm.MethodName) prog_6_method_5_code (3 : Nat) (Option.some Jvm.ClassFile.FieldType.boolean)) ∈ XT := XT4 157 rfl rfl
theorem tw946 : (Jvm.Cond.methodLink "OpensAtNine" (295 : Nat) ({ cls := "java/lang/System", name := "arraycopy", desc := "(Ljava/lang/Object;ILjava/lang/Object;II)V" } : Jvm.MethodName)) ∈ XT := XT4 158 rfl rfl
theorem tw948 : (Jvm.Cond.instanceMethod ({ cls := "OpensAtNine", name := "coinsBy", desc := "(IIII)I" } : Jvm.MethodName)) ∈ XT := XT4 160 rfl rfl
theorem tw949 : (Jvm.Cond.selects "OpensAtNine" ({ cls := "OpensAtNine", name := "coinsBy", desc := "(IIII)I" } : Jvm.MethodName) ({ cls := "OpensAtNine", name := "coinsBy", desc := "(IIII)I" } : Jvm.MethodName)) ∈ XT := XT4 161 rfl rfl
theorem tw950 : (Jvm.Cond.code ({ cls := "OpensAtNine", name := "coinsBy", desc := "(IIII)I" } : Jvm.MethodName) prog_1_method_46_code (9 : Nat) (Option.some Jvm.ClassFile.FieldType.int)) ∈ XT := XT4 162 rfl rfl
theorem tw951 : (Jvm.Cond.methodLink "OpensAtNine" (301 : Nat) ({ cls := "OpensAtNine", name := "coin", desc := "(IIII)I" } : Jvm.MethodName)) ∈ XT := XT4 163 rfl rfl
theorem tw953 : (Jvm.Cond.instanceMethod ({ cls := "OpensAtNine", name := "taken", desc := "(II)I" } : Jvm.MethodName)) ∈ XT := XT4 165 rfl rfl
theorem tw954 : (Jvm.Cond.selects "OpensAtNine" ({ cls := "OpensAtNine", name := "taken", desc := "(II)I" } : Jvm.MethodName) ({ cls := "OpensAtNine", name := "taken", desc := "(II)I" } : Jvm.MethodName)) ∈ XT := XT4 166 rfl rfl
theorem tw955 : (Jvm.Cond.code ({ cls := "OpensAtNine", name := "taken", desc := "(II)I" } : Jvm.MethodName) prog_1_method_47_code (5 : Nat) (Option.some Jvm.ClassFile.FieldType.int)) ∈ XT := XT4 167 rfl rfl
theorem tw956 : (Jvm.Cond.methodLink "OpensAtNine" (305 : Nat) ({ cls := "OpensAtNine$Coin", name := "isA", desc := "(I)Z" } : Jvm.MethodName)) ∈ XT := XT4 168 rfl rfl
theorem tw957 : (Jvm.Cond.instanceMethod ({ cls := "OpensAtNine$Coin", name := "isA", desc := "(I)Z" } : Jvm.MethodName)) ∈ XT := XT4 169 rfl rfl
theorem tw958 : (Jvm.Cond.selects "OpensAtNine$Coin" ({ cls := "OpensAtNine$Coin", name := "isA", desc := "(I)Z" } : Jvm.MethodName) ({ cls := "OpensAtNine$Coin", name := "isA", desc := "(I)Z" } : Jvm.MethodName)) ∈ XT := XT4 170 rfl rfl
theorem tw959 : (Jvm.Cond.code ({ cls := "OpensAtNine$Coin", name := "isA", desc := "(I)Z" } : Jvm.MethodName) prog_2_method_5_code (2 : Nat) (Option.some Jvm.ClassFile.FieldType.boolean)) ∈ XT := XT4 171 rfl rfl
theorem tw963 : (Jvm.Cond.instanceMethod ({ cls := "OpensAtNineModel", name := "<init>", desc := "()V" } : Jvm.MethodName)) ∈ XT := XT4 175 rfl rfl
theorem tw964 : (Jvm.Cond.code ({ cls := "OpensAtNineModel", name := "<init>", desc := "()V" } : Jvm.MethodName) prog_11_method_1_code (2 : Nat) (Option.none : Option Jvm.ClassFile.FieldType)) ∈ XT := XT4 176 rfl rfl
theorem tw965 : (Jvm.Cond.methodLink "OpensAtNineModel" (1 : Nat) ({ cls := "java/lang/Object", name := "<init>", desc := "()V" } : Jvm.MethodName)) ∈ XT := XT4 177 rfl rfl
theorem tw966 : (Jvm.Cond.methodLink "OpensAtNineModel" (93 : Nat) ({ cls := "OpensAtNineModel", name := "text", desc := "()I" } : Jvm.MethodName)) ∈ XT := XT4 178 rfl rfl
theorem tw967 : (Jvm.Cond.instanceMethod ({ cls := "OpensAtNineModel", name := "text", desc := "()I" } : Jvm.MethodName)) ∈ XT := XT4 179 rfl rfl
theorem tw968 : (Jvm.Cond.selects "OpensAtNineModel" ({ cls := "OpensAtNineModel", name := "text", desc := "()I" } : Jvm.MethodName) ({ cls := "OpensAtNineModel", name := "text", desc := "()I" } : Jvm.MethodName)) ∈ XT := XT4 180 rfl rfl
theorem tw969 : (Jvm.Cond.code ({ cls := "OpensAtNineModel", name := "text", desc := "()I" } : Jvm.MethodName) prog_11_method_26_code (3 : Nat) (Option.some Jvm.ClassFile.FieldType.int)) ∈ XT := XT4 181 rfl rfl
theorem tw970 : (Jvm.Cond.methodLink "OpensAtNineModel" (171 : Nat) ({ cls := "OpensAtNineModel", name := "next", desc := "()V" } : Jvm.MethodName)) ∈ XT := XT4 182 rfl rfl
theorem tw972 : (Jvm.Cond.instanceMethod ({ cls := "OpensAtNineModel", name := "next", desc := "()V" } : Jvm.MethodName)) ∈ XT := XT4 184 rfl rfl
theorem tw973 : (Jvm.Cond.code ({ cls := "OpensAtNineModel", name := "next", desc := "()V" } : Jvm.MethodName) prog_11_method_17_code (3 : Nat) (Option.none : Option Jvm.ClassFile.FieldType)) ∈ XT := XT4 185 rfl rfl
theorem tw974 : (Jvm.Cond.methodLink "OpensAtNineModel" (100 : Nat) ({ cls := "OpensAtNineModel", name := "in", desc := "(III)Z" } : Jvm.MethodName)) ∈ XT := XT4 186 rfl rfl
theorem tw975 : (Jvm.Cond.static ({ cls := "OpensAtNineModel", name := "in", desc := "(III)Z" } : Jvm.MethodName)) ∈ XT := XT4 187 rfl rfl
theorem tw976 : (Jvm.Cond.code ({ cls := "OpensAtNineModel", name := "in", desc := "(III)Z" } : Jvm.MethodName) prog_11_method_3_code (3 : Nat) (Option.some Jvm.ClassFile.FieldType.boolean)) ∈ XT := XT4 188 rfl rfl
theorem tw977 : (Jvm.Cond.methodLink "OpensAtNineModel" (144 : Nat) ({ cls := "OpensAtNineModel", name := "wordFrom", desc := "(II)I" } : Jvm.MethodName)) ∈ XT := XT4 189 rfl rfl
theorem tw979 : (Jvm.Cond.instanceMethod ({ cls := "OpensAtNineModel", name := "wordFrom", desc := "(II)I" } : Jvm.MethodName)) ∈ XT := XT4 191 rfl rfl
theorem tw980 : (Jvm.Cond.code ({ cls := "OpensAtNineModel", name := "wordFrom", desc := "(II)I" } : Jvm.MethodName) prog_11_method_16_code (6 : Nat) (Option.some Jvm.ClassFile.FieldType.int)) ∈ XT := XT4 192 rfl rfl
theorem tw981 : (Jvm.Cond.methodLink "OpensAtNineModel" (184 : Nat) ({ cls := "OpensAtNineModel", name := "eRead", desc := "()Z" } : Jvm.MethodName)) ∈ XT := XT4 193 rfl rfl
theorem tw983 : (Jvm.Cond.instanceMethod ({ cls := "OpensAtNineModel", name := "eRead", desc := "()Z" } : Jvm.MethodName)) ∈ XT := XT4 195 rfl rfl
theorem tw984 : (Jvm.Cond.code ({ cls := "OpensAtNineModel", name := "eRead", desc := "()Z" } : Jvm.MethodName) prog_11_method_25_code (4 : Nat) (Option.some Jvm.ClassFile.FieldType.boolean)) ∈ XT := XT4 196 rfl rfl
theorem tw985 : (Jvm.Cond.constant "OpensAtNineModel" (174 : Nat) (100000 : Int32)) ∈ XT := XT4 197 rfl rfl
theorem tw986 : (Jvm.Cond.methodLink "OpensAtNineModel" (161 : Nat) ({ cls := "OpensAtNineModel", name := "puts", desc := "(I)V" } : Jvm.MethodName)) ∈ XT := XT4 198 rfl rfl
theorem tw988 : (Jvm.Cond.instanceMethod ({ cls := "OpensAtNineModel", name := "puts", desc := "(I)V" } : Jvm.MethodName)) ∈ XT := XT4 200 rfl rfl
theorem tw989 : (Jvm.Cond.code ({ cls := "OpensAtNineModel", name := "puts", desc := "(I)V" } : Jvm.MethodName) prog_11_method_19_code (2 : Nat) (Option.none : Option Jvm.ClassFile.FieldType)) ∈ XT := XT4 201 rfl rfl
theorem tw990 : (Jvm.Cond.methodLink "OpensAtNineModel" (168 : Nat) ({ cls := "OpensAtNineModel", name := "unwinds", desc := "(I)V" } : Jvm.MethodName)) ∈ XT := XT4 202 rfl rfl
theorem tw992 : (Jvm.Cond.instanceMethod ({ cls := "OpensAtNineModel", name := "unwinds", desc := "(I)V" } : Jvm.MethodName)) ∈ XT := XT4 204 rfl rfl
theorem tw993 : (Jvm.Cond.code ({ cls := "OpensAtNineModel", name := "unwinds", desc := "(I)V" } : Jvm.MethodName) prog_11_method_20_code (3 : Nat) (Option.none : Option Jvm.ClassFile.FieldType)) ∈ XT := XT4 205 rfl rfl
theorem tw994 : (Jvm.Cond.methodLink "OpensAtNineModel" (154 : Nat) ({ cls := "OpensAtNineModel", name := "rank", desc := "(I)I" } : Jvm.MethodName)) ∈ XT := XT4 206 rfl rfl
theorem tw995 : (Jvm.Cond.static ({ cls := "OpensAtNineModel", name := "rank", desc := "(I)I" } : Jvm.MethodName)) ∈ XT := XT4 207 rfl rfl
theorem tw996 : (Jvm.Cond.code ({ cls := "OpensAtNineModel", name := "rank", desc := "(I)I" } : Jvm.MethodName) prog_11_method_18_code (1 : Nat) (Option.some Jvm.ClassFile.FieldType.int)) ∈ XT := XT4 208 rfl rfl
theorem tw997 : (Jvm.Cond.methodLink "OpensAtNineModel" (175 : Nat) ({ cls := "OpensAtNineModel", name := "opensOne", desc := "(I)Z" } : Jvm.MethodName)) ∈ XT := XT4 209 rfl rfl
theorem tw999 : (Jvm.Cond.instanceMethod ({ cls := "OpensAtNineModel", name := "opensOne", desc := "(I)Z" } : Jvm.MethodName)) ∈ XT := XT4 211 rfl rfl
theorem tw1000 : (Jvm.Cond.code ({ cls := "OpensAtNineModel", name := "opensOne", desc := "(I)Z" } : Jvm.MethodName) prog_11_method_22_code (2 : Nat) (Option.some Jvm.ClassFile.FieldType.boolean)) ∈ XT := XT4 212 rfl rfl
theorem tw1001 : (Jvm.Cond.methodLink "OpensAtNineModel" (165 : Nat) ({ cls := "OpensAtNineModel", name := "holds", desc := "(I)V" } : Jvm.MethodName)) ∈ XT := XT4 213 rfl rfl
theorem tw1003 : (Jvm.Cond.instanceMethod ({ cls := "OpensAtNineModel", name := "holds", desc := "(I)V" } : Jvm.MethodName)) ∈ XT := XT4 215 rfl rfl
theorem tw1004 : (Jvm.Cond.code ({ cls := "OpensAtNineModel", name := "holds", desc := "(I)V" } : Jvm.MethodName) prog_11_method_21_code (2 : Nat) (Option.none : Option Jvm.ClassFile.FieldType)) ∈ XT := XT4 216 rfl rfl
theorem tw1005 : (Jvm.Cond.methodLink "OpensAtNineModel" (178 : Nat) ({ cls := "OpensAtNineModel", name := "signOf", desc := "()I" } : Jvm.MethodName)) ∈ XT := XT4 217 rfl rfl
theorem tw1007 : (Jvm.Cond.instanceMethod ({ cls := "OpensAtNineModel", name := "signOf", desc := "()I" } : Jvm.MethodName)) ∈ XT := XT4 219 rfl rfl
theorem tw1008 : (Jvm.Cond.code ({ cls := "OpensAtNineModel", name := "signOf", desc := "()I" } : Jvm.MethodName) prog_11_method_24_code (1 : Nat) (Option.some Jvm.ClassFile.FieldType.int)) ∈ XT := XT4 220 rfl rfl
theorem tw1009 : (Jvm.Cond.methodLink "OpensAtNineModel" (181 : Nat) ({ cls := "OpensAtNineModel", name := "between", desc := "(I)Z" } : Jvm.MethodName)) ∈ XT := XT4 221 rfl rfl
theorem tw1011 : (Jvm.Cond.instanceMethod ({ cls := "OpensAtNineModel", name := "between", desc := "(I)Z" } : Jvm.MethodName)) ∈ XT := XT4 223 rfl rfl
theorem tw1012 : (Jvm.Cond.code ({ cls := "OpensAtNineModel", name := "between", desc := "(I)Z" } : Jvm.MethodName) prog_11_method_23_code (2 : Nat) (Option.some Jvm.ClassFile.FieldType.boolean)) ∈ XT := XT4 224 rfl rfl
theorem tw1161 : (Jvm.Cond.arrayClass Jvm.ClassFile.FieldType.long) ∈ XT := XT5 133 rfl rfl
theorem tw1163 : (Jvm.Cond.instanceMethod ({ cls := "OpensAtNineModel", name := "set", desc := "(II)I" } : Jvm.MethodName)) ∈ XT := XT5 135 rfl rfl
theorem tw1164 : (Jvm.Cond.selects "OpensAtNineModel" ({ cls := "OpensAtNineModel", name := "set", desc := "(II)I" } : Jvm.MethodName) ({ cls := "OpensAtNineModel", name := "set", desc := "(II)I" } : Jvm.MethodName)) ∈ XT := XT5 136 rfl rfl
theorem tw1165 : (Jvm.Cond.code ({ cls := "OpensAtNineModel", name := "set", desc := "(II)I" } : Jvm.MethodName) prog_11_method_10_code (4 : Nat) (Option.some Jvm.ClassFile.FieldType.int)) ∈ XT := XT5 137 rfl rfl
theorem tw1167 : (Jvm.Cond.instanceMethod ({ cls := "OpensAtNineModel", name := "come", desc := "()I" } : Jvm.MethodName)) ∈ XT := XT5 139 rfl rfl
theorem tw1168 : (Jvm.Cond.selects "OpensAtNineModel" ({ cls := "OpensAtNineModel", name := "come", desc := "()I" } : Jvm.MethodName) ({ cls := "OpensAtNineModel", name := "come", desc := "()I" } : Jvm.MethodName)) ∈ XT := XT5 140 rfl rfl
theorem tw1169 : (Jvm.Cond.code ({ cls := "OpensAtNineModel", name := "come", desc := "()I" } : Jvm.MethodName) prog_11_method_11_code (1 : Nat) (Option.some Jvm.ClassFile.FieldType.int)) ∈ XT := XT5 141 rfl rfl
theorem tw1171 : (Jvm.Cond.instanceMethod ({ cls := "OpensAtNineModel", name := "stand", desc := "(II)I" } : Jvm.MethodName)) ∈ XT := XT5 143 rfl rfl
theorem tw1172 : (Jvm.Cond.selects "OpensAtNineModel" ({ cls := "OpensAtNineModel", name := "stand", desc := "(II)I" } : Jvm.MethodName) ({ cls := "OpensAtNineModel", name := "stand", desc := "(II)I" } : Jvm.MethodName)) ∈ XT := XT5 144 rfl rfl
theorem tw1173 : (Jvm.Cond.code ({ cls := "OpensAtNineModel", name := "stand", desc := "(II)I" } : Jvm.MethodName) prog_11_method_12_code (4 : Nat) (Option.some Jvm.ClassFile.FieldType.int)) ∈ XT := XT5 145 rfl rfl
theorem tw1174 : (Jvm.Cond.methodLink "OpensAtNineModel" (119 : Nat) ({ cls := "OpensAtNineModel", name := "isOne", desc := "(I)Z" } : Jvm.MethodName)) ∈ XT := XT5 146 rfl rfl
theorem tw1176 : (Jvm.Cond.instanceMethod ({ cls := "OpensAtNineModel", name := "isOne", desc := "(I)Z" } : Jvm.MethodName)) ∈ XT := XT5 148 rfl rfl
theorem tw1177 : (Jvm.Cond.code ({ cls := "OpensAtNineModel", name := "isOne", desc := "(I)Z" } : Jvm.MethodName) prog_11_method_5_code (2 : Nat) (Option.some Jvm.ClassFile.FieldType.boolean)) ∈ XT := XT5 149 rfl rfl
theorem tw1179 : (Jvm.Cond.instanceMethod ({ cls := "OpensAtNineModel", name := "count", desc := "(I)I" } : Jvm.MethodName)) ∈ XT := XT5 151 rfl rfl
theorem tw1180 : (Jvm.Cond.selects "OpensAtNineModel" ({ cls := "OpensAtNineModel", name := "count", desc := "(I)I" } : Jvm.MethodName) ({ cls := "OpensAtNineModel", name := "count", desc := "(I)I" } : Jvm.MethodName)) ∈ XT := XT5 152 rfl rfl
theorem tw1181 : (Jvm.Cond.code ({ cls := "OpensAtNineModel", name := "count", desc := "(I)I" } : Jvm.MethodName) prog_11_method_13_code (2 : Nat) (Option.some Jvm.ClassFile.FieldType.int)) ∈ XT := XT5 153 rfl rfl
theorem tw1183 : (Jvm.Cond.instanceMethod ({ cls := "OpensAtNineModel", name := "feed", desc := "(IIIIII)I" } : Jvm.MethodName)) ∈ XT := XT5 155 rfl rfl
theorem tw1184 : (Jvm.Cond.selects "OpensAtNineModel" ({ cls := "OpensAtNineModel", name := "feed", desc := "(IIIIII)I" } : Jvm.MethodName) ({ cls := "OpensAtNineModel", name := "feed", desc := "(IIIIII)I" } : Jvm.MethodName)) ∈ XT := XT5 156 rfl rfl
theorem tw1185 : (Jvm.Cond.code ({ cls := "OpensAtNineModel", name := "feed", desc := "(IIIIII)I" } : Jvm.MethodName) prog_11_method_15_code (8 : Nat) (Option.some Jvm.ClassFile.FieldType.int)) ∈ XT := XT5 157 rfl rfl
theorem tw1186 : (Jvm.Cond.methodLink "OpensAtNineModel" (129 : Nat) ({ cls := "OpensAtNineModel", name := "isByte", desc := "(I)Z" } : Jvm.MethodName)) ∈ XT := XT5 158 rfl rfl
theorem tw1187 : (Jvm.Cond.static ({ cls := "OpensAtNineModel", name := "isByte", desc := "(I)Z" } : Jvm.MethodName)) ∈ XT := XT5 159 rfl rfl
theorem tw1188 : (Jvm.Cond.code ({ cls := "OpensAtNineModel", name := "isByte", desc := "(I)Z" } : Jvm.MethodName) prog_11_method_14_code (1 : Nat) (Option.some Jvm.ClassFile.FieldType.boolean)) ∈ XT := XT5 160 rfl rfl
theorem tw1191 : (Jvm.Cond.instanceMethod ({ cls := "OpensAtNineModel", name := "force", desc := "(I)I" } : Jvm.MethodName)) ∈ XT := XT5 163 rfl rfl
theorem tw1192 : (Jvm.Cond.selects "OpensAtNineModel" ({ cls := "OpensAtNineModel", name := "force", desc := "(I)I" } : Jvm.MethodName) ({ cls := "OpensAtNineModel", name := "force", desc := "(I)I" } : Jvm.MethodName)) ∈ XT := XT5 164 rfl rfl
theorem tw1193 : (Jvm.Cond.code ({ cls := "OpensAtNineModel", name := "force", desc := "(I)I" } : Jvm.MethodName) prog_11_method_29_code (3 : Nat) (Option.some Jvm.ClassFile.FieldType.int)) ∈ XT := XT5 165 rfl rfl
theorem tw1195 : (Jvm.Cond.instanceMethod ({ cls := "OpensAtNineModel", name := "asks", desc := "(IIIII)I" } : Jvm.MethodName)) ∈ XT := XT5 167 rfl rfl
theorem tw1196 : (Jvm.Cond.selects "OpensAtNineModel" ({ cls := "OpensAtNineModel", name := "asks", desc := "(IIIII)I" } : Jvm.MethodName) ({ cls := "OpensAtNineModel", name := "asks", desc := "(IIIII)I" } : Jvm.MethodName)) ∈ XT := XT5 168 rfl rfl
theorem tw1197 : (Jvm.Cond.code ({ cls := "OpensAtNineModel", name := "asks", desc := "(IIIII)I" } : Jvm.MethodName) prog_11_method_32_code (7 : Nat) (Option.some Jvm.ClassFile.FieldType.int)) ∈ XT := XT5 169 rfl rfl
theorem tw1198 : (Jvm.Cond.methodLink "OpensAtNineModel" (220 : Nat) ({ cls := "OpensAtNineModel", name := "asksOf", desc := "(IIIIII)I" } : Jvm.MethodName)) ∈ XT := XT5 170 rfl rfl
theorem tw1200 : (Jvm.Cond.instanceMethod ({ cls := "OpensAtNineModel", name := "asksOf", desc := "(IIIIII)I" } : Jvm.MethodName)) ∈ XT := XT5 172 rfl rfl
theorem tw1201 : (Jvm.Cond.code ({ cls := "OpensAtNineModel", name := "asksOf", desc := "(IIIIII)I" } : Jvm.MethodName) prog_11_method_30_code (10 : Nat) (Option.some Jvm.ClassFile.FieldType.int)) ∈ XT := XT5 173 rfl rfl
theorem tw1202 : (Jvm.Cond.methodLink "OpensAtNineModel" (196 : Nat) ({ cls := "OpensAtNineModel", name := "worksOut", desc := "(IIIIII)I" } : Jvm.MethodName)) ∈ XT := XT5 174 rfl rfl
theorem tw1204 : (Jvm.Cond.instanceMethod ({ cls := "OpensAtNineModel", name := "worksOut", desc := "(IIIIII)I" } : Jvm.MethodName)) ∈ XT := XT5 176 rfl rfl
theorem tw1205 : (Jvm.Cond.code ({ cls := "OpensAtNineModel", name := "worksOut", desc := "(IIIIII)I" } : Jvm.MethodName) prog_11_method_31_code (8 : Nat) (Option.some Jvm.ClassFile.FieldType.int)) ∈ XT := XT5 177 rfl rfl
theorem tw1206 : (Jvm.Cond.methodLink "OpensAtNineModel" (214 : Nat) ({ cls := "OpensAtNineModel", name := "says", desc := "(I)I" } : Jvm.MethodName)) ∈ XT := XT5 178 rfl rfl
theorem tw1208 : (Jvm.Cond.instanceMethod ({ cls := "OpensAtNineModel", name := "says", desc := "(I)I" } : Jvm.MethodName)) ∈ XT := XT5 180 rfl rfl
theorem tw1209 : (Jvm.Cond.code ({ cls := "OpensAtNineModel", name := "says", desc := "(I)I" } : Jvm.MethodName) prog_11_method_28_code (5 : Nat) (Option.some Jvm.ClassFile.FieldType.int)) ∈ XT := XT5 181 rfl rfl
theorem tw1210 : (Jvm.Cond.methodLink "OpensAtNineModel" (188 : Nat) ({ cls := "OpensAtNineModel", name := "two", desc := "(III)I" } : Jvm.MethodName)) ∈ XT := XT5 182 rfl rfl
theorem tw1211 : (Jvm.Cond.static ({ cls := "OpensAtNineModel", name := "two", desc := "(III)I" } : Jvm.MethodName)) ∈ XT := XT5 183 rfl rfl
theorem tw1212 : (Jvm.Cond.code ({ cls := "OpensAtNineModel", name := "two", desc := "(III)I" } : Jvm.MethodName) prog_11_method_27_code (3 : Nat) (Option.some Jvm.ClassFile.FieldType.int)) ∈ XT := XT5 184 rfl rfl
theorem tw1213 : (Jvm.Cond.methodLink "OpensAtNineModel" (217 : Nat) ({ cls := "OpensAtNineModel", name := "within", desc := "(III)I" } : Jvm.MethodName)) ∈ XT := XT5 185 rfl rfl
theorem tw1214 : (Jvm.Cond.static ({ cls := "OpensAtNineModel", name := "within", desc := "(III)I" } : Jvm.MethodName)) ∈ XT := XT5 186 rfl rfl
theorem tw1215 : (Jvm.Cond.code ({ cls := "OpensAtNineModel", name := "within", desc := "(III)I" } : Jvm.MethodName) prog_11_method_4_code (3 : Nat) (Option.some Jvm.ClassFile.FieldType.int)) ∈ XT := XT5 187 rfl rfl
theorem tw1216 : (Jvm.Cond.constantLong "OpensAtNineModel" (200 : Nat) (10000 : Int64)) ∈ XT := XT5 188 rfl rfl
theorem tw1217 : (Jvm.Cond.constantLong "OpensAtNineModel" (202 : Nat) (1000 : Int64)) ∈ XT := XT5 189 rfl rfl
theorem tw1218 : (Jvm.Cond.constantLong "OpensAtNineModel" (204 : Nat) (100 : Int64)) ∈ XT := XT5 190 rfl rfl
theorem tw1219 : (Jvm.Cond.constantLong "OpensAtNineModel" (206 : Nat) (10 : Int64)) ∈ XT := XT5 191 rfl rfl
theorem tw1220 : (Jvm.Cond.constantLong "OpensAtNineModel" (208 : Nat) (31 : Int64)) ∈ XT := XT5 192 rfl rfl
theorem tw1221 : (Jvm.Cond.constantLong "OpensAtNineModel" (210 : Nat) (4099 : Int64)) ∈ XT := XT5 193 rfl rfl
theorem tw1222 : (Jvm.Cond.constantLong "OpensAtNineModel" (212 : Nat) (4096 : Int64)) ∈ XT := XT5 194 rfl rfl
theorem tw1224 : (Jvm.Cond.instanceMethod ({ cls := "OpensAtNineModel", name := "coin", desc := "(IIII)I" } : Jvm.MethodName)) ∈ XT := XT5 196 rfl rfl
theorem tw1225 : (Jvm.Cond.selects "OpensAtNineModel" ({ cls := "OpensAtNineModel", name := "coin", desc := "(IIII)I" } : Jvm.MethodName) ({ cls := "OpensAtNineModel", name := "coin", desc := "(IIII)I" } : Jvm.MethodName)) ∈ XT := XT5 197 rfl rfl
theorem tw1226 : (Jvm.Cond.code ({ cls := "OpensAtNineModel", name := "coin", desc := "(IIII)I" } : Jvm.MethodName) prog_11_method_33_code (5 : Nat) (Option.some Jvm.ClassFile.FieldType.int)) ∈ XT := XT5 198 rfl rfl
theorem tw1228 : (Jvm.Cond.instanceMethod ({ cls := "OpensAtNineModel", name := "sell", desc := "(II)I" } : Jvm.MethodName)) ∈ XT := XT5 200 rfl rfl
theorem tw1229 : (Jvm.Cond.selects "OpensAtNineModel" ({ cls := "OpensAtNineModel", name := "sell", desc := "(II)I" } : Jvm.MethodName) ({ cls := "OpensAtNineModel", name := "sell", desc := "(II)I" } : Jvm.MethodName)) ∈ XT := XT5 201 rfl rfl
theorem tw1230 : (Jvm.Cond.code ({ cls := "OpensAtNineModel", name := "sell", desc := "(II)I" } : Jvm.MethodName) prog_11_method_34_code (4 : Nat) (Option.some Jvm.ClassFile.FieldType.int)) ∈ XT := XT5 202 rfl rfl
theorem tw1231 : (Jvm.Cond.methodLink "OpensAtNineModel" (223 : Nat) ({ cls := "OpensAtNineModel", name := "isCoin", desc := "(I)Z" } : Jvm.MethodName)) ∈ XT := XT5 203 rfl rfl
theorem tw1233 : (Jvm.Cond.instanceMethod ({ cls := "OpensAtNineModel", name := "isCoin", desc := "(I)Z" } : Jvm.MethodName)) ∈ XT := XT5 205 rfl rfl
theorem tw1234 : (Jvm.Cond.code ({ cls := "OpensAtNineModel", name := "isCoin", desc := "(I)Z" } : Jvm.MethodName) prog_11_method_6_code (2 : Nat) (Option.some Jvm.ClassFile.FieldType.boolean)) ∈ XT := XT5 206 rfl rfl
theorem tw1235 : (Jvm.Cond.methodLink "OpensAtNineModel" (226 : Nat) ({ cls := "OpensAtNineModel", name := "isLeft", desc := "(I)Z" } : Jvm.MethodName)) ∈ XT := XT5 207 rfl rfl
theorem tw1237 : (Jvm.Cond.instanceMethod ({ cls := "OpensAtNineModel", name := "isLeft", desc := "(I)Z" } : Jvm.MethodName)) ∈ XT := XT5 209 rfl rfl
theorem tw1238 : (Jvm.Cond.code ({ cls := "OpensAtNineModel", name := "isLeft", desc := "(I)Z" } : Jvm.MethodName) prog_11_method_8_code (2 : Nat) (Option.some Jvm.ClassFile.FieldType.boolean)) ∈ XT := XT5 210 rfl rfl
theorem tw1240 : (Jvm.Cond.instanceMethod ({ cls := "OpensAtNineModel", name := "told", desc := "(II)I" } : Jvm.MethodName)) ∈ XT := XT5 212 rfl rfl
theorem tw1241 : (Jvm.Cond.selects "OpensAtNineModel" ({ cls := "OpensAtNineModel", name := "told", desc := "(II)I" } : Jvm.MethodName) ({ cls := "OpensAtNineModel", name := "told", desc := "(II)I" } : Jvm.MethodName)) ∈ XT := XT5 213 rfl rfl
theorem tw1242 : (Jvm.Cond.code ({ cls := "OpensAtNineModel", name := "told", desc := "(II)I" } : Jvm.MethodName) prog_11_method_38_code (3 : Nat) (Option.some Jvm.ClassFile.FieldType.int)) ∈ XT := XT5 214 rfl rfl
theorem tw1243 : (Jvm.Cond.methodLink "OpensAtNineModel" (229 : Nat) ({ cls := "OpensAtNineModel", name := "countsNow", desc := "(I)I" } : Jvm.MethodName)) ∈ XT := XT5 215 rfl rfl
theorem tw1245 : (Jvm.Cond.instanceMethod ({ cls := "OpensAtNineModel", name := "countsNow", desc := "(I)I" } : Jvm.MethodName)) ∈ XT := XT5 217 rfl rfl
theorem tw1246 : (Jvm.Cond.code ({ cls := "OpensAtNineModel", name := "countsNow", desc := "(I)I" } : Jvm.MethodName) prog_11_method_35_code (5 : Nat) (Option.some Jvm.ClassFile.FieldType.int)) ∈ XT := XT5 218 rfl rfl
theorem tw1247 : (Jvm.Cond.methodLink "OpensAtNineModel" (232 : Nat) ({ cls := "OpensAtNineModel", name := "costsOf", desc := "(I)I" } : Jvm.MethodName)) ∈ XT := XT5 219 rfl rfl
theorem tw1249 : (Jvm.Cond.instanceMethod ({ cls := "OpensAtNineModel", name := "costsOf", desc := "(I)I" } : Jvm.MethodName)) ∈ XT := XT5 221 rfl rfl
theorem tw1250 : (Jvm.Cond.code ({ cls := "OpensAtNineModel", name := "costsOf", desc := "(I)I" } : Jvm.MethodName) prog_11_method_36_code (2 : Nat) (Option.some Jvm.ClassFile.FieldType.int)) ∈ XT := XT5 222 rfl rfl
theorem tw1252 : (Jvm.Cond.instanceMethod ({ cls := "OpensAtNineModel", name := "put", desc := "(I)I" } : Jvm.MethodName)) ∈ XT := XT5 224 rfl rfl
theorem tw1253 : (Jvm.Cond.selects "OpensAtNineModel" ({ cls := "OpensAtNineModel", name := "put", desc := "(I)I" } : Jvm.MethodName) ({ cls := "OpensAtNineModel", name := "put", desc := "(I)I" } : Jvm.MethodName)) ∈ XT := XT5 225 rfl rfl
theorem tw1254 : (Jvm.Cond.code ({ cls := "OpensAtNineModel", name := "put", desc := "(I)I" } : Jvm.MethodName) prog_11_method_41_code (2 : Nat) (Option.some Jvm.ClassFile.FieldType.int)) ∈ XT := XT5 226 rfl rfl
theorem tw1255 : (Jvm.Cond.methodLink "OpensAtNineModel" (241 : Nat) ({ cls := "OpensAtNineModel", name := "canPut", desc := "(I)Z" } : Jvm.MethodName)) ∈ XT := XT5 227 rfl rfl
theorem tw1257 : (Jvm.Cond.instanceMethod ({ cls := "OpensAtNineModel", name := "canPut", desc := "(I)Z" } : Jvm.MethodName)) ∈ XT := XT5 229 rfl rfl
theorem tw1258 : (Jvm.Cond.code ({ cls := "OpensAtNineModel", name := "canPut", desc := "(I)Z" } : Jvm.MethodName) prog_11_method_39_code (2 : Nat) (Option.some Jvm.ClassFile.FieldType.boolean)) ∈ XT := XT5 230 rfl rfl
theorem tw1259 : (Jvm.Cond.methodLink "OpensAtNineModel" (235 : Nat) ({ cls := "OpensAtNineModel", name := "isInside", desc := "(I)Z" } : Jvm.MethodName)) ∈ XT := XT5 231 rfl rfl
theorem tw1261 : (Jvm.Cond.instanceMethod ({ cls := "OpensAtNineModel", name := "isInside", desc := "(I)Z" } : Jvm.MethodName)) ∈ XT := XT5 233 rfl rfl
theorem tw1262 : (Jvm.Cond.code ({ cls := "OpensAtNineModel", name := "isInside", desc := "(I)Z" } : Jvm.MethodName) prog_11_method_7_code (2 : Nat) (Option.some Jvm.ClassFile.FieldType.boolean)) ∈ XT := XT5 234 rfl rfl
theorem tw1263 : (Jvm.Cond.methodLink "OpensAtNineModel" (244 : Nat) ({ cls := "OpensAtNineModel", name := "paysIn", desc := "(I)Z" } : Jvm.MethodName)) ∈ XT := XT5 235 rfl rfl
theorem tw1265 : (Jvm.Cond.instanceMethod ({ cls := "OpensAtNineModel", name := "paysIn", desc := "(I)Z" } : Jvm.MethodName)) ∈ XT := XT5 237 rfl rfl
theorem tw1266 : (Jvm.Cond.code ({ cls := "OpensAtNineModel", name := "paysIn", desc := "(I)Z" } : Jvm.MethodName) prog_11_method_40_code (5 : Nat) (Option.some Jvm.ClassFile.FieldType.boolean)) ∈ XT := XT5 238 rfl rfl
theorem tw1267 : (Jvm.Cond.methodLink "OpensAtNineModel" (238 : Nat) ({ cls := "OpensAtNineModel", name := "leftOf", desc := "(I)I" } : Jvm.MethodName)) ∈ XT := XT5 239 rfl rfl
theorem tw1269 : (Jvm.Cond.instanceMethod ({ cls := "OpensAtNineModel", name := "leftOf", desc := "(I)I" } : Jvm.MethodName)) ∈ XT := XT6 1 rfl rfl
theorem tw1270 : (Jvm.Cond.code ({ cls := "OpensAtNineModel", name := "leftOf", desc := "(I)I" } : Jvm.MethodName) prog_11_method_37_code (4 : Nat) (Option.some Jvm.ClassFile.FieldType.int)) ∈ XT := XT6 2 rfl rfl
theorem tw1272 : (Jvm.Cond.instanceMethod ({ cls := "OpensAtNineModel", name := "worth", desc := "(I)I" } : Jvm.MethodName)) ∈ XT := XT6 4 rfl rfl
theorem tw1273 : (Jvm.Cond.selects "OpensAtNineModel" ({ cls := "OpensAtNineModel", name := "worth", desc := "(I)I" } : Jvm.MethodName) ({ cls := "OpensAtNineModel", name := "worth", desc := "(I)I" } : Jvm.MethodName)) ∈ XT := XT6 5 rfl rfl
theorem tw1274 : (Jvm.Cond.code ({ cls := "OpensAtNineModel", name := "worth", desc := "(I)I" } : Jvm.MethodName) prog_11_method_43_code (2 : Nat) (Option.some Jvm.ClassFile.FieldType.int)) ∈ XT := XT6 6 rfl rfl
theorem tw1275 : (Jvm.Cond.methodLink "OpensAtNineModel" (247 : Nat) ({ cls := "OpensAtNineModel", name := "worthOf", desc := "(I)I" } : Jvm.MethodName)) ∈ XT := XT6 7 rfl rfl
theorem tw1277 : (Jvm.Cond.instanceMethod ({ cls := "OpensAtNineModel", name := "worthOf", desc := "(I)I" } : Jvm.MethodName)) ∈ XT := XT6 9 rfl rfl
theorem tw1278 : (Jvm.Cond.code ({ cls := "OpensAtNineModel", name := "worthOf", desc := "(I)I" } : Jvm.MethodName) prog_11_method_42_code (4 : Nat) (Option.some Jvm.ClassFile.FieldType.int)) ∈ XT := XT6 10 rfl rfl
theorem tw1279 : (Jvm.Cond.constant "OpensAtNineModel" (250 : Nat) (-100000 : Int32)) ∈ XT := XT6 11 rfl rfl
theorem tw1281 : (Jvm.Cond.instanceMethod ({ cls := "OpensAtNineModel", name := "gang", desc := "(II)I" } : Jvm.MethodName)) ∈ XT := XT6 13 rfl rfl
theorem tw1282 : (Jvm.Cond.selects "OpensAtNineModel" ({ cls := "OpensAtNineModel", name := "gang", desc := "(II)I" } : Jvm.MethodName) ({ cls := "OpensAtNineModel", name := "gang", desc := "(II)I" } : Jvm.MethodName)) ∈ XT := XT6 14 rfl rfl
theorem tw1283 : (Jvm.Cond.code ({ cls := "OpensAtNineModel", name := "gang", desc := "(II)I" } : Jvm.MethodName) prog_11_method_48_code (3 : Nat) (Option.some Jvm.ClassFile.FieldType.int)) ∈ XT := XT6 15 rfl rfl
theorem tw1284 : (Jvm.Cond.methodLink "OpensAtNineModel" (270 : Nat) ({ cls := "OpensAtNineModel", name := "findsCheapest", desc := "(I)V" } : Jvm.MethodName)) ∈ XT := XT6 16 rfl rfl
theorem tw1286 : (Jvm.Cond.instanceMethod ({ cls := "OpensAtNineModel", name := "findsCheapest", desc := "(I)V" } : Jvm.MethodName)) ∈ XT := XT6 18 rfl rfl
theorem tw1287 : (Jvm.Cond.code ({ cls := "OpensAtNineModel", name := "findsCheapest", desc := "(I)V" } : Jvm.MethodName) prog_11_method_47_code (2 : Nat) (Option.none : Option Jvm.ClassFile.FieldType)) ∈ XT := XT6 19 rfl rfl
theorem tw1288 : (Jvm.Cond.methodLink "OpensAtNineModel" (263 : Nat) ({ cls := "OpensAtNineModel", name := "waysIn", desc := "(IIII)V" } : Jvm.MethodName)) ∈ XT := XT6 20 rfl rfl
theorem tw1290 : (Jvm.Cond.instanceMethod ({ cls := "OpensAtNineModel", name := "waysIn", desc := "(IIII)V" } : Jvm.MethodName)) ∈ XT := XT6 22 rfl rfl
theorem tw1291 : (Jvm.Cond.code ({ cls := "OpensAtNineModel", name := "waysIn", desc := "(IIII)V" } : Jvm.MethodName) prog_11_method_46_code (6 : Nat) (Option.none : Option Jvm.ClassFile.FieldType)) ∈ XT := XT6 23 rfl rfl
theorem tw1292 : (Jvm.Cond.methodLink "OpensAtNineModel" (260 : Nat) ({ cls := "OpensAtNineModel", name := "keeps", desc := "(I)V" } : Jvm.MethodName)) ∈ XT := XT6 24 rfl rfl
theorem tw1294 : (Jvm.Cond.instanceMethod ({ cls := "OpensAtNineModel", name := "keeps", desc := "(I)V" } : Jvm.MethodName)) ∈ XT := XT6 26 rfl rfl
theorem tw1295 : (Jvm.Cond.code ({ cls := "OpensAtNineModel", name := "keeps", desc := "(I)V" } : Jvm.MethodName) prog_11_method_44_code (2 : Nat) (Option.none : Option Jvm.ClassFile.FieldType)) ∈ XT := XT6 27 rfl rfl
theorem tw1296 : (Jvm.Cond.methodLink "OpensAtNineModel" (267 : Nat) ({ cls := "OpensAtNineModel", name := "laysBack", desc := "(I)V" } : Jvm.MethodName)) ∈ XT := XT6 28 rfl rfl
theorem tw1298 : (Jvm.Cond.instanceMethod ({ cls := "OpensAtNineModel", name := "laysBack", desc := "(I)V" } : Jvm.MethodName)) ∈ XT := XT6 30 rfl rfl
theorem tw1299 : (Jvm.Cond.code ({ cls := "OpensAtNineModel", name := "laysBack", desc := "(I)V" } : Jvm.MethodName) prog_11_method_45_code (2 : Nat) (Option.none : Option Jvm.ClassFile.FieldType)) ∈ XT := XT6 31 rfl rfl
theorem tw1301 : (Jvm.Cond.instanceMethod ({ cls := "OpensAtNineModel", name := "spare", desc := "(II)I" } : Jvm.MethodName)) ∈ XT := XT6 33 rfl rfl
theorem tw1302 : (Jvm.Cond.selects "OpensAtNineModel" ({ cls := "OpensAtNineModel", name := "spare", desc := "(II)I" } : Jvm.MethodName) ({ cls := "OpensAtNineModel", name := "spare", desc := "(II)I" } : Jvm.MethodName)) ∈ XT := XT6 34 rfl rfl
theorem tw1303 : (Jvm.Cond.code ({ cls := "OpensAtNineModel", name := "spare", desc := "(II)I" } : Jvm.MethodName) prog_11_method_50_code (5 : Nat) (Option.some Jvm.ClassFile.FieldType.int)) ∈ XT := XT6 35 rfl rfl
theorem tw1304 : (Jvm.Cond.methodLink "OpensAtNineModel" (273 : Nat) ({ cls := "OpensAtNineModel", name := "goesCheapest", desc := "()V" } : Jvm.MethodName)) ∈ XT := XT6 36 rfl rfl
theorem tw1306 : (Jvm.Cond.instanceMethod ({ cls := "OpensAtNineModel", name := "goesCheapest", desc := "()V" } : Jvm.MethodName)) ∈ XT := XT6 38 rfl rfl
theorem tw1307 : (Jvm.Cond.code ({ cls := "OpensAtNineModel", name := "goesCheapest", desc := "()V" } : Jvm.MethodName) prog_11_method_49_code (3 : Nat) (Option.none : Option Jvm.ClassFile.FieldType)) ∈ XT := XT6 39 rfl rfl
theorem tw1309 : (Jvm.Cond.instanceMethod ({ cls := "OpensAtNineModel", name := "reach", desc := "(I)I" } : Jvm.MethodName)) ∈ XT := XT6 41 rfl rfl
theorem tw1310 : (Jvm.Cond.selects "OpensAtNineModel" ({ cls := "OpensAtNineModel", name := "reach", desc := "(I)I" } : Jvm.MethodName) ({ cls := "OpensAtNineModel", name := "reach", desc := "(I)I" } : Jvm.MethodName)) ∈ XT := XT6 42 rfl rfl
theorem tw1311 : (Jvm.Cond.code ({ cls := "OpensAtNineModel", name := "reach", desc := "(I)I" } : Jvm.MethodName) prog_11_method_52_code (2 : Nat) (Option.some Jvm.ClassFile.FieldType.int)) ∈ XT := XT6 43 rfl rfl
theorem tw1312 : (Jvm.Cond.methodLink "OpensAtNineModel" (279 : Nat) ({ cls := "OpensAtNineModel", name := "restsFrom", desc := "(II)V" } : Jvm.MethodName)) ∈ XT := XT6 44 rfl rfl
theorem tw1314 : (Jvm.Cond.instanceMethod ({ cls := "OpensAtNineModel", name := "restsFrom", desc := "(II)V" } : Jvm.MethodName)) ∈ XT := XT6 46 rfl rfl
theorem tw1315 : (Jvm.Cond.code ({ cls := "OpensAtNineModel", name := "restsFrom", desc := "(II)V" } : Jvm.MethodName) prog_11_method_51_code (4 : Nat) (Option.none : Option Jvm.ClassFile.FieldType)) ∈ XT := XT6 47 rfl rfl
theorem tw1317 : (Jvm.Cond.instanceMethod ({ cls := "OpensAtNineModel", name := "keys", desc := "()I" } : Jvm.MethodName)) ∈ XT := XT6 49 rfl rfl
theorem tw1318 : (Jvm.Cond.selects "OpensAtNineModel" ({ cls := "OpensAtNineModel", name := "keys", desc := "()I" } : Jvm.MethodName) ({ cls := "OpensAtNineModel", name := "keys", desc := "()I" } : Jvm.MethodName)) ∈ XT := XT6 50 rfl rfl
theorem tw1319 : (Jvm.Cond.code ({ cls := "OpensAtNineModel", name := "keys", desc := "()I" } : Jvm.MethodName) prog_11_method_54_code (3 : Nat) (Option.some Jvm.ClassFile.FieldType.int)) ∈ XT := XT6 51 rfl rfl
theorem tw1320 : (Jvm.Cond.methodLink "OpensAtNineModel" (283 : Nat) ({ cls := "OpensAtNineModel", name := "wouldOpen", desc := "(II)Z" } : Jvm.MethodName)) ∈ XT := XT6 52 rfl rfl
theorem tw1322 : (Jvm.Cond.instanceMethod ({ cls := "OpensAtNineModel", name := "wouldOpen", desc := "(II)Z" } : Jvm.MethodName)) ∈ XT := XT6 54 rfl rfl
theorem tw1323 : (Jvm.Cond.code ({ cls := "OpensAtNineModel", name := "wouldOpen", desc := "(II)Z" } : Jvm.MethodName) prog_11_method_53_code (4 : Nat) (Option.some Jvm.ClassFile.FieldType.boolean)) ∈ XT := XT6 55 rfl rfl
theorem tw1325 : (Jvm.Cond.instanceMethod ({ cls := "OpensAtNineModel", name := "gifts", desc := "()I" } : Jvm.MethodName)) ∈ XT := XT6 57 rfl rfl
theorem tw1326 : (Jvm.Cond.selects "OpensAtNineModel" ({ cls := "OpensAtNineModel", name := "gifts", desc := "()I" } : Jvm.MethodName) ({ cls := "OpensAtNineModel", name := "gifts", desc := "()I" } : Jvm.MethodName)) ∈ XT := XT6 58 rfl rfl
theorem tw1327 : (Jvm.Cond.code ({ cls := "OpensAtNineModel", name := "gifts", desc := "()I" } : Jvm.MethodName) prog_11_method_56_code (3 : Nat) (Option.some Jvm.ClassFile.FieldType.int)) ∈ XT := XT6 59 rfl rfl
theorem tw1328 : (Jvm.Cond.methodLink "OpensAtNineModel" (287 : Nat) ({ cls := "OpensAtNineModel", name := "isGift", desc := "(I)Z" } : Jvm.MethodName)) ∈ XT := XT6 60 rfl rfl
theorem tw1330 : (Jvm.Cond.instanceMethod ({ cls := "OpensAtNineModel", name := "isGift", desc := "(I)Z" } : Jvm.MethodName)) ∈ XT := XT6 62 rfl rfl
theorem tw1331 : (Jvm.Cond.code ({ cls := "OpensAtNineModel", name := "isGift", desc := "(I)Z" } : Jvm.MethodName) prog_11_method_55_code (4 : Nat) (Option.some Jvm.ClassFile.FieldType.boolean)) ∈ XT := XT6 63 rfl rfl
theorem tw1333 : (Jvm.Cond.instanceMethod ({ cls := "OpensAtNineModel", name := "rest", desc := "(II)I" } : Jvm.MethodName)) ∈ XT := XT6 65 rfl rfl
theorem tw1334 : (Jvm.Cond.selects "OpensAtNineModel" ({ cls := "OpensAtNineModel", name := "rest", desc := "(II)I" } : Jvm.MethodName) ({ cls := "OpensAtNineModel", name := "rest", desc := "(II)I" } : Jvm.MethodName)) ∈ XT := XT6 66 rfl rfl
theorem tw1335 : (Jvm.Cond.code ({ cls := "OpensAtNineModel", name := "rest", desc := "(II)I" } : Jvm.MethodName) prog_11_method_61_code (3 : Nat) (Option.some Jvm.ClassFile.FieldType.int)) ∈ XT := XT6 67 rfl rfl
theorem tw1336 : (Jvm.Cond.methodLink "OpensAtNineModel" (302 : Nat) ({ cls := "OpensAtNineModel", name := "goesByTurns", desc := "(I)V" } : Jvm.MethodName)) ∈ XT := XT6 68 rfl rfl
theorem tw1338 : (Jvm.Cond.instanceMethod ({ cls := "OpensAtNineModel", name := "goesByTurns", desc := "(I)V" } : Jvm.MethodName)) ∈ XT := XT6 70 rfl rfl
theorem tw1339 : (Jvm.Cond.code ({ cls := "OpensAtNineModel", name := "goesByTurns", desc := "(I)V" } : Jvm.MethodName) prog_11_method_60_code (3 : Nat) (Option.none : Option Jvm.ClassFile.FieldType)) ∈ XT := XT6 71 rfl rfl
theorem tw1340 : (Jvm.Cond.constantLong "OpensAtNineModel" (300 : Nat) (-1 : Int64)) ∈ XT := XT6 72 rfl rfl
theorem tw1341 : (Jvm.Cond.methodLink "OpensAtNineModel" (293 : Nat) ({ cls := "OpensAtNineModel", name := "turns", desc := "(II)V" } : Jvm.MethodName)) ∈ XT := XT6 73 rfl rfl
theorem tw1343 : (Jvm.Cond.instanceMethod ({ cls := "OpensAtNineModel", name := "turns", desc := "(II)V" } : Jvm.MethodName)) ∈ XT := XT6 75 rfl rfl
theorem tw1344 : (Jvm.Cond.code ({ cls := "OpensAtNineModel", name := "turns", desc := "(II)V" } : Jvm.MethodName) prog_11_method_59_code (5 : Nat) (Option.none : Option Jvm.ClassFile.FieldType)) ∈ XT := XT6 76 rfl rfl
theorem tw1345 : (Jvm.Cond.methodLink "OpensAtNineModel" (290 : Nat) ({ cls := "OpensAtNineModel", name := "endsNow", desc := "(I)V" } : Jvm.MethodName)) ∈ XT := XT6 77 rfl rfl
theorem tw1347 : (Jvm.Cond.instanceMethod ({ cls := "OpensAtNineModel", name := "endsNow", desc := "(I)V" } : Jvm.MethodName)) ∈ XT := XT6 79 rfl rfl
theorem tw1348 : (Jvm.Cond.code ({ cls := "OpensAtNineModel", name := "endsNow", desc := "(I)V" } : Jvm.MethodName) prog_11_method_57_code (3 : Nat) (Option.none : Option Jvm.ClassFile.FieldType)) ∈ XT := XT6 80 rfl rfl
theorem tw1349 : (Jvm.Cond.methodLink "OpensAtNineModel" (296 : Nat) ({ cls := "OpensAtNineModel", name := "takes", desc := "(IIIIZ)V" } : Jvm.MethodName)) ∈ XT := XT6 81 rfl rfl
theorem tw1351 : (Jvm.Cond.instanceMethod ({ cls := "OpensAtNineModel", name := "takes", desc := "(IIIIZ)V" } : Jvm.MethodName)) ∈ XT := XT6 83 rfl rfl
theorem tw1352 : (Jvm.Cond.code ({ cls := "OpensAtNineModel", name := "takes", desc := "(IIIIZ)V" } : Jvm.MethodName) prog_11_method_58_code (7 : Nat) (Option.none : Option Jvm.ClassFile.FieldType)) ∈ XT := XT6 84 rfl rfl
theorem tw1354 : (Jvm.Cond.instanceMethod ({ cls := "OpensAtNineModel", name := "moves", desc := "(I)I" } : Jvm.MethodName)) ∈ XT := XT6 86 rfl rfl
theorem tw1355 : (Jvm.Cond.selects "OpensAtNineModel" ({ cls := "OpensAtNineModel", name := "moves", desc := "(I)I" } : Jvm.MethodName) ({ cls := "OpensAtNineModel", name := "moves", desc := "(I)I" } : Jvm.MethodName)) ∈ XT := XT6 87 rfl rfl
theorem tw1356 : (Jvm.Cond.code ({ cls := "OpensAtNineModel", name := "moves", desc := "(I)I" } : Jvm.MethodName) prog_11_method_62_code (4 : Nat) (Option.some Jvm.ClassFile.FieldType.int)) ∈ XT := XT6 88 rfl rfl
theorem tw1358 : (Jvm.Cond.instanceMethod ({ cls := "OpensAtNineModel", name := "play", desc := "(I)I" } : Jvm.MethodName)) ∈ XT := XT6 90 rfl rfl
theorem tw1359 : (Jvm.Cond.selects "OpensAtNineModel" ({ cls := "OpensAtNineModel", name := "play", desc := "(I)I" } : Jvm.MethodName) ({ cls := "OpensAtNineModel", name := "play", desc := "(I)I" } : Jvm.MethodName)) ∈ XT := XT6 91 rfl rfl
theorem tw1360 : (Jvm.Cond.code ({ cls := "OpensAtNineModel", name := "play", desc := "(I)I" } : Jvm.MethodName) prog_11_method_63_code (3 : Nat) (Option.some Jvm.ClassFile.FieldType.int)) ∈ XT := XT6 92 rfl rfl
theorem tw1361 : (Jvm.Cond.methodLink "OpensAtNineModel" (305 : Nat) ({ cls := "OpensAtNineModel", name := "ones", desc := "(I)I" } : Jvm.MethodName)) ∈ XT := XT6 93 rfl rfl
theorem tw1362 : (Jvm.Cond.static ({ cls := "OpensAtNineModel", name := "ones", desc := "(I)I" } : Jvm.MethodName)) ∈ XT := XT6 94 rfl rfl
theorem tw1363 : (Jvm.Cond.code ({ cls := "OpensAtNineModel", name := "ones", desc := "(I)I" } : Jvm.MethodName) prog_11_method_9_code (3 : Nat) (Option.some Jvm.ClassFile.FieldType.int)) ∈ XT := XT6 95 rfl rfl
theorem tw1365 : (Jvm.Cond.instanceMethod ({ cls := "OpensAtNineModel", name := "which", desc := "(II)I" } : Jvm.MethodName)) ∈ XT := XT6 97 rfl rfl
theorem tw1366 : (Jvm.Cond.selects "OpensAtNineModel" ({ cls := "OpensAtNineModel", name := "which", desc := "(II)I" } : Jvm.MethodName) ({ cls := "OpensAtNineModel", name := "which", desc := "(II)I" } : Jvm.MethodName)) ∈ XT := XT6 98 rfl rfl
theorem tw1367 : (Jvm.Cond.code ({ cls := "OpensAtNineModel", name := "which", desc := "(II)I" } : Jvm.MethodName) prog_11_method_67_code (4 : Nat) (Option.some Jvm.ClassFile.FieldType.int)) ∈ XT := XT6 99 rfl rfl
theorem tw1368 : (Jvm.Cond.methodLink "OpensAtNineModel" (314 : Nat) ({ cls := "OpensAtNineModel", name := "sheetWrong", desc := "(I)I" } : Jvm.MethodName)) ∈ XT := XT6 100 rfl rfl
theorem tw1370 : (Jvm.Cond.instanceMethod ({ cls := "OpensAtNineModel", name := "sheetWrong", desc := "(I)I" } : Jvm.MethodName)) ∈ XT := XT6 102 rfl rfl
theorem tw1371 : (Jvm.Cond.code ({ cls := "OpensAtNineModel", name := "sheetWrong", desc := "(I)I" } : Jvm.MethodName) prog_11_method_64_code (2 : Nat) (Option.some Jvm.ClassFile.FieldType.int)) ∈ XT := XT6 103 rfl rfl
theorem tw1372 : (Jvm.Cond.methodLink "OpensAtNineModel" (317 : Nat) ({ cls := "OpensAtNineModel", name := "numbersFor", desc := "(II)I" } : Jvm.MethodName)) ∈ XT := XT6 104 rfl rfl
theorem tw1374 : (Jvm.Cond.instanceMethod ({ cls := "OpensAtNineModel", name := "numbersFor", desc := "(II)I" } : Jvm.MethodName)) ∈ XT := XT6 106 rfl rfl
theorem tw1375 : (Jvm.Cond.code ({ cls := "OpensAtNineModel", name := "numbersFor", desc := "(II)I" } : Jvm.MethodName) prog_11_method_66_code (7 : Nat) (Option.some Jvm.ClassFile.FieldType.int)) ∈ XT := XT6 107 rfl rfl
theorem tw1376 : (Jvm.Cond.methodLink "OpensAtNineModel" (311 : Nat) ({ cls := "OpensAtNineModel", name := "isWhole", desc := "(II)Z" } : Jvm.MethodName)) ∈ XT := XT6 108 rfl rfl
theorem tw1377 : (Jvm.Cond.static ({ cls := "OpensAtNineModel", name := "isWhole", desc := "(II)Z" } : Jvm.MethodName)) ∈ XT := XT6 109 rfl rfl
theorem tw1378 : (Jvm.Cond.code ({ cls := "OpensAtNineModel", name := "isWhole", desc := "(II)Z" } : Jvm.MethodName) prog_11_method_65_code (2 : Nat) (Option.some Jvm.ClassFile.FieldType.boolean)) ∈ XT := XT6 110 rfl rfl
theorem tw1380 : (Jvm.Cond.instanceMethod ({ cls := "OpensAtNineModel", name := "next", desc := "(III)I" } : Jvm.MethodName)) ∈ XT := XT6 112 rfl rfl
theorem tw1381 : (Jvm.Cond.selects "OpensAtNineModel" ({ cls := "OpensAtNineModel", name := "next", desc := "(III)I" } : Jvm.MethodName) ({ cls := "OpensAtNineModel", name := "next", desc := "(III)I" } : Jvm.MethodName)) ∈ XT := XT6 113 rfl rfl
theorem tw1382 : (Jvm.Cond.code ({ cls := "OpensAtNineModel", name := "next", desc := "(III)I" } : Jvm.MethodName) prog_11_method_68_code (12 : Nat) (Option.some Jvm.ClassFile.FieldType.int)) ∈ XT := XT6 114 rfl rfl
theorem tw1384 : (Jvm.Cond.instanceMethod ({ cls := "OpensAtNineModel", name := "judge", desc := "(I)I" } : Jvm.MethodName)) ∈ XT := XT6 116 rfl rfl
theorem tw1385 : (Jvm.Cond.selects "OpensAtNineModel" ({ cls := "OpensAtNineModel", name := "judge", desc := "(I)I" } : Jvm.MethodName) ({ cls := "OpensAtNineModel", name := "judge", desc := "(I)I" } : Jvm.MethodName)) ∈ XT := XT6 117 rfl rfl
theorem tw1386 : (Jvm.Cond.code ({ cls := "OpensAtNineModel", name := "judge", desc := "(I)I" } : Jvm.MethodName) prog_11_method_70_code (3 : Nat) (Option.some Jvm.ClassFile.FieldType.int)) ∈ XT := XT6 118 rfl rfl
theorem tw1387 : (Jvm.Cond.methodLink "OpensAtNineModel" (320 : Nat) ({ cls := "OpensAtNineModel", name := "unlike", desc := "(I)I" } : Jvm.MethodName)) ∈ XT := XT6 119 rfl rfl
theorem tw1389 : (Jvm.Cond.instanceMethod ({ cls := "OpensAtNineModel", name := "unlike", desc := "(I)I" } : Jvm.MethodName)) ∈ XT := XT6 121 rfl rfl
theorem tw1390 : (Jvm.Cond.code ({ cls := "OpensAtNineModel", name := "unlike", desc := "(I)I" } : Jvm.MethodName) prog_11_method_69_code (6 : Nat) (Option.some Jvm.ClassFile.FieldType.int)) ∈ XT := XT6 122 rfl rfl
theorem tw1392 : (Jvm.Cond.instanceMethod ({ cls := "OpensAtNineModel", name := "laws", desc := "(I)I" } : Jvm.MethodName)) ∈ XT := XT6 124 rfl rfl
theorem tw1393 : (Jvm.Cond.selects "OpensAtNineModel" ({ cls := "OpensAtNineModel", name := "laws", desc := "(I)I" } : Jvm.MethodName) ({ cls := "OpensAtNineModel", name := "laws", desc := "(I)I" } : Jvm.MethodName)) ∈ XT := XT6 125 rfl rfl
theorem tw1394 : (Jvm.Cond.code ({ cls := "OpensAtNineModel", name := "laws", desc := "(I)I" } : Jvm.MethodName) prog_11_method_71_code (6 : Nat) (Option.some Jvm.ClassFile.FieldType.int)) ∈ XT := XT6 126 rfl rfl
theorem tw1396 : (Jvm.Cond.instanceMethod ({ cls := "OpensAtNineModel", name := "numbers", desc := "(I)I" } : Jvm.MethodName)) ∈ XT := XT6 128 rfl rfl
theorem tw1397 : (Jvm.Cond.selects "OpensAtNineModel" ({ cls := "OpensAtNineModel", name := "numbers", desc := "(I)I" } : Jvm.MethodName) ({ cls := "OpensAtNineModel", name := "numbers", desc := "(I)I" } : Jvm.MethodName)) ∈ XT := XT6 129 rfl rfl
theorem tw1398 : (Jvm.Cond.code ({ cls := "OpensAtNineModel", name := "numbers", desc := "(I)I" } : Jvm.MethodName) prog_11_method_72_code (6 : Nat) (Option.some Jvm.ClassFile.FieldType.int)) ∈ XT := XT6 130 rfl rfl
theorem tw1400 : (Jvm.Cond.instanceMethod ({ cls := "OpensAtNineModel", name := "film", desc := "(I)I" } : Jvm.MethodName)) ∈ XT := XT6 132 rfl rfl
theorem tw1401 : (Jvm.Cond.selects "OpensAtNineModel" ({ cls := "OpensAtNineModel", name := "film", desc := "(I)I" } : Jvm.MethodName) ({ cls := "OpensAtNineModel", name := "film", desc := "(I)I" } : Jvm.MethodName)) ∈ XT := XT6 133 rfl rfl
theorem tw1402 : (Jvm.Cond.code ({ cls := "OpensAtNineModel", name := "film", desc := "(I)I" } : Jvm.MethodName) prog_11_method_73_code (4 : Nat) (Option.some Jvm.ClassFile.FieldType.int)) ∈ XT := XT6 134 rfl rfl
theorem tw1404 : (Jvm.Cond.instanceMethod ({ cls := "OpensAtNineModel", name := "drawn", desc := "(I)I" } : Jvm.MethodName)) ∈ XT := XT6 136 rfl rfl
theorem tw1405 : (Jvm.Cond.selects "OpensAtNineModel" ({ cls := "OpensAtNineModel", name := "drawn", desc := "(I)I" } : Jvm.MethodName) ({ cls := "OpensAtNineModel", name := "drawn", desc := "(I)I" } : Jvm.MethodName)) ∈ XT := XT6 137 rfl rfl
theorem tw1406 : (Jvm.Cond.code ({ cls := "OpensAtNineModel", name := "drawn", desc := "(I)I" } : Jvm.MethodName) prog_11_method_75_code (2 : Nat) (Option.some Jvm.ClassFile.FieldType.int)) ∈ XT := XT6 138 rfl rfl
theorem tw1407 : (Jvm.Cond.constant "OpensAtNineModel" (327 : Nat) (99999 : Int32)) ∈ XT := XT6 139 rfl rfl
theorem tw1408 : (Jvm.Cond.methodLink "OpensAtNineModel" (328 : Nat) ({ cls := "OpensAtNineModel", name := "insideBy", desc := "(I)I" } : Jvm.MethodName)) ∈ XT := XT6 140 rfl rfl
theorem tw1410 : (Jvm.Cond.instanceMethod ({ cls := "OpensAtNineModel", name := "insideBy", desc := "(I)I" } : Jvm.MethodName)) ∈ XT := XT6 142 rfl rfl
theorem tw1411 : (Jvm.Cond.code ({ cls := "OpensAtNineModel", name := "insideBy", desc := "(I)I" } : Jvm.MethodName) prog_11_method_74_code (6 : Nat) (Option.some Jvm.ClassFile.FieldType.int)) ∈ XT := XT6 143 rfl rfl
theorem tw1412 : (Jvm.Cond.constantLong "OpensAtNineModel" (323 : Nat) (48271 : Int64)) ∈ XT := XT6 144 rfl rfl
theorem tw1413 : (Jvm.Cond.constantLong "OpensAtNineModel" (325 : Nat) (2147483647 : Int64)) ∈ XT := XT6 145 rfl rfl
theorem tw1415 : (Jvm.Cond.instanceMethod ({ cls := "OpensAtNineModel", name := "mean", desc := "(III)J" } : Jvm.MethodName)) ∈ XT := XT6 147 rfl rfl
theorem tw1416 : (Jvm.Cond.selects "OpensAtNineModel" ({ cls := "OpensAtNineModel", name := "mean", desc := "(III)J" } : Jvm.MethodName) ({ cls := "OpensAtNineModel", name := "mean", desc := "(III)J" } : Jvm.MethodName)) ∈ XT := XT6 148 rfl rfl
theorem tw1417 : (Jvm.Cond.code ({ cls := "OpensAtNineModel", name := "mean", desc := "(III)J" } : Jvm.MethodName) prog_11_method_77_code (7 : Nat) (Option.some Jvm.ClassFile.FieldType.long)) ∈ XT := XT6 149 rfl rfl
theorem tw1418 : (Jvm.Cond.constantLong "OpensAtNineModel" (331 : Nat) (-4611686018427387904 : Int64)) ∈ XT := XT6 150 rfl rfl
theorem tw1419 : (Jvm.Cond.methodLink "OpensAtNineModel" (333 : Nat) ({ cls := "OpensAtNineModel", name := "lowest", desc := "(JJI)J" } : Jvm.MethodName)) ∈ XT := XT6 151 rfl rfl
theorem tw1420 : (Jvm.Cond.static ({ cls := "OpensAtNineModel", name := "lowest", desc := "(JJI)J" } : Jvm.MethodName)) ∈ XT := XT6 152 rfl rfl
theorem tw1421 : (Jvm.Cond.code ({ cls := "OpensAtNineModel", name := "lowest", desc := "(JJI)J" } : Jvm.MethodName) prog_11_method_76_code (11 : Nat) (Option.some Jvm.ClassFile.FieldType.long)) ∈ XT := XT6 153 rfl rfl
theorem tw1423 : (Jvm.Cond.instanceMethod ({ cls := "OpensAtNineModel", name := "image", desc := "()I" } : Jvm.MethodName)) ∈ XT := XT6 155 rfl rfl
theorem tw1424 : (Jvm.Cond.selects "OpensAtNineModel" ({ cls := "OpensAtNineModel", name := "image", desc := "()I" } : Jvm.MethodName) ({ cls := "OpensAtNineModel", name := "image", desc := "()I" } : Jvm.MethodName)) ∈ XT := XT6 156 rfl rfl
theorem tw1425 : (Jvm.Cond.code ({ cls := "OpensAtNineModel", name := "image", desc := "()I" } : Jvm.MethodName) prog_11_method_78_code (2 : Nat) (Option.some Jvm.ClassFile.FieldType.int)) ∈ XT := XT6 157 rfl rfl
theorem tw1427 : (Jvm.Cond.instanceMethod ({ cls := "OpensAtNineModel", name := "back", desc := "()I" } : Jvm.MethodName)) ∈ XT := XT6 159 rfl rfl
theorem tw1428 : (Jvm.Cond.selects "OpensAtNineModel" ({ cls := "OpensAtNineModel", name := "back", desc := "()I" } : Jvm.MethodName) ({ cls := "OpensAtNineModel", name := "back", desc := "()I" } : Jvm.MethodName)) ∈ XT := XT6 160 rfl rfl
theorem tw1429 : (Jvm.Cond.code ({ cls := "OpensAtNineModel", name := "back", desc := "()I" } : Jvm.MethodName) prog_11_method_79_code (2 : Nat) (Option.some Jvm.ClassFile.FieldType.int)) ∈ XT := XT6 161 rfl rfl
theorem tw1431 : (Jvm.Cond.instanceMethod ({ cls := "OpensAtNineModel", name := "sheet", desc := "(III)I" } : Jvm.MethodName)) ∈ XT := XT6 163 rfl rfl
theorem tw1432 : (Jvm.Cond.selects "OpensAtNineModel" ({ cls := "OpensAtNineModel", name := "sheet", desc := "(III)I" } : Jvm.MethodName) ({ cls := "OpensAtNineModel", name := "sheet", desc := "(III)I" } : Jvm.MethodName)) ∈ XT := XT6 164 rfl rfl
theorem tw1433 : (Jvm.Cond.code ({ cls := "OpensAtNineModel", name := "sheet", desc := "(III)I" } : Jvm.MethodName) prog_11_method_80_code (5 : Nat) (Option.some Jvm.ClassFile.FieldType.int)) ∈ XT := XT6 165 rfl rfl
theorem tw1435 : (Jvm.Cond.instanceMethod ({ cls := "OpensAtNineModel", name := "cell", desc := "(III)I" } : Jvm.MethodName)) ∈ XT := XT6 167 rfl rfl
theorem tw1436 : (Jvm.Cond.selects "OpensAtNineModel" ({ cls := "OpensAtNineModel", name := "cell", desc := "(III)I" } : Jvm.MethodName) ({ cls := "OpensAtNineModel", name := "cell", desc := "(III)I" } : Jvm.MethodName)) ∈ XT := XT6 168 rfl rfl
theorem tw1437 : (Jvm.Cond.code ({ cls := "OpensAtNineModel", name := "cell", desc := "(III)I" } : Jvm.MethodName) prog_11_method_81_code (4 : Nat) (Option.some Jvm.ClassFile.FieldType.int)) ∈ XT := XT6 169 rfl rfl
theorem tw1439 : (Jvm.Cond.instanceMethod ({ cls := "OpensAtNineModel", name := "copy", desc := "(IIIII)I" } : Jvm.MethodName)) ∈ XT := XT6 171 rfl rfl
theorem tw1440 : (Jvm.Cond.selects "OpensAtNineModel" ({ cls := "OpensAtNineModel", name := "copy", desc := "(IIIII)I" } : Jvm.MethodName) ({ cls := "OpensAtNineModel", name := "copy", desc := "(IIIII)I" } : Jvm.MethodName)) ∈ XT := XT6 172 rfl rfl
theorem tw1441 : (Jvm.Cond.code ({ cls := "OpensAtNineModel", name := "copy", desc := "(IIIII)I" } : Jvm.MethodName) prog_11_method_82_code (10 : Nat) (Option.some Jvm.ClassFile.FieldType.int)) ∈ XT := XT6 173 rfl rfl
theorem tw1443 : (Jvm.Cond.instanceMethod ({ cls := "OpensAtNineModel", name := "coinsBy", desc := "(IIII)I" } : Jvm.MethodName)) ∈ XT := XT6 175 rfl rfl
theorem tw1444 : (Jvm.Cond.selects "OpensAtNineModel" ({ cls := "OpensAtNineModel", name := "coinsBy", desc := "(IIII)I" } : Jvm.MethodName) ({ cls := "OpensAtNineModel", name := "coinsBy", desc := "(IIII)I" } : Jvm.MethodName)) ∈ XT := XT6 176 rfl rfl
theorem tw1445 : (Jvm.Cond.code ({ cls := "OpensAtNineModel", name := "coinsBy", desc := "(IIII)I" } : Jvm.MethodName) prog_11_method_83_code (9 : Nat) (Option.some Jvm.ClassFile.FieldType.int)) ∈ XT := XT6 177 rfl rfl
theorem tw1446 : (Jvm.Cond.methodLink "OpensAtNineModel" (340 : Nat) ({ cls := "OpensAtNineModel", name := "coin", desc := "(IIII)I" } : Jvm.MethodName)) ∈ XT := XT6 178 rfl rfl
theorem tw1448 : (Jvm.Cond.instanceMethod ({ cls := "OpensAtNineModel", name := "taken", desc := "(II)I" } : Jvm.MethodName)) ∈ XT := XT6 180 rfl rfl
theorem tw1449 : (Jvm.Cond.selects "OpensAtNineModel" ({ cls := "OpensAtNineModel", name := "taken", desc := "(II)I" } : Jvm.MethodName) ({ cls := "OpensAtNineModel", name := "taken", desc := "(II)I" } : Jvm.MethodName)) ∈ XT := XT6 181 rfl rfl
theorem tw1450 : (Jvm.Cond.code ({ cls := "OpensAtNineModel", name := "taken", desc := "(II)I" } : Jvm.MethodName) prog_11_method_85_code (4 : Nat) (Option.some Jvm.ClassFile.FieldType.int)) ∈ XT := XT6 182 rfl rfl
theorem tw1451 : (Jvm.Cond.methodLink "OpensAtNineModel" (344 : Nat) ({ cls := "OpensAtNineModel", name := "isUnder", desc := "(II)Z" } : Jvm.MethodName)) ∈ XT := XT6 183 rfl rfl
theorem tw1452 : (Jvm.Cond.static ({ cls := "OpensAtNineModel", name := "isUnder", desc := "(II)Z" } : Jvm.MethodName)) ∈ XT := XT6 184 rfl rfl
theorem tw1453 : (Jvm.Cond.code ({ cls := "OpensAtNineModel", name := "isUnder", desc := "(II)Z" } : Jvm.MethodName) prog_11_method_84_code (2 : Nat) (Option.some Jvm.ClassFile.FieldType.boolean)) ∈ XT := XT6 185 rfl rfl
theorem tw1454 : (Jvm.Cond.fieldLink "java/lang/String" (9 : Nat) "java/lang/String" "value" "[B") ∈ XT := XT6 186 rfl rfl
theorem tw1455 : (Jvm.Cond.fieldLink "java/lang/String" (15 : Nat) "java/lang/String" "coder" "B") ∈ XT := XT6 187 rfl rfl
end
