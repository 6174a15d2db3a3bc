-- ===== PART A: goes FIRST, ahead of the names: the tables' words, and 'selects' of the private methods out of them =====
/-- a private method of a class that the tables say can be made, by its rows of tables_1 -/
def lw_okq (q : MethodName × Nat) : Prop := (q.1.cls ≠ "java/lang/invoke/MethodHandle" ∧ q.1.cls ≠ "java/lang/invoke/VarHandle") ∧ Cond.instantiable q.1.cls q.2 ∈ tables_1 ∧ Cond.privateMethod q.1 ∈ tables_1 ∧ Cond.instanceMethod q.1 ∈ tables_1
theorem lw_p0 : lw_okq (⟨"BoxBearers", "putBytes", "(I)V"⟩, 19) := ⟨⟨by decide +kernel, by decide +kernel⟩, List.mem_of_getElem? (i := 27) (by decide +kernel), List.mem_of_getElem? (i := 384) (by decide +kernel), List.mem_of_getElem? (i := 385) (by decide +kernel)⟩
theorem lw_p1 : lw_okq (⟨"BoxBearers", "refuseAct", "(I)I"⟩, 19) := ⟨⟨by decide +kernel, by decide +kernel⟩, List.mem_of_getElem? (i := 27) (by decide +kernel), List.mem_of_getElem? (i := 396) (by decide +kernel), List.mem_of_getElem? (i := 397) (by decide +kernel)⟩
theorem lw_p2 : lw_okq (⟨"BoxBearers$State", "survey", "(I)V"⟩, 9) := ⟨⟨by decide +kernel, by decide +kernel⟩, List.mem_of_getElem? (i := 179) (by decide +kernel), List.mem_of_getElem? (i := 424) (by decide +kernel), List.mem_of_getElem? (i := 425) (by decide +kernel)⟩
theorem lw_p3 : lw_okq (⟨"BoxBearers$State", "keepValue", "(II)V"⟩, 9) := ⟨⟨by decide +kernel, by decide +kernel⟩, List.mem_of_getElem? (i := 179) (by decide +kernel), List.mem_of_getElem? (i := 438) (by decide +kernel), List.mem_of_getElem? (i := 439) (by decide +kernel)⟩
theorem lw_p4 : lw_okq (⟨"BoxBearers$State", "valueOf", "(I)I"⟩, 9) := ⟨⟨by decide +kernel, by decide +kernel⟩, List.mem_of_getElem? (i := 179) (by decide +kernel), List.mem_of_getElem? (i := 446) (by decide +kernel), List.mem_of_getElem? (i := 447) (by decide +kernel)⟩
theorem lw_p5 : lw_okq (⟨"BoxBearers$State", "letFall", "(I)I"⟩, 9) := ⟨⟨by decide +kernel, by decide +kernel⟩, List.mem_of_getElem? (i := 179) (by decide +kernel), List.mem_of_getElem? (i := 464) (by decide +kernel), List.mem_of_getElem? (i := 465) (by decide +kernel)⟩
theorem lw_p6 : lw_okq (⟨"BoxBearers$State", "carryOn", "(I)V"⟩, 9) := ⟨⟨by decide +kernel, by decide +kernel⟩, List.mem_of_getElem? (i := 179) (by decide +kernel), List.mem_of_getElem? (i := 475) (by decide +kernel), List.mem_of_getElem? (i := 476) (by decide +kernel)⟩
theorem lw_p7 : lw_okq (⟨"BoxBearers$State", "tireOut", "(I)V"⟩, 9) := ⟨⟨by decide +kernel, by decide +kernel⟩, List.mem_of_getElem? (i := 179) (by decide +kernel), List.mem_of_getElem? (i := 483) (by decide +kernel), List.mem_of_getElem? (i := 484) (by decide +kernel)⟩
theorem lw_p8 : lw_okq (⟨"java/lang/Throwable", "fillInStackTrace", "(I)Ljava/lang/Throwable;"⟩, 6) := ⟨⟨by decide +kernel, by decide +kernel⟩, List.mem_of_getElem? (i := 569) (by decide +kernel), List.mem_of_getElem? (i := 567) (by decide +kernel), List.mem_of_getElem? (i := 568) (by decide +kernel)⟩
theorem lw_p9 : lw_okq (⟨"BoxBearers$Reader", "nextToken", "()V"⟩, 11) := ⟨⟨by decide +kernel, by decide +kernel⟩, List.mem_of_getElem? (i := 138) (by decide +kernel), List.mem_of_getElem? (i := 611) (by decide +kernel), List.mem_of_getElem? (i := 612) (by decide +kernel)⟩
theorem lw_p10 : lw_okq (⟨"BoxBearers$Reader", "readLine", "()V"⟩, 11) := ⟨⟨by decide +kernel, by decide +kernel⟩, List.mem_of_getElem? (i := 138) (by decide +kernel), List.mem_of_getElem? (i := 704) (by decide +kernel), List.mem_of_getElem? (i := 705) (by decide +kernel)⟩
theorem lw_p11 : lw_okq (⟨"BoxBearers$Reader", "isWord", "(Ljava/lang/String;)Z"⟩, 11) := ⟨⟨by decide +kernel, by decide +kernel⟩, List.mem_of_getElem? (i := 138) (by decide +kernel), List.mem_of_getElem? (i := 709) (by decide +kernel), List.mem_of_getElem? (i := 710) (by decide +kernel)⟩
theorem lw_p12 : lw_okq (⟨"BoxBearers$Reader", "readTowns", "()V"⟩, 11) := ⟨⟨by decide +kernel, by decide +kernel⟩, List.mem_of_getElem? (i := 138) (by decide +kernel), List.mem_of_getElem? (i := 734) (by decide +kernel), List.mem_of_getElem? (i := 735) (by decide +kernel)⟩
theorem lw_p13 : lw_okq (⟨"BoxBearers$Reader", "refuse", "(I)V"⟩, 11) := ⟨⟨by decide +kernel, by decide +kernel⟩, List.mem_of_getElem? (i := 138) (by decide +kernel), List.mem_of_getElem? (i := 738) (by decide +kernel), List.mem_of_getElem? (i := 739) (by decide +kernel)⟩
theorem lw_p14 : lw_okq (⟨"BoxBearers$Reader", "readNumber", "(II)I"⟩, 11) := ⟨⟨by decide +kernel, by decide +kernel⟩, List.mem_of_getElem? (i := 138) (by decide +kernel), List.mem_of_getElem? (i := 742) (by decide +kernel), List.mem_of_getElem? (i := 743) (by decide +kernel)⟩
theorem lw_p15 : lw_okq (⟨"BoxBearers$Reader", "readRoad", "()V"⟩, 11) := ⟨⟨by decide +kernel, by decide +kernel⟩, List.mem_of_getElem? (i := 138) (by decide +kernel), List.mem_of_getElem? (i := 747) (by decide +kernel), List.mem_of_getElem? (i := 748) (by decide +kernel)⟩
def lw_privs_1 : List (MethodName × Nat) := [(⟨"BoxBearers", "putBytes", "(I)V"⟩, 19), (⟨"BoxBearers", "refuseAct", "(I)I"⟩, 19), (⟨"BoxBearers$State", "survey", "(I)V"⟩, 9), (⟨"BoxBearers$State", "keepValue", "(II)V"⟩, 9), (⟨"BoxBearers$State", "valueOf", "(I)I"⟩, 9), (⟨"BoxBearers$State", "letFall", "(I)I"⟩, 9), (⟨"BoxBearers$State", "carryOn", "(I)V"⟩, 9), (⟨"BoxBearers$State", "tireOut", "(I)V"⟩, 9), (⟨"java/lang/Throwable", "fillInStackTrace", "(I)Ljava/lang/Throwable;"⟩, 6), (⟨"BoxBearers$Reader", "nextToken", "()V"⟩, 11), (⟨"BoxBearers$Reader", "readLine", "()V"⟩, 11), (⟨"BoxBearers$Reader", "isWord", "(Ljava/lang/String;)Z"⟩, 11), (⟨"BoxBearers$Reader", "readTowns", "()V"⟩, 11), (⟨"BoxBearers$Reader", "refuse", "(I)V"⟩, 11), (⟨"BoxBearers$Reader", "readNumber", "(II)I"⟩, 11), (⟨"BoxBearers$Reader", "readRoad", "()V"⟩, 11)]
theorem lw_r1 : ∀ q ∈ lw_privs_1, lw_okq q := List.forall_mem_cons.mpr ⟨lw_p0, List.forall_mem_cons.mpr ⟨lw_p1, List.forall_mem_cons.mpr ⟨lw_p2, List.forall_mem_cons.mpr ⟨lw_p3, List.forall_mem_cons.mpr ⟨lw_p4, List.forall_mem_cons.mpr ⟨lw_p5, List.forall_mem_cons.mpr ⟨lw_p6, List.forall_mem_cons.mpr ⟨lw_p7, List.forall_mem_cons.mpr ⟨lw_p8, List.forall_mem_cons.mpr ⟨lw_p9, List.forall_mem_cons.mpr ⟨lw_p10, List.forall_mem_cons.mpr ⟨lw_p11, List.forall_mem_cons.mpr ⟨lw_p12, List.forall_mem_cons.mpr ⟨lw_p13, List.forall_mem_cons.mpr ⟨lw_p14, List.forall_mem_cons.mpr ⟨lw_p15, fun _ h => absurd h List.not_mem_nil⟩⟩⟩⟩⟩⟩⟩⟩⟩⟩⟩⟩⟩⟩⟩⟩
theorem lw_p16 : lw_okq (⟨"BoxBearers$Reader", "readName", "(II)I"⟩, 11) := ⟨⟨by decide +kernel, by decide +kernel⟩, List.mem_of_getElem? (i := 138) (by decide +kernel), List.mem_of_getElem? (i := 751) (by decide +kernel), List.mem_of_getElem? (i := 752) (by decide +kernel)⟩
theorem lw_p17 : lw_okq (⟨"BoxBearers$Reader", "readBox", "()V"⟩, 11) := ⟨⟨by decide +kernel, by decide +kernel⟩, List.mem_of_getElem? (i := 138) (by decide +kernel), List.mem_of_getElem? (i := 764) (by decide +kernel), List.mem_of_getElem? (i := 765) (by decide +kernel)⟩
theorem lw_p18 : lw_okq (⟨"BoxBearers$Reader", "readBearer", "()V"⟩, 11) := ⟨⟨by decide +kernel, by decide +kernel⟩, List.mem_of_getElem? (i := 138) (by decide +kernel), List.mem_of_getElem? (i := 773) (by decide +kernel), List.mem_of_getElem? (i := 774) (by decide +kernel)⟩
theorem lw_p19 : lw_okq (⟨"BoxBearers$Reader", "readRule", "(LBoxBearers$Rule;)V"⟩, 11) := ⟨⟨by decide +kernel, by decide +kernel⟩, List.mem_of_getElem? (i := 138) (by decide +kernel), List.mem_of_getElem? (i := 779) (by decide +kernel), List.mem_of_getElem? (i := 780) (by decide +kernel)⟩
theorem lw_p20 : lw_okq (⟨"BoxBearers$Reader", "readExpr", "(LBoxBearers$Rule;I)V"⟩, 11) := ⟨⟨by decide +kernel, by decide +kernel⟩, List.mem_of_getElem? (i := 138) (by decide +kernel), List.mem_of_getElem? (i := 783) (by decide +kernel), List.mem_of_getElem? (i := 784) (by decide +kernel)⟩
theorem lw_p21 : lw_okq (⟨"BoxBearers$Reader", "isSign", "(C)Z"⟩, 11) := ⟨⟨by decide +kernel, by decide +kernel⟩, List.mem_of_getElem? (i := 138) (by decide +kernel), List.mem_of_getElem? (i := 787) (by decide +kernel), List.mem_of_getElem? (i := 788) (by decide +kernel)⟩
theorem lw_p22 : lw_okq (⟨"BoxBearers$Reader", "readAnd", "(LBoxBearers$Rule;I)V"⟩, 11) := ⟨⟨by decide +kernel, by decide +kernel⟩, List.mem_of_getElem? (i := 138) (by decide +kernel), List.mem_of_getElem? (i := 791) (by decide +kernel), List.mem_of_getElem? (i := 792) (by decide +kernel)⟩
theorem lw_p23 : lw_okq (⟨"BoxBearers$Reader", "readNot", "(LBoxBearers$Rule;I)V"⟩, 11) := ⟨⟨by decide +kernel, by decide +kernel⟩, List.mem_of_getElem? (i := 138) (by decide +kernel), List.mem_of_getElem? (i := 795) (by decide +kernel), List.mem_of_getElem? (i := 796) (by decide +kernel)⟩
theorem lw_p24 : lw_okq (⟨"BoxBearers$Reader", "readSum", "(LBoxBearers$Rule;I)V"⟩, 11) := ⟨⟨by decide +kernel, by decide +kernel⟩, List.mem_of_getElem? (i := 138) (by decide +kernel), List.mem_of_getElem? (i := 800) (by decide +kernel), List.mem_of_getElem? (i := 801) (by decide +kernel)⟩
theorem lw_p25 : lw_okq (⟨"BoxBearers$Reader", "readProduct", "(LBoxBearers$Rule;I)V"⟩, 11) := ⟨⟨by decide +kernel, by decide +kernel⟩, List.mem_of_getElem? (i := 138) (by decide +kernel), List.mem_of_getElem? (i := 804) (by decide +kernel), List.mem_of_getElem? (i := 805) (by decide +kernel)⟩
theorem lw_p26 : lw_okq (⟨"BoxBearers$Reader", "readPart", "(LBoxBearers$Rule;I)V"⟩, 11) := ⟨⟨by decide +kernel, by decide +kernel⟩, List.mem_of_getElem? (i := 138) (by decide +kernel), List.mem_of_getElem? (i := 808) (by decide +kernel), List.mem_of_getElem? (i := 809) (by decide +kernel)⟩
theorem lw_p27 : lw_okq (⟨"BoxBearers$Reader", "readSign", "(C)V"⟩, 11) := ⟨⟨by decide +kernel, by decide +kernel⟩, List.mem_of_getElem? (i := 138) (by decide +kernel), List.mem_of_getElem? (i := 812) (by decide +kernel), List.mem_of_getElem? (i := 813) (by decide +kernel)⟩
theorem lw_p28 : lw_okq (⟨"BoxBearers$Reader", "valueStep", "()I"⟩, 11) := ⟨⟨by decide +kernel, by decide +kernel⟩, List.mem_of_getElem? (i := 138) (by decide +kernel), List.mem_of_getElem? (i := 820) (by decide +kernel), List.mem_of_getElem? (i := 821) (by decide +kernel)⟩
theorem lw_p29 : lw_okq (⟨"BoxBearers", "checkBox", "(I)V"⟩, 19) := ⟨⟨by decide +kernel, by decide +kernel⟩, List.mem_of_getElem? (i := 27) (by decide +kernel), List.mem_of_getElem? (i := 907) (by decide +kernel), List.mem_of_getElem? (i := 908) (by decide +kernel)⟩
theorem lw_p30 : lw_okq (⟨"BoxBearers", "checkBearer", "(I)V"⟩, 19) := ⟨⟨by decide +kernel, by decide +kernel⟩, List.mem_of_getElem? (i := 27) (by decide +kernel), List.mem_of_getElem? (i := 936) (by decide +kernel), List.mem_of_getElem? (i := 937) (by decide +kernel)⟩
theorem lw_p31 : lw_okq (⟨"BoxBearers", "lookAhead", "(I)I"⟩, 19) := ⟨⟨by decide +kernel, by decide +kernel⟩, List.mem_of_getElem? (i := 27) (by decide +kernel), List.mem_of_getElem? (i := 1004) (by decide +kernel), List.mem_of_getElem? (i := 1005) (by decide +kernel)⟩
def lw_privs_2 : List (MethodName × Nat) := [(⟨"BoxBearers$Reader", "readName", "(II)I"⟩, 11), (⟨"BoxBearers$Reader", "readBox", "()V"⟩, 11), (⟨"BoxBearers$Reader", "readBearer", "()V"⟩, 11), (⟨"BoxBearers$Reader", "readRule", "(LBoxBearers$Rule;)V"⟩, 11), (⟨"BoxBearers$Reader", "readExpr", "(LBoxBearers$Rule;I)V"⟩, 11), (⟨"BoxBearers$Reader", "isSign", "(C)Z"⟩, 11), (⟨"BoxBearers$Reader", "readAnd", "(LBoxBearers$Rule;I)V"⟩, 11), (⟨"BoxBearers$Reader", "readNot", "(LBoxBearers$Rule;I)V"⟩, 11), (⟨"BoxBearers$Reader", "readSum", "(LBoxBearers$Rule;I)V"⟩, 11), (⟨"BoxBearers$Reader", "readProduct", "(LBoxBearers$Rule;I)V"⟩, 11), (⟨"BoxBearers$Reader", "readPart", "(LBoxBearers$Rule;I)V"⟩, 11), (⟨"BoxBearers$Reader", "readSign", "(C)V"⟩, 11), (⟨"BoxBearers$Reader", "valueStep", "()I"⟩, 11), (⟨"BoxBearers", "checkBox", "(I)V"⟩, 19), (⟨"BoxBearers", "checkBearer", "(I)V"⟩, 19), (⟨"BoxBearers", "lookAhead", "(I)I"⟩, 19)]
theorem lw_r2 : ∀ q ∈ lw_privs_2, lw_okq q := List.forall_mem_cons.mpr ⟨lw_p16, List.forall_mem_cons.mpr ⟨lw_p17, List.forall_mem_cons.mpr ⟨lw_p18, List.forall_mem_cons.mpr ⟨lw_p19, List.forall_mem_cons.mpr ⟨lw_p20, List.forall_mem_cons.mpr ⟨lw_p21, List.forall_mem_cons.mpr ⟨lw_p22, List.forall_mem_cons.mpr ⟨lw_p23, List.forall_mem_cons.mpr ⟨lw_p24, List.forall_mem_cons.mpr ⟨lw_p25, List.forall_mem_cons.mpr ⟨lw_p26, List.forall_mem_cons.mpr ⟨lw_p27, List.forall_mem_cons.mpr ⟨lw_p28, List.forall_mem_cons.mpr ⟨lw_p29, List.forall_mem_cons.mpr ⟨lw_p30, List.forall_mem_cons.mpr ⟨lw_p31, fun _ h => absurd h List.not_mem_nil⟩⟩⟩⟩⟩⟩⟩⟩⟩⟩⟩⟩⟩⟩⟩⟩
theorem lw_p32 : lw_okq (⟨"BoxBearers", "firstBorne", "(IZ)I"⟩, 19) := ⟨⟨by decide +kernel, by decide +kernel⟩, List.mem_of_getElem? (i := 27) (by decide +kernel), List.mem_of_getElem? (i := 1032) (by decide +kernel), List.mem_of_getElem? (i := 1033) (by decide +kernel)⟩
theorem lw_p33 : lw_okq (⟨"BoxBearers", "checkTown", "(I)V"⟩, 19) := ⟨⟨by decide +kernel, by decide +kernel⟩, List.mem_of_getElem? (i := 27) (by decide +kernel), List.mem_of_getElem? (i := 1061) (by decide +kernel), List.mem_of_getElem? (i := 1062) (by decide +kernel)⟩
theorem lw_p34 : lw_okq (⟨"BoxBearers$Sharing", "everyone", "()I"⟩, 3) := ⟨⟨by decide +kernel, by decide +kernel⟩, List.mem_of_getElem? (i := 258) (by decide +kernel), List.mem_of_getElem? (i := 1082) (by decide +kernel), List.mem_of_getElem? (i := 1083) (by decide +kernel)⟩
theorem lw_p35 : lw_okq (⟨"BoxBearers$Sharing", "fewestOf", "(II)I"⟩, 3) := ⟨⟨by decide +kernel, by decide +kernel⟩, List.mem_of_getElem? (i := 258) (by decide +kernel), List.mem_of_getElem? (i := 1087) (by decide +kernel), List.mem_of_getElem? (i := 1088) (by decide +kernel)⟩
theorem lw_p36 : lw_okq (⟨"BoxBearers$Sharing", "manyWith", "(III)I"⟩, 3) := ⟨⟨by decide +kernel, by decide +kernel⟩, List.mem_of_getElem? (i := 258) (by decide +kernel), List.mem_of_getElem? (i := 1092) (by decide +kernel), List.mem_of_getElem? (i := 1093) (by decide +kernel)⟩
theorem lw_p37 : lw_okq (⟨"BoxBearers$Sharing", "leastBits", "(II)I"⟩, 3) := ⟨⟨by decide +kernel, by decide +kernel⟩, List.mem_of_getElem? (i := 258) (by decide +kernel), List.mem_of_getElem? (i := 1104) (by decide +kernel), List.mem_of_getElem? (i := 1105) (by decide +kernel)⟩
theorem lw_p38 : lw_okq (⟨"BoxBearers$Land", "goAlong", "(IIII[I)V"⟩, 15) := ⟨⟨by decide +kernel, by decide +kernel⟩, List.mem_of_getElem? (i := 35) (by decide +kernel), List.mem_of_getElem? (i := 1147) (by decide +kernel), List.mem_of_getElem? (i := 1148) (by decide +kernel)⟩
theorem lw_p39 : lw_okq (⟨"BoxBearers$Scale", "agreesWith", "(II)Z"⟩, 9) := ⟨⟨by decide +kernel, by decide +kernel⟩, List.mem_of_getElem? (i := 274) (by decide +kernel), List.mem_of_getElem? (i := 1173) (by decide +kernel), List.mem_of_getElem? (i := 1174) (by decide +kernel)⟩
theorem lw_p40 : lw_okq (⟨"BoxBearers$Scale", "unlikeOf", "(I)I"⟩, 9) := ⟨⟨by decide +kernel, by decide +kernel⟩, List.mem_of_getElem? (i := 274) (by decide +kernel), List.mem_of_getElem? (i := 1208) (by decide +kernel), List.mem_of_getElem? (i := 1209) (by decide +kernel)⟩
theorem lw_p41 : lw_okq (⟨"BoxBearers$Scale", "weightLater", "(II)I"⟩, 9) := ⟨⟨by decide +kernel, by decide +kernel⟩, List.mem_of_getElem? (i := 274) (by decide +kernel), List.mem_of_getElem? (i := 1213) (by decide +kernel), List.mem_of_getElem? (i := 1214) (by decide +kernel)⟩
theorem lw_p42 : lw_okq (⟨"BoxBearers", "chanceBorne", "(IIII)I"⟩, 19) := ⟨⟨by decide +kernel, by decide +kernel⟩, List.mem_of_getElem? (i := 27) (by decide +kernel), List.mem_of_getElem? (i := 1224) (by decide +kernel), List.mem_of_getElem? (i := 1225) (by decide +kernel)⟩
theorem lw_p43 : lw_okq (⟨"BoxBearers", "coupleRests", "(IIII)Z"⟩, 19) := ⟨⟨by decide +kernel, by decide +kernel⟩, List.mem_of_getElem? (i := 27) (by decide +kernel), List.mem_of_getElem? (i := 1240) (by decide +kernel), List.mem_of_getElem? (i := 1241) (by decide +kernel)⟩
theorem lw_p44 : lw_okq (⟨"BoxBearers", "gainOf", "(IIII)I"⟩, 19) := ⟨⟨by decide +kernel, by decide +kernel⟩, List.mem_of_getElem? (i := 27) (by decide +kernel), List.mem_of_getElem? (i := 1244) (by decide +kernel), List.mem_of_getElem? (i := 1245) (by decide +kernel)⟩
theorem lw_p45 : lw_okq (⟨"BoxBearers", "drawAct", "()V"⟩, 19) := ⟨⟨by decide +kernel, by decide +kernel⟩, List.mem_of_getElem? (i := 27) (by decide +kernel), List.mem_of_getElem? (i := 1256) (by decide +kernel), List.mem_of_getElem? (i := 1257) (by decide +kernel)⟩
theorem lw_p46 : lw_okq (⟨"BoxBearersModel", "lays", "(I)V"⟩, 66) := ⟨⟨by decide +kernel, by decide +kernel⟩, List.mem_of_getElem? (i := 1324) (by decide +kernel), List.mem_of_getElem? (i := 1538) (by decide +kernel), List.mem_of_getElem? (i := 1539) (by decide +kernel)⟩
theorem lw_p47 : lw_okq (⟨"BoxBearersModel", "right", "(ZI)Z"⟩, 66) := ⟨⟨by decide +kernel, by decide +kernel⟩, List.mem_of_getElem? (i := 1324) (by decide +kernel), List.mem_of_getElem? (i := 1546) (by decide +kernel), List.mem_of_getElem? (i := 1547) (by decide +kernel)⟩
def lw_privs_3 : List (MethodName × Nat) := [(⟨"BoxBearers", "firstBorne", "(IZ)I"⟩, 19), (⟨"BoxBearers", "checkTown", "(I)V"⟩, 19), (⟨"BoxBearers$Sharing", "everyone", "()I"⟩, 3), (⟨"BoxBearers$Sharing", "fewestOf", "(II)I"⟩, 3), (⟨"BoxBearers$Sharing", "manyWith", "(III)I"⟩, 3), (⟨"BoxBearers$Sharing", "leastBits", "(II)I"⟩, 3), (⟨"BoxBearers$Land", "goAlong", "(IIII[I)V"⟩, 15), (⟨"BoxBearers$Scale", "agreesWith", "(II)Z"⟩, 9), (⟨"BoxBearers$Scale", "unlikeOf", "(I)I"⟩, 9), (⟨"BoxBearers$Scale", "weightLater", "(II)I"⟩, 9), (⟨"BoxBearers", "chanceBorne", "(IIII)I"⟩, 19), (⟨"BoxBearers", "coupleRests", "(IIII)Z"⟩, 19), (⟨"BoxBearers", "gainOf", "(IIII)I"⟩, 19), (⟨"BoxBearers", "drawAct", "()V"⟩, 19), (⟨"BoxBearersModel", "lays", "(I)V"⟩, 66), (⟨"BoxBearersModel", "right", "(ZI)Z"⟩, 66)]
theorem lw_r3 : ∀ q ∈ lw_privs_3, lw_okq q := List.forall_mem_cons.mpr ⟨lw_p32, List.forall_mem_cons.mpr ⟨lw_p33, List.forall_mem_cons.mpr ⟨lw_p34, List.forall_mem_cons.mpr ⟨lw_p35, List.forall_mem_cons.mpr ⟨lw_p36, List.forall_mem_cons.mpr ⟨lw_p37, List.forall_mem_cons.mpr ⟨lw_p38, List.forall_mem_cons.mpr ⟨lw_p39, List.forall_mem_cons.mpr ⟨lw_p40, List.forall_mem_cons.mpr ⟨lw_p41, List.forall_mem_cons.mpr ⟨lw_p42, List.forall_mem_cons.mpr ⟨lw_p43, List.forall_mem_cons.mpr ⟨lw_p44, List.forall_mem_cons.mpr ⟨lw_p45, List.forall_mem_cons.mpr ⟨lw_p46, List.forall_mem_cons.mpr ⟨lw_p47, fun _ h => absurd h List.not_mem_nil⟩⟩⟩⟩⟩⟩⟩⟩⟩⟩⟩⟩⟩⟩⟩⟩
theorem lw_p48 : lw_okq (⟨"BoxBearersModel", "goes", "()V"⟩, 66) := ⟨⟨by decide +kernel, by decide +kernel⟩, List.mem_of_getElem? (i := 1324) (by decide +kernel), List.mem_of_getElem? (i := 1550) (by decide +kernel), List.mem_of_getElem? (i := 1551) (by decide +kernel)⟩
theorem lw_p49 : lw_okq (⟨"BoxBearersModel", "byteAt", "(I)I"⟩, 66) := ⟨⟨by decide +kernel, by decide +kernel⟩, List.mem_of_getElem? (i := 1324) (by decide +kernel), List.mem_of_getElem? (i := 1554) (by decide +kernel), List.mem_of_getElem? (i := 1555) (by decide +kernel)⟩
theorem lw_p50 : lw_okq (⟨"BoxBearersModel", "isGood", "()Z"⟩, 66) := ⟨⟨by decide +kernel, by decide +kernel⟩, List.mem_of_getElem? (i := 1324) (by decide +kernel), List.mem_of_getElem? (i := 1564) (by decide +kernel), List.mem_of_getElem? (i := 1565) (by decide +kernel)⟩
theorem lw_p51 : lw_okq (⟨"BoxBearersModel", "line", "()V"⟩, 66) := ⟨⟨by decide +kernel, by decide +kernel⟩, List.mem_of_getElem? (i := 1324) (by decide +kernel), List.mem_of_getElem? (i := 1568) (by decide +kernel), List.mem_of_getElem? (i := 1569) (by decide +kernel)⟩
theorem lw_p52 : lw_okq (⟨"BoxBearersModel", "knownWord", "()I"⟩, 66) := ⟨⟨by decide +kernel, by decide +kernel⟩, List.mem_of_getElem? (i := 1324) (by decide +kernel), List.mem_of_getElem? (i := 1572) (by decide +kernel), List.mem_of_getElem? (i := 1573) (by decide +kernel)⟩
theorem lw_p53 : lw_okq (⟨"BoxBearersModel", "begins", "(ZZZ)Z"⟩, 66) := ⟨⟨by decide +kernel, by decide +kernel⟩, List.mem_of_getElem? (i := 1324) (by decide +kernel), List.mem_of_getElem? (i := 1583) (by decide +kernel), List.mem_of_getElem? (i := 1584) (by decide +kernel)⟩
theorem lw_p54 : lw_okq (⟨"BoxBearersModel", "wrong", "(I)V"⟩, 66) := ⟨⟨by decide +kernel, by decide +kernel⟩, List.mem_of_getElem? (i := 1324) (by decide +kernel), List.mem_of_getElem? (i := 1587) (by decide +kernel), List.mem_of_getElem? (i := 1588) (by decide +kernel)⟩
theorem lw_p55 : lw_okq (⟨"BoxBearersModel", "number", "(II)I"⟩, 66) := ⟨⟨by decide +kernel, by decide +kernel⟩, List.mem_of_getElem? (i := 1324) (by decide +kernel), List.mem_of_getElem? (i := 1591) (by decide +kernel), List.mem_of_getElem? (i := 1592) (by decide +kernel)⟩
theorem lw_p56 : lw_okq (⟨"BoxBearersModel", "readsRoad", "()V"⟩, 66) := ⟨⟨by decide +kernel, by decide +kernel⟩, List.mem_of_getElem? (i := 1324) (by decide +kernel), List.mem_of_getElem? (i := 1595) (by decide +kernel), List.mem_of_getElem? (i := 1596) (by decide +kernel)⟩
theorem lw_p57 : lw_okq (⟨"BoxBearersModel", "townsNow", "()I"⟩, 66) := ⟨⟨by decide +kernel, by decide +kernel⟩, List.mem_of_getElem? (i := 1324) (by decide +kernel), List.mem_of_getElem? (i := 1599) (by decide +kernel), List.mem_of_getElem? (i := 1600) (by decide +kernel)⟩
theorem lw_p58 : lw_okq (⟨"BoxBearersModel", "isOneOf", "(I)Z"⟩, 66) := ⟨⟨by decide +kernel, by decide +kernel⟩, List.mem_of_getElem? (i := 1324) (by decide +kernel), List.mem_of_getElem? (i := 1603) (by decide +kernel), List.mem_of_getElem? (i := 1604) (by decide +kernel)⟩
theorem lw_p59 : lw_okq (⟨"BoxBearersModel", "readsBox", "()V"⟩, 66) := ⟨⟨by decide +kernel, by decide +kernel⟩, List.mem_of_getElem? (i := 1324) (by decide +kernel), List.mem_of_getElem? (i := 1607) (by decide +kernel), List.mem_of_getElem? (i := 1608) (by decide +kernel)⟩
theorem lw_p60 : lw_okq (⟨"BoxBearersModel", "readsBearer", "()V"⟩, 66) := ⟨⟨by decide +kernel, by decide +kernel⟩, List.mem_of_getElem? (i := 1324) (by decide +kernel), List.mem_of_getElem? (i := 1611) (by decide +kernel), List.mem_of_getElem? (i := 1612) (by decide +kernel)⟩
theorem lw_p61 : lw_okq (⟨"BoxBearersModel", "expression", "()V"⟩, 66) := ⟨⟨by decide +kernel, by decide +kernel⟩, List.mem_of_getElem? (i := 1324) (by decide +kernel), List.mem_of_getElem? (i := 1615) (by decide +kernel), List.mem_of_getElem? (i := 1616) (by decide +kernel)⟩
theorem lw_p62 : lw_okq (⟨"BoxBearersModel", "deeper", "()V"⟩, 66) := ⟨⟨by decide +kernel, by decide +kernel⟩, List.mem_of_getElem? (i := 1324) (by decide +kernel), List.mem_of_getElem? (i := 1619) (by decide +kernel), List.mem_of_getElem? (i := 1620) (by decide +kernel)⟩
theorem lw_p63 : lw_okq (⟨"BoxBearersModel", "isSign", "(I)Z"⟩, 66) := ⟨⟨by decide +kernel, by decide +kernel⟩, List.mem_of_getElem? (i := 1324) (by decide +kernel), List.mem_of_getElem? (i := 1623) (by decide +kernel), List.mem_of_getElem? (i := 1624) (by decide +kernel)⟩
def lw_privs_4 : List (MethodName × Nat) := [(⟨"BoxBearersModel", "goes", "()V"⟩, 66), (⟨"BoxBearersModel", "byteAt", "(I)I"⟩, 66), (⟨"BoxBearersModel", "isGood", "()Z"⟩, 66), (⟨"BoxBearersModel", "line", "()V"⟩, 66), (⟨"BoxBearersModel", "knownWord", "()I"⟩, 66), (⟨"BoxBearersModel", "begins", "(ZZZ)Z"⟩, 66), (⟨"BoxBearersModel", "wrong", "(I)V"⟩, 66), (⟨"BoxBearersModel", "number", "(II)I"⟩, 66), (⟨"BoxBearersModel", "readsRoad", "()V"⟩, 66), (⟨"BoxBearersModel", "townsNow", "()I"⟩, 66), (⟨"BoxBearersModel", "isOneOf", "(I)Z"⟩, 66), (⟨"BoxBearersModel", "readsBox", "()V"⟩, 66), (⟨"BoxBearersModel", "readsBearer", "()V"⟩, 66), (⟨"BoxBearersModel", "expression", "()V"⟩, 66), (⟨"BoxBearersModel", "deeper", "()V"⟩, 66), (⟨"BoxBearersModel", "isSign", "(I)Z"⟩, 66)]
theorem lw_r4 : ∀ q ∈ lw_privs_4, lw_okq q := List.forall_mem_cons.mpr ⟨lw_p48, List.forall_mem_cons.mpr ⟨lw_p49, List.forall_mem_cons.mpr ⟨lw_p50, List.forall_mem_cons.mpr ⟨lw_p51, List.forall_mem_cons.mpr ⟨lw_p52, List.forall_mem_cons.mpr ⟨lw_p53, List.forall_mem_cons.mpr ⟨lw_p54, List.forall_mem_cons.mpr ⟨lw_p55, List.forall_mem_cons.mpr ⟨lw_p56, List.forall_mem_cons.mpr ⟨lw_p57, List.forall_mem_cons.mpr ⟨lw_p58, List.forall_mem_cons.mpr ⟨lw_p59, List.forall_mem_cons.mpr ⟨lw_p60, List.forall_mem_cons.mpr ⟨lw_p61, List.forall_mem_cons.mpr ⟨lw_p62, List.forall_mem_cons.mpr ⟨lw_p63, fun _ h => absurd h List.not_mem_nil⟩⟩⟩⟩⟩⟩⟩⟩⟩⟩⟩⟩⟩⟩⟩⟩
theorem lw_p64 : lw_okq (⟨"BoxBearersModel", "operand", "(Z)V"⟩, 66) := ⟨⟨by decide +kernel, by decide +kernel⟩, List.mem_of_getElem? (i := 1324) (by decide +kernel), List.mem_of_getElem? (i := 1627) (by decide +kernel), List.mem_of_getElem? (i := 1628) (by decide +kernel)⟩
theorem lw_p65 : lw_okq (⟨"BoxBearersModel", "waitsFor", "(I)V"⟩, 66) := ⟨⟨by decide +kernel, by decide +kernel⟩, List.mem_of_getElem? (i := 1324) (by decide +kernel), List.mem_of_getElem? (i := 1631) (by decide +kernel), List.mem_of_getElem? (i := 1632) (by decide +kernel)⟩
theorem lw_p66 : lw_okq (⟨"BoxBearersModel", "part", "()V"⟩, 66) := ⟨⟨by decide +kernel, by decide +kernel⟩, List.mem_of_getElem? (i := 1324) (by decide +kernel), List.mem_of_getElem? (i := 1635) (by decide +kernel), List.mem_of_getElem? (i := 1636) (by decide +kernel)⟩
theorem lw_p67 : lw_okq (⟨"BoxBearersModel", "puts", "(I)V"⟩, 66) := ⟨⟨by decide +kernel, by decide +kernel⟩, List.mem_of_getElem? (i := 1324) (by decide +kernel), List.mem_of_getElem? (i := 1639) (by decide +kernel), List.mem_of_getElem? (i := 1640) (by decide +kernel)⟩
theorem lw_p68 : lw_okq (⟨"BoxBearersModel", "drops", "(I)V"⟩, 66) := ⟨⟨by decide +kernel, by decide +kernel⟩, List.mem_of_getElem? (i := 1324) (by decide +kernel), List.mem_of_getElem? (i := 1643) (by decide +kernel), List.mem_of_getElem? (i := 1644) (by decide +kernel)⟩
theorem lw_p69 : lw_okq (⟨"BoxBearersModel", "isOpened", "()Z"⟩, 66) := ⟨⟨by decide +kernel, by decide +kernel⟩, List.mem_of_getElem? (i := 1324) (by decide +kernel), List.mem_of_getElem? (i := 1653) (by decide +kernel), List.mem_of_getElem? (i := 1654) (by decide +kernel)⟩
theorem lw_p70 : lw_okq (⟨"BoxBearersModel", "closes", "()V"⟩, 66) := ⟨⟨by decide +kernel, by decide +kernel⟩, List.mem_of_getElem? (i := 1324) (by decide +kernel), List.mem_of_getElem? (i := 1657) (by decide +kernel), List.mem_of_getElem? (i := 1658) (by decide +kernel)⟩
theorem lw_p71 : lw_okq (⟨"BoxBearersModel", "need", "(Z)V"⟩, 66) := ⟨⟨by decide +kernel, by decide +kernel⟩, List.mem_of_getElem? (i := 1324) (by decide +kernel), List.mem_of_getElem? (i := 1661) (by decide +kernel), List.mem_of_getElem? (i := 1662) (by decide +kernel)⟩
theorem lw_p72 : lw_okq (⟨"BoxBearersModel", "copies", "([I[I)V"⟩, 66) := ⟨⟨by decide +kernel, by decide +kernel⟩, List.mem_of_getElem? (i := 1324) (by decide +kernel), List.mem_of_getElem? (i := 1665) (by decide +kernel), List.mem_of_getElem? (i := 1666) (by decide +kernel)⟩
theorem lw_p73 : lw_okq (⟨"BoxBearersModel", "borneOnes", "(I)I"⟩, 66) := ⟨⟨by decide +kernel, by decide +kernel⟩, List.mem_of_getElem? (i := 1324) (by decide +kernel), List.mem_of_getElem? (i := 1684) (by decide +kernel), List.mem_of_getElem? (i := 1685) (by decide +kernel)⟩
theorem lw_p74 : lw_okq (⟨"BoxBearersModel", "isBorne", "(II)Z"⟩, 66) := ⟨⟨by decide +kernel, by decide +kernel⟩, List.mem_of_getElem? (i := 1324) (by decide +kernel), List.mem_of_getElem? (i := 1688) (by decide +kernel), List.mem_of_getElem? (i := 1689) (by decide +kernel)⟩
theorem lw_p75 : lw_okq (⟨"BoxBearersModel", "handsAt", "(II)I"⟩, 66) := ⟨⟨by decide +kernel, by decide +kernel⟩, List.mem_of_getElem? (i := 1324) (by decide +kernel), List.mem_of_getElem? (i := 1692) (by decide +kernel), List.mem_of_getElem? (i := 1693) (by decide +kernel)⟩
theorem lw_p76 : lw_okq (⟨"BoxBearersModel", "canBear", "(III)Z"⟩, 66) := ⟨⟨by decide +kernel, by decide +kernel⟩, List.mem_of_getElem? (i := 1324) (by decide +kernel), List.mem_of_getElem? (i := 1696) (by decide +kernel), List.mem_of_getElem? (i := 1697) (by decide +kernel)⟩
theorem lw_p77 : lw_okq (⟨"BoxBearersModel", "mightBy", "(II)I"⟩, 66) := ⟨⟨by decide +kernel, by decide +kernel⟩, List.mem_of_getElem? (i := 1324) (by decide +kernel), List.mem_of_getElem? (i := 1700) (by decide +kernel), List.mem_of_getElem? (i := 1701) (by decide +kernel)⟩
theorem lw_p78 : lw_okq (⟨"BoxBearersModel", "mightOf", "(II)I"⟩, 66) := ⟨⟨by decide +kernel, by decide +kernel⟩, List.mem_of_getElem? (i := 1324) (by decide +kernel), List.mem_of_getElem? (i := 1704) (by decide +kernel), List.mem_of_getElem? (i := 1705) (by decide +kernel)⟩
theorem lw_p79 : lw_okq (⟨"BoxBearersModel", "allWeight", "(I)I"⟩, 66) := ⟨⟨by decide +kernel, by decide +kernel⟩, List.mem_of_getElem? (i := 1324) (by decide +kernel), List.mem_of_getElem? (i := 1711) (by decide +kernel), List.mem_of_getElem? (i := 1712) (by decide +kernel)⟩
def lw_privs_5 : List (MethodName × Nat) := [(⟨"BoxBearersModel", "operand", "(Z)V"⟩, 66), (⟨"BoxBearersModel", "waitsFor", "(I)V"⟩, 66), (⟨"BoxBearersModel", "part", "()V"⟩, 66), (⟨"BoxBearersModel", "puts", "(I)V"⟩, 66), (⟨"BoxBearersModel", "drops", "(I)V"⟩, 66), (⟨"BoxBearersModel", "isOpened", "()Z"⟩, 66), (⟨"BoxBearersModel", "closes", "()V"⟩, 66), (⟨"BoxBearersModel", "need", "(Z)V"⟩, 66), (⟨"BoxBearersModel", "copies", "([I[I)V"⟩, 66), (⟨"BoxBearersModel", "borneOnes", "(I)I"⟩, 66), (⟨"BoxBearersModel", "isBorne", "(II)Z"⟩, 66), (⟨"BoxBearersModel", "handsAt", "(II)I"⟩, 66), (⟨"BoxBearersModel", "canBear", "(III)Z"⟩, 66), (⟨"BoxBearersModel", "mightBy", "(II)I"⟩, 66), (⟨"BoxBearersModel", "mightOf", "(II)I"⟩, 66), (⟨"BoxBearersModel", "allWeight", "(I)I"⟩, 66)]
theorem lw_r5 : ∀ q ∈ lw_privs_5, lw_okq q := List.forall_mem_cons.mpr ⟨lw_p64, List.forall_mem_cons.mpr ⟨lw_p65, List.forall_mem_cons.mpr ⟨lw_p66, List.forall_mem_cons.mpr ⟨lw_p67, List.forall_mem_cons.mpr ⟨lw_p68, List.forall_mem_cons.mpr ⟨lw_p69, List.forall_mem_cons.mpr ⟨lw_p70, List.forall_mem_cons.mpr ⟨lw_p71, List.forall_mem_cons.mpr ⟨lw_p72, List.forall_mem_cons.mpr ⟨lw_p73, List.forall_mem_cons.mpr ⟨lw_p74, List.forall_mem_cons.mpr ⟨lw_p75, List.forall_mem_cons.mpr ⟨lw_p76, List.forall_mem_cons.mpr ⟨lw_p77, List.forall_mem_cons.mpr ⟨lw_p78, List.forall_mem_cons.mpr ⟨lw_p79, fun _ h => absurd h List.not_mem_nil⟩⟩⟩⟩⟩⟩⟩⟩⟩⟩⟩⟩⟩⟩⟩⟩
theorem lw_p80 : lw_okq (⟨"BoxBearersModel", "pairs", "()I"⟩, 66) := ⟨⟨by decide +kernel, by decide +kernel⟩, List.mem_of_getElem? (i := 1324) (by decide +kernel), List.mem_of_getElem? (i := 1715) (by decide +kernel), List.mem_of_getElem? (i := 1716) (by decide +kernel)⟩
theorem lw_p81 : lw_okq (⟨"BoxBearersModel", "isBox", "(I)Z"⟩, 66) := ⟨⟨by decide +kernel, by decide +kernel⟩, List.mem_of_getElem? (i := 1324) (by decide +kernel), List.mem_of_getElem? (i := 1723) (by decide +kernel), List.mem_of_getElem? (i := 1724) (by decide +kernel)⟩
theorem lw_p82 : lw_okq (⟨"BoxBearersModel", "isWhat", "(II)Z"⟩, 66) := ⟨⟨by decide +kernel, by decide +kernel⟩, List.mem_of_getElem? (i := 1324) (by decide +kernel), List.mem_of_getElem? (i := 1727) (by decide +kernel), List.mem_of_getElem? (i := 1728) (by decide +kernel)⟩
theorem lw_p83 : lw_okq (⟨"BoxBearersModel", "townOf", "(II)I"⟩, 66) := ⟨⟨by decide +kernel, by decide +kernel⟩, List.mem_of_getElem? (i := 1324) (by decide +kernel), List.mem_of_getElem? (i := 1731) (by decide +kernel), List.mem_of_getElem? (i := 1732) (by decide +kernel)⟩
theorem lw_p84 : lw_okq (⟨"BoxBearersModel", "leanBy", "(I)I"⟩, 66) := ⟨⟨by decide +kernel, by decide +kernel⟩, List.mem_of_getElem? (i := 1324) (by decide +kernel), List.mem_of_getElem? (i := 1735) (by decide +kernel), List.mem_of_getElem? (i := 1736) (by decide +kernel)⟩
theorem lw_p85 : lw_okq (⟨"BoxBearersModel", "neededFor", "(I)I"⟩, 66) := ⟨⟨by decide +kernel, by decide +kernel⟩, List.mem_of_getElem? (i := 1324) (by decide +kernel), List.mem_of_getElem? (i := 1742) (by decide +kernel), List.mem_of_getElem? (i := 1743) (by decide +kernel)⟩
theorem lw_p86 : lw_okq (⟨"BoxBearersModel", "isBearer", "(I)Z"⟩, 66) := ⟨⟨by decide +kernel, by decide +kernel⟩, List.mem_of_getElem? (i := 1324) (by decide +kernel), List.mem_of_getElem? (i := 1750) (by decide +kernel), List.mem_of_getElem? (i := 1751) (by decide +kernel)⟩
theorem lw_p87 : lw_okq (⟨"BoxBearersModel", "refuses", "(I)I"⟩, 66) := ⟨⟨by decide +kernel, by decide +kernel⟩, List.mem_of_getElem? (i := 1324) (by decide +kernel), List.mem_of_getElem? (i := 1761) (by decide +kernel), List.mem_of_getElem? (i := 1762) (by decide +kernel)⟩
theorem lw_p88 : lw_okq (⟨"BoxBearersModel", "keeps", "()V"⟩, 66) := ⟨⟨by decide +kernel, by decide +kernel⟩, List.mem_of_getElem? (i := 1324) (by decide +kernel), List.mem_of_getElem? (i := 1765) (by decide +kernel), List.mem_of_getElem? (i := 1766) (by decide +kernel)⟩
theorem lw_p89 : lw_okq (⟨"BoxBearersModel", "dayGoes", "(I)V"⟩, 66) := ⟨⟨by decide +kernel, by decide +kernel⟩, List.mem_of_getElem? (i := 1324) (by decide +kernel), List.mem_of_getElem? (i := 1769) (by decide +kernel), List.mem_of_getElem? (i := 1770) (by decide +kernel)⟩
theorem lw_p90 : lw_okq (⟨"BoxBearersModel", "boxGoes", "(II)V"⟩, 66) := ⟨⟨by decide +kernel, by decide +kernel⟩, List.mem_of_getElem? (i := 1324) (by decide +kernel), List.mem_of_getElem? (i := 1773) (by decide +kernel), List.mem_of_getElem? (i := 1774) (by decide +kernel)⟩
theorem lw_p91 : lw_okq (⟨"BoxBearersModel", "asks", "(III)I"⟩, 66) := ⟨⟨by decide +kernel, by decide +kernel⟩, List.mem_of_getElem? (i := 1324) (by decide +kernel), List.mem_of_getElem? (i := 1777) (by decide +kernel), List.mem_of_getElem? (i := 1778) (by decide +kernel)⟩
theorem lw_p92 : lw_okq (⟨"BoxBearersModel", "reckons", "(I)I"⟩, 66) := ⟨⟨by decide +kernel, by decide +kernel⟩, List.mem_of_getElem? (i := 1324) (by decide +kernel), List.mem_of_getElem? (i := 1781) (by decide +kernel), List.mem_of_getElem? (i := 1782) (by decide +kernel)⟩
theorem lw_p93 : lw_okq (⟨"BoxBearersModel", "weighs", "(III)V"⟩, 66) := ⟨⟨by decide +kernel, by decide +kernel⟩, List.mem_of_getElem? (i := 1324) (by decide +kernel), List.mem_of_getElem? (i := 1791) (by decide +kernel), List.mem_of_getElem? (i := 1792) (by decide +kernel)⟩
theorem lw_p94 : lw_okq (⟨"BoxBearersModel", "letsFall", "(II)V"⟩, 66) := ⟨⟨by decide +kernel, by decide +kernel⟩, List.mem_of_getElem? (i := 1324) (by decide +kernel), List.mem_of_getElem? (i := 1795) (by decide +kernel), List.mem_of_getElem? (i := 1796) (by decide +kernel)⟩
theorem lw_p95 : lw_okq (⟨"BoxBearersModel", "tires", "(II)V"⟩, 66) := ⟨⟨by decide +kernel, by decide +kernel⟩, List.mem_of_getElem? (i := 1324) (by decide +kernel), List.mem_of_getElem? (i := 1799) (by decide +kernel), List.mem_of_getElem? (i := 1800) (by decide +kernel)⟩
def lw_privs_6 : List (MethodName × Nat) := [(⟨"BoxBearersModel", "pairs", "()I"⟩, 66), (⟨"BoxBearersModel", "isBox", "(I)Z"⟩, 66), (⟨"BoxBearersModel", "isWhat", "(II)Z"⟩, 66), (⟨"BoxBearersModel", "townOf", "(II)I"⟩, 66), (⟨"BoxBearersModel", "leanBy", "(I)I"⟩, 66), (⟨"BoxBearersModel", "neededFor", "(I)I"⟩, 66), (⟨"BoxBearersModel", "isBearer", "(I)Z"⟩, 66), (⟨"BoxBearersModel", "refuses", "(I)I"⟩, 66), (⟨"BoxBearersModel", "keeps", "()V"⟩, 66), (⟨"BoxBearersModel", "dayGoes", "(I)V"⟩, 66), (⟨"BoxBearersModel", "boxGoes", "(II)V"⟩, 66), (⟨"BoxBearersModel", "asks", "(III)I"⟩, 66), (⟨"BoxBearersModel", "reckons", "(I)I"⟩, 66), (⟨"BoxBearersModel", "weighs", "(III)V"⟩, 66), (⟨"BoxBearersModel", "letsFall", "(II)V"⟩, 66), (⟨"BoxBearersModel", "tires", "(II)V"⟩, 66)]
theorem lw_r6 : ∀ q ∈ lw_privs_6, lw_okq q := List.forall_mem_cons.mpr ⟨lw_p80, List.forall_mem_cons.mpr ⟨lw_p81, List.forall_mem_cons.mpr ⟨lw_p82, List.forall_mem_cons.mpr ⟨lw_p83, List.forall_mem_cons.mpr ⟨lw_p84, List.forall_mem_cons.mpr ⟨lw_p85, List.forall_mem_cons.mpr ⟨lw_p86, List.forall_mem_cons.mpr ⟨lw_p87, List.forall_mem_cons.mpr ⟨lw_p88, List.forall_mem_cons.mpr ⟨lw_p89, List.forall_mem_cons.mpr ⟨lw_p90, List.forall_mem_cons.mpr ⟨lw_p91, List.forall_mem_cons.mpr ⟨lw_p92, List.forall_mem_cons.mpr ⟨lw_p93, List.forall_mem_cons.mpr ⟨lw_p94, List.forall_mem_cons.mpr ⟨lw_p95, fun _ h => absurd h List.not_mem_nil⟩⟩⟩⟩⟩⟩⟩⟩⟩⟩⟩⟩⟩⟩⟩⟩
theorem lw_p96 : lw_okq (⟨"BoxBearersModel", "talked", "(III)I"⟩, 66) := ⟨⟨by decide +kernel, by decide +kernel⟩, List.mem_of_getElem? (i := 1324) (by decide +kernel), List.mem_of_getElem? (i := 1819) (by decide +kernel), List.mem_of_getElem? (i := 1820) (by decide +kernel)⟩
theorem lw_p97 : lw_okq (⟨"BoxBearersModel", "isDays", "(III)Z"⟩, 66) := ⟨⟨by decide +kernel, by decide +kernel⟩, List.mem_of_getElem? (i := 1324) (by decide +kernel), List.mem_of_getElem? (i := 1831) (by decide +kernel), List.mem_of_getElem? (i := 1832) (by decide +kernel)⟩
theorem lw_p98 : lw_okq (⟨"BoxBearersModel", "goesTo", "(I)V"⟩, 66) := ⟨⟨by decide +kernel, by decide +kernel⟩, List.mem_of_getElem? (i := 1324) (by decide +kernel), List.mem_of_getElem? (i := 1835) (by decide +kernel), List.mem_of_getElem? (i := 1836) (by decide +kernel)⟩
theorem lw_p99 : lw_okq (⟨"BoxBearersModel", "tries", "()V"⟩, 66) := ⟨⟨by decide +kernel, by decide +kernel⟩, List.mem_of_getElem? (i := 1324) (by decide +kernel), List.mem_of_getElem? (i := 1839) (by decide +kernel), List.mem_of_getElem? (i := 1840) (by decide +kernel)⟩
theorem lw_p100 : lw_okq (⟨"BoxBearersModel", "daysGo", "(I)V"⟩, 66) := ⟨⟨by decide +kernel, by decide +kernel⟩, List.mem_of_getElem? (i := 1324) (by decide +kernel), List.mem_of_getElem? (i := 1843) (by decide +kernel), List.mem_of_getElem? (i := 1844) (by decide +kernel)⟩
theorem lw_p101 : lw_okq (⟨"BoxBearersModel", "borneIn", "(IZ)I"⟩, 66) := ⟨⟨by decide +kernel, by decide +kernel⟩, List.mem_of_getElem? (i := 1324) (by decide +kernel), List.mem_of_getElem? (i := 1859) (by decide +kernel), List.mem_of_getElem? (i := 1860) (by decide +kernel)⟩
theorem lw_p102 : lw_okq (⟨"BoxBearersModel", "isTown", "(I)Z"⟩, 66) := ⟨⟨by decide +kernel, by decide +kernel⟩, List.mem_of_getElem? (i := 1324) (by decide +kernel), List.mem_of_getElem? (i := 1879) (by decide +kernel), List.mem_of_getElem? (i := 1880) (by decide +kernel)⟩
theorem lw_p103 : lw_okq (⟨"BoxBearersModel", "fewestOf", "(II)I"⟩, 66) := ⟨⟨by decide +kernel, by decide +kernel⟩, List.mem_of_getElem? (i := 1324) (by decide +kernel), List.mem_of_getElem? (i := 1888) (by decide +kernel), List.mem_of_getElem? (i := 1889) (by decide +kernel)⟩
theorem lw_p104 : lw_okq (⟨"BoxBearersModel", "laysWays", "(II)V"⟩, 66) := ⟨⟨by decide +kernel, by decide +kernel⟩, List.mem_of_getElem? (i := 1324) (by decide +kernel), List.mem_of_getElem? (i := 1908) (by decide +kernel), List.mem_of_getElem? (i := 1909) (by decide +kernel)⟩
theorem lw_p105 : lw_okq (⟨"BoxBearersModel", "isSeen", "()Z"⟩, 66) := ⟨⟨by decide +kernel, by decide +kernel⟩, List.mem_of_getElem? (i := 1324) (by decide +kernel), List.mem_of_getElem? (i := 1940) (by decide +kernel), List.mem_of_getElem? (i := 1941) (by decide +kernel)⟩
theorem lw_p106 : lw_okq (⟨"BoxBearersModel", "isGuess", "(I)Z"⟩, 66) := ⟨⟨by decide +kernel, by decide +kernel⟩, List.mem_of_getElem? (i := 1324) (by decide +kernel), List.mem_of_getElem? (i := 1944) (by decide +kernel), List.mem_of_getElem? (i := 1945) (by decide +kernel)⟩
theorem lw_p107 : lw_okq (⟨"BoxBearersModel", "gains", "(IIII)I"⟩, 66) := ⟨⟨by decide +kernel, by decide +kernel⟩, List.mem_of_getElem? (i := 1324) (by decide +kernel), List.mem_of_getElem? (i := 1960) (by decide +kernel), List.mem_of_getElem? (i := 1961) (by decide +kernel)⟩
theorem lw_p108 : lw_okq (⟨"BoxBearersModel", "happens", "()V"⟩, 66) := ⟨⟨by decide +kernel, by decide +kernel⟩, List.mem_of_getElem? (i := 1324) (by decide +kernel), List.mem_of_getElem? (i := 1968) (by decide +kernel), List.mem_of_getElem? (i := 1969) (by decide +kernel)⟩
theorem lw_p109 : lw_okq (⟨"BoxBearersModel", "draw", "(I)I"⟩, 66) := ⟨⟨by decide +kernel, by decide +kernel⟩, List.mem_of_getElem? (i := 1324) (by decide +kernel), List.mem_of_getElem? (i := 1972) (by decide +kernel), List.mem_of_getElem? (i := 1973) (by decide +kernel)⟩
def lw_privs_7 : List (MethodName × Nat) := [(⟨"BoxBearersModel", "talked", "(III)I"⟩, 66), (⟨"BoxBearersModel", "isDays", "(III)Z"⟩, 66), (⟨"BoxBearersModel", "goesTo", "(I)V"⟩, 66), (⟨"BoxBearersModel", "tries", "()V"⟩, 66), (⟨"BoxBearersModel", "daysGo", "(I)V"⟩, 66), (⟨"BoxBearersModel", "borneIn", "(IZ)I"⟩, 66), (⟨"BoxBearersModel", "isTown", "(I)Z"⟩, 66), (⟨"BoxBearersModel", "fewestOf", "(II)I"⟩, 66), (⟨"BoxBearersModel", "laysWays", "(II)V"⟩, 66), (⟨"BoxBearersModel", "isSeen", "()Z"⟩, 66), (⟨"BoxBearersModel", "isGuess", "(I)Z"⟩, 66), (⟨"BoxBearersModel", "gains", "(IIII)I"⟩, 66), (⟨"BoxBearersModel", "happens", "()V"⟩, 66), (⟨"BoxBearersModel", "draw", "(I)I"⟩, 66)]
theorem lw_r7 : ∀ q ∈ lw_privs_7, lw_okq q := List.forall_mem_cons.mpr ⟨lw_p96, List.forall_mem_cons.mpr ⟨lw_p97, List.forall_mem_cons.mpr ⟨lw_p98, List.forall_mem_cons.mpr ⟨lw_p99, List.forall_mem_cons.mpr ⟨lw_p100, List.forall_mem_cons.mpr ⟨lw_p101, List.forall_mem_cons.mpr ⟨lw_p102, List.forall_mem_cons.mpr ⟨lw_p103, List.forall_mem_cons.mpr ⟨lw_p104, List.forall_mem_cons.mpr ⟨lw_p105, List.forall_mem_cons.mpr ⟨lw_p106, List.forall_mem_cons.mpr ⟨lw_p107, List.forall_mem_cons.mpr ⟨lw_p108, List.forall_mem_cons.mpr ⟨lw_p109, fun _ h => absurd h List.not_mem_nil⟩⟩⟩⟩⟩⟩⟩⟩⟩⟩⟩⟩⟩⟩
def lw_privs : List (MethodName × Nat) := lw_privs_1 ++ (lw_privs_2 ++ (lw_privs_3 ++ (lw_privs_4 ++ (lw_privs_5 ++ (lw_privs_6 ++ (lw_privs_7))))))
def lw_tbl : List Cond := k2_sels lw_privs ++ tables_1
theorem lw_privs_ok : ∀ q ∈ lw_privs, lw_okq q := by
  show ∀ q ∈ lw_privs_1 ++ (lw_privs_2 ++ (lw_privs_3 ++ (lw_privs_4 ++ (lw_privs_5 ++ (lw_privs_6 ++ (lw_privs_7)))))), lw_okq q
  exact List.forall_mem_append.mpr ⟨lw_r1, List.forall_mem_append.mpr ⟨lw_r2, List.forall_mem_append.mpr ⟨lw_r3, List.forall_mem_append.mpr ⟨lw_r4, List.forall_mem_append.mpr ⟨lw_r5, List.forall_mem_append.mpr ⟨lw_r6, lw_r7⟩⟩⟩⟩⟩⟩
def R_law : String := "BoxBearersLaw"
def RX0 : String := "BoxBearers$Draws"
def TX0 : u_T := fun k => match k with
  | _ => ("BoxBearers$Draws", "seed", "I", false)
def tyX0 : Nat → FieldType := fun k => match k with
  | _ => .int
theorem nmX0 : ∀ a, a < 1 → ∀ b, b < 1 → a ≠ b → (TX0 a).2.1 ≠ (TX0 b).2.1 := by decide +kernel
theorem tyX0_ok : ∀ k, k < 1 → parseFieldDescriptor (TX0 k).2.2.1 = some (tyX0 k) := by decide +kernel
def RX1 : String := "BoxBearers$Land"
def TX1 : u_T := fun k => match k with
  | 0 => ("BoxBearers$Land", "towns", "I", false)
  | 1 => ("BoxBearers$Land", "roads", "I", false)
  | 2 => ("BoxBearers$Land", "roadFrom", "[I", true)
  | 3 => ("BoxBearers$Land", "roadTo", "[I", true)
  | 4 => ("BoxBearers$Land", "stairs", "[I", true)
  | 5 => ("BoxBearers$Land", "boxes", "I", false)
  | 6 => ("BoxBearers$Land", "weight", "[I", true)
  | 7 => ("BoxBearers$Land", "stops", "[I", true)
  | 8 => ("BoxBearers$Land", "routes", "[I", true)
  | 9 => ("BoxBearers$Land", "bearers", "I", false)
  | 10 => ("BoxBearers$Land", "strength", "[I", true)
  | 11 => ("BoxBearers$Land", "height", "[I", true)
  | 12 => ("BoxBearers$Land", "firstBox", "[I", true)
  | 13 => ("BoxBearers$Land", "talk", "LBoxBearers$Rule;", true)
  | _ => ("BoxBearers$Land", "falls", "LBoxBearers$Rule;", true)
def tyX1 : Nat → FieldType := fun k => match k with
  | 0 => .int
  | 1 => .int
  | 2 => .array .int
  | 3 => .array .int
  | 4 => .array .int
  | 5 => .int
  | 6 => .array .int
  | 7 => .array .int
  | 8 => .array .int
  | 9 => .int
  | 10 => .array .int
  | 11 => .array .int
  | 12 => .array .int
  | 13 => .object "BoxBearers$Rule"
  | _ => .object "BoxBearers$Rule"
theorem nmX1 : ∀ a, a < 15 → ∀ b, b < 15 → a ≠ b → (TX1 a).2.1 ≠ (TX1 b).2.1 := by decide +kernel
theorem tyX1_ok : ∀ k, k < 15 → parseFieldDescriptor (TX1 k).2.2.1 = some (tyX1 k) := by decide +kernel
def RX2 : String := "BoxBearers$Past"
def TX2 : u_T := fun k => match k with
  | 0 => ("BoxBearers$Past", "many", "I", false)
  | _ => ("BoxBearers$Past", "rows", "[I", true)
def tyX2 : Nat → FieldType := fun k => match k with
  | 0 => .int
  | _ => .array .int
theorem nmX2 : ∀ a, a < 2 → ∀ b, b < 2 → a ≠ b → (TX2 a).2.1 ≠ (TX2 b).2.1 := by decide +kernel
theorem tyX2_ok : ∀ k, k < 2 → parseFieldDescriptor (TX2 k).2.2.1 = some (tyX2 k) := by decide +kernel
def RX3 : String := "BoxBearers$Reader"
def TX3 : u_T := fun k => match k with
  | 0 => ("BoxBearers$Reader", "text", "[B", true)
  | 1 => ("BoxBearers$Reader", "draft", "LBoxBearers$Land;", true)
  | 2 => ("BoxBearers$Reader", "length", "I", false)
  | 3 => ("BoxBearers$Reader", "start", "I", false)
  | 4 => ("BoxBearers$Reader", "end", "I", false)
  | 5 => ("BoxBearers$Reader", "kind", "I", false)
  | 6 => ("BoxBearers$Reader", "number", "I", false)
  | 7 => ("BoxBearers$Reader", "townsTold", "Z", false)
  | 8 => ("BoxBearers$Reader", "townNamed", "Z", false)
  | 9 => ("BoxBearers$Reader", "fault", "I", false)
  | _ => ("BoxBearers$Reader", "place", "I", false)
def tyX3 : Nat → FieldType := fun k => match k with
  | 0 => .array .byte
  | 1 => .object "BoxBearers$Land"
  | 2 => .int
  | 3 => .int
  | 4 => .int
  | 5 => .int
  | 6 => .int
  | 7 => .boolean
  | 8 => .boolean
  | 9 => .int
  | _ => .int
theorem nmX3 : ∀ a, a < 11 → ∀ b, b < 11 → a ≠ b → (TX3 a).2.1 ≠ (TX3 b).2.1 := by decide +kernel
theorem tyX3_ok : ∀ k, k < 11 → parseFieldDescriptor (TX3 k).2.2.1 = some (tyX3 k) := by decide +kernel
def RX4 : String := "BoxBearers$Rule"
def TX4 : u_T := fun k => match k with
  | 0 => ("BoxBearers$Rule", "told", "Z", false)
  | 1 => ("BoxBearers$Rule", "many", "I", false)
  | 2 => ("BoxBearers$Rule", "steps", "[I", true)
  | _ => ("BoxBearers$Rule", "waiting", "[I", true)
def tyX4 : Nat → FieldType := fun k => match k with
  | 0 => .boolean
  | 1 => .int
  | 2 => .array .int
  | _ => .array .int
theorem nmX4 : ∀ a, a < 4 → ∀ b, b < 4 → a ≠ b → (TX4 a).2.1 ≠ (TX4 b).2.1 := by decide +kernel
theorem tyX4_ok : ∀ k, k < 4 → parseFieldDescriptor (TX4 k).2.2.1 = some (tyX4 k) := by decide +kernel
def RX5 : String := "BoxBearers$Scale"
def TX5 : u_T := fun k => match k with
  | 0 => ("BoxBearers$Scale", "now", "LBoxBearers$State;", true)
  | 1 => ("BoxBearers$Scale", "future", "LBoxBearers$State;", true)
  | 2 => ("BoxBearers$Scale", "seen", "LBoxBearers$Seen;", true)
  | 3 => ("BoxBearers$Scale", "fits", "[I", true)
  | 4 => ("BoxBearers$Scale", "fitting", "[I", true)
  | 5 => ("BoxBearers$Scale", "marks", "[I", true)
  | 6 => ("BoxBearers$Scale", "many", "I", false)
  | 7 => ("BoxBearers$Scale", "mostUnlike", "I", false)
  | _ => ("BoxBearers$Scale", "howUnlike", "I", false)
def tyX5 : Nat → FieldType := fun k => match k with
  | 0 => .object "BoxBearers$State"
  | 1 => .object "BoxBearers$State"
  | 2 => .object "BoxBearers$Seen"
  | 3 => .array .int
  | 4 => .array .int
  | 5 => .array .int
  | 6 => .int
  | 7 => .int
  | _ => .int
theorem nmX5 : ∀ a, a < 9 → ∀ b, b < 9 → a ≠ b → (TX5 a).2.1 ≠ (TX5 b).2.1 := by decide +kernel
theorem tyX5_ok : ∀ k, k < 9 → parseFieldDescriptor (TX5 k).2.2.1 = some (tyX5 k) := by decide +kernel
def RX6 : String := "BoxBearers$Seen"
def TX6 : u_T := fun k => match k with
  | 0 => ("BoxBearers$Seen", "many", "I", false)
  | 1 => ("BoxBearers$Seen", "boxes", "[I", true)
  | 2 => ("BoxBearers$Seen", "days", "[I", true)
  | _ => ("BoxBearers$Seen", "weights", "[I", true)
def tyX6 : Nat → FieldType := fun k => match k with
  | 0 => .int
  | 1 => .array .int
  | 2 => .array .int
  | _ => .array .int
theorem nmX6 : ∀ a, a < 4 → ∀ b, b < 4 → a ≠ b → (TX6 a).2.1 ≠ (TX6 b).2.1 := by decide +kernel
theorem tyX6_ok : ∀ k, k < 4 → parseFieldDescriptor (TX6 k).2.2.1 = some (tyX6 k) := by decide +kernel
def RX7 : String := "BoxBearers$Sharing"
def TX7 : u_T := fun k => match k with
  | 0 => ("BoxBearers$Sharing", "now", "LBoxBearers$State;", true)
  | 1 => ("BoxBearers$Sharing", "might", "[I", true)
  | _ => ("BoxBearers$Sharing", "fewest", "[I", true)
def tyX7 : Nat → FieldType := fun k => match k with
  | 0 => .object "BoxBearers$State"
  | 1 => .array .int
  | _ => .array .int
theorem nmX7 : ∀ a, a < 3 → ∀ b, b < 3 → a ≠ b → (TX7 a).2.1 ≠ (TX7 b).2.1 := by decide +kernel
theorem tyX7_ok : ∀ k, k < 3 → parseFieldDescriptor (TX7 k).2.2.1 = some (tyX7 k) := by decide +kernel
def RX8 : String := "BoxBearers$State"
def TX8 : u_T := fun k => match k with
  | 0 => ("BoxBearers$State", "land", "LBoxBearers$Land;", true)
  | 1 => ("BoxBearers$State", "day", "I", false)
  | 2 => ("BoxBearers$State", "weight", "[I", true)
  | 3 => ("BoxBearers$State", "place", "[I", true)
  | 4 => ("BoxBearers$State", "under", "[I", true)
  | 5 => ("BoxBearers$State", "tired", "[I", true)
  | 6 => ("BoxBearers$State", "fell", "I", false)
  | 7 => ("BoxBearers$State", "carried", "I", false)
  | _ => ("BoxBearers$State", "values", "[I", true)
def tyX8 : Nat → FieldType := fun k => match k with
  | 0 => .object "BoxBearers$Land"
  | 1 => .int
  | 2 => .array .int
  | 3 => .array .int
  | 4 => .array .int
  | 5 => .array .int
  | 6 => .int
  | 7 => .int
  | _ => .array .int
theorem nmX8 : ∀ a, a < 9 → ∀ b, b < 9 → a ≠ b → (TX8 a).2.1 ≠ (TX8 b).2.1 := by decide +kernel
theorem tyX8_ok : ∀ k, k < 9 → parseFieldDescriptor (TX8 k).2.2.1 = some (tyX8 k) := by decide +kernel
def RX9 : String := "BoxBearers"
def TX9 : u_T := fun k => match k with
  | 0 => ("BoxBearers", "tape", "[B", true)
  | 1 => ("BoxBearers", "tapeLength", "I", false)
  | 2 => ("BoxBearers", "faultPlace", "I", false)
  | 3 => ("BoxBearers", "status", "[I", true)
  | 4 => ("BoxBearers", "land", "LBoxBearers$Land;", true)
  | 5 => ("BoxBearers", "draft", "LBoxBearers$Land;", true)
  | 6 => ("BoxBearers", "reader", "LBoxBearers$Reader;", true)
  | 7 => ("BoxBearers", "now", "LBoxBearers$State;", true)
  | 8 => ("BoxBearers", "future", "LBoxBearers$State;", true)
  | 9 => ("BoxBearers", "past", "LBoxBearers$Past;", true)
  | 10 => ("BoxBearers", "seen", "LBoxBearers$Seen;", true)
  | 11 => ("BoxBearers", "imageKept", "Z", false)
  | 12 => ("BoxBearers", "imageState", "LBoxBearers$State;", true)
  | 13 => ("BoxBearers", "imagePast", "LBoxBearers$Past;", true)
  | 14 => ("BoxBearers", "imageSeen", "LBoxBearers$Seen;", true)
  | 15 => ("BoxBearers", "sharing", "LBoxBearers$Sharing;", true)
  | 16 => ("BoxBearers", "scale", "LBoxBearers$Scale;", true)
  | 17 => ("BoxBearers", "draws", "LBoxBearers$Draws;", true)
  | _ => ("BoxBearers", "far", "[I", true)
def tyX9 : Nat → FieldType := fun k => match k with
  | 0 => .array .byte
  | 1 => .int
  | 2 => .int
  | 3 => .array .int
  | 4 => .object "BoxBearers$Land"
  | 5 => .object "BoxBearers$Land"
  | 6 => .object "BoxBearers$Reader"
  | 7 => .object "BoxBearers$State"
  | 8 => .object "BoxBearers$State"
  | 9 => .object "BoxBearers$Past"
  | 10 => .object "BoxBearers$Seen"
  | 11 => .boolean
  | 12 => .object "BoxBearers$State"
  | 13 => .object "BoxBearers$Past"
  | 14 => .object "BoxBearers$Seen"
  | 15 => .object "BoxBearers$Sharing"
  | 16 => .object "BoxBearers$Scale"
  | 17 => .object "BoxBearers$Draws"
  | _ => .array .int
theorem nmX9 : ∀ a, a < 19 → ∀ b, b < 19 → a ≠ b → (TX9 a).2.1 ≠ (TX9 b).2.1 := by decide +kernel
theorem tyX9_ok : ∀ k, k < 19 → parseFieldDescriptor (TX9 k).2.2.1 = some (tyX9 k) := by decide +kernel
def RX10 : String := "BoxBearersModel"
def TX10 : u_T := fun k => match k with
  | 0 => ("BoxBearersModel", "thrown", "I", false)
  | 1 => ("BoxBearersModel", "towns", "I", false)
  | 2 => ("BoxBearersModel", "roads", "I", false)
  | 3 => ("BoxBearersModel", "boxes", "I", false)
  | 4 => ("BoxBearersModel", "bearers", "I", false)
  | 5 => ("BoxBearersModel", "talkAt", "I", false)
  | 6 => ("BoxBearersModel", "fallsAt", "I", false)
  | 7 => ("BoxBearersModel", "stairs", "[I", true)
  | 8 => ("BoxBearersModel", "route", "[I", true)
  | 9 => ("BoxBearersModel", "routeLong", "[I", true)
  | 10 => ("BoxBearersModel", "strength", "[I", true)
  | 11 => ("BoxBearersModel", "height", "[I", true)
  | 12 => ("BoxBearersModel", "code", "[I", true)
  | 13 => ("BoxBearersModel", "tape", "[I", true)
  | 14 => ("BoxBearersModel", "taped", "I", false)
  | 15 => ("BoxBearersModel", "faultKind", "I", false)
  | 16 => ("BoxBearersModel", "faultPlace", "I", false)
  | 17 => ("BoxBearersModel", "refused", "[I", true)
  | 18 => ("BoxBearersModel", "long1", "I", false)
  | 19 => ("BoxBearersModel", "next0", "I", false)
  | 20 => ("BoxBearersModel", "sort", "I", false)
  | 21 => ("BoxBearersModel", "place", "I", false)
  | 22 => ("BoxBearersModel", "long0", "I", false)
  | 23 => ("BoxBearersModel", "value", "I", false)
  | 24 => ("BoxBearersModel", "sign", "I", false)
  | 25 => ("BoxBearersModel", "word", "J", false)
  | 26 => ("BoxBearersModel", "isAny", "Z", false)
  | 27 => ("BoxBearersModel", "newTowns", "I", false)
  | 28 => ("BoxBearersModel", "newRoads", "I", false)
  | 29 => ("BoxBearersModel", "newBoxes", "I", false)
  | 30 => ("BoxBearersModel", "newBearers", "I", false)
  | 31 => ("BoxBearersModel", "newTalkAt", "I", false)
  | 32 => ("BoxBearersModel", "newFallsAt", "I", false)
  | 33 => ("BoxBearersModel", "top", "I", false)
  | 34 => ("BoxBearersModel", "waiting", "I", false)
  | 35 => ("BoxBearersModel", "depth", "I", false)
  | 36 => ("BoxBearersModel", "newStairs", "[I", true)
  | 37 => ("BoxBearersModel", "newRoute", "[I", true)
  | 38 => ("BoxBearersModel", "newRouteLong", "[I", true)
  | 39 => ("BoxBearersModel", "newStrength", "[I", true)
  | 40 => ("BoxBearersModel", "newHeight", "[I", true)
  | 41 => ("BoxBearersModel", "newRow", "[I", true)
  | 42 => ("BoxBearersModel", "readCode", "[I", true)
  | 43 => ("BoxBearersModel", "waits", "[I", true)
  | 44 => ("BoxBearersModel", "tested", "[Z", true)
  | 45 => ("BoxBearersModel", "rows", "[I", true)
  | 46 => ("BoxBearersModel", "kept0", "[I", true)
  | 47 => ("BoxBearersModel", "acts", "I", false)
  | 48 => ("BoxBearersModel", "told", "[I", true)
  | 49 => ("BoxBearersModel", "pile", "[I", true)
  | 50 => ("BoxBearersModel", "fell", "I", false)
  | 51 => ("BoxBearersModel", "stunned", "I", false)
  | 52 => ("BoxBearersModel", "carried", "I", false)
  | 53 => ("BoxBearersModel", "fewest", "[I", true)
  | 54 => ("BoxBearersModel", "farFrom", "[I", true)
  | 55 => ("BoxBearersModel", "seenMany", "I", false)
  | 56 => ("BoxBearersModel", "seen", "[I", true)
  | 57 => ("BoxBearersModel", "soon", "[I", true)
  | 58 => ("BoxBearersModel", "soonAll", "[I", true)
  | 59 => ("BoxBearersModel", "its0", "I", false)
  | 60 => ("BoxBearersModel", "hasImage", "Z", false)
  | 61 => ("BoxBearersModel", "imageActs", "I", false)
  | 62 => ("BoxBearersModel", "imageSeen", "I", false)
  | 63 => ("BoxBearersModel", "imageRow", "[I", true)
  | 64 => ("BoxBearersModel", "imageKept", "[I", true)
  | _ => ("BoxBearersModel", "imageSees", "[I", true)
def tyX10 : Nat → FieldType := fun k => match k with
  | 0 => .int
  | 1 => .int
  | 2 => .int
  | 3 => .int
  | 4 => .int
  | 5 => .int
  | 6 => .int
  | 7 => .array .int
  | 8 => .array .int
  | 9 => .array .int
  | 10 => .array .int
  | 11 => .array .int
  | 12 => .array .int
  | 13 => .array .int
  | 14 => .int
  | 15 => .int
  | 16 => .int
  | 17 => .array .int
  | 18 => .int
  | 19 => .int
  | 20 => .int
  | 21 => .int
  | 22 => .int
  | 23 => .int
  | 24 => .int
  | 25 => .long
  | 26 => .boolean
  | 27 => .int
  | 28 => .int
  | 29 => .int
  | 30 => .int
  | 31 => .int
  | 32 => .int
  | 33 => .int
  | 34 => .int
  | 35 => .int
  | 36 => .array .int
  | 37 => .array .int
  | 38 => .array .int
  | 39 => .array .int
  | 40 => .array .int
  | 41 => .array .int
  | 42 => .array .int
  | 43 => .array .int
  | 44 => .array .boolean
  | 45 => .array .int
  | 46 => .array .int
  | 47 => .int
  | 48 => .array .int
  | 49 => .array .int
  | 50 => .int
  | 51 => .int
  | 52 => .int
  | 53 => .array .int
  | 54 => .array .int
  | 55 => .int
  | 56 => .array .int
  | 57 => .array .int
  | 58 => .array .int
  | 59 => .int
  | 60 => .boolean
  | 61 => .int
  | 62 => .int
  | 63 => .array .int
  | 64 => .array .int
  | _ => .array .int
theorem nmX10 : ∀ a, a < 66 → ∀ b, b < 66 → a ≠ b → (TX10 a).2.1 ≠ (TX10 b).2.1 := by decide +kernel
theorem tyX10_ok : ∀ k, k < 66 → parseFieldDescriptor (TX10 k).2.2.1 = some (tyX10 k) := by decide +kernel
def bb_T : List Cond := lw_tbl.filter goodWord
theorem bb_T_good : ∀ w ∈ bb_T, (w.onTables && w.keeps) = true ∨ ∃ ty, w = .arrayClass ty := fun w h => good_of_word (List.mem_filter.mp h).2
theorem bb_T_in : ∀ w ∈ bb_T, w ∈ lw_tbl := fun w h => (List.mem_filter.mp h).1
def bi (i : Nat) (w : Cond) : Bool := decide (lw_tbl[i]? = some w) && goodWord w
theorem bi_spec {i : Nat} {w : Cond} (h : bi i w = true) : w ∈ bb_T := by
  unfold bi at h
  simp only [Bool.and_eq_true, decide_eq_true_eq] at h
  exact List.mem_filter.mpr ⟨List.mem_of_getElem? h.1, h.2⟩
def bi_2 {α : Type} (l : List α) (is : List (List Nat)) (f : α → List Nat → Bool) : Bool := (l.length == is.length) && (l.zip is).all (fun q => f q.1 q.2)
theorem bi_2s {α : Type} {f : α → List Nat → Bool} : ∀ {l : List α} {is : List (List Nat)}, bi_2 l is f = true → ∀ x ∈ l, ∃ i, f x i = true
  | [], _, _, x, hx => by cases hx
  | a :: l, [], h, x, hx => by simp [bi_2] at h
  | a :: l, i :: is, h, x, hx => by
    simp only [bi_2, List.length_cons, List.zip_cons_cons, List.all_cons, Bool.and_eq_true, beq_iff_eq] at h
    rcases List.mem_cons.mp hx with rfl | hx
    · exact ⟨i, h.2.1⟩
    · exact bi_2s (l := l) (is := is) (by simp only [bi_2, Bool.and_eq_true, beq_iff_eq]; exact ⟨by omega, h.2.2⟩) x hx
theorem en_as_mem {α : Type} : ∀ {l : List (Nat × α)} {k : Nat} {v : α}, en_as l k = some v → (k, v) ∈ l
  | [], _, _, h => by cases h
  | (a, b) :: r, k, v, h => by
    unfold en_as at h
    split at h
    · next e => cases h; subst e; exact List.mem_cons_self
    · exact List.mem_cons_of_mem _ (en_as_mem h)
theorem en_get_mem : ∀ {l : List (Nat × Instr × Option (List Bool))} {pc : Nat} {i : Instr} {m : Option (List Bool)}, en_get l pc = some (i, m) → (pc, i, m) ∈ l
  | [], _, _, _, h => by cases h
  | (q, i0, m0) :: r, pc, i, m, h => by
    unfold en_get at h
    split at h
    · next e => cases h; subst e; exact List.mem_cons_self
    · exact List.mem_cons_of_mem _ (en_get_mem h)
theorem bb_getD {α : Type} {l : List (List α)} {c : Nat} {x : α} (h : x ∈ l.getD c []) : ∃ r, l[c]? = some r ∧ x ∈ r := by
  rw [List.getD_eq_getElem?_getD] at h
  cases hc : l[c]? with
  | none => rw [hc] at h; cases h
  | some r => rw [hc] at h; exact ⟨r, rfl, h⟩
def bb_cl : List vw_C := [(RX10, TX10, 66), (RX0, TX0, 1), (RX1, TX1, 15), (RX2, TX2, 2), (RX3, TX3, 11), (RX4, TX4, 4), (RX5, TX5, 9), (RX6, TX6, 4), (RX7, TX7, 3), (RX8, TX8, 9), (RX9, TX9, 19)]
def bb_tl : List (Nat → FieldType) := [tyX10, tyX0, tyX1, tyX2, tyX3, tyX4, tyX5, tyX6, tyX7, tyX8, tyX9]
def bb_ty : Nat → Nat → FieldType := fun ci k => bb_tl.getD ci (fun _ => .int) k
def bb_ow : List String := ["BoxBearersModel", "BoxBearers$Draws", "BoxBearers$Land", "BoxBearers$Past", "BoxBearers$Reader", "BoxBearers$Rule", "BoxBearers$Scale", "BoxBearers$Seen", "BoxBearers$Sharing", "BoxBearers$State", "BoxBearers", "", "BoxBearersLaw", "java/lang/Integer", "java/util/Arrays"]
def bb_own : Nat → String := fun mi => bb_ow.getD (bb_cc mi) ""
def bb_yN_L : List (List MethodName) := [[⟨"BoxBearersModel", "<init>", "()V"⟩, ⟨"BoxBearersModel", "thrown", "()I"⟩, ⟨"BoxBearersModel", "right", "(ZI)Z"⟩, ⟨"BoxBearersModel", "within", "(III)Z"⟩, ⟨"BoxBearersModel", "bounded", "(III)I"⟩, ⟨"BoxBearersModel", "lesser", "(II)I"⟩, ⟨"BoxBearersModel", "greater", "(II)I"⟩, ⟨"BoxBearersModel", "copies", "([I[I)V"⟩, ⟨"BoxBearersModel", "bits", "(I)I"⟩, ⟨"BoxBearersModel", "feed", "(IIIII)I"⟩, ⟨"BoxBearersModel", "lays", "(I)V"⟩, ⟨"BoxBearersModel", "byteAt", "(I)I"⟩, ⟨"BoxBearersModel", "isLetter", "(I)Z"⟩, ⟨"BoxBearersModel", "isDigit", "(I)Z"⟩, ⟨"BoxBearersModel", "goes", "()V"⟩, ⟨"BoxBearersModel", "spelled", "(IIIIII)J"⟩, ⟨"BoxBearersModel", "letters", "(I)J"⟩, ⟨"BoxBearersModel", "knownWord", "()I"⟩, ⟨"BoxBearersModel", "wrong", "(I)V"⟩, ⟨"BoxBearersModel", "isGood", "()Z"⟩, ⟨"BoxBearersModel", "isSign", "(I)Z"⟩, ⟨"BoxBearersModel", "need", "(Z)V"⟩, ⟨"BoxBearersModel", "number", "(II)I"⟩, ⟨"BoxBearersModel", "isOneOf", "(I)Z"⟩, ⟨"BoxBearersModel", "puts", "(I)V"⟩, ⟨"BoxBearersModel", "isOpen", "(I)Z"⟩, ⟨"BoxBearersModel", "strength", "(I)I"⟩, ⟨"BoxBearersModel", "drops", "(I)V"⟩, ⟨"BoxBearersModel", "waitsFor", "(I)V"⟩, ⟨"BoxBearersModel", "part", "()V"⟩, ⟨"BoxBearersModel", "deeper", "()V"⟩, ⟨"BoxBearersModel", "operand", "(Z)V"⟩, ⟨"BoxBearersModel", "isOpened", "()Z"⟩, ⟨"BoxBearersModel", "closes", "()V"⟩, ⟨"BoxBearersModel", "expression", "()V"⟩, ⟨"BoxBearersModel", "begins", "(ZZZ)Z"⟩, ⟨"BoxBearersModel", "townsNow", "()I"⟩, ⟨"BoxBearersModel", "readsRoad", "()V"⟩, ⟨"BoxBearersModel", "readsBox", "()V"⟩, ⟨"BoxBearersModel", "readsBearer", "()V"⟩, ⟨"BoxBearersModel", "line", "()V"⟩, ⟨"BoxBearersModel", "land", "(I)I"⟩, ⟨"BoxBearersModel", "fault", "()I"⟩, ⟨"BoxBearersModel", "keeps", "()V"⟩, ⟨"BoxBearersModel", "refuses", "(I)I"⟩, ⟨"BoxBearersModel", "undo", "()I"⟩, ⟨"BoxBearersModel", "tries", "()V"⟩, ⟨"BoxBearersModel", "works", "(III)I"⟩, ⟨"BoxBearersModel", "reckons", "(I)I"⟩, ⟨"BoxBearersModel", "mightOf", "(II)I"⟩, ⟨"BoxBearersModel", "mightBy", "(II)I"⟩, ⟨"BoxBearersModel", "handsAt", "(II)I"⟩, ⟨"BoxBearersModel", "canBear", "(III)Z"⟩, ⟨"BoxBearersModel", "isBorne", "(II)Z"⟩, ⟨"BoxBearersModel", "leanBy", "(I)I"⟩, ⟨"BoxBearersModel", "townOf", "(II)I"⟩, ⟨"BoxBearersModel", "asks", "(III)I"⟩, ⟨"BoxBearersModel", "weighs", "(III)V"⟩, ⟨"BoxBearersModel", "letsFall", "(II)V"⟩, ⟨"BoxBearersModel", "tires", "(II)V"⟩, ⟨"BoxBearersModel", "boxGoes", "(II)V"⟩, ⟨"BoxBearersModel", "dayGoes", "(I)V"⟩, ⟨"BoxBearersModel", "daysGo", "(I)V"⟩, ⟨"BoxBearersModel", "borneOnes", "(I)I"⟩, ⟨"BoxBearersModel", "allWeight", "(I)I"⟩, ⟨"BoxBearersModel", "pairs", "()I"⟩, ⟨"BoxBearersModel", "count", "(I)I"⟩, ⟨"BoxBearersModel", "isTown", "(I)Z"⟩, ⟨"BoxBearersModel", "isBox", "(I)Z"⟩, ⟨"BoxBearersModel", "isBearer", "(I)Z"⟩, ⟨"BoxBearersModel", "isWhat", "(II)Z"⟩, ⟨"BoxBearersModel", "isDays", "(III)Z"⟩, ⟨"BoxBearersModel", "neededFor", "(I)I"⟩, ⟨"BoxBearersModel", "box", "(II)I"⟩, ⟨"BoxBearersModel", "bearer", "(II)I"⟩, ⟨"BoxBearersModel", "days", "(I)I"⟩, ⟨"BoxBearersModel", "hand", "(II)I"⟩, ⟨"BoxBearersModel", "away", "(I)I"⟩, ⟨"BoxBearersModel", "change", "(II)Z"⟩, ⟨"BoxBearersModel", "talked", "(III)I"⟩, ⟨"BoxBearersModel", "slander", "(II)I"⟩, ⟨"BoxBearersModel", "praise", "(II)I"⟩, ⟨"BoxBearersModel", "goesTo", "(I)V"⟩, ⟨"BoxBearersModel", "then", "(III)I"⟩, ⟨"BoxBearersModel", "who", "(III)I"⟩, ⟨"BoxBearersModel", "fallen", "(I)I"⟩, ⟨"BoxBearersModel", "borneIn", "(IZ)I"⟩, ⟨"BoxBearersModel", "rests", "(I)I"⟩, ⟨"BoxBearersModel", "toWait", "(I)I"⟩, ⟨"BoxBearersModel", "meet", "(II)I"⟩, ⟨"BoxBearersModel", "later", "(II)I"⟩, ⟨"BoxBearersModel", "calls", "(II)I"⟩, ⟨"BoxBearersModel", "fewestOf", "(II)I"⟩, ⟨"BoxBearersModel", "toBear", "(I)I"⟩, ⟨"BoxBearersModel", "crew", "(I)I"⟩, ⟨"BoxBearersModel", "toSlander", "(I)I"⟩, ⟨"BoxBearersModel", "alone", "(I)I"⟩, ⟨"BoxBearersModel", "laysWays", "(II)V"⟩, ⟨"BoxBearersModel", "way", "(III)I"⟩, ⟨"BoxBearersModel", "nearest", "(I)I"⟩, ⟨"BoxBearersModel", "reach", "(I)I"⟩, ⟨"BoxBearersModel", "ahead", "(II)I"⟩, ⟨"BoxBearersModel", "onRoutes", "(I)I"⟩, ⟨"BoxBearersModel", "see", "(III)I"⟩, ⟨"BoxBearersModel", "forget", "()V"⟩, ⟨"BoxBearersModel", "isSeen", "()Z"⟩, ⟨"BoxBearersModel", "isGuess", "(I)Z"⟩, ⟨"BoxBearersModel", "weighed", "(I)I"⟩, ⟨"BoxBearersModel", "look", "(I)I"⟩, ⟨"BoxBearersModel", "rain", "(III)I"⟩, ⟨"BoxBearersModel", "gains", "(IIII)I"⟩, ⟨"BoxBearersModel", "game", "(III)I"⟩, ⟨"BoxBearersModel", "draw", "(I)I"⟩, ⟨"BoxBearersModel", "happens", "()V"⟩, ⟨"BoxBearersModel", "years", "(III)I"⟩, ⟨"BoxBearersModel", "idle", "(I)I"⟩, ⟨"BoxBearersModel", "weariest", "(I)I"⟩, ⟨"BoxBearersModel", "total", "(I)I"⟩, ⟨"BoxBearersModel", "image", "()V"⟩, ⟨"BoxBearersModel", "restore", "()Z"⟩], [⟨"BoxBearers$Draws", "<init>", "()V"⟩, ⟨"BoxBearers$Draws", "drawOf", "(I)I"⟩], [⟨"BoxBearers$Land", "<init>", "()V"⟩, ⟨"BoxBearers$Land", "empty", "()V"⟩, ⟨"BoxBearers$Land", "copyFrom", "(LBoxBearers$Land;)V"⟩, ⟨"BoxBearers$Land", "addRoad", "(III)V"⟩, ⟨"BoxBearers$Land", "hasRoad", "(II)Z"⟩, ⟨"BoxBearers$Land", "addStop", "(III)V"⟩, ⟨"BoxBearers$Land", "townAt", "(II)I"⟩, ⟨"BoxBearers$Land", "nextPlace", "(II)I"⟩, ⟨"BoxBearers$Land", "pairs", "()I"⟩, ⟨"BoxBearers$Land", "leanOf", "(I)I"⟩, ⟨"BoxBearers$Land", "measure", "(II[I)V"⟩, ⟨"BoxBearers$Land", "goAlong", "(IIII[I)V"⟩], [⟨"BoxBearers$Past", "<init>", "()V"⟩, ⟨"BoxBearers$Past", "keep", "(LBoxBearers$State;)V"⟩, ⟨"BoxBearers$Past", "takeBack", "(LBoxBearers$State;)Z"⟩, ⟨"BoxBearers$Past", "copyFrom", "(LBoxBearers$Past;)V"⟩], [⟨"BoxBearers$Reader", "<init>", "([BLBoxBearers$Land;)V"⟩, ⟨"BoxBearers$Reader", "readText", "(I)I"⟩, ⟨"BoxBearers$Reader", "refuse", "(I)V"⟩, ⟨"BoxBearers$Reader", "nextToken", "()V"⟩, ⟨"BoxBearers$Reader", "isLetter", "(I)Z"⟩, ⟨"BoxBearers$Reader", "isDigit", "(I)Z"⟩, ⟨"BoxBearers$Reader", "isWord", "(Ljava/lang/String;)Z"⟩, ⟨"BoxBearers$Reader", "isSign", "(C)Z"⟩, ⟨"BoxBearers$Reader", "readLine", "()V"⟩, ⟨"BoxBearers$Reader", "readSign", "(C)V"⟩, ⟨"BoxBearers$Reader", "readNumber", "(II)I"⟩, ⟨"BoxBearers$Reader", "readName", "(II)I"⟩, ⟨"BoxBearers$Reader", "readTowns", "()V"⟩, ⟨"BoxBearers$Reader", "readRoad", "()V"⟩, ⟨"BoxBearers$Reader", "readBox", "()V"⟩, ⟨"BoxBearers$Reader", "readBearer", "()V"⟩, ⟨"BoxBearers$Reader", "readRule", "(LBoxBearers$Rule;)V"⟩, ⟨"BoxBearers$Reader", "readExpr", "(LBoxBearers$Rule;I)V"⟩, ⟨"BoxBearers$Reader", "readAnd", "(LBoxBearers$Rule;I)V"⟩, ⟨"BoxBearers$Reader", "readNot", "(LBoxBearers$Rule;I)V"⟩, ⟨"BoxBearers$Reader", "readSum", "(LBoxBearers$Rule;I)V"⟩, ⟨"BoxBearers$Reader", "readProduct", "(LBoxBearers$Rule;I)V"⟩, ⟨"BoxBearers$Reader", "readPart", "(LBoxBearers$Rule;I)V"⟩, ⟨"BoxBearers$Reader", "valueStep", "()I"⟩], [⟨"BoxBearers$Rule", "<init>", "()V"⟩, ⟨"BoxBearers$Rule", "empty", "()V"⟩, ⟨"BoxBearers$Rule", "copyFrom", "(LBoxBearers$Rule;)V"⟩, ⟨"BoxBearers$Rule", "add", "(I)V"⟩, ⟨"BoxBearers$Rule", "workOut", "([I)I"⟩, ⟨"BoxBearers$Rule", "join", "(III)I"⟩], [⟨"BoxBearers$Scale", "<init>", "(LBoxBearers$State;LBoxBearers$State;LBoxBearers$Seen;)V"⟩, ⟨"BoxBearers$Scale", "unmetBits", "()I"⟩, ⟨"BoxBearers$Scale", "agreesWith", "(II)Z"⟩, ⟨"BoxBearers$Scale", "tryAll", "()V"⟩, ⟨"BoxBearers$Scale", "firstOne", "()I"⟩, ⟨"BoxBearers$Scale", "compareLater", "()V"⟩, ⟨"BoxBearers$Scale", "unlikeOf", "(I)I"⟩, ⟨"BoxBearers$Scale", "weightLater", "(II)I"⟩], [⟨"BoxBearers$Seen", "<init>", "()V"⟩, ⟨"BoxBearers$Seen", "add", "(III)V"⟩, ⟨"BoxBearers$Seen", "copyFrom", "(LBoxBearers$Seen;)V"⟩, ⟨"BoxBearers$Seen", "lastDayOf", "(I)I"⟩, ⟨"BoxBearers$Seen", "agrees", "(III)Z"⟩], [⟨"BoxBearers$Sharing", "<init>", "(LBoxBearers$State;)V"⟩, ⟨"BoxBearers$Sharing", "everyone", "()I"⟩, ⟨"BoxBearers$Sharing", "workOut", "()V"⟩, ⟨"BoxBearers$Sharing", "fewestOf", "(II)I"⟩, ⟨"BoxBearers$Sharing", "manyWith", "(III)I"⟩, ⟨"BoxBearers$Sharing", "fewestOfAll", "()I"⟩, ⟨"BoxBearers$Sharing", "rowAt", "(I)I"⟩, ⟨"BoxBearers$Sharing", "leastBits", "(II)I"⟩], [⟨"BoxBearers$State", "<init>", "(LBoxBearers$Land;)V"⟩, ⟨"BoxBearers$State", "begin", "()V"⟩, ⟨"BoxBearers$State", "copyFrom", "(LBoxBearers$State;)V"⟩, ⟨"BoxBearers$State", "writeTo", "([II)V"⟩, ⟨"BoxBearers$State", "readFrom", "([II)V"⟩, ⟨"BoxBearers$State", "townOf", "(I)I"⟩, ⟨"BoxBearers$State", "bitsUnder", "(I)I"⟩, ⟨"BoxBearers$State", "mightOf", "(I)I"⟩, ⟨"BoxBearers$State", "mightOfAll", "(I)I"⟩, ⟨"BoxBearers$State", "isBorneBy", "(II)Z"⟩, ⟨"BoxBearers$State", "isBorne", "(I)Z"⟩, ⟨"BoxBearers$State", "borneBits", "()I"⟩, ⟨"BoxBearers$State", "neededBits", "(I)I"⟩, ⟨"BoxBearers$State", "loadOf", "(I)I"⟩, ⟨"BoxBearers$State", "weightOfAll", "()I"⟩, ⟨"BoxBearers$State", "heaviest", "()I"⟩, ⟨"BoxBearers$State", "bitsIn", "(I)I"⟩, ⟨"BoxBearers$State", "bestCrew", "(I)I"⟩, ⟨"BoxBearers$State", "addWeight", "(II)V"⟩, ⟨"BoxBearers$State", "getWet", "()V"⟩, ⟨"BoxBearers$State", "passDays", "(I)I"⟩, ⟨"BoxBearers$State", "passDay", "()V"⟩, ⟨"BoxBearers$State", "passBox", "(I)I"⟩, ⟨"BoxBearers$State", "survey", "(I)V"⟩, ⟨"BoxBearers$State", "keepValue", "(II)V"⟩, ⟨"BoxBearers$State", "valueOf", "(I)I"⟩, ⟨"BoxBearers$State", "letFall", "(I)I"⟩, ⟨"BoxBearers$State", "carryOn", "(I)V"⟩, ⟨"BoxBearers$State", "tireOut", "(I)V"⟩], [⟨"BoxBearers", "<init>", "()V"⟩, ⟨"BoxBearers", "feed", "(IIIII)I"⟩, ⟨"BoxBearers", "land", "(I)I"⟩, ⟨"BoxBearers", "fault", "()I"⟩, ⟨"BoxBearers", "count", "(I)I"⟩, ⟨"BoxBearers", "box", "(II)I"⟩, ⟨"BoxBearers", "bearer", "(II)I"⟩, ⟨"BoxBearers", "days", "(I)I"⟩, ⟨"BoxBearers", "hand", "(II)I"⟩, ⟨"BoxBearers", "away", "(I)I"⟩, ⟨"BoxBearers", "change", "(II)Z"⟩, ⟨"BoxBearers", "slander", "(II)I"⟩, ⟨"BoxBearers", "praise", "(II)I"⟩, ⟨"BoxBearers", "undo", "()I"⟩, ⟨"BoxBearers", "then", "(III)I"⟩, ⟨"BoxBearers", "who", "(III)I"⟩, ⟨"BoxBearers", "fallen", "(I)I"⟩, ⟨"BoxBearers", "rests", "(I)I"⟩, ⟨"BoxBearers", "meet", "(II)I"⟩, ⟨"BoxBearers", "later", "(II)I"⟩, ⟨"BoxBearers", "calls", "(II)I"⟩, ⟨"BoxBearers", "toBear", "(I)I"⟩, ⟨"BoxBearers", "crew", "(I)I"⟩, ⟨"BoxBearers", "toSlander", "(I)I"⟩, ⟨"BoxBearers", "toWait", "(I)I"⟩, ⟨"BoxBearers", "way", "(III)I"⟩, ⟨"BoxBearers", "see", "(III)I"⟩, ⟨"BoxBearers", "forget", "()V"⟩, ⟨"BoxBearers", "weighed", "(I)I"⟩, ⟨"BoxBearers", "look", "(I)I"⟩, ⟨"BoxBearers", "rain", "(III)I"⟩, ⟨"BoxBearers", "game", "(III)I"⟩, ⟨"BoxBearers", "years", "(III)I"⟩, ⟨"BoxBearers", "idle", "(I)I"⟩, ⟨"BoxBearers", "nearest", "(I)I"⟩, ⟨"BoxBearers", "ahead", "(II)I"⟩, ⟨"BoxBearers", "alone", "(I)I"⟩, ⟨"BoxBearers", "weariest", "(I)I"⟩, ⟨"BoxBearers", "onRoutes", "(I)I"⟩, ⟨"BoxBearers", "reach", "(I)I"⟩, ⟨"BoxBearers", "total", "(I)I"⟩, ⟨"BoxBearers", "image", "()V"⟩, ⟨"BoxBearers", "restore", "()Z"⟩, ⟨"BoxBearers", "putBytes", "(I)V"⟩, ⟨"BoxBearers", "refuseAct", "(I)I"⟩, ⟨"BoxBearers", "checkBox", "(I)V"⟩, ⟨"BoxBearers", "checkBearer", "(I)V"⟩, ⟨"BoxBearers", "checkTown", "(I)V"⟩, ⟨"BoxBearers", "checkWhat", "(II)V"⟩, ⟨"BoxBearers", "checkRange", "(III)V"⟩, ⟨"BoxBearers", "hasBit", "(II)Z"⟩, ⟨"BoxBearers", "within", "(III)I"⟩, ⟨"BoxBearers", "lookAhead", "(I)I"⟩, ⟨"BoxBearers", "firstBorne", "(IZ)I"⟩, ⟨"BoxBearers", "chanceBorne", "(IIII)I"⟩, ⟨"BoxBearers", "coupleRests", "(IIII)Z"⟩, ⟨"BoxBearers", "gainOf", "(IIII)I"⟩, ⟨"BoxBearers", "drawAct", "()V"⟩], [], [⟨"BoxBearersLaw", "land", "(LBoxBearers;I[J)I"⟩, ⟨"BoxBearersLaw", "count", "(LBoxBearers;I[J)I"⟩, ⟨"BoxBearersLaw", "box", "(LBoxBearers;II[J)I"⟩, ⟨"BoxBearersLaw", "bearer", "(LBoxBearers;II[J)I"⟩, ⟨"BoxBearersLaw", "hand", "(LBoxBearers;II[J)I"⟩, ⟨"BoxBearersLaw", "away", "(LBoxBearers;I[J)I"⟩, ⟨"BoxBearersLaw", "change", "(LBoxBearers;II[J)I"⟩, ⟨"BoxBearersLaw", "slander", "(LBoxBearers;II[J)I"⟩, ⟨"BoxBearersLaw", "praise", "(LBoxBearers;II[J)I"⟩, ⟨"BoxBearersLaw", "then", "(LBoxBearers;III[J)I"⟩, ⟨"BoxBearersLaw", "who", "(LBoxBearers;III[J)I"⟩, ⟨"BoxBearersLaw", "fallen", "(LBoxBearers;I[J)I"⟩, ⟨"BoxBearersLaw", "rests", "(LBoxBearers;I[J)I"⟩, ⟨"BoxBearersLaw", "meet", "(LBoxBearers;II[J)I"⟩, ⟨"BoxBearersLaw", "later", "(LBoxBearers;II[J)I"⟩, ⟨"BoxBearersLaw", "calls", "(LBoxBearers;II[J)I"⟩, ⟨"BoxBearersLaw", "toBear", "(LBoxBearers;I[J)I"⟩, ⟨"BoxBearersLaw", "crew", "(LBoxBearers;I[J)I"⟩, ⟨"BoxBearersLaw", "toSlander", "(LBoxBearers;I[J)I"⟩, ⟨"BoxBearersLaw", "toWait", "(LBoxBearers;I[J)I"⟩, ⟨"BoxBearersLaw", "way", "(LBoxBearers;III[J)I"⟩, ⟨"BoxBearersLaw", "see", "(LBoxBearers;III[J)I"⟩, ⟨"BoxBearersLaw", "weighed", "(LBoxBearers;I[J)I"⟩, ⟨"BoxBearersLaw", "look", "(LBoxBearers;I[J)I"⟩, ⟨"BoxBearersLaw", "rain", "(LBoxBearers;III[J)I"⟩, ⟨"BoxBearersLaw", "game", "(LBoxBearers;III[J)I"⟩, ⟨"BoxBearersLaw", "years", "(LBoxBearers;III[J)I"⟩, ⟨"BoxBearersLaw", "idle", "(LBoxBearers;I[J)I"⟩, ⟨"BoxBearersLaw", "nearest", "(LBoxBearers;I[J)I"⟩, ⟨"BoxBearersLaw", "ahead", "(LBoxBearers;II[J)I"⟩, ⟨"BoxBearersLaw", "alone", "(LBoxBearers;I[J)I"⟩, ⟨"BoxBearersLaw", "weariest", "(LBoxBearers;I[J)I"⟩, ⟨"BoxBearersLaw", "onRoutes", "(LBoxBearers;I[J)I"⟩, ⟨"BoxBearersLaw", "reach", "(LBoxBearers;I[J)I"⟩, ⟨"BoxBearersLaw", "total", "(LBoxBearers;I[J)I"⟩, ⟨"BoxBearersLaw", "law", "([I)Z"⟩], [⟨"java/lang/Integer", "bitCount", "(I)I"⟩], [⟨"java/util/Arrays", "fill", "([II)V"⟩]]
def bb_yN : Nat → MethodName := fun mi => (bb_yN_L.getD (bb_cc mi) []).getD (mi % 1000) ⟨"", "", ""⟩
def bb_CD_L : List (List ByteArray) := [[prog_12_method_1_code, prog_12_method_2_code, prog_12_method_3_code, prog_12_method_4_code, prog_12_method_5_code, prog_12_method_6_code, prog_12_method_7_code, prog_12_method_8_code, prog_12_method_9_code, prog_12_method_10_code, prog_12_method_11_code, prog_12_method_12_code, prog_12_method_13_code, prog_12_method_14_code, prog_12_method_15_code, prog_12_method_16_code, prog_12_method_17_code, prog_12_method_18_code, prog_12_method_19_code, prog_12_method_20_code, prog_12_method_21_code, prog_12_method_22_code, prog_12_method_23_code, prog_12_method_24_code, prog_12_method_25_code, prog_12_method_26_code, prog_12_method_27_code, prog_12_method_28_code, prog_12_method_29_code, prog_12_method_30_code, prog_12_method_31_code, prog_12_method_32_code, prog_12_method_33_code, prog_12_method_34_code, prog_12_method_35_code, prog_12_method_36_code, prog_12_method_37_code, prog_12_method_38_code, prog_12_method_39_code, prog_12_method_40_code, prog_12_method_41_code, prog_12_method_42_code, prog_12_method_43_code, prog_12_method_44_code, prog_12_method_45_code, prog_12_method_46_code, prog_12_method_47_code, prog_12_method_48_code, prog_12_method_49_code, prog_12_method_50_code, prog_12_method_51_code, prog_12_method_52_code, prog_12_method_53_code, prog_12_method_54_code, prog_12_method_55_code, prog_12_method_56_code, prog_12_method_57_code, prog_12_method_58_code, prog_12_method_59_code, prog_12_method_60_code, prog_12_method_61_code, prog_12_method_62_code, prog_12_method_63_code, prog_12_method_64_code, prog_12_method_65_code, prog_12_method_66_code, prog_12_method_67_code, prog_12_method_68_code, prog_12_method_69_code, prog_12_method_70_code, prog_12_method_71_code, prog_12_method_72_code, prog_12_method_73_code, prog_12_method_74_code, prog_12_method_75_code, prog_12_method_76_code, prog_12_method_77_code, prog_12_method_78_code, prog_12_method_79_code, prog_12_method_80_code, prog_12_method_81_code, prog_12_method_82_code, prog_12_method_83_code, prog_12_method_84_code, prog_12_method_85_code, prog_12_method_86_code, prog_12_method_87_code, prog_12_method_88_code, prog_12_method_89_code, prog_12_method_90_code, prog_12_method_91_code, prog_12_method_92_code, prog_12_method_93_code, prog_12_method_94_code, prog_12_method_95_code, prog_12_method_96_code, prog_12_method_97_code, prog_12_method_98_code, prog_12_method_99_code, prog_12_method_100_code, prog_12_method_101_code, prog_12_method_102_code, prog_12_method_103_code, prog_12_method_104_code, prog_12_method_105_code, prog_12_method_106_code, prog_12_method_107_code, prog_12_method_108_code, prog_12_method_109_code, prog_12_method_110_code, prog_12_method_111_code, prog_12_method_112_code, prog_12_method_113_code, prog_12_method_114_code, prog_12_method_115_code, prog_12_method_116_code, prog_12_method_117_code, prog_12_method_118_code, prog_12_method_119_code, prog_12_method_120_code], [prog_2_method_1_code, prog_2_method_2_code], [prog_3_method_1_code, prog_3_method_2_code, prog_3_method_3_code, prog_3_method_4_code, prog_3_method_5_code, prog_3_method_6_code, prog_3_method_7_code, prog_3_method_8_code, prog_3_method_9_code, prog_3_method_10_code, prog_3_method_11_code, prog_3_method_12_code], [prog_4_method_1_code, prog_4_method_2_code, prog_4_method_3_code, prog_4_method_4_code], [prog_5_method_1_code, prog_5_method_2_code, prog_5_method_3_code, prog_5_method_4_code, prog_5_method_5_code, prog_5_method_6_code, prog_5_method_7_code, prog_5_method_8_code, prog_5_method_9_code, prog_5_method_10_code, prog_5_method_11_code, prog_5_method_12_code, prog_5_method_13_code, prog_5_method_14_code, prog_5_method_15_code, prog_5_method_16_code, prog_5_method_17_code, prog_5_method_18_code, prog_5_method_19_code, prog_5_method_20_code, prog_5_method_21_code, prog_5_method_22_code, prog_5_method_23_code, prog_5_method_24_code], [prog_6_method_1_code, prog_6_method_2_code, prog_6_method_3_code, prog_6_method_4_code, prog_6_method_5_code, prog_6_method_6_code], [prog_7_method_1_code, prog_7_method_2_code, prog_7_method_3_code, prog_7_method_4_code, prog_7_method_5_code, prog_7_method_6_code, prog_7_method_7_code, prog_7_method_8_code], [prog_8_method_1_code, prog_8_method_2_code, prog_8_method_3_code, prog_8_method_4_code, prog_8_method_5_code], [prog_9_method_1_code, prog_9_method_2_code, prog_9_method_3_code, prog_9_method_4_code, prog_9_method_5_code, prog_9_method_6_code, prog_9_method_7_code, prog_9_method_8_code], [prog_10_method_1_code, prog_10_method_2_code, prog_10_method_3_code, prog_10_method_4_code, prog_10_method_5_code, prog_10_method_6_code, prog_10_method_7_code, prog_10_method_8_code, prog_10_method_9_code, prog_10_method_10_code, prog_10_method_11_code, prog_10_method_12_code, prog_10_method_13_code, prog_10_method_14_code, prog_10_method_15_code, prog_10_method_16_code, prog_10_method_17_code, prog_10_method_18_code, prog_10_method_19_code, prog_10_method_20_code, prog_10_method_21_code, prog_10_method_22_code, prog_10_method_23_code, prog_10_method_24_code, prog_10_method_25_code, prog_10_method_26_code, prog_10_method_27_code, prog_10_method_28_code, prog_10_method_29_code], [prog_1_method_1_code, prog_1_method_2_code, prog_1_method_3_code, prog_1_method_4_code, prog_1_method_5_code, prog_1_method_6_code, prog_1_method_7_code, prog_1_method_8_code, prog_1_method_9_code, prog_1_method_10_code, prog_1_method_11_code, prog_1_method_12_code, prog_1_method_13_code, prog_1_method_14_code, prog_1_method_15_code, prog_1_method_16_code, prog_1_method_17_code, prog_1_method_18_code, prog_1_method_19_code, prog_1_method_20_code, prog_1_method_21_code, prog_1_method_22_code, prog_1_method_23_code, prog_1_method_24_code, prog_1_method_25_code, prog_1_method_26_code, prog_1_method_27_code, prog_1_method_28_code, prog_1_method_29_code, prog_1_method_30_code, prog_1_method_31_code, prog_1_method_32_code, prog_1_method_33_code, prog_1_method_34_code, prog_1_method_35_code, prog_1_method_36_code, prog_1_method_37_code, prog_1_method_38_code, prog_1_method_39_code, prog_1_method_40_code, prog_1_method_41_code, prog_1_method_42_code, prog_1_method_43_code, prog_1_method_44_code, prog_1_method_45_code, prog_1_method_46_code, prog_1_method_47_code, prog_1_method_48_code, prog_1_method_49_code, prog_1_method_50_code, prog_1_method_51_code, prog_1_method_52_code, prog_1_method_53_code, prog_1_method_54_code, prog_1_method_55_code, prog_1_method_56_code, prog_1_method_57_code, prog_1_method_58_code], [], [method_3_code, method_4_code, method_5_code, method_6_code, method_7_code, method_8_code, method_9_code, method_10_code, method_11_code, method_12_code, method_13_code, method_14_code, method_15_code, method_16_code, method_17_code, method_18_code, method_19_code, method_20_code, method_21_code, method_22_code, method_23_code, method_24_code, method_25_code, method_26_code, method_27_code, method_28_code, method_29_code, method_30_code, method_31_code, method_32_code, method_33_code, method_34_code, method_35_code, method_36_code, method_37_code, code], [prog_19_method_49_code], [prog_29_method_103_code]]
def bb_CD : Nat → ByteArray := fun mi => (bb_CD_L.getD (bb_cc mi) []).getD (mi % 1000) ByteArray.empty
def bb_fr_L : List (List Nat) := [[16, 16, 16, 16, 16, 16, 16, 16, 16, 25, 16, 16, 16, 16, 25, 16, 25, 34, 16, 16, 16, 34, 34, 25, 16, 16, 16, 25, 16, 43, 25, 52, 25, 34, 61, 34, 16, 43, 43, 43, 70, 79, 16, 16, 16, 16, 16, 16, 25, 25, 34, 16, 43, 52, 25, 16, 61, 25, 25, 25, 70, 79, 88, 61, 16, 16, 70, 25, 25, 25, 25, 25, 61, 70, 34, 88, 34, 34, 34, 34, 43, 43, 97, 106, 106, 88, 88, 97, 97, 88, 88, 88, 16, 52, 52, 43, 52, 25, 34, 34, 34, 34, 34, 34, 16, 88, 97, 106, 106, 88, 52, 61, 16, 34, 88, 34, 106, 106, 25, 25], [16, 16], [25, 25, 25, 16, 16, 16, 16, 16, 16, 25, 25, 16], [16, 25, 25, 16], [16, 385, 16, 25, 16, 16, 16, 16, 376, 34, 34, 34, 43, 43, 43, 43, 367, 358, 349, 340, 331, 322, 313, 25], [16, 16, 16, 16, 25, 16], [16, 52, 43, 61, 16, 61, 52, 43], [16, 16, 16, 16, 16], [16, 16, 43, 34, 25, 25, 43, 34], [16, 25, 16, 16, 16, 25, 16, 16, 25, 34, 43, 52, 43, 25, 16, 16, 34, 43, 25, 25, 52, 43, 34, 25, 16, 16, 25, 25, 16], [34, 25, 394, 16, 61, 52, 34, 61, 34, 34, 34, 34, 34, 34, 70, 70, 52, 61, 52, 70, 52, 52, 52, 34, 61, 34, 25, 16, 70, 70, 61, 61, 61, 25, 34, 25, 43, 70, 25, 34, 70, 25, 25, 16, 16, 16, 16, 16, 16, 16, 16, 16, 61, 52, 52, 52, 43, 34], [], [403, 70, 61, 43, 43, 43, 43, 43, 43, 79, 79, 61, 70, 61, 79, 61, 61, 61, 43, 70, 43, 34, 79, 79, 70, 70, 70, 34, 43, 34, 52, 79, 34, 43, 79, 2048], [16], [16], [], [], [], [], [], [], [0, 0, 0, 0, 0, 0, 0, 0, 0, 0, 0, 0, 0, 0, 0, 0, 0, 304, 295, 286, 277, 268, 259, 0], [0, 0, 0, 0, 0, 0, 0, 0, 0, 0, 0, 0, 0, 0, 0, 0, 0, 250, 241, 232, 223, 214, 205, 0], [0, 0, 0, 0, 0, 0, 0, 0, 0, 0, 0, 0, 0, 0, 0, 0, 0, 196, 187, 178, 169, 160, 151, 0], [0, 0, 0, 0, 0, 0, 0, 0, 0, 0, 0, 0, 0, 0, 0, 0, 0, 142, 133, 124, 115, 106, 97, 0], [0, 0, 0, 0, 0, 0, 0, 0, 0, 0, 0, 0, 0, 0, 0, 0, 0, 88, 79, 70, 61, 52, 43, 0], [0, 0, 0, 0, 0, 0, 0, 0, 0, 0, 0, 0, 0, 0, 0, 0, 0, 34, 34, 34, 34, 34, 43, 0]]
def bb_fr : Nat → Nat := fun mi => (bb_fr_L.getD (mi / 1000) []).getD (mi % 1000) 0
def bb_lo_L : List (List Nat) := [[400, 400, 400, 400, 400, 400, 400, 400, 400, 622, 400, 400, 400, 400, 621, 400, 627, 847, 400, 400, 400, 842, 842, 621, 400, 400, 400, 621, 400, 1068, 621, 1289, 620, 842, 1513, 842, 400, 1065, 1065, 1068, 1735, 1956, 400, 400, 400, 400, 400, 400, 622, 621, 843, 400, 1067, 1290, 621, 400, 1512, 622, 624, 621, 1736, 1959, 2181, 1512, 400, 400, 1735, 622, 622, 622, 622, 622, 1512, 1736, 844, 2181, 843, 843, 843, 845, 1068, 1068, 2403, 2624, 2624, 2181, 2181, 2404, 2404, 2181, 2181, 2181, 400, 1290, 1290, 1067, 1290, 621, 847, 847, 847, 843, 843, 843, 400, 2181, 2403, 2625, 2625, 2181, 1290, 1516, 400, 845, 2181, 844, 2624, 2624, 623, 623], [400, 400], [620, 620, 621, 400, 400, 400, 400, 400, 400, 621, 626, 400], [400, 622, 622, 400], [400, 9544, 400, 620, 400, 400, 400, 400, 9324, 840, 840, 840, 1063, 1063, 1063, 1063, 9103, 8880, 8657, 8433, 8209, 7985, 7763, 622], [400, 400, 400, 400, 622, 400], [400, 1296, 1072, 1518, 400, 1518, 1295, 1072], [400, 400, 400, 400, 400], [400, 400, 1069, 844, 620, 620, 1068, 844], [400, 623, 400, 400, 400, 622, 400, 400, 621, 844, 1066, 1287, 1066, 623, 400, 400, 843, 1066, 622, 621, 1294, 1072, 848, 622, 400, 400, 623, 622, 400], [840, 622, 9766, 400, 1509, 1290, 846, 1517, 843, 843, 843, 844, 844, 843, 1738, 1738, 1294, 1517, 1294, 1738, 1294, 1293, 1291, 844, 1517, 851, 623, 400, 1743, 1743, 1521, 1517, 1509, 621, 851, 622, 1066, 1738, 622, 851, 1738, 621, 621, 400, 400, 400, 400, 400, 400, 400, 400, 400, 1517, 1294, 1294, 1293, 1066, 844], [], [9988, 1730, 1512, 1068, 1066, 1065, 1067, 1066, 1066, 1961, 1961, 1516, 1738, 1517, 1961, 1518, 1514, 1512, 1066, 1738, 1074, 846, 1964, 1964, 1746, 1745, 1734, 846, 1076, 846, 1289, 1962, 846, 1074, 1959, 84000], [400], [400], [], [], [], [], [], [], [0, 0, 0, 0, 0, 0, 0, 0, 0, 0, 0, 0, 0, 0, 0, 0, 0, 7540, 7317, 7093, 6869, 6645, 6423, 0], [0, 0, 0, 0, 0, 0, 0, 0, 0, 0, 0, 0, 0, 0, 0, 0, 0, 6200, 5977, 5753, 5529, 5305, 5083, 0], [0, 0, 0, 0, 0, 0, 0, 0, 0, 0, 0, 0, 0, 0, 0, 0, 0, 4860, 4637, 4413, 4189, 3965, 3743, 0], [0, 0, 0, 0, 0, 0, 0, 0, 0, 0, 0, 0, 0, 0, 0, 0, 0, 3520, 3297, 3073, 2849, 2625, 2403, 0], [0, 0, 0, 0, 0, 0, 0, 0, 0, 0, 0, 0, 0, 0, 0, 0, 0, 2180, 1957, 1733, 1509, 1285, 1063, 0], [0, 0, 0, 0, 0, 0, 0, 0, 0, 0, 0, 0, 0, 0, 0, 0, 0, 840, 840, 840, 840, 840, 1063, 0]]
def bb_lo : Nat → Nat := fun mi => (bb_lo_L.getD (mi / 1000) []).getD (mi % 1000) 0
def bb_XN : Nat → String := fun e => if e = 1 then "java/util/NoSuchElementException" else "java/lang/IllegalArgumentException"
set_option maxRecDepth 100000 in
theorem bw_0 : bi_2 (u_ws RX10 TX10 66) [[1505], [1507], [1509], [1511], [1513], [1515], [1517], [1519], [1521], [1523], [1525], [1527], [1529], [1531], [1533], [1535], [1537], [1539], [1541], [1543], [1545], [1547], [1549], [1551], [1553], [1555], [1557], [1559], [1561], [1563], [1565], [1567], [1569], [1571], [1573], [1575], [1577], [1579], [1581], [1583], [1585], [1587], [1589], [1591], [1593], [1595], [1597], [1599], [1601], [1603], [1605], [1607], [1609], [1611], [1613], [1615], [1617], [1619], [1621], [1623], [1625], [1627], [1629], [1631], [1633], [1635]] (fun w i => bi (i.headD 0) w) = true := by decide +kernel
theorem bn_0 : ∀ k, k < 66 → (tyX10 k = .int ∨ tyX10 k = .long ∨ tyX10 k = .boolean) → (TX10 k).2.2.2 = false := by decide +kernel
set_option maxRecDepth 100000 in
theorem bw_1 : bi_2 (u_ws RX0 TX0 1) [[428]] (fun w i => bi (i.headD 0) w) = true := by decide +kernel
theorem bn_1 : ∀ k, k < 1 → (tyX0 k = .int ∨ tyX0 k = .long ∨ tyX0 k = .boolean) → (TX0 k).2.2.2 = false := by decide +kernel
set_option maxRecDepth 100000 in
theorem bw_2 : bi_2 (u_ws RX1 TX1 15) [[216], [218], [220], [222], [224], [226], [228], [230], [232], [234], [236], [238], [240], [242], [244]] (fun w i => bi (i.headD 0) w) = true := by decide +kernel
theorem bn_2 : ∀ k, k < 15 → (tyX1 k = .int ∨ tyX1 k = .long ∨ tyX1 k = .boolean) → (TX1 k).2.2.2 = false := by decide +kernel
set_option maxRecDepth 100000 in
theorem bw_3 : bi_2 (u_ws RX2 TX2 2) [[342], [344]] (fun w i => bi (i.headD 0) w) = true := by decide +kernel
theorem bn_3 : ∀ k, k < 2 → (tyX2 k = .int ∨ tyX2 k = .long ∨ tyX2 k = .boolean) → (TX2 k).2.2.2 = false := by decide +kernel
set_option maxRecDepth 100000 in
theorem bw_4 : bi_2 (u_ws RX3 TX3 11) [[265], [267], [269], [271], [273], [275], [277], [279], [281], [283], [285]] (fun w i => bi (i.headD 0) w) = true := by decide +kernel
theorem bn_4 : ∀ k, k < 11 → (tyX3 k = .int ∨ tyX3 k = .long ∨ tyX3 k = .boolean) → (TX3 k).2.2.2 = false := by decide +kernel
set_option maxRecDepth 100000 in
theorem bw_5 : bi_2 (u_ws RX4 TX4 4) [[162], [164], [166], [168]] (fun w i => bi (i.headD 0) w) = true := by decide +kernel
theorem bn_5 : ∀ k, k < 4 → (tyX4 k = .int ∨ tyX4 k = .long ∨ tyX4 k = .boolean) → (TX4 k).2.2.2 = false := by decide +kernel
set_option maxRecDepth 100000 in
theorem bw_6 : bi_2 (u_ws RX5 TX5 9) [[401], [403], [405], [407], [409], [411], [413], [415], [417]] (fun w i => bi (i.headD 0) w) = true := by decide +kernel
theorem bn_6 : ∀ k, k < 9 → (tyX5 k = .int ∨ tyX5 k = .long ∨ tyX5 k = .boolean) → (TX5 k).2.2.2 = false := by decide +kernel
set_option maxRecDepth 100000 in
theorem bw_7 : bi_2 (u_ws RX6 TX6 4) [[358], [360], [362], [364]] (fun w i => bi (i.headD 0) w) = true := by decide +kernel
theorem bn_7 : ∀ k, k < 4 → (tyX6 k = .int ∨ tyX6 k = .long ∨ tyX6 k = .boolean) → (TX6 k).2.2.2 = false := by decide +kernel
set_option maxRecDepth 100000 in
theorem bw_8 : bi_2 (u_ws RX7 TX7 3) [[376], [378], [380]] (fun w i => bi (i.headD 0) w) = true := by decide +kernel
theorem bn_8 : ∀ k, k < 3 → (tyX7 k = .int ∨ tyX7 k = .long ∨ tyX7 k = .boolean) → (TX7 k).2.2.2 = false := by decide +kernel
set_option maxRecDepth 100000 in
theorem bw_9 : bi_2 (u_ws RX8 TX8 9) [[314], [316], [318], [320], [322], [324], [326], [328], [330]] (fun w i => bi (i.headD 0) w) = true := by decide +kernel
theorem bn_9 : ∀ k, k < 9 → (tyX8 k = .int ∨ tyX8 k = .long ∨ tyX8 k = .boolean) → (TX8 k).2.2.2 = false := by decide +kernel
set_option maxRecDepth 100000 in
theorem bw_10 : bi_2 (u_ws RX9 TX9 19) [[450], [452], [454], [456], [458], [460], [462], [464], [466], [468], [470], [472], [474], [476], [478], [480], [482], [484], [486]] (fun w i => bi (i.headD 0) w) = true := by decide +kernel
theorem bn_10 : ∀ k, k < 19 → (tyX9 k = .int ∨ tyX9 k = .long ∨ tyX9 k = .boolean) → (TX9 k).2.2.2 = false := by decide +kernel
theorem bb_TF1 : ∀ (ci : Nat) (C : String) (T : u_T) (N : Nat), bb_cl[ci]? = some (C, T, N) → (∀ w ∈ u_ws C T N, w ∈ bb_T) ∧ (∀ k, k < N → parseFieldDescriptor (T k).2.2.1 = some (bb_ty ci k)) ∧ (∀ a, a < N → ∀ b, b < N → a ≠ b → (T a).2.1 ≠ (T b).2.1) ∧ ∀ k, k < N → (bb_ty ci k = .int ∨ bb_ty ci k = .long ∨ bb_ty ci k = .boolean) → (T k).2.2.2 = false
  | 0, _, _, _, h => by cases h; exact ⟨fun w hw => by obtain ⟨i, hi⟩ := bi_2s bw_0 w hw; exact bi_spec hi, tyX10_ok, nmX10, bn_0⟩
  | 1, _, _, _, h => by cases h; exact ⟨fun w hw => by obtain ⟨i, hi⟩ := bi_2s bw_1 w hw; exact bi_spec hi, tyX0_ok, nmX0, bn_1⟩
  | 2, _, _, _, h => by cases h; exact ⟨fun w hw => by obtain ⟨i, hi⟩ := bi_2s bw_2 w hw; exact bi_spec hi, tyX1_ok, nmX1, bn_2⟩
  | 3, _, _, _, h => by cases h; exact ⟨fun w hw => by obtain ⟨i, hi⟩ := bi_2s bw_3 w hw; exact bi_spec hi, tyX2_ok, nmX2, bn_3⟩
  | 4, _, _, _, h => by cases h; exact ⟨fun w hw => by obtain ⟨i, hi⟩ := bi_2s bw_4 w hw; exact bi_spec hi, tyX3_ok, nmX3, bn_4⟩
  | 5, _, _, _, h => by cases h; exact ⟨fun w hw => by obtain ⟨i, hi⟩ := bi_2s bw_5 w hw; exact bi_spec hi, tyX4_ok, nmX4, bn_5⟩
  | 6, _, _, _, h => by cases h; exact ⟨fun w hw => by obtain ⟨i, hi⟩ := bi_2s bw_6 w hw; exact bi_spec hi, tyX5_ok, nmX5, bn_6⟩
  | 7, _, _, _, h => by cases h; exact ⟨fun w hw => by obtain ⟨i, hi⟩ := bi_2s bw_7 w hw; exact bi_spec hi, tyX6_ok, nmX6, bn_7⟩
  | 8, _, _, _, h => by cases h; exact ⟨fun w hw => by obtain ⟨i, hi⟩ := bi_2s bw_8 w hw; exact bi_spec hi, tyX7_ok, nmX7, bn_8⟩
  | 9, _, _, _, h => by cases h; exact ⟨fun w hw => by obtain ⟨i, hi⟩ := bi_2s bw_9 w hw; exact bi_spec hi, tyX8_ok, nmX8, bn_9⟩
  | 10, _, _, _, h => by cases h; exact ⟨fun w hw => by obtain ⟨i, hi⟩ := bi_2s bw_10 w hw; exact bi_spec hi, tyX9_ok, nmX9, bn_10⟩
  | n + 11, _, _, _, h => by simp [bb_cl] at h
def bb_s2 (q : Nat × List Nat) : Bool := decide (20 ≤ q.1) || (match bb_cl[q.1]? with
  | some (_, _, N) => decide (q.2.length = N) && (List.range N).all (fun k => match q.2[k]? with
    | some 0 => decide (bb_ty q.1 k = .int)
    | some 1 => decide (bb_ty q.1 k = .long)
    | some 2 => decide (bb_ty q.1 k = .boolean)
    | _ => true)
  | none => false)
set_option maxRecDepth 100000 in
theorem bb_s2_ok : bk_sh.all bb_s2 = true := by decide +kernel
theorem bb_TF2 : ∀ (p c : Nat) (ds : List Nat), (en_SH bb_G)[p]? = some (c, ds) → c < 20 → ∃ (C : String) (T : u_T) (N : Nat), bb_cl[c]? = some (C, T, N) ∧ ds.length = N ∧ ∀ k d, ds[k]? = some d → (d = 0 → bb_ty c k = .int) ∧ (d = 1 → bb_ty c k = .long) ∧ (d = 2 → bb_ty c k = .boolean) := by
  intro p c ds h hc
  have h1 := List.all_eq_true.mp bb_s2_ok (c, ds) (List.mem_of_getElem? h)
  unfold bb_s2 at h1
  simp only [Bool.or_eq_true, decide_eq_true_eq] at h1
  rcases h1 with h1 | h1
  · omega
  · split at h1
    · next C T N hN =>
      simp only [Bool.and_eq_true, decide_eq_true_eq, List.all_eq_true, List.mem_range] at h1
      refine ⟨C, T, N, hN, h1.1, fun k d hd => ?_⟩
      have hk : k < N := by rw [← h1.1]; exact (List.getElem?_eq_some_iff.mp hd).1
      have h2 := h1.2 k hk
      rw [hd] at h2
      refine ⟨?_, ?_, ?_⟩ <;> rintro rfl <;> simpa using h2
    · cases h1
def bb_f1 (c : Nat) (e : Nat × (Nat × Nat)) (i : List Nat) : Bool := decide (e.2.1 < 20) && (match bb_cl[e.2.1]? with
  | some (_, T, N) => decide (e.2.2 < N) && bi (i.headD 0) (Cond.fieldLink (bb_ow.getD c "") e.1 (T e.2.2).1 (T e.2.2).2.1 (T e.2.2).2.2.1)
  | none => false)
set_option maxRecDepth 100000 in
theorem bfw_0 : bi_2 bf_0 [[1440], [1444], [1445], [1446], [1447], [1448], [1449], [1450], [1451], [1452], [1455], [1456], [1475], [1476], [1477], [1478], [1479], [1480], [1481], [1482], [1483], [1484], [1485], [1487], [1488], [1492], [1493], [1495], [1496], [1497], [1502], [1503], [1504], [1439], [1453], [1457], [1458], [1460], [1464], [1462], [1463], [1459], [1461], [1454], [1472], [1473], [1474], [1466], [1465], [1467], [1468], [1469], [1470], [1471], [1441], [1442], [1443], [1486], [1494], [1499], [1490], [1489], [1491], [1498], [1500], [1501]] (bb_f1 0) = true := by decide +kernel
set_option maxRecDepth 100000 in
theorem bfw_1 : bi_2 bf_1 [[426]] (bb_f1 1) = true := by decide +kernel
set_option maxRecDepth 100000 in
theorem bfw_2 : bi_2 bf_2 [[173], [176], [179], [180], [181], [182], [188], [191], [193], [194], [199], [203], [207], [210], [213]] (bb_f1 2) = true := by decide +kernel
set_option maxRecDepth 100000 in
theorem bfw_3 : bi_2 bf_3 [[339], [341]] (bb_f1 3) = true := by decide +kernel
set_option maxRecDepth 100000 in
theorem bfw_4 : bi_2 bf_4 [[255], [256], [257], [258], [259], [260], [261], [262], [263], [253], [254], [211], [214], [175], [178], [187], [190], [198], [202], [205], [209], [157]] (bb_f1 4) = true := by decide +kernel
set_option maxRecDepth 100000 in
theorem bfw_5 : bi_2 bf_5 [[156], [159], [160], [161]] (bb_f1 5) = true := by decide +kernel
set_option maxRecDepth 100000 in
theorem bfw_6 : bi_2 bf_6 [[392], [393], [394], [395], [397], [399], [389], [390], [391], [296], [183], [301], [298]] (bb_f1 6) = true := by decide +kernel
set_option maxRecDepth 100000 in
theorem bfw_7 : bi_2 bf_7 [[353], [355], [356], [357]] (bb_f1 7) = true := by decide +kernel
set_option maxRecDepth 100000 in
theorem bfw_8 : bi_2 bf_8 [[374], [375], [373], [295], [195], [184], [302]] (bb_f1 8) = true := by decide +kernel
set_option maxRecDepth 100000 in
theorem bfw_9 : bi_2 bf_9 [[297], [300], [304], [306], [308], [310], [312], [313], [294], [189], [208], [197], [201], [186], [212], [158], [215], [206]] (bb_f1 9) = true := by decide +kernel
set_option maxRecDepth 100000 in
theorem bfw_10 : bi_2 bf_10 [[431], [432], [433], [434], [435], [436], [437], [438], [439], [440], [441], [442], [443], [444], [445], [446], [447], [448], [449], [264], [340], [354], [174], [177], [185], [196], [299], [303], [192], [200], [204], [307], [309], [311], [396], [398], [400], [427], [305]] (bb_f1 10) = true := by decide +kernel
set_option maxRecDepth 100000 in
theorem bfw_12 : bi_2 bf_12 [] (bb_f1 12) = true := by decide +kernel
set_option maxRecDepth 100000 in
theorem bfw_13 : bi_2 bf_13 [] (bb_f1 13) = true := by decide +kernel
set_option maxRecDepth 100000 in
theorem bfw_14 : bi_2 bf_14 [] (bb_f1 14) = true := by decide +kernel
theorem bb_f1_ok : ∀ c r, bb_FL[c]? = some r → ∀ x ∈ r, ∃ i, bb_f1 c x i = true
  | 0, _, h => by cases h; exact bi_2s bfw_0
  | 1, _, h => by cases h; exact bi_2s bfw_1
  | 2, _, h => by cases h; exact bi_2s bfw_2
  | 3, _, h => by cases h; exact bi_2s bfw_3
  | 4, _, h => by cases h; exact bi_2s bfw_4
  | 5, _, h => by cases h; exact bi_2s bfw_5
  | 6, _, h => by cases h; exact bi_2s bfw_6
  | 7, _, h => by cases h; exact bi_2s bfw_7
  | 8, _, h => by cases h; exact bi_2s bfw_8
  | 9, _, h => by cases h; exact bi_2s bfw_9
  | 10, _, h => by cases h; exact bi_2s bfw_10
  | 11, _, h => by cases h; exact fun x hx => by cases hx
  | 12, _, h => by cases h; exact bi_2s bfw_12
  | 13, _, h => by cases h; exact bi_2s bfw_13
  | 14, _, h => by cases h; exact bi_2s bfw_14
  | n + 15, _, h => by simp [bb_FL] at h
theorem bb_TF3 : ∀ mi idx ci k, en_FD bb_G mi idx = some (ci, k) → ci < 20 ∧ ∀ (C : String) (T : u_T) (N : Nat), bb_cl[ci]? = some (C, T, N) → k < N ∧ Cond.fieldLink (bb_own mi) idx (T k).1 (T k).2.1 (T k).2.2.1 ∈ bb_T := by
  intro mi idx ci k h
  obtain ⟨r, h1, h2⟩ := bb_getD (en_as_mem (show en_as (bb_FL.getD (bb_cc mi) []) idx = some (ci, k) from h))
  obtain ⟨i, h3⟩ := bb_f1_ok _ _ h1 _ h2
  unfold bb_f1 at h3
  simp only [Bool.and_eq_true, decide_eq_true_eq] at h3
  refine ⟨h3.1, fun C T N hN => ?_⟩
  have h4 := h3.2
  rw [hN] at h4
  simp only [Bool.and_eq_true, decide_eq_true_eq] at h4
  exact ⟨h4.1, bi_spec h4.2⟩
def bb_k1 (e : Nat × (Int32 ⊕ Nat)) (i : List Nat) : Bool := match e.2 with
  | .inl v => bi (i.headD 0) (Cond.constant (bb_ow.getD (e.1 / 100000) "") (e.1 % 100000) v)
  | .inr _ => true
def bb_k2 (e : Nat × Int64) (i : List Nat) : Bool := bi (i.headD 0) (Cond.constantLong (bb_ow.getD (e.1 / 100000) "") (e.1 % 100000) e.2)
theorem bb_k1_ok : bi_2 bk_c [[1996], [2085], [1373], [0], [0], [0], [0], [0], [0], [0], [0], [0], [0], [0], [0], [0], [0], [0], [0], [0], [0], [1058], [1059], [1060]] bb_k1 = true := by decide +kernel
theorem bb_k2_ok : bi_2 bk_l [[1691]] bb_k2 = true := by decide +kernel
theorem bb_key {a b : Nat} (h : b < 100000) : (100000 * a + b) / 100000 = a ∧ (100000 * a + b) % 100000 = b := by omega
theorem bb_TF4 : ∀ mi idx v, en_KC bb_G mi idx = some (.inl v) → Cond.constant (bb_own mi) idx v ∈ bb_T := by
  intro mi idx v h
  have h0 : (if idx < 100000 then en_as bk_c (100000 * bb_cc mi + idx) else none) = some (.inl v) := h
  split at h0
  · next hi =>
    obtain ⟨i, h1⟩ := bi_2s bb_k1_ok _ (en_as_mem h0)
    unfold bb_k1 at h1
    simp only [(bb_key hi).1, (bb_key hi).2] at h1
    exact bi_spec h1
  · cases h0
theorem bb_TF5 : ∀ mi idx v, en_KL bb_G mi idx = some v → Cond.constantLong (bb_own mi) idx v ∈ bb_T := by
  intro mi idx v h
  have h0 : (if idx < 100000 then en_as bk_l (100000 * bb_cc mi + idx) else none) = some v := h
  split at h0
  · next hi =>
    obtain ⟨i, h1⟩ := bi_2s bb_k2_ok _ (en_as_mem h0)
    unfold bb_k2 at h1
    simp only [(bb_key hi).1, (bb_key hi).2] at h1
    exact bi_spec h1
  · cases h0
theorem bb_TF : en_TF bb_G bb_T bb_cl bb_ty bb_own := ⟨bb_TF1, bb_TF2, bb_TF3, bb_TF4, bb_TF5⟩
def bb_pc (cc : ByteArray) (n : Nat) (l : List (Nat × Instr × Option (List Bool))) : Bool := l.all (fun q => en_chk cc q.1 q.2.1 && (match q.2.2 with
  | none => true
  | some bs => bs.length == n))
def bb_mv (y : Nat) (i : List Nat) : Bool := bi (i.getD 0 0) (en_wd bb_G bb_ML bb_yN bb_CD bb_hh y) && plainName (bb_yN y).cls && decide ((bb_yN y).cls = bb_own y) && bi (i.getD 1 0) (Cond.initialized (bb_own y)) && decide ((bb_yN y).cls ≠ "java/lang/invoke/MethodHandle") && decide ((bb_yN y).cls ≠ "java/lang/invoke/VarHandle") && decide (8 ≤ bb_fr y) && decide (200 ≤ bb_lo y) && bb_pc (bb_CD y) (bb_ML y) (bb_P y)
theorem bb_mv_ok {y : Nat} {i : List Nat} (h : bb_mv y i = true) : en_MV bb_G bb_P bb_ML bb_T bb_own bb_yN bb_CD bb_hh bb_fr bb_lo y := by
  unfold bb_mv at h
  simp only [Bool.and_eq_true, decide_eq_true_eq] at h
  obtain ⟨⟨⟨⟨⟨⟨⟨⟨h1, h2⟩, h3⟩, h4⟩, h5⟩, h6⟩, h7⟩, h8⟩, h9⟩ := h
  refine ⟨bi_spec h1, h2, h3, bi_spec h4, ⟨h5, h6⟩, h7, h8, fun pc i m hg => ?_⟩
  have h10 := List.all_eq_true.mp h9 _ (en_get_mem hg)
  simp only [Bool.and_eq_true] at h10
  refine ⟨h10.1, fun bs hb => ?_⟩
  subst hb
  simpa using h10.2
def bv_0 : List Nat := [1, 2, 3, 4, 5, 6, 7, 8, 9, 10, 11, 12, 13, 14, 15]
set_option maxRecDepth 100000 in
theorem bvw_0 : bi_2 bv_0 [[1642, 121], [1658, 121], [1792, 121], [1899, 121], [1850, 121], [1819, 121], [1777, 121], [1865, 121], [1646, 121], [1650, 121], [1666, 121], [1669, 121], [1672, 121], [1662, 121], [1690, 121]] bb_mv = true := by decide +kernel
def bv_1 : List Nat := [16, 17, 18, 19, 20, 21, 22, 23, 24, 25, 26, 27, 28, 29, 30]
set_option maxRecDepth 100000 in
theorem bvw_1 : bi_2 bv_1 [[1687, 121], [1684, 121], [1699, 121], [1676, 121], [1735, 121], [1773, 121], [1703, 121], [1715, 121], [1751, 121], [1758, 121], [1761, 121], [1755, 121], [1743, 121], [1747, 121], [1731, 121]] bb_mv = true := by decide +kernel
def bv_2 : List Nat := [31, 32, 33, 34, 35, 36, 37, 38]
set_option maxRecDepth 100000 in
theorem bvw_2 : bi_2 bv_2 [[1739, 121], [1765, 121], [1769, 121], [1727, 121], [1695, 121], [1711, 121], [1707, 121], [1719, 121]] bb_mv = true := by decide +kernel
def bv_3 : List Nat := [39, 40, 41, 42, 43, 44, 45]
set_option maxRecDepth 100000 in
theorem bvw_3 : bi_2 bv_3 [[1723, 121], [1680, 121], [1654, 121], [1781, 121], [1877, 121], [1873, 121], [1785, 121]] bb_mv = true := by decide +kernel
def bv_4 : List Nat := [46, 47, 48, 49, 50, 51, 52, 53, 54, 55, 56, 57, 58]
set_option maxRecDepth 100000 in
theorem bvw_4 : bi_2 bv_4 [[1951, 121], [1896, 121], [1893, 121], [1816, 121], [1812, 121], [1804, 121], [1808, 121], [1800, 121], [1847, 121], [1843, 121], [1889, 121], [1903, 121], [1907, 121]] bb_mv = true := by decide +kernel
def bv_5 : List Nat := [59, 60, 61, 62, 63, 64, 65, 66, 67, 68, 69, 70, 71, 72]
set_option maxRecDepth 100000 in
theorem bvw_5 : bi_2 bv_5 [[1911, 121], [1885, 121], [1881, 121], [1955, 121], [1796, 121], [1823, 121], [1827, 121], [1789, 121], [1991, 121], [1835, 121], [1862, 121], [1839, 121], [1943, 121], [1854, 121]] bb_mv = true := by decide +kernel
def bv_6 : List Nat := [73, 74, 75, 76, 77, 78, 79, 80, 81, 82, 83, 84, 85, 86]
set_option maxRecDepth 100000 in
theorem bvw_6 : bi_2 bv_6 [[1831, 121], [1858, 121], [1869, 121], [1915, 121], [1919, 121], [1923, 121], [1931, 121], [1927, 121], [1935, 121], [1947, 121], [1939, 121], [1959, 121], [1963, 121], [1971, 121]] bb_mv = true := by decide +kernel
def bv_7 : List Nat := [87, 88, 89, 90, 91, 92, 93, 94, 95, 96]
set_option maxRecDepth 100000 in
theorem bvw_7 : bi_2 bv_7 [[1967, 121], [1975, 121], [1979, 121], [1983, 121], [1987, 121], [2000, 121], [1995, 121], [2004, 121], [2008, 121], [2012, 121]] bb_mv = true := by decide +kernel
def bv_8 : List Nat := [97, 98, 99, 100, 101, 102, 103, 104, 105, 106]
set_option maxRecDepth 100000 in
theorem bvw_8 : bi_2 bv_8 [[2020, 121], [2016, 121], [2024, 121], [2028, 121], [2032, 121], [2036, 121], [2040, 121], [2044, 121], [2052, 121], [2056, 121]] bb_mv = true := by decide +kernel
def bv_9 : List Nat := [107, 108, 109, 110, 111, 112]
set_option maxRecDepth 100000 in
theorem bvw_9 : bi_2 bv_9 [[2048, 121], [2060, 121], [2064, 121], [2072, 121], [2068, 121], [2084, 121]] bb_mv = true := by decide +kernel
def bv_10 : List Nat := [113, 114, 115, 116, 117, 118, 119, 1001, 2001, 2002, 2003]
set_option maxRecDepth 100000 in
theorem bvw_10 : bi_2 bv_10 [[2080, 121], [2076, 121], [2089, 121], [2093, 121], [2097, 121], [2101, 121], [2105, 121], [1372, 120], [715, 112], [946, 112], [871, 112]] bb_mv = true := by decide +kernel
def bv_11 : List Nat := [2004, 2005, 2006, 2007, 2008, 2009, 2010, 2011, 3001, 3002, 3003, 4001, 4002]
set_option maxRecDepth 100000 in
theorem bvw_11 : bi_2 bv_11 [[867, 112], [880, 112], [554, 112], [591, 112], [992, 112], [1028, 112], [1254, 112], [1259, 112], [512, 116], [603, 116], [623, 116], [710, 114], [850, 114]] bb_mv = true := by decide +kernel
def bv_12 : List Nat := [4003, 4004, 4005, 4006, 4007, 4008, 4009, 4010, 4011, 4012, 4013]
set_option maxRecDepth 100000 in
theorem bvw_12 : bi_2 bv_12 [[723, 114], [726, 114], [729, 114], [821, 114], [899, 114], [816, 114], [924, 114], [854, 114], [863, 114], [846, 114], [859, 114]] bb_mv = true := by decide +kernel
def bv_13 : List Nat := [4014, 4015, 4016, 4017, 4018, 4019, 4020, 4021, 4022, 4023, 5001, 5002]
set_option maxRecDepth 100000 in
theorem bvw_13 : bi_2 bv_13 [[876, 114], [885, 114], [891, 114], [895, 114], [903, 114], [907, 114], [912, 114], [916, 114], [920, 114], [932, 114], [719, 113], [951, 113]] bb_mv = true := by decide +kernel
def bv_14 : List Nat := [5003, 5004, 5005, 6001, 6002, 6003, 6004, 6005, 6006]
set_option maxRecDepth 100000 in
theorem bvw_14 : bi_2 bv_14 [[928, 113], [562, 113], [565, 113], [1281, 119], [1285, 119], [1300, 119], [1305, 119], [1316, 119], [1320, 119]] bb_mv = true := by decide +kernel
def bv_15 : List Nat := [6007, 7001, 7002, 7003, 7004, 8001, 8002, 8003, 8004, 8005, 8006, 8007, 9001, 9002, 9003]
set_option maxRecDepth 100000 in
theorem bvw_15 : bi_2 bv_15 [[1325, 119], [1270, 117], [627, 117], [1289, 117], [1295, 117], [1194, 118], [1190, 118], [1199, 118], [1204, 118], [1208, 118], [1212, 118], [1216, 118], [956, 115], [619, 115], [519, 115]] bb_mv = true := by decide +kernel
def bv_16 : List Nat := [9004, 9005, 9006, 9007, 9008, 9009, 9010, 9011, 9012, 9013, 9014, 9015, 9016, 9017, 9018, 9019, 9020, 9021]
set_option maxRecDepth 100000 in
theorem bvw_16 : bi_2 bv_16 [[607, 115], [1024, 115], [580, 115], [540, 115], [983, 115], [979, 115], [975, 115], [971, 115], [1036, 115], [1054, 115], [988, 115], [1162, 115], [1178, 115], [1227, 115], [572, 115], [1340, 115], [524, 115], [528, 115]] bb_mv = true := by decide +kernel
def bv_17 : List Nat := [9022, 9023, 9024, 9025, 9026, 9027, 9028, 10001, 10002, 10003, 10004]
set_option maxRecDepth 100000 in
theorem bvw_17 : bi_2 bv_17 [[532, 115], [536, 115], [550, 115], [558, 115], [576, 115], [587, 115], [595, 115], [492, 111], [640, 111], [500, 111], [967, 111]] bb_mv = true := by decide +kernel
def bv_18 : List Nat := [10005, 10006, 10007, 10008, 10009, 10010, 10011, 10012, 10013, 10014, 10015, 10016, 10017, 10018, 10019]
set_option maxRecDepth 100000 in
theorem bvw_18 : bi_2 bv_18 [[1015, 111], [1044, 111], [504, 111], [1068, 111], [1075, 111], [1082, 111], [1089, 111], [1097, 111], [599, 111], [1104, 111], [1124, 111], [1131, 111], [1140, 111], [1151, 111], [1158, 111]] bb_mv = true := by decide +kernel
def bv_19 : List Nat := [10020, 10021, 10022, 10023, 10024, 10025, 10026, 10027, 10028, 10029, 10030, 10031, 10032, 10033, 10034]
set_option maxRecDepth 100000 in
theorem bvw_19 : bi_2 bv_19 [[1169, 111], [1186, 111], [1223, 111], [1235, 111], [1243, 111], [1250, 111], [1266, 111], [611, 111], [1277, 111], [1312, 111], [1332, 111], [1347, 111], [1364, 111], [1381, 111], [1388, 111]] bb_mv = true := by decide +kernel
def bv_20 : List Nat := [10035, 10036, 10037, 10038, 10039, 10040, 10041, 10042, 10043, 10044, 10045, 10046, 10047, 10048, 10049, 10050, 10051, 10052, 10053, 10054, 10055]
set_option maxRecDepth 100000 in
theorem bvw_20 : bi_2 bv_20 [[1395, 111], [1404, 111], [1411, 111], [1418, 111], [1425, 111], [1432, 111], [615, 111], [632, 111], [496, 111], [508, 111], [1019, 111], [1048, 111], [1173, 111], [1107, 111], [1111, 111], [583, 111], [568, 111], [1116, 111], [1144, 111], [1336, 111], [1352, 111]] bb_mv = true := by decide +kernel
def bv_21 : List Nat := [10056, 10057, 12000, 12001, 12002, 12003, 12004, 12005, 12006, 12007, 12008, 12009, 12010, 12011, 12012, 12013, 12014, 12015, 12016, 12017, 12018, 12019, 12020, 12021, 12022, 12023, 12024, 12025]
set_option maxRecDepth 100000 in
theorem bvw_21 : bi_2 bv_21 [[1356, 111], [1368, 111], [635, 110], [962, 110], [1011, 110], [1040, 110], [1064, 110], [1071, 110], [1078, 110], [1085, 110], [1093, 110], [1100, 110], [1120, 110], [1127, 110], [1136, 110], [1147, 110], [1154, 110], [1165, 110], [1182, 110], [1219, 110], [1231, 110], [1239, 110], [1246, 110], [1262, 110], [1273, 110], [1308, 110], [1328, 110], [1343, 110]] bb_mv = true := by decide +kernel
def bv_22 : List Nat := [12026, 12027, 12028, 12029, 12030, 12031, 12032, 12033, 12034, 13000, 14000, 21017, 21018, 21019, 21020, 21021, 21022, 22017]
set_option maxRecDepth 100000 in
theorem bvw_22 : bi_2 bv_22 [[1360, 110], [1377, 110], [1384, 110], [1391, 110], [1400, 110], [1407, 110], [1414, 110], [1421, 110], [1428, 110], [1057, 135], [959, 133], [895, 114], [903, 114], [907, 114], [912, 114], [916, 114], [920, 114], [895, 114]] bb_mv = true := by decide +kernel
def bv_23 : List Nat := [22018, 22019, 22020, 22021, 22022, 23017, 23018, 23019, 23020, 23021, 23022]
set_option maxRecDepth 100000 in
theorem bvw_23 : bi_2 bv_23 [[903, 114], [907, 114], [912, 114], [916, 114], [920, 114], [895, 114], [903, 114], [907, 114], [912, 114], [916, 114], [920, 114]] bb_mv = true := by decide +kernel
def bv_24 : List Nat := [24017, 24018, 24019, 24020, 24021, 24022, 25017, 25018, 25019, 25020, 25021]
set_option maxRecDepth 100000 in
theorem bvw_24 : bi_2 bv_24 [[895, 114], [903, 114], [907, 114], [912, 114], [916, 114], [920, 114], [895, 114], [903, 114], [907, 114], [912, 114], [916, 114]] bb_mv = true := by decide +kernel
def bv_25 : List Nat := [25022, 26017, 26018, 26019, 26020, 26021, 26022]
set_option maxRecDepth 100000 in
theorem bvw_25 : bi_2 bv_25 [[920, 114], [895, 114], [903, 114], [907, 114], [912, 114], [916, 114], [920, 114]] bb_mv = true := by decide +kernel
def bb_vl : List Nat := bv_0 ++ (bv_1 ++ (bv_2 ++ (bv_3 ++ (bv_4 ++ (bv_5 ++ (bv_6 ++ (bv_7 ++ (bv_8 ++ (bv_9 ++ (bv_10 ++ (bv_11 ++ (bv_12 ++ (bv_13 ++ (bv_14 ++ (bv_15 ++ (bv_16 ++ (bv_17 ++ (bv_18 ++ (bv_19 ++ (bv_20 ++ (bv_21 ++ (bv_22 ++ (bv_23 ++ (bv_24 ++ (bv_25)))))))))))))))))))))))))
theorem bb_MV : ∀ y ∈ bb_vl, en_MV bb_G bb_P bb_ML bb_T bb_own bb_yN bb_CD bb_hh bb_fr bb_lo y := by
  intro y hy
  unfold bb_vl at hy
  simp only [List.mem_append] at hy
  rcases hy with hy | hy | hy | hy | hy | hy | hy | hy | hy | hy | hy | hy | hy | hy | hy | hy | hy | hy | hy | hy | hy | hy | hy | hy | hy | hy
  · obtain ⟨i, hi⟩ := bi_2s bvw_0 y hy; exact bb_mv_ok hi
  · obtain ⟨i, hi⟩ := bi_2s bvw_1 y hy; exact bb_mv_ok hi
  · obtain ⟨i, hi⟩ := bi_2s bvw_2 y hy; exact bb_mv_ok hi
  · obtain ⟨i, hi⟩ := bi_2s bvw_3 y hy; exact bb_mv_ok hi
  · obtain ⟨i, hi⟩ := bi_2s bvw_4 y hy; exact bb_mv_ok hi
  · obtain ⟨i, hi⟩ := bi_2s bvw_5 y hy; exact bb_mv_ok hi
  · obtain ⟨i, hi⟩ := bi_2s bvw_6 y hy; exact bb_mv_ok hi
  · obtain ⟨i, hi⟩ := bi_2s bvw_7 y hy; exact bb_mv_ok hi
  · obtain ⟨i, hi⟩ := bi_2s bvw_8 y hy; exact bb_mv_ok hi
  · obtain ⟨i, hi⟩ := bi_2s bvw_9 y hy; exact bb_mv_ok hi
  · obtain ⟨i, hi⟩ := bi_2s bvw_10 y hy; exact bb_mv_ok hi
  · obtain ⟨i, hi⟩ := bi_2s bvw_11 y hy; exact bb_mv_ok hi
  · obtain ⟨i, hi⟩ := bi_2s bvw_12 y hy; exact bb_mv_ok hi
  · obtain ⟨i, hi⟩ := bi_2s bvw_13 y hy; exact bb_mv_ok hi
  · obtain ⟨i, hi⟩ := bi_2s bvw_14 y hy; exact bb_mv_ok hi
  · obtain ⟨i, hi⟩ := bi_2s bvw_15 y hy; exact bb_mv_ok hi
  · obtain ⟨i, hi⟩ := bi_2s bvw_16 y hy; exact bb_mv_ok hi
  · obtain ⟨i, hi⟩ := bi_2s bvw_17 y hy; exact bb_mv_ok hi
  · obtain ⟨i, hi⟩ := bi_2s bvw_18 y hy; exact bb_mv_ok hi
  · obtain ⟨i, hi⟩ := bi_2s bvw_19 y hy; exact bb_mv_ok hi
  · obtain ⟨i, hi⟩ := bi_2s bvw_20 y hy; exact bb_mv_ok hi
  · obtain ⟨i, hi⟩ := bi_2s bvw_21 y hy; exact bb_mv_ok hi
  · obtain ⟨i, hi⟩ := bi_2s bvw_22 y hy; exact bb_mv_ok hi
  · obtain ⟨i, hi⟩ := bi_2s bvw_23 y hy; exact bb_mv_ok hi
  · obtain ⟨i, hi⟩ := bi_2s bvw_24 y hy; exact bb_mv_ok hi
  · obtain ⟨i, hi⟩ := bi_2s bvw_25 y hy; exact bb_mv_ok hi
def bb_nw : List Cond := [Cond.methodLinkNest "BoxBearers" 26 ⟨"BoxBearers$Land", "<init>", "()V"⟩ "BoxBearers", Cond.methodLinkNest "BoxBearers$Land" 54 ⟨"BoxBearers$Rule", "<init>", "()V"⟩ "BoxBearers", Cond.methodLinkNest "BoxBearers" 57 ⟨"BoxBearers$Past", "<init>", "()V"⟩ "BoxBearers", Cond.methodLinkNest "BoxBearers" 64 ⟨"BoxBearers$Seen", "<init>", "()V"⟩ "BoxBearers", Cond.methodLinkNest "BoxBearers" 102 ⟨"BoxBearers$Draws", "<init>", "()V"⟩ "BoxBearers", Cond.methodLinkNest "BoxBearers$State" 111 ⟨"BoxBearers", "within", "(III)I"⟩ "BoxBearers", Cond.methodLinkNest "BoxBearers$State" 76 ⟨"BoxBearers", "hasBit", "(II)Z"⟩ "BoxBearers", Cond.methodLinkNest "BoxBearers$Land" 75 ⟨"BoxBearers", "hasBit", "(II)Z"⟩ "BoxBearers"]
set_option maxRecDepth 100000 in
theorem bb_nw_in : ∀ w ∈ bb_nw, w ∈ lw_tbl := by
  have h : (bb_nw.zip [146, 152, 335, 349, 422, 566, 581, 1029]).all (fun q => decide (lw_tbl[q.2]? = some q.1)) = true := by decide +kernel
  intro w hw
  obtain ⟨k, hk⟩ := List.getElem?_of_mem hw
  have hl : k < bb_nw.length := (List.getElem?_eq_some_iff.mp hk).1
  obtain ⟨j, hj⟩ : ∃ j, ([146, 152, 335, 349, 422, 566, 581, 1029] : List Nat)[k]? = some j := ⟨_, List.getElem?_eq_getElem (by exact hl)⟩
  have h1 := List.all_eq_true.mp h (w, j) (List.mem_of_getElem? (i := k) (by rw [List.getElem?_zip_eq_some]; exact ⟨hk, hj⟩))
  exact List.mem_of_getElem? (of_decide_eq_true h1)
def bb_c1 (r : Nat) (e : Nat × (Nat × Nat × Nat × Nat)) (i : List Nat) : Bool :=
  let mi := 1000 * r + e.1 / 1000
  let idx := e.1 % 1000
  let y := e.2.2.1
  let n := e.2.2.2.1
  let ci := e.2.2.2.2
  match e.2.1 with
  | 0 => bb_vl.contains y && decide (bb_hh y = []) && bi (i.getD 0 0) (Cond.methodLink (bb_own mi) idx (bb_yN y)) && bi (i.getD 1 0) (Cond.instanceMethod (bb_yN y)) && bi (i.getD 2 0) (Cond.selects (bb_own y) (bb_yN y) (bb_yN y)) && decide ((parseMethodDescriptor (bb_yN y).desc).map (fun d => d.parameters.length) = some (n - 1)) && decide (1 ≤ n) && decide (n ≤ bb_ML y) && decide (ci < 20) && (match bb_cl[ci]? with
    | some (C, _, _) => decide (C = bb_own y)
    | none => false) && decide (bb_fr y + 1 ≤ bb_fr mi) && decide (8 + (bb_ML y + 11) + bb_lo y ≤ bb_lo mi)
  | 1 => bb_vl.contains y && decide (bb_hh y = []) && (bi (i.getD 0 0) (Cond.methodLink (bb_own mi) idx (bb_yN y)) || bb_nw.contains (Cond.methodLinkNest (bb_own mi) idx (bb_yN y) "BoxBearers")) && bi (i.getD 1 0) (Cond.static (bb_yN y)) && decide ((parseMethodDescriptor (bb_yN y).desc).map (fun d => d.parameters.length) = some n) && decide (n ≤ bb_ML y) && decide (bb_fr y + 1 ≤ bb_fr mi) && decide (8 + (bb_ML y + 11) + bb_lo y ≤ bb_lo mi)
  | 2 => bi (i.getD 0 0) (Cond.methodLink (bb_own mi) idx Lib.Math.max.name) && bi (i.getD 1 0) (Cond.static Lib.Math.max.name) && bi (i.getD 2 0) (Cond.initialized "java/lang/Math") && bi (i.getD 3 0) (Cond.code Lib.Math.max.name Lib.Math.max.code 2 (some .int))
  | 3 => bi (i.getD 0 0) (Cond.methodLink (bb_own mi) idx Lib.Math.min.name) && bi (i.getD 1 0) (Cond.static Lib.Math.min.name) && bi (i.getD 2 0) (Cond.initialized "java/lang/Math") && bi (i.getD 3 0) (Cond.code Lib.Math.min.name Lib.Math.min.code 2 (some .int))
  | 4 => bi (i.getD 0 0) (Cond.methodLink (bb_own mi) idx arraycopyName) && bi (i.getD 1 0) (Cond.native arraycopyName) && bi (i.getD 2 0) (Cond.static arraycopyName) && bi (i.getD 3 0) (Cond.initialized "java/lang/System")
  | 9 => bb_vl.contains y && decide (bb_hh y ≠ []) && bi (i.getD 0 0) (Cond.methodLink (bb_own mi) idx (bb_yN y)) && bi (i.getD 1 0) (Cond.static (bb_yN y)) && decide ((parseMethodDescriptor (bb_yN y).desc).map (fun d => d.parameters.length) = some n) && decide (n ≤ bb_ML y) && decide (bb_fr y + 1 ≤ bb_fr mi) && decide (8 + (bb_ML y + 11) + bb_lo y ≤ bb_lo mi)
  | _ => true
set_option maxRecDepth 100000 in
theorem bcw_0 : bi_2 bc_0 [[1647, 1649, 46], [1663, 1665, 49], [1667, 1668], [1670, 1671], [1688, 1689], [1685, 1686], [1673, 1675, 50], [1659, 1661, 48], [1696, 1698, 54], [1673, 1675, 50], [1659, 1661, 48], [1696, 1698, 54], [1673, 1675, 50], [1696, 1698, 54], [1756, 1757], [1759, 1760], [1748, 1750, 67], [1673, 1675, 50], [1659, 1661, 48], [1696, 1698, 54], [1748, 1750, 67], [1681, 1683, 52], [1696, 1698, 54], [1732, 1734, 63], [1673, 1675, 50], [1659, 1661, 48], [1696, 1698, 54], [1681, 1683, 52], [1732, 1734, 63], [1740, 1742, 65], [1728, 1730, 62], [1744, 1746, 66], [1756, 1757], [1659, 1661, 48], [1752, 1754, 68], [1673, 1675, 50], [1659, 1661, 48], [1696, 1698, 54], [1748, 1750, 67], [1681, 1683, 52], [1732, 1734, 63], [1740, 1742, 65], [1728, 1730, 62], [1752, 1754, 68], [1736, 1738, 64], [1762, 1764, 69], [1766, 1768, 70], [1673, 1675, 50], [1659, 1661, 48], [1696, 1698, 54], [1673, 1675, 50], [1659, 1661, 48], [1696, 1698, 54], [1708, 1710, 57], [1712, 1714, 58], [1700, 1702, 55], [1673, 1675, 50], [1659, 1661, 48], [1696, 1698, 54], [1708, 1710, 57], [1712, 1714, 58], [1700, 1702, 55], [1673, 1675, 50], [1659, 1661, 48], [1681, 1683, 52], [1712, 1714, 58], [1700, 1702, 55], [1696, 1698, 54], [1681, 1683, 52], [1732, 1734, 63], [1700, 1702, 55], [1692, 1694, 53], [1704, 1706, 56], [1716, 1718, 59], [1720, 1722, 60], [1724, 1726, 61], [1770, 1772, 71], [1673, 1675, 50], [1659, 1661, 48], [1708, 1710, 57], [1655, 1657, 47], [1677, 1679, 51], [1774, 1776, 72], [1894, 1895], [1817, 1818], [1813, 1815, 78], [1809, 1811, 77], [1801, 1803, 75], [1805, 1807, 76], [1817, 1818], [1848, 1849], [1809, 1811, 77], [1801, 1803, 75], [1863, 1864], [1844, 1846, 84], [1797, 1799, 74], [1840, 1842, 83], [1890, 1892, 92], [1897, 1898], [1817, 1818], [1801, 1803, 75], [1848, 1849], [1801, 1803, 75], [1844, 1846, 84], [1797, 1799, 74], [1897, 1898], [1886, 1888, 91], [1900, 1902, 93], [1904, 1906, 94], [1908, 1910, 95], [1817, 1818], [1882, 1884, 90], [1878, 1880, 89], [1797, 1799, 74], [1655, 1657, 47], [1801, 1803, 75], [1790, 1791], [1793, 1795, 73], [1820, 1822, 79], [1824, 1826, 80], [1655, 1657, 47], [1655, 1657, 47], [1655, 1657, 47], [1655, 1657, 47], [1790, 1791], [1655, 1657, 47], [1790, 1791], [1801, 1803, 75], [1805, 1807, 76], [1797, 1799, 74], [1809, 1811, 77], [1801, 1803, 75], [1844, 1846, 84], [1840, 1842, 83], [1832, 1834, 81], [1836, 1838, 82], [1851, 1853, 85], [1813, 1815, 78], [1801, 1803, 75], [1863, 1864], [1836, 1838, 82], [1859, 1861, 86], [1878, 1880, 89], [1790, 1791], [1870, 1872, 87], [1874, 1876, 88], [1832, 1834, 81], [1859, 1861, 86], [1870, 1872, 87], [1874, 1876, 88], [1859, 1861, 86], [1870, 1872, 87], [1874, 1876, 88], [1859, 1861, 86], [1870, 1872, 87], [1874, 1876, 88], [1900, 1902, 93], [1790, 1791], [1832, 1834, 81], [1870, 1872, 87], [1874, 1876, 88], [1928, 1930, 96], [1928, 1930, 96], [1948, 1950, 99], [1952, 1954, 100], [1801, 1803, 75], [1797, 1799, 74], [1840, 1842, 83], [1832, 1834, 81], [1836, 1838, 82], [1940, 1942, 97], [1944, 1946, 98], [1836, 1838, 82], [1859, 1861, 86], [1940, 1942, 97], [1944, 1946, 98], [1878, 1880, 89], [1832, 1834, 81], [1948, 1950, 99], [1797, 1799, 74], [1878, 1880, 89], [1948, 1950, 99], [1832, 1834, 81], [1968, 1970, 101], [1832, 1834, 81], [1968, 1970, 101], [1840, 1842, 83], [1878, 1880, 89], [1832, 1834, 81], [1948, 1950, 99], [1878, 1880, 89], [1836, 1838, 82], [1948, 1950, 99], [1940, 1942, 97], [1840, 1842, 83], [1878, 1880, 89], [1948, 1950, 99], [1940, 1942, 97], [1988, 1990, 102], [1655, 1657, 47], [1805, 1807, 76], [1848, 1849], [1863, 1864], [1997, 1999, 103], [1805, 1807, 76], [1863, 1864], [1844, 1846, 84], [1832, 1834, 81], [1817, 1818], [1809, 1811, 77], [1801, 1803, 75], [1832, 1834, 81], [1805, 1807, 76], [1832, 1834, 81], [1817, 1818], [1848, 1849], [1836, 1838, 82], [1988, 1990, 102], [2017, 2019, 104], [1840, 1842, 83], [1988, 1990, 102], [2017, 2019, 104], [1988, 1990, 102], [2017, 2019, 104], [1832, 1834, 81], [1988, 1990, 102], [1988, 1990, 102], [1790, 1791], [1832, 1834, 81], [1870, 1872, 87], [1878, 1880, 89], [1948, 1950, 99], [2049, 2051, 105], [1836, 1838, 82], [1948, 1950, 99], [2049, 2051, 105], [2053, 2055, 106], [1836, 1838, 82], [2053, 2055, 106], [1655, 1657, 47], [1801, 1803, 75], [1797, 1799, 74], [1908, 1910, 95], [1878, 1880, 89], [1790, 1791], [1832, 1834, 81], [1948, 1950, 99], [1801, 1803, 75], [1805, 1807, 76], [1655, 1657, 47], [1836, 1838, 82], [1859, 1861, 86], [2069, 2071, 107], [1900, 1902, 93], [2081, 2083, 109], [1863, 1864], [1878, 1880, 89], [1793, 1795, 73], [1820, 1822, 79], [1836, 1838, 82], [1948, 1950, 99], [1940, 1942, 97], [2077, 2079, 108], [1813, 1815, 78], [1836, 1838, 82], [1940, 1942, 97], [1944, 1946, 98], [1820, 1822, 79], [1940, 1942, 97], [1944, 1946, 98], [1774, 1776, 72], [1774, 1776, 72]] (bb_c1 0) = true := by decide +kernel
set_option maxRecDepth 100000 in
theorem bcw_1 : bi_2 bc_1 [] (bb_c1 1) = true := by decide +kernel
set_option maxRecDepth 100000 in
theorem bcw_2 : bi_2 bc_2 [[716, 717, 718], [947, 515, 514, 132], [948, 949, 950], [0, 582], [1030, 542, 126, 543], [1031, 545, 126, 546], [1255, 958], [1256, 1258, 38], [1030, 542, 126, 543]] (bb_c1 2) = true := by decide +kernel
set_option maxRecDepth 100000 in
theorem bcw_3 : bi_2 bc_3 [[513, 515, 514, 132], [516, 517, 518], [604, 605, 606], [513, 515, 514, 132]] (bb_c1 3) = true := by decide +kernel
set_option maxRecDepth 100000 in
theorem bcw_4 : bi_2 bc_4 [[711, 545, 126, 546], [712, 713, 714], [720, 722, 9], [813, 815, 10], [921, 923, 27], [724, 725], [727, 728], [], [], [], [818, 820, 11], [843, 845, 12], [856, 858, 15], [873, 875, 17], [882, 884, 18], [888, 890, 19], [847, 849, 13], [720, 722, 9], [847, 849, 13], [896, 898, 21], [720, 722, 9], [847, 849, 13], [720, 722, 9], [847, 849, 13], [864, 865, 866], [720, 722, 9], [847, 849, 13], [851, 853, 14], [720, 722, 9], [847, 849, 13], [851, 853, 14], [860, 862, 16], [868, 869, 870], [720, 722, 9], [847, 849, 13], [851, 853, 14], [860, 862, 16], [877, 878, 879], [720, 722, 9], [818, 820, 11], [847, 849, 13], [851, 853, 14], [860, 862, 16], [720, 722, 9], [847, 849, 13], [892, 894, 20], [720, 722, 9], [818, 820, 11], [847, 849, 13], [896, 898, 21], [900, 902, 22], [925, 926, 927], [720, 722, 9], [818, 820, 11], [925, 926, 927], [904, 906, 23], [720, 722, 9], [818, 820, 11], [847, 849, 13], [896, 898, 21], [925, 926, 927], [909, 911, 24], [720, 722, 9], [896, 898, 21], [925, 926, 927], [913, 915, 25], [720, 722, 9], [896, 898, 21], [925, 926, 927], [917, 919, 26], [720, 722, 9], [921, 923, 27], [847, 849, 13], [896, 898, 21], [851, 853, 14], [892, 894, 20], [925, 926, 927], [929, 931, 28], [818, 820, 11]] (bb_c1 4) = true := by decide +kernel
set_option maxRecDepth 100000 in
theorem bcw_5 : bi_2 bc_5 [[952, 515, 514, 132], [563, 564]] (bb_c1 5) = true := by decide +kernel
set_option maxRecDepth 100000 in
theorem bcw_6 : bi_2 bc_6 [[1282, 1284, 39], [1286, 1287, 1288], [1291, 617, 618], [1292, 1293, 1294], [1296, 530, 531], [1282, 1284, 39], [1301, 1279, 1280], [1317, 1319, 40], [1321, 958], [1322, 1324, 41], [1291, 617, 618], [1296, 530, 531]] (bb_c1 6) = true := by decide +kernel
set_option maxRecDepth 100000 in
theorem bcw_7 : bi_2 bc_7 [[628, 515, 514, 132], [1290, 542, 126, 543]] (bb_c1 7) = true := by decide +kernel
set_option maxRecDepth 100000 in
theorem bcw_8 : bi_2 bc_8 [[1191, 1193, 34], [1195, 981, 982], [1196, 1198, 35], [1200, 1056], [1201, 1203, 36], [1200, 1056], [1191, 1193, 34], [1191, 1193, 34], [1213, 1215, 37], [1201, 1203, 36]] (bb_c1 8) = true := by decide +kernel
set_option maxRecDepth 100000 in
theorem bcw_9 : bi_2 bc_9 [[520, 515, 514, 132], [957, 958], [520, 515, 514, 132], [520, 515, 514, 132], [520, 515, 514, 132], [551, 552, 553], [541, 542, 126, 543], [0, 582], [537, 538, 539], [980, 981, 982], [577, 578, 579], [976, 977, 978], [972, 973, 974], [0, 582], [577, 578, 579], [976, 977, 978], [577, 578, 579], [1055, 1056], [1179, 1022, 1023], [976, 977, 978], [1055, 1056], [1228, 1026, 1027], [0, 567], [592, 594, 7], [525, 526, 527], [541, 542, 126, 543], [0, 582], [529, 530, 531], [0, 567], [533, 535, 2], [555, 557, 4], [559, 560, 561], [569, 570, 571], [573, 575, 5], [584, 586, 6], [551, 552, 553], [541, 542, 126, 543], [537, 538, 539], [544, 545, 126, 546], [547, 549, 3], [541, 542, 126, 543], [0, 582], [577, 578, 579], [592, 594, 7], [588, 589, 590]] (bb_c1 9) = true := by decide +kernel
set_option maxRecDepth 100000 in
theorem bcw_10 : bi_2 bc_10 [[493, 495, 0], [707, 708, 709], [943, 944, 945], [953, 954, 955], [968, 969, 970], [984, 578, 579], [985, 986, 987], [989, 990, 991], [984, 578, 579], [1016, 1018, 29], [1021, 1022, 1023], [1025, 1026, 1027], [1032, 981, 982], [1033, 1034, 1035], [1045, 1047, 30], [1050, 538, 539], [1051, 1052, 1053], [505, 507, 1], [509, 510, 511], [521, 522, 523], [1016, 1018, 29], [1045, 1047, 30], [505, 507, 1], [509, 510, 511], [1045, 1047, 30], [505, 507, 1], [509, 510, 511], [1045, 1047, 30], [505, 507, 1], [509, 510, 511], [1016, 1018, 29], [505, 507, 1], [509, 510, 511], [1090, 570, 571], [1016, 1018, 29], [505, 507, 1], [509, 510, 511], [1090, 570, 571], [600, 601, 602], [984, 578, 579], [1016, 1018, 29], [1021, 1022, 1023], [1105, 1106], [1109, 1110], [1113, 1115, 31], [1117, 973, 974], [1045, 1047, 30], [1105, 1106], [1109, 1110], [1113, 1115, 31], [1016, 1018, 29], [616, 617, 618], [1132, 526, 527], [1133, 582], [1016, 1018, 29], [1141, 1143, 32], [1016, 1018, 29], [1021, 1022, 1023], [616, 617, 618], [1132, 526, 527], [1105, 1106], [1109, 1110], [1113, 1115, 31], [1159, 1160, 1161], [1109, 1110], [616, 617, 618], [1132, 526, 527], [1170, 1172, 33], [1175, 1176, 1177], [1016, 1018, 29], [1187, 1188, 1189], [1205, 1206, 1207], [1209, 1210, 1211], [1016, 1018, 29], [1224, 1225, 1226], [984, 578, 579], [1016, 1018, 29], [1032, 981, 982], [1236, 542, 126, 543], [1016, 1018, 29], [1141, 1143, 32], [1105, 1106], [1170, 1172, 33], [1251, 1252, 1253], [1016, 1018, 29], [1267, 1268, 1269], [1105, 1106], [1278, 1279, 1280], [1297, 1298, 1299], [1302, 1303, 1304], [1105, 1106], [1297, 1298, 1299], [1313, 1314, 1315], [1016, 1018, 29], [1109, 1110], [1333, 1335, 42], [1045, 1047, 30], [1105, 1106], [1349, 1351, 43], [968, 969, 970], [985, 986, 987], [1105, 1106], [1109, 1110], [616, 617, 618], [1132, 526, 527], [1365, 1367, 45], [1374, 1056], [1050, 538, 539], [1105, 1106], [1021, 1022, 1023], [1170, 1172, 33], [1251, 1252, 1253], [1016, 1018, 29], [1170, 1172, 33], [1396, 552, 553], [1397, 589, 590], [1016, 1018, 29], [1357, 977, 978], [1109, 1110], [1113, 1115, 31], [1170, 1172, 33], [1396, 552, 553], [1170, 1172, 33], [1251, 1252, 1253], [985, 986, 987], [1109, 1110], [1113, 1115, 31], [616, 617, 618], [620, 621, 622], [624, 625, 626], [616, 617, 618], [620, 621, 622], [624, 625, 626], [521, 522, 523], [616, 617, 618], [1117, 973, 974], [616, 617, 618], [1132, 526, 527], [1117, 973, 974], [616, 617, 618], [1132, 526, 527], [1133, 582], [1337, 1338, 1339], [1353, 1355, 44], [984, 578, 579], [1357, 977, 978], [1090, 570, 571], [1369, 1370, 1371]] (bb_c1 10) = true := by decide +kernel
set_option maxRecDepth 100000 in
theorem bcw_12 : bi_2 bc_12 [[637, 638, 639], [964, 965, 966], [1012, 1013, 1014], [1041, 1042, 1043], [1065, 1066, 1067], [1072, 1073, 1074], [1079, 1080, 1081], [1086, 1087, 1088], [1094, 1095, 1096], [1101, 1102, 1103], [1121, 1122, 1123], [1128, 1129, 1130], [1137, 1138, 1139], [1148, 1149, 1150], [1155, 1156, 1157], [1166, 1167, 1168], [1183, 1184, 1185], [1220, 1221, 1222], [1232, 1233, 1234], [1240, 1241, 1242], [1247, 1248, 1249], [1263, 1264, 1265], [1274, 1275, 1276], [1309, 1310, 1311], [1329, 1330, 1331], [1344, 1345, 1346], [1361, 1362, 1363], [1378, 1379, 1380], [1385, 1386, 1387], [1392, 1393, 1394], [1401, 1402, 1403], [1408, 1409, 1410], [1415, 1416, 1417], [1422, 1423, 1424], [1429, 1430, 1431], [489, 490, 491], [1643, 1644, 1645], [633, 634], [1651, 1652, 1653], [1639, 1640, 1641], [497, 498, 499], [1778, 1779, 1780], [960, 961], [1786, 1787, 1788], [1009, 1010], [1828, 1829, 1830], [1038, 1039], [1855, 1856, 1857], [501, 502, 503], [1866, 1867, 1868], [1062, 1063], [1912, 1913, 1914], [1069, 1070], [1916, 1917, 1918], [1076, 1077], [1920, 1921, 1922], [1083, 1084], [1924, 1925, 1926], [1091, 1092], [1932, 1933, 1934], [596, 597, 598], [1782, 1783, 1784], [1098, 1099], [1936, 1937, 1938], [1118, 1119], [1956, 1957, 1958], [1125, 1126], [1960, 1961, 1962], [1134, 1135], [1964, 1965, 1966], [1145, 1146], [1976, 1977, 1978], [1152, 1153], [1980, 1981, 1982], [1163, 1164], [1984, 1985, 1986], [1180, 1181], [1992, 1993, 1994], [1217, 1218], [2001, 2002, 2003], [1229, 1230], [2005, 2006, 2007], [1237, 1238], [1972, 1973, 1974], [1244, 1245], [2013, 2014, 2015], [1260, 1261], [2037, 2038, 2039], [608, 609, 610], [2041, 2042, 2043], [1271, 1272], [2045, 2046, 2047], [1306, 1307], [2057, 2058, 2059], [1326, 1327], [2061, 2062, 2063], [1341, 1342], [2065, 2066, 2067], [1358, 1359], [2073, 2074, 2075], [1375, 1376], [2086, 2087, 2088], [1382, 1383], [2021, 2022, 2023], [1389, 1390], [2029, 2030, 2031], [1398, 1399], [2009, 2010, 2011], [1405, 1406], [2090, 2091, 2092], [1412, 1413], [2033, 2034, 2035], [1419, 1420], [2025, 2026, 2027], [1426, 1427], [2094, 2095, 2096], [612, 613, 614], [2098, 2099, 2100], [629, 630, 631], [2102, 2103, 2104]] (bb_c1 12) = true := by decide +kernel
set_option maxRecDepth 100000 in
theorem bcw_13 : bi_2 bc_13 [] (bb_c1 13) = true := by decide +kernel
set_option maxRecDepth 100000 in
theorem bcw_14 : bi_2 bc_14 [] (bb_c1 14) = true := by decide +kernel
set_option maxRecDepth 100000 in
theorem bcw_21 : bi_2 bc_21 [[720, 722, 9], [818, 820, 11], [847, 849, 13], [896, 898, 21], [900, 902, 22], [925, 926, 927], [720, 722, 9], [818, 820, 11], [925, 926, 927], [904, 906, 23], [720, 722, 9], [818, 820, 11], [847, 849, 13], [896, 898, 21], [925, 926, 927], [909, 911, 24], [720, 722, 9], [896, 898, 21], [925, 926, 927], [913, 915, 25], [720, 722, 9], [896, 898, 21], [925, 926, 927], [917, 919, 26], [720, 722, 9], [921, 923, 27], [847, 849, 13], [896, 898, 21], [851, 853, 14], [892, 894, 20], [925, 926, 927], [929, 931, 28]] (bb_c1 21) = true := by decide +kernel
set_option maxRecDepth 100000 in
theorem bcw_22 : bi_2 bc_22 [[720, 722, 9], [818, 820, 11], [847, 849, 13], [896, 898, 21], [900, 902, 22], [925, 926, 927], [720, 722, 9], [818, 820, 11], [925, 926, 927], [904, 906, 23], [720, 722, 9], [818, 820, 11], [847, 849, 13], [896, 898, 21], [925, 926, 927], [909, 911, 24], [720, 722, 9], [896, 898, 21], [925, 926, 927], [913, 915, 25], [720, 722, 9], [896, 898, 21], [925, 926, 927], [917, 919, 26], [720, 722, 9], [921, 923, 27], [847, 849, 13], [896, 898, 21], [851, 853, 14], [892, 894, 20], [925, 926, 927], [929, 931, 28]] (bb_c1 22) = true := by decide +kernel
set_option maxRecDepth 100000 in
theorem bcw_23 : bi_2 bc_23 [[720, 722, 9], [818, 820, 11], [847, 849, 13], [896, 898, 21], [900, 902, 22], [925, 926, 927], [720, 722, 9], [818, 820, 11], [925, 926, 927], [904, 906, 23], [720, 722, 9], [818, 820, 11], [847, 849, 13], [896, 898, 21], [925, 926, 927], [909, 911, 24], [720, 722, 9], [896, 898, 21], [925, 926, 927], [913, 915, 25], [720, 722, 9], [896, 898, 21], [925, 926, 927], [917, 919, 26], [720, 722, 9], [921, 923, 27], [847, 849, 13], [896, 898, 21], [851, 853, 14], [892, 894, 20], [925, 926, 927], [929, 931, 28]] (bb_c1 23) = true := by decide +kernel
set_option maxRecDepth 100000 in
theorem bcw_24 : bi_2 bc_24 [[720, 722, 9], [818, 820, 11], [847, 849, 13], [896, 898, 21], [900, 902, 22], [925, 926, 927], [720, 722, 9], [818, 820, 11], [925, 926, 927], [904, 906, 23], [720, 722, 9], [818, 820, 11], [847, 849, 13], [896, 898, 21], [925, 926, 927], [909, 911, 24], [720, 722, 9], [896, 898, 21], [925, 926, 927], [913, 915, 25], [720, 722, 9], [896, 898, 21], [925, 926, 927], [917, 919, 26], [720, 722, 9], [921, 923, 27], [847, 849, 13], [896, 898, 21], [851, 853, 14], [892, 894, 20], [925, 926, 927], [929, 931, 28]] (bb_c1 24) = true := by decide +kernel
set_option maxRecDepth 100000 in
theorem bcw_25 : bi_2 bc_25 [[720, 722, 9], [818, 820, 11], [847, 849, 13], [896, 898, 21], [900, 902, 22], [925, 926, 927], [720, 722, 9], [818, 820, 11], [925, 926, 927], [904, 906, 23], [720, 722, 9], [818, 820, 11], [847, 849, 13], [896, 898, 21], [925, 926, 927], [909, 911, 24], [720, 722, 9], [896, 898, 21], [925, 926, 927], [913, 915, 25], [720, 722, 9], [896, 898, 21], [925, 926, 927], [917, 919, 26], [720, 722, 9], [921, 923, 27], [847, 849, 13], [896, 898, 21], [851, 853, 14], [892, 894, 20], [925, 926, 927], [929, 931, 28]] (bb_c1 25) = true := by decide +kernel
set_option maxRecDepth 100000 in
theorem bcw_26 : bi_2 bc_26 [[720, 722, 9], [818, 820, 11], [847, 849, 13], [896, 898, 21], [925, 926, 927], [720, 722, 9], [818, 820, 11], [925, 926, 927], [720, 722, 9], [818, 820, 11], [847, 849, 13], [896, 898, 21], [925, 926, 927], [720, 722, 9], [896, 898, 21], [925, 926, 927], [720, 722, 9], [896, 898, 21], [925, 926, 927], [720, 722, 9], [921, 923, 27], [847, 849, 13], [896, 898, 21], [851, 853, 14], [925, 926, 927], [929, 931, 28]] (bb_c1 26) = true := by decide +kernel
theorem bb_c1_ok : ∀ c r, bb_CLL[c]? = some r → ∀ x ∈ r, ∃ i, bb_c1 c x i = true
  | 0, _, h => by cases h; exact bi_2s bcw_0
  | 1, _, h => by cases h; exact bi_2s bcw_1
  | 2, _, h => by cases h; exact bi_2s bcw_2
  | 3, _, h => by cases h; exact bi_2s bcw_3
  | 4, _, h => by cases h; exact bi_2s bcw_4
  | 5, _, h => by cases h; exact bi_2s bcw_5
  | 6, _, h => by cases h; exact bi_2s bcw_6
  | 7, _, h => by cases h; exact bi_2s bcw_7
  | 8, _, h => by cases h; exact bi_2s bcw_8
  | 9, _, h => by cases h; exact bi_2s bcw_9
  | 10, _, h => by cases h; exact bi_2s bcw_10
  | 11, _, h => by cases h; exact fun x hx => by cases hx
  | 12, _, h => by cases h; exact bi_2s bcw_12
  | 13, _, h => by cases h; exact bi_2s bcw_13
  | 14, _, h => by cases h; exact bi_2s bcw_14
  | 15, _, h => by cases h; exact fun x hx => by cases hx
  | 16, _, h => by cases h; exact fun x hx => by cases hx
  | 17, _, h => by cases h; exact fun x hx => by cases hx
  | 18, _, h => by cases h; exact fun x hx => by cases hx
  | 19, _, h => by cases h; exact fun x hx => by cases hx
  | 20, _, h => by cases h; exact fun x hx => by cases hx
  | 21, _, h => by cases h; exact bi_2s bcw_21
  | 22, _, h => by cases h; exact bi_2s bcw_22
  | 23, _, h => by cases h; exact bi_2s bcw_23
  | 24, _, h => by cases h; exact bi_2s bcw_24
  | 25, _, h => by cases h; exact bi_2s bcw_25
  | 26, _, h => by cases h; exact bi_2s bcw_26
  | n + 27, _, h => by simp [bb_CLL] at h
theorem bb_cl_at {mi idx : Nat} {z : Nat × Nat × Nat × Nat} (h : en_CL bb_G mi idx = some z) : ∃ i, bb_c1 (mi / 1000) (1000 * (mi % 1000) + idx, z) i = true ∧ idx < 1000 := by
  have h0 : (if idx < 1000 then en_as (bb_CLL.getD (mi / 1000) []) (1000 * (mi % 1000) + idx) else none) = some z := h
  split at h0
  · next hi =>
    obtain ⟨r, h1, h2⟩ := bb_getD (en_as_mem h0)
    obtain ⟨i, h3⟩ := bb_c1_ok _ _ h1 _ h2
    exact ⟨i, h3, hi⟩
  · cases h0
theorem bb_key3 {mi idx : Nat} (h : idx < 1000) : 1000 * (mi / 1000) + (1000 * (mi % 1000) + idx) / 1000 = mi ∧ (1000 * (mi % 1000) + idx) % 1000 = idx := by omega
theorem bb_CF {U : State} (hN : ∀ w ∈ bb_nw, va_Nw w U) : en_CF bb_G bb_P bb_ML bb_cl bb_T bb_own bb_yN bb_CD bb_hh bb_fr bb_lo U := by
  refine ⟨?_, ?_, ?_, ?_, ?_⟩
  · intro mi idx y n ci h
    obtain ⟨i, h1, hi⟩ := bb_cl_at h
    simp only [bb_c1, (bb_key3 (mi := mi) hi).1, (bb_key3 (mi := mi) hi).2, Bool.and_eq_true, decide_eq_true_eq, List.contains_iff_mem] at h1
    obtain ⟨⟨⟨⟨⟨⟨⟨⟨⟨⟨⟨a1, a2⟩, a3⟩, a4⟩, a5⟩, a6⟩, a7⟩, a8⟩, a9⟩, a10⟩, a11⟩, a12⟩ := h1
    refine ⟨bb_MV y a1, a2, bi_spec a3, bi_spec a4, bi_spec a5, a6, a7, a8, a9, ?_, a11, a12⟩
    split at a10
    · next C T N hc => exact ⟨T, N, by rw [hc]; simp at a10; rw [a10]⟩
    · cases a10
  · intro mi idx y n ci h
    obtain ⟨i, h1, hi⟩ := bb_cl_at h
    simp only [bb_c1, (bb_key3 (mi := mi) hi).1, (bb_key3 (mi := mi) hi).2, Bool.and_eq_true, Bool.or_eq_true, decide_eq_true_eq, List.contains_iff_mem] at h1
    obtain ⟨⟨⟨⟨⟨⟨⟨a1, a2⟩, a3⟩, a4⟩, a5⟩, a6⟩, a7⟩, a8⟩ := h1
    refine ⟨bb_MV y a1, a2, ?_, bi_spec a4, a5, a6, a7, a8⟩
    rcases a3 with a3 | a3
    · exact Or.inl (bi_spec a3)
    · exact Or.inr ⟨_, hN _ a3⟩
  · intro mi idx y n ci h
    obtain ⟨i, h1, hi⟩ := bb_cl_at h
    simp only [bb_c1, (bb_key3 (mi := mi) hi).1, (bb_key3 (mi := mi) hi).2, Bool.and_eq_true] at h1
    obtain ⟨⟨⟨a1, a2⟩, a3⟩, a4⟩ := h1
    exact ⟨bi_spec a1, bi_spec a2, bi_spec a3, bi_spec a4⟩
  · intro mi idx y n ci h
    obtain ⟨i, h1, hi⟩ := bb_cl_at h
    simp only [bb_c1, (bb_key3 (mi := mi) hi).1, (bb_key3 (mi := mi) hi).2, Bool.and_eq_true] at h1
    obtain ⟨⟨⟨a1, a2⟩, a3⟩, a4⟩ := h1
    exact ⟨bi_spec a1, bi_spec a2, bi_spec a3, bi_spec a4⟩
  · intro mi idx y n ci h
    obtain ⟨i, h1, hi⟩ := bb_cl_at h
    simp only [bb_c1, (bb_key3 (mi := mi) hi).1, (bb_key3 (mi := mi) hi).2, Bool.and_eq_true] at h1
    obtain ⟨⟨⟨a1, a2⟩, a3⟩, a4⟩ := h1
    exact ⟨bi_spec a1, bi_spec a2, bi_spec a3, bi_spec a4⟩
