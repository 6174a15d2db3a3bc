-- ===== PART A: goes FIRST, ahead of the names: the tables' words, and 'selects' of the private methods out of them =====
/-- a private method of a class that the tables say can be made, by its rows of tables_1 -/
def lw_okq (q : MethodName × Nat) : Prop := (q.1.cls ≠ "java/lang/invoke/MethodHandle" ∧ q.1.cls ≠ "java/lang/invoke/VarHandle") ∧ Cond.instantiable q.1.cls q.2 ∈ tables_1 ∧ Cond.privateMethod q.1 ∈ tables_1 ∧ Cond.instanceMethod q.1 ∈ tables_1
theorem lw_p0 : lw_okq (⟨"BoxBearers", "putBytes", "(I)V"⟩, 19) := ⟨⟨by decide +kernel, by decide +kernel⟩, List.mem_of_getElem? (i := 27) (by decide +kernel), List.mem_of_getElem? (i := 384) (by decide +kernel), List.mem_of_getElem? (i := 385) (by decide +kernel)⟩
theorem lw_p1 : lw_okq (⟨"BoxBearers", "refuseAct", "(I)I"⟩, 19) := ⟨⟨by decide +kernel, by decide +kernel⟩, List.mem_of_getElem? (i := 27) (by decide +kernel), List.mem_of_getElem? (i := 396) (by decide +kernel), List.mem_of_getElem? (i := 397) (by decide +kernel)⟩
theorem lw_p2 : lw_okq (⟨"BoxBearers$State", "survey", "(I)V"⟩, 9) := ⟨⟨by decide +kernel, by decide +kernel⟩, List.mem_of_getElem? (i := 179) (by decide +kernel), List.mem_of_getElem? (i := 424) (by decide +kernel), List.mem_of_getElem? (i := 425) (by decide +kernel)⟩
theorem lw_p3 : lw_okq (⟨"BoxBearers$State", "keepValue", "(II)V"⟩, 9) := ⟨⟨by decide +kernel, by decide +kernel⟩, List.mem_of_getElem? (i := 179) (by decide +kernel), List.mem_of_getElem? (i := 438) (by decide +kernel), List.mem_of_getElem? (i := 439) (by decide +kernel)⟩
theorem lw_p4 : lw_okq (⟨"BoxBearers$State", "valueOf", "(I)I"⟩, 9) := ⟨⟨by decide +kernel, by decide +kernel⟩, List.mem_of_getElem? (i := 179) (by decide +kernel), List.mem_of_getElem? (i := 446) (by decide +kernel), List.mem_of_getElem? (i := 447) (by decide +kernel)⟩
theorem lw_p5 : lw_okq (⟨"BoxBearers$State", "letFall", "(I)I"⟩, 9) := ⟨⟨by decide +kernel, by decide +kernel⟩, List.mem_of_getElem? (i := 179) (by decide +kernel), List.mem_of_getElem? (i := 464) (by decide +kernel), List.mem_of_getElem? (i := 465) (by decide +kernel)⟩
theorem lw_p6 : lw_okq (⟨"BoxBearers$State", "carryOn", "(I)V"⟩, 9) := ⟨⟨by decide +kernel, by decide +kernel⟩, List.mem_of_getElem? (i := 179) (by decide +kernel), List.mem_of_getElem? (i := 475) (by decide +kernel), List.mem_of_getElem? (i := 476) (by decide +kernel)⟩
theorem lw_p7 : lw_okq (⟨"BoxBearers$State", "tireOut", "(I)V"⟩, 9) := ⟨⟨by decide +kernel, by decide +kernel⟩, List.mem_of_getElem? (i := 179) (by decide +kernel), List.mem_of_getElem? (i := 483) (by decide +kernel), List.mem_of_getElem? (i := 484) (by decide +kernel)⟩
theorem lw_p8 : lw_okq (⟨"java/lang/Throwable", "fillInStackTrace", "(I)Ljava/lang/Throwable;"⟩, 6) := ⟨⟨by decide +kernel, by decide +kernel⟩, List.mem_of_getElem? (i := 569) (by decide +kernel), List.mem_of_getElem? (i := 567) (by decide +kernel), List.mem_of_getElem? (i := 568) (by decide +kernel)⟩
theorem lw_p9 : lw_okq (⟨"BoxBearers$Reader", "nextToken", "()V"⟩, 11) := ⟨⟨by decide +kernel, by decide +kernel⟩, List.mem_of_getElem? (i := 138) (by decide +kernel), List.mem_of_getElem? (i := 611) (by decide +kernel), List.mem_of_getElem? (i := 612) (by decide +kernel)⟩
theorem lw_p10 : lw_okq (⟨"BoxBearers$Reader", "readLine", "()V"⟩, 11) := ⟨⟨by decide +kernel, by decide +kernel⟩, List.mem_of_getElem? (i := 138) (by decide +kernel), List.mem_of_getElem? (i := 704) (by decide +kernel), List.mem_of_getElem? (i := 705) (by decide +kernel)⟩
theorem lw_p11 : lw_okq (⟨"BoxBearers$Reader", "isWord", "(Ljava/lang/String;)Z"⟩, 11) := ⟨⟨by decide +kernel, by decide +kernel⟩, List.mem_of_getElem? (i := 138) (by decide +kernel), List.mem_of_getElem? (i := 709) (by decide +kernel), List.mem_of_getElem? (i := 710) (by decide +kernel)⟩
theorem lw_p12 : lw_okq (⟨"BoxBearers$Reader", "readTowns", "()V"⟩, 11) := ⟨⟨by decide +kernel, by decide +kernel⟩, List.mem_of_getElem? (i := 138) (by decide +kernel), List.mem_of_getElem? (i := 734) (by decide +kernel), List.mem_of_getElem? (i := 735) (by decide +kernel)⟩
theorem lw_p13 : lw_okq (⟨"BoxBearers$Reader", "refuse", "(I)V"⟩, 11) := ⟨⟨by decide +kernel, by decide +kernel⟩, List.mem_of_getElem? (i := 138) (by decide +kernel), List.mem_of_getElem? (i := 738) (by decide +kernel), List.mem_of_getElem? (i := 739) (by decide +kernel)⟩
theorem lw_p14 : lw_okq (⟨"BoxBearers$Reader", "readNumber", "(II)I"⟩, 11) := ⟨⟨by decide +kernel, by decide +kernel⟩, List.mem_of_getElem? (i := 138) (by decide +kernel), List.mem_of_getElem? (i := 742) (by decide +kernel), List.mem_of_getElem? (i := 743) (by decide +kernel)⟩
theorem lw_p15 : lw_okq (⟨"BoxBearers$Reader", "readRoad", "()V"⟩, 11) := ⟨⟨by decide +kernel, by decide +kernel⟩, List.mem_of_getElem? (i := 138) (by decide +kernel), List.mem_of_getElem? (i := 747) (by decide +kernel), List.mem_of_getElem? (i := 748) (by decide +kernel)⟩
def lw_privs_1 : List (MethodName × Nat) := [(⟨"BoxBearers", "putBytes", "(I)V"⟩, 19), (⟨"BoxBearers", "refuseAct", "(I)I"⟩, 19), (⟨"BoxBearers$State", "survey", "(I)V"⟩, 9), (⟨"BoxBearers$State", "keepValue", "(II)V"⟩, 9), (⟨"BoxBearers$State", "valueOf", "(I)I"⟩, 9), (⟨"BoxBearers$State", "letFall", "(I)I"⟩, 9), (⟨"BoxBearers$State", "carryOn", "(I)V"⟩, 9), (⟨"BoxBearers$State", "tireOut", "(I)V"⟩, 9), (⟨"java/lang/Throwable", "fillInStackTrace", "(I)Ljava/lang/Throwable;"⟩, 6), (⟨"BoxBearers$Reader", "nextToken", "()V"⟩, 11), (⟨"BoxBearers$Reader", "readLine", "()V"⟩, 11), (⟨"BoxBearers$Reader", "isWord", "(Ljava/lang/String;)Z"⟩, 11), (⟨"BoxBearers$Reader", "readTowns", "()V"⟩, 11), (⟨"BoxBearers$Reader", "refuse", "(I)V"⟩, 11), (⟨"BoxBearers$Reader", "readNumber", "(II)I"⟩, 11), (⟨"BoxBearers$Reader", "readRoad", "()V"⟩, 11)]
theorem lw_r1 : ∀ q ∈ lw_privs_1, lw_okq q := List.forall_mem_cons.mpr ⟨lw_p0, List.forall_mem_cons.mpr ⟨lw_p1, List.forall_mem_cons.mpr ⟨lw_p2, List.forall_mem_cons.mpr ⟨lw_p3, List.forall_mem_cons.mpr ⟨lw_p4, List.forall_mem_cons.mpr ⟨lw_p5, List.forall_mem_cons.mpr ⟨lw_p6, List.forall_mem_cons.mpr ⟨lw_p7, List.forall_mem_cons.mpr ⟨lw_p8, List.forall_mem_cons.mpr ⟨lw_p9, List.forall_mem_cons.mpr ⟨lw_p10, List.forall_mem_cons.mpr ⟨lw_p11, List.forall_mem_cons.mpr ⟨lw_p12, List.forall_mem_cons.mpr ⟨lw_p13, List.forall_mem_cons.mpr ⟨lw_p14, List.forall_mem_cons.mpr ⟨lw_p15, fun _ h => absurd h List.not_mem_nil⟩⟩⟩⟩⟩⟩⟩⟩⟩⟩⟩⟩⟩⟩⟩⟩
theorem lw_p16 : lw_okq (⟨"BoxBearers$Reader", "readName", "(II)I"⟩, 11) := ⟨⟨by decide +kernel, by decide +kernel⟩, List.mem_of_getElem? (i := 138) (by decide +kernel), List.mem_of_getElem? (i := 751) (by decide +kernel), List.mem_of_getElem? (i := 752) (by decide +kernel)⟩
theorem lw_p17 : lw_okq (⟨"BoxBearers$Reader", "readBox", "()V"⟩, 11) := ⟨⟨by decide +kernel, by decide +kernel⟩, List.mem_of_getElem? (i := 138) (by decide +kernel), List.mem_of_getElem? (i := 764) (by decide +kernel), List.mem_of_getElem? (i := 765) (by decide +kernel)⟩
theorem lw_p18 : lw_okq (⟨"BoxBearers$Reader", "readBearer", "()V"⟩, 11) := ⟨⟨by decide +kernel, by decide +kernel⟩, List.mem_of_getElem? (i := 138) (by decide +kernel), List.mem_of_getElem? (i := 773) (by decide +kernel), List.mem_of_getElem? (i := 774) (by decide +kernel)⟩
theorem lw_p19 : lw_okq (⟨"BoxBearers$Reader", "readRule", "(LBoxBearers$Rule;)V"⟩, 11) := ⟨⟨by decide +kernel, by decide +kernel⟩, List.mem_of_getElem? (i := 138) (by decide +kernel), List.mem_of_getElem? (i := 779) (by decide +kernel), List.mem_of_getElem? (i := 780) (by decide +kernel)⟩
theorem lw_p20 : lw_okq (⟨"BoxBearers$Reader", "readExpr", "(LBoxBearers$Rule;I)V"⟩, 11) := ⟨⟨by decide +kernel, by decide +kernel⟩, List.mem_of_getElem? (i := 138) (by decide +kernel), List.mem_of_getElem? (i := 783) (by decide +kernel), List.mem_of_getElem? (i := 784) (by decide +kernel)⟩
theorem lw_p21 : lw_okq (⟨"BoxBearers$Reader", "isSign", "(C)Z"⟩, 11) := ⟨⟨by decide +kernel, by decide +kernel⟩, List.mem_of_getElem? (i := 138) (by decide +kernel), List.mem_of_getElem? (i := 787) (by decide +kernel), List.mem_of_getElem? (i := 788) (by decide +kernel)⟩
theorem lw_p22 : lw_okq (⟨"BoxBearers$Reader", "readAnd", "(LBoxBearers$Rule;I)V"⟩, 11) := ⟨⟨by decide +kernel, by decide +kernel⟩, List.mem_of_getElem? (i := 138) (by decide +kernel), List.mem_of_getElem? (i := 791) (by decide +kernel), List.mem_of_getElem? (i := 792) (by decide +kernel)⟩
theorem lw_p23 : lw_okq (⟨"BoxBearers$Reader", "readNot", "(LBoxBearers$Rule;I)V"⟩, 11) := ⟨⟨by decide +kernel, by decide +kernel⟩, List.mem_of_getElem? (i := 138) (by decide +kernel), List.mem_of_getElem? (i := 795) (by decide +kernel), List.mem_of_getElem? (i := 796) (by decide +kernel)⟩
theorem lw_p24 : lw_okq (⟨"BoxBearers$Reader", "readSum", "(LBoxBearers$Rule;I)V"⟩, 11) := ⟨⟨by decide +kernel, by decide +kernel⟩, List.mem_of_getElem? (i := 138) (by decide +kernel), List.mem_of_getElem? (i := 800) (by decide +kernel), List.mem_of_getElem? (i := 801) (by decide +kernel)⟩
theorem lw_p25 : lw_okq (⟨"BoxBearers$Reader", "readProduct", "(LBoxBearers$Rule;I)V"⟩, 11) := ⟨⟨by decide +kernel, by decide +kernel⟩, List.mem_of_getElem? (i := 138) (by decide +kernel), List.mem_of_getElem? (i := 804) (by decide +kernel), List.mem_of_getElem? (i := 805) (by decide +kernel)⟩
theorem lw_p26 : lw_okq (⟨"BoxBearers$Reader", "readPart", "(LBoxBearers$Rule;I)V"⟩, 11) := ⟨⟨by decide +kernel, by decide +kernel⟩, List.mem_of_getElem? (i := 138) (by decide +kernel), List.mem_of_getElem? (i := 808) (by decide +kernel), List.mem_of_getElem? (i := 809) (by decide +kernel)⟩
theorem lw_p27 : lw_okq (⟨"BoxBearers$Reader", "readSign", "(C)V"⟩, 11) := ⟨⟨by decide +kernel, by decide +kernel⟩, List.mem_of_getElem? (i := 138) (by decide +kernel), List.mem_of_getElem? (i := 812) (by decide +kernel), List.mem_of_getElem? (i := 813) (by decide +kernel)⟩
theorem lw_p28 : lw_okq (⟨"BoxBearers$Reader", "valueStep", "()I"⟩, 11) := ⟨⟨by decide +kernel, by decide +kernel⟩, List.mem_of_getElem? (i := 138) (by decide +kernel), List.mem_of_getElem? (i := 820) (by decide +kernel), List.mem_of_getElem? (i := 821) (by decide +kernel)⟩
theorem lw_p29 : lw_okq (⟨"BoxBearers", "checkBox", "(I)V"⟩, 19) := ⟨⟨by decide +kernel, by decide +kernel⟩, List.mem_of_getElem? (i := 27) (by decide +kernel), List.mem_of_getElem? (i := 907) (by decide +kernel), List.mem_of_getElem? (i := 908) (by decide +kernel)⟩
theorem lw_p30 : lw_okq (⟨"BoxBearers", "checkBearer", "(I)V"⟩, 19) := ⟨⟨by decide +kernel, by decide +kernel⟩, List.mem_of_getElem? (i := 27) (by decide +kernel), List.mem_of_getElem? (i := 940) (by decide +kernel), List.mem_of_getElem? (i := 941) (by decide +kernel)⟩
theorem lw_p31 : lw_okq (⟨"BoxBearers", "lookAhead", "(I)I"⟩, 19) := ⟨⟨by decide +kernel, by decide +kernel⟩, List.mem_of_getElem? (i := 27) (by decide +kernel), List.mem_of_getElem? (i := 1009) (by decide +kernel), List.mem_of_getElem? (i := 1010) (by decide +kernel)⟩
def lw_privs_2 : List (MethodName × Nat) := [(⟨"BoxBearers$Reader", "readName", "(II)I"⟩, 11), (⟨"BoxBearers$Reader", "readBox", "()V"⟩, 11), (⟨"BoxBearers$Reader", "readBearer", "()V"⟩, 11), (⟨"BoxBearers$Reader", "readRule", "(LBoxBearers$Rule;)V"⟩, 11), (⟨"BoxBearers$Reader", "readExpr", "(LBoxBearers$Rule;I)V"⟩, 11), (⟨"BoxBearers$Reader", "isSign", "(C)Z"⟩, 11), (⟨"BoxBearers$Reader", "readAnd", "(LBoxBearers$Rule;I)V"⟩, 11), (⟨"BoxBearers$Reader", "readNot", "(LBoxBearers$Rule;I)V"⟩, 11), (⟨"BoxBearers$Reader", "readSum", "(LBoxBearers$Rule;I)V"⟩, 11), (⟨"BoxBearers$Reader", "readProduct", "(LBoxBearers$Rule;I)V"⟩, 11), (⟨"BoxBearers$Reader", "readPart", "(LBoxBearers$Rule;I)V"⟩, 11), (⟨"BoxBearers$Reader", "readSign", "(C)V"⟩, 11), (⟨"BoxBearers$Reader", "valueStep", "()I"⟩, 11), (⟨"BoxBearers", "checkBox", "(I)V"⟩, 19), (⟨"BoxBearers", "checkBearer", "(I)V"⟩, 19), (⟨"BoxBearers", "lookAhead", "(I)I"⟩, 19)]
theorem lw_r2 : ∀ q ∈ lw_privs_2, lw_okq q := List.forall_mem_cons.mpr ⟨lw_p16, List.forall_mem_cons.mpr ⟨lw_p17, List.forall_mem_cons.mpr ⟨lw_p18, List.forall_mem_cons.mpr ⟨lw_p19, List.forall_mem_cons.mpr ⟨lw_p20, List.forall_mem_cons.mpr ⟨lw_p21, List.forall_mem_cons.mpr ⟨lw_p22, List.forall_mem_cons.mpr ⟨lw_p23, List.forall_mem_cons.mpr ⟨lw_p24, List.forall_mem_cons.mpr ⟨lw_p25, List.forall_mem_cons.mpr ⟨lw_p26, List.forall_mem_cons.mpr ⟨lw_p27, List.forall_mem_cons.mpr ⟨lw_p28, List.forall_mem_cons.mpr ⟨lw_p29, List.forall_mem_cons.mpr ⟨lw_p30, List.forall_mem_cons.mpr ⟨lw_p31, fun _ h => absurd h List.not_mem_nil⟩⟩⟩⟩⟩⟩⟩⟩⟩⟩⟩⟩⟩⟩⟩⟩
theorem lw_p32 : lw_okq (⟨"BoxBearers", "firstBorne", "(IZ)I"⟩, 19) := ⟨⟨by decide +kernel, by decide +kernel⟩, List.mem_of_getElem? (i := 27) (by decide +kernel), List.mem_of_getElem? (i := 1037) (by decide +kernel), List.mem_of_getElem? (i := 1038) (by decide +kernel)⟩
theorem lw_p33 : lw_okq (⟨"BoxBearers", "checkTown", "(I)V"⟩, 19) := ⟨⟨by decide +kernel, by decide +kernel⟩, List.mem_of_getElem? (i := 27) (by decide +kernel), List.mem_of_getElem? (i := 1066) (by decide +kernel), List.mem_of_getElem? (i := 1067) (by decide +kernel)⟩
theorem lw_p34 : lw_okq (⟨"BoxBearers$Sharing", "everyone", "()I"⟩, 3) := ⟨⟨by decide +kernel, by decide +kernel⟩, List.mem_of_getElem? (i := 258) (by decide +kernel), List.mem_of_getElem? (i := 1091) (by decide +kernel), List.mem_of_getElem? (i := 1092) (by decide +kernel)⟩
theorem lw_p35 : lw_okq (⟨"BoxBearers$Sharing", "fewestOf", "(II)I"⟩, 3) := ⟨⟨by decide +kernel, by decide +kernel⟩, List.mem_of_getElem? (i := 258) (by decide +kernel), List.mem_of_getElem? (i := 1096) (by decide +kernel), List.mem_of_getElem? (i := 1097) (by decide +kernel)⟩
theorem lw_p36 : lw_okq (⟨"BoxBearers$Sharing", "manyWith", "(III)I"⟩, 3) := ⟨⟨by decide +kernel, by decide +kernel⟩, List.mem_of_getElem? (i := 258) (by decide +kernel), List.mem_of_getElem? (i := 1101) (by decide +kernel), List.mem_of_getElem? (i := 1102) (by decide +kernel)⟩
theorem lw_p37 : lw_okq (⟨"BoxBearers$Sharing", "leastBits", "(II)I"⟩, 3) := ⟨⟨by decide +kernel, by decide +kernel⟩, List.mem_of_getElem? (i := 258) (by decide +kernel), List.mem_of_getElem? (i := 1113) (by decide +kernel), List.mem_of_getElem? (i := 1114) (by decide +kernel)⟩
theorem lw_p38 : lw_okq (⟨"BoxBearers$Land", "goAlong", "(IIII[I)V"⟩, 15) := ⟨⟨by decide +kernel, by decide +kernel⟩, List.mem_of_getElem? (i := 35) (by decide +kernel), List.mem_of_getElem? (i := 1156) (by decide +kernel), List.mem_of_getElem? (i := 1157) (by decide +kernel)⟩
theorem lw_p39 : lw_okq (⟨"BoxBearers$Scale", "agreesWith", "(II)Z"⟩, 9) := ⟨⟨by decide +kernel, by decide +kernel⟩, List.mem_of_getElem? (i := 274) (by decide +kernel), List.mem_of_getElem? (i := 1183) (by decide +kernel), List.mem_of_getElem? (i := 1184) (by decide +kernel)⟩
theorem lw_p40 : lw_okq (⟨"BoxBearers$Scale", "unlikeOf", "(I)I"⟩, 9) := ⟨⟨by decide +kernel, by decide +kernel⟩, List.mem_of_getElem? (i := 274) (by decide +kernel), List.mem_of_getElem? (i := 1218) (by decide +kernel), List.mem_of_getElem? (i := 1219) (by decide +kernel)⟩
theorem lw_p41 : lw_okq (⟨"BoxBearers$Scale", "weightLater", "(II)I"⟩, 9) := ⟨⟨by decide +kernel, by decide +kernel⟩, List.mem_of_getElem? (i := 274) (by decide +kernel), List.mem_of_getElem? (i := 1223) (by decide +kernel), List.mem_of_getElem? (i := 1224) (by decide +kernel)⟩
theorem lw_p42 : lw_okq (⟨"BoxBearers$Scale", "mark", "(I)V"⟩, 9) := ⟨⟨by decide +kernel, by decide +kernel⟩, List.mem_of_getElem? (i := 274) (by decide +kernel), List.mem_of_getElem? (i := 1227) (by decide +kernel), List.mem_of_getElem? (i := 1228) (by decide +kernel)⟩
theorem lw_p43 : lw_okq (⟨"BoxBearers", "chanceBorne", "(IIII)I"⟩, 19) := ⟨⟨by decide +kernel, by decide +kernel⟩, List.mem_of_getElem? (i := 27) (by decide +kernel), List.mem_of_getElem? (i := 1238) (by decide +kernel), List.mem_of_getElem? (i := 1239) (by decide +kernel)⟩
theorem lw_p44 : lw_okq (⟨"BoxBearers", "coupleRests", "(IIII)Z"⟩, 19) := ⟨⟨by decide +kernel, by decide +kernel⟩, List.mem_of_getElem? (i := 27) (by decide +kernel), List.mem_of_getElem? (i := 1254) (by decide +kernel), List.mem_of_getElem? (i := 1255) (by decide +kernel)⟩
theorem lw_p45 : lw_okq (⟨"BoxBearers", "gainOf", "(IIII)I"⟩, 19) := ⟨⟨by decide +kernel, by decide +kernel⟩, List.mem_of_getElem? (i := 27) (by decide +kernel), List.mem_of_getElem? (i := 1258) (by decide +kernel), List.mem_of_getElem? (i := 1259) (by decide +kernel)⟩
theorem lw_p46 : lw_okq (⟨"BoxBearers", "drawAct", "()V"⟩, 19) := ⟨⟨by decide +kernel, by decide +kernel⟩, List.mem_of_getElem? (i := 27) (by decide +kernel), List.mem_of_getElem? (i := 1270) (by decide +kernel), List.mem_of_getElem? (i := 1271) (by decide +kernel)⟩
theorem lw_p47 : lw_okq (⟨"BoxBearersModel", "lays", "(I)V"⟩, 66) := ⟨⟨by decide +kernel, by decide +kernel⟩, List.mem_of_getElem? (i := 1338) (by decide +kernel), List.mem_of_getElem? (i := 1552) (by decide +kernel), List.mem_of_getElem? (i := 1553) (by decide +kernel)⟩
def lw_privs_3 : List (MethodName × Nat) := [(⟨"BoxBearers", "firstBorne", "(IZ)I"⟩, 19), (⟨"BoxBearers", "checkTown", "(I)V"⟩, 19), (⟨"BoxBearers$Sharing", "everyone", "()I"⟩, 3), (⟨"BoxBearers$Sharing", "fewestOf", "(II)I"⟩, 3), (⟨"BoxBearers$Sharing", "manyWith", "(III)I"⟩, 3), (⟨"BoxBearers$Sharing", "leastBits", "(II)I"⟩, 3), (⟨"BoxBearers$Land", "goAlong", "(IIII[I)V"⟩, 15), (⟨"BoxBearers$Scale", "agreesWith", "(II)Z"⟩, 9), (⟨"BoxBearers$Scale", "unlikeOf", "(I)I"⟩, 9), (⟨"BoxBearers$Scale", "weightLater", "(II)I"⟩, 9), (⟨"BoxBearers$Scale", "mark", "(I)V"⟩, 9), (⟨"BoxBearers", "chanceBorne", "(IIII)I"⟩, 19), (⟨"BoxBearers", "coupleRests", "(IIII)Z"⟩, 19), (⟨"BoxBearers", "gainOf", "(IIII)I"⟩, 19), (⟨"BoxBearers", "drawAct", "()V"⟩, 19), (⟨"BoxBearersModel", "lays", "(I)V"⟩, 66)]
theorem lw_r3 : ∀ q ∈ lw_privs_3, lw_okq q := List.forall_mem_cons.mpr ⟨lw_p32, List.forall_mem_cons.mpr ⟨lw_p33, List.forall_mem_cons.mpr ⟨lw_p34, List.forall_mem_cons.mpr ⟨lw_p35, List.forall_mem_cons.mpr ⟨lw_p36, List.forall_mem_cons.mpr ⟨lw_p37, List.forall_mem_cons.mpr ⟨lw_p38, List.forall_mem_cons.mpr ⟨lw_p39, List.forall_mem_cons.mpr ⟨lw_p40, List.forall_mem_cons.mpr ⟨lw_p41, List.forall_mem_cons.mpr ⟨lw_p42, List.forall_mem_cons.mpr ⟨lw_p43, List.forall_mem_cons.mpr ⟨lw_p44, List.forall_mem_cons.mpr ⟨lw_p45, List.forall_mem_cons.mpr ⟨lw_p46, List.forall_mem_cons.mpr ⟨lw_p47, fun _ h => absurd h List.not_mem_nil⟩⟩⟩⟩⟩⟩⟩⟩⟩⟩⟩⟩⟩⟩⟩⟩
theorem lw_p48 : lw_okq (⟨"BoxBearersModel", "right", "(ZI)Z"⟩, 66) := ⟨⟨by decide +kernel, by decide +kernel⟩, List.mem_of_getElem? (i := 1338) (by decide +kernel), List.mem_of_getElem? (i := 1560) (by decide +kernel), List.mem_of_getElem? (i := 1561) (by decide +kernel)⟩
theorem lw_p49 : lw_okq (⟨"BoxBearersModel", "goes", "()V"⟩, 66) := ⟨⟨by decide +kernel, by decide +kernel⟩, List.mem_of_getElem? (i := 1338) (by decide +kernel), List.mem_of_getElem? (i := 1564) (by decide +kernel), List.mem_of_getElem? (i := 1565) (by decide +kernel)⟩
theorem lw_p50 : lw_okq (⟨"BoxBearersModel", "byteAt", "(I)I"⟩, 66) := ⟨⟨by decide +kernel, by decide +kernel⟩, List.mem_of_getElem? (i := 1338) (by decide +kernel), List.mem_of_getElem? (i := 1568) (by decide +kernel), List.mem_of_getElem? (i := 1569) (by decide +kernel)⟩
theorem lw_p51 : lw_okq (⟨"BoxBearersModel", "isGood", "()Z"⟩, 66) := ⟨⟨by decide +kernel, by decide +kernel⟩, List.mem_of_getElem? (i := 1338) (by decide +kernel), List.mem_of_getElem? (i := 1578) (by decide +kernel), List.mem_of_getElem? (i := 1579) (by decide +kernel)⟩
theorem lw_p52 : lw_okq (⟨"BoxBearersModel", "line", "()V"⟩, 66) := ⟨⟨by decide +kernel, by decide +kernel⟩, List.mem_of_getElem? (i := 1338) (by decide +kernel), List.mem_of_getElem? (i := 1582) (by decide +kernel), List.mem_of_getElem? (i := 1583) (by decide +kernel)⟩
theorem lw_p53 : lw_okq (⟨"BoxBearersModel", "knownWord", "()I"⟩, 66) := ⟨⟨by decide +kernel, by decide +kernel⟩, List.mem_of_getElem? (i := 1338) (by decide +kernel), List.mem_of_getElem? (i := 1586) (by decide +kernel), List.mem_of_getElem? (i := 1587) (by decide +kernel)⟩
theorem lw_p54 : lw_okq (⟨"BoxBearersModel", "begins", "(ZZZ)Z"⟩, 66) := ⟨⟨by decide +kernel, by decide +kernel⟩, List.mem_of_getElem? (i := 1338) (by decide +kernel), List.mem_of_getElem? (i := 1597) (by decide +kernel), List.mem_of_getElem? (i := 1598) (by decide +kernel)⟩
theorem lw_p55 : lw_okq (⟨"BoxBearersModel", "wrong", "(I)V"⟩, 66) := ⟨⟨by decide +kernel, by decide +kernel⟩, List.mem_of_getElem? (i := 1338) (by decide +kernel), List.mem_of_getElem? (i := 1601) (by decide +kernel), List.mem_of_getElem? (i := 1602) (by decide +kernel)⟩
theorem lw_p56 : lw_okq (⟨"BoxBearersModel", "number", "(II)I"⟩, 66) := ⟨⟨by decide +kernel, by decide +kernel⟩, List.mem_of_getElem? (i := 1338) (by decide +kernel), List.mem_of_getElem? (i := 1605) (by decide +kernel), List.mem_of_getElem? (i := 1606) (by decide +kernel)⟩
theorem lw_p57 : lw_okq (⟨"BoxBearersModel", "readsRoad", "()V"⟩, 66) := ⟨⟨by decide +kernel, by decide +kernel⟩, List.mem_of_getElem? (i := 1338) (by decide +kernel), List.mem_of_getElem? (i := 1609) (by decide +kernel), List.mem_of_getElem? (i := 1610) (by decide +kernel)⟩
theorem lw_p58 : lw_okq (⟨"BoxBearersModel", "townsNow", "()I"⟩, 66) := ⟨⟨by decide +kernel, by decide +kernel⟩, List.mem_of_getElem? (i := 1338) (by decide +kernel), List.mem_of_getElem? (i := 1613) (by decide +kernel), List.mem_of_getElem? (i := 1614) (by decide +kernel)⟩
theorem lw_p59 : lw_okq (⟨"BoxBearersModel", "isOneOf", "(I)Z"⟩, 66) := ⟨⟨by decide +kernel, by decide +kernel⟩, List.mem_of_getElem? (i := 1338) (by decide +kernel), List.mem_of_getElem? (i := 1617) (by decide +kernel), List.mem_of_getElem? (i := 1618) (by decide +kernel)⟩
theorem lw_p60 : lw_okq (⟨"BoxBearersModel", "readsBox", "()V"⟩, 66) := ⟨⟨by decide +kernel, by decide +kernel⟩, List.mem_of_getElem? (i := 1338) (by decide +kernel), List.mem_of_getElem? (i := 1621) (by decide +kernel), List.mem_of_getElem? (i := 1622) (by decide +kernel)⟩
theorem lw_p61 : lw_okq (⟨"BoxBearersModel", "readsBearer", "()V"⟩, 66) := ⟨⟨by decide +kernel, by decide +kernel⟩, List.mem_of_getElem? (i := 1338) (by decide +kernel), List.mem_of_getElem? (i := 1625) (by decide +kernel), List.mem_of_getElem? (i := 1626) (by decide +kernel)⟩
theorem lw_p62 : lw_okq (⟨"BoxBearersModel", "expression", "()V"⟩, 66) := ⟨⟨by decide +kernel, by decide +kernel⟩, List.mem_of_getElem? (i := 1338) (by decide +kernel), List.mem_of_getElem? (i := 1629) (by decide +kernel), List.mem_of_getElem? (i := 1630) (by decide +kernel)⟩
theorem lw_p63 : lw_okq (⟨"BoxBearersModel", "deeper", "()V"⟩, 66) := ⟨⟨by decide +kernel, by decide +kernel⟩, List.mem_of_getElem? (i := 1338) (by decide +kernel), List.mem_of_getElem? (i := 1633) (by decide +kernel), List.mem_of_getElem? (i := 1634) (by decide +kernel)⟩
def lw_privs_4 : List (MethodName × Nat) := [(⟨"BoxBearersModel", "right", "(ZI)Z"⟩, 66), (⟨"BoxBearersModel", "goes", "()V"⟩, 66), (⟨"BoxBearersModel", "byteAt", "(I)I"⟩, 66), (⟨"BoxBearersModel", "isGood", "()Z"⟩, 66), (⟨"BoxBearersModel", "line", "()V"⟩, 66), (⟨"BoxBearersModel", "knownWord", "()I"⟩, 66), (⟨"BoxBearersModel", "begins", "(ZZZ)Z"⟩, 66), (⟨"BoxBearersModel", "wrong", "(I)V"⟩, 66), (⟨"BoxBearersModel", "number", "(II)I"⟩, 66), (⟨"BoxBearersModel", "readsRoad", "()V"⟩, 66), (⟨"BoxBearersModel", "townsNow", "()I"⟩, 66), (⟨"BoxBearersModel", "isOneOf", "(I)Z"⟩, 66), (⟨"BoxBearersModel", "readsBox", "()V"⟩, 66), (⟨"BoxBearersModel", "readsBearer", "()V"⟩, 66), (⟨"BoxBearersModel", "expression", "()V"⟩, 66), (⟨"BoxBearersModel", "deeper", "()V"⟩, 66)]
theorem lw_r4 : ∀ q ∈ lw_privs_4, lw_okq q := List.forall_mem_cons.mpr ⟨lw_p48, List.forall_mem_cons.mpr ⟨lw_p49, List.forall_mem_cons.mpr ⟨lw_p50, List.forall_mem_cons.mpr ⟨lw_p51, List.forall_mem_cons.mpr ⟨lw_p52, List.forall_mem_cons.mpr ⟨lw_p53, List.forall_mem_cons.mpr ⟨lw_p54, List.forall_mem_cons.mpr ⟨lw_p55, List.forall_mem_cons.mpr ⟨lw_p56, List.forall_mem_cons.mpr ⟨lw_p57, List.forall_mem_cons.mpr ⟨lw_p58, List.forall_mem_cons.mpr ⟨lw_p59, List.forall_mem_cons.mpr ⟨lw_p60, List.forall_mem_cons.mpr ⟨lw_p61, List.forall_mem_cons.mpr ⟨lw_p62, List.forall_mem_cons.mpr ⟨lw_p63, fun _ h => absurd h List.not_mem_nil⟩⟩⟩⟩⟩⟩⟩⟩⟩⟩⟩⟩⟩⟩⟩⟩
theorem lw_p64 : lw_okq (⟨"BoxBearersModel", "isSign", "(I)Z"⟩, 66) := ⟨⟨by decide +kernel, by decide +kernel⟩, List.mem_of_getElem? (i := 1338) (by decide +kernel), List.mem_of_getElem? (i := 1637) (by decide +kernel), List.mem_of_getElem? (i := 1638) (by decide +kernel)⟩
theorem lw_p65 : lw_okq (⟨"BoxBearersModel", "operand", "(Z)V"⟩, 66) := ⟨⟨by decide +kernel, by decide +kernel⟩, List.mem_of_getElem? (i := 1338) (by decide +kernel), List.mem_of_getElem? (i := 1641) (by decide +kernel), List.mem_of_getElem? (i := 1642) (by decide +kernel)⟩
theorem lw_p66 : lw_okq (⟨"BoxBearersModel", "waitsFor", "(I)V"⟩, 66) := ⟨⟨by decide +kernel, by decide +kernel⟩, List.mem_of_getElem? (i := 1338) (by decide +kernel), List.mem_of_getElem? (i := 1645) (by decide +kernel), List.mem_of_getElem? (i := 1646) (by decide +kernel)⟩
theorem lw_p67 : lw_okq (⟨"BoxBearersModel", "part", "()V"⟩, 66) := ⟨⟨by decide +kernel, by decide +kernel⟩, List.mem_of_getElem? (i := 1338) (by decide +kernel), List.mem_of_getElem? (i := 1649) (by decide +kernel), List.mem_of_getElem? (i := 1650) (by decide +kernel)⟩
theorem lw_p68 : lw_okq (⟨"BoxBearersModel", "puts", "(I)V"⟩, 66) := ⟨⟨by decide +kernel, by decide +kernel⟩, List.mem_of_getElem? (i := 1338) (by decide +kernel), List.mem_of_getElem? (i := 1653) (by decide +kernel), List.mem_of_getElem? (i := 1654) (by decide +kernel)⟩
theorem lw_p69 : lw_okq (⟨"BoxBearersModel", "drops", "(I)V"⟩, 66) := ⟨⟨by decide +kernel, by decide +kernel⟩, List.mem_of_getElem? (i := 1338) (by decide +kernel), List.mem_of_getElem? (i := 1657) (by decide +kernel), List.mem_of_getElem? (i := 1658) (by decide +kernel)⟩
theorem lw_p70 : lw_okq (⟨"BoxBearersModel", "isOpened", "()Z"⟩, 66) := ⟨⟨by decide +kernel, by decide +kernel⟩, List.mem_of_getElem? (i := 1338) (by decide +kernel), List.mem_of_getElem? (i := 1667) (by decide +kernel), List.mem_of_getElem? (i := 1668) (by decide +kernel)⟩
theorem lw_p71 : lw_okq (⟨"BoxBearersModel", "closes", "()V"⟩, 66) := ⟨⟨by decide +kernel, by decide +kernel⟩, List.mem_of_getElem? (i := 1338) (by decide +kernel), List.mem_of_getElem? (i := 1671) (by decide +kernel), List.mem_of_getElem? (i := 1672) (by decide +kernel)⟩
theorem lw_p72 : lw_okq (⟨"BoxBearersModel", "need", "(Z)V"⟩, 66) := ⟨⟨by decide +kernel, by decide +kernel⟩, List.mem_of_getElem? (i := 1338) (by decide +kernel), List.mem_of_getElem? (i := 1675) (by decide +kernel), List.mem_of_getElem? (i := 1676) (by decide +kernel)⟩
theorem lw_p73 : lw_okq (⟨"BoxBearersModel", "copies", "([I[I)V"⟩, 66) := ⟨⟨by decide +kernel, by decide +kernel⟩, List.mem_of_getElem? (i := 1338) (by decide +kernel), List.mem_of_getElem? (i := 1679) (by decide +kernel), List.mem_of_getElem? (i := 1680) (by decide +kernel)⟩
theorem lw_p74 : lw_okq (⟨"BoxBearersModel", "borneOnes", "(I)I"⟩, 66) := ⟨⟨by decide +kernel, by decide +kernel⟩, List.mem_of_getElem? (i := 1338) (by decide +kernel), List.mem_of_getElem? (i := 1698) (by decide +kernel), List.mem_of_getElem? (i := 1699) (by decide +kernel)⟩
theorem lw_p75 : lw_okq (⟨"BoxBearersModel", "isBorne", "(II)Z"⟩, 66) := ⟨⟨by decide +kernel, by decide +kernel⟩, List.mem_of_getElem? (i := 1338) (by decide +kernel), List.mem_of_getElem? (i := 1702) (by decide +kernel), List.mem_of_getElem? (i := 1703) (by decide +kernel)⟩
theorem lw_p76 : lw_okq (⟨"BoxBearersModel", "handsAt", "(II)I"⟩, 66) := ⟨⟨by decide +kernel, by decide +kernel⟩, List.mem_of_getElem? (i := 1338) (by decide +kernel), List.mem_of_getElem? (i := 1706) (by decide +kernel), List.mem_of_getElem? (i := 1707) (by decide +kernel)⟩
theorem lw_p77 : lw_okq (⟨"BoxBearersModel", "canBear", "(III)Z"⟩, 66) := ⟨⟨by decide +kernel, by decide +kernel⟩, List.mem_of_getElem? (i := 1338) (by decide +kernel), List.mem_of_getElem? (i := 1710) (by decide +kernel), List.mem_of_getElem? (i := 1711) (by decide +kernel)⟩
theorem lw_p78 : lw_okq (⟨"BoxBearersModel", "mightBy", "(II)I"⟩, 66) := ⟨⟨by decide +kernel, by decide +kernel⟩, List.mem_of_getElem? (i := 1338) (by decide +kernel), List.mem_of_getElem? (i := 1714) (by decide +kernel), List.mem_of_getElem? (i := 1715) (by decide +kernel)⟩
theorem lw_p79 : lw_okq (⟨"BoxBearersModel", "mightOf", "(II)I"⟩, 66) := ⟨⟨by decide +kernel, by decide +kernel⟩, List.mem_of_getElem? (i := 1338) (by decide +kernel), List.mem_of_getElem? (i := 1718) (by decide +kernel), List.mem_of_getElem? (i := 1719) (by decide +kernel)⟩
def lw_privs_5 : List (MethodName × Nat) := [(⟨"BoxBearersModel", "isSign", "(I)Z"⟩, 66), (⟨"BoxBearersModel", "operand", "(Z)V"⟩, 66), (⟨"BoxBearersModel", "waitsFor", "(I)V"⟩, 66), (⟨"BoxBearersModel", "part", "()V"⟩, 66), (⟨"BoxBearersModel", "puts", "(I)V"⟩, 66), (⟨"BoxBearersModel", "drops", "(I)V"⟩, 66), (⟨"BoxBearersModel", "isOpened", "()Z"⟩, 66), (⟨"BoxBearersModel", "closes", "()V"⟩, 66), (⟨"BoxBearersModel", "need", "(Z)V"⟩, 66), (⟨"BoxBearersModel", "copies", "([I[I)V"⟩, 66), (⟨"BoxBearersModel", "borneOnes", "(I)I"⟩, 66), (⟨"BoxBearersModel", "isBorne", "(II)Z"⟩, 66), (⟨"BoxBearersModel", "handsAt", "(II)I"⟩, 66), (⟨"BoxBearersModel", "canBear", "(III)Z"⟩, 66), (⟨"BoxBearersModel", "mightBy", "(II)I"⟩, 66), (⟨"BoxBearersModel", "mightOf", "(II)I"⟩, 66)]
theorem lw_r5 : ∀ q ∈ lw_privs_5, lw_okq q := List.forall_mem_cons.mpr ⟨lw_p64, List.forall_mem_cons.mpr ⟨lw_p65, List.forall_mem_cons.mpr ⟨lw_p66, List.forall_mem_cons.mpr ⟨lw_p67, List.forall_mem_cons.mpr ⟨lw_p68, List.forall_mem_cons.mpr ⟨lw_p69, List.forall_mem_cons.mpr ⟨lw_p70, List.forall_mem_cons.mpr ⟨lw_p71, List.forall_mem_cons.mpr ⟨lw_p72, List.forall_mem_cons.mpr ⟨lw_p73, List.forall_mem_cons.mpr ⟨lw_p74, List.forall_mem_cons.mpr ⟨lw_p75, List.forall_mem_cons.mpr ⟨lw_p76, List.forall_mem_cons.mpr ⟨lw_p77, List.forall_mem_cons.mpr ⟨lw_p78, List.forall_mem_cons.mpr ⟨lw_p79, fun _ h => absurd h List.not_mem_nil⟩⟩⟩⟩⟩⟩⟩⟩⟩⟩⟩⟩⟩⟩⟩⟩
theorem lw_p80 : lw_okq (⟨"BoxBearersModel", "allWeight", "(I)I"⟩, 66) := ⟨⟨by decide +kernel, by decide +kernel⟩, List.mem_of_getElem? (i := 1338) (by decide +kernel), List.mem_of_getElem? (i := 1725) (by decide +kernel), List.mem_of_getElem? (i := 1726) (by decide +kernel)⟩
theorem lw_p81 : lw_okq (⟨"BoxBearersModel", "pairs", "()I"⟩, 66) := ⟨⟨by decide +kernel, by decide +kernel⟩, List.mem_of_getElem? (i := 1338) (by decide +kernel), List.mem_of_getElem? (i := 1729) (by decide +kernel), List.mem_of_getElem? (i := 1730) (by decide +kernel)⟩
theorem lw_p82 : lw_okq (⟨"BoxBearersModel", "isBox", "(I)Z"⟩, 66) := ⟨⟨by decide +kernel, by decide +kernel⟩, List.mem_of_getElem? (i := 1338) (by decide +kernel), List.mem_of_getElem? (i := 1737) (by decide +kernel), List.mem_of_getElem? (i := 1738) (by decide +kernel)⟩
theorem lw_p83 : lw_okq (⟨"BoxBearersModel", "isWhat", "(II)Z"⟩, 66) := ⟨⟨by decide +kernel, by decide +kernel⟩, List.mem_of_getElem? (i := 1338) (by decide +kernel), List.mem_of_getElem? (i := 1741) (by decide +kernel), List.mem_of_getElem? (i := 1742) (by decide +kernel)⟩
theorem lw_p84 : lw_okq (⟨"BoxBearersModel", "townOf", "(II)I"⟩, 66) := ⟨⟨by decide +kernel, by decide +kernel⟩, List.mem_of_getElem? (i := 1338) (by decide +kernel), List.mem_of_getElem? (i := 1745) (by decide +kernel), List.mem_of_getElem? (i := 1746) (by decide +kernel)⟩
theorem lw_p85 : lw_okq (⟨"BoxBearersModel", "leanBy", "(I)I"⟩, 66) := ⟨⟨by decide +kernel, by decide +kernel⟩, List.mem_of_getElem? (i := 1338) (by decide +kernel), List.mem_of_getElem? (i := 1749) (by decide +kernel), List.mem_of_getElem? (i := 1750) (by decide +kernel)⟩
theorem lw_p86 : lw_okq (⟨"BoxBearersModel", "neededFor", "(I)I"⟩, 66) := ⟨⟨by decide +kernel, by decide +kernel⟩, List.mem_of_getElem? (i := 1338) (by decide +kernel), List.mem_of_getElem? (i := 1756) (by decide +kernel), List.mem_of_getElem? (i := 1757) (by decide +kernel)⟩
theorem lw_p87 : lw_okq (⟨"BoxBearersModel", "isBearer", "(I)Z"⟩, 66) := ⟨⟨by decide +kernel, by decide +kernel⟩, List.mem_of_getElem? (i := 1338) (by decide +kernel), List.mem_of_getElem? (i := 1764) (by decide +kernel), List.mem_of_getElem? (i := 1765) (by decide +kernel)⟩
theorem lw_p88 : lw_okq (⟨"BoxBearersModel", "refuses", "(I)I"⟩, 66) := ⟨⟨by decide +kernel, by decide +kernel⟩, List.mem_of_getElem? (i := 1338) (by decide +kernel), List.mem_of_getElem? (i := 1775) (by decide +kernel), List.mem_of_getElem? (i := 1776) (by decide +kernel)⟩
theorem lw_p89 : lw_okq (⟨"BoxBearersModel", "keeps", "()V"⟩, 66) := ⟨⟨by decide +kernel, by decide +kernel⟩, List.mem_of_getElem? (i := 1338) (by decide +kernel), List.mem_of_getElem? (i := 1779) (by decide +kernel), List.mem_of_getElem? (i := 1780) (by decide +kernel)⟩
theorem lw_p90 : lw_okq (⟨"BoxBearersModel", "dayGoes", "(I)V"⟩, 66) := ⟨⟨by decide +kernel, by decide +kernel⟩, List.mem_of_getElem? (i := 1338) (by decide +kernel), List.mem_of_getElem? (i := 1783) (by decide +kernel), List.mem_of_getElem? (i := 1784) (by decide +kernel)⟩
theorem lw_p91 : lw_okq (⟨"BoxBearersModel", "boxGoes", "(II)V"⟩, 66) := ⟨⟨by decide +kernel, by decide +kernel⟩, List.mem_of_getElem? (i := 1338) (by decide +kernel), List.mem_of_getElem? (i := 1787) (by decide +kernel), List.mem_of_getElem? (i := 1788) (by decide +kernel)⟩
theorem lw_p92 : lw_okq (⟨"BoxBearersModel", "asks", "(III)I"⟩, 66) := ⟨⟨by decide +kernel, by decide +kernel⟩, List.mem_of_getElem? (i := 1338) (by decide +kernel), List.mem_of_getElem? (i := 1791) (by decide +kernel), List.mem_of_getElem? (i := 1792) (by decide +kernel)⟩
theorem lw_p93 : lw_okq (⟨"BoxBearersModel", "reckons", "(I)I"⟩, 66) := ⟨⟨by decide +kernel, by decide +kernel⟩, List.mem_of_getElem? (i := 1338) (by decide +kernel), List.mem_of_getElem? (i := 1795) (by decide +kernel), List.mem_of_getElem? (i := 1796) (by decide +kernel)⟩
theorem lw_p94 : lw_okq (⟨"BoxBearersModel", "weighs", "(III)V"⟩, 66) := ⟨⟨by decide +kernel, by decide +kernel⟩, List.mem_of_getElem? (i := 1338) (by decide +kernel), List.mem_of_getElem? (i := 1805) (by decide +kernel), List.mem_of_getElem? (i := 1806) (by decide +kernel)⟩
theorem lw_p95 : lw_okq (⟨"BoxBearersModel", "letsFall", "(II)V"⟩, 66) := ⟨⟨by decide +kernel, by decide +kernel⟩, List.mem_of_getElem? (i := 1338) (by decide +kernel), List.mem_of_getElem? (i := 1809) (by decide +kernel), List.mem_of_getElem? (i := 1810) (by decide +kernel)⟩
def lw_privs_6 : List (MethodName × Nat) := [(⟨"BoxBearersModel", "allWeight", "(I)I"⟩, 66), (⟨"BoxBearersModel", "pairs", "()I"⟩, 66), (⟨"BoxBearersModel", "isBox", "(I)Z"⟩, 66), (⟨"BoxBearersModel", "isWhat", "(II)Z"⟩, 66), (⟨"BoxBearersModel", "townOf", "(II)I"⟩, 66), (⟨"BoxBearersModel", "leanBy", "(I)I"⟩, 66), (⟨"BoxBearersModel", "neededFor", "(I)I"⟩, 66), (⟨"BoxBearersModel", "isBearer", "(I)Z"⟩, 66), (⟨"BoxBearersModel", "refuses", "(I)I"⟩, 66), (⟨"BoxBearersModel", "keeps", "()V"⟩, 66), (⟨"BoxBearersModel", "dayGoes", "(I)V"⟩, 66), (⟨"BoxBearersModel", "boxGoes", "(II)V"⟩, 66), (⟨"BoxBearersModel", "asks", "(III)I"⟩, 66), (⟨"BoxBearersModel", "reckons", "(I)I"⟩, 66), (⟨"BoxBearersModel", "weighs", "(III)V"⟩, 66), (⟨"BoxBearersModel", "letsFall", "(II)V"⟩, 66)]
theorem lw_r6 : ∀ q ∈ lw_privs_6, lw_okq q := List.forall_mem_cons.mpr ⟨lw_p80, List.forall_mem_cons.mpr ⟨lw_p81, List.forall_mem_cons.mpr ⟨lw_p82, List.forall_mem_cons.mpr ⟨lw_p83, List.forall_mem_cons.mpr ⟨lw_p84, List.forall_mem_cons.mpr ⟨lw_p85, List.forall_mem_cons.mpr ⟨lw_p86, List.forall_mem_cons.mpr ⟨lw_p87, List.forall_mem_cons.mpr ⟨lw_p88, List.forall_mem_cons.mpr ⟨lw_p89, List.forall_mem_cons.mpr ⟨lw_p90, List.forall_mem_cons.mpr ⟨lw_p91, List.forall_mem_cons.mpr ⟨lw_p92, List.forall_mem_cons.mpr ⟨lw_p93, List.forall_mem_cons.mpr ⟨lw_p94, List.forall_mem_cons.mpr ⟨lw_p95, fun _ h => absurd h List.not_mem_nil⟩⟩⟩⟩⟩⟩⟩⟩⟩⟩⟩⟩⟩⟩⟩⟩
theorem lw_p96 : lw_okq (⟨"BoxBearersModel", "tires", "(II)V"⟩, 66) := ⟨⟨by decide +kernel, by decide +kernel⟩, List.mem_of_getElem? (i := 1338) (by decide +kernel), List.mem_of_getElem? (i := 1813) (by decide +kernel), List.mem_of_getElem? (i := 1814) (by decide +kernel)⟩
theorem lw_p97 : lw_okq (⟨"BoxBearersModel", "talked", "(III)I"⟩, 66) := ⟨⟨by decide +kernel, by decide +kernel⟩, List.mem_of_getElem? (i := 1338) (by decide +kernel), List.mem_of_getElem? (i := 1833) (by decide +kernel), List.mem_of_getElem? (i := 1834) (by decide +kernel)⟩
theorem lw_p98 : lw_okq (⟨"BoxBearersModel", "isDays", "(III)Z"⟩, 66) := ⟨⟨by decide +kernel, by decide +kernel⟩, List.mem_of_getElem? (i := 1338) (by decide +kernel), List.mem_of_getElem? (i := 1845) (by decide +kernel), List.mem_of_getElem? (i := 1846) (by decide +kernel)⟩
theorem lw_p99 : lw_okq (⟨"BoxBearersModel", "goesTo", "(I)V"⟩, 66) := ⟨⟨by decide +kernel, by decide +kernel⟩, List.mem_of_getElem? (i := 1338) (by decide +kernel), List.mem_of_getElem? (i := 1849) (by decide +kernel), List.mem_of_getElem? (i := 1850) (by decide +kernel)⟩
theorem lw_p100 : lw_okq (⟨"BoxBearersModel", "tries", "()V"⟩, 66) := ⟨⟨by decide +kernel, by decide +kernel⟩, List.mem_of_getElem? (i := 1338) (by decide +kernel), List.mem_of_getElem? (i := 1853) (by decide +kernel), List.mem_of_getElem? (i := 1854) (by decide +kernel)⟩
theorem lw_p101 : lw_okq (⟨"BoxBearersModel", "daysGo", "(I)V"⟩, 66) := ⟨⟨by decide +kernel, by decide +kernel⟩, List.mem_of_getElem? (i := 1338) (by decide +kernel), List.mem_of_getElem? (i := 1857) (by decide +kernel), List.mem_of_getElem? (i := 1858) (by decide +kernel)⟩
theorem lw_p102 : lw_okq (⟨"BoxBearersModel", "borneIn", "(IZ)I"⟩, 66) := ⟨⟨by decide +kernel, by decide +kernel⟩, List.mem_of_getElem? (i := 1338) (by decide +kernel), List.mem_of_getElem? (i := 1873) (by decide +kernel), List.mem_of_getElem? (i := 1874) (by decide +kernel)⟩
theorem lw_p103 : lw_okq (⟨"BoxBearersModel", "isTown", "(I)Z"⟩, 66) := ⟨⟨by decide +kernel, by decide +kernel⟩, List.mem_of_getElem? (i := 1338) (by decide +kernel), List.mem_of_getElem? (i := 1893) (by decide +kernel), List.mem_of_getElem? (i := 1894) (by decide +kernel)⟩
theorem lw_p104 : lw_okq (⟨"BoxBearersModel", "fewestOf", "(II)I"⟩, 66) := ⟨⟨by decide +kernel, by decide +kernel⟩, List.mem_of_getElem? (i := 1338) (by decide +kernel), List.mem_of_getElem? (i := 1902) (by decide +kernel), List.mem_of_getElem? (i := 1903) (by decide +kernel)⟩
theorem lw_p105 : lw_okq (⟨"BoxBearersModel", "laysWays", "(II)V"⟩, 66) := ⟨⟨by decide +kernel, by decide +kernel⟩, List.mem_of_getElem? (i := 1338) (by decide +kernel), List.mem_of_getElem? (i := 1922) (by decide +kernel), List.mem_of_getElem? (i := 1923) (by decide +kernel)⟩
theorem lw_p106 : lw_okq (⟨"BoxBearersModel", "isSeen", "()Z"⟩, 66) := ⟨⟨by decide +kernel, by decide +kernel⟩, List.mem_of_getElem? (i := 1338) (by decide +kernel), List.mem_of_getElem? (i := 1954) (by decide +kernel), List.mem_of_getElem? (i := 1955) (by decide +kernel)⟩
theorem lw_p107 : lw_okq (⟨"BoxBearersModel", "isGuess", "(I)Z"⟩, 66) := ⟨⟨by decide +kernel, by decide +kernel⟩, List.mem_of_getElem? (i := 1338) (by decide +kernel), List.mem_of_getElem? (i := 1958) (by decide +kernel), List.mem_of_getElem? (i := 1959) (by decide +kernel)⟩
theorem lw_p108 : lw_okq (⟨"BoxBearersModel", "gains", "(IIII)I"⟩, 66) := ⟨⟨by decide +kernel, by decide +kernel⟩, List.mem_of_getElem? (i := 1338) (by decide +kernel), List.mem_of_getElem? (i := 1974) (by decide +kernel), List.mem_of_getElem? (i := 1975) (by decide +kernel)⟩
theorem lw_p109 : lw_okq (⟨"BoxBearersModel", "happens", "()V"⟩, 66) := ⟨⟨by decide +kernel, by decide +kernel⟩, List.mem_of_getElem? (i := 1338) (by decide +kernel), List.mem_of_getElem? (i := 1982) (by decide +kernel), List.mem_of_getElem? (i := 1983) (by decide +kernel)⟩
theorem lw_p110 : lw_okq (⟨"BoxBearersModel", "draw", "(I)I"⟩, 66) := ⟨⟨by decide +kernel, by decide +kernel⟩, List.mem_of_getElem? (i := 1338) (by decide +kernel), List.mem_of_getElem? (i := 1986) (by decide +kernel), List.mem_of_getElem? (i := 1987) (by decide +kernel)⟩
def lw_privs_7 : List (MethodName × Nat) := [(⟨"BoxBearersModel", "tires", "(II)V"⟩, 66), (⟨"BoxBearersModel", "talked", "(III)I"⟩, 66), (⟨"BoxBearersModel", "isDays", "(III)Z"⟩, 66), (⟨"BoxBearersModel", "goesTo", "(I)V"⟩, 66), (⟨"BoxBearersModel", "tries", "()V"⟩, 66), (⟨"BoxBearersModel", "daysGo", "(I)V"⟩, 66), (⟨"BoxBearersModel", "borneIn", "(IZ)I"⟩, 66), (⟨"BoxBearersModel", "isTown", "(I)Z"⟩, 66), (⟨"BoxBearersModel", "fewestOf", "(II)I"⟩, 66), (⟨"BoxBearersModel", "laysWays", "(II)V"⟩, 66), (⟨"BoxBearersModel", "isSeen", "()Z"⟩, 66), (⟨"BoxBearersModel", "isGuess", "(I)Z"⟩, 66), (⟨"BoxBearersModel", "gains", "(IIII)I"⟩, 66), (⟨"BoxBearersModel", "happens", "()V"⟩, 66), (⟨"BoxBearersModel", "draw", "(I)I"⟩, 66)]
theorem lw_r7 : ∀ q ∈ lw_privs_7, lw_okq q := List.forall_mem_cons.mpr ⟨lw_p96, List.forall_mem_cons.mpr ⟨lw_p97, List.forall_mem_cons.mpr ⟨lw_p98, List.forall_mem_cons.mpr ⟨lw_p99, List.forall_mem_cons.mpr ⟨lw_p100, List.forall_mem_cons.mpr ⟨lw_p101, List.forall_mem_cons.mpr ⟨lw_p102, List.forall_mem_cons.mpr ⟨lw_p103, List.forall_mem_cons.mpr ⟨lw_p104, List.forall_mem_cons.mpr ⟨lw_p105, List.forall_mem_cons.mpr ⟨lw_p106, List.forall_mem_cons.mpr ⟨lw_p107, List.forall_mem_cons.mpr ⟨lw_p108, List.forall_mem_cons.mpr ⟨lw_p109, List.forall_mem_cons.mpr ⟨lw_p110, fun _ h => absurd h List.not_mem_nil⟩⟩⟩⟩⟩⟩⟩⟩⟩⟩⟩⟩⟩⟩⟩
def lw_privs : List (MethodName × Nat) := lw_privs_1 ++ (lw_privs_2 ++ (lw_privs_3 ++ (lw_privs_4 ++ (lw_privs_5 ++ (lw_privs_6 ++ (lw_privs_7))))))
def lw_tbl : List Cond := k2_sels lw_privs ++ tables_1
theorem lw_privs_ok : ∀ q ∈ lw_privs, lw_okq q := by
  show ∀ q ∈ lw_privs_1 ++ (lw_privs_2 ++ (lw_privs_3 ++ (lw_privs_4 ++ (lw_privs_5 ++ (lw_privs_6 ++ (lw_privs_7)))))), lw_okq q
  exact List.forall_mem_append.mpr ⟨lw_r1, List.forall_mem_append.mpr ⟨lw_r2, List.forall_mem_append.mpr ⟨lw_r3, List.forall_mem_append.mpr ⟨lw_r4, List.forall_mem_append.mpr ⟨lw_r5, List.forall_mem_append.mpr ⟨lw_r6, lw_r7⟩⟩⟩⟩⟩⟩
def R_law : String := "BoxBearersLaw"
def RX0 : String := "BoxBearers$Draws"
def TX0 : u_T := fun k => match k with
  | _ => ("BoxBearers$Draws", "seed", "I", false)
def tyX0 : Nat → FieldType := fun k => match k with
  | _ => .int
theorem nmX0 : ∀ a, a < 1 → ∀ b, b < 1 → a ≠ b → (TX0 a).2.1 ≠ (TX0 b).2.1 := by decide +kernel
theorem tyX0_ok : ∀ k, k < 1 → parseFieldDescriptor (TX0 k).2.2.1 = some (tyX0 k) := by decide +kernel
def RX1 : String := "BoxBearers$Land"
def TX1 : u_T := fun k => match k with
  | 0 => ("BoxBearers$Land", "towns", "I", false)
  | 1 => ("BoxBearers$Land", "roads", "I", false)
  | 2 => ("BoxBearers$Land", "roadFrom", "[I", true)
  | 3 => ("BoxBearers$Land", "roadTo", "[I", true)
  | 4 => ("BoxBearers$Land", "stairs", "[I", true)
  | 5 => ("BoxBearers$Land", "boxes", "I", false)
  | 6 => ("BoxBearers$Land", "weight", "[I", true)
  | 7 => ("BoxBearers$Land", "stops", "[I", true)
  | 8 => ("BoxBearers$Land", "routes", "[I", true)
  | 9 => ("BoxBearers$Land", "bearers", "I", false)
  | 10 => ("BoxBearers$Land", "strength", "[I", true)
  | 11 => ("BoxBearers$Land", "height", "[I", true)
  | 12 => ("BoxBearers$Land", "firstBox", "[I", true)
  | 13 => ("BoxBearers$Land", "talk", "LBoxBearers$Rule;", true)
  | _ => ("BoxBearers$Land", "falls", "LBoxBearers$Rule;", true)
def tyX1 : Nat → FieldType := fun k => match k with
  | 0 => .int
  | 1 => .int
  | 2 => .array .int
  | 3 => .array .int
  | 4 => .array .int
  | 5 => .int
  | 6 => .array .int
  | 7 => .array .int
  | 8 => .array .int
  | 9 => .int
  | 10 => .array .int
  | 11 => .array .int
  | 12 => .array .int
  | 13 => .object "BoxBearers$Rule"
  | _ => .object "BoxBearers$Rule"
theorem nmX1 : ∀ a, a < 15 → ∀ b, b < 15 → a ≠ b → (TX1 a).2.1 ≠ (TX1 b).2.1 := by decide +kernel
theorem tyX1_ok : ∀ k, k < 15 → parseFieldDescriptor (TX1 k).2.2.1 = some (tyX1 k) := by decide +kernel
def RX2 : String := "BoxBearers$Past"
def TX2 : u_T := fun k => match k with
  | 0 => ("BoxBearers$Past", "many", "I", false)
  | _ => ("BoxBearers$Past", "rows", "[I", true)
def tyX2 : Nat → FieldType := fun k => match k with
  | 0 => .int
  | _ => .array .int
theorem nmX2 : ∀ a, a < 2 → ∀ b, b < 2 → a ≠ b → (TX2 a).2.1 ≠ (TX2 b).2.1 := by decide +kernel
theorem tyX2_ok : ∀ k, k < 2 → parseFieldDescriptor (TX2 k).2.2.1 = some (tyX2 k) := by decide +kernel
def RX3 : String := "BoxBearers$Reader"
def TX3 : u_T := fun k => match k with
  | 0 => ("BoxBearers$Reader", "text", "[B", true)
  | 1 => ("BoxBearers$Reader", "draft", "LBoxBearers$Land;", true)
  | 2 => ("BoxBearers$Reader", "length", "I", false)
  | 3 => ("BoxBearers$Reader", "start", "I", false)
  | 4 => ("BoxBearers$Reader", "end", "I", false)
  | 5 => ("BoxBearers$Reader", "kind", "I", false)
  | 6 => ("BoxBearers$Reader", "number", "I", false)
  | 7 => ("BoxBearers$Reader", "townsTold", "Z", false)
  | 8 => ("BoxBearers$Reader", "townNamed", "Z", false)
  | 9 => ("BoxBearers$Reader", "fault", "I", false)
  | _ => ("BoxBearers$Reader", "place", "I", false)
def tyX3 : Nat → FieldType := fun k => match k with
  | 0 => .array .byte
  | 1 => .object "BoxBearers$Land"
  | 2 => .int
  | 3 => .int
  | 4 => .int
  | 5 => .int
  | 6 => .int
  | 7 => .boolean
  | 8 => .boolean
  | 9 => .int
  | _ => .int
theorem nmX3 : ∀ a, a < 11 → ∀ b, b < 11 → a ≠ b → (TX3 a).2.1 ≠ (TX3 b).2.1 := by decide +kernel
theorem tyX3_ok : ∀ k, k < 11 → parseFieldDescriptor (TX3 k).2.2.1 = some (tyX3 k) := by decide +kernel
def RX4 : String := "BoxBearers$Rule"
def TX4 : u_T := fun k => match k with
  | 0 => ("BoxBearers$Rule", "told", "Z", false)
  | 1 => ("BoxBearers$Rule", "many", "I", false)
  | 2 => ("BoxBearers$Rule", "steps", "[I", true)
  | _ => ("BoxBearers$Rule", "waiting", "[I", true)
def tyX4 : Nat → FieldType := fun k => match k with
  | 0 => .boolean
  | 1 => .int
  | 2 => .array .int
  | _ => .array .int
theorem nmX4 : ∀ a, a < 4 → ∀ b, b < 4 → a ≠ b → (TX4 a).2.1 ≠ (TX4 b).2.1 := by decide +kernel
theorem tyX4_ok : ∀ k, k < 4 → parseFieldDescriptor (TX4 k).2.2.1 = some (tyX4 k) := by decide +kernel
def RX5 : String := "BoxBearers$Scale"
def TX5 : u_T := fun k => match k with
  | 0 => ("BoxBearers$Scale", "now", "LBoxBearers$State;", true)
  | 1 => ("BoxBearers$Scale", "future", "LBoxBearers$State;", true)
  | 2 => ("BoxBearers$Scale", "seen", "LBoxBearers$Seen;", true)
  | 3 => ("BoxBearers$Scale", "fits", "[I", true)
  | 4 => ("BoxBearers$Scale", "fitting", "[I", true)
  | 5 => ("BoxBearers$Scale", "marks", "[I", true)
  | 6 => ("BoxBearers$Scale", "many", "I", false)
  | 7 => ("BoxBearers$Scale", "mostUnlike", "I", false)
  | _ => ("BoxBearers$Scale", "howUnlike", "I", false)
def tyX5 : Nat → FieldType := fun k => match k with
  | 0 => .object "BoxBearers$State"
  | 1 => .object "BoxBearers$State"
  | 2 => .object "BoxBearers$Seen"
  | 3 => .array .int
  | 4 => .array .int
  | 5 => .array .int
  | 6 => .int
  | 7 => .int
  | _ => .int
theorem nmX5 : ∀ a, a < 9 → ∀ b, b < 9 → a ≠ b → (TX5 a).2.1 ≠ (TX5 b).2.1 := by decide +kernel
theorem tyX5_ok : ∀ k, k < 9 → parseFieldDescriptor (TX5 k).2.2.1 = some (tyX5 k) := by decide +kernel
def RX6 : String := "BoxBearers$Seen"
def TX6 : u_T := fun k => match k with
  | 0 => ("BoxBearers$Seen", "many", "I", false)
  | 1 => ("BoxBearers$Seen", "boxes", "[I", true)
  | 2 => ("BoxBearers$Seen", "days", "[I", true)
  | _ => ("BoxBearers$Seen", "weights", "[I", true)
def tyX6 : Nat → FieldType := fun k => match k with
  | 0 => .int
  | 1 => .array .int
  | 2 => .array .int
  | _ => .array .int
theorem nmX6 : ∀ a, a < 4 → ∀ b, b < 4 → a ≠ b → (TX6 a).2.1 ≠ (TX6 b).2.1 := by decide +kernel
theorem tyX6_ok : ∀ k, k < 4 → parseFieldDescriptor (TX6 k).2.2.1 = some (tyX6 k) := by decide +kernel
def RX7 : String := "BoxBearers$Sharing"
def TX7 : u_T := fun k => match k with
  | 0 => ("BoxBearers$Sharing", "now", "LBoxBearers$State;", true)
  | 1 => ("BoxBearers$Sharing", "might", "[I", true)
  | _ => ("BoxBearers$Sharing", "fewest", "[I", true)
def tyX7 : Nat → FieldType := fun k => match k with
  | 0 => .object "BoxBearers$State"
  | 1 => .array .int
  | _ => .array .int
theorem nmX7 : ∀ a, a < 3 → ∀ b, b < 3 → a ≠ b → (TX7 a).2.1 ≠ (TX7 b).2.1 := by decide +kernel
theorem tyX7_ok : ∀ k, k < 3 → parseFieldDescriptor (TX7 k).2.2.1 = some (tyX7 k) := by decide +kernel
def RX8 : String := "BoxBearers$State"
def TX8 : u_T := fun k => match k with
  | 0 => ("BoxBearers$State", "land", "LBoxBearers$Land;", true)
  | 1 => ("BoxBearers$State", "day", "I", false)
  | 2 => ("BoxBearers$State", "weight", "[I", true)
  | 3 => ("BoxBearers$State", "place", "[I", true)
  | 4 => ("BoxBearers$State", "under", "[I", true)
  | 5 => ("BoxBearers$State", "tired", "[I", true)
  | 6 => ("BoxBearers$State", "fell", "I", false)
  | 7 => ("BoxBearers$State", "carried", "I", false)
  | _ => ("BoxBearers$State", "values", "[I", true)
def tyX8 : Nat → FieldType := fun k => match k with
  | 0 => .object "BoxBearers$Land"
  | 1 => .int
  | 2 => .array .int
  | 3 => .array .int
  | 4 => .array .int
  | 5 => .array .int
  | 6 => .int
  | 7 => .int
  | _ => .array .int
theorem nmX8 : ∀ a, a < 9 → ∀ b, b < 9 → a ≠ b → (TX8 a).2.1 ≠ (TX8 b).2.1 := by decide +kernel
theorem tyX8_ok : ∀ k, k < 9 → parseFieldDescriptor (TX8 k).2.2.1 = some (tyX8 k) := by decide +kernel
def RX9 : String := "BoxBearers"
def TX9 : u_T := fun k => match k with
  | 0 => ("BoxBearers", "tape", "[B", true)
  | 1 => ("BoxBearers", "tapeLength", "I", false)
  | 2 => ("BoxBearers", "faultPlace", "I", false)
  | 3 => ("BoxBearers", "status", "[I", true)
  | 4 => ("BoxBearers", "land", "LBoxBearers$Land;", true)
  | 5 => ("BoxBearers", "draft", "LBoxBearers$Land;", true)
  | 6 => ("BoxBearers", "reader", "LBoxBearers$Reader;", true)
  | 7 => ("BoxBearers", "now", "LBoxBearers$State;", true)
  | 8 => ("BoxBearers", "future", "LBoxBearers$State;", true)
  | 9 => ("BoxBearers", "past", "LBoxBearers$Past;", true)
  | 10 => ("BoxBearers", "seen", "LBoxBearers$Seen;", true)
  | 11 => ("BoxBearers", "imageKept", "Z", false)
  | 12 => ("BoxBearers", "imageState", "LBoxBearers$State;", true)
  | 13 => ("BoxBearers", "imagePast", "LBoxBearers$Past;", true)
  | 14 => ("BoxBearers", "imageSeen", "LBoxBearers$Seen;", true)
  | 15 => ("BoxBearers", "sharing", "LBoxBearers$Sharing;", true)
  | 16 => ("BoxBearers", "scale", "LBoxBearers$Scale;", true)
  | 17 => ("BoxBearers", "draws", "LBoxBearers$Draws;", true)
  | _ => ("BoxBearers", "far", "[I", true)
def tyX9 : Nat → FieldType := fun k => match k with
  | 0 => .array .byte
  | 1 => .int
  | 2 => .int
  | 3 => .array .int
  | 4 => .object "BoxBearers$Land"
  | 5 => .object "BoxBearers$Land"
  | 6 => .object "BoxBearers$Reader"
  | 7 => .object "BoxBearers$State"
  | 8 => .object "BoxBearers$State"
  | 9 => .object "BoxBearers$Past"
  | 10 => .object "BoxBearers$Seen"
  | 11 => .boolean
  | 12 => .object "BoxBearers$State"
  | 13 => .object "BoxBearers$Past"
  | 14 => .object "BoxBearers$Seen"
  | 15 => .object "BoxBearers$Sharing"
  | 16 => .object "BoxBearers$Scale"
  | 17 => .object "BoxBearers$Draws"
  | _ => .array .int
theorem nmX9 : ∀ a, a < 19 → ∀ b, b < 19 → a ≠ b → (TX9 a).2.1 ≠ (TX9 b).2.1 := by decide +kernel
theorem tyX9_ok : ∀ k, k < 19 → parseFieldDescriptor (TX9 k).2.2.1 = some (tyX9 k) := by decide +kernel
def RX10 : String := "BoxBearersModel"
def TX10 : u_T := fun k => match k with
  | 0 => ("BoxBearersModel", "thrown", "I", false)
  | 1 => ("BoxBearersModel", "towns", "I", false)
  | 2 => ("BoxBearersModel", "roads", "I", false)
  | 3 => ("BoxBearersModel", "boxes", "I", false)
  | 4 => ("BoxBearersModel", "bearers", "I", false)
  | 5 => ("BoxBearersModel", "talkAt", "I", false)
  | 6 => ("BoxBearersModel", "fallsAt", "I", false)
  | 7 => ("BoxBearersModel", "stairs", "[I", true)
  | 8 => ("BoxBearersModel", "route", "[I", true)
  | 9 => ("BoxBearersModel", "routeLong", "[I", true)
  | 10 => ("BoxBearersModel", "strength", "[I", true)
  | 11 => ("BoxBearersModel", "height", "[I", true)
  | 12 => ("BoxBearersModel", "code", "[I", true)
  | 13 => ("BoxBearersModel", "tape", "[I", true)
  | 14 => ("BoxBearersModel", "taped", "I", false)
  | 15 => ("BoxBearersModel", "faultKind", "I", false)
  | 16 => ("BoxBearersModel", "faultPlace", "I", false)
  | 17 => ("BoxBearersModel", "refused", "[I", true)
  | 18 => ("BoxBearersModel", "long1", "I", false)
  | 19 => ("BoxBearersModel", "next0", "I", false)
  | 20 => ("BoxBearersModel", "sort", "I", false)
  | 21 => ("BoxBearersModel", "place", "I", false)
  | 22 => ("BoxBearersModel", "long0", "I", false)
  | 23 => ("BoxBearersModel", "value", "I", false)
  | 24 => ("BoxBearersModel", "sign", "I", false)
  | 25 => ("BoxBearersModel", "word", "J", false)
  | 26 => ("BoxBearersModel", "isAny", "Z", false)
  | 27 => ("BoxBearersModel", "newTowns", "I", false)
  | 28 => ("BoxBearersModel", "newRoads", "I", false)
  | 29 => ("BoxBearersModel", "newBoxes", "I", false)
  | 30 => ("BoxBearersModel", "newBearers", "I", false)
  | 31 => ("BoxBearersModel", "newTalkAt", "I", false)
  | 32 => ("BoxBearersModel", "newFallsAt", "I", false)
  | 33 => ("BoxBearersModel", "top", "I", false)
  | 34 => ("BoxBearersModel", "waiting", "I", false)
  | 35 => ("BoxBearersModel", "depth", "I", false)
  | 36 => ("BoxBearersModel", "newStairs", "[I", true)
  | 37 => ("BoxBearersModel", "newRoute", "[I", true)
  | 38 => ("BoxBearersModel", "newRouteLong", "[I", true)
  | 39 => ("BoxBearersModel", "newStrength", "[I", true)
  | 40 => ("BoxBearersModel", "newHeight", "[I", true)
  | 41 => ("BoxBearersModel", "newRow", "[I", true)
  | 42 => ("BoxBearersModel", "readCode", "[I", true)
  | 43 => ("BoxBearersModel", "waits", "[I", true)
  | 44 => ("BoxBearersModel", "tested", "[Z", true)
  | 45 => ("BoxBearersModel", "rows", "[I", true)
  | 46 => ("BoxBearersModel", "kept0", "[I", true)
  | 47 => ("BoxBearersModel", "acts", "I", false)
  | 48 => ("BoxBearersModel", "told", "[I", true)
  | 49 => ("BoxBearersModel", "pile", "[I", true)
  | 50 => ("BoxBearersModel", "fell", "I", false)
  | 51 => ("BoxBearersModel", "stunned", "I", false)
  | 52 => ("BoxBearersModel", "carried", "I", false)
  | 53 => ("BoxBearersModel", "fewest", "[I", true)
  | 54 => ("BoxBearersModel", "farFrom", "[I", true)
  | 55 => ("BoxBearersModel", "seenMany", "I", false)
  | 56 => ("BoxBearersModel", "seen", "[I", true)
  | 57 => ("BoxBearersModel", "soon", "[I", true)
  | 58 => ("BoxBearersModel", "soonAll", "[I", true)
  | 59 => ("BoxBearersModel", "its0", "I", false)
  | 60 => ("BoxBearersModel", "hasImage", "Z", false)
  | 61 => ("BoxBearersModel", "imageActs", "I", false)
  | 62 => ("BoxBearersModel", "imageSeen", "I", false)
  | 63 => ("BoxBearersModel", "imageRow", "[I", true)
  | 64 => ("BoxBearersModel", "imageKept", "[I", true)
  | _ => ("BoxBearersModel", "imageSees", "[I", true)
def tyX10 : Nat → FieldType := fun k => match k with
  | 0 => .int
  | 1 => .int
  | 2 => .int
  | 3 => .int
  | 4 => .int
  | 5 => .int
  | 6 => .int
  | 7 => .array .int
  | 8 => .array .int
  | 9 => .array .int
  | 10 => .array .int
  | 11 => .array .int
  | 12 => .array .int
  | 13 => .array .int
  | 14 => .int
  | 15 => .int
  | 16 => .int
  | 17 => .array .int
  | 18 => .int
  | 19 => .int
  | 20 => .int
  | 21 => .int
  | 22 => .int
  | 23 => .int
  | 24 => .int
  | 25 => .long
  | 26 => .boolean
  | 27 => .int
  | 28 => .int
  | 29 => .int
  | 30 => .int
  | 31 => .int
  | 32 => .int
  | 33 => .int
  | 34 => .int
  | 35 => .int
  | 36 => .array .int
  | 37 => .array .int
  | 38 => .array .int
  | 39 => .array .int
  | 40 => .array .int
  | 41 => .array .int
  | 42 => .array .int
  | 43 => .array .int
  | 44 => .array .boolean
  | 45 => .array .int
  | 46 => .array .int
  | 47 => .int
  | 48 => .array .int
  | 49 => .array .int
  | 50 => .int
  | 51 => .int
  | 52 => .int
  | 53 => .array .int
  | 54 => .array .int
  | 55 => .int
  | 56 => .array .int
  | 57 => .array .int
  | 58 => .array .int
  | 59 => .int
  | 60 => .boolean
  | 61 => .int
  | 62 => .int
  | 63 => .array .int
  | 64 => .array .int
  | _ => .array .int
theorem nmX10 : ∀ a, a < 66 → ∀ b, b < 66 → a ≠ b → (TX10 a).2.1 ≠ (TX10 b).2.1 := by decide +kernel
theorem tyX10_ok : ∀ k, k < 66 → parseFieldDescriptor (TX10 k).2.2.1 = some (tyX10 k) := by decide +kernel
def bb_T : List Cond := lw_tbl.filter goodWord
theorem bb_T_good : ∀ w ∈ bb_T, (w.onTables && w.keeps) = true ∨ ∃ ty, w = .arrayClass ty := fun w h => good_of_word (List.mem_filter.mp h).2
theorem bb_T_in : ∀ w ∈ bb_T, w ∈ lw_tbl := fun w h => (List.mem_filter.mp h).1
def bi (i : Nat) (w : Cond) : Bool := decide (lw_tbl[i]? = some w) && goodWord w
theorem bi_spec {i : Nat} {w : Cond} (h : bi i w = true) : w ∈ bb_T := by
  unfold bi at h
  simp only [Bool.and_eq_true, decide_eq_true_eq] at h
  exact List.mem_filter.mpr ⟨List.mem_of_getElem? h.1, h.2⟩
def bi_2 {α : Type} (l : List α) (is : List (List Nat)) (f : α → List Nat → Bool) : Bool := (l.length == is.length) && (l.zip is).all (fun q => f q.1 q.2)
theorem bi_2s {α : Type} {f : α → List Nat → Bool} : ∀ {l : List α} {is : List (List Nat)}, bi_2 l is f = true → ∀ x ∈ l, ∃ i, f x i = true
  | [], _, _, x, hx => by cases hx
  | a :: l, [], h, x, hx => by simp [bi_2] at h
  | a :: l, i :: is, h, x, hx => by
    simp only [bi_2, List.length_cons, List.zip_cons_cons, List.all_cons, Bool.and_eq_true, beq_iff_eq] at h
    rcases List.mem_cons.mp hx with rfl | hx
    · exact ⟨i, h.2.1⟩
    · exact bi_2s (l := l) (is := is) (by simp only [bi_2, Bool.and_eq_true, beq_iff_eq]; exact ⟨by omega, h.2.2⟩) x hx
theorem en_as_mem {α : Type} : ∀ {l : List (Nat × α)} {k : Nat} {v : α}, en_as l k = some v → (k, v) ∈ l
  | [], _, _, h => by cases h
  | (a, b) :: r, k, v, h => by
    unfold en_as at h
    split at h
    · next e => cases h; subst e; exact List.mem_cons_self
    · exact List.mem_cons_of_mem _ (en_as_mem h)
theorem en_get_mem : ∀ {l : List (Nat × Instr × Option (List Bool))} {pc : Nat} {i : Instr} {m : Option (List Bool)}, en_get l pc = some (i, m) → (pc, i, m) ∈ l
  | [], _, _, _, h => by cases h
  | (q, i0, m0) :: r, pc, i, m, h => by
    unfold en_get at h
    split at h
    · next e => cases h; subst e; exact List.mem_cons_self
    · exact List.mem_cons_of_mem _ (en_get_mem h)
theorem bb_getD {α : Type} {l : List (List α)} {c : Nat} {x : α} (h : x ∈ l.getD c []) : ∃ r, l[c]? = some r ∧ x ∈ r := by
  rw [List.getD_eq_getElem?_getD] at h
  cases hc : l[c]? with
  | none => rw [hc] at h; cases h
  | some r => rw [hc] at h; exact ⟨r, rfl, h⟩
def bb_cl : List vw_C := [(RX10, TX10, 66), (RX0, TX0, 1), (RX1, TX1, 15), (RX2, TX2, 2), (RX3, TX3, 11), (RX4, TX4, 4), (RX5, TX5, 9), (RX6, TX6, 4), (RX7, TX7, 3), (RX8, TX8, 9), (RX9, TX9, 19)]
def bb_tl : List (Nat → FieldType) := [tyX10, tyX0, tyX1, tyX2, tyX3, tyX4, tyX5, tyX6, tyX7, tyX8, tyX9]
def bb_ty : Nat → Nat → FieldType := fun ci k => bb_tl.getD ci (fun _ => .int) k
def bb_ow : List String := ["BoxBearersModel", "BoxBearers$Draws", "BoxBearers$Land", "BoxBearers$Past", "BoxBearers$Reader", "BoxBearers$Rule", "BoxBearers$Scale", "BoxBearers$Seen", "BoxBearers$Sharing", "BoxBearers$State", "BoxBearers", "", "BoxBearersLaw", "java/lang/Integer", "java/util/Arrays"]
def bb_own : Nat → String := fun mi => bb_ow.getD (bb_cc mi) ""
def bb_yN_L : List (List MethodName) := [[⟨"BoxBearersModel", "<init>", "()V"⟩, ⟨"BoxBearersModel", "thrown", "()I"⟩, ⟨"BoxBearersModel", "right", "(ZI)Z"⟩, ⟨"BoxBearersModel", "within", "(III)Z"⟩, ⟨"BoxBearersModel", "bounded", "(III)I"⟩, ⟨"BoxBearersModel", "lesser", "(II)I"⟩, ⟨"BoxBearersModel", "greater", "(II)I"⟩, ⟨"BoxBearersModel", "copies", "([I[I)V"⟩, ⟨"BoxBearersModel", "bits", "(I)I"⟩, ⟨"BoxBearersModel", "feed", "(IIIII)I"⟩, ⟨"BoxBearersModel", "lays", "(I)V"⟩, ⟨"BoxBearersModel", "byteAt", "(I)I"⟩, ⟨"BoxBearersModel", "isLetter", "(I)Z"⟩, ⟨"BoxBearersModel", "isDigit", "(I)Z"⟩, ⟨"BoxBearersModel", "goes", "()V"⟩, ⟨"BoxBearersModel", "spelled", "(IIIIII)J"⟩, ⟨"BoxBearersModel", "letters", "(I)J"⟩, ⟨"BoxBearersModel", "knownWord", "()I"⟩, ⟨"BoxBearersModel", "wrong", "(I)V"⟩, ⟨"BoxBearersModel", "isGood", "()Z"⟩, ⟨"BoxBearersModel", "isSign", "(I)Z"⟩, ⟨"BoxBearersModel", "need", "(Z)V"⟩, ⟨"BoxBearersModel", "number", "(II)I"⟩, ⟨"BoxBearersModel", "isOneOf", "(I)Z"⟩, ⟨"BoxBearersModel", "puts", "(I)V"⟩, ⟨"BoxBearersModel", "isOpen", "(I)Z"⟩, ⟨"BoxBearersModel", "strength", "(I)I"⟩, ⟨"BoxBearersModel", "drops", "(I)V"⟩, ⟨"BoxBearersModel", "waitsFor", "(I)V"⟩, ⟨"BoxBearersModel", "part", "()V"⟩, ⟨"BoxBearersModel", "deeper", "()V"⟩, ⟨"BoxBearersModel", "operand", "(Z)V"⟩, ⟨"BoxBearersModel", "isOpened", "()Z"⟩, ⟨"BoxBearersModel", "closes", "()V"⟩, ⟨"BoxBearersModel", "expression", "()V"⟩, ⟨"BoxBearersModel", "begins", "(ZZZ)Z"⟩, ⟨"BoxBearersModel", "townsNow", "()I"⟩, ⟨"BoxBearersModel", "readsRoad", "()V"⟩, ⟨"BoxBearersModel", "readsBox", "()V"⟩, ⟨"BoxBearersModel", "readsBearer", "()V"⟩, ⟨"BoxBearersModel", "line", "()V"⟩, ⟨"BoxBearersModel", "land", "(I)I"⟩, ⟨"BoxBearersModel", "fault", "()I"⟩, ⟨"BoxBearersModel", "keeps", "()V"⟩, ⟨"BoxBearersModel", "refuses", "(I)I"⟩, ⟨"BoxBearersModel", "undo", "()I"⟩, ⟨"BoxBearersModel", "tries", "()V"⟩, ⟨"BoxBearersModel", "works", "(III)I"⟩, ⟨"BoxBearersModel", "reckons", "(I)I"⟩, ⟨"BoxBearersModel", "mightOf", "(II)I"⟩, ⟨"BoxBearersModel", "mightBy", "(II)I"⟩, ⟨"BoxBearersModel", "handsAt", "(II)I"⟩, ⟨"BoxBearersModel", "canBear", "(III)Z"⟩, ⟨"BoxBearersModel", "isBorne", "(II)Z"⟩, ⟨"BoxBearersModel", "leanBy", "(I)I"⟩, ⟨"BoxBearersModel", "townOf", "(II)I"⟩, ⟨"BoxBearersModel", "asks", "(III)I"⟩, ⟨"BoxBearersModel", "weighs", "(III)V"⟩, ⟨"BoxBearersModel", "letsFall", "(II)V"⟩, ⟨"BoxBearersModel", "tires", "(II)V"⟩, ⟨"BoxBearersModel", "boxGoes", "(II)V"⟩, ⟨"BoxBearersModel", "dayGoes", "(I)V"⟩, ⟨"BoxBearersModel", "daysGo", "(I)V"⟩, ⟨"BoxBearersModel", "borneOnes", "(I)I"⟩, ⟨"BoxBearersModel", "allWeight", "(I)I"⟩, ⟨"BoxBearersModel", "pairs", "()I"⟩, ⟨"BoxBearersModel", "count", "(I)I"⟩, ⟨"BoxBearersModel", "isTown", "(I)Z"⟩, ⟨"BoxBearersModel", "isBox", "(I)Z"⟩, ⟨"BoxBearersModel", "isBearer", "(I)Z"⟩, ⟨"BoxBearersModel", "isWhat", "(II)Z"⟩, ⟨"BoxBearersModel", "isDays", "(III)Z"⟩, ⟨"BoxBearersModel", "neededFor", "(I)I"⟩, ⟨"BoxBearersModel", "box", "(II)I"⟩, ⟨"BoxBearersModel", "bearer", "(II)I"⟩, ⟨"BoxBearersModel", "days", "(I)I"⟩, ⟨"BoxBearersModel", "hand", "(II)I"⟩, ⟨"BoxBearersModel", "away", "(I)I"⟩, ⟨"BoxBearersModel", "change", "(II)Z"⟩, ⟨"BoxBearersModel", "talked", "(III)I"⟩, ⟨"BoxBearersModel", "slander", "(II)I"⟩, ⟨"BoxBearersModel", "praise", "(II)I"⟩, ⟨"BoxBearersModel", "goesTo", "(I)V"⟩, ⟨"BoxBearersModel", "then", "(III)I"⟩, ⟨"BoxBearersModel", "who", "(III)I"⟩, ⟨"BoxBearersModel", "fallen", "(I)I"⟩, ⟨"BoxBearersModel", "borneIn", "(IZ)I"⟩, ⟨"BoxBearersModel", "rests", "(I)I"⟩, ⟨"BoxBearersModel", "toWait", "(I)I"⟩, ⟨"BoxBearersModel", "meet", "(II)I"⟩, ⟨"BoxBearersModel", "later", "(II)I"⟩, ⟨"BoxBearersModel", "calls", "(II)I"⟩, ⟨"BoxBearersModel", "fewestOf", "(II)I"⟩, ⟨"BoxBearersModel", "toBear", "(I)I"⟩, ⟨"BoxBearersModel", "crew", "(I)I"⟩, ⟨"BoxBearersModel", "toSlander", "(I)I"⟩, ⟨"BoxBearersModel", "alone", "(I)I"⟩, ⟨"BoxBearersModel", "laysWays", "(II)V"⟩, ⟨"BoxBearersModel", "way", "(III)I"⟩, ⟨"BoxBearersModel", "nearest", "(I)I"⟩, ⟨"BoxBearersModel", "reach", "(I)I"⟩, ⟨"BoxBearersModel", "ahead", "(II)I"⟩, ⟨"BoxBearersModel", "onRoutes", "(I)I"⟩, ⟨"BoxBearersModel", "see", "(III)I"⟩, ⟨"BoxBearersModel", "forget", "()V"⟩, ⟨"BoxBearersModel", "isSeen", "()Z"⟩, ⟨"BoxBearersModel", "isGuess", "(I)Z"⟩, ⟨"BoxBearersModel", "weighed", "(I)I"⟩, ⟨"BoxBearersModel", "look", "(I)I"⟩, ⟨"BoxBearersModel", "rain", "(III)I"⟩, ⟨"BoxBearersModel", "gains", "(IIII)I"⟩, ⟨"BoxBearersModel", "game", "(III)I"⟩, ⟨"BoxBearersModel", "draw", "(I)I"⟩, ⟨"BoxBearersModel", "happens", "()V"⟩, ⟨"BoxBearersModel", "years", "(III)I"⟩, ⟨"BoxBearersModel", "idle", "(I)I"⟩, ⟨"BoxBearersModel", "weariest", "(I)I"⟩, ⟨"BoxBearersModel", "total", "(I)I"⟩, ⟨"BoxBearersModel", "image", "()V"⟩, ⟨"BoxBearersModel", "restore", "()Z"⟩], [⟨"BoxBearers$Draws", "<init>", "()V"⟩, ⟨"BoxBearers$Draws", "drawOf", "(I)I"⟩], [⟨"BoxBearers$Land", "<init>", "()V"⟩, ⟨"BoxBearers$Land", "empty", "()V"⟩, ⟨"BoxBearers$Land", "copyFrom", "(LBoxBearers$Land;)V"⟩, ⟨"BoxBearers$Land", "hasTown", "(I)Z"⟩, ⟨"BoxBearers$Land", "hasBox", "(I)Z"⟩, ⟨"BoxBearers$Land", "addRoad", "(III)V"⟩, ⟨"BoxBearers$Land", "hasRoad", "(II)Z"⟩, ⟨"BoxBearers$Land", "addStop", "(III)V"⟩, ⟨"BoxBearers$Land", "townAt", "(II)I"⟩, ⟨"BoxBearers$Land", "nextPlace", "(II)I"⟩, ⟨"BoxBearers$Land", "pairs", "()I"⟩, ⟨"BoxBearers$Land", "leanOf", "(I)I"⟩, ⟨"BoxBearers$Land", "measure", "(II[I)V"⟩, ⟨"BoxBearers$Land", "goAlong", "(IIII[I)V"⟩], [⟨"BoxBearers$Past", "<init>", "()V"⟩, ⟨"BoxBearers$Past", "keep", "(LBoxBearers$State;)V"⟩, ⟨"BoxBearers$Past", "takeBack", "(LBoxBearers$State;)Z"⟩, ⟨"BoxBearers$Past", "copyFrom", "(LBoxBearers$Past;)V"⟩], [⟨"BoxBearers$Reader", "<init>", "([BLBoxBearers$Land;)V"⟩, ⟨"BoxBearers$Reader", "readText", "(I)I"⟩, ⟨"BoxBearers$Reader", "refuse", "(I)V"⟩, ⟨"BoxBearers$Reader", "nextToken", "()V"⟩, ⟨"BoxBearers$Reader", "isLetter", "(I)Z"⟩, ⟨"BoxBearers$Reader", "isDigit", "(I)Z"⟩, ⟨"BoxBearers$Reader", "isWord", "(Ljava/lang/String;)Z"⟩, ⟨"BoxBearers$Reader", "isSign", "(C)Z"⟩, ⟨"BoxBearers$Reader", "readLine", "()V"⟩, ⟨"BoxBearers$Reader", "readSign", "(C)V"⟩, ⟨"BoxBearers$Reader", "readNumber", "(II)I"⟩, ⟨"BoxBearers$Reader", "readName", "(II)I"⟩, ⟨"BoxBearers$Reader", "readTowns", "()V"⟩, ⟨"BoxBearers$Reader", "readRoad", "()V"⟩, ⟨"BoxBearers$Reader", "readBox", "()V"⟩, ⟨"BoxBearers$Reader", "readBearer", "()V"⟩, ⟨"BoxBearers$Reader", "readRule", "(LBoxBearers$Rule;)V"⟩, ⟨"BoxBearers$Reader", "readExpr", "(LBoxBearers$Rule;I)V"⟩, ⟨"BoxBearers$Reader", "readAnd", "(LBoxBearers$Rule;I)V"⟩, ⟨"BoxBearers$Reader", "readNot", "(LBoxBearers$Rule;I)V"⟩, ⟨"BoxBearers$Reader", "readSum", "(LBoxBearers$Rule;I)V"⟩, ⟨"BoxBearers$Reader", "readProduct", "(LBoxBearers$Rule;I)V"⟩, ⟨"BoxBearers$Reader", "readPart", "(LBoxBearers$Rule;I)V"⟩, ⟨"BoxBearers$Reader", "valueStep", "()I"⟩], [⟨"BoxBearers$Rule", "<init>", "()V"⟩, ⟨"BoxBearers$Rule", "empty", "()V"⟩, ⟨"BoxBearers$Rule", "copyFrom", "(LBoxBearers$Rule;)V"⟩, ⟨"BoxBearers$Rule", "add", "(I)V"⟩, ⟨"BoxBearers$Rule", "workOut", "([I)I"⟩, ⟨"BoxBearers$Rule", "join", "(III)I"⟩], [⟨"BoxBearers$Scale", "<init>", "(LBoxBearers$State;LBoxBearers$State;LBoxBearers$Seen;)V"⟩, ⟨"BoxBearers$Scale", "unmetBits", "()I"⟩, ⟨"BoxBearers$Scale", "agreesWith", "(II)Z"⟩, ⟨"BoxBearers$Scale", "tryAll", "()V"⟩, ⟨"BoxBearers$Scale", "firstOne", "()I"⟩, ⟨"BoxBearers$Scale", "compareLater", "()V"⟩, ⟨"BoxBearers$Scale", "unlikeOf", "(I)I"⟩, ⟨"BoxBearers$Scale", "mark", "(I)V"⟩, ⟨"BoxBearers$Scale", "weightLater", "(II)I"⟩], [⟨"BoxBearers$Seen", "<init>", "()V"⟩, ⟨"BoxBearers$Seen", "add", "(III)V"⟩, ⟨"BoxBearers$Seen", "copyFrom", "(LBoxBearers$Seen;)V"⟩, ⟨"BoxBearers$Seen", "lastDayOf", "(I)I"⟩, ⟨"BoxBearers$Seen", "agrees", "(III)Z"⟩], [⟨"BoxBearers$Sharing", "<init>", "(LBoxBearers$State;)V"⟩, ⟨"BoxBearers$Sharing", "everyone", "()I"⟩, ⟨"BoxBearers$Sharing", "workOut", "()V"⟩, ⟨"BoxBearers$Sharing", "fewestOf", "(II)I"⟩, ⟨"BoxBearers$Sharing", "manyWith", "(III)I"⟩, ⟨"BoxBearers$Sharing", "fewestOfAll", "()I"⟩, ⟨"BoxBearers$Sharing", "rowAt", "(I)I"⟩, ⟨"BoxBearers$Sharing", "leastBits", "(II)I"⟩], [⟨"BoxBearers$State", "<init>", "(LBoxBearers$Land;)V"⟩, ⟨"BoxBearers$State", "begin", "()V"⟩, ⟨"BoxBearers$State", "copyFrom", "(LBoxBearers$State;)V"⟩, ⟨"BoxBearers$State", "writeTo", "([II)V"⟩, ⟨"BoxBearers$State", "readFrom", "([II)V"⟩, ⟨"BoxBearers$State", "townOf", "(I)I"⟩, ⟨"BoxBearers$State", "bitsUnder", "(I)I"⟩, ⟨"BoxBearers$State", "mightOf", "(I)I"⟩, ⟨"BoxBearers$State", "mightOfAll", "(I)I"⟩, ⟨"BoxBearers$State", "isBorneBy", "(II)Z"⟩, ⟨"BoxBearers$State", "isBorne", "(I)Z"⟩, ⟨"BoxBearers$State", "borneBits", "()I"⟩, ⟨"BoxBearers$State", "neededBits", "(I)I"⟩, ⟨"BoxBearers$State", "loadOf", "(I)I"⟩, ⟨"BoxBearers$State", "weightOfAll", "()I"⟩, ⟨"BoxBearers$State", "heaviest", "()I"⟩, ⟨"BoxBearers$State", "bitsIn", "(I)I"⟩, ⟨"BoxBearers$State", "bestCrew", "(I)I"⟩, ⟨"BoxBearers$State", "addWeight", "(II)V"⟩, ⟨"BoxBearers$State", "getWet", "()V"⟩, ⟨"BoxBearers$State", "passDays", "(I)I"⟩, ⟨"BoxBearers$State", "passDay", "()V"⟩, ⟨"BoxBearers$State", "passBox", "(I)I"⟩, ⟨"BoxBearers$State", "survey", "(I)V"⟩, ⟨"BoxBearers$State", "keepValue", "(II)V"⟩, ⟨"BoxBearers$State", "valueOf", "(I)I"⟩, ⟨"BoxBearers$State", "letFall", "(I)I"⟩, ⟨"BoxBearers$State", "carryOn", "(I)V"⟩, ⟨"BoxBearers$State", "tireOut", "(I)V"⟩], [⟨"BoxBearers", "<init>", "()V"⟩, ⟨"BoxBearers", "feed", "(IIIII)I"⟩, ⟨"BoxBearers", "land", "(I)I"⟩, ⟨"BoxBearers", "fault", "()I"⟩, ⟨"BoxBearers", "count", "(I)I"⟩, ⟨"BoxBearers", "box", "(II)I"⟩, ⟨"BoxBearers", "bearer", "(II)I"⟩, ⟨"BoxBearers", "days", "(I)I"⟩, ⟨"BoxBearers", "hand", "(II)I"⟩, ⟨"BoxBearers", "away", "(I)I"⟩, ⟨"BoxBearers", "change", "(II)Z"⟩, ⟨"BoxBearers", "slander", "(II)I"⟩, ⟨"BoxBearers", "praise", "(II)I"⟩, ⟨"BoxBearers", "undo", "()I"⟩, ⟨"BoxBearers", "then", "(III)I"⟩, ⟨"BoxBearers", "who", "(III)I"⟩, ⟨"BoxBearers", "fallen", "(I)I"⟩, ⟨"BoxBearers", "rests", "(I)I"⟩, ⟨"BoxBearers", "meet", "(II)I"⟩, ⟨"BoxBearers", "later", "(II)I"⟩, ⟨"BoxBearers", "calls", "(II)I"⟩, ⟨"BoxBearers", "toBear", "(I)I"⟩, ⟨"BoxBearers", "crew", "(I)I"⟩, ⟨"BoxBearers", "toSlander", "(I)I"⟩, ⟨"BoxBearers", "toWait", "(I)I"⟩, ⟨"BoxBearers", "way", "(III)I"⟩, ⟨"BoxBearers", "see", "(III)I"⟩, ⟨"BoxBearers", "forget", "()V"⟩, ⟨"BoxBearers", "weighed", "(I)I"⟩, ⟨"BoxBearers", "look", "(I)I"⟩, ⟨"BoxBearers", "rain", "(III)I"⟩, ⟨"BoxBearers", "game", "(III)I"⟩, ⟨"BoxBearers", "years", "(III)I"⟩, ⟨"BoxBearers", "idle", "(I)I"⟩, ⟨"BoxBearers", "nearest", "(I)I"⟩, ⟨"BoxBearers", "ahead", "(II)I"⟩, ⟨"BoxBearers", "alone", "(I)I"⟩, ⟨"BoxBearers", "weariest", "(I)I"⟩, ⟨"BoxBearers", "onRoutes", "(I)I"⟩, ⟨"BoxBearers", "reach", "(I)I"⟩, ⟨"BoxBearers", "total", "(I)I"⟩, ⟨"BoxBearers", "image", "()V"⟩, ⟨"BoxBearers", "restore", "()Z"⟩, ⟨"BoxBearers", "putBytes", "(I)V"⟩, ⟨"BoxBearers", "refuseAct", "(I)I"⟩, ⟨"BoxBearers", "checkBox", "(I)V"⟩, ⟨"BoxBearers", "checkBearer", "(I)V"⟩, ⟨"BoxBearers", "checkTown", "(I)V"⟩, ⟨"BoxBearers", "checkWhat", "(II)V"⟩, ⟨"BoxBearers", "checkRange", "(III)V"⟩, ⟨"BoxBearers", "hasBit", "(II)Z"⟩, ⟨"BoxBearers", "within", "(III)I"⟩, ⟨"BoxBearers", "lookAhead", "(I)I"⟩, ⟨"BoxBearers", "firstBorne", "(IZ)I"⟩, ⟨"BoxBearers", "chanceBorne", "(IIII)I"⟩, ⟨"BoxBearers", "coupleRests", "(IIII)Z"⟩, ⟨"BoxBearers", "gainOf", "(IIII)I"⟩, ⟨"BoxBearers", "drawAct", "()V"⟩], [], [⟨"BoxBearersLaw", "land", "(LBoxBearers;I[J)I"⟩, ⟨"BoxBearersLaw", "count", "(LBoxBearers;I[J)I"⟩, ⟨"BoxBearersLaw", "box", "(LBoxBearers;II[J)I"⟩, ⟨"BoxBearersLaw", "bearer", "(LBoxBearers;II[J)I"⟩, ⟨"BoxBearersLaw", "hand", "(LBoxBearers;II[J)I"⟩, ⟨"BoxBearersLaw", "away", "(LBoxBearers;I[J)I"⟩, ⟨"BoxBearersLaw", "change", "(LBoxBearers;II[J)I"⟩, ⟨"BoxBearersLaw", "slander", "(LBoxBearers;II[J)I"⟩, ⟨"BoxBearersLaw", "praise", "(LBoxBearers;II[J)I"⟩, ⟨"BoxBearersLaw", "then", "(LBoxBearers;III[J)I"⟩, ⟨"BoxBearersLaw", "who", "(LBoxBearers;III[J)I"⟩, ⟨"BoxBearersLaw", "fallen", "(LBoxBearers;I[J)I"⟩, ⟨"BoxBearersLaw", "rests", "(LBoxBearers;I[J)I"⟩, ⟨"BoxBearersLaw", "meet", "(LBoxBearers;II[J)I"⟩, ⟨"BoxBearersLaw", "later", "(LBoxBearers;II[J)I"⟩, ⟨"BoxBearersLaw", "calls", "(LBoxBearers;II[J)I"⟩, ⟨"BoxBearersLaw", "toBear", "(LBoxBearers;I[J)I"⟩, ⟨"BoxBearersLaw", "crew", "(LBoxBearers;I[J)I"⟩, ⟨"BoxBearersLaw", "toSlander", "(LBoxBearers;I[J)I"⟩, ⟨"BoxBearersLaw", "toWait", "(LBoxBearers;I[J)I"⟩, ⟨"BoxBearersLaw", "way", "(LBoxBearers;III[J)I"⟩, ⟨"BoxBearersLaw", "see", "(LBoxBearers;III[J)I"⟩, ⟨"BoxBearersLaw", "weighed", "(LBoxBearers;I[J)I"⟩, ⟨"BoxBearersLaw", "look", "(LBoxBearers;I[J)I"⟩, ⟨"BoxBearersLaw", "rain", "(LBoxBearers;III[J)I"⟩, ⟨"BoxBearersLaw", "game", "(LBoxBearers;III[J)I"⟩, ⟨"BoxBearersLaw", "years", "(LBoxBearers;III[J)I"⟩, ⟨"BoxBearersLaw", "idle", "(LBoxBearers;I[J)I"⟩, ⟨"BoxBearersLaw", "nearest", "(LBoxBearers;I[J)I"⟩, ⟨"BoxBearersLaw", "ahead", "(LBoxBearers;II[J)I"⟩, ⟨"BoxBearersLaw", "alone", "(LBoxBearers;I[J)I"⟩, ⟨"BoxBearersLaw", "weariest", "(LBoxBearers;I[J)I"⟩, ⟨"BoxBearersLaw", "onRoutes", "(LBoxBearers;I[J)I"⟩, ⟨"BoxBearersLaw", "reach", "(LBoxBearers;I[J)I"⟩, ⟨"BoxBearersLaw", "total", "(LBoxBearers;I[J)I"⟩, ⟨"BoxBearersLaw", "law", "([I)Z"⟩], [⟨"java/lang/Integer", "bitCount", "(I)I"⟩], [⟨"java/util/Arrays", "fill", "([II)V"⟩]]
def bb_yN : Nat → MethodName := fun mi => (bb_yN_L.getD (bb_cc mi) []).getD (mi % 1000) ⟨"", "", ""⟩
def bb_CD_L : List (List ByteArray) := [[prog_12_method_1_code, prog_12_method_2_code, prog_12_method_3_code, prog_12_method_4_code, prog_12_method_5_code, prog_12_method_6_code, prog_12_method_7_code, prog_12_method_8_code, prog_12_method_9_code, prog_12_method_10_code, prog_12_method_11_code, prog_12_method_12_code, prog_12_method_13_code, prog_12_method_14_code, prog_12_method_15_code, prog_12_method_16_code, prog_12_method_17_code, prog_12_method_18_code, prog_12_method_19_code, prog_12_method_20_code, prog_12_method_21_code, prog_12_method_22_code, prog_12_method_23_code, prog_12_method_24_code, prog_12_method_25_code, prog_12_method_26_code, prog_12_method_27_code, prog_12_method_28_code, prog_12_method_29_code, prog_12_method_30_code, prog_12_method_31_code, prog_12_method_32_code, prog_12_method_33_code, prog_12_method_34_code, prog_12_method_35_code, prog_12_method_36_code, prog_12_method_37_code, prog_12_method_38_code, prog_12_method_39_code, prog_12_method_40_code, prog_12_method_41_code, prog_12_method_42_code, prog_12_method_43_code, prog_12_method_44_code, prog_12_method_45_code, prog_12_method_46_code, prog_12_method_47_code, prog_12_method_48_code, prog_12_method_49_code, prog_12_method_50_code, prog_12_method_51_code, prog_12_method_52_code, prog_12_method_53_code, prog_12_method_54_code, prog_12_method_55_code, prog_12_method_56_code, prog_12_method_57_code, prog_12_method_58_code, prog_12_method_59_code, prog_12_method_60_code, prog_12_method_61_code, prog_12_method_62_code, prog_12_method_63_code, prog_12_method_64_code, prog_12_method_65_code, prog_12_method_66_code, prog_12_method_67_code, prog_12_method_68_code, prog_12_method_69_code, prog_12_method_70_code, prog_12_method_71_code, prog_12_method_72_code, prog_12_method_73_code, prog_12_method_74_code, prog_12_method_75_code, prog_12_method_76_code, prog_12_method_77_code, prog_12_method_78_code, prog_12_method_79_code, prog_12_method_80_code, prog_12_method_81_code, prog_12_method_82_code, prog_12_method_83_code, prog_12_method_84_code, prog_12_method_85_code, prog_12_method_86_code, prog_12_method_87_code, prog_12_method_88_code, prog_12_method_89_code, prog_12_method_90_code, prog_12_method_91_code, prog_12_method_92_code, prog_12_method_93_code, prog_12_method_94_code, prog_12_method_95_code, prog_12_method_96_code, prog_12_method_97_code, prog_12_method_98_code, prog_12_method_99_code, prog_12_method_100_code, prog_12_method_101_code, prog_12_method_102_code, prog_12_method_103_code, prog_12_method_104_code, prog_12_method_105_code, prog_12_method_106_code, prog_12_method_107_code, prog_12_method_108_code, prog_12_method_109_code, prog_12_method_110_code, prog_12_method_111_code, prog_12_method_112_code, prog_12_method_113_code, prog_12_method_114_code, prog_12_method_115_code, prog_12_method_116_code, prog_12_method_117_code, prog_12_method_118_code, prog_12_method_119_code, prog_12_method_120_code], [prog_2_method_1_code, prog_2_method_2_code], [prog_3_method_1_code, prog_3_method_2_code, prog_3_method_3_code, prog_3_method_4_code, prog_3_method_5_code, prog_3_method_6_code, prog_3_method_7_code, prog_3_method_8_code, prog_3_method_9_code, prog_3_method_10_code, prog_3_method_11_code, prog_3_method_12_code, prog_3_method_13_code, prog_3_method_14_code], [prog_4_method_1_code, prog_4_method_2_code, prog_4_method_3_code, prog_4_method_4_code], [prog_5_method_1_code, prog_5_method_2_code, prog_5_method_3_code, prog_5_method_4_code, prog_5_method_5_code, prog_5_method_6_code, prog_5_method_7_code, prog_5_method_8_code, prog_5_method_9_code, prog_5_method_10_code, prog_5_method_11_code, prog_5_method_12_code, prog_5_method_13_code, prog_5_method_14_code, prog_5_method_15_code, prog_5_method_16_code, prog_5_method_17_code, prog_5_method_18_code, prog_5_method_19_code, prog_5_method_20_code, prog_5_method_21_code, prog_5_method_22_code, prog_5_method_23_code, prog_5_method_24_code], [prog_6_method_1_code, prog_6_method_2_code, prog_6_method_3_code, prog_6_method_4_code, prog_6_method_5_code, prog_6_method_6_code], [prog_7_method_1_code, prog_7_method_2_code, prog_7_method_3_code, prog_7_method_4_code, prog_7_method_5_code, prog_7_method_6_code, prog_7_method_7_code, prog_7_method_8_code, prog_7_method_9_code], [prog_8_method_1_code, prog_8_method_2_code, prog_8_method_3_code, prog_8_method_4_code, prog_8_method_5_code], [prog_9_method_1_code, prog_9_method_2_code, prog_9_method_3_code, prog_9_method_4_code, prog_9_method_5_code, prog_9_method_6_code, prog_9_method_7_code, prog_9_method_8_code], [prog_10_method_1_code, prog_10_method_2_code, prog_10_method_3_code, prog_10_method_4_code, prog_10_method_5_code, prog_10_method_6_code, prog_10_method_7_code, prog_10_method_8_code, prog_10_method_9_code, prog_10_method_10_code, prog_10_method_11_code, prog_10_method_12_code, prog_10_method_13_code, prog_10_method_14_code, prog_10_method_15_code, prog_10_method_16_code, prog_10_method_17_code, prog_10_method_18_code, prog_10_method_19_code, prog_10_method_20_code, prog_10_method_21_code, prog_10_method_22_code, prog_10_method_23_code, prog_10_method_24_code, prog_10_method_25_code, prog_10_method_26_code, prog_10_method_27_code, prog_10_method_28_code, prog_10_method_29_code], [prog_1_method_1_code, prog_1_method_2_code, prog_1_method_3_code, prog_1_method_4_code, prog_1_method_5_code, prog_1_method_6_code, prog_1_method_7_code, prog_1_method_8_code, prog_1_method_9_code, prog_1_method_10_code, prog_1_method_11_code, prog_1_method_12_code, prog_1_method_13_code, prog_1_method_14_code, prog_1_method_15_code, prog_1_method_16_code, prog_1_method_17_code, prog_1_method_18_code, prog_1_method_19_code, prog_1_method_20_code, prog_1_method_21_code, prog_1_method_22_code, prog_1_method_23_code, prog_1_method_24_code, prog_1_method_25_code, prog_1_method_26_code, prog_1_method_27_code, prog_1_method_28_code, prog_1_method_29_code, prog_1_method_30_code, prog_1_method_31_code, prog_1_method_32_code, prog_1_method_33_code, prog_1_method_34_code, prog_1_method_35_code, prog_1_method_36_code, prog_1_method_37_code, prog_1_method_38_code, prog_1_method_39_code, prog_1_method_40_code, prog_1_method_41_code, prog_1_method_42_code, prog_1_method_43_code, prog_1_method_44_code, prog_1_method_45_code, prog_1_method_46_code, prog_1_method_47_code, prog_1_method_48_code, prog_1_method_49_code, prog_1_method_50_code, prog_1_method_51_code, prog_1_method_52_code, prog_1_method_53_code, prog_1_method_54_code, prog_1_method_55_code, prog_1_method_56_code, prog_1_method_57_code, prog_1_method_58_code], [], [method_3_code, method_4_code, method_5_code, method_6_code, method_7_code, method_8_code, method_9_code, method_10_code, method_11_code, method_12_code, method_13_code, method_14_code, method_15_code, method_16_code, method_17_code, method_18_code, method_19_code, method_20_code, method_21_code, method_22_code, method_23_code, method_24_code, method_25_code, method_26_code, method_27_code, method_28_code, method_29_code, method_30_code, method_31_code, method_32_code, method_33_code, method_34_code, method_35_code, method_36_code, method_37_code, code], [prog_19_method_49_code], [prog_29_method_103_code]]
def bb_CD : Nat → ByteArray := fun mi => (bb_CD_L.getD (bb_cc mi) []).getD (mi % 1000) ByteArray.empty
def bb_fr_L : List (List Nat) := [[16, 16, 16, 16, 16, 16, 16, 16, 16, 25, 16, 16, 16, 16, 25, 16, 25, 34, 16, 16, 16, 34, 34, 25, 16, 16, 16, 25, 16, 43, 25, 52, 25, 34, 61, 34, 16, 43, 43, 43, 70, 79, 16, 16, 16, 16, 16, 16, 25, 25, 34, 16, 43, 52, 25, 16, 61, 25, 25, 25, 70, 79, 88, 61, 16, 16, 70, 25, 25, 25, 25, 25, 61, 70, 34, 88, 34, 34, 34, 34, 43, 43, 97, 106, 106, 88, 88, 97, 97, 88, 88, 88, 16, 52, 52, 43, 52, 25, 34, 34, 34, 34, 34, 34, 16, 88, 97, 106, 106, 88, 52, 61, 16, 34, 88, 34, 106, 106, 25, 25], [16, 16], [25, 25, 25, 16, 16, 16, 16, 16, 16, 16, 16, 25, 34, 25], [16, 25, 25, 16], [16, 385, 16, 25, 16, 16, 16, 16, 376, 34, 34, 34, 43, 43, 43, 43, 367, 358, 349, 340, 331, 322, 313, 25], [16, 16, 16, 16, 25, 16], [16, 52, 43, 61, 16, 61, 52, 16, 43], [16, 16, 16, 16, 16], [16, 16, 43, 34, 25, 25, 43, 34], [16, 25, 16, 16, 16, 25, 16, 16, 25, 34, 43, 52, 43, 25, 16, 16, 34, 43, 25, 25, 52, 43, 34, 25, 16, 16, 25, 25, 16], [34, 25, 394, 16, 61, 52, 34, 61, 34, 34, 34, 34, 34, 34, 70, 70, 52, 61, 52, 70, 52, 52, 52, 34, 61, 43, 34, 16, 70, 70, 61, 61, 61, 25, 43, 34, 43, 70, 34, 43, 70, 25, 25, 16, 16, 25, 16, 25, 16, 16, 16, 16, 61, 52, 52, 52, 43, 34], [], [403, 70, 61, 43, 43, 43, 43, 43, 43, 79, 79, 61, 70, 61, 79, 61, 61, 61, 43, 70, 52, 43, 79, 79, 70, 70, 70, 34, 52, 43, 52, 79, 43, 52, 79, 2048], [16], [16], [], [], [], [], [], [], [0, 0, 0, 0, 0, 0, 0, 0, 0, 0, 0, 0, 0, 0, 0, 0, 0, 304, 295, 286, 277, 268, 259, 0], [0, 0, 0, 0, 0, 0, 0, 0, 0, 0, 0, 0, 0, 0, 0, 0, 0, 250, 241, 232, 223, 214, 205, 0], [0, 0, 0, 0, 0, 0, 0, 0, 0, 0, 0, 0, 0, 0, 0, 0, 0, 196, 187, 178, 169, 160, 151, 0], [0, 0, 0, 0, 0, 0, 0, 0, 0, 0, 0, 0, 0, 0, 0, 0, 0, 142, 133, 124, 115, 106, 97, 0], [0, 0, 0, 0, 0, 0, 0, 0, 0, 0, 0, 0, 0, 0, 0, 0, 0, 88, 79, 70, 61, 52, 43, 0], [0, 0, 0, 0, 0, 0, 0, 0, 0, 0, 0, 0, 0, 0, 0, 0, 0, 34, 34, 34, 34, 34, 43, 0]]
def bb_fr : Nat → Nat := fun mi => (bb_fr_L.getD (mi / 1000) []).getD (mi % 1000) 0
def bb_lo_L : List (List Nat) := [[400, 400, 400, 400, 400, 400, 400, 400, 400, 622, 400, 400, 400, 400, 621, 400, 627, 847, 400, 400, 400, 842, 842, 621, 400, 400, 400, 621, 400, 1068, 621, 1289, 620, 842, 1513, 842, 400, 1065, 1065, 1068, 1735, 1956, 400, 400, 400, 400, 400, 400, 622, 621, 843, 400, 1067, 1290, 621, 400, 1512, 622, 624, 621, 1736, 1959, 2181, 1512, 400, 400, 1735, 622, 622, 622, 622, 622, 1512, 1736, 844, 2181, 843, 843, 843, 845, 1068, 1068, 2403, 2624, 2624, 2181, 2181, 2404, 2404, 2181, 2181, 2181, 400, 1290, 1290, 1067, 1290, 621, 847, 847, 847, 843, 843, 843, 400, 2181, 2403, 2625, 2625, 2181, 1290, 1516, 400, 845, 2181, 844, 2624, 2624, 623, 623], [400, 400], [620, 620, 621, 400, 400, 400, 400, 400, 400, 400, 400, 621, 847, 621], [400, 622, 622, 400], [400, 9544, 400, 620, 400, 400, 400, 400, 9324, 840, 840, 840, 1063, 1063, 1063, 1063, 9103, 8880, 8657, 8433, 8209, 7985, 7763, 622], [400, 400, 400, 400, 622, 400], [400, 1297, 1073, 1519, 400, 1519, 1296, 400, 1073], [400, 400, 400, 400, 400], [400, 400, 1069, 844, 620, 620, 1068, 844], [400, 623, 400, 400, 400, 623, 400, 400, 621, 844, 1066, 1287, 1066, 623, 400, 400, 844, 1066, 622, 621, 1295, 1073, 849, 623, 400, 400, 623, 622, 400], [840, 622, 9766, 400, 1509, 1290, 846, 1518, 843, 843, 843, 844, 844, 843, 1739, 1739, 1295, 1518, 1295, 1739, 1295, 1293, 1291, 844, 1518, 1072, 842, 400, 1744, 1744, 1522, 1517, 1509, 621, 1072, 842, 1066, 1739, 842, 1072, 1739, 621, 621, 400, 400, 621, 400, 621, 400, 400, 400, 400, 1518, 1295, 1295, 1293, 1066, 844], [], [9988, 1730, 1512, 1068, 1066, 1065, 1067, 1066, 1066, 1962, 1962, 1517, 1739, 1518, 1962, 1519, 1514, 1512, 1066, 1739, 1295, 1065, 1965, 1965, 1747, 1745, 1734, 846, 1298, 1066, 1289, 1963, 1066, 1295, 1960, 84000], [400], [400], [], [], [], [], [], [], [0, 0, 0, 0, 0, 0, 0, 0, 0, 0, 0, 0, 0, 0, 0, 0, 0, 7540, 7317, 7093, 6869, 6645, 6423, 0], [0, 0, 0, 0, 0, 0, 0, 0, 0, 0, 0, 0, 0, 0, 0, 0, 0, 6200, 5977, 5753, 5529, 5305, 5083, 0], [0, 0, 0, 0, 0, 0, 0, 0, 0, 0, 0, 0, 0, 0, 0, 0, 0, 4860, 4637, 4413, 4189, 3965, 3743, 0], [0, 0, 0, 0, 0, 0, 0, 0, 0, 0, 0, 0, 0, 0, 0, 0, 0, 3520, 3297, 3073, 2849, 2625, 2403, 0], [0, 0, 0, 0, 0, 0, 0, 0, 0, 0, 0, 0, 0, 0, 0, 0, 0, 2180, 1957, 1733, 1509, 1285, 1063, 0], [0, 0, 0, 0, 0, 0, 0, 0, 0, 0, 0, 0, 0, 0, 0, 0, 0, 840, 840, 840, 840, 840, 1063, 0]]
def bb_lo : Nat → Nat := fun mi => (bb_lo_L.getD (mi / 1000) []).getD (mi % 1000) 0
def bb_XN : Nat → String := fun e => if e = 1 then "java/util/NoSuchElementException" else "java/lang/IllegalArgumentException"
set_option maxRecDepth 100000 in
theorem bw_0 : bi_2 (u_ws RX10 TX10 66) [[1520], [1522], [1524], [1526], [1528], [1530], [1532], [1534], [1536], [1538], [1540], [1542], [1544], [1546], [1548], [1550], [1552], [1554], [1556], [1558], [1560], [1562], [1564], [1566], [1568], [1570], [1572], [1574], [1576], [1578], [1580], [1582], [1584], [1586], [1588], [1590], [1592], [1594], [1596], [1598], [1600], [1602], [1604], [1606], [1608], [1610], [1612], [1614], [1616], [1618], [1620], [1622], [1624], [1626], [1628], [1630], [1632], [1634], [1636], [1638], [1640], [1642], [1644], [1646], [1648], [1650]] (fun w i => bi (i.headD 0) w) = true := by decide +kernel
theorem bn_0 : ∀ k, k < 66 → (tyX10 k = .int ∨ tyX10 k = .long ∨ tyX10 k = .boolean) → (TX10 k).2.2.2 = false := by decide +kernel
set_option maxRecDepth 100000 in
theorem bw_1 : bi_2 (u_ws RX0 TX0 1) [[429]] (fun w i => bi (i.headD 0) w) = true := by decide +kernel
theorem bn_1 : ∀ k, k < 1 → (tyX0 k = .int ∨ tyX0 k = .long ∨ tyX0 k = .boolean) → (TX0 k).2.2.2 = false := by decide +kernel
set_option maxRecDepth 100000 in
theorem bw_2 : bi_2 (u_ws RX1 TX1 15) [[217], [219], [221], [223], [225], [227], [229], [231], [233], [235], [237], [239], [241], [243], [245]] (fun w i => bi (i.headD 0) w) = true := by decide +kernel
theorem bn_2 : ∀ k, k < 15 → (tyX1 k = .int ∨ tyX1 k = .long ∨ tyX1 k = .boolean) → (TX1 k).2.2.2 = false := by decide +kernel
set_option maxRecDepth 100000 in
theorem bw_3 : bi_2 (u_ws RX2 TX2 2) [[343], [345]] (fun w i => bi (i.headD 0) w) = true := by decide +kernel
theorem bn_3 : ∀ k, k < 2 → (tyX2 k = .int ∨ tyX2 k = .long ∨ tyX2 k = .boolean) → (TX2 k).2.2.2 = false := by decide +kernel
set_option maxRecDepth 100000 in
theorem bw_4 : bi_2 (u_ws RX3 TX3 11) [[266], [268], [270], [272], [274], [276], [278], [280], [282], [284], [286]] (fun w i => bi (i.headD 0) w) = true := by decide +kernel
theorem bn_4 : ∀ k, k < 11 → (tyX3 k = .int ∨ tyX3 k = .long ∨ tyX3 k = .boolean) → (TX3 k).2.2.2 = false := by decide +kernel
set_option maxRecDepth 100000 in
theorem bw_5 : bi_2 (u_ws RX4 TX4 4) [[163], [165], [167], [169]] (fun w i => bi (i.headD 0) w) = true := by decide +kernel
theorem bn_5 : ∀ k, k < 4 → (tyX4 k = .int ∨ tyX4 k = .long ∨ tyX4 k = .boolean) → (TX4 k).2.2.2 = false := by decide +kernel
set_option maxRecDepth 100000 in
theorem bw_6 : bi_2 (u_ws RX5 TX5 9) [[402], [404], [406], [408], [410], [412], [414], [416], [418]] (fun w i => bi (i.headD 0) w) = true := by decide +kernel
theorem bn_6 : ∀ k, k < 9 → (tyX5 k = .int ∨ tyX5 k = .long ∨ tyX5 k = .boolean) → (TX5 k).2.2.2 = false := by decide +kernel
set_option maxRecDepth 100000 in
theorem bw_7 : bi_2 (u_ws RX6 TX6 4) [[359], [361], [363], [365]] (fun w i => bi (i.headD 0) w) = true := by decide +kernel
theorem bn_7 : ∀ k, k < 4 → (tyX6 k = .int ∨ tyX6 k = .long ∨ tyX6 k = .boolean) → (TX6 k).2.2.2 = false := by decide +kernel
set_option maxRecDepth 100000 in
theorem bw_8 : bi_2 (u_ws RX7 TX7 3) [[377], [379], [381]] (fun w i => bi (i.headD 0) w) = true := by decide +kernel
theorem bn_8 : ∀ k, k < 3 → (tyX7 k = .int ∨ tyX7 k = .long ∨ tyX7 k = .boolean) → (TX7 k).2.2.2 = false := by decide +kernel
set_option maxRecDepth 100000 in
theorem bw_9 : bi_2 (u_ws RX8 TX8 9) [[315], [317], [319], [321], [323], [325], [327], [329], [331]] (fun w i => bi (i.headD 0) w) = true := by decide +kernel
theorem bn_9 : ∀ k, k < 9 → (tyX8 k = .int ∨ tyX8 k = .long ∨ tyX8 k = .boolean) → (TX8 k).2.2.2 = false := by decide +kernel
set_option maxRecDepth 100000 in
theorem bw_10 : bi_2 (u_ws RX9 TX9 19) [[451], [453], [455], [457], [459], [461], [463], [465], [467], [469], [471], [473], [475], [477], [479], [481], [483], [485], [487]] (fun w i => bi (i.headD 0) w) = true := by decide +kernel
theorem bn_10 : ∀ k, k < 19 → (tyX9 k = .int ∨ tyX9 k = .long ∨ tyX9 k = .boolean) → (TX9 k).2.2.2 = false := by decide +kernel
theorem bb_TF1 : ∀ (ci : Nat) (C : String) (T : u_T) (N : Nat), bb_cl[ci]? = some (C, T, N) → (∀ w ∈ u_ws C T N, w ∈ bb_T) ∧ (∀ k, k < N → parseFieldDescriptor (T k).2.2.1 = some (bb_ty ci k)) ∧ (∀ a, a < N → ∀ b, b < N → a ≠ b → (T a).2.1 ≠ (T b).2.1) ∧ ∀ k, k < N → (bb_ty ci k = .int ∨ bb_ty ci k = .long ∨ bb_ty ci k = .boolean) → (T k).2.2.2 = false
  | 0, _, _, _, h => by cases h; exact ⟨fun w hw => by obtain ⟨i, hi⟩ := bi_2s bw_0 w hw; exact bi_spec hi, tyX10_ok, nmX10, bn_0⟩
  | 1, _, _, _, h => by cases h; exact ⟨fun w hw => by obtain ⟨i, hi⟩ := bi_2s bw_1 w hw; exact bi_spec hi, tyX0_ok, nmX0, bn_1⟩
  | 2, _, _, _, h => by cases h; exact ⟨fun w hw => by obtain ⟨i, hi⟩ := bi_2s bw_2 w hw; exact bi_spec hi, tyX1_ok, nmX1, bn_2⟩
  | 3, _, _, _, h => by cases h; exact ⟨fun w hw => by obtain ⟨i, hi⟩ := bi_2s bw_3 w hw; exact bi_spec hi, tyX2_ok, nmX2, bn_3⟩
  | 4, _, _, _, h => by cases h; exact ⟨fun w hw => by obtain ⟨i, hi⟩ := bi_2s bw_4 w hw; exact bi_spec hi, tyX3_ok, nmX3, bn_4⟩
  | 5, _, _, _, h => by cases h; exact ⟨fun w hw => by obtain ⟨i, hi⟩ := bi_2s bw_5 w hw; exact bi_spec hi, tyX4_ok, nmX4, bn_5⟩
  | 6, _, _, _, h => by cases h; exact ⟨fun w hw => by obtain ⟨i, hi⟩ := bi_2s bw_6 w hw; exact bi_spec hi, tyX5_ok, nmX5, bn_6⟩
  | 7, _, _, _, h => by cases h; exact ⟨fun w hw => by obtain ⟨i, hi⟩ := bi_2s bw_7 w hw; exact bi_spec hi, tyX6_ok, nmX6, bn_7⟩
  | 8, _, _, _, h => by cases h; exact ⟨fun w hw => by obtain ⟨i, hi⟩ := bi_2s bw_8 w hw; exact bi_spec hi, tyX7_ok, nmX7, bn_8⟩
  | 9, _, _, _, h => by cases h; exact ⟨fun w hw => by obtain ⟨i, hi⟩ := bi_2s bw_9 w hw; exact bi_spec hi, tyX8_ok, nmX8, bn_9⟩
  | 10, _, _, _, h => by cases h; exact ⟨fun w hw => by obtain ⟨i, hi⟩ := bi_2s bw_10 w hw; exact bi_spec hi, tyX9_ok, nmX9, bn_10⟩
  | n + 11, _, _, _, h => by simp [bb_cl] at h
def bb_s2 (q : Nat × List Nat) : Bool := decide (20 ≤ q.1) || (match bb_cl[q.1]? with
  | some (_, _, N) => decide (q.2.length = N) && (List.range N).all (fun k => match q.2[k]? with
    | some 0 => decide (bb_ty q.1 k = .int)
    | some 1 => decide (bb_ty q.1 k = .long)
    | some 2 => decide (bb_ty q.1 k = .boolean)
    | _ => true)
  | none => false)
set_option maxRecDepth 100000 in
theorem bb_s2_ok : bk_sh.all bb_s2 = true := by decide +kernel
theorem bb_TF2 : ∀ (p c : Nat) (ds : List Nat), (en_SH bb_G)[p]? = some (c, ds) → c < 20 → ∃ (C : String) (T : u_T) (N : Nat), bb_cl[c]? = some (C, T, N) ∧ ds.length = N ∧ ∀ k d, ds[k]? = some d → (d = 0 → bb_ty c k = .int) ∧ (d = 1 → bb_ty c k = .long) ∧ (d = 2 → bb_ty c k = .boolean) := by
  intro p c ds h hc
  have h1 := List.all_eq_true.mp bb_s2_ok (c, ds) (List.mem_of_getElem? h)
  unfold bb_s2 at h1
  simp only [Bool.or_eq_true, decide_eq_true_eq] at h1
  rcases h1 with h1 | h1
  · omega
  · split at h1
    · next C T N hN =>
      simp only [Bool.and_eq_true, decide_eq_true_eq, List.all_eq_true, List.mem_range] at h1
      refine ⟨C, T, N, hN, h1.1, fun k d hd => ?_⟩
      have hk : k < N := by rw [← h1.1]; exact (List.getElem?_eq_some_iff.mp hd).1
      have h2 := h1.2 k hk
      rw [hd] at h2
      refine ⟨?_, ?_, ?_⟩ <;> rintro rfl <;> simpa using h2
    · cases h1
def bb_f1 (c : Nat) (e : Nat × (Nat × Nat)) (i : List Nat) : Bool := decide (e.2.1 < 20) && (match bb_cl[e.2.1]? with
  | some (_, T, N) => decide (e.2.2 < N) && bi (i.headD 0) (Cond.fieldLink (bb_ow.getD c "") e.1 (T e.2.2).1 (T e.2.2).2.1 (T e.2.2).2.2.1)
  | none => false)
set_option maxRecDepth 100000 in
theorem bfw_0 : bi_2 bf_0 [[1455], [1459], [1460], [1461], [1462], [1463], [1464], [1465], [1466], [1467], [1470], [1471], [1490], [1491], [1492], [1493], [1494], [1495], [1496], [1497], [1498], [1499], [1500], [1502], [1503], [1507], [1508], [1510], [1511], [1512], [1517], [1518], [1519], [1454], [1468], [1472], [1473], [1475], [1479], [1477], [1478], [1474], [1476], [1469], [1487], [1488], [1489], [1481], [1480], [1482], [1483], [1484], [1485], [1486], [1456], [1457], [1458], [1501], [1509], [1514], [1505], [1504], [1506], [1513], [1515], [1516]] (bb_f1 0) = true := by decide +kernel
set_option maxRecDepth 100000 in
theorem bfw_1 : bi_2 bf_1 [[427]] (bb_f1 1) = true := by decide +kernel
set_option maxRecDepth 100000 in
theorem bfw_2 : bi_2 bf_2 [[174], [177], [180], [181], [182], [183], [189], [192], [194], [195], [200], [204], [208], [211], [214]] (bb_f1 2) = true := by decide +kernel
set_option maxRecDepth 100000 in
theorem bfw_3 : bi_2 bf_3 [[340], [342]] (bb_f1 3) = true := by decide +kernel
set_option maxRecDepth 100000 in
theorem bfw_4 : bi_2 bf_4 [[256], [257], [258], [259], [260], [261], [262], [263], [264], [254], [255], [212], [215], [176], [179], [188], [191], [199], [203], [206], [210], [158]] (bb_f1 4) = true := by decide +kernel
set_option maxRecDepth 100000 in
theorem bfw_5 : bi_2 bf_5 [[157], [160], [161], [162]] (bb_f1 5) = true := by decide +kernel
set_option maxRecDepth 100000 in
theorem bfw_6 : bi_2 bf_6 [[393], [394], [395], [396], [398], [400], [390], [391], [392], [297], [184], [302], [299]] (bb_f1 6) = true := by decide +kernel
set_option maxRecDepth 100000 in
theorem bfw_7 : bi_2 bf_7 [[354], [356], [357], [358]] (bb_f1 7) = true := by decide +kernel
set_option maxRecDepth 100000 in
theorem bfw_8 : bi_2 bf_8 [[375], [376], [374], [296], [196], [185], [303]] (bb_f1 8) = true := by decide +kernel
set_option maxRecDepth 100000 in
theorem bfw_9 : bi_2 bf_9 [[298], [301], [305], [307], [309], [311], [313], [314], [295], [190], [209], [198], [202], [187], [213], [159], [216], [207]] (bb_f1 9) = true := by decide +kernel
set_option maxRecDepth 100000 in
theorem bfw_10 : bi_2 bf_10 [[432], [433], [434], [435], [436], [437], [438], [439], [440], [441], [442], [443], [444], [445], [446], [447], [448], [449], [450], [265], [341], [355], [175], [178], [186], [197], [300], [304], [193], [201], [205], [308], [310], [312], [397], [399], [401], [428], [306]] (bb_f1 10) = true := by decide +kernel
set_option maxRecDepth 100000 in
theorem bfw_12 : bi_2 bf_12 [] (bb_f1 12) = true := by decide +kernel
set_option maxRecDepth 100000 in
theorem bfw_13 : bi_2 bf_13 [] (bb_f1 13) = true := by decide +kernel
set_option maxRecDepth 100000 in
theorem bfw_14 : bi_2 bf_14 [] (bb_f1 14) = true := by decide +kernel
theorem bb_f1_ok : ∀ c r, bb_FL[c]? = some r → ∀ x ∈ r, ∃ i, bb_f1 c x i = true
  | 0, _, h => by cases h; exact bi_2s bfw_0
  | 1, _, h => by cases h; exact bi_2s bfw_1
  | 2, _, h => by cases h; exact bi_2s bfw_2
  | 3, _, h => by cases h; exact bi_2s bfw_3
  | 4, _, h => by cases h; exact bi_2s bfw_4
  | 5, _, h => by cases h; exact bi_2s bfw_5
  | 6, _, h => by cases h; exact bi_2s bfw_6
  | 7, _, h => by cases h; exact bi_2s bfw_7
  | 8, _, h => by cases h; exact bi_2s bfw_8
  | 9, _, h => by cases h; exact bi_2s bfw_9
  | 10, _, h => by cases h; exact bi_2s bfw_10
  | 11, _, h => by cases h; exact fun x hx => by cases hx
  | 12, _, h => by cases h; exact bi_2s bfw_12
  | 13, _, h => by cases h; exact bi_2s bfw_13
  | 14, _, h => by cases h; exact bi_2s bfw_14
  | n + 15, _, h => by simp [bb_FL] at h
theorem bb_TF3 : ∀ mi idx ci k, en_FD bb_G mi idx = some (ci, k) → ci < 20 ∧ ∀ (C : String) (T : u_T) (N : Nat), bb_cl[ci]? = some (C, T, N) → k < N ∧ Cond.fieldLink (bb_own mi) idx (T k).1 (T k).2.1 (T k).2.2.1 ∈ bb_T := by
  intro mi idx ci k h
  obtain ⟨r, h1, h2⟩ := bb_getD (en_as_mem (show en_as (bb_FL.getD (bb_cc mi) []) idx = some (ci, k) from h))
  obtain ⟨i, h3⟩ := bb_f1_ok _ _ h1 _ h2
  unfold bb_f1 at h3
  simp only [Bool.and_eq_true, decide_eq_true_eq] at h3
  refine ⟨h3.1, fun C T N hN => ?_⟩
  have h4 := h3.2
  rw [hN] at h4
  simp only [Bool.and_eq_true, decide_eq_true_eq] at h4
  exact ⟨h4.1, bi_spec h4.2⟩
def bb_k1 (e : Nat × (Int32 ⊕ Nat)) (i : List Nat) : Bool := match e.2 with
  | .inl v => bi (i.headD 0) (Cond.constant (bb_ow.getD (e.1 / 100000) "") (e.1 % 100000) v)
  | .inr _ => true
def bb_k2 (e : Nat × Int64) (i : List Nat) : Bool := bi (i.headD 0) (Cond.constantLong (bb_ow.getD (e.1 / 100000) "") (e.1 % 100000) e.2)
theorem bb_k1_ok : bi_2 bk_c [[2011], [2100], [1388], [0], [0], [0], [0], [0], [0], [0], [0], [0], [0], [0], [0], [0], [0], [0], [0], [0], [0], [1064], [1065], [1066]] bb_k1 = true := by decide +kernel
theorem bb_k2_ok : bi_2 bk_l [[1706]] bb_k2 = true := by decide +kernel
theorem bb_key {a b : Nat} (h : b < 100000) : (100000 * a + b) / 100000 = a ∧ (100000 * a + b) % 100000 = b := by omega
theorem bb_TF4 : ∀ mi idx v, en_KC bb_G mi idx = some (.inl v) → Cond.constant (bb_own mi) idx v ∈ bb_T := by
  intro mi idx v h
  have h0 : (if idx < 100000 then en_as bk_c (100000 * bb_cc mi + idx) else none) = some (.inl v) := h
  split at h0
  · next hi =>
    obtain ⟨i, h1⟩ := bi_2s bb_k1_ok _ (en_as_mem h0)
    unfold bb_k1 at h1
    simp only [(bb_key hi).1, (bb_key hi).2] at h1
    exact bi_spec h1
  · cases h0
theorem bb_TF5 : ∀ mi idx v, en_KL bb_G mi idx = some v → Cond.constantLong (bb_own mi) idx v ∈ bb_T := by
  intro mi idx v h
  have h0 : (if idx < 100000 then en_as bk_l (100000 * bb_cc mi + idx) else none) = some v := h
  split at h0
  · next hi =>
    obtain ⟨i, h1⟩ := bi_2s bb_k2_ok _ (en_as_mem h0)
    unfold bb_k2 at h1
    simp only [(bb_key hi).1, (bb_key hi).2] at h1
    exact bi_spec h1
  · cases h0
theorem bb_TF : en_TF bb_G bb_T bb_cl bb_ty bb_own := ⟨bb_TF1, bb_TF2, bb_TF3, bb_TF4, bb_TF5⟩
def bb_nw : List Cond := [Cond.methodLinkNest "BoxBearers" 26 ⟨"BoxBearers$Land", "<init>", "()V"⟩ "BoxBearers", Cond.methodLinkNest "BoxBearers$Land" 54 ⟨"BoxBearers$Rule", "<init>", "()V"⟩ "BoxBearers", Cond.methodLinkNest "BoxBearers" 57 ⟨"BoxBearers$Past", "<init>", "()V"⟩ "BoxBearers", Cond.methodLinkNest "BoxBearers" 64 ⟨"BoxBearers$Seen", "<init>", "()V"⟩ "BoxBearers", Cond.methodLinkNest "BoxBearers" 102 ⟨"BoxBearers$Draws", "<init>", "()V"⟩ "BoxBearers", Cond.methodLinkNest "BoxBearers$State" 114 ⟨"BoxBearers", "within", "(III)I"⟩ "BoxBearers", Cond.methodLinkNest "BoxBearers$State" 76 ⟨"BoxBearers", "hasBit", "(II)Z"⟩ "BoxBearers", Cond.methodLinkNest "BoxBearers$Land" 75 ⟨"BoxBearers", "hasBit", "(II)Z"⟩ "BoxBearers"]
set_option maxRecDepth 100000 in
theorem bb_nw_in : ∀ w ∈ bb_nw, w ∈ lw_tbl := by
  have h : (bb_nw.zip [147, 153, 336, 350, 423, 567, 582, 1034]).all (fun q => decide (lw_tbl[q.2]? = some q.1)) = true := by decide +kernel
  intro w hw
  obtain ⟨k, hk⟩ := List.getElem?_of_mem hw
  have hl : k < bb_nw.length := (List.getElem?_eq_some_iff.mp hk).1
  obtain ⟨j, hj⟩ : ∃ j, ([147, 153, 336, 350, 423, 567, 582, 1034] : List Nat)[k]? = some j := ⟨_, List.getElem?_eq_getElem (by exact hl)⟩
  have h1 := List.all_eq_true.mp h (w, j) (List.mem_of_getElem? (i := k) (by rw [List.getElem?_zip_eq_some]; exact ⟨hk, hj⟩))
  exact List.mem_of_getElem? (of_decide_eq_true h1)
def bb_pc (cc : ByteArray) (n : Nat) (l : List (Nat × Instr × Option (List Bool))) : Bool := l.all (fun q => en_chk cc q.1 q.2.1 && (match q.2.2 with
  | none => true
  | some bs => bs.length == n))
def bb_mv (y : Nat) (i : List Nat) : Bool := bi (i.getD 0 0) (en_wd bb_G bb_ML bb_yN bb_CD bb_hh y) && plainName (bb_yN y).cls && decide ((bb_yN y).cls = bb_own y) && bi (i.getD 1 0) (Cond.initialized (bb_own y)) && decide ((bb_yN y).cls ≠ "java/lang/invoke/MethodHandle") && decide ((bb_yN y).cls ≠ "java/lang/invoke/VarHandle") && decide (8 ≤ bb_fr y) && decide (200 ≤ bb_lo y) && bb_pc (bb_CD y) (bb_ML y) (bb_P y)
theorem bb_mv_ok {y : Nat} {i : List Nat} (h : bb_mv y i = true) : en_MV bb_G bb_P bb_ML bb_T bb_own bb_yN bb_CD bb_hh bb_fr bb_lo y := by
  unfold bb_mv at h
  simp only [Bool.and_eq_true, decide_eq_true_eq] at h
  obtain ⟨⟨⟨⟨⟨⟨⟨⟨h1, h2⟩, h3⟩, h4⟩, h5⟩, h6⟩, h7⟩, h8⟩, h9⟩ := h
  refine ⟨bi_spec h1, h2, h3, bi_spec h4, ⟨h5, h6⟩, h7, h8, fun pc i m hg => ?_⟩
  have h10 := List.all_eq_true.mp h9 _ (en_get_mem hg)
  simp only [Bool.and_eq_true] at h10
  refine ⟨h10.1, fun bs hb => ?_⟩
  subst hb
  simpa using h10.2
