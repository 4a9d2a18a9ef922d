-- ===== PART A: goes FIRST, ahead of the names: the tables' words, and 'selects' of the private methods out of them =====
/-- a private method of a class that the tables say can be made, by its rows of tables_1 -/
def lw_okq (q : MethodName × Nat) : Prop := (q.1.cls ≠ "java/lang/invoke/MethodHandle" ∧ q.1.cls ≠ "java/lang/invoke/VarHandle") ∧ Cond.instantiable q.1.cls q.2 ∈ tables_1 ∧ Cond.privateMethod q.1 ∈ tables_1 ∧ Cond.instanceMethod q.1 ∈ tables_1
theorem lw_p0 : lw_okq (⟨"RiverBureau", "makeIn", "(LRiverBureau$Shelf;III)I"⟩, 16) := ⟨⟨by decide +kernel, by decide +kernel⟩, List.mem_of_getElem? (i := 18) (by decide +kernel), List.mem_of_getElem? (i := 327) (by decide +kernel), List.mem_of_getElem? (i := 328) (by decide +kernel)⟩
theorem lw_p1 : lw_okq (⟨"RiverBureau", "answerFinding", "(I)I"⟩, 16) := ⟨⟨by decide +kernel, by decide +kernel⟩, List.mem_of_getElem? (i := 18) (by decide +kernel), List.mem_of_getElem? (i := 335) (by decide +kernel), List.mem_of_getElem? (i := 336) (by decide +kernel)⟩
theorem lw_p2 : lw_okq (⟨"RiverBureau", "placeRefusal", "(LRiverBureau$Shelf;II)I"⟩, 16) := ⟨⟨by decide +kernel, by decide +kernel⟩, List.mem_of_getElem? (i := 18) (by decide +kernel), List.mem_of_getElem? (i := 348) (by decide +kernel), List.mem_of_getElem? (i := 349) (by decide +kernel)⟩
theorem lw_p3 : lw_okq (⟨"RiverBureau", "shelfRefusal", "(LRiverBureau$Shelf;I)I"⟩, 16) := ⟨⟨by decide +kernel, by decide +kernel⟩, List.mem_of_getElem? (i := 18) (by decide +kernel), List.mem_of_getElem? (i := 352) (by decide +kernel), List.mem_of_getElem? (i := 353) (by decide +kernel)⟩
theorem lw_p4 : lw_okq (⟨"RiverBureau$Reader", "readRiver", "()V"⟩, 6) := ⟨⟨by decide +kernel, by decide +kernel⟩, List.mem_of_getElem? (i := 105) (by decide +kernel), List.mem_of_getElem? (i := 444) (by decide +kernel), List.mem_of_getElem? (i := 445) (by decide +kernel)⟩
theorem lw_p5 : lw_okq (⟨"RiverBureau$Reader", "skipBlanks", "()V"⟩, 6) := ⟨⟨by decide +kernel, by decide +kernel⟩, List.mem_of_getElem? (i := 105) (by decide +kernel), List.mem_of_getElem? (i := 448) (by decide +kernel), List.mem_of_getElem? (i := 449) (by decide +kernel)⟩
theorem lw_p6 : lw_okq (⟨"RiverBureau$Reader", "nextSign", "()I"⟩, 6) := ⟨⟨by decide +kernel, by decide +kernel⟩, List.mem_of_getElem? (i := 105) (by decide +kernel), List.mem_of_getElem? (i := 452) (by decide +kernel), List.mem_of_getElem? (i := 453) (by decide +kernel)⟩
theorem lw_p7 : lw_okq (⟨"RiverBureau$Reader", "readFigure", "(II)I"⟩, 6) := ⟨⟨by decide +kernel, by decide +kernel⟩, List.mem_of_getElem? (i := 105) (by decide +kernel), List.mem_of_getElem? (i := 456) (by decide +kernel), List.mem_of_getElem? (i := 457) (by decide +kernel)⟩
theorem lw_p8 : lw_okq (⟨"RiverBureau$Reader", "readItem", "()V"⟩, 6) := ⟨⟨by decide +kernel, by decide +kernel⟩, List.mem_of_getElem? (i := 105) (by decide +kernel), List.mem_of_getElem? (i := 460) (by decide +kernel), List.mem_of_getElem? (i := 461) (by decide +kernel)⟩
theorem lw_p9 : lw_okq (⟨"RiverBureau$Reader", "readWait", "()V"⟩, 6) := ⟨⟨by decide +kernel, by decide +kernel⟩, List.mem_of_getElem? (i := 105) (by decide +kernel), List.mem_of_getElem? (i := 464) (by decide +kernel), List.mem_of_getElem? (i := 465) (by decide +kernel)⟩
theorem lw_p10 : lw_okq (⟨"RiverBureau$Reader", "readArm", "(I)V"⟩, 6) := ⟨⟨by decide +kernel, by decide +kernel⟩, List.mem_of_getElem? (i := 105) (by decide +kernel), List.mem_of_getElem? (i := 476) (by decide +kernel), List.mem_of_getElem? (i := 477) (by decide +kernel)⟩
theorem lw_p11 : lw_okq (⟨"RiverBureau", "armTells", "(II)I"⟩, 16) := ⟨⟨by decide +kernel, by decide +kernel⟩, List.mem_of_getElem? (i := 18) (by decide +kernel), List.mem_of_getElem? (i := 506) (by decide +kernel), List.mem_of_getElem? (i := 507) (by decide +kernel)⟩
theorem lw_p12 : lw_okq (⟨"RiverBureau", "markOf", "(II)I"⟩, 16) := ⟨⟨by decide +kernel, by decide +kernel⟩, List.mem_of_getElem? (i := 18) (by decide +kernel), List.mem_of_getElem? (i := 533) (by decide +kernel), List.mem_of_getElem? (i := 534) (by decide +kernel)⟩
theorem lw_p13 : lw_okq (⟨"RiverBureau", "doStamp", "(I)V"⟩, 16) := ⟨⟨by decide +kernel, by decide +kernel⟩, List.mem_of_getElem? (i := 18) (by decide +kernel), List.mem_of_getElem? (i := 576) (by decide +kernel), List.mem_of_getElem? (i := 577) (by decide +kernel)⟩
theorem lw_p14 : lw_okq (⟨"RiverBureau", "doSeason", "()I"⟩, 16) := ⟨⟨by decide +kernel, by decide +kernel⟩, List.mem_of_getElem? (i := 18) (by decide +kernel), List.mem_of_getElem? (i := 599) (by decide +kernel), List.mem_of_getElem? (i := 600) (by decide +kernel)⟩
theorem lw_p15 : lw_okq (⟨"RiverBureau$Flow", "turnSalt", "(LRiverBureau$Chart;IZ)V"⟩, 7) := ⟨⟨by decide +kernel, by decide +kernel⟩, List.mem_of_getElem? (i := 136) (by decide +kernel), List.mem_of_getElem? (i := 617) (by decide +kernel), List.mem_of_getElem? (i := 618) (by decide +kernel)⟩
def lw_privs_1 : List (MethodName × Nat) := [(⟨"RiverBureau", "makeIn", "(LRiverBureau$Shelf;III)I"⟩, 16), (⟨"RiverBureau", "answerFinding", "(I)I"⟩, 16), (⟨"RiverBureau", "placeRefusal", "(LRiverBureau$Shelf;II)I"⟩, 16), (⟨"RiverBureau", "shelfRefusal", "(LRiverBureau$Shelf;I)I"⟩, 16), (⟨"RiverBureau$Reader", "readRiver", "()V"⟩, 6), (⟨"RiverBureau$Reader", "skipBlanks", "()V"⟩, 6), (⟨"RiverBureau$Reader", "nextSign", "()I"⟩, 6), (⟨"RiverBureau$Reader", "readFigure", "(II)I"⟩, 6), (⟨"RiverBureau$Reader", "readItem", "()V"⟩, 6), (⟨"RiverBureau$Reader", "readWait", "()V"⟩, 6), (⟨"RiverBureau$Reader", "readArm", "(I)V"⟩, 6), (⟨"RiverBureau", "armTells", "(II)I"⟩, 16), (⟨"RiverBureau", "markOf", "(II)I"⟩, 16), (⟨"RiverBureau", "doStamp", "(I)V"⟩, 16), (⟨"RiverBureau", "doSeason", "()I"⟩, 16), (⟨"RiverBureau$Flow", "turnSalt", "(LRiverBureau$Chart;IZ)V"⟩, 7)]
theorem lw_r1 : ∀ q ∈ lw_privs_1, lw_okq q := List.forall_mem_cons.mpr ⟨lw_p0, List.forall_mem_cons.mpr ⟨lw_p1, List.forall_mem_cons.mpr ⟨lw_p2, List.forall_mem_cons.mpr ⟨lw_p3, List.forall_mem_cons.mpr ⟨lw_p4, List.forall_mem_cons.mpr ⟨lw_p5, List.forall_mem_cons.mpr ⟨lw_p6, List.forall_mem_cons.mpr ⟨lw_p7, List.forall_mem_cons.mpr ⟨lw_p8, List.forall_mem_cons.mpr ⟨lw_p9, List.forall_mem_cons.mpr ⟨lw_p10, List.forall_mem_cons.mpr ⟨lw_p11, List.forall_mem_cons.mpr ⟨lw_p12, List.forall_mem_cons.mpr ⟨lw_p13, List.forall_mem_cons.mpr ⟨lw_p14, List.forall_mem_cons.mpr ⟨lw_p15, fun _ h => absurd h List.not_mem_nil⟩⟩⟩⟩⟩⟩⟩⟩⟩⟩⟩⟩⟩⟩⟩⟩
theorem lw_p16 : lw_okq (⟨"RiverBureau$Flow", "turnSilt", "(LRiverBureau$Chart;I)V"⟩, 7) := ⟨⟨by decide +kernel, by decide +kernel⟩, List.mem_of_getElem? (i := 136) (by decide +kernel), List.mem_of_getElem? (i := 623) (by decide +kernel), List.mem_of_getElem? (i := 624) (by decide +kernel)⟩
theorem lw_p17 : lw_okq (⟨"RiverBureau", "deltaRowRefusal", "(I)I"⟩, 16) := ⟨⟨by decide +kernel, by decide +kernel⟩, List.mem_of_getElem? (i := 18) (by decide +kernel), List.mem_of_getElem? (i := 672) (by decide +kernel), List.mem_of_getElem? (i := 673) (by decide +kernel)⟩
theorem lw_p18 : lw_okq (⟨"RiverBureau", "isPlan", "(I)Z"⟩, 16) := ⟨⟨by decide +kernel, by decide +kernel⟩, List.mem_of_getElem? (i := 18) (by decide +kernel), List.mem_of_getElem? (i := 676) (by decide +kernel), List.mem_of_getElem? (i := 677) (by decide +kernel)⟩
theorem lw_p19 : lw_okq (⟨"RiverBureau$Planner", "mostServed", "()I"⟩, 9) := ⟨⟨by decide +kernel, by decide +kernel⟩, List.mem_of_getElem? (i := 186) (by decide +kernel), List.mem_of_getElem? (i := 700) (by decide +kernel), List.mem_of_getElem? (i := 701) (by decide +kernel)⟩
theorem lw_p20 : lw_okq (⟨"RiverBureau$Planner", "judge", "(II)V"⟩, 9) := ⟨⟨by decide +kernel, by decide +kernel⟩, List.mem_of_getElem? (i := 186) (by decide +kernel), List.mem_of_getElem? (i := 712) (by decide +kernel), List.mem_of_getElem? (i := 713) (by decide +kernel)⟩
theorem lw_p21 : lw_okq (⟨"RiverBureau$Planner", "canWin", "(II)Z"⟩, 9) := ⟨⟨by decide +kernel, by decide +kernel⟩, List.mem_of_getElem? (i := 186) (by decide +kernel), List.mem_of_getElem? (i := 716) (by decide +kernel), List.mem_of_getElem? (i := 717) (by decide +kernel)⟩
theorem lw_p22 : lw_okq (⟨"RiverBureau$Planner", "worthOf", "(II)I"⟩, 9) := ⟨⟨by decide +kernel, by decide +kernel⟩, List.mem_of_getElem? (i := 186) (by decide +kernel), List.mem_of_getElem? (i := 723) (by decide +kernel), List.mem_of_getElem? (i := 724) (by decide +kernel)⟩
theorem lw_p23 : lw_okq (⟨"RiverBureau$Planner", "hopeOf", "(LRiverBureau$Flow;I)I"⟩, 9) := ⟨⟨by decide +kernel, by decide +kernel⟩, List.mem_of_getElem? (i := 186) (by decide +kernel), List.mem_of_getElem? (i := 728) (by decide +kernel), List.mem_of_getElem? (i := 729) (by decide +kernel)⟩
theorem lw_p24 : lw_okq (⟨"RiverBureau", "takePlan", "(II)V"⟩, 16) := ⟨⟨by decide +kernel, by decide +kernel⟩, List.mem_of_getElem? (i := 18) (by decide +kernel), List.mem_of_getElem? (i := 733) (by decide +kernel), List.mem_of_getElem? (i := 734) (by decide +kernel)⟩
theorem lw_p25 : lw_okq (⟨"RiverBureau", "armRowRefusal", "(I)I"⟩, 16) := ⟨⟨by decide +kernel, by decide +kernel⟩, List.mem_of_getElem? (i := 18) (by decide +kernel), List.mem_of_getElem? (i := 762) (by decide +kernel), List.mem_of_getElem? (i := 763) (by decide +kernel)⟩
theorem lw_p26 : lw_okq (⟨"RiverBureau", "stampedToFit", "(II)I"⟩, 16) := ⟨⟨by decide +kernel, by decide +kernel⟩, List.mem_of_getElem? (i := 18) (by decide +kernel), List.mem_of_getElem? (i := 766) (by decide +kernel), List.mem_of_getElem? (i := 767) (by decide +kernel)⟩
theorem lw_p27 : lw_okq (⟨"RiverBureau$Debts", "mostGroupsWithin", "(II)I"⟩, 2) := ⟨⟨by decide +kernel, by decide +kernel⟩, List.mem_of_getElem? (i := 225) (by decide +kernel), List.mem_of_getElem? (i := 787) (by decide +kernel), List.mem_of_getElem? (i := 788) (by decide +kernel)⟩
theorem lw_p28 : lw_okq (⟨"RiverBureau$Offices", "waitsLoosened", "(II)J"⟩, 3) := ⟨⟨by decide +kernel, by decide +kernel⟩, List.mem_of_getElem? (i := 239) (by decide +kernel), List.mem_of_getElem? (i := 815) (by decide +kernel), List.mem_of_getElem? (i := 816) (by decide +kernel)⟩
theorem lw_p29 : lw_okq (⟨"RiverBureau", "tellChances", "(II)V"⟩, 16) := ⟨⟨by decide +kernel, by decide +kernel⟩, List.mem_of_getElem? (i := 18) (by decide +kernel), List.mem_of_getElem? (i := 848) (by decide +kernel), List.mem_of_getElem? (i := 849) (by decide +kernel)⟩
theorem lw_p30 : lw_okq (⟨"RiverBureau", "doStamps", "(I)V"⟩, 16) := ⟨⟨by decide +kernel, by decide +kernel⟩, List.mem_of_getElem? (i := 18) (by decide +kernel), List.mem_of_getElem? (i := 859) (by decide +kernel), List.mem_of_getElem? (i := 860) (by decide +kernel)⟩
theorem lw_p31 : lw_okq (⟨"RiverBureau", "countKept", "()I"⟩, 16) := ⟨⟨by decide +kernel, by decide +kernel⟩, List.mem_of_getElem? (i := 18) (by decide +kernel), List.mem_of_getElem? (i := 888) (by decide +kernel), List.mem_of_getElem? (i := 889) (by decide +kernel)⟩
def lw_privs_2 : List (MethodName × Nat) := [(⟨"RiverBureau$Flow", "turnSilt", "(LRiverBureau$Chart;I)V"⟩, 7), (⟨"RiverBureau", "deltaRowRefusal", "(I)I"⟩, 16), (⟨"RiverBureau", "isPlan", "(I)Z"⟩, 16), (⟨"RiverBureau$Planner", "mostServed", "()I"⟩, 9), (⟨"RiverBureau$Planner", "judge", "(II)V"⟩, 9), (⟨"RiverBureau$Planner", "canWin", "(II)Z"⟩, 9), (⟨"RiverBureau$Planner", "worthOf", "(II)I"⟩, 9), (⟨"RiverBureau$Planner", "hopeOf", "(LRiverBureau$Flow;I)I"⟩, 9), (⟨"RiverBureau", "takePlan", "(II)V"⟩, 16), (⟨"RiverBureau", "armRowRefusal", "(I)I"⟩, 16), (⟨"RiverBureau", "stampedToFit", "(II)I"⟩, 16), (⟨"RiverBureau$Debts", "mostGroupsWithin", "(II)I"⟩, 2), (⟨"RiverBureau$Offices", "waitsLoosened", "(II)J"⟩, 3), (⟨"RiverBureau", "tellChances", "(II)V"⟩, 16), (⟨"RiverBureau", "doStamps", "(I)V"⟩, 16), (⟨"RiverBureau", "countKept", "()I"⟩, 16)]
theorem lw_r2 : ∀ q ∈ lw_privs_2, lw_okq q := List.forall_mem_cons.mpr ⟨lw_p16, List.forall_mem_cons.mpr ⟨lw_p17, List.forall_mem_cons.mpr ⟨lw_p18, List.forall_mem_cons.mpr ⟨lw_p19, List.forall_mem_cons.mpr ⟨lw_p20, List.forall_mem_cons.mpr ⟨lw_p21, List.forall_mem_cons.mpr ⟨lw_p22, List.forall_mem_cons.mpr ⟨lw_p23, List.forall_mem_cons.mpr ⟨lw_p24, List.forall_mem_cons.mpr ⟨lw_p25, List.forall_mem_cons.mpr ⟨lw_p26, List.forall_mem_cons.mpr ⟨lw_p27, List.forall_mem_cons.mpr ⟨lw_p28, List.forall_mem_cons.mpr ⟨lw_p29, List.forall_mem_cons.mpr ⟨lw_p30, List.forall_mem_cons.mpr ⟨lw_p31, fun _ h => absurd h List.not_mem_nil⟩⟩⟩⟩⟩⟩⟩⟩⟩⟩⟩⟩⟩⟩⟩⟩
theorem lw_p32 : lw_okq (⟨"RiverBureauModel", "meets", "(I)I"⟩, 44) := ⟨⟨by decide +kernel, by decide +kernel⟩, List.mem_of_getElem? (i := 917) (by decide +kernel), List.mem_of_getElem? (i := 1088) (by decide +kernel), List.mem_of_getElem? (i := 1089) (by decide +kernel)⟩
theorem lw_p33 : lw_okq (⟨"RiverBureauModel", "rowAt", "(II)I"⟩, 44) := ⟨⟨by decide +kernel, by decide +kernel⟩, List.mem_of_getElem? (i := 917) (by decide +kernel), List.mem_of_getElem? (i := 1096) (by decide +kernel), List.mem_of_getElem? (i := 1097) (by decide +kernel)⟩
theorem lw_p34 : lw_okq (⟨"RiverBureauModel", "tells", "(II)I"⟩, 44) := ⟨⟨by decide +kernel, by decide +kernel⟩, List.mem_of_getElem? (i := 917) (by decide +kernel), List.mem_of_getElem? (i := 1100) (by decide +kernel), List.mem_of_getElem? (i := 1101) (by decide +kernel)⟩
theorem lw_p35 : lw_okq (⟨"RiverBureauModel", "faultOf", "(I)I"⟩, 44) := ⟨⟨by decide +kernel, by decide +kernel⟩, List.mem_of_getElem? (i := 917) (by decide +kernel), List.mem_of_getElem? (i := 1135) (by decide +kernel), List.mem_of_getElem? (i := 1136) (by decide +kernel)⟩
theorem lw_p36 : lw_okq (⟨"RiverBureauModel", "byteAt", "(II)I"⟩, 44) := ⟨⟨by decide +kernel, by decide +kernel⟩, List.mem_of_getElem? (i := 917) (by decide +kernel), List.mem_of_getElem? (i := 1139) (by decide +kernel), List.mem_of_getElem? (i := 1140) (by decide +kernel)⟩
theorem lw_p37 : lw_okq (⟨"RiverBureauModel", "readsItem", "(I)Z"⟩, 44) := ⟨⟨by decide +kernel, by decide +kernel⟩, List.mem_of_getElem? (i := 917) (by decide +kernel), List.mem_of_getElem? (i := 1143) (by decide +kernel), List.mem_of_getElem? (i := 1144) (by decide +kernel)⟩
theorem lw_p38 : lw_okq (⟨"RiverBureauModel", "readsRiver", "(I)Z"⟩, 44) := ⟨⟨by decide +kernel, by decide +kernel⟩, List.mem_of_getElem? (i := 917) (by decide +kernel), List.mem_of_getElem? (i := 1147) (by decide +kernel), List.mem_of_getElem? (i := 1148) (by decide +kernel)⟩
theorem lw_p39 : lw_okq (⟨"RiverBureauModel", "figure", "(III)Z"⟩, 44) := ⟨⟨by decide +kernel, by decide +kernel⟩, List.mem_of_getElem? (i := 917) (by decide +kernel), List.mem_of_getElem? (i := 1151) (by decide +kernel), List.mem_of_getElem? (i := 1152) (by decide +kernel)⟩
theorem lw_p40 : lw_okq (⟨"RiverBureauModel", "readsWait", "(I)Z"⟩, 44) := ⟨⟨by decide +kernel, by decide +kernel⟩, List.mem_of_getElem? (i := 917) (by decide +kernel), List.mem_of_getElem? (i := 1155) (by decide +kernel), List.mem_of_getElem? (i := 1156) (by decide +kernel)⟩
theorem lw_p41 : lw_okq (⟨"RiverBureauModel", "readsArm", "(I)Z"⟩, 44) := ⟨⟨by decide +kernel, by decide +kernel⟩, List.mem_of_getElem? (i := 917) (by decide +kernel), List.mem_of_getElem? (i := 1162) (by decide +kernel), List.mem_of_getElem? (i := 1163) (by decide +kernel)⟩
theorem lw_p42 : lw_okq (⟨"RiverBureauModel", "isArm", "(I)Z"⟩, 44) := ⟨⟨by decide +kernel, by decide +kernel⟩, List.mem_of_getElem? (i := 917) (by decide +kernel), List.mem_of_getElem? (i := 1177) (by decide +kernel), List.mem_of_getElem? (i := 1178) (by decide +kernel)⟩
theorem lw_p43 : lw_okq (⟨"RiverBureauModel", "armTells", "(II)I"⟩, 44) := ⟨⟨by decide +kernel, by decide +kernel⟩, List.mem_of_getElem? (i := 917) (by decide +kernel), List.mem_of_getElem? (i := 1181) (by decide +kernel), List.mem_of_getElem? (i := 1182) (by decide +kernel)⟩
theorem lw_p44 : lw_okq (⟨"RiverBureauModel", "mayBe", "(II)Z"⟩, 44) := ⟨⟨by decide +kernel, by decide +kernel⟩, List.mem_of_getElem? (i := 917) (by decide +kernel), List.mem_of_getElem? (i := 1185) (by decide +kernel), List.mem_of_getElem? (i := 1186) (by decide +kernel)⟩
theorem lw_p45 : lw_okq (⟨"RiverBureauModel", "isDead", "(II)Z"⟩, 44) := ⟨⟨by decide +kernel, by decide +kernel⟩, List.mem_of_getElem? (i := 917) (by decide +kernel), List.mem_of_getElem? (i := 1189) (by decide +kernel), List.mem_of_getElem? (i := 1190) (by decide +kernel)⟩
theorem lw_p46 : lw_okq (⟨"RiverBureauModel", "isOpen", "(II)Z"⟩, 44) := ⟨⟨by decide +kernel, by decide +kernel⟩, List.mem_of_getElem? (i := 917) (by decide +kernel), List.mem_of_getElem? (i := 1193) (by decide +kernel), List.mem_of_getElem? (i := 1194) (by decide +kernel)⟩
theorem lw_p47 : lw_okq (⟨"RiverBureauModel", "isBarge", "(II)Z"⟩, 44) := ⟨⟨by decide +kernel, by decide +kernel⟩, List.mem_of_getElem? (i := 917) (by decide +kernel), List.mem_of_getElem? (i := 1197) (by decide +kernel), List.mem_of_getElem? (i := 1198) (by decide +kernel)⟩
def lw_privs_3 : List (MethodName × Nat) := [(⟨"RiverBureauModel", "meets", "(I)I"⟩, 44), (⟨"RiverBureauModel", "rowAt", "(II)I"⟩, 44), (⟨"RiverBureauModel", "tells", "(II)I"⟩, 44), (⟨"RiverBureauModel", "faultOf", "(I)I"⟩, 44), (⟨"RiverBureauModel", "byteAt", "(II)I"⟩, 44), (⟨"RiverBureauModel", "readsItem", "(I)Z"⟩, 44), (⟨"RiverBureauModel", "readsRiver", "(I)Z"⟩, 44), (⟨"RiverBureauModel", "figure", "(III)Z"⟩, 44), (⟨"RiverBureauModel", "readsWait", "(I)Z"⟩, 44), (⟨"RiverBureauModel", "readsArm", "(I)Z"⟩, 44), (⟨"RiverBureauModel", "isArm", "(I)Z"⟩, 44), (⟨"RiverBureauModel", "armTells", "(II)I"⟩, 44), (⟨"RiverBureauModel", "mayBe", "(II)Z"⟩, 44), (⟨"RiverBureauModel", "isDead", "(II)Z"⟩, 44), (⟨"RiverBureauModel", "isOpen", "(II)Z"⟩, 44), (⟨"RiverBureauModel", "isBarge", "(II)Z"⟩, 44)]
theorem lw_r3 : ∀ q ∈ lw_privs_3, lw_okq q := List.forall_mem_cons.mpr ⟨lw_p32, List.forall_mem_cons.mpr ⟨lw_p33, List.forall_mem_cons.mpr ⟨lw_p34, List.forall_mem_cons.mpr ⟨lw_p35, List.forall_mem_cons.mpr ⟨lw_p36, List.forall_mem_cons.mpr ⟨lw_p37, List.forall_mem_cons.mpr ⟨lw_p38, List.forall_mem_cons.mpr ⟨lw_p39, List.forall_mem_cons.mpr ⟨lw_p40, List.forall_mem_cons.mpr ⟨lw_p41, List.forall_mem_cons.mpr ⟨lw_p42, List.forall_mem_cons.mpr ⟨lw_p43, List.forall_mem_cons.mpr ⟨lw_p44, List.forall_mem_cons.mpr ⟨lw_p45, List.forall_mem_cons.mpr ⟨lw_p46, List.forall_mem_cons.mpr ⟨lw_p47, fun _ h => absurd h List.not_mem_nil⟩⟩⟩⟩⟩⟩⟩⟩⟩⟩⟩⟩⟩⟩⟩⟩
theorem lw_p48 : lw_okq (⟨"RiverBureauModel", "openSet", "(I)I"⟩, 44) := ⟨⟨by decide +kernel, by decide +kernel⟩, List.mem_of_getElem? (i := 917) (by decide +kernel), List.mem_of_getElem? (i := 1201) (by decide +kernel), List.mem_of_getElem? (i := 1202) (by decide +kernel)⟩
theorem lw_p49 : lw_okq (⟨"RiverBureauModel", "waterOf", "(II)I"⟩, 44) := ⟨⟨by decide +kernel, by decide +kernel⟩, List.mem_of_getElem? (i := 917) (by decide +kernel), List.mem_of_getElem? (i := 1212) (by decide +kernel), List.mem_of_getElem? (i := 1213) (by decide +kernel)⟩
theorem lw_p50 : lw_okq (⟨"RiverBureauModel", "wideOpen", "(I)I"⟩, 44) := ⟨⟨by decide +kernel, by decide +kernel⟩, List.mem_of_getElem? (i := 917) (by decide +kernel), List.mem_of_getElem? (i := 1216) (by decide +kernel), List.mem_of_getElem? (i := 1217) (by decide +kernel)⟩
theorem lw_p51 : lw_okq (⟨"RiverBureauModel", "married", "(II)I"⟩, 44) := ⟨⟨by decide +kernel, by decide +kernel⟩, List.mem_of_getElem? (i := 917) (by decide +kernel), List.mem_of_getElem? (i := 1220) (by decide +kernel), List.mem_of_getElem? (i := 1221) (by decide +kernel)⟩
theorem lw_p52 : lw_okq (⟨"RiverBureauModel", "remember", "()V"⟩, 44) := ⟨⟨by decide +kernel, by decide +kernel⟩, List.mem_of_getElem? (i := 917) (by decide +kernel), List.mem_of_getElem? (i := 1236) (by decide +kernel), List.mem_of_getElem? (i := 1237) (by decide +kernel)⟩
theorem lw_p53 : lw_okq (⟨"RiverBureauModel", "stamps", "(II)V"⟩, 44) := ⟨⟨by decide +kernel, by decide +kernel⟩, List.mem_of_getElem? (i := 917) (by decide +kernel), List.mem_of_getElem? (i := 1240) (by decide +kernel), List.mem_of_getElem? (i := 1241) (by decide +kernel)⟩
theorem lw_p54 : lw_okq (⟨"RiverBureauModel", "passes", "(I)I"⟩, 44) := ⟨⟨by decide +kernel, by decide +kernel⟩, List.mem_of_getElem? (i := 917) (by decide +kernel), List.mem_of_getElem? (i := 1248) (by decide +kernel), List.mem_of_getElem? (i := 1249) (by decide +kernel)⟩
theorem lw_p55 : lw_okq (⟨"RiverBureauModel", "isSilty", "(I)Z"⟩, 44) := ⟨⟨by decide +kernel, by decide +kernel⟩, List.mem_of_getElem? (i := 917) (by decide +kernel), List.mem_of_getElem? (i := 1255) (by decide +kernel), List.mem_of_getElem? (i := 1256) (by decide +kernel)⟩
theorem lw_p56 : lw_okq (⟨"RiverBureauModel", "leaves", "(II)V"⟩, 44) := ⟨⟨by decide +kernel, by decide +kernel⟩, List.mem_of_getElem? (i := 917) (by decide +kernel), List.mem_of_getElem? (i := 1266) (by decide +kernel), List.mem_of_getElem? (i := 1267) (by decide +kernel)⟩
theorem lw_p57 : lw_okq (⟨"RiverBureauModel", "setMany", "()I"⟩, 44) := ⟨⟨by decide +kernel, by decide +kernel⟩, List.mem_of_getElem? (i := 917) (by decide +kernel), List.mem_of_getElem? (i := 1294) (by decide +kernel), List.mem_of_getElem? (i := 1295) (by decide +kernel)⟩
theorem lw_p58 : lw_okq (⟨"RiverBureauModel", "copyTo", "(II)V"⟩, 44) := ⟨⟨by decide +kernel, by decide +kernel⟩, List.mem_of_getElem? (i := 917) (by decide +kernel), List.mem_of_getElem? (i := 1298) (by decide +kernel), List.mem_of_getElem? (i := 1299) (by decide +kernel)⟩
theorem lw_p59 : lw_okq (⟨"RiverBureauModel", "stampsOf", "(II)I"⟩, 44) := ⟨⟨by decide +kernel, by decide +kernel⟩, List.mem_of_getElem? (i := 917) (by decide +kernel), List.mem_of_getElem? (i := 1302) (by decide +kernel), List.mem_of_getElem? (i := 1303) (by decide +kernel)⟩
theorem lw_p60 : lw_okq (⟨"RiverBureauModel", "allPlans", "(II)V"⟩, 44) := ⟨⟨by decide +kernel, by decide +kernel⟩, List.mem_of_getElem? (i := 917) (by decide +kernel), List.mem_of_getElem? (i := 1310) (by decide +kernel), List.mem_of_getElem? (i := 1311) (by decide +kernel)⟩
theorem lw_p61 : lw_okq (⟨"RiverBureauModel", "layPlans", "(IIIII)V"⟩, 44) := ⟨⟨by decide +kernel, by decide +kernel⟩, List.mem_of_getElem? (i := 917) (by decide +kernel), List.mem_of_getElem? (i := 1314) (by decide +kernel), List.mem_of_getElem? (i := 1315) (by decide +kernel)⟩
theorem lw_p62 : lw_okq (⟨"RiverBureauModel", "takes", "(III)V"⟩, 44) := ⟨⟨by decide +kernel, by decide +kernel⟩, List.mem_of_getElem? (i := 917) (by decide +kernel), List.mem_of_getElem? (i := 1318) (by decide +kernel), List.mem_of_getElem? (i := 1319) (by decide +kernel)⟩
theorem lw_p63 : lw_okq (⟨"RiverBureauModel", "layRow", "(I[II)V"⟩, 44) := ⟨⟨by decide +kernel, by decide +kernel⟩, List.mem_of_getElem? (i := 917) (by decide +kernel), List.mem_of_getElem? (i := 1322) (by decide +kernel), List.mem_of_getElem? (i := 1323) (by decide +kernel)⟩
def lw_privs_4 : List (MethodName × Nat) := [(⟨"RiverBureauModel", "openSet", "(I)I"⟩, 44), (⟨"RiverBureauModel", "waterOf", "(II)I"⟩, 44), (⟨"RiverBureauModel", "wideOpen", "(I)I"⟩, 44), (⟨"RiverBureauModel", "married", "(II)I"⟩, 44), (⟨"RiverBureauModel", "remember", "()V"⟩, 44), (⟨"RiverBureauModel", "stamps", "(II)V"⟩, 44), (⟨"RiverBureauModel", "passes", "(I)I"⟩, 44), (⟨"RiverBureauModel", "isSilty", "(I)Z"⟩, 44), (⟨"RiverBureauModel", "leaves", "(II)V"⟩, 44), (⟨"RiverBureauModel", "setMany", "()I"⟩, 44), (⟨"RiverBureauModel", "copyTo", "(II)V"⟩, 44), (⟨"RiverBureauModel", "stampsOf", "(II)I"⟩, 44), (⟨"RiverBureauModel", "allPlans", "(II)V"⟩, 44), (⟨"RiverBureauModel", "layPlans", "(IIIII)V"⟩, 44), (⟨"RiverBureauModel", "takes", "(III)V"⟩, 44), (⟨"RiverBureauModel", "layRow", "(I[II)V"⟩, 44)]
theorem lw_r4 : ∀ q ∈ lw_privs_4, lw_okq q := List.forall_mem_cons.mpr ⟨lw_p48, List.forall_mem_cons.mpr ⟨lw_p49, List.forall_mem_cons.mpr ⟨lw_p50, List.forall_mem_cons.mpr ⟨lw_p51, List.forall_mem_cons.mpr ⟨lw_p52, List.forall_mem_cons.mpr ⟨lw_p53, List.forall_mem_cons.mpr ⟨lw_p54, List.forall_mem_cons.mpr ⟨lw_p55, List.forall_mem_cons.mpr ⟨lw_p56, List.forall_mem_cons.mpr ⟨lw_p57, List.forall_mem_cons.mpr ⟨lw_p58, List.forall_mem_cons.mpr ⟨lw_p59, List.forall_mem_cons.mpr ⟨lw_p60, List.forall_mem_cons.mpr ⟨lw_p61, List.forall_mem_cons.mpr ⟨lw_p62, List.forall_mem_cons.mpr ⟨lw_p63, fun _ h => absurd h List.not_mem_nil⟩⟩⟩⟩⟩⟩⟩⟩⟩⟩⟩⟩⟩⟩⟩⟩
theorem lw_p64 : lw_okq (⟨"RiverBureauModel", "passesOf", "(II)I"⟩, 44) := ⟨⟨by decide +kernel, by decide +kernel⟩, List.mem_of_getElem? (i := 917) (by decide +kernel), List.mem_of_getElem? (i := 1338) (by decide +kernel), List.mem_of_getElem? (i := 1339) (by decide +kernel)⟩
theorem lw_p65 : lw_okq (⟨"RiverBureauModel", "needArms", "(I)I"⟩, 44) := ⟨⟨by decide +kernel, by decide +kernel⟩, List.mem_of_getElem? (i := 917) (by decide +kernel), List.mem_of_getElem? (i := 1346) (by decide +kernel), List.mem_of_getElem? (i := 1347) (by decide +kernel)⟩
theorem lw_p66 : lw_okq (⟨"RiverBureauModel", "saltBy", "(II)I"⟩, 44) := ⟨⟨by decide +kernel, by decide +kernel⟩, List.mem_of_getElem? (i := 917) (by decide +kernel), List.mem_of_getElem? (i := 1350) (by decide +kernel), List.mem_of_getElem? (i := 1351) (by decide +kernel)⟩
theorem lw_p67 : lw_okq (⟨"RiverBureauModel", "owedBy", "(II)J"⟩, 44) := ⟨⟨by decide +kernel, by decide +kernel⟩, List.mem_of_getElem? (i := 917) (by decide +kernel), List.mem_of_getElem? (i := 1362) (by decide +kernel), List.mem_of_getElem? (i := 1363) (by decide +kernel)⟩
theorem lw_p68 : lw_okq (⟨"RiverBureauModel", "parts", "(II)I"⟩, 44) := ⟨⟨by decide +kernel, by decide +kernel⟩, List.mem_of_getElem? (i := 917) (by decide +kernel), List.mem_of_getElem? (i := 1366) (by decide +kernel), List.mem_of_getElem? (i := 1367) (by decide +kernel)⟩
theorem lw_p69 : lw_okq (⟨"RiverBureauModel", "waitMany", "()I"⟩, 44) := ⟨⟨by decide +kernel, by decide +kernel⟩, List.mem_of_getElem? (i := 917) (by decide +kernel), List.mem_of_getElem? (i := 1374) (by decide +kernel), List.mem_of_getElem? (i := 1375) (by decide +kernel)⟩
theorem lw_p70 : lw_okq (⟨"RiverBureauModel", "layOrders", "(II)V"⟩, 44) := ⟨⟨by decide +kernel, by decide +kernel⟩, List.mem_of_getElem? (i := 917) (by decide +kernel), List.mem_of_getElem? (i := 1382) (by decide +kernel), List.mem_of_getElem? (i := 1383) (by decide +kernel)⟩
theorem lw_p71 : lw_okq (⟨"RiverBureauModel", "layBack", "()I"⟩, 44) := ⟨⟨by decide +kernel, by decide +kernel⟩, List.mem_of_getElem? (i := 917) (by decide +kernel), List.mem_of_getElem? (i := 1386) (by decide +kernel), List.mem_of_getElem? (i := 1387) (by decide +kernel)⟩
theorem lw_p72 : lw_okq (⟨"RiverBureauModel", "isAhead", "(I)Z"⟩, 44) := ⟨⟨by decide +kernel, by decide +kernel⟩, List.mem_of_getElem? (i := 917) (by decide +kernel), List.mem_of_getElem? (i := 1390) (by decide +kernel), List.mem_of_getElem? (i := 1391) (by decide +kernel)⟩
theorem lw_p73 : lw_okq (⟨"RiverBureauModel", "part", "(II)I"⟩, 44) := ⟨⟨by decide +kernel, by decide +kernel⟩, List.mem_of_getElem? (i := 917) (by decide +kernel), List.mem_of_getElem? (i := 1402) (by decide +kernel), List.mem_of_getElem? (i := 1403) (by decide +kernel)⟩
theorem lw_p74 : lw_okq (⟨"RiverBureauModel", "counted", "(I)I"⟩, 44) := ⟨⟨by decide +kernel, by decide +kernel⟩, List.mem_of_getElem? (i := 917) (by decide +kernel), List.mem_of_getElem? (i := 1419) (by decide +kernel), List.mem_of_getElem? (i := 1420) (by decide +kernel)⟩
theorem lw_p75 : lw_okq (⟨"RiverBureauModel", "mix", "(J)V"⟩, 44) := ⟨⟨by decide +kernel, by decide +kernel⟩, List.mem_of_getElem? (i := 917) (by decide +kernel), List.mem_of_getElem? (i := 1428) (by decide +kernel), List.mem_of_getElem? (i := 1429) (by decide +kernel)⟩
theorem lw_p76 : lw_okq (⟨"RiverBureauModel", "mixDelta", "()V"⟩, 44) := ⟨⟨by decide +kernel, by decide +kernel⟩, List.mem_of_getElem? (i := 917) (by decide +kernel), List.mem_of_getElem? (i := 1433) (by decide +kernel), List.mem_of_getElem? (i := 1434) (by decide +kernel)⟩
def lw_privs_5 : List (MethodName × Nat) := [(⟨"RiverBureauModel", "passesOf", "(II)I"⟩, 44), (⟨"RiverBureauModel", "needArms", "(I)I"⟩, 44), (⟨"RiverBureauModel", "saltBy", "(II)I"⟩, 44), (⟨"RiverBureauModel", "owedBy", "(II)J"⟩, 44), (⟨"RiverBureauModel", "parts", "(II)I"⟩, 44), (⟨"RiverBureauModel", "waitMany", "()I"⟩, 44), (⟨"RiverBureauModel", "layOrders", "(II)V"⟩, 44), (⟨"RiverBureauModel", "layBack", "()I"⟩, 44), (⟨"RiverBureauModel", "isAhead", "(I)Z"⟩, 44), (⟨"RiverBureauModel", "part", "(II)I"⟩, 44), (⟨"RiverBureauModel", "counted", "(I)I"⟩, 44), (⟨"RiverBureauModel", "mix", "(J)V"⟩, 44), (⟨"RiverBureauModel", "mixDelta", "()V"⟩, 44)]
theorem lw_r5 : ∀ q ∈ lw_privs_5, lw_okq q := List.forall_mem_cons.mpr ⟨lw_p64, List.forall_mem_cons.mpr ⟨lw_p65, List.forall_mem_cons.mpr ⟨lw_p66, List.forall_mem_cons.mpr ⟨lw_p67, List.forall_mem_cons.mpr ⟨lw_p68, List.forall_mem_cons.mpr ⟨lw_p69, List.forall_mem_cons.mpr ⟨lw_p70, List.forall_mem_cons.mpr ⟨lw_p71, List.forall_mem_cons.mpr ⟨lw_p72, List.forall_mem_cons.mpr ⟨lw_p73, List.forall_mem_cons.mpr ⟨lw_p74, List.forall_mem_cons.mpr ⟨lw_p75, List.forall_mem_cons.mpr ⟨lw_p76, fun _ h => absurd h List.not_mem_nil⟩⟩⟩⟩⟩⟩⟩⟩⟩⟩⟩⟩⟩
def lw_privs : List (MethodName × Nat) := lw_privs_1 ++ (lw_privs_2 ++ (lw_privs_3 ++ (lw_privs_4 ++ (lw_privs_5))))
def lw_tbl : List Cond := k2_sels lw_privs ++ tables_1
theorem lw_privs_ok : ∀ q ∈ lw_privs, lw_okq q := by
  show ∀ q ∈ lw_privs_1 ++ (lw_privs_2 ++ (lw_privs_3 ++ (lw_privs_4 ++ (lw_privs_5)))), lw_okq q
  exact List.forall_mem_append.mpr ⟨lw_r1, List.forall_mem_append.mpr ⟨lw_r2, List.forall_mem_append.mpr ⟨lw_r3, List.forall_mem_append.mpr ⟨lw_r4, lw_r5⟩⟩⟩⟩

def RX0 : String := "RiverBureau$Chart"
def TX0 : u_T := fun k => match k with
  | 0 => ("RiverBureau$Chart", "kind", "[I", true)
  | 1 => ("RiverBureau$Chart", "width", "[I", true)
  | 2 => ("RiverBureau$Chart", "need", "[I", true)
  | 3 => ("RiverBureau$Chart", "year", "[I", true)
  | 4 => ("RiverBureau$Chart", "day", "[I", true)
  | 5 => ("RiverBureau$Chart", "waits", "[I", true)
  | 6 => ("RiverBureau$Chart", "served", "[I", true)
  | 7 => ("RiverBureau$Chart", "arms", "I", false)
  | _ => ("RiverBureau$Chart", "river", "I", false)
def tyX0 : Nat → FieldType := fun k => match k with
  | 0 => .array .int
  | 1 => .array .int
  | 2 => .array .int
  | 3 => .array .int
  | 4 => .array .int
  | 5 => .array .int
  | 6 => .array .int
  | 7 => .int
  | _ => .int
abbrev wsX00 : List Cond := u_ws RX0 TX0 9
theorem nmX0 : ∀ a, a < 9 → ∀ b, b < 9 → a ≠ b → (TX0 a).2.1 ≠ (TX0 b).2.1 := by decide +kernel
theorem tyX0_ok : ∀ k, k < 9 → parseFieldDescriptor (TX0 k).2.2.1 = some (tyX0 k) := by decide +kernel
abbrev cX0_init : ByteArray := prog_2_method_1_code
def yX0_init : MethodName := ⟨RX0, "<init>", "()V"⟩
abbrev cX0_clear : ByteArray := prog_2_method_2_code
def yX0_clear : MethodName := ⟨RX0, "clear", "()V"⟩
abbrev cX0_forgetServed : ByteArray := prog_2_method_3_code
def yX0_forgetServed : MethodName := ⟨RX0, "forgetServed", "()V"⟩
abbrev cX0_kindOfLetter : ByteArray := prog_2_method_4_code
def yX0_kindOfLetter : MethodName := ⟨RX0, "kindOfLetter", "(I)I"⟩
abbrev cX0_hasArm : ByteArray := prog_2_method_5_code
def yX0_hasArm : MethodName := ⟨RX0, "hasArm", "(I)Z"⟩
abbrev cX0_sets : ByteArray := prog_2_method_6_code
def yX0_sets : MethodName := ⟨RX0, "sets", "()I"⟩
abbrev cX0_isOf : ByteArray := prog_2_method_7_code
def yX0_isOf : MethodName := ⟨RX0, "isOf", "(II)Z"⟩
abbrev cX0_countOf : ByteArray := prog_2_method_8_code
def yX0_countOf : MethodName := ⟨RX0, "countOf", "(I)I"⟩
abbrev cX0_countWaits : ByteArray := prog_2_method_9_code
def yX0_countWaits : MethodName := ⟨RX0, "countWaits", "()I"⟩
abbrev cX0_waterOf : ByteArray := prog_2_method_10_code
def yX0_waterOf : MethodName := ⟨RX0, "waterOf", "(II)I"⟩
abbrev cX0_servedOf : ByteArray := prog_2_method_11_code
def yX0_servedOf : MethodName := ⟨RX0, "servedOf", "(I)I"⟩
def RX1 : String := "RiverBureau$Debts"
def TX1 : u_T := fun k => match k with
  | 0 => ("RiverBureau$Debts", "sums", "[J", true)
  | _ => ("RiverBureau$Debts", "groups", "[I", true)
def tyX1 : Nat → FieldType := fun k => match k with
  | 0 => .array .long
  | _ => .array .int
abbrev wsX10 : List Cond := u_ws RX1 TX1 2
theorem nmX1 : ∀ a, a < 2 → ∀ b, b < 2 → a ≠ b → (TX1 a).2.1 ≠ (TX1 b).2.1 := by decide +kernel
theorem tyX1_ok : ∀ k, k < 2 → parseFieldDescriptor (TX1 k).2.2.1 = some (tyX1 k) := by decide +kernel
abbrev cX1_init : ByteArray := prog_3_method_1_code
def yX1_init : MethodName := ⟨RX1, "<init>", "()V"⟩
abbrev cX1_fewestPayments : ByteArray := prog_3_method_2_code
def yX1_fewestPayments : MethodName := ⟨RX1, "fewestPayments", "(LRiverBureau$Shelf;I)I"⟩
abbrev cX1_mostGroupsWithin : ByteArray := prog_3_method_3_code
def yX1_mostGroupsWithin : MethodName := ⟨RX1, "mostGroupsWithin", "(II)I"⟩
def RX2 : String := "RiverBureau$Flow"
def TX2 : u_T := fun k => match k with
  | 0 => ("RiverBureau$Flow", "season", "I", false)
  | 1 => ("RiverBureau$Flow", "open", "I", false)
  | 2 => ("RiverBureau$Flow", "barges", "I", false)
  | 3 => ("RiverBureau$Flow", "dead", "I", false)
  | 4 => ("RiverBureau$Flow", "salts", "I", false)
  | 5 => ("RiverBureau$Flow", "silts", "I", false)
  | _ => ("RiverBureau$Flow", "harvests", "J", false)
def tyX2 : Nat → FieldType := fun k => match k with
  | 0 => .int
  | 1 => .int
  | 2 => .int
  | 3 => .int
  | 4 => .int
  | 5 => .int
  | _ => .long
abbrev wsX20 : List Cond := u_ws RX2 TX2 7
theorem nmX2 : ∀ a, a < 7 → ∀ b, b < 7 → a ≠ b → (TX2 a).2.1 ≠ (TX2 b).2.1 := by decide +kernel
theorem tyX2_ok : ∀ k, k < 7 → parseFieldDescriptor (TX2 k).2.2.1 = some (tyX2 k) := by decide +kernel
abbrev cX2_init : ByteArray := prog_4_method_1_code
def yX2_init : MethodName := ⟨RX2, "<init>", "()V"⟩
abbrev cX2_begin : ByteArray := prog_4_method_2_code
def yX2_begin : MethodName := ⟨RX2, "begin", "(LRiverBureau$Chart;)V"⟩
abbrev cX2_copyFrom : ByteArray := prog_4_method_3_code
def yX2_copyFrom : MethodName := ⟨RX2, "copyFrom", "(LRiverBureau$Flow;)V"⟩
abbrev cX2_saltOf : ByteArray := prog_4_method_4_code
def yX2_saltOf : MethodName := ⟨RX2, "saltOf", "(I)I"⟩
abbrev cX2_siltOf : ByteArray := prog_4_method_5_code
def yX2_siltOf : MethodName := ⟨RX2, "siltOf", "(I)I"⟩
abbrev cX2_harvestsOf : ByteArray := prog_4_method_6_code
def yX2_harvestsOf : MethodName := ⟨RX2, "harvestsOf", "(I)I"⟩
abbrev cX2_allHarvests : ByteArray := prog_4_method_7_code
def yX2_allHarvests : MethodName := ⟨RX2, "allHarvests", "()I"⟩
abbrev cX2_mayBeStamped : ByteArray := prog_4_method_8_code
def yX2_mayBeStamped : MethodName := ⟨RX2, "mayBeStamped", "(LRiverBureau$Chart;I)Z"⟩
abbrev cX2_stampable : ByteArray := prog_4_method_9_code
def yX2_stampable : MethodName := ⟨RX2, "stampable", "(LRiverBureau$Chart;)I"⟩
abbrev cX2_stampArm : ByteArray := prog_4_method_10_code
def yX2_stampArm : MethodName := ⟨RX2, "stampArm", "(LRiverBureau$Chart;I)V"⟩
abbrev cX2_followerOf : ByteArray := prog_4_method_11_code
def yX2_followerOf : MethodName := ⟨RX2, "followerOf", "(LRiverBureau$Chart;I)I"⟩
abbrev cX2_stampSet : ByteArray := prog_4_method_12_code
def yX2_stampSet : MethodName := ⟨RX2, "stampSet", "(LRiverBureau$Chart;I)I"⟩
abbrev cX2_dropBarge : ByteArray := prog_4_method_13_code
def yX2_dropBarge : MethodName := ⟨RX2, "dropBarge", "(I)V"⟩
abbrev cX2_harvestable : ByteArray := prog_4_method_14_code
def yX2_harvestable : MethodName := ⟨RX2, "harvestable", "(LRiverBureau$Chart;)I"⟩
abbrev cX2_goBy : ByteArray := prog_4_method_15_code
def yX2_goBy : MethodName := ⟨RX2, "goBy", "(LRiverBureau$Chart;)I"⟩
abbrev cX2_turnSalt : ByteArray := prog_4_method_16_code
def yX2_turnSalt : MethodName := ⟨RX2, "turnSalt", "(LRiverBureau$Chart;IZ)V"⟩
abbrev cX2_turnSilt : ByteArray := prog_4_method_17_code
def yX2_turnSilt : MethodName := ⟨RX2, "turnSilt", "(LRiverBureau$Chart;I)V"⟩
abbrev cX2_harvestsOfSeasons : ByteArray := prog_4_method_18_code
def yX2_harvestsOfSeasons : MethodName := ⟨RX2, "harvestsOfSeasons", "(LRiverBureau$Chart;I)I"⟩
def RX3 : String := "RiverBureau$Kept"
def TX3 : u_T := fun k => match k with
  | 0 => ("RiverBureau$Kept", "story", "LRiverBureau$Story;", true)
  | 1 => ("RiverBureau$Kept", "needs", "[I", true)
  | _ => ("RiverBureau$Kept", "there", "Z", false)
def tyX3 : Nat → FieldType := fun k => match k with
  | 0 => .object "RiverBureau$Story"
  | 1 => .array .int
  | _ => .boolean
abbrev wsX30 : List Cond := u_ws RX3 TX3 3
theorem nmX3 : ∀ a, a < 3 → ∀ b, b < 3 → a ≠ b → (TX3 a).2.1 ≠ (TX3 b).2.1 := by decide +kernel
theorem tyX3_ok : ∀ k, k < 3 → parseFieldDescriptor (TX3 k).2.2.1 = some (tyX3 k) := by decide +kernel
abbrev cX3_init : ByteArray := prog_5_method_1_code
def yX3_init : MethodName := ⟨RX3, "<init>", "()V"⟩
def RX4 : String := "RiverBureau$Offices"
def TX4 : u_T := fun k => match k with
  | 0 => ("RiverBureau$Offices", "chart", "LRiverBureau$Chart;", true)
  | 1 => ("RiverBureau$Offices", "reach", "[I", true)
  | _ => ("RiverBureau$Offices", "cuts", "[J", true)
def tyX4 : Nat → FieldType := fun k => match k with
  | 0 => .object "RiverBureau$Chart"
  | 1 => .array .int
  | _ => .array .long
abbrev wsX40 : List Cond := u_ws RX4 TX4 3
theorem nmX4 : ∀ a, a < 3 → ∀ b, b < 3 → a ≠ b → (TX4 a).2.1 ≠ (TX4 b).2.1 := by decide +kernel
theorem tyX4_ok : ∀ k, k < 3 → parseFieldDescriptor (TX4 k).2.2.1 = some (tyX4 k) := by decide +kernel
abbrev cX4_init : ByteArray := prog_6_method_1_code
def yX4_init : MethodName := ⟨RX4, "<init>", "(LRiverBureau$Chart;)V"⟩
abbrev cX4_bitOf : ByteArray := prog_6_method_2_code
def yX4_bitOf : MethodName := ⟨RX4, "bitOf", "(I)J"⟩
abbrev cX4_waitingForThemselves : ByteArray := prog_6_method_3_code
def yX4_waitingForThemselves : MethodName := ⟨RX4, "waitingForThemselves", "()I"⟩
abbrev cX4_fewestToLoosen : ByteArray := prog_6_method_4_code
def yX4_fewestToLoosen : MethodName := ⟨RX4, "fewestToLoosen", "()J"⟩
abbrev cX4_waitsLoosened : ByteArray := prog_6_method_5_code
def yX4_waitsLoosened : MethodName := ⟨RX4, "waitsLoosened", "(II)J"⟩
abbrev cX4_isBetter : ByteArray := prog_6_method_6_code
def yX4_isBetter : MethodName := ⟨RX4, "isBetter", "(JJ)Z"⟩
def RX5 : String := "RiverBureau$Planner"
def TX5 : u_T := fun k => match k with
  | 0 => ("RiverBureau$Planner", "bestPlan", "[I", true)
  | 1 => ("RiverBureau$Planner", "bestWorth", "I", false)
  | 2 => ("RiverBureau$Planner", "bestStamps", "I", false)
  | 3 => ("RiverBureau$Planner", "chart", "LRiverBureau$Chart;", true)
  | 4 => ("RiverBureau$Planner", "stages", "[LRiverBureau$Flow;", true)
  | 5 => ("RiverBureau$Planner", "plan", "[I", true)
  | 6 => ("RiverBureau$Planner", "seasons", "I", false)
  | 7 => ("RiverBureau$Planner", "target", "I", false)
  | _ => ("RiverBureau$Planner", "mostInSeason", "I", false)
def tyX5 : Nat → FieldType := fun k => match k with
  | 0 => .array .int
  | 1 => .int
  | 2 => .int
  | 3 => .object "RiverBureau$Chart"
  | 4 => .array (.object "RiverBureau$Flow")
  | 5 => .array .int
  | 6 => .int
  | 7 => .int
  | _ => .int
abbrev wsX50 : List Cond := u_ws RX5 TX5 9
theorem nmX5 : ∀ a, a < 9 → ∀ b, b < 9 → a ≠ b → (TX5 a).2.1 ≠ (TX5 b).2.1 := by decide +kernel
theorem tyX5_ok : ∀ k, k < 9 → parseFieldDescriptor (TX5 k).2.2.1 = some (tyX5 k) := by decide +kernel
abbrev cX5_init : ByteArray := prog_7_method_1_code
def yX5_init : MethodName := ⟨RX5, "<init>", "(LRiverBureau$Chart;)V"⟩
abbrev cX5_seek : ByteArray := prog_7_method_2_code
def yX5_seek : MethodName := ⟨RX5, "seek", "(LRiverBureau$Flow;II)V"⟩
abbrev cX5_search : ByteArray := prog_7_method_3_code
def yX5_search : MethodName := ⟨RX5, "search", "(LRiverBureau$Planner;III)V"⟩
abbrev cX5_worthOf : ByteArray := prog_7_method_4_code
def yX5_worthOf : MethodName := ⟨RX5, "worthOf", "(II)I"⟩
abbrev cX5_mostServed : ByteArray := prog_7_method_5_code
def yX5_mostServed : MethodName := ⟨RX5, "mostServed", "()I"⟩
abbrev cX5_hopeOf : ByteArray := prog_7_method_6_code
def yX5_hopeOf : MethodName := ⟨RX5, "hopeOf", "(LRiverBureau$Flow;I)I"⟩
abbrev cX5_canWin : ByteArray := prog_7_method_7_code
def yX5_canWin : MethodName := ⟨RX5, "canWin", "(II)Z"⟩
abbrev cX5_judge : ByteArray := prog_7_method_8_code
def yX5_judge : MethodName := ⟨RX5, "judge", "(II)V"⟩
def RX6 : String := "RiverBureau$Reader"
def TX6 : u_T := fun k => match k with
  | 0 => ("RiverBureau$Reader", "chart", "LRiverBureau$Chart;", true)
  | 1 => ("RiverBureau$Reader", "signs", "[I", true)
  | 2 => ("RiverBureau$Reader", "size", "I", false)
  | 3 => ("RiverBureau$Reader", "place", "I", false)
  | 4 => ("RiverBureau$Reader", "waitsRead", "I", false)
  | _ => ("RiverBureau$Reader", "fault", "I", false)
def tyX6 : Nat → FieldType := fun k => match k with
  | 0 => .object "RiverBureau$Chart"
  | 1 => .array .int
  | 2 => .int
  | 3 => .int
  | 4 => .int
  | _ => .int
abbrev wsX60 : List Cond := u_ws RX6 TX6 6
theorem nmX6 : ∀ a, a < 6 → ∀ b, b < 6 → a ≠ b → (TX6 a).2.1 ≠ (TX6 b).2.1 := by decide +kernel
theorem tyX6_ok : ∀ k, k < 6 → parseFieldDescriptor (TX6 k).2.2.1 = some (tyX6 k) := by decide +kernel
abbrev cX6_init : ByteArray := prog_8_method_1_code
def yX6_init : MethodName := ⟨RX6, "<init>", "(LRiverBureau$Chart;)V"⟩
abbrev cX6_read : ByteArray := prog_8_method_2_code
def yX6_read : MethodName := ⟨RX6, "read", "(LRiverBureau$Shelf;I)I"⟩
abbrev cX6_nextSign : ByteArray := prog_8_method_3_code
def yX6_nextSign : MethodName := ⟨RX6, "nextSign", "()I"⟩
abbrev cX6_skipBlanks : ByteArray := prog_8_method_4_code
def yX6_skipBlanks : MethodName := ⟨RX6, "skipBlanks", "()V"⟩
abbrev cX6_readRiver : ByteArray := prog_8_method_5_code
def yX6_readRiver : MethodName := ⟨RX6, "readRiver", "()V"⟩
abbrev cX6_readItem : ByteArray := prog_8_method_6_code
def yX6_readItem : MethodName := ⟨RX6, "readItem", "()V"⟩
abbrev cX6_readArm : ByteArray := prog_8_method_7_code
def yX6_readArm : MethodName := ⟨RX6, "readArm", "(I)V"⟩
abbrev cX6_readWait : ByteArray := prog_8_method_8_code
def yX6_readWait : MethodName := ⟨RX6, "readWait", "()V"⟩
abbrev cX6_readFigure : ByteArray := prog_8_method_9_code
def yX6_readFigure : MethodName := ⟨RX6, "readFigure", "(II)I"⟩
def RX7 : String := "RiverBureau$Shelf"
def TX7 : u_T := fun k => match k with
  | 0 => ("RiverBureau$Shelf", "room", "I", true)
  | 1 => ("RiverBureau$Shelf", "places", "[[I", true)
  | _ => ("RiverBureau$Shelf", "sizes", "[I", true)
def tyX7 : Nat → FieldType := fun k => match k with
  | 0 => .int
  | 1 => .array (.array .int)
  | _ => .array .int
abbrev wsX70 : List Cond := u_ws RX7 TX7 3
theorem nmX7 : ∀ a, a < 3 → ∀ b, b < 3 → a ≠ b → (TX7 a).2.1 ≠ (TX7 b).2.1 := by decide +kernel
theorem tyX7_ok : ∀ k, k < 3 → parseFieldDescriptor (TX7 k).2.2.1 = some (tyX7 k) := by decide +kernel
abbrev cX7_init : ByteArray := prog_9_method_1_code
def yX7_init : MethodName := ⟨RX7, "<init>", "(II)V"⟩
abbrev cX7_knows : ByteArray := prog_9_method_2_code
def yX7_knows : MethodName := ⟨RX7, "knows", "(I)Z"⟩
abbrev cX7_isThere : ByteArray := prog_9_method_3_code
def yX7_isThere : MethodName := ⟨RX7, "isThere", "(I)Z"⟩
abbrev cX7_hasStretch : ByteArray := prog_9_method_4_code
def yX7_hasStretch : MethodName := ⟨RX7, "hasStretch", "(III)Z"⟩
abbrev cX7_sizeOf : ByteArray := prog_9_method_5_code
def yX7_sizeOf : MethodName := ⟨RX7, "sizeOf", "(I)I"⟩
abbrev cX7_valueAt : ByteArray := prog_9_method_6_code
def yX7_valueAt : MethodName := ⟨RX7, "valueAt", "(II)I"⟩
abbrev cX7_setValue : ByteArray := prog_9_method_7_code
def yX7_setValue : MethodName := ⟨RX7, "setValue", "(III)V"⟩
abbrev cX7_make : ByteArray := prog_9_method_8_code
def yX7_make : MethodName := ⟨RX7, "make", "(III)V"⟩
abbrev cX7_drop : ByteArray := prog_9_method_9_code
def yX7_drop : MethodName := ⟨RX7, "drop", "(I)V"⟩
abbrev cX7_move : ByteArray := prog_9_method_10_code
def yX7_move : MethodName := ⟨RX7, "move", "(IIIII)V"⟩
abbrev cX7_copyOut : ByteArray := prog_9_method_11_code
def yX7_copyOut : MethodName := ⟨RX7, "copyOut", "(I[I)I"⟩
abbrev cX7_sumOf : ByteArray := prog_9_method_12_code
def yX7_sumOf : MethodName := ⟨RX7, "sumOf", "(I)J"⟩
abbrev cX7_countThere : ByteArray := prog_9_method_13_code
def yX7_countThere : MethodName := ⟨RX7, "countThere", "()I"⟩
abbrev cX7_digestOnto : ByteArray := prog_9_method_14_code
def yX7_digestOnto : MethodName := ⟨RX7, "digestOnto", "(J)J"⟩
def RX8 : String := "RiverBureau$Story"
def TX8 : u_T := fun k => match k with
  | 0 => ("RiverBureau$Story", "present", "LRiverBureau$Flow;", true)
  | 1 => ("RiverBureau$Story", "ahead", "[LRiverBureau$Flow;", true)
  | _ => ("RiverBureau$Story", "deeds", "I", false)
def tyX8 : Nat → FieldType := fun k => match k with
  | 0 => .object "RiverBureau$Flow"
  | 1 => .array (.object "RiverBureau$Flow")
  | _ => .int
abbrev wsX80 : List Cond := u_ws RX8 TX8 3
theorem nmX8 : ∀ a, a < 3 → ∀ b, b < 3 → a ≠ b → (TX8 a).2.1 ≠ (TX8 b).2.1 := by decide +kernel
theorem tyX8_ok : ∀ k, k < 3 → parseFieldDescriptor (TX8 k).2.2.1 = some (tyX8 k) := by decide +kernel
abbrev cX8_init : ByteArray := prog_10_method_1_code
def yX8_init : MethodName := ⟨RX8, "<init>", "()V"⟩
abbrev cX8_begin : ByteArray := prog_10_method_2_code
def yX8_begin : MethodName := ⟨RX8, "begin", "(LRiverBureau$Chart;)V"⟩
abbrev cX8_isFull : ByteArray := prog_10_method_3_code
def yX8_isFull : MethodName := ⟨RX8, "isFull", "()Z"⟩
abbrev cX8_noteDeed : ByteArray := prog_10_method_4_code
def yX8_noteDeed : MethodName := ⟨RX8, "noteDeed", "()V"⟩
abbrev cX8_goBackTo : ByteArray := prog_10_method_5_code
def yX8_goBackTo : MethodName := ⟨RX8, "goBackTo", "(I)V"⟩
abbrev cX8_copyFrom : ByteArray := prog_10_method_6_code
def yX8_copyFrom : MethodName := ⟨RX8, "copyFrom", "(LRiverBureau$Story;)V"⟩
def RX9 : String := "RiverBureau"
def TX9 : u_T := fun k => match k with
  | 0 => ("RiverBureau", "rows", "LRiverBureau$Shelf;", true)
  | 1 => ("RiverBureau", "texts", "LRiverBureau$Shelf;", true)
  | 2 => ("RiverBureau", "chart", "LRiverBureau$Chart;", true)
  | 3 => ("RiverBureau", "reader", "LRiverBureau$Reader;", true)
  | 4 => ("RiverBureau", "tester", "LRiverBureau$Reader;", true)
  | 5 => ("RiverBureau", "story", "LRiverBureau$Story;", true)
  | 6 => ("RiverBureau", "kept", "[LRiverBureau$Kept;", true)
  | 7 => ("RiverBureau", "aside", "LRiverBureau$Flow;", true)
  | 8 => ("RiverBureau", "planner", "LRiverBureau$Planner;", true)
  | 9 => ("RiverBureau", "debts", "LRiverBureau$Debts;", true)
  | 10 => ("RiverBureau", "offices", "LRiverBureau$Offices;", true)
  | 11 => ("RiverBureau", "found", "[I", true)
  | 12 => ("RiverBureau", "latestFound", "I", false)
  | 13 => ("RiverBureau", "told", "I", false)
  | 14 => ("RiverBureau", "chanceUpper", "J", false)
  | _ => ("RiverBureau", "chanceLower", "J", false)
def tyX9 : Nat → FieldType := fun k => match k with
  | 0 => .object "RiverBureau$Shelf"
  | 1 => .object "RiverBureau$Shelf"
  | 2 => .object "RiverBureau$Chart"
  | 3 => .object "RiverBureau$Reader"
  | 4 => .object "RiverBureau$Reader"
  | 5 => .object "RiverBureau$Story"
  | 6 => .array (.object "RiverBureau$Kept")
  | 7 => .object "RiverBureau$Flow"
  | 8 => .object "RiverBureau$Planner"
  | 9 => .object "RiverBureau$Debts"
  | 10 => .object "RiverBureau$Offices"
  | 11 => .array .int
  | 12 => .int
  | 13 => .int
  | 14 => .long
  | _ => .long
abbrev wsX90 : List Cond := u_ws RX9 TX9 16
theorem nmX9 : ∀ a, a < 16 → ∀ b, b < 16 → a ≠ b → (TX9 a).2.1 ≠ (TX9 b).2.1 := by decide +kernel
theorem tyX9_ok : ∀ k, k < 16 → parseFieldDescriptor (TX9 k).2.2.1 = some (tyX9 k) := by decide +kernel
abbrev cX9_init : ByteArray := prog_1_method_1_code
def yX9_init : MethodName := ⟨RX9, "<init>", "()V"⟩
abbrev cX9_row : ByteArray := prog_1_method_2_code
def yX9_row : MethodName := ⟨RX9, "row", "(II)I"⟩
abbrev cX9_lay : ByteArray := prog_1_method_3_code
def yX9_lay : MethodName := ⟨RX9, "lay", "(III)I"⟩
abbrev cX9_at : ByteArray := prog_1_method_4_code
def yX9_at : MethodName := ⟨RX9, "at", "(II)I"⟩
abbrev cX9_tear : ByteArray := prog_1_method_5_code
def yX9_tear : MethodName := ⟨RX9, "tear", "(I)I"⟩
abbrev cX9_copy : ByteArray := prog_1_method_6_code
def yX9_copy : MethodName := ⟨RX9, "copy", "(IIIII)I"⟩
abbrev cX9_mean : ByteArray := prog_1_method_7_code
def yX9_mean : MethodName := ⟨RX9, "mean", "(I)I"⟩
abbrev cX9_text : ByteArray := prog_1_method_8_code
def yX9_text : MethodName := ⟨RX9, "text", "(II)I"⟩
abbrev cX9_put : ByteArray := prog_1_method_9_code
def yX9_put : MethodName := ⟨RX9, "put", "(III)I"⟩
abbrev cX9_fault : ByteArray := prog_1_method_10_code
def yX9_fault : MethodName := ⟨RX9, "fault", "(I)I"⟩
abbrev cX9_delta : ByteArray := prog_1_method_11_code
def yX9_delta : MethodName := ⟨RX9, "delta", "(I)I"⟩
abbrev cX9_arm : ByteArray := prog_1_method_12_code
def yX9_arm : MethodName := ⟨RX9, "arm", "(II)I"⟩
abbrev cX9_mark : ByteArray := prog_1_method_13_code
def yX9_mark : MethodName := ⟨RX9, "mark", "(II)I"⟩
abbrev cX9_need : ByteArray := prog_1_method_14_code
def yX9_need : MethodName := ⟨RX9, "need", "(II)I"⟩
abbrev cX9_awaits : ByteArray := prog_1_method_15_code
def yX9_awaits : MethodName := ⟨RX9, "awaits", "(III)I"⟩
abbrev cX9_stamp : ByteArray := prog_1_method_16_code
def yX9_stamp : MethodName := ⟨RX9, "stamp", "(I)I"⟩
abbrev cX9_season : ByteArray := prog_1_method_17_code
def yX9_season : MethodName := ⟨RX9, "season", "()I"⟩
abbrev cX9_leave : ByteArray := prog_1_method_18_code
def yX9_leave : MethodName := ⟨RX9, "leave", "(I)I"⟩
abbrev cX9_undo : ByteArray := prog_1_method_19_code
def yX9_undo : MethodName := ⟨RX9, "undo", "(I)I"⟩
abbrev cX9_now : ByteArray := prog_1_method_20_code
def yX9_now : MethodName := ⟨RX9, "now", "()I"⟩
abbrev cX9_water : ByteArray := prog_1_method_21_code
def yX9_water : MethodName := ⟨RX9, "water", "(I)I"⟩
abbrev cX9_keep : ByteArray := prog_1_method_22_code
def yX9_keep : MethodName := ⟨RX9, "keep", "(I)I"⟩
abbrev cX9_on : ByteArray := prog_1_method_23_code
def yX9_on : MethodName := ⟨RX9, "on", "(I)I"⟩
abbrev cX9_run : ByteArray := prog_1_method_24_code
def yX9_run : MethodName := ⟨RX9, "run", "(I)I"⟩
abbrev cX9_best : ByteArray := prog_1_method_25_code
def yX9_best : MethodName := ⟨RX9, "best", "(II)I"⟩
abbrev cX9_fewest : ByteArray := prog_1_method_26_code
def yX9_fewest : MethodName := ⟨RX9, "fewest", "(III)I"⟩
abbrev cX9_dies : ByteArray := prog_1_method_27_code
def yX9_dies : MethodName := ⟨RX9, "dies", "()I"⟩
abbrev cX9_barge : ByteArray := prog_1_method_28_code
def yX9_barge : MethodName := ⟨RX9, "barge", "(II)I"⟩
abbrev cX9_fits : ByteArray := prog_1_method_29_code
def yX9_fits : MethodName := ⟨RX9, "fits", "(I)I"⟩
abbrev cX9_opened : ByteArray := prog_1_method_30_code
def yX9_opened : MethodName := ⟨RX9, "opened", "(I)I"⟩
abbrev cX9_settle : ByteArray := prog_1_method_31_code
def yX9_settle : MethodName := ⟨RX9, "settle", "(I)I"⟩
abbrev cX9_stalled : ByteArray := prog_1_method_32_code
def yX9_stalled : MethodName := ⟨RX9, "stalled", "()I"⟩
abbrev cX9_loosen : ByteArray := prog_1_method_33_code
def yX9_loosen : MethodName := ⟨RX9, "loosen", "(I)I"⟩
abbrev cX9_eels : ByteArray := prog_1_method_34_code
def yX9_eels : MethodName := ⟨RX9, "eels", "(II)I"⟩
abbrev cX9_odds : ByteArray := prog_1_method_35_code
def yX9_odds : MethodName := ⟨RX9, "odds", "(I)I"⟩
abbrev cX9_lots : ByteArray := prog_1_method_36_code
def yX9_lots : MethodName := ⟨RX9, "lots", "(II)I"⟩
abbrev cX9_asked : ByteArray := prog_1_method_37_code
def yX9_asked : MethodName := ⟨RX9, "asked", "()I"⟩
abbrev cX9_upper : ByteArray := prog_1_method_38_code
def yX9_upper : MethodName := ⟨RX9, "upper", "()J"⟩
abbrev cX9_lower : ByteArray := prog_1_method_39_code
def yX9_lower : MethodName := ⟨RX9, "lower", "()J"⟩
abbrev cX9_count : ByteArray := prog_1_method_40_code
def yX9_count : MethodName := ⟨RX9, "count", "(I)I"⟩
abbrev cX9_finding : ByteArray := prog_1_method_41_code
def yX9_finding : MethodName := ⟨RX9, "finding", "()I"⟩
abbrev cX9_findings : ByteArray := prog_1_method_42_code
def yX9_findings : MethodName := ⟨RX9, "findings", "(I)I"⟩
abbrev cX9_digest : ByteArray := prog_1_method_43_code
def yX9_digest : MethodName := ⟨RX9, "digest", "()J"⟩
abbrev cX9_answerFinding : ByteArray := prog_1_method_44_code
def yX9_answerFinding : MethodName := ⟨RX9, "answerFinding", "(I)I"⟩
abbrev cX9_makeIn : ByteArray := prog_1_method_45_code
def yX9_makeIn : MethodName := ⟨RX9, "makeIn", "(LRiverBureau$Shelf;III)I"⟩
abbrev cX9_shelfRefusal : ByteArray := prog_1_method_46_code
def yX9_shelfRefusal : MethodName := ⟨RX9, "shelfRefusal", "(LRiverBureau$Shelf;I)I"⟩
abbrev cX9_placeRefusal : ByteArray := prog_1_method_47_code
def yX9_placeRefusal : MethodName := ⟨RX9, "placeRefusal", "(LRiverBureau$Shelf;II)I"⟩
abbrev cX9_deltaRowRefusal : ByteArray := prog_1_method_48_code
def yX9_deltaRowRefusal : MethodName := ⟨RX9, "deltaRowRefusal", "(I)I"⟩
abbrev cX9_armRowRefusal : ByteArray := prog_1_method_49_code
def yX9_armRowRefusal : MethodName := ⟨RX9, "armRowRefusal", "(I)I"⟩
abbrev cX9_armTells : ByteArray := prog_1_method_50_code
def yX9_armTells : MethodName := ⟨RX9, "armTells", "(II)I"⟩
abbrev cX9_markOf : ByteArray := prog_1_method_51_code
def yX9_markOf : MethodName := ⟨RX9, "markOf", "(II)I"⟩
abbrev cX9_stepsOfTwo : ByteArray := prog_1_method_52_code
def yX9_stepsOfTwo : MethodName := ⟨RX9, "stepsOfTwo", "(I)I"⟩
abbrev cX9_hasBit : ByteArray := prog_1_method_53_code
def yX9_hasBit : MethodName := ⟨RX9, "hasBit", "(II)Z"⟩
abbrev cX9_withBit : ByteArray := prog_1_method_54_code
def yX9_withBit : MethodName := ⟨RX9, "withBit", "(IIZ)I"⟩
abbrev cX9_firstOf : ByteArray := prog_1_method_55_code
def yX9_firstOf : MethodName := ⟨RX9, "firstOf", "(I)I"⟩
abbrev cX9_doStamp : ByteArray := prog_1_method_56_code
def yX9_doStamp : MethodName := ⟨RX9, "doStamp", "(I)V"⟩
abbrev cX9_doStamps : ByteArray := prog_1_method_57_code
def yX9_doStamps : MethodName := ⟨RX9, "doStamps", "(I)V"⟩
abbrev cX9_doSeason : ByteArray := prog_1_method_58_code
def yX9_doSeason : MethodName := ⟨RX9, "doSeason", "()I"⟩
abbrev cX9_isPlan : ByteArray := prog_1_method_59_code
def yX9_isPlan : MethodName := ⟨RX9, "isPlan", "(I)Z"⟩
abbrev cX9_takePlan : ByteArray := prog_1_method_60_code
def yX9_takePlan : MethodName := ⟨RX9, "takePlan", "(II)V"⟩
abbrev cX9_stampedToFit : ByteArray := prog_1_method_61_code
def yX9_stampedToFit : MethodName := ⟨RX9, "stampedToFit", "(II)I"⟩
abbrev cX9_tellChances : ByteArray := prog_1_method_62_code
def yX9_tellChances : MethodName := ⟨RX9, "tellChances", "(II)V"⟩
abbrev cX9_countKept : ByteArray := prog_1_method_63_code
def yX9_countKept : MethodName := ⟨RX9, "countKept", "()I"⟩
def RX10 : String := "RiverBureauModel"
def TX10 : u_T := fun k => match k with
  | 0 => ("RiverBureauModel", "latest", "I", false)
  | 1 => ("RiverBureauModel", "came", "[I", true)
  | 2 => ("RiverBureauModel", "asked", "I", false)
  | 3 => ("RiverBureauModel", "upper", "J", false)
  | 4 => ("RiverBureauModel", "lower", "J", false)
  | 5 => ("RiverBureauModel", "sizes", "[I", true)
  | 6 => ("RiverBureauModel", "rows", "[I", true)
  | 7 => ("RiverBureauModel", "copied", "[I", true)
  | 8 => ("RiverBureauModel", "textSizes", "[I", true)
  | 9 => ("RiverBureauModel", "bytes", "[B", true)
  | 10 => ("RiverBureauModel", "n", "I", false)
  | 11 => ("RiverBureauModel", "river", "I", false)
  | 12 => ("RiverBureauModel", "kinds", "[I", true)
  | 13 => ("RiverBureauModel", "widths", "[I", true)
  | 14 => ("RiverBureauModel", "needs", "[I", true)
  | 15 => ("RiverBureauModel", "years", "[I", true)
  | 16 => ("RiverBureauModel", "days", "[I", true)
  | 17 => ("RiverBureauModel", "waits", "[I", true)
  | 18 => ("RiverBureauModel", "readAt", "I", false)
  | 19 => ("RiverBureauModel", "readNumber", "I", false)
  | 20 => ("RiverBureauModel", "readRiver", "I", false)
  | 21 => ("RiverBureauModel", "readMany", "I", false)
  | 22 => ("RiverBureauModel", "readWaitMany", "I", false)
  | 23 => ("RiverBureauModel", "readArms", "[I", true)
  | 24 => ("RiverBureauModel", "readWaits", "[I", true)
  | 25 => ("RiverBureauModel", "all", "[I", true)
  | 26 => ("RiverBureauModel", "inSet", "I", false)
  | 27 => ("RiverBureauModel", "waters", "[I", true)
  | 28 => ("RiverBureauModel", "deedMany", "I", false)
  | 29 => ("RiverBureauModel", "log", "[I", true)
  | 30 => ("RiverBureauModel", "isKept", "[Z", true)
  | 31 => ("RiverBureauModel", "keptMany", "[I", true)
  | 32 => ("RiverBureauModel", "keptAll", "[I", true)
  | 33 => ("RiverBureauModel", "keptNeeds", "[I", true)
  | 34 => ("RiverBureauModel", "keptLog", "[I", true)
  | 35 => ("RiverBureauModel", "tried", "[I", true)
  | 36 => ("RiverBureauModel", "bestTried", "[I", true)
  | 37 => ("RiverBureauModel", "bestHarvests", "I", false)
  | 38 => ("RiverBureauModel", "bestStamps", "I", false)
  | 39 => ("RiverBureauModel", "loose", "[I", true)
  | 40 => ("RiverBureauModel", "bestLoose", "[I", true)
  | 41 => ("RiverBureauModel", "order", "[I", true)
  | 42 => ("RiverBureauModel", "leastLoose", "I", false)
  | _ => ("RiverBureauModel", "hash", "J", false)
def tyX10 : Nat → FieldType := fun k => match k with
  | 0 => .int
  | 1 => .array .int
  | 2 => .int
  | 3 => .long
  | 4 => .long
  | 5 => .array .int
  | 6 => .array .int
  | 7 => .array .int
  | 8 => .array .int
  | 9 => .array .byte
  | 10 => .int
  | 11 => .int
  | 12 => .array .int
  | 13 => .array .int
  | 14 => .array .int
  | 15 => .array .int
  | 16 => .array .int
  | 17 => .array .int
  | 18 => .int
  | 19 => .int
  | 20 => .int
  | 21 => .int
  | 22 => .int
  | 23 => .array .int
  | 24 => .array .int
  | 25 => .array .int
  | 26 => .int
  | 27 => .array .int
  | 28 => .int
  | 29 => .array .int
  | 30 => .array .boolean
  | 31 => .array .int
  | 32 => .array .int
  | 33 => .array .int
  | 34 => .array .int
  | 35 => .array .int
  | 36 => .array .int
  | 37 => .int
  | 38 => .int
  | 39 => .array .int
  | 40 => .array .int
  | 41 => .array .int
  | 42 => .int
  | _ => .long
abbrev wsX100 : List Cond := u_ws RX10 TX10 44
theorem nmX10 : ∀ a, a < 44 → ∀ b, b < 44 → a ≠ b → (TX10 a).2.1 ≠ (TX10 b).2.1 := by decide +kernel
theorem tyX10_ok : ∀ k, k < 44 → parseFieldDescriptor (TX10 k).2.2.1 = some (tyX10 k) := by decide +kernel
abbrev cX10_init : ByteArray := prog_12_method_1_code
def yX10_init : MethodName := ⟨RX10, "<init>", "()V"⟩
abbrev cX10_in : ByteArray := prog_12_method_2_code
def yX10_in : MethodName := ⟨RX10, "in", "(III)Z"⟩
abbrev cX10_has : ByteArray := prog_12_method_3_code
def yX10_has : MethodName := ⟨RX10, "has", "(II)Z"⟩
abbrev cX10_bits : ByteArray := prog_12_method_4_code
def yX10_bits : MethodName := ⟨RX10, "bits", "(I)I"⟩
abbrev cX10_greater : ByteArray := prog_12_method_5_code
def yX10_greater : MethodName := ⟨RX10, "greater", "(II)I"⟩
abbrev cX10_lesser : ByteArray := prog_12_method_6_code
def yX10_lesser : MethodName := ⟨RX10, "lesser", "(II)I"⟩
abbrev cX10_meets : ByteArray := prog_12_method_7_code
def yX10_meets : MethodName := ⟨RX10, "meets", "(I)I"⟩
abbrev cX10_finding : ByteArray := prog_12_method_8_code
def yX10_finding : MethodName := ⟨RX10, "finding", "()I"⟩
abbrev cX10_findings : ByteArray := prog_12_method_9_code
def yX10_findings : MethodName := ⟨RX10, "findings", "(I)I"⟩
abbrev cX10_tells : ByteArray := prog_12_method_10_code
def yX10_tells : MethodName := ⟨RX10, "tells", "(II)I"⟩
abbrev cX10_asked : ByteArray := prog_12_method_11_code
def yX10_asked : MethodName := ⟨RX10, "asked", "()I"⟩
abbrev cX10_part : ByteArray := prog_12_method_12_code
def yX10_part : MethodName := ⟨RX10, "part", "(II)I"⟩
abbrev cX10_upper : ByteArray := prog_12_method_13_code
def yX10_upper : MethodName := ⟨RX10, "upper", "()J"⟩
abbrev cX10_lower : ByteArray := prog_12_method_14_code
def yX10_lower : MethodName := ⟨RX10, "lower", "()J"⟩
abbrev cX10_isRow : ByteArray := prog_12_method_15_code
def yX10_isRow : MethodName := ⟨RX10, "isRow", "(I)Z"⟩
abbrev cX10_rowAt : ByteArray := prog_12_method_16_code
def yX10_rowAt : MethodName := ⟨RX10, "rowAt", "(II)I"⟩
abbrev cX10_row : ByteArray := prog_12_method_17_code
def yX10_row : MethodName := ⟨RX10, "row", "(II)I"⟩
abbrev cX10_lay : ByteArray := prog_12_method_18_code
def yX10_lay : MethodName := ⟨RX10, "lay", "(III)I"⟩
abbrev cX10_at : ByteArray := prog_12_method_19_code
def yX10_at : MethodName := ⟨RX10, "at", "(II)I"⟩
abbrev cX10_tear : ByteArray := prog_12_method_20_code
def yX10_tear : MethodName := ⟨RX10, "tear", "(I)I"⟩
abbrev cX10_copy : ByteArray := prog_12_method_21_code
def yX10_copy : MethodName := ⟨RX10, "copy", "(IIIII)I"⟩
abbrev cX10_mean : ByteArray := prog_12_method_22_code
def yX10_mean : MethodName := ⟨RX10, "mean", "(I)I"⟩
abbrev cX10_isText : ByteArray := prog_12_method_23_code
def yX10_isText : MethodName := ⟨RX10, "isText", "(I)Z"⟩
abbrev cX10_text : ByteArray := prog_12_method_24_code
def yX10_text : MethodName := ⟨RX10, "text", "(II)I"⟩
abbrev cX10_put : ByteArray := prog_12_method_25_code
def yX10_put : MethodName := ⟨RX10, "put", "(III)I"⟩
abbrev cX10_byteAt : ByteArray := prog_12_method_26_code
def yX10_byteAt : MethodName := ⟨RX10, "byteAt", "(II)I"⟩
abbrev cX10_layRow : ByteArray := prog_12_method_27_code
def yX10_layRow : MethodName := ⟨RX10, "layRow", "(I[II)V"⟩
abbrev cX10_kindOf : ByteArray := prog_12_method_28_code
def yX10_kindOf : MethodName := ⟨RX10, "kindOf", "(I)I"⟩
abbrev cX10_figure : ByteArray := prog_12_method_29_code
def yX10_figure : MethodName := ⟨RX10, "figure", "(III)Z"⟩
abbrev cX10_readsRiver : ByteArray := prog_12_method_30_code
def yX10_readsRiver : MethodName := ⟨RX10, "readsRiver", "(I)Z"⟩
abbrev cX10_readsArm : ByteArray := prog_12_method_31_code
def yX10_readsArm : MethodName := ⟨RX10, "readsArm", "(I)Z"⟩
abbrev cX10_readsWait : ByteArray := prog_12_method_32_code
def yX10_readsWait : MethodName := ⟨RX10, "readsWait", "(I)Z"⟩
abbrev cX10_readsItem : ByteArray := prog_12_method_33_code
def yX10_readsItem : MethodName := ⟨RX10, "readsItem", "(I)Z"⟩
abbrev cX10_faultOf : ByteArray := prog_12_method_34_code
def yX10_faultOf : MethodName := ⟨RX10, "faultOf", "(I)I"⟩
abbrev cX10_fault : ByteArray := prog_12_method_35_code
def yX10_fault : MethodName := ⟨RX10, "fault", "(I)I"⟩
abbrev cX10_delta : ByteArray := prog_12_method_36_code
def yX10_delta : MethodName := ⟨RX10, "delta", "(I)I"⟩
abbrev cX10_isArm : ByteArray := prog_12_method_37_code
def yX10_isArm : MethodName := ⟨RX10, "isArm", "(I)Z"⟩
abbrev cX10_isSilty : ByteArray := prog_12_method_38_code
def yX10_isSilty : MethodName := ⟨RX10, "isSilty", "(I)Z"⟩
abbrev cX10_copyTo : ByteArray := prog_12_method_39_code
def yX10_copyTo : MethodName := ⟨RX10, "copyTo", "(II)V"⟩
abbrev cX10_isOpen : ByteArray := prog_12_method_40_code
def yX10_isOpen : MethodName := ⟨RX10, "isOpen", "(II)Z"⟩
abbrev cX10_isBarge : ByteArray := prog_12_method_41_code
def yX10_isBarge : MethodName := ⟨RX10, "isBarge", "(II)Z"⟩
abbrev cX10_isDead : ByteArray := prog_12_method_42_code
def yX10_isDead : MethodName := ⟨RX10, "isDead", "(II)Z"⟩
abbrev cX10_openSet : ByteArray := prog_12_method_43_code
def yX10_openSet : MethodName := ⟨RX10, "openSet", "(I)I"⟩
abbrev cX10_mayBe : ByteArray := prog_12_method_44_code
def yX10_mayBe : MethodName := ⟨RX10, "mayBe", "(II)Z"⟩
abbrev cX10_married : ByteArray := prog_12_method_45_code
def yX10_married : MethodName := ⟨RX10, "married", "(II)I"⟩
abbrev cX10_stamps : ByteArray := prog_12_method_46_code
def yX10_stamps : MethodName := ⟨RX10, "stamps", "(II)V"⟩
abbrev cX10_wideOpen : ByteArray := prog_12_method_47_code
def yX10_wideOpen : MethodName := ⟨RX10, "wideOpen", "(I)I"⟩
abbrev cX10_waterOf : ByteArray := prog_12_method_48_code
def yX10_waterOf : MethodName := ⟨RX10, "waterOf", "(II)I"⟩
abbrev cX10_passes : ByteArray := prog_12_method_49_code
def yX10_passes : MethodName := ⟨RX10, "passes", "(I)I"⟩
abbrev cX10_armTells : ByteArray := prog_12_method_50_code
def yX10_armTells : MethodName := ⟨RX10, "armTells", "(II)I"⟩
abbrev cX10_arm : ByteArray := prog_12_method_51_code
def yX10_arm : MethodName := ⟨RX10, "arm", "(II)I"⟩
abbrev cX10_mark : ByteArray := prog_12_method_52_code
def yX10_mark : MethodName := ⟨RX10, "mark", "(II)I"⟩
abbrev cX10_need : ByteArray := prog_12_method_53_code
def yX10_need : MethodName := ⟨RX10, "need", "(II)I"⟩
abbrev cX10_awaits : ByteArray := prog_12_method_54_code
def yX10_awaits : MethodName := ⟨RX10, "awaits", "(III)I"⟩
abbrev cX10_remember : ByteArray := prog_12_method_55_code
def yX10_remember : MethodName := ⟨RX10, "remember", "()V"⟩
abbrev cX10_stamp : ByteArray := prog_12_method_56_code
def yX10_stamp : MethodName := ⟨RX10, "stamp", "(I)I"⟩
abbrev cX10_season : ByteArray := prog_12_method_57_code
def yX10_season : MethodName := ⟨RX10, "season", "()I"⟩
abbrev cX10_leaves : ByteArray := prog_12_method_58_code
def yX10_leaves : MethodName := ⟨RX10, "leaves", "(II)V"⟩
abbrev cX10_leave : ByteArray := prog_12_method_59_code
def yX10_leave : MethodName := ⟨RX10, "leave", "(I)I"⟩
abbrev cX10_undo : ByteArray := prog_12_method_60_code
def yX10_undo : MethodName := ⟨RX10, "undo", "(I)I"⟩
abbrev cX10_now : ByteArray := prog_12_method_61_code
def yX10_now : MethodName := ⟨RX10, "now", "()I"⟩
abbrev cX10_water : ByteArray := prog_12_method_62_code
def yX10_water : MethodName := ⟨RX10, "water", "(I)I"⟩
abbrev cX10_keep : ByteArray := prog_12_method_63_code
def yX10_keep : MethodName := ⟨RX10, "keep", "(I)I"⟩
abbrev cX10_on : ByteArray := prog_12_method_64_code
def yX10_on : MethodName := ⟨RX10, "on", "(I)I"⟩
abbrev cX10_setMany : ByteArray := prog_12_method_65_code
def yX10_setMany : MethodName := ⟨RX10, "setMany", "()I"⟩
abbrev cX10_stampsOf : ByteArray := prog_12_method_66_code
def yX10_stampsOf : MethodName := ⟨RX10, "stampsOf", "(II)I"⟩
abbrev cX10_run : ByteArray := prog_12_method_67_code
def yX10_run : MethodName := ⟨RX10, "run", "(I)I"⟩
abbrev cX10_takes : ByteArray := prog_12_method_68_code
def yX10_takes : MethodName := ⟨RX10, "takes", "(III)V"⟩
abbrev cX10_layPlans : ByteArray := prog_12_method_69_code
def yX10_layPlans : MethodName := ⟨RX10, "layPlans", "(IIIII)V"⟩
abbrev cX10_allPlans : ByteArray := prog_12_method_70_code
def yX10_allPlans : MethodName := ⟨RX10, "allPlans", "(II)V"⟩
abbrev cX10_best : ByteArray := prog_12_method_71_code
def yX10_best : MethodName := ⟨RX10, "best", "(II)I"⟩
abbrev cX10_fewest : ByteArray := prog_12_method_72_code
def yX10_fewest : MethodName := ⟨RX10, "fewest", "(III)I"⟩
abbrev cX10_dies : ByteArray := prog_12_method_73_code
def yX10_dies : MethodName := ⟨RX10, "dies", "()I"⟩
abbrev cX10_passesOf : ByteArray := prog_12_method_74_code
def yX10_passesOf : MethodName := ⟨RX10, "passesOf", "(II)I"⟩
abbrev cX10_barge : ByteArray := prog_12_method_75_code
def yX10_barge : MethodName := ⟨RX10, "barge", "(II)I"⟩
abbrev cX10_needArms : ByteArray := prog_12_method_76_code
def yX10_needArms : MethodName := ⟨RX10, "needArms", "(I)I"⟩
abbrev cX10_saltBy : ByteArray := prog_12_method_77_code
def yX10_saltBy : MethodName := ⟨RX10, "saltBy", "(II)I"⟩
abbrev cX10_fits : ByteArray := prog_12_method_78_code
def yX10_fits : MethodName := ⟨RX10, "fits", "(I)I"⟩
abbrev cX10_opened : ByteArray := prog_12_method_79_code
def yX10_opened : MethodName := ⟨RX10, "opened", "(I)I"⟩
abbrev cX10_owedBy : ByteArray := prog_12_method_80_code
def yX10_owedBy : MethodName := ⟨RX10, "owedBy", "(II)J"⟩
abbrev cX10_parts : ByteArray := prog_12_method_81_code
def yX10_parts : MethodName := ⟨RX10, "parts", "(II)I"⟩
abbrev cX10_settle : ByteArray := prog_12_method_82_code
def yX10_settle : MethodName := ⟨RX10, "settle", "(I)I"⟩
abbrev cX10_waitMany : ByteArray := prog_12_method_83_code
def yX10_waitMany : MethodName := ⟨RX10, "waitMany", "()I"⟩
abbrev cX10_stalled : ByteArray := prog_12_method_84_code
def yX10_stalled : MethodName := ⟨RX10, "stalled", "()I"⟩
abbrev cX10_layBack : ByteArray := prog_12_method_85_code
def yX10_layBack : MethodName := ⟨RX10, "layBack", "()I"⟩
abbrev cX10_isAhead : ByteArray := prog_12_method_86_code
def yX10_isAhead : MethodName := ⟨RX10, "isAhead", "(I)Z"⟩
abbrev cX10_layOrders : ByteArray := prog_12_method_87_code
def yX10_layOrders : MethodName := ⟨RX10, "layOrders", "(II)V"⟩
abbrev cX10_loosen : ByteArray := prog_12_method_88_code
def yX10_loosen : MethodName := ⟨RX10, "loosen", "(I)I"⟩
abbrev cX10_eels : ByteArray := prog_12_method_89_code
def yX10_eels : MethodName := ⟨RX10, "eels", "(II)I"⟩
abbrev cX10_odds : ByteArray := prog_12_method_90_code
def yX10_odds : MethodName := ⟨RX10, "odds", "(I)I"⟩
abbrev cX10_lots : ByteArray := prog_12_method_91_code
def yX10_lots : MethodName := ⟨RX10, "lots", "(II)I"⟩
abbrev cX10_counted : ByteArray := prog_12_method_92_code
def yX10_counted : MethodName := ⟨RX10, "counted", "(I)I"⟩
abbrev cX10_count : ByteArray := prog_12_method_93_code
def yX10_count : MethodName := ⟨RX10, "count", "(I)I"⟩
abbrev cX10_mix : ByteArray := prog_12_method_94_code
def yX10_mix : MethodName := ⟨RX10, "mix", "(J)V"⟩
abbrev cX10_mixDelta : ByteArray := prog_12_method_95_code
def yX10_mixDelta : MethodName := ⟨RX10, "mixDelta", "()V"⟩
abbrev cX10_digest : ByteArray := prog_12_method_96_code
def yX10_digest : MethodName := ⟨RX10, "digest", "()J"⟩
def RJ6 : String := "java/lang/Integer"
def TJ6 : u_T := fun k => match k with
  | _ => ("", "", "", false)
def tyJ6 : Nat → FieldType := fun k => match k with
  | _ => .int
abbrev wsJ60 : List Cond := u_ws RJ6 TJ6 0
theorem nmJ6 : ∀ a, a < 0 → ∀ b, b < 0 → a ≠ b → (TJ6 a).2.1 ≠ (TJ6 b).2.1 := by decide +kernel
theorem tyJ6_ok : ∀ k, k < 0 → parseFieldDescriptor (TJ6 k).2.2.1 = some (tyJ6 k) := by decide +kernel
abbrev cJ6_bitCount_0f7a4 : ByteArray := prog_13_method_49_code
def yJ6_bitCount_0f7a4 : MethodName := ⟨RJ6, "bitCount", "(I)I"⟩
def RJ13 : String := "java/lang/Long"
def TJ13 : u_T := fun k => match k with
  | _ => ("", "", "", false)
def tyJ13 : Nat → FieldType := fun k => match k with
  | _ => .int
abbrev wsJ130 : List Cond := u_ws RJ13 TJ13 0
theorem nmJ13 : ∀ a, a < 0 → ∀ b, b < 0 → a ≠ b → (TJ13 a).2.1 ≠ (TJ13 b).2.1 := by decide +kernel
theorem tyJ13_ok : ∀ k, k < 0 → parseFieldDescriptor (TJ13 k).2.2.1 = some (tyJ13 k) := by decide +kernel
abbrev cJ13_bitCount_95d88 : ByteArray := prog_14_method_50_code
def yJ13_bitCount_95d88 : MethodName := ⟨RJ13, "bitCount", "(J)I"⟩
def RJ9 : String := "java/lang/Math"
def TJ9 : u_T := fun k => match k with
  | _ => ("", "", "", false)
def tyJ9 : Nat → FieldType := fun k => match k with
  | _ => .int
abbrev wsJ90 : List Cond := u_ws RJ9 TJ9 0
theorem nmJ9 : ∀ a, a < 0 → ∀ b, b < 0 → a ≠ b → (TJ9 a).2.1 ≠ (TJ9 b).2.1 := by decide +kernel
theorem tyJ9_ok : ∀ k, k < 0 → parseFieldDescriptor (TJ9 k).2.2.1 = some (tyJ9 k) := by decide +kernel
abbrev cJ9_max_7cf53 : ByteArray := prog_15_method_65_code
def yJ9_max_7cf53 : MethodName := ⟨RJ9, "max", "(II)I"⟩
abbrev cJ9_min_7cf53 : ByteArray := prog_15_method_69_code
def yJ9_min_7cf53 : MethodName := ⟨RJ9, "min", "(II)I"⟩
def RJ10 : String := "java/lang/System"
def TJ10 : u_T := fun k => match k with
  | _ => ("", "", "", false)
def tyJ10 : Nat → FieldType := fun k => match k with
  | _ => .int
abbrev wsJ100 : List Cond := u_ws RJ10 TJ10 0
theorem nmJ10 : ∀ a, a < 0 → ∀ b, b < 0 → a ≠ b → (TJ10 a).2.1 ≠ (TJ10 b).2.1 := by decide +kernel
theorem tyJ10_ok : ∀ k, k < 0 → parseFieldDescriptor (TJ10 k).2.2.1 = some (tyJ10 k) := by decide +kernel
def RJ7 : String := "java/util/Arrays"
def TJ7 : u_T := fun k => match k with
  | _ => ("", "", "", false)
def tyJ7 : Nat → FieldType := fun k => match k with
  | _ => .int
abbrev wsJ70 : List Cond := u_ws RJ7 TJ7 0
theorem nmJ7 : ∀ a, a < 0 → ∀ b, b < 0 → a ≠ b → (TJ7 a).2.1 ≠ (TJ7 b).2.1 := by decide +kernel
theorem tyJ7_ok : ∀ k, k < 0 → parseFieldDescriptor (TJ7 k).2.2.1 = some (tyJ7 k) := by decide +kernel
abbrev cJ7_fill_53178 : ByteArray := prog_17_method_103_code
def yJ7_fill_53178 : MethodName := ⟨RJ7, "fill", "([II)V"⟩
def RL : String := "RiverBureauLaw"
abbrev cL_law : ByteArray := code
def yL_law : MethodName := ⟨RL, "law", "([I)Z"⟩
abbrev vwCl : List vw_C := [(RX0, TX0, 9), (RX1, TX1, 2), (RX2, TX2, 7), (RX3, TX3, 3), (RX4, TX4, 3), (RX5, TX5, 9), (RX6, TX6, 6), (RX7, TX7, 3), (RX8, TX8, 3), (RX9, TX9, 16), (RX10, TX10, 44)]
