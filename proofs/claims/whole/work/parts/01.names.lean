-- ===== PART A: goes FIRST, ahead of the names: the tables' words, and 'selects' of the private methods out of them =====
/-- a private method of a class that the tables say can be made, by its rows of tables_1 -/
def lw_okq (q : MethodName × Nat) : Prop := (q.1.cls ≠ "java/lang/invoke/MethodHandle" ∧ q.1.cls ≠ "java/lang/invoke/VarHandle") ∧ Cond.instantiable q.1.cls q.2 ∈ tables_1 ∧ Cond.privateMethod q.1 ∈ tables_1 ∧ Cond.instanceMethod q.1 ∈ tables_1
theorem lw_p0 : lw_okq (⟨"BellHours", "forgetDay", "()V"⟩, 17) := ⟨⟨by decide +kernel, by decide +kernel⟩, List.mem_of_getElem? (i := 23) (by decide +kernel), List.mem_of_getElem? (i := 365) (by decide +kernel), List.mem_of_getElem? (i := 366) (by decide +kernel)⟩
theorem lw_p1 : lw_okq (⟨"BellHours$Reader", "next", "()V"⟩, 6) := ⟨⟨by decide +kernel, by decide +kernel⟩, List.mem_of_getElem? (i := 123) (by decide +kernel), List.mem_of_getElem? (i := 406) (by decide +kernel), List.mem_of_getElem? (i := 407) (by decide +kernel)⟩
theorem lw_p2 : lw_okq (⟨"BellHours$Reader", "fails", "(I)Z"⟩, 6) := ⟨⟨by decide +kernel, by decide +kernel⟩, List.mem_of_getElem? (i := 123) (by decide +kernel), List.mem_of_getElem? (i := 495) (by decide +kernel), List.mem_of_getElem? (i := 496) (by decide +kernel)⟩
theorem lw_p3 : lw_okq (⟨"BellHours$Reader", "readClause", "(I)Z"⟩, 6) := ⟨⟨by decide +kernel, by decide +kernel⟩, List.mem_of_getElem? (i := 123) (by decide +kernel), List.mem_of_getElem? (i := 499) (by decide +kernel), List.mem_of_getElem? (i := 500) (by decide +kernel)⟩
theorem lw_p4 : lw_okq (⟨"BellHours$Reader", "readSum", "(I)Z"⟩, 6) := ⟨⟨by decide +kernel, by decide +kernel⟩, List.mem_of_getElem? (i := 123) (by decide +kernel), List.mem_of_getElem? (i := 507) (by decide +kernel), List.mem_of_getElem? (i := 508) (by decide +kernel)⟩
theorem lw_p5 : lw_okq (⟨"BellHours$Reader", "readProduct", "(I)Z"⟩, 6) := ⟨⟨by decide +kernel, by decide +kernel⟩, List.mem_of_getElem? (i := 123) (by decide +kernel), List.mem_of_getElem? (i := 511) (by decide +kernel), List.mem_of_getElem? (i := 512) (by decide +kernel)⟩
theorem lw_p6 : lw_okq (⟨"BellHours$Reader", "readFactor", "(I)Z"⟩, 6) := ⟨⟨by decide +kernel, by decide +kernel⟩, List.mem_of_getElem? (i := 123) (by decide +kernel), List.mem_of_getElem? (i := 515) (by decide +kernel), List.mem_of_getElem? (i := 516) (by decide +kernel)⟩
theorem lw_p7 : lw_okq (⟨"BellHours$Reader", "opens", "(CI)Z"⟩, 6) := ⟨⟨by decide +kernel, by decide +kernel⟩, List.mem_of_getElem? (i := 123) (by decide +kernel), List.mem_of_getElem? (i := 519) (by decide +kernel), List.mem_of_getElem? (i := 520) (by decide +kernel)⟩
theorem lw_p8 : lw_okq (⟨"BellHours$Reader", "passes", "(C)Z"⟩, 6) := ⟨⟨by decide +kernel, by decide +kernel⟩, List.mem_of_getElem? (i := 123) (by decide +kernel), List.mem_of_getElem? (i := 523) (by decide +kernel), List.mem_of_getElem? (i := 524) (by decide +kernel)⟩
theorem lw_p9 : lw_okq (⟨"BellHours$Reader", "readNumber", "()Z"⟩, 6) := ⟨⟨by decide +kernel, by decide +kernel⟩, List.mem_of_getElem? (i := 123) (by decide +kernel), List.mem_of_getElem? (i := 527) (by decide +kernel), List.mem_of_getElem? (i := 528) (by decide +kernel)⟩
theorem lw_p10 : lw_okq (⟨"BellHours$Reader", "readBracket", "(I)Z"⟩, 6) := ⟨⟨by decide +kernel, by decide +kernel⟩, List.mem_of_getElem? (i := 123) (by decide +kernel), List.mem_of_getElem? (i := 532) (by decide +kernel), List.mem_of_getElem? (i := 533) (by decide +kernel)⟩
theorem lw_p11 : lw_okq (⟨"BellHours$Reader", "readCondition", "(I)Z"⟩, 6) := ⟨⟨by decide +kernel, by decide +kernel⟩, List.mem_of_getElem? (i := 123) (by decide +kernel), List.mem_of_getElem? (i := 536) (by decide +kernel), List.mem_of_getElem? (i := 537) (by decide +kernel)⟩
theorem lw_p12 : lw_okq (⟨"BellHours$Reader", "readPart", "(I)Z"⟩, 6) := ⟨⟨by decide +kernel, by decide +kernel⟩, List.mem_of_getElem? (i := 123) (by decide +kernel), List.mem_of_getElem? (i := 540) (by decide +kernel), List.mem_of_getElem? (i := 541) (by decide +kernel)⟩
theorem lw_p13 : lw_okq (⟨"BellHours$Reader", "readPiece", "(I)Z"⟩, 6) := ⟨⟨by decide +kernel, by decide +kernel⟩, List.mem_of_getElem? (i := 123) (by decide +kernel), List.mem_of_getElem? (i := 544) (by decide +kernel), List.mem_of_getElem? (i := 545) (by decide +kernel)⟩
theorem lw_p14 : lw_okq (⟨"BellHours$Reader", "comparison", "()Z"⟩, 6) := ⟨⟨by decide +kernel, by decide +kernel⟩, List.mem_of_getElem? (i := 123) (by decide +kernel), List.mem_of_getElem? (i := 548) (by decide +kernel), List.mem_of_getElem? (i := 549) (by decide +kernel)⟩
theorem lw_p15 : lw_okq (⟨"BellHours", "runDay", "()V"⟩, 17) := ⟨⟨by decide +kernel, by decide +kernel⟩, List.mem_of_getElem? (i := 23) (by decide +kernel), List.mem_of_getElem? (i := 588) (by decide +kernel), List.mem_of_getElem? (i := 589) (by decide +kernel)⟩
def lw_privs_1 : List (MethodName × Nat) := [(⟨"BellHours", "forgetDay", "()V"⟩, 17), (⟨"BellHours$Reader", "next", "()V"⟩, 6), (⟨"BellHours$Reader", "fails", "(I)Z"⟩, 6), (⟨"BellHours$Reader", "readClause", "(I)Z"⟩, 6), (⟨"BellHours$Reader", "readSum", "(I)Z"⟩, 6), (⟨"BellHours$Reader", "readProduct", "(I)Z"⟩, 6), (⟨"BellHours$Reader", "readFactor", "(I)Z"⟩, 6), (⟨"BellHours$Reader", "opens", "(CI)Z"⟩, 6), (⟨"BellHours$Reader", "passes", "(C)Z"⟩, 6), (⟨"BellHours$Reader", "readNumber", "()Z"⟩, 6), (⟨"BellHours$Reader", "readBracket", "(I)Z"⟩, 6), (⟨"BellHours$Reader", "readCondition", "(I)Z"⟩, 6), (⟨"BellHours$Reader", "readPart", "(I)Z"⟩, 6), (⟨"BellHours$Reader", "readPiece", "(I)Z"⟩, 6), (⟨"BellHours$Reader", "comparison", "()Z"⟩, 6), (⟨"BellHours", "runDay", "()V"⟩, 17)]
theorem lw_r1 : ∀ q ∈ lw_privs_1, lw_okq q := List.forall_mem_cons.mpr ⟨lw_p0, List.forall_mem_cons.mpr ⟨lw_p1, List.forall_mem_cons.mpr ⟨lw_p2, List.forall_mem_cons.mpr ⟨lw_p3, List.forall_mem_cons.mpr ⟨lw_p4, List.forall_mem_cons.mpr ⟨lw_p5, List.forall_mem_cons.mpr ⟨lw_p6, List.forall_mem_cons.mpr ⟨lw_p7, List.forall_mem_cons.mpr ⟨lw_p8, List.forall_mem_cons.mpr ⟨lw_p9, List.forall_mem_cons.mpr ⟨lw_p10, List.forall_mem_cons.mpr ⟨lw_p11, List.forall_mem_cons.mpr ⟨lw_p12, List.forall_mem_cons.mpr ⟨lw_p13, List.forall_mem_cons.mpr ⟨lw_p14, List.forall_mem_cons.mpr ⟨lw_p15, fun _ h => absurd h List.not_mem_nil⟩⟩⟩⟩⟩⟩⟩⟩⟩⟩⟩⟩⟩⟩⟩⟩
theorem lw_p16 : lw_okq (⟨"BellHours$Day", "runHour", "(ILBellHours$Law;)V"⟩, 9) := ⟨⟨by decide +kernel, by decide +kernel⟩, List.mem_of_getElem? (i := 162) (by decide +kernel), List.mem_of_getElem? (i := 601) (by decide +kernel), List.mem_of_getElem? (i := 602) (by decide +kernel)⟩
theorem lw_p17 : lw_okq (⟨"BellHours$Scene", "look", "(III)V"⟩, 2) := ⟨⟨by decide +kernel, by decide +kernel⟩, List.mem_of_getElem? (i := 148) (by decide +kernel), List.mem_of_getElem? (i := 615) (by decide +kernel), List.mem_of_getElem? (i := 616) (by decide +kernel)⟩
theorem lw_p18 : lw_okq (⟨"BellHours$Law", "reckon", "(II[I)I"⟩, 10) := ⟨⟨by decide +kernel, by decide +kernel⟩, List.mem_of_getElem? (i := 83) (by decide +kernel), List.mem_of_getElem? (i := 623) (by decide +kernel), List.mem_of_getElem? (i := 624) (by decide +kernel)⟩
theorem lw_p19 : lw_okq (⟨"BellHours$Scene", "change", "(III)V"⟩, 2) := ⟨⟨by decide +kernel, by decide +kernel⟩, List.mem_of_getElem? (i := 148) (by decide +kernel), List.mem_of_getElem? (i := 639) (by decide +kernel), List.mem_of_getElem? (i := 640) (by decide +kernel)⟩
theorem lw_p20 : lw_okq (⟨"BellHours$Day", "note", "(III)V"⟩, 9) := ⟨⟨by decide +kernel, by decide +kernel⟩, List.mem_of_getElem? (i := 162) (by decide +kernel), List.mem_of_getElem? (i := 645) (by decide +kernel), List.mem_of_getElem? (i := 646) (by decide +kernel)⟩
theorem lw_p21 : lw_okq (⟨"BellHours", "isOwned", "(I)Z"⟩, 17) := ⟨⟨by decide +kernel, by decide +kernel⟩, List.mem_of_getElem? (i := 23) (by decide +kernel), List.mem_of_getElem? (i := 683) (by decide +kernel), List.mem_of_getElem? (i := 684) (by decide +kernel)⟩
theorem lw_p22 : lw_okq (⟨"BellHours$Orders", "tryRow", "(IILBellHours$Day;)I"⟩, 6) := ⟨⟨by decide +kernel, by decide +kernel⟩, List.mem_of_getElem? (i := 238) (by decide +kernel), List.mem_of_getElem? (i := 691) (by decide +kernel), List.mem_of_getElem? (i := 692) (by decide +kernel)⟩
theorem lw_p23 : lw_okq (⟨"BellHours$Orders", "nextRow", "(I)Z"⟩, 6) := ⟨⟨by decide +kernel, by decide +kernel⟩, List.mem_of_getElem? (i := 238) (by decide +kernel), List.mem_of_getElem? (i := 701) (by decide +kernel), List.mem_of_getElem? (i := 702) (by decide +kernel)⟩
theorem lw_p24 : lw_okq (⟨"BellHours$Orders", "exchangeAt", "(II)V"⟩, 6) := ⟨⟨by decide +kernel, by decide +kernel⟩, List.mem_of_getElem? (i := 238) (by decide +kernel), List.mem_of_getElem? (i := 705) (by decide +kernel), List.mem_of_getElem? (i := 706) (by decide +kernel)⟩
theorem lw_p25 : lw_okq (⟨"BellHours$Trade", "beginSwapped", "(II)I"⟩, 7) := ⟨⟨by decide +kernel, by decide +kernel⟩, List.mem_of_getElem? (i := 206) (by decide +kernel), List.mem_of_getElem? (i := 746) (by decide +kernel), List.mem_of_getElem? (i := 747) (by decide +kernel)⟩
theorem lw_p26 : lw_okq (⟨"BellHours$Trade", "gainOf", "(I)I"⟩, 7) := ⟨⟨by decide +kernel, by decide +kernel⟩, List.mem_of_getElem? (i := 206) (by decide +kernel), List.mem_of_getElem? (i := 751) (by decide +kernel), List.mem_of_getElem? (i := 752) (by decide +kernel)⟩
theorem lw_p27 : lw_okq (⟨"BellHours$Trade", "weigh", "(II)V"⟩, 7) := ⟨⟨by decide +kernel, by decide +kernel⟩, List.mem_of_getElem? (i := 206) (by decide +kernel), List.mem_of_getElem? (i := 774) (by decide +kernel), List.mem_of_getElem? (i := 775) (by decide +kernel)⟩
theorem lw_p28 : lw_okq (⟨"BellHours$Hiding", "costOf", "(IIII)I"⟩, 5) := ⟨⟨by decide +kernel, by decide +kernel⟩, List.mem_of_getElem? (i := 265) (by decide +kernel), List.mem_of_getElem? (i := 805) (by decide +kernel), List.mem_of_getElem? (i := 806) (by decide +kernel)⟩
theorem lw_p29 : lw_okq (⟨"BellHours$Hiding", "bestRoom", "(III)I"⟩, 5) := ⟨⟨by decide +kernel, by decide +kernel⟩, List.mem_of_getElem? (i := 265) (by decide +kernel), List.mem_of_getElem? (i := 809) (by decide +kernel), List.mem_of_getElem? (i := 810) (by decide +kernel)⟩
theorem lw_p30 : lw_okq (⟨"BellHours$Hiding", "costWith", "(IIII)I"⟩, 5) := ⟨⟨by decide +kernel, by decide +kernel⟩, List.mem_of_getElem? (i := 265) (by decide +kernel), List.mem_of_getElem? (i := 813) (by decide +kernel), List.mem_of_getElem? (i := 814) (by decide +kernel)⟩
theorem lw_p31 : lw_okq (⟨"BellHours$Vase", "liarsIf", "(I)I"⟩, 2) := ⟨⟨by decide +kernel, by decide +kernel⟩, List.mem_of_getElem? (i := 289) (by decide +kernel), List.mem_of_getElem? (i := 830) (by decide +kernel), List.mem_of_getElem? (i := 831) (by decide +kernel)⟩
def lw_privs_2 : List (MethodName × Nat) := [(⟨"BellHours$Day", "runHour", "(ILBellHours$Law;)V"⟩, 9), (⟨"BellHours$Scene", "look", "(III)V"⟩, 2), (⟨"BellHours$Law", "reckon", "(II[I)I"⟩, 10), (⟨"BellHours$Scene", "change", "(III)V"⟩, 2), (⟨"BellHours$Day", "note", "(III)V"⟩, 9), (⟨"BellHours", "isOwned", "(I)Z"⟩, 17), (⟨"BellHours$Orders", "tryRow", "(IILBellHours$Day;)I"⟩, 6), (⟨"BellHours$Orders", "nextRow", "(I)Z"⟩, 6), (⟨"BellHours$Orders", "exchangeAt", "(II)V"⟩, 6), (⟨"BellHours$Trade", "beginSwapped", "(II)I"⟩, 7), (⟨"BellHours$Trade", "gainOf", "(I)I"⟩, 7), (⟨"BellHours$Trade", "weigh", "(II)V"⟩, 7), (⟨"BellHours$Hiding", "costOf", "(IIII)I"⟩, 5), (⟨"BellHours$Hiding", "bestRoom", "(III)I"⟩, 5), (⟨"BellHours$Hiding", "costWith", "(IIII)I"⟩, 5), (⟨"BellHours$Vase", "liarsIf", "(I)I"⟩, 2)]
theorem lw_r2 : ∀ q ∈ lw_privs_2, lw_okq q := List.forall_mem_cons.mpr ⟨lw_p16, List.forall_mem_cons.mpr ⟨lw_p17, List.forall_mem_cons.mpr ⟨lw_p18, List.forall_mem_cons.mpr ⟨lw_p19, List.forall_mem_cons.mpr ⟨lw_p20, List.forall_mem_cons.mpr ⟨lw_p21, List.forall_mem_cons.mpr ⟨lw_p22, List.forall_mem_cons.mpr ⟨lw_p23, List.forall_mem_cons.mpr ⟨lw_p24, List.forall_mem_cons.mpr ⟨lw_p25, List.forall_mem_cons.mpr ⟨lw_p26, List.forall_mem_cons.mpr ⟨lw_p27, List.forall_mem_cons.mpr ⟨lw_p28, List.forall_mem_cons.mpr ⟨lw_p29, List.forall_mem_cons.mpr ⟨lw_p30, List.forall_mem_cons.mpr ⟨lw_p31, fun _ h => absurd h List.not_mem_nil⟩⟩⟩⟩⟩⟩⟩⟩⟩⟩⟩⟩⟩⟩⟩⟩
theorem lw_p32 : lw_okq (⟨"BellHours$Vase", "isUntrue", "(II)Z"⟩, 2) := ⟨⟨by decide +kernel, by decide +kernel⟩, List.mem_of_getElem? (i := 289) (by decide +kernel), List.mem_of_getElem? (i := 834) (by decide +kernel), List.mem_of_getElem? (i := 835) (by decide +kernel)⟩
theorem lw_p33 : lw_okq (⟨"BellHours$House", "heirOf", "(II)I"⟩, 5) := ⟨⟨by decide +kernel, by decide +kernel⟩, List.mem_of_getElem? (i := 31) (by decide +kernel), List.mem_of_getElem? (i := 870) (by decide +kernel), List.mem_of_getElem? (i := 871) (by decide +kernel)⟩
theorem lw_p34 : lw_okq (⟨"BellHours", "firstWrongStore", "(II)I"⟩, 17) := ⟨⟨by decide +kernel, by decide +kernel⟩, List.mem_of_getElem? (i := 23) (by decide +kernel), List.mem_of_getElem? (i := 909) (by decide +kernel), List.mem_of_getElem? (i := 910) (by decide +kernel)⟩
theorem lw_p35 : lw_okq (⟨"BellHoursModel", "types", "(I)V"⟩, 65) := ⟨⟨by decide +kernel, by decide +kernel⟩, List.mem_of_getElem? (i := 921) (by decide +kernel), List.mem_of_getElem? (i := 1155) (by decide +kernel), List.mem_of_getElem? (i := 1156) (by decide +kernel)⟩
theorem lw_p36 : lw_okq (⟨"BellHoursModel", "readsClause", "()Z"⟩, 65) := ⟨⟨by decide +kernel, by decide +kernel⟩, List.mem_of_getElem? (i := 921) (by decide +kernel), List.mem_of_getElem? (i := 1163) (by decide +kernel), List.mem_of_getElem? (i := 1164) (by decide +kernel)⟩
theorem lw_p37 : lw_okq (⟨"BellHoursModel", "here", "()I"⟩, 65) := ⟨⟨by decide +kernel, by decide +kernel⟩, List.mem_of_getElem? (i := 921) (by decide +kernel), List.mem_of_getElem? (i := 1167) (by decide +kernel), List.mem_of_getElem? (i := 1168) (by decide +kernel)⟩
theorem lw_p38 : lw_okq (⟨"BellHoursModel", "wrongAt", "(II)Z"⟩, 65) := ⟨⟨by decide +kernel, by decide +kernel⟩, List.mem_of_getElem? (i := 921) (by decide +kernel), List.mem_of_getElem? (i := 1174) (by decide +kernel), List.mem_of_getElem? (i := 1175) (by decide +kernel)⟩
theorem lw_p39 : lw_okq (⟨"BellHoursModel", "readsSum", "()Z"⟩, 65) := ⟨⟨by decide +kernel, by decide +kernel⟩, List.mem_of_getElem? (i := 921) (by decide +kernel), List.mem_of_getElem? (i := 1178) (by decide +kernel), List.mem_of_getElem? (i := 1179) (by decide +kernel)⟩
theorem lw_p40 : lw_okq (⟨"BellHoursModel", "readsFactor", "()Z"⟩, 65) := ⟨⟨by decide +kernel, by decide +kernel⟩, List.mem_of_getElem? (i := 921) (by decide +kernel), List.mem_of_getElem? (i := 1182) (by decide +kernel), List.mem_of_getElem? (i := 1183) (by decide +kernel)⟩
theorem lw_p41 : lw_okq (⟨"BellHoursModel", "opens", "(I)Z"⟩, 65) := ⟨⟨by decide +kernel, by decide +kernel⟩, List.mem_of_getElem? (i := 921) (by decide +kernel), List.mem_of_getElem? (i := 1186) (by decide +kernel), List.mem_of_getElem? (i := 1187) (by decide +kernel)⟩
theorem lw_p42 : lw_okq (⟨"BellHoursModel", "isDigit", "()Z"⟩, 65) := ⟨⟨by decide +kernel, by decide +kernel⟩, List.mem_of_getElem? (i := 921) (by decide +kernel), List.mem_of_getElem? (i := 1191) (by decide +kernel), List.mem_of_getElem? (i := 1192) (by decide +kernel)⟩
theorem lw_p43 : lw_okq (⟨"BellHoursModel", "readsNumber", "()Z"⟩, 65) := ⟨⟨by decide +kernel, by decide +kernel⟩, List.mem_of_getElem? (i := 921) (by decide +kernel), List.mem_of_getElem? (i := 1195) (by decide +kernel), List.mem_of_getElem? (i := 1196) (by decide +kernel)⟩
theorem lw_p44 : lw_okq (⟨"BellHoursModel", "notes", "(II)V"⟩, 65) := ⟨⟨by decide +kernel, by decide +kernel⟩, List.mem_of_getElem? (i := 921) (by decide +kernel), List.mem_of_getElem? (i := 1199) (by decide +kernel), List.mem_of_getElem? (i := 1200) (by decide +kernel)⟩
theorem lw_p45 : lw_okq (⟨"BellHoursModel", "closesSums", "(Z)V"⟩, 65) := ⟨⟨by decide +kernel, by decide +kernel⟩, List.mem_of_getElem? (i := 921) (by decide +kernel), List.mem_of_getElem? (i := 1209) (by decide +kernel), List.mem_of_getElem? (i := 1210) (by decide +kernel)⟩
theorem lw_p46 : lw_okq (⟨"BellHoursModel", "top", "()I"⟩, 65) := ⟨⟨by decide +kernel, by decide +kernel⟩, List.mem_of_getElem? (i := 921) (by decide +kernel), List.mem_of_getElem? (i := 1213) (by decide +kernel), List.mem_of_getElem? (i := 1214) (by decide +kernel)⟩
theorem lw_p47 : lw_okq (⟨"BellHoursModel", "hasOpenSum", "(I)Z"⟩, 65) := ⟨⟨by decide +kernel, by decide +kernel⟩, List.mem_of_getElem? (i := 921) (by decide +kernel), List.mem_of_getElem? (i := 1217) (by decide +kernel), List.mem_of_getElem? (i := 1218) (by decide +kernel)⟩
def lw_privs_3 : List (MethodName × Nat) := [(⟨"BellHours$Vase", "isUntrue", "(II)Z"⟩, 2), (⟨"BellHours$House", "heirOf", "(II)I"⟩, 5), (⟨"BellHours", "firstWrongStore", "(II)I"⟩, 17), (⟨"BellHoursModel", "types", "(I)V"⟩, 65), (⟨"BellHoursModel", "readsClause", "()Z"⟩, 65), (⟨"BellHoursModel", "here", "()I"⟩, 65), (⟨"BellHoursModel", "wrongAt", "(II)Z"⟩, 65), (⟨"BellHoursModel", "readsSum", "()Z"⟩, 65), (⟨"BellHoursModel", "readsFactor", "()Z"⟩, 65), (⟨"BellHoursModel", "opens", "(I)Z"⟩, 65), (⟨"BellHoursModel", "isDigit", "()Z"⟩, 65), (⟨"BellHoursModel", "readsNumber", "()Z"⟩, 65), (⟨"BellHoursModel", "notes", "(II)V"⟩, 65), (⟨"BellHoursModel", "closesSums", "(Z)V"⟩, 65), (⟨"BellHoursModel", "top", "()I"⟩, 65), (⟨"BellHoursModel", "hasOpenSum", "(I)Z"⟩, 65)]
theorem lw_r3 : ∀ q ∈ lw_privs_3, lw_okq q := List.forall_mem_cons.mpr ⟨lw_p32, List.forall_mem_cons.mpr ⟨lw_p33, List.forall_mem_cons.mpr ⟨lw_p34, List.forall_mem_cons.mpr ⟨lw_p35, List.forall_mem_cons.mpr ⟨lw_p36, List.forall_mem_cons.mpr ⟨lw_p37, List.forall_mem_cons.mpr ⟨lw_p38, List.forall_mem_cons.mpr ⟨lw_p39, List.forall_mem_cons.mpr ⟨lw_p40, List.forall_mem_cons.mpr ⟨lw_p41, List.forall_mem_cons.mpr ⟨lw_p42, List.forall_mem_cons.mpr ⟨lw_p43, List.forall_mem_cons.mpr ⟨lw_p44, List.forall_mem_cons.mpr ⟨lw_p45, List.forall_mem_cons.mpr ⟨lw_p46, List.forall_mem_cons.mpr ⟨lw_p47, fun _ h => absurd h List.not_mem_nil⟩⟩⟩⟩⟩⟩⟩⟩⟩⟩⟩⟩⟩⟩⟩⟩
theorem lw_p48 : lw_okq (⟨"BellHoursModel", "readsCondition", "()Z"⟩, 65) := ⟨⟨by decide +kernel, by decide +kernel⟩, List.mem_of_getElem? (i := 921) (by decide +kernel), List.mem_of_getElem? (i := 1221) (by decide +kernel), List.mem_of_getElem? (i := 1222) (by decide +kernel)⟩
theorem lw_p49 : lw_okq (⟨"BellHoursModel", "readsCompared", "()Z"⟩, 65) := ⟨⟨by decide +kernel, by decide +kernel⟩, List.mem_of_getElem? (i := 921) (by decide +kernel), List.mem_of_getElem? (i := 1225) (by decide +kernel), List.mem_of_getElem? (i := 1226) (by decide +kernel)⟩
theorem lw_p50 : lw_okq (⟨"BellHoursModel", "endsPiece", "()V"⟩, 65) := ⟨⟨by decide +kernel, by decide +kernel⟩, List.mem_of_getElem? (i := 921) (by decide +kernel), List.mem_of_getElem? (i := 1229) (by decide +kernel), List.mem_of_getElem? (i := 1230) (by decide +kernel)⟩
theorem lw_p51 : lw_okq (⟨"BellHoursModel", "lands", "(Z)V"⟩, 65) := ⟨⟨by decide +kernel, by decide +kernel⟩, List.mem_of_getElem? (i := 921) (by decide +kernel), List.mem_of_getElem? (i := 1233) (by decide +kernel), List.mem_of_getElem? (i := 1234) (by decide +kernel)⟩
theorem lw_p52 : lw_okq (⟨"BellHoursModel", "jumps", "(I)V"⟩, 65) := ⟨⟨by decide +kernel, by decide +kernel⟩, List.mem_of_getElem? (i := 921) (by decide +kernel), List.mem_of_getElem? (i := 1237) (by decide +kernel), List.mem_of_getElem? (i := 1238) (by decide +kernel)⟩
theorem lw_p53 : lw_okq (⟨"BellHoursModel", "takes", "(I)Z"⟩, 65) := ⟨⟨by decide +kernel, by decide +kernel⟩, List.mem_of_getElem? (i := 921) (by decide +kernel), List.mem_of_getElem? (i := 1241) (by decide +kernel), List.mem_of_getElem? (i := 1242) (by decide +kernel)⟩
theorem lw_p54 : lw_okq (⟨"BellHoursModel", "runs", "(I)V"⟩, 65) := ⟨⟨by decide +kernel, by decide +kernel⟩, List.mem_of_getElem? (i := 921) (by decide +kernel), List.mem_of_getElem? (i := 1249) (by decide +kernel), List.mem_of_getElem? (i := 1250) (by decide +kernel)⟩
theorem lw_p55 : lw_okq (⟨"BellHoursModel", "findsAt", "(I)V"⟩, 65) := ⟨⟨by decide +kernel, by decide +kernel⟩, List.mem_of_getElem? (i := 921) (by decide +kernel), List.mem_of_getElem? (i := 1253) (by decide +kernel), List.mem_of_getElem? (i := 1254) (by decide +kernel)⟩
theorem lw_p56 : lw_okq (⟨"BellHoursModel", "actsAll", "(I)I"⟩, 65) := ⟨⟨by decide +kernel, by decide +kernel⟩, List.mem_of_getElem? (i := 921) (by decide +kernel), List.mem_of_getElem? (i := 1257) (by decide +kernel), List.mem_of_getElem? (i := 1258) (by decide +kernel)⟩
theorem lw_p57 : lw_okq (⟨"BellHoursModel", "acts", "(II)I"⟩, 65) := ⟨⟨by decide +kernel, by decide +kernel⟩, List.mem_of_getElem? (i := 921) (by decide +kernel), List.mem_of_getElem? (i := 1261) (by decide +kernel), List.mem_of_getElem? (i := 1262) (by decide +kernel)⟩
theorem lw_p58 : lw_okq (⟨"BellHoursModel", "feels", "(II)V"⟩, 65) := ⟨⟨by decide +kernel, by decide +kernel⟩, List.mem_of_getElem? (i := 921) (by decide +kernel), List.mem_of_getElem? (i := 1265) (by decide +kernel), List.mem_of_getElem? (i := 1266) (by decide +kernel)⟩
theorem lw_p59 : lw_okq (⟨"BellHoursModel", "isBarred", "()Z"⟩, 65) := ⟨⟨by decide +kernel, by decide +kernel⟩, List.mem_of_getElem? (i := 921) (by decide +kernel), List.mem_of_getElem? (i := 1269) (by decide +kernel), List.mem_of_getElem? (i := 1270) (by decide +kernel)⟩
theorem lw_p60 : lw_okq (⟨"BellHoursModel", "comesTo", "(II)I"⟩, 65) := ⟨⟨by decide +kernel, by decide +kernel⟩, List.mem_of_getElem? (i := 921) (by decide +kernel), List.mem_of_getElem? (i := 1273) (by decide +kernel), List.mem_of_getElem? (i := 1274) (by decide +kernel)⟩
theorem lw_p61 : lw_okq (⟨"BellHoursModel", "byLaw", "(IIII)I"⟩, 65) := ⟨⟨by decide +kernel, by decide +kernel⟩, List.mem_of_getElem? (i := 921) (by decide +kernel), List.mem_of_getElem? (i := 1280) (by decide +kernel), List.mem_of_getElem? (i := 1281) (by decide +kernel)⟩
theorem lw_p62 : lw_okq (⟨"BellHoursModel", "finesOf", "(II)I"⟩, 65) := ⟨⟨by decide +kernel, by decide +kernel⟩, List.mem_of_getElem? (i := 921) (by decide +kernel), List.mem_of_getElem? (i := 1287) (by decide +kernel), List.mem_of_getElem? (i := 1288) (by decide +kernel)⟩
theorem lw_p63 : lw_okq (⟨"BellHoursModel", "cools", "(I)V"⟩, 65) := ⟨⟨by decide +kernel, by decide +kernel⟩, List.mem_of_getElem? (i := 921) (by decide +kernel), List.mem_of_getElem? (i := 1291) (by decide +kernel), List.mem_of_getElem? (i := 1292) (by decide +kernel)⟩
def lw_privs_4 : List (MethodName × Nat) := [(⟨"BellHoursModel", "readsCondition", "()Z"⟩, 65), (⟨"BellHoursModel", "readsCompared", "()Z"⟩, 65), (⟨"BellHoursModel", "endsPiece", "()V"⟩, 65), (⟨"BellHoursModel", "lands", "(Z)V"⟩, 65), (⟨"BellHoursModel", "jumps", "(I)V"⟩, 65), (⟨"BellHoursModel", "takes", "(I)Z"⟩, 65), (⟨"BellHoursModel", "runs", "(I)V"⟩, 65), (⟨"BellHoursModel", "findsAt", "(I)V"⟩, 65), (⟨"BellHoursModel", "actsAll", "(I)I"⟩, 65), (⟨"BellHoursModel", "acts", "(II)I"⟩, 65), (⟨"BellHoursModel", "feels", "(II)V"⟩, 65), (⟨"BellHoursModel", "isBarred", "()Z"⟩, 65), (⟨"BellHoursModel", "comesTo", "(II)I"⟩, 65), (⟨"BellHoursModel", "byLaw", "(IIII)I"⟩, 65), (⟨"BellHoursModel", "finesOf", "(II)I"⟩, 65), (⟨"BellHoursModel", "cools", "(I)V"⟩, 65)]
theorem lw_r4 : ∀ q ∈ lw_privs_4, lw_okq q := List.forall_mem_cons.mpr ⟨lw_p48, List.forall_mem_cons.mpr ⟨lw_p49, List.forall_mem_cons.mpr ⟨lw_p50, List.forall_mem_cons.mpr ⟨lw_p51, List.forall_mem_cons.mpr ⟨lw_p52, List.forall_mem_cons.mpr ⟨lw_p53, List.forall_mem_cons.mpr ⟨lw_p54, List.forall_mem_cons.mpr ⟨lw_p55, List.forall_mem_cons.mpr ⟨lw_p56, List.forall_mem_cons.mpr ⟨lw_p57, List.forall_mem_cons.mpr ⟨lw_p58, List.forall_mem_cons.mpr ⟨lw_p59, List.forall_mem_cons.mpr ⟨lw_p60, List.forall_mem_cons.mpr ⟨lw_p61, List.forall_mem_cons.mpr ⟨lw_p62, List.forall_mem_cons.mpr ⟨lw_p63, fun _ h => absurd h List.not_mem_nil⟩⟩⟩⟩⟩⟩⟩⟩⟩⟩⟩⟩⟩⟩⟩⟩
theorem lw_p64 : lw_okq (⟨"BellHoursModel", "valueOf", "(I)I"⟩, 65) := ⟨⟨by decide +kernel, by decide +kernel⟩, List.mem_of_getElem? (i := 921) (by decide +kernel), List.mem_of_getElem? (i := 1304) (by decide +kernel), List.mem_of_getElem? (i := 1305) (by decide +kernel)⟩
theorem lw_p65 : lw_okq (⟨"BellHoursModel", "sumOf", "(II)I"⟩, 65) := ⟨⟨by decide +kernel, by decide +kernel⟩, List.mem_of_getElem? (i := 921) (by decide +kernel), List.mem_of_getElem? (i := 1308) (by decide +kernel), List.mem_of_getElem? (i := 1309) (by decide +kernel)⟩
theorem lw_p66 : lw_okq (⟨"BellHoursModel", "ordersBy", "(III)V"⟩, 65) := ⟨⟨by decide +kernel, by decide +kernel⟩, List.mem_of_getElem? (i := 921) (by decide +kernel), List.mem_of_getElem? (i := 1317) (by decide +kernel), List.mem_of_getElem? (i := 1318) (by decide +kernel)⟩
theorem lw_p67 : lw_okq (⟨"BellHoursModel", "orderGives", "(I)I"⟩, 65) := ⟨⟨by decide +kernel, by decide +kernel⟩, List.mem_of_getElem? (i := 921) (by decide +kernel), List.mem_of_getElem? (i := 1321) (by decide +kernel), List.mem_of_getElem? (i := 1322) (by decide +kernel)⟩
theorem lw_p68 : lw_okq (⟨"BellHoursModel", "canGain", "(II)Z"⟩, 65) := ⟨⟨by decide +kernel, by decide +kernel⟩, List.mem_of_getElem? (i := 921) (by decide +kernel), List.mem_of_getElem? (i := 1337) (by decide +kernel), List.mem_of_getElem? (i := 1338) (by decide +kernel)⟩
theorem lw_p69 : lw_okq (⟨"BellHoursModel", "laysValues", "()V"⟩, 65) := ⟨⟨by decide +kernel, by decide +kernel⟩, List.mem_of_getElem? (i := 921) (by decide +kernel), List.mem_of_getElem? (i := 1341) (by decide +kernel), List.mem_of_getElem? (i := 1342) (by decide +kernel)⟩
theorem lw_p70 : lw_okq (⟨"BellHoursModel", "laysGain", "(II)V"⟩, 65) := ⟨⟨by decide +kernel, by decide +kernel⟩, List.mem_of_getElem? (i := 921) (by decide +kernel), List.mem_of_getElem? (i := 1345) (by decide +kernel), List.mem_of_getElem? (i := 1346) (by decide +kernel)⟩
theorem lw_p71 : lw_okq (⟨"BellHoursModel", "changes", "(II)V"⟩, 65) := ⟨⟨by decide +kernel, by decide +kernel⟩, List.mem_of_getElem? (i := 921) (by decide +kernel), List.mem_of_getElem? (i := 1349) (by decide +kernel), List.mem_of_getElem? (i := 1350) (by decide +kernel)⟩
theorem lw_p72 : lw_okq (⟨"BellHoursModel", "laysBestSwap", "()V"⟩, 65) := ⟨⟨by decide +kernel, by decide +kernel⟩, List.mem_of_getElem? (i := 921) (by decide +kernel), List.mem_of_getElem? (i := 1361) (by decide +kernel), List.mem_of_getElem? (i := 1362) (by decide +kernel)⟩
theorem lw_p73 : lw_okq (⟨"BellHoursModel", "laysMoves", "(III)V"⟩, 65) := ⟨⟨by decide +kernel, by decide +kernel⟩, List.mem_of_getElem? (i := 921) (by decide +kernel), List.mem_of_getElem? (i := 1385) (by decide +kernel), List.mem_of_getElem? (i := 1386) (by decide +kernel)⟩
theorem lw_p74 : lw_okq (⟨"BellHoursModel", "movesBy", "(IIII)I"⟩, 65) := ⟨⟨by decide +kernel, by decide +kernel⟩, List.mem_of_getElem? (i := 921) (by decide +kernel), List.mem_of_getElem? (i := 1390) (by decide +kernel), List.mem_of_getElem? (i := 1391) (by decide +kernel)⟩
theorem lw_p75 : lw_okq (⟨"BellHoursModel", "isHelped", "(II)Z"⟩, 65) := ⟨⟨by decide +kernel, by decide +kernel⟩, List.mem_of_getElem? (i := 921) (by decide +kernel), List.mem_of_getElem? (i := 1394) (by decide +kernel), List.mem_of_getElem? (i := 1395) (by decide +kernel)⟩
theorem lw_p76 : lw_okq (⟨"BellHoursModel", "canLie", "(II)Z"⟩, 65) := ⟨⟨by decide +kernel, by decide +kernel⟩, List.mem_of_getElem? (i := 921) (by decide +kernel), List.mem_of_getElem? (i := 1398) (by decide +kernel), List.mem_of_getElem? (i := 1399) (by decide +kernel)⟩
theorem lw_p77 : lw_okq (⟨"BellHoursModel", "liarsOf", "(I)I"⟩, 65) := ⟨⟨by decide +kernel, by decide +kernel⟩, List.mem_of_getElem? (i := 921) (by decide +kernel), List.mem_of_getElem? (i := 1410) (by decide +kernel), List.mem_of_getElem? (i := 1411) (by decide +kernel)⟩
theorem lw_p78 : lw_okq (⟨"BellHoursModel", "hoursIn", "(III)I"⟩, 65) := ⟨⟨by decide +kernel, by decide +kernel⟩, List.mem_of_getElem? (i := 921) (by decide +kernel), List.mem_of_getElem? (i := 1424) (by decide +kernel), List.mem_of_getElem? (i := 1425) (by decide +kernel)⟩
theorem lw_p79 : lw_okq (⟨"BellHoursModel", "ownedMany", "()I"⟩, 65) := ⟨⟨by decide +kernel, by decide +kernel⟩, List.mem_of_getElem? (i := 921) (by decide +kernel), List.mem_of_getElem? (i := 1442) (by decide +kernel), List.mem_of_getElem? (i := 1443) (by decide +kernel)⟩
def lw_privs_5 : List (MethodName × Nat) := [(⟨"BellHoursModel", "valueOf", "(I)I"⟩, 65), (⟨"BellHoursModel", "sumOf", "(II)I"⟩, 65), (⟨"BellHoursModel", "ordersBy", "(III)V"⟩, 65), (⟨"BellHoursModel", "orderGives", "(I)I"⟩, 65), (⟨"BellHoursModel", "canGain", "(II)Z"⟩, 65), (⟨"BellHoursModel", "laysValues", "()V"⟩, 65), (⟨"BellHoursModel", "laysGain", "(II)V"⟩, 65), (⟨"BellHoursModel", "changes", "(II)V"⟩, 65), (⟨"BellHoursModel", "laysBestSwap", "()V"⟩, 65), (⟨"BellHoursModel", "laysMoves", "(III)V"⟩, 65), (⟨"BellHoursModel", "movesBy", "(IIII)I"⟩, 65), (⟨"BellHoursModel", "isHelped", "(II)Z"⟩, 65), (⟨"BellHoursModel", "canLie", "(II)Z"⟩, 65), (⟨"BellHoursModel", "liarsOf", "(I)I"⟩, 65), (⟨"BellHoursModel", "hoursIn", "(III)I"⟩, 65), (⟨"BellHoursModel", "ownedMany", "()I"⟩, 65)]
theorem lw_r5 : ∀ q ∈ lw_privs_5, lw_okq q := List.forall_mem_cons.mpr ⟨lw_p64, List.forall_mem_cons.mpr ⟨lw_p65, List.forall_mem_cons.mpr ⟨lw_p66, List.forall_mem_cons.mpr ⟨lw_p67, List.forall_mem_cons.mpr ⟨lw_p68, List.forall_mem_cons.mpr ⟨lw_p69, List.forall_mem_cons.mpr ⟨lw_p70, List.forall_mem_cons.mpr ⟨lw_p71, List.forall_mem_cons.mpr ⟨lw_p72, List.forall_mem_cons.mpr ⟨lw_p73, List.forall_mem_cons.mpr ⟨lw_p74, List.forall_mem_cons.mpr ⟨lw_p75, List.forall_mem_cons.mpr ⟨lw_p76, List.forall_mem_cons.mpr ⟨lw_p77, List.forall_mem_cons.mpr ⟨lw_p78, List.forall_mem_cons.mpr ⟨lw_p79, fun _ h => absurd h List.not_mem_nil⟩⟩⟩⟩⟩⟩⟩⟩⟩⟩⟩⟩⟩⟩⟩⟩
theorem lw_p80 : lw_okq (⟨"BellHoursModel", "tapeNumber", "(I)I"⟩, 65) := ⟨⟨by decide +kernel, by decide +kernel⟩, List.mem_of_getElem? (i := 921) (by decide +kernel), List.mem_of_getElem? (i := 1461) (by decide +kernel), List.mem_of_getElem? (i := 1462) (by decide +kernel)⟩
def lw_privs_6 : List (MethodName × Nat) := [(⟨"BellHoursModel", "tapeNumber", "(I)I"⟩, 65)]
theorem lw_r6 : ∀ q ∈ lw_privs_6, lw_okq q := List.forall_mem_cons.mpr ⟨lw_p80, fun _ h => absurd h List.not_mem_nil⟩
def lw_privs : List (MethodName × Nat) := lw_privs_1 ++ (lw_privs_2 ++ (lw_privs_3 ++ (lw_privs_4 ++ (lw_privs_5 ++ (lw_privs_6)))))
def lw_tbl : List Cond := k2_sels lw_privs ++ tables_1
theorem lw_privs_ok : ∀ q ∈ lw_privs, lw_okq q := by
  show ∀ q ∈ lw_privs_1 ++ (lw_privs_2 ++ (lw_privs_3 ++ (lw_privs_4 ++ (lw_privs_5 ++ (lw_privs_6))))), lw_okq q
  exact List.forall_mem_append.mpr ⟨lw_r1, List.forall_mem_append.mpr ⟨lw_r2, List.forall_mem_append.mpr ⟨lw_r3, List.forall_mem_append.mpr ⟨lw_r4, List.forall_mem_append.mpr ⟨lw_r5, lw_r6⟩⟩⟩⟩⟩
def RX0 : String := "BellHours$Day"
def TX0 : u_T := fun k => match k with
  | 0 => ("BellHours$Day", "house", "LBellHours$House;", true)
  | 1 => ("BellHours$Day", "law", "LBellHours$Law;", true)
  | 2 => ("BellHours$Day", "scene", "LBellHours$Scene;", true)
  | 3 => ("BellHours$Day", "owners", "[I", true)
  | 4 => ("BellHours$Day", "found", "[I", true)
  | 5 => ("BellHours$Day", "worths", "[I", true)
  | 6 => ("BellHours$Day", "fines", "[I", true)
  | 7 => ("BellHours$Day", "undone", "[I", true)
  | _ => ("BellHours$Day", "firstUndone", "[I", true)
def tyX0 : Nat → FieldType := fun k => match k with
  | 0 => .object "BellHours$House"
  | 1 => .object "BellHours$Law"
  | 2 => .object "BellHours$Scene"
  | 3 => .array .int
  | 4 => .array .int
  | 5 => .array .int
  | 6 => .array .int
  | 7 => .array .int
  | _ => .array .int
theorem nmX0 : ∀ a, a < 9 → ∀ b, b < 9 → a ≠ b → (TX0 a).2.1 ≠ (TX0 b).2.1 := by decide +kernel
theorem tyX0_ok : ∀ k, k < 9 → parseFieldDescriptor (TX0 k).2.2.1 = some (tyX0 k) := by decide +kernel
abbrev cX0_init : ByteArray := prog_2_method_1_code
def yX0_init : MethodName := ⟨RX0, "<init>", "(LBellHours$House;LBellHours$Law;LBellHours$Scene;)V"⟩
abbrev cX0_begin : ByteArray := prog_2_method_2_code
def yX0_begin : MethodName := ⟨RX0, "begin", "()V"⟩
abbrev cX0_beginLike : ByteArray := prog_2_method_3_code
def yX0_beginLike : MethodName := ⟨RX0, "beginLike", "(LBellHours$Day;)V"⟩
abbrev cX0_run : ByteArray := prog_2_method_4_code
def yX0_run : MethodName := ⟨RX0, "run", "(ILBellHours$Law;)V"⟩
abbrev cX0_runHour : ByteArray := prog_2_method_5_code
def yX0_runHour : MethodName := ⟨RX0, "runHour", "(ILBellHours$Law;)V"⟩
abbrev cX0_note : ByteArray := prog_2_method_6_code
def yX0_note : MethodName := ⟨RX0, "note", "(III)V"⟩
abbrev cX0_comesTo : ByteArray := prog_2_method_7_code
def yX0_comesTo : MethodName := ⟨RX0, "comesTo", "(I)I"⟩
abbrev cX0_valueOf : ByteArray := prog_2_method_8_code
def yX0_valueOf : MethodName := ⟨RX0, "valueOf", "(I)I"⟩
abbrev cX0_sumFor : ByteArray := prog_2_method_9_code
def yX0_sumFor : MethodName := ⟨RX0, "sumFor", "(I[I)I"⟩
def RX1 : String := "BellHours$Hiding"
def TX1 : u_T := fun k => match k with
  | 0 => ("BellHours$Hiding", "owners", "[I", true)
  | 1 => ("BellHours$Hiding", "looks", "[I", true)
  | 2 => ("BellHours$Hiding", "costs", "[I", true)
  | 3 => ("BellHours$Hiding", "rooms", "[I", true)
  | _ => ("BellHours$Hiding", "moves", "I", false)
def tyX1 : Nat → FieldType := fun k => match k with
  | 0 => .array .int
  | 1 => .array .int
  | 2 => .array .int
  | 3 => .array .int
  | _ => .int
theorem nmX1 : ∀ a, a < 5 → ∀ b, b < 5 → a ≠ b → (TX1 a).2.1 ≠ (TX1 b).2.1 := by decide +kernel
theorem tyX1_ok : ∀ k, k < 5 → parseFieldDescriptor (TX1 k).2.2.1 = some (tyX1 k) := by decide +kernel
abbrev cX1_init : ByteArray := prog_3_method_1_code
def yX1_init : MethodName := ⟨RX1, "<init>", "([I[I)V"⟩
abbrev cX1_seek : ByteArray := prog_3_method_2_code
def yX1_seek : MethodName := ⟨RX1, "seek", "(III)Z"⟩
abbrev cX1_costOf : ByteArray := prog_3_method_3_code
def yX1_costOf : MethodName := ⟨RX1, "costOf", "(IIII)I"⟩
abbrev cX1_bestRoom : ByteArray := prog_3_method_4_code
def yX1_bestRoom : MethodName := ⟨RX1, "bestRoom", "(III)I"⟩
abbrev cX1_costWith : ByteArray := prog_3_method_5_code
def yX1_costWith : MethodName := ⟨RX1, "costWith", "(IIII)I"⟩
def RX2 : String := "BellHours$House"
def TX2 : u_T := fun k => match k with
  | 0 => ("BellHours$House", "owners", "[I", true)
  | 1 => ("BellHours$House", "rooms", "[I", true)
  | 2 => ("BellHours$House", "acts", "[I", true)
  | 3 => ("BellHours$House", "actCounts", "[I", true)
  | _ => ("BellHours$House", "x", "I", false)
def tyX2 : Nat → FieldType := fun k => match k with
  | 0 => .array .int
  | 1 => .array .int
  | 2 => .array .int
  | 3 => .array .int
  | _ => .int
theorem nmX2 : ∀ a, a < 5 → ∀ b, b < 5 → a ≠ b → (TX2 a).2.1 ≠ (TX2 b).2.1 := by decide +kernel
theorem tyX2_ok : ∀ k, k < 5 → parseFieldDescriptor (TX2 k).2.2.1 = some (tyX2 k) := by decide +kernel
abbrev cX2_init : ByteArray := prog_4_method_1_code
def yX2_init : MethodName := ⟨RX2, "<init>", "()V"⟩
abbrev cX2_takeOver : ByteArray := prog_4_method_2_code
def yX2_takeOver : MethodName := ⟨RX2, "takeOver", "(LBellHours$House;)V"⟩
abbrev cX2_addAct : ByteArray := prog_4_method_3_code
def yX2_addAct : MethodName := ⟨RX2, "addAct", "(IIII)V"⟩
abbrev cX2_actAt : ByteArray := prog_4_method_4_code
def yX2_actAt : MethodName := ⟨RX2, "actAt", "(II)I"⟩
abbrev cX2_ownedHours : ByteArray := prog_4_method_5_code
def yX2_ownedHours : MethodName := ⟨RX2, "ownedHours", "()I"⟩
abbrev cX2_hoursIn : ByteArray := prog_4_method_6_code
def yX2_hoursIn : MethodName := ⟨RX2, "hoursIn", "(III)I"⟩
abbrev cX2_exchange : ByteArray := prog_4_method_7_code
def yX2_exchange : MethodName := ⟨RX2, "exchange", "(II)V"⟩
abbrev cX2_drawHour : ByteArray := prog_4_method_8_code
def yX2_drawHour : MethodName := ⟨RX2, "drawHour", "()V"⟩
abbrev cX2_bequeath : ByteArray := prog_4_method_9_code
def yX2_bequeath : MethodName := ⟨RX2, "bequeath", "(I)I"⟩
abbrev cX2_heirOf : ByteArray := prog_4_method_10_code
def yX2_heirOf : MethodName := ⟨RX2, "heirOf", "(II)I"⟩
abbrev cX2_shareOf : ByteArray := prog_4_method_11_code
def yX2_shareOf : MethodName := ⟨RX2, "shareOf", "(IIII)I"⟩
def RX3 : String := "BellHours$Law"
def TX3 : u_T := fun k => match k with
  | 0 => ("BellHours$Law", "clauses", "I", false)
  | 1 => ("BellHours$Law", "size", "I", false)
  | 2 => ("BellHours$Law", "signs", "[C", true)
  | 3 => ("BellHours$Law", "with", "[I", true)
  | 4 => ("BellHours$Law", "numberFrom", "[I", true)
  | 5 => ("BellHours$Law", "testFrom", "[I", true)
  | 6 => ("BellHours$Law", "testTo", "[I", true)
  | 7 => ("BellHours$Law", "ofLetter", "[I", true)
  | 8 => ("BellHours$Law", "letterCounts", "[I", true)
  | _ => ("BellHours$Law", "pile", "[I", true)
def tyX3 : Nat → FieldType := fun k => match k with
  | 0 => .int
  | 1 => .int
  | 2 => .array .char
  | 3 => .array .int
  | 4 => .array .int
  | 5 => .array .int
  | 6 => .array .int
  | 7 => .array .int
  | 8 => .array .int
  | _ => .array .int
theorem nmX3 : ∀ a, a < 10 → ∀ b, b < 10 → a ≠ b → (TX3 a).2.1 ≠ (TX3 b).2.1 := by decide +kernel
theorem tyX3_ok : ∀ k, k < 10 → parseFieldDescriptor (TX3 k).2.2.1 = some (tyX3 k) := by decide +kernel
abbrev cX3_init : ByteArray := prog_5_method_1_code
def yX3_init : MethodName := ⟨RX3, "<init>", "()V"⟩
abbrev cX3_clear : ByteArray := prog_5_method_2_code
def yX3_clear : MethodName := ⟨RX3, "clear", "()V"⟩
abbrev cX3_takeOver : ByteArray := prog_5_method_3_code
def yX3_takeOver : MethodName := ⟨RX3, "takeOver", "(LBellHours$Law;)V"⟩
abbrev cX3_put : ByteArray := prog_5_method_4_code
def yX3_put : MethodName := ⟨RX3, "put", "(CI)V"⟩
abbrev cX3_passFrom : ByteArray := prog_5_method_5_code
def yX3_passFrom : MethodName := ⟨RX3, "passFrom", "(I)V"⟩
abbrev cX3_addClause : ByteArray := prog_5_method_6_code
def yX3_addClause : MethodName := ⟨RX3, "addClause", "(III)V"⟩
abbrev cX3_asks : ByteArray := prog_5_method_7_code
def yX3_asks : MethodName := ⟨RX3, "asks", "(I[I)I"⟩
abbrev cX3_reckon : ByteArray := prog_5_method_8_code
def yX3_reckon : MethodName := ⟨RX3, "reckon", "(II[I)I"⟩
abbrev cX3_isDivision : ByteArray := prog_5_method_9_code
def yX3_isDivision : MethodName := ⟨RX3, "isDivision", "(C)Z"⟩
abbrev cX3_joined : ByteArray := prog_5_method_10_code
def yX3_joined : MethodName := ⟨RX3, "joined", "(CII)I"⟩
def RX4 : String := "BellHours$Orders"
def TX4 : u_T := fun k => match k with
  | 0 => ("BellHours$Orders", "house", "LBellHours$House;", true)
  | 1 => ("BellHours$Orders", "law", "LBellHours$Law;", true)
  | 2 => ("BellHours$Orders", "scene", "LBellHours$Scene;", true)
  | 3 => ("BellHours$Orders", "row", "[I", true)
  | 4 => ("BellHours$Orders", "best", "[I", true)
  | _ => ("BellHours$Orders", "most", "I", false)
def tyX4 : Nat → FieldType := fun k => match k with
  | 0 => .object "BellHours$House"
  | 1 => .object "BellHours$Law"
  | 2 => .object "BellHours$Scene"
  | 3 => .array .int
  | 4 => .array .int
  | _ => .int
theorem nmX4 : ∀ a, a < 6 → ∀ b, b < 6 → a ≠ b → (TX4 a).2.1 ≠ (TX4 b).2.1 := by decide +kernel
theorem tyX4_ok : ∀ k, k < 6 → parseFieldDescriptor (TX4 k).2.2.1 = some (tyX4 k) := by decide +kernel
abbrev cX4_init : ByteArray := prog_6_method_1_code
def yX4_init : MethodName := ⟨RX4, "<init>", "(LBellHours$House;LBellHours$Law;LBellHours$Scene;)V"⟩
abbrev cX4_seek : ByteArray := prog_6_method_2_code
def yX4_seek : MethodName := ⟨RX4, "seek", "(ILBellHours$Day;)V"⟩
abbrev cX4_tryRow : ByteArray := prog_6_method_3_code
def yX4_tryRow : MethodName := ⟨RX4, "tryRow", "(IILBellHours$Day;)I"⟩
abbrev cX4_nextRow : ByteArray := prog_6_method_4_code
def yX4_nextRow : MethodName := ⟨RX4, "nextRow", "(I)Z"⟩
abbrev cX4_exchangeAt : ByteArray := prog_6_method_5_code
def yX4_exchangeAt : MethodName := ⟨RX4, "exchangeAt", "(II)V"⟩
def RX5 : String := "BellHours$Reader"
def TX5 : u_T := fun k => match k with
  | 0 => ("BellHours$Reader", "text", "[I", true)
  | 1 => ("BellHours$Reader", "law", "LBellHours$Law;", true)
  | 2 => ("BellHours$Reader", "size", "I", false)
  | 3 => ("BellHours$Reader", "at", "I", false)
  | 4 => ("BellHours$Reader", "sign", "C", false)
  | _ => ("BellHours$Reader", "fault", "I", false)
def tyX5 : Nat → FieldType := fun k => match k with
  | 0 => .array .int
  | 1 => .object "BellHours$Law"
  | 2 => .int
  | 3 => .int
  | 4 => .char
  | _ => .int
theorem nmX5 : ∀ a, a < 6 → ∀ b, b < 6 → a ≠ b → (TX5 a).2.1 ≠ (TX5 b).2.1 := by decide +kernel
theorem tyX5_ok : ∀ k, k < 6 → parseFieldDescriptor (TX5 k).2.2.1 = some (tyX5 k) := by decide +kernel
abbrev cX5_init : ByteArray := prog_7_method_1_code
def yX5_init : MethodName := ⟨RX5, "<init>", "([ILBellHours$Law;)V"⟩
abbrev cX5_read : ByteArray := prog_7_method_2_code
def yX5_read : MethodName := ⟨RX5, "read", "(I)I"⟩
abbrev cX5_next : ByteArray := prog_7_method_3_code
def yX5_next : MethodName := ⟨RX5, "next", "()V"⟩
abbrev cX5_fails : ByteArray := prog_7_method_4_code
def yX5_fails : MethodName := ⟨RX5, "fails", "(I)Z"⟩
abbrev cX5_passes : ByteArray := prog_7_method_5_code
def yX5_passes : MethodName := ⟨RX5, "passes", "(C)Z"⟩
abbrev cX5_opens : ByteArray := prog_7_method_6_code
def yX5_opens : MethodName := ⟨RX5, "opens", "(CI)Z"⟩
abbrev cX5_readClause : ByteArray := prog_7_method_7_code
def yX5_readClause : MethodName := ⟨RX5, "readClause", "(I)Z"⟩
abbrev cX5_readBracket : ByteArray := prog_7_method_8_code
def yX5_readBracket : MethodName := ⟨RX5, "readBracket", "(I)Z"⟩
abbrev cX5_readCondition : ByteArray := prog_7_method_9_code
def yX5_readCondition : MethodName := ⟨RX5, "readCondition", "(I)Z"⟩
abbrev cX5_readPart : ByteArray := prog_7_method_10_code
def yX5_readPart : MethodName := ⟨RX5, "readPart", "(I)Z"⟩
abbrev cX5_readPiece : ByteArray := prog_7_method_11_code
def yX5_readPiece : MethodName := ⟨RX5, "readPiece", "(I)Z"⟩
abbrev cX5_comparison : ByteArray := prog_7_method_12_code
def yX5_comparison : MethodName := ⟨RX5, "comparison", "()Z"⟩
abbrev cX5_readSum : ByteArray := prog_7_method_13_code
def yX5_readSum : MethodName := ⟨RX5, "readSum", "(I)Z"⟩
abbrev cX5_readProduct : ByteArray := prog_7_method_14_code
def yX5_readProduct : MethodName := ⟨RX5, "readProduct", "(I)Z"⟩
abbrev cX5_readFactor : ByteArray := prog_7_method_15_code
def yX5_readFactor : MethodName := ⟨RX5, "readFactor", "(I)Z"⟩
abbrev cX5_readNumber : ByteArray := prog_7_method_16_code
def yX5_readNumber : MethodName := ⟨RX5, "readNumber", "()Z"⟩
def RX6 : String := "BellHours$Scene"
def TX6 : u_T := fun k => match k with
  | 0 => ("BellHours$Scene", "cells", "[I", true)
  | _ => ("BellHours$Scene", "seen", "[I", true)
def tyX6 : Nat → FieldType := fun k => match k with
  | 0 => .array .int
  | _ => .array .int
theorem nmX6 : ∀ a, a < 2 → ∀ b, b < 2 → a ≠ b → (TX6 a).2.1 ≠ (TX6 b).2.1 := by decide +kernel
theorem tyX6_ok : ∀ k, k < 2 → parseFieldDescriptor (TX6 k).2.2.1 = some (tyX6 k) := by decide +kernel
abbrev cX6_init : ByteArray := prog_8_method_1_code
def yX6_init : MethodName := ⟨RX6, "<init>", "()V"⟩
abbrev cX6_enter : ByteArray := prog_8_method_2_code
def yX6_enter : MethodName := ⟨RX6, "enter", "(ILBellHours$Day;)V"⟩
abbrev cX6_look : ByteArray := prog_8_method_3_code
def yX6_look : MethodName := ⟨RX6, "look", "(III)V"⟩
abbrev cX6_perform : ByteArray := prog_8_method_4_code
def yX6_perform : MethodName := ⟨RX6, "perform", "(LBellHours$Law;[II)I"⟩
abbrev cX6_change : ByteArray := prog_8_method_5_code
def yX6_change : MethodName := ⟨RX6, "change", "(III)V"⟩
abbrev cX6_finesOfAll : ByteArray := prog_8_method_6_code
def yX6_finesOfAll : MethodName := ⟨RX6, "finesOfAll", "(LBellHours$Law;)I"⟩
abbrev cX6_cool : ByteArray := prog_8_method_7_code
def yX6_cool : MethodName := ⟨RX6, "cool", "(LBellHours$Law;)V"⟩
def RX7 : String := "BellHours$Tape"
def TX7 : u_T := fun k => match k with
  | 0 => ("BellHours$Tape", "bytes", "[I", true)
  | _ => ("BellHours$Tape", "size", "I", false)
def tyX7 : Nat → FieldType := fun k => match k with
  | 0 => .array .int
  | _ => .int
theorem nmX7 : ∀ a, a < 2 → ∀ b, b < 2 → a ≠ b → (TX7 a).2.1 ≠ (TX7 b).2.1 := by decide +kernel
theorem tyX7_ok : ∀ k, k < 2 → parseFieldDescriptor (TX7 k).2.2.1 = some (tyX7 k) := by decide +kernel
abbrev cX7_init : ByteArray := prog_9_method_1_code
def yX7_init : MethodName := ⟨RX7, "<init>", "()V"⟩
abbrev cX7_add : ByteArray := prog_9_method_2_code
def yX7_add : MethodName := ⟨RX7, "add", "(I)V"⟩
abbrev cX7_numberAt : ByteArray := prog_9_method_3_code
def yX7_numberAt : MethodName := ⟨RX7, "numberAt", "(I)I"⟩
def RX8 : String := "BellHours$Trade"
def TX8 : u_T := fun k => match k with
  | 0 => ("BellHours$Trade", "day", "LBellHours$Day;", true)
  | 1 => ("BellHours$Trade", "trial", "LBellHours$Day;", true)
  | 2 => ("BellHours$Trade", "law", "LBellHours$Law;", true)
  | 3 => ("BellHours$Trade", "stands", "Z", false)
  | 4 => ("BellHours$Trade", "one", "I", false)
  | 5 => ("BellHours$Trade", "other", "I", false)
  | _ => ("BellHours$Trade", "together", "I", false)
def tyX8 : Nat → FieldType := fun k => match k with
  | 0 => .object "BellHours$Day"
  | 1 => .object "BellHours$Day"
  | 2 => .object "BellHours$Law"
  | 3 => .boolean
  | 4 => .int
  | 5 => .int
  | _ => .int
theorem nmX8 : ∀ a, a < 7 → ∀ b, b < 7 → a ≠ b → (TX8 a).2.1 ≠ (TX8 b).2.1 := by decide +kernel
theorem tyX8_ok : ∀ k, k < 7 → parseFieldDescriptor (TX8 k).2.2.1 = some (tyX8 k) := by decide +kernel
abbrev cX8_init : ByteArray := prog_10_method_1_code
def yX8_init : MethodName := ⟨RX8, "<init>", "(LBellHours$Day;LBellHours$Day;LBellHours$Law;)V"⟩
abbrev cX8_priceOf : ByteArray := prog_10_method_2_code
def yX8_priceOf : MethodName := ⟨RX8, "priceOf", "(I)I"⟩
abbrev cX8_worthOfAhead : ByteArray := prog_10_method_3_code
def yX8_worthOfAhead : MethodName := ⟨RX8, "worthOfAhead", "(I)I"⟩
abbrev cX8_gainBySwap : ByteArray := prog_10_method_4_code
def yX8_gainBySwap : MethodName := ⟨RX8, "gainBySwap", "(III)I"⟩
abbrev cX8_gainOf : ByteArray := prog_10_method_5_code
def yX8_gainOf : MethodName := ⟨RX8, "gainOf", "(I)I"⟩
abbrev cX8_beginSwapped : ByteArray := prog_10_method_6_code
def yX8_beginSwapped : MethodName := ⟨RX8, "beginSwapped", "(II)I"⟩
abbrev cX8_firstTouched : ByteArray := prog_10_method_7_code
def yX8_firstTouched : MethodName := ⟨RX8, "firstTouched", "(I)I"⟩
abbrev cX8_seek : ByteArray := prog_10_method_8_code
def yX8_seek : MethodName := ⟨RX8, "seek", "()Z"⟩
abbrev cX8_areOfTwo : ByteArray := prog_10_method_9_code
def yX8_areOfTwo : MethodName := ⟨RX8, "areOfTwo", "(II)Z"⟩
abbrev cX8_weigh : ByteArray := prog_10_method_10_code
def yX8_weigh : MethodName := ⟨RX8, "weigh", "(II)V"⟩
def RX9 : String := "BellHours$Vase"
def TX9 : u_T := fun k => match k with
  | 0 => ("BellHours$Vase", "owners", "[I", true)
  | _ => ("BellHours$Vase", "words", "[I", true)
def tyX9 : Nat → FieldType := fun k => match k with
  | 0 => .array .int
  | _ => .array .int
theorem nmX9 : ∀ a, a < 2 → ∀ b, b < 2 → a ≠ b → (TX9 a).2.1 ≠ (TX9 b).2.1 := by decide +kernel
theorem tyX9_ok : ∀ k, k < 2 → parseFieldDescriptor (TX9 k).2.2.1 = some (tyX9 k) := by decide +kernel
abbrev cX9_init : ByteArray := prog_11_method_1_code
def yX9_init : MethodName := ⟨RX9, "<init>", "([I[I)V"⟩
abbrev cX9_hoursThatHold : ByteArray := prog_11_method_2_code
def yX9_hoursThatHold : MethodName := ⟨RX9, "hoursThatHold", "(I)I"⟩
abbrev cX9_liarsIf : ByteArray := prog_11_method_3_code
def yX9_liarsIf : MethodName := ⟨RX9, "liarsIf", "(I)I"⟩
abbrev cX9_isUntrue : ByteArray := prog_11_method_4_code
def yX9_isUntrue : MethodName := ⟨RX9, "isUntrue", "(II)Z"⟩
abbrev cX9_onlyOwnerOf : ByteArray := prog_11_method_5_code
def yX9_onlyOwnerOf : MethodName := ⟨RX9, "onlyOwnerOf", "(I)I"⟩
def RX10 : String := "BellHours"
def TX10 : u_T := fun k => match k with
  | 0 => ("BellHours", "house", "LBellHours$House;", true)
  | 1 => ("BellHours", "kept", "LBellHours$House;", true)
  | 2 => ("BellHours", "wasKept", "Z", false)
  | 3 => ("BellHours", "tape", "LBellHours$Tape;", true)
  | 4 => ("BellHours", "laws", "[LBellHours$Law;", true)
  | 5 => ("BellHours", "spare", "LBellHours$Law;", true)
  | 6 => ("BellHours", "reader", "LBellHours$Reader;", true)
  | 7 => ("BellHours", "looks", "[I", true)
  | 8 => ("BellHours", "words", "[I", true)
  | 9 => ("BellHours", "scene", "LBellHours$Scene;", true)
  | 10 => ("BellHours", "day", "LBellHours$Day;", true)
  | 11 => ("BellHours", "trial", "LBellHours$Day;", true)
  | 12 => ("BellHours", "dayStands", "Z", false)
  | 13 => ("BellHours", "trade", "LBellHours$Trade;", true)
  | 14 => ("BellHours", "orders", "LBellHours$Orders;", true)
  | 15 => ("BellHours", "hiding", "LBellHours$Hiding;", true)
  | _ => ("BellHours", "vase", "LBellHours$Vase;", true)
def tyX10 : Nat → FieldType := fun k => match k with
  | 0 => .object "BellHours$House"
  | 1 => .object "BellHours$House"
  | 2 => .boolean
  | 3 => .object "BellHours$Tape"
  | 4 => .array (.object "BellHours$Law")
  | 5 => .object "BellHours$Law"
  | 6 => .object "BellHours$Reader"
  | 7 => .array .int
  | 8 => .array .int
  | 9 => .object "BellHours$Scene"
  | 10 => .object "BellHours$Day"
  | 11 => .object "BellHours$Day"
  | 12 => .boolean
  | 13 => .object "BellHours$Trade"
  | 14 => .object "BellHours$Orders"
  | 15 => .object "BellHours$Hiding"
  | _ => .object "BellHours$Vase"
theorem nmX10 : ∀ a, a < 17 → ∀ b, b < 17 → a ≠ b → (TX10 a).2.1 ≠ (TX10 b).2.1 := by decide +kernel
theorem tyX10_ok : ∀ k, k < 17 → parseFieldDescriptor (TX10 k).2.2.1 = some (tyX10 k) := by decide +kernel
abbrev cX10_init : ByteArray := prog_1_method_1_code
def yX10_init : MethodName := ⟨RX10, "<init>", "()V"⟩
abbrev cX10_own : ByteArray := prog_1_method_2_code
def yX10_own : MethodName := ⟨RX10, "own", "(II)Z"⟩
abbrev cX10_room : ByteArray := prog_1_method_3_code
def yX10_room : MethodName := ⟨RX10, "room", "(IIII)Z"⟩
abbrev cX10_feed : ByteArray := prog_1_method_4_code
def yX10_feed : MethodName := ⟨RX10, "feed", "(IIIII)I"⟩
abbrev cX10_law : ByteArray := prog_1_method_5_code
def yX10_law : MethodName := ⟨RX10, "law", "(II)I"⟩
abbrev cX10_act : ByteArray := prog_1_method_6_code
def yX10_act : MethodName := ⟨RX10, "act", "(IIII)I"⟩
abbrev cX10_noActs : ByteArray := prog_1_method_7_code
def yX10_noActs : MethodName := ⟨RX10, "noActs", "(I)I"⟩
abbrev cX10_found : ByteArray := prog_1_method_8_code
def yX10_found : MethodName := ⟨RX10, "found", "(III)I"⟩
abbrev cX10_hourIs : ByteArray := prog_1_method_9_code
def yX10_hourIs : MethodName := ⟨RX10, "hourIs", "(II)I"⟩
abbrev cX10_value : ByteArray := prog_1_method_10_code
def yX10_value : MethodName := ⟨RX10, "value", "(II)I"⟩
abbrev cX10_bestOrder : ByteArray := prog_1_method_11_code
def yX10_bestOrder : MethodName := ⟨RX10, "bestOrder", "(II)I"⟩
abbrev cX10_price : ByteArray := prog_1_method_12_code
def yX10_price : MethodName := ⟨RX10, "price", "(I)I"⟩
abbrev cX10_neighbour : ByteArray := prog_1_method_13_code
def yX10_neighbour : MethodName := ⟨RX10, "neighbour", "(I)I"⟩
abbrev cX10_gain : ByteArray := prog_1_method_14_code
def yX10_gain : MethodName := ⟨RX10, "gain", "(III)I"⟩
abbrev cX10_swap : ByteArray := prog_1_method_15_code
def yX10_swap : MethodName := ⟨RX10, "swap", "(II)Z"⟩
abbrev cX10_bestSwap : ByteArray := prog_1_method_16_code
def yX10_bestSwap : MethodName := ⟨RX10, "bestSwap", "(I)I"⟩
abbrev cX10_tillNone : ByteArray := prog_1_method_17_code
def yX10_tillNone : MethodName := ⟨RX10, "tillNone", "()I"⟩
abbrev cX10_finesBy : ByteArray := prog_1_method_18_code
def yX10_finesBy : MethodName := ⟨RX10, "finesBy", "(I)I"⟩
abbrev cX10_touching : ByteArray := prog_1_method_19_code
def yX10_touching : MethodName := ⟨RX10, "touching", "(II)I"⟩
abbrev cX10_searches : ByteArray := prog_1_method_20_code
def yX10_searches : MethodName := ⟨RX10, "searches", "(II)Z"⟩
abbrev cX10_hidden : ByteArray := prog_1_method_21_code
def yX10_hidden : MethodName := ⟨RX10, "hidden", "(IIII)I"⟩
abbrev cX10_says : ByteArray := prog_1_method_22_code
def yX10_says : MethodName := ⟨RX10, "says", "(II)Z"⟩
abbrev cX10_holds : ByteArray := prog_1_method_23_code
def yX10_holds : MethodName := ⟨RX10, "holds", "(I)I"⟩
abbrev cX10_guilty : ByteArray := prog_1_method_24_code
def yX10_guilty : MethodName := ⟨RX10, "guilty", "(I)I"⟩
abbrev cX10_guest : ByteArray := prog_1_method_25_code
def yX10_guest : MethodName := ⟨RX10, "guest", "(IIII)I"⟩
abbrev cX10_dies : ByteArray := prog_1_method_26_code
def yX10_dies : MethodName := ⟨RX10, "dies", "(I)I"⟩
abbrev cX10_seed : ByteArray := prog_1_method_27_code
def yX10_seed : MethodName := ⟨RX10, "seed", "(I)Z"⟩
abbrev cX10_draw : ByteArray := prog_1_method_28_code
def yX10_draw : MethodName := ⟨RX10, "draw", "(I)I"⟩
abbrev cX10_keep : ByteArray := prog_1_method_29_code
def yX10_keep : MethodName := ⟨RX10, "keep", "()I"⟩
abbrev cX10_undo : ByteArray := prog_1_method_30_code
def yX10_undo : MethodName := ⟨RX10, "undo", "()Z"⟩
abbrev cX10_check : ByteArray := prog_1_method_31_code
def yX10_check : MethodName := ⟨RX10, "check", "(II)I"⟩
abbrev cX10_count : ByteArray := prog_1_method_32_code
def yX10_count : MethodName := ⟨RX10, "count", "(I)I"⟩
abbrev cX10_firstWrongStore : ByteArray := prog_1_method_33_code
def yX10_firstWrongStore : MethodName := ⟨RX10, "firstWrongStore", "(II)I"⟩
abbrev cX10_forgetDay : ByteArray := prog_1_method_34_code
def yX10_forgetDay : MethodName := ⟨RX10, "forgetDay", "()V"⟩
abbrev cX10_runDay : ByteArray := prog_1_method_35_code
def yX10_runDay : MethodName := ⟨RX10, "runDay", "()V"⟩
abbrev cX10_isOwned : ByteArray := prog_1_method_36_code
def yX10_isOwned : MethodName := ⟨RX10, "isOwned", "(I)Z"⟩
abbrev cX10_isHour : ByteArray := prog_1_method_37_code
def yX10_isHour : MethodName := ⟨RX10, "isHour", "(I)Z"⟩
abbrev cX10_isOwner : ByteArray := prog_1_method_38_code
def yX10_isOwner : MethodName := ⟨RX10, "isOwner", "(I)Z"⟩
abbrev cX10_isRoom : ByteArray := prog_1_method_39_code
def yX10_isRoom : MethodName := ⟨RX10, "isRoom", "(I)Z"⟩
abbrev cX10_isLaw : ByteArray := prog_1_method_40_code
def yX10_isLaw : MethodName := ⟨RX10, "isLaw", "(I)Z"⟩
abbrev cX10_fitsRoom : ByteArray := prog_1_method_41_code
def yX10_fitsRoom : MethodName := ⟨RX10, "fitsRoom", "(I)Z"⟩
abbrev cX10_isStay : ByteArray := prog_1_method_42_code
def yX10_isStay : MethodName := ⟨RX10, "isStay", "(II)Z"⟩
def RX11 : String := "BellHoursModel"
def TX11 : u_T := fun k => match k with
  | 0 => ("BellHoursModel", "x0", "I", false)
  | 1 => ("BellHoursModel", "ownerOf", "[I", true)
  | 2 => ("BellHoursModel", "wordOf", "[I", true)
  | 3 => ("BellHoursModel", "storeOf", "[I", true)
  | 4 => ("BellHoursModel", "dirtOf", "[I", true)
  | 5 => ("BellHoursModel", "heatOf", "[I", true)
  | 6 => ("BellHoursModel", "actMany", "[I", true)
  | 7 => ("BellHoursModel", "actKind", "[I", true)
  | 8 => ("BellHoursModel", "actRoom", "[I", true)
  | 9 => ("BellHoursModel", "actAmount", "[I", true)
  | 10 => ("BellHoursModel", "looksInto", "[I", true)
  | 11 => ("BellHoursModel", "tape", "[B", true)
  | 12 => ("BellHoursModel", "taped", "I", false)
  | 13 => ("BellHoursModel", "place0", "I", false)
  | 14 => ("BellHoursModel", "length0", "I", false)
  | 15 => ("BellHoursModel", "fault", "I", false)
  | 16 => ("BellHoursModel", "open", "I", false)
  | 17 => ("BellHoursModel", "codeMany", "I", false)
  | 18 => ("BellHoursModel", "waiting", "I", false)
  | 19 => ("BellHoursModel", "saidMany", "I", false)
  | 20 => ("BellHoursModel", "number0", "I", false)
  | 21 => ("BellHoursModel", "said", "[I", true)
  | 22 => ("BellHoursModel", "waits", "[I", true)
  | 23 => ("BellHoursModel", "saidLetter", "[I", true)
  | 24 => ("BellHoursModel", "saidFrom", "[I", true)
  | 25 => ("BellHoursModel", "saidHalf", "[I", true)
  | 26 => ("BellHoursModel", "saidTo", "[I", true)
  | 27 => ("BellHoursModel", "codes", "[I", true)
  | 28 => ("BellHoursModel", "clauses", "[I", true)
  | 29 => ("BellHoursModel", "clauseOf", "[I", true)
  | 30 => ("BellHoursModel", "codeFrom", "[I", true)
  | 31 => ("BellHoursModel", "codeHalf", "[I", true)
  | 32 => ("BellHoursModel", "codeTo", "[I", true)
  | 33 => ("BellHoursModel", "stack", "[I", true)
  | 34 => ("BellHoursModel", "facts", "[I", true)
  | 35 => ("BellHoursModel", "storeNow", "[I", true)
  | 36 => ("BellHoursModel", "dirtNow", "[I", true)
  | 37 => ("BellHoursModel", "heatNow", "[I", true)
  | 38 => ("BellHoursModel", "foundStore", "[I", true)
  | 39 => ("BellHoursModel", "foundDirt", "[I", true)
  | 40 => ("BellHoursModel", "foundHeat", "[I", true)
  | 41 => ("BellHoursModel", "worthIn", "[I", true)
  | 42 => ("BellHoursModel", "fineIn", "[I", true)
  | 43 => ("BellHoursModel", "undoneIn", "[I", true)
  | 44 => ("BellHoursModel", "firstUndone", "[I", true)
  | 45 => ("BellHoursModel", "orderNow", "[I", true)
  | 46 => ("BellHoursModel", "bestRow", "[I", true)
  | 47 => ("BellHoursModel", "gain0", "I", false)
  | 48 => ("BellHoursModel", "gain1", "I", false)
  | 49 => ("BellHoursModel", "valueNow", "[I", true)
  | 50 => ("BellHoursModel", "swapA", "I", false)
  | 51 => ("BellHoursModel", "swapB", "I", false)
  | 52 => ("BellHoursModel", "swapMost", "I", false)
  | 53 => ("BellHoursModel", "movesFrom", "[I", true)
  | 54 => ("BellHoursModel", "ownerThen", "[I", true)
  | 55 => ("BellHoursModel", "isKept", "Z", false)
  | 56 => ("BellHoursModel", "keptX", "I", false)
  | 57 => ("BellHoursModel", "keptOwner", "[I", true)
  | 58 => ("BellHoursModel", "keptStore", "[I", true)
  | 59 => ("BellHoursModel", "keptDirt", "[I", true)
  | 60 => ("BellHoursModel", "keptHeat", "[I", true)
  | 61 => ("BellHoursModel", "keptMany", "[I", true)
  | 62 => ("BellHoursModel", "keptKind", "[I", true)
  | 63 => ("BellHoursModel", "keptRoom", "[I", true)
  | _ => ("BellHoursModel", "keptAmount", "[I", true)
def tyX11 : Nat → FieldType := fun k => match k with
  | 0 => .int
  | 1 => .array .int
  | 2 => .array .int
  | 3 => .array .int
  | 4 => .array .int
  | 5 => .array .int
  | 6 => .array .int
  | 7 => .array .int
  | 8 => .array .int
  | 9 => .array .int
  | 10 => .array .int
  | 11 => .array .byte
  | 12 => .int
  | 13 => .int
  | 14 => .int
  | 15 => .int
  | 16 => .int
  | 17 => .int
  | 18 => .int
  | 19 => .int
  | 20 => .int
  | 21 => .array .int
  | 22 => .array .int
  | 23 => .array .int
  | 24 => .array .int
  | 25 => .array .int
  | 26 => .array .int
  | 27 => .array .int
  | 28 => .array .int
  | 29 => .array .int
  | 30 => .array .int
  | 31 => .array .int
  | 32 => .array .int
  | 33 => .array .int
  | 34 => .array .int
  | 35 => .array .int
  | 36 => .array .int
  | 37 => .array .int
  | 38 => .array .int
  | 39 => .array .int
  | 40 => .array .int
  | 41 => .array .int
  | 42 => .array .int
  | 43 => .array .int
  | 44 => .array .int
  | 45 => .array .int
  | 46 => .array .int
  | 47 => .int
  | 48 => .int
  | 49 => .array .int
  | 50 => .int
  | 51 => .int
  | 52 => .int
  | 53 => .array .int
  | 54 => .array .int
  | 55 => .boolean
  | 56 => .int
  | 57 => .array .int
  | 58 => .array .int
  | 59 => .array .int
  | 60 => .array .int
  | 61 => .array .int
  | 62 => .array .int
  | 63 => .array .int
  | _ => .array .int
theorem nmX11 : ∀ a, a < 65 → ∀ b, b < 65 → a ≠ b → (TX11 a).2.1 ≠ (TX11 b).2.1 := by decide +kernel
theorem tyX11_ok : ∀ k, k < 65 → parseFieldDescriptor (TX11 k).2.2.1 = some (tyX11 k) := by decide +kernel
abbrev cX11_init : ByteArray := prog_13_method_1_code
def yX11_init : MethodName := ⟨RX11, "<init>", "()V"⟩
abbrev cX11_in : ByteArray := prog_13_method_2_code
def yX11_in : MethodName := ⟨RX11, "in", "(III)Z"⟩
abbrev cX11_isHour : ByteArray := prog_13_method_3_code
def yX11_isHour : MethodName := ⟨RX11, "isHour", "(I)Z"⟩
abbrev cX11_isOwner : ByteArray := prog_13_method_4_code
def yX11_isOwner : MethodName := ⟨RX11, "isOwner", "(I)Z"⟩
abbrev cX11_isRoom : ByteArray := prog_13_method_5_code
def yX11_isRoom : MethodName := ⟨RX11, "isRoom", "(I)Z"⟩
abbrev cX11_own : ByteArray := prog_13_method_6_code
def yX11_own : MethodName := ⟨RX11, "own", "(II)Z"⟩
abbrev cX11_room : ByteArray := prog_13_method_7_code
def yX11_room : MethodName := ⟨RX11, "room", "(IIII)Z"⟩
abbrev cX11_act : ByteArray := prog_13_method_8_code
def yX11_act : MethodName := ⟨RX11, "act", "(IIII)I"⟩
abbrev cX11_noActs : ByteArray := prog_13_method_9_code
def yX11_noActs : MethodName := ⟨RX11, "noActs", "(I)I"⟩
abbrev cX11_types : ByteArray := prog_13_method_10_code
def yX11_types : MethodName := ⟨RX11, "types", "(I)V"⟩
abbrev cX11_feed : ByteArray := prog_13_method_11_code
def yX11_feed : MethodName := ⟨RX11, "feed", "(IIIII)I"⟩
abbrev cX11_here : ByteArray := prog_13_method_12_code
def yX11_here : MethodName := ⟨RX11, "here", "()I"⟩
abbrev cX11_isDigit : ByteArray := prog_13_method_13_code
def yX11_isDigit : MethodName := ⟨RX11, "isDigit", "()Z"⟩
abbrev cX11_wrongAt : ByteArray := prog_13_method_14_code
def yX11_wrongAt : MethodName := ⟨RX11, "wrongAt", "(II)Z"⟩
abbrev cX11_takes : ByteArray := prog_13_method_15_code
def yX11_takes : MethodName := ⟨RX11, "takes", "(I)Z"⟩
abbrev cX11_readsNumber : ByteArray := prog_13_method_16_code
def yX11_readsNumber : MethodName := ⟨RX11, "readsNumber", "()Z"⟩
abbrev cX11_notes : ByteArray := prog_13_method_17_code
def yX11_notes : MethodName := ⟨RX11, "notes", "(II)V"⟩
abbrev cX11_opens : ByteArray := prog_13_method_18_code
def yX11_opens : MethodName := ⟨RX11, "opens", "(I)Z"⟩
abbrev cX11_top : ByteArray := prog_13_method_19_code
def yX11_top : MethodName := ⟨RX11, "top", "()I"⟩
abbrev cX11_factOf : ByteArray := prog_13_method_20_code
def yX11_factOf : MethodName := ⟨RX11, "factOf", "(I)I"⟩
abbrev cX11_sumSign : ByteArray := prog_13_method_21_code
def yX11_sumSign : MethodName := ⟨RX11, "sumSign", "(I)I"⟩
abbrev cX11_closesSums : ByteArray := prog_13_method_22_code
def yX11_closesSums : MethodName := ⟨RX11, "closesSums", "(Z)V"⟩
abbrev cX11_readsFactor : ByteArray := prog_13_method_23_code
def yX11_readsFactor : MethodName := ⟨RX11, "readsFactor", "()Z"⟩
abbrev cX11_hasOpenSum : ByteArray := prog_13_method_24_code
def yX11_hasOpenSum : MethodName := ⟨RX11, "hasOpenSum", "(I)Z"⟩
abbrev cX11_readsSum : ByteArray := prog_13_method_25_code
def yX11_readsSum : MethodName := ⟨RX11, "readsSum", "()Z"⟩
abbrev cX11_endsPiece : ByteArray := prog_13_method_26_code
def yX11_endsPiece : MethodName := ⟨RX11, "endsPiece", "()V"⟩
abbrev cX11_lands : ByteArray := prog_13_method_27_code
def yX11_lands : MethodName := ⟨RX11, "lands", "(Z)V"⟩
abbrev cX11_jumps : ByteArray := prog_13_method_28_code
def yX11_jumps : MethodName := ⟨RX11, "jumps", "(I)V"⟩
abbrev cX11_readsCompared : ByteArray := prog_13_method_29_code
def yX11_readsCompared : MethodName := ⟨RX11, "readsCompared", "()Z"⟩
abbrev cX11_readsCondition : ByteArray := prog_13_method_30_code
def yX11_readsCondition : MethodName := ⟨RX11, "readsCondition", "()Z"⟩
abbrev cX11_isClause : ByteArray := prog_13_method_31_code
def yX11_isClause : MethodName := ⟨RX11, "isClause", "(I)Z"⟩
abbrev cX11_readsClause : ByteArray := prog_13_method_32_code
def yX11_readsClause : MethodName := ⟨RX11, "readsClause", "()Z"⟩
abbrev cX11_law : ByteArray := prog_13_method_33_code
def yX11_law : MethodName := ⟨RX11, "law", "(II)I"⟩
abbrev cX11_reckon : ByteArray := prog_13_method_34_code
def yX11_reckon : MethodName := ⟨RX11, "reckon", "(III)I"⟩
abbrev cX11_comesTo : ByteArray := prog_13_method_35_code
def yX11_comesTo : MethodName := ⟨RX11, "comesTo", "(II)I"⟩
abbrev cX11_byLaw : ByteArray := prog_13_method_36_code
def yX11_byLaw : MethodName := ⟨RX11, "byLaw", "(IIII)I"⟩
abbrev cX11_isBarred : ByteArray := prog_13_method_37_code
def yX11_isBarred : MethodName := ⟨RX11, "isBarred", "()Z"⟩
abbrev cX11_feels : ByteArray := prog_13_method_38_code
def yX11_feels : MethodName := ⟨RX11, "feels", "(II)V"⟩
abbrev cX11_held : ByteArray := prog_13_method_39_code
def yX11_held : MethodName := ⟨RX11, "held", "(I)I"⟩
abbrev cX11_acts : ByteArray := prog_13_method_40_code
def yX11_acts : MethodName := ⟨RX11, "acts", "(II)I"⟩
abbrev cX11_actsAll : ByteArray := prog_13_method_41_code
def yX11_actsAll : MethodName := ⟨RX11, "actsAll", "(I)I"⟩
abbrev cX11_finesOf : ByteArray := prog_13_method_42_code
def yX11_finesOf : MethodName := ⟨RX11, "finesOf", "(II)I"⟩
abbrev cX11_findsAt : ByteArray := prog_13_method_43_code
def yX11_findsAt : MethodName := ⟨RX11, "findsAt", "(I)V"⟩
abbrev cX11_cools : ByteArray := prog_13_method_44_code
def yX11_cools : MethodName := ⟨RX11, "cools", "(I)V"⟩
abbrev cX11_runs : ByteArray := prog_13_method_45_code
def yX11_runs : MethodName := ⟨RX11, "runs", "(I)V"⟩
abbrev cX11_found : ByteArray := prog_13_method_46_code
def yX11_found : MethodName := ⟨RX11, "found", "(III)I"⟩
abbrev cX11_hourIs : ByteArray := prog_13_method_47_code
def yX11_hourIs : MethodName := ⟨RX11, "hourIs", "(II)I"⟩
abbrev cX11_sumOf : ByteArray := prog_13_method_48_code
def yX11_sumOf : MethodName := ⟨RX11, "sumOf", "(II)I"⟩
abbrev cX11_valueOf : ByteArray := prog_13_method_49_code
def yX11_valueOf : MethodName := ⟨RX11, "valueOf", "(I)I"⟩
abbrev cX11_value : ByteArray := prog_13_method_50_code
def yX11_value : MethodName := ⟨RX11, "value", "(II)I"⟩
abbrev cX11_ordersBy : ByteArray := prog_13_method_51_code
def yX11_ordersBy : MethodName := ⟨RX11, "ordersBy", "(III)V"⟩
abbrev cX11_orderGives : ByteArray := prog_13_method_52_code
def yX11_orderGives : MethodName := ⟨RX11, "orderGives", "(I)I"⟩
abbrev cX11_bestOrder : ByteArray := prog_13_method_53_code
def yX11_bestOrder : MethodName := ⟨RX11, "bestOrder", "(II)I"⟩
abbrev cX11_price : ByteArray := prog_13_method_54_code
def yX11_price : MethodName := ⟨RX11, "price", "(I)I"⟩
abbrev cX11_neighbour : ByteArray := prog_13_method_55_code
def yX11_neighbour : MethodName := ⟨RX11, "neighbour", "(I)I"⟩
abbrev cX11_changes : ByteArray := prog_13_method_56_code
def yX11_changes : MethodName := ⟨RX11, "changes", "(II)V"⟩
abbrev cX11_laysValues : ByteArray := prog_13_method_57_code
def yX11_laysValues : MethodName := ⟨RX11, "laysValues", "()V"⟩
abbrev cX11_laysGain : ByteArray := prog_13_method_58_code
def yX11_laysGain : MethodName := ⟨RX11, "laysGain", "(II)V"⟩
abbrev cX11_canGain : ByteArray := prog_13_method_59_code
def yX11_canGain : MethodName := ⟨RX11, "canGain", "(II)Z"⟩
abbrev cX11_gain : ByteArray := prog_13_method_60_code
def yX11_gain : MethodName := ⟨RX11, "gain", "(III)I"⟩
abbrev cX11_swap : ByteArray := prog_13_method_61_code
def yX11_swap : MethodName := ⟨RX11, "swap", "(II)Z"⟩
abbrev cX11_laysBestSwap : ByteArray := prog_13_method_62_code
def yX11_laysBestSwap : MethodName := ⟨RX11, "laysBestSwap", "()V"⟩
abbrev cX11_bestSwap : ByteArray := prog_13_method_63_code
def yX11_bestSwap : MethodName := ⟨RX11, "bestSwap", "(I)I"⟩
abbrev cX11_tillNone : ByteArray := prog_13_method_64_code
def yX11_tillNone : MethodName := ⟨RX11, "tillNone", "()I"⟩
abbrev cX11_finesBy : ByteArray := prog_13_method_65_code
def yX11_finesBy : MethodName := ⟨RX11, "finesBy", "(I)I"⟩
abbrev cX11_touching : ByteArray := prog_13_method_66_code
def yX11_touching : MethodName := ⟨RX11, "touching", "(II)I"⟩
abbrev cX11_searches : ByteArray := prog_13_method_67_code
def yX11_searches : MethodName := ⟨RX11, "searches", "(II)Z"⟩
abbrev cX11_canLie : ByteArray := prog_13_method_68_code
def yX11_canLie : MethodName := ⟨RX11, "canLie", "(II)Z"⟩
abbrev cX11_isHelped : ByteArray := prog_13_method_69_code
def yX11_isHelped : MethodName := ⟨RX11, "isHelped", "(II)Z"⟩
abbrev cX11_movesBy : ByteArray := prog_13_method_70_code
def yX11_movesBy : MethodName := ⟨RX11, "movesBy", "(IIII)I"⟩
abbrev cX11_laysMoves : ByteArray := prog_13_method_71_code
def yX11_laysMoves : MethodName := ⟨RX11, "laysMoves", "(III)V"⟩
abbrev cX11_hidden : ByteArray := prog_13_method_72_code
def yX11_hidden : MethodName := ⟨RX11, "hidden", "(IIII)I"⟩
abbrev cX11_says : ByteArray := prog_13_method_73_code
def yX11_says : MethodName := ⟨RX11, "says", "(II)Z"⟩
abbrev cX11_liarsOf : ByteArray := prog_13_method_74_code
def yX11_liarsOf : MethodName := ⟨RX11, "liarsOf", "(I)I"⟩
abbrev cX11_holds : ByteArray := prog_13_method_75_code
def yX11_holds : MethodName := ⟨RX11, "holds", "(I)I"⟩
abbrev cX11_guilty : ByteArray := prog_13_method_76_code
def yX11_guilty : MethodName := ⟨RX11, "guilty", "(I)I"⟩
abbrev cX11_hoursIn : ByteArray := prog_13_method_77_code
def yX11_hoursIn : MethodName := ⟨RX11, "hoursIn", "(III)I"⟩
abbrev cX11_guest : ByteArray := prog_13_method_78_code
def yX11_guest : MethodName := ⟨RX11, "guest", "(IIII)I"⟩
abbrev cX11_dies : ByteArray := prog_13_method_79_code
def yX11_dies : MethodName := ⟨RX11, "dies", "(I)I"⟩
abbrev cX11_ownedMany : ByteArray := prog_13_method_80_code
def yX11_ownedMany : MethodName := ⟨RX11, "ownedMany", "()I"⟩
abbrev cX11_seed : ByteArray := prog_13_method_81_code
def yX11_seed : MethodName := ⟨RX11, "seed", "(I)Z"⟩
abbrev cX11_draw : ByteArray := prog_13_method_82_code
def yX11_draw : MethodName := ⟨RX11, "draw", "(I)I"⟩
abbrev cX11_copies : ByteArray := prog_13_method_83_code
def yX11_copies : MethodName := ⟨RX11, "copies", "([I[II)V"⟩
abbrev cX11_keep : ByteArray := prog_13_method_84_code
def yX11_keep : MethodName := ⟨RX11, "keep", "()I"⟩
abbrev cX11_undo : ByteArray := prog_13_method_85_code
def yX11_undo : MethodName := ⟨RX11, "undo", "()Z"⟩
abbrev cX11_tapeNumber : ByteArray := prog_13_method_86_code
def yX11_tapeNumber : MethodName := ⟨RX11, "tapeNumber", "(I)I"⟩
abbrev cX11_check : ByteArray := prog_13_method_87_code
def yX11_check : MethodName := ⟨RX11, "check", "(II)I"⟩
abbrev cX11_count : ByteArray := prog_13_method_88_code
def yX11_count : MethodName := ⟨RX11, "count", "(I)I"⟩
def RJx145de : String := "java/io/Serializable"
def TJx145de : u_T := fun k => match k with
  | _ => ("", "", "", false)
def tyJx145de : Nat → FieldType := fun k => match k with
  | _ => .int
theorem nmJx145de : ∀ a, a < 0 → ∀ b, b < 0 → a ≠ b → (TJx145de a).2.1 ≠ (TJx145de b).2.1 := by decide +kernel
theorem tyJx145de_ok : ∀ k, k < 0 → parseFieldDescriptor (TJx145de k).2.2.1 = some (tyJx145de k) := by decide +kernel
def RJx9f9b0 : String := "java/lang/CharSequence"
def TJx9f9b0 : u_T := fun k => match k with
  | _ => ("", "", "", false)
def tyJx9f9b0 : Nat → FieldType := fun k => match k with
  | _ => .int
theorem nmJx9f9b0 : ∀ a, a < 0 → ∀ b, b < 0 → a ≠ b → (TJx9f9b0 a).2.1 ≠ (TJx9f9b0 b).2.1 := by decide +kernel
theorem tyJx9f9b0_ok : ∀ k, k < 0 → parseFieldDescriptor (TJx9f9b0 k).2.2.1 = some (tyJx9f9b0 k) := by decide +kernel
def RJ11 : String := "java/lang/Character"
def TJ11 : u_T := fun k => match k with
  | _ => ("", "", "", false)
def tyJ11 : Nat → FieldType := fun k => match k with
  | _ => .int
theorem nmJ11 : ∀ a, a < 0 → ∀ b, b < 0 → a ≠ b → (TJ11 a).2.1 ≠ (TJ11 b).2.1 := by decide +kernel
theorem tyJ11_ok : ∀ k, k < 0 → parseFieldDescriptor (TJ11 k).2.2.1 = some (tyJ11 k) := by decide +kernel
abbrev cJ11_isValidCodePoint_9a6ad : ByteArray := prog_14_method_11_code
def yJ11_isValidCodePoint_9a6ad : MethodName := ⟨RJ11, "isValidCodePoint", "(I)Z"⟩
abbrev cJ11_highSurrogate_5068e : ByteArray := prog_14_method_28_code
def yJ11_highSurrogate_5068e : MethodName := ⟨RJ11, "highSurrogate", "(I)C"⟩
abbrev cJ11_lowSurrogate_5068e : ByteArray := prog_14_method_29_code
def yJ11_lowSurrogate_5068e : MethodName := ⟨RJ11, "lowSurrogate", "(I)C"⟩
def RJxb160c : String := "java/lang/Comparable"
def TJxb160c : u_T := fun k => match k with
  | _ => ("", "", "", false)
def tyJxb160c : Nat → FieldType := fun k => match k with
  | _ => .int
theorem nmJxb160c : ∀ a, a < 0 → ∀ b, b < 0 → a ≠ b → (TJxb160c a).2.1 ≠ (TJxb160c b).2.1 := by decide +kernel
theorem tyJxb160c_ok : ∀ k, k < 0 → parseFieldDescriptor (TJxb160c k).2.2.1 = some (tyJxb160c k) := by decide +kernel
def RJ6 : String := "java/lang/Integer"
def TJ6 : u_T := fun k => match k with
  | _ => ("", "", "", false)
def tyJ6 : Nat → FieldType := fun k => match k with
  | _ => .int
theorem nmJ6 : ∀ a, a < 0 → ∀ b, b < 0 → a ≠ b → (TJ6 a).2.1 ≠ (TJ6 b).2.1 := by decide +kernel
theorem tyJ6_ok : ∀ k, k < 0 → parseFieldDescriptor (TJ6 k).2.2.1 = some (tyJ6 k) := by decide +kernel
abbrev cJ6_bitCount_0f7a4 : ByteArray := prog_15_method_49_code
def yJ6_bitCount_0f7a4 : MethodName := ⟨RJ6, "bitCount", "(I)I"⟩
def RJ9 : String := "java/lang/Math"
def TJ9 : u_T := fun k => match k with
  | _ => ("", "", "", false)
def tyJ9 : Nat → FieldType := fun k => match k with
  | _ => .int
theorem nmJ9 : ∀ a, a < 0 → ∀ b, b < 0 → a ≠ b → (TJ9 a).2.1 ≠ (TJ9 b).2.1 := by decide +kernel
theorem tyJ9_ok : ∀ k, k < 0 → parseFieldDescriptor (TJ9 k).2.2.1 = some (tyJ9 k) := by decide +kernel
abbrev cJ9_max_7cf53 : ByteArray := prog_16_method_65_code
def yJ9_max_7cf53 : MethodName := ⟨RJ9, "max", "(II)I"⟩
abbrev cJ9_min_7cf53 : ByteArray := prog_16_method_69_code
def yJ9_min_7cf53 : MethodName := ⟨RJ9, "min", "(II)I"⟩
def RJ0 : String := "java/lang/String"
def TJ0 : u_T := fun k => match k with
  | _ => ("", "", "", false)
def tyJ0 : Nat → FieldType := fun k => match k with
  | _ => .int
theorem nmJ0 : ∀ a, a < 0 → ∀ b, b < 0 → a ≠ b → (TJ0 a).2.1 ≠ (TJ0 b).2.1 := by decide +kernel
theorem tyJ0_ok : ∀ k, k < 0 → parseFieldDescriptor (TJ0 k).2.2.1 = some (tyJ0 k) := by decide +kernel
abbrev cJ0_length_8abf5 : ByteArray := prog_17_method_54_code
def yJ0_length_8abf5 : MethodName := ⟨RJ0, "length", "()I"⟩
abbrev cJ0_indexOf_0f7a4 : ByteArray := prog_17_method_79_code
def yJ0_indexOf_0f7a4 : MethodName := ⟨RJ0, "indexOf", "(I)I"⟩
abbrev cJ0_indexOf_7cf53 : ByteArray := prog_17_method_80_code
def yJ0_indexOf_7cf53 : MethodName := ⟨RJ0, "indexOf", "(II)I"⟩
abbrev cJ0_coder_7d493 : ByteArray := prog_17_method_152_code
def yJ0_coder_7d493 : MethodName := ⟨RJ0, "coder", "()B"⟩
abbrev cJ0_isLatin1_aae02 : ByteArray := prog_17_method_154_code
def yJ0_isLatin1_aae02 : MethodName := ⟨RJ0, "isLatin1", "()Z"⟩
abbrev cJ0_checkBoundsBeginEnd_23922 : ByteArray := prog_17_method_158_code
def yJ0_checkBoundsBeginEnd_23922 : MethodName := ⟨RJ0, "checkBoundsBeginEnd", "(III)V"⟩
def RJ1 : String := "java/lang/StringLatin1"
def TJ1 : u_T := fun k => match k with
  | _ => ("", "", "", false)
def tyJ1 : Nat → FieldType := fun k => match k with
  | _ => .int
theorem nmJ1 : ∀ a, a < 0 → ∀ b, b < 0 → a ≠ b → (TJ1 a).2.1 ≠ (TJ1 b).2.1 := by decide +kernel
theorem tyJ1_ok : ∀ k, k < 0 → parseFieldDescriptor (TJ1 k).2.2.1 = some (tyJ1 k) := by decide +kernel
abbrev cJ1_canEncode_9a6ad : ByteArray := prog_18_method_4_code
def yJ1_canEncode_9a6ad : MethodName := ⟨RJ1, "canEncode", "(I)Z"⟩
abbrev cJ1_indexOf_4cfef : ByteArray := prog_18_method_22_code
def yJ1_indexOf_4cfef : MethodName := ⟨RJ1, "indexOf", "([BIII)I"⟩
abbrev cJ1_indexOfChar_4cfef : ByteArray := prog_18_method_23_code
def yJ1_indexOfChar_4cfef : MethodName := ⟨RJ1, "indexOfChar", "([BIII)I"⟩
def RJ2 : String := "java/lang/StringUTF16"
def TJ2 : u_T := fun k => match k with
  | _ => ("", "", "", false)
def tyJ2 : Nat → FieldType := fun k => match k with
  | _ => .int
theorem nmJ2 : ∀ a, a < 0 → ∀ b, b < 0 → a ≠ b → (TJ2 a).2.1 ≠ (TJ2 b).2.1 := by decide +kernel
theorem tyJ2_ok : ∀ k, k < 0 → parseFieldDescriptor (TJ2 k).2.2.1 = some (tyJ2 k) := by decide +kernel
abbrev cJ2_getChar_3b067 : ByteArray := prog_19_method_5_code
def yJ2_getChar_3b067 : MethodName := ⟨RJ2, "getChar", "([BI)C"⟩
abbrev cJ2_length_9d52b : ByteArray := prog_19_method_6_code
def yJ2_length_9d52b : MethodName := ⟨RJ2, "length", "([B)I"⟩
abbrev cJ2_indexOf_4cfef : ByteArray := prog_19_method_40_code
def yJ2_indexOf_4cfef : MethodName := ⟨RJ2, "indexOf", "([BIII)I"⟩
abbrev cJ2_indexOfChar_4cfef : ByteArray := prog_19_method_47_code
def yJ2_indexOfChar_4cfef : MethodName := ⟨RJ2, "indexOfChar", "([BIII)I"⟩
abbrev cJ2_indexOfCharUnsafe_4cfef : ByteArray := prog_19_method_48_code
def yJ2_indexOfCharUnsafe_4cfef : MethodName := ⟨RJ2, "indexOfCharUnsafe", "([BIII)I"⟩
abbrev cJ2_indexOfSupplementary_4cfef : ByteArray := prog_19_method_49_code
def yJ2_indexOfSupplementary_4cfef : MethodName := ⟨RJ2, "indexOfSupplementary", "([BIII)I"⟩
abbrev cJ2_checkBoundsBeginEnd_d044e : ByteArray := prog_19_method_93_code
def yJ2_checkBoundsBeginEnd_d044e : MethodName := ⟨RJ2, "checkBoundsBeginEnd", "(II[B)V"⟩
def RJ10 : String := "java/lang/System"
def TJ10 : u_T := fun k => match k with
  | _ => ("", "", "", false)
def tyJ10 : Nat → FieldType := fun k => match k with
  | _ => .int
theorem nmJ10 : ∀ a, a < 0 → ∀ b, b < 0 → a ≠ b → (TJ10 a).2.1 ≠ (TJ10 b).2.1 := by decide +kernel
theorem tyJ10_ok : ∀ k, k < 0 → parseFieldDescriptor (TJ10 k).2.2.1 = some (tyJ10 k) := by decide +kernel
def RJxfd54e : String := "java/lang/constant/Constable"
def TJxfd54e : u_T := fun k => match k with
  | _ => ("", "", "", false)
def tyJxfd54e : Nat → FieldType := fun k => match k with
  | _ => .int
theorem nmJxfd54e : ∀ a, a < 0 → ∀ b, b < 0 → a ≠ b → (TJxfd54e a).2.1 ≠ (TJxfd54e b).2.1 := by decide +kernel
theorem tyJxfd54e_ok : ∀ k, k < 0 → parseFieldDescriptor (TJxfd54e k).2.2.1 = some (tyJxfd54e k) := by decide +kernel
def RJx3cf43 : String := "java/lang/constant/ConstantDesc"
def TJx3cf43 : u_T := fun k => match k with
  | _ => ("", "", "", false)
def tyJx3cf43 : Nat → FieldType := fun k => match k with
  | _ => .int
theorem nmJx3cf43 : ∀ a, a < 0 → ∀ b, b < 0 → a ≠ b → (TJx3cf43 a).2.1 ≠ (TJx3cf43 b).2.1 := by decide +kernel
theorem tyJx3cf43_ok : ∀ k, k < 0 → parseFieldDescriptor (TJx3cf43 k).2.2.1 = some (tyJx3cf43 k) := by decide +kernel
def RJ7 : String := "java/util/Arrays"
def TJ7 : u_T := fun k => match k with
  | _ => ("", "", "", false)
def tyJ7 : Nat → FieldType := fun k => match k with
  | _ => .int
theorem nmJ7 : ∀ a, a < 0 → ∀ b, b < 0 → a ≠ b → (TJ7 a).2.1 ≠ (TJ7 b).2.1 := by decide +kernel
theorem tyJ7_ok : ∀ k, k < 0 → parseFieldDescriptor (TJ7 k).2.2.1 = some (tyJ7 k) := by decide +kernel
abbrev cJ7_fill_53178 : ByteArray := prog_21_method_103_code
def yJ7_fill_53178 : MethodName := ⟨RJ7, "fill", "([II)V"⟩
def RJ3 : String := "jdk/internal/util/Preconditions"
def TJ3 : u_T := fun k => match k with
  | _ => ("", "", "", false)
def tyJ3 : Nat → FieldType := fun k => match k with
  | _ => .int
theorem nmJ3 : ∀ a, a < 0 → ∀ b, b < 0 → a ≠ b → (TJ3 a).2.1 ≠ (TJ3 b).2.1 := by decide +kernel
theorem tyJ3_ok : ∀ k, k < 0 → parseFieldDescriptor (TJ3 k).2.2.1 = some (tyJ3 k) := by decide +kernel
abbrev cJ3_checkFromToIndex_8c36e : ByteArray := prog_22_method_12_code
def yJ3_checkFromToIndex_8c36e : MethodName := ⟨RJ3, "checkFromToIndex", "(IIILjava/util/function/BiFunction;)I"⟩
def RL : String := "BellHoursLaw"
abbrev cL_law : ByteArray := code
def yL_law : MethodName := ⟨RL, "law", "([I)Z"⟩
