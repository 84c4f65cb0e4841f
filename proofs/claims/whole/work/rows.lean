section
-- ===== PART A: goes FIRST, ahead of the names: the tables' words, and 'selects' of the private methods out of them =====
/-- a private method of a class that the tables say can be made, by its rows of tables_1 -/
def lw_okq (q : MethodName × Nat) : Prop := (q.1.cls ≠ "java/lang/invoke/MethodHandle" ∧ q.1.cls ≠ "java/lang/invoke/VarHandle") ∧ Cond.instantiable q.1.cls q.2 ∈ tables_1 ∧ Cond.privateMethod q.1 ∈ tables_1 ∧ Cond.instanceMethod q.1 ∈ tables_1
theorem lw_p0 : lw_okq (⟨"BellHours", "forgetDay", "()V"⟩, 17) := ⟨⟨by decide +kernel, by decide +kernel⟩, List.mem_of_getElem? (i := 23) (by decide +kernel), List.mem_of_getElem? (i := 365) (by decide +kernel), List.mem_of_getElem? (i := 366) (by decide +kernel)⟩
theorem lw_p1 : lw_okq (⟨"BellHours$Reader", "next", "()V"⟩, 6) := ⟨⟨by decide +kernel, by decide +kernel⟩, List.mem_of_getElem? (i := 123) (by decide +kernel), List.mem_of_getElem? (i := 406) (by decide +kernel), List.mem_of_getElem? (i := 407) (by decide +kernel)⟩
theorem lw_p2 : lw_okq (⟨"BellHours$Reader", "fails", "(I)Z"⟩, 6) := ⟨⟨by decide +kernel, by decide +kernel⟩, List.mem_of_getElem? (i := 123) (by decide +kernel), List.mem_of_getElem? (i := 495) (by decide +kernel), List.mem_of_getElem? (i := 496) (by decide +kernel)⟩
theorem lw_p3 : lw_okq (⟨"BellHours$Reader", "readClause", "(I)Z"⟩, 6) := ⟨⟨by decide +kernel, by decide +kernel⟩, List.mem_of_getElem? (i := 123) (by decide +kernel), List.mem_of_getElem? (i := 499) (by decide +kernel), List.mem_of_getElem? (i := 500) (by decide +kernel)⟩
theorem lw_p4 : lw_okq (⟨"BellHours$Reader", "readSum", "(I)Z"⟩, 6) := ⟨⟨by decide +kernel, by decide +kernel⟩, List.mem_of_getElem? (i := 123) (by decide +kernel), List.mem_of_getElem? (i := 507) (by decide +kernel), List.mem_of_getElem? (i := 508) (by decide +kernel)⟩
theorem lw_p5 : lw_okq (⟨"BellHours$Reader", "readProduct", "(I)Z"⟩, 6) := ⟨⟨by decide +kernel, by decide +kernel⟩, List.mem_of_getElem? (i := 123) (by decide +kernel), List.mem_of_getElem? (i := 511) (by decide +kernel), List.mem_of_getElem? (i := 512) (by decide +kernel)⟩
theorem lw_p6 : lw_okq (⟨"BellHours$Reader", "readFactor", "(I)Z"⟩, 6) := ⟨⟨by decide +kernel, by decide +kernel⟩, List.mem_of_getElem? (i := 123) (by decide +kernel), List.mem_of_getElem? (i := 515) (by decide +kernel), List.mem_of_getElem? (i := 516) (by decide +kernel)⟩
theorem lw_p7 : lw_okq (⟨"BellHours$Reader", "opens", "(CI)Z"⟩, 6) := ⟨⟨by decide +kernel, by decide +kernel⟩, List.mem_of_getElem? (i := 123) (by decide +kernel), List.mem_of_getElem? (i := 519) (by decide +kernel), List.mem_of_getElem? (i := 520) (by decide +kernel)⟩
theorem lw_p8 : lw_okq (⟨"BellHours$Reader", "passes", "(C)Z"⟩, 6) := ⟨⟨by decide +kernel, by decide +kernel⟩, List.mem_of_getElem? (i := 123) (by decide +kernel), List.mem_of_getElem? (i := 523) (by decide +kernel), List.mem_of_getElem? (i := 524) (by decide +kernel)⟩
theorem lw_p9 : lw_okq (⟨"BellHours$Reader", "readNumber", "()Z"⟩, 6) := ⟨⟨by decide +kernel, by decide +kernel⟩, List.mem_of_getElem? (i := 123) (by decide +kernel), List.mem_of_getElem? (i := 527) (by decide +kernel), List.mem_of_getElem? (i := 528) (by decide +kernel)⟩
theorem lw_p10 : lw_okq (⟨"BellHours$Reader", "readBracket", "(I)Z"⟩, 6) := ⟨⟨by decide +kernel, by decide +kernel⟩, List.mem_of_getElem? (i := 123) (by decide +kernel), List.mem_of_getElem? (i := 532) (by decide +kernel), List.mem_of_getElem? (i := 533) (by decide +kernel)⟩
theorem lw_p11 : lw_okq (⟨"BellHours$Reader", "readCondition", "(I)Z"⟩, 6) := ⟨⟨by decide +kernel, by decide +kernel⟩, List.mem_of_getElem? (i := 123) (by decide +kernel), List.mem_of_getElem? (i := 536) (by decide +kernel), List.mem_of_getElem? (i := 537) (by decide +kernel)⟩
theorem lw_p12 : lw_okq (⟨"BellHours$Reader", "readPart", "(I)Z"⟩, 6) := ⟨⟨by decide +kernel, by decide +kernel⟩, List.mem_of_getElem? (i := 123) (by decide +kernel), List.mem_of_getElem? (i := 540) (by decide +kernel), List.mem_of_getElem? (i := 541) (by decide +kernel)⟩
theorem lw_p13 : lw_okq (⟨"BellHours$Reader", "readPiece", "(I)Z"⟩, 6) := ⟨⟨by decide +kernel, by decide +kernel⟩, List.mem_of_getElem? (i := 123) (by decide +kernel), List.mem_of_getElem? (i := 544) (by decide +kernel), List.mem_of_getElem? (i := 545) (by decide +kernel)⟩
theorem lw_p14 : lw_okq (⟨"BellHours$Reader", "comparison", "()Z"⟩, 6) := ⟨⟨by decide +kernel, by decide +kernel⟩, List.mem_of_getElem? (i := 123) (by decide +kernel), List.mem_of_getElem? (i := 548) (by decide +kernel), List.mem_of_getElem? (i := 549) (by decide +kernel)⟩
theorem lw_p15 : lw_okq (⟨"BellHours", "runDay", "()V"⟩, 17) := ⟨⟨by decide +kernel, by decide +kernel⟩, List.mem_of_getElem? (i := 23) (by decide +kernel), List.mem_of_getElem? (i := 588) (by decide +kernel), List.mem_of_getElem? (i := 589) (by decide +kernel)⟩
def lw_privs_1 : List (MethodName × Nat) := [(⟨"BellHours", "forgetDay", "()V"⟩, 17), (⟨"BellHours$Reader", "next", "()V"⟩, 6), (⟨"BellHours$Reader", "fails", "(I)Z"⟩, 6), (⟨"BellHours$Reader", "readClause", "(I)Z"⟩, 6), (⟨"BellHours$Reader", "readSum", "(I)Z"⟩, 6), (⟨"BellHours$Reader", "readProduct", "(I)Z"⟩, 6), (⟨"BellHours$Reader", "readFactor", "(I)Z"⟩, 6), (⟨"BellHours$Reader", "opens", "(CI)Z"⟩, 6), (⟨"BellHours$Reader", "passes", "(C)Z"⟩, 6), (⟨"BellHours$Reader", "readNumber", "()Z"⟩, 6), (⟨"BellHours$Reader", "readBracket", "(I)Z"⟩, 6), (⟨"BellHours$Reader", "readCondition", "(I)Z"⟩, 6), (⟨"BellHours$Reader", "readPart", "(I)Z"⟩, 6), (⟨"BellHours$Reader", "readPiece", "(I)Z"⟩, 6), (⟨"BellHours$Reader", "comparison", "()Z"⟩, 6), (⟨"BellHours", "runDay", "()V"⟩, 17)]
theorem lw_r1 : ∀ q ∈ lw_privs_1, lw_okq q := List.forall_mem_cons.mpr ⟨lw_p0, List.forall_mem_cons.mpr ⟨lw_p1, List.forall_mem_cons.mpr ⟨lw_p2, List.forall_mem_cons.mpr ⟨lw_p3, List.forall_mem_cons.mpr ⟨lw_p4, List.forall_mem_cons.mpr ⟨lw_p5, List.forall_mem_cons.mpr ⟨lw_p6, List.forall_mem_cons.mpr ⟨lw_p7, List.forall_mem_cons.mpr ⟨lw_p8, List.forall_mem_cons.mpr ⟨lw_p9, List.forall_mem_cons.mpr ⟨lw_p10, List.forall_mem_cons.mpr ⟨lw_p11, List.forall_mem_cons.mpr ⟨lw_p12, List.forall_mem_cons.mpr ⟨lw_p13, List.forall_mem_cons.mpr ⟨lw_p14, List.forall_mem_cons.mpr ⟨lw_p15, fun _ h => absurd h List.not_mem_nil⟩⟩⟩⟩⟩⟩⟩⟩⟩⟩⟩⟩⟩⟩⟩⟩
theorem lw_p16 : lw_okq (⟨"BellHours$Day", "runHour", "(ILBellHours$Law;)V"⟩, 9) := ⟨⟨by decide +kernel, by decide +kernel⟩, List.mem_of_getElem? (i := 162) (by decide +kernel), List.mem_of_getElem? (i := 601) (by decide +kernel), List.mem_of_getElem? (i := 602) (by decide +kernel)⟩
theorem lw_p17 : lw_okq (⟨"BellHours$Scene", "look", "(III)V"⟩, 2) := ⟨⟨by decide +kernel, by decide +kernel⟩, List.mem_of_getElem? (i := 148) (by decide +kernel), List.mem_of_getElem? (i := 615) (by decide +kernel), List.mem_of_getElem? (i := 616) (by decide +kernel)⟩
theorem lw_p18 : lw_okq (⟨"BellHours$Law", "reckon", "(II[I)I"⟩, 10) := ⟨⟨by decide +kernel, by decide +kernel⟩, List.mem_of_getElem? (i := 83) (by decide +kernel), List.mem_of_getElem? (i := 623) (by decide +kernel), List.mem_of_getElem? (i := 624) (by decide +kernel)⟩
theorem lw_p19 : lw_okq (⟨"BellHours$Scene", "change", "(III)V"⟩, 2) := ⟨⟨by decide +kernel, by decide +kernel⟩, List.mem_of_getElem? (i := 148) (by decide +kernel), List.mem_of_getElem? (i := 639) (by decide +kernel), List.mem_of_getElem? (i := 640) (by decide +kernel)⟩
theorem lw_p20 : lw_okq (⟨"BellHours$Day", "note", "(III)V"⟩, 9) := ⟨⟨by decide +kernel, by decide +kernel⟩, List.mem_of_getElem? (i := 162) (by decide +kernel), List.mem_of_getElem? (i := 645) (by decide +kernel), List.mem_of_getElem? (i := 646) (by decide +kernel)⟩
theorem lw_p21 : lw_okq (⟨"BellHours", "isOwned", "(I)Z"⟩, 17) := ⟨⟨by decide +kernel, by decide +kernel⟩, List.mem_of_getElem? (i := 23) (by decide +kernel), List.mem_of_getElem? (i := 683) (by decide +kernel), List.mem_of_getElem? (i := 684) (by decide +kernel)⟩
theorem lw_p22 : lw_okq (⟨"BellHours$Orders", "tryRow", "(IILBellHours$Day;)I"⟩, 6) := ⟨⟨by decide +kernel, by decide +kernel⟩, List.mem_of_getElem? (i := 238) (by decide +kernel), List.mem_of_getElem? (i := 691) (by decide +kernel), List.mem_of_getElem? (i := 692) (by decide +kernel)⟩
theorem lw_p23 : lw_okq (⟨"BellHours$Orders", "nextRow", "(I)Z"⟩, 6) := ⟨⟨by decide +kernel, by decide +kernel⟩, List.mem_of_getElem? (i := 238) (by decide +kernel), List.mem_of_getElem? (i := 701) (by decide +kernel), List.mem_of_getElem? (i := 702) (by decide +kernel)⟩
theorem lw_p24 : lw_okq (⟨"BellHours$Orders", "exchangeAt", "(II)V"⟩, 6) := ⟨⟨by decide +kernel, by decide +kernel⟩, List.mem_of_getElem? (i := 238) (by decide +kernel), List.mem_of_getElem? (i := 705) (by decide +kernel), List.mem_of_getElem? (i := 706) (by decide +kernel)⟩
theorem lw_p25 : lw_okq (⟨"BellHours$Trade", "beginSwapped", "(II)I"⟩, 7) := ⟨⟨by decide +kernel, by decide +kernel⟩, List.mem_of_getElem? (i := 206) (by decide +kernel), List.mem_of_getElem? (i := 746) (by decide +kernel), List.mem_of_getElem? (i := 747) (by decide +kernel)⟩
theorem lw_p26 : lw_okq (⟨"BellHours$Trade", "gainOf", "(I)I"⟩, 7) := ⟨⟨by decide +kernel, by decide +kernel⟩, List.mem_of_getElem? (i := 206) (by decide +kernel), List.mem_of_getElem? (i := 751) (by decide +kernel), List.mem_of_getElem? (i := 752) (by decide +kernel)⟩
theorem lw_p27 : lw_okq (⟨"BellHours$Trade", "weigh", "(II)V"⟩, 7) := ⟨⟨by decide +kernel, by decide +kernel⟩, List.mem_of_getElem? (i := 206) (by decide +kernel), List.mem_of_getElem? (i := 774) (by decide +kernel), List.mem_of_getElem? (i := 775) (by decide +kernel)⟩
theorem lw_p28 : lw_okq (⟨"BellHours$Hiding", "costOf", "(IIII)I"⟩, 5) := ⟨⟨by decide +kernel, by decide +kernel⟩, List.mem_of_getElem? (i := 265) (by decide +kernel), List.mem_of_getElem? (i := 805) (by decide +kernel), List.mem_of_getElem? (i := 806) (by decide +kernel)⟩
theorem lw_p29 : lw_okq (⟨"BellHours$Hiding", "bestRoom", "(III)I"⟩, 5) := ⟨⟨by decide +kernel, by decide +kernel⟩, List.mem_of_getElem? (i := 265) (by decide +kernel), List.mem_of_getElem? (i := 809) (by decide +kernel), List.mem_of_getElem? (i := 810) (by decide +kernel)⟩
theorem lw_p30 : lw_okq (⟨"BellHours$Hiding", "costWith", "(IIII)I"⟩, 5) := ⟨⟨by decide +kernel, by decide +kernel⟩, List.mem_of_getElem? (i := 265) (by decide +kernel), List.mem_of_getElem? (i := 813) (by decide +kernel), List.mem_of_getElem? (i := 814) (by decide +kernel)⟩
theorem lw_p31 : lw_okq (⟨"BellHours$Vase", "liarsIf", "(I)I"⟩, 2) := ⟨⟨by decide +kernel, by decide +kernel⟩, List.mem_of_getElem? (i := 289) (by decide +kernel), List.mem_of_getElem? (i := 830) (by decide +kernel), List.mem_of_getElem? (i := 831) (by decide +kernel)⟩
def lw_privs_2 : List (MethodName × Nat) := [(⟨"BellHours$Day", "runHour", "(ILBellHours$Law;)V"⟩, 9), (⟨"BellHours$Scene", "look", "(III)V"⟩, 2), (⟨"BellHours$Law", "reckon", "(II[I)I"⟩, 10), (⟨"BellHours$Scene", "change", "(III)V"⟩, 2), (⟨"BellHours$Day", "note", "(III)V"⟩, 9), (⟨"BellHours", "isOwned", "(I)Z"⟩, 17), (⟨"BellHours$Orders", "tryRow", "(IILBellHours$Day;)I"⟩, 6), (⟨"BellHours$Orders", "nextRow", "(I)Z"⟩, 6), (⟨"BellHours$Orders", "exchangeAt", "(II)V"⟩, 6), (⟨"BellHours$Trade", "beginSwapped", "(II)I"⟩, 7), (⟨"BellHours$Trade", "gainOf", "(I)I"⟩, 7), (⟨"BellHours$Trade", "weigh", "(II)V"⟩, 7), (⟨"BellHours$Hiding", "costOf", "(IIII)I"⟩, 5), (⟨"BellHours$Hiding", "bestRoom", "(III)I"⟩, 5), (⟨"BellHours$Hiding", "costWith", "(IIII)I"⟩, 5), (⟨"BellHours$Vase", "liarsIf", "(I)I"⟩, 2)]
theorem lw_r2 : ∀ q ∈ lw_privs_2, lw_okq q := List.forall_mem_cons.mpr ⟨lw_p16, List.forall_mem_cons.mpr ⟨lw_p17, List.forall_mem_cons.mpr ⟨lw_p18, List.forall_mem_cons.mpr ⟨lw_p19, List.forall_mem_cons.mpr ⟨lw_p20, List.forall_mem_cons.mpr ⟨lw_p21, List.forall_mem_cons.mpr ⟨lw_p22, List.forall_mem_cons.mpr ⟨lw_p23, List.forall_mem_cons.mpr ⟨lw_p24, List.forall_mem_cons.mpr ⟨lw_p25, List.forall_mem_cons.mpr ⟨lw_p26, List.forall_mem_cons.mpr ⟨lw_p27, List.forall_mem_cons.mpr ⟨lw_p28, List.forall_mem_cons.mpr ⟨lw_p29, List.forall_mem_cons.mpr ⟨lw_p30, List.forall_mem_cons.mpr ⟨lw_p31, fun _ h => absurd h List.not_mem_nil⟩⟩⟩⟩⟩⟩⟩⟩⟩⟩⟩⟩⟩⟩⟩⟩
theorem lw_p32 : lw_okq (⟨"BellHours$Vase", "isUntrue", "(II)Z"⟩, 2) := ⟨⟨by decide +kernel, by decide +kernel⟩, List.mem_of_getElem? (i := 289) (by decide +kernel), List.mem_of_getElem? (i := 834) (by decide +kernel), List.mem_of_getElem? (i := 835) (by decide +kernel)⟩
theorem lw_p33 : lw_okq (⟨"BellHours$House", "heirOf", "(II)I"⟩, 5) := ⟨⟨by decide +kernel, by decide +kernel⟩, List.mem_of_getElem? (i := 31) (by decide +kernel), List.mem_of_getElem? (i := 870) (by decide +kernel), List.mem_of_getElem? (i := 871) (by decide +kernel)⟩
theorem lw_p34 : lw_okq (⟨"BellHours", "firstWrongStore", "(II)I"⟩, 17) := ⟨⟨by decide +kernel, by decide +kernel⟩, List.mem_of_getElem? (i := 23) (by decide +kernel), List.mem_of_getElem? (i := 909) (by decide +kernel), List.mem_of_getElem? (i := 910) (by decide +kernel)⟩
theorem lw_p35 : lw_okq (⟨"BellHoursModel", "types", "(I)V"⟩, 65) := ⟨⟨by decide +kernel, by decide +kernel⟩, List.mem_of_getElem? (i := 921) (by decide +kernel), List.mem_of_getElem? (i := 1155) (by decide +kernel), List.mem_of_getElem? (i := 1156) (by decide +kernel)⟩
theorem lw_p36 : lw_okq (⟨"BellHoursModel", "readsClause", "()Z"⟩, 65) := ⟨⟨by decide +kernel, by decide +kernel⟩, List.mem_of_getElem? (i := 921) (by decide +kernel), List.mem_of_getElem? (i := 1163) (by decide +kernel), List.mem_of_getElem? (i := 1164) (by decide +kernel)⟩
theorem lw_p37 : lw_okq (⟨"BellHoursModel", "here", "()I"⟩, 65) := ⟨⟨by decide +kernel, by decide +kernel⟩, List.mem_of_getElem? (i := 921) (by decide +kernel), List.mem_of_getElem? (i := 1167) (by decide +kernel), List.mem_of_getElem? (i := 1168) (by decide +kernel)⟩
theorem lw_p38 : lw_okq (⟨"BellHoursModel", "wrongAt", "(II)Z"⟩, 65) := ⟨⟨by decide +kernel, by decide +kernel⟩, List.mem_of_getElem? (i := 921) (by decide +kernel), List.mem_of_getElem? (i := 1174) (by decide +kernel), List.mem_of_getElem? (i := 1175) (by decide +kernel)⟩
theorem lw_p39 : lw_okq (⟨"BellHoursModel", "readsSum", "()Z"⟩, 65) := ⟨⟨by decide +kernel, by decide +kernel⟩, List.mem_of_getElem? (i := 921) (by decide +kernel), List.mem_of_getElem? (i := 1178) (by decide +kernel), List.mem_of_getElem? (i := 1179) (by decide +kernel)⟩
theorem lw_p40 : lw_okq (⟨"BellHoursModel", "readsFactor", "()Z"⟩, 65) := ⟨⟨by decide +kernel, by decide +kernel⟩, List.mem_of_getElem? (i := 921) (by decide +kernel), List.mem_of_getElem? (i := 1182) (by decide +kernel), List.mem_of_getElem? (i := 1183) (by decide +kernel)⟩
theorem lw_p41 : lw_okq (⟨"BellHoursModel", "opens", "(I)Z"⟩, 65) := ⟨⟨by decide +kernel, by decide +kernel⟩, List.mem_of_getElem? (i := 921) (by decide +kernel), List.mem_of_getElem? (i := 1186) (by decide +kernel), List.mem_of_getElem? (i := 1187) (by decide +kernel)⟩
theorem lw_p42 : lw_okq (⟨"BellHoursModel", "isDigit", "()Z"⟩, 65) := ⟨⟨by decide +kernel, by decide +kernel⟩, List.mem_of_getElem? (i := 921) (by decide +kernel), List.mem_of_getElem? (i := 1191) (by decide +kernel), List.mem_of_getElem? (i := 1192) (by decide +kernel)⟩
theorem lw_p43 : lw_okq (⟨"BellHoursModel", "readsNumber", "()Z"⟩, 65) := ⟨⟨by decide +kernel, by decide +kernel⟩, List.mem_of_getElem? (i := 921) (by decide +kernel), List.mem_of_getElem? (i := 1195) (by decide +kernel), List.mem_of_getElem? (i := 1196) (by decide +kernel)⟩
theorem lw_p44 : lw_okq (⟨"BellHoursModel", "notes", "(II)V"⟩, 65) := ⟨⟨by decide +kernel, by decide +kernel⟩, List.mem_of_getElem? (i := 921) (by decide +kernel), List.mem_of_getElem? (i := 1199) (by decide +kernel), List.mem_of_getElem? (i := 1200) (by decide +kernel)⟩
theorem lw_p45 : lw_okq (⟨"BellHoursModel", "closesSums", "(Z)V"⟩, 65) := ⟨⟨by decide +kernel, by decide +kernel⟩, List.mem_of_getElem? (i := 921) (by decide +kernel), List.mem_of_getElem? (i := 1209) (by decide +kernel), List.mem_of_getElem? (i := 1210) (by decide +kernel)⟩
theorem lw_p46 : lw_okq (⟨"BellHoursModel", "top", "()I"⟩, 65) := ⟨⟨by decide +kernel, by decide +kernel⟩, List.mem_of_getElem? (i := 921) (by decide +kernel), List.mem_of_getElem? (i := 1213) (by decide +kernel), List.mem_of_getElem? (i := 1214) (by decide +kernel)⟩
theorem lw_p47 : lw_okq (⟨"BellHoursModel", "hasOpenSum", "(I)Z"⟩, 65) := ⟨⟨by decide +kernel, by decide +kernel⟩, List.mem_of_getElem? (i := 921) (by decide +kernel), List.mem_of_getElem? (i := 1217) (by decide +kernel), List.mem_of_getElem? (i := 1218) (by decide +kernel)⟩
def lw_privs_3 : List (MethodName × Nat) := [(⟨"BellHours$Vase", "isUntrue", "(II)Z"⟩, 2), (⟨"BellHours$House", "heirOf", "(II)I"⟩, 5), (⟨"BellHours", "firstWrongStore", "(II)I"⟩, 17), (⟨"BellHoursModel", "types", "(I)V"⟩, 65), (⟨"BellHoursModel", "readsClause", "()Z"⟩, 65), (⟨"BellHoursModel", "here", "()I"⟩, 65), (⟨"BellHoursModel", "wrongAt", "(II)Z"⟩, 65), (⟨"BellHoursModel", "readsSum", "()Z"⟩, 65), (⟨"BellHoursModel", "readsFactor", "()Z"⟩, 65), (⟨"BellHoursModel", "opens", "(I)Z"⟩, 65), (⟨"BellHoursModel", "isDigit", "()Z"⟩, 65), (⟨"BellHoursModel", "readsNumber", "()Z"⟩, 65), (⟨"BellHoursModel", "notes", "(II)V"⟩, 65), (⟨"BellHoursModel", "closesSums", "(Z)V"⟩, 65), (⟨"BellHoursModel", "top", "()I"⟩, 65), (⟨"BellHoursModel", "hasOpenSum", "(I)Z"⟩, 65)]
theorem lw_r3 : ∀ q ∈ lw_privs_3, lw_okq q := List.forall_mem_cons.mpr ⟨lw_p32, List.forall_mem_cons.mpr ⟨lw_p33, List.forall_mem_cons.mpr ⟨lw_p34, List.forall_mem_cons.mpr ⟨lw_p35, List.forall_mem_cons.mpr ⟨lw_p36, List.forall_mem_cons.mpr ⟨lw_p37, List.forall_mem_cons.mpr ⟨lw_p38, List.forall_mem_cons.mpr ⟨lw_p39, List.forall_mem_cons.mpr ⟨lw_p40, List.forall_mem_cons.mpr ⟨lw_p41, List.forall_mem_cons.mpr ⟨lw_p42, List.forall_mem_cons.mpr ⟨lw_p43, List.forall_mem_cons.mpr ⟨lw_p44, List.forall_mem_cons.mpr ⟨lw_p45, List.forall_mem_cons.mpr ⟨lw_p46, List.forall_mem_cons.mpr ⟨lw_p47, fun _ h => absurd h List.not_mem_nil⟩⟩⟩⟩⟩⟩⟩⟩⟩⟩⟩⟩⟩⟩⟩⟩
theorem lw_p48 : lw_okq (⟨"BellHoursModel", "readsCondition", "()Z"⟩, 65) := ⟨⟨by decide +kernel, by decide +kernel⟩, List.mem_of_getElem? (i := 921) (by decide +kernel), List.mem_of_getElem? (i := 1221) (by decide +kernel), List.mem_of_getElem? (i := 1222) (by decide +kernel)⟩
theorem lw_p49 : lw_okq (⟨"BellHoursModel", "readsCompared", "()Z"⟩, 65) := ⟨⟨by decide +kernel, by decide +kernel⟩, List.mem_of_getElem? (i := 921) (by decide +kernel), List.mem_of_getElem? (i := 1225) (by decide +kernel), List.mem_of_getElem? (i := 1226) (by decide +kernel)⟩
theorem lw_p50 : lw_okq (⟨"BellHoursModel", "endsPiece", "()V"⟩, 65) := ⟨⟨by decide +kernel, by decide +kernel⟩, List.mem_of_getElem? (i := 921) (by decide +kernel), List.mem_of_getElem? (i := 1229) (by decide +kernel), List.mem_of_getElem? (i := 1230) (by decide +kernel)⟩
theorem lw_p51 : lw_okq (⟨"BellHoursModel", "lands", "(Z)V"⟩, 65) := ⟨⟨by decide +kernel, by decide +kernel⟩, List.mem_of_getElem? (i := 921) (by decide +kernel), List.mem_of_getElem? (i := 1233) (by decide +kernel), List.mem_of_getElem? (i := 1234) (by decide +kernel)⟩
theorem lw_p52 : lw_okq (⟨"BellHoursModel", "jumps", "(I)V"⟩, 65) := ⟨⟨by decide +kernel, by decide +kernel⟩, List.mem_of_getElem? (i := 921) (by decide +kernel), List.mem_of_getElem? (i := 1237) (by decide +kernel), List.mem_of_getElem? (i := 1238) (by decide +kernel)⟩
theorem lw_p53 : lw_okq (⟨"BellHoursModel", "takes", "(I)Z"⟩, 65) := ⟨⟨by decide +kernel, by decide +kernel⟩, List.mem_of_getElem? (i := 921) (by decide +kernel), List.mem_of_getElem? (i := 1241) (by decide +kernel), List.mem_of_getElem? (i := 1242) (by decide +kernel)⟩
theorem lw_p54 : lw_okq (⟨"BellHoursModel", "runs", "(I)V"⟩, 65) := ⟨⟨by decide +kernel, by decide +kernel⟩, List.mem_of_getElem? (i := 921) (by decide +kernel), List.mem_of_getElem? (i := 1249) (by decide +kernel), List.mem_of_getElem? (i := 1250) (by decide +kernel)⟩
theorem lw_p55 : lw_okq (⟨"BellHoursModel", "findsAt", "(I)V"⟩, 65) := ⟨⟨by decide +kernel, by decide +kernel⟩, List.mem_of_getElem? (i := 921) (by decide +kernel), List.mem_of_getElem? (i := 1253) (by decide +kernel), List.mem_of_getElem? (i := 1254) (by decide +kernel)⟩
theorem lw_p56 : lw_okq (⟨"BellHoursModel", "actsAll", "(I)I"⟩, 65) := ⟨⟨by decide +kernel, by decide +kernel⟩, List.mem_of_getElem? (i := 921) (by decide +kernel), List.mem_of_getElem? (i := 1257) (by decide +kernel), List.mem_of_getElem? (i := 1258) (by decide +kernel)⟩
theorem lw_p57 : lw_okq (⟨"BellHoursModel", "acts", "(II)I"⟩, 65) := ⟨⟨by decide +kernel, by decide +kernel⟩, List.mem_of_getElem? (i := 921) (by decide +kernel), List.mem_of_getElem? (i := 1261) (by decide +kernel), List.mem_of_getElem? (i := 1262) (by decide +kernel)⟩
theorem lw_p58 : lw_okq (⟨"BellHoursModel", "feels", "(II)V"⟩, 65) := ⟨⟨by decide +kernel, by decide +kernel⟩, List.mem_of_getElem? (i := 921) (by decide +kernel), List.mem_of_getElem? (i := 1265) (by decide +kernel), List.mem_of_getElem? (i := 1266) (by decide +kernel)⟩
theorem lw_p59 : lw_okq (⟨"BellHoursModel", "isBarred", "()Z"⟩, 65) := ⟨⟨by decide +kernel, by decide +kernel⟩, List.mem_of_getElem? (i := 921) (by decide +kernel), List.mem_of_getElem? (i := 1269) (by decide +kernel), List.mem_of_getElem? (i := 1270) (by decide +kernel)⟩
theorem lw_p60 : lw_okq (⟨"BellHoursModel", "comesTo", "(II)I"⟩, 65) := ⟨⟨by decide +kernel, by decide +kernel⟩, List.mem_of_getElem? (i := 921) (by decide +kernel), List.mem_of_getElem? (i := 1273) (by decide +kernel), List.mem_of_getElem? (i := 1274) (by decide +kernel)⟩
theorem lw_p61 : lw_okq (⟨"BellHoursModel", "byLaw", "(IIII)I"⟩, 65) := ⟨⟨by decide +kernel, by decide +kernel⟩, List.mem_of_getElem? (i := 921) (by decide +kernel), List.mem_of_getElem? (i := 1280) (by decide +kernel), List.mem_of_getElem? (i := 1281) (by decide +kernel)⟩
theorem lw_p62 : lw_okq (⟨"BellHoursModel", "finesOf", "(II)I"⟩, 65) := ⟨⟨by decide +kernel, by decide +kernel⟩, List.mem_of_getElem? (i := 921) (by decide +kernel), List.mem_of_getElem? (i := 1287) (by decide +kernel), List.mem_of_getElem? (i := 1288) (by decide +kernel)⟩
theorem lw_p63 : lw_okq (⟨"BellHoursModel", "cools", "(I)V"⟩, 65) := ⟨⟨by decide +kernel, by decide +kernel⟩, List.mem_of_getElem? (i := 921) (by decide +kernel), List.mem_of_getElem? (i := 1291) (by decide +kernel), List.mem_of_getElem? (i := 1292) (by decide +kernel)⟩
def lw_privs_4 : List (MethodName × Nat) := [(⟨"BellHoursModel", "readsCondition", "()Z"⟩, 65), (⟨"BellHoursModel", "readsCompared", "()Z"⟩, 65), (⟨"BellHoursModel", "endsPiece", "()V"⟩, 65), (⟨"BellHoursModel", "lands", "(Z)V"⟩, 65), (⟨"BellHoursModel", "jumps", "(I)V"⟩, 65), (⟨"BellHoursModel", "takes", "(I)Z"⟩, 65), (⟨"BellHoursModel", "runs", "(I)V"⟩, 65), (⟨"BellHoursModel", "findsAt", "(I)V"⟩, 65), (⟨"BellHoursModel", "actsAll", "(I)I"⟩, 65), (⟨"BellHoursModel", "acts", "(II)I"⟩, 65), (⟨"BellHoursModel", "feels", "(II)V"⟩, 65), (⟨"BellHoursModel", "isBarred", "()Z"⟩, 65), (⟨"BellHoursModel", "comesTo", "(II)I"⟩, 65), (⟨"BellHoursModel", "byLaw", "(IIII)I"⟩, 65), (⟨"BellHoursModel", "finesOf", "(II)I"⟩, 65), (⟨"BellHoursModel", "cools", "(I)V"⟩, 65)]
theorem lw_r4 : ∀ q ∈ lw_privs_4, lw_okq q := List.forall_mem_cons.mpr ⟨lw_p48, List.forall_mem_cons.mpr ⟨lw_p49, List.forall_mem_cons.mpr ⟨lw_p50, List.forall_mem_cons.mpr ⟨lw_p51, List.forall_mem_cons.mpr ⟨lw_p52, List.forall_mem_cons.mpr ⟨lw_p53, List.forall_mem_cons.mpr ⟨lw_p54, List.forall_mem_cons.mpr ⟨lw_p55, List.forall_mem_cons.mpr ⟨lw_p56, List.forall_mem_cons.mpr ⟨lw_p57, List.forall_mem_cons.mpr ⟨lw_p58, List.forall_mem_cons.mpr ⟨lw_p59, List.forall_mem_cons.mpr ⟨lw_p60, List.forall_mem_cons.mpr ⟨lw_p61, List.forall_mem_cons.mpr ⟨lw_p62, List.forall_mem_cons.mpr ⟨lw_p63, fun _ h => absurd h List.not_mem_nil⟩⟩⟩⟩⟩⟩⟩⟩⟩⟩⟩⟩⟩⟩⟩⟩
theorem lw_p64 : lw_okq (⟨"BellHoursModel", "valueOf", "(I)I"⟩, 65) := ⟨⟨by decide +kernel, by decide +kernel⟩, List.mem_of_getElem? (i := 921) (by decide +kernel), List.mem_of_getElem? (i := 1304) (by decide +kernel), List.mem_of_getElem? (i := 1305) (by decide +kernel)⟩
theorem lw_p65 : lw_okq (⟨"BellHoursModel", "sumOf", "(II)I"⟩, 65) := ⟨⟨by decide +kernel, by decide +kernel⟩, List.mem_of_getElem? (i := 921) (by decide +kernel), List.mem_of_getElem? (i := 1308) (by decide +kernel), List.mem_of_getElem? (i := 1309) (by decide +kernel)⟩
theorem lw_p66 : lw_okq (⟨"BellHoursModel", "ordersBy", "(III)V"⟩, 65) := ⟨⟨by decide +kernel, by decide +kernel⟩, List.mem_of_getElem? (i := 921) (by decide +kernel), List.mem_of_getElem? (i := 1317) (by decide +kernel), List.mem_of_getElem? (i := 1318) (by decide +kernel)⟩
theorem lw_p67 : lw_okq (⟨"BellHoursModel", "orderGives", "(I)I"⟩, 65) := ⟨⟨by decide +kernel, by decide +kernel⟩, List.mem_of_getElem? (i := 921) (by decide +kernel), List.mem_of_getElem? (i := 1321) (by decide +kernel), List.mem_of_getElem? (i := 1322) (by decide +kernel)⟩
theorem lw_p68 : lw_okq (⟨"BellHoursModel", "canGain", "(II)Z"⟩, 65) := ⟨⟨by decide +kernel, by decide +kernel⟩, List.mem_of_getElem? (i := 921) (by decide +kernel), List.mem_of_getElem? (i := 1337) (by decide +kernel), List.mem_of_getElem? (i := 1338) (by decide +kernel)⟩
theorem lw_p69 : lw_okq (⟨"BellHoursModel", "laysValues", "()V"⟩, 65) := ⟨⟨by decide +kernel, by decide +kernel⟩, List.mem_of_getElem? (i := 921) (by decide +kernel), List.mem_of_getElem? (i := 1341) (by decide +kernel), List.mem_of_getElem? (i := 1342) (by decide +kernel)⟩
theorem lw_p70 : lw_okq (⟨"BellHoursModel", "laysGain", "(II)V"⟩, 65) := ⟨⟨by decide +kernel, by decide +kernel⟩, List.mem_of_getElem? (i := 921) (by decide +kernel), List.mem_of_getElem? (i := 1345) (by decide +kernel), List.mem_of_getElem? (i := 1346) (by decide +kernel)⟩
theorem lw_p71 : lw_okq (⟨"BellHoursModel", "changes", "(II)V"⟩, 65) := ⟨⟨by decide +kernel, by decide +kernel⟩, List.mem_of_getElem? (i := 921) (by decide +kernel), List.mem_of_getElem? (i := 1349) (by decide +kernel), List.mem_of_getElem? (i := 1350) (by decide +kernel)⟩
theorem lw_p72 : lw_okq (⟨"BellHoursModel", "laysBestSwap", "()V"⟩, 65) := ⟨⟨by decide +kernel, by decide +kernel⟩, List.mem_of_getElem? (i := 921) (by decide +kernel), List.mem_of_getElem? (i := 1361) (by decide +kernel), List.mem_of_getElem? (i := 1362) (by decide +kernel)⟩
theorem lw_p73 : lw_okq (⟨"BellHoursModel", "laysMoves", "(III)V"⟩, 65) := ⟨⟨by decide +kernel, by decide +kernel⟩, List.mem_of_getElem? (i := 921) (by decide +kernel), List.mem_of_getElem? (i := 1385) (by decide +kernel), List.mem_of_getElem? (i := 1386) (by decide +kernel)⟩
theorem lw_p74 : lw_okq (⟨"BellHoursModel", "movesBy", "(IIII)I"⟩, 65) := ⟨⟨by decide +kernel, by decide +kernel⟩, List.mem_of_getElem? (i := 921) (by decide +kernel), List.mem_of_getElem? (i := 1390) (by decide +kernel), List.mem_of_getElem? (i := 1391) (by decide +kernel)⟩
theorem lw_p75 : lw_okq (⟨"BellHoursModel", "isHelped", "(II)Z"⟩, 65) := ⟨⟨by decide +kernel, by decide +kernel⟩, List.mem_of_getElem? (i := 921) (by decide +kernel), List.mem_of_getElem? (i := 1394) (by decide +kernel), List.mem_of_getElem? (i := 1395) (by decide +kernel)⟩
theorem lw_p76 : lw_okq (⟨"BellHoursModel", "canLie", "(II)Z"⟩, 65) := ⟨⟨by decide +kernel, by decide +kernel⟩, List.mem_of_getElem? (i := 921) (by decide +kernel), List.mem_of_getElem? (i := 1398) (by decide +kernel), List.mem_of_getElem? (i := 1399) (by decide +kernel)⟩
theorem lw_p77 : lw_okq (⟨"BellHoursModel", "liarsOf", "(I)I"⟩, 65) := ⟨⟨by decide +kernel, by decide +kernel⟩, List.mem_of_getElem? (i := 921) (by decide +kernel), List.mem_of_getElem? (i := 1410) (by decide +kernel), List.mem_of_getElem? (i := 1411) (by decide +kernel)⟩
theorem lw_p78 : lw_okq (⟨"BellHoursModel", "hoursIn", "(III)I"⟩, 65) := ⟨⟨by decide +kernel, by decide +kernel⟩, List.mem_of_getElem? (i := 921) (by decide +kernel), List.mem_of_getElem? (i := 1424) (by decide +kernel), List.mem_of_getElem? (i := 1425) (by decide +kernel)⟩
theorem lw_p79 : lw_okq (⟨"BellHoursModel", "ownedMany", "()I"⟩, 65) := ⟨⟨by decide +kernel, by decide +kernel⟩, List.mem_of_getElem? (i := 921) (by decide +kernel), List.mem_of_getElem? (i := 1442) (by decide +kernel), List.mem_of_getElem? (i := 1443) (by decide +kernel)⟩
def lw_privs_5 : List (MethodName × Nat) := [(⟨"BellHoursModel", "valueOf", "(I)I"⟩, 65), (⟨"BellHoursModel", "sumOf", "(II)I"⟩, 65), (⟨"BellHoursModel", "ordersBy", "(III)V"⟩, 65), (⟨"BellHoursModel", "orderGives", "(I)I"⟩, 65), (⟨"BellHoursModel", "canGain", "(II)Z"⟩, 65), (⟨"BellHoursModel", "laysValues", "()V"⟩, 65), (⟨"BellHoursModel", "laysGain", "(II)V"⟩, 65), (⟨"BellHoursModel", "changes", "(II)V"⟩, 65), (⟨"BellHoursModel", "laysBestSwap", "()V"⟩, 65), (⟨"BellHoursModel", "laysMoves", "(III)V"⟩, 65), (⟨"BellHoursModel", "movesBy", "(IIII)I"⟩, 65), (⟨"BellHoursModel", "isHelped", "(II)Z"⟩, 65), (⟨"BellHoursModel", "canLie", "(II)Z"⟩, 65), (⟨"BellHoursModel", "liarsOf", "(I)I"⟩, 65), (⟨"BellHoursModel", "hoursIn", "(III)I"⟩, 65), (⟨"BellHoursModel", "ownedMany", "()I"⟩, 65)]
theorem lw_r5 : ∀ q ∈ lw_privs_5, lw_okq q := List.forall_mem_cons.mpr ⟨lw_p64, List.forall_mem_cons.mpr ⟨lw_p65, List.forall_mem_cons.mpr ⟨lw_p66, List.forall_mem_cons.mpr ⟨lw_p67, List.forall_mem_cons.mpr ⟨lw_p68, List.forall_mem_cons.mpr ⟨lw_p69, List.forall_mem_cons.mpr ⟨lw_p70, List.forall_mem_cons.mpr ⟨lw_p71, List.forall_mem_cons.mpr ⟨lw_p72, List.forall_mem_cons.mpr ⟨lw_p73, List.forall_mem_cons.mpr ⟨lw_p74, List.forall_mem_cons.mpr ⟨lw_p75, List.forall_mem_cons.mpr ⟨lw_p76, List.forall_mem_cons.mpr ⟨lw_p77, List.forall_mem_cons.mpr ⟨lw_p78, List.forall_mem_cons.mpr ⟨lw_p79, fun _ h => absurd h List.not_mem_nil⟩⟩⟩⟩⟩⟩⟩⟩⟩⟩⟩⟩⟩⟩⟩⟩
theorem lw_p80 : lw_okq (⟨"BellHoursModel", "tapeNumber", "(I)I"⟩, 65) := ⟨⟨by decide +kernel, by decide +kernel⟩, List.mem_of_getElem? (i := 921) (by decide +kernel), List.mem_of_getElem? (i := 1461) (by decide +kernel), List.mem_of_getElem? (i := 1462) (by decide +kernel)⟩
def lw_privs_6 : List (MethodName × Nat) := [(⟨"BellHoursModel", "tapeNumber", "(I)I"⟩, 65)]
theorem lw_r6 : ∀ q ∈ lw_privs_6, lw_okq q := List.forall_mem_cons.mpr ⟨lw_p80, fun _ h => absurd h List.not_mem_nil⟩
def lw_privs : List (MethodName × Nat) := lw_privs_1 ++ (lw_privs_2 ++ (lw_privs_3 ++ (lw_privs_4 ++ (lw_privs_5 ++ (lw_privs_6)))))
def lw_tbl : List Cond := k2_sels lw_privs ++ tables_1
theorem lw_privs_ok : ∀ q ∈ lw_privs, lw_okq q := by
  show ∀ q ∈ lw_privs_1 ++ (lw_privs_2 ++ (lw_privs_3 ++ (lw_privs_4 ++ (lw_privs_5 ++ (lw_privs_6))))), lw_okq q
  exact List.forall_mem_append.mpr ⟨lw_r1, List.forall_mem_append.mpr ⟨lw_r2, List.forall_mem_append.mpr ⟨lw_r3, List.forall_mem_append.mpr ⟨lw_r4, List.forall_mem_append.mpr ⟨lw_r5, lw_r6⟩⟩⟩⟩⟩
def RX0 : String := "BellHours$Day"
def TX0 : u_T := fun k => match k with
  | 0 => ("BellHours$Day", "house", "LBellHours$House;", true)
  | 1 => ("BellHours$Day", "law", "LBellHours$Law;", true)
  | 2 => ("BellHours$Day", "scene", "LBellHours$Scene;", true)
  | 3 => ("BellHours$Day", "owners", "[I", true)
  | 4 => ("BellHours$Day", "found", "[I", true)
  | 5 => ("BellHours$Day", "worths", "[I", true)
  | 6 => ("BellHours$Day", "fines", "[I", true)
  | 7 => ("BellHours$Day", "undone", "[I", true)
  | _ => ("BellHours$Day", "firstUndone", "[I", true)
def tyX0 : Nat → FieldType := fun k => match k with
  | 0 => .object "BellHours$House"
  | 1 => .object "BellHours$Law"
  | 2 => .object "BellHours$Scene"
  | 3 => .array .int
  | 4 => .array .int
  | 5 => .array .int
  | 6 => .array .int
  | 7 => .array .int
  | _ => .array .int
theorem nmX0 : ∀ a, a < 9 → ∀ b, b < 9 → a ≠ b → (TX0 a).2.1 ≠ (TX0 b).2.1 := by decide +kernel
theorem tyX0_ok : ∀ k, k < 9 → parseFieldDescriptor (TX0 k).2.2.1 = some (tyX0 k) := by decide +kernel
abbrev cX0_init : ByteArray := prog_2_method_1_code
def yX0_init : MethodName := ⟨RX0, "<init>", "(LBellHours$House;LBellHours$Law;LBellHours$Scene;)V"⟩
abbrev cX0_begin : ByteArray := prog_2_method_2_code
def yX0_begin : MethodName := ⟨RX0, "begin", "()V"⟩
abbrev cX0_beginLike : ByteArray := prog_2_method_3_code
def yX0_beginLike : MethodName := ⟨RX0, "beginLike", "(LBellHours$Day;)V"⟩
abbrev cX0_run : ByteArray := prog_2_method_4_code
def yX0_run : MethodName := ⟨RX0, "run", "(ILBellHours$Law;)V"⟩
abbrev cX0_runHour : ByteArray := prog_2_method_5_code
def yX0_runHour : MethodName := ⟨RX0, "runHour", "(ILBellHours$Law;)V"⟩
abbrev cX0_note : ByteArray := prog_2_method_6_code
def yX0_note : MethodName := ⟨RX0, "note", "(III)V"⟩
abbrev cX0_comesTo : ByteArray := prog_2_method_7_code
def yX0_comesTo : MethodName := ⟨RX0, "comesTo", "(I)I"⟩
abbrev cX0_valueOf : ByteArray := prog_2_method_8_code
def yX0_valueOf : MethodName := ⟨RX0, "valueOf", "(I)I"⟩
abbrev cX0_sumFor : ByteArray := prog_2_method_9_code
def yX0_sumFor : MethodName := ⟨RX0, "sumFor", "(I[I)I"⟩
def RX1 : String := "BellHours$Hiding"
def TX1 : u_T := fun k => match k with
  | 0 => ("BellHours$Hiding", "owners", "[I", true)
  | 1 => ("BellHours$Hiding", "looks", "[I", true)
  | 2 => ("BellHours$Hiding", "costs", "[I", true)
  | 3 => ("BellHours$Hiding", "rooms", "[I", true)
  | _ => ("BellHours$Hiding", "moves", "I", false)
def tyX1 : Nat → FieldType := fun k => match k with
  | 0 => .array .int
  | 1 => .array .int
  | 2 => .array .int
  | 3 => .array .int
  | _ => .int
theorem nmX1 : ∀ a, a < 5 → ∀ b, b < 5 → a ≠ b → (TX1 a).2.1 ≠ (TX1 b).2.1 := by decide +kernel
theorem tyX1_ok : ∀ k, k < 5 → parseFieldDescriptor (TX1 k).2.2.1 = some (tyX1 k) := by decide +kernel
abbrev cX1_init : ByteArray := prog_3_method_1_code
def yX1_init : MethodName := ⟨RX1, "<init>", "([I[I)V"⟩
abbrev cX1_seek : ByteArray := prog_3_method_2_code
def yX1_seek : MethodName := ⟨RX1, "seek", "(III)Z"⟩
abbrev cX1_costOf : ByteArray := prog_3_method_3_code
def yX1_costOf : MethodName := ⟨RX1, "costOf", "(IIII)I"⟩
abbrev cX1_bestRoom : ByteArray := prog_3_method_4_code
def yX1_bestRoom : MethodName := ⟨RX1, "bestRoom", "(III)I"⟩
abbrev cX1_costWith : ByteArray := prog_3_method_5_code
def yX1_costWith : MethodName := ⟨RX1, "costWith", "(IIII)I"⟩
def RX2 : String := "BellHours$House"
def TX2 : u_T := fun k => match k with
  | 0 => ("BellHours$House", "owners", "[I", true)
  | 1 => ("BellHours$House", "rooms", "[I", true)
  | 2 => ("BellHours$House", "acts", "[I", true)
  | 3 => ("BellHours$House", "actCounts", "[I", true)
  | _ => ("BellHours$House", "x", "I", false)
def tyX2 : Nat → FieldType := fun k => match k with
  | 0 => .array .int
  | 1 => .array .int
  | 2 => .array .int
  | 3 => .array .int
  | _ => .int
theorem nmX2 : ∀ a, a < 5 → ∀ b, b < 5 → a ≠ b → (TX2 a).2.1 ≠ (TX2 b).2.1 := by decide +kernel
theorem tyX2_ok : ∀ k, k < 5 → parseFieldDescriptor (TX2 k).2.2.1 = some (tyX2 k) := by decide +kernel
abbrev cX2_init : ByteArray := prog_4_method_1_code
def yX2_init : MethodName := ⟨RX2, "<init>", "()V"⟩
abbrev cX2_takeOver : ByteArray := prog_4_method_2_code
def yX2_takeOver : MethodName := ⟨RX2, "takeOver", "(LBellHours$House;)V"⟩
abbrev cX2_addAct : ByteArray := prog_4_method_3_code
def yX2_addAct : MethodName := ⟨RX2, "addAct", "(IIII)V"⟩
abbrev cX2_actAt : ByteArray := prog_4_method_4_code
def yX2_actAt : MethodName := ⟨RX2, "actAt", "(II)I"⟩
abbrev cX2_ownedHours : ByteArray := prog_4_method_5_code
def yX2_ownedHours : MethodName := ⟨RX2, "ownedHours", "()I"⟩
abbrev cX2_hoursIn : ByteArray := prog_4_method_6_code
def yX2_hoursIn : MethodName := ⟨RX2, "hoursIn", "(III)I"⟩
abbrev cX2_exchange : ByteArray := prog_4_method_7_code
def yX2_exchange : MethodName := ⟨RX2, "exchange", "(II)V"⟩
abbrev cX2_drawHour : ByteArray := prog_4_method_8_code
def yX2_drawHour : MethodName := ⟨RX2, "drawHour", "()V"⟩
abbrev cX2_bequeath : ByteArray := prog_4_method_9_code
def yX2_bequeath : MethodName := ⟨RX2, "bequeath", "(I)I"⟩
abbrev cX2_heirOf : ByteArray := prog_4_method_10_code
def yX2_heirOf : MethodName := ⟨RX2, "heirOf", "(II)I"⟩
abbrev cX2_shareOf : ByteArray := prog_4_method_11_code
def yX2_shareOf : MethodName := ⟨RX2, "shareOf", "(IIII)I"⟩
def RX3 : String := "BellHours$Law"
def TX3 : u_T := fun k => match k with
  | 0 => ("BellHours$Law", "clauses", "I", false)
  | 1 => ("BellHours$Law", "size", "I", false)
  | 2 => ("BellHours$Law", "signs", "[C", true)
  | 3 => ("BellHours$Law", "with", "[I", true)
  | 4 => ("BellHours$Law", "numberFrom", "[I", true)
  | 5 => ("BellHours$Law", "testFrom", "[I", true)
  | 6 => ("BellHours$Law", "testTo", "[I", true)
  | 7 => ("BellHours$Law", "ofLetter", "[I", true)
  | 8 => ("BellHours$Law", "letterCounts", "[I", true)
  | _ => ("BellHours$Law", "pile", "[I", true)
def tyX3 : Nat → FieldType := fun k => match k with
  | 0 => .int
  | 1 => .int
  | 2 => .array .char
  | 3 => .array .int
  | 4 => .array .int
  | 5 => .array .int
  | 6 => .array .int
  | 7 => .array .int
  | 8 => .array .int
  | _ => .array .int
theorem nmX3 : ∀ a, a < 10 → ∀ b, b < 10 → a ≠ b → (TX3 a).2.1 ≠ (TX3 b).2.1 := by decide +kernel
theorem tyX3_ok : ∀ k, k < 10 → parseFieldDescriptor (TX3 k).2.2.1 = some (tyX3 k) := by decide +kernel
abbrev cX3_init : ByteArray := prog_5_method_1_code
def yX3_init : MethodName := ⟨RX3, "<init>", "()V"⟩
abbrev cX3_clear : ByteArray := prog_5_method_2_code
def yX3_clear : MethodName := ⟨RX3, "clear", "()V"⟩
abbrev cX3_takeOver : ByteArray := prog_5_method_3_code
def yX3_takeOver : MethodName := ⟨RX3, "takeOver", "(LBellHours$Law;)V"⟩
abbrev cX3_put : ByteArray := prog_5_method_4_code
def yX3_put : MethodName := ⟨RX3, "put", "(CI)V"⟩
abbrev cX3_passFrom : ByteArray := prog_5_method_5_code
def yX3_passFrom : MethodName := ⟨RX3, "passFrom", "(I)V"⟩
abbrev cX3_addClause : ByteArray := prog_5_method_6_code
def yX3_addClause : MethodName := ⟨RX3, "addClause", "(III)V"⟩
abbrev cX3_asks : ByteArray := prog_5_method_7_code
def yX3_asks : MethodName := ⟨RX3, "asks", "(I[I)I"⟩
abbrev cX3_reckon : ByteArray := prog_5_method_8_code
def yX3_reckon : MethodName := ⟨RX3, "reckon", "(II[I)I"⟩
abbrev cX3_isDivision : ByteArray := prog_5_method_9_code
def yX3_isDivision : MethodName := ⟨RX3, "isDivision", "(C)Z"⟩
abbrev cX3_joined : ByteArray := prog_5_method_10_code
def yX3_joined : MethodName := ⟨RX3, "joined", "(CII)I"⟩
def RX4 : String := "BellHours$Orders"
def TX4 : u_T := fun k => match k with
  | 0 => ("BellHours$Orders", "house", "LBellHours$House;", true)
  | 1 => ("BellHours$Orders", "law", "LBellHours$Law;", true)
  | 2 => ("BellHours$Orders", "scene", "LBellHours$Scene;", true)
  | 3 => ("BellHours$Orders", "row", "[I", true)
  | 4 => ("BellHours$Orders", "best", "[I", true)
  | _ => ("BellHours$Orders", "most", "I", false)
def tyX4 : Nat → FieldType := fun k => match k with
  | 0 => .object "BellHours$House"
  | 1 => .object "BellHours$Law"
  | 2 => .object "BellHours$Scene"
  | 3 => .array .int
  | 4 => .array .int
  | _ => .int
theorem nmX4 : ∀ a, a < 6 → ∀ b, b < 6 → a ≠ b → (TX4 a).2.1 ≠ (TX4 b).2.1 := by decide +kernel
theorem tyX4_ok : ∀ k, k < 6 → parseFieldDescriptor (TX4 k).2.2.1 = some (tyX4 k) := by decide +kernel
abbrev cX4_init : ByteArray := prog_6_method_1_code
def yX4_init : MethodName := ⟨RX4, "<init>", "(LBellHours$House;LBellHours$Law;LBellHours$Scene;)V"⟩
abbrev cX4_seek : ByteArray := prog_6_method_2_code
def yX4_seek : MethodName := ⟨RX4, "seek", "(ILBellHours$Day;)V"⟩
abbrev cX4_tryRow : ByteArray := prog_6_method_3_code
def yX4_tryRow : MethodName := ⟨RX4, "tryRow", "(IILBellHours$Day;)I"⟩
abbrev cX4_nextRow : ByteArray := prog_6_method_4_code
def yX4_nextRow : MethodName := ⟨RX4, "nextRow", "(I)Z"⟩
abbrev cX4_exchangeAt : ByteArray := prog_6_method_5_code
def yX4_exchangeAt : MethodName := ⟨RX4, "exchangeAt", "(II)V"⟩
def RX5 : String := "BellHours$Reader"
def TX5 : u_T := fun k => match k with
  | 0 => ("BellHours$Reader", "text", "[I", true)
  | 1 => ("BellHours$Reader", "law", "LBellHours$Law;", true)
  | 2 => ("BellHours$Reader", "size", "I", false)
  | 3 => ("BellHours$Reader", "at", "I", false)
  | 4 => ("BellHours$Reader", "sign", "C", false)
  | _ => ("BellHours$Reader", "fault", "I", false)
def tyX5 : Nat → FieldType := fun k => match k with
  | 0 => .array .int
  | 1 => .object "BellHours$Law"
  | 2 => .int
  | 3 => .int
  | 4 => .char
  | _ => .int
theorem nmX5 : ∀ a, a < 6 → ∀ b, b < 6 → a ≠ b → (TX5 a).2.1 ≠ (TX5 b).2.1 := by decide +kernel
theorem tyX5_ok : ∀ k, k < 6 → parseFieldDescriptor (TX5 k).2.2.1 = some (tyX5 k) := by decide +kernel
abbrev cX5_init : ByteArray := prog_7_method_1_code
def yX5_init : MethodName := ⟨RX5, "<init>", "([ILBellHours$Law;)V"⟩
abbrev cX5_read : ByteArray := prog_7_method_2_code
def yX5_read : MethodName := ⟨RX5, "read", "(I)I"⟩
abbrev cX5_next : ByteArray := prog_7_method_3_code
def yX5_next : MethodName := ⟨RX5, "next", "()V"⟩
abbrev cX5_fails : ByteArray := prog_7_method_4_code
def yX5_fails : MethodName := ⟨RX5, "fails", "(I)Z"⟩
abbrev cX5_passes : ByteArray := prog_7_method_5_code
def yX5_passes : MethodName := ⟨RX5, "passes", "(C)Z"⟩
abbrev cX5_opens : ByteArray := prog_7_method_6_code
def yX5_opens : MethodName := ⟨RX5, "opens", "(CI)Z"⟩
abbrev cX5_readClause : ByteArray := prog_7_method_7_code
def yX5_readClause : MethodName := ⟨RX5, "readClause", "(I)Z"⟩
abbrev cX5_readBracket : ByteArray := prog_7_method_8_code
def yX5_readBracket : MethodName := ⟨RX5, "readBracket", "(I)Z"⟩
abbrev cX5_readCondition : ByteArray := prog_7_method_9_code
def yX5_readCondition : MethodName := ⟨RX5, "readCondition", "(I)Z"⟩
abbrev cX5_readPart : ByteArray := prog_7_method_10_code
def yX5_readPart : MethodName := ⟨RX5, "readPart", "(I)Z"⟩
abbrev cX5_readPiece : ByteArray := prog_7_method_11_code
def yX5_readPiece : MethodName := ⟨RX5, "readPiece", "(I)Z"⟩
abbrev cX5_comparison : ByteArray := prog_7_method_12_code
def yX5_comparison : MethodName := ⟨RX5, "comparison", "()Z"⟩
abbrev cX5_readSum : ByteArray := prog_7_method_13_code
def yX5_readSum : MethodName := ⟨RX5, "readSum", "(I)Z"⟩
abbrev cX5_readProduct : ByteArray := prog_7_method_14_code
def yX5_readProduct : MethodName := ⟨RX5, "readProduct", "(I)Z"⟩
abbrev cX5_readFactor : ByteArray := prog_7_method_15_code
def yX5_readFactor : MethodName := ⟨RX5, "readFactor", "(I)Z"⟩
abbrev cX5_readNumber : ByteArray := prog_7_method_16_code
def yX5_readNumber : MethodName := ⟨RX5, "readNumber", "()Z"⟩
def RX6 : String := "BellHours$Scene"
def TX6 : u_T := fun k => match k with
  | 0 => ("BellHours$Scene", "cells", "[I", true)
  | _ => ("BellHours$Scene", "seen", "[I", true)
def tyX6 : Nat → FieldType := fun k => match k with
  | 0 => .array .int
  | _ => .array .int
theorem nmX6 : ∀ a, a < 2 → ∀ b, b < 2 → a ≠ b → (TX6 a).2.1 ≠ (TX6 b).2.1 := by decide +kernel
theorem tyX6_ok : ∀ k, k < 2 → parseFieldDescriptor (TX6 k).2.2.1 = some (tyX6 k) := by decide +kernel
abbrev cX6_init : ByteArray := prog_8_method_1_code
def yX6_init : MethodName := ⟨RX6, "<init>", "()V"⟩
abbrev cX6_enter : ByteArray := prog_8_method_2_code
def yX6_enter : MethodName := ⟨RX6, "enter", "(ILBellHours$Day;)V"⟩
abbrev cX6_look : ByteArray := prog_8_method_3_code
def yX6_look : MethodName := ⟨RX6, "look", "(III)V"⟩
abbrev cX6_perform : ByteArray := prog_8_method_4_code
def yX6_perform : MethodName := ⟨RX6, "perform", "(LBellHours$Law;[II)I"⟩
abbrev cX6_change : ByteArray := prog_8_method_5_code
def yX6_change : MethodName := ⟨RX6, "change", "(III)V"⟩
abbrev cX6_finesOfAll : ByteArray := prog_8_method_6_code
def yX6_finesOfAll : MethodName := ⟨RX6, "finesOfAll", "(LBellHours$Law;)I"⟩
abbrev cX6_cool : ByteArray := prog_8_method_7_code
def yX6_cool : MethodName := ⟨RX6, "cool", "(LBellHours$Law;)V"⟩
def RX7 : String := "BellHours$Tape"
def TX7 : u_T := fun k => match k with
  | 0 => ("BellHours$Tape", "bytes", "[I", true)
  | _ => ("BellHours$Tape", "size", "I", false)
def tyX7 : Nat → FieldType := fun k => match k with
  | 0 => .array .int
  | _ => .int
theorem nmX7 : ∀ a, a < 2 → ∀ b, b < 2 → a ≠ b → (TX7 a).2.1 ≠ (TX7 b).2.1 := by decide +kernel
theorem tyX7_ok : ∀ k, k < 2 → parseFieldDescriptor (TX7 k).2.2.1 = some (tyX7 k) := by decide +kernel
abbrev cX7_init : ByteArray := prog_9_method_1_code
def yX7_init : MethodName := ⟨RX7, "<init>", "()V"⟩
abbrev cX7_add : ByteArray := prog_9_method_2_code
def yX7_add : MethodName := ⟨RX7, "add", "(I)V"⟩
abbrev cX7_numberAt : ByteArray := prog_9_method_3_code
def yX7_numberAt : MethodName := ⟨RX7, "numberAt", "(I)I"⟩
def RX8 : String := "BellHours$Trade"
def TX8 : u_T := fun k => match k with
  | 0 => ("BellHours$Trade", "day", "LBellHours$Day;", true)
  | 1 => ("BellHours$Trade", "trial", "LBellHours$Day;", true)
  | 2 => ("BellHours$Trade", "law", "LBellHours$Law;", true)
  | 3 => ("BellHours$Trade", "stands", "Z", false)
  | 4 => ("BellHours$Trade", "one", "I", false)
  | 5 => ("BellHours$Trade", "other", "I", false)
  | _ => ("BellHours$Trade", "together", "I", false)
def tyX8 : Nat → FieldType := fun k => match k with
  | 0 => .object "BellHours$Day"
  | 1 => .object "BellHours$Day"
  | 2 => .object "BellHours$Law"
  | 3 => .boolean
  | 4 => .int
  | 5 => .int
  | _ => .int
theorem nmX8 : ∀ a, a < 7 → ∀ b, b < 7 → a ≠ b → (TX8 a).2.1 ≠ (TX8 b).2.1 := by decide +kernel
theorem tyX8_ok : ∀ k, k < 7 → parseFieldDescriptor (TX8 k).2.2.1 = some (tyX8 k) := by decide +kernel
abbrev cX8_init : ByteArray := prog_10_method_1_code
def yX8_init : MethodName := ⟨RX8, "<init>", "(LBellHours$Day;LBellHours$Day;LBellHours$Law;)V"⟩
abbrev cX8_priceOf : ByteArray := prog_10_method_2_code
def yX8_priceOf : MethodName := ⟨RX8, "priceOf", "(I)I"⟩
abbrev cX8_worthOfAhead : ByteArray := prog_10_method_3_code
def yX8_worthOfAhead : MethodName := ⟨RX8, "worthOfAhead", "(I)I"⟩
abbrev cX8_gainBySwap : ByteArray := prog_10_method_4_code
def yX8_gainBySwap : MethodName := ⟨RX8, "gainBySwap", "(III)I"⟩
abbrev cX8_gainOf : ByteArray := prog_10_method_5_code
def yX8_gainOf : MethodName := ⟨RX8, "gainOf", "(I)I"⟩
abbrev cX8_beginSwapped : ByteArray := prog_10_method_6_code
def yX8_beginSwapped : MethodName := ⟨RX8, "beginSwapped", "(II)I"⟩
abbrev cX8_firstTouched : ByteArray := prog_10_method_7_code
def yX8_firstTouched : MethodName := ⟨RX8, "firstTouched", "(I)I"⟩
abbrev cX8_seek : ByteArray := prog_10_method_8_code
def yX8_seek : MethodName := ⟨RX8, "seek", "()Z"⟩
abbrev cX8_areOfTwo : ByteArray := prog_10_method_9_code
def yX8_areOfTwo : MethodName := ⟨RX8, "areOfTwo", "(II)Z"⟩
abbrev cX8_weigh : ByteArray := prog_10_method_10_code
def yX8_weigh : MethodName := ⟨RX8, "weigh", "(II)V"⟩
def RX9 : String := "BellHours$Vase"
def TX9 : u_T := fun k => match k with
  | 0 => ("BellHours$Vase", "owners", "[I", true)
  | _ => ("BellHours$Vase", "words", "[I", true)
def tyX9 : Nat → FieldType := fun k => match k with
  | 0 => .array .int
  | _ => .array .int
theorem nmX9 : ∀ a, a < 2 → ∀ b, b < 2 → a ≠ b → (TX9 a).2.1 ≠ (TX9 b).2.1 := by decide +kernel
theorem tyX9_ok : ∀ k, k < 2 → parseFieldDescriptor (TX9 k).2.2.1 = some (tyX9 k) := by decide +kernel
abbrev cX9_init : ByteArray := prog_11_method_1_code
def yX9_init : MethodName := ⟨RX9, "<init>", "([I[I)V"⟩
abbrev cX9_hoursThatHold : ByteArray := prog_11_method_2_code
def yX9_hoursThatHold : MethodName := ⟨RX9, "hoursThatHold", "(I)I"⟩
abbrev cX9_liarsIf : ByteArray := prog_11_method_3_code
def yX9_liarsIf : MethodName := ⟨RX9, "liarsIf", "(I)I"⟩
abbrev cX9_isUntrue : ByteArray := prog_11_method_4_code
def yX9_isUntrue : MethodName := ⟨RX9, "isUntrue", "(II)Z"⟩
abbrev cX9_onlyOwnerOf : ByteArray := prog_11_method_5_code
def yX9_onlyOwnerOf : MethodName := ⟨RX9, "onlyOwnerOf", "(I)I"⟩
def RX10 : String := "BellHours"
def TX10 : u_T := fun k => match k with
  | 0 => ("BellHours", "house", "LBellHours$House;", true)
  | 1 => ("BellHours", "kept", "LBellHours$House;", true)
  | 2 => ("BellHours", "wasKept", "Z", false)
  | 3 => ("BellHours", "tape", "LBellHours$Tape;", true)
  | 4 => ("BellHours", "laws", "[LBellHours$Law;", true)
  | 5 => ("BellHours", "spare", "LBellHours$Law;", true)
  | 6 => ("BellHours", "reader", "LBellHours$Reader;", true)
  | 7 => ("BellHours", "looks", "[I", true)
  | 8 => ("BellHours", "words", "[I", true)
  | 9 => ("BellHours", "scene", "LBellHours$Scene;", true)
  | 10 => ("BellHours", "day", "LBellHours$Day;", true)
  | 11 => ("BellHours", "trial", "LBellHours$Day;", true)
  | 12 => ("BellHours", "dayStands", "Z", false)
  | 13 => ("BellHours", "trade", "LBellHours$Trade;", true)
  | 14 => ("BellHours", "orders", "LBellHours$Orders;", true)
  | 15 => ("BellHours", "hiding", "LBellHours$Hiding;", true)
  | _ => ("BellHours", "vase", "LBellHours$Vase;", true)
def tyX10 : Nat → FieldType := fun k => match k with
  | 0 => .object "BellHours$House"
  | 1 => .object "BellHours$House"
  | 2 => .boolean
  | 3 => .object "BellHours$Tape"
  | 4 => .array (.object "BellHours$Law")
  | 5 => .object "BellHours$Law"
  | 6 => .object "BellHours$Reader"
  | 7 => .array .int
  | 8 => .array .int
  | 9 => .object "BellHours$Scene"
  | 10 => .object "BellHours$Day"
  | 11 => .object "BellHours$Day"
  | 12 => .boolean
  | 13 => .object "BellHours$Trade"
  | 14 => .object "BellHours$Orders"
  | 15 => .object "BellHours$Hiding"
  | _ => .object "BellHours$Vase"
theorem nmX10 : ∀ a, a < 17 → ∀ b, b < 17 → a ≠ b → (TX10 a).2.1 ≠ (TX10 b).2.1 := by decide +kernel
theorem tyX10_ok : ∀ k, k < 17 → parseFieldDescriptor (TX10 k).2.2.1 = some (tyX10 k) := by decide +kernel
abbrev cX10_init : ByteArray := prog_1_method_1_code
def yX10_init : MethodName := ⟨RX10, "<init>", "()V"⟩
abbrev cX10_own : ByteArray := prog_1_method_2_code
def yX10_own : MethodName := ⟨RX10, "own", "(II)Z"⟩
abbrev cX10_room : ByteArray := prog_1_method_3_code
def yX10_room : MethodName := ⟨RX10, "room", "(IIII)Z"⟩
abbrev cX10_feed : ByteArray := prog_1_method_4_code
def yX10_feed : MethodName := ⟨RX10, "feed", "(IIIII)I"⟩
abbrev cX10_law : ByteArray := prog_1_method_5_code
def yX10_law : MethodName := ⟨RX10, "law", "(II)I"⟩
abbrev cX10_act : ByteArray := prog_1_method_6_code
def yX10_act : MethodName := ⟨RX10, "act", "(IIII)I"⟩
abbrev cX10_noActs : ByteArray := prog_1_method_7_code
def yX10_noActs : MethodName := ⟨RX10, "noActs", "(I)I"⟩
abbrev cX10_found : ByteArray := prog_1_method_8_code
def yX10_found : MethodName := ⟨RX10, "found", "(III)I"⟩
abbrev cX10_hourIs : ByteArray := prog_1_method_9_code
def yX10_hourIs : MethodName := ⟨RX10, "hourIs", "(II)I"⟩
abbrev cX10_value : ByteArray := prog_1_method_10_code
def yX10_value : MethodName := ⟨RX10, "value", "(II)I"⟩
abbrev cX10_bestOrder : ByteArray := prog_1_method_11_code
def yX10_bestOrder : MethodName := ⟨RX10, "bestOrder", "(II)I"⟩
abbrev cX10_price : ByteArray := prog_1_method_12_code
def yX10_price : MethodName := ⟨RX10, "price", "(I)I"⟩
abbrev cX10_neighbour : ByteArray := prog_1_method_13_code
def yX10_neighbour : MethodName := ⟨RX10, "neighbour", "(I)I"⟩
abbrev cX10_gain : ByteArray := prog_1_method_14_code
def yX10_gain : MethodName := ⟨RX10, "gain", "(III)I"⟩
abbrev cX10_swap : ByteArray := prog_1_method_15_code
def yX10_swap : MethodName := ⟨RX10, "swap", "(II)Z"⟩
abbrev cX10_bestSwap : ByteArray := prog_1_method_16_code
def yX10_bestSwap : MethodName := ⟨RX10, "bestSwap", "(I)I"⟩
abbrev cX10_tillNone : ByteArray := prog_1_method_17_code
def yX10_tillNone : MethodName := ⟨RX10, "tillNone", "()I"⟩
abbrev cX10_finesBy : ByteArray := prog_1_method_18_code
def yX10_finesBy : MethodName := ⟨RX10, "finesBy", "(I)I"⟩
abbrev cX10_touching : ByteArray := prog_1_method_19_code
def yX10_touching : MethodName := ⟨RX10, "touching", "(II)I"⟩
abbrev cX10_searches : ByteArray := prog_1_method_20_code
def yX10_searches : MethodName := ⟨RX10, "searches", "(II)Z"⟩
abbrev cX10_hidden : ByteArray := prog_1_method_21_code
def yX10_hidden : MethodName := ⟨RX10, "hidden", "(IIII)I"⟩
abbrev cX10_says : ByteArray := prog_1_method_22_code
def yX10_says : MethodName := ⟨RX10, "says", "(II)Z"⟩
abbrev cX10_holds : ByteArray := prog_1_method_23_code
def yX10_holds : MethodName := ⟨RX10, "holds", "(I)I"⟩
abbrev cX10_guilty : ByteArray := prog_1_method_24_code
def yX10_guilty : MethodName := ⟨RX10, "guilty", "(I)I"⟩
abbrev cX10_guest : ByteArray := prog_1_method_25_code
def yX10_guest : MethodName := ⟨RX10, "guest", "(IIII)I"⟩
abbrev cX10_dies : ByteArray := prog_1_method_26_code
def yX10_dies : MethodName := ⟨RX10, "dies", "(I)I"⟩
abbrev cX10_seed : ByteArray := prog_1_method_27_code
def yX10_seed : MethodName := ⟨RX10, "seed", "(I)Z"⟩
abbrev cX10_draw : ByteArray := prog_1_method_28_code
def yX10_draw : MethodName := ⟨RX10, "draw", "(I)I"⟩
abbrev cX10_keep : ByteArray := prog_1_method_29_code
def yX10_keep : MethodName := ⟨RX10, "keep", "()I"⟩
abbrev cX10_undo : ByteArray := prog_1_method_30_code
def yX10_undo : MethodName := ⟨RX10, "undo", "()Z"⟩
abbrev cX10_check : ByteArray := prog_1_method_31_code
def yX10_check : MethodName := ⟨RX10, "check", "(II)I"⟩
abbrev cX10_count : ByteArray := prog_1_method_32_code
def yX10_count : MethodName := ⟨RX10, "count", "(I)I"⟩
abbrev cX10_firstWrongStore : ByteArray := prog_1_method_33_code
def yX10_firstWrongStore : MethodName := ⟨RX10, "firstWrongStore", "(II)I"⟩
abbrev cX10_forgetDay : ByteArray := prog_1_method_34_code
def yX10_forgetDay : MethodName := ⟨RX10, "forgetDay", "()V"⟩
abbrev cX10_runDay : ByteArray := prog_1_method_35_code
def yX10_runDay : MethodName := ⟨RX10, "runDay", "()V"⟩
abbrev cX10_isOwned : ByteArray := prog_1_method_36_code
def yX10_isOwned : MethodName := ⟨RX10, "isOwned", "(I)Z"⟩
abbrev cX10_isHour : ByteArray := prog_1_method_37_code
def yX10_isHour : MethodName := ⟨RX10, "isHour", "(I)Z"⟩
abbrev cX10_isOwner : ByteArray := prog_1_method_38_code
def yX10_isOwner : MethodName := ⟨RX10, "isOwner", "(I)Z"⟩
abbrev cX10_isRoom : ByteArray := prog_1_method_39_code
def yX10_isRoom : MethodName := ⟨RX10, "isRoom", "(I)Z"⟩
abbrev cX10_isLaw : ByteArray := prog_1_method_40_code
def yX10_isLaw : MethodName := ⟨RX10, "isLaw", "(I)Z"⟩
abbrev cX10_fitsRoom : ByteArray := prog_1_method_41_code
def yX10_fitsRoom : MethodName := ⟨RX10, "fitsRoom", "(I)Z"⟩
abbrev cX10_isStay : ByteArray := prog_1_method_42_code
def yX10_isStay : MethodName := ⟨RX10, "isStay", "(II)Z"⟩
def RX11 : String := "BellHoursModel"
def TX11 : u_T := fun k => match k with
  | 0 => ("BellHoursModel", "x0", "I", false)
  | 1 => ("BellHoursModel", "ownerOf", "[I", true)
  | 2 => ("BellHoursModel", "wordOf", "[I", true)
  | 3 => ("BellHoursModel", "storeOf", "[I", true)
  | 4 => ("BellHoursModel", "dirtOf", "[I", true)
  | 5 => ("BellHoursModel", "heatOf", "[I", true)
  | 6 => ("BellHoursModel", "actMany", "[I", true)
  | 7 => ("BellHoursModel", "actKind", "[I", true)
  | 8 => ("BellHoursModel", "actRoom", "[I", true)
  | 9 => ("BellHoursModel", "actAmount", "[I", true)
  | 10 => ("BellHoursModel", "looksInto", "[I", true)
  | 11 => ("BellHoursModel", "tape", "[B", true)
  | 12 => ("BellHoursModel", "taped", "I", false)
  | 13 => ("BellHoursModel", "place0", "I", false)
  | 14 => ("BellHoursModel", "length0", "I", false)
  | 15 => ("BellHoursModel", "fault", "I", false)
  | 16 => ("BellHoursModel", "open", "I", false)
  | 17 => ("BellHoursModel", "codeMany", "I", false)
  | 18 => ("BellHoursModel", "waiting", "I", false)
  | 19 => ("BellHoursModel", "saidMany", "I", false)
  | 20 => ("BellHoursModel", "number0", "I", false)
  | 21 => ("BellHoursModel", "said", "[I", true)
  | 22 => ("BellHoursModel", "waits", "[I", true)
  | 23 => ("BellHoursModel", "saidLetter", "[I", true)
  | 24 => ("BellHoursModel", "saidFrom", "[I", true)
  | 25 => ("BellHoursModel", "saidHalf", "[I", true)
  | 26 => ("BellHoursModel", "saidTo", "[I", true)
  | 27 => ("BellHoursModel", "codes", "[I", true)
  | 28 => ("BellHoursModel", "clauses", "[I", true)
  | 29 => ("BellHoursModel", "clauseOf", "[I", true)
  | 30 => ("BellHoursModel", "codeFrom", "[I", true)
  | 31 => ("BellHoursModel", "codeHalf", "[I", true)
  | 32 => ("BellHoursModel", "codeTo", "[I", true)
  | 33 => ("BellHoursModel", "stack", "[I", true)
  | 34 => ("BellHoursModel", "facts", "[I", true)
  | 35 => ("BellHoursModel", "storeNow", "[I", true)
  | 36 => ("BellHoursModel", "dirtNow", "[I", true)
  | 37 => ("BellHoursModel", "heatNow", "[I", true)
  | 38 => ("BellHoursModel", "foundStore", "[I", true)
  | 39 => ("BellHoursModel", "foundDirt", "[I", true)
  | 40 => ("BellHoursModel", "foundHeat", "[I", true)
  | 41 => ("BellHoursModel", "worthIn", "[I", true)
  | 42 => ("BellHoursModel", "fineIn", "[I", true)
  | 43 => ("BellHoursModel", "undoneIn", "[I", true)
  | 44 => ("BellHoursModel", "firstUndone", "[I", true)
  | 45 => ("BellHoursModel", "orderNow", "[I", true)
  | 46 => ("BellHoursModel", "bestRow", "[I", true)
  | 47 => ("BellHoursModel", "gain0", "I", false)
  | 48 => ("BellHoursModel", "gain1", "I", false)
  | 49 => ("BellHoursModel", "valueNow", "[I", true)
  | 50 => ("BellHoursModel", "swapA", "I", false)
  | 51 => ("BellHoursModel", "swapB", "I", false)
  | 52 => ("BellHoursModel", "swapMost", "I", false)
  | 53 => ("BellHoursModel", "movesFrom", "[I", true)
  | 54 => ("BellHoursModel", "ownerThen", "[I", true)
  | 55 => ("BellHoursModel", "isKept", "Z", false)
  | 56 => ("BellHoursModel", "keptX", "I", false)
  | 57 => ("BellHoursModel", "keptOwner", "[I", true)
  | 58 => ("BellHoursModel", "keptStore", "[I", true)
  | 59 => ("BellHoursModel", "keptDirt", "[I", true)
  | 60 => ("BellHoursModel", "keptHeat", "[I", true)
  | 61 => ("BellHoursModel", "keptMany", "[I", true)
  | 62 => ("BellHoursModel", "keptKind", "[I", true)
  | 63 => ("BellHoursModel", "keptRoom", "[I", true)
  | _ => ("BellHoursModel", "keptAmount", "[I", true)
def tyX11 : Nat → FieldType := fun k => match k with
  | 0 => .int
  | 1 => .array .int
  | 2 => .array .int
  | 3 => .array .int
  | 4 => .array .int
  | 5 => .array .int
  | 6 => .array .int
  | 7 => .array .int
  | 8 => .array .int
  | 9 => .array .int
  | 10 => .array .int
  | 11 => .array .byte
  | 12 => .int
  | 13 => .int
  | 14 => .int
  | 15 => .int
  | 16 => .int
  | 17 => .int
  | 18 => .int
  | 19 => .int
  | 20 => .int
  | 21 => .array .int
  | 22 => .array .int
  | 23 => .array .int
  | 24 => .array .int
  | 25 => .array .int
  | 26 => .array .int
  | 27 => .array .int
  | 28 => .array .int
  | 29 => .array .int
  | 30 => .array .int
  | 31 => .array .int
  | 32 => .array .int
  | 33 => .array .int
  | 34 => .array .int
  | 35 => .array .int
  | 36 => .array .int
  | 37 => .array .int
  | 38 => .array .int
  | 39 => .array .int
  | 40 => .array .int
  | 41 => .array .int
  | 42 => .array .int
  | 43 => .array .int
  | 44 => .array .int
  | 45 => .array .int
  | 46 => .array .int
  | 47 => .int
  | 48 => .int
  | 49 => .array .int
  | 50 => .int
  | 51 => .int
  | 52 => .int
  | 53 => .array .int
  | 54 => .array .int
  | 55 => .boolean
  | 56 => .int
  | 57 => .array .int
  | 58 => .array .int
  | 59 => .array .int
  | 60 => .array .int
  | 61 => .array .int
  | 62 => .array .int
  | 63 => .array .int
  | _ => .array .int
theorem nmX11 : ∀ a, a < 65 → ∀ b, b < 65 → a ≠ b → (TX11 a).2.1 ≠ (TX11 b).2.1 := by decide +kernel
theorem tyX11_ok : ∀ k, k < 65 → parseFieldDescriptor (TX11 k).2.2.1 = some (tyX11 k) := by decide +kernel
abbrev cX11_init : ByteArray := prog_13_method_1_code
def yX11_init : MethodName := ⟨RX11, "<init>", "()V"⟩
abbrev cX11_in : ByteArray := prog_13_method_2_code
def yX11_in : MethodName := ⟨RX11, "in", "(III)Z"⟩
abbrev cX11_isHour : ByteArray := prog_13_method_3_code
def yX11_isHour : MethodName := ⟨RX11, "isHour", "(I)Z"⟩
abbrev cX11_isOwner : ByteArray := prog_13_method_4_code
def yX11_isOwner : MethodName := ⟨RX11, "isOwner", "(I)Z"⟩
abbrev cX11_isRoom : ByteArray := prog_13_method_5_code
def yX11_isRoom : MethodName := ⟨RX11, "isRoom", "(I)Z"⟩
abbrev cX11_own : ByteArray := prog_13_method_6_code
def yX11_own : MethodName := ⟨RX11, "own", "(II)Z"⟩
abbrev cX11_room : ByteArray := prog_13_method_7_code
def yX11_room : MethodName := ⟨RX11, "room", "(IIII)Z"⟩
abbrev cX11_act : ByteArray := prog_13_method_8_code
def yX11_act : MethodName := ⟨RX11, "act", "(IIII)I"⟩
abbrev cX11_noActs : ByteArray := prog_13_method_9_code
def yX11_noActs : MethodName := ⟨RX11, "noActs", "(I)I"⟩
abbrev cX11_types : ByteArray := prog_13_method_10_code
def yX11_types : MethodName := ⟨RX11, "types", "(I)V"⟩
abbrev cX11_feed : ByteArray := prog_13_method_11_code
def yX11_feed : MethodName := ⟨RX11, "feed", "(IIIII)I"⟩
abbrev cX11_here : ByteArray := prog_13_method_12_code
def yX11_here : MethodName := ⟨RX11, "here", "()I"⟩
abbrev cX11_isDigit : ByteArray := prog_13_method_13_code
def yX11_isDigit : MethodName := ⟨RX11, "isDigit", "()Z"⟩
abbrev cX11_wrongAt : ByteArray := prog_13_method_14_code
def yX11_wrongAt : MethodName := ⟨RX11, "wrongAt", "(II)Z"⟩
abbrev cX11_takes : ByteArray := prog_13_method_15_code
def yX11_takes : MethodName := ⟨RX11, "takes", "(I)Z"⟩
abbrev cX11_readsNumber : ByteArray := prog_13_method_16_code
def yX11_readsNumber : MethodName := ⟨RX11, "readsNumber", "()Z"⟩
abbrev cX11_notes : ByteArray := prog_13_method_17_code
def yX11_notes : MethodName := ⟨RX11, "notes", "(II)V"⟩
abbrev cX11_opens : ByteArray := prog_13_method_18_code
def yX11_opens : MethodName := ⟨RX11, "opens", "(I)Z"⟩
abbrev cX11_top : ByteArray := prog_13_method_19_code
def yX11_top : MethodName := ⟨RX11, "top", "()I"⟩
abbrev cX11_factOf : ByteArray := prog_13_method_20_code
def yX11_factOf : MethodName := ⟨RX11, "factOf", "(I)I"⟩
abbrev cX11_sumSign : ByteArray := prog_13_method_21_code
def yX11_sumSign : MethodName := ⟨RX11, "sumSign", "(I)I"⟩
abbrev cX11_closesSums : ByteArray := prog_13_method_22_code
def yX11_closesSums : MethodName := ⟨RX11, "closesSums", "(Z)V"⟩
abbrev cX11_readsFactor : ByteArray := prog_13_method_23_code
def yX11_readsFactor : MethodName := ⟨RX11, "readsFactor", "()Z"⟩
abbrev cX11_hasOpenSum : ByteArray := prog_13_method_24_code
def yX11_hasOpenSum : MethodName := ⟨RX11, "hasOpenSum", "(I)Z"⟩
abbrev cX11_readsSum : ByteArray := prog_13_method_25_code
def yX11_readsSum : MethodName := ⟨RX11, "readsSum", "()Z"⟩
abbrev cX11_endsPiece : ByteArray := prog_13_method_26_code
def yX11_endsPiece : MethodName := ⟨RX11, "endsPiece", "()V"⟩
abbrev cX11_lands : ByteArray := prog_13_method_27_code
def yX11_lands : MethodName := ⟨RX11, "lands", "(Z)V"⟩
abbrev cX11_jumps : ByteArray := prog_13_method_28_code
def yX11_jumps : MethodName := ⟨RX11, "jumps", "(I)V"⟩
abbrev cX11_readsCompared : ByteArray := prog_13_method_29_code
def yX11_readsCompared : MethodName := ⟨RX11, "readsCompared", "()Z"⟩
abbrev cX11_readsCondition : ByteArray := prog_13_method_30_code
def yX11_readsCondition : MethodName := ⟨RX11, "readsCondition", "()Z"⟩
abbrev cX11_isClause : ByteArray := prog_13_method_31_code
def yX11_isClause : MethodName := ⟨RX11, "isClause", "(I)Z"⟩
abbrev cX11_readsClause : ByteArray := prog_13_method_32_code
def yX11_readsClause : MethodName := ⟨RX11, "readsClause", "()Z"⟩
abbrev cX11_law : ByteArray := prog_13_method_33_code
def yX11_law : MethodName := ⟨RX11, "law", "(II)I"⟩
abbrev cX11_reckon : ByteArray := prog_13_method_34_code
def yX11_reckon : MethodName := ⟨RX11, "reckon", "(III)I"⟩
abbrev cX11_comesTo : ByteArray := prog_13_method_35_code
def yX11_comesTo : MethodName := ⟨RX11, "comesTo", "(II)I"⟩
abbrev cX11_byLaw : ByteArray := prog_13_method_36_code
def yX11_byLaw : MethodName := ⟨RX11, "byLaw", "(IIII)I"⟩
abbrev cX11_isBarred : ByteArray := prog_13_method_37_code
def yX11_isBarred : MethodName := ⟨RX11, "isBarred", "()Z"⟩
abbrev cX11_feels : ByteArray := prog_13_method_38_code
def yX11_feels : MethodName := ⟨RX11, "feels", "(II)V"⟩
abbrev cX11_held : ByteArray := prog_13_method_39_code
def yX11_held : MethodName := ⟨RX11, "held", "(I)I"⟩
abbrev cX11_acts : ByteArray := prog_13_method_40_code
def yX11_acts : MethodName := ⟨RX11, "acts", "(II)I"⟩
abbrev cX11_actsAll : ByteArray := prog_13_method_41_code
def yX11_actsAll : MethodName := ⟨RX11, "actsAll", "(I)I"⟩
abbrev cX11_finesOf : ByteArray := prog_13_method_42_code
def yX11_finesOf : MethodName := ⟨RX11, "finesOf", "(II)I"⟩
abbrev cX11_findsAt : ByteArray := prog_13_method_43_code
def yX11_findsAt : MethodName := ⟨RX11, "findsAt", "(I)V"⟩
abbrev cX11_cools : ByteArray := prog_13_method_44_code
def yX11_cools : MethodName := ⟨RX11, "cools", "(I)V"⟩
abbrev cX11_runs : ByteArray := prog_13_method_45_code
def yX11_runs : MethodName := ⟨RX11, "runs", "(I)V"⟩
abbrev cX11_found : ByteArray := prog_13_method_46_code
def yX11_found : MethodName := ⟨RX11, "found", "(III)I"⟩
abbrev cX11_hourIs : ByteArray := prog_13_method_47_code
def yX11_hourIs : MethodName := ⟨RX11, "hourIs", "(II)I"⟩
abbrev cX11_sumOf : ByteArray := prog_13_method_48_code
def yX11_sumOf : MethodName := ⟨RX11, "sumOf", "(II)I"⟩
abbrev cX11_valueOf : ByteArray := prog_13_method_49_code
def yX11_valueOf : MethodName := ⟨RX11, "valueOf", "(I)I"⟩
abbrev cX11_value : ByteArray := prog_13_method_50_code
def yX11_value : MethodName := ⟨RX11, "value", "(II)I"⟩
abbrev cX11_ordersBy : ByteArray := prog_13_method_51_code
def yX11_ordersBy : MethodName := ⟨RX11, "ordersBy", "(III)V"⟩
abbrev cX11_orderGives : ByteArray := prog_13_method_52_code
def yX11_orderGives : MethodName := ⟨RX11, "orderGives", "(I)I"⟩
abbrev cX11_bestOrder : ByteArray := prog_13_method_53_code
def yX11_bestOrder : MethodName := ⟨RX11, "bestOrder", "(II)I"⟩
abbrev cX11_price : ByteArray := prog_13_method_54_code
def yX11_price : MethodName := ⟨RX11, "price", "(I)I"⟩
abbrev cX11_neighbour : ByteArray := prog_13_method_55_code
def yX11_neighbour : MethodName := ⟨RX11, "neighbour", "(I)I"⟩
abbrev cX11_changes : ByteArray := prog_13_method_56_code
def yX11_changes : MethodName := ⟨RX11, "changes", "(II)V"⟩
abbrev cX11_laysValues : ByteArray := prog_13_method_57_code
def yX11_laysValues : MethodName := ⟨RX11, "laysValues", "()V"⟩
abbrev cX11_laysGain : ByteArray := prog_13_method_58_code
def yX11_laysGain : MethodName := ⟨RX11, "laysGain", "(II)V"⟩
abbrev cX11_canGain : ByteArray := prog_13_method_59_code
def yX11_canGain : MethodName := ⟨RX11, "canGain", "(II)Z"⟩
abbrev cX11_gain : ByteArray := prog_13_method_60_code
def yX11_gain : MethodName := ⟨RX11, "gain", "(III)I"⟩
abbrev cX11_swap : ByteArray := prog_13_method_61_code
def yX11_swap : MethodName := ⟨RX11, "swap", "(II)Z"⟩
abbrev cX11_laysBestSwap : ByteArray := prog_13_method_62_code
def yX11_laysBestSwap : MethodName := ⟨RX11, "laysBestSwap", "()V"⟩
abbrev cX11_bestSwap : ByteArray := prog_13_method_63_code
def yX11_bestSwap : MethodName := ⟨RX11, "bestSwap", "(I)I"⟩
abbrev cX11_tillNone : ByteArray := prog_13_method_64_code
def yX11_tillNone : MethodName := ⟨RX11, "tillNone", "()I"⟩
abbrev cX11_finesBy : ByteArray := prog_13_method_65_code
def yX11_finesBy : MethodName := ⟨RX11, "finesBy", "(I)I"⟩
abbrev cX11_touching : ByteArray := prog_13_method_66_code
def yX11_touching : MethodName := ⟨RX11, "touching", "(II)I"⟩
abbrev cX11_searches : ByteArray := prog_13_method_67_code
def yX11_searches : MethodName := ⟨RX11, "searches", "(II)Z"⟩
abbrev cX11_canLie : ByteArray := prog_13_method_68_code
def yX11_canLie : MethodName := ⟨RX11, "canLie", "(II)Z"⟩
abbrev cX11_isHelped : ByteArray := prog_13_method_69_code
def yX11_isHelped : MethodName := ⟨RX11, "isHelped", "(II)Z"⟩
abbrev cX11_movesBy : ByteArray := prog_13_method_70_code
def yX11_movesBy : MethodName := ⟨RX11, "movesBy", "(IIII)I"⟩
abbrev cX11_laysMoves : ByteArray := prog_13_method_71_code
def yX11_laysMoves : MethodName := ⟨RX11, "laysMoves", "(III)V"⟩
abbrev cX11_hidden : ByteArray := prog_13_method_72_code
def yX11_hidden : MethodName := ⟨RX11, "hidden", "(IIII)I"⟩
abbrev cX11_says : ByteArray := prog_13_method_73_code
def yX11_says : MethodName := ⟨RX11, "says", "(II)Z"⟩
abbrev cX11_liarsOf : ByteArray := prog_13_method_74_code
def yX11_liarsOf : MethodName := ⟨RX11, "liarsOf", "(I)I"⟩
abbrev cX11_holds : ByteArray := prog_13_method_75_code
def yX11_holds : MethodName := ⟨RX11, "holds", "(I)I"⟩
abbrev cX11_guilty : ByteArray := prog_13_method_76_code
def yX11_guilty : MethodName := ⟨RX11, "guilty", "(I)I"⟩
abbrev cX11_hoursIn : ByteArray := prog_13_method_77_code
def yX11_hoursIn : MethodName := ⟨RX11, "hoursIn", "(III)I"⟩
abbrev cX11_guest : ByteArray := prog_13_method_78_code
def yX11_guest : MethodName := ⟨RX11, "guest", "(IIII)I"⟩
abbrev cX11_dies : ByteArray := prog_13_method_79_code
def yX11_dies : MethodName := ⟨RX11, "dies", "(I)I"⟩
abbrev cX11_ownedMany : ByteArray := prog_13_method_80_code
def yX11_ownedMany : MethodName := ⟨RX11, "ownedMany", "()I"⟩
abbrev cX11_seed : ByteArray := prog_13_method_81_code
def yX11_seed : MethodName := ⟨RX11, "seed", "(I)Z"⟩
abbrev cX11_draw : ByteArray := prog_13_method_82_code
def yX11_draw : MethodName := ⟨RX11, "draw", "(I)I"⟩
abbrev cX11_copies : ByteArray := prog_13_method_83_code
def yX11_copies : MethodName := ⟨RX11, "copies", "([I[II)V"⟩
abbrev cX11_keep : ByteArray := prog_13_method_84_code
def yX11_keep : MethodName := ⟨RX11, "keep", "()I"⟩
abbrev cX11_undo : ByteArray := prog_13_method_85_code
def yX11_undo : MethodName := ⟨RX11, "undo", "()Z"⟩
abbrev cX11_tapeNumber : ByteArray := prog_13_method_86_code
def yX11_tapeNumber : MethodName := ⟨RX11, "tapeNumber", "(I)I"⟩
abbrev cX11_check : ByteArray := prog_13_method_87_code
def yX11_check : MethodName := ⟨RX11, "check", "(II)I"⟩
abbrev cX11_count : ByteArray := prog_13_method_88_code
def yX11_count : MethodName := ⟨RX11, "count", "(I)I"⟩
def RJx145de : String := "java/io/Serializable"
def TJx145de : u_T := fun k => match k with
  | _ => ("", "", "", false)
def tyJx145de : Nat → FieldType := fun k => match k with
  | _ => .int
theorem nmJx145de : ∀ a, a < 0 → ∀ b, b < 0 → a ≠ b → (TJx145de a).2.1 ≠ (TJx145de b).2.1 := by decide +kernel
theorem tyJx145de_ok : ∀ k, k < 0 → parseFieldDescriptor (TJx145de k).2.2.1 = some (tyJx145de k) := by decide +kernel
def RJx9f9b0 : String := "java/lang/CharSequence"
def TJx9f9b0 : u_T := fun k => match k with
  | _ => ("", "", "", false)
def tyJx9f9b0 : Nat → FieldType := fun k => match k with
  | _ => .int
theorem nmJx9f9b0 : ∀ a, a < 0 → ∀ b, b < 0 → a ≠ b → (TJx9f9b0 a).2.1 ≠ (TJx9f9b0 b).2.1 := by decide +kernel
theorem tyJx9f9b0_ok : ∀ k, k < 0 → parseFieldDescriptor (TJx9f9b0 k).2.2.1 = some (tyJx9f9b0 k) := by decide +kernel
def RJ11 : String := "java/lang/Character"
def TJ11 : u_T := fun k => match k with
  | _ => ("", "", "", false)
def tyJ11 : Nat → FieldType := fun k => match k with
  | _ => .int
theorem nmJ11 : ∀ a, a < 0 → ∀ b, b < 0 → a ≠ b → (TJ11 a).2.1 ≠ (TJ11 b).2.1 := by decide +kernel
theorem tyJ11_ok : ∀ k, k < 0 → parseFieldDescriptor (TJ11 k).2.2.1 = some (tyJ11 k) := by decide +kernel
abbrev cJ11_isValidCodePoint_9a6ad : ByteArray := prog_14_method_11_code
def yJ11_isValidCodePoint_9a6ad : MethodName := ⟨RJ11, "isValidCodePoint", "(I)Z"⟩
abbrev cJ11_highSurrogate_5068e : ByteArray := prog_14_method_28_code
def yJ11_highSurrogate_5068e : MethodName := ⟨RJ11, "highSurrogate", "(I)C"⟩
abbrev cJ11_lowSurrogate_5068e : ByteArray := prog_14_method_29_code
def yJ11_lowSurrogate_5068e : MethodName := ⟨RJ11, "lowSurrogate", "(I)C"⟩
def RJxb160c : String := "java/lang/Comparable"
def TJxb160c : u_T := fun k => match k with
  | _ => ("", "", "", false)
def tyJxb160c : Nat → FieldType := fun k => match k with
  | _ => .int
theorem nmJxb160c : ∀ a, a < 0 → ∀ b, b < 0 → a ≠ b → (TJxb160c a).2.1 ≠ (TJxb160c b).2.1 := by decide +kernel
theorem tyJxb160c_ok : ∀ k, k < 0 → parseFieldDescriptor (TJxb160c k).2.2.1 = some (tyJxb160c k) := by decide +kernel
def RJ6 : String := "java/lang/Integer"
def TJ6 : u_T := fun k => match k with
  | _ => ("", "", "", false)
def tyJ6 : Nat → FieldType := fun k => match k with
  | _ => .int
theorem nmJ6 : ∀ a, a < 0 → ∀ b, b < 0 → a ≠ b → (TJ6 a).2.1 ≠ (TJ6 b).2.1 := by decide +kernel
theorem tyJ6_ok : ∀ k, k < 0 → parseFieldDescriptor (TJ6 k).2.2.1 = some (tyJ6 k) := by decide +kernel
abbrev cJ6_bitCount_0f7a4 : ByteArray := prog_15_method_49_code
def yJ6_bitCount_0f7a4 : MethodName := ⟨RJ6, "bitCount", "(I)I"⟩
def RJ9 : String := "java/lang/Math"
def TJ9 : u_T := fun k => match k with
  | _ => ("", "", "", false)
def tyJ9 : Nat → FieldType := fun k => match k with
  | _ => .int
theorem nmJ9 : ∀ a, a < 0 → ∀ b, b < 0 → a ≠ b → (TJ9 a).2.1 ≠ (TJ9 b).2.1 := by decide +kernel
theorem tyJ9_ok : ∀ k, k < 0 → parseFieldDescriptor (TJ9 k).2.2.1 = some (tyJ9 k) := by decide +kernel
abbrev cJ9_max_7cf53 : ByteArray := prog_16_method_65_code
def yJ9_max_7cf53 : MethodName := ⟨RJ9, "max", "(II)I"⟩
abbrev cJ9_min_7cf53 : ByteArray := prog_16_method_69_code
def yJ9_min_7cf53 : MethodName := ⟨RJ9, "min", "(II)I"⟩
def RJ0 : String := "java/lang/String"
def TJ0 : u_T := fun k => match k with
  | _ => ("", "", "", false)
def tyJ0 : Nat → FieldType := fun k => match k with
  | _ => .int
theorem nmJ0 : ∀ a, a < 0 → ∀ b, b < 0 → a ≠ b → (TJ0 a).2.1 ≠ (TJ0 b).2.1 := by decide +kernel
theorem tyJ0_ok : ∀ k, k < 0 → parseFieldDescriptor (TJ0 k).2.2.1 = some (tyJ0 k) := by decide +kernel
abbrev cJ0_length_8abf5 : ByteArray := prog_17_method_54_code
def yJ0_length_8abf5 : MethodName := ⟨RJ0, "length", "()I"⟩
abbrev cJ0_indexOf_0f7a4 : ByteArray := prog_17_method_79_code
def yJ0_indexOf_0f7a4 : MethodName := ⟨RJ0, "indexOf", "(I)I"⟩
abbrev cJ0_indexOf_7cf53 : ByteArray := prog_17_method_80_code
def yJ0_indexOf_7cf53 : MethodName := ⟨RJ0, "indexOf", "(II)I"⟩
abbrev cJ0_coder_7d493 : ByteArray := prog_17_method_152_code
def yJ0_coder_7d493 : MethodName := ⟨RJ0, "coder", "()B"⟩
abbrev cJ0_isLatin1_aae02 : ByteArray := prog_17_method_154_code
def yJ0_isLatin1_aae02 : MethodName := ⟨RJ0, "isLatin1", "()Z"⟩
abbrev cJ0_checkBoundsBeginEnd_23922 : ByteArray := prog_17_method_158_code
def yJ0_checkBoundsBeginEnd_23922 : MethodName := ⟨RJ0, "checkBoundsBeginEnd", "(III)V"⟩
def RJ1 : String := "java/lang/StringLatin1"
def TJ1 : u_T := fun k => match k with
  | _ => ("", "", "", false)
def tyJ1 : Nat → FieldType := fun k => match k with
  | _ => .int
theorem nmJ1 : ∀ a, a < 0 → ∀ b, b < 0 → a ≠ b → (TJ1 a).2.1 ≠ (TJ1 b).2.1 := by decide +kernel
theorem tyJ1_ok : ∀ k, k < 0 → parseFieldDescriptor (TJ1 k).2.2.1 = some (tyJ1 k) := by decide +kernel
abbrev cJ1_canEncode_9a6ad : ByteArray := prog_18_method_4_code
def yJ1_canEncode_9a6ad : MethodName := ⟨RJ1, "canEncode", "(I)Z"⟩
abbrev cJ1_indexOf_4cfef : ByteArray := prog_18_method_22_code
def yJ1_indexOf_4cfef : MethodName := ⟨RJ1, "indexOf", "([BIII)I"⟩
abbrev cJ1_indexOfChar_4cfef : ByteArray := prog_18_method_23_code
def yJ1_indexOfChar_4cfef : MethodName := ⟨RJ1, "indexOfChar", "([BIII)I"⟩
def RJ2 : String := "java/lang/StringUTF16"
def TJ2 : u_T := fun k => match k with
  | _ => ("", "", "", false)
def tyJ2 : Nat → FieldType := fun k => match k with
  | _ => .int
theorem nmJ2 : ∀ a, a < 0 → ∀ b, b < 0 → a ≠ b → (TJ2 a).2.1 ≠ (TJ2 b).2.1 := by decide +kernel
theorem tyJ2_ok : ∀ k, k < 0 → parseFieldDescriptor (TJ2 k).2.2.1 = some (tyJ2 k) := by decide +kernel
abbrev cJ2_getChar_3b067 : ByteArray := prog_19_method_5_code
def yJ2_getChar_3b067 : MethodName := ⟨RJ2, "getChar", "([BI)C"⟩
abbrev cJ2_length_9d52b : ByteArray := prog_19_method_6_code
def yJ2_length_9d52b : MethodName := ⟨RJ2, "length", "([B)I"⟩
abbrev cJ2_indexOf_4cfef : ByteArray := prog_19_method_40_code
def yJ2_indexOf_4cfef : MethodName := ⟨RJ2, "indexOf", "([BIII)I"⟩
abbrev cJ2_indexOfChar_4cfef : ByteArray := prog_19_method_47_code
def yJ2_indexOfChar_4cfef : MethodName := ⟨RJ2, "indexOfChar", "([BIII)I"⟩
abbrev cJ2_indexOfCharUnsafe_4cfef : ByteArray := prog_19_method_48_code
def yJ2_indexOfCharUnsafe_4cfef : MethodName := ⟨RJ2, "indexOfCharUnsafe", "([BIII)I"⟩
abbrev cJ2_indexOfSupplementary_4cfef : ByteArray := prog_19_method_49_code
def yJ2_indexOfSupplementary_4cfef : MethodName := ⟨RJ2, "indexOfSupplementary", "([BIII)I"⟩
abbrev cJ2_checkBoundsBeginEnd_d044e : ByteArray := prog_19_method_93_code
def yJ2_checkBoundsBeginEnd_d044e : MethodName := ⟨RJ2, "checkBoundsBeginEnd", "(II[B)V"⟩
def RJ10 : String := "java/lang/System"
def TJ10 : u_T := fun k => match k with
  | _ => ("", "", "", false)
def tyJ10 : Nat → FieldType := fun k => match k with
  | _ => .int
theorem nmJ10 : ∀ a, a < 0 → ∀ b, b < 0 → a ≠ b → (TJ10 a).2.1 ≠ (TJ10 b).2.1 := by decide +kernel
theorem tyJ10_ok : ∀ k, k < 0 → parseFieldDescriptor (TJ10 k).2.2.1 = some (tyJ10 k) := by decide +kernel
def RJxfd54e : String := "java/lang/constant/Constable"
def TJxfd54e : u_T := fun k => match k with
  | _ => ("", "", "", false)
def tyJxfd54e : Nat → FieldType := fun k => match k with
  | _ => .int
theorem nmJxfd54e : ∀ a, a < 0 → ∀ b, b < 0 → a ≠ b → (TJxfd54e a).2.1 ≠ (TJxfd54e b).2.1 := by decide +kernel
theorem tyJxfd54e_ok : ∀ k, k < 0 → parseFieldDescriptor (TJxfd54e k).2.2.1 = some (tyJxfd54e k) := by decide +kernel
def RJx3cf43 : String := "java/lang/constant/ConstantDesc"
def TJx3cf43 : u_T := fun k => match k with
  | _ => ("", "", "", false)
def tyJx3cf43 : Nat → FieldType := fun k => match k with
  | _ => .int
theorem nmJx3cf43 : ∀ a, a < 0 → ∀ b, b < 0 → a ≠ b → (TJx3cf43 a).2.1 ≠ (TJx3cf43 b).2.1 := by decide +kernel
theorem tyJx3cf43_ok : ∀ k, k < 0 → parseFieldDescriptor (TJx3cf43 k).2.2.1 = some (tyJx3cf43 k) := by decide +kernel
def RJ7 : String := "java/util/Arrays"
def TJ7 : u_T := fun k => match k with
  | _ => ("", "", "", false)
def tyJ7 : Nat → FieldType := fun k => match k with
  | _ => .int
theorem nmJ7 : ∀ a, a < 0 → ∀ b, b < 0 → a ≠ b → (TJ7 a).2.1 ≠ (TJ7 b).2.1 := by decide +kernel
theorem tyJ7_ok : ∀ k, k < 0 → parseFieldDescriptor (TJ7 k).2.2.1 = some (tyJ7 k) := by decide +kernel
abbrev cJ7_fill_53178 : ByteArray := prog_21_method_103_code
def yJ7_fill_53178 : MethodName := ⟨RJ7, "fill", "([II)V"⟩
def RJ3 : String := "jdk/internal/util/Preconditions"
def TJ3 : u_T := fun k => match k with
  | _ => ("", "", "", false)
def tyJ3 : Nat → FieldType := fun k => match k with
  | _ => .int
theorem nmJ3 : ∀ a, a < 0 → ∀ b, b < 0 → a ≠ b → (TJ3 a).2.1 ≠ (TJ3 b).2.1 := by decide +kernel
theorem tyJ3_ok : ∀ k, k < 0 → parseFieldDescriptor (TJ3 k).2.2.1 = some (tyJ3 k) := by decide +kernel
abbrev cJ3_checkFromToIndex_8c36e : ByteArray := prog_22_method_12_code
def yJ3_checkFromToIndex_8c36e : MethodName := ⟨RJ3, "checkFromToIndex", "(IIILjava/util/function/BiFunction;)I"⟩
def RL : String := "BellHoursLaw"
abbrev cL_law : ByteArray := code
def yL_law : MethodName := ⟨RL, "law", "([I)Z"⟩
end
section
/-! a small machine over numbered cells: values are numbers or cells, a state is what the cells hold -/
abbrev QV : Type := Int32 ⊕ Nat
abbrev QS : Type := Nat → Nat → Int32
abbrev QL : Type := List (Option QV)
/-- an instruction: its place, itself, its length, what it is resolved to -/
abbrev QI : Type := Nat × Instr × Nat × Nat × Nat × Int32
/-- how a block ends: 0 falls, 1 goto, 2 if, 3 if_icmp, 4 switch, 5 call, 6 ireturn, 7 return, 8 ireturn of a boolean -/
abbrev QT : Type := Nat × QI × List (Int × Nat)
abbrev QB : Type := Nat × List QI × QT
/-- a method: name, bytes, locals, what it returns, class and 'static' (2 n, 2 n + 1), arguments, blocks -/
abbrev QM : Type := MethodName × ByteArray × Nat × Option FieldType × Nat × Nat × List QB
abbrev QC : Type := Nat × Nat × List (Option Nat)
abbrev QR : Type := Option Prop × QL × List QV × QS
def q_g16 {α : Type} (l : List (List α)) (i : Nat) : Option α := match l[i / 16]? with
  | some r => r[i % 16]?
  | none => none
def q_set (σ : QS) (c : Nat) (f : Nat → Int32) : QS := fun c' => if c' = c then f else σ c'
def q_at (rs : List (Option Nat)) (i : Int32) : Option Nat := if i = 0 then rs.getD 0 none else if i = 1 then rs.getD 1 none else none
def q_fit (t : Int32) (x : Int32) : Prop := if t = 1 then x = 0 ∨ x = 1 else narrow .char (.int x) = .int x ∧ fits .char (.int x) = true
def q_ix (l : List Int32) (x : Int32) (k : Nat) : Int32 := match l with
  | [] => -1
  | b :: r => if b = x then nI k else q_ix r x (k + 1)
def q_least : List Int32 := [0, -99, -99, -99, 0, 0, 0]
def q_most : List Int32 := [1, 99, 99, 99, 999, 999, 99]
def q_str1 : List Int32 := [110, 115, 100, 104, 119, 102, 99]
def q_str2 : List Int32 := [107, 97, 114, 115, 100, 104, 116, 111, 112]
def q_ro (c i : Nat) : Int32 := if c = 118 then q_least.getD i 0 else q_most.getD i 0
def q_txt (c : Nat) : List Int32 := if c = 120 then q_str1 else q_str2
def q_cells : List (List QC) := [
  [(14, 0, [some 1, some 6, none, some 11, some 40, some 31, some 41, some 42, some 43, some 44, some 47, some 54, none, some 61, some 62, some 65, some 68]), (6, 0, [some 2, some 3, some 4, some 5, none]), (0, 24, []), (0, 24, []), (0, 180, []), (0, 12, []), (6, 0, [some 7, some 8, some 9, some 10, none]), (0, 24, []), (0, 24, []), (0, 180, []), (0, 12, []), (11, 0, [some 12, none]), (0, 220, []), (7, 0, [none, none, some 14, some 15, some 16, some 17, some 18, some 19, some 20, some 21]), (1, 200, []), (0, 200, [])],
  [(0, 14, []), (0, 14, []), (0, 14, []), (0, 98, []), (0, 7, []), (0, 32, []), (7, 0, [none, none, some 23, some 24, some 25, some 26, some 27, some 28, some 29, some 30]), (1, 200, []), (0, 200, []), (0, 14, []), (0, 14, []), (0, 14, []), (0, 98, []), (0, 7, []), (0, 32, []), (7, 0, [none, none, some 32, some 33, some 34, some 35, some 36, some 37, some 38, some 39])],
  [(1, 200, []), (0, 200, []), (0, 14, []), (0, 14, []), (0, 14, []), (0, 98, []), (0, 7, []), (0, 32, []), (3, 2, [some 13, some 22]), (9, 0, [some 12, some 31, none, none, none, none]), (0, 13, []), (0, 24, []), (10, 0, [some 45, some 46]), (0, 24, []), (0, 9, []), (4, 0, [some 1, some 13, some 44, some 48, some 49, some 50, some 51, some 52, some 53])],
  [(0, 24, []), (0, 600, []), (0, 24, []), (0, 24, []), (0, 24, []), (0, 24, []), (4, 0, [some 1, some 13, some 44, some 55, some 56, some 57, some 58, some 59, some 60]), (0, 24, []), (0, 600, []), (0, 24, []), (0, 24, []), (0, 24, []), (0, 24, []), (12, 0, [some 47, some 54, some 13, none, none, none, none]), (8, 0, [some 1, some 13, some 44, some 63, some 64, none]), (0, 5, [])],
  [(0, 5, []), (5, 0, [some 2, some 42, some 66, some 67, none]), (0, 192, []), (0, 24, []), (13, 0, [some 2, some 43]), (15, 0, [none, some 70, some 71, some 72, some 73, some 74, some 75, some 76, some 77, some 78, some 79, some 80, none, none, none, none, none, none, none, none, none, some 81, some 82, some 83, some 84, some 85, some 86, some 87, some 88, some 89, some 90, some 91, some 92, some 93, some 94, some 95, some 96, some 97, some 98, some 99, some 100, some 101, some 102, some 103, some 104, some 105, some 106, none, none, some 107, none, none, none, some 108, some 109, none, none, some 110, some 111, some 112, some 113, some 114, some 115, some 116, some 117]), (0, 24, []), (0, 24, []), (0, 8, []), (0, 8, []), (0, 8, []), (0, 12, []), (0, 60, []), (0, 60, []), (0, 60, []), (0, 12, [])],
  [(2, 220, []), (0, 220, []), (0, 220, []), (0, 14, []), (0, 14, []), (0, 14, []), (0, 14, []), (0, 440, []), (0, 2, []), (0, 28, []), (0, 28, []), (0, 28, []), (0, 28, []), (0, 220, []), (0, 9, []), (0, 8, [])],
  [(0, 8, []), (0, 8, []), (0, 200, []), (0, 200, []), (0, 200, []), (0, 24, []), (0, 24, []), (0, 24, []), (0, 24, []), (0, 5, []), (0, 5, []), (0, 12, []), (0, 200, []), (0, 24, []), (0, 24, []), (0, 8, [])],
  [(0, 8, []), (0, 8, []), (0, 12, []), (0, 60, []), (0, 60, []), (0, 60, []), (100, 7, []), (100, 7, []), (101, 0, []), (101, 0, [])]]
def q_lay (c : Nat) : QC := (q_g16 q_cells c).getD (99, 0, [])
def q_un (f : Int32 → Int32) (L : QL) (σ : QS) : List QV → Option QR
  | .inl x :: st => some (none, L, .inl (f x) :: st, σ)
  | _ => none
def q_bi (f : Int32 → Int32 → Int32) (L : QL) (σ : QS) : List QV → Option QR
  | .inl y :: .inl x :: st => some (none, L, .inl (f x y) :: st, σ)
  | _ => none
def q_dv (f : Int32 → Int32 → Int32) (L : QL) (σ : QS) : List QV → Option QR
  | .inl y :: .inl x :: st => some (some (¬ y = 0), L, .inl (f x y) :: st, σ)
  | _ => none
def q_ldi (a : Nat) (L : QL) (σ : QS) (st : List QV) : Option QR := match L[a]? with
  | some (some (.inl x)) => some (none, L, .inl x :: st, σ)
  | _ => none
def q_lda (a : Nat) (L : QL) (σ : QS) (st : List QV) : Option QR := match L[a]? with
  | some (some (.inr x)) => some (none, L, .inr x :: st, σ)
  | _ => none
def q_sti (a : Nat) (L : QL) (σ : QS) : List QV → Option QR
  | .inl x :: st => match L[a]? with
    | some _ => some (none, L.set a (some (.inl x)), st, σ)
    | none => none
  | _ => none
def q_inc (a : Nat) (v : Int32) (L : QL) (σ : QS) (st : List QV) : Option QR := match L[a]? with
  | some (some (.inl x)) => some (none, L.set a (some (.inl (x + v))), st, σ)
  | _ => none
def q_gtf (a b : Nat) (L : QL) (σ : QS) : List QV → Option QR
  | .inr c :: st => if (q_lay c).1 = b + 4 then match (q_lay c).2.2[a]? with
      | some (some c2) => some (none, L, .inr c2 :: st, σ)
      | some none => some (none, L, .inl (σ c a) :: st, σ)
      | none => none
    else none
  | _ => none
def q_ptf (a b : Nat) (v : Int32) (L : QL) (σ : QS) : List QV → Option QR
  | .inl x :: .inr c :: st => if (q_lay c).1 = b + 4 then match (q_lay c).2.2[a]? with
      | some none => some (if v = 0 then none else some (q_fit v x), L, st, q_set σ c (upd (σ c) a x))
      | _ => none
    else none
  | _ => none
def q_lod (t : Nat) (L : QL) (σ : QS) : List QV → Option QR
  | .inl i :: .inr c :: st => if (q_lay c).1 = t then some (some (vp_in i (q_lay c).2.1), L, .inl (σ c i.toNatClampNeg) :: st, σ)
    else if (q_lay c).1 = 100 ∧ t = 0 then some (some (vp_in i (q_lay c).2.1), L, .inl (q_ro c i.toNatClampNeg) :: st, σ) else none
  | _ => none
def q_sto (t : Nat) (f : Int32 → Int32) (L : QL) (σ : QS) : List QV → Option QR
  | .inl x :: .inl i :: .inr c :: st => if (q_lay c).1 = t then some (some (vp_in i (q_lay c).2.1), L, st, q_set σ c (upd (σ c) i.toNatClampNeg (f x))) else none
  | _ => none
def q_ala (L : QL) (σ : QS) : List QV → Option QR
  | .inl i :: .inr c :: st => if (q_lay c).1 = 3 then match q_at (q_lay c).2.2 i with
      | some c2 => some (none, L, .inr c2 :: st, σ)
      | none => none
    else none
  | _ => none
def q_len (L : QL) (σ : QS) : List QV → Option QR
  | .inr c :: st => if (q_lay c).1 < 4 then some (none, L, .inl (Int32.ofNat (q_lay c).2.1) :: st, σ) else none
  | _ => none
def q_cpy (L : QL) (σ : QS) : List QV → Option QR
  | .inl n :: .inl dp :: .inr c1 :: .inl sp :: .inr c0 :: st => if (q_lay c0).1 = (q_lay c1).1 ∧ (q_lay c0).1 < 2 ∧ st.length ≤ 8 then
      some (some ((¬ sp < 0) ∧ (¬ dp < 0) ∧ (¬ n < 0) ∧ sp.toNatClampNeg + n.toNatClampNeg ≤ (q_lay c0).2.1 ∧ dp.toNatClampNeg + n.toNatClampNeg ≤ (q_lay c1).2.1 ∧ ((q_lay c0).1 = 1 → ∀ i, i < n.toNatClampNeg → fits .char (.int (σ c0 (sp.toNatClampNeg + i))) = true)), L, st, q_set σ c1 (va_cpy (σ c0) (σ c1) sp.toNatClampNeg dp.toNatClampNeg n.toNatClampNeg))
    else none
  | _ => none
def q_max (L : QL) (σ : QS) : List QV → Option QR
  | .inl y :: .inl x :: st => if st.length ≤ 8 then some (none, L, .inl (if x < y then y else x) :: st, σ) else none
  | _ => none
def q_min (L : QL) (σ : QS) : List QV → Option QR
  | .inl y :: .inl x :: st => if st.length ≤ 8 then some (none, L, .inl (if y < x then y else x) :: st, σ) else none
  | _ => none
def q_iof (L : QL) (σ : QS) : List QV → Option QR
  | .inl x :: .inr c :: st => if (q_lay c).1 = 101 ∧ st.length ≤ 8 then some (none, L, .inl (q_ix (q_txt c) x 0) :: st, σ) else none
  | _ => none
def q_cst (a b : Nat) (v : Int32) (L : QL) (σ : QS) (st : List QV) : Option QR := if b = 0 then some (none, L, .inl v :: st, σ) else some (none, L, .inr a :: st, σ)
def q_ivs (a : Nat) (L : QL) (σ : QS) (st : List QV) : Option QR := if a = 1001 then q_max L σ st else if a = 1002 then q_min L σ st else if a = 1003 then q_cpy L σ st else none
def q_op (r : QI) (L : QL) (st : List QV) (σ : QS) : Option QR := match r with
  | (_, I, _, a, b, v) => match I with
    | .iconst _ => some (none, L, .inl v :: st, σ)
    | .bipush _ => some (none, L, .inl v :: st, σ)
    | .sipush _ => some (none, L, .inl v :: st, σ)
    | .ldc _ => q_cst a b v L σ st
    | .ldc_w _ => some (none, L, .inl v :: st, σ)
    | .iload_n _ => q_ldi a L σ st
    | .iload _ => q_ldi a L σ st
    | .aload_n _ => q_lda a L σ st
    | .aload _ => q_lda a L σ st
    | .istore_n _ => q_sti a L σ st
    | .istore _ => q_sti a L σ st
    | .iinc _ _ => q_inc a v L σ st
    | .iadd => q_bi (fun x y => x + y) L σ st
    | .isub => q_bi (fun x y => x - y) L σ st
    | .imul => q_bi (fun x y => x * y) L σ st
    | .iand => q_bi (fun x y => x &&& y) L σ st
    | .ior => q_bi (fun x y => x ||| y) L σ st
    | .ishl => q_bi (fun x y => x <<< (y &&& 31)) L σ st
    | .ishr => q_bi (fun x y => x >>> (y &&& 31)) L σ st
    | .iushr => q_bi (fun x y => (x.toUInt32 >>> (y.toUInt32 &&& Int32.toUInt32 31)).toInt32) L σ st
    | .idiv => q_dv (fun x y => x / y) L σ st
    | .irem => q_dv (fun x y => x - x / y * y) L σ st
    | .ineg => q_un (fun x => -x) L σ st
    | .i2c => q_un (fun x => (x.toUInt32 % 65536).toInt32) L σ st
    | .i2b => q_un (fun x => x.toInt8.toInt32) L σ st
    | .dup => match st with
      | x :: st => some (none, L, x :: x :: st, σ)
      | _ => none
    | .dup2 => match st with
      | y :: x :: st => some (none, L, y :: x :: y :: x :: st, σ)
      | _ => none
    | .pop => match st with
      | _ :: st => some (none, L, st, σ)
      | _ => none
    | .getfield _ => q_gtf a b L σ st
    | .putfield _ => q_ptf a b v L σ st
    | .iaload => q_lod 0 L σ st
    | .caload => q_lod 1 L σ st
    | .baload => q_lod 2 L σ st
    | .iastore => q_sto 0 (fun x => x) L σ st
    | .castore => q_sto 1 (vp_nar .char) L σ st
    | .bastore => q_sto 2 (vp_nar .byte) L σ st
    | .aaload => q_ala L σ st
    | .arraylength => q_len L σ st
    | .getstatic _ => some (none, L, .inr a :: st, σ)
    | .invokestatic _ => q_ivs a L σ st
    | .invokevirtual _ => if a = 1004 then q_iof L σ st else none
    | _ => none
def q_ob (o : Option Prop) (P : Prop) : Prop := match o with
  | none => P
  | some O => O ∧ P
def q_br (c : Jvm.ClassFile.Cond) (x y : Int32) (T F : Prop) : Prop := match c with
  | .eq => (x = y → T) ∧ (¬ x = y → F)
  | .ne => (¬ x = y → T) ∧ (x = y → F)
  | .lt => (x < y → T) ∧ (¬ x < y → F)
  | .ge => (y ≤ x → T) ∧ (¬ y ≤ x → F)
  | .gt => (y < x → T) ∧ (¬ y < x → F)
  | .le => (x ≤ y → T) ∧ (¬ x ≤ y → F)
def q_sw (k : Nat → Prop) (x : Int32) (d : Nat) : List (Int × Nat) → Prop
  | [] => k d
  | (i, b) :: r => (x = Int32.ofInt i → k b) ∧ (¬ x = Int32.ofInt i → q_sw k x d r)
def q_tm (kj : Nat → QL → List QV → QS → Prop) (kc : Nat → Nat → Int → Nat → Nat → QL → List QV → QS → Prop) (kr : Option Int32 → QS → Prop) (t : QT) (L : QL) (st : List QV) (σ : QS) : Prop := match t with
  | (0, (_, _, _, a, _, _), _) => kj a L st σ
  | (1, (_, _, _, a, _, _), _) => kj a L st σ
  | (2, (_, .ifCond c _, _, a, b, _), _) => match st with
    | .inl x :: st => q_br c x 0 (kj a L st σ) (kj b L st σ)
    | _ => False
  | (3, (_, .if_icmp c _, _, a, b, _), _) => match st with
    | .inl y :: .inl x :: st => q_br c x y (kj a L st σ) (kj b L st σ)
    | _ => False
  | (4, (_, _, _, a, _, _), ts) => match st with
    | .inl x :: st => q_sw (fun k => kj k L st σ) x a ts
    | _ => False
  | (5, (_, _, _, a, b, _), [(tg, na), (_, ml)]) => kc a b tg na ml L st σ
  | (6, _, _) => match st with
    | [.inl x] => kr (some x) σ
    | _ => False
  | (7, _, _) => match st with
    | [] => kr none σ
    | _ => False
  | (8, _, _) => match st with
    | [.inl x] => (x = 0 ∨ x = 1) ∧ kr (some x) σ
    | _ => False
  | _ => False
def q_wp (kj : Nat → QL → List QV → QS → Prop) (kc : Nat → Nat → Int → Nat → Nat → QL → List QV → QS → Prop) (kr : Option Int32 → QS → Prop) (t : QT) : List QI → QL → List QV → QS → Prop
  | [], L, st, σ => q_tm kj kc kr t L st σ
  | r :: rs, L, st, σ => match q_op r L st σ with
    | some (o, L', st', σ') => q_ob o (q_wp kj kc kr t rs L' st' σ')
    | none => False
def q_psh (r : Option Int32) (st : List QV) : List QV := match r with
  | some x => .inl x :: st
  | none => st
/-- the receiver is of the class of the method called (its tag; 0: a static one) -/
def q_rc (tg : Int) (na : Nat) (st : List QV) : Bool := Nat.ble na st.length && (if tg = 0 then true else match st[na - 1]? with
  | some (.inr c) => decide (((q_lay c).1 : Int) = tg)
  | _ => false)
def q_ent (na ml : Nat) (st : List QV) : QL := (st.take na).reverse.map some ++ List.replicate (ml - na) none
end
section
def qb0_0 : QB := (0, [(0, .aload_n 0, 1, 0, 0, 0), (1, .getfield 30, 3, 0, 0, 0), (4, .getfield 42, 3, 0, 2, 0), (7, .iconst 0, 1, 0, 0, 0), (8, .aload_n 0, 1, 0, 0, 0), (9, .getfield 9, 3, 3, 0, 0), (12, .iconst 0, 1, 0, 0, 0), (13, .bipush 24, 2, 0, 0, 24), (15, .invokestatic 45, 3, 1003, 0, 0), (18, .aload_n 0, 1, 0, 0, 0), (19, .getfield 30, 3, 0, 0, 0), (22, .getfield 51, 3, 1, 2, 0), (25, .iconst 0, 1, 0, 0, 0), (26, .aload_n 0, 1, 0, 0, 0), (27, .getfield 15, 3, 4, 0, 0), (30, .iconst 0, 1, 0, 0, 0), (31, .bipush 24, 2, 0, 0, 24), (33, .invokestatic 45, 3, 1003, 0, 0)], (7, (36, .return_, 1, 0, 0, 0), []))
def qm0 : QM := (yX0_begin, cX0_begin, 1, none, 0, 1, [qb0_0])
def qb1_0 : QB := (0, [(0, .aload_n 1, 1, 1, 0, 0), (1, .getfield 9, 3, 3, 0, 0), (4, .iconst 0, 1, 0, 0, 0), (5, .aload_n 0, 1, 0, 0, 0), (6, .getfield 9, 3, 3, 0, 0), (9, .iconst 0, 1, 0, 0, 0), (10, .bipush 24, 2, 0, 0, 24), (12, .invokestatic 45, 3, 1003, 0, 0), (15, .aload_n 1, 1, 1, 0, 0), (16, .getfield 15, 3, 4, 0, 0), (19, .iconst 0, 1, 0, 0, 0), (20, .aload_n 0, 1, 0, 0, 0), (21, .getfield 15, 3, 4, 0, 0), (24, .iconst 0, 1, 0, 0, 0), (25, .aload_n 0, 1, 0, 0, 0), (26, .getfield 15, 3, 4, 0, 0), (29, .arraylength, 1, 0, 0, 0), (30, .invokestatic 45, 3, 1003, 0, 0), (33, .aload_n 1, 1, 1, 0, 0), (34, .getfield 18, 3, 5, 0, 0), (37, .iconst 0, 1, 0, 0, 0), (38, .aload_n 0, 1, 0, 0, 0), (39, .getfield 18, 3, 5, 0, 0), (42, .iconst 0, 1, 0, 0, 0), (43, .bipush 24, 2, 0, 0, 24), (45, .invokestatic 45, 3, 1003, 0, 0), (48, .aload_n 1, 1, 1, 0, 0), (49, .getfield 21, 3, 6, 0, 0), (52, .iconst 0, 1, 0, 0, 0), (53, .aload_n 0, 1, 0, 0, 0), (54, .getfield 21, 3, 6, 0, 0), (57, .iconst 0, 1, 0, 0, 0), (58, .bipush 24, 2, 0, 0, 24), (60, .invokestatic 45, 3, 1003, 0, 0)], (7, (63, .return_, 1, 0, 0, 0), []))
def qm1 : QM := (yX0_beginLike, cX0_beginLike, 2, none, 0, 2, [qb1_0])
def qb2_0 : QB := (0, [(0, .iload_n 1, 1, 1, 0, 0), (1, .istore_n 3, 1, 3, 0, 0)], (0, (2, .nop, 0, 1, 0, 0), []))
def qb2_1 : QB := (2, [(2, .iload_n 3, 1, 3, 0, 0), (3, .bipush 24, 2, 0, 0, 24)], (3, (5, .if_icmp .ge 15, 3, 4, 2, 0), []))
def qb2_2 : QB := (8, [(8, .aload_n 0, 1, 0, 0, 0), (9, .iload_n 3, 1, 3, 0, 0), (10, .aload_n 2, 1, 2, 0, 0)], (5, (11, .invokevirtual 54, 3, 3, 3, 0), [(4, 3), (0, 5)]))
def qb2_3 : QB := (14, [(14, .iinc 3 1, 3, 3, 0, 1)], (1, (17, .goto (-15), 3, 1, 0, 0), []))
def qb2_4 : QB := (20, [], (7, (20, .return_, 1, 0, 0, 0), []))
def qm2 : QM := (yX0_run, cX0_run, 4, none, 0, 3, [qb2_0, qb2_1, qb2_2, qb2_3, qb2_4])
def qb3_0 : QB := (0, [(0, .aload_n 0, 1, 0, 0, 0), (1, .getfield 9, 3, 3, 0, 0), (4, .iload_n 1, 1, 1, 0, 0), (5, .iaload, 1, 0, 0, 0), (6, .istore_n 3, 1, 3, 0, 0), (7, .aload_n 0, 1, 0, 0, 0), (8, .getfield 38, 3, 2, 0, 0), (11, .iload_n 1, 1, 1, 0, 0), (12, .aload_n 0, 1, 0, 0, 0)], (5, (13, .invokevirtual 58, 3, 50, 1, 0), [(10, 3), (0, 3)]))
def qb3_1 : QB := (16, [(16, .aload_n 0, 1, 0, 0, 0), (17, .getfield 18, 3, 5, 0, 0), (20, .iload_n 1, 1, 1, 0, 0), (21, .iconst 0, 1, 0, 0, 0), (22, .iastore, 1, 0, 0, 0), (23, .aload_n 0, 1, 0, 0, 0), (24, .getfield 21, 3, 6, 0, 0), (27, .iload_n 1, 1, 1, 0, 0), (28, .iconst 0, 1, 0, 0, 0), (29, .iastore, 1, 0, 0, 0), (30, .aload_n 0, 1, 0, 0, 0), (31, .getfield 24, 3, 7, 0, 0), (34, .iload_n 1, 1, 1, 0, 0), (35, .iconst 0, 1, 0, 0, 0), (36, .iastore, 1, 0, 0, 0), (37, .aload_n 0, 1, 0, 0, 0), (38, .getfield 27, 3, 8, 0, 0), (41, .iload_n 1, 1, 1, 0, 0), (42, .iconst (-1), 1, 0, 0, (-1)), (43, .iastore, 1, 0, 0, 0), (44, .iload_n 3, 1, 3, 0, 0), (45, .bipush 12, 2, 0, 0, 12)], (3, (47, .if_icmp .eq 75, 3, 10, 2, 0), []))
def qb3_2 : QB := (50, [(50, .iconst 0, 1, 0, 0, 0), (51, .istore 4, 2, 4, 0, 0)], (0, (53, .nop, 0, 3, 0, 0), []))
def qb3_3 : QB := (53, [(53, .iload 4, 2, 4, 0, 0), (55, .aload_n 0, 1, 0, 0, 0), (56, .getfield 30, 3, 0, 0, 0), (59, .getfield 64, 3, 3, 2, 0), (62, .iload_n 3, 1, 3, 0, 0), (63, .iaload, 1, 0, 0, 0)], (3, (64, .if_icmp .ge 44, 3, 8, 4, 0), []))
def qb3_4 : QB := (67, [(67, .aload_n 0, 1, 0, 0, 0), (68, .iload_n 1, 1, 1, 0, 0), (69, .iload 4, 2, 4, 0, 0), (71, .aload_n 0, 1, 0, 0, 0), (72, .getfield 38, 3, 2, 0, 0), (75, .aload_n 0, 1, 0, 0, 0), (76, .getfield 34, 3, 1, 0, 0), (79, .aload_n 0, 1, 0, 0, 0), (80, .getfield 30, 3, 0, 0, 0), (83, .getfield 67, 3, 2, 2, 0), (86, .aload_n 0, 1, 0, 0, 0), (87, .getfield 30, 3, 0, 0, 0), (90, .iload_n 3, 1, 3, 0, 0), (91, .iload 4, 2, 4, 0, 0)], (5, (93, .invokevirtual 70, 3, 14, 5, 0), [(6, 3), (0, 3)]))
def qb3_5 : QB := (96, [], (5, (96, .invokevirtual 74, 3, 52, 6, 0), [(10, 4), (0, 5)]))
def qb3_6 : QB := (99, [], (5, (99, .invokevirtual 78, 3, 4, 7, 0), [(4, 4), (0, 4)]))
def qb3_7 : QB := (102, [(102, .iinc 4 1, 3, 4, 0, 1)], (1, (105, .goto (-52), 3, 3, 0, 0), []))
def qb3_8 : QB := (108, [(108, .aload_n 0, 1, 0, 0, 0), (109, .getfield 21, 3, 6, 0, 0), (112, .iload_n 1, 1, 1, 0, 0), (113, .aload_n 0, 1, 0, 0, 0), (114, .getfield 38, 3, 2, 0, 0), (117, .aload_n 2, 1, 2, 0, 0)], (5, (118, .invokevirtual 82, 3, 54, 9, 0), [(10, 2), (0, 4)]))
def qb3_9 : QB := (121, [(121, .iastore, 1, 0, 0, 0)], (0, (122, .nop, 0, 10, 0, 0), []))
def qb3_10 : QB := (122, [(122, .aload_n 0, 1, 0, 0, 0), (123, .getfield 38, 3, 2, 0, 0), (126, .aload_n 0, 1, 0, 0, 0), (127, .getfield 34, 3, 1, 0, 0)], (5, (130, .invokevirtual 86, 3, 55, 11, 0), [(10, 2), (0, 3)]))
def qb3_11 : QB := (133, [(133, .aload_n 0, 1, 0, 0, 0), (134, .getfield 38, 3, 2, 0, 0), (137, .getfield 90, 3, 0, 6, 0), (140, .iconst 0, 1, 0, 0, 0), (141, .aload_n 0, 1, 0, 0, 0), (142, .getfield 15, 3, 4, 0, 0), (145, .iload_n 1, 1, 1, 0, 0), (146, .iconst 1, 1, 0, 0, 1), (147, .iadd, 1, 0, 0, 0), (148, .bipush 24, 2, 0, 0, 24), (150, .imul, 1, 0, 0, 0), (151, .bipush 24, 2, 0, 0, 24), (153, .invokestatic 45, 3, 1003, 0, 0)], (7, (156, .return_, 1, 0, 0, 0), []))
def qm3 : QM := (yX0_runHour, cX0_runHour, 5, none, 0, 3, [qb3_0, qb3_1, qb3_2, qb3_3, qb3_4, qb3_5, qb3_6, qb3_7, qb3_8, qb3_9, qb3_10, qb3_11])
def qb4_0 : QB := (0, [(0, .iload_n 3, 1, 3, 0, 0), (1, .iconst (-1), 1, 0, 0, (-1))], (3, (2, .if_icmp .eq 14, 3, 2, 1, 0), []))
def qb4_1 : QB := (5, [(5, .aload_n 0, 1, 0, 0, 0), (6, .getfield 18, 3, 5, 0, 0), (9, .iload_n 1, 1, 1, 0, 0), (10, .dup2, 1, 0, 0, 0), (11, .iaload, 1, 0, 0, 0), (12, .iload_n 3, 1, 3, 0, 0), (13, .iadd, 1, 0, 0, 0), (14, .iastore, 1, 0, 0, 0)], (7, (15, .return_, 1, 0, 0, 0), []))
def qb4_2 : QB := (16, [(16, .aload_n 0, 1, 0, 0, 0), (17, .getfield 24, 3, 7, 0, 0), (20, .iload_n 1, 1, 1, 0, 0), (21, .iaload, 1, 0, 0, 0)], (2, (22, .ifCond .ne 10, 3, 4, 3, 0), []))
def qb4_3 : QB := (25, [(25, .aload_n 0, 1, 0, 0, 0), (26, .getfield 27, 3, 8, 0, 0), (29, .iload_n 1, 1, 1, 0, 0), (30, .iload_n 2, 1, 2, 0, 0), (31, .iastore, 1, 0, 0, 0)], (0, (32, .nop, 0, 4, 0, 0), []))
def qb4_4 : QB := (32, [(32, .aload_n 0, 1, 0, 0, 0), (33, .getfield 24, 3, 7, 0, 0), (36, .iload_n 1, 1, 1, 0, 0), (37, .dup2, 1, 0, 0, 0), (38, .iaload, 1, 0, 0, 0), (39, .iconst 1, 1, 0, 0, 1), (40, .iadd, 1, 0, 0, 0), (41, .iastore, 1, 0, 0, 0)], (7, (42, .return_, 1, 0, 0, 0), []))
def qm4 : QM := (yX0_note, cX0_note, 4, none, 0, 4, [qb4_0, qb4_1, qb4_2, qb4_3, qb4_4])
def qb5_0 : QB := (0, [(0, .aload_n 0, 1, 0, 0, 0), (1, .getfield 18, 3, 5, 0, 0), (4, .iload_n 1, 1, 1, 0, 0), (5, .iaload, 1, 0, 0, 0), (6, .aload_n 0, 1, 0, 0, 0), (7, .getfield 21, 3, 6, 0, 0), (10, .iload_n 1, 1, 1, 0, 0), (11, .iaload, 1, 0, 0, 0), (12, .isub, 1, 0, 0, 0)], (6, (13, .ireturn, 1, 0, 0, 0), []))
def qm5 : QM := (yX0_comesTo, cX0_comesTo, 2, (some .int), 0, 2, [qb5_0])
def qb6_0 : QB := (0, [(0, .aload_n 0, 1, 0, 0, 0), (1, .iload_n 1, 1, 1, 0, 0), (2, .aload_n 0, 1, 0, 0, 0), (3, .getfield 18, 3, 5, 0, 0)], (5, (6, .invokevirtual 93, 3, 7, 1, 0), [(4, 3), (0, 5)]))
def qb6_1 : QB := (9, [(9, .aload_n 0, 1, 0, 0, 0), (10, .iload_n 1, 1, 1, 0, 0), (11, .aload_n 0, 1, 0, 0, 0), (12, .getfield 21, 3, 6, 0, 0)], (5, (15, .invokevirtual 93, 3, 7, 2, 0), [(4, 3), (0, 5)]))
def qb6_2 : QB := (18, [(18, .isub, 1, 0, 0, 0)], (6, (19, .ireturn, 1, 0, 0, 0), []))
def qm6 : QM := (yX0_valueOf, cX0_valueOf, 2, (some .int), 0, 2, [qb6_0, qb6_1, qb6_2])
def qb7_0 : QB := (0, [(0, .iconst 0, 1, 0, 0, 0), (1, .istore_n 3, 1, 3, 0, 0), (2, .iconst 0, 1, 0, 0, 0), (3, .istore 4, 2, 4, 0, 0)], (0, (5, .nop, 0, 1, 0, 0), []))
def qb7_1 : QB := (5, [(5, .iload 4, 2, 4, 0, 0), (7, .bipush 24, 2, 0, 0, 24)], (3, (9, .if_icmp .ge 27, 3, 5, 2, 0), []))
def qb7_2 : QB := (12, [(12, .aload_n 0, 1, 0, 0, 0), (13, .getfield 9, 3, 3, 0, 0), (16, .iload 4, 2, 4, 0, 0), (18, .iaload, 1, 0, 0, 0), (19, .iload_n 1, 1, 1, 0, 0)], (3, (20, .if_icmp .ne 10, 3, 4, 3, 0), []))
def qb7_3 : QB := (23, [(23, .iload_n 3, 1, 3, 0, 0), (24, .aload_n 2, 1, 2, 0, 0), (25, .iload 4, 2, 4, 0, 0), (27, .iaload, 1, 0, 0, 0), (28, .iadd, 1, 0, 0, 0), (29, .istore_n 3, 1, 3, 0, 0)], (0, (30, .nop, 0, 4, 0, 0), []))
def qb7_4 : QB := (30, [(30, .iinc 4 1, 3, 4, 0, 1)], (1, (33, .goto (-28), 3, 1, 0, 0), []))
def qb7_5 : QB := (36, [(36, .iload_n 3, 1, 3, 0, 0)], (6, (37, .ireturn, 1, 0, 0, 0), []))
def qm7 : QM := (yX0_sumFor, cX0_sumFor, 5, (some .int), 0, 3, [qb7_0, qb7_1, qb7_2, qb7_3, qb7_4, qb7_5])
def qb8_0 : QB := (0, [(0, .iload_n 2, 1, 2, 0, 0), (1, .iconst 1, 1, 0, 0, 1), (2, .isub, 1, 0, 0, 0), (3, .istore 4, 2, 4, 0, 0)], (0, (5, .nop, 0, 1, 0, 0), []))
def qb8_1 : QB := (5, [(5, .iload 4, 2, 4, 0, 0), (7, .iload_n 1, 1, 1, 0, 0)], (3, (8, .if_icmp .lt 48, 3, 7, 2, 0), []))
def qb8_2 : QB := (11, [(11, .iconst 0, 1, 0, 0, 0), (12, .istore 5, 2, 5, 0, 0)], (0, (14, .nop, 0, 3, 0, 0), []))
def qb8_3 : QB := (14, [(14, .iload 5, 2, 5, 0, 0), (16, .bipush 8, 2, 0, 0, 8)], (3, (18, .if_icmp .ge 32, 3, 6, 4, 0), []))
def qb8_4 : QB := (21, [(21, .aload_n 0, 1, 0, 0, 0), (22, .getfield 9, 3, 2, 1, 0), (25, .iload 4, 2, 4, 0, 0), (27, .bipush 8, 2, 0, 0, 8), (29, .imul, 1, 0, 0, 0), (30, .iload 5, 2, 5, 0, 0), (32, .iadd, 1, 0, 0, 0), (33, .aload_n 0, 1, 0, 0, 0), (34, .iload 4, 2, 4, 0, 0), (36, .iload 5, 2, 5, 0, 0), (38, .iload_n 2, 1, 2, 0, 0), (39, .iload_n 3, 1, 3, 0, 0)], (5, (40, .invokevirtual 28, 3, 9, 5, 0), [(5, 5), (0, 6)]))
def qb8_5 : QB := (43, [(43, .iastore, 1, 0, 0, 0), (44, .iinc 5 1, 3, 5, 0, 1)], (1, (47, .goto (-33), 3, 3, 0, 0), []))
def qb8_6 : QB := (50, [(50, .iinc 4 (-1), 3, 4, 0, (-1))], (1, (53, .goto (-48), 3, 1, 0, 0), []))
def qb8_7 : QB := (56, [(56, .iload_n 1, 1, 1, 0, 0), (57, .istore 4, 2, 4, 0, 0)], (0, (59, .nop, 0, 8, 0, 0), []))
def qb8_8 : QB := (59, [(59, .iload 4, 2, 4, 0, 0), (61, .iload_n 2, 1, 2, 0, 0)], (3, (62, .if_icmp .ge 46, 3, 14, 9, 0), []))
def qb8_9 : QB := (65, [(65, .iload 4, 2, 4, 0, 0), (67, .iload_n 1, 1, 1, 0, 0)], (3, (68, .if_icmp .ne 7, 3, 11, 10, 0), []))
def qb8_10 : QB := (71, [(71, .iconst (-1), 1, 0, 0, (-1))], (1, (72, .goto 12, 3, 12, 0, 0), []))
def qb8_11 : QB := (75, [(75, .aload_n 0, 1, 0, 0, 0), (76, .getfield 15, 3, 3, 1, 0), (79, .iload 4, 2, 4, 0, 0), (81, .iconst 1, 1, 0, 0, 1), (82, .isub, 1, 0, 0, 0), (83, .iaload, 1, 0, 0, 0)], (0, (84, .nop, 0, 12, 0, 0), []))
def qb8_12 : QB := (84, [(84, .istore 5, 2, 5, 0, 0), (86, .aload_n 0, 1, 0, 0, 0), (87, .getfield 15, 3, 3, 1, 0), (90, .iload 4, 2, 4, 0, 0), (92, .aload_n 0, 1, 0, 0, 0), (93, .iload 4, 2, 4, 0, 0), (95, .iload 5, 2, 5, 0, 0), (97, .iload_n 3, 1, 3, 0, 0)], (5, (98, .invokevirtual 32, 3, 10, 13, 0), [(5, 4), (0, 6)]))
def qb8_13 : QB := (101, [(101, .iastore, 1, 0, 0, 0), (102, .iinc 4 1, 3, 4, 0, 1)], (1, (105, .goto (-46), 3, 8, 0, 0), []))
def qb8_14 : QB := (108, [(108, .aload_n 0, 1, 0, 0, 0), (109, .aload_n 0, 1, 0, 0, 0), (110, .getfield 9, 3, 2, 1, 0), (113, .iload_n 1, 1, 1, 0, 0), (114, .bipush 8, 2, 0, 0, 8), (116, .imul, 1, 0, 0, 0), (117, .aload_n 0, 1, 0, 0, 0), (118, .getfield 15, 3, 3, 1, 0), (121, .iload_n 1, 1, 1, 0, 0), (122, .iaload, 1, 0, 0, 0), (123, .iadd, 1, 0, 0, 0), (124, .iaload, 1, 0, 0, 0), (125, .putfield 18, 3, 4, 1, 0), (128, .aload_n 0, 1, 0, 0, 0), (129, .getfield 18, 3, 4, 1, 0), (132, .sipush 1000, 3, 0, 0, 1000)], (3, (135, .if_icmp .ge 7, 3, 16, 15, 0), []))
def qb8_15 : QB := (138, [(138, .iconst 1, 1, 0, 0, 1)], (1, (139, .goto 4, 3, 17, 0, 0), []))
def qb8_16 : QB := (142, [(142, .iconst 0, 1, 0, 0, 0)], (0, (143, .nop, 0, 17, 0, 0), []))
def qb8_17 : QB := (143, [], (8, (143, .ireturn, 1, 0, 0, 0), []))
def qm8 : QM := (yX1_seek, cX1_seek, 6, (some .boolean), 2, 4, [qb8_0, qb8_1, qb8_2, qb8_3, qb8_4, qb8_5, qb8_6, qb8_7, qb8_8, qb8_9, qb8_10, qb8_11, qb8_12, qb8_13, qb8_14, qb8_15, qb8_16, qb8_17])
def qb9_0 : QB := (0, [(0, .aload_n 0, 1, 0, 0, 0), (1, .getfield 25, 3, 1, 1, 0), (4, .aload_n 0, 1, 0, 0, 0), (5, .getfield 22, 3, 0, 1, 0), (8, .iload_n 1, 1, 1, 0, 0), (9, .iaload, 1, 0, 0, 0), (10, .iaload, 1, 0, 0, 0), (11, .iload_n 2, 1, 2, 0, 0), (12, .ishr, 1, 0, 0, 0), (13, .iconst 1, 1, 0, 0, 1), (14, .iand, 1, 0, 0, 0)], (2, (15, .ifCond .eq 7, 3, 2, 1, 0), []))
def qb9_1 : QB := (18, [(18, .sipush 1000, 3, 0, 0, 1000)], (6, (21, .ireturn, 1, 0, 0, 0), []))
def qb9_2 : QB := (22, [(22, .iload_n 1, 1, 1, 0, 0), (23, .iconst 1, 1, 0, 0, 1), (24, .iadd, 1, 0, 0, 0), (25, .iload_n 3, 1, 3, 0, 0)], (3, (26, .if_icmp .lt 5, 3, 4, 3, 0), []))
def qb9_3 : QB := (29, [(29, .iconst 0, 1, 0, 0, 0)], (6, (30, .ireturn, 1, 0, 0, 0), []))
def qb9_4 : QB := (31, [(31, .aload_n 0, 1, 0, 0, 0), (32, .iload_n 1, 1, 1, 0, 0), (33, .iconst 1, 1, 0, 0, 1), (34, .iadd, 1, 0, 0, 0), (35, .iload_n 2, 1, 2, 0, 0), (36, .iload 4, 2, 4, 0, 0)], (5, (38, .invokevirtual 32, 3, 10, 5, 0), [(5, 4), (0, 6)]))
def qb9_5 : QB := (41, [(41, .istore 5, 2, 5, 0, 0), (43, .sipush 1000, 3, 0, 0, 1000), (46, .aload_n 0, 1, 0, 0, 0), (47, .iload_n 1, 1, 1, 0, 0), (48, .iconst 1, 1, 0, 0, 1), (49, .iadd, 1, 0, 0, 0), (50, .iload_n 2, 1, 2, 0, 0), (51, .iload 5, 2, 5, 0, 0), (53, .iload 4, 2, 4, 0, 0)], (5, (55, .invokevirtual 36, 3, 11, 6, 0), [(5, 5), (0, 7)]))
def qb9_6 : QB := (58, [(58, .invokestatic 39, 3, 1002, 0, 0)], (6, (61, .ireturn, 1, 0, 0, 0), []))
def qm9 : QM := (yX1_costOf, cX1_costOf, 6, (some .int), 2, 5, [qb9_0, qb9_1, qb9_2, qb9_3, qb9_4, qb9_5, qb9_6])
def qb10_0 : QB := (0, [(0, .iconst 0, 1, 0, 0, 0), (1, .istore 4, 2, 4, 0, 0), (3, .iconst 1, 1, 0, 0, 1), (4, .istore 5, 2, 5, 0, 0)], (0, (6, .nop, 0, 1, 0, 0), []))
def qb10_1 : QB := (6, [(6, .iload 5, 2, 5, 0, 0), (8, .bipush 8, 2, 0, 0, 8)], (3, (10, .if_icmp .ge 34, 3, 7, 2, 0), []))
def qb10_2 : QB := (13, [(13, .aload_n 0, 1, 0, 0, 0), (14, .iload_n 1, 1, 1, 0, 0), (15, .iload_n 2, 1, 2, 0, 0), (16, .iload 5, 2, 5, 0, 0), (18, .iload_n 3, 1, 3, 0, 0)], (5, (19, .invokevirtual 36, 3, 11, 3, 0), [(5, 5), (0, 7)]))
def qb10_3 : QB := (22, [(22, .aload_n 0, 1, 0, 0, 0), (23, .iload_n 1, 1, 1, 0, 0), (24, .iload_n 2, 1, 2, 0, 0), (25, .iload 4, 2, 4, 0, 0), (27, .iload_n 3, 1, 3, 0, 0)], (5, (28, .invokevirtual 36, 3, 11, 4, 0), [(5, 5), (0, 7)]))
def qb10_4 : QB := (31, [], (3, (31, .if_icmp .ge 7, 3, 6, 5, 0), []))
def qb10_5 : QB := (34, [(34, .iload 5, 2, 5, 0, 0), (36, .istore 4, 2, 4, 0, 0)], (0, (38, .nop, 0, 6, 0, 0), []))
def qb10_6 : QB := (38, [(38, .iinc 5 1, 3, 5, 0, 1)], (1, (41, .goto (-35), 3, 1, 0, 0), []))
def qb10_7 : QB := (44, [(44, .iload 4, 2, 4, 0, 0)], (6, (46, .ireturn, 1, 0, 0, 0), []))
def qm10 : QM := (yX1_bestRoom, cX1_bestRoom, 6, (some .int), 2, 4, [qb10_0, qb10_1, qb10_2, qb10_3, qb10_4, qb10_5, qb10_6, qb10_7])
def qb11_0 : QB := (0, [(0, .aload_n 0, 1, 0, 0, 0), (1, .getfield 9, 3, 2, 1, 0), (4, .iload_n 1, 1, 1, 0, 0), (5, .bipush 8, 2, 0, 0, 8), (7, .imul, 1, 0, 0, 0), (8, .iload_n 3, 1, 3, 0, 0), (9, .iadd, 1, 0, 0, 0), (10, .iaload, 1, 0, 0, 0), (11, .istore 5, 2, 5, 0, 0), (13, .iload_n 2, 1, 2, 0, 0), (14, .iconst (-1), 1, 0, 0, (-1))], (3, (15, .if_icmp .eq 8, 3, 2, 1, 0), []))
def qb11_1 : QB := (18, [(18, .iload_n 2, 1, 2, 0, 0), (19, .iload_n 3, 1, 3, 0, 0)], (3, (20, .if_icmp .ne 6, 3, 3, 2, 0), []))
def qb11_2 : QB := (23, [(23, .iload 5, 2, 5, 0, 0)], (6, (25, .ireturn, 1, 0, 0, 0), []))
def qb11_3 : QB := (26, [(26, .aload_n 0, 1, 0, 0, 0), (27, .getfield 22, 3, 0, 1, 0), (30, .iload_n 1, 1, 1, 0, 0), (31, .iaload, 1, 0, 0, 0), (32, .bipush 12, 2, 0, 0, 12)], (3, (34, .if_icmp .eq 21, 3, 6, 4, 0), []))
def qb11_4 : QB := (37, [(37, .iload 4, 2, 4, 0, 0), (39, .aload_n 0, 1, 0, 0, 0), (40, .getfield 22, 3, 0, 1, 0), (43, .iload_n 1, 1, 1, 0, 0), (44, .iaload, 1, 0, 0, 0), (45, .ishr, 1, 0, 0, 0), (46, .iconst 1, 1, 0, 0, 1), (47, .iand, 1, 0, 0, 0)], (2, (48, .ifCond .eq 7, 3, 6, 5, 0), []))
def qb11_5 : QB := (51, [(51, .iconst 1, 1, 0, 0, 1)], (1, (52, .goto 4, 3, 7, 0, 0), []))
def qb11_6 : QB := (55, [(55, .iconst 0, 1, 0, 0, 0)], (0, (56, .nop, 0, 7, 0, 0), []))
def qb11_7 : QB := (56, [(56, .istore 6, 2, 6, 0, 0), (58, .iload 5, 2, 5, 0, 0), (60, .iload 6, 2, 6, 0, 0)], (2, (62, .ifCond .eq 7, 3, 9, 8, 0), []))
def qb11_8 : QB := (65, [(65, .iconst 1, 1, 0, 0, 1)], (1, (66, .goto 6, 3, 10, 0, 0), []))
def qb11_9 : QB := (69, [(69, .sipush 1000, 3, 0, 0, 1000)], (0, (72, .nop, 0, 10, 0, 0), []))
def qb11_10 : QB := (72, [(72, .iadd, 1, 0, 0, 0)], (6, (73, .ireturn, 1, 0, 0, 0), []))
def qm11 : QM := (yX1_costWith, cX1_costWith, 7, (some .int), 2, 5, [qb11_0, qb11_1, qb11_2, qb11_3, qb11_4, qb11_5, qb11_6, qb11_7, qb11_8, qb11_9, qb11_10])
def qb12_0 : QB := (0, [(0, .aload_n 1, 1, 1, 0, 0), (1, .getfield 9, 3, 0, 2, 0), (4, .iconst 0, 1, 0, 0, 0), (5, .aload_n 0, 1, 0, 0, 0), (6, .getfield 9, 3, 0, 2, 0), (9, .iconst 0, 1, 0, 0, 0), (10, .bipush 24, 2, 0, 0, 24), (12, .invokestatic 34, 3, 1003, 0, 0), (15, .aload_n 1, 1, 1, 0, 0), (16, .getfield 15, 3, 1, 2, 0), (19, .iconst 0, 1, 0, 0, 0), (20, .aload_n 0, 1, 0, 0, 0), (21, .getfield 15, 3, 1, 2, 0), (24, .iconst 0, 1, 0, 0, 0), (25, .bipush 24, 2, 0, 0, 24), (27, .invokestatic 34, 3, 1003, 0, 0), (30, .aload_n 1, 1, 1, 0, 0), (31, .getfield 18, 3, 2, 2, 0), (34, .iconst 0, 1, 0, 0, 0), (35, .aload_n 0, 1, 0, 0, 0), (36, .getfield 18, 3, 2, 2, 0), (39, .iconst 0, 1, 0, 0, 0), (40, .aload_n 0, 1, 0, 0, 0), (41, .getfield 18, 3, 2, 2, 0), (44, .arraylength, 1, 0, 0, 0), (45, .invokestatic 34, 3, 1003, 0, 0), (48, .aload_n 1, 1, 1, 0, 0), (49, .getfield 21, 3, 3, 2, 0), (52, .iconst 0, 1, 0, 0, 0), (53, .aload_n 0, 1, 0, 0, 0), (54, .getfield 21, 3, 3, 2, 0), (57, .iconst 0, 1, 0, 0, 0), (58, .bipush 12, 2, 0, 0, 12), (60, .invokestatic 34, 3, 1003, 0, 0), (63, .aload_n 0, 1, 0, 0, 0), (64, .aload_n 1, 1, 1, 0, 0), (65, .getfield 24, 3, 4, 2, 0), (68, .putfield 24, 3, 4, 2, 0)], (7, (71, .return_, 1, 0, 0, 0), []))
def qm12 : QM := (yX2_takeOver, cX2_takeOver, 2, none, 4, 2, [qb12_0])
def qb13_0 : QB := (0, [(0, .aload_n 0, 1, 0, 0, 0), (1, .iload_n 1, 1, 1, 0, 0), (2, .aload_n 0, 1, 0, 0, 0), (3, .getfield 21, 3, 3, 2, 0), (6, .iload_n 1, 1, 1, 0, 0), (7, .iaload, 1, 0, 0, 0)], (5, (8, .invokevirtual 40, 3, 14, 1, 0), [(6, 3), (0, 3)]))
def qb13_1 : QB := (11, [(11, .istore 5, 2, 5, 0, 0), (13, .aload_n 0, 1, 0, 0, 0), (14, .getfield 18, 3, 2, 2, 0), (17, .iload 5, 2, 5, 0, 0), (19, .iload_n 2, 1, 2, 0, 0), (20, .iastore, 1, 0, 0, 0), (21, .aload_n 0, 1, 0, 0, 0), (22, .getfield 18, 3, 2, 2, 0), (25, .iload 5, 2, 5, 0, 0), (27, .iconst 1, 1, 0, 0, 1), (28, .iadd, 1, 0, 0, 0), (29, .iload_n 3, 1, 3, 0, 0), (30, .iastore, 1, 0, 0, 0), (31, .aload_n 0, 1, 0, 0, 0), (32, .getfield 18, 3, 2, 2, 0), (35, .iload 5, 2, 5, 0, 0), (37, .iconst 2, 1, 0, 0, 2), (38, .iadd, 1, 0, 0, 0), (39, .iload 4, 2, 4, 0, 0), (41, .iastore, 1, 0, 0, 0), (42, .aload_n 0, 1, 0, 0, 0), (43, .getfield 21, 3, 3, 2, 0), (46, .iload_n 1, 1, 1, 0, 0), (47, .dup2, 1, 0, 0, 0), (48, .iaload, 1, 0, 0, 0), (49, .iconst 1, 1, 0, 0, 1), (50, .iadd, 1, 0, 0, 0), (51, .iastore, 1, 0, 0, 0)], (7, (52, .return_, 1, 0, 0, 0), []))
def qm13 : QM := (yX2_addAct, cX2_addAct, 6, none, 4, 5, [qb13_0, qb13_1])
def qb14_0 : QB := (0, [(0, .iload_n 1, 1, 1, 0, 0), (1, .iconst 5, 1, 0, 0, 5), (2, .imul, 1, 0, 0, 0), (3, .iload_n 2, 1, 2, 0, 0), (4, .iadd, 1, 0, 0, 0), (5, .iconst 3, 1, 0, 0, 3), (6, .imul, 1, 0, 0, 0)], (6, (7, .ireturn, 1, 0, 0, 0), []))
def qm14 : QM := (yX2_actAt, cX2_actAt, 3, (some .int), 4, 3, [qb14_0])
def qb15_0 : QB := (0, [(0, .bipush 24, 2, 0, 0, 24), (2, .aload_n 0, 1, 0, 0, 0), (3, .iconst 0, 1, 0, 0, 0), (4, .bipush 24, 2, 0, 0, 24), (6, .bipush 12, 2, 0, 0, 12)], (5, (8, .invokevirtual 44, 3, 16, 1, 0), [(6, 4), (0, 6)]))
def qb15_1 : QB := (11, [(11, .isub, 1, 0, 0, 0)], (6, (12, .ireturn, 1, 0, 0, 0), []))
def qm15 : QM := (yX2_ownedHours, cX2_ownedHours, 1, (some .int), 4, 1, [qb15_0, qb15_1])
def qb16_0 : QB := (0, [(0, .iconst 0, 1, 0, 0, 0), (1, .istore 4, 2, 4, 0, 0), (3, .iload_n 1, 1, 1, 0, 0), (4, .istore 5, 2, 5, 0, 0)], (0, (6, .nop, 0, 1, 0, 0), []))
def qb16_1 : QB := (6, [(6, .iload 5, 2, 5, 0, 0), (8, .iload_n 2, 1, 2, 0, 0)], (3, (9, .if_icmp .ge 23, 3, 5, 2, 0), []))
def qb16_2 : QB := (12, [(12, .aload_n 0, 1, 0, 0, 0), (13, .getfield 9, 3, 0, 2, 0), (16, .iload 5, 2, 5, 0, 0), (18, .iaload, 1, 0, 0, 0), (19, .iload_n 3, 1, 3, 0, 0)], (3, (20, .if_icmp .ne 6, 3, 4, 3, 0), []))
def qb16_3 : QB := (23, [(23, .iinc 4 1, 3, 4, 0, 1)], (0, (26, .nop, 0, 4, 0, 0), []))
def qb16_4 : QB := (26, [(26, .iinc 5 1, 3, 5, 0, 1)], (1, (29, .goto (-23), 3, 1, 0, 0), []))
def qb16_5 : QB := (32, [(32, .iload 4, 2, 4, 0, 0)], (6, (34, .ireturn, 1, 0, 0, 0), []))
def qm16 : QM := (yX2_hoursIn, cX2_hoursIn, 6, (some .int), 4, 4, [qb16_0, qb16_1, qb16_2, qb16_3, qb16_4, qb16_5])
def qb17_0 : QB := (0, [(0, .aload_n 0, 1, 0, 0, 0), (1, .getfield 9, 3, 0, 2, 0), (4, .iload_n 1, 1, 1, 0, 0), (5, .iaload, 1, 0, 0, 0), (6, .istore_n 3, 1, 3, 0, 0), (7, .aload_n 0, 1, 0, 0, 0), (8, .getfield 9, 3, 0, 2, 0), (11, .iload_n 1, 1, 1, 0, 0), (12, .aload_n 0, 1, 0, 0, 0), (13, .getfield 9, 3, 0, 2, 0), (16, .iload_n 2, 1, 2, 0, 0), (17, .iaload, 1, 0, 0, 0), (18, .iastore, 1, 0, 0, 0), (19, .aload_n 0, 1, 0, 0, 0), (20, .getfield 9, 3, 0, 2, 0), (23, .iload_n 2, 1, 2, 0, 0), (24, .iload_n 3, 1, 3, 0, 0), (25, .iastore, 1, 0, 0, 0)], (7, (26, .return_, 1, 0, 0, 0), []))
def qm17 : QM := (yX2_exchange, cX2_exchange, 4, none, 4, 3, [qb17_0])
def qb18_0 : QB := (0, [(0, .aload_n 0, 1, 0, 0, 0), (1, .sipush 25173, 3, 0, 0, 25173), (4, .aload_n 0, 1, 0, 0, 0), (5, .getfield 24, 3, 4, 2, 0), (8, .imul, 1, 0, 0, 0), (9, .sipush 13849, 3, 0, 0, 13849), (12, .iadd, 1, 0, 0, 0), (13, .ldc 48, 2, 0, 0, 65536), (15, .irem, 1, 0, 0, 0), (16, .putfield 24, 3, 4, 2, 0), (19, .aload_n 0, 1, 0, 0, 0), (20, .getfield 9, 3, 0, 2, 0), (23, .aload_n 0, 1, 0, 0, 0), (24, .getfield 24, 3, 4, 2, 0), (27, .bipush 24, 2, 0, 0, 24), (29, .irem, 1, 0, 0, 0), (30, .aload_n 0, 1, 0, 0, 0), (31, .getfield 24, 3, 4, 2, 0), (34, .bipush 24, 2, 0, 0, 24), (36, .idiv, 1, 0, 0, 0), (37, .bipush 12, 2, 0, 0, 12), (39, .irem, 1, 0, 0, 0), (40, .iastore, 1, 0, 0, 0)], (7, (41, .return_, 1, 0, 0, 0), []))
def qm18 : QM := (yX2_drawHour, cX2_drawHour, 1, none, 4, 1, [qb18_0])
def qb19_0 : QB := (0, [(0, .iconst 0, 1, 0, 0, 0), (1, .istore_n 2, 1, 2, 0, 0), (2, .iconst 0, 1, 0, 0, 0), (3, .istore_n 3, 1, 3, 0, 0)], (0, (4, .nop, 0, 1, 0, 0), []))
def qb19_1 : QB := (4, [(4, .iload_n 3, 1, 3, 0, 0), (5, .bipush 24, 2, 0, 0, 24)], (3, (7, .if_icmp .ge 34, 3, 6, 2, 0), []))
def qb19_2 : QB := (10, [(10, .aload_n 0, 1, 0, 0, 0), (11, .getfield 9, 3, 0, 2, 0), (14, .iload_n 3, 1, 3, 0, 0), (15, .iaload, 1, 0, 0, 0), (16, .iload_n 1, 1, 1, 0, 0)], (3, (17, .if_icmp .ne 18, 3, 5, 3, 0), []))
def qb19_3 : QB := (20, [(20, .aload_n 0, 1, 0, 0, 0), (21, .getfield 9, 3, 0, 2, 0), (24, .iload_n 3, 1, 3, 0, 0), (25, .aload_n 0, 1, 0, 0, 0), (26, .iload_n 3, 1, 3, 0, 0), (27, .iload_n 1, 1, 1, 0, 0)], (5, (28, .invokevirtual 49, 3, 20, 4, 0), [(6, 3), (0, 5)]))
def qb19_4 : QB := (31, [(31, .iastore, 1, 0, 0, 0), (32, .iinc 2 1, 3, 2, 0, 1)], (0, (35, .nop, 0, 5, 0, 0), []))
def qb19_5 : QB := (35, [(35, .iinc 3 1, 3, 3, 0, 1)], (1, (38, .goto (-34), 3, 1, 0, 0), []))
def qb19_6 : QB := (41, [(41, .iload_n 2, 1, 2, 0, 0)], (6, (42, .ireturn, 1, 0, 0, 0), []))
def qm19 : QM := (yX2_bequeath, cX2_bequeath, 4, (some .int), 4, 2, [qb19_0, qb19_1, qb19_2, qb19_3, qb19_4, qb19_5, qb19_6])
def qb20_0 : QB := (0, [(0, .iconst 1, 1, 0, 0, 1), (1, .istore_n 3, 1, 3, 0, 0)], (0, (2, .nop, 0, 1, 0, 0), []))
def qb20_1 : QB := (2, [(2, .iload_n 3, 1, 3, 0, 0), (3, .bipush 24, 2, 0, 0, 24)], (3, (5, .if_icmp .ge 34, 3, 5, 2, 0), []))
def qb20_2 : QB := (8, [(8, .aload_n 0, 1, 0, 0, 0), (9, .getfield 9, 3, 0, 2, 0), (12, .iload_n 1, 1, 1, 0, 0), (13, .bipush 24, 2, 0, 0, 24), (15, .iadd, 1, 0, 0, 0), (16, .iload_n 3, 1, 3, 0, 0), (17, .isub, 1, 0, 0, 0), (18, .bipush 24, 2, 0, 0, 24), (20, .irem, 1, 0, 0, 0), (21, .iaload, 1, 0, 0, 0), (22, .istore 4, 2, 4, 0, 0), (24, .iload 4, 2, 4, 0, 0), (26, .iload_n 2, 1, 2, 0, 0)], (3, (27, .if_icmp .eq 6, 3, 4, 3, 0), []))
def qb20_3 : QB := (30, [(30, .iload 4, 2, 4, 0, 0)], (6, (32, .ireturn, 1, 0, 0, 0), []))
def qb20_4 : QB := (33, [(33, .iinc 3 1, 3, 3, 0, 1)], (1, (36, .goto (-34), 3, 1, 0, 0), []))
def qb20_5 : QB := (39, [(39, .bipush 12, 2, 0, 0, 12)], (6, (41, .ireturn, 1, 0, 0, 0), []))
def qm20 : QM := (yX2_heirOf, cX2_heirOf, 5, (some .int), 4, 3, [qb20_0, qb20_1, qb20_2, qb20_3, qb20_4, qb20_5])
def qb21_0 : QB := (0, [(0, .iload_n 2, 1, 2, 0, 0), (1, .iload_n 1, 1, 1, 0, 0), (2, .isub, 1, 0, 0, 0), (3, .aload_n 0, 1, 0, 0, 0), (4, .iload_n 1, 1, 1, 0, 0), (5, .iload_n 2, 1, 2, 0, 0), (6, .bipush 12, 2, 0, 0, 12)], (5, (8, .invokevirtual 44, 3, 16, 1, 0), [(6, 4), (0, 6)]))
def qb21_1 : QB := (11, [(11, .isub, 1, 0, 0, 0), (12, .istore 5, 2, 5, 0, 0), (14, .aload_n 0, 1, 0, 0, 0), (15, .iload_n 1, 1, 1, 0, 0), (16, .iload_n 2, 1, 2, 0, 0), (17, .iload 4, 2, 4, 0, 0)], (5, (19, .invokevirtual 44, 3, 16, 2, 0), [(6, 4), (0, 6)]))
def qb21_2 : QB := (22, [(22, .istore 6, 2, 6, 0, 0), (24, .iload 5, 2, 5, 0, 0), (26, .iconst 1, 1, 0, 0, 1)], (3, (27, .if_icmp .lt 8, 3, 4, 3, 0), []))
def qb21_3 : QB := (30, [(30, .iload 6, 2, 6, 0, 0)], (2, (32, .ifCond .ne 5, 3, 5, 4, 0), []))
def qb21_4 : QB := (35, [(35, .iconst 0, 1, 0, 0, 0)], (6, (36, .ireturn, 1, 0, 0, 0), []))
def qb21_5 : QB := (37, [(37, .iload_n 3, 1, 3, 0, 0), (38, .istore 7, 2, 7, 0, 0), (40, .iconst 0, 1, 0, 0, 0), (41, .istore 8, 2, 8, 0, 0), (43, .iconst 0, 1, 0, 0, 0), (44, .istore 9, 2, 9, 0, 0)], (0, (46, .nop, 0, 6, 0, 0), []))
def qb21_6 : QB := (46, [(46, .iload 9, 2, 9, 0, 0), (48, .bipush 12, 2, 0, 0, 12)], (3, (50, .if_icmp .ge 46, 3, 12, 7, 0), []))
def qb21_7 : QB := (53, [(53, .aload_n 0, 1, 0, 0, 0), (54, .iload_n 1, 1, 1, 0, 0), (55, .iload_n 2, 1, 2, 0, 0), (56, .iload 9, 2, 9, 0, 0)], (5, (58, .invokevirtual 44, 3, 16, 8, 0), [(6, 4), (0, 6)]))
def qb21_8 : QB := (61, [(61, .istore 10, 2, 10, 0, 0), (63, .iload 7, 2, 7, 0, 0), (65, .iload_n 3, 1, 3, 0, 0), (66, .iload 10, 2, 10, 0, 0), (68, .imul, 1, 0, 0, 0), (69, .iload 5, 2, 5, 0, 0), (71, .idiv, 1, 0, 0, 0), (72, .isub, 1, 0, 0, 0), (73, .istore 7, 2, 7, 0, 0), (75, .iload 9, 2, 9, 0, 0), (77, .iload 4, 2, 4, 0, 0)], (3, (79, .if_icmp .ge 11, 3, 11, 9, 0), []))
def qb21_9 : QB := (82, [(82, .iload 10, 2, 10, 0, 0)], (2, (84, .ifCond .le 6, 3, 11, 10, 0), []))
def qb21_10 : QB := (87, [(87, .iinc 8 1, 3, 8, 0, 1)], (0, (90, .nop, 0, 11, 0, 0), []))
def qb21_11 : QB := (90, [(90, .iinc 9 1, 3, 9, 0, 1)], (1, (93, .goto (-47), 3, 6, 0, 0), []))
def qb21_12 : QB := (96, [(96, .iload_n 3, 1, 3, 0, 0), (97, .iload 6, 2, 6, 0, 0), (99, .imul, 1, 0, 0, 0), (100, .iload 5, 2, 5, 0, 0), (102, .idiv, 1, 0, 0, 0), (103, .iload 8, 2, 8, 0, 0), (105, .iload 7, 2, 7, 0, 0)], (3, (107, .if_icmp .ge 7, 3, 14, 13, 0), []))
def qb21_13 : QB := (110, [(110, .iconst 1, 1, 0, 0, 1)], (1, (111, .goto 4, 3, 15, 0, 0), []))
def qb21_14 : QB := (114, [(114, .iconst 0, 1, 0, 0, 0)], (0, (115, .nop, 0, 15, 0, 0), []))
def qb21_15 : QB := (115, [(115, .iadd, 1, 0, 0, 0)], (6, (116, .ireturn, 1, 0, 0, 0), []))
def qm21 : QM := (yX2_shareOf, cX2_shareOf, 11, (some .int), 4, 5, [qb21_0, qb21_1, qb21_2, qb21_3, qb21_4, qb21_5, qb21_6, qb21_7, qb21_8, qb21_9, qb21_10, qb21_11, qb21_12, qb21_13, qb21_14, qb21_15])
def qb22_0 : QB := (0, [(0, .aload_n 0, 1, 0, 0, 0), (1, .iconst 0, 1, 0, 0, 0), (2, .putfield 9, 3, 0, 3, 0), (5, .aload_n 0, 1, 0, 0, 0), (6, .iconst 0, 1, 0, 0, 0), (7, .putfield 15, 3, 1, 3, 0), (10, .aload_n 0, 1, 0, 0, 0), (11, .getfield 38, 3, 8, 3, 0), (14, .iconst 0, 1, 0, 0, 0)], (5, (15, .invokestatic 44, 3, 200, 1, 0), [(0, 2), (0, 4)]))
def qb22_1 : QB := (18, [], (7, (18, .return_, 1, 0, 0, 0), []))
def qm22 : QM := (yX3_clear, cX3_clear, 1, none, 6, 1, [qb22_0, qb22_1])
def qb23_0 : QB := (0, [(0, .aload_n 0, 1, 0, 0, 0), (1, .aload_n 1, 1, 1, 0, 0), (2, .getfield 9, 3, 0, 3, 0), (5, .putfield 9, 3, 0, 3, 0), (8, .aload_n 0, 1, 0, 0, 0), (9, .aload_n 1, 1, 1, 0, 0), (10, .getfield 15, 3, 1, 3, 0), (13, .putfield 15, 3, 1, 3, 0), (16, .aload_n 1, 1, 1, 0, 0), (17, .getfield 18, 3, 2, 3, 0), (20, .iconst 0, 1, 0, 0, 0), (21, .aload_n 0, 1, 0, 0, 0), (22, .getfield 18, 3, 2, 3, 0), (25, .iconst 0, 1, 0, 0, 0), (26, .sipush 200, 3, 0, 0, 200), (29, .invokestatic 50, 3, 1003, 0, 0), (32, .aload_n 1, 1, 1, 0, 0), (33, .getfield 22, 3, 3, 3, 0), (36, .iconst 0, 1, 0, 0, 0), (37, .aload_n 0, 1, 0, 0, 0), (38, .getfield 22, 3, 3, 3, 0), (41, .iconst 0, 1, 0, 0, 0), (42, .sipush 200, 3, 0, 0, 200), (45, .invokestatic 50, 3, 1003, 0, 0), (48, .aload_n 1, 1, 1, 0, 0), (49, .getfield 26, 3, 4, 3, 0), (52, .iconst 0, 1, 0, 0, 0), (53, .aload_n 0, 1, 0, 0, 0), (54, .getfield 26, 3, 4, 3, 0), (57, .iconst 0, 1, 0, 0, 0), (58, .bipush 14, 2, 0, 0, 14), (60, .invokestatic 50, 3, 1003, 0, 0), (63, .aload_n 1, 1, 1, 0, 0), (64, .getfield 29, 3, 5, 3, 0), (67, .iconst 0, 1, 0, 0, 0), (68, .aload_n 0, 1, 0, 0, 0), (69, .getfield 29, 3, 5, 3, 0), (72, .iconst 0, 1, 0, 0, 0), (73, .bipush 14, 2, 0, 0, 14), (75, .invokestatic 50, 3, 1003, 0, 0), (78, .aload_n 1, 1, 1, 0, 0), (79, .getfield 32, 3, 6, 3, 0), (82, .iconst 0, 1, 0, 0, 0), (83, .aload_n 0, 1, 0, 0, 0), (84, .getfield 32, 3, 6, 3, 0), (87, .iconst 0, 1, 0, 0, 0), (88, .bipush 14, 2, 0, 0, 14), (90, .invokestatic 50, 3, 1003, 0, 0), (93, .aload_n 1, 1, 1, 0, 0), (94, .getfield 35, 3, 7, 3, 0), (97, .iconst 0, 1, 0, 0, 0), (98, .aload_n 0, 1, 0, 0, 0), (99, .getfield 35, 3, 7, 3, 0), (102, .iconst 0, 1, 0, 0, 0), (103, .aload_n 0, 1, 0, 0, 0), (104, .getfield 35, 3, 7, 3, 0), (107, .arraylength, 1, 0, 0, 0), (108, .invokestatic 50, 3, 1003, 0, 0), (111, .aload_n 1, 1, 1, 0, 0), (112, .getfield 38, 3, 8, 3, 0), (115, .iconst 0, 1, 0, 0, 0), (116, .aload_n 0, 1, 0, 0, 0), (117, .getfield 38, 3, 8, 3, 0), (120, .iconst 0, 1, 0, 0, 0), (121, .bipush 7, 2, 0, 0, 7), (123, .invokestatic 50, 3, 1003, 0, 0)], (7, (126, .return_, 1, 0, 0, 0), []))
def qm23 : QM := (yX3_takeOver, cX3_takeOver, 2, none, 6, 2, [qb23_0])
def qb24_0 : QB := (0, [(0, .aload_n 0, 1, 0, 0, 0), (1, .getfield 15, 3, 1, 3, 0), (4, .sipush 200, 3, 0, 0, 200)], (3, (7, .if_icmp .ge 33, 3, 2, 1, 0), []))
def qb24_1 : QB := (10, [(10, .aload_n 0, 1, 0, 0, 0), (11, .getfield 18, 3, 2, 3, 0), (14, .aload_n 0, 1, 0, 0, 0), (15, .getfield 15, 3, 1, 3, 0), (18, .iload_n 1, 1, 1, 0, 0), (19, .castore, 1, 0, 0, 0), (20, .aload_n 0, 1, 0, 0, 0), (21, .getfield 22, 3, 3, 3, 0), (24, .aload_n 0, 1, 0, 0, 0), (25, .getfield 15, 3, 1, 3, 0), (28, .iload_n 2, 1, 2, 0, 0), (29, .iastore, 1, 0, 0, 0), (30, .aload_n 0, 1, 0, 0, 0), (31, .dup, 1, 0, 0, 0), (32, .getfield 15, 3, 1, 3, 0), (35, .iconst 1, 1, 0, 0, 1), (36, .iadd, 1, 0, 0, 0), (37, .putfield 15, 3, 1, 3, 0)], (0, (40, .nop, 0, 2, 0, 0), []))
def qb24_2 : QB := (40, [], (7, (40, .return_, 1, 0, 0, 0), []))
def qm24 : QM := (yX3_put, cX3_put, 3, none, 6, 3, [qb24_0, qb24_1, qb24_2])
def qb25_0 : QB := (0, [(0, .iload_n 1, 1, 1, 0, 0)], (2, (1, .ifCond .lt 23, 3, 3, 1, 0), []))
def qb25_1 : QB := (4, [(4, .iload_n 1, 1, 1, 0, 0), (5, .aload_n 0, 1, 0, 0, 0), (6, .getfield 15, 3, 1, 3, 0)], (3, (9, .if_icmp .ge 15, 3, 3, 2, 0), []))
def qb25_2 : QB := (12, [(12, .aload_n 0, 1, 0, 0, 0), (13, .getfield 22, 3, 3, 3, 0), (16, .iload_n 1, 1, 1, 0, 0), (17, .aload_n 0, 1, 0, 0, 0), (18, .getfield 15, 3, 1, 3, 0), (21, .iconst 1, 1, 0, 0, 1), (22, .isub, 1, 0, 0, 0), (23, .iastore, 1, 0, 0, 0)], (0, (24, .nop, 0, 3, 0, 0), []))
def qb25_3 : QB := (24, [], (7, (24, .return_, 1, 0, 0, 0), []))
def qm25 : QM := (yX3_passFrom, cX3_passFrom, 2, none, 6, 2, [qb25_0, qb25_1, qb25_2, qb25_3])
def qb26_0 : QB := (0, [(0, .aload_n 0, 1, 0, 0, 0), (1, .getfield 9, 3, 0, 3, 0), (4, .bipush 14, 2, 0, 0, 14)], (3, (6, .if_icmp .ge 76, 3, 2, 1, 0), []))
def qb26_1 : QB := (9, [(9, .aload_n 0, 1, 0, 0, 0), (10, .getfield 26, 3, 4, 3, 0), (13, .aload_n 0, 1, 0, 0, 0), (14, .getfield 9, 3, 0, 3, 0), (17, .iload_n 2, 1, 2, 0, 0), (18, .iastore, 1, 0, 0, 0), (19, .aload_n 0, 1, 0, 0, 0), (20, .getfield 29, 3, 5, 3, 0), (23, .aload_n 0, 1, 0, 0, 0), (24, .getfield 9, 3, 0, 3, 0), (27, .iload_n 3, 1, 3, 0, 0), (28, .iastore, 1, 0, 0, 0), (29, .aload_n 0, 1, 0, 0, 0), (30, .getfield 32, 3, 6, 3, 0), (33, .aload_n 0, 1, 0, 0, 0), (34, .getfield 9, 3, 0, 3, 0), (37, .aload_n 0, 1, 0, 0, 0), (38, .getfield 15, 3, 1, 3, 0), (41, .iastore, 1, 0, 0, 0), (42, .aload_n 0, 1, 0, 0, 0), (43, .getfield 35, 3, 7, 3, 0), (46, .iload_n 1, 1, 1, 0, 0), (47, .bipush 14, 2, 0, 0, 14), (49, .imul, 1, 0, 0, 0), (50, .aload_n 0, 1, 0, 0, 0), (51, .getfield 38, 3, 8, 3, 0), (54, .iload_n 1, 1, 1, 0, 0), (55, .iaload, 1, 0, 0, 0), (56, .iadd, 1, 0, 0, 0), (57, .aload_n 0, 1, 0, 0, 0), (58, .getfield 9, 3, 0, 3, 0), (61, .iastore, 1, 0, 0, 0), (62, .aload_n 0, 1, 0, 0, 0), (63, .getfield 38, 3, 8, 3, 0), (66, .iload_n 1, 1, 1, 0, 0), (67, .dup2, 1, 0, 0, 0), (68, .iaload, 1, 0, 0, 0), (69, .iconst 1, 1, 0, 0, 1), (70, .iadd, 1, 0, 0, 0), (71, .iastore, 1, 0, 0, 0), (72, .aload_n 0, 1, 0, 0, 0), (73, .dup, 1, 0, 0, 0), (74, .getfield 9, 3, 0, 3, 0), (77, .iconst 1, 1, 0, 0, 1), (78, .iadd, 1, 0, 0, 0), (79, .putfield 9, 3, 0, 3, 0)], (0, (82, .nop, 0, 2, 0, 0), []))
def qb26_2 : QB := (82, [], (7, (82, .return_, 1, 0, 0, 0), []))
def qm26 : QM := (yX3_addClause, cX3_addClause, 4, none, 6, 4, [qb26_0, qb26_1, qb26_2])
def qb27_0 : QB := (0, [(0, .iconst 0, 1, 0, 0, 0), (1, .istore_n 3, 1, 3, 0, 0)], (0, (2, .nop, 0, 1, 0, 0), []))
def qb27_1 : QB := (2, [(2, .iload_n 3, 1, 3, 0, 0), (3, .aload_n 0, 1, 0, 0, 0), (4, .getfield 38, 3, 8, 3, 0), (7, .iload_n 1, 1, 1, 0, 0), (8, .iaload, 1, 0, 0, 0)], (3, (9, .if_icmp .ge 84, 3, 7, 2, 0), []))
def qb27_2 : QB := (12, [(12, .aload_n 0, 1, 0, 0, 0), (13, .getfield 35, 3, 7, 3, 0), (16, .iload_n 1, 1, 1, 0, 0), (17, .bipush 14, 2, 0, 0, 14), (19, .imul, 1, 0, 0, 0), (20, .iload_n 3, 1, 3, 0, 0), (21, .iadd, 1, 0, 0, 0), (22, .iaload, 1, 0, 0, 0), (23, .istore 4, 2, 4, 0, 0), (25, .aload_n 0, 1, 0, 0, 0), (26, .aload_n 0, 1, 0, 0, 0), (27, .getfield 29, 3, 5, 3, 0), (30, .iload 4, 2, 4, 0, 0), (32, .iaload, 1, 0, 0, 0), (33, .aload_n 0, 1, 0, 0, 0), (34, .getfield 32, 3, 6, 3, 0), (37, .iload 4, 2, 4, 0, 0), (39, .iaload, 1, 0, 0, 0), (40, .aload_n 2, 1, 2, 0, 0)], (5, (41, .invokevirtual 56, 3, 28, 3, 0), [(7, 4), (0, 8)]))
def qb27_3 : QB := (44, [], (2, (44, .ifCond .eq 43, 3, 6, 4, 0), []))
def qb27_4 : QB := (47, [(47, .aload_n 0, 1, 0, 0, 0), (48, .aload_n 0, 1, 0, 0, 0), (49, .getfield 26, 3, 4, 3, 0), (52, .iload 4, 2, 4, 0, 0), (54, .iaload, 1, 0, 0, 0), (55, .aload_n 0, 1, 0, 0, 0), (56, .getfield 29, 3, 5, 3, 0), (59, .iload 4, 2, 4, 0, 0), (61, .iaload, 1, 0, 0, 0), (62, .aload_n 2, 1, 2, 0, 0)], (5, (63, .invokevirtual 56, 3, 28, 5, 0), [(7, 4), (0, 8)]))
def qb27_5 : QB := (66, [(66, .istore 5, 2, 5, 0, 0), (68, .getstatic 60, 3, 118, 1, 0), (71, .iload_n 1, 1, 1, 0, 0), (72, .iaload, 1, 0, 0, 0), (73, .getstatic 63, 3, 119, 1, 0), (76, .iload_n 1, 1, 1, 0, 0), (77, .iaload, 1, 0, 0, 0), (78, .iload 5, 2, 5, 0, 0), (80, .invokestatic 66, 3, 1002, 0, 0), (83, .invokestatic 72, 3, 1001, 0, 0)], (6, (86, .ireturn, 1, 0, 0, 0), []))
def qb27_6 : QB := (87, [(87, .iinc 3 1, 3, 3, 0, 1)], (1, (90, .goto (-88), 3, 1, 0, 0), []))
def qb27_7 : QB := (93, [(93, .iconst 0, 1, 0, 0, 0)], (6, (94, .ireturn, 1, 0, 0, 0), []))
def qm27 : QM := (yX3_asks, cX3_asks, 6, (some .int), 6, 3, [qb27_0, qb27_1, qb27_2, qb27_3, qb27_4, qb27_5, qb27_6, qb27_7])
def qb28_0 : QB := (0, [(0, .iconst 0, 1, 0, 0, 0), (1, .istore 4, 2, 4, 0, 0), (3, .iload_n 1, 1, 1, 0, 0), (4, .istore 5, 2, 5, 0, 0)], (0, (6, .nop, 0, 1, 0, 0), []))
def qb28_1 : QB := (6, [(6, .iload 5, 2, 5, 0, 0), (8, .iload_n 2, 1, 2, 0, 0)], (3, (9, .if_icmp .ge 267, 3, 39, 2, 0), []))
def qb28_2 : QB := (12, [(12, .iload 5, 2, 5, 0, 0), (14, .aload_n 0, 1, 0, 0, 0), (15, .getfield 15, 3, 1, 3, 0)], (3, (18, .if_icmp .ge 258, 3, 39, 3, 0), []))
def qb28_3 : QB := (21, [(21, .aload_n 0, 1, 0, 0, 0), (22, .getfield 18, 3, 2, 3, 0), (25, .iload 5, 2, 5, 0, 0), (27, .caload, 1, 0, 0, 0), (28, .istore 6, 2, 6, 0, 0), (30, .iload 6, 2, 6, 0, 0), (32, .bipush 48, 2, 0, 0, 48)], (3, (34, .if_icmp .eq 10, 3, 5, 4, 0), []))
def qb28_4 : QB := (37, [(37, .iload 6, 2, 6, 0, 0), (39, .bipush 107, 2, 0, 0, 107)], (3, (41, .if_icmp .ne 51, 3, 11, 5, 0), []))
def qb28_5 : QB := (44, [(44, .iload 4, 2, 4, 0, 0), (46, .bipush 32, 2, 0, 0, 32)], (3, (48, .if_icmp .lt 5, 3, 7, 6, 0), []))
def qb28_6 : QB := (51, [(51, .iconst 0, 1, 0, 0, 0)], (6, (52, .ireturn, 1, 0, 0, 0), []))
def qb28_7 : QB := (53, [(53, .aload_n 0, 1, 0, 0, 0), (54, .getfield 41, 3, 9, 3, 0), (57, .iload 4, 2, 4, 0, 0), (59, .iload 6, 2, 6, 0, 0), (61, .bipush 48, 2, 0, 0, 48)], (3, (63, .if_icmp .ne 13, 3, 9, 8, 0), []))
def qb28_8 : QB := (66, [(66, .aload_n 0, 1, 0, 0, 0), (67, .getfield 22, 3, 3, 3, 0), (70, .iload 5, 2, 5, 0, 0), (72, .iaload, 1, 0, 0, 0)], (1, (73, .goto 12, 3, 10, 0, 0), []))
def qb28_9 : QB := (76, [(76, .aload_n 3, 1, 3, 0, 0), (77, .aload_n 0, 1, 0, 0, 0), (78, .getfield 22, 3, 3, 3, 0), (81, .iload 5, 2, 5, 0, 0), (83, .iaload, 1, 0, 0, 0), (84, .iaload, 1, 0, 0, 0)], (0, (85, .nop, 0, 10, 0, 0), []))
def qb28_10 : QB := (85, [(85, .iastore, 1, 0, 0, 0), (86, .iinc 4 1, 3, 4, 0, 1)], (1, (89, .goto 181, 3, 38, 0, 0), []))
def qb28_11 : QB := (92, [(92, .iload 6, 2, 6, 0, 0), (94, .bipush 33, 2, 0, 0, 33)], (3, (96, .if_icmp .eq 17, 3, 14, 12, 0), []))
def qb28_12 : QB := (99, [(99, .iload 6, 2, 6, 0, 0), (101, .bipush 38, 2, 0, 0, 38)], (3, (103, .if_icmp .eq 10, 3, 14, 13, 0), []))
def qb28_13 : QB := (106, [(106, .iload 6, 2, 6, 0, 0), (108, .bipush 124, 2, 0, 0, 124)], (3, (110, .if_icmp .ne 99, 3, 31, 14, 0), []))
def qb28_14 : QB := (113, [(113, .iload 4, 2, 4, 0, 0), (115, .iconst 1, 1, 0, 0, 1)], (3, (116, .if_icmp .ge 5, 3, 16, 15, 0), []))
def qb28_15 : QB := (119, [(119, .iconst 0, 1, 0, 0, 0)], (6, (120, .ireturn, 1, 0, 0, 0), []))
def qb28_16 : QB := (121, [(121, .aload_n 0, 1, 0, 0, 0), (122, .getfield 41, 3, 9, 3, 0), (125, .iload 4, 2, 4, 0, 0), (127, .iconst 1, 1, 0, 0, 1), (128, .isub, 1, 0, 0, 0), (129, .iaload, 1, 0, 0, 0)], (2, (130, .ifCond .eq 7, 3, 18, 17, 0), []))
def qb28_17 : QB := (133, [(133, .iconst 1, 1, 0, 0, 1)], (1, (134, .goto 4, 3, 19, 0, 0), []))
def qb28_18 : QB := (137, [(137, .iconst 0, 1, 0, 0, 0)], (0, (138, .nop, 0, 19, 0, 0), []))
def qb28_19 : QB := (138, [(138, .istore 7, 2, 7, 0, 0), (140, .iload 6, 2, 6, 0, 0), (142, .bipush 33, 2, 0, 0, 33)], (3, (144, .if_icmp .ne 25, 3, 24, 20, 0), []))
def qb28_20 : QB := (147, [(147, .aload_n 0, 1, 0, 0, 0), (148, .getfield 41, 3, 9, 3, 0), (151, .iload 4, 2, 4, 0, 0), (153, .iconst 1, 1, 0, 0, 1), (154, .isub, 1, 0, 0, 0), (155, .iload 7, 2, 7, 0, 0)], (2, (157, .ifCond .eq 7, 3, 22, 21, 0), []))
def qb28_21 : QB := (160, [(160, .iconst 0, 1, 0, 0, 0)], (1, (161, .goto 4, 3, 23, 0, 0), []))
def qb28_22 : QB := (164, [(164, .iconst 1, 1, 0, 0, 1)], (0, (165, .nop, 0, 23, 0, 0), []))
def qb28_23 : QB := (165, [(165, .iastore, 1, 0, 0, 0)], (1, (166, .goto 40, 3, 30, 0, 0), []))
def qb28_24 : QB := (169, [(169, .iload 7, 2, 7, 0, 0), (171, .iload 6, 2, 6, 0, 0), (173, .bipush 124, 2, 0, 0, 124)], (3, (175, .if_icmp .ne 7, 3, 26, 25, 0), []))
def qb28_25 : QB := (178, [(178, .iconst 1, 1, 0, 0, 1)], (1, (179, .goto 4, 3, 27, 0, 0), []))
def qb28_26 : QB := (182, [(182, .iconst 0, 1, 0, 0, 0)], (0, (183, .nop, 0, 27, 0, 0), []))
def qb28_27 : QB := (183, [], (3, (183, .if_icmp .ne 20, 3, 29, 28, 0), []))
def qb28_28 : QB := (186, [(186, .iload 5, 2, 5, 0, 0), (188, .aload_n 0, 1, 0, 0, 0), (189, .getfield 22, 3, 3, 3, 0), (192, .iload 5, 2, 5, 0, 0), (194, .iaload, 1, 0, 0, 0), (195, .invokestatic 72, 3, 1001, 0, 0), (198, .istore 5, 2, 5, 0, 0)], (1, (200, .goto 6, 3, 30, 0, 0), []))
def qb28_29 : QB := (203, [(203, .iinc 4 (-1), 3, 4, 0, (-1))], (0, (206, .nop, 0, 30, 0, 0), []))
def qb28_30 : QB := (206, [], (1, (206, .goto 64, 3, 38, 0, 0), []))
def qb28_31 : QB := (209, [(209, .iload 4, 2, 4, 0, 0), (211, .iconst 2, 1, 0, 0, 2)], (3, (212, .if_icmp .lt 23, 3, 35, 32, 0), []))
def qb28_32 : QB := (215, [(215, .iload 6, 2, 6, 0, 0)], (5, (217, .invokestatic 75, 3, 29, 33, 0), [(0, 1), (0, 1)]))
def qb28_33 : QB := (220, [], (2, (220, .ifCond .eq 17, 3, 36, 34, 0), []))
def qb28_34 : QB := (223, [(223, .aload_n 0, 1, 0, 0, 0), (224, .getfield 41, 3, 9, 3, 0), (227, .iload 4, 2, 4, 0, 0), (229, .iconst 1, 1, 0, 0, 1), (230, .isub, 1, 0, 0, 0), (231, .iaload, 1, 0, 0, 0)], (2, (232, .ifCond .ne 5, 3, 36, 35, 0), []))
def qb28_35 : QB := (235, [(235, .iconst 0, 1, 0, 0, 0)], (6, (236, .ireturn, 1, 0, 0, 0), []))
def qb28_36 : QB := (237, [(237, .iinc 4 (-1), 3, 4, 0, (-1)), (240, .aload_n 0, 1, 0, 0, 0), (241, .getfield 41, 3, 9, 3, 0), (244, .iload 4, 2, 4, 0, 0), (246, .iconst 1, 1, 0, 0, 1), (247, .isub, 1, 0, 0, 0), (248, .iload 6, 2, 6, 0, 0), (250, .aload_n 0, 1, 0, 0, 0), (251, .getfield 41, 3, 9, 3, 0), (254, .iload 4, 2, 4, 0, 0), (256, .iconst 1, 1, 0, 0, 1), (257, .isub, 1, 0, 0, 0), (258, .iaload, 1, 0, 0, 0), (259, .aload_n 0, 1, 0, 0, 0), (260, .getfield 41, 3, 9, 3, 0), (263, .iload 4, 2, 4, 0, 0), (265, .iaload, 1, 0, 0, 0)], (5, (266, .invokestatic 79, 3, 30, 37, 0), [(0, 3), (0, 3)]))
def qb28_37 : QB := (269, [(269, .iastore, 1, 0, 0, 0)], (0, (270, .nop, 0, 38, 0, 0), []))
def qb28_38 : QB := (270, [(270, .iinc 5 1, 3, 5, 0, 1)], (1, (273, .goto (-267), 3, 1, 0, 0), []))
def qb28_39 : QB := (276, [(276, .iload 4, 2, 4, 0, 0), (278, .iconst 1, 1, 0, 0, 1)], (3, (279, .if_icmp .ne 12, 3, 41, 40, 0), []))
def qb28_40 : QB := (282, [(282, .aload_n 0, 1, 0, 0, 0), (283, .getfield 41, 3, 9, 3, 0), (286, .iconst 0, 1, 0, 0, 0), (287, .iaload, 1, 0, 0, 0)], (1, (288, .goto 4, 3, 42, 0, 0), []))
def qb28_41 : QB := (291, [(291, .iconst 0, 1, 0, 0, 0)], (0, (292, .nop, 0, 42, 0, 0), []))
def qb28_42 : QB := (292, [], (6, (292, .ireturn, 1, 0, 0, 0), []))
def qm28 : QM := (yX3_reckon, cX3_reckon, 8, (some .int), 6, 4, [qb28_0, qb28_1, qb28_2, qb28_3, qb28_4, qb28_5, qb28_6, qb28_7, qb28_8, qb28_9, qb28_10, qb28_11, qb28_12, qb28_13, qb28_14, qb28_15, qb28_16, qb28_17, qb28_18, qb28_19, qb28_20, qb28_21, qb28_22, qb28_23, qb28_24, qb28_25, qb28_26, qb28_27, qb28_28, qb28_29, qb28_30, qb28_31, qb28_32, qb28_33, qb28_34, qb28_35, qb28_36, qb28_37, qb28_38, qb28_39, qb28_40, qb28_41, qb28_42])
def qb29_0 : QB := (0, [(0, .iload_n 0, 1, 0, 0, 0), (1, .bipush 47, 2, 0, 0, 47)], (3, (3, .if_icmp .eq 9, 3, 2, 1, 0), []))
def qb29_1 : QB := (6, [(6, .iload_n 0, 1, 0, 0, 0), (7, .bipush 37, 2, 0, 0, 37)], (3, (9, .if_icmp .ne 7, 3, 3, 2, 0), []))
def qb29_2 : QB := (12, [(12, .iconst 1, 1, 0, 0, 1)], (1, (13, .goto 4, 3, 4, 0, 0), []))
def qb29_3 : QB := (16, [(16, .iconst 0, 1, 0, 0, 0)], (0, (17, .nop, 0, 4, 0, 0), []))
def qb29_4 : QB := (17, [], (8, (17, .ireturn, 1, 0, 0, 0), []))
def qm29 : QM := (yX3_isDivision, cX3_isDivision, 1, (some .boolean), 7, 1, [qb29_0, qb29_1, qb29_2, qb29_3, qb29_4])
def qb30_0 : QB := (0, [(0, .iload_n 0, 1, 0, 0, 0)], (4, (1, .lookupswitch 125 #[(37, 91), (42, 75), (43, 67), (45, 71), (47, 79), (60, 103), (62, 114)], 67, 20, 0, 0), [(37, 8), (42, 3), (43, 1), (45, 2), (47, 4), (60, 12), (62, 16)]))
def qb30_1 : QB := (68, [(68, .iload_n 1, 1, 1, 0, 0), (69, .iload_n 2, 1, 2, 0, 0), (70, .iadd, 1, 0, 0, 0)], (6, (71, .ireturn, 1, 0, 0, 0), []))
def qb30_2 : QB := (72, [(72, .iload_n 1, 1, 1, 0, 0), (73, .iload_n 2, 1, 2, 0, 0), (74, .isub, 1, 0, 0, 0)], (6, (75, .ireturn, 1, 0, 0, 0), []))
def qb30_3 : QB := (76, [(76, .iload_n 1, 1, 1, 0, 0), (77, .iload_n 2, 1, 2, 0, 0), (78, .imul, 1, 0, 0, 0)], (6, (79, .ireturn, 1, 0, 0, 0), []))
def qb30_4 : QB := (80, [(80, .iload_n 2, 1, 2, 0, 0)], (2, (81, .ifCond .ne 7, 3, 6, 5, 0), []))
def qb30_5 : QB := (84, [(84, .iconst 0, 1, 0, 0, 0)], (1, (85, .goto 6, 3, 7, 0, 0), []))
def qb30_6 : QB := (88, [(88, .iload_n 1, 1, 1, 0, 0), (89, .iload_n 2, 1, 2, 0, 0), (90, .idiv, 1, 0, 0, 0)], (0, (91, .nop, 0, 7, 0, 0), []))
def qb30_7 : QB := (91, [], (6, (91, .ireturn, 1, 0, 0, 0), []))
def qb30_8 : QB := (92, [(92, .iload_n 2, 1, 2, 0, 0)], (2, (93, .ifCond .ne 7, 3, 10, 9, 0), []))
def qb30_9 : QB := (96, [(96, .iconst 0, 1, 0, 0, 0)], (1, (97, .goto 6, 3, 11, 0, 0), []))
def qb30_10 : QB := (100, [(100, .iload_n 1, 1, 1, 0, 0), (101, .iload_n 2, 1, 2, 0, 0), (102, .irem, 1, 0, 0, 0)], (0, (103, .nop, 0, 11, 0, 0), []))
def qb30_11 : QB := (103, [], (6, (103, .ireturn, 1, 0, 0, 0), []))
def qb30_12 : QB := (104, [(104, .iload_n 1, 1, 1, 0, 0), (105, .iload_n 2, 1, 2, 0, 0)], (3, (106, .if_icmp .ge 7, 3, 14, 13, 0), []))
def qb30_13 : QB := (109, [(109, .iconst 1, 1, 0, 0, 1)], (1, (110, .goto 4, 3, 15, 0, 0), []))
def qb30_14 : QB := (113, [(113, .iconst 0, 1, 0, 0, 0)], (0, (114, .nop, 0, 15, 0, 0), []))
def qb30_15 : QB := (114, [], (6, (114, .ireturn, 1, 0, 0, 0), []))
def qb30_16 : QB := (115, [(115, .iload_n 1, 1, 1, 0, 0), (116, .iload_n 2, 1, 2, 0, 0)], (3, (117, .if_icmp .le 7, 3, 18, 17, 0), []))
def qb30_17 : QB := (120, [(120, .iconst 1, 1, 0, 0, 1)], (1, (121, .goto 4, 3, 19, 0, 0), []))
def qb30_18 : QB := (124, [(124, .iconst 0, 1, 0, 0, 0)], (0, (125, .nop, 0, 19, 0, 0), []))
def qb30_19 : QB := (125, [], (6, (125, .ireturn, 1, 0, 0, 0), []))
def qb30_20 : QB := (126, [(126, .iload_n 1, 1, 1, 0, 0), (127, .iload_n 2, 1, 2, 0, 0)], (3, (128, .if_icmp .ne 7, 3, 22, 21, 0), []))
def qb30_21 : QB := (131, [(131, .iconst 1, 1, 0, 0, 1)], (1, (132, .goto 4, 3, 23, 0, 0), []))
def qb30_22 : QB := (135, [(135, .iconst 0, 1, 0, 0, 0)], (0, (136, .nop, 0, 23, 0, 0), []))
def qb30_23 : QB := (136, [], (6, (136, .ireturn, 1, 0, 0, 0), []))
def qm30 : QM := (yX3_joined, cX3_joined, 3, (some .int), 7, 3, [qb30_0, qb30_1, qb30_2, qb30_3, qb30_4, qb30_5, qb30_6, qb30_7, qb30_8, qb30_9, qb30_10, qb30_11, qb30_12, qb30_13, qb30_14, qb30_15, qb30_16, qb30_17, qb30_18, qb30_19, qb30_20, qb30_21, qb30_22, qb30_23])
def qb31_0 : QB := (0, [(0, .aload_n 0, 1, 0, 0, 0), (1, .getfield 22, 3, 0, 4, 0), (4, .getfield 34, 3, 3, 2, 0), (7, .aload_n 2, 1, 2, 0, 0), (8, .getfield 39, 3, 3, 0, 0), (11, .iload_n 1, 1, 1, 0, 0), (12, .iaload, 1, 0, 0, 0), (13, .iaload, 1, 0, 0, 0), (14, .istore_n 3, 1, 3, 0, 0), (15, .iconst 0, 1, 0, 0, 0), (16, .istore 4, 2, 4, 0, 0)], (0, (18, .nop, 0, 1, 0, 0), []))
def qb31_1 : QB := (18, [(18, .iload 4, 2, 4, 0, 0), (20, .iload_n 3, 1, 3, 0, 0)], (3, (21, .if_icmp .ge 18, 3, 3, 2, 0), []))
def qb31_2 : QB := (24, [(24, .aload_n 0, 1, 0, 0, 0), (25, .getfield 9, 3, 3, 4, 0), (28, .iload 4, 2, 4, 0, 0), (30, .iload 4, 2, 4, 0, 0), (32, .iastore, 1, 0, 0, 0), (33, .iinc 4 1, 3, 4, 0, 1)], (1, (36, .goto (-18), 3, 1, 0, 0), []))
def qb31_3 : QB := (39, [(39, .iconst 1, 1, 0, 0, 1), (40, .istore 4, 2, 4, 0, 0), (42, .iconst 0, 1, 0, 0, 0), (43, .istore 5, 2, 5, 0, 0)], (0, (45, .nop, 0, 4, 0, 0), []))
def qb31_4 : QB := (45, [(45, .iload 4, 2, 4, 0, 0)], (2, (47, .ifCond .eq 66, 3, 12, 5, 0), []))
def qb31_5 : QB := (50, [(50, .iload 5, 2, 5, 0, 0), (52, .bipush 120, 2, 0, 0, 120)], (3, (54, .if_icmp .ge 59, 3, 12, 6, 0), []))
def qb31_6 : QB := (57, [(57, .aload_n 0, 1, 0, 0, 0), (58, .iload_n 1, 1, 1, 0, 0), (59, .iload_n 3, 1, 3, 0, 0), (60, .aload_n 2, 1, 2, 0, 0)], (5, (61, .invokevirtual 44, 3, 32, 7, 0), [(8, 4), (0, 7)]))
def qb31_7 : QB := (64, [(64, .istore 6, 2, 6, 0, 0), (66, .iload 5, 2, 5, 0, 0)], (2, (68, .ifCond .eq 12, 3, 9, 8, 0), []))
def qb31_8 : QB := (71, [(71, .iload 6, 2, 6, 0, 0), (73, .aload_n 0, 1, 0, 0, 0), (74, .getfield 18, 3, 5, 4, 0)], (3, (77, .if_icmp .le 23, 3, 10, 9, 0), []))
def qb31_9 : QB := (80, [(80, .aload_n 0, 1, 0, 0, 0), (81, .iload 6, 2, 6, 0, 0), (83, .putfield 18, 3, 5, 4, 0), (86, .aload_n 0, 1, 0, 0, 0), (87, .getfield 9, 3, 3, 4, 0), (90, .iconst 0, 1, 0, 0, 0), (91, .aload_n 0, 1, 0, 0, 0), (92, .getfield 15, 3, 4, 4, 0), (95, .iconst 0, 1, 0, 0, 0), (96, .iload_n 3, 1, 3, 0, 0), (97, .invokestatic 48, 3, 1003, 0, 0)], (0, (100, .nop, 0, 10, 0, 0), []))
def qb31_10 : QB := (100, [(100, .aload_n 0, 1, 0, 0, 0), (101, .iload_n 3, 1, 3, 0, 0)], (5, (102, .invokevirtual 54, 3, 33, 11, 0), [(8, 2), (0, 6)]))
def qb31_11 : QB := (105, [(105, .istore 4, 2, 4, 0, 0), (107, .iinc 5 1, 3, 5, 0, 1)], (1, (110, .goto (-65), 3, 4, 0, 0), []))
def qb31_12 : QB := (113, [], (7, (113, .return_, 1, 0, 0, 0), []))
def qm31 : QM := (yX4_seek, cX4_seek, 7, none, 8, 3, [qb31_0, qb31_1, qb31_2, qb31_3, qb31_4, qb31_5, qb31_6, qb31_7, qb31_8, qb31_9, qb31_10, qb31_11, qb31_12])
def qb32_0 : QB := (0, [(0, .aload_n 0, 1, 0, 0, 0), (1, .getfield 30, 3, 2, 4, 0), (4, .iload_n 1, 1, 1, 0, 0), (5, .aload_n 3, 1, 3, 0, 0)], (5, (6, .invokevirtual 58, 3, 50, 1, 0), [(10, 3), (0, 3)]))
def qb32_1 : QB := (9, [(9, .iconst 0, 1, 0, 0, 0), (10, .istore 4, 2, 4, 0, 0), (12, .iconst 0, 1, 0, 0, 0), (13, .istore 5, 2, 5, 0, 0)], (0, (15, .nop, 0, 2, 0, 0), []))
def qb32_2 : QB := (15, [(15, .iload 5, 2, 5, 0, 0), (17, .iload_n 2, 1, 2, 0, 0)], (3, (18, .if_icmp .ge 60, 3, 6, 3, 0), []))
def qb32_3 : QB := (21, [(21, .aload_n 0, 1, 0, 0, 0), (22, .getfield 30, 3, 2, 4, 0), (25, .aload_n 0, 1, 0, 0, 0), (26, .getfield 26, 3, 1, 4, 0), (29, .aload_n 0, 1, 0, 0, 0), (30, .getfield 22, 3, 0, 4, 0), (33, .getfield 64, 3, 2, 2, 0), (36, .aload_n 0, 1, 0, 0, 0), (37, .getfield 22, 3, 0, 4, 0), (40, .aload_n 3, 1, 3, 0, 0), (41, .getfield 39, 3, 3, 0, 0), (44, .iload_n 1, 1, 1, 0, 0), (45, .iaload, 1, 0, 0, 0), (46, .aload_n 0, 1, 0, 0, 0), (47, .getfield 9, 3, 3, 4, 0), (50, .iload 5, 2, 5, 0, 0), (52, .iaload, 1, 0, 0, 0)], (5, (53, .invokevirtual 67, 3, 14, 4, 0), [(6, 3), (0, 3)]))
def qb32_4 : QB := (56, [], (5, (56, .invokevirtual 71, 3, 52, 5, 0), [(10, 4), (0, 5)]))
def qb32_5 : QB := (59, [(59, .istore 6, 2, 6, 0, 0), (61, .iload 4, 2, 4, 0, 0), (63, .iconst 0, 1, 0, 0, 0), (64, .iload 6, 2, 6, 0, 0), (66, .invokestatic 75, 3, 1001, 0, 0), (69, .iadd, 1, 0, 0, 0), (70, .istore 4, 2, 4, 0, 0), (72, .iinc 5 1, 3, 5, 0, 1)], (1, (75, .goto (-60), 3, 2, 0, 0), []))
def qb32_6 : QB := (78, [(78, .iload 4, 2, 4, 0, 0), (80, .aload_n 0, 1, 0, 0, 0), (81, .getfield 30, 3, 2, 4, 0), (84, .aload_n 0, 1, 0, 0, 0), (85, .getfield 26, 3, 1, 4, 0)], (5, (88, .invokevirtual 80, 3, 54, 7, 0), [(10, 2), (0, 4)]))
def qb32_7 : QB := (91, [(91, .isub, 1, 0, 0, 0)], (6, (92, .ireturn, 1, 0, 0, 0), []))
def qm32 : QM := (yX4_tryRow, cX4_tryRow, 7, (some .int), 8, 4, [qb32_0, qb32_1, qb32_2, qb32_3, qb32_4, qb32_5, qb32_6, qb32_7])
def qb33_0 : QB := (0, [(0, .iload_n 1, 1, 1, 0, 0), (1, .iconst 2, 1, 0, 0, 2), (2, .isub, 1, 0, 0, 0), (3, .istore_n 2, 1, 2, 0, 0)], (0, (4, .nop, 0, 1, 0, 0), []))
def qb33_1 : QB := (4, [(4, .iload_n 2, 1, 2, 0, 0)], (2, (5, .ifCond .lt 26, 3, 4, 2, 0), []))
def qb33_2 : QB := (8, [(8, .aload_n 0, 1, 0, 0, 0), (9, .getfield 9, 3, 3, 4, 0), (12, .iload_n 2, 1, 2, 0, 0), (13, .iaload, 1, 0, 0, 0), (14, .aload_n 0, 1, 0, 0, 0), (15, .getfield 9, 3, 3, 4, 0), (18, .iload_n 2, 1, 2, 0, 0), (19, .iconst 1, 1, 0, 0, 1), (20, .iadd, 1, 0, 0, 0), (21, .iaload, 1, 0, 0, 0)], (3, (22, .if_icmp .le 9, 3, 4, 3, 0), []))
def qb33_3 : QB := (25, [(25, .iinc 2 (-1), 3, 2, 0, (-1))], (1, (28, .goto (-24), 3, 1, 0, 0), []))
def qb33_4 : QB := (31, [(31, .iload_n 2, 1, 2, 0, 0)], (2, (32, .ifCond .ge 5, 3, 6, 5, 0), []))
def qb33_5 : QB := (35, [(35, .iconst 0, 1, 0, 0, 0)], (8, (36, .ireturn, 1, 0, 0, 0), []))
def qb33_6 : QB := (37, [(37, .iload_n 1, 1, 1, 0, 0), (38, .iconst 1, 1, 0, 0, 1), (39, .isub, 1, 0, 0, 0), (40, .istore_n 3, 1, 3, 0, 0)], (0, (41, .nop, 0, 7, 0, 0), []))
def qb33_7 : QB := (41, [(41, .iload_n 3, 1, 3, 0, 0), (42, .iload_n 2, 1, 2, 0, 0), (43, .iconst 1, 1, 0, 0, 1), (44, .iadd, 1, 0, 0, 0)], (3, (45, .if_icmp .le 24, 3, 10, 8, 0), []))
def qb33_8 : QB := (48, [(48, .aload_n 0, 1, 0, 0, 0), (49, .getfield 9, 3, 3, 4, 0), (52, .iload_n 3, 1, 3, 0, 0), (53, .iaload, 1, 0, 0, 0), (54, .aload_n 0, 1, 0, 0, 0), (55, .getfield 9, 3, 3, 4, 0), (58, .iload_n 2, 1, 2, 0, 0), (59, .iaload, 1, 0, 0, 0)], (3, (60, .if_icmp .ge 9, 3, 10, 9, 0), []))
def qb33_9 : QB := (63, [(63, .iinc 3 (-1), 3, 3, 0, (-1))], (1, (66, .goto (-25), 3, 7, 0, 0), []))
def qb33_10 : QB := (69, [(69, .aload_n 0, 1, 0, 0, 0), (70, .iload_n 2, 1, 2, 0, 0), (71, .iload_n 3, 1, 3, 0, 0)], (5, (72, .invokevirtual 84, 3, 34, 11, 0), [(8, 3), (0, 4)]))
def qb33_11 : QB := (75, [(75, .iload_n 2, 1, 2, 0, 0), (76, .iconst 1, 1, 0, 0, 1), (77, .iadd, 1, 0, 0, 0), (78, .istore 4, 2, 4, 0, 0), (80, .iload_n 1, 1, 1, 0, 0), (81, .iconst 1, 1, 0, 0, 1), (82, .isub, 1, 0, 0, 0), (83, .istore 5, 2, 5, 0, 0)], (0, (85, .nop, 0, 12, 0, 0), []))
def qb33_12 : QB := (85, [(85, .iload 4, 2, 4, 0, 0), (87, .iload 5, 2, 5, 0, 0)], (3, (89, .if_icmp .ge 20, 3, 15, 13, 0), []))
def qb33_13 : QB := (92, [(92, .aload_n 0, 1, 0, 0, 0), (93, .iload 4, 2, 4, 0, 0), (95, .iload 5, 2, 5, 0, 0)], (5, (97, .invokevirtual 84, 3, 34, 14, 0), [(8, 3), (0, 4)]))
def qb33_14 : QB := (100, [(100, .iinc 4 1, 3, 4, 0, 1), (103, .iinc 5 (-1), 3, 5, 0, (-1))], (1, (106, .goto (-21), 3, 12, 0, 0), []))
def qb33_15 : QB := (109, [(109, .iconst 1, 1, 0, 0, 1)], (8, (110, .ireturn, 1, 0, 0, 0), []))
def qm33 : QM := (yX4_nextRow, cX4_nextRow, 6, (some .boolean), 8, 2, [qb33_0, qb33_1, qb33_2, qb33_3, qb33_4, qb33_5, qb33_6, qb33_7, qb33_8, qb33_9, qb33_10, qb33_11, qb33_12, qb33_13, qb33_14, qb33_15])
def qb34_0 : QB := (0, [(0, .aload_n 0, 1, 0, 0, 0), (1, .getfield 9, 3, 3, 4, 0), (4, .iload_n 1, 1, 1, 0, 0), (5, .iaload, 1, 0, 0, 0), (6, .istore_n 3, 1, 3, 0, 0), (7, .aload_n 0, 1, 0, 0, 0), (8, .getfield 9, 3, 3, 4, 0), (11, .iload_n 1, 1, 1, 0, 0), (12, .aload_n 0, 1, 0, 0, 0), (13, .getfield 9, 3, 3, 4, 0), (16, .iload_n 2, 1, 2, 0, 0), (17, .iaload, 1, 0, 0, 0), (18, .iastore, 1, 0, 0, 0), (19, .aload_n 0, 1, 0, 0, 0), (20, .getfield 9, 3, 3, 4, 0), (23, .iload_n 2, 1, 2, 0, 0), (24, .iload_n 3, 1, 3, 0, 0), (25, .iastore, 1, 0, 0, 0)], (7, (26, .return_, 1, 0, 0, 0), []))
def qm34 : QM := (yX4_exchangeAt, cX4_exchangeAt, 4, none, 8, 3, [qb34_0])
def qb35_0 : QB := (0, [(0, .aload_n 0, 1, 0, 0, 0), (1, .iload_n 1, 1, 1, 0, 0), (2, .aload_n 0, 1, 0, 0, 0), (3, .getfield 25, 3, 0, 5, 0), (6, .arraylength, 1, 0, 0, 0), (7, .invokestatic 33, 3, 1002, 0, 0), (10, .putfield 9, 3, 2, 5, 0), (13, .aload_n 0, 1, 0, 0, 0), (14, .iconst (-1), 1, 0, 0, (-1)), (15, .putfield 15, 3, 3, 5, 0), (18, .aload_n 0, 1, 0, 0, 0), (19, .iconst 0, 1, 0, 0, 0), (20, .putfield 22, 3, 5, 5, 0), (23, .aload_n 0, 1, 0, 0, 0), (24, .getfield 29, 3, 1, 5, 0)], (5, (27, .invokevirtual 39, 3, 22, 1, 0), [(7, 1), (0, 1)]))
def qb35_1 : QB := (30, [(30, .aload_n 0, 1, 0, 0, 0)], (5, (31, .invokevirtual 44, 3, 36, 2, 0), [(9, 1), (0, 1)]))
def qb35_2 : QB := (34, [(34, .iconst 1, 1, 0, 0, 1), (35, .istore_n 2, 1, 2, 0, 0), (36, .iconst 0, 1, 0, 0, 0), (37, .istore_n 3, 1, 3, 0, 0)], (0, (38, .nop, 0, 3, 0, 0), []))
def qb35_3 : QB := (38, [(38, .iload_n 3, 1, 3, 0, 0), (39, .bipush 14, 2, 0, 0, 14)], (3, (41, .if_icmp .gt 92, 3, 21, 4, 0), []))
def qb35_4 : QB := (44, [(44, .iload_n 2, 1, 2, 0, 0)], (2, (45, .ifCond .eq 88, 3, 21, 5, 0), []))
def qb35_5 : QB := (48, [(48, .ldc 47, 2, 120, 1, 0), (50, .aload_n 0, 1, 0, 0, 0), (51, .getfield 18, 3, 4, 5, 2), (54, .invokevirtual 49, 3, 1004, 0, 0), (57, .istore 4, 2, 4, 0, 0), (59, .iload 4, 2, 4, 0, 0)], (2, (61, .ifCond .ge 12, 3, 8, 6, 0), []))
def qb35_6 : QB := (64, [(64, .aload_n 0, 1, 0, 0, 0), (65, .iconst 1, 1, 0, 0, 1)], (5, (66, .invokevirtual 55, 3, 37, 7, 0), [(9, 2), (0, 2)]))
def qb35_7 : QB := (69, [(69, .istore_n 2, 1, 2, 0, 0)], (1, (70, .goto 57, 3, 20, 0, 0), []))
def qb35_8 : QB := (73, [(73, .iload_n 3, 1, 3, 0, 0), (74, .bipush 14, 2, 0, 0, 14)], (3, (76, .if_icmp .ne 12, 3, 11, 9, 0), []))
def qb35_9 : QB := (79, [(79, .aload_n 0, 1, 0, 0, 0), (80, .iconst 4, 1, 0, 0, 4)], (5, (81, .invokevirtual 55, 3, 37, 10, 0), [(9, 2), (0, 2)]))
def qb35_10 : QB := (84, [(84, .istore_n 2, 1, 2, 0, 0)], (1, (85, .goto 42, 3, 20, 0, 0), []))
def qb35_11 : QB := (88, [(88, .aload_n 0, 1, 0, 0, 0)], (5, (89, .invokevirtual 44, 3, 36, 12, 0), [(9, 1), (0, 1)]))
def qb35_12 : QB := (92, [(92, .aload_n 0, 1, 0, 0, 0), (93, .iload 4, 2, 4, 0, 0)], (5, (95, .invokevirtual 59, 3, 40, 13, 0), [(9, 2), (0, 4)]))
def qb35_13 : QB := (98, [], (2, (98, .ifCond .eq 27, 3, 18, 14, 0), []))
def qb35_14 : QB := (101, [(101, .aload_n 0, 1, 0, 0, 0), (102, .getfield 15, 3, 3, 5, 0), (105, .aload_n 0, 1, 0, 0, 0), (106, .getfield 9, 3, 2, 5, 0)], (3, (109, .if_icmp .ge 16, 3, 18, 15, 0), []))
def qb35_15 : QB := (112, [(112, .aload_n 0, 1, 0, 0, 0), (113, .bipush 59, 2, 0, 0, 59)], (5, (115, .invokevirtual 62, 3, 38, 16, 0), [(9, 2), (0, 2)]))
def qb35_16 : QB := (118, [], (2, (118, .ifCond .eq 7, 3, 18, 17, 0), []))
def qb35_17 : QB := (121, [(121, .iconst 1, 1, 0, 0, 1)], (1, (122, .goto 4, 3, 19, 0, 0), []))
def qb35_18 : QB := (125, [(125, .iconst 0, 1, 0, 0, 0)], (0, (126, .nop, 0, 19, 0, 0), []))
def qb35_19 : QB := (126, [(126, .istore_n 2, 1, 2, 0, 0)], (0, (127, .nop, 0, 20, 0, 0), []))
def qb35_20 : QB := (127, [(127, .iinc 3 1, 3, 3, 0, 1)], (1, (130, .goto (-92), 3, 3, 0, 0), []))
def qb35_21 : QB := (133, [(133, .aload_n 0, 1, 0, 0, 0), (134, .getfield 22, 3, 5, 5, 0)], (6, (137, .ireturn, 1, 0, 0, 0), []))
def qm35 : QM := (yX5_read, cX5_read, 5, (some .int), 10, 2, [qb35_0, qb35_1, qb35_2, qb35_3, qb35_4, qb35_5, qb35_6, qb35_7, qb35_8, qb35_9, qb35_10, qb35_11, qb35_12, qb35_13, qb35_14, qb35_15, qb35_16, qb35_17, qb35_18, qb35_19, qb35_20, qb35_21])
def qb36_0 : QB := (0, [(0, .aload_n 0, 1, 0, 0, 0), (1, .dup, 1, 0, 0, 0), (2, .getfield 15, 3, 3, 5, 0), (5, .iconst 1, 1, 0, 0, 1), (6, .iadd, 1, 0, 0, 0), (7, .putfield 15, 3, 3, 5, 0), (10, .aload_n 0, 1, 0, 0, 0), (11, .aload_n 0, 1, 0, 0, 0), (12, .getfield 15, 3, 3, 5, 0), (15, .aload_n 0, 1, 0, 0, 0), (16, .getfield 9, 3, 2, 5, 0)], (3, (19, .if_icmp .ge 16, 3, 2, 1, 0), []))
def qb36_1 : QB := (22, [(22, .aload_n 0, 1, 0, 0, 0), (23, .getfield 25, 3, 0, 5, 0), (26, .aload_n 0, 1, 0, 0, 0), (27, .getfield 15, 3, 3, 5, 0), (30, .iaload, 1, 0, 0, 0), (31, .i2c, 1, 0, 0, 0)], (1, (32, .goto 4, 3, 3, 0, 0), []))
def qb36_2 : QB := (35, [(35, .iconst 0, 1, 0, 0, 0)], (0, (36, .nop, 0, 3, 0, 0), []))
def qb36_3 : QB := (36, [(36, .putfield 18, 3, 4, 5, 2)], (7, (39, .return_, 1, 0, 0, 0), []))
def qm36 : QM := (yX5_next, cX5_next, 1, none, 10, 1, [qb36_0, qb36_1, qb36_2, qb36_3])
def qb37_0 : QB := (0, [(0, .aload_n 0, 1, 0, 0, 0), (1, .sipush (-1000), 3, 0, 0, (-1000)), (4, .iload_n 1, 1, 1, 0, 0), (5, .imul, 1, 0, 0, 0), (6, .aload_n 0, 1, 0, 0, 0), (7, .getfield 15, 3, 3, 5, 0), (10, .isub, 1, 0, 0, 0), (11, .putfield 22, 3, 5, 5, 0), (14, .iconst 0, 1, 0, 0, 0)], (8, (15, .ireturn, 1, 0, 0, 0), []))
def qm37 : QM := (yX5_fails, cX5_fails, 2, (some .boolean), 10, 2, [qb37_0])
def qb38_0 : QB := (0, [(0, .aload_n 0, 1, 0, 0, 0), (1, .getfield 18, 3, 4, 5, 2), (4, .iload_n 1, 1, 1, 0, 0)], (3, (5, .if_icmp .eq 9, 3, 3, 1, 0), []))
def qb38_1 : QB := (8, [(8, .aload_n 0, 1, 0, 0, 0), (9, .iconst 1, 1, 0, 0, 1)], (5, (10, .invokevirtual 55, 3, 37, 2, 0), [(9, 2), (0, 2)]))
def qb38_2 : QB := (13, [], (8, (13, .ireturn, 1, 0, 0, 0), []))
def qb38_3 : QB := (14, [(14, .aload_n 0, 1, 0, 0, 0)], (5, (15, .invokevirtual 44, 3, 36, 4, 0), [(9, 1), (0, 1)]))
def qb38_4 : QB := (18, [(18, .iconst 1, 1, 0, 0, 1)], (8, (19, .ireturn, 1, 0, 0, 0), []))
def qm38 : QM := (yX5_passes, cX5_passes, 2, (some .boolean), 10, 2, [qb38_0, qb38_1, qb38_2, qb38_3, qb38_4])
def qb39_0 : QB := (0, [(0, .aload_n 0, 1, 0, 0, 0), (1, .getfield 18, 3, 4, 5, 2), (4, .iload_n 1, 1, 1, 0, 0)], (3, (5, .if_icmp .eq 9, 3, 3, 1, 0), []))
def qb39_1 : QB := (8, [(8, .aload_n 0, 1, 0, 0, 0), (9, .iconst 1, 1, 0, 0, 1)], (5, (10, .invokevirtual 55, 3, 37, 2, 0), [(9, 2), (0, 2)]))
def qb39_2 : QB := (13, [], (8, (13, .ireturn, 1, 0, 0, 0), []))
def qb39_3 : QB := (14, [(14, .iload_n 2, 1, 2, 0, 0), (15, .bipush 6, 2, 0, 0, 6)], (3, (17, .if_icmp .lt 9, 3, 6, 4, 0), []))
def qb39_4 : QB := (20, [(20, .aload_n 0, 1, 0, 0, 0), (21, .iconst 5, 1, 0, 0, 5)], (5, (22, .invokevirtual 55, 3, 37, 5, 0), [(9, 2), (0, 2)]))
def qb39_5 : QB := (25, [], (8, (25, .ireturn, 1, 0, 0, 0), []))
def qb39_6 : QB := (26, [(26, .aload_n 0, 1, 0, 0, 0)], (5, (27, .invokevirtual 44, 3, 36, 7, 0), [(9, 1), (0, 1)]))
def qb39_7 : QB := (30, [(30, .iconst 1, 1, 0, 0, 1)], (8, (31, .ireturn, 1, 0, 0, 0), []))
def qm39 : QM := (yX5_opens, cX5_opens, 3, (some .boolean), 10, 3, [qb39_0, qb39_1, qb39_2, qb39_3, qb39_4, qb39_5, qb39_6, qb39_7])
def qb40_0 : QB := (0, [(0, .aload_n 0, 1, 0, 0, 0), (1, .getfield 29, 3, 1, 5, 0), (4, .getfield 66, 3, 1, 3, 0), (7, .istore_n 2, 1, 2, 0, 0), (8, .iload_n 1, 1, 1, 0, 0)], (2, (9, .ifCond .ne 16, 3, 3, 1, 0), []))
def qb40_1 : QB := (12, [(12, .aload_n 0, 1, 0, 0, 0), (13, .getfield 29, 3, 1, 5, 0), (16, .bipush 48, 2, 0, 0, 48), (18, .iconst 1, 1, 0, 0, 1)], (5, (19, .invokevirtual 67, 3, 24, 2, 0), [(7, 3), (0, 3)]))
def qb40_2 : QB := (22, [], (1, (22, .goto 13, 3, 6, 0, 0), []))
def qb40_3 : QB := (25, [(25, .aload_n 0, 1, 0, 0, 0), (26, .iconst 0, 1, 0, 0, 0)], (5, (27, .invokevirtual 71, 3, 46, 4, 0), [(9, 2), (0, 5)]))
def qb40_4 : QB := (30, [], (2, (30, .ifCond .ne 5, 3, 6, 5, 0), []))
def qb40_5 : QB := (33, [(33, .iconst 0, 1, 0, 0, 0)], (8, (34, .ireturn, 1, 0, 0, 0), []))
def qb40_6 : QB := (35, [(35, .aload_n 0, 1, 0, 0, 0), (36, .getfield 29, 3, 1, 5, 0), (39, .getfield 66, 3, 1, 3, 0), (42, .istore_n 3, 1, 3, 0, 0), (43, .aload_n 0, 1, 0, 0, 0), (44, .iconst 0, 1, 0, 0, 0)], (5, (45, .invokevirtual 74, 3, 41, 7, 0), [(9, 2), (0, 2)]))
def qb40_7 : QB := (48, [], (2, (48, .ifCond .ne 5, 3, 9, 8, 0), []))
def qb40_8 : QB := (51, [(51, .iconst 0, 1, 0, 0, 0)], (8, (52, .ireturn, 1, 0, 0, 0), []))
def qb40_9 : QB := (53, [(53, .aload_n 0, 1, 0, 0, 0), (54, .getfield 29, 3, 1, 5, 0), (57, .iload_n 1, 1, 1, 0, 0), (58, .iload_n 2, 1, 2, 0, 0), (59, .iload_n 3, 1, 3, 0, 0)], (5, (60, .invokevirtual 77, 3, 26, 10, 0), [(7, 4), (0, 4)]))
def qb40_10 : QB := (63, [(63, .iconst 1, 1, 0, 0, 1)], (8, (64, .ireturn, 1, 0, 0, 0), []))
def qm40 : QM := (yX5_readClause, cX5_readClause, 4, (some .boolean), 10, 2, [qb40_0, qb40_1, qb40_2, qb40_3, qb40_4, qb40_5, qb40_6, qb40_7, qb40_8, qb40_9, qb40_10])
def qb41_0 : QB := (0, [(0, .aload_n 0, 1, 0, 0, 0), (1, .bipush 40, 2, 0, 0, 40), (3, .iload_n 1, 1, 1, 0, 0)], (5, (4, .invokevirtual 81, 3, 39, 1, 0), [(9, 3), (0, 3)]))
def qb41_1 : QB := (7, [], (2, (7, .ifCond .eq 26, 3, 7, 2, 0), []))
def qb41_2 : QB := (10, [(10, .aload_n 0, 1, 0, 0, 0), (11, .iload_n 1, 1, 1, 0, 0), (12, .iconst 1, 1, 0, 0, 1), (13, .iadd, 1, 0, 0, 0)], (5, (14, .invokevirtual 85, 3, 42, 3, 0), [(9, 2), (0, 5)]))
def qb41_3 : QB := (17, [], (2, (17, .ifCond .eq 16, 3, 7, 4, 0), []))
def qb41_4 : QB := (20, [(20, .aload_n 0, 1, 0, 0, 0), (21, .bipush 41, 2, 0, 0, 41)], (5, (23, .invokevirtual 62, 3, 38, 5, 0), [(9, 2), (0, 2)]))
def qb41_5 : QB := (26, [], (2, (26, .ifCond .eq 7, 3, 7, 6, 0), []))
def qb41_6 : QB := (29, [(29, .iconst 1, 1, 0, 0, 1)], (1, (30, .goto 4, 3, 8, 0, 0), []))
def qb41_7 : QB := (33, [(33, .iconst 0, 1, 0, 0, 0)], (0, (34, .nop, 0, 8, 0, 0), []))
def qb41_8 : QB := (34, [], (8, (34, .ireturn, 1, 0, 0, 0), []))
def qm41 : QM := (yX5_readBracket, cX5_readBracket, 2, (some .boolean), 10, 2, [qb41_0, qb41_1, qb41_2, qb41_3, qb41_4, qb41_5, qb41_6, qb41_7, qb41_8])
def qb42_0 : QB := (0, [(0, .aload_n 0, 1, 0, 0, 0), (1, .iload_n 1, 1, 1, 0, 0)], (5, (2, .invokevirtual 88, 3, 43, 1, 0), [(9, 2), (0, 5)]))
def qb42_1 : QB := (5, [(5, .istore_n 2, 1, 2, 0, 0), (6, .iconst 0, 1, 0, 0, 0), (7, .istore_n 3, 1, 3, 0, 0)], (0, (8, .nop, 0, 2, 0, 0), []))
def qb42_2 : QB := (8, [(8, .iload_n 3, 1, 3, 0, 0), (9, .aload_n 0, 1, 0, 0, 0), (10, .getfield 9, 3, 2, 5, 0)], (3, (13, .if_icmp .ge 60, 3, 10, 3, 0), []))
def qb42_3 : QB := (16, [(16, .iload_n 2, 1, 2, 0, 0)], (2, (17, .ifCond .eq 56, 3, 10, 4, 0), []))
def qb42_4 : QB := (20, [(20, .aload_n 0, 1, 0, 0, 0), (21, .getfield 18, 3, 4, 5, 2), (24, .bipush 124, 2, 0, 0, 124)], (3, (26, .if_icmp .ne 47, 3, 10, 5, 0), []))
def qb42_5 : QB := (29, [(29, .aload_n 0, 1, 0, 0, 0)], (5, (30, .invokevirtual 44, 3, 36, 6, 0), [(9, 1), (0, 1)]))
def qb42_6 : QB := (33, [(33, .aload_n 0, 1, 0, 0, 0), (34, .getfield 29, 3, 1, 5, 0), (37, .getfield 66, 3, 1, 3, 0), (40, .istore 4, 2, 4, 0, 0), (42, .aload_n 0, 1, 0, 0, 0), (43, .getfield 29, 3, 1, 5, 0), (46, .bipush 124, 2, 0, 0, 124), (48, .iconst 0, 1, 0, 0, 0)], (5, (49, .invokevirtual 67, 3, 24, 7, 0), [(7, 3), (0, 3)]))
def qb42_7 : QB := (52, [(52, .aload_n 0, 1, 0, 0, 0), (53, .iload_n 1, 1, 1, 0, 0)], (5, (54, .invokevirtual 88, 3, 43, 8, 0), [(9, 2), (0, 5)]))
def qb42_8 : QB := (57, [(57, .istore_n 2, 1, 2, 0, 0), (58, .aload_n 0, 1, 0, 0, 0), (59, .getfield 29, 3, 1, 5, 0), (62, .iload 4, 2, 4, 0, 0)], (5, (64, .invokevirtual 91, 3, 25, 9, 0), [(7, 2), (0, 2)]))
def qb42_9 : QB := (67, [(67, .iinc 3 1, 3, 3, 0, 1)], (1, (70, .goto (-62), 3, 2, 0, 0), []))
def qb42_10 : QB := (73, [(73, .iload_n 2, 1, 2, 0, 0)], (8, (74, .ireturn, 1, 0, 0, 0), []))
def qm42 : QM := (yX5_readCondition, cX5_readCondition, 5, (some .boolean), 10, 2, [qb42_0, qb42_1, qb42_2, qb42_3, qb42_4, qb42_5, qb42_6, qb42_7, qb42_8, qb42_9, qb42_10])
def qb43_0 : QB := (0, [(0, .aload_n 0, 1, 0, 0, 0), (1, .iload_n 1, 1, 1, 0, 0)], (5, (2, .invokevirtual 95, 3, 44, 1, 0), [(9, 2), (0, 4)]))
def qb43_1 : QB := (5, [(5, .istore_n 2, 1, 2, 0, 0), (6, .iconst 0, 1, 0, 0, 0), (7, .istore_n 3, 1, 3, 0, 0)], (0, (8, .nop, 0, 2, 0, 0), []))
def qb43_2 : QB := (8, [(8, .iload_n 3, 1, 3, 0, 0), (9, .aload_n 0, 1, 0, 0, 0), (10, .getfield 9, 3, 2, 5, 0)], (3, (13, .if_icmp .ge 60, 3, 10, 3, 0), []))
def qb43_3 : QB := (16, [(16, .iload_n 2, 1, 2, 0, 0)], (2, (17, .ifCond .eq 56, 3, 10, 4, 0), []))
def qb43_4 : QB := (20, [(20, .aload_n 0, 1, 0, 0, 0), (21, .getfield 18, 3, 4, 5, 2), (24, .bipush 38, 2, 0, 0, 38)], (3, (26, .if_icmp .ne 47, 3, 10, 5, 0), []))
def qb43_5 : QB := (29, [(29, .aload_n 0, 1, 0, 0, 0)], (5, (30, .invokevirtual 44, 3, 36, 6, 0), [(9, 1), (0, 1)]))
def qb43_6 : QB := (33, [(33, .aload_n 0, 1, 0, 0, 0), (34, .getfield 29, 3, 1, 5, 0), (37, .getfield 66, 3, 1, 3, 0), (40, .istore 4, 2, 4, 0, 0), (42, .aload_n 0, 1, 0, 0, 0), (43, .getfield 29, 3, 1, 5, 0), (46, .bipush 38, 2, 0, 0, 38), (48, .iconst 0, 1, 0, 0, 0)], (5, (49, .invokevirtual 67, 3, 24, 7, 0), [(7, 3), (0, 3)]))
def qb43_7 : QB := (52, [(52, .aload_n 0, 1, 0, 0, 0), (53, .iload_n 1, 1, 1, 0, 0)], (5, (54, .invokevirtual 95, 3, 44, 8, 0), [(9, 2), (0, 4)]))
def qb43_8 : QB := (57, [(57, .istore_n 2, 1, 2, 0, 0), (58, .aload_n 0, 1, 0, 0, 0), (59, .getfield 29, 3, 1, 5, 0), (62, .iload 4, 2, 4, 0, 0)], (5, (64, .invokevirtual 91, 3, 25, 9, 0), [(7, 2), (0, 2)]))
def qb43_9 : QB := (67, [(67, .iinc 3 1, 3, 3, 0, 1)], (1, (70, .goto (-62), 3, 2, 0, 0), []))
def qb43_10 : QB := (73, [(73, .iload_n 2, 1, 2, 0, 0)], (8, (74, .ireturn, 1, 0, 0, 0), []))
def qm43 : QM := (yX5_readPart, cX5_readPart, 5, (some .boolean), 10, 2, [qb43_0, qb43_1, qb43_2, qb43_3, qb43_4, qb43_5, qb43_6, qb43_7, qb43_8, qb43_9, qb43_10])
def qb44_0 : QB := (0, [(0, .aload_n 0, 1, 0, 0, 0), (1, .getfield 18, 3, 4, 5, 2), (4, .bipush 40, 2, 0, 0, 40)], (3, (6, .if_icmp .ne 9, 3, 3, 1, 0), []))
def qb44_1 : QB := (9, [(9, .aload_n 0, 1, 0, 0, 0), (10, .iload_n 1, 1, 1, 0, 0)], (5, (11, .invokevirtual 74, 3, 41, 2, 0), [(9, 2), (0, 2)]))
def qb44_2 : QB := (14, [], (8, (14, .ireturn, 1, 0, 0, 0), []))
def qb44_3 : QB := (15, [(15, .aload_n 0, 1, 0, 0, 0), (16, .getfield 18, 3, 4, 5, 2), (19, .istore_n 3, 1, 3, 0, 0), (20, .aload_n 0, 1, 0, 0, 0), (21, .getfield 18, 3, 4, 5, 2), (24, .bipush 33, 2, 0, 0, 33)], (3, (26, .if_icmp .ne 32, 3, 11, 4, 0), []))
def qb44_4 : QB := (29, [(29, .aload_n 0, 1, 0, 0, 0), (30, .bipush 33, 2, 0, 0, 33), (32, .iload_n 1, 1, 1, 0, 0)], (5, (33, .invokevirtual 81, 3, 39, 5, 0), [(9, 3), (0, 3)]))
def qb44_5 : QB := (36, [], (2, (36, .ifCond .eq 17, 3, 9, 6, 0), []))
def qb44_6 : QB := (39, [(39, .aload_n 0, 1, 0, 0, 0), (40, .iload_n 1, 1, 1, 0, 0), (41, .iconst 1, 1, 0, 0, 1), (42, .iadd, 1, 0, 0, 0)], (5, (43, .invokevirtual 95, 3, 44, 7, 0), [(9, 2), (0, 4)]))
def qb44_7 : QB := (46, [], (2, (46, .ifCond .eq 7, 3, 9, 8, 0), []))
def qb44_8 : QB := (49, [(49, .iconst 1, 1, 0, 0, 1)], (1, (50, .goto 4, 3, 10, 0, 0), []))
def qb44_9 : QB := (53, [(53, .iconst 0, 1, 0, 0, 0)], (0, (54, .nop, 0, 10, 0, 0), []))
def qb44_10 : QB := (54, [(54, .istore_n 2, 1, 2, 0, 0)], (1, (55, .goto 39, 3, 20, 0, 0), []))
def qb44_11 : QB := (58, [(58, .aload_n 0, 1, 0, 0, 0), (59, .iload_n 1, 1, 1, 0, 0)], (5, (60, .invokevirtual 71, 3, 46, 12, 0), [(9, 2), (0, 5)]))
def qb44_12 : QB := (63, [(63, .istore_n 2, 1, 2, 0, 0), (64, .aload_n 0, 1, 0, 0, 0), (65, .getfield 18, 3, 4, 5, 2), (68, .istore_n 3, 1, 3, 0, 0), (69, .iload_n 2, 1, 2, 0, 0)], (2, (70, .ifCond .eq 22, 3, 18, 13, 0), []))
def qb44_13 : QB := (73, [(73, .aload_n 0, 1, 0, 0, 0)], (5, (74, .invokevirtual 98, 3, 45, 14, 0), [(9, 1), (0, 1)]))
def qb44_14 : QB := (77, [], (2, (77, .ifCond .eq 15, 3, 18, 15, 0), []))
def qb44_15 : QB := (80, [(80, .aload_n 0, 1, 0, 0, 0), (81, .iload_n 1, 1, 1, 0, 0)], (5, (82, .invokevirtual 71, 3, 46, 16, 0), [(9, 2), (0, 5)]))
def qb44_16 : QB := (85, [], (2, (85, .ifCond .eq 7, 3, 18, 17, 0), []))
def qb44_17 : QB := (88, [(88, .iconst 1, 1, 0, 0, 1)], (1, (89, .goto 4, 3, 19, 0, 0), []))
def qb44_18 : QB := (92, [(92, .iconst 0, 1, 0, 0, 0)], (0, (93, .nop, 0, 19, 0, 0), []))
def qb44_19 : QB := (93, [(93, .istore_n 2, 1, 2, 0, 0)], (0, (94, .nop, 0, 20, 0, 0), []))
def qb44_20 : QB := (94, [(94, .aload_n 0, 1, 0, 0, 0), (95, .getfield 29, 3, 1, 5, 0), (98, .iload_n 3, 1, 3, 0, 0), (99, .iconst 0, 1, 0, 0, 0)], (5, (100, .invokevirtual 67, 3, 24, 21, 0), [(7, 3), (0, 3)]))
def qb44_21 : QB := (103, [(103, .iload_n 2, 1, 2, 0, 0)], (8, (104, .ireturn, 1, 0, 0, 0), []))
def qm44 : QM := (yX5_readPiece, cX5_readPiece, 4, (some .boolean), 10, 2, [qb44_0, qb44_1, qb44_2, qb44_3, qb44_4, qb44_5, qb44_6, qb44_7, qb44_8, qb44_9, qb44_10, qb44_11, qb44_12, qb44_13, qb44_14, qb44_15, qb44_16, qb44_17, qb44_18, qb44_19, qb44_20, qb44_21])
def qb45_0 : QB := (0, [(0, .aload_n 0, 1, 0, 0, 0), (1, .getfield 18, 3, 4, 5, 2), (4, .bipush 60, 2, 0, 0, 60)], (3, (6, .if_icmp .eq 27, 3, 5, 1, 0), []))
def qb45_1 : QB := (9, [(9, .aload_n 0, 1, 0, 0, 0), (10, .getfield 18, 3, 4, 5, 2), (13, .bipush 62, 2, 0, 0, 62)], (3, (15, .if_icmp .eq 18, 3, 5, 2, 0), []))
def qb45_2 : QB := (18, [(18, .aload_n 0, 1, 0, 0, 0), (19, .getfield 18, 3, 4, 5, 2), (22, .bipush 61, 2, 0, 0, 61)], (3, (24, .if_icmp .eq 9, 3, 5, 3, 0), []))
def qb45_3 : QB := (27, [(27, .aload_n 0, 1, 0, 0, 0), (28, .iconst 1, 1, 0, 0, 1)], (5, (29, .invokevirtual 55, 3, 37, 4, 0), [(9, 2), (0, 2)]))
def qb45_4 : QB := (32, [], (8, (32, .ireturn, 1, 0, 0, 0), []))
def qb45_5 : QB := (33, [(33, .aload_n 0, 1, 0, 0, 0)], (5, (34, .invokevirtual 44, 3, 36, 6, 0), [(9, 1), (0, 1)]))
def qb45_6 : QB := (37, [(37, .iconst 1, 1, 0, 0, 1)], (8, (38, .ireturn, 1, 0, 0, 0), []))
def qm45 : QM := (yX5_comparison, cX5_comparison, 1, (some .boolean), 10, 1, [qb45_0, qb45_1, qb45_2, qb45_3, qb45_4, qb45_5, qb45_6])
def qb46_0 : QB := (0, [(0, .aload_n 0, 1, 0, 0, 0), (1, .iload_n 1, 1, 1, 0, 0)], (5, (2, .invokevirtual 102, 3, 47, 1, 0), [(9, 2), (0, 5)]))
def qb46_1 : QB := (5, [(5, .istore_n 2, 1, 2, 0, 0), (6, .iconst 0, 1, 0, 0, 0), (7, .istore_n 3, 1, 3, 0, 0)], (0, (8, .nop, 0, 2, 0, 0), []))
def qb46_2 : QB := (8, [(8, .iload_n 3, 1, 3, 0, 0), (9, .aload_n 0, 1, 0, 0, 0), (10, .getfield 9, 3, 2, 5, 0)], (3, (13, .if_icmp .ge 57, 3, 10, 3, 0), []))
def qb46_3 : QB := (16, [(16, .iload_n 2, 1, 2, 0, 0)], (2, (17, .ifCond .eq 53, 3, 10, 4, 0), []))
def qb46_4 : QB := (20, [(20, .aload_n 0, 1, 0, 0, 0), (21, .getfield 18, 3, 4, 5, 2), (24, .bipush 43, 2, 0, 0, 43)], (3, (26, .if_icmp .eq 12, 3, 6, 5, 0), []))
def qb46_5 : QB := (29, [(29, .aload_n 0, 1, 0, 0, 0), (30, .getfield 18, 3, 4, 5, 2), (33, .bipush 45, 2, 0, 0, 45)], (3, (35, .if_icmp .ne 35, 3, 10, 6, 0), []))
def qb46_6 : QB := (38, [(38, .aload_n 0, 1, 0, 0, 0), (39, .getfield 18, 3, 4, 5, 2), (42, .istore 4, 2, 4, 0, 0), (44, .aload_n 0, 1, 0, 0, 0)], (5, (45, .invokevirtual 44, 3, 36, 7, 0), [(9, 1), (0, 1)]))
def qb46_7 : QB := (48, [(48, .aload_n 0, 1, 0, 0, 0), (49, .iload_n 1, 1, 1, 0, 0)], (5, (50, .invokevirtual 102, 3, 47, 8, 0), [(9, 2), (0, 5)]))
def qb46_8 : QB := (53, [(53, .istore_n 2, 1, 2, 0, 0), (54, .aload_n 0, 1, 0, 0, 0), (55, .getfield 29, 3, 1, 5, 0), (58, .iload 4, 2, 4, 0, 0), (60, .iconst 0, 1, 0, 0, 0)], (5, (61, .invokevirtual 67, 3, 24, 9, 0), [(7, 3), (0, 3)]))
def qb46_9 : QB := (64, [(64, .iinc 3 1, 3, 3, 0, 1)], (1, (67, .goto (-59), 3, 2, 0, 0), []))
def qb46_10 : QB := (70, [(70, .iload_n 2, 1, 2, 0, 0)], (8, (71, .ireturn, 1, 0, 0, 0), []))
def qm46 : QM := (yX5_readSum, cX5_readSum, 5, (some .boolean), 10, 2, [qb46_0, qb46_1, qb46_2, qb46_3, qb46_4, qb46_5, qb46_6, qb46_7, qb46_8, qb46_9, qb46_10])
def qb47_0 : QB := (0, [(0, .aload_n 0, 1, 0, 0, 0), (1, .iload_n 1, 1, 1, 0, 0)], (5, (2, .invokevirtual 105, 3, 48, 1, 0), [(9, 2), (0, 3)]))
def qb47_1 : QB := (5, [(5, .istore_n 2, 1, 2, 0, 0), (6, .iconst 0, 1, 0, 0, 0), (7, .istore_n 3, 1, 3, 0, 0)], (0, (8, .nop, 0, 2, 0, 0), []))
def qb47_2 : QB := (8, [(8, .iload_n 3, 1, 3, 0, 0), (9, .aload_n 0, 1, 0, 0, 0), (10, .getfield 9, 3, 2, 5, 0)], (3, (13, .if_icmp .ge 66, 3, 11, 3, 0), []))
def qb47_3 : QB := (16, [(16, .iload_n 2, 1, 2, 0, 0)], (2, (17, .ifCond .eq 62, 3, 11, 4, 0), []))
def qb47_4 : QB := (20, [(20, .aload_n 0, 1, 0, 0, 0), (21, .getfield 18, 3, 4, 5, 2), (24, .bipush 42, 2, 0, 0, 42)], (3, (26, .if_icmp .eq 21, 3, 7, 5, 0), []))
def qb47_5 : QB := (29, [(29, .aload_n 0, 1, 0, 0, 0), (30, .getfield 18, 3, 4, 5, 2), (33, .bipush 47, 2, 0, 0, 47)], (3, (35, .if_icmp .eq 12, 3, 7, 6, 0), []))
def qb47_6 : QB := (38, [(38, .aload_n 0, 1, 0, 0, 0), (39, .getfield 18, 3, 4, 5, 2), (42, .bipush 37, 2, 0, 0, 37)], (3, (44, .if_icmp .ne 35, 3, 11, 7, 0), []))
def qb47_7 : QB := (47, [(47, .aload_n 0, 1, 0, 0, 0), (48, .getfield 18, 3, 4, 5, 2), (51, .istore 4, 2, 4, 0, 0), (53, .aload_n 0, 1, 0, 0, 0)], (5, (54, .invokevirtual 44, 3, 36, 8, 0), [(9, 1), (0, 1)]))
def qb47_8 : QB := (57, [(57, .aload_n 0, 1, 0, 0, 0), (58, .iload_n 1, 1, 1, 0, 0)], (5, (59, .invokevirtual 105, 3, 48, 9, 0), [(9, 2), (0, 3)]))
def qb47_9 : QB := (62, [(62, .istore_n 2, 1, 2, 0, 0), (63, .aload_n 0, 1, 0, 0, 0), (64, .getfield 29, 3, 1, 5, 0), (67, .iload 4, 2, 4, 0, 0), (69, .iconst 0, 1, 0, 0, 0)], (5, (70, .invokevirtual 67, 3, 24, 10, 0), [(7, 3), (0, 3)]))
def qb47_10 : QB := (73, [(73, .iinc 3 1, 3, 3, 0, 1)], (1, (76, .goto (-68), 3, 2, 0, 0), []))
def qb47_11 : QB := (79, [(79, .iload_n 2, 1, 2, 0, 0)], (8, (80, .ireturn, 1, 0, 0, 0), []))
def qm47 : QM := (yX5_readProduct, cX5_readProduct, 5, (some .boolean), 10, 2, [qb47_0, qb47_1, qb47_2, qb47_3, qb47_4, qb47_5, qb47_6, qb47_7, qb47_8, qb47_9, qb47_10, qb47_11])
def qb48_0 : QB := (0, [(0, .aload_n 0, 1, 0, 0, 0), (1, .getfield 18, 3, 4, 5, 2), (4, .bipush 91, 2, 0, 0, 91)], (3, (6, .if_icmp .ne 38, 3, 10, 1, 0), []))
def qb48_1 : QB := (9, [(9, .aload_n 0, 1, 0, 0, 0), (10, .bipush 91, 2, 0, 0, 91), (12, .iload_n 1, 1, 1, 0, 0)], (5, (13, .invokevirtual 81, 3, 39, 2, 0), [(9, 3), (0, 3)]))
def qb48_2 : QB := (16, [], (2, (16, .ifCond .eq 26, 3, 8, 3, 0), []))
def qb48_3 : QB := (19, [(19, .aload_n 0, 1, 0, 0, 0), (20, .iload_n 1, 1, 1, 0, 0), (21, .iconst 1, 1, 0, 0, 1), (22, .iadd, 1, 0, 0, 0)], (5, (23, .invokevirtual 71, 3, 46, 4, 0), [(9, 2), (0, 5)]))
def qb48_4 : QB := (26, [], (2, (26, .ifCond .eq 16, 3, 8, 5, 0), []))
def qb48_5 : QB := (29, [(29, .aload_n 0, 1, 0, 0, 0), (30, .bipush 93, 2, 0, 0, 93)], (5, (32, .invokevirtual 62, 3, 38, 6, 0), [(9, 2), (0, 2)]))
def qb48_6 : QB := (35, [], (2, (35, .ifCond .eq 7, 3, 8, 7, 0), []))
def qb48_7 : QB := (38, [(38, .iconst 1, 1, 0, 0, 1)], (1, (39, .goto 4, 3, 9, 0, 0), []))
def qb48_8 : QB := (42, [(42, .iconst 0, 1, 0, 0, 0)], (0, (43, .nop, 0, 9, 0, 0), []))
def qb48_9 : QB := (43, [], (8, (43, .ireturn, 1, 0, 0, 0), []))
def qb48_10 : QB := (44, [(44, .aload_n 0, 1, 0, 0, 0), (45, .getfield 18, 3, 4, 5, 2), (48, .bipush 48, 2, 0, 0, 48)], (3, (50, .if_icmp .lt 17, 3, 14, 11, 0), []))
def qb48_11 : QB := (53, [(53, .aload_n 0, 1, 0, 0, 0), (54, .getfield 18, 3, 4, 5, 2), (57, .bipush 57, 2, 0, 0, 57)], (3, (59, .if_icmp .gt 8, 3, 14, 12, 0), []))
def qb48_12 : QB := (62, [(62, .aload_n 0, 1, 0, 0, 0)], (5, (63, .invokevirtual 108, 3, 49, 13, 0), [(9, 1), (0, 3)]))
def qb48_13 : QB := (66, [], (8, (66, .ireturn, 1, 0, 0, 0), []))
def qb48_14 : QB := (67, [(67, .ldc 111, 2, 121, 1, 0), (69, .aload_n 0, 1, 0, 0, 0), (70, .getfield 18, 3, 4, 5, 2), (73, .invokevirtual 49, 3, 1004, 0, 0), (76, .istore_n 2, 1, 2, 0, 0), (77, .iload_n 2, 1, 2, 0, 0)], (2, (78, .ifCond .ge 9, 3, 17, 15, 0), []))
def qb48_15 : QB := (81, [(81, .aload_n 0, 1, 0, 0, 0), (82, .iconst 1, 1, 0, 0, 1)], (5, (83, .invokevirtual 55, 3, 37, 16, 0), [(9, 2), (0, 2)]))
def qb48_16 : QB := (86, [], (8, (86, .ireturn, 1, 0, 0, 0), []))
def qb48_17 : QB := (87, [(87, .aload_n 0, 1, 0, 0, 0), (88, .getfield 29, 3, 1, 5, 0), (91, .bipush 107, 2, 0, 0, 107), (93, .iload_n 2, 1, 2, 0, 0)], (5, (94, .invokevirtual 67, 3, 24, 18, 0), [(7, 3), (0, 3)]))
def qb48_18 : QB := (97, [(97, .aload_n 0, 1, 0, 0, 0)], (5, (98, .invokevirtual 44, 3, 36, 19, 0), [(9, 1), (0, 1)]))
def qb48_19 : QB := (101, [(101, .iconst 1, 1, 0, 0, 1)], (8, (102, .ireturn, 1, 0, 0, 0), []))
def qm48 : QM := (yX5_readFactor, cX5_readFactor, 3, (some .boolean), 10, 2, [qb48_0, qb48_1, qb48_2, qb48_3, qb48_4, qb48_5, qb48_6, qb48_7, qb48_8, qb48_9, qb48_10, qb48_11, qb48_12, qb48_13, qb48_14, qb48_15, qb48_16, qb48_17, qb48_18, qb48_19])
def qb49_0 : QB := (0, [(0, .iconst 0, 1, 0, 0, 0), (1, .istore_n 1, 1, 1, 0, 0), (2, .iconst 0, 1, 0, 0, 0), (3, .istore_n 2, 1, 2, 0, 0)], (0, (4, .nop, 0, 1, 0, 0), []))
def qb49_1 : QB := (4, [(4, .iload_n 2, 1, 2, 0, 0), (5, .iconst 5, 1, 0, 0, 5)], (3, (6, .if_icmp .gt 55, 3, 9, 2, 0), []))
def qb49_2 : QB := (9, [(9, .aload_n 0, 1, 0, 0, 0), (10, .getfield 18, 3, 4, 5, 2), (13, .bipush 48, 2, 0, 0, 48)], (3, (15, .if_icmp .lt 46, 3, 9, 3, 0), []))
def qb49_3 : QB := (18, [(18, .aload_n 0, 1, 0, 0, 0), (19, .getfield 18, 3, 4, 5, 2), (22, .bipush 57, 2, 0, 0, 57)], (3, (24, .if_icmp .gt 37, 3, 9, 4, 0), []))
def qb49_4 : QB := (27, [(27, .iload_n 2, 1, 2, 0, 0), (28, .iconst 5, 1, 0, 0, 5)], (3, (29, .if_icmp .ne 9, 3, 7, 5, 0), []))
def qb49_5 : QB := (32, [(32, .aload_n 0, 1, 0, 0, 0), (33, .iconst 2, 1, 0, 0, 2)], (5, (34, .invokevirtual 55, 3, 37, 6, 0), [(9, 2), (0, 2)]))
def qb49_6 : QB := (37, [], (8, (37, .ireturn, 1, 0, 0, 0), []))
def qb49_7 : QB := (38, [(38, .iload_n 1, 1, 1, 0, 0), (39, .bipush 10, 2, 0, 0, 10), (41, .imul, 1, 0, 0, 0), (42, .aload_n 0, 1, 0, 0, 0), (43, .getfield 18, 3, 4, 5, 2), (46, .iadd, 1, 0, 0, 0), (47, .bipush 48, 2, 0, 0, 48), (49, .isub, 1, 0, 0, 0), (50, .istore_n 1, 1, 1, 0, 0), (51, .aload_n 0, 1, 0, 0, 0)], (5, (52, .invokevirtual 44, 3, 36, 8, 0), [(9, 1), (0, 1)]))
def qb49_8 : QB := (55, [(55, .iinc 2 1, 3, 2, 0, 1)], (1, (58, .goto (-54), 3, 1, 0, 0), []))
def qb49_9 : QB := (61, [(61, .aload_n 0, 1, 0, 0, 0), (62, .getfield 29, 3, 1, 5, 0), (65, .bipush 48, 2, 0, 0, 48), (67, .iload_n 1, 1, 1, 0, 0)], (5, (68, .invokevirtual 67, 3, 24, 10, 0), [(7, 3), (0, 3)]))
def qb49_10 : QB := (71, [(71, .iconst 1, 1, 0, 0, 1)], (8, (72, .ireturn, 1, 0, 0, 0), []))
def qm49 : QM := (yX5_readNumber, cX5_readNumber, 3, (some .boolean), 10, 1, [qb49_0, qb49_1, qb49_2, qb49_3, qb49_4, qb49_5, qb49_6, qb49_7, qb49_8, qb49_9, qb49_10])
def qb50_0 : QB := (0, [(0, .aload_n 2, 1, 2, 0, 0), (1, .getfield 18, 3, 4, 0, 0), (4, .iload_n 1, 1, 1, 0, 0), (5, .bipush 24, 2, 0, 0, 24), (7, .imul, 1, 0, 0, 0), (8, .aload_n 0, 1, 0, 0, 0), (9, .getfield 9, 3, 0, 6, 0), (12, .iconst 0, 1, 0, 0, 0), (13, .bipush 24, 2, 0, 0, 24), (15, .invokestatic 23, 3, 1003, 0, 0), (18, .aload_n 0, 1, 0, 0, 0), (19, .getfield 15, 3, 1, 6, 0), (22, .bipush 6, 2, 0, 0, 6), (24, .iload_n 1, 1, 1, 0, 0), (25, .iastore, 1, 0, 0, 0), (26, .aload_n 0, 1, 0, 0, 0), (27, .getfield 15, 3, 1, 6, 0), (30, .bipush 7, 2, 0, 0, 7), (32, .aload_n 2, 1, 2, 0, 0), (33, .getfield 29, 3, 3, 0, 0), (36, .iload_n 1, 1, 1, 0, 0), (37, .iaload, 1, 0, 0, 0), (38, .iastore, 1, 0, 0, 0), (39, .aload_n 0, 1, 0, 0, 0), (40, .getfield 15, 3, 1, 6, 0), (43, .bipush 8, 2, 0, 0, 8), (45, .aload_n 2, 1, 2, 0, 0), (46, .getfield 29, 3, 3, 0, 0), (49, .iload_n 1, 1, 1, 0, 0), (50, .bipush 24, 2, 0, 0, 24), (52, .iadd, 1, 0, 0, 0), (53, .iconst 1, 1, 0, 0, 1), (54, .isub, 1, 0, 0, 0), (55, .bipush 24, 2, 0, 0, 24), (57, .irem, 1, 0, 0, 0), (58, .iaload, 1, 0, 0, 0), (59, .iastore, 1, 0, 0, 0)], (7, (60, .return_, 1, 0, 0, 0), []))
def qm50 : QM := (yX6_enter, cX6_enter, 3, none, 12, 3, [qb50_0])
def qb51_0 : QB := (0, [(0, .aload_n 0, 1, 0, 0, 0), (1, .getfield 15, 3, 1, 6, 0), (4, .iconst 0, 1, 0, 0, 0), (5, .iload_n 1, 1, 1, 0, 0), (6, .iastore, 1, 0, 0, 0), (7, .aload_n 0, 1, 0, 0, 0), (8, .getfield 15, 3, 1, 6, 0), (11, .iconst 1, 1, 0, 0, 1), (12, .iload_n 3, 1, 3, 0, 0), (13, .iastore, 1, 0, 0, 0), (14, .aload_n 0, 1, 0, 0, 0), (15, .getfield 15, 3, 1, 6, 0), (18, .iconst 2, 1, 0, 0, 2), (19, .iload_n 2, 1, 2, 0, 0), (20, .iastore, 1, 0, 0, 0), (21, .aload_n 0, 1, 0, 0, 0), (22, .getfield 9, 3, 0, 6, 0), (25, .iload_n 2, 1, 2, 0, 0), (26, .iconst 3, 1, 0, 0, 3), (27, .imul, 1, 0, 0, 0), (28, .aload_n 0, 1, 0, 0, 0), (29, .getfield 15, 3, 1, 6, 0), (32, .iconst 3, 1, 0, 0, 3), (33, .iconst 3, 1, 0, 0, 3), (34, .invokestatic 23, 3, 1003, 0, 0)], (7, (37, .return_, 1, 0, 0, 0), []))
def qm51 : QM := (yX6_look, cX6_look, 4, none, 12, 4, [qb51_0])
def qb52_0 : QB := (0, [(0, .aload_n 2, 1, 2, 0, 0), (1, .iload_n 3, 1, 3, 0, 0), (2, .iconst 1, 1, 0, 0, 1), (3, .iadd, 1, 0, 0, 0), (4, .iaload, 1, 0, 0, 0), (5, .istore 4, 2, 4, 0, 0), (7, .aload_n 0, 1, 0, 0, 0), (8, .aload_n 2, 1, 2, 0, 0), (9, .iload_n 3, 1, 3, 0, 0), (10, .iaload, 1, 0, 0, 0), (11, .iload 4, 2, 4, 0, 0), (13, .aload_n 2, 1, 2, 0, 0), (14, .iload_n 3, 1, 3, 0, 0), (15, .iconst 2, 1, 0, 0, 2), (16, .iadd, 1, 0, 0, 0), (17, .iaload, 1, 0, 0, 0)], (5, (18, .invokevirtual 32, 3, 51, 1, 0), [(10, 4), (0, 4)]))
def qb52_1 : QB := (21, [(21, .aload_n 1, 1, 1, 0, 0), (22, .iconst 0, 1, 0, 0, 0), (23, .aload_n 0, 1, 0, 0, 0), (24, .getfield 15, 3, 1, 6, 0)], (5, (27, .invokevirtual 38, 3, 27, 2, 0), [(7, 3), (0, 6)]))
def qb52_2 : QB := (30, [], (2, (30, .ifCond .eq 5, 3, 4, 3, 0), []))
def qb52_3 : QB := (33, [(33, .iconst (-1), 1, 0, 0, (-1))], (6, (34, .ireturn, 1, 0, 0, 0), []))
def qb52_4 : QB := (35, [(35, .aload_n 0, 1, 0, 0, 0), (36, .iload 4, 2, 4, 0, 0), (38, .iconst 0, 1, 0, 0, 0), (39, .aload_n 1, 1, 1, 0, 0), (40, .iconst 1, 1, 0, 0, 1), (41, .aload_n 0, 1, 0, 0, 0), (42, .getfield 15, 3, 1, 6, 0)], (5, (45, .invokevirtual 38, 3, 27, 5, 0), [(7, 3), (0, 6)]))
def qb52_5 : QB := (48, [], (5, (48, .invokevirtual 42, 3, 53, 6, 0), [(10, 4), (0, 5)]))
def qb52_6 : QB := (51, [(51, .aload_n 0, 1, 0, 0, 0), (52, .iload 4, 2, 4, 0, 0), (54, .iconst 1, 1, 0, 0, 1), (55, .aload_n 1, 1, 1, 0, 0), (56, .iconst 2, 1, 0, 0, 2), (57, .aload_n 0, 1, 0, 0, 0), (58, .getfield 15, 3, 1, 6, 0)], (5, (61, .invokevirtual 38, 3, 27, 7, 0), [(7, 3), (0, 6)]))
def qb52_7 : QB := (64, [], (5, (64, .invokevirtual 42, 3, 53, 8, 0), [(10, 4), (0, 5)]))
def qb52_8 : QB := (67, [(67, .aload_n 0, 1, 0, 0, 0), (68, .iload 4, 2, 4, 0, 0), (70, .iconst 2, 1, 0, 0, 2), (71, .aload_n 1, 1, 1, 0, 0), (72, .iconst 3, 1, 0, 0, 3), (73, .aload_n 0, 1, 0, 0, 0), (74, .getfield 15, 3, 1, 6, 0)], (5, (77, .invokevirtual 38, 3, 27, 9, 0), [(7, 3), (0, 6)]))
def qb52_9 : QB := (80, [], (5, (80, .invokevirtual 42, 3, 53, 10, 0), [(10, 4), (0, 5)]))
def qb52_10 : QB := (83, [(83, .aload_n 1, 1, 1, 0, 0), (84, .iconst 4, 1, 0, 0, 4), (85, .aload_n 0, 1, 0, 0, 0), (86, .getfield 15, 3, 1, 6, 0)], (5, (89, .invokevirtual 38, 3, 27, 11, 0), [(7, 3), (0, 6)]))
def qb52_11 : QB := (92, [], (6, (92, .ireturn, 1, 0, 0, 0), []))
def qm52 : QM := (yX6_perform, cX6_perform, 5, (some .int), 12, 4, [qb52_0, qb52_1, qb52_2, qb52_3, qb52_4, qb52_5, qb52_6, qb52_7, qb52_8, qb52_9, qb52_10, qb52_11])
def qb53_0 : QB := (0, [(0, .iload_n 1, 1, 1, 0, 0), (1, .iconst 3, 1, 0, 0, 3), (2, .imul, 1, 0, 0, 0), (3, .iload_n 2, 1, 2, 0, 0), (4, .iadd, 1, 0, 0, 0), (5, .istore 4, 2, 4, 0, 0), (7, .aload_n 0, 1, 0, 0, 0), (8, .getfield 9, 3, 0, 6, 0), (11, .iload 4, 2, 4, 0, 0), (13, .iconst 0, 1, 0, 0, 0), (14, .bipush 99, 2, 0, 0, 99), (16, .aload_n 0, 1, 0, 0, 0), (17, .getfield 9, 3, 0, 6, 0), (20, .iload 4, 2, 4, 0, 0), (22, .iaload, 1, 0, 0, 0), (23, .iload_n 3, 1, 3, 0, 0), (24, .iadd, 1, 0, 0, 0), (25, .invokestatic 45, 3, 1002, 0, 0), (28, .invokestatic 51, 3, 1001, 0, 0), (31, .iastore, 1, 0, 0, 0)], (7, (32, .return_, 1, 0, 0, 0), []))
def qm53 : QM := (yX6_change, cX6_change, 5, none, 12, 4, [qb53_0])
def qb54_0 : QB := (0, [(0, .iconst 0, 1, 0, 0, 0), (1, .istore_n 2, 1, 2, 0, 0), (2, .iconst 0, 1, 0, 0, 0), (3, .istore_n 3, 1, 3, 0, 0)], (0, (4, .nop, 0, 1, 0, 0), []))
def qb54_1 : QB := (4, [(4, .iload_n 3, 1, 3, 0, 0), (5, .bipush 8, 2, 0, 0, 8)], (3, (7, .if_icmp .ge 28, 3, 5, 2, 0), []))
def qb54_2 : QB := (10, [(10, .aload_n 0, 1, 0, 0, 0), (11, .iconst 0, 1, 0, 0, 0), (12, .iload_n 3, 1, 3, 0, 0), (13, .iconst 0, 1, 0, 0, 0)], (5, (14, .invokevirtual 32, 3, 51, 3, 0), [(10, 4), (0, 4)]))
def qb54_3 : QB := (17, [(17, .iload_n 2, 1, 2, 0, 0), (18, .aload_n 1, 1, 1, 0, 0), (19, .iconst 5, 1, 0, 0, 5), (20, .aload_n 0, 1, 0, 0, 0), (21, .getfield 15, 3, 1, 6, 0)], (5, (24, .invokevirtual 38, 3, 27, 4, 0), [(7, 3), (0, 6)]))
def qb54_4 : QB := (27, [(27, .iadd, 1, 0, 0, 0), (28, .istore_n 2, 1, 2, 0, 0), (29, .iinc 3 1, 3, 3, 0, 1)], (1, (32, .goto (-28), 3, 1, 0, 0), []))
def qb54_5 : QB := (35, [(35, .iload_n 2, 1, 2, 0, 0)], (6, (36, .ireturn, 1, 0, 0, 0), []))
def qm54 : QM := (yX6_finesOfAll, cX6_finesOfAll, 4, (some .int), 12, 2, [qb54_0, qb54_1, qb54_2, qb54_3, qb54_4, qb54_5])
def qb55_0 : QB := (0, [(0, .iconst 0, 1, 0, 0, 0), (1, .istore_n 2, 1, 2, 0, 0)], (0, (2, .nop, 0, 1, 0, 0), []))
def qb55_1 : QB := (2, [(2, .iload_n 2, 1, 2, 0, 0), (3, .bipush 8, 2, 0, 0, 8)], (3, (5, .if_icmp .ge 33, 3, 6, 2, 0), []))
def qb55_2 : QB := (8, [(8, .aload_n 0, 1, 0, 0, 0), (9, .iconst 0, 1, 0, 0, 0), (10, .iload_n 2, 1, 2, 0, 0), (11, .iconst 0, 1, 0, 0, 0)], (5, (12, .invokevirtual 32, 3, 51, 3, 0), [(10, 4), (0, 4)]))
def qb55_3 : QB := (15, [(15, .aload_n 0, 1, 0, 0, 0), (16, .iload_n 2, 1, 2, 0, 0), (17, .iconst 2, 1, 0, 0, 2), (18, .aload_n 1, 1, 1, 0, 0), (19, .bipush 6, 2, 0, 0, 6), (21, .aload_n 0, 1, 0, 0, 0), (22, .getfield 15, 3, 1, 6, 0)], (5, (25, .invokevirtual 38, 3, 27, 4, 0), [(7, 3), (0, 6)]))
def qb55_4 : QB := (28, [(28, .ineg, 1, 0, 0, 0)], (5, (29, .invokevirtual 42, 3, 53, 5, 0), [(10, 4), (0, 5)]))
def qb55_5 : QB := (32, [(32, .iinc 2 1, 3, 2, 0, 1)], (1, (35, .goto (-33), 3, 1, 0, 0), []))
def qb55_6 : QB := (38, [], (7, (38, .return_, 1, 0, 0, 0), []))
def qm55 : QM := (yX6_cool, cX6_cool, 3, none, 12, 2, [qb55_0, qb55_1, qb55_2, qb55_3, qb55_4, qb55_5, qb55_6])
def qb56_0 : QB := (0, [(0, .bipush 24, 2, 0, 0, 24), (2, .istore_n 2, 1, 2, 0, 0)], (0, (3, .nop, 0, 1, 0, 0), []))
def qb56_1 : QB := (3, [(3, .iload_n 2, 1, 2, 0, 0)], (2, (4, .ifCond .lt 45, 3, 4, 2, 0), []))
def qb56_2 : QB := (7, [(7, .aload_n 0, 1, 0, 0, 0), (8, .getfield 15, 3, 1, 7, 0), (11, .sipush 220, 3, 0, 0, 220)], (3, (14, .if_icmp .ge 35, 3, 4, 3, 0), []))
def qb56_3 : QB := (17, [(17, .aload_n 0, 1, 0, 0, 0), (18, .getfield 9, 3, 0, 7, 0), (21, .aload_n 0, 1, 0, 0, 0), (22, .getfield 15, 3, 1, 7, 0), (25, .iload_n 1, 1, 1, 0, 0), (26, .iload_n 2, 1, 2, 0, 0), (27, .ishr, 1, 0, 0, 0), (28, .sipush 255, 3, 0, 0, 255), (31, .iand, 1, 0, 0, 0), (32, .iastore, 1, 0, 0, 0), (33, .aload_n 0, 1, 0, 0, 0), (34, .dup, 1, 0, 0, 0), (35, .getfield 15, 3, 1, 7, 0), (38, .iconst 1, 1, 0, 0, 1), (39, .iadd, 1, 0, 0, 0), (40, .putfield 15, 3, 1, 7, 0), (43, .iinc 2 (-8), 3, 2, 0, (-8))], (1, (46, .goto (-43), 3, 1, 0, 0), []))
def qb56_4 : QB := (49, [], (7, (49, .return_, 1, 0, 0, 0), []))
def qm56 : QM := (yX7_add, cX7_add, 3, none, 14, 2, [qb56_0, qb56_1, qb56_2, qb56_3, qb56_4])
def qb57_0 : QB := (0, [(0, .iconst 0, 1, 0, 0, 0), (1, .istore_n 2, 1, 2, 0, 0), (2, .iconst 0, 1, 0, 0, 0), (3, .istore_n 3, 1, 3, 0, 0)], (0, (4, .nop, 0, 1, 0, 0), []))
def qb57_1 : QB := (4, [(4, .iload_n 3, 1, 3, 0, 0), (5, .iconst 4, 1, 0, 0, 4)], (3, (6, .if_icmp .ge 25, 3, 3, 2, 0), []))
def qb57_2 : QB := (9, [(9, .iload_n 2, 1, 2, 0, 0), (10, .bipush 8, 2, 0, 0, 8), (12, .ishl, 1, 0, 0, 0), (13, .aload_n 0, 1, 0, 0, 0), (14, .getfield 9, 3, 0, 7, 0), (17, .iload_n 1, 1, 1, 0, 0), (18, .iconst 4, 1, 0, 0, 4), (19, .imul, 1, 0, 0, 0), (20, .iload_n 3, 1, 3, 0, 0), (21, .iadd, 1, 0, 0, 0), (22, .iaload, 1, 0, 0, 0), (23, .ior, 1, 0, 0, 0), (24, .istore_n 2, 1, 2, 0, 0), (25, .iinc 3 1, 3, 3, 0, 1)], (1, (28, .goto (-24), 3, 1, 0, 0), []))
def qb57_3 : QB := (31, [(31, .iload_n 2, 1, 2, 0, 0)], (6, (32, .ireturn, 1, 0, 0, 0), []))
def qm57 : QM := (yX7_numberAt, cX7_numberAt, 4, (some .int), 14, 2, [qb57_0, qb57_1, qb57_2, qb57_3])
def qb58_0 : QB := (0, [(0, .aload_n 0, 1, 0, 0, 0), (1, .getfield 25, 3, 0, 8, 0), (4, .getfield 36, 3, 3, 0, 0), (7, .iload_n 1, 1, 1, 0, 0), (8, .iaload, 1, 0, 0, 0), (9, .istore_n 2, 1, 2, 0, 0), (10, .aload_n 0, 1, 0, 0, 0), (11, .getfield 29, 3, 1, 8, 0), (14, .aload_n 0, 1, 0, 0, 0), (15, .getfield 25, 3, 0, 8, 0)], (5, (18, .invokevirtual 42, 3, 1, 1, 0), [(4, 2), (0, 2)]))
def qb58_1 : QB := (21, [(21, .aload_n 0, 1, 0, 0, 0), (22, .getfield 29, 3, 1, 8, 0), (25, .getfield 36, 3, 3, 0, 0), (28, .iload_n 1, 1, 1, 0, 0), (29, .bipush 12, 2, 0, 0, 12), (31, .iastore, 1, 0, 0, 0), (32, .aload_n 0, 1, 0, 0, 0), (33, .getfield 29, 3, 1, 8, 0), (36, .iload_n 1, 1, 1, 0, 0)], (5, (37, .invokestatic 46, 3, 63, 2, 0), [(0, 1), (0, 1)]))
def qb58_2 : QB := (40, [(40, .aload_n 0, 1, 0, 0, 0), (41, .getfield 32, 3, 2, 8, 0)], (5, (44, .invokevirtual 50, 3, 2, 3, 0), [(4, 3), (0, 4)]))
def qb58_3 : QB := (47, [(47, .aload_n 0, 1, 0, 0, 0), (48, .getfield 25, 3, 0, 8, 0), (51, .iload_n 2, 1, 2, 0, 0)], (5, (52, .invokevirtual 54, 3, 6, 4, 0), [(4, 2), (0, 2)]))
def qb58_4 : QB := (55, [(55, .aload_n 0, 1, 0, 0, 0), (56, .getfield 29, 3, 1, 8, 0), (59, .iload_n 2, 1, 2, 0, 0)], (5, (60, .invokevirtual 54, 3, 6, 5, 0), [(4, 2), (0, 2)]))
def qb58_5 : QB := (63, [(63, .isub, 1, 0, 0, 0)], (6, (64, .ireturn, 1, 0, 0, 0), []))
def qm58 : QM := (yX8_priceOf, cX8_priceOf, 3, (some .int), 16, 2, [qb58_0, qb58_1, qb58_2, qb58_3, qb58_4, qb58_5])
def qb59_0 : QB := (0, [(0, .aload_n 0, 1, 0, 0, 0), (1, .getfield 29, 3, 1, 8, 0), (4, .aload_n 0, 1, 0, 0, 0), (5, .getfield 25, 3, 0, 8, 0)], (5, (8, .invokevirtual 42, 3, 1, 1, 0), [(4, 2), (0, 2)]))
def qb59_1 : QB := (11, [(11, .aload_n 0, 1, 0, 0, 0), (12, .getfield 29, 3, 1, 8, 0), (15, .getfield 36, 3, 3, 0, 0), (18, .iload_n 1, 1, 1, 0, 0), (19, .iconst 1, 1, 0, 0, 1), (20, .isub, 1, 0, 0, 0), (21, .bipush 12, 2, 0, 0, 12), (23, .iastore, 1, 0, 0, 0), (24, .aload_n 0, 1, 0, 0, 0), (25, .getfield 29, 3, 1, 8, 0), (28, .iload_n 1, 1, 1, 0, 0), (29, .iconst 1, 1, 0, 0, 1), (30, .isub, 1, 0, 0, 0), (31, .aload_n 0, 1, 0, 0, 0), (32, .getfield 32, 3, 2, 8, 0)], (5, (35, .invokevirtual 50, 3, 2, 2, 0), [(4, 3), (0, 4)]))
def qb59_2 : QB := (38, [(38, .aload_n 0, 1, 0, 0, 0), (39, .getfield 25, 3, 0, 8, 0), (42, .iload_n 1, 1, 1, 0, 0)], (5, (43, .invokevirtual 57, 3, 5, 3, 0), [(4, 2), (0, 2)]))
def qb59_3 : QB := (46, [(46, .aload_n 0, 1, 0, 0, 0), (47, .getfield 29, 3, 1, 8, 0), (50, .iload_n 1, 1, 1, 0, 0)], (5, (51, .invokevirtual 57, 3, 5, 4, 0), [(4, 2), (0, 2)]))
def qb59_4 : QB := (54, [(54, .isub, 1, 0, 0, 0)], (6, (55, .ireturn, 1, 0, 0, 0), []))
def qm59 : QM := (yX8_worthOfAhead, cX8_worthOfAhead, 2, (some .int), 16, 2, [qb59_0, qb59_1, qb59_2, qb59_3, qb59_4])
def qb60_0 : QB := (0, [(0, .aload_n 0, 1, 0, 0, 0), (1, .getfield 29, 3, 1, 8, 0), (4, .aload_n 0, 1, 0, 0, 0), (5, .iload_n 1, 1, 1, 0, 0), (6, .iload_n 2, 1, 2, 0, 0)], (5, (7, .invokevirtual 60, 3, 62, 1, 0), [(12, 3), (0, 3)]))
def qb60_1 : QB := (10, [(10, .aload_n 0, 1, 0, 0, 0), (11, .getfield 32, 3, 2, 8, 0)], (5, (14, .invokevirtual 50, 3, 2, 2, 0), [(4, 3), (0, 4)]))
def qb60_2 : QB := (17, [(17, .aload_n 0, 1, 0, 0, 0), (18, .iload_n 3, 1, 3, 0, 0)], (5, (19, .invokevirtual 64, 3, 61, 3, 0), [(12, 2), (0, 2)]))
def qb60_3 : QB := (22, [], (6, (22, .ireturn, 1, 0, 0, 0), []))
def qm60 : QM := (yX8_gainBySwap, cX8_gainBySwap, 4, (some .int), 16, 4, [qb60_0, qb60_1, qb60_2, qb60_3])
def qb61_0 : QB := (0, [(0, .aload_n 0, 1, 0, 0, 0), (1, .getfield 29, 3, 1, 8, 0), (4, .iload_n 1, 1, 1, 0, 0)], (5, (5, .invokevirtual 54, 3, 6, 1, 0), [(4, 2), (0, 2)]))
def qb61_1 : QB := (8, [(8, .aload_n 0, 1, 0, 0, 0), (9, .getfield 25, 3, 0, 8, 0), (12, .iload_n 1, 1, 1, 0, 0)], (5, (13, .invokevirtual 54, 3, 6, 2, 0), [(4, 2), (0, 2)]))
def qb61_2 : QB := (16, [(16, .isub, 1, 0, 0, 0)], (6, (17, .ireturn, 1, 0, 0, 0), []))
def qm61 : QM := (yX8_gainOf, cX8_gainOf, 2, (some .int), 16, 2, [qb61_0, qb61_1, qb61_2])
def qb62_0 : QB := (0, [(0, .aload_n 0, 1, 0, 0, 0), (1, .getfield 29, 3, 1, 8, 0), (4, .aload_n 0, 1, 0, 0, 0), (5, .getfield 25, 3, 0, 8, 0)], (5, (8, .invokevirtual 42, 3, 1, 1, 0), [(4, 2), (0, 2)]))
def qb62_1 : QB := (11, [(11, .aload_n 0, 1, 0, 0, 0), (12, .getfield 29, 3, 1, 8, 0), (15, .getfield 36, 3, 3, 0, 0), (18, .iload_n 1, 1, 1, 0, 0), (19, .aload_n 0, 1, 0, 0, 0), (20, .getfield 25, 3, 0, 8, 0), (23, .getfield 36, 3, 3, 0, 0), (26, .iload_n 2, 1, 2, 0, 0), (27, .iaload, 1, 0, 0, 0), (28, .iastore, 1, 0, 0, 0), (29, .aload_n 0, 1, 0, 0, 0), (30, .getfield 29, 3, 1, 8, 0), (33, .getfield 36, 3, 3, 0, 0), (36, .iload_n 2, 1, 2, 0, 0), (37, .aload_n 0, 1, 0, 0, 0), (38, .getfield 25, 3, 0, 8, 0), (41, .getfield 36, 3, 3, 0, 0), (44, .iload_n 1, 1, 1, 0, 0), (45, .iaload, 1, 0, 0, 0), (46, .iastore, 1, 0, 0, 0), (47, .iload_n 1, 1, 1, 0, 0)], (5, (48, .invokestatic 46, 3, 63, 2, 0), [(0, 1), (0, 1)]))
def qb62_2 : QB := (51, [(51, .iload_n 2, 1, 2, 0, 0)], (5, (52, .invokestatic 46, 3, 63, 3, 0), [(0, 1), (0, 1)]))
def qb62_3 : QB := (55, [(55, .invokestatic 67, 3, 1002, 0, 0)], (6, (58, .ireturn, 1, 0, 0, 0), []))
def qm62 : QM := (yX8_beginSwapped, cX8_beginSwapped, 3, (some .int), 16, 3, [qb62_0, qb62_1, qb62_2, qb62_3])
def qb63_0 : QB := (0, [(0, .iload_n 0, 1, 0, 0, 0), (1, .bipush 23, 2, 0, 0, 23)], (3, (3, .if_icmp .ne 7, 3, 2, 1, 0), []))
def qb63_1 : QB := (6, [(6, .iconst 0, 1, 0, 0, 0)], (1, (7, .goto 4, 3, 3, 0, 0), []))
def qb63_2 : QB := (10, [(10, .iload_n 0, 1, 0, 0, 0)], (0, (11, .nop, 0, 3, 0, 0), []))
def qb63_3 : QB := (11, [], (6, (11, .ireturn, 1, 0, 0, 0), []))
def qm63 : QM := (yX8_firstTouched, cX8_firstTouched, 1, (some .int), 17, 1, [qb63_0, qb63_1, qb63_2, qb63_3])
def qb64_0 : QB := (0, [(0, .aload_n 0, 1, 0, 0, 0), (1, .getfield 9, 3, 3, 8, 1)], (2, (4, .ifCond .eq 16, 3, 5, 1, 0), []))
def qb64_1 : QB := (7, [(7, .aload_n 0, 1, 0, 0, 0), (8, .getfield 22, 3, 6, 8, 0)], (2, (11, .ifCond .le 7, 3, 3, 2, 0), []))
def qb64_2 : QB := (14, [(14, .iconst 1, 1, 0, 0, 1)], (1, (15, .goto 4, 3, 4, 0, 0), []))
def qb64_3 : QB := (18, [(18, .iconst 0, 1, 0, 0, 0)], (0, (19, .nop, 0, 4, 0, 0), []))
def qb64_4 : QB := (19, [], (8, (19, .ireturn, 1, 0, 0, 0), []))
def qb64_5 : QB := (20, [(20, .aload_n 0, 1, 0, 0, 0), (21, .iconst 0, 1, 0, 0, 0), (22, .putfield 22, 3, 6, 8, 0), (25, .iconst 0, 1, 0, 0, 0), (26, .istore_n 1, 1, 1, 0, 0)], (0, (27, .nop, 0, 6, 0, 0), []))
def qb64_6 : QB := (27, [(27, .iload_n 1, 1, 1, 0, 0), (28, .bipush 24, 2, 0, 0, 24)], (3, (30, .if_icmp .ge 72, 3, 16, 7, 0), []))
def qb64_7 : QB := (33, [(33, .iload_n 1, 1, 1, 0, 0), (34, .iconst 1, 1, 0, 0, 1), (35, .iadd, 1, 0, 0, 0), (36, .istore_n 2, 1, 2, 0, 0)], (0, (37, .nop, 0, 8, 0, 0), []))
def qb64_8 : QB := (37, [(37, .iload_n 2, 1, 2, 0, 0), (38, .bipush 24, 2, 0, 0, 24)], (3, (40, .if_icmp .ge 56, 3, 15, 9, 0), []))
def qb64_9 : QB := (43, [(43, .aload_n 0, 1, 0, 0, 0), (44, .getfield 25, 3, 0, 8, 0), (47, .getfield 36, 3, 3, 0, 0), (50, .iload_n 1, 1, 1, 0, 0), (51, .iaload, 1, 0, 0, 0), (52, .aload_n 0, 1, 0, 0, 0), (53, .getfield 25, 3, 0, 8, 0), (56, .getfield 36, 3, 3, 0, 0), (59, .iload_n 2, 1, 2, 0, 0), (60, .iaload, 1, 0, 0, 0)], (5, (61, .invokestatic 72, 3, 65, 10, 0), [(0, 2), (0, 2)]))
def qb64_10 : QB := (64, [], (2, (64, .ifCond .eq 26, 3, 14, 11, 0), []))
def qb64_11 : QB := (67, [(67, .aload_n 0, 1, 0, 0, 0), (68, .getfield 29, 3, 1, 8, 0), (71, .aload_n 0, 1, 0, 0, 0), (72, .iload_n 1, 1, 1, 0, 0), (73, .iload_n 2, 1, 2, 0, 0)], (5, (74, .invokevirtual 60, 3, 62, 12, 0), [(12, 3), (0, 3)]))
def qb64_12 : QB := (77, [(77, .aload_n 0, 1, 0, 0, 0), (78, .getfield 32, 3, 2, 8, 0)], (5, (81, .invokevirtual 50, 3, 2, 13, 0), [(4, 3), (0, 4)]))
def qb64_13 : QB := (84, [(84, .aload_n 0, 1, 0, 0, 0), (85, .iload_n 1, 1, 1, 0, 0), (86, .iload_n 2, 1, 2, 0, 0)], (5, (87, .invokevirtual 76, 3, 66, 14, 0), [(12, 3), (0, 5)]))
def qb64_14 : QB := (90, [(90, .iinc 2 1, 3, 2, 0, 1)], (1, (93, .goto (-56), 3, 8, 0, 0), []))
def qb64_15 : QB := (96, [(96, .iinc 1 1, 3, 1, 0, 1)], (1, (99, .goto (-72), 3, 6, 0, 0), []))
def qb64_16 : QB := (102, [(102, .aload_n 0, 1, 0, 0, 0), (103, .iconst 1, 1, 0, 0, 1), (104, .putfield 9, 3, 3, 8, 1), (107, .aload_n 0, 1, 0, 0, 0), (108, .getfield 22, 3, 6, 8, 0)], (2, (111, .ifCond .le 7, 3, 18, 17, 0), []))
def qb64_17 : QB := (114, [(114, .iconst 1, 1, 0, 0, 1)], (1, (115, .goto 4, 3, 19, 0, 0), []))
def qb64_18 : QB := (118, [(118, .iconst 0, 1, 0, 0, 0)], (0, (119, .nop, 0, 19, 0, 0), []))
def qb64_19 : QB := (119, [], (8, (119, .ireturn, 1, 0, 0, 0), []))
def qm64 : QM := (yX8_seek, cX8_seek, 3, (some .boolean), 16, 1, [qb64_0, qb64_1, qb64_2, qb64_3, qb64_4, qb64_5, qb64_6, qb64_7, qb64_8, qb64_9, qb64_10, qb64_11, qb64_12, qb64_13, qb64_14, qb64_15, qb64_16, qb64_17, qb64_18, qb64_19])
def qb65_0 : QB := (0, [(0, .iload_n 0, 1, 0, 0, 0), (1, .bipush 12, 2, 0, 0, 12)], (3, (3, .if_icmp .eq 18, 3, 4, 1, 0), []))
def qb65_1 : QB := (6, [(6, .iload_n 1, 1, 1, 0, 0), (7, .bipush 12, 2, 0, 0, 12)], (3, (9, .if_icmp .eq 12, 3, 4, 2, 0), []))
def qb65_2 : QB := (12, [(12, .iload_n 0, 1, 0, 0, 0), (13, .iload_n 1, 1, 1, 0, 0)], (3, (14, .if_icmp .eq 7, 3, 4, 3, 0), []))
def qb65_3 : QB := (17, [(17, .iconst 1, 1, 0, 0, 1)], (1, (18, .goto 4, 3, 5, 0, 0), []))
def qb65_4 : QB := (21, [(21, .iconst 0, 1, 0, 0, 0)], (0, (22, .nop, 0, 5, 0, 0), []))
def qb65_5 : QB := (22, [], (8, (22, .ireturn, 1, 0, 0, 0), []))
def qm65 : QM := (yX8_areOfTwo, cX8_areOfTwo, 2, (some .boolean), 17, 2, [qb65_0, qb65_1, qb65_2, qb65_3, qb65_4, qb65_5])
def qb66_0 : QB := (0, [(0, .aload_n 0, 1, 0, 0, 0), (1, .aload_n 0, 1, 0, 0, 0), (2, .getfield 25, 3, 0, 8, 0), (5, .getfield 36, 3, 3, 0, 0), (8, .iload_n 1, 1, 1, 0, 0), (9, .iaload, 1, 0, 0, 0)], (5, (10, .invokevirtual 64, 3, 61, 1, 0), [(12, 2), (0, 2)]))
def qb66_1 : QB := (13, [(13, .istore_n 3, 1, 3, 0, 0), (14, .aload_n 0, 1, 0, 0, 0), (15, .aload_n 0, 1, 0, 0, 0), (16, .getfield 25, 3, 0, 8, 0), (19, .getfield 36, 3, 3, 0, 0), (22, .iload_n 2, 1, 2, 0, 0), (23, .iaload, 1, 0, 0, 0)], (5, (24, .invokevirtual 64, 3, 61, 2, 0), [(12, 2), (0, 2)]))
def qb66_2 : QB := (27, [(27, .istore 4, 2, 4, 0, 0), (29, .iload_n 3, 1, 3, 0, 0)], (2, (30, .ifCond .le 37, 3, 6, 3, 0), []))
def qb66_3 : QB := (33, [(33, .iload 4, 2, 4, 0, 0)], (2, (35, .ifCond .le 32, 3, 6, 4, 0), []))
def qb66_4 : QB := (38, [(38, .iload_n 3, 1, 3, 0, 0), (39, .iload 4, 2, 4, 0, 0), (41, .iadd, 1, 0, 0, 0), (42, .aload_n 0, 1, 0, 0, 0), (43, .getfield 22, 3, 6, 8, 0)], (3, (46, .if_icmp .le 21, 3, 6, 5, 0), []))
def qb66_5 : QB := (49, [(49, .aload_n 0, 1, 0, 0, 0), (50, .iload_n 1, 1, 1, 0, 0), (51, .putfield 15, 3, 4, 8, 0), (54, .aload_n 0, 1, 0, 0, 0), (55, .iload_n 2, 1, 2, 0, 0), (56, .putfield 19, 3, 5, 8, 0), (59, .aload_n 0, 1, 0, 0, 0), (60, .iload_n 3, 1, 3, 0, 0), (61, .iload 4, 2, 4, 0, 0), (63, .iadd, 1, 0, 0, 0), (64, .putfield 22, 3, 6, 8, 0)], (0, (67, .nop, 0, 6, 0, 0), []))
def qb66_6 : QB := (67, [], (7, (67, .return_, 1, 0, 0, 0), []))
def qm66 : QM := (yX8_weigh, cX8_weigh, 5, none, 16, 3, [qb66_0, qb66_1, qb66_2, qb66_3, qb66_4, qb66_5, qb66_6])
def qb67_0 : QB := (0, [(0, .iconst 0, 1, 0, 0, 0), (1, .istore_n 2, 1, 2, 0, 0), (2, .iconst 0, 1, 0, 0, 0), (3, .istore_n 3, 1, 3, 0, 0)], (0, (4, .nop, 0, 1, 0, 0), []))
def qb67_1 : QB := (4, [(4, .iload_n 3, 1, 3, 0, 0), (5, .bipush 24, 2, 0, 0, 24)], (3, (7, .if_icmp .gt 53, 3, 11, 2, 0), []))
def qb67_2 : QB := (10, [(10, .iload_n 3, 1, 3, 0, 0), (11, .bipush 24, 2, 0, 0, 24)], (3, (13, .if_icmp .eq 14, 3, 4, 3, 0), []))
def qb67_3 : QB := (16, [(16, .aload_n 0, 1, 0, 0, 0), (17, .getfield 9, 3, 0, 9, 0), (20, .iload_n 3, 1, 3, 0, 0), (21, .iaload, 1, 0, 0, 0), (22, .bipush 12, 2, 0, 0, 12)], (3, (24, .if_icmp .eq 7, 3, 5, 4, 0), []))
def qb67_4 : QB := (27, [(27, .iconst 1, 1, 0, 0, 1)], (1, (28, .goto 4, 3, 6, 0, 0), []))
def qb67_5 : QB := (31, [(31, .iconst 0, 1, 0, 0, 0)], (0, (32, .nop, 0, 6, 0, 0), []))
def qb67_6 : QB := (32, [(32, .istore 4, 2, 4, 0, 0), (34, .iload 4, 2, 4, 0, 0)], (2, (36, .ifCond .eq 18, 3, 10, 7, 0), []))
def qb67_7 : QB := (39, [(39, .aload_n 0, 1, 0, 0, 0), (40, .iload_n 3, 1, 3, 0, 0)], (5, (41, .invokevirtual 18, 3, 68, 8, 0), [(13, 2), (0, 6)]))
def qb67_8 : QB := (44, [(44, .iload_n 1, 1, 1, 0, 0)], (3, (45, .if_icmp .gt 9, 3, 10, 9, 0), []))
def qb67_9 : QB := (48, [(48, .iload_n 2, 1, 2, 0, 0), (49, .iconst 1, 1, 0, 0, 1), (50, .iload_n 3, 1, 3, 0, 0), (51, .ishl, 1, 0, 0, 0), (52, .ior, 1, 0, 0, 0), (53, .istore_n 2, 1, 2, 0, 0)], (0, (54, .nop, 0, 10, 0, 0), []))
def qb67_10 : QB := (54, [(54, .iinc 3 1, 3, 3, 0, 1)], (1, (57, .goto (-53), 3, 1, 0, 0), []))
def qb67_11 : QB := (60, [(60, .iload_n 2, 1, 2, 0, 0)], (6, (61, .ireturn, 1, 0, 0, 0), []))
def qm67 : QM := (yX9_hoursThatHold, cX9_hoursThatHold, 5, (some .int), 18, 2, [qb67_0, qb67_1, qb67_2, qb67_3, qb67_4, qb67_5, qb67_6, qb67_7, qb67_8, qb67_9, qb67_10, qb67_11])
def qb68_0 : QB := (0, [(0, .iload_n 1, 1, 1, 0, 0), (1, .bipush 24, 2, 0, 0, 24)], (3, (3, .if_icmp .ne 8, 3, 2, 1, 0), []))
def qb68_1 : QB := (6, [(6, .bipush 12, 2, 0, 0, 12)], (1, (8, .goto 9, 3, 3, 0, 0), []))
def qb68_2 : QB := (11, [(11, .aload_n 0, 1, 0, 0, 0), (12, .getfield 9, 3, 0, 9, 0), (15, .iload_n 1, 1, 1, 0, 0), (16, .iaload, 1, 0, 0, 0)], (0, (17, .nop, 0, 3, 0, 0), []))
def qb68_3 : QB := (17, [(17, .istore_n 2, 1, 2, 0, 0), (18, .iconst 0, 1, 0, 0, 0), (19, .istore_n 3, 1, 3, 0, 0), (20, .iconst 0, 1, 0, 0, 0), (21, .istore 4, 2, 4, 0, 0)], (0, (23, .nop, 0, 4, 0, 0), []))
def qb68_4 : QB := (23, [(23, .iload 4, 2, 4, 0, 0), (25, .bipush 24, 2, 0, 0, 24)], (3, (27, .if_icmp .ge 66, 3, 14, 5, 0), []))
def qb68_5 : QB := (30, [(30, .aload_n 0, 1, 0, 0, 0), (31, .getfield 9, 3, 0, 9, 0), (34, .iload 4, 2, 4, 0, 0), (36, .iaload, 1, 0, 0, 0), (37, .bipush 12, 2, 0, 0, 12)], (3, (39, .if_icmp .eq 18, 3, 8, 6, 0), []))
def qb68_6 : QB := (42, [(42, .aload_n 0, 1, 0, 0, 0), (43, .getfield 9, 3, 0, 9, 0), (46, .iload 4, 2, 4, 0, 0), (48, .iaload, 1, 0, 0, 0), (49, .iload_n 2, 1, 2, 0, 0)], (3, (50, .if_icmp .eq 7, 3, 8, 7, 0), []))
def qb68_7 : QB := (53, [(53, .iconst 1, 1, 0, 0, 1)], (1, (54, .goto 4, 3, 9, 0, 0), []))
def qb68_8 : QB := (57, [(57, .iconst 0, 1, 0, 0, 0)], (0, (58, .nop, 0, 9, 0, 0), []))
def qb68_9 : QB := (58, [(58, .istore 5, 2, 5, 0, 0), (60, .iload 5, 2, 5, 0, 0)], (2, (62, .ifCond .eq 25, 3, 13, 10, 0), []))
def qb68_10 : QB := (65, [(65, .aload_n 0, 1, 0, 0, 0), (66, .iload 4, 2, 4, 0, 0), (68, .iload_n 1, 1, 1, 0, 0)], (5, (69, .invokevirtual 22, 3, 69, 11, 0), [(13, 3), (0, 4)]))
def qb68_11 : QB := (72, [], (2, (72, .ifCond .eq 15, 3, 13, 12, 0), []))
def qb68_12 : QB := (75, [(75, .iload_n 3, 1, 3, 0, 0), (76, .iconst 1, 1, 0, 0, 1), (77, .aload_n 0, 1, 0, 0, 0), (78, .getfield 9, 3, 0, 9, 0), (81, .iload 4, 2, 4, 0, 0), (83, .iaload, 1, 0, 0, 0), (84, .ishl, 1, 0, 0, 0), (85, .ior, 1, 0, 0, 0), (86, .istore_n 3, 1, 3, 0, 0)], (0, (87, .nop, 0, 13, 0, 0), []))
def qb68_13 : QB := (87, [(87, .iinc 4 1, 3, 4, 0, 1)], (1, (90, .goto (-67), 3, 4, 0, 0), []))
def qb68_14 : QB := (93, [(93, .iload_n 3, 1, 3, 0, 0)], (5, (94, .invokestatic 26, 3, 199, 15, 0), [(0, 1), (0, 1)]))
def qb68_15 : QB := (97, [], (6, (97, .ireturn, 1, 0, 0, 0), []))
def qm68 : QM := (yX9_liarsIf, cX9_liarsIf, 6, (some .int), 18, 2, [qb68_0, qb68_1, qb68_2, qb68_3, qb68_4, qb68_5, qb68_6, qb68_7, qb68_8, qb68_9, qb68_10, qb68_11, qb68_12, qb68_13, qb68_14, qb68_15])
def qb69_0 : QB := (0, [(0, .iload_n 1, 1, 1, 0, 0), (1, .iload_n 2, 1, 2, 0, 0)], (3, (2, .if_icmp .le 7, 3, 2, 1, 0), []))
def qb69_1 : QB := (5, [(5, .iconst 1, 1, 0, 0, 1)], (1, (6, .goto 4, 3, 3, 0, 0), []))
def qb69_2 : QB := (9, [(9, .iconst 0, 1, 0, 0, 0)], (0, (10, .nop, 0, 3, 0, 0), []))
def qb69_3 : QB := (10, [(10, .istore_n 3, 1, 3, 0, 0), (11, .aload_n 0, 1, 0, 0, 0), (12, .getfield 15, 3, 1, 9, 0), (15, .iload_n 1, 1, 1, 0, 0), (16, .iaload, 1, 0, 0, 0), (17, .iload_n 3, 1, 3, 0, 0)], (2, (18, .ifCond .eq 7, 3, 5, 4, 0), []))
def qb69_4 : QB := (21, [(21, .iconst 0, 1, 0, 0, 0)], (1, (22, .goto 4, 3, 6, 0, 0), []))
def qb69_5 : QB := (25, [(25, .iconst 1, 1, 0, 0, 1)], (0, (26, .nop, 0, 6, 0, 0), []))
def qb69_6 : QB := (26, [], (3, (26, .if_icmp .ne 7, 3, 8, 7, 0), []))
def qb69_7 : QB := (29, [(29, .iconst 1, 1, 0, 0, 1)], (1, (30, .goto 4, 3, 9, 0, 0), []))
def qb69_8 : QB := (33, [(33, .iconst 0, 1, 0, 0, 0)], (0, (34, .nop, 0, 9, 0, 0), []))
def qb69_9 : QB := (34, [], (8, (34, .ireturn, 1, 0, 0, 0), []))
def qm69 : QM := (yX9_isUntrue, cX9_isUntrue, 4, (some .boolean), 18, 3, [qb69_0, qb69_1, qb69_2, qb69_3, qb69_4, qb69_5, qb69_6, qb69_7, qb69_8, qb69_9])
end
section
def qb70_0 : QB := (0, [(0, .bipush (-2), 2, 0, 0, (-2)), (2, .istore_n 2, 1, 2, 0, 0), (3, .iconst 0, 1, 0, 0, 0), (4, .istore_n 3, 1, 3, 0, 0)], (0, (5, .nop, 0, 1, 0, 0), []))
def qb70_1 : QB := (5, [(5, .iload_n 3, 1, 3, 0, 0), (6, .bipush 24, 2, 0, 0, 24)], (3, (8, .if_icmp .gt 61, 3, 12, 2, 0), []))
def qb70_2 : QB := (11, [(11, .iload_n 1, 1, 1, 0, 0), (12, .iload_n 3, 1, 3, 0, 0), (13, .ishr, 1, 0, 0, 0), (14, .iconst 1, 1, 0, 0, 1), (15, .iand, 1, 0, 0, 0)], (2, (16, .ifCond .eq 47, 3, 11, 3, 0), []))
def qb70_3 : QB := (19, [(19, .iload_n 3, 1, 3, 0, 0), (20, .bipush 24, 2, 0, 0, 24)], (3, (22, .if_icmp .ne 8, 3, 5, 4, 0), []))
def qb70_4 : QB := (25, [(25, .bipush 12, 2, 0, 0, 12)], (1, (27, .goto 9, 3, 6, 0, 0), []))
def qb70_5 : QB := (30, [(30, .aload_n 0, 1, 0, 0, 0), (31, .getfield 9, 3, 0, 9, 0), (34, .iload_n 3, 1, 3, 0, 0), (35, .iaload, 1, 0, 0, 0)], (0, (36, .nop, 0, 6, 0, 0), []))
def qb70_6 : QB := (36, [(36, .istore 4, 2, 4, 0, 0), (38, .iload 4, 2, 4, 0, 0), (40, .bipush 12, 2, 0, 0, 12)], (3, (42, .if_icmp .eq 15, 3, 9, 7, 0), []))
def qb70_7 : QB := (45, [(45, .iload_n 2, 1, 2, 0, 0), (46, .bipush (-2), 2, 0, 0, (-2))], (3, (48, .if_icmp .eq 12, 3, 10, 8, 0), []))
def qb70_8 : QB := (51, [(51, .iload_n 2, 1, 2, 0, 0), (52, .iload 4, 2, 4, 0, 0)], (3, (54, .if_icmp .eq 6, 3, 10, 9, 0), []))
def qb70_9 : QB := (57, [(57, .bipush (-2), 2, 0, 0, (-2))], (6, (59, .ireturn, 1, 0, 0, 0), []))
def qb70_10 : QB := (60, [(60, .iload 4, 2, 4, 0, 0), (62, .istore_n 2, 1, 2, 0, 0)], (0, (63, .nop, 0, 11, 0, 0), []))
def qb70_11 : QB := (63, [(63, .iinc 3 1, 3, 3, 0, 1)], (1, (66, .goto (-61), 3, 1, 0, 0), []))
def qb70_12 : QB := (69, [(69, .iload_n 2, 1, 2, 0, 0)], (6, (70, .ireturn, 1, 0, 0, 0), []))
def qm70 : QM := (yX9_onlyOwnerOf, cX9_onlyOwnerOf, 5, (some .int), 18, 2, [qb70_0, qb70_1, qb70_2, qb70_3, qb70_4, qb70_5, qb70_6, qb70_7, qb70_8, qb70_9, qb70_10, qb70_11, qb70_12])
def qb71_0 : QB := (0, [(0, .iload_n 1, 1, 1, 0, 0)], (5, (1, .invokestatic 123, 3, 106, 1, 0), [(0, 1), (0, 1)]))
def qb71_1 : QB := (4, [], (2, (4, .ifCond .eq 15, 3, 5, 2, 0), []))
def qb71_2 : QB := (7, [(7, .iload_n 2, 1, 2, 0, 0)], (5, (8, .invokestatic 127, 3, 107, 3, 0), [(0, 1), (0, 1)]))
def qb71_3 : QB := (11, [], (2, (11, .ifCond .ne 10, 3, 6, 4, 0), []))
def qb71_4 : QB := (14, [(14, .iload_n 2, 1, 2, 0, 0), (15, .iconst (-1), 1, 0, 0, (-1))], (3, (16, .if_icmp .eq 5, 3, 6, 5, 0), []))
def qb71_5 : QB := (19, [(19, .iconst 0, 1, 0, 0, 0)], (8, (20, .ireturn, 1, 0, 0, 0), []))
def qb71_6 : QB := (21, [(21, .aload_n 0, 1, 0, 0, 0), (22, .getfield 12, 3, 0, 10, 0), (25, .getfield 100, 3, 0, 2, 0), (28, .iload_n 1, 1, 1, 0, 0), (29, .iload_n 2, 1, 2, 0, 0), (30, .iconst (-1), 1, 0, 0, (-1))], (3, (31, .if_icmp .ne 8, 3, 8, 7, 0), []))
def qb71_7 : QB := (34, [(34, .bipush 12, 2, 0, 0, 12)], (1, (36, .goto 4, 3, 9, 0, 0), []))
def qb71_8 : QB := (39, [(39, .iload_n 2, 1, 2, 0, 0)], (0, (40, .nop, 0, 9, 0, 0), []))
def qb71_9 : QB := (40, [(40, .iastore, 1, 0, 0, 0), (41, .aload_n 0, 1, 0, 0, 0)], (5, (42, .invokevirtual 130, 3, 103, 10, 0), [(14, 1), (0, 1)]))
def qb71_10 : QB := (45, [(45, .iconst 1, 1, 0, 0, 1)], (8, (46, .ireturn, 1, 0, 0, 0), []))
def qm71 : QM := (yX10_own, cX10_own, 3, (some .boolean), 20, 3, [qb71_0, qb71_1, qb71_2, qb71_3, qb71_4, qb71_5, qb71_6, qb71_7, qb71_8, qb71_9, qb71_10])
def qb72_0 : QB := (0, [(0, .iload_n 1, 1, 1, 0, 0)], (5, (1, .invokestatic 133, 3, 108, 1, 0), [(0, 1), (0, 1)]))
def qb72_1 : QB := (4, [], (2, (4, .ifCond .eq 25, 3, 8, 2, 0), []))
def qb72_2 : QB := (7, [(7, .iload_n 2, 1, 2, 0, 0)], (5, (8, .invokestatic 136, 3, 110, 3, 0), [(0, 1), (0, 1)]))
def qb72_3 : QB := (11, [], (2, (11, .ifCond .eq 18, 3, 8, 4, 0), []))
def qb72_4 : QB := (14, [(14, .iload_n 3, 1, 3, 0, 0)], (5, (15, .invokestatic 136, 3, 110, 5, 0), [(0, 1), (0, 1)]))
def qb72_5 : QB := (18, [], (2, (18, .ifCond .eq 11, 3, 8, 6, 0), []))
def qb72_6 : QB := (21, [(21, .iload 4, 2, 4, 0, 0)], (5, (23, .invokestatic 136, 3, 110, 7, 0), [(0, 1), (0, 1)]))
def qb72_7 : QB := (26, [], (2, (26, .ifCond .ne 5, 3, 9, 8, 0), []))
def qb72_8 : QB := (29, [(29, .iconst 0, 1, 0, 0, 0)], (8, (30, .ireturn, 1, 0, 0, 0), []))
def qb72_9 : QB := (31, [(31, .aload_n 0, 1, 0, 0, 0), (32, .getfield 12, 3, 0, 10, 0), (35, .getfield 139, 3, 1, 2, 0), (38, .iload_n 1, 1, 1, 0, 0), (39, .iconst 3, 1, 0, 0, 3), (40, .imul, 1, 0, 0, 0), (41, .iconst 0, 1, 0, 0, 0), (42, .iadd, 1, 0, 0, 0), (43, .iload_n 2, 1, 2, 0, 0), (44, .iastore, 1, 0, 0, 0), (45, .aload_n 0, 1, 0, 0, 0), (46, .getfield 12, 3, 0, 10, 0), (49, .getfield 139, 3, 1, 2, 0), (52, .iload_n 1, 1, 1, 0, 0), (53, .iconst 3, 1, 0, 0, 3), (54, .imul, 1, 0, 0, 0), (55, .iconst 1, 1, 0, 0, 1), (56, .iadd, 1, 0, 0, 0), (57, .iload_n 3, 1, 3, 0, 0), (58, .iastore, 1, 0, 0, 0), (59, .aload_n 0, 1, 0, 0, 0), (60, .getfield 12, 3, 0, 10, 0), (63, .getfield 139, 3, 1, 2, 0), (66, .iload_n 1, 1, 1, 0, 0), (67, .iconst 3, 1, 0, 0, 3), (68, .imul, 1, 0, 0, 0), (69, .iconst 2, 1, 0, 0, 2), (70, .iadd, 1, 0, 0, 0), (71, .iload 4, 2, 4, 0, 0), (73, .iastore, 1, 0, 0, 0), (74, .aload_n 0, 1, 0, 0, 0)], (5, (75, .invokevirtual 130, 3, 103, 10, 0), [(14, 1), (0, 1)]))
def qb72_10 : QB := (78, [(78, .iconst 1, 1, 0, 0, 1)], (8, (79, .ireturn, 1, 0, 0, 0), []))
def qm72 : QM := (yX10_room, cX10_room, 5, (some .boolean), 20, 5, [qb72_0, qb72_1, qb72_2, qb72_3, qb72_4, qb72_5, qb72_6, qb72_7, qb72_8, qb72_9, qb72_10])
def qb73_0 : QB := (0, [(0, .aload_n 0, 1, 0, 0, 0), (1, .getfield 26, 3, 3, 10, 0), (4, .getfield 142, 3, 1, 7, 0), (7, .bipush 20, 2, 0, 0, 20), (9, .iadd, 1, 0, 0, 0), (10, .sipush 220, 3, 0, 0, 220)], (3, (13, .if_icmp .le 5, 3, 2, 1, 0), []))
def qb73_1 : QB := (16, [(16, .iconst (-1), 1, 0, 0, (-1))], (6, (17, .ireturn, 1, 0, 0, 0), []))
def qb73_2 : QB := (18, [(18, .aload_n 0, 1, 0, 0, 0), (19, .getfield 26, 3, 3, 10, 0), (22, .iload_n 1, 1, 1, 0, 0)], (5, (23, .invokevirtual 146, 3, 56, 3, 0), [(11, 2), (0, 3)]))
def qb73_3 : QB := (26, [(26, .aload_n 0, 1, 0, 0, 0), (27, .getfield 26, 3, 3, 10, 0), (30, .iload_n 2, 1, 2, 0, 0)], (5, (31, .invokevirtual 146, 3, 56, 4, 0), [(11, 2), (0, 3)]))
def qb73_4 : QB := (34, [(34, .aload_n 0, 1, 0, 0, 0), (35, .getfield 26, 3, 3, 10, 0), (38, .iload_n 3, 1, 3, 0, 0)], (5, (39, .invokevirtual 146, 3, 56, 5, 0), [(11, 2), (0, 3)]))
def qb73_5 : QB := (42, [(42, .aload_n 0, 1, 0, 0, 0), (43, .getfield 26, 3, 3, 10, 0), (46, .iload 4, 2, 4, 0, 0)], (5, (48, .invokevirtual 146, 3, 56, 6, 0), [(11, 2), (0, 3)]))
def qb73_6 : QB := (51, [(51, .aload_n 0, 1, 0, 0, 0), (52, .getfield 26, 3, 3, 10, 0), (55, .iload 5, 2, 5, 0, 0)], (5, (57, .invokevirtual 146, 3, 56, 7, 0), [(11, 2), (0, 3)]))
def qb73_7 : QB := (60, [(60, .aload_n 0, 1, 0, 0, 0), (61, .getfield 26, 3, 3, 10, 0), (64, .getfield 142, 3, 1, 7, 0)], (6, (67, .ireturn, 1, 0, 0, 0), []))
def qm73 : QM := (yX10_feed, cX10_feed, 6, (some .int), 20, 6, [qb73_0, qb73_1, qb73_2, qb73_3, qb73_4, qb73_5, qb73_6, qb73_7])
def qb74_0 : QB := (0, [(0, .iload_n 1, 1, 1, 0, 0)], (5, (1, .invokestatic 150, 3, 109, 1, 0), [(0, 1), (0, 1)]))
def qb74_1 : QB := (4, [], (2, (4, .ifCond .eq 26, 3, 5, 2, 0), []))
def qb74_2 : QB := (7, [(7, .iload_n 2, 1, 2, 0, 0), (8, .iconst 1, 1, 0, 0, 1)], (3, (9, .if_icmp .lt 21, 3, 5, 3, 0), []))
def qb74_3 : QB := (12, [(12, .iload_n 2, 1, 2, 0, 0), (13, .sipush 200, 3, 0, 0, 200)], (3, (16, .if_icmp .gt 14, 3, 5, 4, 0), []))
def qb74_4 : QB := (19, [(19, .iload_n 2, 1, 2, 0, 0), (20, .aload_n 0, 1, 0, 0, 0), (21, .getfield 26, 3, 3, 10, 0), (24, .getfield 142, 3, 1, 7, 0)], (3, (27, .if_icmp .le 5, 3, 6, 5, 0), []))
def qb74_5 : QB := (30, [(30, .iconst (-1), 1, 0, 0, (-1))], (6, (31, .ireturn, 1, 0, 0, 0), []))
def qb74_6 : QB := (32, [(32, .aload_n 0, 1, 0, 0, 0), (33, .getfield 50, 3, 6, 10, 0), (36, .iload_n 2, 1, 2, 0, 0)], (5, (37, .invokevirtual 153, 3, 35, 7, 0), [(9, 2), (0, 5)]))
def qb74_7 : QB := (40, [(40, .istore_n 3, 1, 3, 0, 0), (41, .aload_n 0, 1, 0, 0, 0), (42, .getfield 26, 3, 3, 10, 0), (45, .iconst 0, 1, 0, 0, 0), (46, .putfield 142, 3, 1, 7, 0), (49, .iload_n 3, 1, 3, 0, 0)], (2, (50, .ifCond .eq 5, 3, 9, 8, 0), []))
def qb74_8 : QB := (53, [(53, .iload_n 3, 1, 3, 0, 0)], (6, (54, .ireturn, 1, 0, 0, 0), []))
def qb74_9 : QB := (55, [(55, .aload_n 0, 1, 0, 0, 0), (56, .getfield 33, 3, 4, 10, 0), (59, .iload_n 1, 1, 1, 0, 0), (60, .aaload, 1, 0, 0, 0), (61, .aload_n 0, 1, 0, 0, 0), (62, .getfield 37, 3, 5, 10, 0)], (5, (65, .invokevirtual 157, 3, 23, 10, 0), [(7, 2), (0, 2)]))
def qb74_10 : QB := (68, [(68, .aload_n 0, 1, 0, 0, 0)], (5, (69, .invokevirtual 130, 3, 103, 11, 0), [(14, 1), (0, 1)]))
def qb74_11 : QB := (72, [(72, .aload_n 0, 1, 0, 0, 0), (73, .getfield 33, 3, 4, 10, 0), (76, .iload_n 1, 1, 1, 0, 0), (77, .aaload, 1, 0, 0, 0), (78, .getfield 161, 3, 0, 3, 0)], (6, (81, .ireturn, 1, 0, 0, 0), []))
def qm74 : QM := (yX10_law, cX10_law, 4, (some .int), 20, 3, [qb74_0, qb74_1, qb74_2, qb74_3, qb74_4, qb74_5, qb74_6, qb74_7, qb74_8, qb74_9, qb74_10, qb74_11])
def qb75_0 : QB := (0, [(0, .iload_n 1, 1, 1, 0, 0)], (5, (1, .invokestatic 127, 3, 107, 1, 0), [(0, 1), (0, 1)]))
def qb75_1 : QB := (4, [], (2, (4, .ifCond .eq 24, 3, 7, 2, 0), []))
def qb75_2 : QB := (7, [(7, .iload_n 2, 1, 2, 0, 0)], (2, (8, .ifCond .lt 20, 3, 7, 3, 0), []))
def qb75_3 : QB := (11, [(11, .iload_n 2, 1, 2, 0, 0), (12, .bipush 7, 2, 0, 0, 7)], (3, (14, .if_icmp .ge 14, 3, 7, 4, 0), []))
def qb75_4 : QB := (17, [(17, .iload_n 3, 1, 3, 0, 0)], (5, (18, .invokestatic 133, 3, 108, 5, 0), [(0, 1), (0, 1)]))
def qb75_5 : QB := (21, [], (2, (21, .ifCond .eq 7, 3, 7, 6, 0), []))
def qb75_6 : QB := (24, [(24, .iconst 1, 1, 0, 0, 1)], (1, (25, .goto 4, 3, 8, 0, 0), []))
def qb75_7 : QB := (28, [(28, .iconst 0, 1, 0, 0, 0)], (0, (29, .nop, 0, 8, 0, 0), []))
def qb75_8 : QB := (29, [(29, .istore 5, 2, 5, 0, 0), (31, .iload 5, 2, 5, 0, 0)], (2, (33, .ifCond .eq 24, 3, 12, 9, 0), []))
def qb75_9 : QB := (36, [(36, .iload 4, 2, 4, 0, 0)], (5, (38, .invokestatic 136, 3, 110, 10, 0), [(0, 1), (0, 1)]))
def qb75_10 : QB := (41, [], (2, (41, .ifCond .eq 16, 3, 12, 11, 0), []))
def qb75_11 : QB := (44, [(44, .aload_n 0, 1, 0, 0, 0), (45, .getfield 12, 3, 0, 10, 0), (48, .getfield 164, 3, 3, 2, 0), (51, .iload_n 1, 1, 1, 0, 0), (52, .iaload, 1, 0, 0, 0), (53, .iconst 5, 1, 0, 0, 5)], (3, (54, .if_icmp .lt 5, 3, 13, 12, 0), []))
def qb75_12 : QB := (57, [(57, .iconst (-1), 1, 0, 0, (-1))], (6, (58, .ireturn, 1, 0, 0, 0), []))
def qb75_13 : QB := (59, [(59, .aload_n 0, 1, 0, 0, 0), (60, .getfield 12, 3, 0, 10, 0), (63, .iload_n 1, 1, 1, 0, 0), (64, .iload_n 2, 1, 2, 0, 0), (65, .iload_n 3, 1, 3, 0, 0), (66, .iload 4, 2, 4, 0, 0)], (5, (68, .invokevirtual 167, 3, 13, 14, 0), [(6, 5), (0, 6)]))
def qb75_14 : QB := (71, [(71, .aload_n 0, 1, 0, 0, 0)], (5, (72, .invokevirtual 130, 3, 103, 15, 0), [(14, 1), (0, 1)]))
def qb75_15 : QB := (75, [(75, .aload_n 0, 1, 0, 0, 0), (76, .getfield 12, 3, 0, 10, 0), (79, .getfield 164, 3, 3, 2, 0), (82, .iload_n 1, 1, 1, 0, 0), (83, .iaload, 1, 0, 0, 0)], (6, (84, .ireturn, 1, 0, 0, 0), []))
def qm75 : QM := (yX10_act, cX10_act, 6, (some .int), 20, 5, [qb75_0, qb75_1, qb75_2, qb75_3, qb75_4, qb75_5, qb75_6, qb75_7, qb75_8, qb75_9, qb75_10, qb75_11, qb75_12, qb75_13, qb75_14, qb75_15])
def qb76_0 : QB := (0, [(0, .iload_n 1, 1, 1, 0, 0)], (5, (1, .invokestatic 127, 3, 107, 1, 0), [(0, 1), (0, 1)]))
def qb76_1 : QB := (4, [], (2, (4, .ifCond .ne 5, 3, 3, 2, 0), []))
def qb76_2 : QB := (7, [(7, .iconst (-1), 1, 0, 0, (-1))], (6, (8, .ireturn, 1, 0, 0, 0), []))
def qb76_3 : QB := (9, [(9, .aload_n 0, 1, 0, 0, 0), (10, .getfield 12, 3, 0, 10, 0), (13, .getfield 164, 3, 3, 2, 0), (16, .iload_n 1, 1, 1, 0, 0), (17, .iaload, 1, 0, 0, 0), (18, .istore_n 2, 1, 2, 0, 0), (19, .aload_n 0, 1, 0, 0, 0), (20, .getfield 12, 3, 0, 10, 0), (23, .getfield 164, 3, 3, 2, 0), (26, .iload_n 1, 1, 1, 0, 0), (27, .iconst 0, 1, 0, 0, 0), (28, .iastore, 1, 0, 0, 0), (29, .aload_n 0, 1, 0, 0, 0)], (5, (30, .invokevirtual 130, 3, 103, 4, 0), [(14, 1), (0, 1)]))
def qb76_4 : QB := (33, [(33, .iload_n 2, 1, 2, 0, 0)], (6, (34, .ireturn, 1, 0, 0, 0), []))
def qm76 : QM := (yX10_noActs, cX10_noActs, 3, (some .int), 20, 2, [qb76_0, qb76_1, qb76_2, qb76_3, qb76_4])
def qb77_0 : QB := (0, [(0, .iload_n 1, 1, 1, 0, 0)], (5, (1, .invokestatic 123, 3, 106, 1, 0), [(0, 1), (0, 1)]))
def qb77_1 : QB := (4, [], (2, (4, .ifCond .ne 9, 3, 3, 2, 0), []))
def qb77_2 : QB := (7, [(7, .iload_n 1, 1, 1, 0, 0), (8, .bipush 24, 2, 0, 0, 24)], (3, (10, .if_icmp .ne 19, 3, 7, 3, 0), []))
def qb77_3 : QB := (13, [(13, .iload_n 2, 1, 2, 0, 0)], (5, (14, .invokestatic 133, 3, 108, 4, 0), [(0, 1), (0, 1)]))
def qb77_4 : QB := (17, [], (2, (17, .ifCond .eq 12, 3, 7, 5, 0), []))
def qb77_5 : QB := (20, [(20, .iload_n 3, 1, 3, 0, 0)], (2, (21, .ifCond .lt 8, 3, 7, 6, 0), []))
def qb77_6 : QB := (24, [(24, .iload_n 3, 1, 3, 0, 0), (25, .iconst 2, 1, 0, 0, 2)], (3, (26, .if_icmp .le 5, 3, 8, 7, 0), []))
def qb77_7 : QB := (29, [(29, .iconst (-1), 1, 0, 0, (-1))], (6, (30, .ireturn, 1, 0, 0, 0), []))
def qb77_8 : QB := (31, [(31, .aload_n 0, 1, 0, 0, 0)], (5, (32, .invokevirtual 171, 3, 104, 9, 0), [(14, 1), (0, 1)]))
def qb77_9 : QB := (35, [(35, .aload_n 0, 1, 0, 0, 0), (36, .getfield 72, 3, 10, 10, 0), (39, .getfield 174, 3, 4, 0, 0), (42, .iload_n 1, 1, 1, 0, 0), (43, .bipush 24, 2, 0, 0, 24), (45, .imul, 1, 0, 0, 0), (46, .iload_n 2, 1, 2, 0, 0), (47, .iconst 3, 1, 0, 0, 3), (48, .imul, 1, 0, 0, 0), (49, .iadd, 1, 0, 0, 0), (50, .iload_n 3, 1, 3, 0, 0), (51, .iadd, 1, 0, 0, 0), (52, .iaload, 1, 0, 0, 0)], (6, (53, .ireturn, 1, 0, 0, 0), []))
def qm77 : QM := (yX10_found, cX10_found, 4, (some .int), 20, 4, [qb77_0, qb77_1, qb77_2, qb77_3, qb77_4, qb77_5, qb77_6, qb77_7, qb77_8, qb77_9])
def qb78_0 : QB := (0, [(0, .iload_n 1, 1, 1, 0, 0)], (5, (1, .invokestatic 123, 3, 106, 1, 0), [(0, 1), (0, 1)]))
def qb78_1 : QB := (4, [], (2, (4, .ifCond .ne 6, 3, 3, 2, 0), []))
def qb78_2 : QB := (7, [(7, .ldc 177, 2, 0, 0, (-1000000))], (6, (9, .ireturn, 1, 0, 0, 0), []))
def qb78_3 : QB := (10, [(10, .aload_n 0, 1, 0, 0, 0)], (5, (11, .invokevirtual 171, 3, 104, 4, 0), [(14, 1), (0, 1)]))
def qb78_4 : QB := (14, [(14, .iload_n 2, 1, 2, 0, 0)], (4, (15, .tableswitch 83 0 4 #[33, 43, 53, 63, 73], 33, 10, 0, 0), [(0, 5), (1, 6), (2, 7), (3, 8), (4, 9)]))
def qb78_5 : QB := (48, [(48, .aload_n 0, 1, 0, 0, 0), (49, .getfield 72, 3, 10, 10, 0), (52, .getfield 178, 3, 3, 0, 0), (55, .iload_n 1, 1, 1, 0, 0), (56, .iaload, 1, 0, 0, 0)], (6, (57, .ireturn, 1, 0, 0, 0), []))
def qb78_6 : QB := (58, [(58, .aload_n 0, 1, 0, 0, 0), (59, .getfield 72, 3, 10, 10, 0), (62, .getfield 179, 3, 5, 0, 0), (65, .iload_n 1, 1, 1, 0, 0), (66, .iaload, 1, 0, 0, 0)], (6, (67, .ireturn, 1, 0, 0, 0), []))
def qb78_7 : QB := (68, [(68, .aload_n 0, 1, 0, 0, 0), (69, .getfield 72, 3, 10, 10, 0), (72, .getfield 182, 3, 6, 0, 0), (75, .iload_n 1, 1, 1, 0, 0), (76, .iaload, 1, 0, 0, 0)], (6, (77, .ireturn, 1, 0, 0, 0), []))
def qb78_8 : QB := (78, [(78, .aload_n 0, 1, 0, 0, 0), (79, .getfield 72, 3, 10, 10, 0), (82, .getfield 185, 3, 7, 0, 0), (85, .iload_n 1, 1, 1, 0, 0), (86, .iaload, 1, 0, 0, 0)], (6, (87, .ireturn, 1, 0, 0, 0), []))
def qb78_9 : QB := (88, [(88, .aload_n 0, 1, 0, 0, 0), (89, .getfield 72, 3, 10, 10, 0), (92, .getfield 188, 3, 8, 0, 0), (95, .iload_n 1, 1, 1, 0, 0), (96, .iaload, 1, 0, 0, 0)], (6, (97, .ireturn, 1, 0, 0, 0), []))
def qb78_10 : QB := (98, [(98, .ldc 177, 2, 0, 0, (-1000000))], (6, (100, .ireturn, 1, 0, 0, 0), []))
def qm78 : QM := (yX10_hourIs, cX10_hourIs, 3, (some .int), 20, 3, [qb78_0, qb78_1, qb78_2, qb78_3, qb78_4, qb78_5, qb78_6, qb78_7, qb78_8, qb78_9, qb78_10])
def qb79_0 : QB := (0, [(0, .iload_n 1, 1, 1, 0, 0)], (5, (1, .invokestatic 127, 3, 107, 1, 0), [(0, 1), (0, 1)]))
def qb79_1 : QB := (4, [], (2, (4, .ifCond .ne 6, 3, 3, 2, 0), []))
def qb79_2 : QB := (7, [(7, .ldc 177, 2, 0, 0, (-1000000))], (6, (9, .ireturn, 1, 0, 0, 0), []))
def qb79_3 : QB := (10, [(10, .aload_n 0, 1, 0, 0, 0)], (5, (11, .invokevirtual 171, 3, 104, 4, 0), [(14, 1), (0, 1)]))
def qb79_4 : QB := (14, [(14, .iload_n 2, 1, 2, 0, 0)], (4, (15, .tableswitch 82 0 3 #[29, 38, 54, 70], 29, 13, 0, 0), [(0, 5), (1, 7), (2, 9), (3, 11)]))
def qb79_5 : QB := (44, [(44, .aload_n 0, 1, 0, 0, 0), (45, .getfield 72, 3, 10, 10, 0), (48, .iload_n 1, 1, 1, 0, 0)], (5, (49, .invokevirtual 191, 3, 6, 6, 0), [(4, 2), (0, 2)]))
def qb79_6 : QB := (52, [], (6, (52, .ireturn, 1, 0, 0, 0), []))
def qb79_7 : QB := (53, [(53, .aload_n 0, 1, 0, 0, 0), (54, .getfield 72, 3, 10, 10, 0), (57, .iload_n 1, 1, 1, 0, 0), (58, .aload_n 0, 1, 0, 0, 0), (59, .getfield 72, 3, 10, 10, 0), (62, .getfield 179, 3, 5, 0, 0)], (5, (65, .invokevirtual 194, 3, 7, 8, 0), [(4, 3), (0, 5)]))
def qb79_8 : QB := (68, [], (6, (68, .ireturn, 1, 0, 0, 0), []))
def qb79_9 : QB := (69, [(69, .aload_n 0, 1, 0, 0, 0), (70, .getfield 72, 3, 10, 10, 0), (73, .iload_n 1, 1, 1, 0, 0), (74, .aload_n 0, 1, 0, 0, 0), (75, .getfield 72, 3, 10, 10, 0), (78, .getfield 182, 3, 6, 0, 0)], (5, (81, .invokevirtual 194, 3, 7, 10, 0), [(4, 3), (0, 5)]))
def qb79_10 : QB := (84, [], (6, (84, .ireturn, 1, 0, 0, 0), []))
def qb79_11 : QB := (85, [(85, .aload_n 0, 1, 0, 0, 0), (86, .getfield 12, 3, 0, 10, 0), (89, .iconst 0, 1, 0, 0, 0), (90, .bipush 24, 2, 0, 0, 24), (92, .iload_n 1, 1, 1, 0, 0)], (5, (93, .invokevirtual 198, 3, 16, 12, 0), [(6, 4), (0, 6)]))
def qb79_12 : QB := (96, [], (6, (96, .ireturn, 1, 0, 0, 0), []))
def qb79_13 : QB := (97, [(97, .ldc 177, 2, 0, 0, (-1000000))], (6, (99, .ireturn, 1, 0, 0, 0), []))
def qm79 : QM := (yX10_value, cX10_value, 3, (some .int), 20, 3, [qb79_0, qb79_1, qb79_2, qb79_3, qb79_4, qb79_5, qb79_6, qb79_7, qb79_8, qb79_9, qb79_10, qb79_11, qb79_12, qb79_13])
def qb80_0 : QB := (0, [(0, .aload_n 0, 1, 0, 0, 0), (1, .iload_n 1, 1, 1, 0, 0)], (5, (2, .invokevirtual 202, 3, 105, 1, 0), [(14, 2), (0, 2)]))
def qb80_1 : QB := (5, [], (2, (5, .ifCond .eq 29, 3, 4, 2, 0), []))
def qb80_2 : QB := (8, [(8, .iload_n 2, 1, 2, 0, 0), (9, .iconst (-1), 1, 0, 0, (-1))], (3, (10, .if_icmp .lt 24, 3, 4, 3, 0), []))
def qb80_3 : QB := (13, [(13, .iload_n 2, 1, 2, 0, 0), (14, .aload_n 0, 1, 0, 0, 0), (15, .getfield 12, 3, 0, 10, 0), (18, .getfield 164, 3, 3, 2, 0), (21, .aload_n 0, 1, 0, 0, 0), (22, .getfield 12, 3, 0, 10, 0), (25, .getfield 100, 3, 0, 2, 0), (28, .iload_n 1, 1, 1, 0, 0), (29, .iaload, 1, 0, 0, 0), (30, .iaload, 1, 0, 0, 0)], (3, (31, .if_icmp .lt 6, 3, 5, 4, 0), []))
def qb80_4 : QB := (34, [(34, .ldc 177, 2, 0, 0, (-1000000))], (6, (36, .ireturn, 1, 0, 0, 0), []))
def qb80_5 : QB := (37, [(37, .aload_n 0, 1, 0, 0, 0)], (5, (38, .invokevirtual 171, 3, 104, 6, 0), [(14, 1), (0, 1)]))
def qb80_6 : QB := (41, [(41, .aload_n 0, 1, 0, 0, 0), (42, .getfield 94, 3, 14, 10, 0), (45, .iload_n 1, 1, 1, 0, 0), (46, .aload_n 0, 1, 0, 0, 0), (47, .getfield 72, 3, 10, 10, 0)], (5, (50, .invokevirtual 205, 3, 31, 7, 0), [(8, 3), (0, 7)]))
def qb80_7 : QB := (53, [(53, .iload_n 2, 1, 2, 0, 0), (54, .iconst (-1), 1, 0, 0, (-1))], (3, (55, .if_icmp .ne 13, 3, 9, 8, 0), []))
def qb80_8 : QB := (58, [(58, .aload_n 0, 1, 0, 0, 0), (59, .getfield 94, 3, 14, 10, 0), (62, .getfield 209, 3, 5, 4, 0)], (1, (65, .goto 12, 3, 10, 0, 0), []))
def qb80_9 : QB := (68, [(68, .aload_n 0, 1, 0, 0, 0), (69, .getfield 94, 3, 14, 10, 0), (72, .getfield 212, 3, 4, 4, 0), (75, .iload_n 2, 1, 2, 0, 0), (76, .iaload, 1, 0, 0, 0)], (0, (77, .nop, 0, 10, 0, 0), []))
def qb80_10 : QB := (77, [], (6, (77, .ireturn, 1, 0, 0, 0), []))
def qm80 : QM := (yX10_bestOrder, cX10_bestOrder, 3, (some .int), 20, 3, [qb80_0, qb80_1, qb80_2, qb80_3, qb80_4, qb80_5, qb80_6, qb80_7, qb80_8, qb80_9, qb80_10])
def qb81_0 : QB := (0, [(0, .aload_n 0, 1, 0, 0, 0), (1, .iload_n 1, 1, 1, 0, 0)], (5, (2, .invokevirtual 202, 3, 105, 1, 0), [(14, 2), (0, 2)]))
def qb81_1 : QB := (5, [], (2, (5, .ifCond .ne 6, 3, 3, 2, 0), []))
def qb81_2 : QB := (8, [(8, .ldc 177, 2, 0, 0, (-1000000))], (6, (10, .ireturn, 1, 0, 0, 0), []))
def qb81_3 : QB := (11, [(11, .aload_n 0, 1, 0, 0, 0)], (5, (12, .invokevirtual 171, 3, 104, 4, 0), [(14, 1), (0, 1)]))
def qb81_4 : QB := (15, [(15, .aload_n 0, 1, 0, 0, 0), (16, .getfield 87, 3, 13, 10, 0), (19, .iload_n 1, 1, 1, 0, 0)], (5, (20, .invokevirtual 215, 3, 58, 5, 0), [(12, 2), (0, 3)]))
def qb81_5 : QB := (23, [], (6, (23, .ireturn, 1, 0, 0, 0), []))
def qm81 : QM := (yX10_price, cX10_price, 2, (some .int), 20, 2, [qb81_0, qb81_1, qb81_2, qb81_3, qb81_4, qb81_5])
def qb82_0 : QB := (0, [(0, .aload_n 0, 1, 0, 0, 0), (1, .iload_n 1, 1, 1, 0, 0)], (5, (2, .invokevirtual 202, 3, 105, 1, 0), [(14, 2), (0, 2)]))
def qb82_1 : QB := (5, [], (2, (5, .ifCond .ne 6, 3, 3, 2, 0), []))
def qb82_2 : QB := (8, [(8, .ldc 177, 2, 0, 0, (-1000000))], (6, (10, .ireturn, 1, 0, 0, 0), []))
def qb82_3 : QB := (11, [(11, .iload_n 1, 1, 1, 0, 0)], (2, (12, .ifCond .ne 5, 3, 5, 4, 0), []))
def qb82_4 : QB := (15, [(15, .iconst 0, 1, 0, 0, 0)], (6, (16, .ireturn, 1, 0, 0, 0), []))
def qb82_5 : QB := (17, [(17, .aload_n 0, 1, 0, 0, 0)], (5, (18, .invokevirtual 171, 3, 104, 6, 0), [(14, 1), (0, 1)]))
def qb82_6 : QB := (21, [(21, .aload_n 0, 1, 0, 0, 0), (22, .getfield 87, 3, 13, 10, 0), (25, .iload_n 1, 1, 1, 0, 0)], (5, (26, .invokevirtual 218, 3, 59, 7, 0), [(12, 2), (0, 2)]))
def qb82_7 : QB := (29, [], (6, (29, .ireturn, 1, 0, 0, 0), []))
def qm82 : QM := (yX10_neighbour, cX10_neighbour, 2, (some .int), 20, 2, [qb82_0, qb82_1, qb82_2, qb82_3, qb82_4, qb82_5, qb82_6, qb82_7])
def qb83_0 : QB := (0, [(0, .aload_n 0, 1, 0, 0, 0), (1, .iload_n 1, 1, 1, 0, 0)], (5, (2, .invokevirtual 202, 3, 105, 1, 0), [(14, 2), (0, 2)]))
def qb83_1 : QB := (5, [], (2, (5, .ifCond .eq 32, 3, 5, 2, 0), []))
def qb83_2 : QB := (8, [(8, .aload_n 0, 1, 0, 0, 0), (9, .iload_n 2, 1, 2, 0, 0)], (5, (10, .invokevirtual 202, 3, 105, 3, 0), [(14, 2), (0, 2)]))
def qb83_3 : QB := (13, [], (2, (13, .ifCond .eq 24, 3, 5, 4, 0), []))
def qb83_4 : QB := (16, [(16, .aload_n 0, 1, 0, 0, 0), (17, .getfield 12, 3, 0, 10, 0), (20, .getfield 100, 3, 0, 2, 0), (23, .iload_n 1, 1, 1, 0, 0), (24, .iaload, 1, 0, 0, 0), (25, .aload_n 0, 1, 0, 0, 0), (26, .getfield 12, 3, 0, 10, 0), (29, .getfield 100, 3, 0, 2, 0), (32, .iload_n 2, 1, 2, 0, 0), (33, .iaload, 1, 0, 0, 0)], (3, (34, .if_icmp .ne 6, 3, 6, 5, 0), []))
def qb83_5 : QB := (37, [(37, .ldc 177, 2, 0, 0, (-1000000))], (6, (39, .ireturn, 1, 0, 0, 0), []))
def qb83_6 : QB := (40, [(40, .iload_n 3, 1, 3, 0, 0)], (2, (41, .ifCond .eq 11, 3, 9, 7, 0), []))
def qb83_7 : QB := (44, [(44, .iload_n 3, 1, 3, 0, 0), (45, .iconst 1, 1, 0, 0, 1)], (3, (46, .if_icmp .eq 6, 3, 9, 8, 0), []))
def qb83_8 : QB := (49, [(49, .ldc 177, 2, 0, 0, (-1000000))], (6, (51, .ireturn, 1, 0, 0, 0), []))
def qb83_9 : QB := (52, [(52, .aload_n 0, 1, 0, 0, 0)], (5, (53, .invokevirtual 171, 3, 104, 10, 0), [(14, 1), (0, 1)]))
def qb83_10 : QB := (56, [(56, .aload_n 0, 1, 0, 0, 0), (57, .getfield 87, 3, 13, 10, 0), (60, .iload_n 1, 1, 1, 0, 0), (61, .iload_n 2, 1, 2, 0, 0), (62, .aload_n 0, 1, 0, 0, 0), (63, .getfield 12, 3, 0, 10, 0), (66, .getfield 100, 3, 0, 2, 0), (69, .iload_n 3, 1, 3, 0, 0)], (2, (70, .ifCond .ne 7, 3, 12, 11, 0), []))
def qb83_11 : QB := (73, [(73, .iload_n 1, 1, 1, 0, 0)], (1, (74, .goto 4, 3, 13, 0, 0), []))
def qb83_12 : QB := (77, [(77, .iload_n 2, 1, 2, 0, 0)], (0, (78, .nop, 0, 13, 0, 0), []))
def qb83_13 : QB := (78, [(78, .iaload, 1, 0, 0, 0)], (5, (79, .invokevirtual 221, 3, 60, 14, 0), [(12, 4), (0, 4)]))
def qb83_14 : QB := (82, [], (6, (82, .ireturn, 1, 0, 0, 0), []))
def qm83 : QM := (yX10_gain, cX10_gain, 4, (some .int), 20, 4, [qb83_0, qb83_1, qb83_2, qb83_3, qb83_4, qb83_5, qb83_6, qb83_7, qb83_8, qb83_9, qb83_10, qb83_11, qb83_12, qb83_13, qb83_14])
def qb84_0 : QB := (0, [(0, .iload_n 1, 1, 1, 0, 0)], (5, (1, .invokestatic 123, 3, 106, 1, 0), [(0, 1), (0, 1)]))
def qb84_1 : QB := (4, [], (2, (4, .ifCond .eq 15, 3, 5, 2, 0), []))
def qb84_2 : QB := (7, [(7, .iload_n 2, 1, 2, 0, 0)], (5, (8, .invokestatic 123, 3, 106, 3, 0), [(0, 1), (0, 1)]))
def qb84_3 : QB := (11, [], (2, (11, .ifCond .eq 8, 3, 5, 4, 0), []))
def qb84_4 : QB := (14, [(14, .iload_n 1, 1, 1, 0, 0), (15, .iload_n 2, 1, 2, 0, 0)], (3, (16, .if_icmp .ne 5, 3, 6, 5, 0), []))
def qb84_5 : QB := (19, [(19, .iconst 0, 1, 0, 0, 0)], (8, (20, .ireturn, 1, 0, 0, 0), []))
def qb84_6 : QB := (21, [(21, .aload_n 0, 1, 0, 0, 0), (22, .getfield 12, 3, 0, 10, 0), (25, .iload_n 1, 1, 1, 0, 0), (26, .iload_n 2, 1, 2, 0, 0)], (5, (27, .invokevirtual 224, 3, 17, 7, 0), [(6, 3), (0, 4)]))
def qb84_7 : QB := (30, [(30, .aload_n 0, 1, 0, 0, 0)], (5, (31, .invokevirtual 130, 3, 103, 8, 0), [(14, 1), (0, 1)]))
def qb84_8 : QB := (34, [(34, .iconst 1, 1, 0, 0, 1)], (8, (35, .ireturn, 1, 0, 0, 0), []))
def qm84 : QM := (yX10_swap, cX10_swap, 3, (some .boolean), 20, 3, [qb84_0, qb84_1, qb84_2, qb84_3, qb84_4, qb84_5, qb84_6, qb84_7, qb84_8])
def qb85_0 : QB := (0, [(0, .iload_n 1, 1, 1, 0, 0)], (2, (1, .ifCond .lt 8, 3, 2, 1, 0), []))
def qb85_1 : QB := (4, [(4, .iload_n 1, 1, 1, 0, 0), (5, .iconst 2, 1, 0, 0, 2)], (3, (6, .if_icmp .le 5, 3, 3, 2, 0), []))
def qb85_2 : QB := (9, [(9, .iconst (-1), 1, 0, 0, (-1))], (6, (10, .ireturn, 1, 0, 0, 0), []))
def qb85_3 : QB := (11, [(11, .aload_n 0, 1, 0, 0, 0)], (5, (12, .invokevirtual 171, 3, 104, 4, 0), [(14, 1), (0, 1)]))
def qb85_4 : QB := (15, [(15, .aload_n 0, 1, 0, 0, 0), (16, .getfield 87, 3, 13, 10, 0)], (5, (19, .invokevirtual 228, 3, 64, 5, 0), [(12, 1), (0, 3)]))
def qb85_5 : QB := (22, [], (2, (22, .ifCond .ne 6, 3, 7, 6, 0), []))
def qb85_6 : QB := (25, [(25, .bipush (-2), 2, 0, 0, (-2))], (6, (27, .ireturn, 1, 0, 0, 0), []))
def qb85_7 : QB := (28, [(28, .iload_n 1, 1, 1, 0, 0), (29, .iconst 2, 1, 0, 0, 2)], (3, (30, .if_icmp .ne 11, 3, 9, 8, 0), []))
def qb85_8 : QB := (33, [(33, .aload_n 0, 1, 0, 0, 0), (34, .getfield 87, 3, 13, 10, 0), (37, .getfield 231, 3, 6, 8, 0)], (6, (40, .ireturn, 1, 0, 0, 0), []))
def qb85_9 : QB := (41, [(41, .iload_n 1, 1, 1, 0, 0)], (2, (42, .ifCond .ne 13, 3, 11, 10, 0), []))
def qb85_10 : QB := (45, [(45, .aload_n 0, 1, 0, 0, 0), (46, .getfield 87, 3, 13, 10, 0), (49, .getfield 234, 3, 4, 8, 0)], (1, (52, .goto 10, 3, 12, 0, 0), []))
def qb85_11 : QB := (55, [(55, .aload_n 0, 1, 0, 0, 0), (56, .getfield 87, 3, 13, 10, 0), (59, .getfield 237, 3, 5, 8, 0)], (0, (62, .nop, 0, 12, 0, 0), []))
def qb85_12 : QB := (62, [], (6, (62, .ireturn, 1, 0, 0, 0), []))
def qm85 : QM := (yX10_bestSwap, cX10_bestSwap, 2, (some .int), 20, 2, [qb85_0, qb85_1, qb85_2, qb85_3, qb85_4, qb85_5, qb85_6, qb85_7, qb85_8, qb85_9, qb85_10, qb85_11, qb85_12])
def qb86_0 : QB := (0, [(0, .iconst 0, 1, 0, 0, 0), (1, .istore_n 1, 1, 1, 0, 0)], (0, (2, .nop, 0, 1, 0, 0), []))
def qb86_1 : QB := (2, [(2, .iload_n 1, 1, 1, 0, 0), (3, .bipush 10, 2, 0, 0, 10)], (3, (5, .if_icmp .ge 50, 3, 9, 2, 0), []))
def qb86_2 : QB := (8, [(8, .aload_n 0, 1, 0, 0, 0)], (5, (9, .invokevirtual 171, 3, 104, 3, 0), [(14, 1), (0, 1)]))
def qb86_3 : QB := (12, [(12, .aload_n 0, 1, 0, 0, 0), (13, .getfield 87, 3, 13, 10, 0)], (5, (16, .invokevirtual 228, 3, 64, 4, 0), [(12, 1), (0, 3)]))
def qb86_4 : QB := (19, [], (2, (19, .ifCond .ne 5, 3, 6, 5, 0), []))
def qb86_5 : QB := (22, [(22, .iload_n 1, 1, 1, 0, 0)], (6, (23, .ireturn, 1, 0, 0, 0), []))
def qb86_6 : QB := (24, [(24, .aload_n 0, 1, 0, 0, 0), (25, .getfield 12, 3, 0, 10, 0), (28, .aload_n 0, 1, 0, 0, 0), (29, .getfield 87, 3, 13, 10, 0), (32, .getfield 234, 3, 4, 8, 0), (35, .aload_n 0, 1, 0, 0, 0), (36, .getfield 87, 3, 13, 10, 0), (39, .getfield 237, 3, 5, 8, 0)], (5, (42, .invokevirtual 224, 3, 17, 7, 0), [(6, 3), (0, 4)]))
def qb86_7 : QB := (45, [(45, .aload_n 0, 1, 0, 0, 0)], (5, (46, .invokevirtual 130, 3, 103, 8, 0), [(14, 1), (0, 1)]))
def qb86_8 : QB := (49, [(49, .iinc 1 1, 3, 1, 0, 1)], (1, (52, .goto (-50), 3, 1, 0, 0), []))
def qb86_9 : QB := (55, [(55, .iload_n 1, 1, 1, 0, 0)], (6, (56, .ireturn, 1, 0, 0, 0), []))
def qm86 : QM := (yX10_tillNone, cX10_tillNone, 2, (some .int), 20, 1, [qb86_0, qb86_1, qb86_2, qb86_3, qb86_4, qb86_5, qb86_6, qb86_7, qb86_8, qb86_9])
def qb87_0 : QB := (0, [(0, .iload_n 1, 1, 1, 0, 0)], (5, (1, .invokestatic 150, 3, 109, 1, 0), [(0, 1), (0, 1)]))
def qb87_1 : QB := (4, [], (2, (4, .ifCond .ne 5, 3, 3, 2, 0), []))
def qb87_2 : QB := (7, [(7, .iconst (-1), 1, 0, 0, (-1))], (6, (8, .ireturn, 1, 0, 0, 0), []))
def qb87_3 : QB := (9, [(9, .aload_n 0, 1, 0, 0, 0), (10, .getfield 76, 3, 11, 10, 0)], (5, (13, .invokevirtual 240, 3, 0, 4, 0), [(4, 1), (0, 1)]))
def qb87_4 : QB := (16, [(16, .aload_n 0, 1, 0, 0, 0), (17, .getfield 76, 3, 11, 10, 0), (20, .iconst 0, 1, 0, 0, 0), (21, .aload_n 0, 1, 0, 0, 0), (22, .getfield 33, 3, 4, 10, 0), (25, .iload_n 1, 1, 1, 0, 0), (26, .aaload, 1, 0, 0, 0)], (5, (27, .invokevirtual 243, 3, 2, 5, 0), [(4, 3), (0, 4)]))
def qb87_5 : QB := (30, [(30, .iconst 0, 1, 0, 0, 0), (31, .istore_n 2, 1, 2, 0, 0), (32, .iconst 0, 1, 0, 0, 0), (33, .istore_n 3, 1, 3, 0, 0)], (0, (34, .nop, 0, 6, 0, 0), []))
def qb87_6 : QB := (34, [(34, .iload_n 3, 1, 3, 0, 0), (35, .bipush 24, 2, 0, 0, 24)], (3, (37, .if_icmp .ge 21, 3, 8, 7, 0), []))
def qb87_7 : QB := (40, [(40, .iload_n 2, 1, 2, 0, 0), (41, .aload_n 0, 1, 0, 0, 0), (42, .getfield 76, 3, 11, 10, 0), (45, .getfield 182, 3, 6, 0, 0), (48, .iload_n 3, 1, 3, 0, 0), (49, .iaload, 1, 0, 0, 0), (50, .iadd, 1, 0, 0, 0), (51, .istore_n 2, 1, 2, 0, 0), (52, .iinc 3 1, 3, 3, 0, 1)], (1, (55, .goto (-21), 3, 6, 0, 0), []))
def qb87_8 : QB := (58, [(58, .iload_n 2, 1, 2, 0, 0)], (6, (59, .ireturn, 1, 0, 0, 0), []))
def qm87 : QM := (yX10_finesBy, cX10_finesBy, 4, (some .int), 20, 2, [qb87_0, qb87_1, qb87_2, qb87_3, qb87_4, qb87_5, qb87_6, qb87_7, qb87_8])
def qb88_0 : QB := (0, [(0, .iload_n 1, 1, 1, 0, 0)], (5, (1, .invokestatic 127, 3, 107, 1, 0), [(0, 1), (0, 1)]))
def qb88_1 : QB := (4, [], (2, (4, .ifCond .eq 15, 3, 5, 2, 0), []))
def qb88_2 : QB := (7, [(7, .iload_n 2, 1, 2, 0, 0)], (5, (8, .invokestatic 127, 3, 107, 3, 0), [(0, 1), (0, 1)]))
def qb88_3 : QB := (11, [], (2, (11, .ifCond .eq 8, 3, 5, 4, 0), []))
def qb88_4 : QB := (14, [(14, .iload_n 1, 1, 1, 0, 0), (15, .iload_n 2, 1, 2, 0, 0)], (3, (16, .if_icmp .ne 5, 3, 6, 5, 0), []))
def qb88_5 : QB := (19, [(19, .iconst (-1), 1, 0, 0, (-1))], (6, (20, .ireturn, 1, 0, 0, 0), []))
def qb88_6 : QB := (21, [(21, .iconst 0, 1, 0, 0, 0), (22, .istore_n 3, 1, 3, 0, 0), (23, .iconst 0, 1, 0, 0, 0), (24, .istore 4, 2, 4, 0, 0)], (0, (26, .nop, 0, 7, 0, 0), []))
def qb88_7 : QB := (26, [(26, .iload 4, 2, 4, 0, 0), (28, .bipush 24, 2, 0, 0, 24)], (3, (30, .if_icmp .ge 65, 3, 14, 8, 0), []))
def qb88_8 : QB := (33, [(33, .aload_n 0, 1, 0, 0, 0), (34, .getfield 12, 3, 0, 10, 0), (37, .getfield 100, 3, 0, 2, 0), (40, .iload 4, 2, 4, 0, 0), (42, .iaload, 1, 0, 0, 0), (43, .istore 5, 2, 5, 0, 0), (45, .aload_n 0, 1, 0, 0, 0), (46, .getfield 12, 3, 0, 10, 0), (49, .getfield 100, 3, 0, 2, 0), (52, .iload 4, 2, 4, 0, 0), (54, .iconst 1, 1, 0, 0, 1), (55, .iadd, 1, 0, 0, 0), (56, .bipush 24, 2, 0, 0, 24), (58, .irem, 1, 0, 0, 0), (59, .iaload, 1, 0, 0, 0), (60, .istore 6, 2, 6, 0, 0), (62, .iload 5, 2, 5, 0, 0), (64, .iload_n 1, 1, 1, 0, 0)], (3, (65, .if_icmp .ne 9, 3, 10, 9, 0), []))
def qb88_9 : QB := (68, [(68, .iload 6, 2, 6, 0, 0), (70, .iload_n 2, 1, 2, 0, 0)], (3, (71, .if_icmp .eq 15, 3, 12, 10, 0), []))
def qb88_10 : QB := (74, [(74, .iload 5, 2, 5, 0, 0), (76, .iload_n 2, 1, 2, 0, 0)], (3, (77, .if_icmp .ne 12, 3, 13, 11, 0), []))
def qb88_11 : QB := (80, [(80, .iload 6, 2, 6, 0, 0), (82, .iload_n 1, 1, 1, 0, 0)], (3, (83, .if_icmp .ne 6, 3, 13, 12, 0), []))
def qb88_12 : QB := (86, [(86, .iinc 3 1, 3, 3, 0, 1)], (0, (89, .nop, 0, 13, 0, 0), []))
def qb88_13 : QB := (89, [(89, .iinc 4 1, 3, 4, 0, 1)], (1, (92, .goto (-66), 3, 7, 0, 0), []))
def qb88_14 : QB := (95, [(95, .iload_n 3, 1, 3, 0, 0)], (6, (96, .ireturn, 1, 0, 0, 0), []))
def qm88 : QM := (yX10_touching, cX10_touching, 7, (some .int), 20, 3, [qb88_0, qb88_1, qb88_2, qb88_3, qb88_4, qb88_5, qb88_6, qb88_7, qb88_8, qb88_9, qb88_10, qb88_11, qb88_12, qb88_13, qb88_14])
def qb89_0 : QB := (0, [(0, .iload_n 1, 1, 1, 0, 0)], (5, (1, .invokestatic 127, 3, 107, 1, 0), [(0, 1), (0, 1)]))
def qb89_1 : QB := (4, [], (2, (4, .ifCond .eq 14, 3, 4, 2, 0), []))
def qb89_2 : QB := (7, [(7, .iload_n 2, 1, 2, 0, 0)], (2, (8, .ifCond .lt 10, 3, 4, 3, 0), []))
def qb89_3 : QB := (11, [(11, .iload_n 2, 1, 2, 0, 0), (12, .sipush 256, 3, 0, 0, 256)], (3, (15, .if_icmp .lt 5, 3, 5, 4, 0), []))
def qb89_4 : QB := (18, [(18, .iconst 0, 1, 0, 0, 0)], (8, (19, .ireturn, 1, 0, 0, 0), []))
def qb89_5 : QB := (20, [(20, .aload_n 0, 1, 0, 0, 0), (21, .getfield 54, 3, 7, 10, 0), (24, .iload_n 1, 1, 1, 0, 0), (25, .iload_n 2, 1, 2, 0, 0), (26, .iastore, 1, 0, 0, 0), (27, .iconst 1, 1, 0, 0, 1)], (8, (28, .ireturn, 1, 0, 0, 0), []))
def qm89 : QM := (yX10_searches, cX10_searches, 3, (some .boolean), 20, 3, [qb89_0, qb89_1, qb89_2, qb89_3, qb89_4, qb89_5])
def qb90_0 : QB := (0, [(0, .iload_n 1, 1, 1, 0, 0), (1, .iload_n 2, 1, 2, 0, 0)], (5, (2, .invokestatic 247, 3, 111, 1, 0), [(0, 2), (0, 2)]))
def qb90_1 : QB := (5, [], (2, (5, .ifCond .eq 14, 3, 4, 2, 0), []))
def qb90_2 : QB := (8, [(8, .iload_n 3, 1, 3, 0, 0)], (2, (9, .ifCond .lt 10, 3, 4, 3, 0), []))
def qb90_3 : QB := (12, [(12, .iload_n 3, 1, 3, 0, 0), (13, .sipush 4096, 3, 0, 0, 4096)], (3, (16, .if_icmp .lt 6, 3, 5, 4, 0), []))
def qb90_4 : QB := (19, [(19, .bipush (-3), 2, 0, 0, (-3))], (6, (21, .ireturn, 1, 0, 0, 0), []))
def qb90_5 : QB := (22, [(22, .iload 4, 2, 4, 0, 0), (24, .iconst (-1), 1, 0, 0, (-1))], (3, (25, .if_icmp .eq 18, 3, 9, 6, 0), []))
def qb90_6 : QB := (28, [(28, .iload 4, 2, 4, 0, 0), (30, .iload_n 1, 1, 1, 0, 0)], (3, (31, .if_icmp .lt 9, 3, 8, 7, 0), []))
def qb90_7 : QB := (34, [(34, .iload 4, 2, 4, 0, 0), (36, .iload_n 2, 1, 2, 0, 0)], (3, (37, .if_icmp .lt 6, 3, 9, 8, 0), []))
def qb90_8 : QB := (40, [(40, .bipush (-3), 2, 0, 0, (-3))], (6, (42, .ireturn, 1, 0, 0, 0), []))
def qb90_9 : QB := (43, [(43, .aload_n 0, 1, 0, 0, 0), (44, .getfield 106, 3, 15, 10, 0), (47, .iload_n 1, 1, 1, 0, 0), (48, .iload_n 2, 1, 2, 0, 0), (49, .iload_n 3, 1, 3, 0, 0)], (5, (50, .invokevirtual 251, 3, 8, 10, 0), [(5, 4), (0, 6)]))
def qb90_10 : QB := (53, [], (2, (53, .ifCond .ne 6, 3, 12, 11, 0), []))
def qb90_11 : QB := (56, [(56, .bipush (-2), 2, 0, 0, (-2))], (6, (58, .ireturn, 1, 0, 0, 0), []))
def qb90_12 : QB := (59, [(59, .iload 4, 2, 4, 0, 0), (61, .iconst (-1), 1, 0, 0, (-1))], (3, (62, .if_icmp .ne 13, 3, 14, 13, 0), []))
def qb90_13 : QB := (65, [(65, .aload_n 0, 1, 0, 0, 0), (66, .getfield 106, 3, 15, 10, 0), (69, .getfield 254, 3, 4, 1, 0)], (1, (72, .goto 13, 3, 15, 0, 0), []))
def qb90_14 : QB := (75, [(75, .aload_n 0, 1, 0, 0, 0), (76, .getfield 106, 3, 15, 10, 0), (79, .getfield 257, 3, 3, 1, 0), (82, .iload 4, 2, 4, 0, 0), (84, .iaload, 1, 0, 0, 0)], (0, (85, .nop, 0, 15, 0, 0), []))
def qb90_15 : QB := (85, [], (6, (85, .ireturn, 1, 0, 0, 0), []))
def qm90 : QM := (yX10_hidden, cX10_hidden, 5, (some .int), 20, 5, [qb90_0, qb90_1, qb90_2, qb90_3, qb90_4, qb90_5, qb90_6, qb90_7, qb90_8, qb90_9, qb90_10, qb90_11, qb90_12, qb90_13, qb90_14, qb90_15])
def qb91_0 : QB := (0, [(0, .iload_n 1, 1, 1, 0, 0)], (5, (1, .invokestatic 123, 3, 106, 1, 0), [(0, 1), (0, 1)]))
def qb91_1 : QB := (4, [], (2, (4, .ifCond .eq 12, 3, 4, 2, 0), []))
def qb91_2 : QB := (7, [(7, .iload_n 2, 1, 2, 0, 0)], (2, (8, .ifCond .lt 8, 3, 4, 3, 0), []))
def qb91_3 : QB := (11, [(11, .iload_n 2, 1, 2, 0, 0), (12, .iconst 2, 1, 0, 0, 2)], (3, (13, .if_icmp .le 5, 3, 5, 4, 0), []))
def qb91_4 : QB := (16, [(16, .iconst 0, 1, 0, 0, 0)], (8, (17, .ireturn, 1, 0, 0, 0), []))
def qb91_5 : QB := (18, [(18, .aload_n 0, 1, 0, 0, 0), (19, .getfield 57, 3, 8, 10, 0), (22, .iload_n 1, 1, 1, 0, 0), (23, .iload_n 2, 1, 2, 0, 0), (24, .iastore, 1, 0, 0, 0), (25, .iconst 1, 1, 0, 0, 1)], (8, (26, .ireturn, 1, 0, 0, 0), []))
def qm91 : QM := (yX10_says, cX10_says, 3, (some .boolean), 20, 3, [qb91_0, qb91_1, qb91_2, qb91_3, qb91_4, qb91_5])
def qb92_0 : QB := (0, [(0, .iload_n 1, 1, 1, 0, 0)], (2, (1, .ifCond .lt 9, 3, 2, 1, 0), []))
def qb92_1 : QB := (4, [(4, .iload_n 1, 1, 1, 0, 0), (5, .bipush 12, 2, 0, 0, 12)], (3, (7, .if_icmp .le 5, 3, 3, 2, 0), []))
def qb92_2 : QB := (10, [(10, .iconst (-1), 1, 0, 0, (-1))], (6, (11, .ireturn, 1, 0, 0, 0), []))
def qb92_3 : QB := (12, [(12, .aload_n 0, 1, 0, 0, 0), (13, .getfield 113, 3, 16, 10, 0), (16, .iload_n 1, 1, 1, 0, 0)], (5, (17, .invokevirtual 258, 3, 67, 4, 0), [(13, 2), (0, 5)]))
def qb92_4 : QB := (20, [], (6, (20, .ireturn, 1, 0, 0, 0), []))
def qm92 : QM := (yX10_holds, cX10_holds, 2, (some .int), 20, 2, [qb92_0, qb92_1, qb92_2, qb92_3, qb92_4])
def qb93_0 : QB := (0, [(0, .iload_n 1, 1, 1, 0, 0)], (2, (1, .ifCond .lt 9, 3, 2, 1, 0), []))
def qb93_1 : QB := (4, [(4, .iload_n 1, 1, 1, 0, 0), (5, .bipush 12, 2, 0, 0, 12)], (3, (7, .if_icmp .le 5, 3, 3, 2, 0), []))
def qb93_2 : QB := (10, [(10, .iconst (-1), 1, 0, 0, (-1))], (6, (11, .ireturn, 1, 0, 0, 0), []))
def qb93_3 : QB := (12, [(12, .aload_n 0, 1, 0, 0, 0), (13, .getfield 113, 3, 16, 10, 0), (16, .aload_n 0, 1, 0, 0, 0), (17, .getfield 113, 3, 16, 10, 0), (20, .iload_n 1, 1, 1, 0, 0)], (5, (21, .invokevirtual 258, 3, 67, 4, 0), [(13, 2), (0, 5)]))
def qb93_4 : QB := (24, [], (5, (24, .invokevirtual 261, 3, 70, 5, 0), [(13, 2), (0, 5)]))
def qb93_5 : QB := (27, [], (6, (27, .ireturn, 1, 0, 0, 0), []))
def qm93 : QM := (yX10_guilty, cX10_guilty, 2, (some .int), 20, 2, [qb93_0, qb93_1, qb93_2, qb93_3, qb93_4, qb93_5])
def qb94_0 : QB := (0, [(0, .iload_n 1, 1, 1, 0, 0), (1, .iload_n 2, 1, 2, 0, 0)], (5, (2, .invokestatic 247, 3, 111, 1, 0), [(0, 2), (0, 2)]))
def qb94_1 : QB := (5, [], (2, (5, .ifCond .eq 22, 3, 6, 2, 0), []))
def qb94_2 : QB := (8, [(8, .iload_n 3, 1, 3, 0, 0)], (2, (9, .ifCond .lt 18, 3, 6, 3, 0), []))
def qb94_3 : QB := (12, [(12, .iload_n 3, 1, 3, 0, 0), (13, .ldc_w 264, 3, 0, 0, 99999)], (3, (16, .if_icmp .gt 11, 3, 6, 4, 0), []))
def qb94_4 : QB := (19, [(19, .iload 4, 2, 4, 0, 0)], (5, (21, .invokestatic 127, 3, 107, 5, 0), [(0, 1), (0, 1)]))
def qb94_5 : QB := (24, [], (2, (24, .ifCond .ne 5, 3, 7, 6, 0), []))
def qb94_6 : QB := (27, [(27, .iconst (-1), 1, 0, 0, (-1))], (6, (28, .ireturn, 1, 0, 0, 0), []))
def qb94_7 : QB := (29, [(29, .aload_n 0, 1, 0, 0, 0), (30, .getfield 12, 3, 0, 10, 0), (33, .iload_n 1, 1, 1, 0, 0), (34, .iload_n 2, 1, 2, 0, 0), (35, .iload_n 3, 1, 3, 0, 0), (36, .iload 4, 2, 4, 0, 0)], (5, (38, .invokevirtual 265, 3, 21, 8, 0), [(6, 5), (0, 11)]))
def qb94_8 : QB := (41, [], (6, (41, .ireturn, 1, 0, 0, 0), []))
def qm94 : QM := (yX10_guest, cX10_guest, 5, (some .int), 20, 5, [qb94_0, qb94_1, qb94_2, qb94_3, qb94_4, qb94_5, qb94_6, qb94_7, qb94_8])
def qb95_0 : QB := (0, [(0, .iload_n 1, 1, 1, 0, 0)], (5, (1, .invokestatic 127, 3, 107, 1, 0), [(0, 1), (0, 1)]))
def qb95_1 : QB := (4, [], (2, (4, .ifCond .ne 5, 3, 3, 2, 0), []))
def qb95_2 : QB := (7, [(7, .iconst (-1), 1, 0, 0, (-1))], (6, (8, .ireturn, 1, 0, 0, 0), []))
def qb95_3 : QB := (9, [(9, .aload_n 0, 1, 0, 0, 0), (10, .getfield 12, 3, 0, 10, 0), (13, .iload_n 1, 1, 1, 0, 0)], (5, (14, .invokevirtual 269, 3, 19, 4, 0), [(6, 2), (0, 4)]))
def qb95_4 : QB := (17, [(17, .istore_n 2, 1, 2, 0, 0), (18, .aload_n 0, 1, 0, 0, 0), (19, .getfield 12, 3, 0, 10, 0), (22, .getfield 164, 3, 3, 2, 0), (25, .iload_n 1, 1, 1, 0, 0), (26, .iconst 0, 1, 0, 0, 0), (27, .iastore, 1, 0, 0, 0), (28, .aload_n 0, 1, 0, 0, 0), (29, .getfield 54, 3, 7, 10, 0), (32, .iload_n 1, 1, 1, 0, 0), (33, .iconst 0, 1, 0, 0, 0), (34, .iastore, 1, 0, 0, 0), (35, .aload_n 0, 1, 0, 0, 0)], (5, (36, .invokevirtual 130, 3, 103, 5, 0), [(14, 1), (0, 1)]))
def qb95_5 : QB := (39, [(39, .iload_n 2, 1, 2, 0, 0)], (6, (40, .ireturn, 1, 0, 0, 0), []))
def qm95 : QM := (yX10_dies, cX10_dies, 3, (some .int), 20, 2, [qb95_0, qb95_1, qb95_2, qb95_3, qb95_4, qb95_5])
def qb96_0 : QB := (0, [(0, .iload_n 1, 1, 1, 0, 0)], (2, (1, .ifCond .lt 10, 3, 2, 1, 0), []))
def qb96_1 : QB := (4, [(4, .iload_n 1, 1, 1, 0, 0), (5, .ldc_w 272, 3, 0, 0, 65535)], (3, (8, .if_icmp .le 5, 3, 3, 2, 0), []))
def qb96_2 : QB := (11, [(11, .iconst 0, 1, 0, 0, 0)], (8, (12, .ireturn, 1, 0, 0, 0), []))
def qb96_3 : QB := (13, [(13, .aload_n 0, 1, 0, 0, 0), (14, .getfield 12, 3, 0, 10, 0), (17, .iload_n 1, 1, 1, 0, 0), (18, .putfield 273, 3, 4, 2, 0), (21, .iconst 1, 1, 0, 0, 1)], (8, (22, .ireturn, 1, 0, 0, 0), []))
def qm96 : QM := (yX10_seed, cX10_seed, 2, (some .boolean), 20, 2, [qb96_0, qb96_1, qb96_2, qb96_3])
def qb97_0 : QB := (0, [(0, .iload_n 1, 1, 1, 0, 0), (1, .iconst 1, 1, 0, 0, 1)], (3, (2, .if_icmp .lt 9, 3, 2, 1, 0), []))
def qb97_1 : QB := (5, [(5, .iload_n 1, 1, 1, 0, 0), (6, .bipush 40, 2, 0, 0, 40)], (3, (8, .if_icmp .le 5, 3, 3, 2, 0), []))
def qb97_2 : QB := (11, [(11, .iconst (-1), 1, 0, 0, (-1))], (6, (12, .ireturn, 1, 0, 0, 0), []))
def qb97_3 : QB := (13, [(13, .iconst 0, 1, 0, 0, 0), (14, .istore_n 2, 1, 2, 0, 0)], (0, (15, .nop, 0, 4, 0, 0), []))
def qb97_4 : QB := (15, [(15, .iload_n 2, 1, 2, 0, 0), (16, .iload_n 1, 1, 1, 0, 0)], (3, (17, .if_icmp .ge 16, 3, 7, 5, 0), []))
def qb97_5 : QB := (20, [(20, .aload_n 0, 1, 0, 0, 0), (21, .getfield 12, 3, 0, 10, 0)], (5, (24, .invokevirtual 276, 3, 18, 6, 0), [(6, 1), (0, 1)]))
def qb97_6 : QB := (27, [(27, .iinc 2 1, 3, 2, 0, 1)], (1, (30, .goto (-15), 3, 4, 0, 0), []))
def qb97_7 : QB := (33, [(33, .aload_n 0, 1, 0, 0, 0)], (5, (34, .invokevirtual 130, 3, 103, 8, 0), [(14, 1), (0, 1)]))
def qb97_8 : QB := (37, [(37, .aload_n 0, 1, 0, 0, 0), (38, .getfield 12, 3, 0, 10, 0)], (5, (41, .invokevirtual 279, 3, 15, 9, 0), [(6, 1), (0, 1)]))
def qb97_9 : QB := (44, [], (6, (44, .ireturn, 1, 0, 0, 0), []))
def qm97 : QM := (yX10_draw, cX10_draw, 3, (some .int), 20, 2, [qb97_0, qb97_1, qb97_2, qb97_3, qb97_4, qb97_5, qb97_6, qb97_7, qb97_8, qb97_9])
def qb98_0 : QB := (0, [(0, .aload_n 0, 1, 0, 0, 0), (1, .getfield 16, 3, 1, 10, 0), (4, .aload_n 0, 1, 0, 0, 0), (5, .getfield 12, 3, 0, 10, 0)], (5, (8, .invokevirtual 283, 3, 12, 1, 0), [(6, 2), (0, 2)]))
def qb98_1 : QB := (11, [(11, .aload_n 0, 1, 0, 0, 0), (12, .iconst 1, 1, 0, 0, 1), (13, .putfield 19, 3, 2, 10, 1), (16, .aload_n 0, 1, 0, 0, 0), (17, .getfield 12, 3, 0, 10, 0)], (5, (20, .invokevirtual 279, 3, 15, 2, 0), [(6, 1), (0, 1)]))
def qb98_2 : QB := (23, [], (6, (23, .ireturn, 1, 0, 0, 0), []))
def qm98 : QM := (yX10_keep, cX10_keep, 1, (some .int), 20, 1, [qb98_0, qb98_1, qb98_2])
def qb99_0 : QB := (0, [(0, .aload_n 0, 1, 0, 0, 0), (1, .getfield 19, 3, 2, 10, 1)], (2, (4, .ifCond .ne 5, 3, 2, 1, 0), []))
def qb99_1 : QB := (7, [(7, .iconst 0, 1, 0, 0, 0)], (8, (8, .ireturn, 1, 0, 0, 0), []))
def qb99_2 : QB := (9, [(9, .aload_n 0, 1, 0, 0, 0), (10, .getfield 12, 3, 0, 10, 0), (13, .aload_n 0, 1, 0, 0, 0), (14, .getfield 16, 3, 1, 10, 0)], (5, (17, .invokevirtual 283, 3, 12, 3, 0), [(6, 2), (0, 2)]))
def qb99_3 : QB := (20, [(20, .aload_n 0, 1, 0, 0, 0)], (5, (21, .invokevirtual 130, 3, 103, 4, 0), [(14, 1), (0, 1)]))
def qb99_4 : QB := (24, [(24, .iconst 1, 1, 0, 0, 1)], (8, (25, .ireturn, 1, 0, 0, 0), []))
def qm99 : QM := (yX10_undo, cX10_undo, 1, (some .boolean), 20, 1, [qb99_0, qb99_1, qb99_2, qb99_3, qb99_4])
def qb100_0 : QB := (0, [(0, .iload_n 1, 1, 1, 0, 0)], (5, (1, .invokestatic 123, 3, 106, 1, 0), [(0, 1), (0, 1)]))
def qb100_1 : QB := (4, [], (2, (4, .ifCond .eq 26, 3, 5, 2, 0), []))
def qb100_2 : QB := (7, [(7, .iload_n 2, 1, 2, 0, 0)], (2, (8, .ifCond .lt 22, 3, 5, 3, 0), []))
def qb100_3 : QB := (11, [(11, .iload_n 2, 1, 2, 0, 0), (12, .bipush 8, 2, 0, 0, 8)], (3, (14, .if_icmp .gt 16, 3, 5, 4, 0), []))
def qb100_4 : QB := (17, [(17, .iload_n 2, 1, 2, 0, 0), (18, .iconst 4, 1, 0, 0, 4), (19, .imul, 1, 0, 0, 0), (20, .aload_n 0, 1, 0, 0, 0), (21, .getfield 26, 3, 3, 10, 0), (24, .getfield 142, 3, 1, 7, 0)], (3, (27, .if_icmp .le 6, 3, 6, 5, 0), []))
def qb100_5 : QB := (30, [(30, .bipush (-2), 2, 0, 0, (-2))], (6, (32, .ireturn, 1, 0, 0, 0), []))
def qb100_6 : QB := (33, [(33, .aload_n 0, 1, 0, 0, 0)], (5, (34, .invokevirtual 171, 3, 104, 7, 0), [(14, 1), (0, 1)]))
def qb100_7 : QB := (37, [(37, .aload_n 0, 1, 0, 0, 0), (38, .iload_n 1, 1, 1, 0, 0), (39, .iload_n 2, 1, 2, 0, 0)], (5, (40, .invokevirtual 286, 3, 102, 8, 0), [(14, 3), (0, 4)]))
def qb100_8 : QB := (43, [(43, .istore_n 3, 1, 3, 0, 0), (44, .aload_n 0, 1, 0, 0, 0), (45, .getfield 26, 3, 3, 10, 0), (48, .iconst 0, 1, 0, 0, 0), (49, .putfield 142, 3, 1, 7, 0), (52, .iload_n 3, 1, 3, 0, 0)], (6, (53, .ireturn, 1, 0, 0, 0), []))
def qm100 : QM := (yX10_check, cX10_check, 4, (some .int), 20, 3, [qb100_0, qb100_1, qb100_2, qb100_3, qb100_4, qb100_5, qb100_6, qb100_7, qb100_8])
def qb101_0 : QB := (0, [(0, .iload_n 1, 1, 1, 0, 0), (1, .bipush 10, 2, 0, 0, 10)], (3, (3, .if_icmp .lt 22, 3, 3, 1, 0), []))
def qb101_1 : QB := (6, [(6, .iload_n 1, 1, 1, 0, 0), (7, .bipush 22, 2, 0, 0, 22)], (3, (9, .if_icmp .ge 16, 3, 3, 2, 0), []))
def qb101_2 : QB := (12, [(12, .aload_n 0, 1, 0, 0, 0), (13, .getfield 12, 3, 0, 10, 0), (16, .getfield 164, 3, 3, 2, 0), (19, .iload_n 1, 1, 1, 0, 0), (20, .bipush 10, 2, 0, 0, 10), (22, .isub, 1, 0, 0, 0), (23, .iaload, 1, 0, 0, 0)], (6, (24, .ireturn, 1, 0, 0, 0), []))
def qb101_3 : QB := (25, [(25, .iload_n 1, 1, 1, 0, 0), (26, .bipush 30, 2, 0, 0, 30)], (3, (28, .if_icmp .lt 19, 3, 6, 4, 0), []))
def qb101_4 : QB := (31, [(31, .iload_n 1, 1, 1, 0, 0), (32, .bipush 54, 2, 0, 0, 54)], (3, (34, .if_icmp .ge 13, 3, 6, 5, 0), []))
def qb101_5 : QB := (37, [(37, .aload_n 0, 1, 0, 0, 0), (38, .getfield 57, 3, 8, 10, 0), (41, .iload_n 1, 1, 1, 0, 0), (42, .bipush 30, 2, 0, 0, 30), (44, .isub, 1, 0, 0, 0), (45, .iaload, 1, 0, 0, 0)], (6, (46, .ireturn, 1, 0, 0, 0), []))
def qb101_6 : QB := (47, [(47, .iload_n 1, 1, 1, 0, 0)], (4, (48, .tableswitch 70 0 4 #[36, 36, 46, 54, 62], 36, 12, 0, 0), [(0, 7), (1, 7), (2, 8), (3, 9), (4, 10)]))
def qb101_7 : QB := (84, [(84, .aload_n 0, 1, 0, 0, 0), (85, .getfield 33, 3, 4, 10, 0), (88, .iload_n 1, 1, 1, 0, 0), (89, .aaload, 1, 0, 0, 0), (90, .getfield 161, 3, 0, 3, 0)], (6, (93, .ireturn, 1, 0, 0, 0), []))
def qb101_8 : QB := (94, [(94, .aload_n 0, 1, 0, 0, 0), (95, .getfield 26, 3, 3, 10, 0), (98, .getfield 142, 3, 1, 7, 0)], (6, (101, .ireturn, 1, 0, 0, 0), []))
def qb101_9 : QB := (102, [(102, .aload_n 0, 1, 0, 0, 0), (103, .getfield 12, 3, 0, 10, 0), (106, .getfield 273, 3, 4, 2, 0)], (6, (109, .ireturn, 1, 0, 0, 0), []))
def qb101_10 : QB := (110, [(110, .aload_n 0, 1, 0, 0, 0), (111, .getfield 12, 3, 0, 10, 0)], (5, (114, .invokevirtual 279, 3, 15, 11, 0), [(6, 1), (0, 1)]))
def qb101_11 : QB := (117, [], (6, (117, .ireturn, 1, 0, 0, 0), []))
def qb101_12 : QB := (118, [(118, .iconst (-1), 1, 0, 0, (-1))], (6, (119, .ireturn, 1, 0, 0, 0), []))
def qm101 : QM := (yX10_count, cX10_count, 2, (some .int), 20, 2, [qb101_0, qb101_1, qb101_2, qb101_3, qb101_4, qb101_5, qb101_6, qb101_7, qb101_8, qb101_9, qb101_10, qb101_11, qb101_12])
def qb102_0 : QB := (0, [(0, .iconst 0, 1, 0, 0, 0), (1, .istore_n 3, 1, 3, 0, 0)], (0, (2, .nop, 0, 1, 0, 0), []))
def qb102_1 : QB := (2, [(2, .iload_n 3, 1, 3, 0, 0), (3, .iload_n 2, 1, 2, 0, 0)], (3, (4, .if_icmp .ge 40, 3, 6, 2, 0), []))
def qb102_2 : QB := (7, [(7, .aload_n 0, 1, 0, 0, 0), (8, .getfield 26, 3, 3, 10, 0), (11, .iload_n 3, 1, 3, 0, 0)], (5, (12, .invokevirtual 290, 3, 57, 3, 0), [(11, 2), (0, 4)]))
def qb102_3 : QB := (15, [(15, .aload_n 0, 1, 0, 0, 0), (16, .getfield 72, 3, 10, 10, 0), (19, .getfield 174, 3, 4, 0, 0), (22, .iload_n 1, 1, 1, 0, 0), (23, .bipush 24, 2, 0, 0, 24), (25, .imul, 1, 0, 0, 0), (26, .iload_n 3, 1, 3, 0, 0), (27, .iconst 3, 1, 0, 0, 3), (28, .imul, 1, 0, 0, 0), (29, .iadd, 1, 0, 0, 0), (30, .iconst 0, 1, 0, 0, 0), (31, .iadd, 1, 0, 0, 0), (32, .iaload, 1, 0, 0, 0)], (3, (33, .if_icmp .eq 5, 3, 5, 4, 0), []))
def qb102_4 : QB := (36, [(36, .iload_n 3, 1, 3, 0, 0)], (6, (37, .ireturn, 1, 0, 0, 0), []))
def qb102_5 : QB := (38, [(38, .iinc 3 1, 3, 3, 0, 1)], (1, (41, .goto (-39), 3, 1, 0, 0), []))
def qb102_6 : QB := (44, [(44, .iconst (-1), 1, 0, 0, (-1))], (6, (45, .ireturn, 1, 0, 0, 0), []))
def qm102 : QM := (yX10_firstWrongStore, cX10_firstWrongStore, 4, (some .int), 20, 3, [qb102_0, qb102_1, qb102_2, qb102_3, qb102_4, qb102_5, qb102_6])
def qb103_0 : QB := (0, [(0, .aload_n 0, 1, 0, 0, 0), (1, .iconst 0, 1, 0, 0, 0), (2, .putfield 79, 3, 12, 10, 1), (5, .aload_n 0, 1, 0, 0, 0), (6, .getfield 87, 3, 13, 10, 0), (9, .iconst 0, 1, 0, 0, 0), (10, .putfield 293, 3, 3, 8, 1)], (7, (13, .return_, 1, 0, 0, 0), []))
def qm103 : QM := (yX10_forgetDay, cX10_forgetDay, 1, none, 20, 1, [qb103_0])
def qb104_0 : QB := (0, [(0, .aload_n 0, 1, 0, 0, 0), (1, .getfield 79, 3, 12, 10, 1)], (2, (4, .ifCond .eq 4, 3, 2, 1, 0), []))
def qb104_1 : QB := (7, [], (7, (7, .return_, 1, 0, 0, 0), []))
def qb104_2 : QB := (8, [(8, .aload_n 0, 1, 0, 0, 0), (9, .getfield 72, 3, 10, 10, 0)], (5, (12, .invokevirtual 240, 3, 0, 3, 0), [(4, 1), (0, 1)]))
def qb104_3 : QB := (15, [(15, .aload_n 0, 1, 0, 0, 0), (16, .getfield 72, 3, 10, 10, 0), (19, .iconst 0, 1, 0, 0, 0), (20, .aload_n 0, 1, 0, 0, 0), (21, .getfield 33, 3, 4, 10, 0), (24, .iconst 0, 1, 0, 0, 0), (25, .aaload, 1, 0, 0, 0)], (5, (26, .invokevirtual 243, 3, 2, 4, 0), [(4, 3), (0, 4)]))
def qb104_4 : QB := (29, [(29, .aload_n 0, 1, 0, 0, 0), (30, .iconst 1, 1, 0, 0, 1), (31, .putfield 79, 3, 12, 10, 1)], (7, (34, .return_, 1, 0, 0, 0), []))
def qm104 : QM := (yX10_runDay, cX10_runDay, 1, none, 20, 1, [qb104_0, qb104_1, qb104_2, qb104_3, qb104_4])
def qb105_0 : QB := (0, [(0, .iload_n 1, 1, 1, 0, 0)], (5, (1, .invokestatic 123, 3, 106, 1, 0), [(0, 1), (0, 1)]))
def qb105_1 : QB := (4, [], (2, (4, .ifCond .eq 21, 3, 4, 2, 0), []))
def qb105_2 : QB := (7, [(7, .aload_n 0, 1, 0, 0, 0), (8, .getfield 12, 3, 0, 10, 0), (11, .getfield 100, 3, 0, 2, 0), (14, .iload_n 1, 1, 1, 0, 0), (15, .iaload, 1, 0, 0, 0), (16, .bipush 12, 2, 0, 0, 12)], (3, (18, .if_icmp .eq 7, 3, 4, 3, 0), []))
def qb105_3 : QB := (21, [(21, .iconst 1, 1, 0, 0, 1)], (1, (22, .goto 4, 3, 5, 0, 0), []))
def qb105_4 : QB := (25, [(25, .iconst 0, 1, 0, 0, 0)], (0, (26, .nop, 0, 5, 0, 0), []))
def qb105_5 : QB := (26, [], (8, (26, .ireturn, 1, 0, 0, 0), []))
def qm105 : QM := (yX10_isOwned, cX10_isOwned, 2, (some .boolean), 20, 2, [qb105_0, qb105_1, qb105_2, qb105_3, qb105_4, qb105_5])
def qb106_0 : QB := (0, [(0, .iload_n 0, 1, 0, 0, 0)], (2, (1, .ifCond .lt 13, 3, 3, 1, 0), []))
def qb106_1 : QB := (4, [(4, .iload_n 0, 1, 0, 0, 0), (5, .bipush 24, 2, 0, 0, 24)], (3, (7, .if_icmp .ge 7, 3, 3, 2, 0), []))
def qb106_2 : QB := (10, [(10, .iconst 1, 1, 0, 0, 1)], (1, (11, .goto 4, 3, 4, 0, 0), []))
def qb106_3 : QB := (14, [(14, .iconst 0, 1, 0, 0, 0)], (0, (15, .nop, 0, 4, 0, 0), []))
def qb106_4 : QB := (15, [], (8, (15, .ireturn, 1, 0, 0, 0), []))
def qm106 : QM := (yX10_isHour, cX10_isHour, 1, (some .boolean), 21, 1, [qb106_0, qb106_1, qb106_2, qb106_3, qb106_4])
def qb107_0 : QB := (0, [(0, .iload_n 0, 1, 0, 0, 0)], (2, (1, .ifCond .lt 13, 3, 3, 1, 0), []))
def qb107_1 : QB := (4, [(4, .iload_n 0, 1, 0, 0, 0), (5, .bipush 12, 2, 0, 0, 12)], (3, (7, .if_icmp .ge 7, 3, 3, 2, 0), []))
def qb107_2 : QB := (10, [(10, .iconst 1, 1, 0, 0, 1)], (1, (11, .goto 4, 3, 4, 0, 0), []))
def qb107_3 : QB := (14, [(14, .iconst 0, 1, 0, 0, 0)], (0, (15, .nop, 0, 4, 0, 0), []))
def qb107_4 : QB := (15, [], (8, (15, .ireturn, 1, 0, 0, 0), []))
def qm107 : QM := (yX10_isOwner, cX10_isOwner, 1, (some .boolean), 21, 1, [qb107_0, qb107_1, qb107_2, qb107_3, qb107_4])
def qb108_0 : QB := (0, [(0, .iload_n 0, 1, 0, 0, 0)], (2, (1, .ifCond .lt 13, 3, 3, 1, 0), []))
def qb108_1 : QB := (4, [(4, .iload_n 0, 1, 0, 0, 0), (5, .bipush 8, 2, 0, 0, 8)], (3, (7, .if_icmp .ge 7, 3, 3, 2, 0), []))
def qb108_2 : QB := (10, [(10, .iconst 1, 1, 0, 0, 1)], (1, (11, .goto 4, 3, 4, 0, 0), []))
def qb108_3 : QB := (14, [(14, .iconst 0, 1, 0, 0, 0)], (0, (15, .nop, 0, 4, 0, 0), []))
def qb108_4 : QB := (15, [], (8, (15, .ireturn, 1, 0, 0, 0), []))
def qm108 : QM := (yX10_isRoom, cX10_isRoom, 1, (some .boolean), 21, 1, [qb108_0, qb108_1, qb108_2, qb108_3, qb108_4])
def qb109_0 : QB := (0, [(0, .iload_n 0, 1, 0, 0, 0)], (2, (1, .ifCond .eq 8, 3, 2, 1, 0), []))
def qb109_1 : QB := (4, [(4, .iload_n 0, 1, 0, 0, 0), (5, .iconst 1, 1, 0, 0, 1)], (3, (6, .if_icmp .ne 7, 3, 3, 2, 0), []))
def qb109_2 : QB := (9, [(9, .iconst 1, 1, 0, 0, 1)], (1, (10, .goto 4, 3, 4, 0, 0), []))
def qb109_3 : QB := (13, [(13, .iconst 0, 1, 0, 0, 0)], (0, (14, .nop, 0, 4, 0, 0), []))
def qb109_4 : QB := (14, [], (8, (14, .ireturn, 1, 0, 0, 0), []))
def qm109 : QM := (yX10_isLaw, cX10_isLaw, 1, (some .boolean), 21, 1, [qb109_0, qb109_1, qb109_2, qb109_3, qb109_4])
def qb110_0 : QB := (0, [(0, .iload_n 0, 1, 0, 0, 0)], (2, (1, .ifCond .lt 13, 3, 3, 1, 0), []))
def qb110_1 : QB := (4, [(4, .iload_n 0, 1, 0, 0, 0), (5, .bipush 99, 2, 0, 0, 99)], (3, (7, .if_icmp .gt 7, 3, 3, 2, 0), []))
def qb110_2 : QB := (10, [(10, .iconst 1, 1, 0, 0, 1)], (1, (11, .goto 4, 3, 4, 0, 0), []))
def qb110_3 : QB := (14, [(14, .iconst 0, 1, 0, 0, 0)], (0, (15, .nop, 0, 4, 0, 0), []))
def qb110_4 : QB := (15, [], (8, (15, .ireturn, 1, 0, 0, 0), []))
def qm110 : QM := (yX10_fitsRoom, cX10_fitsRoom, 1, (some .boolean), 21, 1, [qb110_0, qb110_1, qb110_2, qb110_3, qb110_4])
def qb111_0 : QB := (0, [(0, .iload_n 0, 1, 0, 0, 0)], (2, (1, .ifCond .lt 18, 3, 4, 1, 0), []))
def qb111_1 : QB := (4, [(4, .iload_n 0, 1, 0, 0, 0), (5, .iload_n 1, 1, 1, 0, 0)], (3, (6, .if_icmp .ge 13, 3, 4, 2, 0), []))
def qb111_2 : QB := (9, [(9, .iload_n 1, 1, 1, 0, 0), (10, .bipush 24, 2, 0, 0, 24)], (3, (12, .if_icmp .gt 7, 3, 4, 3, 0), []))
def qb111_3 : QB := (15, [(15, .iconst 1, 1, 0, 0, 1)], (1, (16, .goto 4, 3, 5, 0, 0), []))
def qb111_4 : QB := (19, [(19, .iconst 0, 1, 0, 0, 0)], (0, (20, .nop, 0, 5, 0, 0), []))
def qb111_5 : QB := (20, [], (8, (20, .ireturn, 1, 0, 0, 0), []))
def qm111 : QM := (yX10_isStay, cX10_isStay, 2, (some .boolean), 21, 2, [qb111_0, qb111_1, qb111_2, qb111_3, qb111_4, qb111_5])
def qb112_0 : QB := (0, [(0, .iload_n 0, 1, 0, 0, 0), (1, .iload_n 1, 1, 1, 0, 0)], (3, (2, .if_icmp .lt 12, 3, 3, 1, 0), []))
def qb112_1 : QB := (5, [(5, .iload_n 0, 1, 0, 0, 0), (6, .iload_n 2, 1, 2, 0, 0)], (3, (7, .if_icmp .gt 7, 3, 3, 2, 0), []))
def qb112_2 : QB := (10, [(10, .iconst 1, 1, 0, 0, 1)], (1, (11, .goto 4, 3, 4, 0, 0), []))
def qb112_3 : QB := (14, [(14, .iconst 0, 1, 0, 0, 0)], (0, (15, .nop, 0, 4, 0, 0), []))
def qb112_4 : QB := (15, [], (8, (15, .ireturn, 1, 0, 0, 0), []))
def qm112 : QM := (yX11_in, cX11_in, 3, (some .boolean), 23, 3, [qb112_0, qb112_1, qb112_2, qb112_3, qb112_4])
def qb113_0 : QB := (0, [(0, .iload_n 0, 1, 0, 0, 0)], (2, (1, .ifCond .lt 13, 3, 3, 1, 0), []))
def qb113_1 : QB := (4, [(4, .iload_n 0, 1, 0, 0, 0), (5, .bipush 24, 2, 0, 0, 24)], (3, (7, .if_icmp .ge 7, 3, 3, 2, 0), []))
def qb113_2 : QB := (10, [(10, .iconst 1, 1, 0, 0, 1)], (1, (11, .goto 4, 3, 4, 0, 0), []))
def qb113_3 : QB := (14, [(14, .iconst 0, 1, 0, 0, 0)], (0, (15, .nop, 0, 4, 0, 0), []))
def qb113_4 : QB := (15, [], (8, (15, .ireturn, 1, 0, 0, 0), []))
def qm113 : QM := (yX11_isHour, cX11_isHour, 1, (some .boolean), 23, 1, [qb113_0, qb113_1, qb113_2, qb113_3, qb113_4])
def qb114_0 : QB := (0, [(0, .iload_n 0, 1, 0, 0, 0)], (2, (1, .ifCond .lt 13, 3, 3, 1, 0), []))
def qb114_1 : QB := (4, [(4, .iload_n 0, 1, 0, 0, 0), (5, .bipush 12, 2, 0, 0, 12)], (3, (7, .if_icmp .ge 7, 3, 3, 2, 0), []))
def qb114_2 : QB := (10, [(10, .iconst 1, 1, 0, 0, 1)], (1, (11, .goto 4, 3, 4, 0, 0), []))
def qb114_3 : QB := (14, [(14, .iconst 0, 1, 0, 0, 0)], (0, (15, .nop, 0, 4, 0, 0), []))
def qb114_4 : QB := (15, [], (8, (15, .ireturn, 1, 0, 0, 0), []))
def qm114 : QM := (yX11_isOwner, cX11_isOwner, 1, (some .boolean), 23, 1, [qb114_0, qb114_1, qb114_2, qb114_3, qb114_4])
def qb115_0 : QB := (0, [(0, .iload_n 0, 1, 0, 0, 0)], (2, (1, .ifCond .lt 13, 3, 3, 1, 0), []))
def qb115_1 : QB := (4, [(4, .iload_n 0, 1, 0, 0, 0), (5, .bipush 8, 2, 0, 0, 8)], (3, (7, .if_icmp .ge 7, 3, 3, 2, 0), []))
def qb115_2 : QB := (10, [(10, .iconst 1, 1, 0, 0, 1)], (1, (11, .goto 4, 3, 4, 0, 0), []))
def qb115_3 : QB := (14, [(14, .iconst 0, 1, 0, 0, 0)], (0, (15, .nop, 0, 4, 0, 0), []))
def qb115_4 : QB := (15, [], (8, (15, .ireturn, 1, 0, 0, 0), []))
def qm115 : QM := (yX11_isRoom, cX11_isRoom, 1, (some .boolean), 23, 1, [qb115_0, qb115_1, qb115_2, qb115_3, qb115_4])
def qb116_0 : QB := (0, [(0, .iload_n 1, 1, 1, 0, 0)], (5, (1, .invokestatic 159, 3, 113, 1, 0), [(0, 1), (0, 1)]))
def qb116_1 : QB := (4, [], (2, (4, .ifCond .eq 15, 3, 5, 2, 0), []))
def qb116_2 : QB := (7, [(7, .iload_n 2, 1, 2, 0, 0), (8, .iconst (-1), 1, 0, 0, (-1))], (3, (9, .if_icmp .eq 12, 3, 6, 3, 0), []))
def qb116_3 : QB := (12, [(12, .iload_n 2, 1, 2, 0, 0)], (5, (13, .invokestatic 163, 3, 114, 4, 0), [(0, 1), (0, 1)]))
def qb116_4 : QB := (16, [], (2, (16, .ifCond .ne 5, 3, 6, 5, 0), []))
def qb116_5 : QB := (19, [(19, .iconst 0, 1, 0, 0, 0)], (8, (20, .ireturn, 1, 0, 0, 0), []))
def qb116_6 : QB := (21, [(21, .aload_n 0, 1, 0, 0, 0), (22, .getfield 7, 3, 1, 11, 0), (25, .iload_n 1, 1, 1, 0, 0), (26, .iload_n 2, 1, 2, 0, 0), (27, .iconst (-1), 1, 0, 0, (-1))], (3, (28, .if_icmp .ne 8, 3, 8, 7, 0), []))
def qb116_7 : QB := (31, [(31, .bipush 12, 2, 0, 0, 12)], (1, (33, .goto 4, 3, 9, 0, 0), []))
def qb116_8 : QB := (36, [(36, .iload_n 2, 1, 2, 0, 0)], (0, (37, .nop, 0, 9, 0, 0), []))
def qb116_9 : QB := (37, [(37, .iastore, 1, 0, 0, 0), (38, .iconst 1, 1, 0, 0, 1)], (8, (39, .ireturn, 1, 0, 0, 0), []))
def qm116 : QM := (yX11_own, cX11_own, 3, (some .boolean), 22, 3, [qb116_0, qb116_1, qb116_2, qb116_3, qb116_4, qb116_5, qb116_6, qb116_7, qb116_8, qb116_9])
def qb117_0 : QB := (0, [(0, .iload_n 1, 1, 1, 0, 0)], (5, (1, .invokestatic 166, 3, 115, 1, 0), [(0, 1), (0, 1)]))
def qb117_1 : QB := (4, [], (2, (4, .ifCond .eq 34, 3, 8, 2, 0), []))
def qb117_2 : QB := (7, [(7, .iload_n 2, 1, 2, 0, 0), (8, .iconst 0, 1, 0, 0, 0), (9, .bipush 99, 2, 0, 0, 99)], (5, (11, .invokestatic 169, 3, 112, 3, 0), [(0, 3), (0, 3)]))
def qb117_3 : QB := (14, [], (2, (14, .ifCond .eq 24, 3, 8, 4, 0), []))
def qb117_4 : QB := (17, [(17, .iload_n 3, 1, 3, 0, 0), (18, .iconst 0, 1, 0, 0, 0), (19, .bipush 99, 2, 0, 0, 99)], (5, (21, .invokestatic 169, 3, 112, 5, 0), [(0, 3), (0, 3)]))
def qb117_5 : QB := (24, [], (2, (24, .ifCond .eq 14, 3, 8, 6, 0), []))
def qb117_6 : QB := (27, [(27, .iload 4, 2, 4, 0, 0), (29, .iconst 0, 1, 0, 0, 0), (30, .bipush 99, 2, 0, 0, 99)], (5, (32, .invokestatic 169, 3, 112, 7, 0), [(0, 3), (0, 3)]))
def qb117_7 : QB := (35, [], (2, (35, .ifCond .ne 5, 3, 9, 8, 0), []))
def qb117_8 : QB := (38, [(38, .iconst 0, 1, 0, 0, 0)], (8, (39, .ireturn, 1, 0, 0, 0), []))
def qb117_9 : QB := (40, [(40, .aload_n 0, 1, 0, 0, 0), (41, .getfield 16, 3, 3, 11, 0), (44, .iload_n 1, 1, 1, 0, 0), (45, .iload_n 2, 1, 2, 0, 0), (46, .iastore, 1, 0, 0, 0), (47, .aload_n 0, 1, 0, 0, 0), (48, .getfield 19, 3, 4, 11, 0), (51, .iload_n 1, 1, 1, 0, 0), (52, .iload_n 3, 1, 3, 0, 0), (53, .iastore, 1, 0, 0, 0), (54, .aload_n 0, 1, 0, 0, 0), (55, .getfield 22, 3, 5, 11, 0), (58, .iload_n 1, 1, 1, 0, 0), (59, .iload 4, 2, 4, 0, 0), (61, .iastore, 1, 0, 0, 0), (62, .iconst 1, 1, 0, 0, 1)], (8, (63, .ireturn, 1, 0, 0, 0), []))
def qm117 : QM := (yX11_room, cX11_room, 5, (some .boolean), 22, 5, [qb117_0, qb117_1, qb117_2, qb117_3, qb117_4, qb117_5, qb117_6, qb117_7, qb117_8, qb117_9])
def qb118_0 : QB := (0, [(0, .iload_n 1, 1, 1, 0, 0)], (5, (1, .invokestatic 163, 3, 114, 1, 0), [(0, 1), (0, 1)]))
def qb118_1 : QB := (4, [], (2, (4, .ifCond .eq 41, 3, 9, 2, 0), []))
def qb118_2 : QB := (7, [(7, .iload_n 2, 1, 2, 0, 0), (8, .iconst 0, 1, 0, 0, 0), (9, .bipush 6, 2, 0, 0, 6)], (5, (11, .invokestatic 169, 3, 112, 3, 0), [(0, 3), (0, 3)]))
def qb118_3 : QB := (14, [], (2, (14, .ifCond .eq 31, 3, 9, 4, 0), []))
def qb118_4 : QB := (17, [(17, .iload_n 3, 1, 3, 0, 0)], (5, (18, .invokestatic 166, 3, 115, 5, 0), [(0, 1), (0, 1)]))
def qb118_5 : QB := (21, [], (2, (21, .ifCond .eq 24, 3, 9, 6, 0), []))
def qb118_6 : QB := (24, [(24, .iload 4, 2, 4, 0, 0), (26, .iconst 0, 1, 0, 0, 0), (27, .bipush 99, 2, 0, 0, 99)], (5, (29, .invokestatic 169, 3, 112, 7, 0), [(0, 3), (0, 3)]))
def qb118_7 : QB := (32, [], (2, (32, .ifCond .eq 13, 3, 9, 8, 0), []))
def qb118_8 : QB := (35, [(35, .aload_n 0, 1, 0, 0, 0), (36, .getfield 25, 3, 6, 11, 0), (39, .iload_n 1, 1, 1, 0, 0), (40, .iaload, 1, 0, 0, 0), (41, .iconst 5, 1, 0, 0, 5)], (3, (42, .if_icmp .ne 5, 3, 10, 9, 0), []))
def qb118_9 : QB := (45, [(45, .iconst (-1), 1, 0, 0, (-1))], (6, (46, .ireturn, 1, 0, 0, 0), []))
def qb118_10 : QB := (47, [(47, .iconst 5, 1, 0, 0, 5), (48, .iload_n 1, 1, 1, 0, 0), (49, .imul, 1, 0, 0, 0), (50, .aload_n 0, 1, 0, 0, 0), (51, .getfield 25, 3, 6, 11, 0), (54, .iload_n 1, 1, 1, 0, 0), (55, .iaload, 1, 0, 0, 0), (56, .iadd, 1, 0, 0, 0), (57, .istore 5, 2, 5, 0, 0), (59, .aload_n 0, 1, 0, 0, 0), (60, .getfield 28, 3, 7, 11, 0), (63, .iload 5, 2, 5, 0, 0), (65, .iload_n 2, 1, 2, 0, 0), (66, .iastore, 1, 0, 0, 0), (67, .aload_n 0, 1, 0, 0, 0), (68, .getfield 31, 3, 8, 11, 0), (71, .iload 5, 2, 5, 0, 0), (73, .iload_n 3, 1, 3, 0, 0), (74, .iastore, 1, 0, 0, 0), (75, .aload_n 0, 1, 0, 0, 0), (76, .getfield 34, 3, 9, 11, 0), (79, .iload 5, 2, 5, 0, 0), (81, .iload 4, 2, 4, 0, 0), (83, .iastore, 1, 0, 0, 0), (84, .aload_n 0, 1, 0, 0, 0), (85, .getfield 25, 3, 6, 11, 0), (88, .iload_n 1, 1, 1, 0, 0), (89, .aload_n 0, 1, 0, 0, 0), (90, .getfield 25, 3, 6, 11, 0), (93, .iload_n 1, 1, 1, 0, 0), (94, .iaload, 1, 0, 0, 0), (95, .iconst 1, 1, 0, 0, 1), (96, .iadd, 1, 0, 0, 0), (97, .iastore, 1, 0, 0, 0), (98, .aload_n 0, 1, 0, 0, 0), (99, .getfield 25, 3, 6, 11, 0), (102, .iload_n 1, 1, 1, 0, 0), (103, .iaload, 1, 0, 0, 0)], (6, (104, .ireturn, 1, 0, 0, 0), []))
def qm118 : QM := (yX11_act, cX11_act, 6, (some .int), 22, 5, [qb118_0, qb118_1, qb118_2, qb118_3, qb118_4, qb118_5, qb118_6, qb118_7, qb118_8, qb118_9, qb118_10])
def qb119_0 : QB := (0, [(0, .iload_n 1, 1, 1, 0, 0)], (5, (1, .invokestatic 163, 3, 114, 1, 0), [(0, 1), (0, 1)]))
def qb119_1 : QB := (4, [], (2, (4, .ifCond .ne 5, 3, 3, 2, 0), []))
def qb119_2 : QB := (7, [(7, .iconst (-1), 1, 0, 0, (-1))], (6, (8, .ireturn, 1, 0, 0, 0), []))
def qb119_3 : QB := (9, [(9, .aload_n 0, 1, 0, 0, 0), (10, .getfield 25, 3, 6, 11, 0), (13, .iload_n 1, 1, 1, 0, 0), (14, .iaload, 1, 0, 0, 0), (15, .istore_n 2, 1, 2, 0, 0), (16, .aload_n 0, 1, 0, 0, 0), (17, .getfield 25, 3, 6, 11, 0), (20, .iload_n 1, 1, 1, 0, 0), (21, .iconst 0, 1, 0, 0, 0), (22, .iastore, 1, 0, 0, 0), (23, .iload_n 2, 1, 2, 0, 0)], (6, (24, .ireturn, 1, 0, 0, 0), []))
def qm119 : QM := (yX11_noActs, cX11_noActs, 3, (some .int), 22, 2, [qb119_0, qb119_1, qb119_2, qb119_3])
def qb120_0 : QB := (0, [(0, .iconst 3, 1, 0, 0, 3), (1, .istore_n 2, 1, 2, 0, 0)], (0, (2, .nop, 0, 1, 0, 0), []))
def qb120_1 : QB := (2, [(2, .iload_n 2, 1, 2, 0, 0)], (2, (3, .ifCond .lt 35, 3, 3, 2, 0), []))
def qb120_2 : QB := (6, [(6, .aload_n 0, 1, 0, 0, 0), (7, .getfield 40, 3, 11, 11, 0), (10, .aload_n 0, 1, 0, 0, 0), (11, .getfield 173, 3, 12, 11, 0), (14, .iload_n 1, 1, 1, 0, 0), (15, .bipush 8, 2, 0, 0, 8), (17, .iload_n 2, 1, 2, 0, 0), (18, .imul, 1, 0, 0, 0), (19, .ishr, 1, 0, 0, 0), (20, .i2b, 1, 0, 0, 0), (21, .bastore, 1, 0, 0, 0), (22, .aload_n 0, 1, 0, 0, 0), (23, .aload_n 0, 1, 0, 0, 0), (24, .getfield 173, 3, 12, 11, 0), (27, .iconst 1, 1, 0, 0, 1), (28, .iadd, 1, 0, 0, 0), (29, .putfield 173, 3, 12, 11, 0), (32, .iinc 2 (-1), 3, 2, 0, (-1))], (1, (35, .goto (-33), 3, 1, 0, 0), []))
def qb120_3 : QB := (38, [], (7, (38, .return_, 1, 0, 0, 0), []))
def qm120 : QM := (yX11_types, cX11_types, 3, none, 22, 2, [qb120_0, qb120_1, qb120_2, qb120_3])
def qb121_0 : QB := (0, [(0, .aload_n 0, 1, 0, 0, 0), (1, .getfield 173, 3, 12, 11, 0), (4, .bipush 20, 2, 0, 0, 20), (6, .iadd, 1, 0, 0, 0), (7, .sipush 220, 3, 0, 0, 220)], (3, (10, .if_icmp .le 5, 3, 2, 1, 0), []))
def qb121_1 : QB := (13, [(13, .iconst (-1), 1, 0, 0, (-1))], (6, (14, .ireturn, 1, 0, 0, 0), []))
def qb121_2 : QB := (15, [(15, .aload_n 0, 1, 0, 0, 0), (16, .iload_n 1, 1, 1, 0, 0)], (5, (17, .invokevirtual 176, 3, 120, 3, 0), [(15, 2), (0, 3)]))
def qb121_3 : QB := (20, [(20, .aload_n 0, 1, 0, 0, 0), (21, .iload_n 2, 1, 2, 0, 0)], (5, (22, .invokevirtual 176, 3, 120, 4, 0), [(15, 2), (0, 3)]))
def qb121_4 : QB := (25, [(25, .aload_n 0, 1, 0, 0, 0), (26, .iload_n 3, 1, 3, 0, 0)], (5, (27, .invokevirtual 176, 3, 120, 5, 0), [(15, 2), (0, 3)]))
def qb121_5 : QB := (30, [(30, .aload_n 0, 1, 0, 0, 0), (31, .iload 4, 2, 4, 0, 0)], (5, (33, .invokevirtual 176, 3, 120, 6, 0), [(15, 2), (0, 3)]))
def qb121_6 : QB := (36, [(36, .aload_n 0, 1, 0, 0, 0), (37, .iload 5, 2, 5, 0, 0)], (5, (39, .invokevirtual 176, 3, 120, 7, 0), [(15, 2), (0, 3)]))
def qb121_7 : QB := (42, [(42, .aload_n 0, 1, 0, 0, 0), (43, .getfield 173, 3, 12, 11, 0)], (6, (46, .ireturn, 1, 0, 0, 0), []))
def qm121 : QM := (yX11_feed, cX11_feed, 6, (some .int), 22, 6, [qb121_0, qb121_1, qb121_2, qb121_3, qb121_4, qb121_5, qb121_6, qb121_7])
def qb122_0 : QB := (0, [(0, .aload_n 0, 1, 0, 0, 0), (1, .getfield 180, 3, 13, 11, 0), (4, .aload_n 0, 1, 0, 0, 0), (5, .getfield 183, 3, 14, 11, 0)], (3, (8, .if_icmp .ge 19, 3, 2, 1, 0), []))
def qb122_1 : QB := (11, [(11, .aload_n 0, 1, 0, 0, 0), (12, .getfield 40, 3, 11, 11, 0), (15, .aload_n 0, 1, 0, 0, 0), (16, .getfield 180, 3, 13, 11, 0), (19, .baload, 1, 0, 0, 0), (20, .sipush 255, 3, 0, 0, 255), (23, .iand, 1, 0, 0, 0)], (1, (24, .goto 4, 3, 3, 0, 0), []))
def qb122_2 : QB := (27, [(27, .iconst (-1), 1, 0, 0, (-1))], (0, (28, .nop, 0, 3, 0, 0), []))
def qb122_3 : QB := (28, [], (6, (28, .ireturn, 1, 0, 0, 0), []))
def qm122 : QM := (yX11_here, cX11_here, 1, (some .int), 22, 1, [qb122_0, qb122_1, qb122_2, qb122_3])
def qb123_0 : QB := (0, [(0, .aload_n 0, 1, 0, 0, 0)], (5, (1, .invokevirtual 186, 3, 122, 1, 0), [(15, 1), (0, 1)]))
def qb123_1 : QB := (4, [(4, .bipush 48, 2, 0, 0, 48)], (3, (6, .if_icmp .lt 16, 3, 5, 2, 0), []))
def qb123_2 : QB := (9, [(9, .aload_n 0, 1, 0, 0, 0)], (5, (10, .invokevirtual 186, 3, 122, 3, 0), [(15, 1), (0, 1)]))
def qb123_3 : QB := (13, [(13, .bipush 57, 2, 0, 0, 57)], (3, (15, .if_icmp .gt 7, 3, 5, 4, 0), []))
def qb123_4 : QB := (18, [(18, .iconst 1, 1, 0, 0, 1)], (1, (19, .goto 4, 3, 6, 0, 0), []))
def qb123_5 : QB := (22, [(22, .iconst 0, 1, 0, 0, 0)], (0, (23, .nop, 0, 6, 0, 0), []))
def qb123_6 : QB := (23, [], (8, (23, .ireturn, 1, 0, 0, 0), []))
def qm123 : QM := (yX11_isDigit, cX11_isDigit, 1, (some .boolean), 22, 1, [qb123_0, qb123_1, qb123_2, qb123_3, qb123_4, qb123_5, qb123_6])
def qb124_0 : QB := (0, [(0, .aload_n 0, 1, 0, 0, 0), (1, .sipush (-1000), 3, 0, 0, (-1000)), (4, .iload_n 1, 1, 1, 0, 0), (5, .imul, 1, 0, 0, 0), (6, .iload_n 2, 1, 2, 0, 0), (7, .isub, 1, 0, 0, 0), (8, .putfield 190, 3, 15, 11, 0), (11, .iconst 0, 1, 0, 0, 0)], (8, (12, .ireturn, 1, 0, 0, 0), []))
def qm124 : QM := (yX11_wrongAt, cX11_wrongAt, 3, (some .boolean), 22, 3, [qb124_0])
def qb125_0 : QB := (0, [(0, .aload_n 0, 1, 0, 0, 0)], (5, (1, .invokevirtual 186, 3, 122, 1, 0), [(15, 1), (0, 1)]))
def qb125_1 : QB := (4, [(4, .iload_n 1, 1, 1, 0, 0)], (3, (5, .if_icmp .eq 13, 3, 4, 2, 0), []))
def qb125_2 : QB := (8, [(8, .aload_n 0, 1, 0, 0, 0), (9, .iconst 1, 1, 0, 0, 1), (10, .aload_n 0, 1, 0, 0, 0), (11, .getfield 180, 3, 13, 11, 0)], (5, (14, .invokevirtual 193, 3, 124, 3, 0), [(15, 3), (0, 3)]))
def qb125_3 : QB := (17, [], (8, (17, .ireturn, 1, 0, 0, 0), []))
def qb125_4 : QB := (18, [(18, .aload_n 0, 1, 0, 0, 0), (19, .aload_n 0, 1, 0, 0, 0), (20, .getfield 180, 3, 13, 11, 0), (23, .iconst 1, 1, 0, 0, 1), (24, .iadd, 1, 0, 0, 0), (25, .putfield 180, 3, 13, 11, 0), (28, .iconst 1, 1, 0, 0, 1)], (8, (29, .ireturn, 1, 0, 0, 0), []))
def qm125 : QM := (yX11_takes, cX11_takes, 2, (some .boolean), 22, 2, [qb125_0, qb125_1, qb125_2, qb125_3, qb125_4])
def qb126_0 : QB := (0, [(0, .aload_n 0, 1, 0, 0, 0), (1, .getfield 180, 3, 13, 11, 0), (4, .istore_n 1, 1, 1, 0, 0), (5, .aload_n 0, 1, 0, 0, 0), (6, .iconst 0, 1, 0, 0, 0), (7, .putfield 197, 3, 20, 11, 0)], (0, (10, .nop, 0, 1, 0, 0), []))
def qb126_1 : QB := (10, [(10, .aload_n 0, 1, 0, 0, 0)], (5, (11, .invokevirtual 200, 3, 123, 2, 0), [(15, 1), (0, 1)]))
def qb126_2 : QB := (14, [], (2, (14, .ifCond .eq 55, 3, 8, 3, 0), []))
def qb126_3 : QB := (17, [(17, .aload_n 0, 1, 0, 0, 0), (18, .getfield 180, 3, 13, 11, 0), (21, .iload_n 1, 1, 1, 0, 0), (22, .iconst 5, 1, 0, 0, 5), (23, .iadd, 1, 0, 0, 0)], (3, (24, .if_icmp .ne 13, 3, 6, 4, 0), []))
def qb126_4 : QB := (27, [(27, .aload_n 0, 1, 0, 0, 0), (28, .iconst 2, 1, 0, 0, 2), (29, .aload_n 0, 1, 0, 0, 0), (30, .getfield 180, 3, 13, 11, 0)], (5, (33, .invokevirtual 193, 3, 124, 5, 0), [(15, 3), (0, 3)]))
def qb126_5 : QB := (36, [], (8, (36, .ireturn, 1, 0, 0, 0), []))
def qb126_6 : QB := (37, [(37, .aload_n 0, 1, 0, 0, 0), (38, .bipush 10, 2, 0, 0, 10), (40, .aload_n 0, 1, 0, 0, 0), (41, .getfield 197, 3, 20, 11, 0), (44, .imul, 1, 0, 0, 0), (45, .aload_n 0, 1, 0, 0, 0)], (5, (46, .invokevirtual 186, 3, 122, 7, 0), [(15, 1), (0, 1)]))
def qb126_7 : QB := (49, [(49, .iadd, 1, 0, 0, 0), (50, .bipush 48, 2, 0, 0, 48), (52, .isub, 1, 0, 0, 0), (53, .putfield 197, 3, 20, 11, 0), (56, .aload_n 0, 1, 0, 0, 0), (57, .aload_n 0, 1, 0, 0, 0), (58, .getfield 180, 3, 13, 11, 0), (61, .iconst 1, 1, 0, 0, 1), (62, .iadd, 1, 0, 0, 0), (63, .putfield 180, 3, 13, 11, 0)], (1, (66, .goto (-56), 3, 1, 0, 0), []))
def qb126_8 : QB := (69, [(69, .iconst 1, 1, 0, 0, 1)], (8, (70, .ireturn, 1, 0, 0, 0), []))
def qm126 : QM := (yX11_readsNumber, cX11_readsNumber, 2, (some .boolean), 22, 1, [qb126_0, qb126_1, qb126_2, qb126_3, qb126_4, qb126_5, qb126_6, qb126_7, qb126_8])
def qb127_0 : QB := (0, [(0, .aload_n 0, 1, 0, 0, 0), (1, .getfield 44, 3, 21, 11, 0), (4, .aload_n 0, 1, 0, 0, 0), (5, .getfield 204, 3, 17, 11, 0), (8, .ldc 207, 2, 0, 0, 1048576), (10, .iload_n 1, 1, 1, 0, 0), (11, .imul, 1, 0, 0, 0), (12, .iload_n 2, 1, 2, 0, 0), (13, .iadd, 1, 0, 0, 0), (14, .iastore, 1, 0, 0, 0), (15, .aload_n 0, 1, 0, 0, 0), (16, .aload_n 0, 1, 0, 0, 0), (17, .getfield 204, 3, 17, 11, 0), (20, .iconst 1, 1, 0, 0, 1), (21, .iadd, 1, 0, 0, 0), (22, .putfield 204, 3, 17, 11, 0)], (7, (25, .return_, 1, 0, 0, 0), []))
def qm127 : QM := (yX11_notes, cX11_notes, 3, none, 22, 3, [qb127_0])
def qb128_0 : QB := (0, [(0, .aload_n 0, 1, 0, 0, 0), (1, .getfield 208, 3, 16, 11, 0), (4, .bipush 6, 2, 0, 0, 6)], (3, (6, .if_icmp .ne 13, 3, 3, 1, 0), []))
def qb128_1 : QB := (9, [(9, .aload_n 0, 1, 0, 0, 0), (10, .iconst 5, 1, 0, 0, 5), (11, .aload_n 0, 1, 0, 0, 0), (12, .getfield 180, 3, 13, 11, 0)], (5, (15, .invokevirtual 193, 3, 124, 2, 0), [(15, 3), (0, 3)]))
def qb128_2 : QB := (18, [], (8, (18, .ireturn, 1, 0, 0, 0), []))
def qb128_3 : QB := (19, [(19, .aload_n 0, 1, 0, 0, 0), (20, .aload_n 0, 1, 0, 0, 0), (21, .getfield 208, 3, 16, 11, 0), (24, .iconst 1, 1, 0, 0, 1), (25, .iadd, 1, 0, 0, 0), (26, .putfield 208, 3, 16, 11, 0), (29, .aload_n 0, 1, 0, 0, 0), (30, .getfield 47, 3, 22, 11, 0), (33, .aload_n 0, 1, 0, 0, 0), (34, .getfield 211, 3, 18, 11, 0), (37, .ldc 207, 2, 0, 0, 1048576), (39, .iload_n 1, 1, 1, 0, 0), (40, .imul, 1, 0, 0, 0), (41, .iastore, 1, 0, 0, 0), (42, .aload_n 0, 1, 0, 0, 0), (43, .aload_n 0, 1, 0, 0, 0), (44, .getfield 211, 3, 18, 11, 0), (47, .iconst 1, 1, 0, 0, 1), (48, .iadd, 1, 0, 0, 0), (49, .putfield 211, 3, 18, 11, 0), (52, .aload_n 0, 1, 0, 0, 0), (53, .aload_n 0, 1, 0, 0, 0), (54, .getfield 180, 3, 13, 11, 0), (57, .iconst 1, 1, 0, 0, 1), (58, .iadd, 1, 0, 0, 0), (59, .putfield 180, 3, 13, 11, 0), (62, .iconst 1, 1, 0, 0, 1)], (8, (63, .ireturn, 1, 0, 0, 0), []))
def qm128 : QM := (yX11_opens, cX11_opens, 2, (some .boolean), 22, 2, [qb128_0, qb128_1, qb128_2, qb128_3])
def qb129_0 : QB := (0, [(0, .aload_n 0, 1, 0, 0, 0), (1, .getfield 211, 3, 18, 11, 0)], (2, (4, .ifCond .ne 7, 3, 2, 1, 0), []))
def qb129_1 : QB := (7, [(7, .iconst (-1), 1, 0, 0, (-1))], (1, (8, .goto 17, 3, 3, 0, 0), []))
def qb129_2 : QB := (11, [(11, .aload_n 0, 1, 0, 0, 0), (12, .getfield 47, 3, 22, 11, 0), (15, .aload_n 0, 1, 0, 0, 0), (16, .getfield 211, 3, 18, 11, 0), (19, .iconst 1, 1, 0, 0, 1), (20, .isub, 1, 0, 0, 0), (21, .iaload, 1, 0, 0, 0), (22, .ldc 207, 2, 0, 0, 1048576), (24, .idiv, 1, 0, 0, 0)], (0, (25, .nop, 0, 3, 0, 0), []))
def qb129_3 : QB := (25, [], (6, (25, .ireturn, 1, 0, 0, 0), []))
def qm129 : QM := (yX11_top, cX11_top, 1, (some .int), 22, 1, [qb129_0, qb129_1, qb129_2, qb129_3])
def qb130_0 : QB := (0, [(0, .iload_n 0, 1, 0, 0, 0)], (4, (1, .tableswitch 116 97 116 #[97, 116, 116, 103, 116, 116, 116, 105, 116, 116, 95, 116, 116, 116, 110, 113, 116, 99, 101, 107], 95, 10, 0, 0), [(97, 2), (98, 10), (99, 10), (100, 5), (101, 10), (102, 10), (103, 10), (104, 6), (105, 10), (106, 10), (107, 1), (108, 10), (109, 10), (110, 10), (111, 8), (112, 9), (113, 10), (114, 3), (115, 4), (116, 7)]))
def qb130_1 : QB := (96, [(96, .iconst 0, 1, 0, 0, 0)], (6, (97, .ireturn, 1, 0, 0, 0), []))
def qb130_2 : QB := (98, [(98, .iconst 1, 1, 0, 0, 1)], (6, (99, .ireturn, 1, 0, 0, 0), []))
def qb130_3 : QB := (100, [(100, .iconst 2, 1, 0, 0, 2)], (6, (101, .ireturn, 1, 0, 0, 0), []))
def qb130_4 : QB := (102, [(102, .iconst 3, 1, 0, 0, 3)], (6, (103, .ireturn, 1, 0, 0, 0), []))
def qb130_5 : QB := (104, [(104, .iconst 4, 1, 0, 0, 4)], (6, (105, .ireturn, 1, 0, 0, 0), []))
def qb130_6 : QB := (106, [(106, .iconst 5, 1, 0, 0, 5)], (6, (107, .ireturn, 1, 0, 0, 0), []))
def qb130_7 : QB := (108, [(108, .bipush 6, 2, 0, 0, 6)], (6, (110, .ireturn, 1, 0, 0, 0), []))
def qb130_8 : QB := (111, [(111, .bipush 7, 2, 0, 0, 7)], (6, (113, .ireturn, 1, 0, 0, 0), []))
def qb130_9 : QB := (114, [(114, .bipush 8, 2, 0, 0, 8)], (6, (116, .ireturn, 1, 0, 0, 0), []))
def qb130_10 : QB := (117, [(117, .iconst (-1), 1, 0, 0, (-1))], (6, (118, .ireturn, 1, 0, 0, 0), []))
def qm130 : QM := (yX11_factOf, cX11_factOf, 1, (some .int), 23, 1, [qb130_0, qb130_1, qb130_2, qb130_3, qb130_4, qb130_5, qb130_6, qb130_7, qb130_8, qb130_9, qb130_10])
def qb131_0 : QB := (0, [(0, .iload_n 0, 1, 0, 0, 0), (1, .bipush 43, 2, 0, 0, 43)], (3, (3, .if_icmp .ne 7, 3, 2, 1, 0), []))
def qb131_1 : QB := (6, [(6, .iconst 2, 1, 0, 0, 2)], (1, (7, .goto 45, 3, 11, 0, 0), []))
def qb131_2 : QB := (10, [(10, .iload_n 0, 1, 0, 0, 0), (11, .bipush 45, 2, 0, 0, 45)], (3, (13, .if_icmp .ne 7, 3, 4, 3, 0), []))
def qb131_3 : QB := (16, [(16, .iconst 3, 1, 0, 0, 3)], (1, (17, .goto 35, 3, 11, 0, 0), []))
def qb131_4 : QB := (20, [(20, .iload_n 0, 1, 0, 0, 0), (21, .bipush 42, 2, 0, 0, 42)], (3, (23, .if_icmp .ne 7, 3, 6, 5, 0), []))
def qb131_5 : QB := (26, [(26, .iconst 4, 1, 0, 0, 4)], (1, (27, .goto 25, 3, 11, 0, 0), []))
def qb131_6 : QB := (30, [(30, .iload_n 0, 1, 0, 0, 0), (31, .bipush 47, 2, 0, 0, 47)], (3, (33, .if_icmp .ne 7, 3, 8, 7, 0), []))
def qb131_7 : QB := (36, [(36, .iconst 5, 1, 0, 0, 5)], (1, (37, .goto 15, 3, 11, 0, 0), []))
def qb131_8 : QB := (40, [(40, .iload_n 0, 1, 0, 0, 0), (41, .bipush 37, 2, 0, 0, 37)], (3, (43, .if_icmp .ne 8, 3, 10, 9, 0), []))
def qb131_9 : QB := (46, [(46, .bipush 6, 2, 0, 0, 6)], (1, (48, .goto 4, 3, 11, 0, 0), []))
def qb131_10 : QB := (51, [(51, .iconst (-1), 1, 0, 0, (-1))], (0, (52, .nop, 0, 11, 0, 0), []))
def qb131_11 : QB := (52, [], (6, (52, .ireturn, 1, 0, 0, 0), []))
def qm131 : QM := (yX11_sumSign, cX11_sumSign, 1, (some .int), 23, 1, [qb131_0, qb131_1, qb131_2, qb131_3, qb131_4, qb131_5, qb131_6, qb131_7, qb131_8, qb131_9, qb131_10, qb131_11])
def qb132_0 : QB := (0, [(0, .aload_n 0, 1, 0, 0, 0)], (5, (1, .invokevirtual 214, 3, 129, 1, 0), [(15, 1), (0, 1)]))
def qb132_1 : QB := (4, [(4, .iconst 4, 1, 0, 0, 4)], (3, (5, .if_icmp .lt 12, 3, 4, 2, 0), []))
def qb132_2 : QB := (8, [(8, .aload_n 0, 1, 0, 0, 0)], (5, (9, .invokevirtual 214, 3, 129, 3, 0), [(15, 1), (0, 1)]))
def qb132_3 : QB := (12, [(12, .bipush 6, 2, 0, 0, 6)], (3, (14, .if_icmp .le 23, 3, 9, 4, 0), []))
def qb132_4 : QB := (17, [(17, .iload_n 1, 1, 1, 0, 0)], (2, (18, .ifCond .eq 41, 3, 12, 5, 0), []))
def qb132_5 : QB := (21, [(21, .aload_n 0, 1, 0, 0, 0)], (5, (22, .invokevirtual 214, 3, 129, 6, 0), [(15, 1), (0, 1)]))
def qb132_6 : QB := (25, [(25, .iconst 2, 1, 0, 0, 2)], (3, (26, .if_icmp .eq 11, 3, 9, 7, 0), []))
def qb132_7 : QB := (29, [(29, .aload_n 0, 1, 0, 0, 0)], (5, (30, .invokevirtual 214, 3, 129, 8, 0), [(15, 1), (0, 1)]))
def qb132_8 : QB := (33, [(33, .iconst 3, 1, 0, 0, 3)], (3, (34, .if_icmp .ne 25, 3, 12, 9, 0), []))
def qb132_9 : QB := (37, [(37, .aload_n 0, 1, 0, 0, 0), (38, .aload_n 0, 1, 0, 0, 0)], (5, (39, .invokevirtual 214, 3, 129, 10, 0), [(15, 1), (0, 1)]))
def qb132_10 : QB := (42, [(42, .iconst 0, 1, 0, 0, 0)], (5, (43, .invokevirtual 217, 3, 127, 11, 0), [(15, 3), (0, 3)]))
def qb132_11 : QB := (46, [(46, .aload_n 0, 1, 0, 0, 0), (47, .aload_n 0, 1, 0, 0, 0), (48, .getfield 211, 3, 18, 11, 0), (51, .iconst 1, 1, 0, 0, 1), (52, .isub, 1, 0, 0, 0), (53, .putfield 211, 3, 18, 11, 0)], (1, (56, .goto (-56), 3, 0, 0, 0), []))
def qb132_12 : QB := (59, [], (7, (59, .return_, 1, 0, 0, 0), []))
def qm132 : QM := (yX11_closesSums, cX11_closesSums, 2, none, 22, 2, [qb132_0, qb132_1, qb132_2, qb132_3, qb132_4, qb132_5, qb132_6, qb132_7, qb132_8, qb132_9, qb132_10, qb132_11, qb132_12])
def qb133_0 : QB := (0, [(0, .aload_n 0, 1, 0, 0, 0)], (5, (1, .invokevirtual 186, 3, 122, 1, 0), [(15, 1), (0, 1)]))
def qb133_1 : QB := (4, [(4, .bipush 91, 2, 0, 0, 91)], (3, (6, .if_icmp .ne 14, 3, 5, 2, 0), []))
def qb133_2 : QB := (9, [(9, .aload_n 0, 1, 0, 0, 0), (10, .bipush 14, 2, 0, 0, 14)], (5, (12, .invokevirtual 221, 3, 128, 3, 0), [(15, 2), (0, 2)]))
def qb133_3 : QB := (15, [], (2, (15, .ifCond .ne (-15), 3, 0, 4, 0), []))
def qb133_4 : QB := (18, [(18, .iconst 0, 1, 0, 0, 0)], (8, (19, .ireturn, 1, 0, 0, 0), []))
def qb133_5 : QB := (20, [(20, .aload_n 0, 1, 0, 0, 0)], (5, (21, .invokevirtual 200, 3, 123, 6, 0), [(15, 1), (0, 1)]))
def qb133_6 : QB := (24, [], (2, (24, .ifCond .eq 23, 3, 12, 7, 0), []))
def qb133_7 : QB := (27, [(27, .aload_n 0, 1, 0, 0, 0)], (5, (28, .invokevirtual 224, 3, 126, 8, 0), [(15, 1), (0, 2)]))
def qb133_8 : QB := (31, [], (2, (31, .ifCond .ne 5, 3, 10, 9, 0), []))
def qb133_9 : QB := (34, [(34, .iconst 0, 1, 0, 0, 0)], (8, (35, .ireturn, 1, 0, 0, 0), []))
def qb133_10 : QB := (36, [(36, .aload_n 0, 1, 0, 0, 0), (37, .iconst 0, 1, 0, 0, 0), (38, .aload_n 0, 1, 0, 0, 0), (39, .getfield 197, 3, 20, 11, 0)], (5, (42, .invokevirtual 217, 3, 127, 11, 0), [(15, 3), (0, 3)]))
def qb133_11 : QB := (45, [(45, .iconst 1, 1, 0, 0, 1)], (8, (46, .ireturn, 1, 0, 0, 0), []))
def qb133_12 : QB := (47, [(47, .aload_n 0, 1, 0, 0, 0)], (5, (48, .invokevirtual 186, 3, 122, 13, 0), [(15, 1), (0, 1)]))
def qb133_13 : QB := (51, [], (5, (51, .invokestatic 227, 3, 130, 14, 0), [(0, 1), (0, 1)]))
def qb133_14 : QB := (54, [(54, .istore_n 1, 1, 1, 0, 0), (55, .iload_n 1, 1, 1, 0, 0), (56, .iconst (-1), 1, 0, 0, (-1))], (3, (57, .if_icmp .ne 13, 3, 17, 15, 0), []))
def qb133_15 : QB := (60, [(60, .aload_n 0, 1, 0, 0, 0), (61, .iconst 1, 1, 0, 0, 1), (62, .aload_n 0, 1, 0, 0, 0), (63, .getfield 180, 3, 13, 11, 0)], (5, (66, .invokevirtual 193, 3, 124, 16, 0), [(15, 3), (0, 3)]))
def qb133_16 : QB := (69, [], (8, (69, .ireturn, 1, 0, 0, 0), []))
def qb133_17 : QB := (70, [(70, .aload_n 0, 1, 0, 0, 0), (71, .iconst 1, 1, 0, 0, 1), (72, .iload_n 1, 1, 1, 0, 0)], (5, (73, .invokevirtual 217, 3, 127, 18, 0), [(15, 3), (0, 3)]))
def qb133_18 : QB := (76, [(76, .aload_n 0, 1, 0, 0, 0), (77, .aload_n 0, 1, 0, 0, 0), (78, .getfield 180, 3, 13, 11, 0), (81, .iconst 1, 1, 0, 0, 1), (82, .iadd, 1, 0, 0, 0), (83, .putfield 180, 3, 13, 11, 0), (86, .iconst 1, 1, 0, 0, 1)], (8, (87, .ireturn, 1, 0, 0, 0), []))
def qm133 : QM := (yX11_readsFactor, cX11_readsFactor, 2, (some .boolean), 22, 1, [qb133_0, qb133_1, qb133_2, qb133_3, qb133_4, qb133_5, qb133_6, qb133_7, qb133_8, qb133_9, qb133_10, qb133_11, qb133_12, qb133_13, qb133_14, qb133_15, qb133_16, qb133_17, qb133_18])
def qb134_0 : QB := (0, [(0, .iload_n 1, 1, 1, 0, 0), (1, .istore_n 2, 1, 2, 0, 0)], (0, (2, .nop, 0, 1, 0, 0), []))
def qb134_1 : QB := (2, [(2, .iload_n 2, 1, 2, 0, 0), (3, .aload_n 0, 1, 0, 0, 0), (4, .getfield 211, 3, 18, 11, 0)], (3, (7, .if_icmp .ge 25, 3, 5, 2, 0), []))
def qb134_2 : QB := (10, [(10, .aload_n 0, 1, 0, 0, 0), (11, .getfield 47, 3, 22, 11, 0), (14, .iload_n 2, 1, 2, 0, 0), (15, .iaload, 1, 0, 0, 0), (16, .ldc 207, 2, 0, 0, 1048576), (18, .idiv, 1, 0, 0, 0), (19, .bipush 14, 2, 0, 0, 14)], (3, (21, .if_icmp .ne 5, 3, 4, 3, 0), []))
def qb134_3 : QB := (24, [(24, .iconst 1, 1, 0, 0, 1)], (8, (25, .ireturn, 1, 0, 0, 0), []))
def qb134_4 : QB := (26, [(26, .iinc 2 1, 3, 2, 0, 1)], (1, (29, .goto (-27), 3, 1, 0, 0), []))
def qb134_5 : QB := (32, [(32, .iconst 0, 1, 0, 0, 0)], (8, (33, .ireturn, 1, 0, 0, 0), []))
def qm134 : QM := (yX11_hasOpenSum, cX11_hasOpenSum, 3, (some .boolean), 22, 2, [qb134_0, qb134_1, qb134_2, qb134_3, qb134_4, qb134_5])
def qb135_0 : QB := (0, [(0, .aload_n 0, 1, 0, 0, 0), (1, .getfield 211, 3, 18, 11, 0), (4, .istore_n 1, 1, 1, 0, 0), (5, .aload_n 0, 1, 0, 0, 0)], (5, (6, .invokevirtual 231, 3, 133, 1, 0), [(15, 1), (0, 2)]))
def qb135_1 : QB := (9, [], (2, (9, .ifCond .ne 5, 3, 3, 2, 0), []))
def qb135_2 : QB := (12, [(12, .iconst 0, 1, 0, 0, 0)], (8, (13, .ireturn, 1, 0, 0, 0), []))
def qb135_3 : QB := (14, [(14, .aload_n 0, 1, 0, 0, 0)], (5, (15, .invokevirtual 186, 3, 122, 4, 0), [(15, 1), (0, 1)]))
def qb135_4 : QB := (18, [], (5, (18, .invokestatic 234, 3, 131, 5, 0), [(0, 1), (0, 1)]))
def qb135_5 : QB := (21, [(21, .istore_n 2, 1, 2, 0, 0), (22, .iload_n 2, 1, 2, 0, 0), (23, .iconst (-1), 1, 0, 0, (-1))], (3, (24, .if_icmp .eq 59, 3, 13, 6, 0), []))
def qb135_6 : QB := (27, [(27, .aload_n 0, 1, 0, 0, 0), (28, .iload_n 2, 1, 2, 0, 0), (29, .iconst 4, 1, 0, 0, 4)], (3, (30, .if_icmp .ge 7, 3, 8, 7, 0), []))
def qb135_7 : QB := (33, [(33, .iconst 1, 1, 0, 0, 1)], (1, (34, .goto 4, 3, 9, 0, 0), []))
def qb135_8 : QB := (37, [(37, .iconst 0, 1, 0, 0, 0)], (0, (38, .nop, 0, 9, 0, 0), []))
def qb135_9 : QB := (38, [], (5, (38, .invokevirtual 237, 3, 132, 10, 0), [(15, 2), (0, 2)]))
def qb135_10 : QB := (41, [(41, .aload_n 0, 1, 0, 0, 0), (42, .getfield 47, 3, 22, 11, 0), (45, .aload_n 0, 1, 0, 0, 0), (46, .getfield 211, 3, 18, 11, 0), (49, .ldc 207, 2, 0, 0, 1048576), (51, .iload_n 2, 1, 2, 0, 0), (52, .imul, 1, 0, 0, 0), (53, .iastore, 1, 0, 0, 0), (54, .aload_n 0, 1, 0, 0, 0), (55, .aload_n 0, 1, 0, 0, 0), (56, .getfield 211, 3, 18, 11, 0), (59, .iconst 1, 1, 0, 0, 1), (60, .iadd, 1, 0, 0, 0), (61, .putfield 211, 3, 18, 11, 0), (64, .aload_n 0, 1, 0, 0, 0), (65, .aload_n 0, 1, 0, 0, 0), (66, .getfield 180, 3, 13, 11, 0), (69, .iconst 1, 1, 0, 0, 1), (70, .iadd, 1, 0, 0, 0), (71, .putfield 180, 3, 13, 11, 0), (74, .aload_n 0, 1, 0, 0, 0)], (5, (75, .invokevirtual 231, 3, 133, 11, 0), [(15, 1), (0, 2)]))
def qb135_11 : QB := (78, [], (2, (78, .ifCond .ne 85, 3, 25, 12, 0), []))
def qb135_12 : QB := (81, [(81, .iconst 0, 1, 0, 0, 0)], (8, (82, .ireturn, 1, 0, 0, 0), []))
def qb135_13 : QB := (83, [(83, .aload_n 0, 1, 0, 0, 0)], (5, (84, .invokevirtual 186, 3, 122, 14, 0), [(15, 1), (0, 1)]))
def qb135_14 : QB := (87, [(87, .bipush 93, 2, 0, 0, 93)], (3, (89, .if_icmp .ne 49, 3, 19, 15, 0), []))
def qb135_15 : QB := (92, [(92, .aload_n 0, 1, 0, 0, 0), (93, .iload_n 1, 1, 1, 0, 0)], (5, (94, .invokevirtual 241, 3, 134, 16, 0), [(15, 2), (0, 3)]))
def qb135_16 : QB := (97, [], (2, (97, .ifCond .eq 41, 3, 19, 17, 0), []))
def qb135_17 : QB := (100, [(100, .aload_n 0, 1, 0, 0, 0), (101, .iconst 1, 1, 0, 0, 1)], (5, (102, .invokevirtual 237, 3, 132, 18, 0), [(15, 2), (0, 2)]))
def qb135_18 : QB := (105, [(105, .aload_n 0, 1, 0, 0, 0), (106, .aload_n 0, 1, 0, 0, 0), (107, .getfield 211, 3, 18, 11, 0), (110, .iconst 1, 1, 0, 0, 1), (111, .isub, 1, 0, 0, 0), (112, .putfield 211, 3, 18, 11, 0), (115, .aload_n 0, 1, 0, 0, 0), (116, .aload_n 0, 1, 0, 0, 0), (117, .getfield 208, 3, 16, 11, 0), (120, .iconst 1, 1, 0, 0, 1), (121, .isub, 1, 0, 0, 0), (122, .putfield 208, 3, 16, 11, 0), (125, .aload_n 0, 1, 0, 0, 0), (126, .aload_n 0, 1, 0, 0, 0), (127, .getfield 180, 3, 13, 11, 0), (130, .iconst 1, 1, 0, 0, 1), (131, .iadd, 1, 0, 0, 0), (132, .putfield 180, 3, 13, 11, 0)], (1, (135, .goto 28, 3, 25, 0, 0), []))
def qb135_19 : QB := (138, [(138, .aload_n 0, 1, 0, 0, 0), (139, .iload_n 1, 1, 1, 0, 0)], (5, (140, .invokevirtual 241, 3, 134, 20, 0), [(15, 2), (0, 3)]))
def qb135_20 : QB := (143, [], (2, (143, .ifCond .eq 13, 3, 23, 21, 0), []))
def qb135_21 : QB := (146, [(146, .aload_n 0, 1, 0, 0, 0), (147, .iconst 1, 1, 0, 0, 1), (148, .aload_n 0, 1, 0, 0, 0), (149, .getfield 180, 3, 13, 11, 0)], (5, (152, .invokevirtual 193, 3, 124, 22, 0), [(15, 3), (0, 3)]))
def qb135_22 : QB := (155, [], (8, (155, .ireturn, 1, 0, 0, 0), []))
def qb135_23 : QB := (156, [(156, .aload_n 0, 1, 0, 0, 0), (157, .iconst 1, 1, 0, 0, 1)], (5, (158, .invokevirtual 237, 3, 132, 24, 0), [(15, 2), (0, 2)]))
def qb135_24 : QB := (161, [(161, .iconst 1, 1, 0, 0, 1)], (8, (162, .ireturn, 1, 0, 0, 0), []))
def qb135_25 : QB := (163, [], (1, (163, .goto (-149), 3, 3, 0, 0), []))
def qm135 : QM := (yX11_readsSum, cX11_readsSum, 3, (some .boolean), 22, 1, [qb135_0, qb135_1, qb135_2, qb135_3, qb135_4, qb135_5, qb135_6, qb135_7, qb135_8, qb135_9, qb135_10, qb135_11, qb135_12, qb135_13, qb135_14, qb135_15, qb135_16, qb135_17, qb135_18, qb135_19, qb135_20, qb135_21, qb135_22, qb135_23, qb135_24, qb135_25])
def qb136_0 : QB := (0, [(0, .aload_n 0, 1, 0, 0, 0)], (5, (1, .invokevirtual 214, 3, 129, 1, 0), [(15, 1), (0, 1)]))
def qb136_1 : QB := (4, [(4, .bipush 10, 2, 0, 0, 10)], (3, (6, .if_icmp .ne 33, 3, 4, 2, 0), []))
def qb136_2 : QB := (9, [(9, .aload_n 0, 1, 0, 0, 0), (10, .bipush 10, 2, 0, 0, 10), (12, .iconst 0, 1, 0, 0, 0)], (5, (13, .invokevirtual 217, 3, 127, 3, 0), [(15, 3), (0, 3)]))
def qb136_3 : QB := (16, [(16, .aload_n 0, 1, 0, 0, 0), (17, .aload_n 0, 1, 0, 0, 0), (18, .getfield 211, 3, 18, 11, 0), (21, .iconst 1, 1, 0, 0, 1), (22, .isub, 1, 0, 0, 0), (23, .putfield 211, 3, 18, 11, 0), (26, .aload_n 0, 1, 0, 0, 0), (27, .aload_n 0, 1, 0, 0, 0), (28, .getfield 208, 3, 16, 11, 0), (31, .iconst 1, 1, 0, 0, 1), (32, .isub, 1, 0, 0, 0), (33, .putfield 208, 3, 16, 11, 0)], (1, (36, .goto (-36), 3, 0, 0, 0), []))
def qb136_4 : QB := (39, [], (7, (39, .return_, 1, 0, 0, 0), []))
def qm136 : QM := (yX11_endsPiece, cX11_endsPiece, 1, none, 22, 1, [qb136_0, qb136_1, qb136_2, qb136_3, qb136_4])
def qb137_0 : QB := (0, [(0, .aload_n 0, 1, 0, 0, 0)], (5, (1, .invokevirtual 214, 3, 129, 1, 0), [(15, 1), (0, 1)]))
def qb137_1 : QB := (4, [(4, .bipush 11, 2, 0, 0, 11)], (3, (6, .if_icmp .eq 16, 3, 5, 2, 0), []))
def qb137_2 : QB := (9, [(9, .iload_n 1, 1, 1, 0, 0)], (2, (10, .ifCond .eq 63, 3, 6, 3, 0), []))
def qb137_3 : QB := (13, [(13, .aload_n 0, 1, 0, 0, 0)], (5, (14, .invokevirtual 214, 3, 129, 4, 0), [(15, 1), (0, 1)]))
def qb137_4 : QB := (17, [(17, .bipush 12, 2, 0, 0, 12)], (3, (19, .if_icmp .ne 54, 3, 6, 5, 0), []))
def qb137_5 : QB := (22, [(22, .aload_n 0, 1, 0, 0, 0), (23, .getfield 47, 3, 22, 11, 0), (26, .aload_n 0, 1, 0, 0, 0), (27, .getfield 211, 3, 18, 11, 0), (30, .iconst 1, 1, 0, 0, 1), (31, .isub, 1, 0, 0, 0), (32, .iaload, 1, 0, 0, 0), (33, .ldc 207, 2, 0, 0, 1048576), (35, .irem, 1, 0, 0, 0), (36, .istore_n 2, 1, 2, 0, 0), (37, .aload_n 0, 1, 0, 0, 0), (38, .getfield 44, 3, 21, 11, 0), (41, .iload_n 2, 1, 2, 0, 0), (42, .ldc 207, 2, 0, 0, 1048576), (44, .aload_n 0, 1, 0, 0, 0), (45, .getfield 44, 3, 21, 11, 0), (48, .iload_n 2, 1, 2, 0, 0), (49, .iaload, 1, 0, 0, 0), (50, .ldc 207, 2, 0, 0, 1048576), (52, .idiv, 1, 0, 0, 0), (53, .imul, 1, 0, 0, 0), (54, .aload_n 0, 1, 0, 0, 0), (55, .getfield 204, 3, 17, 11, 0), (58, .iadd, 1, 0, 0, 0), (59, .iastore, 1, 0, 0, 0), (60, .aload_n 0, 1, 0, 0, 0), (61, .aload_n 0, 1, 0, 0, 0), (62, .getfield 211, 3, 18, 11, 0), (65, .iconst 1, 1, 0, 0, 1), (66, .isub, 1, 0, 0, 0), (67, .putfield 211, 3, 18, 11, 0)], (1, (70, .goto (-70), 3, 0, 0, 0), []))
def qb137_6 : QB := (73, [], (7, (73, .return_, 1, 0, 0, 0), []))
def qm137 : QM := (yX11_lands, cX11_lands, 3, none, 22, 2, [qb137_0, qb137_1, qb137_2, qb137_3, qb137_4, qb137_5, qb137_6])
def qb138_0 : QB := (0, [(0, .aload_n 0, 1, 0, 0, 0), (1, .getfield 47, 3, 22, 11, 0), (4, .aload_n 0, 1, 0, 0, 0), (5, .getfield 211, 3, 18, 11, 0), (8, .ldc 207, 2, 0, 0, 1048576), (10, .iload_n 1, 1, 1, 0, 0), (11, .imul, 1, 0, 0, 0), (12, .aload_n 0, 1, 0, 0, 0), (13, .getfield 204, 3, 17, 11, 0), (16, .iadd, 1, 0, 0, 0), (17, .iastore, 1, 0, 0, 0), (18, .aload_n 0, 1, 0, 0, 0), (19, .aload_n 0, 1, 0, 0, 0), (20, .getfield 211, 3, 18, 11, 0), (23, .iconst 1, 1, 0, 0, 1), (24, .iadd, 1, 0, 0, 0), (25, .putfield 211, 3, 18, 11, 0), (28, .aload_n 0, 1, 0, 0, 0), (29, .iload_n 1, 1, 1, 0, 0), (30, .iconst 0, 1, 0, 0, 0)], (5, (31, .invokevirtual 217, 3, 127, 1, 0), [(15, 3), (0, 3)]))
def qb138_1 : QB := (34, [(34, .aload_n 0, 1, 0, 0, 0), (35, .aload_n 0, 1, 0, 0, 0), (36, .getfield 180, 3, 13, 11, 0), (39, .iconst 1, 1, 0, 0, 1), (40, .iadd, 1, 0, 0, 0), (41, .putfield 180, 3, 13, 11, 0)], (7, (44, .return_, 1, 0, 0, 0), []))
def qm138 : QM := (yX11_jumps, cX11_jumps, 2, none, 22, 2, [qb138_0, qb138_1])
def qb139_0 : QB := (0, [(0, .aload_n 0, 1, 0, 0, 0)], (5, (1, .invokevirtual 244, 3, 135, 1, 0), [(15, 1), (0, 3)]))
def qb139_1 : QB := (4, [], (2, (4, .ifCond .ne 5, 3, 3, 2, 0), []))
def qb139_2 : QB := (7, [(7, .iconst 0, 1, 0, 0, 0)], (8, (8, .ireturn, 1, 0, 0, 0), []))
def qb139_3 : QB := (9, [(9, .aload_n 0, 1, 0, 0, 0)], (5, (10, .invokevirtual 186, 3, 122, 4, 0), [(15, 1), (0, 1)]))
def qb139_4 : QB := (13, [(13, .bipush 60, 2, 0, 0, 60)], (3, (15, .if_icmp .ne 8, 3, 6, 5, 0), []))
def qb139_5 : QB := (18, [(18, .bipush 7, 2, 0, 0, 7)], (1, (20, .goto 32, 3, 13, 0, 0), []))
def qb139_6 : QB := (23, [(23, .aload_n 0, 1, 0, 0, 0)], (5, (24, .invokevirtual 186, 3, 122, 7, 0), [(15, 1), (0, 1)]))
def qb139_7 : QB := (27, [(27, .bipush 62, 2, 0, 0, 62)], (3, (29, .if_icmp .ne 8, 3, 9, 8, 0), []))
def qb139_8 : QB := (32, [(32, .bipush 8, 2, 0, 0, 8)], (1, (34, .goto 18, 3, 13, 0, 0), []))
def qb139_9 : QB := (37, [(37, .aload_n 0, 1, 0, 0, 0)], (5, (38, .invokevirtual 186, 3, 122, 10, 0), [(15, 1), (0, 1)]))
def qb139_10 : QB := (41, [(41, .bipush 61, 2, 0, 0, 61)], (3, (43, .if_icmp .ne 8, 3, 12, 11, 0), []))
def qb139_11 : QB := (46, [(46, .bipush 9, 2, 0, 0, 9)], (1, (48, .goto 4, 3, 13, 0, 0), []))
def qb139_12 : QB := (51, [(51, .iconst (-1), 1, 0, 0, (-1))], (0, (52, .nop, 0, 13, 0, 0), []))
def qb139_13 : QB := (52, [(52, .istore_n 1, 1, 1, 0, 0), (53, .iload_n 1, 1, 1, 0, 0), (54, .iconst (-1), 1, 0, 0, (-1))], (3, (55, .if_icmp .ne 13, 3, 16, 14, 0), []))
def qb139_14 : QB := (58, [(58, .aload_n 0, 1, 0, 0, 0), (59, .iconst 1, 1, 0, 0, 1), (60, .aload_n 0, 1, 0, 0, 0), (61, .getfield 180, 3, 13, 11, 0)], (5, (64, .invokevirtual 193, 3, 124, 15, 0), [(15, 3), (0, 3)]))
def qb139_15 : QB := (67, [], (8, (67, .ireturn, 1, 0, 0, 0), []))
def qb139_16 : QB := (68, [(68, .aload_n 0, 1, 0, 0, 0), (69, .aload_n 0, 1, 0, 0, 0), (70, .getfield 180, 3, 13, 11, 0), (73, .iconst 1, 1, 0, 0, 1), (74, .iadd, 1, 0, 0, 0), (75, .putfield 180, 3, 13, 11, 0), (78, .aload_n 0, 1, 0, 0, 0)], (5, (79, .invokevirtual 244, 3, 135, 17, 0), [(15, 1), (0, 3)]))
def qb139_17 : QB := (82, [], (2, (82, .ifCond .ne 5, 3, 19, 18, 0), []))
def qb139_18 : QB := (85, [(85, .iconst 0, 1, 0, 0, 0)], (8, (86, .ireturn, 1, 0, 0, 0), []))
def qb139_19 : QB := (87, [(87, .aload_n 0, 1, 0, 0, 0), (88, .iload_n 1, 1, 1, 0, 0), (89, .iconst 0, 1, 0, 0, 0)], (5, (90, .invokevirtual 217, 3, 127, 20, 0), [(15, 3), (0, 3)]))
def qb139_20 : QB := (93, [(93, .aload_n 0, 1, 0, 0, 0)], (5, (94, .invokevirtual 247, 3, 136, 21, 0), [(15, 1), (0, 1)]))
def qb139_21 : QB := (97, [(97, .iconst 1, 1, 0, 0, 1)], (8, (98, .ireturn, 1, 0, 0, 0), []))
def qm139 : QM := (yX11_readsCompared, cX11_readsCompared, 2, (some .boolean), 22, 1, [qb139_0, qb139_1, qb139_2, qb139_3, qb139_4, qb139_5, qb139_6, qb139_7, qb139_8, qb139_9, qb139_10, qb139_11, qb139_12, qb139_13, qb139_14, qb139_15, qb139_16, qb139_17, qb139_18, qb139_19, qb139_20, qb139_21])
end
section
def qb140_0 : QB := (0, [(0, .aload_n 0, 1, 0, 0, 0)], (5, (1, .invokevirtual 186, 3, 122, 1, 0), [(15, 1), (0, 1)]))
def qb140_1 : QB := (4, [(4, .bipush 40, 2, 0, 0, 40)], (3, (6, .if_icmp .eq 13, 3, 4, 2, 0), []))
def qb140_2 : QB := (9, [(9, .aload_n 0, 1, 0, 0, 0), (10, .iconst 1, 1, 0, 0, 1), (11, .aload_n 0, 1, 0, 0, 0), (12, .getfield 180, 3, 13, 11, 0)], (5, (15, .invokevirtual 193, 3, 124, 3, 0), [(15, 3), (0, 3)]))
def qb140_3 : QB := (18, [], (8, (18, .ireturn, 1, 0, 0, 0), []))
def qb140_4 : QB := (19, [(19, .aload_n 0, 1, 0, 0, 0), (20, .iconst 0, 1, 0, 0, 0), (21, .putfield 208, 3, 16, 11, 0), (24, .aload_n 0, 1, 0, 0, 0), (25, .iconst 0, 1, 0, 0, 0), (26, .putfield 211, 3, 18, 11, 0), (29, .aload_n 0, 1, 0, 0, 0), (30, .bipush 13, 2, 0, 0, 13)], (5, (32, .invokevirtual 221, 3, 128, 5, 0), [(15, 2), (0, 2)]))
def qb140_5 : QB := (35, [], (2, (35, .ifCond .ne 5, 3, 7, 6, 0), []))
def qb140_6 : QB := (38, [(38, .iconst 0, 1, 0, 0, 0)], (8, (39, .ireturn, 1, 0, 0, 0), []))
def qb140_7 : QB := (40, [(40, .aload_n 0, 1, 0, 0, 0)], (5, (41, .invokevirtual 186, 3, 122, 8, 0), [(15, 1), (0, 1)]))
def qb140_8 : QB := (44, [(44, .bipush 33, 2, 0, 0, 33)], (3, (46, .if_icmp .eq 12, 3, 11, 9, 0), []))
def qb140_9 : QB := (49, [(49, .aload_n 0, 1, 0, 0, 0)], (5, (50, .invokevirtual 186, 3, 122, 10, 0), [(15, 1), (0, 1)]))
def qb140_10 : QB := (53, [(53, .bipush 40, 2, 0, 0, 40)], (3, (55, .if_icmp .ne 28, 3, 18, 11, 0), []))
def qb140_11 : QB := (58, [(58, .aload_n 0, 1, 0, 0, 0), (59, .aload_n 0, 1, 0, 0, 0)], (5, (60, .invokevirtual 186, 3, 122, 12, 0), [(15, 1), (0, 1)]))
def qb140_12 : QB := (63, [(63, .bipush 33, 2, 0, 0, 33)], (3, (65, .if_icmp .ne 8, 3, 14, 13, 0), []))
def qb140_13 : QB := (68, [(68, .bipush 10, 2, 0, 0, 10)], (1, (70, .goto 5, 3, 15, 0, 0), []))
def qb140_14 : QB := (73, [(73, .bipush 13, 2, 0, 0, 13)], (0, (75, .nop, 0, 15, 0, 0), []))
def qb140_15 : QB := (75, [], (5, (75, .invokevirtual 221, 3, 128, 16, 0), [(15, 2), (0, 2)]))
def qb140_16 : QB := (78, [], (2, (78, .ifCond .ne (-38), 3, 7, 17, 0), []))
def qb140_17 : QB := (81, [(81, .iconst 0, 1, 0, 0, 0)], (8, (82, .ireturn, 1, 0, 0, 0), []))
def qb140_18 : QB := (83, [(83, .aload_n 0, 1, 0, 0, 0)], (5, (84, .invokevirtual 250, 3, 139, 19, 0), [(15, 1), (0, 2)]))
def qb140_19 : QB := (87, [], (2, (87, .ifCond .ne 5, 3, 21, 20, 0), []))
def qb140_20 : QB := (90, [(90, .iconst 0, 1, 0, 0, 0)], (8, (91, .ireturn, 1, 0, 0, 0), []))
def qb140_21 : QB := (92, [(92, .aload_n 0, 1, 0, 0, 0)], (5, (93, .invokevirtual 186, 3, 122, 22, 0), [(15, 1), (0, 1)]))
def qb140_22 : QB := (96, [(96, .bipush 41, 2, 0, 0, 41)], (3, (98, .if_icmp .ne 54, 3, 28, 23, 0), []))
def qb140_23 : QB := (101, [(101, .aload_n 0, 1, 0, 0, 0), (102, .iconst 1, 1, 0, 0, 1)], (5, (103, .invokevirtual 253, 3, 137, 24, 0), [(15, 2), (0, 3)]))
def qb140_24 : QB := (106, [(106, .aload_n 0, 1, 0, 0, 0), (107, .aload_n 0, 1, 0, 0, 0), (108, .getfield 211, 3, 18, 11, 0), (111, .iconst 1, 1, 0, 0, 1), (112, .isub, 1, 0, 0, 0), (113, .putfield 211, 3, 18, 11, 0), (116, .aload_n 0, 1, 0, 0, 0), (117, .aload_n 0, 1, 0, 0, 0), (118, .getfield 208, 3, 16, 11, 0), (121, .iconst 1, 1, 0, 0, 1), (122, .isub, 1, 0, 0, 0), (123, .putfield 208, 3, 16, 11, 0), (126, .aload_n 0, 1, 0, 0, 0), (127, .aload_n 0, 1, 0, 0, 0), (128, .getfield 180, 3, 13, 11, 0), (131, .iconst 1, 1, 0, 0, 1), (132, .iadd, 1, 0, 0, 0), (133, .putfield 180, 3, 13, 11, 0), (136, .aload_n 0, 1, 0, 0, 0), (137, .getfield 211, 3, 18, 11, 0)], (2, (140, .ifCond .ne 5, 3, 26, 25, 0), []))
def qb140_25 : QB := (143, [(143, .iconst 1, 1, 0, 0, 1)], (8, (144, .ireturn, 1, 0, 0, 0), []))
def qb140_26 : QB := (145, [(145, .aload_n 0, 1, 0, 0, 0)], (5, (146, .invokevirtual 247, 3, 136, 27, 0), [(15, 1), (0, 1)]))
def qb140_27 : QB := (149, [], (1, (149, .goto (-57), 3, 21, 0, 0), []))
def qb140_28 : QB := (152, [(152, .aload_n 0, 1, 0, 0, 0)], (5, (153, .invokevirtual 186, 3, 122, 29, 0), [(15, 1), (0, 1)]))
def qb140_29 : QB := (156, [(156, .bipush 38, 2, 0, 0, 38)], (3, (158, .if_icmp .eq 22, 3, 34, 30, 0), []))
def qb140_30 : QB := (161, [(161, .aload_n 0, 1, 0, 0, 0)], (5, (162, .invokevirtual 186, 3, 122, 31, 0), [(15, 1), (0, 1)]))
def qb140_31 : QB := (165, [(165, .bipush 124, 2, 0, 0, 124)], (3, (167, .if_icmp .eq 13, 3, 34, 32, 0), []))
def qb140_32 : QB := (170, [(170, .aload_n 0, 1, 0, 0, 0), (171, .iconst 1, 1, 0, 0, 1), (172, .aload_n 0, 1, 0, 0, 0), (173, .getfield 180, 3, 13, 11, 0)], (5, (176, .invokevirtual 193, 3, 124, 33, 0), [(15, 3), (0, 3)]))
def qb140_33 : QB := (179, [], (8, (179, .ireturn, 1, 0, 0, 0), []))
def qb140_34 : QB := (180, [(180, .aload_n 0, 1, 0, 0, 0), (181, .aload_n 0, 1, 0, 0, 0)], (5, (182, .invokevirtual 186, 3, 122, 35, 0), [(15, 1), (0, 1)]))
def qb140_35 : QB := (185, [(185, .bipush 124, 2, 0, 0, 124)], (3, (187, .if_icmp .ne 7, 3, 37, 36, 0), []))
def qb140_36 : QB := (190, [(190, .iconst 1, 1, 0, 0, 1)], (1, (191, .goto 4, 3, 38, 0, 0), []))
def qb140_37 : QB := (194, [(194, .iconst 0, 1, 0, 0, 0)], (0, (195, .nop, 0, 38, 0, 0), []))
def qb140_38 : QB := (195, [], (5, (195, .invokevirtual 253, 3, 137, 39, 0), [(15, 2), (0, 3)]))
def qb140_39 : QB := (198, [(198, .aload_n 0, 1, 0, 0, 0), (199, .aload_n 0, 1, 0, 0, 0)], (5, (200, .invokevirtual 186, 3, 122, 40, 0), [(15, 1), (0, 1)]))
def qb140_40 : QB := (203, [(203, .bipush 38, 2, 0, 0, 38)], (3, (205, .if_icmp .ne 8, 3, 42, 41, 0), []))
def qb140_41 : QB := (208, [(208, .bipush 11, 2, 0, 0, 11)], (1, (210, .goto 5, 3, 43, 0, 0), []))
def qb140_42 : QB := (213, [(213, .bipush 12, 2, 0, 0, 12)], (0, (215, .nop, 0, 43, 0, 0), []))
def qb140_43 : QB := (215, [], (5, (215, .invokevirtual 256, 3, 138, 44, 0), [(15, 2), (0, 2)]))
def qb140_44 : QB := (218, [], (1, (218, .goto (-178), 3, 7, 0, 0), []))
def qm140 : QM := (yX11_readsCondition, cX11_readsCondition, 1, (some .boolean), 22, 1, [qb140_0, qb140_1, qb140_2, qb140_3, qb140_4, qb140_5, qb140_6, qb140_7, qb140_8, qb140_9, qb140_10, qb140_11, qb140_12, qb140_13, qb140_14, qb140_15, qb140_16, qb140_17, qb140_18, qb140_19, qb140_20, qb140_21, qb140_22, qb140_23, qb140_24, qb140_25, qb140_26, qb140_27, qb140_28, qb140_29, qb140_30, qb140_31, qb140_32, qb140_33, qb140_34, qb140_35, qb140_36, qb140_37, qb140_38, qb140_39, qb140_40, qb140_41, qb140_42, qb140_43, qb140_44])
def qb141_0 : QB := (0, [(0, .iload_n 0, 1, 0, 0, 0), (1, .bipush 110, 2, 0, 0, 110)], (3, (3, .if_icmp .eq 39, 3, 7, 1, 0), []))
def qb141_1 : QB := (6, [(6, .iload_n 0, 1, 0, 0, 0), (7, .bipush 115, 2, 0, 0, 115)], (3, (9, .if_icmp .eq 33, 3, 7, 2, 0), []))
def qb141_2 : QB := (12, [(12, .iload_n 0, 1, 0, 0, 0), (13, .bipush 100, 2, 0, 0, 100)], (3, (15, .if_icmp .eq 27, 3, 7, 3, 0), []))
def qb141_3 : QB := (18, [(18, .iload_n 0, 1, 0, 0, 0), (19, .bipush 104, 2, 0, 0, 104)], (3, (21, .if_icmp .eq 21, 3, 7, 4, 0), []))
def qb141_4 : QB := (24, [(24, .iload_n 0, 1, 0, 0, 0), (25, .bipush 119, 2, 0, 0, 119)], (3, (27, .if_icmp .eq 15, 3, 7, 5, 0), []))
def qb141_5 : QB := (30, [(30, .iload_n 0, 1, 0, 0, 0), (31, .bipush 102, 2, 0, 0, 102)], (3, (33, .if_icmp .eq 9, 3, 7, 6, 0), []))
def qb141_6 : QB := (36, [(36, .iload_n 0, 1, 0, 0, 0), (37, .bipush 99, 2, 0, 0, 99)], (3, (39, .if_icmp .ne 7, 3, 8, 7, 0), []))
def qb141_7 : QB := (42, [(42, .iconst 1, 1, 0, 0, 1)], (1, (43, .goto 4, 3, 9, 0, 0), []))
def qb141_8 : QB := (46, [(46, .iconst 0, 1, 0, 0, 0)], (0, (47, .nop, 0, 9, 0, 0), []))
def qb141_9 : QB := (47, [], (8, (47, .ireturn, 1, 0, 0, 0), []))
def qm141 : QM := (yX11_isClause, cX11_isClause, 1, (some .boolean), 23, 1, [qb141_0, qb141_1, qb141_2, qb141_3, qb141_4, qb141_5, qb141_6, qb141_7, qb141_8, qb141_9])
def qb142_0 : QB := (0, [(0, .aload_n 0, 1, 0, 0, 0)], (5, (1, .invokevirtual 186, 3, 122, 1, 0), [(15, 1), (0, 1)]))
def qb142_1 : QB := (4, [(4, .istore_n 1, 1, 1, 0, 0), (5, .iload_n 1, 1, 1, 0, 0)], (5, (6, .invokestatic 259, 3, 141, 2, 0), [(0, 1), (0, 1)]))
def qb142_2 : QB := (9, [], (2, (9, .ifCond .ne 13, 3, 5, 3, 0), []))
def qb142_3 : QB := (12, [(12, .aload_n 0, 1, 0, 0, 0), (13, .iconst 1, 1, 0, 0, 1), (14, .aload_n 0, 1, 0, 0, 0), (15, .getfield 180, 3, 13, 11, 0)], (5, (18, .invokevirtual 193, 3, 124, 4, 0), [(15, 3), (0, 3)]))
def qb142_4 : QB := (21, [], (8, (21, .ireturn, 1, 0, 0, 0), []))
def qb142_5 : QB := (22, [(22, .aload_n 0, 1, 0, 0, 0), (23, .getfield 262, 3, 19, 11, 0), (26, .bipush 14, 2, 0, 0, 14)], (3, (28, .if_icmp .ne 13, 3, 8, 6, 0), []))
def qb142_6 : QB := (31, [(31, .aload_n 0, 1, 0, 0, 0), (32, .iconst 4, 1, 0, 0, 4), (33, .aload_n 0, 1, 0, 0, 0), (34, .getfield 180, 3, 13, 11, 0)], (5, (37, .invokevirtual 193, 3, 124, 7, 0), [(15, 3), (0, 3)]))
def qb142_7 : QB := (40, [], (8, (40, .ireturn, 1, 0, 0, 0), []))
def qb142_8 : QB := (41, [(41, .aload_n 0, 1, 0, 0, 0), (42, .getfield 50, 3, 23, 11, 0), (45, .aload_n 0, 1, 0, 0, 0), (46, .getfield 262, 3, 19, 11, 0), (49, .iload_n 1, 1, 1, 0, 0), (50, .iastore, 1, 0, 0, 0), (51, .aload_n 0, 1, 0, 0, 0), (52, .aload_n 0, 1, 0, 0, 0), (53, .getfield 180, 3, 13, 11, 0), (56, .iconst 1, 1, 0, 0, 1), (57, .iadd, 1, 0, 0, 0), (58, .putfield 180, 3, 13, 11, 0), (61, .aload_n 0, 1, 0, 0, 0), (62, .getfield 53, 3, 24, 11, 0), (65, .aload_n 0, 1, 0, 0, 0), (66, .getfield 262, 3, 19, 11, 0), (69, .aload_n 0, 1, 0, 0, 0), (70, .getfield 204, 3, 17, 11, 0), (73, .iastore, 1, 0, 0, 0), (74, .aload_n 0, 1, 0, 0, 0), (75, .iconst 0, 1, 0, 0, 0), (76, .putfield 208, 3, 16, 11, 0), (79, .aload_n 0, 1, 0, 0, 0), (80, .iconst 0, 1, 0, 0, 0), (81, .putfield 211, 3, 18, 11, 0), (84, .iload_n 1, 1, 1, 0, 0), (85, .bipush 110, 2, 0, 0, 110)], (3, (87, .if_icmp .eq 12, 3, 12, 9, 0), []))
def qb142_9 : QB := (90, [(90, .aload_n 0, 1, 0, 0, 0)], (5, (91, .invokevirtual 244, 3, 135, 10, 0), [(15, 1), (0, 3)]))
def qb142_10 : QB := (94, [], (2, (94, .ifCond .ne 5, 3, 12, 11, 0), []))
def qb142_11 : QB := (97, [(97, .iconst 0, 1, 0, 0, 0)], (8, (98, .ireturn, 1, 0, 0, 0), []))
def qb142_12 : QB := (99, [(99, .aload_n 0, 1, 0, 0, 0), (100, .getfield 56, 3, 25, 11, 0), (103, .aload_n 0, 1, 0, 0, 0), (104, .getfield 262, 3, 19, 11, 0), (107, .aload_n 0, 1, 0, 0, 0), (108, .getfield 204, 3, 17, 11, 0), (111, .iastore, 1, 0, 0, 0), (112, .aload_n 0, 1, 0, 0, 0)], (5, (113, .invokevirtual 265, 3, 140, 13, 0), [(15, 1), (0, 1)]))
def qb142_13 : QB := (116, [], (2, (116, .ifCond .ne 5, 3, 15, 14, 0), []))
def qb142_14 : QB := (119, [(119, .iconst 0, 1, 0, 0, 0)], (8, (120, .ireturn, 1, 0, 0, 0), []))
def qb142_15 : QB := (121, [(121, .aload_n 0, 1, 0, 0, 0), (122, .getfield 59, 3, 26, 11, 0), (125, .aload_n 0, 1, 0, 0, 0), (126, .getfield 262, 3, 19, 11, 0), (129, .aload_n 0, 1, 0, 0, 0), (130, .getfield 204, 3, 17, 11, 0), (133, .iastore, 1, 0, 0, 0), (134, .aload_n 0, 1, 0, 0, 0), (135, .aload_n 0, 1, 0, 0, 0), (136, .getfield 262, 3, 19, 11, 0), (139, .iconst 1, 1, 0, 0, 1), (140, .iadd, 1, 0, 0, 0), (141, .putfield 262, 3, 19, 11, 0), (144, .iconst 1, 1, 0, 0, 1)], (8, (145, .ireturn, 1, 0, 0, 0), []))
def qm142 : QM := (yX11_readsClause, cX11_readsClause, 2, (some .boolean), 22, 1, [qb142_0, qb142_1, qb142_2, qb142_3, qb142_4, qb142_5, qb142_6, qb142_7, qb142_8, qb142_9, qb142_10, qb142_11, qb142_12, qb142_13, qb142_14, qb142_15])
def qb143_0 : QB := (0, [(0, .iload_n 1, 1, 1, 0, 0), (1, .iconst 0, 1, 0, 0, 0), (2, .iconst 1, 1, 0, 0, 1)], (5, (3, .invokestatic 169, 3, 112, 1, 0), [(0, 3), (0, 3)]))
def qb143_1 : QB := (6, [], (2, (6, .ifCond .eq 22, 3, 5, 2, 0), []))
def qb143_2 : QB := (9, [(9, .iload_n 2, 1, 2, 0, 0), (10, .iconst 1, 1, 0, 0, 1), (11, .sipush 200, 3, 0, 0, 200)], (5, (14, .invokestatic 169, 3, 112, 3, 0), [(0, 3), (0, 3)]))
def qb143_3 : QB := (17, [], (2, (17, .ifCond .eq 11, 3, 5, 4, 0), []))
def qb143_4 : QB := (20, [(20, .iload_n 2, 1, 2, 0, 0), (21, .aload_n 0, 1, 0, 0, 0), (22, .getfield 173, 3, 12, 11, 0)], (3, (25, .if_icmp .le 5, 3, 6, 5, 0), []))
def qb143_5 : QB := (28, [(28, .iconst (-1), 1, 0, 0, (-1))], (6, (29, .ireturn, 1, 0, 0, 0), []))
def qb143_6 : QB := (30, [(30, .aload_n 0, 1, 0, 0, 0), (31, .iconst 0, 1, 0, 0, 0), (32, .putfield 180, 3, 13, 11, 0), (35, .aload_n 0, 1, 0, 0, 0), (36, .iload_n 2, 1, 2, 0, 0), (37, .putfield 183, 3, 14, 11, 0), (40, .aload_n 0, 1, 0, 0, 0), (41, .iconst 0, 1, 0, 0, 0), (42, .putfield 204, 3, 17, 11, 0), (45, .aload_n 0, 1, 0, 0, 0), (46, .iconst 0, 1, 0, 0, 0), (47, .putfield 262, 3, 19, 11, 0), (50, .aload_n 0, 1, 0, 0, 0)], (5, (51, .invokevirtual 268, 3, 142, 7, 0), [(15, 1), (0, 2)]))
def qb143_7 : QB := (54, [(54, .istore_n 3, 1, 3, 0, 0)], (0, (55, .nop, 0, 8, 0, 0), []))
def qb143_8 : QB := (55, [(55, .iload_n 3, 1, 3, 0, 0)], (2, (56, .ifCond .eq 39, 3, 17, 9, 0), []))
def qb143_9 : QB := (59, [(59, .aload_n 0, 1, 0, 0, 0), (60, .getfield 180, 3, 13, 11, 0), (63, .aload_n 0, 1, 0, 0, 0), (64, .getfield 183, 3, 14, 11, 0)], (3, (67, .if_icmp .ge 28, 3, 17, 10, 0), []))
def qb143_10 : QB := (70, [(70, .aload_n 0, 1, 0, 0, 0), (71, .bipush 59, 2, 0, 0, 59)], (5, (73, .invokevirtual 271, 3, 125, 11, 0), [(15, 2), (0, 2)]))
def qb143_11 : QB := (76, [], (2, (76, .ifCond .eq 14, 3, 15, 12, 0), []))
def qb143_12 : QB := (79, [(79, .aload_n 0, 1, 0, 0, 0)], (5, (80, .invokevirtual 268, 3, 142, 13, 0), [(15, 1), (0, 2)]))
def qb143_13 : QB := (83, [], (2, (83, .ifCond .eq 7, 3, 15, 14, 0), []))
def qb143_14 : QB := (86, [(86, .iconst 1, 1, 0, 0, 1)], (1, (87, .goto 4, 3, 16, 0, 0), []))
def qb143_15 : QB := (90, [(90, .iconst 0, 1, 0, 0, 0)], (0, (91, .nop, 0, 16, 0, 0), []))
def qb143_16 : QB := (91, [(91, .istore_n 3, 1, 3, 0, 0)], (1, (92, .goto (-37), 3, 8, 0, 0), []))
def qb143_17 : QB := (95, [(95, .aload_n 0, 1, 0, 0, 0), (96, .iconst 0, 1, 0, 0, 0), (97, .putfield 173, 3, 12, 11, 0), (100, .iload_n 3, 1, 3, 0, 0)], (2, (101, .ifCond .ne 8, 3, 19, 18, 0), []))
def qb143_18 : QB := (104, [(104, .aload_n 0, 1, 0, 0, 0), (105, .getfield 190, 3, 15, 11, 0)], (6, (108, .ireturn, 1, 0, 0, 0), []))
def qb143_19 : QB := (109, [(109, .aload_n 0, 1, 0, 0, 0), (110, .getfield 65, 3, 28, 11, 0), (113, .iload_n 1, 1, 1, 0, 0), (114, .aload_n 0, 1, 0, 0, 0), (115, .getfield 262, 3, 19, 11, 0), (118, .iastore, 1, 0, 0, 0), (119, .iconst 0, 1, 0, 0, 0), (120, .istore 4, 2, 4, 0, 0)], (0, (122, .nop, 0, 20, 0, 0), []))
def qb143_20 : QB := (122, [(122, .iload 4, 2, 4, 0, 0), (124, .aload_n 0, 1, 0, 0, 0), (125, .getfield 204, 3, 17, 11, 0)], (3, (128, .if_icmp .ge 29, 3, 22, 21, 0), []))
def qb143_21 : QB := (131, [(131, .aload_n 0, 1, 0, 0, 0), (132, .getfield 62, 3, 27, 11, 0), (135, .sipush 220, 3, 0, 0, 220), (138, .iload_n 1, 1, 1, 0, 0), (139, .imul, 1, 0, 0, 0), (140, .iload 4, 2, 4, 0, 0), (142, .iadd, 1, 0, 0, 0), (143, .aload_n 0, 1, 0, 0, 0), (144, .getfield 44, 3, 21, 11, 0), (147, .iload 4, 2, 4, 0, 0), (149, .iaload, 1, 0, 0, 0), (150, .iastore, 1, 0, 0, 0), (151, .iinc 4 1, 3, 4, 0, 1)], (1, (154, .goto (-32), 3, 20, 0, 0), []))
def qb143_22 : QB := (157, [(157, .iconst 0, 1, 0, 0, 0), (158, .istore 4, 2, 4, 0, 0)], (0, (160, .nop, 0, 23, 0, 0), []))
def qb143_23 : QB := (160, [(160, .iload 4, 2, 4, 0, 0), (162, .aload_n 0, 1, 0, 0, 0), (163, .getfield 262, 3, 19, 11, 0)], (3, (166, .if_icmp .ge 103, 3, 25, 24, 0), []))
def qb143_24 : QB := (169, [(169, .aload_n 0, 1, 0, 0, 0), (170, .getfield 68, 3, 29, 11, 0), (173, .bipush 14, 2, 0, 0, 14), (175, .iload_n 1, 1, 1, 0, 0), (176, .imul, 1, 0, 0, 0), (177, .iload 4, 2, 4, 0, 0), (179, .iadd, 1, 0, 0, 0), (180, .aload_n 0, 1, 0, 0, 0), (181, .getfield 50, 3, 23, 11, 0), (184, .iload 4, 2, 4, 0, 0), (186, .iaload, 1, 0, 0, 0), (187, .iastore, 1, 0, 0, 0), (188, .aload_n 0, 1, 0, 0, 0), (189, .getfield 71, 3, 30, 11, 0), (192, .bipush 14, 2, 0, 0, 14), (194, .iload_n 1, 1, 1, 0, 0), (195, .imul, 1, 0, 0, 0), (196, .iload 4, 2, 4, 0, 0), (198, .iadd, 1, 0, 0, 0), (199, .sipush 220, 3, 0, 0, 220), (202, .iload_n 1, 1, 1, 0, 0), (203, .imul, 1, 0, 0, 0), (204, .aload_n 0, 1, 0, 0, 0), (205, .getfield 53, 3, 24, 11, 0), (208, .iload 4, 2, 4, 0, 0), (210, .iaload, 1, 0, 0, 0), (211, .iadd, 1, 0, 0, 0), (212, .iastore, 1, 0, 0, 0), (213, .aload_n 0, 1, 0, 0, 0), (214, .getfield 74, 3, 31, 11, 0), (217, .bipush 14, 2, 0, 0, 14), (219, .iload_n 1, 1, 1, 0, 0), (220, .imul, 1, 0, 0, 0), (221, .iload 4, 2, 4, 0, 0), (223, .iadd, 1, 0, 0, 0), (224, .sipush 220, 3, 0, 0, 220), (227, .iload_n 1, 1, 1, 0, 0), (228, .imul, 1, 0, 0, 0), (229, .aload_n 0, 1, 0, 0, 0), (230, .getfield 56, 3, 25, 11, 0), (233, .iload 4, 2, 4, 0, 0), (235, .iaload, 1, 0, 0, 0), (236, .iadd, 1, 0, 0, 0), (237, .iastore, 1, 0, 0, 0), (238, .aload_n 0, 1, 0, 0, 0), (239, .getfield 77, 3, 32, 11, 0), (242, .bipush 14, 2, 0, 0, 14), (244, .iload_n 1, 1, 1, 0, 0), (245, .imul, 1, 0, 0, 0), (246, .iload 4, 2, 4, 0, 0), (248, .iadd, 1, 0, 0, 0), (249, .sipush 220, 3, 0, 0, 220), (252, .iload_n 1, 1, 1, 0, 0), (253, .imul, 1, 0, 0, 0), (254, .aload_n 0, 1, 0, 0, 0), (255, .getfield 59, 3, 26, 11, 0), (258, .iload 4, 2, 4, 0, 0), (260, .iaload, 1, 0, 0, 0), (261, .iadd, 1, 0, 0, 0), (262, .iastore, 1, 0, 0, 0), (263, .iinc 4 1, 3, 4, 0, 1)], (1, (266, .goto (-106), 3, 23, 0, 0), []))
def qb143_25 : QB := (269, [(269, .aload_n 0, 1, 0, 0, 0), (270, .getfield 262, 3, 19, 11, 0)], (6, (273, .ireturn, 1, 0, 0, 0), []))
def qm143 : QM := (yX11_law, cX11_law, 5, (some .int), 22, 3, [qb143_0, qb143_1, qb143_2, qb143_3, qb143_4, qb143_5, qb143_6, qb143_7, qb143_8, qb143_9, qb143_10, qb143_11, qb143_12, qb143_13, qb143_14, qb143_15, qb143_16, qb143_17, qb143_18, qb143_19, qb143_20, qb143_21, qb143_22, qb143_23, qb143_24, qb143_25])
def qb144_0 : QB := (0, [(0, .iload_n 0, 1, 0, 0, 0)], (4, (1, .tableswitch 85 2 8 #[43, 47, 51, 55, 59, 63, 74], 43, 14, 0, 0), [(2, 1), (3, 2), (4, 3), (5, 4), (6, 5), (7, 6), (8, 10)]))
def qb144_1 : QB := (44, [(44, .iload_n 1, 1, 1, 0, 0), (45, .iload_n 2, 1, 2, 0, 0), (46, .iadd, 1, 0, 0, 0)], (6, (47, .ireturn, 1, 0, 0, 0), []))
def qb144_2 : QB := (48, [(48, .iload_n 1, 1, 1, 0, 0), (49, .iload_n 2, 1, 2, 0, 0), (50, .isub, 1, 0, 0, 0)], (6, (51, .ireturn, 1, 0, 0, 0), []))
def qb144_3 : QB := (52, [(52, .iload_n 1, 1, 1, 0, 0), (53, .iload_n 2, 1, 2, 0, 0), (54, .imul, 1, 0, 0, 0)], (6, (55, .ireturn, 1, 0, 0, 0), []))
def qb144_4 : QB := (56, [(56, .iload_n 1, 1, 1, 0, 0), (57, .iload_n 2, 1, 2, 0, 0), (58, .idiv, 1, 0, 0, 0)], (6, (59, .ireturn, 1, 0, 0, 0), []))
def qb144_5 : QB := (60, [(60, .iload_n 1, 1, 1, 0, 0), (61, .iload_n 2, 1, 2, 0, 0), (62, .irem, 1, 0, 0, 0)], (6, (63, .ireturn, 1, 0, 0, 0), []))
def qb144_6 : QB := (64, [(64, .iload_n 1, 1, 1, 0, 0), (65, .iload_n 2, 1, 2, 0, 0)], (3, (66, .if_icmp .ge 7, 3, 8, 7, 0), []))
def qb144_7 : QB := (69, [(69, .iconst 1, 1, 0, 0, 1)], (1, (70, .goto 4, 3, 9, 0, 0), []))
def qb144_8 : QB := (73, [(73, .iconst 0, 1, 0, 0, 0)], (0, (74, .nop, 0, 9, 0, 0), []))
def qb144_9 : QB := (74, [], (6, (74, .ireturn, 1, 0, 0, 0), []))
def qb144_10 : QB := (75, [(75, .iload_n 1, 1, 1, 0, 0), (76, .iload_n 2, 1, 2, 0, 0)], (3, (77, .if_icmp .le 7, 3, 12, 11, 0), []))
def qb144_11 : QB := (80, [(80, .iconst 1, 1, 0, 0, 1)], (1, (81, .goto 4, 3, 13, 0, 0), []))
def qb144_12 : QB := (84, [(84, .iconst 0, 1, 0, 0, 0)], (0, (85, .nop, 0, 13, 0, 0), []))
def qb144_13 : QB := (85, [], (6, (85, .ireturn, 1, 0, 0, 0), []))
def qb144_14 : QB := (86, [(86, .iload_n 1, 1, 1, 0, 0), (87, .iload_n 2, 1, 2, 0, 0)], (3, (88, .if_icmp .ne 7, 3, 16, 15, 0), []))
def qb144_15 : QB := (91, [(91, .iconst 1, 1, 0, 0, 1)], (1, (92, .goto 4, 3, 17, 0, 0), []))
def qb144_16 : QB := (95, [(95, .iconst 0, 1, 0, 0, 0)], (0, (96, .nop, 0, 17, 0, 0), []))
def qb144_17 : QB := (96, [], (6, (96, .ireturn, 1, 0, 0, 0), []))
def qm144 : QM := (yX11_reckon, cX11_reckon, 3, (some .int), 23, 3, [qb144_0, qb144_1, qb144_2, qb144_3, qb144_4, qb144_5, qb144_6, qb144_7, qb144_8, qb144_9, qb144_10, qb144_11, qb144_12, qb144_13, qb144_14, qb144_15, qb144_16, qb144_17])
def qb145_0 : QB := (0, [(0, .iconst 0, 1, 0, 0, 0), (1, .istore_n 3, 1, 3, 0, 0), (2, .sipush 220, 3, 0, 0, 220), (5, .iload_n 1, 1, 1, 0, 0), (6, .sipush 220, 3, 0, 0, 220), (9, .idiv, 1, 0, 0, 0), (10, .imul, 1, 0, 0, 0), (11, .istore 4, 2, 4, 0, 0), (13, .iload_n 1, 1, 1, 0, 0), (14, .istore 5, 2, 5, 0, 0)], (0, (16, .nop, 0, 1, 0, 0), []))
def qb145_1 : QB := (16, [(16, .iload 5, 2, 5, 0, 0), (18, .iload_n 2, 1, 2, 0, 0)], (3, (19, .if_icmp .ge 214, 3, 25, 2, 0), []))
def qb145_2 : QB := (22, [(22, .aload_n 0, 1, 0, 0, 0), (23, .getfield 62, 3, 27, 11, 0), (26, .iload 5, 2, 5, 0, 0), (28, .iaload, 1, 0, 0, 0), (29, .ldc 207, 2, 0, 0, 1048576), (31, .idiv, 1, 0, 0, 0), (32, .istore 6, 2, 6, 0, 0), (34, .aload_n 0, 1, 0, 0, 0), (35, .getfield 62, 3, 27, 11, 0), (38, .iload 5, 2, 5, 0, 0), (40, .iaload, 1, 0, 0, 0), (41, .ldc 207, 2, 0, 0, 1048576), (43, .irem, 1, 0, 0, 0), (44, .istore 7, 2, 7, 0, 0), (46, .iload 5, 2, 5, 0, 0), (48, .iconst 1, 1, 0, 0, 1), (49, .iadd, 1, 0, 0, 0), (50, .istore 5, 2, 5, 0, 0), (52, .iload 6, 2, 6, 0, 0)], (2, (54, .ifCond .eq 9, 3, 4, 3, 0), []))
def qb145_3 : QB := (57, [(57, .iload 6, 2, 6, 0, 0), (59, .iconst 1, 1, 0, 0, 1)], (3, (60, .if_icmp .ne 33, 3, 8, 4, 0), []))
def qb145_4 : QB := (63, [(63, .aload_n 0, 1, 0, 0, 0), (64, .getfield 80, 3, 33, 11, 0), (67, .iload_n 3, 1, 3, 0, 0), (68, .iload 6, 2, 6, 0, 0)], (2, (70, .ifCond .ne 8, 3, 6, 5, 0), []))
def qb145_5 : QB := (73, [(73, .iload 7, 2, 7, 0, 0)], (1, (75, .goto 10, 3, 7, 0, 0), []))
def qb145_6 : QB := (78, [(78, .aload_n 0, 1, 0, 0, 0), (79, .getfield 83, 3, 34, 11, 0), (82, .iload 7, 2, 7, 0, 0), (84, .iaload, 1, 0, 0, 0)], (0, (85, .nop, 0, 7, 0, 0), []))
def qb145_7 : QB := (85, [(85, .iastore, 1, 0, 0, 0), (86, .iload_n 3, 1, 3, 0, 0), (87, .iconst 1, 1, 0, 0, 1), (88, .iadd, 1, 0, 0, 0), (89, .istore_n 3, 1, 3, 0, 0)], (1, (90, .goto 140, 3, 24, 0, 0), []))
def qb145_8 : QB := (93, [(93, .iload 6, 2, 6, 0, 0), (95, .bipush 10, 2, 0, 0, 10)], (3, (97, .if_icmp .ne 24, 3, 10, 9, 0), []))
def qb145_9 : QB := (100, [(100, .aload_n 0, 1, 0, 0, 0), (101, .getfield 80, 3, 33, 11, 0), (104, .iload_n 3, 1, 3, 0, 0), (105, .iconst 1, 1, 0, 0, 1), (106, .isub, 1, 0, 0, 0), (107, .iconst 1, 1, 0, 0, 1), (108, .aload_n 0, 1, 0, 0, 0), (109, .getfield 80, 3, 33, 11, 0), (112, .iload_n 3, 1, 3, 0, 0), (113, .iconst 1, 1, 0, 0, 1), (114, .isub, 1, 0, 0, 0), (115, .iaload, 1, 0, 0, 0), (116, .isub, 1, 0, 0, 0), (117, .iastore, 1, 0, 0, 0)], (1, (118, .goto 112, 3, 24, 0, 0), []))
def qb145_10 : QB := (121, [(121, .iload 6, 2, 6, 0, 0), (123, .bipush 11, 2, 0, 0, 11)], (3, (125, .if_icmp .eq 10, 3, 12, 11, 0), []))
def qb145_11 : QB := (128, [(128, .iload 6, 2, 6, 0, 0), (130, .bipush 12, 2, 0, 0, 12)], (3, (132, .if_icmp .ne 43, 3, 18, 12, 0), []))
def qb145_12 : QB := (135, [(135, .aload_n 0, 1, 0, 0, 0), (136, .getfield 80, 3, 33, 11, 0), (139, .iload_n 3, 1, 3, 0, 0), (140, .iconst 1, 1, 0, 0, 1), (141, .isub, 1, 0, 0, 0), (142, .iaload, 1, 0, 0, 0), (143, .iload 6, 2, 6, 0, 0), (145, .bipush 12, 2, 0, 0, 12)], (3, (147, .if_icmp .ne 7, 3, 14, 13, 0), []))
def qb145_13 : QB := (150, [(150, .iconst 1, 1, 0, 0, 1)], (1, (151, .goto 4, 3, 15, 0, 0), []))
def qb145_14 : QB := (154, [(154, .iconst 0, 1, 0, 0, 0)], (0, (155, .nop, 0, 15, 0, 0), []))
def qb145_15 : QB := (155, [], (3, (155, .if_icmp .ne 13, 3, 17, 16, 0), []))
def qb145_16 : QB := (158, [(158, .iload 4, 2, 4, 0, 0), (160, .iload 7, 2, 7, 0, 0), (162, .iadd, 1, 0, 0, 0), (163, .istore 5, 2, 5, 0, 0)], (1, (165, .goto 65, 3, 24, 0, 0), []))
def qb145_17 : QB := (168, [(168, .iload_n 3, 1, 3, 0, 0), (169, .iconst 1, 1, 0, 0, 1), (170, .isub, 1, 0, 0, 0), (171, .istore_n 3, 1, 3, 0, 0)], (1, (172, .goto 58, 3, 24, 0, 0), []))
def qb145_18 : QB := (175, [(175, .iload_n 3, 1, 3, 0, 0), (176, .iconst 1, 1, 0, 0, 1), (177, .isub, 1, 0, 0, 0), (178, .istore_n 3, 1, 3, 0, 0), (179, .iload 6, 2, 6, 0, 0), (181, .iconst 5, 1, 0, 0, 5)], (3, (182, .if_icmp .eq 10, 3, 20, 19, 0), []))
def qb145_19 : QB := (185, [(185, .iload 6, 2, 6, 0, 0), (187, .bipush 6, 2, 0, 0, 6)], (3, (189, .if_icmp .ne 14, 3, 22, 20, 0), []))
def qb145_20 : QB := (192, [(192, .aload_n 0, 1, 0, 0, 0), (193, .getfield 80, 3, 33, 11, 0), (196, .iload_n 3, 1, 3, 0, 0), (197, .iaload, 1, 0, 0, 0)], (2, (198, .ifCond .ne 5, 3, 22, 21, 0), []))
def qb145_21 : QB := (201, [(201, .iconst 0, 1, 0, 0, 0)], (6, (202, .ireturn, 1, 0, 0, 0), []))
def qb145_22 : QB := (203, [(203, .aload_n 0, 1, 0, 0, 0), (204, .getfield 80, 3, 33, 11, 0), (207, .iload_n 3, 1, 3, 0, 0), (208, .iconst 1, 1, 0, 0, 1), (209, .isub, 1, 0, 0, 0), (210, .iload 6, 2, 6, 0, 0), (212, .aload_n 0, 1, 0, 0, 0), (213, .getfield 80, 3, 33, 11, 0), (216, .iload_n 3, 1, 3, 0, 0), (217, .iconst 1, 1, 0, 0, 1), (218, .isub, 1, 0, 0, 0), (219, .iaload, 1, 0, 0, 0), (220, .aload_n 0, 1, 0, 0, 0), (221, .getfield 80, 3, 33, 11, 0), (224, .iload_n 3, 1, 3, 0, 0), (225, .iaload, 1, 0, 0, 0)], (5, (226, .invokestatic 274, 3, 144, 23, 0), [(0, 3), (0, 3)]))
def qb145_23 : QB := (229, [(229, .iastore, 1, 0, 0, 0)], (0, (230, .nop, 0, 24, 0, 0), []))
def qb145_24 : QB := (230, [], (1, (230, .goto (-214), 3, 1, 0, 0), []))
def qb145_25 : QB := (233, [(233, .aload_n 0, 1, 0, 0, 0), (234, .getfield 80, 3, 33, 11, 0), (237, .iconst 0, 1, 0, 0, 0), (238, .iaload, 1, 0, 0, 0)], (6, (239, .ireturn, 1, 0, 0, 0), []))
def qm145 : QM := (yX11_comesTo, cX11_comesTo, 8, (some .int), 22, 3, [qb145_0, qb145_1, qb145_2, qb145_3, qb145_4, qb145_5, qb145_6, qb145_7, qb145_8, qb145_9, qb145_10, qb145_11, qb145_12, qb145_13, qb145_14, qb145_15, qb145_16, qb145_17, qb145_18, qb145_19, qb145_20, qb145_21, qb145_22, qb145_23, qb145_24, qb145_25])
def qb146_0 : QB := (0, [(0, .bipush 14, 2, 0, 0, 14), (2, .iload_n 1, 1, 1, 0, 0), (3, .imul, 1, 0, 0, 0), (4, .istore 5, 2, 5, 0, 0)], (0, (6, .nop, 0, 1, 0, 0), []))
def qb146_1 : QB := (6, [(6, .iload 5, 2, 5, 0, 0), (8, .bipush 14, 2, 0, 0, 14), (10, .iload_n 1, 1, 1, 0, 0), (11, .imul, 1, 0, 0, 0), (12, .aload_n 0, 1, 0, 0, 0), (13, .getfield 65, 3, 28, 11, 0), (16, .iload_n 1, 1, 1, 0, 0), (17, .iaload, 1, 0, 0, 0), (18, .iadd, 1, 0, 0, 0)], (3, (19, .if_icmp .ge 90, 3, 14, 2, 0), []))
def qb146_2 : QB := (22, [(22, .aload_n 0, 1, 0, 0, 0), (23, .getfield 68, 3, 29, 11, 0), (26, .iload 5, 2, 5, 0, 0), (28, .iaload, 1, 0, 0, 0), (29, .iload_n 2, 1, 2, 0, 0)], (3, (30, .if_icmp .ne 73, 3, 13, 3, 0), []))
def qb146_3 : QB := (33, [(33, .aload_n 0, 1, 0, 0, 0), (34, .aload_n 0, 1, 0, 0, 0), (35, .getfield 74, 3, 31, 11, 0), (38, .iload 5, 2, 5, 0, 0), (40, .iaload, 1, 0, 0, 0), (41, .aload_n 0, 1, 0, 0, 0), (42, .getfield 77, 3, 32, 11, 0), (45, .iload 5, 2, 5, 0, 0), (47, .iaload, 1, 0, 0, 0)], (5, (48, .invokevirtual 278, 3, 145, 4, 0), [(15, 3), (0, 8)]))
def qb146_4 : QB := (51, [(51, .iconst 1, 1, 0, 0, 1)], (3, (52, .if_icmp .eq 6, 3, 6, 5, 0), []))
def qb146_5 : QB := (55, [], (1, (55, .goto 48, 3, 13, 0, 0), []))
def qb146_6 : QB := (58, [(58, .aload_n 0, 1, 0, 0, 0), (59, .aload_n 0, 1, 0, 0, 0), (60, .getfield 71, 3, 30, 11, 0), (63, .iload 5, 2, 5, 0, 0), (65, .iaload, 1, 0, 0, 0), (66, .aload_n 0, 1, 0, 0, 0), (67, .getfield 74, 3, 31, 11, 0), (70, .iload 5, 2, 5, 0, 0), (72, .iaload, 1, 0, 0, 0)], (5, (73, .invokevirtual 278, 3, 145, 7, 0), [(15, 3), (0, 8)]))
def qb146_7 : QB := (76, [(76, .istore 6, 2, 6, 0, 0), (78, .iload 6, 2, 6, 0, 0), (80, .iload_n 3, 1, 3, 0, 0)], (3, (81, .if_icmp .ge 7, 3, 9, 8, 0), []))
def qb146_8 : QB := (84, [(84, .iload_n 3, 1, 3, 0, 0)], (1, (85, .goto 17, 3, 12, 0, 0), []))
def qb146_9 : QB := (88, [(88, .iload 6, 2, 6, 0, 0), (90, .iload 4, 2, 4, 0, 0)], (3, (92, .if_icmp .le 8, 3, 11, 10, 0), []))
def qb146_10 : QB := (95, [(95, .iload 4, 2, 4, 0, 0)], (1, (97, .goto 5, 3, 12, 0, 0), []))
def qb146_11 : QB := (100, [(100, .iload 6, 2, 6, 0, 0)], (0, (102, .nop, 0, 12, 0, 0), []))
def qb146_12 : QB := (102, [], (6, (102, .ireturn, 1, 0, 0, 0), []))
def qb146_13 : QB := (103, [(103, .iinc 5 1, 3, 5, 0, 1)], (1, (106, .goto (-100), 3, 1, 0, 0), []))
def qb146_14 : QB := (109, [(109, .iconst 0, 1, 0, 0, 0)], (6, (110, .ireturn, 1, 0, 0, 0), []))
def qm146 : QM := (yX11_byLaw, cX11_byLaw, 7, (some .int), 22, 5, [qb146_0, qb146_1, qb146_2, qb146_3, qb146_4, qb146_5, qb146_6, qb146_7, qb146_8, qb146_9, qb146_10, qb146_11, qb146_12, qb146_13, qb146_14])
def qb147_0 : QB := (0, [(0, .iconst 0, 1, 0, 0, 0), (1, .istore_n 1, 1, 1, 0, 0)], (0, (2, .nop, 0, 1, 0, 0), []))
def qb147_1 : QB := (2, [(2, .iload_n 1, 1, 1, 0, 0), (3, .aload_n 0, 1, 0, 0, 0), (4, .getfield 65, 3, 28, 11, 0), (7, .iconst 0, 1, 0, 0, 0), (8, .iaload, 1, 0, 0, 0)], (3, (9, .if_icmp .ge 42, 3, 7, 2, 0), []))
def qb147_2 : QB := (12, [(12, .aload_n 0, 1, 0, 0, 0), (13, .getfield 68, 3, 29, 11, 0), (16, .iload_n 1, 1, 1, 0, 0), (17, .iaload, 1, 0, 0, 0), (18, .bipush 110, 2, 0, 0, 110)], (3, (20, .if_icmp .ne 25, 3, 6, 3, 0), []))
def qb147_3 : QB := (23, [(23, .aload_n 0, 1, 0, 0, 0), (24, .aload_n 0, 1, 0, 0, 0), (25, .getfield 74, 3, 31, 11, 0), (28, .iload_n 1, 1, 1, 0, 0), (29, .iaload, 1, 0, 0, 0), (30, .aload_n 0, 1, 0, 0, 0), (31, .getfield 77, 3, 32, 11, 0), (34, .iload_n 1, 1, 1, 0, 0), (35, .iaload, 1, 0, 0, 0)], (5, (36, .invokevirtual 278, 3, 145, 4, 0), [(15, 3), (0, 8)]))
def qb147_4 : QB := (39, [(39, .iconst 1, 1, 0, 0, 1)], (3, (40, .if_icmp .ne 5, 3, 6, 5, 0), []))
def qb147_5 : QB := (43, [(43, .iconst 1, 1, 0, 0, 1)], (8, (44, .ireturn, 1, 0, 0, 0), []))
def qb147_6 : QB := (45, [(45, .iinc 1 1, 3, 1, 0, 1)], (1, (48, .goto (-46), 3, 1, 0, 0), []))
def qb147_7 : QB := (51, [(51, .iconst 0, 1, 0, 0, 0)], (8, (52, .ireturn, 1, 0, 0, 0), []))
def qm147 : QM := (yX11_isBarred, cX11_isBarred, 2, (some .boolean), 22, 1, [qb147_0, qb147_1, qb147_2, qb147_3, qb147_4, qb147_5, qb147_6, qb147_7])
def qb148_0 : QB := (0, [(0, .aload_n 0, 1, 0, 0, 0), (1, .getfield 83, 3, 34, 11, 0), (4, .iconst 0, 1, 0, 0, 0), (5, .iconst 0, 1, 0, 0, 0), (6, .iastore, 1, 0, 0, 0), (7, .aload_n 0, 1, 0, 0, 0), (8, .getfield 83, 3, 34, 11, 0), (11, .iconst 1, 1, 0, 0, 1), (12, .iconst 0, 1, 0, 0, 0), (13, .iastore, 1, 0, 0, 0), (14, .aload_n 0, 1, 0, 0, 0), (15, .getfield 83, 3, 34, 11, 0), (18, .iconst 2, 1, 0, 0, 2), (19, .iload_n 2, 1, 2, 0, 0), (20, .iastore, 1, 0, 0, 0), (21, .aload_n 0, 1, 0, 0, 0), (22, .getfield 83, 3, 34, 11, 0), (25, .iconst 3, 1, 0, 0, 3), (26, .aload_n 0, 1, 0, 0, 0), (27, .getfield 86, 3, 35, 11, 0), (30, .iload_n 2, 1, 2, 0, 0), (31, .iaload, 1, 0, 0, 0), (32, .iastore, 1, 0, 0, 0), (33, .aload_n 0, 1, 0, 0, 0), (34, .getfield 83, 3, 34, 11, 0), (37, .iconst 4, 1, 0, 0, 4), (38, .aload_n 0, 1, 0, 0, 0), (39, .getfield 89, 3, 36, 11, 0), (42, .iload_n 2, 1, 2, 0, 0), (43, .iaload, 1, 0, 0, 0), (44, .iastore, 1, 0, 0, 0), (45, .aload_n 0, 1, 0, 0, 0), (46, .getfield 83, 3, 34, 11, 0), (49, .iconst 5, 1, 0, 0, 5), (50, .aload_n 0, 1, 0, 0, 0), (51, .getfield 92, 3, 37, 11, 0), (54, .iload_n 2, 1, 2, 0, 0), (55, .iaload, 1, 0, 0, 0), (56, .iastore, 1, 0, 0, 0), (57, .aload_n 0, 1, 0, 0, 0), (58, .getfield 83, 3, 34, 11, 0), (61, .bipush 6, 2, 0, 0, 6), (63, .iload_n 1, 1, 1, 0, 0), (64, .iastore, 1, 0, 0, 0), (65, .aload_n 0, 1, 0, 0, 0), (66, .getfield 83, 3, 34, 11, 0), (69, .bipush 7, 2, 0, 0, 7), (71, .aload_n 0, 1, 0, 0, 0), (72, .getfield 7, 3, 1, 11, 0), (75, .iload_n 1, 1, 1, 0, 0), (76, .iaload, 1, 0, 0, 0), (77, .iastore, 1, 0, 0, 0), (78, .aload_n 0, 1, 0, 0, 0), (79, .getfield 83, 3, 34, 11, 0), (82, .bipush 8, 2, 0, 0, 8), (84, .aload_n 0, 1, 0, 0, 0), (85, .getfield 7, 3, 1, 11, 0), (88, .iload_n 1, 1, 1, 0, 0)], (2, (89, .ifCond .ne 8, 3, 2, 1, 0), []))
def qb148_1 : QB := (92, [(92, .bipush 23, 2, 0, 0, 23)], (1, (94, .goto 6, 3, 3, 0, 0), []))
def qb148_2 : QB := (97, [(97, .iload_n 1, 1, 1, 0, 0), (98, .iconst 1, 1, 0, 0, 1), (99, .isub, 1, 0, 0, 0)], (0, (100, .nop, 0, 3, 0, 0), []))
def qb148_3 : QB := (100, [(100, .iaload, 1, 0, 0, 0), (101, .iastore, 1, 0, 0, 0)], (7, (102, .return_, 1, 0, 0, 0), []))
def qm148 : QM := (yX11_feels, cX11_feels, 3, none, 22, 3, [qb148_0, qb148_1, qb148_2, qb148_3])
def qb149_0 : QB := (0, [(0, .iload_n 0, 1, 0, 0, 0)], (2, (1, .ifCond .ge 7, 3, 2, 1, 0), []))
def qb149_1 : QB := (4, [(4, .iconst 0, 1, 0, 0, 0)], (1, (5, .goto 15, 3, 5, 0, 0), []))
def qb149_2 : QB := (8, [(8, .iload_n 0, 1, 0, 0, 0), (9, .bipush 99, 2, 0, 0, 99)], (3, (11, .if_icmp .le 8, 3, 4, 3, 0), []))
def qb149_3 : QB := (14, [(14, .bipush 99, 2, 0, 0, 99)], (1, (16, .goto 4, 3, 5, 0, 0), []))
def qb149_4 : QB := (19, [(19, .iload_n 0, 1, 0, 0, 0)], (0, (20, .nop, 0, 5, 0, 0), []))
def qb149_5 : QB := (20, [], (6, (20, .ireturn, 1, 0, 0, 0), []))
def qm149 : QM := (yX11_held, cX11_held, 1, (some .int), 23, 1, [qb149_0, qb149_1, qb149_2, qb149_3, qb149_4, qb149_5])
def qb150_0 : QB := (0, [(0, .aload_n 0, 1, 0, 0, 0), (1, .getfield 31, 3, 8, 11, 0), (4, .iload_n 2, 1, 2, 0, 0), (5, .iaload, 1, 0, 0, 0), (6, .istore_n 3, 1, 3, 0, 0), (7, .aload_n 0, 1, 0, 0, 0), (8, .iload_n 1, 1, 1, 0, 0), (9, .iload_n 3, 1, 3, 0, 0)], (5, (10, .invokevirtual 282, 3, 148, 1, 0), [(15, 3), (0, 3)]))
def qb150_1 : QB := (13, [(13, .aload_n 0, 1, 0, 0, 0), (14, .getfield 83, 3, 34, 11, 0), (17, .iconst 0, 1, 0, 0, 0), (18, .aload_n 0, 1, 0, 0, 0), (19, .getfield 28, 3, 7, 11, 0), (22, .iload_n 2, 1, 2, 0, 0), (23, .iaload, 1, 0, 0, 0), (24, .iastore, 1, 0, 0, 0), (25, .aload_n 0, 1, 0, 0, 0), (26, .getfield 83, 3, 34, 11, 0), (29, .iconst 1, 1, 0, 0, 1), (30, .aload_n 0, 1, 0, 0, 0), (31, .getfield 34, 3, 9, 11, 0), (34, .iload_n 2, 1, 2, 0, 0), (35, .iaload, 1, 0, 0, 0), (36, .iastore, 1, 0, 0, 0), (37, .aload_n 0, 1, 0, 0, 0)], (5, (38, .invokevirtual 285, 3, 147, 2, 0), [(15, 1), (0, 2)]))
def qb150_2 : QB := (41, [], (2, (41, .ifCond .eq 5, 3, 4, 3, 0), []))
def qb150_3 : QB := (44, [(44, .iconst (-1), 1, 0, 0, (-1))], (6, (45, .ireturn, 1, 0, 0, 0), []))
def qb150_4 : QB := (46, [(46, .aload_n 0, 1, 0, 0, 0), (47, .iconst 0, 1, 0, 0, 0), (48, .bipush 119, 2, 0, 0, 119), (50, .iconst 0, 1, 0, 0, 0), (51, .sipush 999, 3, 0, 0, 999)], (5, (54, .invokevirtual 288, 3, 146, 5, 0), [(15, 5), (0, 7)]))
def qb150_5 : QB := (57, [(57, .istore 4, 2, 4, 0, 0), (59, .aload_n 0, 1, 0, 0, 0), (60, .iconst 0, 1, 0, 0, 0), (61, .bipush 115, 2, 0, 0, 115), (63, .bipush (-99), 2, 0, 0, (-99)), (65, .bipush 99, 2, 0, 0, 99)], (5, (67, .invokevirtual 288, 3, 146, 6, 0), [(15, 5), (0, 7)]))
def qb150_6 : QB := (70, [(70, .istore 5, 2, 5, 0, 0), (72, .aload_n 0, 1, 0, 0, 0), (73, .iconst 0, 1, 0, 0, 0), (74, .bipush 100, 2, 0, 0, 100), (76, .bipush (-99), 2, 0, 0, (-99)), (78, .bipush 99, 2, 0, 0, 99)], (5, (80, .invokevirtual 288, 3, 146, 7, 0), [(15, 5), (0, 7)]))
def qb150_7 : QB := (83, [(83, .istore 6, 2, 6, 0, 0), (85, .aload_n 0, 1, 0, 0, 0), (86, .iconst 0, 1, 0, 0, 0), (87, .bipush 104, 2, 0, 0, 104), (89, .bipush (-99), 2, 0, 0, (-99)), (91, .bipush 99, 2, 0, 0, 99)], (5, (93, .invokevirtual 288, 3, 146, 8, 0), [(15, 5), (0, 7)]))
def qb150_8 : QB := (96, [(96, .istore 7, 2, 7, 0, 0), (98, .aload_n 0, 1, 0, 0, 0), (99, .getfield 86, 3, 35, 11, 0), (102, .iload_n 3, 1, 3, 0, 0), (103, .aload_n 0, 1, 0, 0, 0), (104, .getfield 86, 3, 35, 11, 0), (107, .iload_n 3, 1, 3, 0, 0), (108, .iaload, 1, 0, 0, 0), (109, .iload 5, 2, 5, 0, 0), (111, .iadd, 1, 0, 0, 0)], (5, (112, .invokestatic 292, 3, 149, 9, 0), [(0, 1), (0, 1)]))
def qb150_9 : QB := (115, [(115, .iastore, 1, 0, 0, 0), (116, .aload_n 0, 1, 0, 0, 0), (117, .getfield 89, 3, 36, 11, 0), (120, .iload_n 3, 1, 3, 0, 0), (121, .aload_n 0, 1, 0, 0, 0), (122, .getfield 89, 3, 36, 11, 0), (125, .iload_n 3, 1, 3, 0, 0), (126, .iaload, 1, 0, 0, 0), (127, .iload 6, 2, 6, 0, 0), (129, .iadd, 1, 0, 0, 0)], (5, (130, .invokestatic 292, 3, 149, 10, 0), [(0, 1), (0, 1)]))
def qb150_10 : QB := (133, [(133, .iastore, 1, 0, 0, 0), (134, .aload_n 0, 1, 0, 0, 0), (135, .getfield 92, 3, 37, 11, 0), (138, .iload_n 3, 1, 3, 0, 0), (139, .aload_n 0, 1, 0, 0, 0), (140, .getfield 92, 3, 37, 11, 0), (143, .iload_n 3, 1, 3, 0, 0), (144, .iaload, 1, 0, 0, 0), (145, .iload 7, 2, 7, 0, 0), (147, .iadd, 1, 0, 0, 0)], (5, (148, .invokestatic 292, 3, 149, 11, 0), [(0, 1), (0, 1)]))
def qb150_11 : QB := (151, [(151, .iastore, 1, 0, 0, 0), (152, .iload 4, 2, 4, 0, 0)], (6, (154, .ireturn, 1, 0, 0, 0), []))
def qm150 : QM := (yX11_acts, cX11_acts, 8, (some .int), 22, 3, [qb150_0, qb150_1, qb150_2, qb150_3, qb150_4, qb150_5, qb150_6, qb150_7, qb150_8, qb150_9, qb150_10, qb150_11])
def qb151_0 : QB := (0, [(0, .aload_n 0, 1, 0, 0, 0), (1, .getfield 7, 3, 1, 11, 0), (4, .iload_n 1, 1, 1, 0, 0), (5, .iaload, 1, 0, 0, 0), (6, .istore_n 2, 1, 2, 0, 0), (7, .iconst 0, 1, 0, 0, 0), (8, .istore_n 3, 1, 3, 0, 0), (9, .aload_n 0, 1, 0, 0, 0), (10, .getfield 110, 3, 43, 11, 0), (13, .iload_n 1, 1, 1, 0, 0), (14, .iconst 0, 1, 0, 0, 0), (15, .iastore, 1, 0, 0, 0), (16, .aload_n 0, 1, 0, 0, 0), (17, .getfield 113, 3, 44, 11, 0), (20, .iload_n 1, 1, 1, 0, 0), (21, .iconst (-1), 1, 0, 0, (-1)), (22, .iastore, 1, 0, 0, 0), (23, .iconst 0, 1, 0, 0, 0), (24, .istore 4, 2, 4, 0, 0)], (0, (26, .nop, 0, 1, 0, 0), []))
def qb151_1 : QB := (26, [(26, .iload 4, 2, 4, 0, 0), (28, .aload_n 0, 1, 0, 0, 0), (29, .getfield 25, 3, 6, 11, 0), (32, .iload_n 2, 1, 2, 0, 0), (33, .iaload, 1, 0, 0, 0)], (3, (34, .if_icmp .ge 87, 3, 10, 2, 0), []))
def qb151_2 : QB := (37, [(37, .aload_n 0, 1, 0, 0, 0), (38, .iload_n 1, 1, 1, 0, 0), (39, .iconst 5, 1, 0, 0, 5), (40, .iload_n 2, 1, 2, 0, 0), (41, .imul, 1, 0, 0, 0), (42, .aload_n 0, 1, 0, 0, 0), (43, .getfield 116, 3, 45, 11, 0), (46, .iload 4, 2, 4, 0, 0), (48, .iaload, 1, 0, 0, 0), (49, .iadd, 1, 0, 0, 0)], (5, (50, .invokevirtual 295, 3, 150, 3, 0), [(15, 3), (0, 8)]))
def qb151_3 : QB := (53, [(53, .istore 5, 2, 5, 0, 0), (55, .iload 5, 2, 5, 0, 0), (57, .iconst (-1), 1, 0, 0, (-1))], (3, (58, .if_icmp .eq 11, 3, 5, 4, 0), []))
def qb151_4 : QB := (61, [(61, .iload_n 3, 1, 3, 0, 0), (62, .iload 5, 2, 5, 0, 0), (64, .iadd, 1, 0, 0, 0), (65, .istore_n 3, 1, 3, 0, 0)], (1, (66, .goto 49, 3, 9, 0, 0), []))
def qb151_5 : QB := (69, [(69, .aload_n 0, 1, 0, 0, 0), (70, .getfield 110, 3, 43, 11, 0), (73, .iload_n 1, 1, 1, 0, 0), (74, .aload_n 0, 1, 0, 0, 0), (75, .getfield 110, 3, 43, 11, 0), (78, .iload_n 1, 1, 1, 0, 0), (79, .iaload, 1, 0, 0, 0), (80, .iconst 1, 1, 0, 0, 1), (81, .iadd, 1, 0, 0, 0), (82, .iastore, 1, 0, 0, 0), (83, .aload_n 0, 1, 0, 0, 0), (84, .getfield 113, 3, 44, 11, 0), (87, .iload_n 1, 1, 1, 0, 0), (88, .aload_n 0, 1, 0, 0, 0), (89, .getfield 113, 3, 44, 11, 0), (92, .iload_n 1, 1, 1, 0, 0), (93, .iaload, 1, 0, 0, 0), (94, .iconst (-1), 1, 0, 0, (-1))], (3, (95, .if_icmp .ne 13, 3, 7, 6, 0), []))
def qb151_6 : QB := (98, [(98, .aload_n 0, 1, 0, 0, 0), (99, .getfield 116, 3, 45, 11, 0), (102, .iload 4, 2, 4, 0, 0), (104, .iaload, 1, 0, 0, 0)], (1, (105, .goto 9, 3, 8, 0, 0), []))
def qb151_7 : QB := (108, [(108, .aload_n 0, 1, 0, 0, 0), (109, .getfield 113, 3, 44, 11, 0), (112, .iload_n 1, 1, 1, 0, 0), (113, .iaload, 1, 0, 0, 0)], (0, (114, .nop, 0, 8, 0, 0), []))
def qb151_8 : QB := (114, [(114, .iastore, 1, 0, 0, 0)], (0, (115, .nop, 0, 9, 0, 0), []))
def qb151_9 : QB := (115, [(115, .iinc 4 1, 3, 4, 0, 1)], (1, (118, .goto (-92), 3, 1, 0, 0), []))
def qb151_10 : QB := (121, [(121, .iload_n 3, 1, 3, 0, 0)], (6, (122, .ireturn, 1, 0, 0, 0), []))
def qm151 : QM := (yX11_actsAll, cX11_actsAll, 6, (some .int), 22, 2, [qb151_0, qb151_1, qb151_2, qb151_3, qb151_4, qb151_5, qb151_6, qb151_7, qb151_8, qb151_9, qb151_10])
def qb152_0 : QB := (0, [(0, .iconst 0, 1, 0, 0, 0), (1, .istore_n 3, 1, 3, 0, 0), (2, .iconst 0, 1, 0, 0, 0), (3, .istore 4, 2, 4, 0, 0)], (0, (5, .nop, 0, 1, 0, 0), []))
def qb152_1 : QB := (5, [(5, .iload 4, 2, 4, 0, 0), (7, .bipush 8, 2, 0, 0, 8)], (3, (9, .if_icmp .ge 30, 3, 5, 2, 0), []))
def qb152_2 : QB := (12, [(12, .aload_n 0, 1, 0, 0, 0), (13, .iload_n 1, 1, 1, 0, 0), (14, .iload 4, 2, 4, 0, 0)], (5, (16, .invokevirtual 282, 3, 148, 3, 0), [(15, 3), (0, 3)]))
def qb152_3 : QB := (19, [(19, .iload_n 3, 1, 3, 0, 0), (20, .aload_n 0, 1, 0, 0, 0), (21, .iload_n 2, 1, 2, 0, 0), (22, .bipush 102, 2, 0, 0, 102), (24, .iconst 0, 1, 0, 0, 0), (25, .sipush 999, 3, 0, 0, 999)], (5, (28, .invokevirtual 288, 3, 146, 4, 0), [(15, 5), (0, 7)]))
def qb152_4 : QB := (31, [(31, .iadd, 1, 0, 0, 0), (32, .istore_n 3, 1, 3, 0, 0), (33, .iinc 4 1, 3, 4, 0, 1)], (1, (36, .goto (-31), 3, 1, 0, 0), []))
def qb152_5 : QB := (39, [(39, .iload_n 3, 1, 3, 0, 0)], (6, (40, .ireturn, 1, 0, 0, 0), []))
def qm152 : QM := (yX11_finesOf, cX11_finesOf, 5, (some .int), 22, 3, [qb152_0, qb152_1, qb152_2, qb152_3, qb152_4, qb152_5])
def qb153_0 : QB := (0, [(0, .iconst 0, 1, 0, 0, 0), (1, .istore_n 2, 1, 2, 0, 0)], (0, (2, .nop, 0, 1, 0, 0), []))
def qb153_1 : QB := (2, [(2, .iload_n 2, 1, 2, 0, 0), (3, .bipush 8, 2, 0, 0, 8)], (3, (5, .if_icmp .ge 60, 3, 3, 2, 0), []))
def qb153_2 : QB := (8, [(8, .aload_n 0, 1, 0, 0, 0), (9, .getfield 95, 3, 38, 11, 0), (12, .bipush 8, 2, 0, 0, 8), (14, .iload_n 1, 1, 1, 0, 0), (15, .imul, 1, 0, 0, 0), (16, .iload_n 2, 1, 2, 0, 0), (17, .iadd, 1, 0, 0, 0), (18, .aload_n 0, 1, 0, 0, 0), (19, .getfield 86, 3, 35, 11, 0), (22, .iload_n 2, 1, 2, 0, 0), (23, .iaload, 1, 0, 0, 0), (24, .iastore, 1, 0, 0, 0), (25, .aload_n 0, 1, 0, 0, 0), (26, .getfield 98, 3, 39, 11, 0), (29, .bipush 8, 2, 0, 0, 8), (31, .iload_n 1, 1, 1, 0, 0), (32, .imul, 1, 0, 0, 0), (33, .iload_n 2, 1, 2, 0, 0), (34, .iadd, 1, 0, 0, 0), (35, .aload_n 0, 1, 0, 0, 0), (36, .getfield 89, 3, 36, 11, 0), (39, .iload_n 2, 1, 2, 0, 0), (40, .iaload, 1, 0, 0, 0), (41, .iastore, 1, 0, 0, 0), (42, .aload_n 0, 1, 0, 0, 0), (43, .getfield 101, 3, 40, 11, 0), (46, .bipush 8, 2, 0, 0, 8), (48, .iload_n 1, 1, 1, 0, 0), (49, .imul, 1, 0, 0, 0), (50, .iload_n 2, 1, 2, 0, 0), (51, .iadd, 1, 0, 0, 0), (52, .aload_n 0, 1, 0, 0, 0), (53, .getfield 92, 3, 37, 11, 0), (56, .iload_n 2, 1, 2, 0, 0), (57, .iaload, 1, 0, 0, 0), (58, .iastore, 1, 0, 0, 0), (59, .iinc 2 1, 3, 2, 0, 1)], (1, (62, .goto (-60), 3, 1, 0, 0), []))
def qb153_3 : QB := (65, [], (7, (65, .return_, 1, 0, 0, 0), []))
def qm153 : QM := (yX11_findsAt, cX11_findsAt, 3, none, 22, 2, [qb153_0, qb153_1, qb153_2, qb153_3])
def qb154_0 : QB := (0, [(0, .iconst 0, 1, 0, 0, 0), (1, .istore_n 2, 1, 2, 0, 0)], (0, (2, .nop, 0, 1, 0, 0), []))
def qb154_1 : QB := (2, [(2, .iload_n 2, 1, 2, 0, 0), (3, .bipush 8, 2, 0, 0, 8)], (3, (5, .if_icmp .ge 41, 3, 6, 2, 0), []))
def qb154_2 : QB := (8, [(8, .aload_n 0, 1, 0, 0, 0), (9, .iload_n 1, 1, 1, 0, 0), (10, .iload_n 2, 1, 2, 0, 0)], (5, (11, .invokevirtual 282, 3, 148, 3, 0), [(15, 3), (0, 3)]))
def qb154_3 : QB := (14, [(14, .aload_n 0, 1, 0, 0, 0), (15, .getfield 92, 3, 37, 11, 0), (18, .iload_n 2, 1, 2, 0, 0), (19, .aload_n 0, 1, 0, 0, 0), (20, .getfield 92, 3, 37, 11, 0), (23, .iload_n 2, 1, 2, 0, 0), (24, .iaload, 1, 0, 0, 0), (25, .aload_n 0, 1, 0, 0, 0), (26, .iconst 0, 1, 0, 0, 0), (27, .bipush 99, 2, 0, 0, 99), (29, .iconst 0, 1, 0, 0, 0), (30, .bipush 99, 2, 0, 0, 99)], (5, (32, .invokevirtual 288, 3, 146, 4, 0), [(15, 5), (0, 7)]))
def qb154_4 : QB := (35, [(35, .isub, 1, 0, 0, 0)], (5, (36, .invokestatic 292, 3, 149, 5, 0), [(0, 1), (0, 1)]))
def qb154_5 : QB := (39, [(39, .iastore, 1, 0, 0, 0), (40, .iinc 2 1, 3, 2, 0, 1)], (1, (43, .goto (-41), 3, 1, 0, 0), []))
def qb154_6 : QB := (46, [], (7, (46, .return_, 1, 0, 0, 0), []))
def qm154 : QM := (yX11_cools, cX11_cools, 3, none, 22, 2, [qb154_0, qb154_1, qb154_2, qb154_3, qb154_4, qb154_5, qb154_6])
def qb155_0 : QB := (0, [(0, .iconst 0, 1, 0, 0, 0), (1, .istore_n 2, 1, 2, 0, 0)], (0, (2, .nop, 0, 1, 0, 0), []))
def qb155_1 : QB := (2, [(2, .iload_n 2, 1, 2, 0, 0), (3, .bipush 8, 2, 0, 0, 8)], (3, (5, .if_icmp .ge 45, 3, 3, 2, 0), []))
def qb155_2 : QB := (8, [(8, .aload_n 0, 1, 0, 0, 0), (9, .getfield 86, 3, 35, 11, 0), (12, .iload_n 2, 1, 2, 0, 0), (13, .aload_n 0, 1, 0, 0, 0), (14, .getfield 16, 3, 3, 11, 0), (17, .iload_n 2, 1, 2, 0, 0), (18, .iaload, 1, 0, 0, 0), (19, .iastore, 1, 0, 0, 0), (20, .aload_n 0, 1, 0, 0, 0), (21, .getfield 89, 3, 36, 11, 0), (24, .iload_n 2, 1, 2, 0, 0), (25, .aload_n 0, 1, 0, 0, 0), (26, .getfield 19, 3, 4, 11, 0), (29, .iload_n 2, 1, 2, 0, 0), (30, .iaload, 1, 0, 0, 0), (31, .iastore, 1, 0, 0, 0), (32, .aload_n 0, 1, 0, 0, 0), (33, .getfield 92, 3, 37, 11, 0), (36, .iload_n 2, 1, 2, 0, 0), (37, .aload_n 0, 1, 0, 0, 0), (38, .getfield 22, 3, 5, 11, 0), (41, .iload_n 2, 1, 2, 0, 0), (42, .iaload, 1, 0, 0, 0), (43, .iastore, 1, 0, 0, 0), (44, .iinc 2 1, 3, 2, 0, 1)], (1, (47, .goto (-45), 3, 1, 0, 0), []))
def qb155_3 : QB := (50, [(50, .iconst 0, 1, 0, 0, 0), (51, .istore_n 2, 1, 2, 0, 0)], (0, (52, .nop, 0, 4, 0, 0), []))
def qb155_4 : QB := (52, [(52, .iload_n 2, 1, 2, 0, 0), (53, .iconst 5, 1, 0, 0, 5)], (3, (54, .if_icmp .ge 16, 3, 6, 5, 0), []))
def qb155_5 : QB := (57, [(57, .aload_n 0, 1, 0, 0, 0), (58, .getfield 116, 3, 45, 11, 0), (61, .iload_n 2, 1, 2, 0, 0), (62, .iload_n 2, 1, 2, 0, 0), (63, .iastore, 1, 0, 0, 0), (64, .iinc 2 1, 3, 2, 0, 1)], (1, (67, .goto (-15), 3, 4, 0, 0), []))
def qb155_6 : QB := (70, [(70, .iconst 0, 1, 0, 0, 0), (71, .istore_n 2, 1, 2, 0, 0)], (0, (72, .nop, 0, 7, 0, 0), []))
def qb155_7 : QB := (72, [(72, .iload_n 2, 1, 2, 0, 0), (73, .bipush 24, 2, 0, 0, 24)], (3, (75, .if_icmp .ge 91, 3, 18, 8, 0), []))
def qb155_8 : QB := (78, [(78, .aload_n 0, 1, 0, 0, 0), (79, .iload_n 2, 1, 2, 0, 0)], (5, (80, .invokevirtual 298, 3, 153, 9, 0), [(15, 2), (0, 3)]))
def qb155_9 : QB := (83, [(83, .aload_n 0, 1, 0, 0, 0), (84, .getfield 7, 3, 1, 11, 0), (87, .iload_n 2, 1, 2, 0, 0), (88, .iaload, 1, 0, 0, 0), (89, .bipush 12, 2, 0, 0, 12)], (3, (91, .if_icmp .eq 7, 3, 11, 10, 0), []))
def qb155_10 : QB := (94, [(94, .iconst 1, 1, 0, 0, 1)], (1, (95, .goto 4, 3, 12, 0, 0), []))
def qb155_11 : QB := (98, [(98, .iconst 0, 1, 0, 0, 0)], (0, (99, .nop, 0, 12, 0, 0), []))
def qb155_12 : QB := (99, [(99, .istore_n 3, 1, 3, 0, 0), (100, .aload_n 0, 1, 0, 0, 0), (101, .getfield 104, 3, 41, 11, 0), (104, .iload_n 2, 1, 2, 0, 0), (105, .iconst 0, 1, 0, 0, 0), (106, .iastore, 1, 0, 0, 0), (107, .aload_n 0, 1, 0, 0, 0), (108, .getfield 107, 3, 42, 11, 0), (111, .iload_n 2, 1, 2, 0, 0), (112, .iconst 0, 1, 0, 0, 0), (113, .iastore, 1, 0, 0, 0), (114, .aload_n 0, 1, 0, 0, 0), (115, .getfield 110, 3, 43, 11, 0), (118, .iload_n 2, 1, 2, 0, 0), (119, .iconst 0, 1, 0, 0, 0), (120, .iastore, 1, 0, 0, 0), (121, .aload_n 0, 1, 0, 0, 0), (122, .getfield 113, 3, 44, 11, 0), (125, .iload_n 2, 1, 2, 0, 0), (126, .iconst (-1), 1, 0, 0, (-1)), (127, .iastore, 1, 0, 0, 0), (128, .iload_n 3, 1, 3, 0, 0)], (2, (129, .ifCond .eq 26, 3, 16, 13, 0), []))
def qb155_13 : QB := (132, [(132, .aload_n 0, 1, 0, 0, 0), (133, .getfield 104, 3, 41, 11, 0), (136, .iload_n 2, 1, 2, 0, 0), (137, .aload_n 0, 1, 0, 0, 0), (138, .iload_n 2, 1, 2, 0, 0)], (5, (139, .invokevirtual 301, 3, 151, 14, 0), [(15, 2), (0, 6)]))
def qb155_14 : QB := (142, [(142, .iastore, 1, 0, 0, 0), (143, .aload_n 0, 1, 0, 0, 0), (144, .getfield 107, 3, 42, 11, 0), (147, .iload_n 2, 1, 2, 0, 0), (148, .aload_n 0, 1, 0, 0, 0), (149, .iload_n 2, 1, 2, 0, 0), (150, .iload_n 1, 1, 1, 0, 0)], (5, (151, .invokevirtual 304, 3, 152, 15, 0), [(15, 3), (0, 5)]))
def qb155_15 : QB := (154, [(154, .iastore, 1, 0, 0, 0)], (0, (155, .nop, 0, 16, 0, 0), []))
def qb155_16 : QB := (155, [(155, .aload_n 0, 1, 0, 0, 0), (156, .iload_n 2, 1, 2, 0, 0)], (5, (157, .invokevirtual 307, 3, 154, 17, 0), [(15, 2), (0, 3)]))
def qb155_17 : QB := (160, [(160, .iinc 2 1, 3, 2, 0, 1)], (1, (163, .goto (-91), 3, 7, 0, 0), []))
def qb155_18 : QB := (166, [(166, .aload_n 0, 1, 0, 0, 0), (167, .bipush 24, 2, 0, 0, 24)], (5, (169, .invokevirtual 298, 3, 153, 19, 0), [(15, 2), (0, 3)]))
def qb155_19 : QB := (172, [], (7, (172, .return_, 1, 0, 0, 0), []))
def qm155 : QM := (yX11_runs, cX11_runs, 4, none, 22, 2, [qb155_0, qb155_1, qb155_2, qb155_3, qb155_4, qb155_5, qb155_6, qb155_7, qb155_8, qb155_9, qb155_10, qb155_11, qb155_12, qb155_13, qb155_14, qb155_15, qb155_16, qb155_17, qb155_18, qb155_19])
def qb156_0 : QB := (0, [(0, .iload_n 1, 1, 1, 0, 0), (1, .iconst 0, 1, 0, 0, 0), (2, .bipush 24, 2, 0, 0, 24)], (5, (4, .invokestatic 169, 3, 112, 1, 0), [(0, 3), (0, 3)]))
def qb156_1 : QB := (7, [], (2, (7, .ifCond .eq 19, 3, 6, 2, 0), []))
def qb156_2 : QB := (10, [(10, .iload_n 2, 1, 2, 0, 0)], (5, (11, .invokestatic 166, 3, 115, 3, 0), [(0, 1), (0, 1)]))
def qb156_3 : QB := (14, [], (2, (14, .ifCond .eq 12, 3, 6, 4, 0), []))
def qb156_4 : QB := (17, [(17, .iload_n 3, 1, 3, 0, 0), (18, .iconst 0, 1, 0, 0, 0), (19, .iconst 2, 1, 0, 0, 2)], (5, (20, .invokestatic 169, 3, 112, 5, 0), [(0, 3), (0, 3)]))
def qb156_5 : QB := (23, [], (2, (23, .ifCond .ne 5, 3, 7, 6, 0), []))
def qb156_6 : QB := (26, [(26, .iconst (-1), 1, 0, 0, (-1))], (6, (27, .ireturn, 1, 0, 0, 0), []))
def qb156_7 : QB := (28, [(28, .aload_n 0, 1, 0, 0, 0), (29, .iconst 0, 1, 0, 0, 0)], (5, (30, .invokevirtual 310, 3, 155, 8, 0), [(15, 2), (0, 4)]))
def qb156_8 : QB := (33, [(33, .bipush 8, 2, 0, 0, 8), (35, .iload_n 1, 1, 1, 0, 0), (36, .imul, 1, 0, 0, 0), (37, .iload_n 2, 1, 2, 0, 0), (38, .iadd, 1, 0, 0, 0), (39, .istore 4, 2, 4, 0, 0), (41, .iload_n 3, 1, 3, 0, 0)], (2, (42, .ifCond .ne 13, 3, 10, 9, 0), []))
def qb156_9 : QB := (45, [(45, .aload_n 0, 1, 0, 0, 0), (46, .getfield 95, 3, 38, 11, 0), (49, .iload 4, 2, 4, 0, 0), (51, .iaload, 1, 0, 0, 0)], (1, (52, .goto 25, 3, 13, 0, 0), []))
def qb156_10 : QB := (55, [(55, .iload_n 3, 1, 3, 0, 0), (56, .iconst 1, 1, 0, 0, 1)], (3, (57, .if_icmp .ne 13, 3, 12, 11, 0), []))
def qb156_11 : QB := (60, [(60, .aload_n 0, 1, 0, 0, 0), (61, .getfield 98, 3, 39, 11, 0), (64, .iload 4, 2, 4, 0, 0), (66, .iaload, 1, 0, 0, 0)], (1, (67, .goto 10, 3, 13, 0, 0), []))
def qb156_12 : QB := (70, [(70, .aload_n 0, 1, 0, 0, 0), (71, .getfield 101, 3, 40, 11, 0), (74, .iload 4, 2, 4, 0, 0), (76, .iaload, 1, 0, 0, 0)], (0, (77, .nop, 0, 13, 0, 0), []))
def qb156_13 : QB := (77, [], (6, (77, .ireturn, 1, 0, 0, 0), []))
def qm156 : QM := (yX11_found, cX11_found, 5, (some .int), 22, 4, [qb156_0, qb156_1, qb156_2, qb156_3, qb156_4, qb156_5, qb156_6, qb156_7, qb156_8, qb156_9, qb156_10, qb156_11, qb156_12, qb156_13])
def qb157_0 : QB := (0, [(0, .iload_n 1, 1, 1, 0, 0)], (5, (1, .invokestatic 159, 3, 113, 1, 0), [(0, 1), (0, 1)]))
def qb157_1 : QB := (4, [], (2, (4, .ifCond .ne 7, 3, 3, 2, 0), []))
def qb157_2 : QB := (7, [(7, .ldc_w 313, 3, 0, 0, (-1000000))], (6, (10, .ireturn, 1, 0, 0, 0), []))
def qb157_3 : QB := (11, [(11, .aload_n 0, 1, 0, 0, 0), (12, .iconst 0, 1, 0, 0, 0)], (5, (13, .invokevirtual 310, 3, 155, 4, 0), [(15, 2), (0, 4)]))
def qb157_4 : QB := (16, [(16, .iload_n 2, 1, 2, 0, 0)], (4, (17, .tableswitch 70 0 4 #[35, 42, 49, 56, 63], 35, 10, 0, 0), [(0, 5), (1, 6), (2, 7), (3, 8), (4, 9)]))
def qb157_5 : QB := (52, [(52, .aload_n 0, 1, 0, 0, 0), (53, .getfield 7, 3, 1, 11, 0), (56, .iload_n 1, 1, 1, 0, 0), (57, .iaload, 1, 0, 0, 0)], (6, (58, .ireturn, 1, 0, 0, 0), []))
def qb157_6 : QB := (59, [(59, .aload_n 0, 1, 0, 0, 0), (60, .getfield 104, 3, 41, 11, 0), (63, .iload_n 1, 1, 1, 0, 0), (64, .iaload, 1, 0, 0, 0)], (6, (65, .ireturn, 1, 0, 0, 0), []))
def qb157_7 : QB := (66, [(66, .aload_n 0, 1, 0, 0, 0), (67, .getfield 107, 3, 42, 11, 0), (70, .iload_n 1, 1, 1, 0, 0), (71, .iaload, 1, 0, 0, 0)], (6, (72, .ireturn, 1, 0, 0, 0), []))
def qb157_8 : QB := (73, [(73, .aload_n 0, 1, 0, 0, 0), (74, .getfield 110, 3, 43, 11, 0), (77, .iload_n 1, 1, 1, 0, 0), (78, .iaload, 1, 0, 0, 0)], (6, (79, .ireturn, 1, 0, 0, 0), []))
def qb157_9 : QB := (80, [(80, .aload_n 0, 1, 0, 0, 0), (81, .getfield 113, 3, 44, 11, 0), (84, .iload_n 1, 1, 1, 0, 0), (85, .iaload, 1, 0, 0, 0)], (6, (86, .ireturn, 1, 0, 0, 0), []))
def qb157_10 : QB := (87, [(87, .ldc_w 313, 3, 0, 0, (-1000000))], (6, (90, .ireturn, 1, 0, 0, 0), []))
def qm157 : QM := (yX11_hourIs, cX11_hourIs, 3, (some .int), 22, 3, [qb157_0, qb157_1, qb157_2, qb157_3, qb157_4, qb157_5, qb157_6, qb157_7, qb157_8, qb157_9, qb157_10])
def qb158_0 : QB := (0, [(0, .iconst 0, 1, 0, 0, 0), (1, .istore_n 3, 1, 3, 0, 0), (2, .iconst 0, 1, 0, 0, 0), (3, .istore 4, 2, 4, 0, 0)], (0, (5, .nop, 0, 1, 0, 0), []))
def qb158_1 : QB := (5, [(5, .iload 4, 2, 4, 0, 0), (7, .bipush 24, 2, 0, 0, 24)], (3, (9, .if_icmp .ge 53, 3, 10, 2, 0), []))
def qb158_2 : QB := (12, [(12, .aload_n 0, 1, 0, 0, 0), (13, .getfield 7, 3, 1, 11, 0), (16, .iload 4, 2, 4, 0, 0), (18, .iaload, 1, 0, 0, 0), (19, .iload_n 1, 1, 1, 0, 0)], (3, (20, .if_icmp .ne 36, 3, 9, 3, 0), []))
def qb158_3 : QB := (23, [(23, .iload_n 3, 1, 3, 0, 0), (24, .iload_n 2, 1, 2, 0, 0)], (2, (25, .ifCond .ne 13, 3, 5, 4, 0), []))
def qb158_4 : QB := (28, [(28, .aload_n 0, 1, 0, 0, 0), (29, .getfield 104, 3, 41, 11, 0), (32, .iload 4, 2, 4, 0, 0), (34, .iaload, 1, 0, 0, 0)], (1, (35, .goto 19, 3, 8, 0, 0), []))
def qb158_5 : QB := (38, [(38, .iload_n 2, 1, 2, 0, 0), (39, .iconst 1, 1, 0, 0, 1)], (3, (40, .if_icmp .ne 13, 3, 7, 6, 0), []))
def qb158_6 : QB := (43, [(43, .aload_n 0, 1, 0, 0, 0), (44, .getfield 107, 3, 42, 11, 0), (47, .iload 4, 2, 4, 0, 0), (49, .iaload, 1, 0, 0, 0)], (1, (50, .goto 4, 3, 8, 0, 0), []))
def qb158_7 : QB := (53, [(53, .iconst 1, 1, 0, 0, 1)], (0, (54, .nop, 0, 8, 0, 0), []))
def qb158_8 : QB := (54, [(54, .iadd, 1, 0, 0, 0), (55, .istore_n 3, 1, 3, 0, 0)], (0, (56, .nop, 0, 9, 0, 0), []))
def qb158_9 : QB := (56, [(56, .iinc 4 1, 3, 4, 0, 1)], (1, (59, .goto (-54), 3, 1, 0, 0), []))
def qb158_10 : QB := (62, [(62, .iload_n 3, 1, 3, 0, 0)], (6, (63, .ireturn, 1, 0, 0, 0), []))
def qm158 : QM := (yX11_sumOf, cX11_sumOf, 5, (some .int), 22, 3, [qb158_0, qb158_1, qb158_2, qb158_3, qb158_4, qb158_5, qb158_6, qb158_7, qb158_8, qb158_9, qb158_10])
def qb159_0 : QB := (0, [(0, .aload_n 0, 1, 0, 0, 0), (1, .iconst 0, 1, 0, 0, 0)], (5, (2, .invokevirtual 310, 3, 155, 1, 0), [(15, 2), (0, 4)]))
def qb159_1 : QB := (5, [(5, .aload_n 0, 1, 0, 0, 0), (6, .iload_n 1, 1, 1, 0, 0), (7, .iconst 0, 1, 0, 0, 0)], (5, (8, .invokevirtual 314, 3, 158, 2, 0), [(15, 3), (0, 5)]))
def qb159_2 : QB := (11, [(11, .aload_n 0, 1, 0, 0, 0), (12, .iload_n 1, 1, 1, 0, 0), (13, .iconst 1, 1, 0, 0, 1)], (5, (14, .invokevirtual 314, 3, 158, 3, 0), [(15, 3), (0, 5)]))
def qb159_3 : QB := (17, [(17, .isub, 1, 0, 0, 0)], (6, (18, .ireturn, 1, 0, 0, 0), []))
def qm159 : QM := (yX11_valueOf, cX11_valueOf, 2, (some .int), 22, 2, [qb159_0, qb159_1, qb159_2, qb159_3])
def qb160_0 : QB := (0, [(0, .iload_n 1, 1, 1, 0, 0)], (5, (1, .invokestatic 163, 3, 114, 1, 0), [(0, 1), (0, 1)]))
def qb160_1 : QB := (4, [], (2, (4, .ifCond .eq 12, 3, 4, 2, 0), []))
def qb160_2 : QB := (7, [(7, .iload_n 2, 1, 2, 0, 0), (8, .iconst 0, 1, 0, 0, 0), (9, .iconst 3, 1, 0, 0, 3)], (5, (10, .invokestatic 169, 3, 112, 3, 0), [(0, 3), (0, 3)]))
def qb160_3 : QB := (13, [], (2, (13, .ifCond .ne 7, 3, 5, 4, 0), []))
def qb160_4 : QB := (16, [(16, .ldc_w 313, 3, 0, 0, (-1000000))], (6, (19, .ireturn, 1, 0, 0, 0), []))
def qb160_5 : QB := (20, [(20, .aload_n 0, 1, 0, 0, 0), (21, .iload_n 1, 1, 1, 0, 0)], (5, (22, .invokevirtual 317, 3, 159, 6, 0), [(15, 2), (0, 2)]))
def qb160_6 : QB := (25, [(25, .istore_n 3, 1, 3, 0, 0), (26, .iload_n 2, 1, 2, 0, 0)], (2, (27, .ifCond .ne 7, 3, 8, 7, 0), []))
def qb160_7 : QB := (30, [(30, .iload_n 3, 1, 3, 0, 0)], (1, (31, .goto 11, 3, 9, 0, 0), []))
def qb160_8 : QB := (34, [(34, .aload_n 0, 1, 0, 0, 0), (35, .iload_n 1, 1, 1, 0, 0), (36, .iload_n 2, 1, 2, 0, 0), (37, .iconst 1, 1, 0, 0, 1), (38, .isub, 1, 0, 0, 0)], (5, (39, .invokevirtual 314, 3, 158, 9, 0), [(15, 3), (0, 5)]))
def qb160_9 : QB := (42, [], (6, (42, .ireturn, 1, 0, 0, 0), []))
def qm160 : QM := (yX11_value, cX11_value, 4, (some .int), 22, 3, [qb160_0, qb160_1, qb160_2, qb160_3, qb160_4, qb160_5, qb160_6, qb160_7, qb160_8, qb160_9])
def qb161_0 : QB := (0, [(0, .iload_n 2, 1, 2, 0, 0), (1, .istore 4, 2, 4, 0, 0), (3, .iload_n 3, 1, 3, 0, 0), (4, .istore 5, 2, 5, 0, 0), (6, .iconst 0, 1, 0, 0, 0), (7, .istore 6, 2, 6, 0, 0), (9, .iconst 0, 1, 0, 0, 0), (10, .istore 7, 2, 7, 0, 0)], (0, (12, .nop, 0, 1, 0, 0), []))
def qb161_1 : QB := (12, [(12, .iload 7, 2, 7, 0, 0), (14, .iload_n 1, 1, 1, 0, 0)], (3, (15, .if_icmp .ge 100, 3, 10, 2, 0), []))
def qb161_2 : QB := (18, [(18, .iload 5, 2, 5, 0, 0), (20, .iload_n 1, 1, 1, 0, 0), (21, .iload 7, 2, 7, 0, 0), (23, .isub, 1, 0, 0, 0), (24, .idiv, 1, 0, 0, 0), (25, .istore 5, 2, 5, 0, 0), (27, .iload 4, 2, 4, 0, 0), (29, .iload 5, 2, 5, 0, 0), (31, .idiv, 1, 0, 0, 0), (32, .istore 8, 2, 8, 0, 0), (34, .iload 4, 2, 4, 0, 0), (36, .iload 5, 2, 5, 0, 0), (38, .irem, 1, 0, 0, 0), (39, .istore 4, 2, 4, 0, 0), (41, .iconst 0, 1, 0, 0, 0), (42, .istore 9, 2, 9, 0, 0)], (0, (44, .nop, 0, 3, 0, 0), []))
def qb161_3 : QB := (44, [(44, .iload 6, 2, 6, 0, 0), (46, .iload 9, 2, 9, 0, 0), (48, .ishr, 1, 0, 0, 0), (49, .iconst 1, 1, 0, 0, 1), (50, .iand, 1, 0, 0, 0), (51, .iconst 1, 1, 0, 0, 1)], (3, (52, .if_icmp .eq 8, 3, 5, 4, 0), []))
def qb161_4 : QB := (55, [(55, .iload 8, 2, 8, 0, 0)], (2, (57, .ifCond .le 34, 3, 9, 5, 0), []))
def qb161_5 : QB := (60, [(60, .iload 6, 2, 6, 0, 0), (62, .iload 9, 2, 9, 0, 0), (64, .ishr, 1, 0, 0, 0), (65, .iconst 1, 1, 0, 0, 1), (66, .iand, 1, 0, 0, 0), (67, .iconst 1, 1, 0, 0, 1)], (3, (68, .if_icmp .ne 8, 3, 7, 6, 0), []))
def qb161_6 : QB := (71, [(71, .iload 8, 2, 8, 0, 0)], (1, (73, .goto 7, 3, 8, 0, 0), []))
def qb161_7 : QB := (76, [(76, .iload 8, 2, 8, 0, 0), (78, .iconst 1, 1, 0, 0, 1), (79, .isub, 1, 0, 0, 0)], (0, (80, .nop, 0, 8, 0, 0), []))
def qb161_8 : QB := (80, [(80, .istore 8, 2, 8, 0, 0), (82, .iload 9, 2, 9, 0, 0), (84, .iconst 1, 1, 0, 0, 1), (85, .iadd, 1, 0, 0, 0), (86, .istore 9, 2, 9, 0, 0)], (1, (88, .goto (-44), 3, 3, 0, 0), []))
def qb161_9 : QB := (91, [(91, .iload 6, 2, 6, 0, 0), (93, .iconst 1, 1, 0, 0, 1), (94, .iload 9, 2, 9, 0, 0), (96, .ishl, 1, 0, 0, 0), (97, .ior, 1, 0, 0, 0), (98, .istore 6, 2, 6, 0, 0), (100, .aload_n 0, 1, 0, 0, 0), (101, .getfield 116, 3, 45, 11, 0), (104, .iload 7, 2, 7, 0, 0), (106, .iload 9, 2, 9, 0, 0), (108, .iastore, 1, 0, 0, 0), (109, .iinc 7 1, 3, 7, 0, 1)], (1, (112, .goto (-100), 3, 1, 0, 0), []))
def qb161_10 : QB := (115, [], (7, (115, .return_, 1, 0, 0, 0), []))
def qm161 : QM := (yX11_ordersBy, cX11_ordersBy, 10, none, 22, 4, [qb161_0, qb161_1, qb161_2, qb161_3, qb161_4, qb161_5, qb161_6, qb161_7, qb161_8, qb161_9, qb161_10])
def qb162_0 : QB := (0, [(0, .iconst 0, 1, 0, 0, 0), (1, .istore_n 2, 1, 2, 0, 0)], (0, (2, .nop, 0, 1, 0, 0), []))
def qb162_1 : QB := (2, [(2, .iload_n 2, 1, 2, 0, 0), (3, .bipush 8, 2, 0, 0, 8)], (3, (5, .if_icmp .ge 60, 3, 3, 2, 0), []))
def qb162_2 : QB := (8, [(8, .aload_n 0, 1, 0, 0, 0), (9, .getfield 86, 3, 35, 11, 0), (12, .iload_n 2, 1, 2, 0, 0), (13, .aload_n 0, 1, 0, 0, 0), (14, .getfield 95, 3, 38, 11, 0), (17, .bipush 8, 2, 0, 0, 8), (19, .iload_n 1, 1, 1, 0, 0), (20, .imul, 1, 0, 0, 0), (21, .iload_n 2, 1, 2, 0, 0), (22, .iadd, 1, 0, 0, 0), (23, .iaload, 1, 0, 0, 0), (24, .iastore, 1, 0, 0, 0), (25, .aload_n 0, 1, 0, 0, 0), (26, .getfield 89, 3, 36, 11, 0), (29, .iload_n 2, 1, 2, 0, 0), (30, .aload_n 0, 1, 0, 0, 0), (31, .getfield 98, 3, 39, 11, 0), (34, .bipush 8, 2, 0, 0, 8), (36, .iload_n 1, 1, 1, 0, 0), (37, .imul, 1, 0, 0, 0), (38, .iload_n 2, 1, 2, 0, 0), (39, .iadd, 1, 0, 0, 0), (40, .iaload, 1, 0, 0, 0), (41, .iastore, 1, 0, 0, 0), (42, .aload_n 0, 1, 0, 0, 0), (43, .getfield 92, 3, 37, 11, 0), (46, .iload_n 2, 1, 2, 0, 0), (47, .aload_n 0, 1, 0, 0, 0), (48, .getfield 101, 3, 40, 11, 0), (51, .bipush 8, 2, 0, 0, 8), (53, .iload_n 1, 1, 1, 0, 0), (54, .imul, 1, 0, 0, 0), (55, .iload_n 2, 1, 2, 0, 0), (56, .iadd, 1, 0, 0, 0), (57, .iaload, 1, 0, 0, 0), (58, .iastore, 1, 0, 0, 0), (59, .iinc 2 1, 3, 2, 0, 1)], (1, (62, .goto (-60), 3, 1, 0, 0), []))
def qb162_3 : QB := (65, [(65, .aload_n 0, 1, 0, 0, 0), (66, .iload_n 1, 1, 1, 0, 0)], (5, (67, .invokevirtual 301, 3, 151, 4, 0), [(15, 2), (0, 6)]))
def qb162_4 : QB := (70, [(70, .istore_n 2, 1, 2, 0, 0), (71, .iload_n 2, 1, 2, 0, 0), (72, .aload_n 0, 1, 0, 0, 0), (73, .iload_n 1, 1, 1, 0, 0), (74, .iconst 0, 1, 0, 0, 0)], (5, (75, .invokevirtual 304, 3, 152, 5, 0), [(15, 3), (0, 5)]))
def qb162_5 : QB := (78, [(78, .isub, 1, 0, 0, 0)], (6, (79, .ireturn, 1, 0, 0, 0), []))
def qm162 : QM := (yX11_orderGives, cX11_orderGives, 3, (some .int), 22, 2, [qb162_0, qb162_1, qb162_2, qb162_3, qb162_4, qb162_5])
def qb163_0 : QB := (0, [(0, .iload_n 1, 1, 1, 0, 0)], (5, (1, .invokestatic 159, 3, 113, 1, 0), [(0, 1), (0, 1)]))
def qb163_1 : QB := (4, [], (2, (4, .ifCond .eq 35, 3, 5, 2, 0), []))
def qb163_2 : QB := (7, [(7, .aload_n 0, 1, 0, 0, 0), (8, .getfield 7, 3, 1, 11, 0), (11, .iload_n 1, 1, 1, 0, 0), (12, .iaload, 1, 0, 0, 0), (13, .bipush 12, 2, 0, 0, 12)], (3, (15, .if_icmp .eq 24, 3, 5, 3, 0), []))
def qb163_3 : QB := (18, [(18, .iload_n 2, 1, 2, 0, 0), (19, .iconst (-1), 1, 0, 0, (-1)), (20, .aload_n 0, 1, 0, 0, 0), (21, .getfield 25, 3, 6, 11, 0), (24, .aload_n 0, 1, 0, 0, 0), (25, .getfield 7, 3, 1, 11, 0), (28, .iload_n 1, 1, 1, 0, 0), (29, .iaload, 1, 0, 0, 0), (30, .iaload, 1, 0, 0, 0), (31, .iconst 1, 1, 0, 0, 1), (32, .isub, 1, 0, 0, 0)], (5, (33, .invokestatic 169, 3, 112, 4, 0), [(0, 3), (0, 3)]))
def qb163_4 : QB := (36, [], (2, (36, .ifCond .ne 7, 3, 6, 5, 0), []))
def qb163_5 : QB := (39, [(39, .ldc_w 313, 3, 0, 0, (-1000000))], (6, (42, .ireturn, 1, 0, 0, 0), []))
def qb163_6 : QB := (43, [(43, .aload_n 0, 1, 0, 0, 0), (44, .iconst 0, 1, 0, 0, 0)], (5, (45, .invokevirtual 310, 3, 155, 7, 0), [(15, 2), (0, 4)]))
def qb163_7 : QB := (48, [(48, .aload_n 0, 1, 0, 0, 0), (49, .getfield 25, 3, 6, 11, 0), (52, .aload_n 0, 1, 0, 0, 0), (53, .getfield 7, 3, 1, 11, 0), (56, .iload_n 1, 1, 1, 0, 0), (57, .iaload, 1, 0, 0, 0), (58, .iaload, 1, 0, 0, 0), (59, .istore_n 3, 1, 3, 0, 0), (60, .iconst 1, 1, 0, 0, 1), (61, .istore 4, 2, 4, 0, 0), (63, .iconst 2, 1, 0, 0, 2), (64, .istore 5, 2, 5, 0, 0)], (0, (66, .nop, 0, 8, 0, 0), []))
def qb163_8 : QB := (66, [(66, .iload 5, 2, 5, 0, 0), (68, .iload_n 3, 1, 3, 0, 0)], (3, (69, .if_icmp .gt 16, 3, 10, 9, 0), []))
def qb163_9 : QB := (72, [(72, .iload 4, 2, 4, 0, 0), (74, .iload 5, 2, 5, 0, 0), (76, .imul, 1, 0, 0, 0), (77, .istore 4, 2, 4, 0, 0), (79, .iinc 5 1, 3, 5, 0, 1)], (1, (82, .goto (-16), 3, 8, 0, 0), []))
def qb163_10 : QB := (85, [(85, .ldc_w 320, 3, 0, 0, (-1000000000)), (88, .istore 5, 2, 5, 0, 0), (90, .iconst 0, 1, 0, 0, 0), (91, .istore 6, 2, 6, 0, 0)], (0, (93, .nop, 0, 11, 0, 0), []))
def qb163_11 : QB := (93, [(93, .iload 6, 2, 6, 0, 0), (95, .iload 4, 2, 4, 0, 0)], (3, (97, .if_icmp .ge 68, 3, 20, 12, 0), []))
def qb163_12 : QB := (100, [(100, .aload_n 0, 1, 0, 0, 0), (101, .iload_n 3, 1, 3, 0, 0), (102, .iload 6, 2, 6, 0, 0), (104, .iload 4, 2, 4, 0, 0)], (5, (106, .invokevirtual 321, 3, 161, 13, 0), [(15, 4), (0, 10)]))
def qb163_13 : QB := (109, [(109, .aload_n 0, 1, 0, 0, 0), (110, .iload_n 1, 1, 1, 0, 0)], (5, (111, .invokevirtual 325, 3, 162, 14, 0), [(15, 2), (0, 3)]))
def qb163_14 : QB := (114, [(114, .istore 7, 2, 7, 0, 0), (116, .iload 7, 2, 7, 0, 0), (118, .iload 5, 2, 5, 0, 0)], (3, (120, .if_icmp .gt 6, 3, 16, 15, 0), []))
def qb163_15 : QB := (123, [], (1, (123, .goto 36, 3, 19, 0, 0), []))
def qb163_16 : QB := (126, [(126, .iload 7, 2, 7, 0, 0), (128, .istore 5, 2, 5, 0, 0), (130, .iconst 0, 1, 0, 0, 0), (131, .istore 8, 2, 8, 0, 0)], (0, (133, .nop, 0, 17, 0, 0), []))
def qb163_17 : QB := (133, [(133, .iload 8, 2, 8, 0, 0), (135, .iload_n 3, 1, 3, 0, 0)], (3, (136, .if_icmp .ge 23, 3, 19, 18, 0), []))
def qb163_18 : QB := (139, [(139, .aload_n 0, 1, 0, 0, 0), (140, .getfield 119, 3, 46, 11, 0), (143, .iload 8, 2, 8, 0, 0), (145, .aload_n 0, 1, 0, 0, 0), (146, .getfield 116, 3, 45, 11, 0), (149, .iload 8, 2, 8, 0, 0), (151, .iaload, 1, 0, 0, 0), (152, .iastore, 1, 0, 0, 0), (153, .iinc 8 1, 3, 8, 0, 1)], (1, (156, .goto (-23), 3, 17, 0, 0), []))
def qb163_19 : QB := (159, [(159, .iinc 6 1, 3, 6, 0, 1)], (1, (162, .goto (-69), 3, 11, 0, 0), []))
def qb163_20 : QB := (165, [(165, .iload_n 2, 1, 2, 0, 0), (166, .iconst (-1), 1, 0, 0, (-1))], (3, (167, .if_icmp .ne 8, 3, 22, 21, 0), []))
def qb163_21 : QB := (170, [(170, .iload 5, 2, 5, 0, 0)], (1, (172, .goto 9, 3, 23, 0, 0), []))
def qb163_22 : QB := (175, [(175, .aload_n 0, 1, 0, 0, 0), (176, .getfield 119, 3, 46, 11, 0), (179, .iload_n 2, 1, 2, 0, 0), (180, .iaload, 1, 0, 0, 0)], (0, (181, .nop, 0, 23, 0, 0), []))
def qb163_23 : QB := (181, [], (6, (181, .ireturn, 1, 0, 0, 0), []))
def qm163 : QM := (yX11_bestOrder, cX11_bestOrder, 9, (some .int), 22, 3, [qb163_0, qb163_1, qb163_2, qb163_3, qb163_4, qb163_5, qb163_6, qb163_7, qb163_8, qb163_9, qb163_10, qb163_11, qb163_12, qb163_13, qb163_14, qb163_15, qb163_16, qb163_17, qb163_18, qb163_19, qb163_20, qb163_21, qb163_22, qb163_23])
def qb164_0 : QB := (0, [(0, .iload_n 1, 1, 1, 0, 0)], (5, (1, .invokestatic 159, 3, 113, 1, 0), [(0, 1), (0, 1)]))
def qb164_1 : QB := (4, [], (2, (4, .ifCond .eq 14, 3, 3, 2, 0), []))
def qb164_2 : QB := (7, [(7, .aload_n 0, 1, 0, 0, 0), (8, .getfield 7, 3, 1, 11, 0), (11, .iload_n 1, 1, 1, 0, 0), (12, .iaload, 1, 0, 0, 0), (13, .bipush 12, 2, 0, 0, 12)], (3, (15, .if_icmp .ne 7, 3, 4, 3, 0), []))
def qb164_3 : QB := (18, [(18, .ldc_w 313, 3, 0, 0, (-1000000))], (6, (21, .ireturn, 1, 0, 0, 0), []))
def qb164_4 : QB := (22, [(22, .aload_n 0, 1, 0, 0, 0), (23, .getfield 7, 3, 1, 11, 0), (26, .iload_n 1, 1, 1, 0, 0), (27, .iaload, 1, 0, 0, 0), (28, .istore_n 2, 1, 2, 0, 0), (29, .aload_n 0, 1, 0, 0, 0), (30, .iload_n 2, 1, 2, 0, 0)], (5, (31, .invokevirtual 317, 3, 159, 5, 0), [(15, 2), (0, 2)]))
def qb164_5 : QB := (34, [(34, .istore_n 3, 1, 3, 0, 0), (35, .aload_n 0, 1, 0, 0, 0), (36, .getfield 7, 3, 1, 11, 0), (39, .iload_n 1, 1, 1, 0, 0), (40, .bipush 12, 2, 0, 0, 12), (42, .iastore, 1, 0, 0, 0), (43, .aload_n 0, 1, 0, 0, 0), (44, .iload_n 2, 1, 2, 0, 0)], (5, (45, .invokevirtual 317, 3, 159, 6, 0), [(15, 2), (0, 2)]))
def qb164_6 : QB := (48, [(48, .istore 4, 2, 4, 0, 0), (50, .aload_n 0, 1, 0, 0, 0), (51, .getfield 7, 3, 1, 11, 0), (54, .iload_n 1, 1, 1, 0, 0), (55, .iload_n 2, 1, 2, 0, 0), (56, .iastore, 1, 0, 0, 0), (57, .iload_n 3, 1, 3, 0, 0), (58, .iload 4, 2, 4, 0, 0), (60, .isub, 1, 0, 0, 0)], (6, (61, .ireturn, 1, 0, 0, 0), []))
def qm164 : QM := (yX11_price, cX11_price, 5, (some .int), 22, 2, [qb164_0, qb164_1, qb164_2, qb164_3, qb164_4, qb164_5, qb164_6])
def qb165_0 : QB := (0, [(0, .iload_n 1, 1, 1, 0, 0)], (5, (1, .invokestatic 159, 3, 113, 1, 0), [(0, 1), (0, 1)]))
def qb165_1 : QB := (4, [], (2, (4, .ifCond .eq 14, 3, 3, 2, 0), []))
def qb165_2 : QB := (7, [(7, .aload_n 0, 1, 0, 0, 0), (8, .getfield 7, 3, 1, 11, 0), (11, .iload_n 1, 1, 1, 0, 0), (12, .iaload, 1, 0, 0, 0), (13, .bipush 12, 2, 0, 0, 12)], (3, (15, .if_icmp .ne 7, 3, 4, 3, 0), []))
def qb165_3 : QB := (18, [(18, .ldc_w 313, 3, 0, 0, (-1000000))], (6, (21, .ireturn, 1, 0, 0, 0), []))
def qb165_4 : QB := (22, [(22, .iload_n 1, 1, 1, 0, 0)], (2, (23, .ifCond .ne 5, 3, 6, 5, 0), []))
def qb165_5 : QB := (26, [(26, .iconst 0, 1, 0, 0, 0)], (6, (27, .ireturn, 1, 0, 0, 0), []))
def qb165_6 : QB := (28, [(28, .aload_n 0, 1, 0, 0, 0), (29, .iconst 0, 1, 0, 0, 0)], (5, (30, .invokevirtual 310, 3, 155, 7, 0), [(15, 2), (0, 4)]))
def qb165_7 : QB := (33, [(33, .aload_n 0, 1, 0, 0, 0), (34, .getfield 104, 3, 41, 11, 0), (37, .iload_n 1, 1, 1, 0, 0), (38, .iaload, 1, 0, 0, 0), (39, .aload_n 0, 1, 0, 0, 0), (40, .getfield 107, 3, 42, 11, 0), (43, .iload_n 1, 1, 1, 0, 0), (44, .iaload, 1, 0, 0, 0), (45, .isub, 1, 0, 0, 0), (46, .istore_n 2, 1, 2, 0, 0), (47, .aload_n 0, 1, 0, 0, 0), (48, .getfield 7, 3, 1, 11, 0), (51, .iload_n 1, 1, 1, 0, 0), (52, .iconst 1, 1, 0, 0, 1), (53, .isub, 1, 0, 0, 0), (54, .iaload, 1, 0, 0, 0), (55, .istore_n 3, 1, 3, 0, 0), (56, .aload_n 0, 1, 0, 0, 0), (57, .getfield 7, 3, 1, 11, 0), (60, .iload_n 1, 1, 1, 0, 0), (61, .iconst 1, 1, 0, 0, 1), (62, .isub, 1, 0, 0, 0), (63, .bipush 12, 2, 0, 0, 12), (65, .iastore, 1, 0, 0, 0), (66, .aload_n 0, 1, 0, 0, 0), (67, .iconst 0, 1, 0, 0, 0)], (5, (68, .invokevirtual 310, 3, 155, 8, 0), [(15, 2), (0, 4)]))
def qb165_8 : QB := (71, [(71, .aload_n 0, 1, 0, 0, 0), (72, .getfield 7, 3, 1, 11, 0), (75, .iload_n 1, 1, 1, 0, 0), (76, .iconst 1, 1, 0, 0, 1), (77, .isub, 1, 0, 0, 0), (78, .iload_n 3, 1, 3, 0, 0), (79, .iastore, 1, 0, 0, 0), (80, .iload_n 2, 1, 2, 0, 0), (81, .aload_n 0, 1, 0, 0, 0), (82, .getfield 104, 3, 41, 11, 0), (85, .iload_n 1, 1, 1, 0, 0), (86, .iaload, 1, 0, 0, 0), (87, .aload_n 0, 1, 0, 0, 0), (88, .getfield 107, 3, 42, 11, 0), (91, .iload_n 1, 1, 1, 0, 0), (92, .iaload, 1, 0, 0, 0), (93, .isub, 1, 0, 0, 0), (94, .isub, 1, 0, 0, 0)], (6, (95, .ireturn, 1, 0, 0, 0), []))
def qm165 : QM := (yX11_neighbour, cX11_neighbour, 4, (some .int), 22, 2, [qb165_0, qb165_1, qb165_2, qb165_3, qb165_4, qb165_5, qb165_6, qb165_7, qb165_8])
def qb166_0 : QB := (0, [(0, .aload_n 0, 1, 0, 0, 0), (1, .getfield 7, 3, 1, 11, 0), (4, .iload_n 1, 1, 1, 0, 0), (5, .iaload, 1, 0, 0, 0), (6, .istore_n 3, 1, 3, 0, 0), (7, .aload_n 0, 1, 0, 0, 0), (8, .getfield 7, 3, 1, 11, 0), (11, .iload_n 1, 1, 1, 0, 0), (12, .aload_n 0, 1, 0, 0, 0), (13, .getfield 7, 3, 1, 11, 0), (16, .iload_n 2, 1, 2, 0, 0), (17, .iaload, 1, 0, 0, 0), (18, .iastore, 1, 0, 0, 0), (19, .aload_n 0, 1, 0, 0, 0), (20, .getfield 7, 3, 1, 11, 0), (23, .iload_n 2, 1, 2, 0, 0), (24, .iload_n 3, 1, 3, 0, 0), (25, .iastore, 1, 0, 0, 0)], (7, (26, .return_, 1, 0, 0, 0), []))
def qm166 : QM := (yX11_changes, cX11_changes, 4, none, 22, 3, [qb166_0])
def qb167_0 : QB := (0, [(0, .aload_n 0, 1, 0, 0, 0), (1, .iconst 0, 1, 0, 0, 0)], (5, (2, .invokevirtual 310, 3, 155, 1, 0), [(15, 2), (0, 4)]))
def qb167_1 : QB := (5, [(5, .iconst 0, 1, 0, 0, 0), (6, .istore_n 1, 1, 1, 0, 0)], (0, (7, .nop, 0, 2, 0, 0), []))
def qb167_2 : QB := (7, [(7, .iload_n 1, 1, 1, 0, 0), (8, .bipush 12, 2, 0, 0, 12)], (3, (10, .if_icmp .ge 28, 3, 6, 3, 0), []))
def qb167_3 : QB := (13, [(13, .aload_n 0, 1, 0, 0, 0), (14, .getfield 122, 3, 49, 11, 0), (17, .iload_n 1, 1, 1, 0, 0), (18, .aload_n 0, 1, 0, 0, 0), (19, .iload_n 1, 1, 1, 0, 0), (20, .iconst 0, 1, 0, 0, 0)], (5, (21, .invokevirtual 314, 3, 158, 4, 0), [(15, 3), (0, 5)]))
def qb167_4 : QB := (24, [(24, .aload_n 0, 1, 0, 0, 0), (25, .iload_n 1, 1, 1, 0, 0), (26, .iconst 1, 1, 0, 0, 1)], (5, (27, .invokevirtual 314, 3, 158, 5, 0), [(15, 3), (0, 5)]))
def qb167_5 : QB := (30, [(30, .isub, 1, 0, 0, 0), (31, .iastore, 1, 0, 0, 0), (32, .iinc 1 1, 3, 1, 0, 1)], (1, (35, .goto (-28), 3, 2, 0, 0), []))
def qb167_6 : QB := (38, [], (7, (38, .return_, 1, 0, 0, 0), []))
def qm167 : QM := (yX11_laysValues, cX11_laysValues, 2, none, 22, 1, [qb167_0, qb167_1, qb167_2, qb167_3, qb167_4, qb167_5, qb167_6])
def qb168_0 : QB := (0, [(0, .aload_n 0, 1, 0, 0, 0), (1, .getfield 7, 3, 1, 11, 0), (4, .iload_n 1, 1, 1, 0, 0), (5, .iaload, 1, 0, 0, 0), (6, .istore_n 3, 1, 3, 0, 0), (7, .aload_n 0, 1, 0, 0, 0), (8, .getfield 7, 3, 1, 11, 0), (11, .iload_n 2, 1, 2, 0, 0), (12, .iaload, 1, 0, 0, 0), (13, .istore 4, 2, 4, 0, 0), (15, .aload_n 0, 1, 0, 0, 0), (16, .iload_n 1, 1, 1, 0, 0), (17, .iload_n 2, 1, 2, 0, 0)], (5, (18, .invokevirtual 328, 3, 166, 1, 0), [(15, 3), (0, 4)]))
def qb168_1 : QB := (21, [(21, .aload_n 0, 1, 0, 0, 0), (22, .iconst 0, 1, 0, 0, 0)], (5, (23, .invokevirtual 310, 3, 155, 2, 0), [(15, 2), (0, 4)]))
def qb168_2 : QB := (26, [(26, .aload_n 0, 1, 0, 0, 0), (27, .aload_n 0, 1, 0, 0, 0), (28, .iload_n 3, 1, 3, 0, 0), (29, .iconst 0, 1, 0, 0, 0)], (5, (30, .invokevirtual 314, 3, 158, 3, 0), [(15, 3), (0, 5)]))
def qb168_3 : QB := (33, [(33, .aload_n 0, 1, 0, 0, 0), (34, .iload_n 3, 1, 3, 0, 0), (35, .iconst 1, 1, 0, 0, 1)], (5, (36, .invokevirtual 314, 3, 158, 4, 0), [(15, 3), (0, 5)]))
def qb168_4 : QB := (39, [(39, .isub, 1, 0, 0, 0), (40, .aload_n 0, 1, 0, 0, 0), (41, .getfield 122, 3, 49, 11, 0), (44, .iload_n 3, 1, 3, 0, 0), (45, .iaload, 1, 0, 0, 0), (46, .isub, 1, 0, 0, 0), (47, .putfield 331, 3, 47, 11, 0), (50, .aload_n 0, 1, 0, 0, 0), (51, .aload_n 0, 1, 0, 0, 0), (52, .iload 4, 2, 4, 0, 0), (54, .iconst 0, 1, 0, 0, 0)], (5, (55, .invokevirtual 314, 3, 158, 5, 0), [(15, 3), (0, 5)]))
def qb168_5 : QB := (58, [(58, .aload_n 0, 1, 0, 0, 0), (59, .iload 4, 2, 4, 0, 0), (61, .iconst 1, 1, 0, 0, 1)], (5, (62, .invokevirtual 314, 3, 158, 6, 0), [(15, 3), (0, 5)]))
def qb168_6 : QB := (65, [(65, .isub, 1, 0, 0, 0), (66, .aload_n 0, 1, 0, 0, 0), (67, .getfield 122, 3, 49, 11, 0), (70, .iload 4, 2, 4, 0, 0), (72, .iaload, 1, 0, 0, 0), (73, .isub, 1, 0, 0, 0), (74, .putfield 334, 3, 48, 11, 0), (77, .aload_n 0, 1, 0, 0, 0), (78, .iload_n 1, 1, 1, 0, 0), (79, .iload_n 2, 1, 2, 0, 0)], (5, (80, .invokevirtual 328, 3, 166, 7, 0), [(15, 3), (0, 4)]))
def qb168_7 : QB := (83, [], (7, (83, .return_, 1, 0, 0, 0), []))
def qm168 : QM := (yX11_laysGain, cX11_laysGain, 5, none, 22, 3, [qb168_0, qb168_1, qb168_2, qb168_3, qb168_4, qb168_5, qb168_6, qb168_7])
def qb169_0 : QB := (0, [(0, .aload_n 0, 1, 0, 0, 0), (1, .getfield 7, 3, 1, 11, 0), (4, .iload_n 1, 1, 1, 0, 0), (5, .iaload, 1, 0, 0, 0), (6, .bipush 12, 2, 0, 0, 12)], (3, (8, .if_icmp .eq 33, 3, 4, 1, 0), []))
def qb169_1 : QB := (11, [(11, .aload_n 0, 1, 0, 0, 0), (12, .getfield 7, 3, 1, 11, 0), (15, .iload_n 2, 1, 2, 0, 0), (16, .iaload, 1, 0, 0, 0), (17, .bipush 12, 2, 0, 0, 12)], (3, (19, .if_icmp .eq 22, 3, 4, 2, 0), []))
def qb169_2 : QB := (22, [(22, .aload_n 0, 1, 0, 0, 0), (23, .getfield 7, 3, 1, 11, 0), (26, .iload_n 1, 1, 1, 0, 0), (27, .iaload, 1, 0, 0, 0), (28, .aload_n 0, 1, 0, 0, 0), (29, .getfield 7, 3, 1, 11, 0), (32, .iload_n 2, 1, 2, 0, 0), (33, .iaload, 1, 0, 0, 0)], (3, (34, .if_icmp .eq 7, 3, 4, 3, 0), []))
def qb169_3 : QB := (37, [(37, .iconst 1, 1, 0, 0, 1)], (1, (38, .goto 4, 3, 5, 0, 0), []))
def qb169_4 : QB := (41, [(41, .iconst 0, 1, 0, 0, 0)], (0, (42, .nop, 0, 5, 0, 0), []))
def qb169_5 : QB := (42, [], (8, (42, .ireturn, 1, 0, 0, 0), []))
def qm169 : QM := (yX11_canGain, cX11_canGain, 3, (some .boolean), 22, 3, [qb169_0, qb169_1, qb169_2, qb169_3, qb169_4, qb169_5])
def qb170_0 : QB := (0, [(0, .iload_n 1, 1, 1, 0, 0)], (5, (1, .invokestatic 159, 3, 113, 1, 0), [(0, 1), (0, 1)]))
def qb170_1 : QB := (4, [], (2, (4, .ifCond .eq 28, 3, 8, 2, 0), []))
def qb170_2 : QB := (7, [(7, .iload_n 2, 1, 2, 0, 0)], (5, (8, .invokestatic 159, 3, 113, 3, 0), [(0, 1), (0, 1)]))
def qb170_3 : QB := (11, [], (2, (11, .ifCond .eq 21, 3, 8, 4, 0), []))
def qb170_4 : QB := (14, [(14, .iload_n 3, 1, 3, 0, 0), (15, .iconst 0, 1, 0, 0, 0), (16, .iconst 1, 1, 0, 0, 1)], (5, (17, .invokestatic 169, 3, 112, 5, 0), [(0, 3), (0, 3)]))
def qb170_5 : QB := (20, [], (2, (20, .ifCond .eq 12, 3, 8, 6, 0), []))
def qb170_6 : QB := (23, [(23, .aload_n 0, 1, 0, 0, 0), (24, .iload_n 1, 1, 1, 0, 0), (25, .iload_n 2, 1, 2, 0, 0)], (5, (26, .invokevirtual 337, 3, 169, 7, 0), [(15, 3), (0, 3)]))
def qb170_7 : QB := (29, [], (2, (29, .ifCond .ne 7, 3, 9, 8, 0), []))
def qb170_8 : QB := (32, [(32, .ldc_w 313, 3, 0, 0, (-1000000))], (6, (35, .ireturn, 1, 0, 0, 0), []))
def qb170_9 : QB := (36, [(36, .aload_n 0, 1, 0, 0, 0)], (5, (37, .invokevirtual 340, 3, 167, 10, 0), [(15, 1), (0, 2)]))
def qb170_10 : QB := (40, [(40, .aload_n 0, 1, 0, 0, 0), (41, .iload_n 1, 1, 1, 0, 0), (42, .iload_n 2, 1, 2, 0, 0)], (5, (43, .invokevirtual 343, 3, 168, 11, 0), [(15, 3), (0, 5)]))
def qb170_11 : QB := (46, [(46, .iload_n 3, 1, 3, 0, 0)], (2, (47, .ifCond .ne 10, 3, 13, 12, 0), []))
def qb170_12 : QB := (50, [(50, .aload_n 0, 1, 0, 0, 0), (51, .getfield 331, 3, 47, 11, 0)], (1, (54, .goto 7, 3, 14, 0, 0), []))
def qb170_13 : QB := (57, [(57, .aload_n 0, 1, 0, 0, 0), (58, .getfield 334, 3, 48, 11, 0)], (0, (61, .nop, 0, 14, 0, 0), []))
def qb170_14 : QB := (61, [], (6, (61, .ireturn, 1, 0, 0, 0), []))
def qm170 : QM := (yX11_gain, cX11_gain, 4, (some .int), 22, 4, [qb170_0, qb170_1, qb170_2, qb170_3, qb170_4, qb170_5, qb170_6, qb170_7, qb170_8, qb170_9, qb170_10, qb170_11, qb170_12, qb170_13, qb170_14])
def qb171_0 : QB := (0, [(0, .iload_n 1, 1, 1, 0, 0)], (5, (1, .invokestatic 159, 3, 113, 1, 0), [(0, 1), (0, 1)]))
def qb171_1 : QB := (4, [], (2, (4, .ifCond .eq 15, 3, 5, 2, 0), []))
def qb171_2 : QB := (7, [(7, .iload_n 2, 1, 2, 0, 0)], (5, (8, .invokestatic 159, 3, 113, 3, 0), [(0, 1), (0, 1)]))
def qb171_3 : QB := (11, [], (2, (11, .ifCond .eq 8, 3, 5, 4, 0), []))
def qb171_4 : QB := (14, [(14, .iload_n 1, 1, 1, 0, 0), (15, .iload_n 2, 1, 2, 0, 0)], (3, (16, .if_icmp .ne 5, 3, 6, 5, 0), []))
def qb171_5 : QB := (19, [(19, .iconst 0, 1, 0, 0, 0)], (8, (20, .ireturn, 1, 0, 0, 0), []))
def qb171_6 : QB := (21, [(21, .aload_n 0, 1, 0, 0, 0), (22, .iload_n 1, 1, 1, 0, 0), (23, .iload_n 2, 1, 2, 0, 0)], (5, (24, .invokevirtual 328, 3, 166, 7, 0), [(15, 3), (0, 4)]))
def qb171_7 : QB := (27, [(27, .iconst 1, 1, 0, 0, 1)], (8, (28, .ireturn, 1, 0, 0, 0), []))
def qm171 : QM := (yX11_swap, cX11_swap, 3, (some .boolean), 22, 3, [qb171_0, qb171_1, qb171_2, qb171_3, qb171_4, qb171_5, qb171_6, qb171_7])
def qb172_0 : QB := (0, [(0, .aload_n 0, 1, 0, 0, 0), (1, .iconst (-1), 1, 0, 0, (-1)), (2, .putfield 346, 3, 50, 11, 0), (5, .aload_n 0, 1, 0, 0, 0), (6, .iconst 0, 1, 0, 0, 0), (7, .putfield 349, 3, 52, 11, 0), (10, .aload_n 0, 1, 0, 0, 0)], (5, (11, .invokevirtual 340, 3, 167, 1, 0), [(15, 1), (0, 2)]))
def qb172_1 : QB := (14, [(14, .iconst 0, 1, 0, 0, 0), (15, .istore_n 1, 1, 1, 0, 0)], (0, (16, .nop, 0, 2, 0, 0), []))
def qb172_2 : QB := (16, [(16, .iload_n 1, 1, 1, 0, 0), (17, .bipush 24, 2, 0, 0, 24)], (3, (19, .if_icmp .ge 99, 3, 16, 3, 0), []))
def qb172_3 : QB := (22, [(22, .iload_n 1, 1, 1, 0, 0), (23, .iconst 1, 1, 0, 0, 1), (24, .iadd, 1, 0, 0, 0), (25, .istore_n 2, 1, 2, 0, 0)], (0, (26, .nop, 0, 4, 0, 0), []))
def qb172_4 : QB := (26, [(26, .iload_n 2, 1, 2, 0, 0), (27, .bipush 24, 2, 0, 0, 24)], (3, (29, .if_icmp .ge 83, 3, 15, 5, 0), []))
def qb172_5 : QB := (32, [(32, .aload_n 0, 1, 0, 0, 0), (33, .iload_n 1, 1, 1, 0, 0), (34, .iload_n 2, 1, 2, 0, 0)], (5, (35, .invokevirtual 337, 3, 169, 6, 0), [(15, 3), (0, 3)]))
def qb172_6 : QB := (38, [], (2, (38, .ifCond .ne 6, 3, 8, 7, 0), []))
def qb172_7 : QB := (41, [], (1, (41, .goto 65, 3, 14, 0, 0), []))
def qb172_8 : QB := (44, [(44, .aload_n 0, 1, 0, 0, 0), (45, .iload_n 1, 1, 1, 0, 0), (46, .iload_n 2, 1, 2, 0, 0)], (5, (47, .invokevirtual 343, 3, 168, 9, 0), [(15, 3), (0, 5)]))
def qb172_9 : QB := (50, [(50, .aload_n 0, 1, 0, 0, 0), (51, .getfield 331, 3, 47, 11, 0)], (2, (54, .ifCond .le 52, 3, 14, 10, 0), []))
def qb172_10 : QB := (57, [(57, .aload_n 0, 1, 0, 0, 0), (58, .getfield 334, 3, 48, 11, 0)], (2, (61, .ifCond .le 45, 3, 14, 11, 0), []))
def qb172_11 : QB := (64, [(64, .aload_n 0, 1, 0, 0, 0), (65, .getfield 331, 3, 47, 11, 0), (68, .aload_n 0, 1, 0, 0, 0), (69, .getfield 334, 3, 48, 11, 0), (72, .iadd, 1, 0, 0, 0), (73, .aload_n 0, 1, 0, 0, 0), (74, .getfield 349, 3, 52, 11, 0)], (3, (77, .if_icmp .gt 6, 3, 13, 12, 0), []))
def qb172_12 : QB := (80, [], (1, (80, .goto 26, 3, 14, 0, 0), []))
def qb172_13 : QB := (83, [(83, .aload_n 0, 1, 0, 0, 0), (84, .aload_n 0, 1, 0, 0, 0), (85, .getfield 331, 3, 47, 11, 0), (88, .aload_n 0, 1, 0, 0, 0), (89, .getfield 334, 3, 48, 11, 0), (92, .iadd, 1, 0, 0, 0), (93, .putfield 349, 3, 52, 11, 0), (96, .aload_n 0, 1, 0, 0, 0), (97, .iload_n 1, 1, 1, 0, 0), (98, .putfield 346, 3, 50, 11, 0), (101, .aload_n 0, 1, 0, 0, 0), (102, .iload_n 2, 1, 2, 0, 0), (103, .putfield 352, 3, 51, 11, 0)], (0, (106, .nop, 0, 14, 0, 0), []))
def qb172_14 : QB := (106, [(106, .iinc 2 1, 3, 2, 0, 1)], (1, (109, .goto (-83), 3, 4, 0, 0), []))
def qb172_15 : QB := (112, [(112, .iinc 1 1, 3, 1, 0, 1)], (1, (115, .goto (-99), 3, 2, 0, 0), []))
def qb172_16 : QB := (118, [], (7, (118, .return_, 1, 0, 0, 0), []))
def qm172 : QM := (yX11_laysBestSwap, cX11_laysBestSwap, 3, none, 22, 1, [qb172_0, qb172_1, qb172_2, qb172_3, qb172_4, qb172_5, qb172_6, qb172_7, qb172_8, qb172_9, qb172_10, qb172_11, qb172_12, qb172_13, qb172_14, qb172_15, qb172_16])
def qb173_0 : QB := (0, [(0, .iload_n 1, 1, 1, 0, 0), (1, .iconst 0, 1, 0, 0, 0), (2, .iconst 2, 1, 0, 0, 2)], (5, (3, .invokestatic 169, 3, 112, 1, 0), [(0, 3), (0, 3)]))
def qb173_1 : QB := (6, [], (2, (6, .ifCond .ne 5, 3, 3, 2, 0), []))
def qb173_2 : QB := (9, [(9, .iconst (-1), 1, 0, 0, (-1))], (6, (10, .ireturn, 1, 0, 0, 0), []))
def qb173_3 : QB := (11, [(11, .aload_n 0, 1, 0, 0, 0)], (5, (12, .invokevirtual 355, 3, 172, 4, 0), [(15, 1), (0, 3)]))
def qb173_4 : QB := (15, [(15, .aload_n 0, 1, 0, 0, 0), (16, .getfield 346, 3, 50, 11, 0), (19, .iconst (-1), 1, 0, 0, (-1))], (3, (20, .if_icmp .ne 8, 3, 6, 5, 0), []))
def qb173_5 : QB := (23, [(23, .bipush (-2), 2, 0, 0, (-2))], (1, (25, .goto 30, 3, 11, 0, 0), []))
def qb173_6 : QB := (28, [(28, .iload_n 1, 1, 1, 0, 0)], (2, (29, .ifCond .ne 10, 3, 8, 7, 0), []))
def qb173_7 : QB := (32, [(32, .aload_n 0, 1, 0, 0, 0), (33, .getfield 346, 3, 50, 11, 0)], (1, (36, .goto 19, 3, 11, 0, 0), []))
def qb173_8 : QB := (39, [(39, .iload_n 1, 1, 1, 0, 0), (40, .iconst 1, 1, 0, 0, 1)], (3, (41, .if_icmp .ne 10, 3, 10, 9, 0), []))
def qb173_9 : QB := (44, [(44, .aload_n 0, 1, 0, 0, 0), (45, .getfield 352, 3, 51, 11, 0)], (1, (48, .goto 7, 3, 11, 0, 0), []))
def qb173_10 : QB := (51, [(51, .aload_n 0, 1, 0, 0, 0), (52, .getfield 349, 3, 52, 11, 0)], (0, (55, .nop, 0, 11, 0, 0), []))
def qb173_11 : QB := (55, [], (6, (55, .ireturn, 1, 0, 0, 0), []))
def qm173 : QM := (yX11_bestSwap, cX11_bestSwap, 2, (some .int), 22, 2, [qb173_0, qb173_1, qb173_2, qb173_3, qb173_4, qb173_5, qb173_6, qb173_7, qb173_8, qb173_9, qb173_10, qb173_11])
def qb174_0 : QB := (0, [(0, .iconst 0, 1, 0, 0, 0), (1, .istore_n 1, 1, 1, 0, 0), (2, .aload_n 0, 1, 0, 0, 0)], (5, (3, .invokevirtual 355, 3, 172, 1, 0), [(15, 1), (0, 3)]))
def qb174_1 : QB := (6, [(6, .aload_n 0, 1, 0, 0, 0), (7, .getfield 346, 3, 50, 11, 0), (10, .iconst (-1), 1, 0, 0, (-1))], (3, (11, .if_icmp .eq 38, 3, 7, 2, 0), []))
def qb174_2 : QB := (14, [(14, .iload_n 1, 1, 1, 0, 0), (15, .bipush 10, 2, 0, 0, 10)], (3, (17, .if_icmp .ge 32, 3, 7, 3, 0), []))
def qb174_3 : QB := (20, [(20, .aload_n 0, 1, 0, 0, 0), (21, .aload_n 0, 1, 0, 0, 0), (22, .getfield 346, 3, 50, 11, 0), (25, .aload_n 0, 1, 0, 0, 0), (26, .getfield 352, 3, 51, 11, 0)], (5, (29, .invokevirtual 328, 3, 166, 4, 0), [(15, 3), (0, 4)]))
def qb174_4 : QB := (32, [(32, .iload_n 1, 1, 1, 0, 0), (33, .iconst 1, 1, 0, 0, 1), (34, .iadd, 1, 0, 0, 0), (35, .istore_n 1, 1, 1, 0, 0), (36, .iload_n 1, 1, 1, 0, 0), (37, .bipush 10, 2, 0, 0, 10)], (3, (39, .if_icmp .ge (-33), 3, 1, 5, 0), []))
def qb174_5 : QB := (42, [(42, .aload_n 0, 1, 0, 0, 0)], (5, (43, .invokevirtual 355, 3, 172, 6, 0), [(15, 1), (0, 3)]))
def qb174_6 : QB := (46, [], (1, (46, .goto (-40), 3, 1, 0, 0), []))
def qb174_7 : QB := (49, [(49, .iload_n 1, 1, 1, 0, 0)], (6, (50, .ireturn, 1, 0, 0, 0), []))
def qm174 : QM := (yX11_tillNone, cX11_tillNone, 2, (some .int), 22, 1, [qb174_0, qb174_1, qb174_2, qb174_3, qb174_4, qb174_5, qb174_6, qb174_7])
def qb175_0 : QB := (0, [(0, .iload_n 1, 1, 1, 0, 0), (1, .iconst 0, 1, 0, 0, 0), (2, .iconst 1, 1, 0, 0, 1)], (5, (3, .invokestatic 169, 3, 112, 1, 0), [(0, 3), (0, 3)]))
def qb175_1 : QB := (6, [], (2, (6, .ifCond .ne 5, 3, 3, 2, 0), []))
def qb175_2 : QB := (9, [(9, .iconst (-1), 1, 0, 0, (-1))], (6, (10, .ireturn, 1, 0, 0, 0), []))
def qb175_3 : QB := (11, [(11, .aload_n 0, 1, 0, 0, 0), (12, .iload_n 1, 1, 1, 0, 0)], (5, (13, .invokevirtual 310, 3, 155, 4, 0), [(15, 2), (0, 4)]))
def qb175_4 : QB := (16, [(16, .iconst 0, 1, 0, 0, 0), (17, .istore_n 2, 1, 2, 0, 0), (18, .iconst 0, 1, 0, 0, 0), (19, .istore_n 3, 1, 3, 0, 0)], (0, (20, .nop, 0, 5, 0, 0), []))
def qb175_5 : QB := (20, [(20, .iload_n 3, 1, 3, 0, 0), (21, .bipush 24, 2, 0, 0, 24)], (3, (23, .if_icmp .ge 18, 3, 7, 6, 0), []))
def qb175_6 : QB := (26, [(26, .iload_n 2, 1, 2, 0, 0), (27, .aload_n 0, 1, 0, 0, 0), (28, .getfield 107, 3, 42, 11, 0), (31, .iload_n 3, 1, 3, 0, 0), (32, .iaload, 1, 0, 0, 0), (33, .iadd, 1, 0, 0, 0), (34, .istore_n 2, 1, 2, 0, 0), (35, .iinc 3 1, 3, 3, 0, 1)], (1, (38, .goto (-18), 3, 5, 0, 0), []))
def qb175_7 : QB := (41, [(41, .iload_n 2, 1, 2, 0, 0)], (6, (42, .ireturn, 1, 0, 0, 0), []))
def qm175 : QM := (yX11_finesBy, cX11_finesBy, 4, (some .int), 22, 2, [qb175_0, qb175_1, qb175_2, qb175_3, qb175_4, qb175_5, qb175_6, qb175_7])
def qb176_0 : QB := (0, [(0, .iload_n 1, 1, 1, 0, 0)], (5, (1, .invokestatic 163, 3, 114, 1, 0), [(0, 1), (0, 1)]))
def qb176_1 : QB := (4, [], (2, (4, .ifCond .eq 15, 3, 5, 2, 0), []))
def qb176_2 : QB := (7, [(7, .iload_n 2, 1, 2, 0, 0)], (5, (8, .invokestatic 163, 3, 114, 3, 0), [(0, 1), (0, 1)]))
def qb176_3 : QB := (11, [], (2, (11, .ifCond .eq 8, 3, 5, 4, 0), []))
def qb176_4 : QB := (14, [(14, .iload_n 1, 1, 1, 0, 0), (15, .iload_n 2, 1, 2, 0, 0)], (3, (16, .if_icmp .ne 5, 3, 6, 5, 0), []))
def qb176_5 : QB := (19, [(19, .iconst (-1), 1, 0, 0, (-1))], (6, (20, .ireturn, 1, 0, 0, 0), []))
def qb176_6 : QB := (21, [(21, .iconst 0, 1, 0, 0, 0), (22, .istore_n 3, 1, 3, 0, 0), (23, .iconst 0, 1, 0, 0, 0), (24, .istore 4, 2, 4, 0, 0)], (0, (26, .nop, 0, 7, 0, 0), []))
def qb176_7 : QB := (26, [(26, .iload 4, 2, 4, 0, 0), (28, .bipush 24, 2, 0, 0, 24)], (3, (30, .if_icmp .ge 78, 3, 18, 8, 0), []))
def qb176_8 : QB := (33, [(33, .iload 4, 2, 4, 0, 0), (35, .bipush 23, 2, 0, 0, 23)], (3, (37, .if_icmp .ne 7, 3, 10, 9, 0), []))
def qb176_9 : QB := (40, [(40, .iconst 0, 1, 0, 0, 0)], (1, (41, .goto 7, 3, 11, 0, 0), []))
def qb176_10 : QB := (44, [(44, .iload 4, 2, 4, 0, 0), (46, .iconst 1, 1, 0, 0, 1), (47, .iadd, 1, 0, 0, 0)], (0, (48, .nop, 0, 11, 0, 0), []))
def qb176_11 : QB := (48, [(48, .istore 5, 2, 5, 0, 0), (50, .iload_n 3, 1, 3, 0, 0), (51, .aload_n 0, 1, 0, 0, 0), (52, .getfield 7, 3, 1, 11, 0), (55, .iload 4, 2, 4, 0, 0), (57, .iaload, 1, 0, 0, 0), (58, .iload_n 1, 1, 1, 0, 0)], (3, (59, .if_icmp .ne 14, 3, 13, 12, 0), []))
def qb176_12 : QB := (62, [(62, .aload_n 0, 1, 0, 0, 0), (63, .getfield 7, 3, 1, 11, 0), (66, .iload 5, 2, 5, 0, 0), (68, .iaload, 1, 0, 0, 0), (69, .iload_n 2, 1, 2, 0, 0)], (3, (70, .if_icmp .eq 25, 3, 15, 13, 0), []))
def qb176_13 : QB := (73, [(73, .aload_n 0, 1, 0, 0, 0), (74, .getfield 7, 3, 1, 11, 0), (77, .iload 4, 2, 4, 0, 0), (79, .iaload, 1, 0, 0, 0), (80, .iload_n 2, 1, 2, 0, 0)], (3, (81, .if_icmp .ne 18, 3, 16, 14, 0), []))
def qb176_14 : QB := (84, [(84, .aload_n 0, 1, 0, 0, 0), (85, .getfield 7, 3, 1, 11, 0), (88, .iload 5, 2, 5, 0, 0), (90, .iaload, 1, 0, 0, 0), (91, .iload_n 1, 1, 1, 0, 0)], (3, (92, .if_icmp .ne 7, 3, 16, 15, 0), []))
def qb176_15 : QB := (95, [(95, .iconst 1, 1, 0, 0, 1)], (1, (96, .goto 4, 3, 17, 0, 0), []))
def qb176_16 : QB := (99, [(99, .iconst 0, 1, 0, 0, 0)], (0, (100, .nop, 0, 17, 0, 0), []))
def qb176_17 : QB := (100, [(100, .iadd, 1, 0, 0, 0), (101, .istore_n 3, 1, 3, 0, 0), (102, .iinc 4 1, 3, 4, 0, 1)], (1, (105, .goto (-79), 3, 7, 0, 0), []))
def qb176_18 : QB := (108, [(108, .iload_n 3, 1, 3, 0, 0)], (6, (109, .ireturn, 1, 0, 0, 0), []))
def qm176 : QM := (yX11_touching, cX11_touching, 6, (some .int), 22, 3, [qb176_0, qb176_1, qb176_2, qb176_3, qb176_4, qb176_5, qb176_6, qb176_7, qb176_8, qb176_9, qb176_10, qb176_11, qb176_12, qb176_13, qb176_14, qb176_15, qb176_16, qb176_17, qb176_18])
def qb177_0 : QB := (0, [(0, .iload_n 1, 1, 1, 0, 0)], (5, (1, .invokestatic 163, 3, 114, 1, 0), [(0, 1), (0, 1)]))
def qb177_1 : QB := (4, [], (2, (4, .ifCond .eq 14, 3, 4, 2, 0), []))
def qb177_2 : QB := (7, [(7, .iload_n 2, 1, 2, 0, 0), (8, .iconst 0, 1, 0, 0, 0), (9, .sipush 255, 3, 0, 0, 255)], (5, (12, .invokestatic 169, 3, 112, 3, 0), [(0, 3), (0, 3)]))
def qb177_3 : QB := (15, [], (2, (15, .ifCond .ne 5, 3, 5, 4, 0), []))
def qb177_4 : QB := (18, [(18, .iconst 0, 1, 0, 0, 0)], (8, (19, .ireturn, 1, 0, 0, 0), []))
def qb177_5 : QB := (20, [(20, .aload_n 0, 1, 0, 0, 0), (21, .getfield 37, 3, 10, 11, 0), (24, .iload_n 1, 1, 1, 0, 0), (25, .iload_n 2, 1, 2, 0, 0), (26, .iastore, 1, 0, 0, 0), (27, .iconst 1, 1, 0, 0, 1)], (8, (28, .ireturn, 1, 0, 0, 0), []))
def qm177 : QM := (yX11_searches, cX11_searches, 3, (some .boolean), 22, 3, [qb177_0, qb177_1, qb177_2, qb177_3, qb177_4, qb177_5])
def qb178_0 : QB := (0, [(0, .aload_n 0, 1, 0, 0, 0), (1, .getfield 7, 3, 1, 11, 0), (4, .iload_n 1, 1, 1, 0, 0), (5, .iaload, 1, 0, 0, 0), (6, .bipush 12, 2, 0, 0, 12)], (3, (8, .if_icmp .eq 21, 3, 2, 1, 0), []))
def qb178_1 : QB := (11, [(11, .aload_n 0, 1, 0, 0, 0), (12, .getfield 37, 3, 10, 11, 0), (15, .aload_n 0, 1, 0, 0, 0), (16, .getfield 7, 3, 1, 11, 0), (19, .iload_n 1, 1, 1, 0, 0), (20, .iaload, 1, 0, 0, 0), (21, .iaload, 1, 0, 0, 0), (22, .iload_n 2, 1, 2, 0, 0), (23, .ishr, 1, 0, 0, 0), (24, .iconst 1, 1, 0, 0, 1), (25, .iand, 1, 0, 0, 0)], (2, (26, .ifCond .ne 7, 3, 3, 2, 0), []))
def qb178_2 : QB := (29, [(29, .iconst 1, 1, 0, 0, 1)], (1, (30, .goto 4, 3, 4, 0, 0), []))
def qb178_3 : QB := (33, [(33, .iconst 0, 1, 0, 0, 0)], (0, (34, .nop, 0, 4, 0, 0), []))
def qb178_4 : QB := (34, [], (8, (34, .ireturn, 1, 0, 0, 0), []))
def qm178 : QM := (yX11_canLie, cX11_canLie, 3, (some .boolean), 22, 3, [qb178_0, qb178_1, qb178_2, qb178_3, qb178_4])
def qb179_0 : QB := (0, [(0, .aload_n 0, 1, 0, 0, 0), (1, .getfield 7, 3, 1, 11, 0), (4, .iload_n 1, 1, 1, 0, 0), (5, .iaload, 1, 0, 0, 0), (6, .bipush 12, 2, 0, 0, 12)], (3, (8, .if_icmp .eq 21, 3, 3, 1, 0), []))
def qb179_1 : QB := (11, [(11, .iload_n 2, 1, 2, 0, 0), (12, .aload_n 0, 1, 0, 0, 0), (13, .getfield 7, 3, 1, 11, 0), (16, .iload_n 1, 1, 1, 0, 0), (17, .iaload, 1, 0, 0, 0), (18, .ishr, 1, 0, 0, 0), (19, .iconst 1, 1, 0, 0, 1), (20, .iand, 1, 0, 0, 0), (21, .iconst 1, 1, 0, 0, 1)], (3, (22, .if_icmp .ne 7, 3, 3, 2, 0), []))
def qb179_2 : QB := (25, [(25, .iconst 1, 1, 0, 0, 1)], (1, (26, .goto 4, 3, 4, 0, 0), []))
def qb179_3 : QB := (29, [(29, .iconst 0, 1, 0, 0, 0)], (0, (30, .nop, 0, 4, 0, 0), []))
def qb179_4 : QB := (30, [], (8, (30, .ireturn, 1, 0, 0, 0), []))
def qm179 : QM := (yX11_isHelped, cX11_isHelped, 3, (some .boolean), 22, 3, [qb179_0, qb179_1, qb179_2, qb179_3, qb179_4])
def qb180_0 : QB := (0, [(0, .aload_n 0, 1, 0, 0, 0), (1, .getfield 125, 3, 53, 11, 0), (4, .bipush 8, 2, 0, 0, 8), (6, .iload_n 1, 1, 1, 0, 0), (7, .imul, 1, 0, 0, 0), (8, .iload_n 3, 1, 3, 0, 0), (9, .iadd, 1, 0, 0, 0), (10, .iaload, 1, 0, 0, 0), (11, .istore 5, 2, 5, 0, 0), (13, .iload 5, 2, 5, 0, 0), (15, .ldc_w 358, 3, 0, 0, 1000000000)], (3, (18, .if_icmp .ge 18, 3, 4, 1, 0), []))
def qb180_1 : QB := (21, [(21, .iload_n 2, 1, 2, 0, 0), (22, .iload_n 3, 1, 3, 0, 0)], (3, (23, .if_icmp .eq 17, 3, 5, 2, 0), []))
def qb180_2 : QB := (26, [(26, .aload_n 0, 1, 0, 0, 0), (27, .iload_n 1, 1, 1, 0, 0), (28, .iload 4, 2, 4, 0, 0)], (5, (30, .invokevirtual 359, 3, 179, 3, 0), [(15, 3), (0, 3)]))
def qb180_3 : QB := (33, [], (2, (33, .ifCond .ne 7, 3, 5, 4, 0), []))
def qb180_4 : QB := (36, [(36, .ldc_w 358, 3, 0, 0, 1000000000)], (6, (39, .ireturn, 1, 0, 0, 0), []))
def qb180_5 : QB := (40, [(40, .iload 5, 2, 5, 0, 0), (42, .iload_n 2, 1, 2, 0, 0), (43, .iload_n 3, 1, 3, 0, 0)], (3, (44, .if_icmp .ne 7, 3, 7, 6, 0), []))
def qb180_6 : QB := (47, [(47, .iconst 0, 1, 0, 0, 0)], (1, (48, .goto 4, 3, 8, 0, 0), []))
def qb180_7 : QB := (51, [(51, .iconst 1, 1, 0, 0, 1)], (0, (52, .nop, 0, 8, 0, 0), []))
def qb180_8 : QB := (52, [(52, .iadd, 1, 0, 0, 0)], (6, (53, .ireturn, 1, 0, 0, 0), []))
def qm180 : QM := (yX11_movesBy, cX11_movesBy, 6, (some .int), 22, 5, [qb180_0, qb180_1, qb180_2, qb180_3, qb180_4, qb180_5, qb180_6, qb180_7, qb180_8])
def qb181_0 : QB := (0, [(0, .iload_n 2, 1, 2, 0, 0), (1, .iconst 1, 1, 0, 0, 1), (2, .isub, 1, 0, 0, 0), (3, .istore 4, 2, 4, 0, 0)], (0, (5, .nop, 0, 1, 0, 0), []))
def qb181_1 : QB := (5, [(5, .iload 4, 2, 4, 0, 0), (7, .iload_n 1, 1, 1, 0, 0)], (3, (8, .if_icmp .lt 129, 3, 21, 2, 0), []))
def qb181_2 : QB := (11, [(11, .iconst 0, 1, 0, 0, 0), (12, .istore 5, 2, 5, 0, 0)], (0, (14, .nop, 0, 3, 0, 0), []))
def qb181_3 : QB := (14, [(14, .iload 5, 2, 5, 0, 0), (16, .bipush 8, 2, 0, 0, 8)], (3, (18, .if_icmp .ge 113, 3, 20, 4, 0), []))
def qb181_4 : QB := (21, [(21, .iload 4, 2, 4, 0, 0), (23, .iload_n 2, 1, 2, 0, 0), (24, .iconst 1, 1, 0, 0, 1), (25, .isub, 1, 0, 0, 0)], (3, (26, .if_icmp .ne 7, 3, 6, 5, 0), []))
def qb181_5 : QB := (29, [(29, .iconst 0, 1, 0, 0, 0)], (1, (30, .goto 6, 3, 7, 0, 0), []))
def qb181_6 : QB := (33, [(33, .ldc_w 358, 3, 0, 0, 1000000000)], (0, (36, .nop, 0, 7, 0, 0), []))
def qb181_7 : QB := (36, [(36, .istore 6, 2, 6, 0, 0), (38, .iconst 0, 1, 0, 0, 0), (39, .istore 7, 2, 7, 0, 0)], (0, (41, .nop, 0, 8, 0, 0), []))
def qb181_8 : QB := (41, [(41, .iload 7, 2, 7, 0, 0), (43, .bipush 8, 2, 0, 0, 8)], (3, (45, .if_icmp .ge 48, 3, 15, 9, 0), []))
def qb181_9 : QB := (48, [(48, .iload 4, 2, 4, 0, 0), (50, .iload_n 2, 1, 2, 0, 0), (51, .iconst 1, 1, 0, 0, 1), (52, .isub, 1, 0, 0, 0)], (3, (53, .if_icmp .ge 40, 3, 15, 10, 0), []))
def qb181_10 : QB := (56, [(56, .aload_n 0, 1, 0, 0, 0), (57, .iload 4, 2, 4, 0, 0), (59, .iconst 1, 1, 0, 0, 1), (60, .iadd, 1, 0, 0, 0), (61, .iload 5, 2, 5, 0, 0), (63, .iload 7, 2, 7, 0, 0), (65, .iload_n 3, 1, 3, 0, 0)], (5, (66, .invokevirtual 362, 3, 180, 11, 0), [(15, 5), (0, 6)]))
def qb181_11 : QB := (69, [(69, .istore 8, 2, 8, 0, 0), (71, .iload 8, 2, 8, 0, 0), (73, .iload 6, 2, 6, 0, 0)], (3, (75, .if_icmp .ge 8, 3, 13, 12, 0), []))
def qb181_12 : QB := (78, [(78, .iload 8, 2, 8, 0, 0)], (1, (80, .goto 5, 3, 14, 0, 0), []))
def qb181_13 : QB := (83, [(83, .iload 6, 2, 6, 0, 0)], (0, (85, .nop, 0, 14, 0, 0), []))
def qb181_14 : QB := (85, [(85, .istore 6, 2, 6, 0, 0), (87, .iinc 7 1, 3, 7, 0, 1)], (1, (90, .goto (-49), 3, 8, 0, 0), []))
def qb181_15 : QB := (93, [(93, .aload_n 0, 1, 0, 0, 0), (94, .getfield 125, 3, 53, 11, 0), (97, .bipush 8, 2, 0, 0, 8), (99, .iload 4, 2, 4, 0, 0), (101, .imul, 1, 0, 0, 0), (102, .iload 5, 2, 5, 0, 0), (104, .iadd, 1, 0, 0, 0), (105, .aload_n 0, 1, 0, 0, 0), (106, .iload 4, 2, 4, 0, 0), (108, .iload 5, 2, 5, 0, 0)], (5, (110, .invokevirtual 365, 3, 178, 16, 0), [(15, 3), (0, 3)]))
def qb181_16 : QB := (113, [], (2, (113, .ifCond .eq 8, 3, 18, 17, 0), []))
def qb181_17 : QB := (116, [(116, .iload 6, 2, 6, 0, 0)], (1, (118, .goto 6, 3, 19, 0, 0), []))
def qb181_18 : QB := (121, [(121, .ldc_w 358, 3, 0, 0, 1000000000)], (0, (124, .nop, 0, 19, 0, 0), []))
def qb181_19 : QB := (124, [(124, .iastore, 1, 0, 0, 0), (125, .iinc 5 1, 3, 5, 0, 1)], (1, (128, .goto (-114), 3, 3, 0, 0), []))
def qb181_20 : QB := (131, [(131, .iinc 4 (-1), 3, 4, 0, (-1))], (1, (134, .goto (-129), 3, 1, 0, 0), []))
def qb181_21 : QB := (137, [], (7, (137, .return_, 1, 0, 0, 0), []))
def qm181 : QM := (yX11_laysMoves, cX11_laysMoves, 9, none, 22, 4, [qb181_0, qb181_1, qb181_2, qb181_3, qb181_4, qb181_5, qb181_6, qb181_7, qb181_8, qb181_9, qb181_10, qb181_11, qb181_12, qb181_13, qb181_14, qb181_15, qb181_16, qb181_17, qb181_18, qb181_19, qb181_20, qb181_21])
def qb182_0 : QB := (0, [(0, .iload_n 1, 1, 1, 0, 0)], (5, (1, .invokestatic 159, 3, 113, 1, 0), [(0, 1), (0, 1)]))
def qb182_1 : QB := (4, [], (2, (4, .ifCond .eq 44, 3, 9, 2, 0), []))
def qb182_2 : QB := (7, [(7, .iload_n 2, 1, 2, 0, 0), (8, .iload_n 1, 1, 1, 0, 0), (9, .iconst 1, 1, 0, 0, 1), (10, .iadd, 1, 0, 0, 0), (11, .bipush 24, 2, 0, 0, 24)], (5, (13, .invokestatic 169, 3, 112, 3, 0), [(0, 3), (0, 3)]))
def qb182_3 : QB := (16, [], (2, (16, .ifCond .eq 32, 3, 9, 4, 0), []))
def qb182_4 : QB := (19, [(19, .iload_n 3, 1, 3, 0, 0), (20, .iconst 0, 1, 0, 0, 0), (21, .sipush 4095, 3, 0, 0, 4095)], (5, (24, .invokestatic 169, 3, 112, 5, 0), [(0, 3), (0, 3)]))
def qb182_5 : QB := (27, [], (2, (27, .ifCond .eq 21, 3, 9, 6, 0), []))
def qb182_6 : QB := (30, [(30, .iload 4, 2, 4, 0, 0), (32, .iconst (-1), 1, 0, 0, (-1))], (3, (33, .if_icmp .eq 18, 3, 10, 7, 0), []))
def qb182_7 : QB := (36, [(36, .iload 4, 2, 4, 0, 0), (38, .iload_n 1, 1, 1, 0, 0), (39, .iload_n 2, 1, 2, 0, 0), (40, .iconst 1, 1, 0, 0, 1), (41, .isub, 1, 0, 0, 0)], (5, (42, .invokestatic 169, 3, 112, 8, 0), [(0, 3), (0, 3)]))
def qb182_8 : QB := (45, [], (2, (45, .ifCond .ne 6, 3, 10, 9, 0), []))
def qb182_9 : QB := (48, [(48, .bipush (-3), 2, 0, 0, (-3))], (6, (50, .ireturn, 1, 0, 0, 0), []))
def qb182_10 : QB := (51, [(51, .aload_n 0, 1, 0, 0, 0), (52, .iload_n 1, 1, 1, 0, 0), (53, .iload_n 2, 1, 2, 0, 0), (54, .iload_n 3, 1, 3, 0, 0)], (5, (55, .invokevirtual 368, 3, 181, 11, 0), [(15, 4), (0, 9)]))
def qb182_11 : QB := (58, [(58, .ldc_w 358, 3, 0, 0, 1000000000), (61, .istore 5, 2, 5, 0, 0), (63, .iconst 0, 1, 0, 0, 0), (64, .istore 6, 2, 6, 0, 0), (66, .bipush 7, 2, 0, 0, 7), (68, .istore 7, 2, 7, 0, 0)], (0, (70, .nop, 0, 12, 0, 0), []))
def qb182_12 : QB := (70, [(70, .iload 7, 2, 7, 0, 0)], (2, (72, .ifCond .lt 47, 3, 17, 13, 0), []))
def qb182_13 : QB := (75, [(75, .aload_n 0, 1, 0, 0, 0), (76, .getfield 125, 3, 53, 11, 0), (79, .bipush 8, 2, 0, 0, 8), (81, .iload_n 1, 1, 1, 0, 0), (82, .imul, 1, 0, 0, 0), (83, .iload 7, 2, 7, 0, 0), (85, .iadd, 1, 0, 0, 0), (86, .iaload, 1, 0, 0, 0), (87, .iload 5, 2, 5, 0, 0)], (3, (89, .if_icmp .le 6, 3, 15, 14, 0), []))
def qb182_14 : QB := (92, [], (1, (92, .goto 21, 3, 16, 0, 0), []))
def qb182_15 : QB := (95, [(95, .aload_n 0, 1, 0, 0, 0), (96, .getfield 125, 3, 53, 11, 0), (99, .bipush 8, 2, 0, 0, 8), (101, .iload_n 1, 1, 1, 0, 0), (102, .imul, 1, 0, 0, 0), (103, .iload 7, 2, 7, 0, 0), (105, .iadd, 1, 0, 0, 0), (106, .iaload, 1, 0, 0, 0), (107, .istore 5, 2, 5, 0, 0), (109, .iload 7, 2, 7, 0, 0), (111, .istore 6, 2, 6, 0, 0)], (0, (113, .nop, 0, 16, 0, 0), []))
def qb182_16 : QB := (113, [(113, .iinc 7 (-1), 3, 7, 0, (-1))], (1, (116, .goto (-46), 3, 12, 0, 0), []))
def qb182_17 : QB := (119, [(119, .iload 5, 2, 5, 0, 0), (121, .ldc_w 358, 3, 0, 0, 1000000000)], (3, (124, .if_icmp .lt 6, 3, 19, 18, 0), []))
def qb182_18 : QB := (127, [(127, .bipush (-2), 2, 0, 0, (-2))], (6, (129, .ireturn, 1, 0, 0, 0), []))
def qb182_19 : QB := (130, [(130, .iload 4, 2, 4, 0, 0), (132, .iconst (-1), 1, 0, 0, (-1))], (3, (133, .if_icmp .ne 6, 3, 21, 20, 0), []))
def qb182_20 : QB := (136, [(136, .iload 5, 2, 5, 0, 0)], (6, (138, .ireturn, 1, 0, 0, 0), []))
def qb182_21 : QB := (139, [(139, .iload_n 1, 1, 1, 0, 0), (140, .istore 7, 2, 7, 0, 0)], (0, (142, .nop, 0, 22, 0, 0), []))
def qb182_22 : QB := (142, [(142, .iload 7, 2, 7, 0, 0), (144, .iload 4, 2, 4, 0, 0)], (3, (146, .if_icmp .ge 54, 3, 28, 23, 0), []))
def qb182_23 : QB := (149, [(149, .iconst 0, 1, 0, 0, 0), (150, .istore 8, 2, 8, 0, 0)], (0, (152, .nop, 0, 24, 0, 0), []))
def qb182_24 : QB := (152, [(152, .aload_n 0, 1, 0, 0, 0), (153, .iload 7, 2, 7, 0, 0), (155, .iconst 1, 1, 0, 0, 1), (156, .iadd, 1, 0, 0, 0), (157, .iload 6, 2, 6, 0, 0), (159, .iload 8, 2, 8, 0, 0), (161, .iload_n 3, 1, 3, 0, 0)], (5, (162, .invokevirtual 362, 3, 180, 25, 0), [(15, 5), (0, 6)]))
def qb182_25 : QB := (165, [(165, .aload_n 0, 1, 0, 0, 0), (166, .getfield 125, 3, 53, 11, 0), (169, .bipush 8, 2, 0, 0, 8), (171, .iload 7, 2, 7, 0, 0), (173, .imul, 1, 0, 0, 0), (174, .iload 6, 2, 6, 0, 0), (176, .iadd, 1, 0, 0, 0), (177, .iaload, 1, 0, 0, 0)], (3, (178, .if_icmp .eq 12, 3, 27, 26, 0), []))
def qb182_26 : QB := (181, [(181, .iload 8, 2, 8, 0, 0), (183, .iconst 1, 1, 0, 0, 1), (184, .iadd, 1, 0, 0, 0), (185, .istore 8, 2, 8, 0, 0)], (1, (187, .goto (-35), 3, 24, 0, 0), []))
def qb182_27 : QB := (190, [(190, .iload 8, 2, 8, 0, 0), (192, .istore 6, 2, 6, 0, 0), (194, .iinc 7 1, 3, 7, 0, 1)], (1, (197, .goto (-55), 3, 22, 0, 0), []))
def qb182_28 : QB := (200, [(200, .iload 6, 2, 6, 0, 0)], (6, (202, .ireturn, 1, 0, 0, 0), []))
def qm182 : QM := (yX11_hidden, cX11_hidden, 9, (some .int), 22, 5, [qb182_0, qb182_1, qb182_2, qb182_3, qb182_4, qb182_5, qb182_6, qb182_7, qb182_8, qb182_9, qb182_10, qb182_11, qb182_12, qb182_13, qb182_14, qb182_15, qb182_16, qb182_17, qb182_18, qb182_19, qb182_20, qb182_21, qb182_22, qb182_23, qb182_24, qb182_25, qb182_26, qb182_27, qb182_28])
def qb183_0 : QB := (0, [(0, .iload_n 1, 1, 1, 0, 0)], (5, (1, .invokestatic 159, 3, 113, 1, 0), [(0, 1), (0, 1)]))
def qb183_1 : QB := (4, [], (2, (4, .ifCond .eq 12, 3, 4, 2, 0), []))
def qb183_2 : QB := (7, [(7, .iload_n 2, 1, 2, 0, 0), (8, .iconst 0, 1, 0, 0, 0), (9, .iconst 2, 1, 0, 0, 2)], (5, (10, .invokestatic 169, 3, 112, 3, 0), [(0, 3), (0, 3)]))
def qb183_3 : QB := (13, [], (2, (13, .ifCond .ne 5, 3, 5, 4, 0), []))
def qb183_4 : QB := (16, [(16, .iconst 0, 1, 0, 0, 0)], (8, (17, .ireturn, 1, 0, 0, 0), []))
def qb183_5 : QB := (18, [(18, .aload_n 0, 1, 0, 0, 0), (19, .getfield 13, 3, 2, 11, 0), (22, .iload_n 1, 1, 1, 0, 0), (23, .iload_n 2, 1, 2, 0, 0), (24, .iastore, 1, 0, 0, 0), (25, .iconst 1, 1, 0, 0, 1)], (8, (26, .ireturn, 1, 0, 0, 0), []))
def qm183 : QM := (yX11_says, cX11_says, 3, (some .boolean), 22, 3, [qb183_0, qb183_1, qb183_2, qb183_3, qb183_4, qb183_5])
def qb184_0 : QB := (0, [(0, .iconst 0, 1, 0, 0, 0), (1, .istore_n 2, 1, 2, 0, 0), (2, .iconst 0, 1, 0, 0, 0), (3, .istore_n 3, 1, 3, 0, 0)], (0, (4, .nop, 0, 1, 0, 0), []))
def qb184_1 : QB := (4, [(4, .iload_n 3, 1, 3, 0, 0), (5, .bipush 24, 2, 0, 0, 24)], (3, (7, .if_icmp .ge 93, 3, 16, 2, 0), []))
def qb184_2 : QB := (10, [(10, .aload_n 0, 1, 0, 0, 0), (11, .getfield 7, 3, 1, 11, 0), (14, .iload_n 3, 1, 3, 0, 0), (15, .iaload, 1, 0, 0, 0), (16, .bipush 12, 2, 0, 0, 12)], (3, (18, .if_icmp .eq 76, 3, 15, 3, 0), []))
def qb184_3 : QB := (21, [(21, .aload_n 0, 1, 0, 0, 0), (22, .getfield 13, 3, 2, 11, 0), (25, .iload_n 3, 1, 3, 0, 0), (26, .iaload, 1, 0, 0, 0), (27, .iconst 2, 1, 0, 0, 2)], (3, (28, .if_icmp .eq 66, 3, 15, 4, 0), []))
def qb184_4 : QB := (31, [(31, .iload_n 1, 1, 1, 0, 0), (32, .bipush 24, 2, 0, 0, 24)], (3, (34, .if_icmp .ge 21, 3, 7, 5, 0), []))
def qb184_5 : QB := (37, [(37, .aload_n 0, 1, 0, 0, 0), (38, .getfield 7, 3, 1, 11, 0), (41, .iload_n 3, 1, 3, 0, 0), (42, .iaload, 1, 0, 0, 0), (43, .aload_n 0, 1, 0, 0, 0), (44, .getfield 7, 3, 1, 11, 0), (47, .iload_n 1, 1, 1, 0, 0), (48, .iaload, 1, 0, 0, 0)], (3, (49, .if_icmp .ne 6, 3, 7, 6, 0), []))
def qb184_6 : QB := (52, [], (1, (52, .goto 42, 3, 15, 0, 0), []))
def qb184_7 : QB := (55, [(55, .iload_n 3, 1, 3, 0, 0), (56, .iload_n 1, 1, 1, 0, 0)], (3, (57, .if_icmp .le 7, 3, 9, 8, 0), []))
def qb184_8 : QB := (60, [(60, .iconst 1, 1, 0, 0, 1)], (1, (61, .goto 4, 3, 10, 0, 0), []))
def qb184_9 : QB := (64, [(64, .iconst 0, 1, 0, 0, 0)], (0, (65, .nop, 0, 10, 0, 0), []))
def qb184_10 : QB := (65, [(65, .aload_n 0, 1, 0, 0, 0), (66, .getfield 13, 3, 2, 11, 0), (69, .iload_n 3, 1, 3, 0, 0), (70, .iaload, 1, 0, 0, 0), (71, .iconst 1, 1, 0, 0, 1)], (3, (72, .if_icmp .ne 7, 3, 12, 11, 0), []))
def qb184_11 : QB := (75, [(75, .iconst 1, 1, 0, 0, 1)], (1, (76, .goto 4, 3, 13, 0, 0), []))
def qb184_12 : QB := (79, [(79, .iconst 0, 1, 0, 0, 0)], (0, (80, .nop, 0, 13, 0, 0), []))
def qb184_13 : QB := (80, [], (3, (80, .if_icmp .eq 14, 3, 15, 14, 0), []))
def qb184_14 : QB := (83, [(83, .iload_n 2, 1, 2, 0, 0), (84, .iconst 1, 1, 0, 0, 1), (85, .aload_n 0, 1, 0, 0, 0), (86, .getfield 7, 3, 1, 11, 0), (89, .iload_n 3, 1, 3, 0, 0), (90, .iaload, 1, 0, 0, 0), (91, .ishl, 1, 0, 0, 0), (92, .ior, 1, 0, 0, 0), (93, .istore_n 2, 1, 2, 0, 0)], (0, (94, .nop, 0, 15, 0, 0), []))
def qb184_15 : QB := (94, [(94, .iinc 3 1, 3, 3, 0, 1)], (1, (97, .goto (-93), 3, 1, 0, 0), []))
def qb184_16 : QB := (100, [(100, .iconst 0, 1, 0, 0, 0), (101, .istore_n 3, 1, 3, 0, 0), (102, .iconst 0, 1, 0, 0, 0), (103, .istore 4, 2, 4, 0, 0)], (0, (105, .nop, 0, 17, 0, 0), []))
def qb184_17 : QB := (105, [(105, .iload 4, 2, 4, 0, 0), (107, .bipush 12, 2, 0, 0, 12)], (3, (109, .if_icmp .ge 18, 3, 19, 18, 0), []))
def qb184_18 : QB := (112, [(112, .iload_n 3, 1, 3, 0, 0), (113, .iload_n 2, 1, 2, 0, 0), (114, .iload 4, 2, 4, 0, 0), (116, .ishr, 1, 0, 0, 0), (117, .iconst 1, 1, 0, 0, 1), (118, .iand, 1, 0, 0, 0), (119, .iadd, 1, 0, 0, 0), (120, .istore_n 3, 1, 3, 0, 0), (121, .iinc 4 1, 3, 4, 0, 1)], (1, (124, .goto (-19), 3, 17, 0, 0), []))
def qb184_19 : QB := (127, [(127, .iload_n 3, 1, 3, 0, 0)], (6, (128, .ireturn, 1, 0, 0, 0), []))
def qm184 : QM := (yX11_liarsOf, cX11_liarsOf, 5, (some .int), 22, 2, [qb184_0, qb184_1, qb184_2, qb184_3, qb184_4, qb184_5, qb184_6, qb184_7, qb184_8, qb184_9, qb184_10, qb184_11, qb184_12, qb184_13, qb184_14, qb184_15, qb184_16, qb184_17, qb184_18, qb184_19])
def qb185_0 : QB := (0, [(0, .iload_n 1, 1, 1, 0, 0), (1, .iconst 0, 1, 0, 0, 0), (2, .bipush 12, 2, 0, 0, 12)], (5, (4, .invokestatic 169, 3, 112, 1, 0), [(0, 3), (0, 3)]))
def qb185_1 : QB := (7, [], (2, (7, .ifCond .ne 5, 3, 3, 2, 0), []))
def qb185_2 : QB := (10, [(10, .iconst (-1), 1, 0, 0, (-1))], (6, (11, .ireturn, 1, 0, 0, 0), []))
def qb185_3 : QB := (12, [(12, .iconst 0, 1, 0, 0, 0), (13, .istore_n 2, 1, 2, 0, 0), (14, .iconst 0, 1, 0, 0, 0), (15, .istore_n 3, 1, 3, 0, 0)], (0, (16, .nop, 0, 4, 0, 0), []))
def qb185_4 : QB := (16, [(16, .iload_n 3, 1, 3, 0, 0), (17, .bipush 24, 2, 0, 0, 24)], (3, (19, .if_icmp .gt 41, 3, 11, 5, 0), []))
def qb185_5 : QB := (22, [(22, .iload_n 3, 1, 3, 0, 0), (23, .bipush 24, 2, 0, 0, 24)], (3, (25, .if_icmp .eq 14, 3, 7, 6, 0), []))
def qb185_6 : QB := (28, [(28, .aload_n 0, 1, 0, 0, 0), (29, .getfield 7, 3, 1, 11, 0), (32, .iload_n 3, 1, 3, 0, 0), (33, .iaload, 1, 0, 0, 0), (34, .bipush 12, 2, 0, 0, 12)], (3, (36, .if_icmp .eq 18, 3, 10, 7, 0), []))
def qb185_7 : QB := (39, [(39, .aload_n 0, 1, 0, 0, 0), (40, .iload_n 3, 1, 3, 0, 0)], (5, (41, .invokevirtual 371, 3, 184, 8, 0), [(15, 2), (0, 5)]))
def qb185_8 : QB := (44, [(44, .iload_n 1, 1, 1, 0, 0)], (3, (45, .if_icmp .gt 9, 3, 10, 9, 0), []))
def qb185_9 : QB := (48, [(48, .iload_n 2, 1, 2, 0, 0), (49, .iconst 1, 1, 0, 0, 1), (50, .iload_n 3, 1, 3, 0, 0), (51, .ishl, 1, 0, 0, 0), (52, .ior, 1, 0, 0, 0), (53, .istore_n 2, 1, 2, 0, 0)], (0, (54, .nop, 0, 10, 0, 0), []))
def qb185_10 : QB := (54, [(54, .iinc 3 1, 3, 3, 0, 1)], (1, (57, .goto (-41), 3, 4, 0, 0), []))
def qb185_11 : QB := (60, [(60, .iload_n 2, 1, 2, 0, 0)], (6, (61, .ireturn, 1, 0, 0, 0), []))
def qm185 : QM := (yX11_holds, cX11_holds, 4, (some .int), 22, 2, [qb185_0, qb185_1, qb185_2, qb185_3, qb185_4, qb185_5, qb185_6, qb185_7, qb185_8, qb185_9, qb185_10, qb185_11])
def qb186_0 : QB := (0, [(0, .iload_n 1, 1, 1, 0, 0), (1, .iconst 0, 1, 0, 0, 0), (2, .bipush 12, 2, 0, 0, 12)], (5, (4, .invokestatic 169, 3, 112, 1, 0), [(0, 3), (0, 3)]))
def qb186_1 : QB := (7, [], (2, (7, .ifCond .ne 5, 3, 3, 2, 0), []))
def qb186_2 : QB := (10, [(10, .iconst (-1), 1, 0, 0, (-1))], (6, (11, .ireturn, 1, 0, 0, 0), []))
def qb186_3 : QB := (12, [(12, .aload_n 0, 1, 0, 0, 0), (13, .iload_n 1, 1, 1, 0, 0)], (5, (14, .invokevirtual 374, 3, 185, 4, 0), [(15, 2), (0, 4)]))
def qb186_4 : QB := (17, [(17, .istore_n 2, 1, 2, 0, 0), (18, .bipush (-2), 2, 0, 0, (-2)), (20, .istore_n 3, 1, 3, 0, 0), (21, .iconst 0, 1, 0, 0, 0), (22, .istore 4, 2, 4, 0, 0)], (0, (24, .nop, 0, 5, 0, 0), []))
def qb186_5 : QB := (24, [(24, .iload 4, 2, 4, 0, 0), (26, .bipush 24, 2, 0, 0, 24)], (3, (28, .if_icmp .ge 49, 3, 13, 6, 0), []))
def qb186_6 : QB := (31, [(31, .iload_n 2, 1, 2, 0, 0), (32, .iload 4, 2, 4, 0, 0), (34, .ishr, 1, 0, 0, 0), (35, .iconst 1, 1, 0, 0, 1), (36, .iand, 1, 0, 0, 0)], (2, (37, .ifCond .ne 6, 3, 8, 7, 0), []))
def qb186_7 : QB := (40, [], (1, (40, .goto 31, 3, 12, 0, 0), []))
def qb186_8 : QB := (43, [(43, .iload_n 3, 1, 3, 0, 0), (44, .bipush (-2), 2, 0, 0, (-2))], (3, (46, .if_icmp .eq 17, 3, 11, 9, 0), []))
def qb186_9 : QB := (49, [(49, .iload_n 3, 1, 3, 0, 0), (50, .aload_n 0, 1, 0, 0, 0), (51, .getfield 7, 3, 1, 11, 0), (54, .iload 4, 2, 4, 0, 0), (56, .iaload, 1, 0, 0, 0)], (3, (57, .if_icmp .eq 6, 3, 11, 10, 0), []))
def qb186_10 : QB := (60, [(60, .bipush (-2), 2, 0, 0, (-2))], (6, (62, .ireturn, 1, 0, 0, 0), []))
def qb186_11 : QB := (63, [(63, .aload_n 0, 1, 0, 0, 0), (64, .getfield 7, 3, 1, 11, 0), (67, .iload 4, 2, 4, 0, 0), (69, .iaload, 1, 0, 0, 0), (70, .istore_n 3, 1, 3, 0, 0)], (0, (71, .nop, 0, 12, 0, 0), []))
def qb186_12 : QB := (71, [(71, .iinc 4 1, 3, 4, 0, 1)], (1, (74, .goto (-50), 3, 5, 0, 0), []))
def qb186_13 : QB := (77, [(77, .iload_n 2, 1, 2, 0, 0), (78, .bipush 24, 2, 0, 0, 24), (80, .ishr, 1, 0, 0, 0), (81, .iconst 1, 1, 0, 0, 1), (82, .iand, 1, 0, 0, 0), (83, .iconst 1, 1, 0, 0, 1)], (3, (84, .if_icmp .ne 8, 3, 15, 14, 0), []))
def qb186_14 : QB := (87, [(87, .bipush (-2), 2, 0, 0, (-2))], (1, (89, .goto 4, 3, 16, 0, 0), []))
def qb186_15 : QB := (92, [(92, .iload_n 3, 1, 3, 0, 0)], (0, (93, .nop, 0, 16, 0, 0), []))
def qb186_16 : QB := (93, [], (6, (93, .ireturn, 1, 0, 0, 0), []))
def qm186 : QM := (yX11_guilty, cX11_guilty, 5, (some .int), 22, 2, [qb186_0, qb186_1, qb186_2, qb186_3, qb186_4, qb186_5, qb186_6, qb186_7, qb186_8, qb186_9, qb186_10, qb186_11, qb186_12, qb186_13, qb186_14, qb186_15, qb186_16])
def qb187_0 : QB := (0, [(0, .iconst 0, 1, 0, 0, 0), (1, .istore 4, 2, 4, 0, 0), (3, .iload_n 1, 1, 1, 0, 0), (4, .istore 5, 2, 5, 0, 0)], (0, (6, .nop, 0, 1, 0, 0), []))
def qb187_1 : QB := (6, [(6, .iload 5, 2, 5, 0, 0), (8, .iload_n 2, 1, 2, 0, 0)], (3, (9, .if_icmp .ge 30, 3, 6, 2, 0), []))
def qb187_2 : QB := (12, [(12, .iload 4, 2, 4, 0, 0), (14, .aload_n 0, 1, 0, 0, 0), (15, .getfield 7, 3, 1, 11, 0), (18, .iload 5, 2, 5, 0, 0), (20, .iaload, 1, 0, 0, 0), (21, .iload_n 3, 1, 3, 0, 0)], (3, (22, .if_icmp .ne 7, 3, 4, 3, 0), []))
def qb187_3 : QB := (25, [(25, .iconst 1, 1, 0, 0, 1)], (1, (26, .goto 4, 3, 5, 0, 0), []))
def qb187_4 : QB := (29, [(29, .iconst 0, 1, 0, 0, 0)], (0, (30, .nop, 0, 5, 0, 0), []))
def qb187_5 : QB := (30, [(30, .iadd, 1, 0, 0, 0), (31, .istore 4, 2, 4, 0, 0), (33, .iinc 5 1, 3, 5, 0, 1)], (1, (36, .goto (-30), 3, 1, 0, 0), []))
def qb187_6 : QB := (39, [(39, .iload 4, 2, 4, 0, 0)], (6, (41, .ireturn, 1, 0, 0, 0), []))
def qm187 : QM := (yX11_hoursIn, cX11_hoursIn, 6, (some .int), 22, 4, [qb187_0, qb187_1, qb187_2, qb187_3, qb187_4, qb187_5, qb187_6])
def qb188_0 : QB := (0, [(0, .iload_n 1, 1, 1, 0, 0)], (5, (1, .invokestatic 159, 3, 113, 1, 0), [(0, 1), (0, 1)]))
def qb188_1 : QB := (4, [], (2, (4, .ifCond .eq 34, 3, 8, 2, 0), []))
def qb188_2 : QB := (7, [(7, .iload_n 2, 1, 2, 0, 0), (8, .iload_n 1, 1, 1, 0, 0), (9, .iconst 1, 1, 0, 0, 1), (10, .iadd, 1, 0, 0, 0), (11, .bipush 24, 2, 0, 0, 24)], (5, (13, .invokestatic 169, 3, 112, 3, 0), [(0, 3), (0, 3)]))
def qb188_3 : QB := (16, [], (2, (16, .ifCond .eq 22, 3, 8, 4, 0), []))
def qb188_4 : QB := (19, [(19, .iload_n 3, 1, 3, 0, 0), (20, .iconst 0, 1, 0, 0, 0), (21, .ldc_w 377, 3, 0, 0, 99999)], (5, (24, .invokestatic 169, 3, 112, 5, 0), [(0, 3), (0, 3)]))
def qb188_5 : QB := (27, [], (2, (27, .ifCond .eq 11, 3, 8, 6, 0), []))
def qb188_6 : QB := (30, [(30, .iload 4, 2, 4, 0, 0)], (5, (32, .invokestatic 163, 3, 114, 7, 0), [(0, 1), (0, 1)]))
def qb188_7 : QB := (35, [], (2, (35, .ifCond .ne 5, 3, 9, 8, 0), []))
def qb188_8 : QB := (38, [(38, .iconst (-1), 1, 0, 0, (-1))], (6, (39, .ireturn, 1, 0, 0, 0), []))
def qb188_9 : QB := (40, [(40, .iload_n 2, 1, 2, 0, 0), (41, .iload_n 1, 1, 1, 0, 0), (42, .isub, 1, 0, 0, 0), (43, .aload_n 0, 1, 0, 0, 0), (44, .iload_n 1, 1, 1, 0, 0), (45, .iload_n 2, 1, 2, 0, 0), (46, .bipush 12, 2, 0, 0, 12)], (5, (48, .invokevirtual 378, 3, 187, 10, 0), [(15, 4), (0, 6)]))
def qb188_10 : QB := (51, [(51, .isub, 1, 0, 0, 0), (52, .istore 5, 2, 5, 0, 0), (54, .aload_n 0, 1, 0, 0, 0), (55, .iload_n 1, 1, 1, 0, 0), (56, .iload_n 2, 1, 2, 0, 0), (57, .iload 4, 2, 4, 0, 0)], (5, (59, .invokevirtual 378, 3, 187, 11, 0), [(15, 4), (0, 6)]))
def qb188_11 : QB := (62, [], (2, (62, .ifCond .ne 5, 3, 13, 12, 0), []))
def qb188_12 : QB := (65, [(65, .iconst 0, 1, 0, 0, 0)], (6, (66, .ireturn, 1, 0, 0, 0), []))
def qb188_13 : QB := (67, [(67, .iload_n 3, 1, 3, 0, 0), (68, .istore 6, 2, 6, 0, 0), (70, .iconst 0, 1, 0, 0, 0), (71, .istore 7, 2, 7, 0, 0), (73, .iconst 0, 1, 0, 0, 0), (74, .istore 8, 2, 8, 0, 0)], (0, (76, .nop, 0, 14, 0, 0), []))
def qb188_14 : QB := (76, [(76, .iload 8, 2, 8, 0, 0), (78, .bipush 12, 2, 0, 0, 12)], (3, (80, .if_icmp .ge 53, 3, 21, 15, 0), []))
def qb188_15 : QB := (83, [(83, .aload_n 0, 1, 0, 0, 0), (84, .iload_n 1, 1, 1, 0, 0), (85, .iload_n 2, 1, 2, 0, 0), (86, .iload 8, 2, 8, 0, 0)], (5, (88, .invokevirtual 378, 3, 187, 16, 0), [(15, 4), (0, 6)]))
def qb188_16 : QB := (91, [(91, .istore 9, 2, 9, 0, 0), (93, .iload 6, 2, 6, 0, 0), (95, .iload_n 3, 1, 3, 0, 0), (96, .iload 9, 2, 9, 0, 0), (98, .imul, 1, 0, 0, 0), (99, .iload 5, 2, 5, 0, 0), (101, .idiv, 1, 0, 0, 0), (102, .isub, 1, 0, 0, 0), (103, .istore 6, 2, 6, 0, 0), (105, .iload 7, 2, 7, 0, 0), (107, .iload 9, 2, 9, 0, 0)], (2, (109, .ifCond .le 14, 3, 19, 17, 0), []))
def qb188_17 : QB := (112, [(112, .iload 8, 2, 8, 0, 0), (114, .iload 4, 2, 4, 0, 0)], (3, (116, .if_icmp .ge 7, 3, 19, 18, 0), []))
def qb188_18 : QB := (119, [(119, .iconst 1, 1, 0, 0, 1)], (1, (120, .goto 4, 3, 20, 0, 0), []))
def qb188_19 : QB := (123, [(123, .iconst 0, 1, 0, 0, 0)], (0, (124, .nop, 0, 20, 0, 0), []))
def qb188_20 : QB := (124, [(124, .iadd, 1, 0, 0, 0), (125, .istore 7, 2, 7, 0, 0), (127, .iinc 8 1, 3, 8, 0, 1)], (1, (130, .goto (-54), 3, 14, 0, 0), []))
def qb188_21 : QB := (133, [(133, .iload_n 3, 1, 3, 0, 0), (134, .aload_n 0, 1, 0, 0, 0), (135, .iload_n 1, 1, 1, 0, 0), (136, .iload_n 2, 1, 2, 0, 0), (137, .iload 4, 2, 4, 0, 0)], (5, (139, .invokevirtual 378, 3, 187, 22, 0), [(15, 4), (0, 6)]))
def qb188_22 : QB := (142, [(142, .imul, 1, 0, 0, 0), (143, .iload 5, 2, 5, 0, 0), (145, .idiv, 1, 0, 0, 0), (146, .iload 7, 2, 7, 0, 0), (148, .iload 6, 2, 6, 0, 0)], (3, (150, .if_icmp .ge 7, 3, 24, 23, 0), []))
def qb188_23 : QB := (153, [(153, .iconst 1, 1, 0, 0, 1)], (1, (154, .goto 4, 3, 25, 0, 0), []))
def qb188_24 : QB := (157, [(157, .iconst 0, 1, 0, 0, 0)], (0, (158, .nop, 0, 25, 0, 0), []))
def qb188_25 : QB := (158, [(158, .iadd, 1, 0, 0, 0)], (6, (159, .ireturn, 1, 0, 0, 0), []))
def qm188 : QM := (yX11_guest, cX11_guest, 10, (some .int), 22, 5, [qb188_0, qb188_1, qb188_2, qb188_3, qb188_4, qb188_5, qb188_6, qb188_7, qb188_8, qb188_9, qb188_10, qb188_11, qb188_12, qb188_13, qb188_14, qb188_15, qb188_16, qb188_17, qb188_18, qb188_19, qb188_20, qb188_21, qb188_22, qb188_23, qb188_24, qb188_25])
def qb189_0 : QB := (0, [(0, .iload_n 1, 1, 1, 0, 0)], (5, (1, .invokestatic 163, 3, 114, 1, 0), [(0, 1), (0, 1)]))
def qb189_1 : QB := (4, [], (2, (4, .ifCond .ne 5, 3, 3, 2, 0), []))
def qb189_2 : QB := (7, [(7, .iconst (-1), 1, 0, 0, (-1))], (6, (8, .ireturn, 1, 0, 0, 0), []))
def qb189_3 : QB := (9, [(9, .iconst 0, 1, 0, 0, 0), (10, .istore_n 2, 1, 2, 0, 0), (11, .iconst 0, 1, 0, 0, 0), (12, .istore_n 3, 1, 3, 0, 0)], (0, (13, .nop, 0, 4, 0, 0), []))
def qb189_4 : QB := (13, [(13, .iload_n 3, 1, 3, 0, 0), (14, .bipush 24, 2, 0, 0, 24)], (3, (16, .if_icmp .ge 113, 3, 19, 5, 0), []))
def qb189_5 : QB := (19, [(19, .aload_n 0, 1, 0, 0, 0), (20, .getfield 128, 3, 54, 11, 0), (23, .iload_n 3, 1, 3, 0, 0), (24, .aload_n 0, 1, 0, 0, 0), (25, .getfield 7, 3, 1, 11, 0), (28, .iload_n 3, 1, 3, 0, 0), (29, .iaload, 1, 0, 0, 0), (30, .iastore, 1, 0, 0, 0), (31, .aload_n 0, 1, 0, 0, 0), (32, .getfield 7, 3, 1, 11, 0), (35, .iload_n 3, 1, 3, 0, 0), (36, .iaload, 1, 0, 0, 0), (37, .iload_n 1, 1, 1, 0, 0)], (3, (38, .if_icmp .eq 6, 3, 7, 6, 0), []))
def qb189_6 : QB := (41, [], (1, (41, .goto 82, 3, 18, 0, 0), []))
def qb189_7 : QB := (44, [(44, .iload_n 2, 1, 2, 0, 0), (45, .iconst 1, 1, 0, 0, 1), (46, .iadd, 1, 0, 0, 0), (47, .istore_n 2, 1, 2, 0, 0), (48, .iload_n 3, 1, 3, 0, 0), (49, .istore 4, 2, 4, 0, 0), (51, .iconst 0, 1, 0, 0, 0), (52, .istore 5, 2, 5, 0, 0)], (0, (54, .nop, 0, 8, 0, 0), []))
def qb189_8 : QB := (54, [(54, .iload 5, 2, 5, 0, 0), (56, .bipush 24, 2, 0, 0, 24)], (3, (58, .if_icmp .ge 36, 3, 14, 9, 0), []))
def qb189_9 : QB := (61, [(61, .aload_n 0, 1, 0, 0, 0), (62, .getfield 7, 3, 1, 11, 0), (65, .iload 4, 2, 4, 0, 0), (67, .iaload, 1, 0, 0, 0), (68, .iload_n 1, 1, 1, 0, 0)], (3, (69, .if_icmp .ne 25, 3, 14, 10, 0), []))
def qb189_10 : QB := (72, [(72, .iload 4, 2, 4, 0, 0)], (2, (74, .ifCond .ne 8, 3, 12, 11, 0), []))
def qb189_11 : QB := (77, [(77, .bipush 23, 2, 0, 0, 23)], (1, (79, .goto 7, 3, 13, 0, 0), []))
def qb189_12 : QB := (82, [(82, .iload 4, 2, 4, 0, 0), (84, .iconst 1, 1, 0, 0, 1), (85, .isub, 1, 0, 0, 0)], (0, (86, .nop, 0, 13, 0, 0), []))
def qb189_13 : QB := (86, [(86, .istore 4, 2, 4, 0, 0), (88, .iinc 5 1, 3, 5, 0, 1)], (1, (91, .goto (-37), 3, 8, 0, 0), []))
def qb189_14 : QB := (94, [(94, .aload_n 0, 1, 0, 0, 0), (95, .getfield 128, 3, 54, 11, 0), (98, .iload_n 3, 1, 3, 0, 0), (99, .aload_n 0, 1, 0, 0, 0), (100, .getfield 7, 3, 1, 11, 0), (103, .iload 4, 2, 4, 0, 0), (105, .iaload, 1, 0, 0, 0), (106, .iload_n 1, 1, 1, 0, 0)], (3, (107, .if_icmp .ne 8, 3, 16, 15, 0), []))
def qb189_15 : QB := (110, [(110, .bipush 12, 2, 0, 0, 12)], (1, (112, .goto 10, 3, 17, 0, 0), []))
def qb189_16 : QB := (115, [(115, .aload_n 0, 1, 0, 0, 0), (116, .getfield 7, 3, 1, 11, 0), (119, .iload 4, 2, 4, 0, 0), (121, .iaload, 1, 0, 0, 0)], (0, (122, .nop, 0, 17, 0, 0), []))
def qb189_17 : QB := (122, [(122, .iastore, 1, 0, 0, 0)], (0, (123, .nop, 0, 18, 0, 0), []))
def qb189_18 : QB := (123, [(123, .iinc 3 1, 3, 3, 0, 1)], (1, (126, .goto (-113), 3, 4, 0, 0), []))
def qb189_19 : QB := (129, [(129, .iconst 0, 1, 0, 0, 0), (130, .istore_n 3, 1, 3, 0, 0)], (0, (131, .nop, 0, 20, 0, 0), []))
def qb189_20 : QB := (131, [(131, .iload_n 3, 1, 3, 0, 0), (132, .bipush 24, 2, 0, 0, 24)], (3, (134, .if_icmp .ge 21, 3, 22, 21, 0), []))
def qb189_21 : QB := (137, [(137, .aload_n 0, 1, 0, 0, 0), (138, .getfield 7, 3, 1, 11, 0), (141, .iload_n 3, 1, 3, 0, 0), (142, .aload_n 0, 1, 0, 0, 0), (143, .getfield 128, 3, 54, 11, 0), (146, .iload_n 3, 1, 3, 0, 0), (147, .iaload, 1, 0, 0, 0), (148, .iastore, 1, 0, 0, 0), (149, .iinc 3 1, 3, 3, 0, 1)], (1, (152, .goto (-21), 3, 20, 0, 0), []))
def qb189_22 : QB := (155, [(155, .aload_n 0, 1, 0, 0, 0), (156, .getfield 25, 3, 6, 11, 0), (159, .iload_n 1, 1, 1, 0, 0), (160, .iconst 0, 1, 0, 0, 0), (161, .iastore, 1, 0, 0, 0), (162, .aload_n 0, 1, 0, 0, 0), (163, .getfield 37, 3, 10, 11, 0), (166, .iload_n 1, 1, 1, 0, 0), (167, .iconst 0, 1, 0, 0, 0), (168, .iastore, 1, 0, 0, 0), (169, .iload_n 2, 1, 2, 0, 0)], (6, (170, .ireturn, 1, 0, 0, 0), []))
def qm189 : QM := (yX11_dies, cX11_dies, 6, (some .int), 22, 2, [qb189_0, qb189_1, qb189_2, qb189_3, qb189_4, qb189_5, qb189_6, qb189_7, qb189_8, qb189_9, qb189_10, qb189_11, qb189_12, qb189_13, qb189_14, qb189_15, qb189_16, qb189_17, qb189_18, qb189_19, qb189_20, qb189_21, qb189_22])
def qb190_0 : QB := (0, [(0, .iconst 0, 1, 0, 0, 0), (1, .istore_n 1, 1, 1, 0, 0), (2, .iconst 0, 1, 0, 0, 0), (3, .istore_n 2, 1, 2, 0, 0)], (0, (4, .nop, 0, 1, 0, 0), []))
def qb190_1 : QB := (4, [(4, .iload_n 2, 1, 2, 0, 0), (5, .bipush 24, 2, 0, 0, 24)], (3, (7, .if_icmp .ge 28, 3, 6, 2, 0), []))
def qb190_2 : QB := (10, [(10, .iload_n 1, 1, 1, 0, 0), (11, .aload_n 0, 1, 0, 0, 0), (12, .getfield 7, 3, 1, 11, 0), (15, .iload_n 2, 1, 2, 0, 0), (16, .iaload, 1, 0, 0, 0), (17, .bipush 12, 2, 0, 0, 12)], (3, (19, .if_icmp .ne 7, 3, 4, 3, 0), []))
def qb190_3 : QB := (22, [(22, .iconst 0, 1, 0, 0, 0)], (1, (23, .goto 4, 3, 5, 0, 0), []))
def qb190_4 : QB := (26, [(26, .iconst 1, 1, 0, 0, 1)], (0, (27, .nop, 0, 5, 0, 0), []))
def qb190_5 : QB := (27, [(27, .iadd, 1, 0, 0, 0), (28, .istore_n 1, 1, 1, 0, 0), (29, .iinc 2 1, 3, 2, 0, 1)], (1, (32, .goto (-28), 3, 1, 0, 0), []))
def qb190_6 : QB := (35, [(35, .iload_n 1, 1, 1, 0, 0)], (6, (36, .ireturn, 1, 0, 0, 0), []))
def qm190 : QM := (yX11_ownedMany, cX11_ownedMany, 3, (some .int), 22, 1, [qb190_0, qb190_1, qb190_2, qb190_3, qb190_4, qb190_5, qb190_6])
def qb191_0 : QB := (0, [(0, .iload_n 1, 1, 1, 0, 0), (1, .iconst 0, 1, 0, 0, 0), (2, .ldc_w 381, 3, 0, 0, 65535)], (5, (5, .invokestatic 169, 3, 112, 1, 0), [(0, 3), (0, 3)]))
def qb191_1 : QB := (8, [], (2, (8, .ifCond .ne 5, 3, 3, 2, 0), []))
def qb191_2 : QB := (11, [(11, .iconst 0, 1, 0, 0, 0)], (8, (12, .ireturn, 1, 0, 0, 0), []))
def qb191_3 : QB := (13, [(13, .aload_n 0, 1, 0, 0, 0), (14, .iload_n 1, 1, 1, 0, 0), (15, .putfield 155, 3, 0, 11, 0), (18, .iconst 1, 1, 0, 0, 1)], (8, (19, .ireturn, 1, 0, 0, 0), []))
def qm191 : QM := (yX11_seed, cX11_seed, 2, (some .boolean), 22, 2, [qb191_0, qb191_1, qb191_2, qb191_3])
def qb192_0 : QB := (0, [(0, .iload_n 1, 1, 1, 0, 0), (1, .iconst 1, 1, 0, 0, 1), (2, .bipush 40, 2, 0, 0, 40)], (5, (4, .invokestatic 169, 3, 112, 1, 0), [(0, 3), (0, 3)]))
def qb192_1 : QB := (7, [], (2, (7, .ifCond .ne 5, 3, 3, 2, 0), []))
def qb192_2 : QB := (10, [(10, .iconst (-1), 1, 0, 0, (-1))], (6, (11, .ireturn, 1, 0, 0, 0), []))
def qb192_3 : QB := (12, [(12, .iconst 0, 1, 0, 0, 0), (13, .istore_n 2, 1, 2, 0, 0)], (0, (14, .nop, 0, 4, 0, 0), []))
def qb192_4 : QB := (14, [(14, .iload_n 2, 1, 2, 0, 0), (15, .iload_n 1, 1, 1, 0, 0)], (3, (16, .if_icmp .ge 51, 3, 6, 5, 0), []))
def qb192_5 : QB := (19, [(19, .aload_n 0, 1, 0, 0, 0), (20, .sipush 25173, 3, 0, 0, 25173), (23, .aload_n 0, 1, 0, 0, 0), (24, .getfield 155, 3, 0, 11, 0), (27, .imul, 1, 0, 0, 0), (28, .sipush 13849, 3, 0, 0, 13849), (31, .iadd, 1, 0, 0, 0), (32, .ldc_w 382, 3, 0, 0, 65536), (35, .irem, 1, 0, 0, 0), (36, .putfield 155, 3, 0, 11, 0), (39, .aload_n 0, 1, 0, 0, 0), (40, .getfield 7, 3, 1, 11, 0), (43, .aload_n 0, 1, 0, 0, 0), (44, .getfield 155, 3, 0, 11, 0), (47, .bipush 24, 2, 0, 0, 24), (49, .irem, 1, 0, 0, 0), (50, .aload_n 0, 1, 0, 0, 0), (51, .getfield 155, 3, 0, 11, 0), (54, .bipush 24, 2, 0, 0, 24), (56, .idiv, 1, 0, 0, 0), (57, .bipush 12, 2, 0, 0, 12), (59, .irem, 1, 0, 0, 0), (60, .iastore, 1, 0, 0, 0), (61, .iinc 2 1, 3, 2, 0, 1)], (1, (64, .goto (-50), 3, 4, 0, 0), []))
def qb192_6 : QB := (67, [(67, .aload_n 0, 1, 0, 0, 0)], (5, (68, .invokevirtual 383, 3, 190, 7, 0), [(15, 1), (0, 3)]))
def qb192_7 : QB := (71, [], (6, (71, .ireturn, 1, 0, 0, 0), []))
def qm192 : QM := (yX11_draw, cX11_draw, 3, (some .int), 22, 2, [qb192_0, qb192_1, qb192_2, qb192_3, qb192_4, qb192_5, qb192_6, qb192_7])
def qb193_0 : QB := (0, [(0, .iconst 0, 1, 0, 0, 0), (1, .istore_n 3, 1, 3, 0, 0)], (0, (2, .nop, 0, 1, 0, 0), []))
def qb193_1 : QB := (2, [(2, .iload_n 3, 1, 3, 0, 0), (3, .iload_n 2, 1, 2, 0, 0)], (3, (4, .if_icmp .ge 15, 3, 3, 2, 0), []))
def qb193_2 : QB := (7, [(7, .aload_n 1, 1, 1, 0, 0), (8, .iload_n 3, 1, 3, 0, 0), (9, .aload_n 0, 1, 0, 0, 0), (10, .iload_n 3, 1, 3, 0, 0), (11, .iaload, 1, 0, 0, 0), (12, .iastore, 1, 0, 0, 0), (13, .iinc 3 1, 3, 3, 0, 1)], (1, (16, .goto (-14), 3, 1, 0, 0), []))
def qb193_3 : QB := (19, [], (7, (19, .return_, 1, 0, 0, 0), []))
def qm193 : QM := (yX11_copies, cX11_copies, 4, none, 23, 3, [qb193_0, qb193_1, qb193_2, qb193_3])
def qb194_0 : QB := (0, [(0, .aload_n 0, 1, 0, 0, 0), (1, .iconst 1, 1, 0, 0, 1), (2, .putfield 386, 3, 55, 11, 1), (5, .aload_n 0, 1, 0, 0, 0), (6, .aload_n 0, 1, 0, 0, 0), (7, .getfield 155, 3, 0, 11, 0), (10, .putfield 390, 3, 56, 11, 0), (13, .aload_n 0, 1, 0, 0, 0), (14, .getfield 7, 3, 1, 11, 0), (17, .aload_n 0, 1, 0, 0, 0), (18, .getfield 131, 3, 57, 11, 0), (21, .bipush 24, 2, 0, 0, 24)], (5, (23, .invokestatic 393, 3, 193, 1, 0), [(0, 3), (0, 4)]))
def qb194_1 : QB := (26, [(26, .aload_n 0, 1, 0, 0, 0), (27, .getfield 16, 3, 3, 11, 0), (30, .aload_n 0, 1, 0, 0, 0), (31, .getfield 134, 3, 58, 11, 0), (34, .bipush 8, 2, 0, 0, 8)], (5, (36, .invokestatic 393, 3, 193, 2, 0), [(0, 3), (0, 4)]))
def qb194_2 : QB := (39, [(39, .aload_n 0, 1, 0, 0, 0), (40, .getfield 19, 3, 4, 11, 0), (43, .aload_n 0, 1, 0, 0, 0), (44, .getfield 137, 3, 59, 11, 0), (47, .bipush 8, 2, 0, 0, 8)], (5, (49, .invokestatic 393, 3, 193, 3, 0), [(0, 3), (0, 4)]))
def qb194_3 : QB := (52, [(52, .aload_n 0, 1, 0, 0, 0), (53, .getfield 22, 3, 5, 11, 0), (56, .aload_n 0, 1, 0, 0, 0), (57, .getfield 140, 3, 60, 11, 0), (60, .bipush 8, 2, 0, 0, 8)], (5, (62, .invokestatic 393, 3, 193, 4, 0), [(0, 3), (0, 4)]))
def qb194_4 : QB := (65, [(65, .aload_n 0, 1, 0, 0, 0), (66, .getfield 25, 3, 6, 11, 0), (69, .aload_n 0, 1, 0, 0, 0), (70, .getfield 143, 3, 61, 11, 0), (73, .bipush 12, 2, 0, 0, 12)], (5, (75, .invokestatic 393, 3, 193, 5, 0), [(0, 3), (0, 4)]))
def qb194_5 : QB := (78, [(78, .aload_n 0, 1, 0, 0, 0), (79, .getfield 28, 3, 7, 11, 0), (82, .aload_n 0, 1, 0, 0, 0), (83, .getfield 146, 3, 62, 11, 0), (86, .bipush 60, 2, 0, 0, 60)], (5, (88, .invokestatic 393, 3, 193, 6, 0), [(0, 3), (0, 4)]))
def qb194_6 : QB := (91, [(91, .aload_n 0, 1, 0, 0, 0), (92, .getfield 31, 3, 8, 11, 0), (95, .aload_n 0, 1, 0, 0, 0), (96, .getfield 149, 3, 63, 11, 0), (99, .bipush 60, 2, 0, 0, 60)], (5, (101, .invokestatic 393, 3, 193, 7, 0), [(0, 3), (0, 4)]))
def qb194_7 : QB := (104, [(104, .aload_n 0, 1, 0, 0, 0), (105, .getfield 34, 3, 9, 11, 0), (108, .aload_n 0, 1, 0, 0, 0), (109, .getfield 152, 3, 64, 11, 0), (112, .bipush 60, 2, 0, 0, 60)], (5, (114, .invokestatic 393, 3, 193, 8, 0), [(0, 3), (0, 4)]))
def qb194_8 : QB := (117, [(117, .aload_n 0, 1, 0, 0, 0)], (5, (118, .invokevirtual 383, 3, 190, 9, 0), [(15, 1), (0, 3)]))
def qb194_9 : QB := (121, [], (6, (121, .ireturn, 1, 0, 0, 0), []))
def qm194 : QM := (yX11_keep, cX11_keep, 1, (some .int), 22, 1, [qb194_0, qb194_1, qb194_2, qb194_3, qb194_4, qb194_5, qb194_6, qb194_7, qb194_8, qb194_9])
def qb195_0 : QB := (0, [(0, .aload_n 0, 1, 0, 0, 0), (1, .getfield 386, 3, 55, 11, 1)], (2, (4, .ifCond .ne 5, 3, 2, 1, 0), []))
def qb195_1 : QB := (7, [(7, .iconst 0, 1, 0, 0, 0)], (8, (8, .ireturn, 1, 0, 0, 0), []))
def qb195_2 : QB := (9, [(9, .aload_n 0, 1, 0, 0, 0), (10, .aload_n 0, 1, 0, 0, 0), (11, .getfield 390, 3, 56, 11, 0), (14, .putfield 155, 3, 0, 11, 0), (17, .aload_n 0, 1, 0, 0, 0), (18, .getfield 131, 3, 57, 11, 0), (21, .aload_n 0, 1, 0, 0, 0), (22, .getfield 7, 3, 1, 11, 0), (25, .bipush 24, 2, 0, 0, 24)], (5, (27, .invokestatic 393, 3, 193, 3, 0), [(0, 3), (0, 4)]))
def qb195_3 : QB := (30, [(30, .aload_n 0, 1, 0, 0, 0), (31, .getfield 134, 3, 58, 11, 0), (34, .aload_n 0, 1, 0, 0, 0), (35, .getfield 16, 3, 3, 11, 0), (38, .bipush 8, 2, 0, 0, 8)], (5, (40, .invokestatic 393, 3, 193, 4, 0), [(0, 3), (0, 4)]))
def qb195_4 : QB := (43, [(43, .aload_n 0, 1, 0, 0, 0), (44, .getfield 137, 3, 59, 11, 0), (47, .aload_n 0, 1, 0, 0, 0), (48, .getfield 19, 3, 4, 11, 0), (51, .bipush 8, 2, 0, 0, 8)], (5, (53, .invokestatic 393, 3, 193, 5, 0), [(0, 3), (0, 4)]))
def qb195_5 : QB := (56, [(56, .aload_n 0, 1, 0, 0, 0), (57, .getfield 140, 3, 60, 11, 0), (60, .aload_n 0, 1, 0, 0, 0), (61, .getfield 22, 3, 5, 11, 0), (64, .bipush 8, 2, 0, 0, 8)], (5, (66, .invokestatic 393, 3, 193, 6, 0), [(0, 3), (0, 4)]))
def qb195_6 : QB := (69, [(69, .aload_n 0, 1, 0, 0, 0), (70, .getfield 143, 3, 61, 11, 0), (73, .aload_n 0, 1, 0, 0, 0), (74, .getfield 25, 3, 6, 11, 0), (77, .bipush 12, 2, 0, 0, 12)], (5, (79, .invokestatic 393, 3, 193, 7, 0), [(0, 3), (0, 4)]))
def qb195_7 : QB := (82, [(82, .aload_n 0, 1, 0, 0, 0), (83, .getfield 146, 3, 62, 11, 0), (86, .aload_n 0, 1, 0, 0, 0), (87, .getfield 28, 3, 7, 11, 0), (90, .bipush 60, 2, 0, 0, 60)], (5, (92, .invokestatic 393, 3, 193, 8, 0), [(0, 3), (0, 4)]))
def qb195_8 : QB := (95, [(95, .aload_n 0, 1, 0, 0, 0), (96, .getfield 149, 3, 63, 11, 0), (99, .aload_n 0, 1, 0, 0, 0), (100, .getfield 31, 3, 8, 11, 0), (103, .bipush 60, 2, 0, 0, 60)], (5, (105, .invokestatic 393, 3, 193, 9, 0), [(0, 3), (0, 4)]))
def qb195_9 : QB := (108, [(108, .aload_n 0, 1, 0, 0, 0), (109, .getfield 152, 3, 64, 11, 0), (112, .aload_n 0, 1, 0, 0, 0), (113, .getfield 34, 3, 9, 11, 0), (116, .bipush 60, 2, 0, 0, 60)], (5, (118, .invokestatic 393, 3, 193, 10, 0), [(0, 3), (0, 4)]))
def qb195_10 : QB := (121, [(121, .iconst 1, 1, 0, 0, 1)], (8, (122, .ireturn, 1, 0, 0, 0), []))
def qm195 : QM := (yX11_undo, cX11_undo, 1, (some .boolean), 22, 1, [qb195_0, qb195_1, qb195_2, qb195_3, qb195_4, qb195_5, qb195_6, qb195_7, qb195_8, qb195_9, qb195_10])
def qb196_0 : QB := (0, [(0, .iconst 0, 1, 0, 0, 0), (1, .istore_n 2, 1, 2, 0, 0), (2, .iconst 4, 1, 0, 0, 4), (3, .iload_n 1, 1, 1, 0, 0), (4, .imul, 1, 0, 0, 0), (5, .istore_n 3, 1, 3, 0, 0)], (0, (6, .nop, 0, 1, 0, 0), []))
def qb196_1 : QB := (6, [(6, .iload_n 3, 1, 3, 0, 0), (7, .iconst 4, 1, 0, 0, 4), (8, .iload_n 1, 1, 1, 0, 0), (9, .imul, 1, 0, 0, 0), (10, .iconst 4, 1, 0, 0, 4), (11, .iadd, 1, 0, 0, 0)], (3, (12, .if_icmp .ge 25, 3, 3, 2, 0), []))
def qb196_2 : QB := (15, [(15, .iload_n 2, 1, 2, 0, 0), (16, .bipush 8, 2, 0, 0, 8), (18, .ishl, 1, 0, 0, 0), (19, .aload_n 0, 1, 0, 0, 0), (20, .getfield 40, 3, 11, 11, 0), (23, .iload_n 3, 1, 3, 0, 0), (24, .baload, 1, 0, 0, 0), (25, .sipush 255, 3, 0, 0, 255), (28, .iand, 1, 0, 0, 0), (29, .ior, 1, 0, 0, 0), (30, .istore_n 2, 1, 2, 0, 0), (31, .iinc 3 1, 3, 3, 0, 1)], (1, (34, .goto (-28), 3, 1, 0, 0), []))
def qb196_3 : QB := (37, [(37, .iload_n 2, 1, 2, 0, 0)], (6, (38, .ireturn, 1, 0, 0, 0), []))
def qm196 : QM := (yX11_tapeNumber, cX11_tapeNumber, 4, (some .int), 22, 2, [qb196_0, qb196_1, qb196_2, qb196_3])
def qb197_0 : QB := (0, [(0, .iload_n 1, 1, 1, 0, 0)], (5, (1, .invokestatic 159, 3, 113, 1, 0), [(0, 1), (0, 1)]))
def qb197_1 : QB := (4, [], (2, (4, .ifCond .eq 23, 3, 5, 2, 0), []))
def qb197_2 : QB := (7, [(7, .iload_n 2, 1, 2, 0, 0), (8, .iconst 0, 1, 0, 0, 0), (9, .bipush 8, 2, 0, 0, 8)], (5, (11, .invokestatic 169, 3, 112, 3, 0), [(0, 3), (0, 3)]))
def qb197_3 : QB := (14, [], (2, (14, .ifCond .eq 13, 3, 5, 4, 0), []))
def qb197_4 : QB := (17, [(17, .iload_n 2, 1, 2, 0, 0), (18, .aload_n 0, 1, 0, 0, 0), (19, .getfield 173, 3, 12, 11, 0), (22, .iconst 4, 1, 0, 0, 4), (23, .idiv, 1, 0, 0, 0)], (3, (24, .if_icmp .le 6, 3, 6, 5, 0), []))
def qb197_5 : QB := (27, [(27, .bipush (-2), 2, 0, 0, (-2))], (6, (29, .ireturn, 1, 0, 0, 0), []))
def qb197_6 : QB := (30, [(30, .aload_n 0, 1, 0, 0, 0), (31, .iconst 0, 1, 0, 0, 0), (32, .putfield 173, 3, 12, 11, 0), (35, .aload_n 0, 1, 0, 0, 0), (36, .iconst 0, 1, 0, 0, 0)], (5, (37, .invokevirtual 310, 3, 155, 7, 0), [(15, 2), (0, 4)]))
def qb197_7 : QB := (40, [(40, .iconst 0, 1, 0, 0, 0), (41, .istore_n 3, 1, 3, 0, 0)], (0, (42, .nop, 0, 8, 0, 0), []))
def qb197_8 : QB := (42, [(42, .iload_n 3, 1, 3, 0, 0), (43, .iload_n 2, 1, 2, 0, 0)], (3, (44, .if_icmp .ge 30, 3, 13, 9, 0), []))
def qb197_9 : QB := (47, [(47, .aload_n 0, 1, 0, 0, 0), (48, .iload_n 3, 1, 3, 0, 0)], (5, (49, .invokevirtual 397, 3, 196, 10, 0), [(15, 2), (0, 4)]))
def qb197_10 : QB := (52, [(52, .aload_n 0, 1, 0, 0, 0), (53, .getfield 95, 3, 38, 11, 0), (56, .bipush 8, 2, 0, 0, 8), (58, .iload_n 1, 1, 1, 0, 0), (59, .imul, 1, 0, 0, 0), (60, .iload_n 3, 1, 3, 0, 0), (61, .iadd, 1, 0, 0, 0), (62, .iaload, 1, 0, 0, 0)], (3, (63, .if_icmp .eq 5, 3, 12, 11, 0), []))
def qb197_11 : QB := (66, [(66, .iload_n 3, 1, 3, 0, 0)], (6, (67, .ireturn, 1, 0, 0, 0), []))
def qb197_12 : QB := (68, [(68, .iinc 3 1, 3, 3, 0, 1)], (1, (71, .goto (-29), 3, 8, 0, 0), []))
def qb197_13 : QB := (74, [(74, .iconst (-1), 1, 0, 0, (-1))], (6, (75, .ireturn, 1, 0, 0, 0), []))
def qm197 : QM := (yX11_check, cX11_check, 4, (some .int), 22, 3, [qb197_0, qb197_1, qb197_2, qb197_3, qb197_4, qb197_5, qb197_6, qb197_7, qb197_8, qb197_9, qb197_10, qb197_11, qb197_12, qb197_13])
def qb198_0 : QB := (0, [(0, .iload_n 1, 1, 1, 0, 0)], (4, (1, .tableswitch 64 0 4 #[35, 42, 49, 54, 59], 35, 7, 0, 0), [(0, 1), (1, 2), (2, 3), (3, 4), (4, 5)]))
def qb198_1 : QB := (36, [(36, .aload_n 0, 1, 0, 0, 0), (37, .getfield 65, 3, 28, 11, 0), (40, .iconst 0, 1, 0, 0, 0), (41, .iaload, 1, 0, 0, 0)], (6, (42, .ireturn, 1, 0, 0, 0), []))
def qb198_2 : QB := (43, [(43, .aload_n 0, 1, 0, 0, 0), (44, .getfield 65, 3, 28, 11, 0), (47, .iconst 1, 1, 0, 0, 1), (48, .iaload, 1, 0, 0, 0)], (6, (49, .ireturn, 1, 0, 0, 0), []))
def qb198_3 : QB := (50, [(50, .aload_n 0, 1, 0, 0, 0), (51, .getfield 173, 3, 12, 11, 0)], (6, (54, .ireturn, 1, 0, 0, 0), []))
def qb198_4 : QB := (55, [(55, .aload_n 0, 1, 0, 0, 0), (56, .getfield 155, 3, 0, 11, 0)], (6, (59, .ireturn, 1, 0, 0, 0), []))
def qb198_5 : QB := (60, [(60, .aload_n 0, 1, 0, 0, 0)], (5, (61, .invokevirtual 383, 3, 190, 6, 0), [(15, 1), (0, 3)]))
def qb198_6 : QB := (64, [], (6, (64, .ireturn, 1, 0, 0, 0), []))
def qb198_7 : QB := (65, [(65, .iload_n 1, 1, 1, 0, 0), (66, .bipush 10, 2, 0, 0, 10), (68, .bipush 21, 2, 0, 0, 21)], (5, (70, .invokestatic 169, 3, 112, 8, 0), [(0, 3), (0, 3)]))
def qb198_8 : QB := (73, [], (2, (73, .ifCond .eq 13, 3, 10, 9, 0), []))
def qb198_9 : QB := (76, [(76, .aload_n 0, 1, 0, 0, 0), (77, .getfield 25, 3, 6, 11, 0), (80, .iload_n 1, 1, 1, 0, 0), (81, .bipush 10, 2, 0, 0, 10), (83, .isub, 1, 0, 0, 0), (84, .iaload, 1, 0, 0, 0)], (6, (85, .ireturn, 1, 0, 0, 0), []))
def qb198_10 : QB := (86, [(86, .iload_n 1, 1, 1, 0, 0), (87, .bipush 30, 2, 0, 0, 30), (89, .bipush 53, 2, 0, 0, 53)], (5, (91, .invokestatic 169, 3, 112, 11, 0), [(0, 3), (0, 3)]))
def qb198_11 : QB := (94, [], (2, (94, .ifCond .eq 15, 3, 13, 12, 0), []))
def qb198_12 : QB := (97, [(97, .aload_n 0, 1, 0, 0, 0), (98, .getfield 13, 3, 2, 11, 0), (101, .iload_n 1, 1, 1, 0, 0), (102, .bipush 30, 2, 0, 0, 30), (104, .isub, 1, 0, 0, 0), (105, .iaload, 1, 0, 0, 0)], (1, (106, .goto 4, 3, 14, 0, 0), []))
def qb198_13 : QB := (109, [(109, .iconst (-1), 1, 0, 0, (-1))], (0, (110, .nop, 0, 14, 0, 0), []))
def qb198_14 : QB := (110, [], (6, (110, .ireturn, 1, 0, 0, 0), []))
def qm198 : QM := (yX11_count, cX11_count, 2, (some .int), 22, 2, [qb198_0, qb198_1, qb198_2, qb198_3, qb198_4, qb198_5, qb198_6, qb198_7, qb198_8, qb198_9, qb198_10, qb198_11, qb198_12, qb198_13, qb198_14])
def qb199_0 : QB := (0, [(0, .iload_n 0, 1, 0, 0, 0), (1, .iload_n 0, 1, 0, 0, 0), (2, .iconst 1, 1, 0, 0, 1), (3, .iushr, 1, 0, 0, 0), (4, .ldc_w 265, 3, 0, 0, 1431655765), (7, .iand, 1, 0, 0, 0), (8, .isub, 1, 0, 0, 0), (9, .istore_n 0, 1, 0, 0, 0), (10, .iload_n 0, 1, 0, 0, 0), (11, .ldc_w 266, 3, 0, 0, 858993459), (14, .iand, 1, 0, 0, 0), (15, .iload_n 0, 1, 0, 0, 0), (16, .iconst 2, 1, 0, 0, 2), (17, .iushr, 1, 0, 0, 0), (18, .ldc_w 266, 3, 0, 0, 858993459), (21, .iand, 1, 0, 0, 0), (22, .iadd, 1, 0, 0, 0), (23, .istore_n 0, 1, 0, 0, 0), (24, .iload_n 0, 1, 0, 0, 0), (25, .iload_n 0, 1, 0, 0, 0), (26, .iconst 4, 1, 0, 0, 4), (27, .iushr, 1, 0, 0, 0), (28, .iadd, 1, 0, 0, 0), (29, .ldc_w 267, 3, 0, 0, 252645135), (32, .iand, 1, 0, 0, 0), (33, .istore_n 0, 1, 0, 0, 0), (34, .iload_n 0, 1, 0, 0, 0), (35, .iload_n 0, 1, 0, 0, 0), (36, .bipush 8, 2, 0, 0, 8), (38, .iushr, 1, 0, 0, 0), (39, .iadd, 1, 0, 0, 0), (40, .istore_n 0, 1, 0, 0, 0), (41, .iload_n 0, 1, 0, 0, 0), (42, .iload_n 0, 1, 0, 0, 0), (43, .bipush 16, 2, 0, 0, 16), (45, .iushr, 1, 0, 0, 0), (46, .iadd, 1, 0, 0, 0), (47, .istore_n 0, 1, 0, 0, 0), (48, .iload_n 0, 1, 0, 0, 0), (49, .bipush 63, 2, 0, 0, 63), (51, .iand, 1, 0, 0, 0)], (6, (52, .ireturn, 1, 0, 0, 0), []))
def qm199 : QM := (yJ6_bitCount_0f7a4, cJ6_bitCount_0f7a4, 1, (some .int), 25, 1, [qb199_0])
def qb200_0 : QB := (0, [(0, .iconst 0, 1, 0, 0, 0), (1, .istore_n 2, 1, 2, 0, 0), (2, .aload_n 0, 1, 0, 0, 0), (3, .arraylength, 1, 0, 0, 0), (4, .istore_n 3, 1, 3, 0, 0)], (0, (5, .nop, 0, 1, 0, 0), []))
def qb200_1 : QB := (5, [(5, .iload_n 2, 1, 2, 0, 0), (6, .iload_n 3, 1, 3, 0, 0)], (3, (7, .if_icmp .ge 13, 3, 3, 2, 0), []))
def qb200_2 : QB := (10, [(10, .aload_n 0, 1, 0, 0, 0), (11, .iload_n 2, 1, 2, 0, 0), (12, .iload_n 1, 1, 1, 0, 0), (13, .iastore, 1, 0, 0, 0), (14, .iinc 2 1, 3, 2, 0, 1)], (1, (17, .goto (-12), 3, 1, 0, 0), []))
def qb200_3 : QB := (20, [], (7, (20, .return_, 1, 0, 0, 0), []))
def qm200 : QM := (yJ7_fill_53178, cJ7_fill_53178, 4, none, 27, 2, [qb200_0, qb200_1, qb200_2, qb200_3])
def q_ms : List (List QM) := [
  [qm0, qm1, qm2, qm3, qm4, qm5, qm6, qm7, qm8, qm9, qm10, qm11, qm12, qm13, qm14, qm15],
  [qm16, qm17, qm18, qm19, qm20, qm21, qm22, qm23, qm24, qm25, qm26, qm27, qm28, qm29, qm30, qm31],
  [qm32, qm33, qm34, qm35, qm36, qm37, qm38, qm39, qm40, qm41, qm42, qm43, qm44, qm45, qm46, qm47],
  [qm48, qm49, qm50, qm51, qm52, qm53, qm54, qm55, qm56, qm57, qm58, qm59, qm60, qm61, qm62, qm63],
  [qm64, qm65, qm66, qm67, qm68, qm69, qm70, qm71, qm72, qm73, qm74, qm75, qm76, qm77, qm78, qm79],
  [qm80, qm81, qm82, qm83, qm84, qm85, qm86, qm87, qm88, qm89, qm90, qm91, qm92, qm93, qm94, qm95],
  [qm96, qm97, qm98, qm99, qm100, qm101, qm102, qm103, qm104, qm105, qm106, qm107, qm108, qm109, qm110, qm111],
  [qm112, qm113, qm114, qm115, qm116, qm117, qm118, qm119, qm120, qm121, qm122, qm123, qm124, qm125, qm126, qm127],
  [qm128, qm129, qm130, qm131, qm132, qm133, qm134, qm135, qm136, qm137, qm138, qm139, qm140, qm141, qm142, qm143],
  [qm144, qm145, qm146, qm147, qm148, qm149, qm150, qm151, qm152, qm153, qm154, qm155, qm156, qm157, qm158, qm159],
  [qm160, qm161, qm162, qm163, qm164, qm165, qm166, qm167, qm168, qm169, qm170, qm171, qm172, qm173, qm174, qm175],
  [qm176, qm177, qm178, qm179, qm180, qm181, qm182, qm183, qm184, qm185, qm186, qm187, qm188, qm189, qm190, qm191],
  [qm192, qm193, qm194, qm195, qm196, qm197, qm198, qm199, qm200]]
end
section
def q_blk (mi k : Nat) : Option QB := match q_g16 q_ms mi with
  | some M => M.2.2.2.2.2.2[k]?
  | none => none
abbrev QQ : Type := Option Int32 → QS → Prop
abbrev QP : Type := Nat → Nat → Nat → QL → List QV → QS → QQ → Prop
def q_cal (P : QP) (d mi : Nat) (Q : QQ) (m2 nx : Nat) (tg : Int) (na ml : Nat) (L : QL) (st : List QV) (σ : QS) : Prop :=
  ∃ (d' : Nat) (R : QQ), d = d' + 1 ∧ (Nat.ble (st.drop na).length 8 && q_rc tg na st) = true ∧ P d' m2 0 (q_ent na ml st) [] σ R ∧ ∀ r σ', R r σ' → P d mi nx L (q_psh r (st.drop na)) σ' Q
def q_step (P : QP) (d mi k : Nat) (L : QL) (st : List QV) (σ : QS) (Q : QQ) : Prop :=
  ∃ b, q_blk mi k = some b ∧ q_wp (fun k' L st σ => P d mi k' L st σ Q) (q_cal P d mi Q) Q b.2.2 b.2.1 L st σ
/-- the least predicate that q_step leads to: the run from block k of method mi comes to its end with Q -/
def EV : QP := fun d mi k L st σ Q => ∀ P : QP, (∀ d mi k L st σ Q, q_step P d mi k L st σ Q → P d mi k L st σ Q) → P d mi k L st σ Q
theorem q_ob_mono {o : Option Prop} {P P' : Prop} (h : P → P') (x : q_ob o P) : q_ob o P' := by
  cases o with
  | none => exact h x
  | some O => exact ⟨x.1, h x.2⟩
theorem q_br_mono {c : Jvm.ClassFile.Cond} {x y : Int32} {T F T' F' : Prop} (h : T → T') (h2 : F → F') (z : q_br c x y T F) : q_br c x y T' F' := by
  cases c <;> exact ⟨fun q => h (z.1 q), fun q => h2 (z.2 q)⟩
theorem q_sw_mono {k k' : Nat → Prop} {x : Int32} {d : Nat} (h : ∀ b, k b → k' b) : ∀ (l : List (Int × Nat)), q_sw k x d l → q_sw k' x d l
  | [], z => h d z
  | (i, b) :: r, z => ⟨fun q => h b (z.1 q), fun q => q_sw_mono h r (z.2 q)⟩
theorem q_tm_mono {kj kj' : Nat → QL → List QV → QS → Prop} {kc kc' : Nat → Nat → Int → Nat → Nat → QL → List QV → QS → Prop} {kr kr' : QQ} (h1 : ∀ a L st σ, kj a L st σ → kj' a L st σ) (h2 : ∀ a b tg na ml L st σ, kc a b tg na ml L st σ → kc' a b tg na ml L st σ) (h3 : ∀ r σ, kr r σ → kr' r σ) (t : QT) (L : QL) (st : List QV) (σ : QS) (z : q_tm kj kc kr t L st σ) : q_tm kj' kc' kr' t L st σ := by
  unfold q_tm at z ⊢
  split at z
  · exact h1 _ _ _ _ z
  · exact h1 _ _ _ _ z
  · split at z
    · exact q_br_mono (h1 _ _ _ _) (h1 _ _ _ _) z
    · exact z.elim
  · split at z
    · exact q_br_mono (h1 _ _ _ _) (h1 _ _ _ _) z
    · exact z.elim
  · split at z
    · exact q_sw_mono (fun b => h1 _ _ _ _) _ z
    · exact z.elim
  · exact h2 _ _ _ _ _ _ _ _ z
  · split at z
    · exact h3 _ _ z
    · exact z.elim
  · split at z
    · exact h3 _ _ z
    · exact z.elim
  · split at z
    · exact ⟨z.1, h3 _ _ z.2⟩
    · exact z.elim
  · exact z.elim
theorem q_wp_mono {kj kj' : Nat → QL → List QV → QS → Prop} {kc kc' : Nat → Nat → Int → Nat → Nat → QL → List QV → QS → Prop} {kr kr' : QQ} (h1 : ∀ a L st σ, kj a L st σ → kj' a L st σ) (h2 : ∀ a b tg na ml L st σ, kc a b tg na ml L st σ → kc' a b tg na ml L st σ) (h3 : ∀ r σ, kr r σ → kr' r σ) (t : QT) : ∀ (rs : List QI) (L : QL) (st : List QV) (σ : QS), q_wp kj kc kr t rs L st σ → q_wp kj' kc' kr' t rs L st σ
  | [], L, st, σ, z => q_tm_mono h1 h2 h3 t L st σ z
  | r :: rs, L, st, σ, z => by
    unfold q_wp at z ⊢
    split at z
    · rename_i o L' st' σ' e
      exact q_ob_mono (q_wp_mono h1 h2 h3 t rs L' st' σ') z
    · exact z.elim
theorem q_step_mono {P P' : QP} (h : ∀ d mi k L st σ Q, P d mi k L st σ Q → P' d mi k L st σ Q) {d mi k : Nat} {L : QL} {st : List QV} {σ : QS} {Q : QQ} (z : q_step P d mi k L st σ Q) : q_step P' d mi k L st σ Q := by
  obtain ⟨b, hb, z⟩ := z
  refine ⟨b, hb, q_wp_mono (fun a L st σ => h _ _ _ _ _ _ _) ?_ (fun _ _ x => x) _ _ _ _ _ z⟩
  intro a b tg na ml L st σ ⟨d', R, e, hl, h1, h2⟩
  exact ⟨d', R, e, hl, h _ _ _ _ _ _ _ h1, fun r σ' q => h _ _ _ _ _ _ _ (h2 r σ' q)⟩
theorem EV.intro {d mi k : Nat} {L : QL} {st : List QV} {σ : QS} {Q : QQ} (z : q_step EV d mi k L st σ Q) : EV d mi k L st σ Q := by
  intro P hP
  exact hP _ _ _ _ _ _ _ (q_step_mono (fun d mi k L st σ Q q => q P hP) z)
theorem EV.out {d mi k : Nat} {L : QL} {st : List QV} {σ : QS} {Q : QQ} (z : EV d mi k L st σ Q) : q_step EV d mi k L st σ Q :=
  z (q_step EV) (fun _ _ _ _ _ _ _ q => q_step_mono (fun _ _ _ _ _ _ _ => EV.intro) q)
theorem q_mono_aux {d mi k : Nat} {L : QL} {st : List QV} {σ : QS} {Q : QQ} (z : EV d mi k L st σ Q) : ∀ (d2 : Nat) (Q2 : QQ), d ≤ d2 → (∀ r σ', Q r σ' → Q2 r σ') → EV d2 mi k L st σ Q2 := by
  refine z (fun d mi k L st σ Q => ∀ (d2 : Nat) (Q2 : QQ), d ≤ d2 → (∀ r σ', Q r σ' → Q2 r σ') → EV d2 mi k L st σ Q2) ?_
  intro d mi k L st σ Q ⟨b, hb, z⟩ d2 Q2 hd hQ
  refine EV.intro ⟨b, hb, q_wp_mono (fun a L st σ q => q d2 Q2 hd hQ) ?_ hQ _ _ _ _ _ z⟩
  intro a b tg na ml L st σ ⟨d', R, e, hl, h1, h2⟩
  subst e
  exact ⟨d2 - 1, R, by omega, hl, h1 (d2 - 1) R (by omega) (fun _ _ q => q), fun r σ' q => h2 r σ' q d2 Q2 hd hQ⟩
theorem EV.mono {d mi k : Nat} {L : QL} {st : List QV} {σ : QS} {Q Q2 : QQ} (z : EV d mi k L st σ Q) (h : ∀ r σ', Q r σ' → Q2 r σ') : EV d mi k L st σ Q2 := q_mono_aux z d Q2 (Nat.le_refl _) h
theorem EV.deep {d d2 mi k : Nat} {L : QL} {st : List QV} {σ : QS} {Q : QQ} (z : EV d mi k L st σ Q) (h : d ≤ d2) : EV d2 mi k L st σ Q := q_mono_aux z d2 Q h (fun _ _ q => q)
theorem EV.blk (b : QB) {d mi k : Nat} {L : QL} {st : List QV} {σ : QS} {Q : QQ} (hb : q_blk mi k = some b) (z : q_wp (fun k' L st σ => EV d mi k' L st σ Q) (q_cal EV d mi Q) Q b.2.2 b.2.1 L st σ) : EV d mi k L st σ Q := EV.intro ⟨b, hb, z⟩
/-- a call, by what is known of the method called -/
theorem EV.call {d mi : Nat} {Q R : QQ} {m2 nx na ml : Nat} {tg : Int} {L : QL} {st : List QV} {σ : QS} (hl : (Nat.ble (st.drop na).length 8 && q_rc tg na st) = true) (h1 : EV d m2 0 (q_ent na ml st) [] σ R) (h2 : ∀ r σ', R r σ' → EV (d + 1) mi nx L (q_psh r (st.drop na)) σ' Q) : q_cal EV (d + 1) mi Q m2 nx tg na ml L st σ := ⟨d, R, rfl, hl, h1, h2⟩
end
section
abbrev q_cl : List vw_C := [(RX0, TX0, 9), (RX1, TX1, 5), (RX2, TX2, 5), (RX3, TX3, 10), (RX4, TX4, 6), (RX5, TX5, 6), (RX6, TX6, 2), (RX7, TX7, 2), (RX8, TX8, 7), (RX9, TX9, 2), (RX10, TX10, 17), (RX11, TX11, 65)]
def q_own (n : Nat) : String := [RX0, RX1, RX2, RX3, RX4, RX5, RX6, RX7, RX8, RX9, RX10, RX11, RJ6, RJ7].getD n ""
def gw : List Cond := lw_tbl.filter goodWord
theorem gw_of {w : Cond} (h : w ∈ lw_tbl) (h2 : goodWord w = true) : w ∈ gw := List.mem_filter.mpr ⟨h, h2⟩
def q_ys : List (List (MethodName × ByteArray × Nat × Option FieldType × Nat × Nat)) := [
  [(yX0_begin, cX0_begin, 1, none, 0, 1), (yX0_beginLike, cX0_beginLike, 2, none, 0, 2), (yX0_run, cX0_run, 4, none, 0, 3), (yX0_runHour, cX0_runHour, 5, none, 0, 3), (yX0_note, cX0_note, 4, none, 0, 4), (yX0_comesTo, cX0_comesTo, 2, (some .int), 0, 2), (yX0_valueOf, cX0_valueOf, 2, (some .int), 0, 2), (yX0_sumFor, cX0_sumFor, 5, (some .int), 0, 3), (yX1_seek, cX1_seek, 6, (some .boolean), 2, 4), (yX1_costOf, cX1_costOf, 6, (some .int), 2, 5), (yX1_bestRoom, cX1_bestRoom, 6, (some .int), 2, 4), (yX1_costWith, cX1_costWith, 7, (some .int), 2, 5), (yX2_takeOver, cX2_takeOver, 2, none, 4, 2), (yX2_addAct, cX2_addAct, 6, none, 4, 5), (yX2_actAt, cX2_actAt, 3, (some .int), 4, 3), (yX2_ownedHours, cX2_ownedHours, 1, (some .int), 4, 1)],
  [(yX2_hoursIn, cX2_hoursIn, 6, (some .int), 4, 4), (yX2_exchange, cX2_exchange, 4, none, 4, 3), (yX2_drawHour, cX2_drawHour, 1, none, 4, 1), (yX2_bequeath, cX2_bequeath, 4, (some .int), 4, 2), (yX2_heirOf, cX2_heirOf, 5, (some .int), 4, 3), (yX2_shareOf, cX2_shareOf, 11, (some .int), 4, 5), (yX3_clear, cX3_clear, 1, none, 6, 1), (yX3_takeOver, cX3_takeOver, 2, none, 6, 2), (yX3_put, cX3_put, 3, none, 6, 3), (yX3_passFrom, cX3_passFrom, 2, none, 6, 2), (yX3_addClause, cX3_addClause, 4, none, 6, 4), (yX3_asks, cX3_asks, 6, (some .int), 6, 3), (yX3_reckon, cX3_reckon, 8, (some .int), 6, 4), (yX3_isDivision, cX3_isDivision, 1, (some .boolean), 7, 1), (yX3_joined, cX3_joined, 3, (some .int), 7, 3), (yX4_seek, cX4_seek, 7, none, 8, 3)],
  [(yX4_tryRow, cX4_tryRow, 7, (some .int), 8, 4), (yX4_nextRow, cX4_nextRow, 6, (some .boolean), 8, 2), (yX4_exchangeAt, cX4_exchangeAt, 4, none, 8, 3), (yX5_read, cX5_read, 5, (some .int), 10, 2), (yX5_next, cX5_next, 1, none, 10, 1), (yX5_fails, cX5_fails, 2, (some .boolean), 10, 2), (yX5_passes, cX5_passes, 2, (some .boolean), 10, 2), (yX5_opens, cX5_opens, 3, (some .boolean), 10, 3), (yX5_readClause, cX5_readClause, 4, (some .boolean), 10, 2), (yX5_readBracket, cX5_readBracket, 2, (some .boolean), 10, 2), (yX5_readCondition, cX5_readCondition, 5, (some .boolean), 10, 2), (yX5_readPart, cX5_readPart, 5, (some .boolean), 10, 2), (yX5_readPiece, cX5_readPiece, 4, (some .boolean), 10, 2), (yX5_comparison, cX5_comparison, 1, (some .boolean), 10, 1), (yX5_readSum, cX5_readSum, 5, (some .boolean), 10, 2), (yX5_readProduct, cX5_readProduct, 5, (some .boolean), 10, 2)],
  [(yX5_readFactor, cX5_readFactor, 3, (some .boolean), 10, 2), (yX5_readNumber, cX5_readNumber, 3, (some .boolean), 10, 1), (yX6_enter, cX6_enter, 3, none, 12, 3), (yX6_look, cX6_look, 4, none, 12, 4), (yX6_perform, cX6_perform, 5, (some .int), 12, 4), (yX6_change, cX6_change, 5, none, 12, 4), (yX6_finesOfAll, cX6_finesOfAll, 4, (some .int), 12, 2), (yX6_cool, cX6_cool, 3, none, 12, 2), (yX7_add, cX7_add, 3, none, 14, 2), (yX7_numberAt, cX7_numberAt, 4, (some .int), 14, 2), (yX8_priceOf, cX8_priceOf, 3, (some .int), 16, 2), (yX8_worthOfAhead, cX8_worthOfAhead, 2, (some .int), 16, 2), (yX8_gainBySwap, cX8_gainBySwap, 4, (some .int), 16, 4), (yX8_gainOf, cX8_gainOf, 2, (some .int), 16, 2), (yX8_beginSwapped, cX8_beginSwapped, 3, (some .int), 16, 3), (yX8_firstTouched, cX8_firstTouched, 1, (some .int), 17, 1)],
  [(yX8_seek, cX8_seek, 3, (some .boolean), 16, 1), (yX8_areOfTwo, cX8_areOfTwo, 2, (some .boolean), 17, 2), (yX8_weigh, cX8_weigh, 5, none, 16, 3), (yX9_hoursThatHold, cX9_hoursThatHold, 5, (some .int), 18, 2), (yX9_liarsIf, cX9_liarsIf, 6, (some .int), 18, 2), (yX9_isUntrue, cX9_isUntrue, 4, (some .boolean), 18, 3), (yX9_onlyOwnerOf, cX9_onlyOwnerOf, 5, (some .int), 18, 2), (yX10_own, cX10_own, 3, (some .boolean), 20, 3), (yX10_room, cX10_room, 5, (some .boolean), 20, 5), (yX10_feed, cX10_feed, 6, (some .int), 20, 6), (yX10_law, cX10_law, 4, (some .int), 20, 3), (yX10_act, cX10_act, 6, (some .int), 20, 5), (yX10_noActs, cX10_noActs, 3, (some .int), 20, 2), (yX10_found, cX10_found, 4, (some .int), 20, 4), (yX10_hourIs, cX10_hourIs, 3, (some .int), 20, 3), (yX10_value, cX10_value, 3, (some .int), 20, 3)],
  [(yX10_bestOrder, cX10_bestOrder, 3, (some .int), 20, 3), (yX10_price, cX10_price, 2, (some .int), 20, 2), (yX10_neighbour, cX10_neighbour, 2, (some .int), 20, 2), (yX10_gain, cX10_gain, 4, (some .int), 20, 4), (yX10_swap, cX10_swap, 3, (some .boolean), 20, 3), (yX10_bestSwap, cX10_bestSwap, 2, (some .int), 20, 2), (yX10_tillNone, cX10_tillNone, 2, (some .int), 20, 1), (yX10_finesBy, cX10_finesBy, 4, (some .int), 20, 2), (yX10_touching, cX10_touching, 7, (some .int), 20, 3), (yX10_searches, cX10_searches, 3, (some .boolean), 20, 3), (yX10_hidden, cX10_hidden, 5, (some .int), 20, 5), (yX10_says, cX10_says, 3, (some .boolean), 20, 3), (yX10_holds, cX10_holds, 2, (some .int), 20, 2), (yX10_guilty, cX10_guilty, 2, (some .int), 20, 2), (yX10_guest, cX10_guest, 5, (some .int), 20, 5), (yX10_dies, cX10_dies, 3, (some .int), 20, 2)],
  [(yX10_seed, cX10_seed, 2, (some .boolean), 20, 2), (yX10_draw, cX10_draw, 3, (some .int), 20, 2), (yX10_keep, cX10_keep, 1, (some .int), 20, 1), (yX10_undo, cX10_undo, 1, (some .boolean), 20, 1), (yX10_check, cX10_check, 4, (some .int), 20, 3), (yX10_count, cX10_count, 2, (some .int), 20, 2), (yX10_firstWrongStore, cX10_firstWrongStore, 4, (some .int), 20, 3), (yX10_forgetDay, cX10_forgetDay, 1, none, 20, 1), (yX10_runDay, cX10_runDay, 1, none, 20, 1), (yX10_isOwned, cX10_isOwned, 2, (some .boolean), 20, 2), (yX10_isHour, cX10_isHour, 1, (some .boolean), 21, 1), (yX10_isOwner, cX10_isOwner, 1, (some .boolean), 21, 1), (yX10_isRoom, cX10_isRoom, 1, (some .boolean), 21, 1), (yX10_isLaw, cX10_isLaw, 1, (some .boolean), 21, 1), (yX10_fitsRoom, cX10_fitsRoom, 1, (some .boolean), 21, 1), (yX10_isStay, cX10_isStay, 2, (some .boolean), 21, 2)],
  [(yX11_in, cX11_in, 3, (some .boolean), 23, 3), (yX11_isHour, cX11_isHour, 1, (some .boolean), 23, 1), (yX11_isOwner, cX11_isOwner, 1, (some .boolean), 23, 1), (yX11_isRoom, cX11_isRoom, 1, (some .boolean), 23, 1), (yX11_own, cX11_own, 3, (some .boolean), 22, 3), (yX11_room, cX11_room, 5, (some .boolean), 22, 5), (yX11_act, cX11_act, 6, (some .int), 22, 5), (yX11_noActs, cX11_noActs, 3, (some .int), 22, 2), (yX11_types, cX11_types, 3, none, 22, 2), (yX11_feed, cX11_feed, 6, (some .int), 22, 6), (yX11_here, cX11_here, 1, (some .int), 22, 1), (yX11_isDigit, cX11_isDigit, 1, (some .boolean), 22, 1), (yX11_wrongAt, cX11_wrongAt, 3, (some .boolean), 22, 3), (yX11_takes, cX11_takes, 2, (some .boolean), 22, 2), (yX11_readsNumber, cX11_readsNumber, 2, (some .boolean), 22, 1), (yX11_notes, cX11_notes, 3, none, 22, 3)],
  [(yX11_opens, cX11_opens, 2, (some .boolean), 22, 2), (yX11_top, cX11_top, 1, (some .int), 22, 1), (yX11_factOf, cX11_factOf, 1, (some .int), 23, 1), (yX11_sumSign, cX11_sumSign, 1, (some .int), 23, 1), (yX11_closesSums, cX11_closesSums, 2, none, 22, 2), (yX11_readsFactor, cX11_readsFactor, 2, (some .boolean), 22, 1), (yX11_hasOpenSum, cX11_hasOpenSum, 3, (some .boolean), 22, 2), (yX11_readsSum, cX11_readsSum, 3, (some .boolean), 22, 1), (yX11_endsPiece, cX11_endsPiece, 1, none, 22, 1), (yX11_lands, cX11_lands, 3, none, 22, 2), (yX11_jumps, cX11_jumps, 2, none, 22, 2), (yX11_readsCompared, cX11_readsCompared, 2, (some .boolean), 22, 1), (yX11_readsCondition, cX11_readsCondition, 1, (some .boolean), 22, 1), (yX11_isClause, cX11_isClause, 1, (some .boolean), 23, 1), (yX11_readsClause, cX11_readsClause, 2, (some .boolean), 22, 1), (yX11_law, cX11_law, 5, (some .int), 22, 3)],
  [(yX11_reckon, cX11_reckon, 3, (some .int), 23, 3), (yX11_comesTo, cX11_comesTo, 8, (some .int), 22, 3), (yX11_byLaw, cX11_byLaw, 7, (some .int), 22, 5), (yX11_isBarred, cX11_isBarred, 2, (some .boolean), 22, 1), (yX11_feels, cX11_feels, 3, none, 22, 3), (yX11_held, cX11_held, 1, (some .int), 23, 1), (yX11_acts, cX11_acts, 8, (some .int), 22, 3), (yX11_actsAll, cX11_actsAll, 6, (some .int), 22, 2), (yX11_finesOf, cX11_finesOf, 5, (some .int), 22, 3), (yX11_findsAt, cX11_findsAt, 3, none, 22, 2), (yX11_cools, cX11_cools, 3, none, 22, 2), (yX11_runs, cX11_runs, 4, none, 22, 2), (yX11_found, cX11_found, 5, (some .int), 22, 4), (yX11_hourIs, cX11_hourIs, 3, (some .int), 22, 3), (yX11_sumOf, cX11_sumOf, 5, (some .int), 22, 3), (yX11_valueOf, cX11_valueOf, 2, (some .int), 22, 2)],
  [(yX11_value, cX11_value, 4, (some .int), 22, 3), (yX11_ordersBy, cX11_ordersBy, 10, none, 22, 4), (yX11_orderGives, cX11_orderGives, 3, (some .int), 22, 2), (yX11_bestOrder, cX11_bestOrder, 9, (some .int), 22, 3), (yX11_price, cX11_price, 5, (some .int), 22, 2), (yX11_neighbour, cX11_neighbour, 4, (some .int), 22, 2), (yX11_changes, cX11_changes, 4, none, 22, 3), (yX11_laysValues, cX11_laysValues, 2, none, 22, 1), (yX11_laysGain, cX11_laysGain, 5, none, 22, 3), (yX11_canGain, cX11_canGain, 3, (some .boolean), 22, 3), (yX11_gain, cX11_gain, 4, (some .int), 22, 4), (yX11_swap, cX11_swap, 3, (some .boolean), 22, 3), (yX11_laysBestSwap, cX11_laysBestSwap, 3, none, 22, 1), (yX11_bestSwap, cX11_bestSwap, 2, (some .int), 22, 2), (yX11_tillNone, cX11_tillNone, 2, (some .int), 22, 1), (yX11_finesBy, cX11_finesBy, 4, (some .int), 22, 2)],
  [(yX11_touching, cX11_touching, 6, (some .int), 22, 3), (yX11_searches, cX11_searches, 3, (some .boolean), 22, 3), (yX11_canLie, cX11_canLie, 3, (some .boolean), 22, 3), (yX11_isHelped, cX11_isHelped, 3, (some .boolean), 22, 3), (yX11_movesBy, cX11_movesBy, 6, (some .int), 22, 5), (yX11_laysMoves, cX11_laysMoves, 9, none, 22, 4), (yX11_hidden, cX11_hidden, 9, (some .int), 22, 5), (yX11_says, cX11_says, 3, (some .boolean), 22, 3), (yX11_liarsOf, cX11_liarsOf, 5, (some .int), 22, 2), (yX11_holds, cX11_holds, 4, (some .int), 22, 2), (yX11_guilty, cX11_guilty, 5, (some .int), 22, 2), (yX11_hoursIn, cX11_hoursIn, 6, (some .int), 22, 4), (yX11_guest, cX11_guest, 10, (some .int), 22, 5), (yX11_dies, cX11_dies, 6, (some .int), 22, 2), (yX11_ownedMany, cX11_ownedMany, 3, (some .int), 22, 1), (yX11_seed, cX11_seed, 2, (some .boolean), 22, 2)],
  [(yX11_draw, cX11_draw, 3, (some .int), 22, 2), (yX11_copies, cX11_copies, 4, none, 23, 3), (yX11_keep, cX11_keep, 1, (some .int), 22, 1), (yX11_undo, cX11_undo, 1, (some .boolean), 22, 1), (yX11_tapeNumber, cX11_tapeNumber, 4, (some .int), 22, 2), (yX11_check, cX11_check, 4, (some .int), 22, 3), (yX11_count, cX11_count, 2, (some .int), 22, 2), (yJ6_bitCount_0f7a4, cJ6_bitCount_0f7a4, 1, (some .int), 25, 1), (yJ7_fill_53178, cJ7_fill_53178, 4, none, 27, 2)]]
def q_y (mi : Nat) : MethodName × ByteArray × Nat × Option FieldType × Nat × Nat := (q_g16 q_ys mi).getD (yX0_run, cX0_run, 0, none, 0, 0)
def q_T (ci : Nat) : vw_C := q_cl.getD ci ("", TX0, 0)
def q_fw (e : Nat × Nat × Nat × Nat) : Cond := .fieldLink (q_own e.1) e.2.1 ((q_T e.2.2.1).2.1 e.2.2.2).1 ((q_T e.2.2.1).2.1 e.2.2.2).2.1 ((q_T e.2.2.1).2.1 e.2.2.2).2.2.1
def q_nw (e : Nat × Nat × Nat × Nat) : Cond := .fieldLinkNest (q_own e.1) e.2.1 ((q_T e.2.2.1).2.1 e.2.2.2).1 ((q_T e.2.2.1).2.1 e.2.2.2).2.1 ((q_T e.2.2.1).2.1 e.2.2.2).2.2.1 "BellHours"
def q_mw (e : Nat × Nat × Nat) : Cond := .methodLink (q_own e.1) e.2.1 (q_y e.2.2).1
def q_iy (a : Nat) : MethodName := if a = 1001 then Lib.Math.max.name else if a = 1002 then Lib.Math.min.name else if a = 1003 then arraycopyName else yJ0_indexOf_0f7a4
def q_iw (e : Nat × Nat × Nat) : Cond := .methodLink (q_own e.1) e.2.1 (q_iy e.2.2)
def q_cw (e : Nat × Nat × Int32) : Cond := .constant (q_own e.1) e.2.1 e.2.2
def q_wc (mi : Nat) : Cond := .code (q_y mi).1 (q_y mi).2.1 (q_y mi).2.2.1 (q_y mi).2.2.2.1
def q_wi (mi : Nat) : Cond := .instanceMethod (q_y mi).1
def q_ws0 (mi : Nat) : Cond := .static (q_y mi).1
def q_wl (mi : Nat) : Cond := .selects (q_y mi).1.cls (q_y mi).1 (q_y mi).1
def q_tb (j : Nat) : List Cond := [k2_sels lw_privs, tables_1_1, tables_1_2, tables_1_3, tables_1_4, tables_1_5, tables_1_6, tables_1_7].getD j []
theorem q_tb_in {j : Nat} {w : Cond} (h : w ∈ q_tb j) : w ∈ lw_tbl := by
  have e : lw_tbl = q_tb 0 ++ (q_tb 1 ++ (q_tb 2 ++ (q_tb 3 ++ (q_tb 4 ++ (q_tb 5 ++ (q_tb 6 ++ q_tb 7)))))) := rfl
  rw [e]
  simp only [List.mem_append]
  match j, h with
  | 0, h => exact Or.inl h
  | 1, h => exact Or.inr (Or.inl h)
  | 2, h => exact Or.inr (Or.inr (Or.inl h))
  | 3, h => exact Or.inr (Or.inr (Or.inr (Or.inl h)))
  | 4, h => exact Or.inr (Or.inr (Or.inr (Or.inr (Or.inl h))))
  | 5, h => exact Or.inr (Or.inr (Or.inr (Or.inr (Or.inr (Or.inl h)))))
  | 6, h => exact Or.inr (Or.inr (Or.inr (Or.inr (Or.inr (Or.inr (Or.inl h))))))
  | 7, h => exact Or.inr (Or.inr (Or.inr (Or.inr (Or.inr (Or.inr (Or.inr h))))))
  | j + 8, h => exact absurd h (by simp [q_tb])
theorem q_by {α : Type} {l : List α} {f : α → Cond} {j : Nat} (ps : List Nat) (h : l.map f = ps.filterMap (fun i => (q_tb j)[i]?)) : ∀ e ∈ l, f e ∈ lw_tbl := by
  intro e he
  have h1 : f e ∈ l.map f := List.mem_map_of_mem he
  rw [h] at h1
  obtain ⟨i, -, hi⟩ := List.mem_filterMap.mp h1
  exact q_tb_in (List.mem_of_getElem? hi)
def q_flk_1 : List (Nat × Nat × Nat × Nat) := [(2, 9, 2, 0), (2, 15, 2, 1), (2, 18, 2, 2), (2, 21, 2, 3), (2, 24, 2, 4), (7, 9, 7, 0), (7, 15, 7, 1), (3, 9, 3, 0), (3, 15, 3, 1), (3, 18, 3, 2), (3, 22, 3, 3), (3, 26, 3, 4), (3, 29, 3, 5), (3, 32, 3, 6), (3, 35, 3, 7), (3, 38, 3, 8), (3, 41, 3, 9), (5, 25, 5, 0), (5, 29, 5, 1), (5, 9, 5, 2), (5, 15, 5, 3), (5, 18, 5, 4), (5, 22, 5, 5), (6, 9, 6, 0), (6, 15, 6, 1), (0, 30, 0, 0), (0, 34, 0, 1), (0, 38, 0, 2), (0, 9, 0, 3), (0, 15, 0, 4), (0, 18, 0, 5), (0, 21, 0, 6), (0, 24, 0, 7), (0, 27, 0, 8), (8, 25, 8, 0), (8, 29, 8, 1), (8, 32, 8, 2), (8, 9, 8, 3), (8, 15, 8, 4), (8, 19, 8, 5), (8, 22, 8, 6)]
set_option maxRecDepth 100000 in
theorem q_flk_ok1 : ∀ e ∈ q_flk_1, q_fw e ∈ lw_tbl := q_by (j := 1) [39, 42, 45, 48, 52, 72, 74, 88, 90, 92, 93, 94, 95, 96, 97, 98, 99, 128, 129, 130, 131, 132, 133, 153, 155, 167, 168, 169, 170, 175, 178, 180, 182, 184, 211, 212, 213, 214, 216, 218, 220] (by decide +kernel)
def q_flk_2 : List (Nat × Nat × Nat × Nat) := [(4, 22, 4, 0), (4, 26, 4, 1), (4, 30, 4, 2), (4, 9, 4, 3), (4, 15, 4, 4), (4, 18, 4, 5), (1, 22, 1, 0), (1, 25, 1, 1), (1, 9, 1, 2), (1, 15, 1, 3), (1, 18, 1, 4), (9, 9, 9, 0), (9, 15, 9, 1), (10, 12, 10, 0), (10, 16, 10, 1), (10, 19, 10, 2), (10, 26, 10, 3), (10, 33, 10, 4), (10, 37, 10, 5), (10, 50, 10, 6), (10, 54, 10, 7), (10, 57, 10, 8), (10, 72, 10, 10), (10, 76, 10, 11), (10, 79, 10, 12), (10, 87, 10, 13), (10, 94, 10, 14), (10, 106, 10, 15), (10, 113, 10, 16)]
set_option maxRecDepth 100000 in
theorem q_flk_ok2 : ∀ e ∈ q_flk_2, q_fw e ∈ lw_tbl := q_by (j := 2) [3, 4, 5, 6, 7, 9, 30, 31, 32, 33, 35, 54, 55, 62, 63, 64, 65, 66, 67, 68, 69, 70, 72, 73, 74, 75, 76, 77, 78] (by decide +kernel)
def q_flk_4 : List (Nat × Nat × Nat × Nat) := [(11, 155, 11, 0), (11, 7, 11, 1), (11, 13, 11, 2), (11, 16, 11, 3), (11, 19, 11, 4), (11, 22, 11, 5), (11, 25, 11, 6), (11, 28, 11, 7), (11, 31, 11, 8), (11, 34, 11, 9), (11, 37, 11, 10), (11, 40, 11, 11), (11, 173, 11, 12), (11, 180, 11, 13), (11, 183, 11, 14), (11, 190, 11, 15), (11, 208, 11, 16), (11, 204, 11, 17), (11, 211, 11, 18), (11, 262, 11, 19), (11, 197, 11, 20), (11, 44, 11, 21), (11, 47, 11, 22), (11, 50, 11, 23), (11, 53, 11, 24), (11, 56, 11, 25), (11, 59, 11, 26), (11, 62, 11, 27), (11, 65, 11, 28), (11, 68, 11, 29), (11, 71, 11, 30), (11, 74, 11, 31), (11, 77, 11, 32), (11, 80, 11, 33)]
set_option maxRecDepth 100000 in
theorem q_flk_ok4 : ∀ e ∈ q_flk_4, q_fw e ∈ lw_tbl := q_by (j := 4) [206, 207, 208, 209, 210, 211, 212, 213, 214, 215, 216, 217, 218, 219, 220, 221, 222, 223, 224, 225, 226, 227, 228, 229, 230, 231, 232, 233, 234, 235, 236, 237, 238, 239] (by decide +kernel)
def q_flk_5 : List (Nat × Nat × Nat × Nat) := [(11, 83, 11, 34), (11, 86, 11, 35), (11, 89, 11, 36), (11, 92, 11, 37), (11, 95, 11, 38), (11, 98, 11, 39), (11, 101, 11, 40), (11, 104, 11, 41), (11, 107, 11, 42), (11, 110, 11, 43), (11, 113, 11, 44), (11, 116, 11, 45), (11, 119, 11, 46), (11, 331, 11, 47), (11, 334, 11, 48), (11, 122, 11, 49), (11, 346, 11, 50), (11, 352, 11, 51), (11, 349, 11, 52), (11, 125, 11, 53), (11, 128, 11, 54), (11, 386, 11, 55), (11, 390, 11, 56), (11, 131, 11, 57), (11, 134, 11, 58), (11, 137, 11, 59), (11, 140, 11, 60), (11, 143, 11, 61), (11, 146, 11, 62), (11, 149, 11, 63), (11, 152, 11, 64)]
set_option maxRecDepth 100000 in
theorem q_flk_ok5 : ∀ e ∈ q_flk_5, q_fw e ∈ lw_tbl := q_by (j := 5) [0, 1, 2, 3, 4, 5, 6, 7, 8, 9, 10, 11, 12, 13, 14, 15, 16, 17, 18, 19, 20, 21, 22, 23, 24, 25, 26, 27, 28, 29, 30] (by decide +kernel)
def q_flk : List (Nat × Nat × Nat × Nat) := q_flk_1 ++ (q_flk_2 ++ (q_flk_4 ++ (q_flk_5)))
theorem q_flk_in : ∀ e ∈ q_flk, q_fw e ∈ lw_tbl := (List.forall_mem_append.mpr ⟨q_flk_ok1, (List.forall_mem_append.mpr ⟨q_flk_ok2, (List.forall_mem_append.mpr ⟨q_flk_ok4, q_flk_ok5⟩)⟩)⟩)
def q_nlk_1 : List (Nat × Nat × Nat × Nat) := [(10, 100, 2, 0), (0, 42, 2, 0), (0, 51, 2, 1), (10, 139, 2, 1), (4, 64, 2, 2), (0, 67, 2, 2), (4, 34, 2, 3), (0, 64, 2, 3), (10, 164, 2, 3), (10, 273, 2, 4), (10, 142, 7, 1), (10, 161, 3, 0), (5, 66, 3, 1), (0, 90, 6, 0), (8, 36, 0, 3), (4, 39, 0, 3), (6, 29, 0, 3), (10, 178, 0, 3), (6, 18, 0, 4), (10, 174, 0, 4), (10, 179, 0, 5), (10, 182, 0, 6), (10, 185, 0, 7), (10, 188, 0, 8), (10, 293, 8, 3), (10, 234, 8, 4), (10, 237, 8, 5), (10, 231, 8, 6)]
set_option maxRecDepth 100000 in
theorem q_nlk_ok1 : ∀ e ∈ q_nlk_1, q_nw e ∈ lw_tbl := q_by (j := 1) [40, 41, 43, 44, 46, 47, 49, 50, 51, 53, 75, 89, 91, 154, 171, 172, 173, 174, 176, 177, 179, 181, 183, 185, 215, 217, 219, 221] (by decide +kernel)
def q_nlk_2 : List (Nat × Nat × Nat × Nat) := [(10, 212, 4, 4), (10, 209, 4, 5), (10, 257, 1, 3), (10, 254, 1, 4)]
set_option maxRecDepth 100000 in
theorem q_nlk_ok2 : ∀ e ∈ q_nlk_2, q_nw e ∈ lw_tbl := q_by (j := 2) [8, 10, 34, 36] (by decide +kernel)
def q_nlk : List (Nat × Nat × Nat × Nat) := q_nlk_1 ++ (q_nlk_2)
theorem q_nlk_in : ∀ e ∈ q_nlk, q_nw e ∈ lw_tbl := (List.forall_mem_append.mpr ⟨q_nlk_ok1, q_nlk_ok2⟩)
def q_mlk_2 : List (Nat × Nat × Nat) := [(10, 123, 106), (10, 127, 107), (10, 130, 103), (10, 133, 108), (10, 136, 110), (10, 146, 56), (10, 150, 109), (10, 153, 35), (5, 39, 22), (3, 44, 200), (5, 44, 36)]
set_option maxRecDepth 100000 in
theorem q_mlk_ok2 : ∀ e ∈ q_mlk_2, q_mw e ∈ lw_tbl := q_by (j := 2) [118, 121, 124, 132, 135, 142, 150, 153, 160, 164, 165] (by decide +kernel)
def q_mlk_3 : List (Nat × Nat × Nat) := [(5, 55, 37), (5, 59, 40), (5, 67, 24), (5, 71, 46), (5, 102, 47), (5, 105, 48), (5, 81, 39), (5, 62, 38), (5, 108, 49), (5, 74, 41), (5, 85, 42), (5, 88, 43), (5, 95, 44), (5, 98, 45), (5, 91, 25), (5, 77, 26), (10, 157, 23), (10, 167, 13), (2, 40, 14), (10, 171, 104), (10, 240, 0), (10, 243, 2), (0, 54, 3), (0, 58, 50), (0, 70, 14), (0, 74, 52), (6, 32, 51), (6, 38, 27), (3, 56, 28), (3, 75, 29), (3, 79, 30), (6, 42, 53), (0, 78, 4), (0, 82, 54), (0, 86, 55), (10, 191, 6), (0, 93, 7), (10, 194, 7), (10, 198, 16), (10, 202, 105), (10, 205, 31), (4, 44, 32), (4, 58, 50), (4, 67, 14), (4, 71, 52), (4, 80, 54), (4, 54, 33), (4, 84, 34), (10, 215, 58), (8, 42, 1)]
set_option maxRecDepth 100000 in
theorem q_mlk_ok3 : ∀ e ∈ q_mlk_3, q_mw e ∈ lw_tbl := q_by (j := 3) [14, 18, 22, 26, 30, 34, 38, 42, 46, 51, 55, 59, 63, 67, 71, 75, 79, 91, 95, 107, 111, 116, 120, 124, 129, 130, 134, 138, 142, 147, 150, 158, 164, 168, 172, 185, 189, 193, 194, 202, 206, 210, 214, 215, 216, 218, 220, 224, 232, 236] (by decide +kernel)
def q_mlk_4 : List (Nat × Nat × Nat) := [(8, 46, 63), (8, 50, 2), (8, 54, 6), (10, 218, 59), (8, 57, 5), (10, 221, 60), (8, 60, 62), (8, 64, 61), (10, 224, 17), (10, 228, 64), (8, 72, 65), (8, 76, 66), (10, 247, 111), (10, 251, 8), (1, 28, 9), (1, 32, 10), (1, 36, 11), (10, 258, 67), (9, 18, 68), (9, 22, 69), (9, 26, 199), (10, 261, 70), (10, 265, 21), (2, 44, 16), (10, 269, 19), (2, 49, 20), (10, 276, 18), (10, 279, 15), (10, 283, 12), (10, 286, 102), (10, 290, 57)]
set_option maxRecDepth 100000 in
theorem q_mlk_ok4 : ∀ e ∈ q_mlk_4, q_mw e ∈ lw_tbl := q_by (j := 4) [0, 3, 4, 9, 13, 21, 25, 30, 38, 46, 50, 53, 77, 80, 84, 88, 92, 105, 109, 113, 117, 127, 136, 140, 145, 149, 162, 167, 175, 188, 192] (by decide +kernel)
def q_mlk_5 : List (Nat × Nat × Nat) := [(11, 159, 113), (11, 163, 114), (11, 166, 115), (11, 169, 112), (11, 176, 120), (11, 268, 142), (11, 186, 122), (11, 259, 141), (11, 193, 124), (11, 244, 135), (11, 231, 133), (11, 221, 128), (11, 200, 123), (11, 224, 126), (11, 217, 127)]
set_option maxRecDepth 100000 in
theorem q_mlk_ok5 : ∀ e ∈ q_mlk_5, q_mw e ∈ lw_tbl := q_by (j := 5) [166, 169, 176, 179, 194, 202, 206, 210, 213, 217, 221, 225, 230, 234, 238] (by decide +kernel)
def q_mlk_6 : List (Nat × Nat × Nat) := [(11, 227, 130), (11, 234, 131), (11, 237, 132), (11, 214, 129), (11, 241, 134), (11, 265, 140), (11, 250, 139), (11, 247, 136), (11, 253, 137), (11, 256, 138), (11, 271, 125), (11, 310, 155), (11, 298, 153), (11, 301, 151), (11, 295, 150), (11, 282, 148), (11, 285, 147), (11, 278, 145), (11, 274, 144), (11, 288, 146), (11, 292, 149), (11, 304, 152), (11, 307, 154), (11, 317, 159), (11, 314, 158), (11, 321, 161), (11, 325, 162), (11, 337, 169), (11, 340, 167), (11, 343, 168), (11, 328, 166), (11, 355, 172), (11, 368, 181), (11, 362, 180), (11, 359, 179), (11, 365, 178), (11, 371, 184), (11, 374, 185), (11, 378, 187)]
set_option maxRecDepth 100000 in
theorem q_mlk_ok6 : ∀ e ∈ q_mlk_6, q_mw e ∈ lw_tbl := q_by (j := 6) [2, 5, 8, 12, 16, 20, 24, 28, 32, 36, 40, 48, 52, 56, 60, 64, 68, 72, 76, 79, 83, 86, 90, 103, 107, 116, 120, 136, 140, 144, 148, 160, 184, 189, 193, 197, 209, 217, 223] (by decide +kernel)
def q_mlk_7 : List (Nat × Nat × Nat) := [(11, 383, 190), (11, 393, 193), (11, 397, 196)]
set_option maxRecDepth 100000 in
theorem q_mlk_ok7 : ∀ e ∈ q_mlk_7, q_mw e ∈ lw_tbl := q_by (j := 7) [1, 9, 20] (by decide +kernel)
def q_mlk : List (Nat × Nat × Nat) := q_mlk_2 ++ (q_mlk_3 ++ (q_mlk_4 ++ (q_mlk_5 ++ (q_mlk_6 ++ (q_mlk_7)))))
theorem q_mlk_in : ∀ e ∈ q_mlk, q_mw e ∈ lw_tbl := (List.forall_mem_append.mpr ⟨q_mlk_ok2, (List.forall_mem_append.mpr ⟨q_mlk_ok3, (List.forall_mem_append.mpr ⟨q_mlk_ok4, (List.forall_mem_append.mpr ⟨q_mlk_ok5, (List.forall_mem_append.mpr ⟨q_mlk_ok6, q_mlk_ok7⟩)⟩)⟩)⟩)⟩)
def q_ilk_2 : List (Nat × Nat × Nat) := [(5, 33, 1002), (5, 49, 1004)]
set_option maxRecDepth 100000 in
theorem q_ilk_ok2 : ∀ e ∈ q_ilk_2, q_iw e ∈ lw_tbl := q_by (j := 2) [157, 170] (by decide +kernel)
def q_ilk_3 : List (Nat × Nat × Nat) := [(3, 50, 1003), (0, 45, 1003), (6, 23, 1003), (3, 72, 1001), (3, 66, 1002), (6, 45, 1002), (6, 51, 1001), (4, 75, 1001), (4, 48, 1003)]
set_option maxRecDepth 100000 in
theorem q_ilk_ok3 : ∀ e ∈ q_ilk_3, q_iw e ∈ lw_tbl := q_by (j := 3) [83, 115, 128, 146, 157, 162, 163, 217, 219] (by decide +kernel)
def q_ilk_4 : List (Nat × Nat × Nat) := [(8, 67, 1002), (1, 39, 1002), (2, 34, 1003)]
set_option maxRecDepth 100000 in
theorem q_ilk_ok4 : ∀ e ∈ q_ilk_4, q_iw e ∈ lw_tbl := q_by (j := 4) [29, 96, 179] (by decide +kernel)
def q_ilk : List (Nat × Nat × Nat) := q_ilk_2 ++ (q_ilk_3 ++ (q_ilk_4))
theorem q_ilk_in : ∀ e ∈ q_ilk, q_iw e ∈ lw_tbl := (List.forall_mem_append.mpr ⟨q_ilk_ok2, (List.forall_mem_append.mpr ⟨q_ilk_ok3, q_ilk_ok4⟩)⟩)
def q_cnk_3 : List (Nat × Nat × Int32) := [(10, 177, (-1000000))]
set_option maxRecDepth 100000 in
theorem q_cnk_ok3 : ∀ e ∈ q_cnk_3, q_cw e ∈ lw_tbl := q_by (j := 3) [180] (by decide +kernel)
def q_cnk_4 : List (Nat × Nat × Int32) := [(12, 265, 1431655765), (12, 266, 858993459), (12, 267, 252645135), (10, 264, 99999), (10, 272, 65535), (2, 48, 65536)]
set_option maxRecDepth 100000 in
theorem q_cnk_ok4 : ∀ e ∈ q_cnk_4, q_cw e ∈ lw_tbl := q_by (j := 4) [120, 121, 122, 135, 157, 166] (by decide +kernel)
def q_cnk_5 : List (Nat × Nat × Int32) := [(11, 207, 1048576)]
set_option maxRecDepth 100000 in
theorem q_cnk_ok5 : ∀ e ∈ q_cnk_5, q_cw e ∈ lw_tbl := q_by (j := 5) [229] (by decide +kernel)
def q_cnk_6 : List (Nat × Nat × Int32) := [(11, 313, (-1000000)), (11, 320, (-1000000000)), (11, 358, 1000000000), (11, 377, 99999), (11, 381, 65535)]
set_option maxRecDepth 100000 in
theorem q_cnk_ok6 : ∀ e ∈ q_cnk_6, q_cw e ∈ lw_tbl := q_by (j := 6) [98, 115, 188, 222, 235] (by decide +kernel)
def q_cnk_7 : List (Nat × Nat × Int32) := [(11, 382, 65536)]
set_option maxRecDepth 100000 in
theorem q_cnk_ok7 : ∀ e ∈ q_cnk_7, q_cw e ∈ lw_tbl := q_by (j := 7) [0] (by decide +kernel)
def q_cnk : List (Nat × Nat × Int32) := q_cnk_3 ++ (q_cnk_4 ++ (q_cnk_5 ++ (q_cnk_6 ++ (q_cnk_7))))
theorem q_cnk_in : ∀ e ∈ q_cnk, q_cw e ∈ lw_tbl := (List.forall_mem_append.mpr ⟨q_cnk_ok3, (List.forall_mem_append.mpr ⟨q_cnk_ok4, (List.forall_mem_append.mpr ⟨q_cnk_ok5, (List.forall_mem_append.mpr ⟨q_cnk_ok6, q_cnk_ok7⟩)⟩)⟩)⟩)
def q_kc_1 : List (Nat) := [200]
set_option maxRecDepth 100000 in
theorem q_kc_ok1 : ∀ e ∈ q_kc_1, q_wc e ∈ lw_tbl := q_by (j := 1) [38] rfl
def q_kc_2 : List (Nat) := [71, 106, 107, 103, 72, 108, 110, 73, 56, 74, 109, 35, 22, 36]
set_option maxRecDepth 100000 in
theorem q_kc_ok2 : ∀ e ∈ q_kc_2, q_wc e ∈ lw_tbl := q_by (j := 2) [117, 120, 123, 127, 131, 134, 137, 141, 145, 149, 152, 156, 163, 168] rfl
def q_kc_3 : List (Nat) := [37, 40, 24, 46, 47, 48, 39, 38, 49, 41, 42, 43, 44, 45, 25, 26, 23, 75, 13, 14, 76, 77, 104, 0, 2, 3, 50, 52, 51, 27, 28, 29, 30, 53, 4, 54, 55, 78, 79, 6, 7, 16, 80, 105, 31, 32, 33, 34, 81, 58, 1]
set_option maxRecDepth 100000 in
theorem q_kc_ok3 : ∀ e ∈ q_kc_3, q_wc e ∈ lw_tbl := q_by (j := 3) [17, 21, 25, 29, 33, 37, 41, 45, 49, 54, 58, 62, 66, 70, 74, 78, 82, 90, 94, 98, 102, 106, 110, 114, 119, 123, 127, 133, 137, 141, 145, 149, 152, 161, 167, 171, 175, 179, 184, 188, 192, 197, 201, 205, 209, 213, 223, 227, 231, 235, 239] rfl
def q_kc_4 : List (Nat) := [63, 82, 59, 5, 83, 60, 62, 61, 84, 17, 85, 64, 65, 66, 86, 87, 88, 89, 90, 111, 8, 9, 10, 11, 91, 92, 67, 68, 69, 199, 93, 70, 94, 21, 95, 19, 20, 96, 97, 18, 15, 98, 12, 99, 100, 102, 57, 101]
set_option maxRecDepth 100000 in
theorem q_kc_ok4 : ∀ e ∈ q_kc_4, q_wc e ∈ lw_tbl := q_by (j := 4) [2, 8, 12, 16, 20, 24, 28, 33, 37, 41, 45, 49, 52, 56, 60, 64, 68, 72, 76, 79, 83, 87, 91, 95, 100, 104, 108, 112, 116, 119, 126, 130, 134, 139, 144, 148, 152, 156, 161, 165, 170, 174, 178, 183, 187, 191, 195, 199] rfl
def q_kc_5 : List (Nat) := [116, 113, 114, 117, 115, 112, 118, 119, 121, 120, 143, 142, 122, 141, 124, 135, 133, 128, 123, 126]
set_option maxRecDepth 100000 in
theorem q_kc_ok5 : ∀ e ∈ q_kc_5, q_wc e ∈ lw_tbl := q_by (j := 5) [165, 168, 171, 175, 178, 181, 185, 189, 193, 197, 201, 205, 209, 212, 216, 220, 224, 228, 233, 237] rfl
def q_kc_6 : List (Nat) := [127, 130, 131, 132, 129, 134, 140, 139, 136, 137, 138, 125, 156, 155, 153, 151, 150, 148, 147, 145, 144, 146, 149, 152, 154, 157, 160, 159, 158, 163, 161, 162, 164, 165, 170, 169, 167, 168, 166, 171, 173, 172, 174, 175, 176, 177, 182, 181, 180, 179, 178, 183, 185, 184, 186, 188, 187, 189, 191, 192]
set_option maxRecDepth 100000 in
theorem q_kc_ok6 : ∀ e ∈ q_kc_6, q_wc e ∈ lw_tbl := q_by (j := 6) [1, 4, 7, 11, 15, 19, 23, 27, 31, 35, 39, 43, 47, 51, 55, 59, 63, 67, 71, 75, 78, 82, 85, 89, 93, 97, 102, 106, 110, 114, 119, 123, 127, 131, 135, 139, 143, 147, 151, 155, 159, 163, 167, 171, 175, 179, 183, 187, 192, 196, 200, 204, 208, 212, 216, 221, 226, 230, 234, 239] rfl
def q_kc_7 : List (Nat) := [190, 194, 193, 195, 197, 196, 198]
set_option maxRecDepth 100000 in
theorem q_kc_ok7 : ∀ e ∈ q_kc_7, q_wc e ∈ lw_tbl := q_by (j := 7) [4, 8, 11, 15, 19, 23, 27] rfl
def q_kc : List (Nat) := q_kc_1 ++ (q_kc_2 ++ (q_kc_3 ++ (q_kc_4 ++ (q_kc_5 ++ (q_kc_6 ++ (q_kc_7))))))
theorem q_kc_in : ∀ e ∈ q_kc, q_wc e ∈ lw_tbl := (List.forall_mem_append.mpr ⟨q_kc_ok1, (List.forall_mem_append.mpr ⟨q_kc_ok2, (List.forall_mem_append.mpr ⟨q_kc_ok3, (List.forall_mem_append.mpr ⟨q_kc_ok4, (List.forall_mem_append.mpr ⟨q_kc_ok5, (List.forall_mem_append.mpr ⟨q_kc_ok6, q_kc_ok7⟩)⟩)⟩)⟩)⟩)⟩)
def q_ki_2 : List (Nat) := [71, 103, 72, 73, 56, 74, 35, 22, 36]
set_option maxRecDepth 100000 in
theorem q_ki_ok2 : ∀ e ∈ q_ki_2, q_wi e ∈ lw_tbl := q_by (j := 2) [115, 126, 129, 139, 143, 147, 154, 161, 167] (by decide +kernel)
def q_ki_3 : List (Nat) := [37, 40, 24, 46, 47, 48, 39, 38, 49, 41, 42, 43, 44, 45, 25, 26, 23, 75, 13, 14, 76, 77, 104, 0, 2, 3, 50, 52, 51, 27, 28, 53, 4, 54, 55, 78, 79, 6, 7, 16, 80, 105, 31, 32, 33, 34, 81, 58, 1]
set_option maxRecDepth 100000 in
theorem q_ki_ok3 : ∀ e ∈ q_ki_3, q_wi e ∈ lw_tbl := q_by (j := 3) [16, 20, 23, 28, 32, 36, 40, 44, 48, 53, 57, 61, 65, 69, 72, 76, 80, 88, 92, 96, 100, 104, 109, 112, 117, 122, 125, 131, 136, 139, 144, 160, 166, 169, 173, 177, 182, 186, 190, 195, 199, 204, 207, 212, 222, 226, 229, 233, 237] (by decide +kernel)
def q_ki_4 : List (Nat) := [82, 59, 5, 83, 60, 62, 61, 84, 17, 85, 64, 66, 86, 87, 88, 89, 90, 8, 9, 10, 11, 91, 92, 67, 68, 69, 93, 70, 94, 21, 95, 19, 20, 96, 97, 18, 15, 98, 12, 99, 100, 102, 57, 101]
set_option maxRecDepth 100000 in
theorem q_ki_ok4 : ∀ e ∈ q_ki_4, q_wi e ∈ lw_tbl := q_by (j := 4) [6, 10, 14, 18, 22, 27, 32, 35, 39, 43, 47, 55, 58, 62, 66, 70, 74, 81, 86, 90, 94, 98, 102, 106, 111, 115, 124, 128, 132, 137, 142, 146, 151, 154, 159, 163, 168, 172, 176, 181, 185, 190, 193, 197] (by decide +kernel)
def q_ki_5 : List (Nat) := [116, 117, 118, 119, 121, 120, 143, 142, 122, 124, 135, 133, 128, 123, 126]
set_option maxRecDepth 100000 in
theorem q_ki_ok5 : ∀ e ∈ q_ki_5, q_wi e ∈ lw_tbl := q_by (j := 5) [163, 173, 183, 187, 191, 196, 199, 204, 208, 215, 219, 223, 227, 232, 236] (by decide +kernel)
def q_ki_6 : List (Nat) := [127, 132, 129, 134, 140, 139, 136, 137, 138, 125, 156, 155, 153, 151, 150, 148, 147, 145, 146, 152, 154, 157, 160, 159, 158, 163, 161, 162, 164, 165, 170, 169, 167, 168, 166, 171, 173, 172, 174, 175, 176, 177, 182, 181, 180, 179, 178, 183, 185, 184, 186, 188, 187, 189, 191, 192]
set_option maxRecDepth 100000 in
theorem q_ki_ok6 : ∀ e ∈ q_ki_6, q_wi e ∈ lw_tbl := q_by (j := 6) [0, 10, 14, 18, 22, 26, 30, 34, 38, 42, 45, 50, 54, 58, 62, 66, 70, 74, 81, 88, 92, 95, 100, 105, 109, 112, 118, 122, 125, 129, 133, 138, 142, 146, 150, 153, 157, 162, 165, 169, 173, 177, 181, 186, 191, 195, 199, 202, 206, 211, 214, 219, 225, 228, 232, 237] (by decide +kernel)
def q_ki_7 : List (Nat) := [190, 194, 195, 197, 196, 198]
set_option maxRecDepth 100000 in
theorem q_ki_ok7 : ∀ e ∈ q_ki_7, q_wi e ∈ lw_tbl := q_by (j := 7) [3, 6, 13, 17, 22, 25] (by decide +kernel)
def q_ki : List (Nat) := q_ki_2 ++ (q_ki_3 ++ (q_ki_4 ++ (q_ki_5 ++ (q_ki_6 ++ (q_ki_7)))))
theorem q_ki_in : ∀ e ∈ q_ki, q_wi e ∈ lw_tbl := (List.forall_mem_append.mpr ⟨q_ki_ok2, (List.forall_mem_append.mpr ⟨q_ki_ok3, (List.forall_mem_append.mpr ⟨q_ki_ok4, (List.forall_mem_append.mpr ⟨q_ki_ok5, (List.forall_mem_append.mpr ⟨q_ki_ok6, q_ki_ok7⟩)⟩)⟩)⟩)⟩)
def q_ks_1 : List (Nat) := [200]
set_option maxRecDepth 100000 in
theorem q_ks_ok1 : ∀ e ∈ q_ks_1, q_ws0 e ∈ lw_tbl := q_by (j := 1) [37] (by decide +kernel)
def q_ks_2 : List (Nat) := [106, 107, 108, 110, 109]
set_option maxRecDepth 100000 in
theorem q_ks_ok2 : ∀ e ∈ q_ks_2, q_ws0 e ∈ lw_tbl := q_by (j := 2) [119, 122, 133, 136, 151] (by decide +kernel)
def q_ks_3 : List (Nat) := [29, 30]
set_option maxRecDepth 100000 in
theorem q_ks_ok3 : ∀ e ∈ q_ks_3, q_ws0 e ∈ lw_tbl := q_by (j := 3) [148, 151] (by decide +kernel)
def q_ks_4 : List (Nat) := [63, 65, 111, 199]
set_option maxRecDepth 100000 in
theorem q_ks_ok4 : ∀ e ∈ q_ks_4, q_ws0 e ∈ lw_tbl := q_by (j := 4) [1, 51, 78, 118] (by decide +kernel)
def q_ks_5 : List (Nat) := [113, 114, 115, 112, 141]
set_option maxRecDepth 100000 in
theorem q_ks_ok5 : ∀ e ∈ q_ks_5, q_ws0 e ∈ lw_tbl := q_by (j := 5) [167, 170, 177, 180, 211] (by decide +kernel)
def q_ks_6 : List (Nat) := [130, 131, 144, 149]
set_option maxRecDepth 100000 in
theorem q_ks_ok6 : ∀ e ∈ q_ks_6, q_ws0 e ∈ lw_tbl := q_by (j := 6) [3, 6, 77, 84] (by decide +kernel)
def q_ks_7 : List (Nat) := [193]
set_option maxRecDepth 100000 in
theorem q_ks_ok7 : ∀ e ∈ q_ks_7, q_ws0 e ∈ lw_tbl := q_by (j := 7) [10] (by decide +kernel)
def q_ks : List (Nat) := q_ks_1 ++ (q_ks_2 ++ (q_ks_3 ++ (q_ks_4 ++ (q_ks_5 ++ (q_ks_6 ++ (q_ks_7))))))
theorem q_ks_in : ∀ e ∈ q_ks, q_ws0 e ∈ lw_tbl := (List.forall_mem_append.mpr ⟨q_ks_ok1, (List.forall_mem_append.mpr ⟨q_ks_ok2, (List.forall_mem_append.mpr ⟨q_ks_ok3, (List.forall_mem_append.mpr ⟨q_ks_ok4, (List.forall_mem_append.mpr ⟨q_ks_ok5, (List.forall_mem_append.mpr ⟨q_ks_ok6, q_ks_ok7⟩)⟩)⟩)⟩)⟩)⟩)
def q_kl_0 : List (Nat) := [103, 36, 37, 40, 46, 47, 48, 39, 38, 49, 41, 42, 43, 44, 45, 104, 3, 51, 28, 53, 4, 105, 32, 33, 34, 62, 61, 66, 9, 10, 11, 68, 69, 20, 102, 120, 142, 122, 124, 135, 133, 128, 123, 126, 127, 132, 129, 134, 140, 139, 136, 137, 138, 125, 155, 153, 151, 150, 148, 147, 145, 146, 152, 154, 159, 158, 161, 162, 169, 167, 168, 166, 172, 181, 180, 179, 178, 184, 187, 190, 196]
set_option maxRecDepth 100000 in
theorem q_kl_ok0 : ∀ e ∈ q_kl_0, q_wl e ∈ lw_tbl := q_by (j := 0) [0, 1, 2, 3, 4, 5, 6, 7, 8, 9, 10, 11, 12, 13, 14, 15, 16, 17, 18, 19, 20, 21, 22, 23, 24, 25, 26, 27, 28, 29, 30, 31, 32, 33, 34, 35, 36, 37, 38, 39, 40, 41, 42, 43, 44, 45, 46, 47, 48, 49, 50, 51, 52, 53, 54, 55, 56, 57, 58, 59, 60, 61, 62, 63, 64, 65, 66, 67, 68, 69, 70, 71, 72, 73, 74, 75, 76, 77, 78, 79, 80] (by decide +kernel)
def q_kl_2 : List (Nat) := [71, 72, 73, 56, 74, 35, 22]
set_option maxRecDepth 100000 in
theorem q_kl_ok2 : ∀ e ∈ q_kl_2, q_wl e ∈ lw_tbl := q_by (j := 2) [116, 130, 140, 144, 148, 155, 162] (by decide +kernel)
def q_kl_3 : List (Nat) := [24, 25, 26, 23, 75, 13, 14, 76, 77, 0, 2, 50, 52, 27, 54, 55, 78, 79, 6, 7, 16, 80, 31, 81, 58, 1]
set_option maxRecDepth 100000 in
theorem q_kl_ok3 : ∀ e ∈ q_kl_3, q_wl e ∈ lw_tbl := q_by (j := 3) [24, 73, 77, 81, 89, 93, 97, 101, 105, 113, 118, 126, 132, 140, 170, 174, 178, 183, 187, 191, 196, 200, 208, 230, 234, 238] (by decide +kernel)
def q_kl_4 : List (Nat) := [82, 59, 5, 83, 60, 84, 17, 85, 64, 86, 87, 88, 89, 90, 8, 91, 92, 67, 93, 70, 94, 21, 95, 19, 96, 97, 18, 15, 98, 12, 99, 100, 57, 101]
set_option maxRecDepth 100000 in
theorem q_kl_ok4 : ∀ e ∈ q_kl_4, q_wl e ∈ lw_tbl := q_by (j := 4) [7, 11, 15, 19, 23, 36, 40, 44, 48, 59, 63, 67, 71, 75, 82, 99, 103, 107, 125, 129, 133, 138, 143, 147, 155, 160, 164, 169, 173, 177, 182, 186, 194, 198] (by decide +kernel)
def q_kl_5 : List (Nat) := [116, 117, 118, 119, 121, 143]
set_option maxRecDepth 100000 in
theorem q_kl_ok5 : ∀ e ∈ q_kl_5, q_wl e ∈ lw_tbl := q_by (j := 5) [164, 174, 184, 188, 192, 200] (by decide +kernel)
def q_kl_6 : List (Nat) := [156, 157, 160, 163, 164, 165, 170, 171, 173, 174, 175, 176, 177, 182, 183, 185, 186, 188, 189, 191, 192]
set_option maxRecDepth 100000 in
theorem q_kl_ok6 : ∀ e ∈ q_kl_6, q_wl e ∈ lw_tbl := q_by (j := 6) [46, 96, 101, 113, 126, 130, 134, 154, 158, 166, 170, 174, 178, 182, 203, 207, 215, 220, 229, 233, 238] (by decide +kernel)
def q_kl_7 : List (Nat) := [194, 195, 197, 198]
set_option maxRecDepth 100000 in
theorem q_kl_ok7 : ∀ e ∈ q_kl_7, q_wl e ∈ lw_tbl := q_by (j := 7) [7, 14, 18, 26] (by decide +kernel)
def q_kl : List (Nat) := q_kl_0 ++ (q_kl_2 ++ (q_kl_3 ++ (q_kl_4 ++ (q_kl_5 ++ (q_kl_6 ++ (q_kl_7))))))
theorem q_kl_in : ∀ e ∈ q_kl, q_wl e ∈ lw_tbl := (List.forall_mem_append.mpr ⟨q_kl_ok0, (List.forall_mem_append.mpr ⟨q_kl_ok2, (List.forall_mem_append.mpr ⟨q_kl_ok3, (List.forall_mem_append.mpr ⟨q_kl_ok4, (List.forall_mem_append.mpr ⟨q_kl_ok5, (List.forall_mem_append.mpr ⟨q_kl_ok6, q_kl_ok7⟩)⟩)⟩)⟩)⟩)⟩)
end
section
def q_sg (a : Option Nat) (z : Int) : Bool := match a with
  | some g => decide (z = (g : Int))
  | none => false
/-- a field may be put: not final; its type by its tag -/
def q_pok (b a : Nat) (v : Int32) : Bool := decide (((q_T b).2.1 a).2.2.2 = false) && (if v = 0 then decide (((q_T b).2.1 a).2.2.1 = "I") else if v = 1 then decide (((q_T b).2.1 a).2.2.1 = "Z") else decide (((q_T b).2.1 a).2.2.1 = "C"))
def q_okr (own : Nat) (r : QI) : Bool := match r with
  | (_, I, len, a, b, v) => match I with
    | .iconst n => decide (len = 1 ∧ Int32.ofInt n = v)
    | .bipush n => decide (len = 2 ∧ (Int8.ofInt n).toInt32 = v)
    | .sipush n => decide (len = 3 ∧ (Int16.ofInt n).toInt32 = v)
    | .ldc i => decide (len = 2) && (if b = 0 then decide ((own, i, v) ∈ q_cnk) else decide (own = 5 ∧ (i = 47 ∧ a = 120 ∨ i = 111 ∧ a = 121)))
    | .ldc_w i => decide (len = 3 ∧ (own, i, v) ∈ q_cnk)
    | .iload_n k => decide (len = 1 ∧ k.val = a)
    | .iload k => decide (len = 2 ∧ k = a)
    | .aload_n k => decide (len = 1 ∧ k.val = a)
    | .aload k => decide (len = 2 ∧ k = a)
    | .istore_n k => decide (len = 1 ∧ k.val = a)
    | .istore k => decide (len = 2 ∧ k = a)
    | .iinc i n => decide (len = 3 ∧ i = a ∧ Int32.ofInt n = v)
    | .iadd => decide (len = 1)
    | .isub => decide (len = 1)
    | .imul => decide (len = 1)
    | .iand => decide (len = 1)
    | .ior => decide (len = 1)
    | .ishl => decide (len = 1)
    | .ishr => decide (len = 1)
    | .iushr => decide (len = 1)
    | .idiv => decide (len = 1)
    | .irem => decide (len = 1)
    | .ineg => decide (len = 1)
    | .i2c => decide (len = 1)
    | .i2b => decide (len = 1)
    | .dup => decide (len = 1)
    | .dup2 => decide (len = 1)
    | .pop => decide (len = 1)
    | .getfield i => decide (len = 3 ∧ ((own, i, b, a) ∈ q_flk ∨ (own, i, b, a) ∈ q_nlk))
    | .putfield i => decide (len = 3 ∧ ((own, i, b, a) ∈ q_flk ∨ (own, i, b, a) ∈ q_nlk)) && q_pok b a v
    | .iaload => decide (len = 1)
    | .caload => decide (len = 1)
    | .baload => decide (len = 1)
    | .iastore => decide (len = 1)
    | .castore => decide (len = 1)
    | .bastore => decide (len = 1)
    | .aaload => decide (len = 1)
    | .arraylength => decide (len = 1)
    | .getstatic i => decide (len = 3 ∧ own = 3 ∧ (i = 60 ∧ a = 118 ∨ i = 63 ∧ a = 119))
    | .invokestatic i => decide (len = 3 ∧ (own, i, a) ∈ q_ilk)
    | .invokevirtual i => decide (len = 3 ∧ (own, i, a) ∈ q_ilk)
    | _ => false
def q_chn (own : Nat) (cc : ByteArray) : Nat → List QI → Option Nat
  | p, [] => some p
  | p, r :: rs => if r.1 = p ∧ decode cc p = .ok (r.2.1, r.2.2.1) ∧ q_okr own r = true then q_chn own cc (p + r.2.2.1) rs else none
def q_oktab (sts : List Nat) (p : Nat) : Int → List Int → List (Int × Nat) → Bool
  | _, [], [] => true
  | lo, o :: os, (i, k) :: ts => decide (i = lo) && q_sg sts[k]? ((p : Int) + o) && q_oktab sts p (lo + 1) os ts
  | _, _, _ => false
def q_oklk (sts : List Nat) (p : Nat) : List (Int × Int) → List (Int × Nat) → Bool
  | [], [] => true
  | (j, o) :: os, (i, k) :: ts => decide (i = j) && q_sg sts[k]? ((p : Int) + o) && q_oklk sts p os ts
  | _, _ => false
def q_okt (own : Nat) (cc : ByteArray) (ret : Option FieldType) (sts : List Nat) (p : Nat) (t : QT) : Bool := match t with
  | (0, (_, _, _, a, _, _), _) => decide (sts[a]? = some p)
  | (1, (_, .goto off, _, a, _, _), _) => decide (decode cc p = .ok (.goto off, 3)) && q_sg sts[a]? ((p : Int) + off)
  | (2, (_, .ifCond c off, _, a, b, _), _) => decide (decode cc p = .ok (.ifCond c off, 3)) && q_sg sts[a]? ((p : Int) + off) && decide (sts[b]? = some (p + 3))
  | (3, (_, .if_icmp c off, _, a, b, _), _) => decide (decode cc p = .ok (.if_icmp c off, 3)) && q_sg sts[a]? ((p : Int) + off) && decide (sts[b]? = some (p + 3))
  | (4, (_, .tableswitch dd lo hi offs, len, a, _, _), ts) => decide (decode cc p = .ok (.tableswitch dd lo hi offs, len)) && q_sg sts[a]? ((p : Int) + dd) && q_oktab sts p lo offs.toList ts && decide (hi = lo + offs.size - 1 ∧ -2147483648 ≤ lo ∧ hi < 2147483648)
  | (4, (_, .lookupswitch dd ps, len, a, _, _), ts) => decide (decode cc p = .ok (.lookupswitch dd ps, len)) && q_sg sts[a]? ((p : Int) + dd) && q_oklk sts p ps.toList ts && (ps.toList.zip (ps.toList.drop 1)).all (fun (a, next) => a.1 < next.1) && ps.toList.all (fun q => decide (-2147483648 ≤ q.1 ∧ q.1 < 2147483648))
  | (5, (_, .invokevirtual i, _, a, b, _), [(tg, na), (_, ml)]) => decide (decode cc p = .ok (.invokevirtual i, 3) ∧ sts[b]? = some (p + 3) ∧ (own, i, a) ∈ q_mlk ∧ a ∈ q_ki ∧ a ∈ q_kl ∧ tg = (((q_y a).2.2.2.2.1 / 2 : Nat) : Int) + 4 ∧ na = (q_y a).2.2.2.2.2 ∧ ml = (q_y a).2.2.1 ∧ 0 < na)
  | (5, (_, .invokestatic i, _, a, b, _), [(tg, na), (_, ml)]) => decide (decode cc p = .ok (.invokestatic i, 3) ∧ sts[b]? = some (p + 3) ∧ (own, i, a) ∈ q_mlk ∧ a ∈ q_ks ∧ tg = 0 ∧ na = (q_y a).2.2.2.2.2 ∧ ml = (q_y a).2.2.1)
  | (6, _, _) => decide (decode cc p = .ok (.ireturn, 1) ∧ ret = some .int)
  | (7, _, _) => decide (decode cc p = .ok (.return_, 1) ∧ ret = none)
  | (8, _, _) => decide (decode cc p = .ok (.ireturn, 1) ∧ ret = some .boolean)
  | _ => false
def q_okb (own : Nat) (cc : ByteArray) (ret : Option FieldType) (sts : List Nat) (b : QB) : Bool := match q_chn own cc b.1 b.2.1 with
  | some p => q_okt own cc ret sts p b.2.2
  | none => false
def q_okm (M : QM) : Bool := decide ((M.2.2.2.2.2.2.map (fun b => b.1))[0]? = some 0) && M.2.2.2.2.2.2.all (q_okb (M.2.2.2.2.1 / 2) M.2.1 M.2.2.2.1 (M.2.2.2.2.2.2.map (fun b => b.1)))
/-- what is asked of a method's name: its class, its arguments, its words -/
def q_oky (mi : Nat) : Bool := decide (mi ∈ q_kc ∧ (q_y mi).1.cls = q_own ((q_y mi).2.2.2.2.1 / 2) ∧ (parseMethodDescriptor (q_y mi).1.desc).map (fun d => d.parameters.length) = some ((q_y mi).2.2.2.2.2 - (1 - (q_y mi).2.2.2.2.1 % 2)) ∧ plainName (q_y mi).1.cls = true ∧ (q_y mi).2.2.2.2.2 ≤ (q_y mi).2.2.1 ∧ (q_y mi).2.2.1 ≤ 30 ∧ (q_y mi).1.cls ≠ "java/lang/invoke/MethodHandle" ∧ (q_y mi).1.cls ≠ "java/lang/invoke/VarHandle" ∧ Cond.initialized (q_y mi).1.cls ∈ tables_1_1)
end
section
set_option maxRecDepth 100000 in
theorem qk0 : q_okm qm0 = true := by decide +kernel
set_option maxRecDepth 100000 in
theorem qk1 : q_okm qm1 = true := by decide +kernel
set_option maxRecDepth 100000 in
theorem qk2 : q_okm qm2 = true := by decide +kernel
set_option maxRecDepth 100000 in
theorem qk3 : q_okm qm3 = true := by decide +kernel
set_option maxRecDepth 100000 in
theorem qk4 : q_okm qm4 = true := by decide +kernel
set_option maxRecDepth 100000 in
theorem qk5 : q_okm qm5 = true := by decide +kernel
set_option maxRecDepth 100000 in
theorem qk6 : q_okm qm6 = true := by decide +kernel
set_option maxRecDepth 100000 in
theorem qk7 : q_okm qm7 = true := by decide +kernel
set_option maxRecDepth 100000 in
theorem qk8 : q_okm qm8 = true := by decide +kernel
set_option maxRecDepth 100000 in
theorem qk9 : q_okm qm9 = true := by decide +kernel
set_option maxRecDepth 100000 in
theorem qk10 : q_okm qm10 = true := by decide +kernel
set_option maxRecDepth 100000 in
theorem qk11 : q_okm qm11 = true := by decide +kernel
set_option maxRecDepth 100000 in
theorem qk12 : q_okm qm12 = true := by decide +kernel
set_option maxRecDepth 100000 in
theorem qk13 : q_okm qm13 = true := by decide +kernel
set_option maxRecDepth 100000 in
theorem qk14 : q_okm qm14 = true := by decide +kernel
set_option maxRecDepth 100000 in
theorem qk15 : q_okm qm15 = true := by decide +kernel
set_option maxRecDepth 100000 in
theorem qk16 : q_okm qm16 = true := by decide +kernel
set_option maxRecDepth 100000 in
theorem qk17 : q_okm qm17 = true := by decide +kernel
set_option maxRecDepth 100000 in
theorem qk18 : q_okm qm18 = true := by decide +kernel
set_option maxRecDepth 100000 in
theorem qk19 : q_okm qm19 = true := by decide +kernel
set_option maxRecDepth 100000 in
theorem qk20 : q_okm qm20 = true := by decide +kernel
set_option maxRecDepth 100000 in
theorem qk21 : q_okm qm21 = true := by decide +kernel
set_option maxRecDepth 100000 in
theorem qk22 : q_okm qm22 = true := by decide +kernel
set_option maxRecDepth 100000 in
theorem qk23 : q_okm qm23 = true := by decide +kernel
set_option maxRecDepth 100000 in
theorem qk24 : q_okm qm24 = true := by decide +kernel
set_option maxRecDepth 100000 in
theorem qk25 : q_okm qm25 = true := by decide +kernel
set_option maxRecDepth 100000 in
theorem qk26 : q_okm qm26 = true := by decide +kernel
set_option maxRecDepth 100000 in
theorem qk27 : q_okm qm27 = true := by decide +kernel
set_option maxRecDepth 100000 in
theorem qk28 : q_okm qm28 = true := by decide +kernel
set_option maxRecDepth 100000 in
theorem qk29 : q_okm qm29 = true := by decide +kernel
set_option maxRecDepth 100000 in
theorem qk30 : q_okm qm30 = true := by decide +kernel
set_option maxRecDepth 100000 in
theorem qk31 : q_okm qm31 = true := by decide +kernel
set_option maxRecDepth 100000 in
theorem qk32 : q_okm qm32 = true := by decide +kernel
set_option maxRecDepth 100000 in
theorem qk33 : q_okm qm33 = true := by decide +kernel
set_option maxRecDepth 100000 in
theorem qk34 : q_okm qm34 = true := by decide +kernel
set_option maxRecDepth 100000 in
theorem qk35 : q_okm qm35 = true := by decide +kernel
set_option maxRecDepth 100000 in
theorem qk36 : q_okm qm36 = true := by decide +kernel
set_option maxRecDepth 100000 in
theorem qk37 : q_okm qm37 = true := by decide +kernel
set_option maxRecDepth 100000 in
theorem qk38 : q_okm qm38 = true := by decide +kernel
set_option maxRecDepth 100000 in
theorem qk39 : q_okm qm39 = true := by decide +kernel
set_option maxRecDepth 100000 in
theorem qk40 : q_okm qm40 = true := by decide +kernel
set_option maxRecDepth 100000 in
theorem qk41 : q_okm qm41 = true := by decide +kernel
set_option maxRecDepth 100000 in
theorem qk42 : q_okm qm42 = true := by decide +kernel
set_option maxRecDepth 100000 in
theorem qk43 : q_okm qm43 = true := by decide +kernel
set_option maxRecDepth 100000 in
theorem qk44 : q_okm qm44 = true := by decide +kernel
set_option maxRecDepth 100000 in
theorem qk45 : q_okm qm45 = true := by decide +kernel
set_option maxRecDepth 100000 in
theorem qk46 : q_okm qm46 = true := by decide +kernel
set_option maxRecDepth 100000 in
theorem qk47 : q_okm qm47 = true := by decide +kernel
set_option maxRecDepth 100000 in
theorem qk48 : q_okm qm48 = true := by decide +kernel
set_option maxRecDepth 100000 in
theorem qk49 : q_okm qm49 = true := by decide +kernel
end
section
set_option maxRecDepth 100000 in
theorem qk50 : q_okm qm50 = true := by decide +kernel
set_option maxRecDepth 100000 in
theorem qk51 : q_okm qm51 = true := by decide +kernel
set_option maxRecDepth 100000 in
theorem qk52 : q_okm qm52 = true := by decide +kernel
set_option maxRecDepth 100000 in
theorem qk53 : q_okm qm53 = true := by decide +kernel
set_option maxRecDepth 100000 in
theorem qk54 : q_okm qm54 = true := by decide +kernel
set_option maxRecDepth 100000 in
theorem qk55 : q_okm qm55 = true := by decide +kernel
set_option maxRecDepth 100000 in
theorem qk56 : q_okm qm56 = true := by decide +kernel
set_option maxRecDepth 100000 in
theorem qk57 : q_okm qm57 = true := by decide +kernel
set_option maxRecDepth 100000 in
theorem qk58 : q_okm qm58 = true := by decide +kernel
set_option maxRecDepth 100000 in
theorem qk59 : q_okm qm59 = true := by decide +kernel
set_option maxRecDepth 100000 in
theorem qk60 : q_okm qm60 = true := by decide +kernel
set_option maxRecDepth 100000 in
theorem qk61 : q_okm qm61 = true := by decide +kernel
set_option maxRecDepth 100000 in
theorem qk62 : q_okm qm62 = true := by decide +kernel
set_option maxRecDepth 100000 in
theorem qk63 : q_okm qm63 = true := by decide +kernel
set_option maxRecDepth 100000 in
theorem qk64 : q_okm qm64 = true := by decide +kernel
set_option maxRecDepth 100000 in
theorem qk65 : q_okm qm65 = true := by decide +kernel
set_option maxRecDepth 100000 in
theorem qk66 : q_okm qm66 = true := by decide +kernel
set_option maxRecDepth 100000 in
theorem qk67 : q_okm qm67 = true := by decide +kernel
set_option maxRecDepth 100000 in
theorem qk68 : q_okm qm68 = true := by decide +kernel
set_option maxRecDepth 100000 in
theorem qk69 : q_okm qm69 = true := by decide +kernel
set_option maxRecDepth 100000 in
theorem qk70 : q_okm qm70 = true := by decide +kernel
set_option maxRecDepth 100000 in
theorem qk71 : q_okm qm71 = true := by decide +kernel
set_option maxRecDepth 100000 in
theorem qk72 : q_okm qm72 = true := by decide +kernel
set_option maxRecDepth 100000 in
theorem qk73 : q_okm qm73 = true := by decide +kernel
set_option maxRecDepth 100000 in
theorem qk74 : q_okm qm74 = true := by decide +kernel
set_option maxRecDepth 100000 in
theorem qk75 : q_okm qm75 = true := by decide +kernel
set_option maxRecDepth 100000 in
theorem qk76 : q_okm qm76 = true := by decide +kernel
set_option maxRecDepth 100000 in
theorem qk77 : q_okm qm77 = true := by decide +kernel
set_option maxRecDepth 100000 in
theorem qk78 : q_okm qm78 = true := by decide +kernel
set_option maxRecDepth 100000 in
theorem qk79 : q_okm qm79 = true := by decide +kernel
set_option maxRecDepth 100000 in
theorem qk80 : q_okm qm80 = true := by decide +kernel
set_option maxRecDepth 100000 in
theorem qk81 : q_okm qm81 = true := by decide +kernel
set_option maxRecDepth 100000 in
theorem qk82 : q_okm qm82 = true := by decide +kernel
set_option maxRecDepth 100000 in
theorem qk83 : q_okm qm83 = true := by decide +kernel
set_option maxRecDepth 100000 in
theorem qk84 : q_okm qm84 = true := by decide +kernel
set_option maxRecDepth 100000 in
theorem qk85 : q_okm qm85 = true := by decide +kernel
set_option maxRecDepth 100000 in
theorem qk86 : q_okm qm86 = true := by decide +kernel
set_option maxRecDepth 100000 in
theorem qk87 : q_okm qm87 = true := by decide +kernel
set_option maxRecDepth 100000 in
theorem qk88 : q_okm qm88 = true := by decide +kernel
set_option maxRecDepth 100000 in
theorem qk89 : q_okm qm89 = true := by decide +kernel
set_option maxRecDepth 100000 in
theorem qk90 : q_okm qm90 = true := by decide +kernel
set_option maxRecDepth 100000 in
theorem qk91 : q_okm qm91 = true := by decide +kernel
set_option maxRecDepth 100000 in
theorem qk92 : q_okm qm92 = true := by decide +kernel
set_option maxRecDepth 100000 in
theorem qk93 : q_okm qm93 = true := by decide +kernel
set_option maxRecDepth 100000 in
theorem qk94 : q_okm qm94 = true := by decide +kernel
set_option maxRecDepth 100000 in
theorem qk95 : q_okm qm95 = true := by decide +kernel
set_option maxRecDepth 100000 in
theorem qk96 : q_okm qm96 = true := by decide +kernel
set_option maxRecDepth 100000 in
theorem qk97 : q_okm qm97 = true := by decide +kernel
set_option maxRecDepth 100000 in
theorem qk98 : q_okm qm98 = true := by decide +kernel
set_option maxRecDepth 100000 in
theorem qk99 : q_okm qm99 = true := by decide +kernel
end
section
set_option maxRecDepth 100000 in
theorem qk100 : q_okm qm100 = true := by decide +kernel
set_option maxRecDepth 100000 in
theorem qk101 : q_okm qm101 = true := by decide +kernel
set_option maxRecDepth 100000 in
theorem qk102 : q_okm qm102 = true := by decide +kernel
set_option maxRecDepth 100000 in
theorem qk103 : q_okm qm103 = true := by decide +kernel
set_option maxRecDepth 100000 in
theorem qk104 : q_okm qm104 = true := by decide +kernel
set_option maxRecDepth 100000 in
theorem qk105 : q_okm qm105 = true := by decide +kernel
set_option maxRecDepth 100000 in
theorem qk106 : q_okm qm106 = true := by decide +kernel
set_option maxRecDepth 100000 in
theorem qk107 : q_okm qm107 = true := by decide +kernel
set_option maxRecDepth 100000 in
theorem qk108 : q_okm qm108 = true := by decide +kernel
set_option maxRecDepth 100000 in
theorem qk109 : q_okm qm109 = true := by decide +kernel
set_option maxRecDepth 100000 in
theorem qk110 : q_okm qm110 = true := by decide +kernel
set_option maxRecDepth 100000 in
theorem qk111 : q_okm qm111 = true := by decide +kernel
set_option maxRecDepth 100000 in
theorem qk112 : q_okm qm112 = true := by decide +kernel
set_option maxRecDepth 100000 in
theorem qk113 : q_okm qm113 = true := by decide +kernel
set_option maxRecDepth 100000 in
theorem qk114 : q_okm qm114 = true := by decide +kernel
set_option maxRecDepth 100000 in
theorem qk115 : q_okm qm115 = true := by decide +kernel
set_option maxRecDepth 100000 in
theorem qk116 : q_okm qm116 = true := by decide +kernel
set_option maxRecDepth 100000 in
theorem qk117 : q_okm qm117 = true := by decide +kernel
set_option maxRecDepth 100000 in
theorem qk118 : q_okm qm118 = true := by decide +kernel
set_option maxRecDepth 100000 in
theorem qk119 : q_okm qm119 = true := by decide +kernel
set_option maxRecDepth 100000 in
theorem qk120 : q_okm qm120 = true := by decide +kernel
set_option maxRecDepth 100000 in
theorem qk121 : q_okm qm121 = true := by decide +kernel
set_option maxRecDepth 100000 in
theorem qk122 : q_okm qm122 = true := by decide +kernel
set_option maxRecDepth 100000 in
theorem qk123 : q_okm qm123 = true := by decide +kernel
set_option maxRecDepth 100000 in
theorem qk124 : q_okm qm124 = true := by decide +kernel
set_option maxRecDepth 100000 in
theorem qk125 : q_okm qm125 = true := by decide +kernel
set_option maxRecDepth 100000 in
theorem qk126 : q_okm qm126 = true := by decide +kernel
set_option maxRecDepth 100000 in
theorem qk127 : q_okm qm127 = true := by decide +kernel
set_option maxRecDepth 100000 in
theorem qk128 : q_okm qm128 = true := by decide +kernel
set_option maxRecDepth 100000 in
theorem qk129 : q_okm qm129 = true := by decide +kernel
set_option maxRecDepth 100000 in
theorem qk130 : q_okm qm130 = true := by decide +kernel
set_option maxRecDepth 100000 in
theorem qk131 : q_okm qm131 = true := by decide +kernel
set_option maxRecDepth 100000 in
theorem qk132 : q_okm qm132 = true := by decide +kernel
set_option maxRecDepth 100000 in
theorem qk133 : q_okm qm133 = true := by decide +kernel
set_option maxRecDepth 100000 in
theorem qk134 : q_okm qm134 = true := by decide +kernel
set_option maxRecDepth 100000 in
theorem qk135 : q_okm qm135 = true := by decide +kernel
set_option maxRecDepth 100000 in
theorem qk136 : q_okm qm136 = true := by decide +kernel
set_option maxRecDepth 100000 in
theorem qk137 : q_okm qm137 = true := by decide +kernel
set_option maxRecDepth 100000 in
theorem qk138 : q_okm qm138 = true := by decide +kernel
set_option maxRecDepth 100000 in
theorem qk139 : q_okm qm139 = true := by decide +kernel
set_option maxRecDepth 100000 in
theorem qk140 : q_okm qm140 = true := by decide +kernel
set_option maxRecDepth 100000 in
theorem qk141 : q_okm qm141 = true := by decide +kernel
set_option maxRecDepth 100000 in
theorem qk142 : q_okm qm142 = true := by decide +kernel
set_option maxRecDepth 100000 in
theorem qk143 : q_okm qm143 = true := by decide +kernel
set_option maxRecDepth 100000 in
theorem qk144 : q_okm qm144 = true := by decide +kernel
set_option maxRecDepth 100000 in
theorem qk145 : q_okm qm145 = true := by decide +kernel
set_option maxRecDepth 100000 in
theorem qk146 : q_okm qm146 = true := by decide +kernel
set_option maxRecDepth 100000 in
theorem qk147 : q_okm qm147 = true := by decide +kernel
set_option maxRecDepth 100000 in
theorem qk148 : q_okm qm148 = true := by decide +kernel
set_option maxRecDepth 100000 in
theorem qk149 : q_okm qm149 = true := by decide +kernel
end
section
set_option maxRecDepth 100000 in
theorem qk150 : q_okm qm150 = true := by decide +kernel
set_option maxRecDepth 100000 in
theorem qk151 : q_okm qm151 = true := by decide +kernel
set_option maxRecDepth 100000 in
theorem qk152 : q_okm qm152 = true := by decide +kernel
set_option maxRecDepth 100000 in
theorem qk153 : q_okm qm153 = true := by decide +kernel
set_option maxRecDepth 100000 in
theorem qk154 : q_okm qm154 = true := by decide +kernel
set_option maxRecDepth 100000 in
theorem qk155 : q_okm qm155 = true := by decide +kernel
set_option maxRecDepth 100000 in
theorem qk156 : q_okm qm156 = true := by decide +kernel
set_option maxRecDepth 100000 in
theorem qk157 : q_okm qm157 = true := by decide +kernel
set_option maxRecDepth 100000 in
theorem qk158 : q_okm qm158 = true := by decide +kernel
set_option maxRecDepth 100000 in
theorem qk159 : q_okm qm159 = true := by decide +kernel
set_option maxRecDepth 100000 in
theorem qk160 : q_okm qm160 = true := by decide +kernel
set_option maxRecDepth 100000 in
theorem qk161 : q_okm qm161 = true := by decide +kernel
set_option maxRecDepth 100000 in
theorem qk162 : q_okm qm162 = true := by decide +kernel
set_option maxRecDepth 100000 in
theorem qk163 : q_okm qm163 = true := by decide +kernel
set_option maxRecDepth 100000 in
theorem qk164 : q_okm qm164 = true := by decide +kernel
set_option maxRecDepth 100000 in
theorem qk165 : q_okm qm165 = true := by decide +kernel
set_option maxRecDepth 100000 in
theorem qk166 : q_okm qm166 = true := by decide +kernel
set_option maxRecDepth 100000 in
theorem qk167 : q_okm qm167 = true := by decide +kernel
set_option maxRecDepth 100000 in
theorem qk168 : q_okm qm168 = true := by decide +kernel
set_option maxRecDepth 100000 in
theorem qk169 : q_okm qm169 = true := by decide +kernel
set_option maxRecDepth 100000 in
theorem qk170 : q_okm qm170 = true := by decide +kernel
set_option maxRecDepth 100000 in
theorem qk171 : q_okm qm171 = true := by decide +kernel
set_option maxRecDepth 100000 in
theorem qk172 : q_okm qm172 = true := by decide +kernel
set_option maxRecDepth 100000 in
theorem qk173 : q_okm qm173 = true := by decide +kernel
set_option maxRecDepth 100000 in
theorem qk174 : q_okm qm174 = true := by decide +kernel
set_option maxRecDepth 100000 in
theorem qk175 : q_okm qm175 = true := by decide +kernel
set_option maxRecDepth 100000 in
theorem qk176 : q_okm qm176 = true := by decide +kernel
set_option maxRecDepth 100000 in
theorem qk177 : q_okm qm177 = true := by decide +kernel
set_option maxRecDepth 100000 in
theorem qk178 : q_okm qm178 = true := by decide +kernel
set_option maxRecDepth 100000 in
theorem qk179 : q_okm qm179 = true := by decide +kernel
set_option maxRecDepth 100000 in
theorem qk180 : q_okm qm180 = true := by decide +kernel
set_option maxRecDepth 100000 in
theorem qk181 : q_okm qm181 = true := by decide +kernel
set_option maxRecDepth 100000 in
theorem qk182 : q_okm qm182 = true := by decide +kernel
set_option maxRecDepth 100000 in
theorem qk183 : q_okm qm183 = true := by decide +kernel
set_option maxRecDepth 100000 in
theorem qk184 : q_okm qm184 = true := by decide +kernel
set_option maxRecDepth 100000 in
theorem qk185 : q_okm qm185 = true := by decide +kernel
set_option maxRecDepth 100000 in
theorem qk186 : q_okm qm186 = true := by decide +kernel
set_option maxRecDepth 100000 in
theorem qk187 : q_okm qm187 = true := by decide +kernel
set_option maxRecDepth 100000 in
theorem qk188 : q_okm qm188 = true := by decide +kernel
set_option maxRecDepth 100000 in
theorem qk189 : q_okm qm189 = true := by decide +kernel
set_option maxRecDepth 100000 in
theorem qk190 : q_okm qm190 = true := by decide +kernel
set_option maxRecDepth 100000 in
theorem qk191 : q_okm qm191 = true := by decide +kernel
set_option maxRecDepth 100000 in
theorem qk192 : q_okm qm192 = true := by decide +kernel
set_option maxRecDepth 100000 in
theorem qk193 : q_okm qm193 = true := by decide +kernel
set_option maxRecDepth 100000 in
theorem qk194 : q_okm qm194 = true := by decide +kernel
set_option maxRecDepth 100000 in
theorem qk195 : q_okm qm195 = true := by decide +kernel
set_option maxRecDepth 100000 in
theorem qk196 : q_okm qm196 = true := by decide +kernel
set_option maxRecDepth 100000 in
theorem qk197 : q_okm qm197 = true := by decide +kernel
set_option maxRecDepth 100000 in
theorem qk198 : q_okm qm198 = true := by decide +kernel
set_option maxRecDepth 100000 in
theorem qk199 : q_okm qm199 = true := by decide +kernel
set_option maxRecDepth 100000 in
theorem qk200 : q_okm qm200 = true := by decide +kernel
theorem q_ys_ok : q_ms.map (fun l => l.map (fun M => (M.1, M.2.1, M.2.2.1, M.2.2.2.1, M.2.2.2.2.1, M.2.2.2.2.2.1))) = q_ys := rfl
set_option maxRecDepth 100000 in
theorem q_oky_all : ∀ mi, mi < 201 → q_oky mi = true := by decide +kernel
end
section
/-! the small machine is the machine: what its cells are in the heap -/
def q_v (ad : Nat → Nat) : QV → Value
  | .inl x => .int x
  | .inr c => .ref (ad c)
def q_f1 (ad : Nat → Nat) (f : Nat → Int32) (rs : List (Option Nat)) (j : Nat) : Value := match rs[j]? with
  | some (some c2) => .ref (ad c2)
  | _ => .int (f j)
def q_fd (ad : Nat → Nat) (f : Nat → Int32) (rs : List (Option Nat)) : List Value := (List.range rs.length).map (q_f1 ad f rs)
def q_en (ad : Nat → Nat) (ca : Nat → ClassId) (y : QC) (f : Nat → Int32) : va_E := match y with
  | (0, n, _) => .inl (ca 0, n, .inl f)
  | (1, n, _) => .inl (ca 1, n, .inl f)
  | (2, n, _) => .inl (ca 2, n, .inl f)
  | (3, n, rs) => .inl (ca 3, n, .inr (.inr (.inr (.inr (fun i => (rs.getD i none).map ad)))))
  | (t + 4, _, rs) => .inr (t, q_fd ad f rs)
def q_ws (ad : Nat → Nat) (ca : Nat → ClassId) (σ : QS) : va_W := (List.range 118).map (fun c => (ad c, q_en ad ca (q_lay c) (σ c)))
def q_tys (ca : Nat → ClassId) : List (ClassId × FieldType) := [(ca 0, .int), (ca 1, .char), (ca 2, .byte), (ca 3, .object "BellHours$Law")]
def q_A (ad : Nat → Nat) : Nat → Prop := fun q => ∃ c, c < 118 ∧ q = ad c
def q_lv (ad : Nat → Nat) (L : QL) : List (Nat × Value) := (List.range L.length).filterMap (fun i => match L[i]? with
  | some (some x) => some (i, q_v ad x)
  | _ => none)
theorem q_ws_at {ad : Nat → Nat} {ca : Nat → ClassId} {σ : QS} {c : Nat} (h : c < 118) : (q_ws ad ca σ)[c]? = some (ad c, q_en ad ca (q_lay c) (σ c)) := by
  simp [q_ws, h]
theorem q_ws_no {ad : Nat → Nat} {ca : Nat → ClassId} {σ : QS} {c : Nat} (h : 118 ≤ c) : (q_ws ad ca σ)[c]? = none := by
  simp [q_ws, h]
theorem q_ws_set {ad : Nat → Nat} {ca : Nat → ClassId} {σ : QS} {c : Nat} {f : Nat → Int32} (h : c < 118) : q_ws ad ca (q_set σ c f) = (q_ws ad ca σ).set c (ad c, q_en ad ca (q_lay c) f) := by
  apply List.ext_getElem?
  intro i
  by_cases hi : i = c
  · subst hi
    rw [q_ws_at h]
    simp [List.getElem?_set, q_ws, q_set, h]
  · rw [List.getElem?_set_ne (Ne.symm hi)]
    rcases Nat.lt_or_ge i 118 with q | q
    · rw [q_ws_at q, q_ws_at q]
      simp [q_set, hi]
    · rw [q_ws_no q, q_ws_no q]
theorem q_lay_lt {c : Nat} (h : (q_lay c).1 < 99) : c < 118 := by
  rcases Nat.lt_or_ge c 128 with q | q
  · have : ∀ c, c < 128 → (q_lay c).1 < 99 → c < 118 := by decide +kernel
    exact this c q h
  · exfalso
    have e : q_cells[c / 16]? = none := List.getElem?_eq_none (by show 8 ≤ c / 16; omega)
    simp [q_lay, q_g16, e] at h
theorem q_lay_ro {c : Nat} (h : (q_lay c).1 = 100) : c = 118 ∨ c = 119 := by
  rcases Nat.lt_or_ge c 128 with q | q
  · have : ∀ c, c < 128 → (q_lay c).1 = 100 → c = 118 ∨ c = 119 := by decide +kernel
    exact this c q h
  · exfalso
    have e : q_cells[c / 16]? = none := List.getElem?_eq_none (by show 8 ≤ c / 16; omega)
    simp [q_lay, q_g16, e] at h
theorem q_lay_tx {c : Nat} (h : (q_lay c).1 = 101) : c = 120 ∨ c = 121 := by
  rcases Nat.lt_or_ge c 128 with q | q
  · have : ∀ c, c < 128 → (q_lay c).1 = 101 → c = 120 ∨ c = 121 := by decide +kernel
    exact this c q h
  · exfalso
    have e : q_cells[c / 16]? = none := List.getElem?_eq_none (by show 8 ≤ c / 16; omega)
    simp [q_lay, q_g16, e] at h
theorem q_lay_rf {c : Nat} (h : (q_lay c).1 = 3) : c = 40 := by
  have h2 := q_lay_lt (c := c) (by omega)
  have : ∀ c, c < 118 → (q_lay c).1 = 3 → c = 40 := by decide +kernel
  exact this c h2 h
theorem q_lay_ob {c b : Nat} (h : (q_lay c).1 = b + 4) (hb : b < 12) : c < 118 ∧ (q_lay c).2.2.length = (q_T b).2.2 := by
  have h2 := q_lay_lt (c := c) (by omega)
  refine ⟨h2, ?_⟩
  have : ∀ c, c < 118 → ∀ b, b < 12 → (q_lay c).1 = b + 4 → (q_lay c).2.2.length = (q_T b).2.2 := by decide +kernel
  exact this c h2 b hb h
theorem q_cl_at {b : Nat} (h : b < 12) : q_cl[b]? = some (q_T b) := by
  have : ∀ b, b < 12 → q_cl[b]? = some (q_cl.getD b ("", TX0, 0)) := by
    intro b hb
    rw [List.getElem?_eq_getElem (by show b < 12; exact hb)]
    simp [List.getD_eq_getElem?_getD, List.getElem?_eq_getElem (show b < q_cl.length from hb)]
  exact this b h
theorem q_lv_mem {ad : Nat → Nat} {L : QL} {i : Nat} {v : Value} : (i, v) ∈ q_lv ad L ↔ ∃ x, L[i]? = some (some x) ∧ v = q_v ad x := by
  unfold q_lv
  rw [List.mem_filterMap]
  constructor
  · rintro ⟨j, hj, h⟩
    split at h
    · rename_i x hx
      simp only [Option.some.injEq, Prod.mk.injEq] at h
      obtain ⟨rfl, rfl⟩ := h
      exact ⟨x, hx, rfl⟩
    · cases h
  · rintro ⟨x, hx, rfl⟩
    refine ⟨i, List.mem_range.mpr (List.getElem?_eq_some_iff.mp hx).1, ?_⟩
    rw [hx]
theorem q_v_cat (ad : Nat → Nat) (x : QV) : (q_v ad x).category = 1 := by cases x <;> rfl
theorem q_lv_get {ad : Nat → Nat} {ls : Array Slot} {nL : Nat} {L : QL} (h : lv_has ls nL (q_lv ad L)) {i : Nat} {x : QV} (hx : L[i]? = some (some x)) : ls[i]? = some (.val (q_v ad x)) := h.2.2 (i, q_v ad x) (q_lv_mem.mpr ⟨x, hx, rfl⟩)
theorem q_lv_put {ad : Nat → Nat} {ls : Array Slot} {nL : Nat} {L : QL} {a : Nat} {y : QV} (ha : a < L.length) (h : lv_has ls nL ((a, q_v ad y) :: (q_lv ad L).filter (fun q => !(q.1 == a) && !(q.1 + 1 == a && q.2.category == 2)))) : lv_has ls nL (q_lv ad (L.set a (some y))) := by
  refine ⟨h.1, h.2.1, ?_⟩
  rintro ⟨i, v⟩ hq
  obtain ⟨x, hx, rfl⟩ := q_lv_mem.mp hq
  by_cases hi : i = a
  · subst hi
    rw [List.getElem?_set_self ha] at hx
    simp only [Option.some.injEq] at hx
    subst hx
    exact h.2.2 _ List.mem_cons_self
  · rw [List.getElem?_set_ne (Ne.symm hi)] at hx
    refine h.2.2 _ (List.mem_cons_of_mem _ (List.mem_filter.mpr ⟨q_lv_mem.mpr ⟨x, hx, rfl⟩, ?_⟩))
    simp [hi, q_v_cat]
theorem q_fd_at {ad : Nat → Nat} {f : Nat → Int32} {rs : List (Option Nat)} {a : Nat} (h : a < rs.length) : (q_fd ad f rs)[a]? = some (q_f1 ad f rs a) := by
  simp [q_fd, h]
theorem q_fd_set {ad : Nat → Nat} {f : Nat → Int32} {rs : List (Option Nat)} {a : Nat} {x : Int32} (h : rs[a]? = some none) : q_fd ad (upd f a x) rs = (q_fd ad f rs).set a (.int x) := by
  have hl := (List.getElem?_eq_some_iff.mp h).1
  apply List.ext_getElem?
  intro i
  by_cases hi : i = a
  · subst hi
    rw [List.getElem?_set_self (by simp [q_fd, hl]), q_fd_at hl]
    simp [q_f1, h, upd]
  · rw [List.getElem?_set_ne (Ne.symm hi)]
    rcases Nat.lt_or_ge i rs.length with q | q
    · rw [q_fd_at q, q_fd_at q]
      simp [q_f1, upd, hi]
    · rw [List.getElem?_eq_none (by simp [q_fd, q]), List.getElem?_eq_none (by simp [q_fd, q])]
theorem q_en_a {ad : Nat → Nat} {ca : Nat → ClassId} {c t : Nat} {f : Nat → Int32} (h : (q_lay c).1 = t) (ht : t < 3) : q_en ad ca (q_lay c) f = .inl (ca t, (q_lay c).2.1, .inl f) := by
  rcases hy : q_lay c with ⟨u, n, rs⟩
  rw [hy] at h
  simp only at h
  subst h
  rcases (show u = 0 ∨ u = 1 ∨ u = 2 by omega) with rfl | rfl | rfl <;> rfl
theorem q_en_o {ad : Nat → Nat} {ca : Nat → ClassId} {c b : Nat} {f : Nat → Int32} (h : (q_lay c).1 = b + 4) : q_en ad ca (q_lay c) f = .inr (b, q_fd ad f (q_lay c).2.2) := by
  rcases hy : q_lay c with ⟨u, n, rs⟩
  rw [hy] at h
  simp only at h
  subst h
  rfl
theorem q_D {ad : Nat → Nat} {ca : Nat → ClassId} {σ : QS} (hi : ∀ i j, i < 118 → j < 118 → ad i = ad j → i = j) : va_D (q_A ad) (q_ws ad ca σ) := by
  constructor
  · intro i j p q hp hq e
    rcases Nat.lt_or_ge i 118 with h1 | h1
    · rcases Nat.lt_or_ge j 118 with h2 | h2
      · rw [q_ws_at h1] at hp
        rw [q_ws_at h2] at hq
        simp only [Option.some.injEq] at hp hq
        subst hp; subst hq
        exact hi i j h1 h2 e
      · rw [q_ws_no h2] at hq; cases hq
    · rw [q_ws_no h1] at hp; cases hp
  · intro k q hk
    rcases Nat.lt_or_ge k 118 with h1 | h1
    · rw [q_ws_at h1] at hk
      simp only [Option.some.injEq] at hk
      subst hk
      exact ⟨k, h1, rfl⟩
    · rw [q_ws_no h1] at hk; cases hk
end
section
theorem q_lk60 : Cond.fieldLink RX3 60 "BellHours$Law" "LEAST" "[I" ∈ gw := gw_of (q_tb_in (j := 3) (List.mem_of_getElem? (i := 153) (by decide +kernel))) rfl
theorem q_lk63 : Cond.fieldLink RX3 63 "BellHours$Law" "MOST" "[I" ∈ gw := gw_of (q_tb_in (j := 3) (List.mem_of_getElem? (i := 155) (by decide +kernel))) rfl
theorem q_wmx1 : Cond.static Lib.Math.max.name ∈ gw := gw_of (q_tb_in (j := 2) (List.mem_of_getElem? (i := 199) (by decide +kernel))) rfl
theorem q_wmx2 : Cond.initialized "java/lang/Math" ∈ gw := gw_of (q_tb_in (j := 1) (List.mem_of_getElem? (i := 14) (by decide +kernel))) rfl
theorem q_wmx3 : Cond.code Lib.Math.max.name Lib.Math.max.code 2 (some .int) ∈ gw := gw_of (q_tb_in (j := 2) (List.mem_of_getElem? (i := 200) (rfl))) rfl
theorem q_wmn1 : Cond.static Lib.Math.min.name ∈ gw := gw_of (q_tb_in (j := 2) (List.mem_of_getElem? (i := 158) (by decide +kernel))) rfl
theorem q_wmn3 : Cond.code Lib.Math.min.name Lib.Math.min.code 2 (some .int) ∈ gw := gw_of (q_tb_in (j := 2) (List.mem_of_getElem? (i := 159) (rfl))) rfl
theorem q_wac1 : Cond.native arraycopyName ∈ gw := gw_of (q_tb_in (j := 3) (List.mem_of_getElem? (i := 85) (by decide +kernel))) rfl
theorem q_wac2 : Cond.static arraycopyName ∈ gw := gw_of (q_tb_in (j := 3) (List.mem_of_getElem? (i := 84) (by decide +kernel))) rfl
theorem q_wac3 : Cond.initialized "java/lang/System" ∈ gw := gw_of (q_tb_in (j := 1) (List.mem_of_getElem? (i := 20) (by decide +kernel))) rfl
theorem q_wix1 : Cond.instanceMethod yJ0_indexOf_0f7a4 ∈ gw := gw_of (q_tb_in (j := 2) (List.mem_of_getElem? (i := 171) (by decide +kernel))) rfl
theorem q_wix2 : Cond.selects RJ0 yJ0_indexOf_0f7a4 yJ0_indexOf_0f7a4 ∈ gw := gw_of (q_tb_in (j := 2) (List.mem_of_getElem? (i := 172) (by decide +kernel))) rfl
theorem q_wix3 : Cond.initialized RJ0 ∈ gw := gw_of (q_tb_in (j := 1) (List.mem_of_getElem? (i := 15) (by decide +kernel))) rfl
theorem q_wix4 : Cond.code yJ0_indexOf_0f7a4 cJ0_indexOf_0f7a4 2 (some .int) ∈ gw := gw_of (q_tb_in (j := 2) (List.mem_of_getElem? (i := 173) (rfl))) rfl
theorem gw_good : ∀ w ∈ gw, ((w.onTables && w.keeps) = true ∨ ∃ ty, w = .arrayClass ty) := fun w h => good_of_word (List.mem_filter.mp h).2
theorem gw_at {s U : State} {args a' : Array Value} (hts : ∀ w ∈ gw, w.before args s = true) (hW : s.WarmedH U.vm) : ∀ w ∈ gw, w.before a' U = true := fun w h => word_at hW (gw_good w h) (hts w h)
set_option maxRecDepth 100000 in
theorem q_cl_in : ∀ r ∈ q_cl, ∀ w ∈ u_ws r.1 r.2.1 r.2.2, w ∈ tables_1_1 ∨ w ∈ tables_1_4 ∨ w ∈ tables_1_5 ∨ w ∈ tables_1_2 ∨ w ∈ tables_1_3 ∨ w ∈ tables_1_6 ∨ w ∈ tables_1_7 := by decide +kernel
set_option maxRecDepth 100000 in
theorem q_cl_nm : ∀ r ∈ q_cl, ∀ a, a < r.2.2 → ∀ b, b < r.2.2 → a ≠ b → (r.2.1 a).2.1 ≠ (r.2.1 b).2.1 := by decide +kernel
set_option maxRecDepth 100000 in
theorem q_cl_ty : ∀ r ∈ q_cl, ∀ a, a < r.2.2 → parseFieldDescriptor (r.2.1 a).2.2.1 = some ((parseFieldDescriptor (r.2.1 a).2.2.1).getD .int) := by decide +kernel
set_option maxRecDepth 100000 in
theorem q_flk_rng : ∀ e ∈ q_flk, e.2.2.2 < (q_T e.2.2.1).2.2 ∧ e.2.2.1 < 12 := by decide +kernel
set_option maxRecDepth 100000 in
theorem q_nlk_rng : ∀ e ∈ q_nlk, e.2.2.2 < (q_T e.2.2.1).2.2 ∧ e.2.2.1 < 12 := by decide +kernel
theorem q_T_in {b : Nat} (h : b < 12) : q_T b ∈ q_cl := List.mem_of_getElem? (q_cl_at h)
theorem u_ws_good {C : String} {T : u_T} {N : Nat} {w : Cond} (h : w ∈ u_ws C T N) : goodWord w = true := by
  obtain ⟨k, -, rfl⟩ := List.mem_map.mp h
  unfold u_lay
  split <;> rfl
theorem q_T_ws {b : Nat} (h : b < 12) : ∀ w ∈ u_ws (q_T b).1 (q_T b).2.1 (q_T b).2.2, w ∈ gw := by
  intro w hw
  refine gw_of ?_ (u_ws_good hw)
  rcases q_cl_in _ (q_T_in h) w hw with q | q | q | q | q | q | q
  · exact q_tb_in (j := 1) q
  · exact q_tb_in (j := 4) q
  · exact q_tb_in (j := 5) q
  · exact q_tb_in (j := 2) q
  · exact q_tb_in (j := 3) q
  · exact q_tb_in (j := 6) q
  · exact q_tb_in (j := 7) q
/-- what lies outside the two objects: statics, the two texts, the links between nest mates -/
def q_Out (ad : Nat → Nat) (U : State) (H : Heap) : Prop :=
  (∀ e ∈ q_nlk, va_Nw (q_nw e) U) ∧
  (va_Z "BellHours$Law" "LEAST" "[I" (.ref (ad 118)) (q_A ad) U H ∧ va_T .int (ad 118) 7 (fun j => .int (q_ro 118 j)) (q_A ad) U H) ∧
  (va_Z "BellHours$Law" "MOST" "[I" (.ref (ad 119)) (q_A ad) U H ∧ va_T .int (ad 119) 7 (fun j => .int (q_ro 119 j)) (q_A ad) U H) ∧
  vk_R RX5 47 "nsdhwfc" (ad 120) U ∧ vk_R RX5 111 "karsdhtop" (ad 121) U ∧
  va_Z "java/lang/String" "COMPACT_STRINGS" "Z" (.int 1) (q_A ad) U H ∧ ∃ adV : Nat → Nat, vk_S 2 [7, 9] [q_str1, q_str2] (fun i => ad (120 + i)) adV (q_A ad) U H
theorem q_Out_moved {ad : Nat → Nat} {s U : State} {H H1 : Heap} (h : q_Out ad s H) (hW : s.WarmedH U.vm) (hk : ∀ q : Nat, q < H.size → ¬ q_A ad q → H1[q]? = H[q]?) : q_Out ad U H1 := by
  obtain ⟨h1, ⟨h2, h3⟩, ⟨h4, h5⟩, h6, h7, h8, adV, h9⟩ := h
  have hal := hW.alike
  exact ⟨fun e he => va_Nw.warmF hW (h1 e he), ⟨(h2.kept hk).moved hal, (h3.kept hk).moved hal⟩, ⟨(h4.kept hk).moved hal, (h5.kept hk).moved hal⟩, h6.warm hW, h7.warm hW, (h8.kept hk).moved hal, adV, (h9.kept hk).moved hal⟩
def q_rmI : Room := { frames := 6, cells := 0, slots := 0, locals := 300 }
/-- String.indexOf on the two texts -/
def q_Ix (l : Launch) (ad : Nat → Nat) : Prop := ∀ (c : Nat) (x : Int32), (q_lay c).1 = 101 → Met l yJ0_indexOf_0f7a4 (Cond.code yJ0_indexOf_0f7a4 cJ0_indexOf_0f7a4 2 (some .int) :: gw) q_rmI (va_Pc [.ref (ad c), .int x] (fun U => q_Out ad U U.heap)) (fun _ st oc t => oc = .returned (some (.int (q_ix (q_txt c) x 0))) ∧ t.heap = st.heap) 0 0 (fun _ => False)
def q_Cx (p : Program) (l : Launch) (R : Room) (s : State) (m : MethodId) (args : Array Value) (c0 : Code) (ad : Nat → Nat) (ca : Nat → ClassId) (dC : Nat → ClassId) (dI : Nat → Nat → Nat) (cc : ByteArray) (own nL : Nat) : Prop :=
  p.tables.exec = Jvm.exec ∧ c0.code = cc ∧ c0.maxLocals = nL ∧ s.vm.findClass (q_own own) = some m.cls ∧ (∀ w ∈ gw, w.before args s = true) ∧ va_K (dC, dI) q_cl (q_tys ca) s ∧ q_Out ad s s.heap ∧ (∀ i j, i < 118 → j < 118 → ad i = ad j → i = j) ∧ 8 ≤ R.frames ∧ 400 ≤ R.locals ∧ q_Ix l ad
def q_W (p : Program) (l : Launch) (e : Env) (R : Room) (s : State) (m : MethodId) (args : Array Value) (below : List Frame) (meth : Method) (c0 : Code) (Qs : State → Prop) (ad : Nat → Nat) (ca : Nat → ClassId) (dC : Nat → ClassId) (dI : Nat → Nat → Nat) (nL : Nat) (pc : Nat) (L : QL) (st : List QV) (σ : QS) : Prop :=
  L.length = nL → ∀ (ls : Array Slot) (H : Heap) (locs : List Loc), lv_has ls nL (q_lv ad L) → va_P (dC, dI) q_cl (q_ws ad ca σ) H → va_S (q_A ad) s.heap H locs → W p l e R s m args below meth c0 H locs 0 0 Qs (F0 m pc ls (st.map (q_v ad)))
theorem qs_iconst {p : Program} {l : Launch} {e : Env} {R : Room} {s : State} {m : MethodId} {args : Array Value} {below : List Frame} {meth : Method} {c0 : Code} {Qs : State → Prop} {ad : Nat → Nat} {ca : Nat → ClassId} {dC : Nat → ClassId} {dI : Nat → Nat → Nat} {cc : ByteArray} {own nL : Nat} (X : q_Cx p l R s m args c0 ad ca dC dI cc own nL) {pc : Nat} {L : QL} {st : List QV} {σ : QS} {n : Int} {v : Int32} (hd : decode cc pc = .ok (.iconst n, 1)) (hv : Int32.ofInt n = v) (k : q_W p l e R s m args below meth c0 Qs ad ca dC dI nL (pc + 1) (L) (.inl v :: st) σ) : q_W p l e R s m args below meth c0 Qs ad ca dC dI nL (pc) (L) (st) σ := by
  obtain ⟨hx, hb, hml, hown, hts, hK, hZ, hi, hf, hlo, hIx⟩ := X
  intro hL ls H locs hl hP hS
  exact lv_iconst hx hb hd hv (k hL ls H locs hl hP hS)
theorem qs_bipush {p : Program} {l : Launch} {e : Env} {R : Room} {s : State} {m : MethodId} {args : Array Value} {below : List Frame} {meth : Method} {c0 : Code} {Qs : State → Prop} {ad : Nat → Nat} {ca : Nat → ClassId} {dC : Nat → ClassId} {dI : Nat → Nat → Nat} {cc : ByteArray} {own nL : Nat} (X : q_Cx p l R s m args c0 ad ca dC dI cc own nL) {pc : Nat} {L : QL} {st : List QV} {σ : QS} {n : Int} {v : Int32} (hd : decode cc pc = .ok (.bipush n, 2)) (hv : (Int8.ofInt n).toInt32 = v) (k : q_W p l e R s m args below meth c0 Qs ad ca dC dI nL (pc + 2) (L) (.inl v :: st) σ) : q_W p l e R s m args below meth c0 Qs ad ca dC dI nL (pc) (L) (st) σ := by
  obtain ⟨hx, hb, hml, hown, hts, hK, hZ, hi, hf, hlo, hIx⟩ := X
  intro hL ls H locs hl hP hS
  exact lv_bipush hx hb hd hv (k hL ls H locs hl hP hS)
theorem qs_sipush {p : Program} {l : Launch} {e : Env} {R : Room} {s : State} {m : MethodId} {args : Array Value} {below : List Frame} {meth : Method} {c0 : Code} {Qs : State → Prop} {ad : Nat → Nat} {ca : Nat → ClassId} {dC : Nat → ClassId} {dI : Nat → Nat → Nat} {cc : ByteArray} {own nL : Nat} (X : q_Cx p l R s m args c0 ad ca dC dI cc own nL) {pc : Nat} {L : QL} {st : List QV} {σ : QS} {n : Int} {v : Int32} (hd : decode cc pc = .ok (.sipush n, 3)) (hv : (Int16.ofInt n).toInt32 = v) (k : q_W p l e R s m args below meth c0 Qs ad ca dC dI nL (pc + 3) (L) (.inl v :: st) σ) : q_W p l e R s m args below meth c0 Qs ad ca dC dI nL (pc) (L) (st) σ := by
  obtain ⟨hx, hb, hml, hown, hts, hK, hZ, hi, hf, hlo, hIx⟩ := X
  intro hL ls H locs hl hP hS
  exact lv_sipush hx hb hd hv (k hL ls H locs hl hP hS)
theorem qs_ldc {p : Program} {l : Launch} {e : Env} {R : Room} {s : State} {m : MethodId} {args : Array Value} {below : List Frame} {meth : Method} {c0 : Code} {Qs : State → Prop} {ad : Nat → Nat} {ca : Nat → ClassId} {dC : Nat → ClassId} {dI : Nat → Nat → Nat} {cc : ByteArray} {own nL : Nat} (X : q_Cx p l R s m args c0 ad ca dC dI cc own nL) {pc : Nat} {L : QL} {st : List QV} {σ : QS} {i : Nat} {v : Int32} (hd : decode cc pc = .ok (.ldc i, 2)) (hv : (own, i, v) ∈ q_cnk) (k : q_W p l e R s m args below meth c0 Qs ad ca dC dI nL (pc + 2) (L) (.inl v :: st) σ) : q_W p l e R s m args below meth c0 Qs ad ca dC dI nL (pc) (L) (st) σ := by
  obtain ⟨hx, hb, hml, hown, hts, hK, hZ, hi, hf, hlo, hIx⟩ := X
  intro hL ls H locs hl hP hS
  exact lv_ldc hx hb hown (hts _ (gw_of (q_cnk_in _ hv) rfl)) hd (k hL ls H locs hl hP hS)
theorem qs_ldcw {p : Program} {l : Launch} {e : Env} {R : Room} {s : State} {m : MethodId} {args : Array Value} {below : List Frame} {meth : Method} {c0 : Code} {Qs : State → Prop} {ad : Nat → Nat} {ca : Nat → ClassId} {dC : Nat → ClassId} {dI : Nat → Nat → Nat} {cc : ByteArray} {own nL : Nat} (X : q_Cx p l R s m args c0 ad ca dC dI cc own nL) {pc : Nat} {L : QL} {st : List QV} {σ : QS} {i : Nat} {v : Int32} (hd : decode cc pc = .ok (.ldc_w i, 3)) (hv : (own, i, v) ∈ q_cnk) (k : q_W p l e R s m args below meth c0 Qs ad ca dC dI nL (pc + 3) (L) (.inl v :: st) σ) : q_W p l e R s m args below meth c0 Qs ad ca dC dI nL (pc) (L) (st) σ := by
  obtain ⟨hx, hb, hml, hown, hts, hK, hZ, hi, hf, hlo, hIx⟩ := X
  intro hL ls H locs hl hP hS
  exact lv_ldcw hx hb hown (hts _ (gw_of (q_cnk_in _ hv) rfl)) hd (k hL ls H locs hl hP hS)
theorem qs_ldcs {p : Program} {l : Launch} {e : Env} {R : Room} {s : State} {m : MethodId} {args : Array Value} {below : List Frame} {meth : Method} {c0 : Code} {Qs : State → Prop} {ad : Nat → Nat} {ca : Nat → ClassId} {dC : Nat → ClassId} {dI : Nat → Nat → Nat} {cc : ByteArray} {own nL : Nat} (X : q_Cx p l R s m args c0 ad ca dC dI cc own nL) {pc : Nat} {L : QL} {st : List QV} {σ : QS} {i a : Nat} (hd : decode cc pc = .ok (.ldc i, 2)) (hv : own = 5 ∧ (i = 47 ∧ a = 120 ∨ i = 111 ∧ a = 121)) (k : q_W p l e R s m args below meth c0 Qs ad ca dC dI nL (pc + 2) (L) (.inr a :: st) σ) : q_W p l e R s m args below meth c0 Qs ad ca dC dI nL (pc) (L) (st) σ := by
  obtain ⟨hx, hb, hml, hown, hts, hK, hZ, hi, hf, hlo, hIx⟩ := X
  intro hL ls H locs hl hP hS
  obtain ⟨rfl, h⟩ := hv
  rcases h with ⟨rfl, rfl⟩ | ⟨rfl, rfl⟩
  · exact va_ldcS hx hb hown hZ.2.2.2.1 hd (k hL ls H locs hl hP hS)
  · exact va_ldcS hx hb hown hZ.2.2.2.2.1 hd (k hL ls H locs hl hP hS)
theorem qs_iload_n {p : Program} {l : Launch} {e : Env} {R : Room} {s : State} {m : MethodId} {args : Array Value} {below : List Frame} {meth : Method} {c0 : Code} {Qs : State → Prop} {ad : Nat → Nat} {ca : Nat → ClassId} {dC : Nat → ClassId} {dI : Nat → Nat → Nat} {cc : ByteArray} {own nL : Nat} (X : q_Cx p l R s m args c0 ad ca dC dI cc own nL) {pc : Nat} {L : QL} {st : List QV} {σ : QS} {k0 : Fin 4} {a : Nat} (ha : k0.val = a) {x : Int32} (hd : decode cc pc = .ok (.iload_n k0, 1)) (hq : L[a]? = some (some (.inl x))) (k : q_W p l e R s m args below meth c0 Qs ad ca dC dI nL (pc + 1) (L) (.inl x :: st) σ) : q_W p l e R s m args below meth c0 Qs ad ca dC dI nL (pc) (L) (st) σ := by
  obtain ⟨hx, hb, hml, hown, hts, hK, hZ, hi, hf, hlo, hIx⟩ := X
  intro hL ls H locs hl hP hS
  exact lv_iload_n hx hb hd ha (q_lv_get hl hq) (k hL ls H locs hl hP hS)
theorem qs_iload {p : Program} {l : Launch} {e : Env} {R : Room} {s : State} {m : MethodId} {args : Array Value} {below : List Frame} {meth : Method} {c0 : Code} {Qs : State → Prop} {ad : Nat → Nat} {ca : Nat → ClassId} {dC : Nat → ClassId} {dI : Nat → Nat → Nat} {cc : ByteArray} {own nL : Nat} (X : q_Cx p l R s m args c0 ad ca dC dI cc own nL) {pc : Nat} {L : QL} {st : List QV} {σ : QS} {a : Nat} {x : Int32} (hd : decode cc pc = .ok (.iload a, 2)) (hq : L[a]? = some (some (.inl x))) (k : q_W p l e R s m args below meth c0 Qs ad ca dC dI nL (pc + 2) (L) (.inl x :: st) σ) : q_W p l e R s m args below meth c0 Qs ad ca dC dI nL (pc) (L) (st) σ := by
  obtain ⟨hx, hb, hml, hown, hts, hK, hZ, hi, hf, hlo, hIx⟩ := X
  intro hL ls H locs hl hP hS
  exact lv_iload hx hb hd (q_lv_get hl hq) (k hL ls H locs hl hP hS)
theorem qs_aload_n {p : Program} {l : Launch} {e : Env} {R : Room} {s : State} {m : MethodId} {args : Array Value} {below : List Frame} {meth : Method} {c0 : Code} {Qs : State → Prop} {ad : Nat → Nat} {ca : Nat → ClassId} {dC : Nat → ClassId} {dI : Nat → Nat → Nat} {cc : ByteArray} {own nL : Nat} (X : q_Cx p l R s m args c0 ad ca dC dI cc own nL) {pc : Nat} {L : QL} {st : List QV} {σ : QS} {k0 : Fin 4} {a : Nat} (ha : k0.val = a) {x : Nat} (hd : decode cc pc = .ok (.aload_n k0, 1)) (hq : L[a]? = some (some (.inr x))) (k : q_W p l e R s m args below meth c0 Qs ad ca dC dI nL (pc + 1) (L) (.inr x :: st) σ) : q_W p l e R s m args below meth c0 Qs ad ca dC dI nL (pc) (L) (st) σ := by
  obtain ⟨hx, hb, hml, hown, hts, hK, hZ, hi, hf, hlo, hIx⟩ := X
  intro hL ls H locs hl hP hS
  exact lv_aload_n hx hb hd ha (q_lv_get hl hq) (k hL ls H locs hl hP hS)
theorem qs_aload {p : Program} {l : Launch} {e : Env} {R : Room} {s : State} {m : MethodId} {args : Array Value} {below : List Frame} {meth : Method} {c0 : Code} {Qs : State → Prop} {ad : Nat → Nat} {ca : Nat → ClassId} {dC : Nat → ClassId} {dI : Nat → Nat → Nat} {cc : ByteArray} {own nL : Nat} (X : q_Cx p l R s m args c0 ad ca dC dI cc own nL) {pc : Nat} {L : QL} {st : List QV} {σ : QS} {a : Nat} {x : Nat} (hd : decode cc pc = .ok (.aload a, 2)) (hq : L[a]? = some (some (.inr x))) (k : q_W p l e R s m args below meth c0 Qs ad ca dC dI nL (pc + 2) (L) (.inr x :: st) σ) : q_W p l e R s m args below meth c0 Qs ad ca dC dI nL (pc) (L) (st) σ := by
  obtain ⟨hx, hb, hml, hown, hts, hK, hZ, hi, hf, hlo, hIx⟩ := X
  intro hL ls H locs hl hP hS
  exact lv_aload hx hb hd (q_lv_get hl hq) (k hL ls H locs hl hP hS)
theorem qs_istore_n {p : Program} {l : Launch} {e : Env} {R : Room} {s : State} {m : MethodId} {args : Array Value} {below : List Frame} {meth : Method} {c0 : Code} {Qs : State → Prop} {ad : Nat → Nat} {ca : Nat → ClassId} {dC : Nat → ClassId} {dI : Nat → Nat → Nat} {cc : ByteArray} {own nL : Nat} (X : q_Cx p l R s m args c0 ad ca dC dI cc own nL) {pc : Nat} {L : QL} {st : List QV} {σ : QS} {k0 : Fin 4} {a : Nat} (ha : k0.val = a) {x : Int32} (hd : decode cc pc = .ok (.istore_n k0, 1)) (hq : a < L.length) (k : q_W p l e R s m args below meth c0 Qs ad ca dC dI nL (pc + 1) (L.set a (some (.inl x))) (st) σ) : q_W p l e R s m args below meth c0 Qs ad ca dC dI nL (pc) (L) (.inl x :: st) σ := by
  obtain ⟨hx, hb, hml, hown, hts, hK, hZ, hi, hf, hlo, hIx⟩ := X
  intro hL ls H locs hl hP hS
  exact lv_istore_n hx hb hd ha hl (by omega) rfl (fun ls2 hl2 => k (by rw [List.length_set]; exact hL) ls2 H locs (q_lv_put hq hl2) hP hS)
theorem qs_istore {p : Program} {l : Launch} {e : Env} {R : Room} {s : State} {m : MethodId} {args : Array Value} {below : List Frame} {meth : Method} {c0 : Code} {Qs : State → Prop} {ad : Nat → Nat} {ca : Nat → ClassId} {dC : Nat → ClassId} {dI : Nat → Nat → Nat} {cc : ByteArray} {own nL : Nat} (X : q_Cx p l R s m args c0 ad ca dC dI cc own nL) {pc : Nat} {L : QL} {st : List QV} {σ : QS} {a : Nat} {x : Int32} (hd : decode cc pc = .ok (.istore a, 2)) (hq : a < L.length) (k : q_W p l e R s m args below meth c0 Qs ad ca dC dI nL (pc + 2) (L.set a (some (.inl x))) (st) σ) : q_W p l e R s m args below meth c0 Qs ad ca dC dI nL (pc) (L) (.inl x :: st) σ := by
  obtain ⟨hx, hb, hml, hown, hts, hK, hZ, hi, hf, hlo, hIx⟩ := X
  intro hL ls H locs hl hP hS
  exact lv_istore hx hb hd hl (by omega) rfl (fun ls2 hl2 => k (by rw [List.length_set]; exact hL) ls2 H locs (q_lv_put hq hl2) hP hS)
theorem q_lv_idx {ad : Nat → Nat} {L : QL} {a : Nat} {x : QV} (h : L[a]? = some (some x)) : ∃ k : Nat, (q_lv ad L)[k]? = some (a, q_v ad x) := List.getElem?_of_mem (q_lv_mem.mpr ⟨x, h, rfl⟩)
theorem qs_iinc {p : Program} {l : Launch} {e : Env} {R : Room} {s : State} {m : MethodId} {args : Array Value} {below : List Frame} {meth : Method} {c0 : Code} {Qs : State → Prop} {ad : Nat → Nat} {ca : Nat → ClassId} {dC : Nat → ClassId} {dI : Nat → Nat → Nat} {cc : ByteArray} {own nL : Nat} (X : q_Cx p l R s m args c0 ad ca dC dI cc own nL) {pc : Nat} {L : QL} {st : List QV} {σ : QS} {a : Nat} {n : Int} {v x : Int32} (hd : decode cc pc = .ok (.iinc a n, 3)) (hv : Int32.ofInt n = v) (hq : L[a]? = some (some (.inl x))) (k : q_W p l e R s m args below meth c0 Qs ad ca dC dI nL (pc + 3) (L.set a (some (.inl (x + v)))) (st) σ) : q_W p l e R s m args below meth c0 Qs ad ca dC dI nL (pc) (L) (st) σ := by
  obtain ⟨hx, hb, hml, hown, hts, hK, hZ, hi, hf, hlo, hIx⟩ := X
  intro hL ls H locs hl hP hS
  have hq2 := (List.getElem?_eq_some_iff.mp hq).1
  obtain ⟨j, hj⟩ := q_lv_idx (ad := ad) hq
  exact lv_iinc hx hb hd hl hj (by rw [hv]) (by omega) rfl (fun ls2 hl2 => k (by rw [List.length_set]; exact hL) ls2 H locs (q_lv_put (y := .inl (x + v)) hq2 hl2) hP hS)
theorem qs_iadd {p : Program} {l : Launch} {e : Env} {R : Room} {s : State} {m : MethodId} {args : Array Value} {below : List Frame} {meth : Method} {c0 : Code} {Qs : State → Prop} {ad : Nat → Nat} {ca : Nat → ClassId} {dC : Nat → ClassId} {dI : Nat → Nat → Nat} {cc : ByteArray} {own nL : Nat} (X : q_Cx p l R s m args c0 ad ca dC dI cc own nL) {pc : Nat} {L : QL} {st : List QV} {σ : QS} {x y : Int32} (hd : decode cc pc = .ok (.iadd, 1)) (k : q_W p l e R s m args below meth c0 Qs ad ca dC dI nL (pc + 1) (L) (.inl (x + y) :: st) σ) : q_W p l e R s m args below meth c0 Qs ad ca dC dI nL (pc) (L) (.inl y :: .inl x :: st) σ := by
  obtain ⟨hx, hb, hml, hown, hts, hK, hZ, hi, hf, hlo, hIx⟩ := X
  intro hL ls H locs hl hP hS
  exact lv_iadd hx hb hd (k hL ls H locs hl hP hS)
theorem qs_isub {p : Program} {l : Launch} {e : Env} {R : Room} {s : State} {m : MethodId} {args : Array Value} {below : List Frame} {meth : Method} {c0 : Code} {Qs : State → Prop} {ad : Nat → Nat} {ca : Nat → ClassId} {dC : Nat → ClassId} {dI : Nat → Nat → Nat} {cc : ByteArray} {own nL : Nat} (X : q_Cx p l R s m args c0 ad ca dC dI cc own nL) {pc : Nat} {L : QL} {st : List QV} {σ : QS} {x y : Int32} (hd : decode cc pc = .ok (.isub, 1)) (k : q_W p l e R s m args below meth c0 Qs ad ca dC dI nL (pc + 1) (L) (.inl (x - y) :: st) σ) : q_W p l e R s m args below meth c0 Qs ad ca dC dI nL (pc) (L) (.inl y :: .inl x :: st) σ := by
  obtain ⟨hx, hb, hml, hown, hts, hK, hZ, hi, hf, hlo, hIx⟩ := X
  intro hL ls H locs hl hP hS
  exact lv_isub hx hb hd (k hL ls H locs hl hP hS)
theorem qs_imul {p : Program} {l : Launch} {e : Env} {R : Room} {s : State} {m : MethodId} {args : Array Value} {below : List Frame} {meth : Method} {c0 : Code} {Qs : State → Prop} {ad : Nat → Nat} {ca : Nat → ClassId} {dC : Nat → ClassId} {dI : Nat → Nat → Nat} {cc : ByteArray} {own nL : Nat} (X : q_Cx p l R s m args c0 ad ca dC dI cc own nL) {pc : Nat} {L : QL} {st : List QV} {σ : QS} {x y : Int32} (hd : decode cc pc = .ok (.imul, 1)) (k : q_W p l e R s m args below meth c0 Qs ad ca dC dI nL (pc + 1) (L) (.inl (x * y) :: st) σ) : q_W p l e R s m args below meth c0 Qs ad ca dC dI nL (pc) (L) (.inl y :: .inl x :: st) σ := by
  obtain ⟨hx, hb, hml, hown, hts, hK, hZ, hi, hf, hlo, hIx⟩ := X
  intro hL ls H locs hl hP hS
  exact lv_imul hx hb hd (k hL ls H locs hl hP hS)
theorem qs_iand {p : Program} {l : Launch} {e : Env} {R : Room} {s : State} {m : MethodId} {args : Array Value} {below : List Frame} {meth : Method} {c0 : Code} {Qs : State → Prop} {ad : Nat → Nat} {ca : Nat → ClassId} {dC : Nat → ClassId} {dI : Nat → Nat → Nat} {cc : ByteArray} {own nL : Nat} (X : q_Cx p l R s m args c0 ad ca dC dI cc own nL) {pc : Nat} {L : QL} {st : List QV} {σ : QS} {x y : Int32} (hd : decode cc pc = .ok (.iand, 1)) (k : q_W p l e R s m args below meth c0 Qs ad ca dC dI nL (pc + 1) (L) (.inl (x &&& y) :: st) σ) : q_W p l e R s m args below meth c0 Qs ad ca dC dI nL (pc) (L) (.inl y :: .inl x :: st) σ := by
  obtain ⟨hx, hb, hml, hown, hts, hK, hZ, hi, hf, hlo, hIx⟩ := X
  intro hL ls H locs hl hP hS
  exact lv_iand hx hb hd (k hL ls H locs hl hP hS)
theorem qs_ior {p : Program} {l : Launch} {e : Env} {R : Room} {s : State} {m : MethodId} {args : Array Value} {below : List Frame} {meth : Method} {c0 : Code} {Qs : State → Prop} {ad : Nat → Nat} {ca : Nat → ClassId} {dC : Nat → ClassId} {dI : Nat → Nat → Nat} {cc : ByteArray} {own nL : Nat} (X : q_Cx p l R s m args c0 ad ca dC dI cc own nL) {pc : Nat} {L : QL} {st : List QV} {σ : QS} {x y : Int32} (hd : decode cc pc = .ok (.ior, 1)) (k : q_W p l e R s m args below meth c0 Qs ad ca dC dI nL (pc + 1) (L) (.inl (x ||| y) :: st) σ) : q_W p l e R s m args below meth c0 Qs ad ca dC dI nL (pc) (L) (.inl y :: .inl x :: st) σ := by
  obtain ⟨hx, hb, hml, hown, hts, hK, hZ, hi, hf, hlo, hIx⟩ := X
  intro hL ls H locs hl hP hS
  exact lv_ior hx hb hd (k hL ls H locs hl hP hS)
theorem qs_ishl {p : Program} {l : Launch} {e : Env} {R : Room} {s : State} {m : MethodId} {args : Array Value} {below : List Frame} {meth : Method} {c0 : Code} {Qs : State → Prop} {ad : Nat → Nat} {ca : Nat → ClassId} {dC : Nat → ClassId} {dI : Nat → Nat → Nat} {cc : ByteArray} {own nL : Nat} (X : q_Cx p l R s m args c0 ad ca dC dI cc own nL) {pc : Nat} {L : QL} {st : List QV} {σ : QS} {x y : Int32} (hd : decode cc pc = .ok (.ishl, 1)) (k : q_W p l e R s m args below meth c0 Qs ad ca dC dI nL (pc + 1) (L) (.inl (x <<< (y &&& 31)) :: st) σ) : q_W p l e R s m args below meth c0 Qs ad ca dC dI nL (pc) (L) (.inl y :: .inl x :: st) σ := by
  obtain ⟨hx, hb, hml, hown, hts, hK, hZ, hi, hf, hlo, hIx⟩ := X
  intro hL ls H locs hl hP hS
  exact lv_ishl hx hb hd (k hL ls H locs hl hP hS)
theorem qs_ishr {p : Program} {l : Launch} {e : Env} {R : Room} {s : State} {m : MethodId} {args : Array Value} {below : List Frame} {meth : Method} {c0 : Code} {Qs : State → Prop} {ad : Nat → Nat} {ca : Nat → ClassId} {dC : Nat → ClassId} {dI : Nat → Nat → Nat} {cc : ByteArray} {own nL : Nat} (X : q_Cx p l R s m args c0 ad ca dC dI cc own nL) {pc : Nat} {L : QL} {st : List QV} {σ : QS} {x y : Int32} (hd : decode cc pc = .ok (.ishr, 1)) (k : q_W p l e R s m args below meth c0 Qs ad ca dC dI nL (pc + 1) (L) (.inl (x >>> (y &&& 31)) :: st) σ) : q_W p l e R s m args below meth c0 Qs ad ca dC dI nL (pc) (L) (.inl y :: .inl x :: st) σ := by
  obtain ⟨hx, hb, hml, hown, hts, hK, hZ, hi, hf, hlo, hIx⟩ := X
  intro hL ls H locs hl hP hS
  exact lv_ishr hx hb hd (k hL ls H locs hl hP hS)
theorem qs_iushr {p : Program} {l : Launch} {e : Env} {R : Room} {s : State} {m : MethodId} {args : Array Value} {below : List Frame} {meth : Method} {c0 : Code} {Qs : State → Prop} {ad : Nat → Nat} {ca : Nat → ClassId} {dC : Nat → ClassId} {dI : Nat → Nat → Nat} {cc : ByteArray} {own nL : Nat} (X : q_Cx p l R s m args c0 ad ca dC dI cc own nL) {pc : Nat} {L : QL} {st : List QV} {σ : QS} {x y : Int32} (hd : decode cc pc = .ok (.iushr, 1)) (k : q_W p l e R s m args below meth c0 Qs ad ca dC dI nL (pc + 1) (L) (.inl ((x.toUInt32 >>> (y.toUInt32 &&& Int32.toUInt32 31)).toInt32) :: st) σ) : q_W p l e R s m args below meth c0 Qs ad ca dC dI nL (pc) (L) (.inl y :: .inl x :: st) σ := by
  obtain ⟨hx, hb, hml, hown, hts, hK, hZ, hi, hf, hlo, hIx⟩ := X
  intro hL ls H locs hl hP hS
  exact lv_iushr hx hb hd rfl (k hL ls H locs hl hP hS)
theorem qs_idiv {p : Program} {l : Launch} {e : Env} {R : Room} {s : State} {m : MethodId} {args : Array Value} {below : List Frame} {meth : Method} {c0 : Code} {Qs : State → Prop} {ad : Nat → Nat} {ca : Nat → ClassId} {dC : Nat → ClassId} {dI : Nat → Nat → Nat} {cc : ByteArray} {own nL : Nat} (X : q_Cx p l R s m args c0 ad ca dC dI cc own nL) {pc : Nat} {L : QL} {st : List QV} {σ : QS} {x y : Int32} (hd : decode cc pc = .ok (.idiv, 1)) (hy : ¬ y = 0) (k : q_W p l e R s m args below meth c0 Qs ad ca dC dI nL (pc + 1) (L) (.inl (x / y) :: st) σ) : q_W p l e R s m args below meth c0 Qs ad ca dC dI nL (pc) (L) (.inl y :: .inl x :: st) σ := by
  obtain ⟨hx, hb, hml, hown, hts, hK, hZ, hi, hf, hlo, hIx⟩ := X
  intro hL ls H locs hl hP hS
  exact lv_idiv hx hb hd hy (k hL ls H locs hl hP hS)
theorem qs_irem {p : Program} {l : Launch} {e : Env} {R : Room} {s : State} {m : MethodId} {args : Array Value} {below : List Frame} {meth : Method} {c0 : Code} {Qs : State → Prop} {ad : Nat → Nat} {ca : Nat → ClassId} {dC : Nat → ClassId} {dI : Nat → Nat → Nat} {cc : ByteArray} {own nL : Nat} (X : q_Cx p l R s m args c0 ad ca dC dI cc own nL) {pc : Nat} {L : QL} {st : List QV} {σ : QS} {x y : Int32} (hd : decode cc pc = .ok (.irem, 1)) (hy : ¬ y = 0) (k : q_W p l e R s m args below meth c0 Qs ad ca dC dI nL (pc + 1) (L) (.inl (x - x / y * y) :: st) σ) : q_W p l e R s m args below meth c0 Qs ad ca dC dI nL (pc) (L) (.inl y :: .inl x :: st) σ := by
  obtain ⟨hx, hb, hml, hown, hts, hK, hZ, hi, hf, hlo, hIx⟩ := X
  intro hL ls H locs hl hP hS
  exact lv_irem hx hb hd hy (k hL ls H locs hl hP hS)
theorem qs_ineg {p : Program} {l : Launch} {e : Env} {R : Room} {s : State} {m : MethodId} {args : Array Value} {below : List Frame} {meth : Method} {c0 : Code} {Qs : State → Prop} {ad : Nat → Nat} {ca : Nat → ClassId} {dC : Nat → ClassId} {dI : Nat → Nat → Nat} {cc : ByteArray} {own nL : Nat} (X : q_Cx p l R s m args c0 ad ca dC dI cc own nL) {pc : Nat} {L : QL} {st : List QV} {σ : QS} {x : Int32} (hd : decode cc pc = .ok (.ineg, 1)) (k : q_W p l e R s m args below meth c0 Qs ad ca dC dI nL (pc + 1) (L) (.inl (-x) :: st) σ) : q_W p l e R s m args below meth c0 Qs ad ca dC dI nL (pc) (L) (.inl x :: st) σ := by
  obtain ⟨hx, hb, hml, hown, hts, hK, hZ, hi, hf, hlo, hIx⟩ := X
  intro hL ls H locs hl hP hS
  exact lv_ineg hx hb hd (k hL ls H locs hl hP hS)
theorem qs_i2c {p : Program} {l : Launch} {e : Env} {R : Room} {s : State} {m : MethodId} {args : Array Value} {below : List Frame} {meth : Method} {c0 : Code} {Qs : State → Prop} {ad : Nat → Nat} {ca : Nat → ClassId} {dC : Nat → ClassId} {dI : Nat → Nat → Nat} {cc : ByteArray} {own nL : Nat} (X : q_Cx p l R s m args c0 ad ca dC dI cc own nL) {pc : Nat} {L : QL} {st : List QV} {σ : QS} {x : Int32} (hd : decode cc pc = .ok (.i2c, 1)) (k : q_W p l e R s m args below meth c0 Qs ad ca dC dI nL (pc + 1) (L) (.inl ((x.toUInt32 % 65536).toInt32) :: st) σ) : q_W p l e R s m args below meth c0 Qs ad ca dC dI nL (pc) (L) (.inl x :: st) σ := by
  obtain ⟨hx, hb, hml, hown, hts, hK, hZ, hi, hf, hlo, hIx⟩ := X
  intro hL ls H locs hl hP hS
  exact lv_i2c hx hb hd rfl (k hL ls H locs hl hP hS)
theorem qs_i2b {p : Program} {l : Launch} {e : Env} {R : Room} {s : State} {m : MethodId} {args : Array Value} {below : List Frame} {meth : Method} {c0 : Code} {Qs : State → Prop} {ad : Nat → Nat} {ca : Nat → ClassId} {dC : Nat → ClassId} {dI : Nat → Nat → Nat} {cc : ByteArray} {own nL : Nat} (X : q_Cx p l R s m args c0 ad ca dC dI cc own nL) {pc : Nat} {L : QL} {st : List QV} {σ : QS} {x : Int32} (hd : decode cc pc = .ok (.i2b, 1)) (k : q_W p l e R s m args below meth c0 Qs ad ca dC dI nL (pc + 1) (L) (.inl (x.toInt8.toInt32) :: st) σ) : q_W p l e R s m args below meth c0 Qs ad ca dC dI nL (pc) (L) (.inl x :: st) σ := by
  obtain ⟨hx, hb, hml, hown, hts, hK, hZ, hi, hf, hlo, hIx⟩ := X
  intro hL ls H locs hl hP hS
  exact lv_i2b hx hb hd rfl (k hL ls H locs hl hP hS)
theorem qs_dup {p : Program} {l : Launch} {e : Env} {R : Room} {s : State} {m : MethodId} {args : Array Value} {below : List Frame} {meth : Method} {c0 : Code} {Qs : State → Prop} {ad : Nat → Nat} {ca : Nat → ClassId} {dC : Nat → ClassId} {dI : Nat → Nat → Nat} {cc : ByteArray} {own nL : Nat} (X : q_Cx p l R s m args c0 ad ca dC dI cc own nL) {pc : Nat} {L : QL} {st : List QV} {σ : QS} {x : QV} (hd : decode cc pc = .ok (.dup, 1)) (k : q_W p l e R s m args below meth c0 Qs ad ca dC dI nL (pc + 1) (L) (x :: x :: st) σ) : q_W p l e R s m args below meth c0 Qs ad ca dC dI nL (pc) (L) (x :: st) σ := by
  obtain ⟨hx, hb, hml, hown, hts, hK, hZ, hi, hf, hlo, hIx⟩ := X
  intro hL ls H locs hl hP hS
  exact lv_dup hx hb hd (q_v_cat ad x) (k hL ls H locs hl hP hS)
theorem qs_dup2 {p : Program} {l : Launch} {e : Env} {R : Room} {s : State} {m : MethodId} {args : Array Value} {below : List Frame} {meth : Method} {c0 : Code} {Qs : State → Prop} {ad : Nat → Nat} {ca : Nat → ClassId} {dC : Nat → ClassId} {dI : Nat → Nat → Nat} {cc : ByteArray} {own nL : Nat} (X : q_Cx p l R s m args c0 ad ca dC dI cc own nL) {pc : Nat} {L : QL} {st : List QV} {σ : QS} {x y : QV} (hd : decode cc pc = .ok (.dup2, 1)) (k : q_W p l e R s m args below meth c0 Qs ad ca dC dI nL (pc + 1) (L) (y :: x :: y :: x :: st) σ) : q_W p l e R s m args below meth c0 Qs ad ca dC dI nL (pc) (L) (y :: x :: st) σ := by
  obtain ⟨hx, hb, hml, hown, hts, hK, hZ, hi, hf, hlo, hIx⟩ := X
  intro hL ls H locs hl hP hS
  exact lv_dup2_11 hx hb hd (q_v_cat ad y) (q_v_cat ad x) (k hL ls H locs hl hP hS)
theorem qs_pop {p : Program} {l : Launch} {e : Env} {R : Room} {s : State} {m : MethodId} {args : Array Value} {below : List Frame} {meth : Method} {c0 : Code} {Qs : State → Prop} {ad : Nat → Nat} {ca : Nat → ClassId} {dC : Nat → ClassId} {dI : Nat → Nat → Nat} {cc : ByteArray} {own nL : Nat} (X : q_Cx p l R s m args c0 ad ca dC dI cc own nL) {pc : Nat} {L : QL} {st : List QV} {σ : QS} {x : QV} (hd : decode cc pc = .ok (.pop, 1)) (k : q_W p l e R s m args below meth c0 Qs ad ca dC dI nL (pc + 1) (L) (st) σ) : q_W p l e R s m args below meth c0 Qs ad ca dC dI nL (pc) (L) (x :: st) σ := by
  obtain ⟨hx, hb, hml, hown, hts, hK, hZ, hi, hf, hlo, hIx⟩ := X
  intro hL ls H locs hl hP hS
  exact lv_pop hx hb hd (q_v_cat ad x) (k hL ls H locs hl hP hS)
end
section
theorem qs_getr {p : Program} {l : Launch} {e : Env} {R : Room} {s : State} {m : MethodId} {args : Array Value} {below : List Frame} {meth : Method} {c0 : Code} {Qs : State → Prop} {ad : Nat → Nat} {ca : Nat → ClassId} {dC : Nat → ClassId} {dI : Nat → Nat → Nat} {cc : ByteArray} {own nL : Nat} (X : q_Cx p l R s m args c0 ad ca dC dI cc own nL) {pc : Nat} {L : QL} {st : List QV} {σ : QS} {i a b c c2 : Nat} (hd : decode cc pc = .ok (.getfield i, 3)) (hk : (own, i, b, a) ∈ q_flk ∨ (own, i, b, a) ∈ q_nlk) (ht : (q_lay c).1 = b + 4) {v : QV} (hv : (q_lay c).2.2[a]? = some (some c2) ∧ v = .inr c2 ∨ (q_lay c).2.2[a]? = some none ∧ v = .inl (σ c a)) (k : q_W p l e R s m args below meth c0 Qs ad ca dC dI nL (pc + 3) (L) (v :: st) σ) : q_W p l e R s m args below meth c0 Qs ad ca dC dI nL (pc) (L) (.inr c :: st) σ := by
  obtain ⟨hx, hb, hml, hown, hts, hK, hZ, hi, hf, hlo, hIx⟩ := X
  intro hL ls H locs hl hP hS
  have hr : a < (q_T b).2.2 ∧ b < 12 := hk.elim (fun h => q_flk_rng _ h) (fun h => q_nlk_rng _ h)
  obtain ⟨hc, hlen⟩ := q_lay_ob ht hr.2
  have he := q_ws_at (ad := ad) (ca := ca) (σ := σ) hc
  rw [q_en_o ht] at he
  have hfs : (q_fd ad (σ c) (q_lay c).2.2)[a]? = some (q_v ad v) := by
    rw [q_fd_at (by rw [hlen]; exact hr.1)]
    rcases hv with ⟨h1, rfl⟩ | ⟨h1, rfl⟩ <;> simp [q_f1, h1, q_v]
  have kk := k hL ls H locs hl hP hS
  rcases hk with hk | hk
  · exact va_get (D := (dC, dI)) (C := (q_T b).1) (T := (q_T b).2.1) (N := (q_T b).2.2) hx hb hts (q_T_ws hr.2) hown hK hP c he (q_cl_at hr.2) a hr.1 (hts _ (gw_of (q_flk_in _ hk) rfl)) (fun _ h9 => h9) hfs hd kk
  · exact va_getN (D := (dC, dI)) (C := (q_T b).1) (T := (q_T b).2.1) (N := (q_T b).2.2) hx hb hts (q_T_ws hr.2) hown hK hP c he (q_cl_at hr.2) a hr.1 (va_Nw.use rfl (hZ.1 _ hk)) (fun _ h9 => h9) hfs hd kk
theorem q_pok_ty {b a : Nat} {v x : Int32} (h : q_pok b a v = true) (hq : v = 0 ∨ q_fit v x) : ((q_T b).2.1 a).2.2.2 = false ∧ ∃ ty, parseFieldDescriptor ((q_T b).2.1 a).2.2.1 = some ty ∧ narrow ty (.int x) = .int x ∧ fits ty (.int x) = true := by
  unfold q_pok at h
  rw [Bool.and_eq_true] at h
  obtain ⟨h1, h2⟩ := h
  refine ⟨of_decide_eq_true h1, ?_⟩
  by_cases hv : v = 0
  · rw [if_pos hv] at h2
    rw [of_decide_eq_true h2]
    exact ⟨.int, by decide +kernel, rfl, rfl⟩
  · rw [if_neg hv] at h2
    have hq := hq.resolve_left hv
    unfold q_fit at hq
    by_cases hv1 : v = 1
    · rw [if_pos hv1] at h2 hq
      rw [of_decide_eq_true h2]
      refine ⟨.boolean, by decide +kernel, ?_⟩
      rcases hq with rfl | rfl <;> exact ⟨by decide +kernel, by decide +kernel⟩
    · rw [if_neg hv1] at h2 hq
      rw [of_decide_eq_true h2]
      exact ⟨.char, by decide +kernel, hq.1, hq.2⟩
theorem qs_put {p : Program} {l : Launch} {e : Env} {R : Room} {s : State} {m : MethodId} {args : Array Value} {below : List Frame} {meth : Method} {c0 : Code} {Qs : State → Prop} {ad : Nat → Nat} {ca : Nat → ClassId} {dC : Nat → ClassId} {dI : Nat → Nat → Nat} {cc : ByteArray} {own nL : Nat} (X : q_Cx p l R s m args c0 ad ca dC dI cc own nL) {pc : Nat} {L : QL} {st : List QV} {σ : QS} {i a b c : Nat} {v x : Int32} (hd : decode cc pc = .ok (.putfield i, 3)) (hk : (own, i, b, a) ∈ q_flk ∨ (own, i, b, a) ∈ q_nlk) (hp : q_pok b a v = true) (ht : (q_lay c).1 = b + 4) (hv : (q_lay c).2.2[a]? = some none) (hq : v = 0 ∨ q_fit v x) (k : q_W p l e R s m args below meth c0 Qs ad ca dC dI nL (pc + 3) (L) (st) (q_set σ c (upd (σ c) a x))) : q_W p l e R s m args below meth c0 Qs ad ca dC dI nL (pc) (L) (.inl x :: .inr c :: st) σ := by
  obtain ⟨hx, hb, hml, hown, hts, hK, hZ, hi, hf, hlo, hIx⟩ := X
  intro hL ls H locs hl hP hS
  have hr : a < (q_T b).2.2 ∧ b < 12 := hk.elim (fun h => q_flk_rng _ h) (fun h => q_nlk_rng _ h)
  obtain ⟨hc, hlen⟩ := q_lay_ob ht hr.2
  have he := q_ws_at (ad := ad) (ca := ca) (σ := σ) hc
  rw [q_en_o ht] at he
  obtain ⟨hfin, ty, hty, hn, hfit⟩ := q_pok_ty hp hq
  have hfl : a < (q_fd ad (σ c) (q_lay c).2.2).length := by simp [q_fd, hlen]; exact hr.1
  have kk : ∀ (H1 : Heap) (locs1 : List Loc), va_P (dC, dI) q_cl ((q_ws ad ca σ).set c (ad c, .inr (b, (q_fd ad (σ c) (q_lay c).2.2).set a (.int x)))) H1 → va_D (q_A ad) ((q_ws ad ca σ).set c (ad c, .inr (b, (q_fd ad (σ c) (q_lay c).2.2).set a (.int x)))) → va_S (q_A ad) s.heap H1 locs1 → W p l e R s m args below meth c0 H1 locs1 0 0 Qs (F0 m (pc + 3) ls (st.map (q_v ad))) := by
    intro H1 locs1 hP1 _ hS1
    refine k hL ls H1 locs1 hl ?_ hS1
    rw [q_ws_set hc, q_en_o ht, q_fd_set hv]
    exact hP1
  rcases hk with hk | hk
  · exact va_put (D := (dC, dI)) (C := (q_T b).1) (T := (q_T b).2.1) (N := (q_T b).2.2) hx hb hts (q_T_ws hr.2) _ (q_cl_ty _ (q_T_in hr.2)) (q_cl_nm _ (q_T_in hr.2)) hown hK hP (q_D hi) hS c he (q_cl_at hr.2) a hr.1 (hts _ (gw_of (q_flk_in _ hk) rfl)) (fun _ h9 => h9) hfin hty hn hfit hfl hd kk
  · exact va_putN (D := (dC, dI)) (C := (q_T b).1) (T := (q_T b).2.1) (N := (q_T b).2.2) hx hb hts (q_T_ws hr.2) _ (q_cl_ty _ (q_T_in hr.2)) (q_cl_nm _ (q_T_in hr.2)) hown hK hP (q_D hi) hS c he (q_cl_at hr.2) a hr.1 (va_Nw.use rfl (hZ.1 _ hk)) (fun _ h9 => h9) hfin hty hn hfit hfl hd kk
theorem qs_iaload {p : Program} {l : Launch} {e : Env} {R : Room} {s : State} {m : MethodId} {args : Array Value} {below : List Frame} {meth : Method} {c0 : Code} {Qs : State → Prop} {ad : Nat → Nat} {ca : Nat → ClassId} {dC : Nat → ClassId} {dI : Nat → Nat → Nat} {cc : ByteArray} {own nL : Nat} (X : q_Cx p l R s m args c0 ad ca dC dI cc own nL) {pc : Nat} {L : QL} {st : List QV} {σ : QS} {c : Nat} {i : Int32} (hd : decode cc pc = .ok (.iaload, 1)) (ht : (q_lay c).1 = 0) (hin : vp_in i (q_lay c).2.1) (k : q_W p l e R s m args below meth c0 Qs ad ca dC dI nL (pc + 1) (L) (.inl (σ c i.toNatClampNeg) :: st) σ) : q_W p l e R s m args below meth c0 Qs ad ca dC dI nL (pc) (L) (.inl i :: .inr c :: st) σ := by
  obtain ⟨hx, hb, hml, hown, hts, hK, hZ, hi, hf, hlo, hIx⟩ := X
  intro hL ls H locs hl hP hS
  have hc := q_lay_lt (c := c) (by omega)
  have he := q_ws_at (ad := ad) (ca := ca) (σ := σ) hc
  rw [q_en_a ht (by omega)] at he
  exact va_iald (D := (dC, dI)) hx hb hK hP c 0 he rfl hin hd (k hL ls H locs hl hP hS)
theorem qs_caload {p : Program} {l : Launch} {e : Env} {R : Room} {s : State} {m : MethodId} {args : Array Value} {below : List Frame} {meth : Method} {c0 : Code} {Qs : State → Prop} {ad : Nat → Nat} {ca : Nat → ClassId} {dC : Nat → ClassId} {dI : Nat → Nat → Nat} {cc : ByteArray} {own nL : Nat} (X : q_Cx p l R s m args c0 ad ca dC dI cc own nL) {pc : Nat} {L : QL} {st : List QV} {σ : QS} {c : Nat} {i : Int32} (hd : decode cc pc = .ok (.caload, 1)) (ht : (q_lay c).1 = 1) (hin : vp_in i (q_lay c).2.1) (k : q_W p l e R s m args below meth c0 Qs ad ca dC dI nL (pc + 1) (L) (.inl (σ c i.toNatClampNeg) :: st) σ) : q_W p l e R s m args below meth c0 Qs ad ca dC dI nL (pc) (L) (.inl i :: .inr c :: st) σ := by
  obtain ⟨hx, hb, hml, hown, hts, hK, hZ, hi, hf, hlo, hIx⟩ := X
  intro hL ls H locs hl hP hS
  have hc := q_lay_lt (c := c) (by omega)
  have he := q_ws_at (ad := ad) (ca := ca) (σ := σ) hc
  rw [q_en_a ht (by omega)] at he
  exact va_cald (D := (dC, dI)) hx hb hK hP c 1 he rfl hin hd (k hL ls H locs hl hP hS)
theorem qs_baload {p : Program} {l : Launch} {e : Env} {R : Room} {s : State} {m : MethodId} {args : Array Value} {below : List Frame} {meth : Method} {c0 : Code} {Qs : State → Prop} {ad : Nat → Nat} {ca : Nat → ClassId} {dC : Nat → ClassId} {dI : Nat → Nat → Nat} {cc : ByteArray} {own nL : Nat} (X : q_Cx p l R s m args c0 ad ca dC dI cc own nL) {pc : Nat} {L : QL} {st : List QV} {σ : QS} {c : Nat} {i : Int32} (hd : decode cc pc = .ok (.baload, 1)) (ht : (q_lay c).1 = 2) (hin : vp_in i (q_lay c).2.1) (k : q_W p l e R s m args below meth c0 Qs ad ca dC dI nL (pc + 1) (L) (.inl (σ c i.toNatClampNeg) :: st) σ) : q_W p l e R s m args below meth c0 Qs ad ca dC dI nL (pc) (L) (.inl i :: .inr c :: st) σ := by
  obtain ⟨hx, hb, hml, hown, hts, hK, hZ, hi, hf, hlo, hIx⟩ := X
  intro hL ls H locs hl hP hS
  have hc := q_lay_lt (c := c) (by omega)
  have he := q_ws_at (ad := ad) (ca := ca) (σ := σ) hc
  rw [q_en_a ht (by omega)] at he
  exact va_bald (D := (dC, dI)) hx hb hK hP c 2 he rfl hin hd (k hL ls H locs hl hP hS)
theorem qs_rload {p : Program} {l : Launch} {e : Env} {R : Room} {s : State} {m : MethodId} {args : Array Value} {below : List Frame} {meth : Method} {c0 : Code} {Qs : State → Prop} {ad : Nat → Nat} {ca : Nat → ClassId} {dC : Nat → ClassId} {dI : Nat → Nat → Nat} {cc : ByteArray} {own nL : Nat} (X : q_Cx p l R s m args c0 ad ca dC dI cc own nL) {pc : Nat} {L : QL} {st : List QV} {σ : QS} {c : Nat} {i : Int32} (hd : decode cc pc = .ok (.iaload, 1)) (ht : (q_lay c).1 = 100) (hin : vp_in i (q_lay c).2.1) (k : q_W p l e R s m args below meth c0 Qs ad ca dC dI nL (pc + 1) (L) (.inl (q_ro c i.toNatClampNeg) :: st) σ) : q_W p l e R s m args below meth c0 Qs ad ca dC dI nL (pc) (L) (.inl i :: .inr c :: st) σ := by
  obtain ⟨hx, hb, hml, hown, hts, hK, hZ, hi, hf, hlo, hIx⟩ := X
  intro hL ls H locs hl hP hS
  rcases q_lay_ro ht with rfl | rfl
  · exact va_ti (f := fun j => .int (q_ro 118 j)) hx hb hZ.2.1.2 hS hin rfl hd (k hL ls H locs hl hP hS)
  · exact va_ti (f := fun j => .int (q_ro 119 j)) hx hb hZ.2.2.1.2 hS hin rfl hd (k hL ls H locs hl hP hS)
theorem qs_iastore {p : Program} {l : Launch} {e : Env} {R : Room} {s : State} {m : MethodId} {args : Array Value} {below : List Frame} {meth : Method} {c0 : Code} {Qs : State → Prop} {ad : Nat → Nat} {ca : Nat → ClassId} {dC : Nat → ClassId} {dI : Nat → Nat → Nat} {cc : ByteArray} {own nL : Nat} (X : q_Cx p l R s m args c0 ad ca dC dI cc own nL) {pc : Nat} {L : QL} {st : List QV} {σ : QS} {c : Nat} {i x : Int32} (hd : decode cc pc = .ok (.iastore, 1)) (ht : (q_lay c).1 = 0) (hin : vp_in i (q_lay c).2.1) (k : q_W p l e R s m args below meth c0 Qs ad ca dC dI nL (pc + 1) (L) (st) (q_set σ c (upd (σ c) i.toNatClampNeg x))) : q_W p l e R s m args below meth c0 Qs ad ca dC dI nL (pc) (L) (.inl x :: .inl i :: .inr c :: st) σ := by
  obtain ⟨hx, hb, hml, hown, hts, hK, hZ, hi, hf, hlo, hIx⟩ := X
  intro hL ls H locs hl hP hS
  have hc := q_lay_lt (c := c) (by omega)
  have he := q_ws_at (ad := ad) (ca := ca) (σ := σ) hc
  rw [q_en_a ht (by omega)] at he
  refine va_iast (D := (dC, dI)) hx hb hK hP (q_D hi) hS c 0 he rfl hin hd (fun H1 locs1 hP1 _ hS1 => k hL ls H1 locs1 hl ?_ hS1)
  rw [q_ws_set hc, q_en_a ht (by omega)]
  exact hP1
theorem qs_castore {p : Program} {l : Launch} {e : Env} {R : Room} {s : State} {m : MethodId} {args : Array Value} {below : List Frame} {meth : Method} {c0 : Code} {Qs : State → Prop} {ad : Nat → Nat} {ca : Nat → ClassId} {dC : Nat → ClassId} {dI : Nat → Nat → Nat} {cc : ByteArray} {own nL : Nat} (X : q_Cx p l R s m args c0 ad ca dC dI cc own nL) {pc : Nat} {L : QL} {st : List QV} {σ : QS} {c : Nat} {i x : Int32} (hd : decode cc pc = .ok (.castore, 1)) (ht : (q_lay c).1 = 1) (hin : vp_in i (q_lay c).2.1) (k : q_W p l e R s m args below meth c0 Qs ad ca dC dI nL (pc + 1) (L) (st) (q_set σ c (upd (σ c) i.toNatClampNeg (vp_nar .char x)))) : q_W p l e R s m args below meth c0 Qs ad ca dC dI nL (pc) (L) (.inl x :: .inl i :: .inr c :: st) σ := by
  obtain ⟨hx, hb, hml, hown, hts, hK, hZ, hi, hf, hlo, hIx⟩ := X
  intro hL ls H locs hl hP hS
  have hc := q_lay_lt (c := c) (by omega)
  have he := q_ws_at (ad := ad) (ca := ca) (σ := σ) hc
  rw [q_en_a ht (by omega)] at he
  refine va_cast (D := (dC, dI)) hx hb hK hP (q_D hi) hS c 1 he rfl hin hd (fun H1 locs1 hP1 _ hS1 => k hL ls H1 locs1 hl ?_ hS1)
  rw [q_ws_set hc, q_en_a ht (by omega)]
  exact hP1
theorem qs_bastore {p : Program} {l : Launch} {e : Env} {R : Room} {s : State} {m : MethodId} {args : Array Value} {below : List Frame} {meth : Method} {c0 : Code} {Qs : State → Prop} {ad : Nat → Nat} {ca : Nat → ClassId} {dC : Nat → ClassId} {dI : Nat → Nat → Nat} {cc : ByteArray} {own nL : Nat} (X : q_Cx p l R s m args c0 ad ca dC dI cc own nL) {pc : Nat} {L : QL} {st : List QV} {σ : QS} {c : Nat} {i x : Int32} (hd : decode cc pc = .ok (.bastore, 1)) (ht : (q_lay c).1 = 2) (hin : vp_in i (q_lay c).2.1) (k : q_W p l e R s m args below meth c0 Qs ad ca dC dI nL (pc + 1) (L) (st) (q_set σ c (upd (σ c) i.toNatClampNeg (vp_nar .byte x)))) : q_W p l e R s m args below meth c0 Qs ad ca dC dI nL (pc) (L) (.inl x :: .inl i :: .inr c :: st) σ := by
  obtain ⟨hx, hb, hml, hown, hts, hK, hZ, hi, hf, hlo, hIx⟩ := X
  intro hL ls H locs hl hP hS
  have hc := q_lay_lt (c := c) (by omega)
  have he := q_ws_at (ad := ad) (ca := ca) (σ := σ) hc
  rw [q_en_a ht (by omega)] at he
  refine va_bast (D := (dC, dI)) hx hb hK hP (q_D hi) hS c 2 he rfl hin hd (fun H1 locs1 hP1 _ hS1 => k hL ls H1 locs1 hl ?_ hS1)
  rw [q_ws_set hc, q_en_a ht (by omega)]
  exact hP1
theorem qs_aaload {p : Program} {l : Launch} {e : Env} {R : Room} {s : State} {m : MethodId} {args : Array Value} {below : List Frame} {meth : Method} {c0 : Code} {Qs : State → Prop} {ad : Nat → Nat} {ca : Nat → ClassId} {dC : Nat → ClassId} {dI : Nat → Nat → Nat} {cc : ByteArray} {own nL : Nat} (X : q_Cx p l R s m args c0 ad ca dC dI cc own nL) {pc : Nat} {L : QL} {st : List QV} {σ : QS} {c c2 : Nat} {i : Int32} (hd : decode cc pc = .ok (.aaload, 1)) (ht : (q_lay c).1 = 3) (hq : q_at (q_lay c).2.2 i = some c2) (k : q_W p l e R s m args below meth c0 Qs ad ca dC dI nL (pc + 1) (L) (.inr c2 :: st) σ) : q_W p l e R s m args below meth c0 Qs ad ca dC dI nL (pc) (L) (.inl i :: .inr c :: st) σ := by
  obtain ⟨hx, hb, hml, hown, hts, hK, hZ, hi, hf, hlo, hIx⟩ := X
  intro hL ls H locs hl hP hS
  obtain rfl := q_lay_rf ht
  have he := q_ws_at (ad := ad) (ca := ca) (σ := σ) (show 40 < 118 by omega)
  have he : (q_ws ad ca σ)[40]? = some (ad 40, .inl (ca 3, 2, .inr (.inr (.inr (.inr (fun i => (([some 13, some 22] : List (Option Nat)).getD i none).map ad)))))) := he
  have hq : q_at [some 13, some 22] i = some c2 := hq
  have kk := k hL ls H locs hl hP hS
  unfold q_at at hq
  by_cases h0 : i = 0
  · subst h0
    rw [if_pos rfl] at hq
    have e : c2 = 13 := by simpa using hq.symm
    subst e
    exact va_aldq (D := (dC, dI)) hx hb hK hP 40 3 he rfl (by unfold vp_in; decide +kernel) hd kk
  · rw [if_neg h0] at hq
    by_cases h1 : i = 1
    · subst h1
      rw [if_pos rfl] at hq
      have e : c2 = 22 := by simpa using hq.symm
      subst e
      exact va_aldq (D := (dC, dI)) hx hb hK hP 40 3 he rfl (by unfold vp_in; decide +kernel) hd kk
    · rw [if_neg h1] at hq
      cases hq
theorem qs_alen {p : Program} {l : Launch} {e : Env} {R : Room} {s : State} {m : MethodId} {args : Array Value} {below : List Frame} {meth : Method} {c0 : Code} {Qs : State → Prop} {ad : Nat → Nat} {ca : Nat → ClassId} {dC : Nat → ClassId} {dI : Nat → Nat → Nat} {cc : ByteArray} {own nL : Nat} (X : q_Cx p l R s m args c0 ad ca dC dI cc own nL) {pc : Nat} {L : QL} {st : List QV} {σ : QS} {c : Nat} (hd : decode cc pc = .ok (.arraylength, 1)) (ht : (q_lay c).1 < 4) (k : q_W p l e R s m args below meth c0 Qs ad ca dC dI nL (pc + 1) (L) (.inl (Int32.ofNat (q_lay c).2.1) :: st) σ) : q_W p l e R s m args below meth c0 Qs ad ca dC dI nL (pc) (L) (.inr c :: st) σ := by
  obtain ⟨hx, hb, hml, hown, hts, hK, hZ, hi, hf, hlo, hIx⟩ := X
  intro hL ls H locs hl hP hS
  have hc := q_lay_lt (c := c) (by omega)
  have he := q_ws_at (ad := ad) (ca := ca) (σ := σ) hc
  have kk := k hL ls H locs hl hP hS
  rcases Nat.lt_or_ge (q_lay c).1 3 with h | h
  · rw [q_en_a rfl h] at he
    rcases (show (q_lay c).1 = 0 ∨ (q_lay c).1 = 1 ∨ (q_lay c).1 = 2 by omega) with h0 | h0 | h0
    · rw [h0] at he
      exact va_alen (D := (dC, dI)) hx hb hK hP c 0 he rfl rfl hd kk
    · rw [h0] at he
      exact va_alen (D := (dC, dI)) hx hb hK hP c 1 he rfl rfl hd kk
    · rw [h0] at he
      exact va_alen (D := (dC, dI)) hx hb hK hP c 2 he rfl rfl hd kk
  · obtain rfl := q_lay_rf (show (q_lay c).1 = 3 by omega)
    exact va_alen (D := (dC, dI)) hx hb hK hP 40 3 he rfl rfl hd kk
theorem qs_gets {p : Program} {l : Launch} {e : Env} {R : Room} {s : State} {m : MethodId} {args : Array Value} {below : List Frame} {meth : Method} {c0 : Code} {Qs : State → Prop} {ad : Nat → Nat} {ca : Nat → ClassId} {dC : Nat → ClassId} {dI : Nat → Nat → Nat} {cc : ByteArray} {own nL : Nat} (X : q_Cx p l R s m args c0 ad ca dC dI cc own nL) {pc : Nat} {L : QL} {st : List QV} {σ : QS} {i a : Nat} (hd : decode cc pc = .ok (.getstatic i, 3)) (hv : own = 3 ∧ (i = 60 ∧ a = 118 ∨ i = 63 ∧ a = 119)) (k : q_W p l e R s m args below meth c0 Qs ad ca dC dI nL (pc + 3) (L) (.inr a :: st) σ) : q_W p l e R s m args below meth c0 Qs ad ca dC dI nL (pc) (L) (st) σ := by
  obtain ⟨hx, hb, hml, hown, hts, hK, hZ, hi, hf, hlo, hIx⟩ := X
  intro hL ls H locs hl hP hS
  obtain ⟨rfl, h⟩ := hv
  rcases h with ⟨rfl, rfl⟩ | ⟨rfl, rfl⟩
  · exact va_gets hx hb hZ.2.1.1 hS hown (hts _ q_lk60) (fun _ h => h) hd (k hL ls H locs hl hP hS)
  · exact va_gets hx hb hZ.2.2.1.1 hS hown (hts _ q_lk63) (fun _ h => h) hd (k hL ls H locs hl hP hS)
theorem q_cats (ad : Nat → Nat) (st : List QV) : ((st.map (q_v ad)).map fun v => v.category).sum = st.length := by
  induction st with
  | nil => rfl
  | cons x r ih =>
    simp only [List.map_cons, List.sum_cons, List.length_cons, q_v_cat]
    rw [ih]
    omega
theorem qs_max {p : Program} {l : Launch} {e : Env} {R : Room} {s : State} {m : MethodId} {args : Array Value} {below : List Frame} {meth : Method} {c0 : Code} {Qs : State → Prop} {ad : Nat → Nat} {ca : Nat → ClassId} {dC : Nat → ClassId} {dI : Nat → Nat → Nat} {cc : ByteArray} {own nL : Nat} (X : q_Cx p l R s m args c0 ad ca dC dI cc own nL) {pc : Nat} {L : QL} {st : List QV} {σ : QS} {i : Nat} {x y : Int32} (hd : decode cc pc = .ok (.invokestatic i, 3)) (hk : (own, i, 1001) ∈ q_ilk) (hr : st.length ≤ 8) (k : q_W p l e R s m args below meth c0 Qs ad ca dC dI nL (pc + 3) (L) (.inl (if x < y then y else x) :: st) σ) : q_W p l e R s m args below meth c0 Qs ad ca dC dI nL (pc) (L) (.inl y :: .inl x :: st) σ := by
  obtain ⟨hx, hb, hml, hown, hts, hK, hZ, hi, hf, hlo, hIx⟩ := X
  intro hL ls H locs hl hP hS
  exact va_mmax hx hb (hml.trans hl.1.symm) hown (hts _ (gw_of (q_ilk_in _ hk) rfl)) (hts _ q_wmx1) (hts _ q_wmx2) (hts _ q_wmx3) (by omega) (by rw [q_cats]; omega) (Nat.zero_le _) (Nat.zero_le _) hd (k hL ls H locs hl hP hS)
theorem qs_min {p : Program} {l : Launch} {e : Env} {R : Room} {s : State} {m : MethodId} {args : Array Value} {below : List Frame} {meth : Method} {c0 : Code} {Qs : State → Prop} {ad : Nat → Nat} {ca : Nat → ClassId} {dC : Nat → ClassId} {dI : Nat → Nat → Nat} {cc : ByteArray} {own nL : Nat} (X : q_Cx p l R s m args c0 ad ca dC dI cc own nL) {pc : Nat} {L : QL} {st : List QV} {σ : QS} {i : Nat} {x y : Int32} (hd : decode cc pc = .ok (.invokestatic i, 3)) (hk : (own, i, 1002) ∈ q_ilk) (hr : st.length ≤ 8) (k : q_W p l e R s m args below meth c0 Qs ad ca dC dI nL (pc + 3) (L) (.inl (if y < x then y else x) :: st) σ) : q_W p l e R s m args below meth c0 Qs ad ca dC dI nL (pc) (L) (.inl y :: .inl x :: st) σ := by
  obtain ⟨hx, hb, hml, hown, hts, hK, hZ, hi, hf, hlo, hIx⟩ := X
  intro hL ls H locs hl hP hS
  exact va_mmin hx hb (hml.trans hl.1.symm) hown (hts _ (gw_of (q_ilk_in _ hk) rfl)) (hts _ q_wmn1) (hts _ q_wmx2) (hts _ q_wmn3) (by omega) (by rw [q_cats]; omega) (Nat.zero_le _) (Nat.zero_le _) hd (k hL ls H locs hl hP hS)
set_option maxHeartbeats 2000000 in
theorem qs_cpy {p : Program} {l : Launch} {e : Env} {R : Room} {s : State} {m : MethodId} {args : Array Value} {below : List Frame} {meth : Method} {c0 : Code} {Qs : State → Prop} {ad : Nat → Nat} {ca : Nat → ClassId} {dC : Nat → ClassId} {dI : Nat → Nat → Nat} {cc : ByteArray} {own nL : Nat} (X : q_Cx p l R s m args c0 ad ca dC dI cc own nL) {pc : Nat} {L : QL} {st : List QV} {σ : QS} {i c1 c2 : Nat} {sp dp n : Int32} (hd : decode cc pc = .ok (.invokestatic i, 3)) (hk : (own, i, 1003) ∈ q_ilk) (ht : (q_lay c1).1 = (q_lay c2).1) (ht2 : (q_lay c1).1 < 2) (hr : st.length ≤ 8) (hO : (¬ sp < 0) ∧ (¬ dp < 0) ∧ (¬ n < 0) ∧ sp.toNatClampNeg + n.toNatClampNeg ≤ (q_lay c1).2.1 ∧ dp.toNatClampNeg + n.toNatClampNeg ≤ (q_lay c2).2.1 ∧ ((q_lay c1).1 = 1 → ∀ i, i < n.toNatClampNeg → fits .char (.int (σ c1 (sp.toNatClampNeg + i))) = true)) (k : q_W p l e R s m args below meth c0 Qs ad ca dC dI nL (pc + 3) (L) (st) (q_set σ c2 (va_cpy (σ c1) (σ c2) sp.toNatClampNeg dp.toNatClampNeg n.toNatClampNeg))) : q_W p l e R s m args below meth c0 Qs ad ca dC dI nL (pc) (L) (.inl n :: .inl dp :: .inr c2 :: .inl sp :: .inr c1 :: st) σ := by
  obtain ⟨hx, hb, hml, hown, hts, hK, hZ, hi, hf, hlo, hIx⟩ := X
  intro hL ls H locs hl hP hS
  have hc1 := q_lay_lt (c := c1) (by omega)
  have hc2 := q_lay_lt (c := c2) (by omega)
  have he1 := q_ws_at (ad := ad) (ca := ca) (σ := σ) hc1
  have he2 := q_ws_at (ad := ad) (ca := ca) (σ := σ) hc2
  obtain ⟨h1, h2, h3, h4, h5, h6⟩ := hO
  have kk : ∀ (H1 : Heap) (locs1 : List Loc) (t : Nat), (q_lay c2).1 = t → t < 2 → va_P (dC, dI) q_cl ((q_ws ad ca σ).set c2 (ad c2, .inl (ca t, (q_lay c2).2.1, .inl (va_cpy (σ c1) (σ c2) sp.toNatClampNeg dp.toNatClampNeg n.toNatClampNeg)))) H1 → va_S (q_A ad) s.heap H1 locs1 → W p l e R s m args below meth c0 H1 locs1 0 0 Qs (F0 m (pc + 3) ls (st.map (q_v ad))) := by
    intro H1 locs1 t ht1 ht2 hP1 hS1
    refine k hL ls H1 locs1 hl ?_ hS1
    rw [q_ws_set hc2, q_en_a ht1 (by omega)]
    exact hP1
  have hloc : ((st.map (q_v ad)).map fun v => v.category).sum + (nativeFrameWords "java/lang/System" "arraycopy" 5 + 11) ≤ R.locals := by
    rw [q_cats]
    have : nativeFrameWords "java/lang/System" "arraycopy" 5 = 7 := by decide +kernel
    omega
  rcases (show (q_lay c1).1 = 0 ∨ (q_lay c1).1 = 1 by omega) with h0 | h0
  · rw [q_en_a h0 (by omega)] at he1
    rw [q_en_a (ht.symm.trans h0) (by omega)] at he2
    exact va_copyi (D := (dC, dI)) (ty := .int) hx hb (hml.trans hl.1.symm) hown (hts _ (gw_of (q_ilk_in _ hk) rfl)) (hts _ q_wac1) (hts _ q_wac2) (hts _ q_wac3) hK hP (q_D hi) hS c1 c2 0 0 he1 he2 rfl rfl rfl h1 h2 h3 h4 h5 (fun _ _ => rfl) (by omega) hloc hd (fun H1 locs1 hP1 _ hS1 => kk H1 locs1 0 (ht.symm.trans h0) (by omega) hP1 hS1)
  · rw [q_en_a h0 (by omega)] at he1
    rw [q_en_a (ht.symm.trans h0) (by omega)] at he2
    exact va_copyi (D := (dC, dI)) (ty := .char) hx hb (hml.trans hl.1.symm) hown (hts _ (gw_of (q_ilk_in _ hk) rfl)) (hts _ q_wac1) (hts _ q_wac2) (hts _ q_wac3) hK hP (q_D hi) hS c1 c2 1 1 he1 he2 rfl rfl rfl h1 h2 h3 h4 h5 (h6 h0) (by omega) hloc hd (fun H1 locs1 hP1 _ hS1 => kk H1 locs1 1 (ht.symm.trans h0) (by omega) hP1 hS1)
end
section
theorem q_Out_same {ad : Nat → Nat} {u U : State} (hv : u.vm = U.vm) (hh : U.heap = u.heap) (h : q_Out ad u u.heap) : q_Out ad U U.heap := by
  obtain ⟨h1, ⟨h2, h3⟩, ⟨h4, h5⟩, h6, h7, h8, adV, h9⟩ := h
  have hal : u.vm.Alike U.vm := hv ▸ Vm.Alike.refl u.vm
  rw [hh]
  exact ⟨fun e he => va_Nw.same rfl hv (h1 e he), ⟨h2.moved hal, h3.moved hal⟩, ⟨h4.moved hal, h5.moved hal⟩, h6.same hv.symm, h7.same hv.symm, h8.moved hal, adV, h9.moved hal⟩
set_option maxHeartbeats 2000000 in
theorem qs_iof {p : Program} {l : Launch} {e : Env} {R : Room} {s : State} {m : MethodId} {args : Array Value} {below : List Frame} {meth : Method} {c0 : Code} {Qs : State → Prop} {ad : Nat → Nat} {ca : Nat → ClassId} {dC : Nat → ClassId} {dI : Nat → Nat → Nat} {cc : ByteArray} {own nL : Nat} (X : q_Cx p l R s m args c0 ad ca dC dI cc own nL) {pc : Nat} {L : QL} {st : List QV} {σ : QS} {i c : Nat} {x : Int32} (hd : decode cc pc = .ok (.invokevirtual i, 3)) (hk : (own, i, 1004) ∈ q_ilk) (ht : (q_lay c).1 = 101) (hr : st.length ≤ 8) (k : q_W p l e R s m args below meth c0 Qs ad ca dC dI nL (pc + 3) (L) (.inl (q_ix (q_txt c) x 0) :: st) σ) : q_W p l e R s m args below meth c0 Qs ad ca dC dI nL (pc) (L) (.inl x :: .inr c :: st) σ := by
  obtain ⟨hx, hb, hml, hown, hts, hK, hZ, hi, hf, hlo, hIx⟩ := X
  intro hL ls H locs hl hP hS
  have hM := hIx c x ht
  have hgw : ∀ w ∈ (Cond.code yJ0_indexOf_0f7a4 cJ0_indexOf_0f7a4 2 (some .int) :: gw), ∀ (a' : Array Value) (U : State), s.WarmedH U.vm → w.before a' U = true := fun w hw a' U hW => gw_at hts hW w ((List.mem_cons.mp hw).elim (fun h => by rw [h]; exact q_wix4) id)
  have cw : CallW R s args (q_own own) RJ0 i yJ0_indexOf_0f7a4 cJ0_indexOf_0f7a4 2 (some .int) (Cond.code yJ0_indexOf_0f7a4 cJ0_indexOf_0f7a4 2 (some .int) :: gw) q_rmI 0 0 1 :=
    ⟨⟨rfl, rfl, by show 6 + 1 ≤ R.frames; omega, by show 8 + (2 + 11) + 300 ≤ R.locals; omega, hgw, List.mem_cons_self, hts _ q_wix4, hts _ q_wix3, by decide +kernel, fun sig h => by
      have h2 : (parseMethodDescriptor yJ0_indexOf_0f7a4.desc).map (fun d => d.parameters.length) = some 1 := by decide +kernel
      rw [h] at h2
      exact (Option.some.inj h2).symm, hts _ (gw_of (q_ilk_in _ hk) rfl)⟩, hts _ q_wix1, hts _ q_wix2⟩
  obtain ⟨adV, hE⟩ := hZ.2.2.2.2.2.2
  have hrecv : ∃ cell : Cell, H[ad c]? = some cell ∧ cell.vm.isStatics = false ∧ s.vm.findClass "java/lang/String" = some cell.cls := by
    rcases q_lay_tx ht with rfl | rfl
    · exact vk_recv hE (i := 0) (by omega) hS
    · exact vk_recv hE (i := 1) (by omega) hS
  have hp : PreV s H RJ0 (ad c) (va_Pc [.ref (ad c), .int x] (fun U => q_Out ad U U.heap)) [.int x] :=
    ⟨fun a U g mk q => ⟨q.1, q_Out_same (u := U) (U := U.calling g mk a) rfl rfl q.2⟩, hrecv, fun U hU hW => ⟨rfl, by show q_Out ad U U.heap; rw [hU]; exact q_Out_moved hZ hW hS.2.1⟩⟩
  have hrun := va_runV (locs := locs) (cells := 0) (slots := 0) (below := below) (e := e) (meth := meth) (rest := st.map (q_v ad)) (g := F0 m pc ls (.int x :: .ref (ad c) :: st.map (q_v ad))) ⟨hx, hb, hml, hown, hts⟩ hM cw hp rfl rfl hl.1 rfl (lv_room (by rw [q_cats]; exact hr)) hd ⟨Nat.zero_le _, Nat.zero_le _⟩
  intro T hT Xs
  obtain ⟨v, st0, t, T', Lx, h0, X', hLx, e1, e2, hq, stp⟩ := hrun T hT Xs
  obtain ⟨hv, hh⟩ := hq
  cases hv
  have eH : T'.heap = H := by rw [e1, hh, h0]
  have hS' : va_S (q_A ad) s.heap H (locs ++ Lx) := ⟨hS.1, hS.2.1, fun q hq => (List.mem_append.mp hq).elim (hS.2.2 q) (fun h => (hLx q h).elim)⟩
  obtain ⟨t2, a1, b1⟩ := k hL ls H (locs ++ Lx) hl hP hS' T' eH X'
  exact ⟨t2, stp t2 a1, b1⟩
set_option maxHeartbeats 4000000 in
theorem q_op_snd {p : Program} {l : Launch} {e : Env} {R : Room} {s : State} {m : MethodId} {args : Array Value} {below : List Frame} {meth : Method} {c0 : Code} {Qs : State → Prop} {ad : Nat → Nat} {ca : Nat → ClassId} {dC : Nat → ClassId} {dI : Nat → Nat → Nat} {cc : ByteArray} {own nL : Nat} (X : q_Cx p l R s m args c0 ad ca dC dI cc own nL) {r : QI} {L L2 : QL} {st st2 : List QV} {σ σ2 : QS} {o : Option Prop} (hd : decode cc r.1 = .ok (r.2.1, r.2.2.1)) (hk : q_okr own r = true) (hq : q_op r L st σ = some (o, L2, st2, σ2)) (hO : ∀ O, o = some O → O) (k : q_W p l e R s m args below meth c0 Qs ad ca dC dI nL (r.1 + r.2.2.1) (L2) (st2) σ2) : q_W p l e R s m args below meth c0 Qs ad ca dC dI nL (r.1) (L) (st) σ := by
  obtain ⟨pc, I, len, a, b, v⟩ := r
  dsimp only at hd k ⊢
  dsimp only [q_op] at hq
  split at hq
  · rename_i n
    cases hq
    obtain ⟨rfl, h⟩ : len = 1 ∧ Int32.ofInt n = v := of_decide_eq_true hk
    exact qs_iconst X hd h k
  · rename_i n
    cases hq
    obtain ⟨rfl, h⟩ : len = 2 ∧ (Int8.ofInt n).toInt32 = v := of_decide_eq_true hk
    exact qs_bipush X hd h k
  · rename_i n
    cases hq
    obtain ⟨rfl, h⟩ : len = 3 ∧ (Int16.ofInt n).toInt32 = v := of_decide_eq_true hk
    exact qs_sipush X hd h k
  · rename_i i
    have hk : (decide (len = 2) && (if b = 0 then decide ((own, i, v) ∈ q_cnk) else decide (own = 5 ∧ (i = 47 ∧ a = 120 ∨ i = 111 ∧ a = 121)))) = true := hk
    rw [Bool.and_eq_true] at hk
    obtain ⟨h1, h2⟩ := hk
    obtain rfl : len = 2 := of_decide_eq_true h1
    unfold q_cst at hq
    by_cases hb0 : b = 0
    · rw [if_pos hb0] at hq h2
      cases hq
      exact qs_ldc X hd (of_decide_eq_true h2) k
    · rw [if_neg hb0] at hq h2
      cases hq
      exact qs_ldcs X hd (of_decide_eq_true h2) k
  · rename_i i
    cases hq
    obtain ⟨rfl, h⟩ : len = 3 ∧ (own, i, v) ∈ q_cnk := of_decide_eq_true hk
    exact qs_ldcw X hd h k
  · rename_i k0
    obtain ⟨rfl, h⟩ : len = 1 ∧ k0.val = a := of_decide_eq_true hk
    unfold q_ldi at hq
    split at hq
    · rename_i x hx2
      cases hq
      exact qs_iload_n X h hd hx2 k
    · cases hq
  · rename_i k0
    obtain ⟨rfl, rfl⟩ : len = 2 ∧ k0 = a := of_decide_eq_true hk
    unfold q_ldi at hq
    split at hq
    · rename_i x hx2
      cases hq
      exact qs_iload X hd hx2 k
    · cases hq
  · rename_i k0
    obtain ⟨rfl, h⟩ : len = 1 ∧ k0.val = a := of_decide_eq_true hk
    unfold q_lda at hq
    split at hq
    · rename_i x hx2
      cases hq
      exact qs_aload_n X h hd hx2 k
    · cases hq
  · rename_i k0
    obtain ⟨rfl, rfl⟩ : len = 2 ∧ k0 = a := of_decide_eq_true hk
    unfold q_lda at hq
    split at hq
    · rename_i x hx2
      cases hq
      exact qs_aload X hd hx2 k
    · cases hq
  · rename_i k0
    obtain ⟨rfl, h⟩ : len = 1 ∧ k0.val = a := of_decide_eq_true hk
    unfold q_sti at hq
    split at hq
    · split at hq
      · rename_i x st2 _ y hy
        cases hq
        exact qs_istore_n X h hd (List.getElem?_eq_some_iff.mp hy).1 k
      · cases hq
    · cases hq
  · rename_i k0
    obtain ⟨rfl, rfl⟩ : len = 2 ∧ k0 = a := of_decide_eq_true hk
    unfold q_sti at hq
    split at hq
    · split at hq
      · rename_i x st2 _ y hy
        cases hq
        exact qs_istore X hd (List.getElem?_eq_some_iff.mp hy).1 k
      · cases hq
    · cases hq
  · rename_i i n
    obtain ⟨rfl, rfl, h⟩ : len = 3 ∧ i = a ∧ Int32.ofInt n = v := of_decide_eq_true hk
    unfold q_inc at hq
    split at hq
    · rename_i x hx2
      cases hq
      exact qs_iinc X hd h hx2 k
    · cases hq
  · obtain rfl : len = 1 := of_decide_eq_true hk
    unfold q_bi at hq
    split at hq
    · cases hq
      exact qs_iadd X hd k
    · cases hq
  · obtain rfl : len = 1 := of_decide_eq_true hk
    unfold q_bi at hq
    split at hq
    · cases hq
      exact qs_isub X hd k
    · cases hq
  · obtain rfl : len = 1 := of_decide_eq_true hk
    unfold q_bi at hq
    split at hq
    · cases hq
      exact qs_imul X hd k
    · cases hq
  · obtain rfl : len = 1 := of_decide_eq_true hk
    unfold q_bi at hq
    split at hq
    · cases hq
      exact qs_iand X hd k
    · cases hq
  · obtain rfl : len = 1 := of_decide_eq_true hk
    unfold q_bi at hq
    split at hq
    · cases hq
      exact qs_ior X hd k
    · cases hq
  · obtain rfl : len = 1 := of_decide_eq_true hk
    unfold q_bi at hq
    split at hq
    · cases hq
      exact qs_ishl X hd k
    · cases hq
  · obtain rfl : len = 1 := of_decide_eq_true hk
    unfold q_bi at hq
    split at hq
    · cases hq
      exact qs_ishr X hd k
    · cases hq
  · obtain rfl : len = 1 := of_decide_eq_true hk
    unfold q_bi at hq
    split at hq
    · cases hq
      exact qs_iushr X hd k
    · cases hq
  · obtain rfl : len = 1 := of_decide_eq_true hk
    unfold q_dv at hq
    split at hq
    · cases hq
      exact qs_idiv X hd (hO _ rfl) k
    · cases hq
  · obtain rfl : len = 1 := of_decide_eq_true hk
    unfold q_dv at hq
    split at hq
    · cases hq
      exact qs_irem X hd (hO _ rfl) k
    · cases hq
  · obtain rfl : len = 1 := of_decide_eq_true hk
    unfold q_un at hq
    split at hq
    · cases hq
      exact qs_ineg X hd k
    · cases hq
  · obtain rfl : len = 1 := of_decide_eq_true hk
    unfold q_un at hq
    split at hq
    · cases hq
      exact qs_i2c X hd k
    · cases hq
  · obtain rfl : len = 1 := of_decide_eq_true hk
    unfold q_un at hq
    split at hq
    · cases hq
      exact qs_i2b X hd k
    · cases hq
  · obtain rfl : len = 1 := of_decide_eq_true hk
    split at hq
    · cases hq
      exact qs_dup X hd k
    · cases hq
  · obtain rfl : len = 1 := of_decide_eq_true hk
    split at hq
    · cases hq
      exact qs_dup2 X hd k
    · cases hq
  · obtain rfl : len = 1 := of_decide_eq_true hk
    split at hq
    · cases hq
      exact qs_pop X hd k
    · cases hq
  · rename_i i
    obtain ⟨rfl, h⟩ : len = 3 ∧ ((own, i, b, a) ∈ q_flk ∨ (own, i, b, a) ∈ q_nlk) := of_decide_eq_true hk
    unfold q_gtf at hq
    split at hq
    · split at hq
      · rename_i c st2 ht
        split at hq
        · rename_i c2 hc2
          cases hq
          exact qs_getr X hd h ht (Or.inl ⟨hc2, rfl⟩) k
        · rename_i hc2
          cases hq
          exact qs_getr (c2 := 0) X hd h ht (Or.inr ⟨hc2, rfl⟩) k
        · cases hq
      · cases hq
    · cases hq
  · rename_i i
    have hk : (decide (len = 3 ∧ ((own, i, b, a) ∈ q_flk ∨ (own, i, b, a) ∈ q_nlk)) && q_pok b a v) = true := hk
    rw [Bool.and_eq_true] at hk
    obtain ⟨h1, h2⟩ := hk
    obtain ⟨rfl, h⟩ := of_decide_eq_true h1
    unfold q_ptf at hq
    split at hq
    · split at hq
      · rename_i x c st2 ht
        split at hq
        · rename_i hc2
          by_cases hv : v = 0
          · rw [if_pos hv] at hq
            cases hq
            exact qs_put X hd h h2 ht hc2 (Or.inl hv) k
          · rw [if_neg hv] at hq
            cases hq
            exact qs_put X hd h h2 ht hc2 (Or.inr (hO _ rfl)) k
        · cases hq
      · cases hq
    · cases hq
  · obtain rfl : len = 1 := of_decide_eq_true hk
    unfold q_lod at hq
    split at hq
    · split at hq
      · rename_i ht
        cases hq
        exact qs_iaload X hd ht (hO _ rfl) k
      · split at hq
        · rename_i ht
          cases hq
          exact qs_rload X hd ht.1 (hO _ rfl) k
        · cases hq
    · cases hq
  · obtain rfl : len = 1 := of_decide_eq_true hk
    unfold q_lod at hq
    split at hq
    · split at hq
      · rename_i ht
        cases hq
        exact qs_caload X hd ht (hO _ rfl) k
      · split at hq
        · rename_i ht
          cases hq
          exact absurd ht.2 (by decide)
        · cases hq
    · cases hq
  · obtain rfl : len = 1 := of_decide_eq_true hk
    unfold q_lod at hq
    split at hq
    · split at hq
      · rename_i ht
        cases hq
        exact qs_baload X hd ht (hO _ rfl) k
      · split at hq
        · rename_i ht
          cases hq
          exact absurd ht.2 (by decide)
        · cases hq
    · cases hq
  · obtain rfl : len = 1 := of_decide_eq_true hk
    unfold q_sto at hq
    split at hq
    · split at hq
      · rename_i ht
        cases hq
        exact qs_iastore X hd ht (hO _ rfl) k
      · cases hq
    · cases hq
  · obtain rfl : len = 1 := of_decide_eq_true hk
    unfold q_sto at hq
    split at hq
    · split at hq
      · rename_i ht
        cases hq
        exact qs_castore X hd ht (hO _ rfl) k
      · cases hq
    · cases hq
  · obtain rfl : len = 1 := of_decide_eq_true hk
    unfold q_sto at hq
    split at hq
    · split at hq
      · rename_i ht
        cases hq
        exact qs_bastore X hd ht (hO _ rfl) k
      · cases hq
    · cases hq
  · obtain rfl : len = 1 := of_decide_eq_true hk
    unfold q_ala at hq
    split at hq
    · split at hq
      · rename_i ht
        split at hq
        · rename_i hc2
          cases hq
          exact qs_aaload X hd ht hc2 k
        · cases hq
      · cases hq
    · cases hq
  · obtain rfl : len = 1 := of_decide_eq_true hk
    unfold q_len at hq
    split at hq
    · split at hq
      · rename_i ht
        cases hq
        exact qs_alen X hd ht k
      · cases hq
    · cases hq
  · rename_i i
    obtain ⟨rfl, h⟩ : len = 3 ∧ own = 3 ∧ (i = 60 ∧ a = 118 ∨ i = 63 ∧ a = 119) := of_decide_eq_true hk
    cases hq
    exact qs_gets X hd h k
  · rename_i i
    obtain ⟨rfl, h⟩ : len = 3 ∧ (own, i, a) ∈ q_ilk := of_decide_eq_true hk
    unfold q_ivs at hq
    split at hq
    · rename_i ha
      subst ha
      unfold q_max at hq
      split at hq
      · split at hq
        · rename_i hl8
          cases hq
          exact qs_max X hd h hl8 k
        · cases hq
      · cases hq
    · split at hq
      · rename_i ha
        subst ha
        unfold q_min at hq
        split at hq
        · split at hq
          · rename_i hl8
            cases hq
            exact qs_min X hd h hl8 k
          · cases hq
        · cases hq
      · split at hq
        · rename_i ha
          subst ha
          unfold q_cpy at hq
          split at hq
          · split at hq
            · rename_i hl8
              cases hq
              exact qs_cpy X hd h hl8.1 hl8.2.1 hl8.2.2 (hO _ rfl) k
            · cases hq
          · cases hq
        · cases hq
  · rename_i i
    obtain ⟨rfl, h⟩ : len = 3 ∧ (own, i, a) ∈ q_ilk := of_decide_eq_true hk
    split at hq
    · rename_i ha
      subst ha
      unfold q_iof at hq
      split at hq
      · split at hq
        · rename_i hl8
          cases hq
          exact qs_iof X hd h hl8.1 hl8.2 k
        · cases hq
      · cases hq
    · cases hq
  · cases hq
end
section
theorem q_rows_snd {p : Program} {l : Launch} {e : Env} {R : Room} {s : State} {m : MethodId} {args : Array Value} {below : List Frame} {meth : Method} {c0 : Code} {Qs : State → Prop} {ad : Nat → Nat} {ca : Nat → ClassId} {dC : Nat → ClassId} {dI : Nat → Nat → Nat} {cc : ByteArray} {own nL : Nat} (X : q_Cx p l R s m args c0 ad ca dC dI cc own nL) {kj : Nat → QL → List QV → QS → Prop} {kc : Nat → Nat → Int → Nat → Nat → QL → List QV → QS → Prop} {kr : QQ} {t : QT} {pe : Nat} (ht : ∀ L st σ, q_tm kj kc kr t L st σ → q_W p l e R s m args below meth c0 Qs ad ca dC dI nL (pe) (L) (st) σ) : ∀ (rs : List QI) (pc : Nat) (L : QL) (st : List QV) (σ : QS), q_chn own cc pc rs = some pe → q_wp kj kc kr t rs L st σ → q_W p l e R s m args below meth c0 Qs ad ca dC dI nL (pc) (L) (st) σ
  | [], pc, L, st, σ, hc, h => by
    cases hc
    exact ht L st σ h
  | r :: rs, pc, L, st, σ, hc, h => by
    unfold q_chn at hc
    split at hc
    · rename_i hr
      obtain ⟨rfl, hd, hk⟩ := hr
      unfold q_wp at h
      split at h
      · rename_i o2 L2 st2 σ2 hq
        refine q_op_snd X hd hk hq ?_ (q_rows_snd X ht rs _ L2 st2 σ2 hc ?_)
        · intro O e
          subst e
          exact h.1
        · cases o2 with
          | none => exact h
          | some O => exact h.2
      · exact h.elim
    · cases hc
theorem q_sw_get {k : Nat → Prop} {x : Int32} {d : Nat} : ∀ (ts : List (Int × Nat)) (j : Nat) (i : Int) (b : Nat), q_sw k x d ts → ts[j]? = some (i, b) → x = Int32.ofInt i → (∀ j2, j2 < j → ∀ q, ts[j2]? = some q → ¬ x = Int32.ofInt q.1) → k b
  | [], j, i, b, _, h, _, _ => by simp at h
  | (i0, b0) :: r, 0, i, b, z, h, hx, _ => by
    simp only [List.getElem?_cons_zero, Option.some.injEq, Prod.mk.injEq] at h
    obtain ⟨rfl, rfl⟩ := h
    exact z.1 hx
  | (i0, b0) :: r, j + 1, i, b, z, h, hx, hn => by
    simp only [List.getElem?_cons_succ] at h
    exact q_sw_get r j i b (z.2 (hn 0 (by omega) (i0, b0) rfl)) h hx (fun j2 h2 q hq => hn (j2 + 1) (by omega) q (by simpa using hq))
theorem q_sw_none {k : Nat → Prop} {x : Int32} {d : Nat} : ∀ (ts : List (Int × Nat)), q_sw k x d ts → (∀ q ∈ ts, ¬ x = Int32.ofInt q.1) → k d
  | [], z, _ => z
  | (i0, b0) :: r, z, h => q_sw_none r (z.2 (h (i0, b0) List.mem_cons_self)) (fun q hq => h q (List.mem_cons_of_mem _ hq))
theorem q_oktab_at {sts : List Nat} {p : Nat} : ∀ (lo : Int) (os : List Int) (ts : List (Int × Nat)), q_oktab sts p lo os ts = true → ts.length = os.length ∧ ∀ (j : Nat) (q : Int × Nat), ts[j]? = some q → q.1 = lo + j ∧ ∃ of, os[j]? = some of ∧ q_sg sts[q.2]? ((p : Int) + of) = true
  | lo, [], [], _ => ⟨rfl, fun j q h => by simp at h⟩
  | lo, [], _ :: _, h => by simp [q_oktab] at h
  | lo, _ :: _, [], h => by simp [q_oktab] at h
  | lo, of :: os, (i, k) :: ts, h => by
    simp only [q_oktab, Bool.and_eq_true, decide_eq_true_eq] at h
    obtain ⟨⟨h1, h2⟩, h3⟩ := h
    obtain ⟨ih1, ih2⟩ := q_oktab_at (lo + 1) os ts h3
    refine ⟨by simp [ih1], fun j q hq => ?_⟩
    cases j with
    | zero =>
      simp only [List.getElem?_cons_zero, Option.some.injEq] at hq
      subst hq
      exact ⟨by simp [h1], of, rfl, h2⟩
    | succ j =>
      simp only [List.getElem?_cons_succ] at hq
      obtain ⟨e, of2, e2, e3⟩ := ih2 j q hq
      exact ⟨by rw [e]; push_cast; omega, of2, by simpa using e2, e3⟩
theorem q_ofInt_inj {a b : Int} (h1 : -2147483648 ≤ a) (h2 : a < 2147483648) (h3 : -2147483648 ≤ b) (h4 : b < 2147483648) (h : Int32.ofInt a = Int32.ofInt b) : a = b := by
  have e1 : (Int32.ofInt a).toInt = a := Int32.toInt_ofInt_of_le (by simpa using h1) (by simpa using h2)
  have e2 : (Int32.ofInt b).toInt = b := Int32.toInt_ofInt_of_le (by simpa using h3) (by simpa using h4)
  rw [← e1, ← e2, h]
theorem q_rngI (x : Int32) : -2147483648 ≤ x.toInt ∧ x.toInt < 2147483648 := ⟨by simpa using Int32.le_toInt x, by simpa using Int32.toInt_lt x⟩
theorem q_ofInt_toInt (x : Int32) : Int32.ofInt x.toInt = x := by simp
theorem q_oklk_off {sts : List Nat} {p : Nat} {k : Nat → Prop} {x : Int32} {d : Nat} {dd : Int} : ∀ (os : List (Int × Int)) (ts : List (Int × Nat)), q_oklk sts p os ts = true → (∀ q ∈ os, -2147483648 ≤ q.1 ∧ q.1 < 2147483648) → q_sw k x d ts → q_sg sts[d]? ((p : Int) + dd) = true → ∃ b, k b ∧ q_sg sts[b]? ((p : Int) + Op.lookupswitch.offset os dd x.toInt) = true
  | [], [], _, _, z, hd => ⟨d, z, hd⟩
  | [], _ :: _, h, _, _, _ => by simp [q_oklk] at h
  | _ :: _, [], h, _, _, _ => by simp [q_oklk] at h
  | (j, of) :: os, (i, b) :: ts, h, hr, z, hd => by
    simp only [q_oklk, Bool.and_eq_true, decide_eq_true_eq] at h
    obtain ⟨⟨rfl, h2⟩, h3⟩ := h
    have hr0 := hr (i, of) List.mem_cons_self
    by_cases hx : x = Int32.ofInt i
    · refine ⟨b, z.1 hx, ?_⟩
      have e : x.toInt = i := by rw [hx]; exact Int32.toInt_ofInt_of_le (by simpa using hr0.1) (by simpa using hr0.2)
      rw [e]
      simpa [Op.lookupswitch.offset] using h2
    · obtain ⟨b2, h4, h5⟩ := q_oklk_off os ts h3 (fun q hq => hr q (List.mem_cons_of_mem _ hq)) (z.2 hx) hd
      refine ⟨b2, h4, ?_⟩
      have e : ¬ x.toInt = i := fun e => hx (by rw [← e]; simp)
      have e2 : ¬ i = x.toInt := fun e3 => e e3.symm
      simpa [Op.lookupswitch.offset, e, e2] using h5
theorem q_sg_at {a : Option Nat} {z : Int} (h : q_sg a z = true) : ∃ g : Nat, a = some g ∧ z = (g : Int) := by
  cases a with
  | none => cases h
  | some g => exact ⟨g, rfl, of_decide_eq_true h⟩
end
section
theorem qg0 : ∀ M ∈ [qm0, qm1, qm2, qm3, qm4, qm5, qm6, qm7, qm8, qm9, qm10, qm11, qm12, qm13, qm14, qm15], q_okm M = true := (List.forall_mem_cons.mpr ⟨qk0, (List.forall_mem_cons.mpr ⟨qk1, (List.forall_mem_cons.mpr ⟨qk2, (List.forall_mem_cons.mpr ⟨qk3, (List.forall_mem_cons.mpr ⟨qk4, (List.forall_mem_cons.mpr ⟨qk5, (List.forall_mem_cons.mpr ⟨qk6, (List.forall_mem_cons.mpr ⟨qk7, (List.forall_mem_cons.mpr ⟨qk8, (List.forall_mem_cons.mpr ⟨qk9, (List.forall_mem_cons.mpr ⟨qk10, (List.forall_mem_cons.mpr ⟨qk11, (List.forall_mem_cons.mpr ⟨qk12, (List.forall_mem_cons.mpr ⟨qk13, (List.forall_mem_cons.mpr ⟨qk14, (List.forall_mem_cons.mpr ⟨qk15, (fun _ h => absurd h List.not_mem_nil)⟩)⟩)⟩)⟩)⟩)⟩)⟩)⟩)⟩)⟩)⟩)⟩)⟩)⟩)⟩)⟩)
theorem qg1 : ∀ M ∈ [qm16, qm17, qm18, qm19, qm20, qm21, qm22, qm23, qm24, qm25, qm26, qm27, qm28, qm29, qm30, qm31], q_okm M = true := (List.forall_mem_cons.mpr ⟨qk16, (List.forall_mem_cons.mpr ⟨qk17, (List.forall_mem_cons.mpr ⟨qk18, (List.forall_mem_cons.mpr ⟨qk19, (List.forall_mem_cons.mpr ⟨qk20, (List.forall_mem_cons.mpr ⟨qk21, (List.forall_mem_cons.mpr ⟨qk22, (List.forall_mem_cons.mpr ⟨qk23, (List.forall_mem_cons.mpr ⟨qk24, (List.forall_mem_cons.mpr ⟨qk25, (List.forall_mem_cons.mpr ⟨qk26, (List.forall_mem_cons.mpr ⟨qk27, (List.forall_mem_cons.mpr ⟨qk28, (List.forall_mem_cons.mpr ⟨qk29, (List.forall_mem_cons.mpr ⟨qk30, (List.forall_mem_cons.mpr ⟨qk31, (fun _ h => absurd h List.not_mem_nil)⟩)⟩)⟩)⟩)⟩)⟩)⟩)⟩)⟩)⟩)⟩)⟩)⟩)⟩)⟩)⟩)
theorem qg2 : ∀ M ∈ [qm32, qm33, qm34, qm35, qm36, qm37, qm38, qm39, qm40, qm41, qm42, qm43, qm44, qm45, qm46, qm47], q_okm M = true := (List.forall_mem_cons.mpr ⟨qk32, (List.forall_mem_cons.mpr ⟨qk33, (List.forall_mem_cons.mpr ⟨qk34, (List.forall_mem_cons.mpr ⟨qk35, (List.forall_mem_cons.mpr ⟨qk36, (List.forall_mem_cons.mpr ⟨qk37, (List.forall_mem_cons.mpr ⟨qk38, (List.forall_mem_cons.mpr ⟨qk39, (List.forall_mem_cons.mpr ⟨qk40, (List.forall_mem_cons.mpr ⟨qk41, (List.forall_mem_cons.mpr ⟨qk42, (List.forall_mem_cons.mpr ⟨qk43, (List.forall_mem_cons.mpr ⟨qk44, (List.forall_mem_cons.mpr ⟨qk45, (List.forall_mem_cons.mpr ⟨qk46, (List.forall_mem_cons.mpr ⟨qk47, (fun _ h => absurd h List.not_mem_nil)⟩)⟩)⟩)⟩)⟩)⟩)⟩)⟩)⟩)⟩)⟩)⟩)⟩)⟩)⟩)⟩)
theorem qg3 : ∀ M ∈ [qm48, qm49, qm50, qm51, qm52, qm53, qm54, qm55, qm56, qm57, qm58, qm59, qm60, qm61, qm62, qm63], q_okm M = true := (List.forall_mem_cons.mpr ⟨qk48, (List.forall_mem_cons.mpr ⟨qk49, (List.forall_mem_cons.mpr ⟨qk50, (List.forall_mem_cons.mpr ⟨qk51, (List.forall_mem_cons.mpr ⟨qk52, (List.forall_mem_cons.mpr ⟨qk53, (List.forall_mem_cons.mpr ⟨qk54, (List.forall_mem_cons.mpr ⟨qk55, (List.forall_mem_cons.mpr ⟨qk56, (List.forall_mem_cons.mpr ⟨qk57, (List.forall_mem_cons.mpr ⟨qk58, (List.forall_mem_cons.mpr ⟨qk59, (List.forall_mem_cons.mpr ⟨qk60, (List.forall_mem_cons.mpr ⟨qk61, (List.forall_mem_cons.mpr ⟨qk62, (List.forall_mem_cons.mpr ⟨qk63, (fun _ h => absurd h List.not_mem_nil)⟩)⟩)⟩)⟩)⟩)⟩)⟩)⟩)⟩)⟩)⟩)⟩)⟩)⟩)⟩)⟩)
theorem qg4 : ∀ M ∈ [qm64, qm65, qm66, qm67, qm68, qm69, qm70, qm71, qm72, qm73, qm74, qm75, qm76, qm77, qm78, qm79], q_okm M = true := (List.forall_mem_cons.mpr ⟨qk64, (List.forall_mem_cons.mpr ⟨qk65, (List.forall_mem_cons.mpr ⟨qk66, (List.forall_mem_cons.mpr ⟨qk67, (List.forall_mem_cons.mpr ⟨qk68, (List.forall_mem_cons.mpr ⟨qk69, (List.forall_mem_cons.mpr ⟨qk70, (List.forall_mem_cons.mpr ⟨qk71, (List.forall_mem_cons.mpr ⟨qk72, (List.forall_mem_cons.mpr ⟨qk73, (List.forall_mem_cons.mpr ⟨qk74, (List.forall_mem_cons.mpr ⟨qk75, (List.forall_mem_cons.mpr ⟨qk76, (List.forall_mem_cons.mpr ⟨qk77, (List.forall_mem_cons.mpr ⟨qk78, (List.forall_mem_cons.mpr ⟨qk79, (fun _ h => absurd h List.not_mem_nil)⟩)⟩)⟩)⟩)⟩)⟩)⟩)⟩)⟩)⟩)⟩)⟩)⟩)⟩)⟩)⟩)
theorem qg5 : ∀ M ∈ [qm80, qm81, qm82, qm83, qm84, qm85, qm86, qm87, qm88, qm89, qm90, qm91, qm92, qm93, qm94, qm95], q_okm M = true := (List.forall_mem_cons.mpr ⟨qk80, (List.forall_mem_cons.mpr ⟨qk81, (List.forall_mem_cons.mpr ⟨qk82, (List.forall_mem_cons.mpr ⟨qk83, (List.forall_mem_cons.mpr ⟨qk84, (List.forall_mem_cons.mpr ⟨qk85, (List.forall_mem_cons.mpr ⟨qk86, (List.forall_mem_cons.mpr ⟨qk87, (List.forall_mem_cons.mpr ⟨qk88, (List.forall_mem_cons.mpr ⟨qk89, (List.forall_mem_cons.mpr ⟨qk90, (List.forall_mem_cons.mpr ⟨qk91, (List.forall_mem_cons.mpr ⟨qk92, (List.forall_mem_cons.mpr ⟨qk93, (List.forall_mem_cons.mpr ⟨qk94, (List.forall_mem_cons.mpr ⟨qk95, (fun _ h => absurd h List.not_mem_nil)⟩)⟩)⟩)⟩)⟩)⟩)⟩)⟩)⟩)⟩)⟩)⟩)⟩)⟩)⟩)⟩)
theorem qg6 : ∀ M ∈ [qm96, qm97, qm98, qm99, qm100, qm101, qm102, qm103, qm104, qm105, qm106, qm107, qm108, qm109, qm110, qm111], q_okm M = true := (List.forall_mem_cons.mpr ⟨qk96, (List.forall_mem_cons.mpr ⟨qk97, (List.forall_mem_cons.mpr ⟨qk98, (List.forall_mem_cons.mpr ⟨qk99, (List.forall_mem_cons.mpr ⟨qk100, (List.forall_mem_cons.mpr ⟨qk101, (List.forall_mem_cons.mpr ⟨qk102, (List.forall_mem_cons.mpr ⟨qk103, (List.forall_mem_cons.mpr ⟨qk104, (List.forall_mem_cons.mpr ⟨qk105, (List.forall_mem_cons.mpr ⟨qk106, (List.forall_mem_cons.mpr ⟨qk107, (List.forall_mem_cons.mpr ⟨qk108, (List.forall_mem_cons.mpr ⟨qk109, (List.forall_mem_cons.mpr ⟨qk110, (List.forall_mem_cons.mpr ⟨qk111, (fun _ h => absurd h List.not_mem_nil)⟩)⟩)⟩)⟩)⟩)⟩)⟩)⟩)⟩)⟩)⟩)⟩)⟩)⟩)⟩)⟩)
theorem qg7 : ∀ M ∈ [qm112, qm113, qm114, qm115, qm116, qm117, qm118, qm119, qm120, qm121, qm122, qm123, qm124, qm125, qm126, qm127], q_okm M = true := (List.forall_mem_cons.mpr ⟨qk112, (List.forall_mem_cons.mpr ⟨qk113, (List.forall_mem_cons.mpr ⟨qk114, (List.forall_mem_cons.mpr ⟨qk115, (List.forall_mem_cons.mpr ⟨qk116, (List.forall_mem_cons.mpr ⟨qk117, (List.forall_mem_cons.mpr ⟨qk118, (List.forall_mem_cons.mpr ⟨qk119, (List.forall_mem_cons.mpr ⟨qk120, (List.forall_mem_cons.mpr ⟨qk121, (List.forall_mem_cons.mpr ⟨qk122, (List.forall_mem_cons.mpr ⟨qk123, (List.forall_mem_cons.mpr ⟨qk124, (List.forall_mem_cons.mpr ⟨qk125, (List.forall_mem_cons.mpr ⟨qk126, (List.forall_mem_cons.mpr ⟨qk127, (fun _ h => absurd h List.not_mem_nil)⟩)⟩)⟩)⟩)⟩)⟩)⟩)⟩)⟩)⟩)⟩)⟩)⟩)⟩)⟩)⟩)
theorem qg8 : ∀ M ∈ [qm128, qm129, qm130, qm131, qm132, qm133, qm134, qm135, qm136, qm137, qm138, qm139, qm140, qm141, qm142, qm143], q_okm M = true := (List.forall_mem_cons.mpr ⟨qk128, (List.forall_mem_cons.mpr ⟨qk129, (List.forall_mem_cons.mpr ⟨qk130, (List.forall_mem_cons.mpr ⟨qk131, (List.forall_mem_cons.mpr ⟨qk132, (List.forall_mem_cons.mpr ⟨qk133, (List.forall_mem_cons.mpr ⟨qk134, (List.forall_mem_cons.mpr ⟨qk135, (List.forall_mem_cons.mpr ⟨qk136, (List.forall_mem_cons.mpr ⟨qk137, (List.forall_mem_cons.mpr ⟨qk138, (List.forall_mem_cons.mpr ⟨qk139, (List.forall_mem_cons.mpr ⟨qk140, (List.forall_mem_cons.mpr ⟨qk141, (List.forall_mem_cons.mpr ⟨qk142, (List.forall_mem_cons.mpr ⟨qk143, (fun _ h => absurd h List.not_mem_nil)⟩)⟩)⟩)⟩)⟩)⟩)⟩)⟩)⟩)⟩)⟩)⟩)⟩)⟩)⟩)⟩)
theorem qg9 : ∀ M ∈ [qm144, qm145, qm146, qm147, qm148, qm149, qm150, qm151, qm152, qm153, qm154, qm155, qm156, qm157, qm158, qm159], q_okm M = true := (List.forall_mem_cons.mpr ⟨qk144, (List.forall_mem_cons.mpr ⟨qk145, (List.forall_mem_cons.mpr ⟨qk146, (List.forall_mem_cons.mpr ⟨qk147, (List.forall_mem_cons.mpr ⟨qk148, (List.forall_mem_cons.mpr ⟨qk149, (List.forall_mem_cons.mpr ⟨qk150, (List.forall_mem_cons.mpr ⟨qk151, (List.forall_mem_cons.mpr ⟨qk152, (List.forall_mem_cons.mpr ⟨qk153, (List.forall_mem_cons.mpr ⟨qk154, (List.forall_mem_cons.mpr ⟨qk155, (List.forall_mem_cons.mpr ⟨qk156, (List.forall_mem_cons.mpr ⟨qk157, (List.forall_mem_cons.mpr ⟨qk158, (List.forall_mem_cons.mpr ⟨qk159, (fun _ h => absurd h List.not_mem_nil)⟩)⟩)⟩)⟩)⟩)⟩)⟩)⟩)⟩)⟩)⟩)⟩)⟩)⟩)⟩)⟩)
theorem qg10 : ∀ M ∈ [qm160, qm161, qm162, qm163, qm164, qm165, qm166, qm167, qm168, qm169, qm170, qm171, qm172, qm173, qm174, qm175], q_okm M = true := (List.forall_mem_cons.mpr ⟨qk160, (List.forall_mem_cons.mpr ⟨qk161, (List.forall_mem_cons.mpr ⟨qk162, (List.forall_mem_cons.mpr ⟨qk163, (List.forall_mem_cons.mpr ⟨qk164, (List.forall_mem_cons.mpr ⟨qk165, (List.forall_mem_cons.mpr ⟨qk166, (List.forall_mem_cons.mpr ⟨qk167, (List.forall_mem_cons.mpr ⟨qk168, (List.forall_mem_cons.mpr ⟨qk169, (List.forall_mem_cons.mpr ⟨qk170, (List.forall_mem_cons.mpr ⟨qk171, (List.forall_mem_cons.mpr ⟨qk172, (List.forall_mem_cons.mpr ⟨qk173, (List.forall_mem_cons.mpr ⟨qk174, (List.forall_mem_cons.mpr ⟨qk175, (fun _ h => absurd h List.not_mem_nil)⟩)⟩)⟩)⟩)⟩)⟩)⟩)⟩)⟩)⟩)⟩)⟩)⟩)⟩)⟩)⟩)
theorem qg11 : ∀ M ∈ [qm176, qm177, qm178, qm179, qm180, qm181, qm182, qm183, qm184, qm185, qm186, qm187, qm188, qm189, qm190, qm191], q_okm M = true := (List.forall_mem_cons.mpr ⟨qk176, (List.forall_mem_cons.mpr ⟨qk177, (List.forall_mem_cons.mpr ⟨qk178, (List.forall_mem_cons.mpr ⟨qk179, (List.forall_mem_cons.mpr ⟨qk180, (List.forall_mem_cons.mpr ⟨qk181, (List.forall_mem_cons.mpr ⟨qk182, (List.forall_mem_cons.mpr ⟨qk183, (List.forall_mem_cons.mpr ⟨qk184, (List.forall_mem_cons.mpr ⟨qk185, (List.forall_mem_cons.mpr ⟨qk186, (List.forall_mem_cons.mpr ⟨qk187, (List.forall_mem_cons.mpr ⟨qk188, (List.forall_mem_cons.mpr ⟨qk189, (List.forall_mem_cons.mpr ⟨qk190, (List.forall_mem_cons.mpr ⟨qk191, (fun _ h => absurd h List.not_mem_nil)⟩)⟩)⟩)⟩)⟩)⟩)⟩)⟩)⟩)⟩)⟩)⟩)⟩)⟩)⟩)⟩)
theorem qg12 : ∀ M ∈ [qm192, qm193, qm194, qm195, qm196, qm197, qm198, qm199, qm200], q_okm M = true := (List.forall_mem_cons.mpr ⟨qk192, (List.forall_mem_cons.mpr ⟨qk193, (List.forall_mem_cons.mpr ⟨qk194, (List.forall_mem_cons.mpr ⟨qk195, (List.forall_mem_cons.mpr ⟨qk196, (List.forall_mem_cons.mpr ⟨qk197, (List.forall_mem_cons.mpr ⟨qk198, (List.forall_mem_cons.mpr ⟨qk199, (List.forall_mem_cons.mpr ⟨qk200, (fun _ h => absurd h List.not_mem_nil)⟩)⟩)⟩)⟩)⟩)⟩)⟩)⟩)⟩)
theorem q_okm_all : ∀ r ∈ q_ms, ∀ M ∈ r, q_okm M = true := (List.forall_mem_cons.mpr ⟨qg0, (List.forall_mem_cons.mpr ⟨qg1, (List.forall_mem_cons.mpr ⟨qg2, (List.forall_mem_cons.mpr ⟨qg3, (List.forall_mem_cons.mpr ⟨qg4, (List.forall_mem_cons.mpr ⟨qg5, (List.forall_mem_cons.mpr ⟨qg6, (List.forall_mem_cons.mpr ⟨qg7, (List.forall_mem_cons.mpr ⟨qg8, (List.forall_mem_cons.mpr ⟨qg9, (List.forall_mem_cons.mpr ⟨qg10, (List.forall_mem_cons.mpr ⟨qg11, (List.forall_mem_cons.mpr ⟨qg12, (fun _ h => absurd h List.not_mem_nil)⟩)⟩)⟩)⟩)⟩)⟩)⟩)⟩)⟩)⟩)⟩)⟩)⟩)
theorem q_g16_mem {α : Type} {l : List (List α)} {i : Nat} {M : α} (h : q_g16 l i = some M) : ∃ r ∈ l, M ∈ r := by
  unfold q_g16 at h
  split at h
  · rename_i r hr
    exact ⟨r, List.mem_of_getElem? hr, List.mem_of_getElem? h⟩
  · cases h
theorem q_g16_map {α β : Type} (f : α → β) (l : List (List α)) (i : Nat) : q_g16 (l.map (fun r => r.map f)) i = (q_g16 l i).map f := by
  unfold q_g16
  rw [List.getElem?_map]
  cases l[i / 16]? with
  | none => rfl
  | some r => simp
theorem q_y_of {mi : Nat} {M : QM} (h : q_g16 q_ms mi = some M) : q_y mi = (M.1, M.2.1, M.2.2.1, M.2.2.2.1, M.2.2.2.2.1, M.2.2.2.2.2.1) := by
  unfold q_y
  rw [← q_ys_ok, q_g16_map, h]
  rfl
set_option maxRecDepth 100000 in
theorem q_ms_lt : ∀ mi, mi < 208 → (q_g16 q_ms mi).isSome = decide (mi < 201) := by decide +kernel
theorem q_ms_lt2 {mi : Nat} {M : QM} (h : q_g16 q_ms mi = some M) : mi < 201 := by
  rcases Nat.lt_or_ge mi 208 with q | q
  · have e := q_ms_lt mi q
    rw [h] at e
    exact of_decide_eq_true e.symm
  · exfalso
    have e : q_ms[mi / 16]? = none := List.getElem?_eq_none (by show 13 ≤ mi / 16; omega)
    simp [q_g16, e] at h
theorem q_ms_get {mi : Nat} (h : mi < 201) : ∃ M, q_g16 q_ms mi = some M := by
  have e := q_ms_lt mi (by omega)
  rw [decide_eq_true h] at e
  exact Option.isSome_iff_exists.mp e
set_option maxRecDepth 100000 in
theorem q_mlk_lt : ∀ e ∈ q_mlk, e.2.2 < 201 := by decide +kernel
/-- what is known of a method of the table -/
theorem q_mk {mi : Nat} {M : QM} (h : q_g16 q_ms mi = some M) : q_okm M = true ∧ Cond.code M.1 M.2.1 M.2.2.1 M.2.2.2.1 ∈ gw ∧ M.1.cls = q_own (M.2.2.2.2.1 / 2) ∧ (parseMethodDescriptor M.1.desc).map (fun d => d.parameters.length) = some (M.2.2.2.2.2.1 - (1 - M.2.2.2.2.1 % 2)) ∧ plainName M.1.cls = true ∧ M.2.2.2.2.2.1 ≤ M.2.2.1 ∧ M.2.2.1 ≤ 30 ∧ (M.1.cls ≠ "java/lang/invoke/MethodHandle" ∧ M.1.cls ≠ "java/lang/invoke/VarHandle") ∧ Cond.initialized M.1.cls ∈ gw := by
  obtain ⟨r, hr, hM⟩ := q_g16_mem h
  have h1 := of_decide_eq_true (q_oky_all mi (q_ms_lt2 h))
  have h0 := q_kc_in mi h1.1
  unfold q_wc at h0
  rw [q_y_of h] at h0 h1
  obtain ⟨-, h2, h3, h4, h5, h6, h7, h8, h9⟩ := h1
  exact ⟨q_okm_all r hr M hM, gw_of h0 rfl, h2, h3, h4, h5, h6, ⟨h7, h8⟩, gw_of (q_tb_in (j := 1) h9) rfl⟩
def q_rm (d : Nat) : Room := { frames := d + 8, cells := 0, slots := 0, locals := 64 * d + 400 }
def q_In (ad : Nat → Nat) (ca : Nat → ClassId) (dC : Nat → ClassId) (dI : Nat → Nat → Nat) (u : QS) (t : State) : Prop := va_P (dC, dI) q_cl (q_ws ad ca u) t.heap ∧ va_K (dC, dI) q_cl (q_tys ca) t ∧ q_Out ad t t.heap
def q_Qc (ad : Nat → Nat) (ca : Nat → ClassId) (dC : Nat → ClassId) (dI : Nat → Nat → Nat) (Q : QQ) : Array Value → State → Outcome → State → Prop := fun _ st oc t => (∃ (r : Option Int32) (u : QS), oc = .returned (r.map Value.int) ∧ Q r u ∧ q_In ad ca dC dI u t) ∧ va_F (q_A ad) st t
def q_Snd (l : Launch) (ad : Nat → Nat) (ca : Nat → ClassId) (dC : Nat → ClassId) (dI : Nat → Nat → Nat) : QP := fun d mi k L st σ Q => ∀ (M : QM), q_g16 q_ms mi = some M → ∀ (b : QB), M.2.2.2.2.2.2[k]? = some b → ∀ (p : Program) (e : Env) (s : State) (m : MethodId) (args : Array Value) (below : List Frame) (meth : Method) (c0 : Code), q_Cx p l (q_rm d) s m args c0 ad ca dC dI M.2.1 (M.2.2.2.2.1 / 2) M.2.2.1 → meth.sig.returnType = M.2.2.2.1 → meth.locks = false → q_W p l e (q_rm d) s m args below meth c0 (MQ below (q_Qc ad ca dC dI Q) args s 0 0 (q_A ad)) ad ca dC dI M.2.2.1 b.1 L st σ
theorem q_args_at (ad : Nat → Nat) : ∀ (vs : List QV) (k i : Nat) (x : QV), vs[i]? = some x → (k + i, q_v ad x) ∈ lv_args k (vs.map (q_v ad))
  | [], k, i, x, h => by simp at h
  | v :: vs, k, 0, x, h => by
    simp only [List.getElem?_cons_zero, Option.some.injEq] at h
    subst h
    exact List.mem_cons_self
  | v :: vs, k, i + 1, x, h => by
    simp only [List.getElem?_cons_succ] at h
    have := q_args_at ad vs (k + 1) i x h
    simp only [List.map_cons, lv_args, q_v_cat]
    refine List.mem_cons_of_mem _ ?_
    rw [show k + (i + 1) = k + 1 + i by omega]
    exact this
theorem q_sl_len (ad : Nat → Nat) (vs : List QV) : (lg_sl (vs.map (q_v ad))).length = vs.length := by
  induction vs with
  | nil => rfl
  | cons v vs ih =>
    have e : lg_sl ((v :: vs).map (q_v ad)) = [Slot.val (q_v ad v)] ++ lg_sl (vs.map (q_v ad)) := by
      simp [lg_sl, q_v_cat]
    rw [e, List.length_append, ih]
    simp
    omega
theorem q_ent_has (ad : Nat → Nat) (vs : List QV) {na ml : Nat} (h : vs.length = na) (hn : na ≤ ml) : lv_has ((lg_sl (vs.map (q_v ad)) ++ List.replicate (ml - (lg_sl (vs.map (q_v ad))).length) Slot.unset).toArray) ml (q_lv ad (vs.map some ++ List.replicate (ml - na) none)) := by
  have h1 := lv_entry (vs.map (q_v ad)) (n := ml) (by rw [q_sl_len]; omega)
  refine ⟨h1.1, h1.2.1, ?_⟩
  rintro ⟨i, v⟩ hq
  obtain ⟨x, hx, rfl⟩ := q_lv_mem.mp hq
  have hi : vs[i]? = some x := by
    rcases Nat.lt_or_ge i vs.length with q | q
    · rw [List.getElem?_append_left (by simpa using q), List.getElem?_map] at hx
      simpa using hx
    · rw [List.getElem?_append_right (by simpa using q)] at hx
      rw [List.getElem?_replicate] at hx
      split at hx <;> simp at hx
  have := q_args_at ad vs 0 i x hi
  rw [Nat.zero_add] at this
  exact h1.2.2 _ this
theorem q_ent_len {na ml : Nat} {st : List QV} (h : na ≤ st.length) (hn : na ≤ ml) : (q_ent na ml st).length = ml := by
  simp [q_ent, Nat.min_eq_left h]
  omega
/-- a method's contract out of the judgement of its first block -/
theorem q_met {l : Launch} {ad : Nat → Nat} {ca : Nat → ClassId} {dC : Nat → ClassId} {dI : Nat → Nat → Nat} (hi : ∀ i j, i < 118 → j < 118 → ad i = ad j → i = j) (hIx : q_Ix l ad) {d mi : Nat} {M : QM} (hM : q_g16 q_ms mi = some M) {st : List QV} {σ : QS} {Q : QQ} (hst : M.2.2.2.2.2.1 ≤ st.length) (h : q_Snd l ad ca dC dI d mi 0 (q_ent M.2.2.2.2.2.1 M.2.2.1 st) [] σ Q) : Met l M.1 (Cond.code M.1 M.2.1 M.2.2.1 M.2.2.2.1 :: gw) (q_rm d) (va_Pc (((st.take M.2.2.2.2.2.1).reverse).map (q_v ad)) (fun U => q_In ad ca dC dI σ U)) (q_Qc ad ca dC dI Q) 0 0 (q_A ad) := by
  obtain ⟨hok, hcode, hcls, hdes, hpl, hna, hml30, hmh, hini⟩ := q_mk hM
  unfold q_okm at hok
  rw [Bool.and_eq_true] at hok
  have h0 := of_decide_eq_true hok.1
  rw [List.getElem?_map] at h0
  obtain ⟨b0, hb0, hb1⟩ := Option.map_eq_some_iff.mp h0
  refine Met.ofW (cc := M.2.1) (maxL := M.2.2.1) (ret := M.2.2.2.1) hpl rfl ?_
  intro p e s m args below meth c s₁ B hml hv
  obtain ⟨rfl, hP, hK, hO⟩ := hv
  have hts := atoms_spec (ws := Cond.code M.1 M.2.1 M.2.2.1 M.2.2.2.1 :: gw) B.pre
  have X : q_Cx p l (q_rm d) s m _ c ad ca dC dI M.2.1 (M.2.2.2.2.1 / 2) M.2.2.1 := ⟨B.exec, B.bytes, hml, by rw [← hcls]; exact findClass_of_methodNamed B.named, fun w hw => hts w (List.mem_cons_of_mem _ hw), hK, hO, hi, by show 8 ≤ d + 8; omega, by show 400 ≤ 64 * d + 400; omega, hIx⟩
  have hw := h M hM b0 hb0 p e s m _ below meth c X B.returns B.notSynchronized
  rw [hb1] at hw
  rw [lg_entry_eq]
  have hlen : (st.take M.2.2.2.2.2.1).reverse.length = M.2.2.2.2.2.1 := by simp [Nat.min_eq_left hst]
  exact hw (q_ent_len hst hna) _ _ [] (q_ent_has ad _ hlen hna) hP va_S.rf
end
section
theorem qt_goto {p : Program} {l : Launch} {e : Env} {R : Room} {s : State} {m : MethodId} {args : Array Value} {below : List Frame} {meth : Method} {c0 : Code} {Qs : State → Prop} {ad : Nat → Nat} {ca : Nat → ClassId} {dC : Nat → ClassId} {dI : Nat → Nat → Nat} {cc : ByteArray} {own nL : Nat} (X : q_Cx p l R s m args c0 ad ca dC dI cc own nL) {pc : Nat} {L : QL} {st : List QV} {σ : QS} {off : Int} {g : Nat} (hd : decode cc pc = .ok (.goto off, 3)) (hg : (pc : Int) + off = (g : Int)) (k : q_W p l e R s m args below meth c0 Qs ad ca dC dI nL (g) (L) (st) σ) : q_W p l e R s m args below meth c0 Qs ad ca dC dI nL (pc) (L) (st) σ := by
  obtain ⟨hx, hb, hml, hown, hts, hK, hZ, hi, hf, hlo, hIx⟩ := X
  intro hL ls H locs hl hP hS
  exact lv_goto hx hb hd hg (k hL ls H locs hl hP hS)
theorem qt_if {p : Program} {l : Launch} {e : Env} {R : Room} {s : State} {m : MethodId} {args : Array Value} {below : List Frame} {meth : Method} {c0 : Code} {Qs : State → Prop} {ad : Nat → Nat} {ca : Nat → ClassId} {dC : Nat → ClassId} {dI : Nat → Nat → Nat} {cc : ByteArray} {own nL : Nat} (X : q_Cx p l R s m args c0 ad ca dC dI cc own nL) {pc : Nat} {L : QL} {st : List QV} {σ : QS} {off : Int} {g : Nat} {c : Jvm.ClassFile.Cond} {x : Int32} {T F : Prop} (hd : decode cc pc = .ok (.ifCond c off, 3)) (hg : (pc : Int) + off = (g : Int)) (hq : q_br c x 0 T F) (k1 : T → q_W p l e R s m args below meth c0 Qs ad ca dC dI nL (g) (L) (st) σ) (k2 : F → q_W p l e R s m args below meth c0 Qs ad ca dC dI nL (pc + 3) (L) (st) σ) : q_W p l e R s m args below meth c0 Qs ad ca dC dI nL (pc) (L) (.inl x :: st) σ := by
  obtain ⟨hx, hb, hml, hown, hts, hK, hZ, hi, hf, hlo, hIx⟩ := X
  intro hL ls H locs hl hP hS
  cases c
  · exact lv_if_eq hx hb hd hg (fun q => k1 (hq.1 q) hL ls H locs hl hP hS) (fun q => k2 (hq.2 q) hL ls H locs hl hP hS)
  · exact lv_if_ne hx hb hd hg (fun q => k1 (hq.1 q) hL ls H locs hl hP hS) (fun q => k2 (hq.2 q) hL ls H locs hl hP hS)
  · exact lv_if_lt hx hb hd hg (fun q => k1 (hq.1 q) hL ls H locs hl hP hS) (fun q => k2 (hq.2 q) hL ls H locs hl hP hS)
  · exact lv_if_ge hx hb hd hg (fun q => k1 (hq.1 q) hL ls H locs hl hP hS) (fun q => k2 (hq.2 q) hL ls H locs hl hP hS)
  · exact lv_if_gt hx hb hd hg (fun q => k1 (hq.1 q) hL ls H locs hl hP hS) (fun q => k2 (hq.2 q) hL ls H locs hl hP hS)
  · exact lv_if_le hx hb hd hg (fun q => k1 (hq.1 q) hL ls H locs hl hP hS) (fun q => k2 (hq.2 q) hL ls H locs hl hP hS)
theorem qt_icmp {p : Program} {l : Launch} {e : Env} {R : Room} {s : State} {m : MethodId} {args : Array Value} {below : List Frame} {meth : Method} {c0 : Code} {Qs : State → Prop} {ad : Nat → Nat} {ca : Nat → ClassId} {dC : Nat → ClassId} {dI : Nat → Nat → Nat} {cc : ByteArray} {own nL : Nat} (X : q_Cx p l R s m args c0 ad ca dC dI cc own nL) {pc : Nat} {L : QL} {st : List QV} {σ : QS} {off : Int} {g : Nat} {c : Jvm.ClassFile.Cond} {x y : Int32} {T F : Prop} (hd : decode cc pc = .ok (.if_icmp c off, 3)) (hg : (pc : Int) + off = (g : Int)) (hq : q_br c x y T F) (k1 : T → q_W p l e R s m args below meth c0 Qs ad ca dC dI nL (g) (L) (st) σ) (k2 : F → q_W p l e R s m args below meth c0 Qs ad ca dC dI nL (pc + 3) (L) (st) σ) : q_W p l e R s m args below meth c0 Qs ad ca dC dI nL (pc) (L) (.inl y :: .inl x :: st) σ := by
  obtain ⟨hx, hb, hml, hown, hts, hK, hZ, hi, hf, hlo, hIx⟩ := X
  intro hL ls H locs hl hP hS
  cases c
  · exact lv_icmp_eq hx hb hd hg (fun q => k1 (hq.1 q) hL ls H locs hl hP hS) (fun q => k2 (hq.2 q) hL ls H locs hl hP hS)
  · exact lv_icmp_ne hx hb hd hg (fun q => k1 (hq.1 q) hL ls H locs hl hP hS) (fun q => k2 (hq.2 q) hL ls H locs hl hP hS)
  · exact lv_icmp_lt hx hb hd hg (fun q => k1 (hq.1 q) hL ls H locs hl hP hS) (fun q => k2 (hq.2 q) hL ls H locs hl hP hS)
  · exact lv_icmp_ge hx hb hd hg (fun q => k1 (hq.1 q) hL ls H locs hl hP hS) (fun q => k2 (hq.2 q) hL ls H locs hl hP hS)
  · exact lv_icmp_gt hx hb hd hg (fun q => k1 (hq.1 q) hL ls H locs hl hP hS) (fun q => k2 (hq.2 q) hL ls H locs hl hP hS)
  · exact lv_icmp_le hx hb hd hg (fun q => k1 (hq.1 q) hL ls H locs hl hP hS) (fun q => k2 (hq.2 q) hL ls H locs hl hP hS)
theorem qt_table {p : Program} {l : Launch} {e : Env} {R : Room} {s : State} {m : MethodId} {args : Array Value} {below : List Frame} {meth : Method} {c0 : Code} {Qs : State → Prop} {ad : Nat → Nat} {ca : Nat → ClassId} {dC : Nat → ClassId} {dI : Nat → Nat → Nat} {cc : ByteArray} {own nL : Nat} (X : q_Cx p l R s m args c0 ad ca dC dI cc own nL) {pc : Nat} {L : QL} {st : List QV} {σ : QS} {sts : List Nat} {dd lo hi2 : Int} {offs : Array Int} {len a : Nat} {ts : List (Int × Nat)} {x : Int32} {kk : Nat → Prop} (hd : decode cc pc = .ok (.tableswitch dd lo hi2 offs, len)) (hs : q_sg sts[a]? ((pc : Int) + dd) = true) (hta : q_oktab sts pc lo offs.toList ts = true) (hr : hi2 = lo + offs.size - 1 ∧ -2147483648 ≤ lo ∧ hi2 < 2147483648) (hq : q_sw kk x a ts) (k : ∀ b g, sts[b]? = some g → kk b → q_W p l e R s m args below meth c0 Qs ad ca dC dI nL (g) (L) (st) σ) : q_W p l e R s m args below meth c0 Qs ad ca dC dI nL (pc) (L) (.inl x :: st) σ := by
  obtain ⟨hx, hb, hml, hown, hts, hK, hZ, hi, hf, hlo, hIx⟩ := X
  intro hL ls H locs hl hP hS
  obtain ⟨hlen, hat⟩ := q_oktab_at lo _ _ hta
  obtain ⟨rfl, hr1, hr2⟩ := hr
  have hxr := q_rngI x
  by_cases h1 : x.toInt < lo ∨ lo + offs.size - 1 < x.toInt
  · obtain ⟨g, hg, hg2⟩ := q_sg_at hs
    refine lv_tableOut hx hb hd h1 hg2 (k a g hg (q_sw_none ts hq ?_) hL ls H locs hl hP hS)
    intro q hqm e
    obtain ⟨j, hj⟩ := List.getElem?_of_mem hqm
    obtain ⟨e1, -⟩ := hat j q hj
    have hjl := (List.getElem?_eq_some_iff.mp hj).1
    rw [hlen, Array.length_toList] at hjl
    have hq1 : -2147483648 ≤ q.1 := by omega
    have hq2 : q.1 < 2147483648 := by omega
    have e2 : x.toInt = q.1 := by rw [e]; exact Int32.toInt_ofInt_of_le (by simpa using hq1) (by simpa using hq2)
    omega
  · have h2 : ¬ x.toInt < lo := fun z => h1 (Or.inl z)
    have h3 : ¬ lo + offs.size - 1 < x.toInt := fun z => h1 (Or.inr z)
    have hj : (x.toInt - lo).toNat < ts.length := by rw [hlen, Array.length_toList]; omega
    obtain ⟨q, hqj⟩ : ∃ q, ts[(x.toInt - lo).toNat]? = some q := ⟨_, List.getElem?_eq_getElem hj⟩
    obtain ⟨e1, of, e2, e3⟩ := hat _ q hqj
    obtain ⟨g, hg, hg2⟩ := q_sg_at e3
    have ho : offs[(x.toInt - lo).toNat]? = some of := by rw [← Array.getElem?_toList]; exact e2
    have hxq : x = Int32.ofInt q.1 := by
      rw [e1, show lo + ((x.toInt - lo).toNat : Int) = x.toInt by omega]
      exact (q_ofInt_toInt x).symm
    refine lv_tableIn hx hb hd h2 h3 ho hg2 (k q.2 g hg (q_sw_get ts _ q.1 q.2 hq hqj hxq ?_) hL ls H locs hl hP hS)
    intro j2 hj2 q2 hq2 e
    obtain ⟨f1, -⟩ := hat j2 q2 hq2
    have e4 := q_ofInt_inj (by omega) (by omega) (by omega) (by omega) (hxq.symm.trans e)
    omega
theorem qt_lookup {p : Program} {l : Launch} {e : Env} {R : Room} {s : State} {m : MethodId} {args : Array Value} {below : List Frame} {meth : Method} {c0 : Code} {Qs : State → Prop} {ad : Nat → Nat} {ca : Nat → ClassId} {dC : Nat → ClassId} {dI : Nat → Nat → Nat} {cc : ByteArray} {own nL : Nat} (X : q_Cx p l R s m args c0 ad ca dC dI cc own nL) {pc : Nat} {L : QL} {st : List QV} {σ : QS} {sts : List Nat} {dd : Int} {ps : Array (Int × Int)} {len a : Nat} {ts : List (Int × Nat)} {x : Int32} {kk : Nat → Prop} (hd : decode cc pc = .ok (.lookupswitch dd ps, len)) (hs : q_sg sts[a]? ((pc : Int) + dd) = true) (hta : q_oklk sts pc ps.toList ts = true) (hso : (ps.toList.zip (ps.toList.drop 1)).all (fun (a, next) => a.1 < next.1) = true) (hr : ps.toList.all (fun q => decide (-2147483648 ≤ q.1 ∧ q.1 < 2147483648)) = true) (hq : q_sw kk x a ts) (k : ∀ b g, sts[b]? = some g → kk b → q_W p l e R s m args below meth c0 Qs ad ca dC dI nL (g) (L) (st) σ) : q_W p l e R s m args below meth c0 Qs ad ca dC dI nL (pc) (L) (.inl x :: st) σ := by
  obtain ⟨hx, hb, hml, hown, hts, hK, hZ, hi, hf, hlo, hIx⟩ := X
  intro hL ls H locs hl hP hS
  obtain ⟨b, h1, h2⟩ := q_oklk_off (x := x) _ _ hta (fun q hqm => of_decide_eq_true (List.all_eq_true.mp hr q hqm)) hq hs
  obtain ⟨g, hg, hg2⟩ := q_sg_at h2
  exact lv_lookup hx hb hd hso rfl hg2 (k b g hg h1 hL ls H locs hl hP hS)
theorem qt_iret {p : Program} {l : Launch} {e : Env} {d : Nat} {s : State} {m : MethodId} {args : Array Value} {below : List Frame} {meth : Method} {c0 : Code} {Q : QQ} {ad : Nat → Nat} {ca : Nat → ClassId} {dC : Nat → ClassId} {dI : Nat → Nat → Nat} {cc : ByteArray} {own nL : Nat} (X : q_Cx p l (q_rm d) s m args c0 ad ca dC dI cc own nL) {pc : Nat} {L : QL} {st : List QV} {σ : QS} {x : Int32} (hlocks : meth.locks = false) (hd : decode cc pc = .ok (.ireturn, 1)) (hr : meth.sig.returnType = some .int) (hq : Q (some x) σ) : q_W p l e (q_rm d) s m args below meth c0 (MQ below (q_Qc ad ca dC dI Q) args s 0 0 (q_A ad)) ad ca dC dI nL (pc) (L) ([.inl x]) σ := by
  obtain ⟨hx, hb, hml, hown, hts, hK, hZ, hi, hf, hlo, hIx⟩ := X
  intro hL ls H locs hl hP hS
  exact W.iret (v := x) hx hb hr (fun t ht hW => ⟨⟨some x, σ, rfl, hq, by rw [ht]; exact hP, va_K.moved hW.alike hK, by rw [ht]; exact q_Out_moved hZ hW hS.2.1⟩, hS.F ht⟩) hS.2.2 hd hlocks
theorem qt_zret {p : Program} {l : Launch} {e : Env} {d : Nat} {s : State} {m : MethodId} {args : Array Value} {below : List Frame} {meth : Method} {c0 : Code} {Q : QQ} {ad : Nat → Nat} {ca : Nat → ClassId} {dC : Nat → ClassId} {dI : Nat → Nat → Nat} {cc : ByteArray} {own nL : Nat} (X : q_Cx p l (q_rm d) s m args c0 ad ca dC dI cc own nL) {pc : Nat} {L : QL} {st : List QV} {σ : QS} {x : Int32} (hlocks : meth.locks = false) (hd : decode cc pc = .ok (.ireturn, 1)) (hr : meth.sig.returnType = some .boolean) (h01 : x = 0 ∨ x = 1) (hq : Q (some x) σ) : q_W p l e (q_rm d) s m args below meth c0 (MQ below (q_Qc ad ca dC dI Q) args s 0 0 (q_A ad)) ad ca dC dI nL (pc) (L) ([.inl x]) σ := by
  obtain ⟨hx, hb, hml, hown, hts, hK, hZ, hi, hf, hlo, hIx⟩ := X
  intro hL ls H locs hl hP hS
  exact W.zret (v := x) hx hb hr (by rcases h01 with rfl | rfl <;> decide +kernel) (fun t ht hW => ⟨⟨some x, σ, rfl, hq, by rw [ht]; exact hP, va_K.moved hW.alike hK, by rw [ht]; exact q_Out_moved hZ hW hS.2.1⟩, hS.F ht⟩) hS.2.2 hd hlocks
theorem qt_vret {p : Program} {l : Launch} {e : Env} {d : Nat} {s : State} {m : MethodId} {args : Array Value} {below : List Frame} {meth : Method} {c0 : Code} {Q : QQ} {ad : Nat → Nat} {ca : Nat → ClassId} {dC : Nat → ClassId} {dI : Nat → Nat → Nat} {cc : ByteArray} {own nL : Nat} (X : q_Cx p l (q_rm d) s m args c0 ad ca dC dI cc own nL) {pc : Nat} {L : QL} {st : List QV} {σ : QS} (hlocks : meth.locks = false) (hd : decode cc pc = .ok (.return_, 1)) (hr : meth.sig.returnType = none) (hq : Q none σ) : q_W p l e (q_rm d) s m args below meth c0 (MQ below (q_Qc ad ca dC dI Q) args s 0 0 (q_A ad)) ad ca dC dI nL (pc) (L) ([]) σ := by
  obtain ⟨hx, hb, hml, hown, hts, hK, hZ, hi, hf, hlo, hIx⟩ := X
  intro hL ls H locs hl hP hS
  exact W.vret hx hb hr (fun t ht hW => ⟨⟨none, σ, rfl, hq, by rw [ht]; exact hP, va_K.moved hW.alike hK, by rw [ht]; exact q_Out_moved hZ hW hS.2.1⟩, hS.F ht⟩) hS.2.2 hd hlocks
end
section
theorem q_rm_fr (d : Nat) : (q_rm d).frames = d + 8 := rfl
theorem q_rm_lo (d : Nat) : (q_rm d).locals = 64 * d + 400 := rfl
theorem q_rm_ok1 (d : Nat) : (q_rm d).frames + 1 ≤ (q_rm (d + 1)).frames := by
  have h1 := q_rm_fr d
  have h2 := q_rm_fr (d + 1)
  omega
theorem q_rm_ok2 (d n : Nat) (h : n ≤ 30) : 8 + (n + 11) + (q_rm d).locals ≤ (q_rm (d + 1)).locals := by
  have h1 := q_rm_lo d
  have h2 := q_rm_lo (d + 1)
  omega
set_option maxHeartbeats 2000000 in
/-- a call, whatever kind: from the run of the called method on -/
theorem q_go {p : Program} {l : Launch} {e : Env} {s : State} {m : MethodId} {args : Array Value} {below : List Frame} {meth : Method} {c0 : Code} {Qs : State → Prop} {ad : Nat → Nat} {ca : Nat → ClassId} {dC : Nat → ClassId} {dI : Nat → Nat → Nat} {R : Room} {nL pc : Nat} {L : QL} {rest : List QV} {st0 : List Value} {Rq : QQ} {a : Array Value} {ls : Array Slot} {H : Heap} {locs : List Loc}
    (hr : va_Run p l e R s m args below meth c0 H locs 0 0 0 0 (F0 m pc ls st0) (rest.map (q_v ad)) (q_Qc ad ca dC dI Rq a) (q_A ad)) (hS : va_S (q_A ad) s.heap H locs) (hL : L.length = nL) (hl : lv_has ls nL (q_lv ad L))
    (k : ∀ r σ2, Rq r σ2 → q_W p l e R s m args below meth c0 Qs ad ca dC dI nL (pc + 3) L (q_psh r rest) σ2) : W p l e R s m args below meth c0 H locs 0 0 Qs (F0 m pc ls st0) := by
  intro T hT Xs
  obtain ⟨v, st1, t, T', Lx, h0, X', hLx, e1, e2, ⟨⟨r, u, hv, hq, hP, hK, hO⟩, hz, hk⟩, stp⟩ := hr T hT Xs
  rw [h0] at hz hk
  have hS' : va_S (q_A ad) s.heap T'.heap (locs ++ Lx) := ⟨Nat.le_trans hS.1 (by rw [e1]; exact hz), fun q h1 h2 => by rw [e1, hk q (Nat.lt_of_lt_of_le h1 hS.1) h2]; exact hS.2.1 q h1 h2, fun q hq => (List.mem_append.mp hq).elim (hS.2.2 q) (hLx q)⟩
  rw [← e1] at hP
  obtain ⟨t2, a1, b1⟩ := k r u hq hL ls T'.heap (locs ++ Lx) hl hP hS' T' rfl X'
  refine ⟨t2, stp t2 ?_, b1⟩
  cases r with
  | none => cases hv; exact a1
  | some x => cases hv; exact a1
theorem q_take_get {st : List QV} {na : Nat} {x : QV} (h0 : 0 < na) (h : st[na - 1]? = some x) : st.take na = st.take (na - 1) ++ [x] := by
  have e : na = (na - 1) + 1 := by omega
  conv => lhs; rw [e, List.take_add_one, h]
  rfl
theorem q_In_blind {ad : Nat → Nat} {ca : Nat → ClassId} {dC : Nat → ClassId} {dI : Nat → Nat → Nat} {σ : QS} {av : List Value} : FrameBlind (va_Pc av (fun U => q_In ad ca dC dI σ U)) := fun a U g mk q => ⟨q.1, q.2.1, va_K.moved (u := U) (U := U.calling g mk a) (Vm.Alike.refl U.vm) q.2.2.1, q_Out_same (u := U) (U := U.calling g mk a) rfl rfl q.2.2.2⟩
set_option maxHeartbeats 4000000 in
theorem qt_callV {p : Program} {l : Launch} {e : Env} {d : Nat} {s : State} {m : MethodId} {args : Array Value} {below : List Frame} {meth : Method} {c0 : Code} {Qs : State → Prop} {ad : Nat → Nat} {ca : Nat → ClassId} {dC : Nat → ClassId} {dI : Nat → Nat → Nat} {cc : ByteArray} {own nL : Nat} (X : q_Cx p l (q_rm (d + 1)) s m args c0 ad ca dC dI cc own nL) {pc : Nat} {L : QL} {st : List QV} {σ : QS} {i a na ml : Nat} {tg : Int} {Rq : QQ} (hd : decode cc pc = .ok (.invokevirtual i, 3)) (hmk : (own, i, a) ∈ q_mlk) (hki : a ∈ q_ki) (hkl : a ∈ q_kl) (htg : tg = (((q_y a).2.2.2.2.1 / 2 : Nat) : Int) + 4) (hna : na = (q_y a).2.2.2.2.2) (hml2 : ml = (q_y a).2.2.1) (hn0 : 0 < na) (hev : (q_y a).2.2.2.2.1 % 2 = 0) (hb8 : (Nat.ble (st.drop na).length 8 && q_rc tg na st) = true) (h1 : q_Snd l ad ca dC dI d a 0 (q_ent na ml st) [] σ Rq) (k : ∀ r σ2, Rq r σ2 → q_W p l e (q_rm (d + 1)) s m args below meth c0 Qs ad ca dC dI nL (pc + 3) (L) (q_psh r (st.drop na)) σ2) : q_W p l e (q_rm (d + 1)) s m args below meth c0 Qs ad ca dC dI nL (pc) (L) (st) σ := by
  obtain ⟨hx, hb, hml, hown, hts, hK, hZ, hi, hf, hlo, hIx⟩ := X
  intro hL ls H locs hl hP hS
  obtain ⟨M, hM⟩ := q_ms_get (q_mlk_lt _ hmk)
  obtain ⟨hok, hcode, hcls, hdes, hpl, hnm, hml30, hmh, hini⟩ := q_mk hM
  have hy := q_y_of hM
  rw [hy] at htg hna hml2 hev
  dsimp only at htg hna hml2 hev
  subst hna; subst hml2
  rw [Bool.and_eq_true] at hb8
  have hrest : (st.drop M.2.2.2.2.2.1).length ≤ 8 := Nat.le_of_ble_eq_true hb8.1
  have hrc := hb8.2
  unfold q_rc at hrc
  rw [Bool.and_eq_true] at hrc
  have hrc := hrc.2
  rw [if_neg (by omega)] at hrc
  split at hrc
  · rename_i c hc
    have hlay : (q_lay c).1 = M.2.2.2.2.1 / 2 + 4 := by
      have := of_decide_eq_true hrc
      omega
    have hst : M.2.2.2.2.2.1 ≤ st.length := by
      have := (List.getElem?_eq_some_iff.mp hc).1
      omega
    have htk := q_take_get hn0 hc
    have hMet := q_met hi hIx hM hst h1
    have hrev : ((st.take M.2.2.2.2.2.1).reverse).map (q_v ad) = .ref (ad c) :: ((st.take (M.2.2.2.2.2.1 - 1)).reverse).map (q_v ad) := by
      rw [htk]
      simp [q_v]
    rw [hrev] at hMet
    have hcell := q_lay_lt (c := c) (by have : ∀ mi, mi < 201 → (q_y mi).2.2.2.2.1 < 60 := by decide +kernel
                                        have := this a (q_ms_lt2 hM)
                                        rw [hy] at this
                                        dsimp only at this
                                        omega)
    have hb12 : M.2.2.2.2.1 / 2 < 12 := by
      have : ∀ c, c < 118 → (q_lay c).1 < 16 := by decide +kernel
      have := this c hcell
      omega
    have he := q_ws_at (ad := ad) (ca := ca) (σ := σ) hcell
    rw [q_en_o hlay] at he
    have hclsT : (q_T (M.2.2.2.2.1 / 2)).1 = M.1.cls := by
      rw [hcls]
      have : ∀ b, b < 12 → (q_T b).1 = q_own b := by decide +kernel
      exact this _ hb12
    have hrecv := va_recv hK hP (q_cl_at hb12) he
    rw [hclsT] at hrecv
    have hgw : ∀ w ∈ (Cond.code M.1 M.2.1 M.2.2.1 M.2.2.2.1 :: gw), ∀ (a' : Array Value) (U : State), s.WarmedH U.vm → w.before a' U = true := fun w hw a' U hW => gw_at hts hW w ((List.mem_cons.mp hw).elim (fun h => by rw [h]; exact hcode) id)
    have hlk := q_mlk_in _ hmk
    unfold q_mw at hlk
    have hwi := q_ki_in _ hki
    unfold q_wi at hwi
    have hwl := q_kl_in _ hkl
    unfold q_wl at hwl
    rw [hy] at hlk hwi hwl
    have cw : CallW (q_rm (d + 1)) s args (q_own own) M.1.cls i M.1 M.2.1 M.2.2.1 M.2.2.2.1 (Cond.code M.1 M.2.1 M.2.2.1 M.2.2.2.1 :: gw) (q_rm d) 0 0 (M.2.2.2.2.2.1 - 1) :=
      ⟨⟨rfl, rfl, q_rm_ok1 d, q_rm_ok2 d _ hml30, hgw, List.mem_cons_self, hts _ hcode, hts _ hini, hmh, fun sig h => by
        rw [h] at hdes
        have hz : sig.parameters.length = _ := Option.some.inj hdes
        omega, hts _ (gw_of hlk rfl)⟩, hts _ (gw_of hwi rfl), hts _ (gw_of hwl rfl)⟩
    have hp : PreV s H M.1.cls (ad c) (va_Pc (.ref (ad c) :: ((st.take (M.2.2.2.2.2.1 - 1)).reverse).map (q_v ad)) (fun U => q_In ad ca dC dI σ U)) (((st.take (M.2.2.2.2.2.1 - 1)).reverse).map (q_v ad)) :=
      ⟨q_In_blind, hrecv, fun U hU hW => ⟨rfl, by rw [hU]; exact hP, va_K.moved hW.alike hK, by rw [hU]; exact q_Out_moved hZ hW hS.2.1⟩⟩
    have hstack : st.map (q_v ad) = (((st.take (M.2.2.2.2.2.1 - 1)).reverse).map (q_v ad)).reverse ++ .ref (ad c) :: ((st.drop M.2.2.2.2.2.1).map (q_v ad)) := by
      conv => lhs; rw [← List.take_append_drop M.2.2.2.2.2.1 st, htk]
      simp [q_v, List.map_reverse]
    have hrun := va_runV (locs := locs) (cells := 0) (slots := 0) (below := below) (e := e) (meth := meth) (rest := (st.drop M.2.2.2.2.2.1).map (q_v ad)) (g := F0 m pc ls (st.map (q_v ad))) ⟨hx, hb, hml, hown, hts⟩ hMet cw hp rfl (by simp; omega) hl.1 hstack (lv_room (by rw [q_cats]; exact hrest)) hd ⟨Nat.zero_le _, Nat.zero_le _⟩
    exact q_go hrun hS hL hl k
  · cases hrc
set_option maxHeartbeats 4000000 in
theorem qt_callS {p : Program} {l : Launch} {e : Env} {d : Nat} {s : State} {m : MethodId} {args : Array Value} {below : List Frame} {meth : Method} {c0 : Code} {Qs : State → Prop} {ad : Nat → Nat} {ca : Nat → ClassId} {dC : Nat → ClassId} {dI : Nat → Nat → Nat} {cc : ByteArray} {own nL : Nat} (X : q_Cx p l (q_rm (d + 1)) s m args c0 ad ca dC dI cc own nL) {pc : Nat} {L : QL} {st : List QV} {σ : QS} {i a na ml : Nat} {tg : Int} {Rq : QQ} (hd : decode cc pc = .ok (.invokestatic i, 3)) (hmk : (own, i, a) ∈ q_mlk) (hks : a ∈ q_ks) (hna : na = (q_y a).2.2.2.2.2) (hml2 : ml = (q_y a).2.2.1) (hev : (q_y a).2.2.2.2.1 % 2 = 1) (hb8 : (Nat.ble (st.drop na).length 8 && q_rc tg na st) = true) (h1 : q_Snd l ad ca dC dI d a 0 (q_ent na ml st) [] σ Rq) (k : ∀ r σ2, Rq r σ2 → q_W p l e (q_rm (d + 1)) s m args below meth c0 Qs ad ca dC dI nL (pc + 3) (L) (q_psh r (st.drop na)) σ2) : q_W p l e (q_rm (d + 1)) s m args below meth c0 Qs ad ca dC dI nL (pc) (L) (st) σ := by
  obtain ⟨hx, hb, hml, hown, hts, hK, hZ, hi, hf, hlo, hIx⟩ := X
  intro hL ls H locs hl hP hS
  obtain ⟨M, hM⟩ := q_ms_get (q_mlk_lt _ hmk)
  obtain ⟨hok, hcode, hcls, hdes, hpl, hnm, hml30, hmh, hini⟩ := q_mk hM
  have hy := q_y_of hM
  rw [hy] at hna hml2 hev
  dsimp only at hna hml2 hev
  subst hna; subst hml2
  rw [Bool.and_eq_true] at hb8
  have hrest : (st.drop M.2.2.2.2.2.1).length ≤ 8 := Nat.le_of_ble_eq_true hb8.1
  have hst : M.2.2.2.2.2.1 ≤ st.length := by
    have hrc := hb8.2
    unfold q_rc at hrc
    rw [Bool.and_eq_true] at hrc
    exact Nat.le_of_ble_eq_true hrc.1
  have hMet := q_met hi hIx hM hst h1
  have hgw : ∀ w ∈ (Cond.code M.1 M.2.1 M.2.2.1 M.2.2.2.1 :: gw), ∀ (a' : Array Value) (U : State), s.WarmedH U.vm → w.before a' U = true := fun w hw a' U hW => gw_at hts hW w ((List.mem_cons.mp hw).elim (fun h => by rw [h]; exact hcode) id)
  have hlk := q_mlk_in _ hmk
  unfold q_mw at hlk
  have hwi := q_ks_in _ hks
  unfold q_ws0 at hwi
  rw [hy] at hlk hwi
  have cw : CallB (q_rm (d + 1)) s args (q_own own) i M.1 M.2.1 M.2.2.1 M.2.2.2.1 (Cond.code M.1 M.2.1 M.2.2.1 M.2.2.2.1 :: gw) (q_rm d) 0 0 M.2.2.2.2.2.1 ∧ (Cond.static M.1).before args s = true :=
    ⟨⟨rfl, rfl, q_rm_ok1 d, q_rm_ok2 d _ hml30, hgw, List.mem_cons_self, hts _ hcode, hts _ hini, hmh, fun sig h => by
      rw [h] at hdes
      have hz : sig.parameters.length = _ := Option.some.inj hdes
      omega, hts _ (gw_of hlk rfl)⟩, hts _ (gw_of hwi rfl)⟩
  have hp : PreS s H (va_Pc (((st.take M.2.2.2.2.2.1).reverse).map (q_v ad)) (fun U => q_In ad ca dC dI σ U)) (((st.take M.2.2.2.2.2.1).reverse).map (q_v ad)) :=
    ⟨q_In_blind, fun U hU hW => ⟨rfl, by rw [hU]; exact hP, va_K.moved hW.alike hK, by rw [hU]; exact q_Out_moved hZ hW hS.2.1⟩⟩
  have hstack : st.map (q_v ad) = (((st.take M.2.2.2.2.2.1).reverse).map (q_v ad)).reverse ++ ((st.drop M.2.2.2.2.2.1).map (q_v ad)) := by
    conv => lhs; rw [← List.take_append_drop M.2.2.2.2.2.1 st]
    simp [List.map_reverse]
  have hrun := va_runS (locs := locs) (cells := 0) (slots := 0) (below := below) (e := e) (meth := meth) (rest := (st.drop M.2.2.2.2.2.1).map (q_v ad)) (g := F0 m pc ls (st.map (q_v ad))) ⟨hx, hb, hml, hown, hts⟩ hMet cw hp rfl (by simp [Nat.min_eq_left hst]) hl.1 hstack (lv_room (by rw [q_cats]; exact hrest)) hd ⟨Nat.zero_le _, Nat.zero_le _⟩
  exact q_go hrun hS hL hl k
end
section
set_option maxRecDepth 100000 in
theorem q_ki_ev : ∀ a ∈ q_ki, (q_y a).2.2.2.2.1 % 2 = 0 := by decide +kernel
set_option maxRecDepth 100000 in
theorem q_ks_od : ∀ a ∈ q_ks, (q_y a).2.2.2.2.1 % 2 = 1 := by decide +kernel
theorem q_okt1 {own : Nat} {cc : ByteArray} {ret : Option FieldType} {sts : List Nat} {p : Nat} {x : Nat × Nat × Nat × Nat × Int32} {I : Instr} {ts : List (Int × Nat)} (h : q_okt own cc ret sts p (1, (x.1, I, x.2.1, x.2.2.1, x.2.2.2.1, x.2.2.2.2), ts) = true) : ∃ off, I = .goto off := by
  cases I <;> first | exact ⟨_, rfl⟩ | exact absurd h Bool.false_ne_true
theorem q_okt2 {own : Nat} {cc : ByteArray} {ret : Option FieldType} {sts : List Nat} {p : Nat} {x : Nat × Nat × Nat × Nat × Int32} {I : Instr} {ts : List (Int × Nat)} (h : q_okt own cc ret sts p (2, (x.1, I, x.2.1, x.2.2.1, x.2.2.2.1, x.2.2.2.2), ts) = true) : ∃ c off, I = .ifCond c off := by
  cases I <;> first | exact ⟨_, _, rfl⟩ | exact absurd h Bool.false_ne_true
theorem q_okt3 {own : Nat} {cc : ByteArray} {ret : Option FieldType} {sts : List Nat} {p : Nat} {x : Nat × Nat × Nat × Nat × Int32} {I : Instr} {ts : List (Int × Nat)} (h : q_okt own cc ret sts p (3, (x.1, I, x.2.1, x.2.2.1, x.2.2.2.1, x.2.2.2.2), ts) = true) : ∃ c off, I = .if_icmp c off := by
  cases I <;> first | exact ⟨_, _, rfl⟩ | exact absurd h Bool.false_ne_true
theorem q_okt4 {own : Nat} {cc : ByteArray} {ret : Option FieldType} {sts : List Nat} {p : Nat} {x : Nat × Nat × Nat × Nat × Int32} {I : Instr} {ts : List (Int × Nat)} (h : q_okt own cc ret sts p (4, (x.1, I, x.2.1, x.2.2.1, x.2.2.2.1, x.2.2.2.2), ts) = true) : (∃ dd lo hi2 offs, I = .tableswitch dd lo hi2 offs) ∨ ∃ dd ps, I = .lookupswitch dd ps := by
  cases I <;> first | exact Or.inl ⟨_, _, _, _, rfl⟩ | exact Or.inr ⟨_, _, rfl⟩ | exact absurd h Bool.false_ne_true
theorem q_okt5 {own : Nat} {cc : ByteArray} {ret : Option FieldType} {sts : List Nat} {p : Nat} {x : Nat × Nat × Nat × Nat × Int32} {I : Instr} {tg z : Int} {na ml : Nat} (h : q_okt own cc ret sts p (5, (x.1, I, x.2.1, x.2.2.1, x.2.2.2.1, x.2.2.2.2), [(tg, na), (z, ml)]) = true) : (∃ i, I = .invokevirtual i) ∨ ∃ i, I = .invokestatic i := by
  cases I <;> first | exact Or.inl ⟨_, rfl⟩ | exact Or.inr ⟨_, rfl⟩ | exact absurd h Bool.false_ne_true
set_option maxHeartbeats 4000000 in
theorem q_tm_snd {l : Launch} {ad : Nat → Nat} {ca : Nat → ClassId} {dC : Nat → ClassId} {dI : Nat → Nat → Nat} {d mi : Nat} {Q : QQ} {M : QM} (hM : q_g16 q_ms mi = some M) {p : Program} {e : Env} {s : State} {m : MethodId} {args : Array Value} {below : List Frame} {meth : Method} {c0 : Code} (X : q_Cx p l (q_rm d) s m args c0 ad ca dC dI M.2.1 (M.2.2.2.2.1 / 2) M.2.2.1) (hret : meth.sig.returnType = M.2.2.2.1) (hlocks : meth.locks = false) {pe : Nat} {t : QT} (hok : q_okt (M.2.2.2.2.1 / 2) M.2.1 M.2.2.2.1 (M.2.2.2.2.2.2.map (fun b => b.1)) pe t = true) {L : QL} {st : List QV} {σ : QS} (ht : q_tm (fun k' L st σ => q_Snd l ad ca dC dI d mi k' L st σ Q) (q_cal (q_Snd l ad ca dC dI) d mi Q) Q t L st σ) : q_W p l e (q_rm d) s m args below meth c0 (MQ below (q_Qc ad ca dC dI Q) args s 0 0 (q_A ad)) ad ca dC dI M.2.2.1 pe L st σ := by
  have hj : ∀ (a g : Nat) (L : QL) (st : List QV) (σ : QS), (M.2.2.2.2.2.2.map (fun b => b.1))[a]? = some g → q_Snd l ad ca dC dI d mi a L st σ Q → q_W p l e (q_rm d) s m args below meth c0 (MQ below (q_Qc ad ca dC dI Q) args s 0 0 (q_A ad)) ad ca dC dI M.2.2.1 g L st σ := by
    intro a g L st σ hg h
    rw [List.getElem?_map] at hg
    obtain ⟨b, hb, rfl⟩ := Option.map_eq_some_iff.mp hg
    exact h M hM b hb p e s m args below meth c0 X hret hlocks
  obtain ⟨kd, ⟨qp, I, len, a, b, v⟩, ts⟩ := t
  match kd, hok, ht with
  | 0, hok, ht => exact hj a pe L st σ (of_decide_eq_true hok) ht
  | 1, hok, ht =>
    obtain ⟨off, rfl⟩ := q_okt1 (x := (qp, len, a, b, v)) hok
    have hok : (decide (decode M.2.1 pe = .ok (.goto off, 3)) && q_sg (M.2.2.2.2.2.2.map (fun b => b.1))[a]? ((pe : Int) + off)) = true := hok
    rw [Bool.and_eq_true] at hok
    obtain ⟨g, hg, hg2⟩ := q_sg_at hok.2
    exact qt_goto X (of_decide_eq_true hok.1) hg2 (hj a g L st σ hg ht)
  | 2, hok, ht =>
    obtain ⟨c, off, rfl⟩ := q_okt2 (x := (qp, len, a, b, v)) hok
    have hok : (decide (decode M.2.1 pe = .ok (.ifCond c off, 3)) && q_sg (M.2.2.2.2.2.2.map (fun b => b.1))[a]? ((pe : Int) + off) && decide ((M.2.2.2.2.2.2.map (fun b => b.1))[b]? = some (pe + 3))) = true := hok
    rw [Bool.and_eq_true, Bool.and_eq_true] at hok
    obtain ⟨g, hg, hg2⟩ := q_sg_at hok.1.2
    match st, ht with
    | .inl x :: st, ht => exact qt_if X (of_decide_eq_true hok.1.1) hg2 ht (hj a g L st σ hg) (hj b _ L st σ (of_decide_eq_true hok.2))
    | .inr _ :: _, ht => exact ht.elim
    | [], ht => exact ht.elim
  | 3, hok, ht =>
    obtain ⟨c, off, rfl⟩ := q_okt3 (x := (qp, len, a, b, v)) hok
    have hok : (decide (decode M.2.1 pe = .ok (.if_icmp c off, 3)) && q_sg (M.2.2.2.2.2.2.map (fun b => b.1))[a]? ((pe : Int) + off) && decide ((M.2.2.2.2.2.2.map (fun b => b.1))[b]? = some (pe + 3))) = true := hok
    rw [Bool.and_eq_true, Bool.and_eq_true] at hok
    obtain ⟨g, hg, hg2⟩ := q_sg_at hok.1.2
    match st, ht with
    | .inl y :: .inl x :: st, ht => exact qt_icmp X (of_decide_eq_true hok.1.1) hg2 ht (hj a g L st σ hg) (hj b _ L st σ (of_decide_eq_true hok.2))
    | .inl _ :: .inr _ :: _, ht => exact ht.elim
    | [.inl _], ht => exact ht.elim
    | .inr _ :: _, ht => exact ht.elim
    | [], ht => exact ht.elim
  | 4, hok, ht =>
    rcases q_okt4 (x := (qp, len, a, b, v)) hok with ⟨dd, lo, hi2, offs, rfl⟩ | ⟨dd, ps, rfl⟩
    · have hok : (decide (decode M.2.1 pe = .ok (.tableswitch dd lo hi2 offs, len)) && q_sg (M.2.2.2.2.2.2.map (fun b => b.1))[a]? ((pe : Int) + dd) && q_oktab (M.2.2.2.2.2.2.map (fun b => b.1)) pe lo offs.toList ts && decide (hi2 = lo + offs.size - 1 ∧ -2147483648 ≤ lo ∧ hi2 < 2147483648)) = true := hok
      rw [Bool.and_eq_true, Bool.and_eq_true, Bool.and_eq_true] at hok
      match st, ht with
      | .inl x :: st, ht => exact qt_table X (of_decide_eq_true hok.1.1.1) hok.1.1.2 hok.1.2 (of_decide_eq_true hok.2) ht (fun b g hg h => hj b g L st σ hg h)
      | .inr _ :: _, ht => exact ht.elim
      | [], ht => exact ht.elim
    · have hok : (decide (decode M.2.1 pe = .ok (.lookupswitch dd ps, len)) && q_sg (M.2.2.2.2.2.2.map (fun b => b.1))[a]? ((pe : Int) + dd) && q_oklk (M.2.2.2.2.2.2.map (fun b => b.1)) pe ps.toList ts && (ps.toList.zip (ps.toList.drop 1)).all (fun (a, next) => a.1 < next.1) && ps.toList.all (fun q => decide (-2147483648 ≤ q.1 ∧ q.1 < 2147483648))) = true := hok
      rw [Bool.and_eq_true, Bool.and_eq_true, Bool.and_eq_true, Bool.and_eq_true] at hok
      match st, ht with
      | .inl x :: st, ht => exact qt_lookup X (of_decide_eq_true hok.1.1.1.1) hok.1.1.1.2 hok.1.1.2 hok.1.2 hok.2 ht (fun b g hg h => hj b g L st σ hg h)
      | .inr _ :: _, ht => exact ht.elim
      | [], ht => exact ht.elim
  | 5, hok, ht =>
    match ts, hok, ht with
    | [(tg, na), (_, ml)], hok, ht =>
      rcases q_okt5 (x := (qp, len, a, b, v)) hok with ⟨i, rfl⟩ | ⟨i, rfl⟩
      · obtain ⟨h1, h2, h3, h4, h5, h6, h7, h8, h9⟩ := of_decide_eq_true hok
        obtain ⟨d', R, rfl, hb8, hc, hk⟩ := ht
        exact qt_callV X h1 h3 h4 h5 h6 h7 h8 h9 (q_ki_ev _ h4) hb8 hc (fun r σ2 hq => hj b _ L _ σ2 h2 (hk r σ2 hq))
      · obtain ⟨h1, h2, h3, h4, h6, h7, h8⟩ := of_decide_eq_true hok
        obtain ⟨d', R, rfl, hb8, hc, hk⟩ := ht
        exact qt_callS X h1 h3 h4 h7 h8 (q_ks_od _ h4) hb8 hc (fun r σ2 hq => hj b _ L _ σ2 h2 (hk r σ2 hq))
    | [], hok, ht => exact ht.elim
    | [_], hok, ht => exact ht.elim
    | _ :: _ :: _ :: _, hok, ht => exact ht.elim
  | 6, hok, ht =>
    obtain ⟨h1, h2⟩ := of_decide_eq_true hok
    match st, ht with
    | [.inl x], ht => exact qt_iret (st := []) X hlocks h1 (hret.trans h2) ht
    | [.inr _], ht => exact ht.elim
    | [], ht => exact ht.elim
    | .inl _ :: _ :: _, ht => exact False.elim ht
    | .inr _ :: _ :: _, ht => exact False.elim ht
  | 7, hok, ht =>
    obtain ⟨h1, h2⟩ := of_decide_eq_true hok
    match st, ht with
    | [], ht => exact qt_vret (st := []) X hlocks h1 (hret.trans h2) ht
    | _ :: _, ht => exact ht.elim
  | 8, hok, ht =>
    obtain ⟨h1, h2⟩ := of_decide_eq_true hok
    match st, ht with
    | [.inl x], ht => exact qt_zret (st := []) X hlocks h1 (hret.trans h2) ht.1 ht.2
    | [.inr _], ht => exact ht.elim
    | [], ht => exact ht.elim
    | .inl _ :: _ :: _, ht => exact False.elim ht
    | .inr _ :: _ :: _, ht => exact False.elim ht
  | n + 9, hok, ht => exact absurd hok Bool.false_ne_true
theorem q_snd_step {l : Launch} {ad : Nat → Nat} {ca : Nat → ClassId} {dC : Nat → ClassId} {dI : Nat → Nat → Nat} {d mi k : Nat} {L : QL} {st : List QV} {σ : QS} {Q : QQ} (h : q_step (q_Snd l ad ca dC dI) d mi k L st σ Q) : q_Snd l ad ca dC dI d mi k L st σ Q := by
  intro M hM b hb p e s m args below meth c0 X hret hlocks
  obtain ⟨b', hb', hw⟩ := h
  unfold q_blk at hb'
  rw [hM] at hb'
  obtain rfl : b' = b := Option.some.inj (hb'.symm.trans hb)
  have hok := (q_mk hM).1
  unfold q_okm at hok
  rw [Bool.and_eq_true] at hok
  have hbk := List.all_eq_true.mp hok.2 b' (List.mem_of_getElem? hb)
  unfold q_okb at hbk
  split at hbk
  · rename_i pe hpe
    exact q_rows_snd X (fun L st σ ht => q_tm_snd hM X hret hlocks hbk ht) b'.2.1 b'.1 L st σ hpe hw
  · cases hbk
/-- THE SMALL MACHINE IS SOUND: what EV says of a method, its contract says over the machine -/
theorem q_sound {l : Launch} {ad : Nat → Nat} {ca : Nat → ClassId} {dC : Nat → ClassId} {dI : Nat → Nat → Nat} {d mi k : Nat} {L : QL} {st : List QV} {σ : QS} {Q : QQ} (h : EV d mi k L st σ Q) : q_Snd l ad ca dC dI d mi k L st σ Q := h (q_Snd l ad ca dC dI) (fun _ _ _ _ _ _ _ => q_snd_step)
end
section
/-! ends of calls: an int and a state, or a state alone -/
def qI (R : Int32 → QS → Prop) : QQ := fun r s => ∃ x, r = some x ∧ R x s
def qV (R : QS → Prop) : QQ := fun r s => r = none ∧ R s
/-- the answer x, the state s -/
def qis (x : Int32) (s : QS) : QQ := fun r s' => r = some x ∧ s' = s
def qvs (s : QS) : QQ := fun r s' => r = none ∧ s' = s
theorem EV.cI {d mi : Nat} {Q : QQ} {m2 nx na ml : Nat} {tg : Int} {L : QL} {st : List QV} {σ : QS} {P : Int32 → QS → Prop} (h : ∃ R : Int32 → QS → Prop, EV d m2 0 (q_ent na ml st) [] σ (qI R) ∧ ∀ y s, R y s → P y s) (k : ∀ y s, P y s → EV (d + 1) mi nx L (.inl y :: st.drop na) s Q) (hl : (Nat.ble (st.drop na).length 8 && q_rc tg na st) = true := by rfl) : q_cal EV (d + 1) mi Q m2 nx tg na ml L st σ := by
  obtain ⟨R, h1, h2⟩ := h
  refine EV.call hl h1 ?_
  rintro r s ⟨x, rfl, hx⟩
  exact k x s (h2 x s hx)
theorem EV.cV {d mi : Nat} {Q : QQ} {m2 nx na ml : Nat} {tg : Int} {L : QL} {st : List QV} {σ : QS} {P : QS → Prop} (h : ∃ R : QS → Prop, EV d m2 0 (q_ent na ml st) [] σ (qV R) ∧ ∀ s, R s → P s) (k : ∀ s, P s → EV (d + 1) mi nx L (st.drop na) s Q) (hl : (Nat.ble (st.drop na).length 8 && q_rc tg na st) = true := by rfl) : q_cal EV (d + 1) mi Q m2 nx tg na ml L st σ := by
  obtain ⟨R, h1, h2⟩ := h
  refine EV.call hl h1 ?_
  rintro r s ⟨rfl, hx⟩
  exact k s (h2 s hx)
theorem EV.toI {d mi k : Nat} {L : QL} {st : List QV} {σ s : QS} {x : Int32} {R : Int32 → QS → Prop} (h : EV d mi k L st σ (qis x s)) (hR : R x s) : EV d mi k L st σ (qI R) := h.mono (fun r s' q => ⟨x, q.1, q.2 ▸ hR⟩)
theorem EV.toV {d mi k : Nat} {L : QL} {st : List QV} {σ s : QS} {R : QS → Prop} (h : EV d mi k L st σ (qvs s)) (hR : R s) : EV d mi k L st σ (qV R) := h.mono (fun r s' q => ⟨q.1, q.2 ▸ hR⟩)
/-- a call whose end is known -/
theorem ex_I {d mi : Nat} {L : QL} {σ s : QS} {x : Int32} {P : Int32 → QS → Prop} (h : EV d mi 0 L [] σ (qis x s)) (k : P x s) : ∃ R : Int32 → QS → Prop, EV d mi 0 L [] σ (qI R) ∧ ∀ y s, R y s → P y s := ⟨P, h.toI k, fun _ _ q => q⟩
theorem ex_V {d mi : Nat} {L : QL} {σ s : QS} {P : QS → Prop} (h : EV d mi 0 L [] σ (qvs s)) (k : P s) : ∃ R : QS → Prop, EV d mi 0 L [] σ (qV R) ∧ ∀ s, R s → P s := ⟨P, h.toV k, fun _ q => q⟩
theorem q_set_same (σ : QS) (c : Nat) (f g : Nat → Int32) : q_set (q_set σ c f) c g = q_set σ c g := by
  funext c'
  simp only [q_set]
  split <;> rfl
theorem q_set_eq (σ : QS) (c : Nat) (f : Nat → Int32) : q_set σ c f c = f := by simp [q_set]
theorem q_set_ne (σ : QS) {c c' : Nat} (f : Nat → Int32) (h : c' ≠ c) : q_set σ c f c' = σ c' := by simp [q_set, h]
theorem q_set_id (σ : QS) (c : Nat) : q_set σ c (σ c) = σ := by
  funext c'
  simp only [q_set]
  split
  · rename_i h; rw [h]
  · rfl
theorem upd_same (f : Nat → Int32) (i : Nat) (x y : Int32) : upd (upd f i x) i y = upd f i y := by
  funext j
  simp only [upd]
  split <;> rfl
theorem upd_eq (f : Nat → Int32) (i : Nat) (x : Int32) : upd f i x i = x := by simp [upd]
theorem upd_ne (f : Nat → Int32) {i j : Nat} (x : Int32) (h : j ≠ i) : upd f i x j = f j := by simp [upd, h]
end
section
theorem pX_own_0 {d : Nat} {σ : QS} {Q : QQ} {hour owner : Int32} (hk : (hour < 0 → Q (some 0) σ) ∧ (¬ hour < 0 → (24 ≤ hour → Q (some 0) σ) ∧ (¬ 24 ≤ hour → (owner < 0 → (owner = (-1) → (¬ owner = (-1) → (vp_in hour 24) ∧ ((q_fit 1 0) ∧ ((q_fit 1 0) ∧ (Q (some 1) (q_set (q_set (q_set σ 2 (upd (σ 2) hour.toNatClampNeg owner)) 0 (upd (σ 0) 12 0)) 61 (upd (σ 61) 3 0)))))) ∧ (owner = (-1) → (vp_in hour 24) ∧ ((q_fit 1 0) ∧ ((q_fit 1 0) ∧ (Q (some 1) (q_set (q_set (q_set σ 2 (upd (σ 2) hour.toNatClampNeg 12)) 0 (upd (σ 0) 12 0)) 61 (upd (σ 61) 3 0))))))) ∧ (¬ owner = (-1) → Q (some 0) σ)) ∧ (¬ owner < 0 → (12 ≤ owner → (owner = (-1) → (¬ owner = (-1) → (vp_in hour 24) ∧ ((q_fit 1 0) ∧ ((q_fit 1 0) ∧ (Q (some 1) (q_set (q_set (q_set σ 2 (upd (σ 2) hour.toNatClampNeg owner)) 0 (upd (σ 0) 12 0)) 61 (upd (σ 61) 3 0)))))) ∧ (owner = (-1) → (vp_in hour 24) ∧ ((q_fit 1 0) ∧ ((q_fit 1 0) ∧ (Q (some 1) (q_set (q_set (q_set σ 2 (upd (σ 2) hour.toNatClampNeg 12)) 0 (upd (σ 0) 12 0)) 61 (upd (σ 61) 3 0))))))) ∧ (¬ owner = (-1) → Q (some 0) σ)) ∧ (¬ 12 ≤ owner → (¬ owner = (-1) → (vp_in hour 24) ∧ ((q_fit 1 0) ∧ ((q_fit 1 0) ∧ (Q (some 1) (q_set (q_set (q_set σ 2 (upd (σ 2) hour.toNatClampNeg owner)) 0 (upd (σ 0) 12 0)) 61 (upd (σ 61) 3 0)))))) ∧ (owner = (-1) → (vp_in hour 24) ∧ ((q_fit 1 0) ∧ ((q_fit 1 0) ∧ (Q (some 1) (q_set (q_set (q_set σ 2 (upd (σ 2) hour.toNatClampNeg 12)) 0 (upd (σ 0) 12 0)) 61 (upd (σ 61) 3 0))))))))))) : EV (d + 1) 71 0 [some (.inr 0), some (.inl hour), some (.inl owner)] [] σ Q := EV.blk qb71_0 rfl (EV.call (R := (fun r s => EV (d + 1) 71 1 [some (.inr 0), some (.inl hour), some (.inl owner)] (q_psh r []) s Q)) rfl (EV.blk qb106_0 rfl ⟨fun q9 => EV.blk qb106_3 rfl (EV.blk qb106_4 rfl ⟨by decide, EV.blk qb71_1 rfl ⟨fun _ => EV.blk qb71_5 rfl ⟨by decide, (hk.1 q9)⟩, fun q => absurd q (by decide)⟩⟩), fun q9 => EV.blk qb106_1 rfl ⟨fun q8 => EV.blk qb106_3 rfl (EV.blk qb106_4 rfl ⟨by decide, EV.blk qb71_1 rfl ⟨fun _ => EV.blk qb71_5 rfl ⟨by decide, ((hk.2 q9).1 q8)⟩, fun q => absurd q (by decide)⟩⟩), fun q8 => EV.blk qb106_2 rfl (EV.blk qb106_4 rfl ⟨by decide, EV.blk qb71_1 rfl ⟨fun q => absurd q (by decide), fun _ => EV.blk qb71_2 rfl (EV.call (R := (fun r s => EV (d + 1) 71 3 [some (.inr 0), some (.inl hour), some (.inl owner)] (q_psh r []) s Q)) rfl (EV.blk qb107_0 rfl ⟨fun q7 => EV.blk qb107_3 rfl (EV.blk qb107_4 rfl ⟨by decide, EV.blk qb71_3 rfl ⟨fun q => absurd q (by decide), fun _ => EV.blk qb71_4 rfl ⟨fun q2 => EV.blk qb71_6 rfl ⟨fun q1 => EV.blk qb71_8 rfl (EV.blk qb71_9 rfl ⟨(((((hk.2 q9).2 q8).1 q7).1 q2).1 q1).1, EV.call (R := (fun r s => EV (d + 1) 71 10 [some (.inr 0), some (.inl hour), some (.inl owner)] (q_psh r []) s Q)) rfl (EV.blk qb103_0 rfl ⟨(((((hk.2 q9).2 q8).1 q7).1 q2).1 q1).2.1, ⟨(((((hk.2 q9).2 q8).1 q7).1 q2).1 q1).2.2.1, EV.blk qb71_10 rfl ⟨by decide, (((((hk.2 q9).2 q8).1 q7).1 q2).1 q1).2.2.2⟩⟩⟩) (fun _ _ q => q)⟩), fun q1 => EV.blk qb71_7 rfl (EV.blk qb71_9 rfl ⟨(((((hk.2 q9).2 q8).1 q7).1 q2).2 q1).1, EV.call (R := (fun r s => EV (d + 1) 71 10 [some (.inr 0), some (.inl hour), some (.inl owner)] (q_psh r []) s Q)) rfl (EV.blk qb103_0 rfl ⟨(((((hk.2 q9).2 q8).1 q7).1 q2).2 q1).2.1, ⟨(((((hk.2 q9).2 q8).1 q7).1 q2).2 q1).2.2.1, EV.blk qb71_10 rfl ⟨by decide, (((((hk.2 q9).2 q8).1 q7).1 q2).2 q1).2.2.2⟩⟩⟩) (fun _ _ q => q)⟩)⟩, fun q2 => EV.blk qb71_5 rfl ⟨by decide, ((((hk.2 q9).2 q8).1 q7).2 q2)⟩⟩⟩⟩), fun q7 => EV.blk qb107_1 rfl ⟨fun q6 => EV.blk qb107_3 rfl (EV.blk qb107_4 rfl ⟨by decide, EV.blk qb71_3 rfl ⟨fun q => absurd q (by decide), fun _ => EV.blk qb71_4 rfl ⟨fun q4 => EV.blk qb71_6 rfl ⟨fun q3 => EV.blk qb71_8 rfl (EV.blk qb71_9 rfl ⟨((((((hk.2 q9).2 q8).2 q7).1 q6).1 q4).1 q3).1, EV.call (R := (fun r s => EV (d + 1) 71 10 [some (.inr 0), some (.inl hour), some (.inl owner)] (q_psh r []) s Q)) rfl (EV.blk qb103_0 rfl ⟨((((((hk.2 q9).2 q8).2 q7).1 q6).1 q4).1 q3).2.1, ⟨((((((hk.2 q9).2 q8).2 q7).1 q6).1 q4).1 q3).2.2.1, EV.blk qb71_10 rfl ⟨by decide, ((((((hk.2 q9).2 q8).2 q7).1 q6).1 q4).1 q3).2.2.2⟩⟩⟩) (fun _ _ q => q)⟩), fun q3 => EV.blk qb71_7 rfl (EV.blk qb71_9 rfl ⟨((((((hk.2 q9).2 q8).2 q7).1 q6).1 q4).2 q3).1, EV.call (R := (fun r s => EV (d + 1) 71 10 [some (.inr 0), some (.inl hour), some (.inl owner)] (q_psh r []) s Q)) rfl (EV.blk qb103_0 rfl ⟨((((((hk.2 q9).2 q8).2 q7).1 q6).1 q4).2 q3).2.1, ⟨((((((hk.2 q9).2 q8).2 q7).1 q6).1 q4).2 q3).2.2.1, EV.blk qb71_10 rfl ⟨by decide, ((((((hk.2 q9).2 q8).2 q7).1 q6).1 q4).2 q3).2.2.2⟩⟩⟩) (fun _ _ q => q)⟩)⟩, fun q4 => EV.blk qb71_5 rfl ⟨by decide, (((((hk.2 q9).2 q8).2 q7).1 q6).2 q4)⟩⟩⟩⟩), fun q6 => EV.blk qb107_2 rfl (EV.blk qb107_4 rfl ⟨by decide, EV.blk qb71_3 rfl ⟨fun _ => EV.blk qb71_6 rfl ⟨fun q5 => EV.blk qb71_8 rfl (EV.blk qb71_9 rfl ⟨(((((hk.2 q9).2 q8).2 q7).2 q6).1 q5).1, EV.call (R := (fun r s => EV (d + 1) 71 10 [some (.inr 0), some (.inl hour), some (.inl owner)] (q_psh r []) s Q)) rfl (EV.blk qb103_0 rfl ⟨(((((hk.2 q9).2 q8).2 q7).2 q6).1 q5).2.1, ⟨(((((hk.2 q9).2 q8).2 q7).2 q6).1 q5).2.2.1, EV.blk qb71_10 rfl ⟨by decide, (((((hk.2 q9).2 q8).2 q7).2 q6).1 q5).2.2.2⟩⟩⟩) (fun _ _ q => q)⟩), fun q5 => EV.blk qb71_7 rfl (EV.blk qb71_9 rfl ⟨(((((hk.2 q9).2 q8).2 q7).2 q6).2 q5).1, EV.call (R := (fun r s => EV (d + 1) 71 10 [some (.inr 0), some (.inl hour), some (.inl owner)] (q_psh r []) s Q)) rfl (EV.blk qb103_0 rfl ⟨(((((hk.2 q9).2 q8).2 q7).2 q6).2 q5).2.1, ⟨(((((hk.2 q9).2 q8).2 q7).2 q6).2 q5).2.2.1, EV.blk qb71_10 rfl ⟨by decide, (((((hk.2 q9).2 q8).2 q7).2 q6).2 q5).2.2.2⟩⟩⟩) (fun _ _ q => q)⟩)⟩, fun q => absurd q (by decide)⟩⟩)⟩⟩) (fun _ _ q => q))⟩⟩)⟩⟩) (fun _ _ q => q))
theorem pM_own_0 {d : Nat} {σ : QS} {Q : QQ} {hour owner : Int32} (hk : (hour < 0 → Q (some 0) σ) ∧ (¬ hour < 0 → (24 ≤ hour → Q (some 0) σ) ∧ (¬ 24 ≤ hour → (owner = (-1) → (¬ owner = (-1) → (vp_in hour 24) ∧ (Q (some 1) (q_set σ 70 (upd (σ 70) hour.toNatClampNeg owner)))) ∧ (owner = (-1) → (vp_in hour 24) ∧ (Q (some 1) (q_set σ 70 (upd (σ 70) hour.toNatClampNeg 12))))) ∧ (¬ owner = (-1) → (owner < 0 → Q (some 0) σ) ∧ (¬ owner < 0 → (12 ≤ owner → Q (some 0) σ) ∧ (¬ 12 ≤ owner → (¬ owner = (-1) → (vp_in hour 24) ∧ (Q (some 1) (q_set σ 70 (upd (σ 70) hour.toNatClampNeg owner)))) ∧ (owner = (-1) → (vp_in hour 24) ∧ (Q (some 1) (q_set σ 70 (upd (σ 70) hour.toNatClampNeg 12)))))))))) : EV (d + 1) 116 0 [some (.inr 69), some (.inl hour), some (.inl owner)] [] σ Q := EV.blk qb116_0 rfl (EV.call (R := (fun r s => EV (d + 1) 116 1 [some (.inr 69), some (.inl hour), some (.inl owner)] (q_psh r []) s Q)) rfl (EV.blk qb113_0 rfl ⟨fun q7 => EV.blk qb113_3 rfl (EV.blk qb113_4 rfl ⟨by decide, EV.blk qb116_1 rfl ⟨fun _ => EV.blk qb116_5 rfl ⟨by decide, (hk.1 q7)⟩, fun q => absurd q (by decide)⟩⟩), fun q7 => EV.blk qb113_1 rfl ⟨fun q6 => EV.blk qb113_3 rfl (EV.blk qb113_4 rfl ⟨by decide, EV.blk qb116_1 rfl ⟨fun _ => EV.blk qb116_5 rfl ⟨by decide, ((hk.2 q7).1 q6)⟩, fun q => absurd q (by decide)⟩⟩), fun q6 => EV.blk qb113_2 rfl (EV.blk qb113_4 rfl ⟨by decide, EV.blk qb116_1 rfl ⟨fun q => absurd q (by decide), fun _ => EV.blk qb116_2 rfl ⟨fun q5 => EV.blk qb116_6 rfl ⟨fun q1 => EV.blk qb116_8 rfl (EV.blk qb116_9 rfl ⟨((((hk.2 q7).2 q6).1 q5).1 q1).1, ⟨by decide, ((((hk.2 q7).2 q6).1 q5).1 q1).2⟩⟩), fun q1 => EV.blk qb116_7 rfl (EV.blk qb116_9 rfl ⟨((((hk.2 q7).2 q6).1 q5).2 q1).1, ⟨by decide, ((((hk.2 q7).2 q6).1 q5).2 q1).2⟩⟩)⟩, fun q5 => EV.blk qb116_3 rfl (EV.call (R := (fun r s => EV (d + 1) 116 4 [some (.inr 69), some (.inl hour), some (.inl owner)] (q_psh r []) s Q)) rfl (EV.blk qb114_0 rfl ⟨fun q4 => EV.blk qb114_3 rfl (EV.blk qb114_4 rfl ⟨by decide, EV.blk qb116_4 rfl ⟨fun q => absurd q (by decide), fun _ => EV.blk qb116_5 rfl ⟨by decide, ((((hk.2 q7).2 q6).2 q5).1 q4)⟩⟩⟩), fun q4 => EV.blk qb114_1 rfl ⟨fun q3 => EV.blk qb114_3 rfl (EV.blk qb114_4 rfl ⟨by decide, EV.blk qb116_4 rfl ⟨fun q => absurd q (by decide), fun _ => EV.blk qb116_5 rfl ⟨by decide, (((((hk.2 q7).2 q6).2 q5).2 q4).1 q3)⟩⟩⟩), fun q3 => EV.blk qb114_2 rfl (EV.blk qb114_4 rfl ⟨by decide, EV.blk qb116_4 rfl ⟨fun _ => EV.blk qb116_6 rfl ⟨fun q2 => EV.blk qb116_8 rfl (EV.blk qb116_9 rfl ⟨((((((hk.2 q7).2 q6).2 q5).2 q4).2 q3).1 q2).1, ⟨by decide, ((((((hk.2 q7).2 q6).2 q5).2 q4).2 q3).1 q2).2⟩⟩), fun q2 => EV.blk qb116_7 rfl (EV.blk qb116_9 rfl ⟨((((((hk.2 q7).2 q6).2 q5).2 q4).2 q3).2 q2).1, ⟨by decide, ((((((hk.2 q7).2 q6).2 q5).2 q4).2 q3).2 q2).2⟩⟩)⟩, fun q => absurd q (by decide)⟩⟩)⟩⟩) (fun _ _ q => q))⟩⟩⟩)⟩⟩) (fun _ _ q => q))
theorem pX_room_0 {d : Nat} {σ : QS} {Q : QQ} {r store dirt heat : Int32} (hk : (r < 0 → Q (some 0) σ) ∧ (¬ r < 0 → (8 ≤ r → Q (some 0) σ) ∧ (¬ 8 ≤ r → (store < 0 → Q (some 0) σ) ∧ (¬ store < 0 → (99 < store → Q (some 0) σ) ∧ (¬ 99 < store → (dirt < 0 → Q (some 0) σ) ∧ (¬ dirt < 0 → (99 < dirt → Q (some 0) σ) ∧ (¬ 99 < dirt → (heat < 0 → Q (some 0) σ) ∧ (¬ heat < 0 → (99 < heat → Q (some 0) σ) ∧ (¬ 99 < heat → (vp_in ((r * 3) + 0) 24) ∧ ((vp_in ((r * 3) + 1) 24) ∧ ((vp_in ((r * 3) + 2) 24) ∧ ((q_fit 1 0) ∧ ((q_fit 1 0) ∧ (Q (some 1) (q_set (q_set (q_set (q_set (q_set σ 3 (upd (σ 3) ((r * 3) + 0).toNatClampNeg store)) 3 (upd (upd (σ 3) ((r * 3) + 0).toNatClampNeg store) ((r * 3) + 1).toNatClampNeg dirt)) 3 (upd (upd (upd (σ 3) ((r * 3) + 0).toNatClampNeg store) ((r * 3) + 1).toNatClampNeg dirt) ((r * 3) + 2).toNatClampNeg heat)) 0 (upd (σ 0) 12 0)) 61 (upd (σ 61) 3 0)))))))))))))))) : EV (d + 1) 72 0 [some (.inr 0), some (.inl r), some (.inl store), some (.inl dirt), some (.inl heat)] [] σ Q := EV.blk qb72_0 rfl (EV.call (R := (fun r s => EV (d + 1) 72 1 [some (.inr 0), some (.inl r), some (.inl store), some (.inl dirt), some (.inl heat)] (q_psh r []) s Q)) rfl (EV.blk qb108_0 rfl ⟨fun q8 => EV.blk qb108_3 rfl (EV.blk qb108_4 rfl ⟨by decide, EV.blk qb72_1 rfl ⟨fun _ => EV.blk qb72_8 rfl ⟨by decide, (hk.1 q8)⟩, fun q => absurd q (by decide)⟩⟩), fun q8 => EV.blk qb108_1 rfl ⟨fun q7 => EV.blk qb108_3 rfl (EV.blk qb108_4 rfl ⟨by decide, EV.blk qb72_1 rfl ⟨fun _ => EV.blk qb72_8 rfl ⟨by decide, ((hk.2 q8).1 q7)⟩, fun q => absurd q (by decide)⟩⟩), fun q7 => EV.blk qb108_2 rfl (EV.blk qb108_4 rfl ⟨by decide, EV.blk qb72_1 rfl ⟨fun q => absurd q (by decide), fun _ => EV.blk qb72_2 rfl (EV.call (R := (fun r s => EV (d + 1) 72 3 [some (.inr 0), some (.inl r), some (.inl store), some (.inl dirt), some (.inl heat)] (q_psh r []) s Q)) rfl (EV.blk qb110_0 rfl ⟨fun q6 => EV.blk qb110_3 rfl (EV.blk qb110_4 rfl ⟨by decide, EV.blk qb72_3 rfl ⟨fun _ => EV.blk qb72_8 rfl ⟨by decide, (((hk.2 q8).2 q7).1 q6)⟩, fun q => absurd q (by decide)⟩⟩), fun q6 => EV.blk qb110_1 rfl ⟨fun q5 => EV.blk qb110_3 rfl (EV.blk qb110_4 rfl ⟨by decide, EV.blk qb72_3 rfl ⟨fun _ => EV.blk qb72_8 rfl ⟨by decide, ((((hk.2 q8).2 q7).2 q6).1 q5)⟩, fun q => absurd q (by decide)⟩⟩), fun q5 => EV.blk qb110_2 rfl (EV.blk qb110_4 rfl ⟨by decide, EV.blk qb72_3 rfl ⟨fun q => absurd q (by decide), fun _ => EV.blk qb72_4 rfl (EV.call (R := (fun r s => EV (d + 1) 72 5 [some (.inr 0), some (.inl r), some (.inl store), some (.inl dirt), some (.inl heat)] (q_psh r []) s Q)) rfl (EV.blk qb110_0 rfl ⟨fun q4 => EV.blk qb110_3 rfl (EV.blk qb110_4 rfl ⟨by decide, EV.blk qb72_5 rfl ⟨fun _ => EV.blk qb72_8 rfl ⟨by decide, (((((hk.2 q8).2 q7).2 q6).2 q5).1 q4)⟩, fun q => absurd q (by decide)⟩⟩), fun q4 => EV.blk qb110_1 rfl ⟨fun q3 => EV.blk qb110_3 rfl (EV.blk qb110_4 rfl ⟨by decide, EV.blk qb72_5 rfl ⟨fun _ => EV.blk qb72_8 rfl ⟨by decide, ((((((hk.2 q8).2 q7).2 q6).2 q5).2 q4).1 q3)⟩, fun q => absurd q (by decide)⟩⟩), fun q3 => EV.blk qb110_2 rfl (EV.blk qb110_4 rfl ⟨by decide, EV.blk qb72_5 rfl ⟨fun q => absurd q (by decide), fun _ => EV.blk qb72_6 rfl (EV.call (R := (fun r s => EV (d + 1) 72 7 [some (.inr 0), some (.inl r), some (.inl store), some (.inl dirt), some (.inl heat)] (q_psh r []) s Q)) rfl (EV.blk qb110_0 rfl ⟨fun q2 => EV.blk qb110_3 rfl (EV.blk qb110_4 rfl ⟨by decide, EV.blk qb72_7 rfl ⟨fun q => absurd q (by decide), fun _ => EV.blk qb72_8 rfl ⟨by decide, (((((((hk.2 q8).2 q7).2 q6).2 q5).2 q4).2 q3).1 q2)⟩⟩⟩), fun q2 => EV.blk qb110_1 rfl ⟨fun q1 => EV.blk qb110_3 rfl (EV.blk qb110_4 rfl ⟨by decide, EV.blk qb72_7 rfl ⟨fun q => absurd q (by decide), fun _ => EV.blk qb72_8 rfl ⟨by decide, ((((((((hk.2 q8).2 q7).2 q6).2 q5).2 q4).2 q3).2 q2).1 q1)⟩⟩⟩), fun q1 => EV.blk qb110_2 rfl (EV.blk qb110_4 rfl ⟨by decide, EV.blk qb72_7 rfl ⟨fun _ => EV.blk qb72_9 rfl ⟨((((((((hk.2 q8).2 q7).2 q6).2 q5).2 q4).2 q3).2 q2).2 q1).1, ⟨((((((((hk.2 q8).2 q7).2 q6).2 q5).2 q4).2 q3).2 q2).2 q1).2.1, ⟨((((((((hk.2 q8).2 q7).2 q6).2 q5).2 q4).2 q3).2 q2).2 q1).2.2.1, EV.call (R := (fun r s => EV (d + 1) 72 10 [some (.inr 0), some (.inl r), some (.inl store), some (.inl dirt), some (.inl heat)] (q_psh r []) s Q)) rfl (EV.blk qb103_0 rfl ⟨((((((((hk.2 q8).2 q7).2 q6).2 q5).2 q4).2 q3).2 q2).2 q1).2.2.2.1, ⟨((((((((hk.2 q8).2 q7).2 q6).2 q5).2 q4).2 q3).2 q2).2 q1).2.2.2.2.1, EV.blk qb72_10 rfl ⟨by decide, ((((((((hk.2 q8).2 q7).2 q6).2 q5).2 q4).2 q3).2 q2).2 q1).2.2.2.2.2⟩⟩⟩) (fun _ _ q => q)⟩⟩⟩, fun q => absurd q (by decide)⟩⟩)⟩⟩) (fun _ _ q => q))⟩⟩)⟩⟩) (fun _ _ q => q))⟩⟩)⟩⟩) (fun _ _ q => q))⟩⟩)⟩⟩) (fun _ _ q => q))
theorem pM_room_0 {d : Nat} {σ : QS} {Q : QQ} {r store dirt heat : Int32} (hk : (r < 0 → Q (some 0) σ) ∧ (¬ r < 0 → (8 ≤ r → Q (some 0) σ) ∧ (¬ 8 ≤ r → (store < 0 → Q (some 0) σ) ∧ (¬ store < 0 → (99 < store → Q (some 0) σ) ∧ (¬ 99 < store → (dirt < 0 → Q (some 0) σ) ∧ (¬ dirt < 0 → (99 < dirt → Q (some 0) σ) ∧ (¬ 99 < dirt → (heat < 0 → Q (some 0) σ) ∧ (¬ heat < 0 → (99 < heat → Q (some 0) σ) ∧ (¬ 99 < heat → (vp_in r 8) ∧ ((vp_in r 8) ∧ ((vp_in r 8) ∧ (Q (some 1) (q_set (q_set (q_set σ 72 (upd (σ 72) r.toNatClampNeg store)) 73 (upd (σ 73) r.toNatClampNeg dirt)) 74 (upd (σ 74) r.toNatClampNeg heat)))))))))))))) : EV (d + 1) 117 0 [some (.inr 69), some (.inl r), some (.inl store), some (.inl dirt), some (.inl heat)] [] σ Q := EV.blk qb117_0 rfl (EV.call (R := (fun r s => EV (d + 1) 117 1 [some (.inr 69), some (.inl r), some (.inl store), some (.inl dirt), some (.inl heat)] (q_psh r []) s Q)) rfl (EV.blk qb115_0 rfl ⟨fun q8 => EV.blk qb115_3 rfl (EV.blk qb115_4 rfl ⟨by decide, EV.blk qb117_1 rfl ⟨fun _ => EV.blk qb117_8 rfl ⟨by decide, (hk.1 q8)⟩, fun q => absurd q (by decide)⟩⟩), fun q8 => EV.blk qb115_1 rfl ⟨fun q7 => EV.blk qb115_3 rfl (EV.blk qb115_4 rfl ⟨by decide, EV.blk qb117_1 rfl ⟨fun _ => EV.blk qb117_8 rfl ⟨by decide, ((hk.2 q8).1 q7)⟩, fun q => absurd q (by decide)⟩⟩), fun q7 => EV.blk qb115_2 rfl (EV.blk qb115_4 rfl ⟨by decide, EV.blk qb117_1 rfl ⟨fun q => absurd q (by decide), fun _ => EV.blk qb117_2 rfl (EV.call (R := (fun r s => EV (d + 1) 117 3 [some (.inr 69), some (.inl r), some (.inl store), some (.inl dirt), some (.inl heat)] (q_psh r []) s Q)) rfl (EV.blk qb112_0 rfl ⟨fun q6 => EV.blk qb112_3 rfl (EV.blk qb112_4 rfl ⟨by decide, EV.blk qb117_3 rfl ⟨fun _ => EV.blk qb117_8 rfl ⟨by decide, (((hk.2 q8).2 q7).1 q6)⟩, fun q => absurd q (by decide)⟩⟩), fun q6 => EV.blk qb112_1 rfl ⟨fun q5 => EV.blk qb112_3 rfl (EV.blk qb112_4 rfl ⟨by decide, EV.blk qb117_3 rfl ⟨fun _ => EV.blk qb117_8 rfl ⟨by decide, ((((hk.2 q8).2 q7).2 q6).1 q5)⟩, fun q => absurd q (by decide)⟩⟩), fun q5 => EV.blk qb112_2 rfl (EV.blk qb112_4 rfl ⟨by decide, EV.blk qb117_3 rfl ⟨fun q => absurd q (by decide), fun _ => EV.blk qb117_4 rfl (EV.call (R := (fun r s => EV (d + 1) 117 5 [some (.inr 69), some (.inl r), some (.inl store), some (.inl dirt), some (.inl heat)] (q_psh r []) s Q)) rfl (EV.blk qb112_0 rfl ⟨fun q4 => EV.blk qb112_3 rfl (EV.blk qb112_4 rfl ⟨by decide, EV.blk qb117_5 rfl ⟨fun _ => EV.blk qb117_8 rfl ⟨by decide, (((((hk.2 q8).2 q7).2 q6).2 q5).1 q4)⟩, fun q => absurd q (by decide)⟩⟩), fun q4 => EV.blk qb112_1 rfl ⟨fun q3 => EV.blk qb112_3 rfl (EV.blk qb112_4 rfl ⟨by decide, EV.blk qb117_5 rfl ⟨fun _ => EV.blk qb117_8 rfl ⟨by decide, ((((((hk.2 q8).2 q7).2 q6).2 q5).2 q4).1 q3)⟩, fun q => absurd q (by decide)⟩⟩), fun q3 => EV.blk qb112_2 rfl (EV.blk qb112_4 rfl ⟨by decide, EV.blk qb117_5 rfl ⟨fun q => absurd q (by decide), fun _ => EV.blk qb117_6 rfl (EV.call (R := (fun r s => EV (d + 1) 117 7 [some (.inr 69), some (.inl r), some (.inl store), some (.inl dirt), some (.inl heat)] (q_psh r []) s Q)) rfl (EV.blk qb112_0 rfl ⟨fun q2 => EV.blk qb112_3 rfl (EV.blk qb112_4 rfl ⟨by decide, EV.blk qb117_7 rfl ⟨fun q => absurd q (by decide), fun _ => EV.blk qb117_8 rfl ⟨by decide, (((((((hk.2 q8).2 q7).2 q6).2 q5).2 q4).2 q3).1 q2)⟩⟩⟩), fun q2 => EV.blk qb112_1 rfl ⟨fun q1 => EV.blk qb112_3 rfl (EV.blk qb112_4 rfl ⟨by decide, EV.blk qb117_7 rfl ⟨fun q => absurd q (by decide), fun _ => EV.blk qb117_8 rfl ⟨by decide, ((((((((hk.2 q8).2 q7).2 q6).2 q5).2 q4).2 q3).2 q2).1 q1)⟩⟩⟩), fun q1 => EV.blk qb112_2 rfl (EV.blk qb112_4 rfl ⟨by decide, EV.blk qb117_7 rfl ⟨fun _ => EV.blk qb117_9 rfl ⟨((((((((hk.2 q8).2 q7).2 q6).2 q5).2 q4).2 q3).2 q2).2 q1).1, ⟨((((((((hk.2 q8).2 q7).2 q6).2 q5).2 q4).2 q3).2 q2).2 q1).2.1, ⟨((((((((hk.2 q8).2 q7).2 q6).2 q5).2 q4).2 q3).2 q2).2 q1).2.2.1, ⟨by decide, ((((((((hk.2 q8).2 q7).2 q6).2 q5).2 q4).2 q3).2 q2).2 q1).2.2.2⟩⟩⟩⟩, fun q => absurd q (by decide)⟩⟩)⟩⟩) (fun _ _ q => q))⟩⟩)⟩⟩) (fun _ _ q => q))⟩⟩)⟩⟩) (fun _ _ q => q))⟩⟩)⟩⟩) (fun _ _ q => q))
theorem pX_act_0 {d : Nat} {σ : QS} {Q : QQ} {owner kind room amount : Int32} (hk : (owner < 0 → Q (some (-1)) σ) ∧ (¬ owner < 0 → (12 ≤ owner → Q (some (-1)) σ) ∧ (¬ 12 ≤ owner → (kind < 0 → Q (some (-1)) σ) ∧ (¬ kind < 0 → (7 ≤ kind → Q (some (-1)) σ) ∧ (¬ 7 ≤ kind → (room < 0 → Q (some (-1)) σ) ∧ (¬ room < 0 → (8 ≤ room → Q (some (-1)) σ) ∧ (¬ 8 ≤ room → (amount < 0 → Q (some (-1)) σ) ∧ (¬ amount < 0 → (99 < amount → Q (some (-1)) σ) ∧ (¬ 99 < amount → (vp_in owner 12) ∧ (((σ 5 owner.toNatClampNeg) < 5 → (vp_in owner 12) ∧ ((vp_in (((owner * 5) + (σ 5 owner.toNatClampNeg)) * 3) 180) ∧ ((vp_in ((((owner * 5) + (σ 5 owner.toNatClampNeg)) * 3) + 1) 180) ∧ ((vp_in ((((owner * 5) + (σ 5 owner.toNatClampNeg)) * 3) + 2) 180) ∧ ((vp_in owner 12) ∧ ((vp_in owner 12) ∧ ((q_fit 1 0) ∧ ((q_fit 1 0) ∧ ((vp_in owner 12) ∧ (Q (some ((upd (σ 5) owner.toNatClampNeg ((σ 5 owner.toNatClampNeg) + 1)) owner.toNatClampNeg)) (q_set (q_set (q_set (q_set (q_set (q_set σ 4 (upd (σ 4) (((owner * 5) + (σ 5 owner.toNatClampNeg)) * 3).toNatClampNeg kind)) 4 (upd (upd (σ 4) (((owner * 5) + (σ 5 owner.toNatClampNeg)) * 3).toNatClampNeg kind) ((((owner * 5) + (σ 5 owner.toNatClampNeg)) * 3) + 1).toNatClampNeg room)) 4 (upd (upd (upd (σ 4) (((owner * 5) + (σ 5 owner.toNatClampNeg)) * 3).toNatClampNeg kind) ((((owner * 5) + (σ 5 owner.toNatClampNeg)) * 3) + 1).toNatClampNeg room) ((((owner * 5) + (σ 5 owner.toNatClampNeg)) * 3) + 2).toNatClampNeg amount)) 5 (upd (σ 5) owner.toNatClampNeg ((σ 5 owner.toNatClampNeg) + 1))) 0 (upd (σ 0) 12 0)) 61 (upd (σ 61) 3 0)))))))))))) ∧ (¬ (σ 5 owner.toNatClampNeg) < 5 → Q (some (-1)) σ))))))))))) : EV (d + 2) 75 0 [some (.inr 0), some (.inl owner), some (.inl kind), some (.inl room), some (.inl amount), none] [] σ Q := EV.blk qb75_0 rfl (EV.call (R := (fun r s => EV (d + 2) 75 1 [some (.inr 0), some (.inl owner), some (.inl kind), some (.inl room), some (.inl amount), none] (q_psh r []) s Q)) rfl (EV.blk qb107_0 rfl ⟨fun q9 => EV.blk qb107_3 rfl (EV.blk qb107_4 rfl ⟨by decide, EV.blk qb75_1 rfl ⟨fun _ => EV.blk qb75_7 rfl (EV.blk qb75_8 rfl ⟨fun _ => EV.blk qb75_12 rfl ((hk.1 q9)), fun q => absurd q (by decide)⟩), fun q => absurd q (by decide)⟩⟩), fun q9 => EV.blk qb107_1 rfl ⟨fun q8 => EV.blk qb107_3 rfl (EV.blk qb107_4 rfl ⟨by decide, EV.blk qb75_1 rfl ⟨fun _ => EV.blk qb75_7 rfl (EV.blk qb75_8 rfl ⟨fun _ => EV.blk qb75_12 rfl (((hk.2 q9).1 q8)), fun q => absurd q (by decide)⟩), fun q => absurd q (by decide)⟩⟩), fun q8 => EV.blk qb107_2 rfl (EV.blk qb107_4 rfl ⟨by decide, EV.blk qb75_1 rfl ⟨fun q => absurd q (by decide), fun _ => EV.blk qb75_2 rfl ⟨fun q7 => EV.blk qb75_7 rfl (EV.blk qb75_8 rfl ⟨fun _ => EV.blk qb75_12 rfl ((((hk.2 q9).2 q8).1 q7)), fun q => absurd q (by decide)⟩), fun q7 => EV.blk qb75_3 rfl ⟨fun q6 => EV.blk qb75_7 rfl (EV.blk qb75_8 rfl ⟨fun _ => EV.blk qb75_12 rfl (((((hk.2 q9).2 q8).2 q7).1 q6)), fun q => absurd q (by decide)⟩), fun q6 => EV.blk qb75_4 rfl (EV.call (R := (fun r s => EV (d + 2) 75 5 [some (.inr 0), some (.inl owner), some (.inl kind), some (.inl room), some (.inl amount), none] (q_psh r []) s Q)) rfl (EV.blk qb108_0 rfl ⟨fun q5 => EV.blk qb108_3 rfl (EV.blk qb108_4 rfl ⟨by decide, EV.blk qb75_5 rfl ⟨fun _ => EV.blk qb75_7 rfl (EV.blk qb75_8 rfl ⟨fun _ => EV.blk qb75_12 rfl ((((((hk.2 q9).2 q8).2 q7).2 q6).1 q5)), fun q => absurd q (by decide)⟩), fun q => absurd q (by decide)⟩⟩), fun q5 => EV.blk qb108_1 rfl ⟨fun q4 => EV.blk qb108_3 rfl (EV.blk qb108_4 rfl ⟨by decide, EV.blk qb75_5 rfl ⟨fun _ => EV.blk qb75_7 rfl (EV.blk qb75_8 rfl ⟨fun _ => EV.blk qb75_12 rfl (((((((hk.2 q9).2 q8).2 q7).2 q6).2 q5).1 q4)), fun q => absurd q (by decide)⟩), fun q => absurd q (by decide)⟩⟩), fun q4 => EV.blk qb108_2 rfl (EV.blk qb108_4 rfl ⟨by decide, EV.blk qb75_5 rfl ⟨fun q => absurd q (by decide), fun _ => EV.blk qb75_6 rfl (EV.blk qb75_8 rfl ⟨fun q => absurd q (by decide), fun _ => EV.blk qb75_9 rfl (EV.call (R := (fun r s => EV (d + 2) 75 10 [some (.inr 0), some (.inl owner), some (.inl kind), some (.inl room), some (.inl amount), some (.inl 1)] (q_psh r []) s Q)) rfl (EV.blk qb110_0 rfl ⟨fun q3 => EV.blk qb110_3 rfl (EV.blk qb110_4 rfl ⟨by decide, EV.blk qb75_10 rfl ⟨fun _ => EV.blk qb75_12 rfl ((((((((hk.2 q9).2 q8).2 q7).2 q6).2 q5).2 q4).1 q3)), fun q => absurd q (by decide)⟩⟩), fun q3 => EV.blk qb110_1 rfl ⟨fun q2 => EV.blk qb110_3 rfl (EV.blk qb110_4 rfl ⟨by decide, EV.blk qb75_10 rfl ⟨fun _ => EV.blk qb75_12 rfl (((((((((hk.2 q9).2 q8).2 q7).2 q6).2 q5).2 q4).2 q3).1 q2)), fun q => absurd q (by decide)⟩⟩), fun q2 => EV.blk qb110_2 rfl (EV.blk qb110_4 rfl ⟨by decide, EV.blk qb75_10 rfl ⟨fun q => absurd q (by decide), fun _ => EV.blk qb75_11 rfl ⟨((((((((hk.2 q9).2 q8).2 q7).2 q6).2 q5).2 q4).2 q3).2 q2).1, ⟨fun q1 => EV.blk qb75_13 rfl (EV.call (R := (fun r s => EV (d + 2) 75 14 [some (.inr 0), some (.inl owner), some (.inl kind), some (.inl room), some (.inl amount), some (.inl 1)] (q_psh r []) s Q)) rfl (EV.blk qb13_0 rfl ⟨(((((((((hk.2 q9).2 q8).2 q7).2 q6).2 q5).2 q4).2 q3).2 q2).2.1 q1).1, EV.call (R := (fun r s => EV (d + 1) 13 1 [some (.inr 1), some (.inl owner), some (.inl kind), some (.inl room), some (.inl amount), none] (q_psh r []) s (fun r s => EV (d + 2) 75 14 [some (.inr 0), some (.inl owner), some (.inl kind), some (.inl room), some (.inl amount), some (.inl 1)] (q_psh r []) s Q))) rfl (EV.blk qb14_0 rfl (EV.blk qb13_1 rfl ⟨(((((((((hk.2 q9).2 q8).2 q7).2 q6).2 q5).2 q4).2 q3).2 q2).2.1 q1).2.1, ⟨(((((((((hk.2 q9).2 q8).2 q7).2 q6).2 q5).2 q4).2 q3).2 q2).2.1 q1).2.2.1, ⟨(((((((((hk.2 q9).2 q8).2 q7).2 q6).2 q5).2 q4).2 q3).2 q2).2.1 q1).2.2.2.1, ⟨(((((((((hk.2 q9).2 q8).2 q7).2 q6).2 q5).2 q4).2 q3).2 q2).2.1 q1).2.2.2.2.1, ⟨(((((((((hk.2 q9).2 q8).2 q7).2 q6).2 q5).2 q4).2 q3).2 q2).2.1 q1).2.2.2.2.2.1, EV.blk qb75_14 rfl (EV.call (R := (fun r s => EV (d + 2) 75 15 [some (.inr 0), some (.inl owner), some (.inl kind), some (.inl room), some (.inl amount), some (.inl 1)] (q_psh r []) s Q)) rfl (EV.blk qb103_0 rfl ⟨(((((((((hk.2 q9).2 q8).2 q7).2 q6).2 q5).2 q4).2 q3).2 q2).2.1 q1).2.2.2.2.2.2.1, ⟨(((((((((hk.2 q9).2 q8).2 q7).2 q6).2 q5).2 q4).2 q3).2 q2).2.1 q1).2.2.2.2.2.2.2.1, EV.blk qb75_15 rfl ⟨(((((((((hk.2 q9).2 q8).2 q7).2 q6).2 q5).2 q4).2 q3).2 q2).2.1 q1).2.2.2.2.2.2.2.2.1, (((((((((hk.2 q9).2 q8).2 q7).2 q6).2 q5).2 q4).2 q3).2 q2).2.1 q1).2.2.2.2.2.2.2.2.2⟩⟩⟩) (fun _ _ q => q))⟩⟩⟩⟩⟩)) (fun _ _ q => q)⟩) (fun _ _ q => q)), fun q1 => EV.blk qb75_12 rfl ((((((((((hk.2 q9).2 q8).2 q7).2 q6).2 q5).2 q4).2 q3).2 q2).2.2 q1))⟩⟩⟩⟩)⟩⟩) (fun _ _ q => q))⟩)⟩⟩)⟩⟩) (fun _ _ q => q))⟩⟩⟩⟩)⟩⟩) (fun _ _ q => q))
theorem pM_act_0 {d : Nat} {σ : QS} {Q : QQ} {owner kind room amount : Int32} (hk : (owner < 0 → Q (some (-1)) σ) ∧ (¬ owner < 0 → (12 ≤ owner → Q (some (-1)) σ) ∧ (¬ 12 ≤ owner → (kind < 0 → Q (some (-1)) σ) ∧ (¬ kind < 0 → (6 < kind → Q (some (-1)) σ) ∧ (¬ 6 < kind → (room < 0 → Q (some (-1)) σ) ∧ (¬ room < 0 → (8 ≤ room → Q (some (-1)) σ) ∧ (¬ 8 ≤ room → (amount < 0 → Q (some (-1)) σ) ∧ (¬ amount < 0 → (99 < amount → Q (some (-1)) σ) ∧ (¬ 99 < amount → (vp_in owner 12) ∧ ((¬ (σ 75 owner.toNatClampNeg) = 5 → (vp_in owner 12) ∧ ((vp_in ((5 * owner) + (σ 75 owner.toNatClampNeg)) 60) ∧ ((vp_in ((5 * owner) + (σ 75 owner.toNatClampNeg)) 60) ∧ ((vp_in ((5 * owner) + (σ 75 owner.toNatClampNeg)) 60) ∧ ((vp_in owner 12) ∧ ((vp_in owner 12) ∧ ((vp_in owner 12) ∧ (Q (some ((upd (σ 75) owner.toNatClampNeg ((σ 75 owner.toNatClampNeg) + 1)) owner.toNatClampNeg)) (q_set (q_set (q_set (q_set σ 76 (upd (σ 76) ((5 * owner) + (σ 75 owner.toNatClampNeg)).toNatClampNeg kind)) 77 (upd (σ 77) ((5 * owner) + (σ 75 owner.toNatClampNeg)).toNatClampNeg room)) 78 (upd (σ 78) ((5 * owner) + (σ 75 owner.toNatClampNeg)).toNatClampNeg amount)) 75 (upd (σ 75) owner.toNatClampNeg ((σ 75 owner.toNatClampNeg) + 1))))))))))) ∧ ((σ 75 owner.toNatClampNeg) = 5 → Q (some (-1)) σ))))))))))) : EV (d + 1) 118 0 [some (.inr 69), some (.inl owner), some (.inl kind), some (.inl room), some (.inl amount), none] [] σ Q := EV.blk qb118_0 rfl (EV.call (R := (fun r s => EV (d + 1) 118 1 [some (.inr 69), some (.inl owner), some (.inl kind), some (.inl room), some (.inl amount), none] (q_psh r []) s Q)) rfl (EV.blk qb114_0 rfl ⟨fun q9 => EV.blk qb114_3 rfl (EV.blk qb114_4 rfl ⟨by decide, EV.blk qb118_1 rfl ⟨fun _ => EV.blk qb118_9 rfl ((hk.1 q9)), fun q => absurd q (by decide)⟩⟩), fun q9 => EV.blk qb114_1 rfl ⟨fun q8 => EV.blk qb114_3 rfl (EV.blk qb114_4 rfl ⟨by decide, EV.blk qb118_1 rfl ⟨fun _ => EV.blk qb118_9 rfl (((hk.2 q9).1 q8)), fun q => absurd q (by decide)⟩⟩), fun q8 => EV.blk qb114_2 rfl (EV.blk qb114_4 rfl ⟨by decide, EV.blk qb118_1 rfl ⟨fun q => absurd q (by decide), fun _ => EV.blk qb118_2 rfl (EV.call (R := (fun r s => EV (d + 1) 118 3 [some (.inr 69), some (.inl owner), some (.inl kind), some (.inl room), some (.inl amount), none] (q_psh r []) s Q)) rfl (EV.blk qb112_0 rfl ⟨fun q7 => EV.blk qb112_3 rfl (EV.blk qb112_4 rfl ⟨by decide, EV.blk qb118_3 rfl ⟨fun _ => EV.blk qb118_9 rfl ((((hk.2 q9).2 q8).1 q7)), fun q => absurd q (by decide)⟩⟩), fun q7 => EV.blk qb112_1 rfl ⟨fun q6 => EV.blk qb112_3 rfl (EV.blk qb112_4 rfl ⟨by decide, EV.blk qb118_3 rfl ⟨fun _ => EV.blk qb118_9 rfl (((((hk.2 q9).2 q8).2 q7).1 q6)), fun q => absurd q (by decide)⟩⟩), fun q6 => EV.blk qb112_2 rfl (EV.blk qb112_4 rfl ⟨by decide, EV.blk qb118_3 rfl ⟨fun q => absurd q (by decide), fun _ => EV.blk qb118_4 rfl (EV.call (R := (fun r s => EV (d + 1) 118 5 [some (.inr 69), some (.inl owner), some (.inl kind), some (.inl room), some (.inl amount), none] (q_psh r []) s Q)) rfl (EV.blk qb115_0 rfl ⟨fun q5 => EV.blk qb115_3 rfl (EV.blk qb115_4 rfl ⟨by decide, EV.blk qb118_5 rfl ⟨fun _ => EV.blk qb118_9 rfl ((((((hk.2 q9).2 q8).2 q7).2 q6).1 q5)), fun q => absurd q (by decide)⟩⟩), fun q5 => EV.blk qb115_1 rfl ⟨fun q4 => EV.blk qb115_3 rfl (EV.blk qb115_4 rfl ⟨by decide, EV.blk qb118_5 rfl ⟨fun _ => EV.blk qb118_9 rfl (((((((hk.2 q9).2 q8).2 q7).2 q6).2 q5).1 q4)), fun q => absurd q (by decide)⟩⟩), fun q4 => EV.blk qb115_2 rfl (EV.blk qb115_4 rfl ⟨by decide, EV.blk qb118_5 rfl ⟨fun q => absurd q (by decide), fun _ => EV.blk qb118_6 rfl (EV.call (R := (fun r s => EV (d + 1) 118 7 [some (.inr 69), some (.inl owner), some (.inl kind), some (.inl room), some (.inl amount), none] (q_psh r []) s Q)) rfl (EV.blk qb112_0 rfl ⟨fun q3 => EV.blk qb112_3 rfl (EV.blk qb112_4 rfl ⟨by decide, EV.blk qb118_7 rfl ⟨fun _ => EV.blk qb118_9 rfl ((((((((hk.2 q9).2 q8).2 q7).2 q6).2 q5).2 q4).1 q3)), fun q => absurd q (by decide)⟩⟩), fun q3 => EV.blk qb112_1 rfl ⟨fun q2 => EV.blk qb112_3 rfl (EV.blk qb112_4 rfl ⟨by decide, EV.blk qb118_7 rfl ⟨fun _ => EV.blk qb118_9 rfl (((((((((hk.2 q9).2 q8).2 q7).2 q6).2 q5).2 q4).2 q3).1 q2)), fun q => absurd q (by decide)⟩⟩), fun q2 => EV.blk qb112_2 rfl (EV.blk qb112_4 rfl ⟨by decide, EV.blk qb118_7 rfl ⟨fun q => absurd q (by decide), fun _ => EV.blk qb118_8 rfl ⟨((((((((hk.2 q9).2 q8).2 q7).2 q6).2 q5).2 q4).2 q3).2 q2).1, ⟨fun q1 => EV.blk qb118_10 rfl ⟨(((((((((hk.2 q9).2 q8).2 q7).2 q6).2 q5).2 q4).2 q3).2 q2).2.1 q1).1, ⟨(((((((((hk.2 q9).2 q8).2 q7).2 q6).2 q5).2 q4).2 q3).2 q2).2.1 q1).2.1, ⟨(((((((((hk.2 q9).2 q8).2 q7).2 q6).2 q5).2 q4).2 q3).2 q2).2.1 q1).2.2.1, ⟨(((((((((hk.2 q9).2 q8).2 q7).2 q6).2 q5).2 q4).2 q3).2 q2).2.1 q1).2.2.2.1, ⟨(((((((((hk.2 q9).2 q8).2 q7).2 q6).2 q5).2 q4).2 q3).2 q2).2.1 q1).2.2.2.2.1, ⟨(((((((((hk.2 q9).2 q8).2 q7).2 q6).2 q5).2 q4).2 q3).2 q2).2.1 q1).2.2.2.2.2.1, ⟨(((((((((hk.2 q9).2 q8).2 q7).2 q6).2 q5).2 q4).2 q3).2 q2).2.1 q1).2.2.2.2.2.2.1, (((((((((hk.2 q9).2 q8).2 q7).2 q6).2 q5).2 q4).2 q3).2 q2).2.1 q1).2.2.2.2.2.2.2⟩⟩⟩⟩⟩⟩⟩, fun q1 => EV.blk qb118_9 rfl ((((((((((hk.2 q9).2 q8).2 q7).2 q6).2 q5).2 q4).2 q3).2 q2).2.2 q1))⟩⟩⟩⟩)⟩⟩) (fun _ _ q => q))⟩⟩)⟩⟩) (fun _ _ q => q))⟩⟩)⟩⟩) (fun _ _ q => q))⟩⟩)⟩⟩) (fun _ _ q => q))
theorem pX_noActs_0 {d : Nat} {σ : QS} {Q : QQ} {owner : Int32} (hk : (owner < 0 → Q (some (-1)) σ) ∧ (¬ owner < 0 → (12 ≤ owner → Q (some (-1)) σ) ∧ (¬ 12 ≤ owner → (vp_in owner 12) ∧ ((vp_in owner 12) ∧ ((q_fit 1 0) ∧ ((q_fit 1 0) ∧ (Q (some (σ 5 owner.toNatClampNeg)) (q_set (q_set (q_set σ 5 (upd (σ 5) owner.toNatClampNeg 0)) 0 (upd (σ 0) 12 0)) 61 (upd (σ 61) 3 0))))))))) : EV (d + 1) 76 0 [some (.inr 0), some (.inl owner), none] [] σ Q := EV.blk qb76_0 rfl (EV.call (R := (fun r s => EV (d + 1) 76 1 [some (.inr 0), some (.inl owner), none] (q_psh r []) s Q)) rfl (EV.blk qb107_0 rfl ⟨fun q2 => EV.blk qb107_3 rfl (EV.blk qb107_4 rfl ⟨by decide, EV.blk qb76_1 rfl ⟨fun q => absurd q (by decide), fun _ => EV.blk qb76_2 rfl ((hk.1 q2))⟩⟩), fun q2 => EV.blk qb107_1 rfl ⟨fun q1 => EV.blk qb107_3 rfl (EV.blk qb107_4 rfl ⟨by decide, EV.blk qb76_1 rfl ⟨fun q => absurd q (by decide), fun _ => EV.blk qb76_2 rfl (((hk.2 q2).1 q1))⟩⟩), fun q1 => EV.blk qb107_2 rfl (EV.blk qb107_4 rfl ⟨by decide, EV.blk qb76_1 rfl ⟨fun _ => EV.blk qb76_3 rfl ⟨((hk.2 q2).2 q1).1, ⟨((hk.2 q2).2 q1).2.1, EV.call (R := (fun r s => EV (d + 1) 76 4 [some (.inr 0), some (.inl owner), some (.inl (σ 5 owner.toNatClampNeg))] (q_psh r []) s Q)) rfl (EV.blk qb103_0 rfl ⟨((hk.2 q2).2 q1).2.2.1, ⟨((hk.2 q2).2 q1).2.2.2.1, EV.blk qb76_4 rfl (((hk.2 q2).2 q1).2.2.2.2)⟩⟩) (fun _ _ q => q)⟩⟩, fun q => absurd q (by decide)⟩⟩)⟩⟩) (fun _ _ q => q))
theorem pM_noActs_0 {d : Nat} {σ : QS} {Q : QQ} {owner : Int32} (hk : (owner < 0 → Q (some (-1)) σ) ∧ (¬ owner < 0 → (12 ≤ owner → Q (some (-1)) σ) ∧ (¬ 12 ≤ owner → (vp_in owner 12) ∧ ((vp_in owner 12) ∧ (Q (some (σ 75 owner.toNatClampNeg)) (q_set σ 75 (upd (σ 75) owner.toNatClampNeg 0))))))) : EV (d + 1) 119 0 [some (.inr 69), some (.inl owner), none] [] σ Q := EV.blk qb119_0 rfl (EV.call (R := (fun r s => EV (d + 1) 119 1 [some (.inr 69), some (.inl owner), none] (q_psh r []) s Q)) rfl (EV.blk qb114_0 rfl ⟨fun q2 => EV.blk qb114_3 rfl (EV.blk qb114_4 rfl ⟨by decide, EV.blk qb119_1 rfl ⟨fun q => absurd q (by decide), fun _ => EV.blk qb119_2 rfl ((hk.1 q2))⟩⟩), fun q2 => EV.blk qb114_1 rfl ⟨fun q1 => EV.blk qb114_3 rfl (EV.blk qb114_4 rfl ⟨by decide, EV.blk qb119_1 rfl ⟨fun q => absurd q (by decide), fun _ => EV.blk qb119_2 rfl (((hk.2 q2).1 q1))⟩⟩), fun q1 => EV.blk qb114_2 rfl (EV.blk qb114_4 rfl ⟨by decide, EV.blk qb119_1 rfl ⟨fun _ => EV.blk qb119_3 rfl ⟨((hk.2 q2).2 q1).1, ⟨((hk.2 q2).2 q1).2.1, ((hk.2 q2).2 q1).2.2⟩⟩, fun q => absurd q (by decide)⟩⟩)⟩⟩) (fun _ _ q => q))
theorem pX_swap_0 {d : Nat} {σ : QS} {Q : QQ} {a b : Int32} (hk : (a < 0 → Q (some 0) σ) ∧ (¬ a < 0 → (24 ≤ a → Q (some 0) σ) ∧ (¬ 24 ≤ a → (b < 0 → Q (some 0) σ) ∧ (¬ b < 0 → (24 ≤ b → Q (some 0) σ) ∧ (¬ 24 ≤ b → (¬ a = b → (vp_in a 24) ∧ ((vp_in b 24) ∧ ((vp_in a 24) ∧ ((vp_in b 24) ∧ ((q_fit 1 0) ∧ ((q_fit 1 0) ∧ (Q (some 1) (q_set (q_set (q_set (q_set σ 2 (upd (σ 2) a.toNatClampNeg (σ 2 b.toNatClampNeg))) 2 (upd (upd (σ 2) a.toNatClampNeg (σ 2 b.toNatClampNeg)) b.toNatClampNeg (σ 2 a.toNatClampNeg))) 0 (upd (σ 0) 12 0)) 61 (upd (σ 61) 3 0))))))))) ∧ (a = b → Q (some 0) σ)))))) : EV (d + 1) 84 0 [some (.inr 0), some (.inl a), some (.inl b)] [] σ Q := EV.blk qb84_0 rfl (EV.call (R := (fun r s => EV (d + 1) 84 1 [some (.inr 0), some (.inl a), some (.inl b)] (q_psh r []) s Q)) rfl (EV.blk qb106_0 rfl ⟨fun q5 => EV.blk qb106_3 rfl (EV.blk qb106_4 rfl ⟨by decide, EV.blk qb84_1 rfl ⟨fun _ => EV.blk qb84_5 rfl ⟨by decide, (hk.1 q5)⟩, fun q => absurd q (by decide)⟩⟩), fun q5 => EV.blk qb106_1 rfl ⟨fun q4 => EV.blk qb106_3 rfl (EV.blk qb106_4 rfl ⟨by decide, EV.blk qb84_1 rfl ⟨fun _ => EV.blk qb84_5 rfl ⟨by decide, ((hk.2 q5).1 q4)⟩, fun q => absurd q (by decide)⟩⟩), fun q4 => EV.blk qb106_2 rfl (EV.blk qb106_4 rfl ⟨by decide, EV.blk qb84_1 rfl ⟨fun q => absurd q (by decide), fun _ => EV.blk qb84_2 rfl (EV.call (R := (fun r s => EV (d + 1) 84 3 [some (.inr 0), some (.inl a), some (.inl b)] (q_psh r []) s Q)) rfl (EV.blk qb106_0 rfl ⟨fun q3 => EV.blk qb106_3 rfl (EV.blk qb106_4 rfl ⟨by decide, EV.blk qb84_3 rfl ⟨fun _ => EV.blk qb84_5 rfl ⟨by decide, (((hk.2 q5).2 q4).1 q3)⟩, fun q => absurd q (by decide)⟩⟩), fun q3 => EV.blk qb106_1 rfl ⟨fun q2 => EV.blk qb106_3 rfl (EV.blk qb106_4 rfl ⟨by decide, EV.blk qb84_3 rfl ⟨fun _ => EV.blk qb84_5 rfl ⟨by decide, ((((hk.2 q5).2 q4).2 q3).1 q2)⟩, fun q => absurd q (by decide)⟩⟩), fun q2 => EV.blk qb106_2 rfl (EV.blk qb106_4 rfl ⟨by decide, EV.blk qb84_3 rfl ⟨fun q => absurd q (by decide), fun _ => EV.blk qb84_4 rfl ⟨fun q1 => EV.blk qb84_6 rfl (EV.call (R := (fun r s => EV (d + 1) 84 7 [some (.inr 0), some (.inl a), some (.inl b)] (q_psh r []) s Q)) rfl (EV.blk qb17_0 rfl ⟨(((((hk.2 q5).2 q4).2 q3).2 q2).1 q1).1, ⟨(((((hk.2 q5).2 q4).2 q3).2 q2).1 q1).2.1, ⟨(((((hk.2 q5).2 q4).2 q3).2 q2).1 q1).2.2.1, ⟨(((((hk.2 q5).2 q4).2 q3).2 q2).1 q1).2.2.2.1, EV.blk qb84_7 rfl (EV.call (R := (fun r s => EV (d + 1) 84 8 [some (.inr 0), some (.inl a), some (.inl b)] (q_psh r []) s Q)) rfl (EV.blk qb103_0 rfl ⟨(((((hk.2 q5).2 q4).2 q3).2 q2).1 q1).2.2.2.2.1, ⟨(((((hk.2 q5).2 q4).2 q3).2 q2).1 q1).2.2.2.2.2.1, EV.blk qb84_8 rfl ⟨by decide, (((((hk.2 q5).2 q4).2 q3).2 q2).1 q1).2.2.2.2.2.2⟩⟩⟩) (fun _ _ q => q))⟩⟩⟩⟩) (fun _ _ q => q)), fun q1 => EV.blk qb84_5 rfl ⟨by decide, (((((hk.2 q5).2 q4).2 q3).2 q2).2 q1)⟩⟩⟩⟩)⟩⟩) (fun _ _ q => q))⟩⟩)⟩⟩) (fun _ _ q => q))
theorem pM_swap_0 {d : Nat} {σ : QS} {Q : QQ} {a b : Int32} (hk : (a < 0 → Q (some 0) σ) ∧ (¬ a < 0 → (24 ≤ a → Q (some 0) σ) ∧ (¬ 24 ≤ a → (b < 0 → Q (some 0) σ) ∧ (¬ b < 0 → (24 ≤ b → Q (some 0) σ) ∧ (¬ 24 ≤ b → (¬ a = b → (vp_in a 24) ∧ ((vp_in b 24) ∧ ((vp_in a 24) ∧ ((vp_in b 24) ∧ (Q (some 1) (q_set (q_set σ 70 (upd (σ 70) a.toNatClampNeg (σ 70 b.toNatClampNeg))) 70 (upd (upd (σ 70) a.toNatClampNeg (σ 70 b.toNatClampNeg)) b.toNatClampNeg (σ 70 a.toNatClampNeg)))))))) ∧ (a = b → Q (some 0) σ)))))) : EV (d + 1) 171 0 [some (.inr 69), some (.inl a), some (.inl b)] [] σ Q := EV.blk qb171_0 rfl (EV.call (R := (fun r s => EV (d + 1) 171 1 [some (.inr 69), some (.inl a), some (.inl b)] (q_psh r []) s Q)) rfl (EV.blk qb113_0 rfl ⟨fun q5 => EV.blk qb113_3 rfl (EV.blk qb113_4 rfl ⟨by decide, EV.blk qb171_1 rfl ⟨fun _ => EV.blk qb171_5 rfl ⟨by decide, (hk.1 q5)⟩, fun q => absurd q (by decide)⟩⟩), fun q5 => EV.blk qb113_1 rfl ⟨fun q4 => EV.blk qb113_3 rfl (EV.blk qb113_4 rfl ⟨by decide, EV.blk qb171_1 rfl ⟨fun _ => EV.blk qb171_5 rfl ⟨by decide, ((hk.2 q5).1 q4)⟩, fun q => absurd q (by decide)⟩⟩), fun q4 => EV.blk qb113_2 rfl (EV.blk qb113_4 rfl ⟨by decide, EV.blk qb171_1 rfl ⟨fun q => absurd q (by decide), fun _ => EV.blk qb171_2 rfl (EV.call (R := (fun r s => EV (d + 1) 171 3 [some (.inr 69), some (.inl a), some (.inl b)] (q_psh r []) s Q)) rfl (EV.blk qb113_0 rfl ⟨fun q3 => EV.blk qb113_3 rfl (EV.blk qb113_4 rfl ⟨by decide, EV.blk qb171_3 rfl ⟨fun _ => EV.blk qb171_5 rfl ⟨by decide, (((hk.2 q5).2 q4).1 q3)⟩, fun q => absurd q (by decide)⟩⟩), fun q3 => EV.blk qb113_1 rfl ⟨fun q2 => EV.blk qb113_3 rfl (EV.blk qb113_4 rfl ⟨by decide, EV.blk qb171_3 rfl ⟨fun _ => EV.blk qb171_5 rfl ⟨by decide, ((((hk.2 q5).2 q4).2 q3).1 q2)⟩, fun q => absurd q (by decide)⟩⟩), fun q2 => EV.blk qb113_2 rfl (EV.blk qb113_4 rfl ⟨by decide, EV.blk qb171_3 rfl ⟨fun q => absurd q (by decide), fun _ => EV.blk qb171_4 rfl ⟨fun q1 => EV.blk qb171_6 rfl (EV.call (R := (fun r s => EV (d + 1) 171 7 [some (.inr 69), some (.inl a), some (.inl b)] (q_psh r []) s Q)) rfl (EV.blk qb166_0 rfl ⟨(((((hk.2 q5).2 q4).2 q3).2 q2).1 q1).1, ⟨(((((hk.2 q5).2 q4).2 q3).2 q2).1 q1).2.1, ⟨(((((hk.2 q5).2 q4).2 q3).2 q2).1 q1).2.2.1, ⟨(((((hk.2 q5).2 q4).2 q3).2 q2).1 q1).2.2.2.1, EV.blk qb171_7 rfl ⟨by decide, (((((hk.2 q5).2 q4).2 q3).2 q2).1 q1).2.2.2.2⟩⟩⟩⟩⟩) (fun _ _ q => q)), fun q1 => EV.blk qb171_5 rfl ⟨by decide, (((((hk.2 q5).2 q4).2 q3).2 q2).2 q1)⟩⟩⟩⟩)⟩⟩) (fun _ _ q => q))⟩⟩)⟩⟩) (fun _ _ q => q))
theorem pX_searches_0 {d : Nat} {σ : QS} {Q : QQ} {owner rooms : Int32} (hk : (owner < 0 → Q (some 0) σ) ∧ (¬ owner < 0 → (12 ≤ owner → Q (some 0) σ) ∧ (¬ 12 ≤ owner → (rooms < 0 → Q (some 0) σ) ∧ (¬ rooms < 0 → (rooms < 256 → (vp_in owner 13) ∧ (Q (some 1) (q_set σ 42 (upd (σ 42) owner.toNatClampNeg rooms)))) ∧ (¬ rooms < 256 → Q (some 0) σ))))) : EV (d + 1) 89 0 [some (.inr 0), some (.inl owner), some (.inl rooms)] [] σ Q := EV.blk qb89_0 rfl (EV.call (R := (fun r s => EV (d + 1) 89 1 [some (.inr 0), some (.inl owner), some (.inl rooms)] (q_psh r []) s Q)) rfl (EV.blk qb107_0 rfl ⟨fun q4 => EV.blk qb107_3 rfl (EV.blk qb107_4 rfl ⟨by decide, EV.blk qb89_1 rfl ⟨fun _ => EV.blk qb89_4 rfl ⟨by decide, (hk.1 q4)⟩, fun q => absurd q (by decide)⟩⟩), fun q4 => EV.blk qb107_1 rfl ⟨fun q3 => EV.blk qb107_3 rfl (EV.blk qb107_4 rfl ⟨by decide, EV.blk qb89_1 rfl ⟨fun _ => EV.blk qb89_4 rfl ⟨by decide, ((hk.2 q4).1 q3)⟩, fun q => absurd q (by decide)⟩⟩), fun q3 => EV.blk qb107_2 rfl (EV.blk qb107_4 rfl ⟨by decide, EV.blk qb89_1 rfl ⟨fun q => absurd q (by decide), fun _ => EV.blk qb89_2 rfl ⟨fun q2 => EV.blk qb89_4 rfl ⟨by decide, (((hk.2 q4).2 q3).1 q2)⟩, fun q2 => EV.blk qb89_3 rfl ⟨fun q1 => EV.blk qb89_5 rfl ⟨((((hk.2 q4).2 q3).2 q2).1 q1).1, ⟨by decide, ((((hk.2 q4).2 q3).2 q2).1 q1).2⟩⟩, fun q1 => EV.blk qb89_4 rfl ⟨by decide, ((((hk.2 q4).2 q3).2 q2).2 q1)⟩⟩⟩⟩⟩)⟩⟩) (fun _ _ q => q))
theorem pM_searches_0 {d : Nat} {σ : QS} {Q : QQ} {owner rooms : Int32} (hk : (owner < 0 → Q (some 0) σ) ∧ (¬ owner < 0 → (12 ≤ owner → Q (some 0) σ) ∧ (¬ 12 ≤ owner → (rooms < 0 → Q (some 0) σ) ∧ (¬ rooms < 0 → (255 < rooms → Q (some 0) σ) ∧ (¬ 255 < rooms → (vp_in owner 12) ∧ (Q (some 1) (q_set σ 79 (upd (σ 79) owner.toNatClampNeg rooms)))))))) : EV (d + 1) 177 0 [some (.inr 69), some (.inl owner), some (.inl rooms)] [] σ Q := EV.blk qb177_0 rfl (EV.call (R := (fun r s => EV (d + 1) 177 1 [some (.inr 69), some (.inl owner), some (.inl rooms)] (q_psh r []) s Q)) rfl (EV.blk qb114_0 rfl ⟨fun q4 => EV.blk qb114_3 rfl (EV.blk qb114_4 rfl ⟨by decide, EV.blk qb177_1 rfl ⟨fun _ => EV.blk qb177_4 rfl ⟨by decide, (hk.1 q4)⟩, fun q => absurd q (by decide)⟩⟩), fun q4 => EV.blk qb114_1 rfl ⟨fun q3 => EV.blk qb114_3 rfl (EV.blk qb114_4 rfl ⟨by decide, EV.blk qb177_1 rfl ⟨fun _ => EV.blk qb177_4 rfl ⟨by decide, ((hk.2 q4).1 q3)⟩, fun q => absurd q (by decide)⟩⟩), fun q3 => EV.blk qb114_2 rfl (EV.blk qb114_4 rfl ⟨by decide, EV.blk qb177_1 rfl ⟨fun q => absurd q (by decide), fun _ => EV.blk qb177_2 rfl (EV.call (R := (fun r s => EV (d + 1) 177 3 [some (.inr 69), some (.inl owner), some (.inl rooms)] (q_psh r []) s Q)) rfl (EV.blk qb112_0 rfl ⟨fun q2 => EV.blk qb112_3 rfl (EV.blk qb112_4 rfl ⟨by decide, EV.blk qb177_3 rfl ⟨fun q => absurd q (by decide), fun _ => EV.blk qb177_4 rfl ⟨by decide, (((hk.2 q4).2 q3).1 q2)⟩⟩⟩), fun q2 => EV.blk qb112_1 rfl ⟨fun q1 => EV.blk qb112_3 rfl (EV.blk qb112_4 rfl ⟨by decide, EV.blk qb177_3 rfl ⟨fun q => absurd q (by decide), fun _ => EV.blk qb177_4 rfl ⟨by decide, ((((hk.2 q4).2 q3).2 q2).1 q1)⟩⟩⟩), fun q1 => EV.blk qb112_2 rfl (EV.blk qb112_4 rfl ⟨by decide, EV.blk qb177_3 rfl ⟨fun _ => EV.blk qb177_5 rfl ⟨((((hk.2 q4).2 q3).2 q2).2 q1).1, ⟨by decide, ((((hk.2 q4).2 q3).2 q2).2 q1).2⟩⟩, fun q => absurd q (by decide)⟩⟩)⟩⟩) (fun _ _ q => q))⟩⟩)⟩⟩) (fun _ _ q => q))
theorem pX_says_0 {d : Nat} {σ : QS} {Q : QQ} {hour word : Int32} (hk : (hour < 0 → Q (some 0) σ) ∧ (¬ hour < 0 → (24 ≤ hour → Q (some 0) σ) ∧ (¬ 24 ≤ hour → (word < 0 → Q (some 0) σ) ∧ (¬ word < 0 → (word ≤ 2 → (vp_in hour 24) ∧ (Q (some 1) (q_set σ 43 (upd (σ 43) hour.toNatClampNeg word)))) ∧ (¬ word ≤ 2 → Q (some 0) σ))))) : EV (d + 1) 91 0 [some (.inr 0), some (.inl hour), some (.inl word)] [] σ Q := EV.blk qb91_0 rfl (EV.call (R := (fun r s => EV (d + 1) 91 1 [some (.inr 0), some (.inl hour), some (.inl word)] (q_psh r []) s Q)) rfl (EV.blk qb106_0 rfl ⟨fun q4 => EV.blk qb106_3 rfl (EV.blk qb106_4 rfl ⟨by decide, EV.blk qb91_1 rfl ⟨fun _ => EV.blk qb91_4 rfl ⟨by decide, (hk.1 q4)⟩, fun q => absurd q (by decide)⟩⟩), fun q4 => EV.blk qb106_1 rfl ⟨fun q3 => EV.blk qb106_3 rfl (EV.blk qb106_4 rfl ⟨by decide, EV.blk qb91_1 rfl ⟨fun _ => EV.blk qb91_4 rfl ⟨by decide, ((hk.2 q4).1 q3)⟩, fun q => absurd q (by decide)⟩⟩), fun q3 => EV.blk qb106_2 rfl (EV.blk qb106_4 rfl ⟨by decide, EV.blk qb91_1 rfl ⟨fun q => absurd q (by decide), fun _ => EV.blk qb91_2 rfl ⟨fun q2 => EV.blk qb91_4 rfl ⟨by decide, (((hk.2 q4).2 q3).1 q2)⟩, fun q2 => EV.blk qb91_3 rfl ⟨fun q1 => EV.blk qb91_5 rfl ⟨((((hk.2 q4).2 q3).2 q2).1 q1).1, ⟨by decide, ((((hk.2 q4).2 q3).2 q2).1 q1).2⟩⟩, fun q1 => EV.blk qb91_4 rfl ⟨by decide, ((((hk.2 q4).2 q3).2 q2).2 q1)⟩⟩⟩⟩⟩)⟩⟩) (fun _ _ q => q))
theorem pM_says_0 {d : Nat} {σ : QS} {Q : QQ} {hour word : Int32} (hk : (hour < 0 → Q (some 0) σ) ∧ (¬ hour < 0 → (24 ≤ hour → Q (some 0) σ) ∧ (¬ 24 ≤ hour → (word < 0 → Q (some 0) σ) ∧ (¬ word < 0 → (2 < word → Q (some 0) σ) ∧ (¬ 2 < word → (vp_in hour 24) ∧ (Q (some 1) (q_set σ 71 (upd (σ 71) hour.toNatClampNeg word)))))))) : EV (d + 1) 183 0 [some (.inr 69), some (.inl hour), some (.inl word)] [] σ Q := EV.blk qb183_0 rfl (EV.call (R := (fun r s => EV (d + 1) 183 1 [some (.inr 69), some (.inl hour), some (.inl word)] (q_psh r []) s Q)) rfl (EV.blk qb113_0 rfl ⟨fun q4 => EV.blk qb113_3 rfl (EV.blk qb113_4 rfl ⟨by decide, EV.blk qb183_1 rfl ⟨fun _ => EV.blk qb183_4 rfl ⟨by decide, (hk.1 q4)⟩, fun q => absurd q (by decide)⟩⟩), fun q4 => EV.blk qb113_1 rfl ⟨fun q3 => EV.blk qb113_3 rfl (EV.blk qb113_4 rfl ⟨by decide, EV.blk qb183_1 rfl ⟨fun _ => EV.blk qb183_4 rfl ⟨by decide, ((hk.2 q4).1 q3)⟩, fun q => absurd q (by decide)⟩⟩), fun q3 => EV.blk qb113_2 rfl (EV.blk qb113_4 rfl ⟨by decide, EV.blk qb183_1 rfl ⟨fun q => absurd q (by decide), fun _ => EV.blk qb183_2 rfl (EV.call (R := (fun r s => EV (d + 1) 183 3 [some (.inr 69), some (.inl hour), some (.inl word)] (q_psh r []) s Q)) rfl (EV.blk qb112_0 rfl ⟨fun q2 => EV.blk qb112_3 rfl (EV.blk qb112_4 rfl ⟨by decide, EV.blk qb183_3 rfl ⟨fun q => absurd q (by decide), fun _ => EV.blk qb183_4 rfl ⟨by decide, (((hk.2 q4).2 q3).1 q2)⟩⟩⟩), fun q2 => EV.blk qb112_1 rfl ⟨fun q1 => EV.blk qb112_3 rfl (EV.blk qb112_4 rfl ⟨by decide, EV.blk qb183_3 rfl ⟨fun q => absurd q (by decide), fun _ => EV.blk qb183_4 rfl ⟨by decide, ((((hk.2 q4).2 q3).2 q2).1 q1)⟩⟩⟩), fun q1 => EV.blk qb112_2 rfl (EV.blk qb112_4 rfl ⟨by decide, EV.blk qb183_3 rfl ⟨fun _ => EV.blk qb183_5 rfl ⟨((((hk.2 q4).2 q3).2 q2).2 q1).1, ⟨by decide, ((((hk.2 q4).2 q3).2 q2).2 q1).2⟩⟩, fun q => absurd q (by decide)⟩⟩)⟩⟩) (fun _ _ q => q))⟩⟩)⟩⟩) (fun _ _ q => q))
theorem pX_seed_0 {d : Nat} {σ : QS} {Q : QQ} {x : Int32} (hk : (x < 0 → Q (some 0) σ) ∧ (¬ x < 0 → (x ≤ 65535 → Q (some 1) (q_set σ 1 (upd (σ 1) 4 x))) ∧ (¬ x ≤ 65535 → Q (some 0) σ))) : EV d 96 0 [some (.inr 0), some (.inl x)] [] σ Q := EV.blk qb96_0 rfl ⟨fun q2 => EV.blk qb96_2 rfl ⟨by decide, (hk.1 q2)⟩, fun q2 => EV.blk qb96_1 rfl ⟨fun q1 => EV.blk qb96_3 rfl ⟨by decide, ((hk.2 q2).1 q1)⟩, fun q1 => EV.blk qb96_2 rfl ⟨by decide, ((hk.2 q2).2 q1)⟩⟩⟩
theorem pM_seed_0 {d : Nat} {σ : QS} {Q : QQ} {x : Int32} (hk : (x < 0 → Q (some 0) σ) ∧ (¬ x < 0 → (65535 < x → Q (some 0) σ) ∧ (¬ 65535 < x → Q (some 1) (q_set σ 69 (upd (σ 69) 0 x))))) : EV (d + 1) 191 0 [some (.inr 69), some (.inl x)] [] σ Q := EV.blk qb191_0 rfl (EV.call (R := (fun r s => EV (d + 1) 191 1 [some (.inr 69), some (.inl x)] (q_psh r []) s Q)) rfl (EV.blk qb112_0 rfl ⟨fun q2 => EV.blk qb112_3 rfl (EV.blk qb112_4 rfl ⟨by decide, EV.blk qb191_1 rfl ⟨fun q => absurd q (by decide), fun _ => EV.blk qb191_2 rfl ⟨by decide, (hk.1 q2)⟩⟩⟩), fun q2 => EV.blk qb112_1 rfl ⟨fun q1 => EV.blk qb112_3 rfl (EV.blk qb112_4 rfl ⟨by decide, EV.blk qb191_1 rfl ⟨fun q => absurd q (by decide), fun _ => EV.blk qb191_2 rfl ⟨by decide, ((hk.2 q2).1 q1)⟩⟩⟩), fun q1 => EV.blk qb112_2 rfl (EV.blk qb112_4 rfl ⟨by decide, EV.blk qb191_1 rfl ⟨fun _ => EV.blk qb191_3 rfl ⟨by decide, ((hk.2 q2).2 q1)⟩, fun q => absurd q (by decide)⟩⟩)⟩⟩) (fun _ _ q => q))
theorem pX_touching_0 {d : Nat} {σ : QS} {Q : QQ} {a b : Int32} (hk : (a < 0 → Q (some (-1)) σ) ∧ (¬ a < 0 → (12 ≤ a → Q (some (-1)) σ) ∧ (¬ 12 ≤ a → (b < 0 → Q (some (-1)) σ) ∧ (¬ b < 0 → (12 ≤ b → Q (some (-1)) σ) ∧ (¬ 12 ≤ b → (¬ a = b → EV (d + 1) 88 7 [some (.inr 0), some (.inl a), some (.inl b), some (.inl 0), some (.inl 0), none, none] [] σ Q) ∧ (a = b → Q (some (-1)) σ)))))) : EV (d + 1) 88 0 [some (.inr 0), some (.inl a), some (.inl b), none, none, none, none] [] σ Q := EV.blk qb88_0 rfl (EV.call (R := (fun r s => EV (d + 1) 88 1 [some (.inr 0), some (.inl a), some (.inl b), none, none, none, none] (q_psh r []) s Q)) rfl (EV.blk qb107_0 rfl ⟨fun q5 => EV.blk qb107_3 rfl (EV.blk qb107_4 rfl ⟨by decide, EV.blk qb88_1 rfl ⟨fun _ => EV.blk qb88_5 rfl ((hk.1 q5)), fun q => absurd q (by decide)⟩⟩), fun q5 => EV.blk qb107_1 rfl ⟨fun q4 => EV.blk qb107_3 rfl (EV.blk qb107_4 rfl ⟨by decide, EV.blk qb88_1 rfl ⟨fun _ => EV.blk qb88_5 rfl (((hk.2 q5).1 q4)), fun q => absurd q (by decide)⟩⟩), fun q4 => EV.blk qb107_2 rfl (EV.blk qb107_4 rfl ⟨by decide, EV.blk qb88_1 rfl ⟨fun q => absurd q (by decide), fun _ => EV.blk qb88_2 rfl (EV.call (R := (fun r s => EV (d + 1) 88 3 [some (.inr 0), some (.inl a), some (.inl b), none, none, none, none] (q_psh r []) s Q)) rfl (EV.blk qb107_0 rfl ⟨fun q3 => EV.blk qb107_3 rfl (EV.blk qb107_4 rfl ⟨by decide, EV.blk qb88_3 rfl ⟨fun _ => EV.blk qb88_5 rfl ((((hk.2 q5).2 q4).1 q3)), fun q => absurd q (by decide)⟩⟩), fun q3 => EV.blk qb107_1 rfl ⟨fun q2 => EV.blk qb107_3 rfl (EV.blk qb107_4 rfl ⟨by decide, EV.blk qb88_3 rfl ⟨fun _ => EV.blk qb88_5 rfl (((((hk.2 q5).2 q4).2 q3).1 q2)), fun q => absurd q (by decide)⟩⟩), fun q2 => EV.blk qb107_2 rfl (EV.blk qb107_4 rfl ⟨by decide, EV.blk qb88_3 rfl ⟨fun q => absurd q (by decide), fun _ => EV.blk qb88_4 rfl ⟨fun q1 => EV.blk qb88_6 rfl ((((((hk.2 q5).2 q4).2 q3).2 q2).1 q1)), fun q1 => EV.blk qb88_5 rfl ((((((hk.2 q5).2 q4).2 q3).2 q2).2 q1))⟩⟩⟩)⟩⟩) (fun _ _ q => q))⟩⟩)⟩⟩) (fun _ _ q => q))
theorem pX_touching_7 {d : Nat} {σ : QS} {Q : QQ} {a b v3 v4 : Int32} {w5 w6 : Option QV} (hk : (24 ≤ v4 → Q (some v3) σ) ∧ (¬ 24 ≤ v4 → (vp_in v4 24) ∧ ((¬ (24 : Int32) = 0) ∧ ((vp_in ((v4 + 1) - (v4 + 1) / 24 * 24) 24) ∧ ((¬ (σ 2 v4.toNatClampNeg) = a → (¬ (σ 2 v4.toNatClampNeg) = b → EV (d + 1) 88 7 [some (.inr 0), some (.inl a), some (.inl b), some (.inl v3), some (.inl (v4 + 1)), some (.inl (σ 2 v4.toNatClampNeg)), some (.inl (σ 2 ((v4 + 1) - (v4 + 1) / 24 * 24).toNatClampNeg))] [] σ Q) ∧ ((σ 2 v4.toNatClampNeg) = b → (¬ (σ 2 ((v4 + 1) - (v4 + 1) / 24 * 24).toNatClampNeg) = a → EV (d + 1) 88 7 [some (.inr 0), some (.inl a), some (.inl b), some (.inl v3), some (.inl (v4 + 1)), some (.inl (σ 2 v4.toNatClampNeg)), some (.inl (σ 2 ((v4 + 1) - (v4 + 1) / 24 * 24).toNatClampNeg))] [] σ Q) ∧ ((σ 2 ((v4 + 1) - (v4 + 1) / 24 * 24).toNatClampNeg) = a → EV (d + 1) 88 7 [some (.inr 0), some (.inl a), some (.inl b), some (.inl (v3 + 1)), some (.inl (v4 + 1)), some (.inl (σ 2 v4.toNatClampNeg)), some (.inl (σ 2 ((v4 + 1) - (v4 + 1) / 24 * 24).toNatClampNeg))] [] σ Q))) ∧ ((σ 2 v4.toNatClampNeg) = a → ((σ 2 ((v4 + 1) - (v4 + 1) / 24 * 24).toNatClampNeg) = b → EV (d + 1) 88 7 [some (.inr 0), some (.inl a), some (.inl b), some (.inl (v3 + 1)), some (.inl (v4 + 1)), some (.inl (σ 2 v4.toNatClampNeg)), some (.inl (σ 2 ((v4 + 1) - (v4 + 1) / 24 * 24).toNatClampNeg))] [] σ Q) ∧ (¬ (σ 2 ((v4 + 1) - (v4 + 1) / 24 * 24).toNatClampNeg) = b → (¬ (σ 2 v4.toNatClampNeg) = b → EV (d + 1) 88 7 [some (.inr 0), some (.inl a), some (.inl b), some (.inl v3), some (.inl (v4 + 1)), some (.inl (σ 2 v4.toNatClampNeg)), some (.inl (σ 2 ((v4 + 1) - (v4 + 1) / 24 * 24).toNatClampNeg))] [] σ Q) ∧ ((σ 2 v4.toNatClampNeg) = b → (¬ (σ 2 ((v4 + 1) - (v4 + 1) / 24 * 24).toNatClampNeg) = a → EV (d + 1) 88 7 [some (.inr 0), some (.inl a), some (.inl b), some (.inl v3), some (.inl (v4 + 1)), some (.inl (σ 2 v4.toNatClampNeg)), some (.inl (σ 2 ((v4 + 1) - (v4 + 1) / 24 * 24).toNatClampNeg))] [] σ Q) ∧ ((σ 2 ((v4 + 1) - (v4 + 1) / 24 * 24).toNatClampNeg) = a → EV (d + 1) 88 7 [some (.inr 0), some (.inl a), some (.inl b), some (.inl (v3 + 1)), some (.inl (v4 + 1)), some (.inl (σ 2 v4.toNatClampNeg)), some (.inl (σ 2 ((v4 + 1) - (v4 + 1) / 24 * 24).toNatClampNeg))] [] σ Q))))))))) : EV (d + 1) 88 7 [some (.inr 0), some (.inl a), some (.inl b), some (.inl v3), some (.inl v4), w5, w6] [] σ Q := EV.blk qb88_7 rfl ⟨fun q7 => EV.blk qb88_14 rfl ((hk.1 q7)), fun q7 => EV.blk qb88_8 rfl ⟨(hk.2 q7).1, ⟨(hk.2 q7).2.1, ⟨(hk.2 q7).2.2.1, ⟨fun q6 => EV.blk qb88_10 rfl ⟨fun q2 => EV.blk qb88_13 rfl ((((hk.2 q7).2.2.2.1 q6).1 q2)), fun q2 => EV.blk qb88_11 rfl ⟨fun q1 => EV.blk qb88_13 rfl (((((hk.2 q7).2.2.2.1 q6).2 q2).1 q1)), fun q1 => EV.blk qb88_12 rfl (EV.blk qb88_13 rfl (((((hk.2 q7).2.2.2.1 q6).2 q2).2 q1)))⟩⟩, fun q6 => EV.blk qb88_9 rfl ⟨fun q5 => EV.blk qb88_12 rfl (EV.blk qb88_13 rfl ((((hk.2 q7).2.2.2.2 q6).1 q5))), fun q5 => EV.blk qb88_10 rfl ⟨fun q4 => EV.blk qb88_13 rfl (((((hk.2 q7).2.2.2.2 q6).2 q5).1 q4)), fun q4 => EV.blk qb88_11 rfl ⟨fun q3 => EV.blk qb88_13 rfl ((((((hk.2 q7).2.2.2.2 q6).2 q5).2 q4).1 q3)), fun q3 => EV.blk qb88_12 rfl (EV.blk qb88_13 rfl ((((((hk.2 q7).2.2.2.2 q6).2 q5).2 q4).2 q3)))⟩⟩⟩⟩⟩⟩⟩⟩
theorem pM_touching_0 {d : Nat} {σ : QS} {Q : QQ} {a b : Int32} (hk : (a < 0 → Q (some (-1)) σ) ∧ (¬ a < 0 → (12 ≤ a → Q (some (-1)) σ) ∧ (¬ 12 ≤ a → (b < 0 → Q (some (-1)) σ) ∧ (¬ b < 0 → (12 ≤ b → Q (some (-1)) σ) ∧ (¬ 12 ≤ b → (¬ a = b → EV (d + 1) 176 7 [some (.inr 69), some (.inl a), some (.inl b), some (.inl 0), some (.inl 0), none] [] σ Q) ∧ (a = b → Q (some (-1)) σ)))))) : EV (d + 1) 176 0 [some (.inr 69), some (.inl a), some (.inl b), none, none, none] [] σ Q := EV.blk qb176_0 rfl (EV.call (R := (fun r s => EV (d + 1) 176 1 [some (.inr 69), some (.inl a), some (.inl b), none, none, none] (q_psh r []) s Q)) rfl (EV.blk qb114_0 rfl ⟨fun q5 => EV.blk qb114_3 rfl (EV.blk qb114_4 rfl ⟨by decide, EV.blk qb176_1 rfl ⟨fun _ => EV.blk qb176_5 rfl ((hk.1 q5)), fun q => absurd q (by decide)⟩⟩), fun q5 => EV.blk qb114_1 rfl ⟨fun q4 => EV.blk qb114_3 rfl (EV.blk qb114_4 rfl ⟨by decide, EV.blk qb176_1 rfl ⟨fun _ => EV.blk qb176_5 rfl (((hk.2 q5).1 q4)), fun q => absurd q (by decide)⟩⟩), fun q4 => EV.blk qb114_2 rfl (EV.blk qb114_4 rfl ⟨by decide, EV.blk qb176_1 rfl ⟨fun q => absurd q (by decide), fun _ => EV.blk qb176_2 rfl (EV.call (R := (fun r s => EV (d + 1) 176 3 [some (.inr 69), some (.inl a), some (.inl b), none, none, none] (q_psh r []) s Q)) rfl (EV.blk qb114_0 rfl ⟨fun q3 => EV.blk qb114_3 rfl (EV.blk qb114_4 rfl ⟨by decide, EV.blk qb176_3 rfl ⟨fun _ => EV.blk qb176_5 rfl ((((hk.2 q5).2 q4).1 q3)), fun q => absurd q (by decide)⟩⟩), fun q3 => EV.blk qb114_1 rfl ⟨fun q2 => EV.blk qb114_3 rfl (EV.blk qb114_4 rfl ⟨by decide, EV.blk qb176_3 rfl ⟨fun _ => EV.blk qb176_5 rfl (((((hk.2 q5).2 q4).2 q3).1 q2)), fun q => absurd q (by decide)⟩⟩), fun q2 => EV.blk qb114_2 rfl (EV.blk qb114_4 rfl ⟨by decide, EV.blk qb176_3 rfl ⟨fun q => absurd q (by decide), fun _ => EV.blk qb176_4 rfl ⟨fun q1 => EV.blk qb176_6 rfl ((((((hk.2 q5).2 q4).2 q3).2 q2).1 q1)), fun q1 => EV.blk qb176_5 rfl ((((((hk.2 q5).2 q4).2 q3).2 q2).2 q1))⟩⟩⟩)⟩⟩) (fun _ _ q => q))⟩⟩)⟩⟩) (fun _ _ q => q))
theorem pM_touching_7 {d : Nat} {σ : QS} {Q : QQ} {a b v3 v4 : Int32} {w5 : Option QV} (hk : (24 ≤ v4 → Q (some v3) σ) ∧ (¬ 24 ≤ v4 → (¬ v4 = 23 → (vp_in v4 24) ∧ ((¬ (σ 70 v4.toNatClampNeg) = a → (vp_in v4 24) ∧ ((¬ (σ 70 v4.toNatClampNeg) = b → EV (d + 1) 176 7 [some (.inr 69), some (.inl a), some (.inl b), some (.inl (v3 + 0)), some (.inl (v4 + 1)), some (.inl (v4 + 1))] [] σ Q) ∧ ((σ 70 v4.toNatClampNeg) = b → (vp_in (v4 + 1) 24) ∧ ((¬ (σ 70 (v4 + 1).toNatClampNeg) = a → EV (d + 1) 176 7 [some (.inr 69), some (.inl a), some (.inl b), some (.inl (v3 + 0)), some (.inl (v4 + 1)), some (.inl (v4 + 1))] [] σ Q) ∧ ((σ 70 (v4 + 1).toNatClampNeg) = a → EV (d + 1) 176 7 [some (.inr 69), some (.inl a), some (.inl b), some (.inl (v3 + 1)), some (.inl (v4 + 1)), some (.inl (v4 + 1))] [] σ Q))))) ∧ ((σ 70 v4.toNatClampNeg) = a → (vp_in (v4 + 1) 24) ∧ (((σ 70 (v4 + 1).toNatClampNeg) = b → EV (d + 1) 176 7 [some (.inr 69), some (.inl a), some (.inl b), some (.inl (v3 + 1)), some (.inl (v4 + 1)), some (.inl (v4 + 1))] [] σ Q) ∧ (¬ (σ 70 (v4 + 1).toNatClampNeg) = b → (vp_in v4 24) ∧ ((¬ (σ 70 v4.toNatClampNeg) = b → EV (d + 1) 176 7 [some (.inr 69), some (.inl a), some (.inl b), some (.inl (v3 + 0)), some (.inl (v4 + 1)), some (.inl (v4 + 1))] [] σ Q) ∧ ((σ 70 v4.toNatClampNeg) = b → (vp_in (v4 + 1) 24) ∧ ((¬ (σ 70 (v4 + 1).toNatClampNeg) = a → EV (d + 1) 176 7 [some (.inr 69), some (.inl a), some (.inl b), some (.inl (v3 + 0)), some (.inl (v4 + 1)), some (.inl (v4 + 1))] [] σ Q) ∧ ((σ 70 (v4 + 1).toNatClampNeg) = a → EV (d + 1) 176 7 [some (.inr 69), some (.inl a), some (.inl b), some (.inl (v3 + 1)), some (.inl (v4 + 1)), some (.inl (v4 + 1))] [] σ Q))))))))) ∧ (v4 = 23 → (vp_in v4 24) ∧ ((¬ (σ 70 v4.toNatClampNeg) = a → (vp_in v4 24) ∧ ((¬ (σ 70 v4.toNatClampNeg) = b → EV (d + 1) 176 7 [some (.inr 69), some (.inl a), some (.inl b), some (.inl (v3 + 0)), some (.inl (v4 + 1)), some (.inl 0)] [] σ Q) ∧ ((σ 70 v4.toNatClampNeg) = b → (vp_in 0 24) ∧ ((¬ (σ 70 (0 : Int32).toNatClampNeg) = a → EV (d + 1) 176 7 [some (.inr 69), some (.inl a), some (.inl b), some (.inl (v3 + 0)), some (.inl (v4 + 1)), some (.inl 0)] [] σ Q) ∧ ((σ 70 (0 : Int32).toNatClampNeg) = a → EV (d + 1) 176 7 [some (.inr 69), some (.inl a), some (.inl b), some (.inl (v3 + 1)), some (.inl (v4 + 1)), some (.inl 0)] [] σ Q))))) ∧ ((σ 70 v4.toNatClampNeg) = a → (vp_in 0 24) ∧ (((σ 70 (0 : Int32).toNatClampNeg) = b → EV (d + 1) 176 7 [some (.inr 69), some (.inl a), some (.inl b), some (.inl (v3 + 1)), some (.inl (v4 + 1)), some (.inl 0)] [] σ Q) ∧ (¬ (σ 70 (0 : Int32).toNatClampNeg) = b → (vp_in v4 24) ∧ ((¬ (σ 70 v4.toNatClampNeg) = b → EV (d + 1) 176 7 [some (.inr 69), some (.inl a), some (.inl b), some (.inl (v3 + 0)), some (.inl (v4 + 1)), some (.inl 0)] [] σ Q) ∧ ((σ 70 v4.toNatClampNeg) = b → (vp_in 0 24) ∧ ((¬ (σ 70 (0 : Int32).toNatClampNeg) = a → EV (d + 1) 176 7 [some (.inr 69), some (.inl a), some (.inl b), some (.inl (v3 + 0)), some (.inl (v4 + 1)), some (.inl 0)] [] σ Q) ∧ ((σ 70 (0 : Int32).toNatClampNeg) = a → EV (d + 1) 176 7 [some (.inr 69), some (.inl a), some (.inl b), some (.inl (v3 + 1)), some (.inl (v4 + 1)), some (.inl 0)] [] σ Q))))))))))) : EV (d + 1) 176 7 [some (.inr 69), some (.inl a), some (.inl b), some (.inl v3), some (.inl v4), w5] [] σ Q := EV.blk qb176_7 rfl ⟨fun q14 => EV.blk qb176_18 rfl ((hk.1 q14)), fun q14 => EV.blk qb176_8 rfl ⟨fun q13 => EV.blk qb176_10 rfl (EV.blk qb176_11 rfl ⟨((hk.2 q14).1 q13).1, ⟨fun q6 => EV.blk qb176_13 rfl ⟨(((hk.2 q14).1 q13).2.1 q6).1, ⟨fun q2 => EV.blk qb176_16 rfl (EV.blk qb176_17 rfl (((((hk.2 q14).1 q13).2.1 q6).2.1 q2))), fun q2 => EV.blk qb176_14 rfl ⟨((((hk.2 q14).1 q13).2.1 q6).2.2 q2).1, ⟨fun q1 => EV.blk qb176_16 rfl (EV.blk qb176_17 rfl ((((((hk.2 q14).1 q13).2.1 q6).2.2 q2).2.1 q1))), fun q1 => EV.blk qb176_15 rfl (EV.blk qb176_17 rfl ((((((hk.2 q14).1 q13).2.1 q6).2.2 q2).2.2 q1)))⟩⟩⟩⟩, fun q6 => EV.blk qb176_12 rfl ⟨(((hk.2 q14).1 q13).2.2 q6).1, ⟨fun q5 => EV.blk qb176_15 rfl (EV.blk qb176_17 rfl (((((hk.2 q14).1 q13).2.2 q6).2.1 q5))), fun q5 => EV.blk qb176_13 rfl ⟨((((hk.2 q14).1 q13).2.2 q6).2.2 q5).1, ⟨fun q4 => EV.blk qb176_16 rfl (EV.blk qb176_17 rfl ((((((hk.2 q14).1 q13).2.2 q6).2.2 q5).2.1 q4))), fun q4 => EV.blk qb176_14 rfl ⟨(((((hk.2 q14).1 q13).2.2 q6).2.2 q5).2.2 q4).1, ⟨fun q3 => EV.blk qb176_16 rfl (EV.blk qb176_17 rfl (((((((hk.2 q14).1 q13).2.2 q6).2.2 q5).2.2 q4).2.1 q3))), fun q3 => EV.blk qb176_15 rfl (EV.blk qb176_17 rfl (((((((hk.2 q14).1 q13).2.2 q6).2.2 q5).2.2 q4).2.2 q3)))⟩⟩⟩⟩⟩⟩⟩⟩), fun q13 => EV.blk qb176_9 rfl (EV.blk qb176_11 rfl ⟨((hk.2 q14).2 q13).1, ⟨fun q12 => EV.blk qb176_13 rfl ⟨(((hk.2 q14).2 q13).2.1 q12).1, ⟨fun q8 => EV.blk qb176_16 rfl (EV.blk qb176_17 rfl (((((hk.2 q14).2 q13).2.1 q12).2.1 q8))), fun q8 => EV.blk qb176_14 rfl ⟨((((hk.2 q14).2 q13).2.1 q12).2.2 q8).1, ⟨fun q7 => EV.blk qb176_16 rfl (EV.blk qb176_17 rfl ((((((hk.2 q14).2 q13).2.1 q12).2.2 q8).2.1 q7))), fun q7 => EV.blk qb176_15 rfl (EV.blk qb176_17 rfl ((((((hk.2 q14).2 q13).2.1 q12).2.2 q8).2.2 q7)))⟩⟩⟩⟩, fun q12 => EV.blk qb176_12 rfl ⟨(((hk.2 q14).2 q13).2.2 q12).1, ⟨fun q11 => EV.blk qb176_15 rfl (EV.blk qb176_17 rfl (((((hk.2 q14).2 q13).2.2 q12).2.1 q11))), fun q11 => EV.blk qb176_13 rfl ⟨((((hk.2 q14).2 q13).2.2 q12).2.2 q11).1, ⟨fun q10 => EV.blk qb176_16 rfl (EV.blk qb176_17 rfl ((((((hk.2 q14).2 q13).2.2 q12).2.2 q11).2.1 q10))), fun q10 => EV.blk qb176_14 rfl ⟨(((((hk.2 q14).2 q13).2.2 q12).2.2 q11).2.2 q10).1, ⟨fun q9 => EV.blk qb176_16 rfl (EV.blk qb176_17 rfl (((((((hk.2 q14).2 q13).2.2 q12).2.2 q11).2.2 q10).2.1 q9))), fun q9 => EV.blk qb176_15 rfl (EV.blk qb176_17 rfl (((((((hk.2 q14).2 q13).2.2 q12).2.2 q11).2.2 q10).2.2 q9)))⟩⟩⟩⟩⟩⟩⟩⟩)⟩⟩
theorem pH_hoursIn_0 {d : Nat} {σ : QS} {Q : QQ} {a b o : Int32} (hk : EV d 16 1 [some (.inr 1), some (.inl a), some (.inl b), some (.inl o), some (.inl 0), some (.inl a)] [] σ Q) : EV d 16 0 [some (.inr 1), some (.inl a), some (.inl b), some (.inl o), none, none] [] σ Q := EV.blk qb16_0 rfl hk
theorem pH_hoursIn_1 {d : Nat} {σ : QS} {Q : QQ} {a b o v4 v5 : Int32} (hk : (b ≤ v5 → Q (some v4) σ) ∧ (¬ b ≤ v5 → (vp_in v5 24) ∧ ((¬ (σ 2 v5.toNatClampNeg) = o → EV d 16 1 [some (.inr 1), some (.inl a), some (.inl b), some (.inl o), some (.inl v4), some (.inl (v5 + 1))] [] σ Q) ∧ ((σ 2 v5.toNatClampNeg) = o → EV d 16 1 [some (.inr 1), some (.inl a), some (.inl b), some (.inl o), some (.inl (v4 + 1)), some (.inl (v5 + 1))] [] σ Q)))) : EV d 16 1 [some (.inr 1), some (.inl a), some (.inl b), some (.inl o), some (.inl v4), some (.inl v5)] [] σ Q := EV.blk qb16_1 rfl ⟨fun q2 => EV.blk qb16_5 rfl ((hk.1 q2)), fun q2 => EV.blk qb16_2 rfl ⟨(hk.2 q2).1, ⟨fun q1 => EV.blk qb16_4 rfl (((hk.2 q2).2.1 q1)), fun q1 => EV.blk qb16_3 rfl (EV.blk qb16_4 rfl (((hk.2 q2).2.2 q1)))⟩⟩⟩
theorem pM_hoursIn_0 {d : Nat} {σ : QS} {Q : QQ} {a b o : Int32} (hk : EV d 187 1 [some (.inr 69), some (.inl a), some (.inl b), some (.inl o), some (.inl 0), some (.inl a)] [] σ Q) : EV d 187 0 [some (.inr 69), some (.inl a), some (.inl b), some (.inl o), none, none] [] σ Q := EV.blk qb187_0 rfl hk
theorem pM_hoursIn_1 {d : Nat} {σ : QS} {Q : QQ} {a b o v4 v5 : Int32} (hk : (b ≤ v5 → Q (some v4) σ) ∧ (¬ b ≤ v5 → (vp_in v5 24) ∧ ((¬ (σ 70 v5.toNatClampNeg) = o → EV d 187 1 [some (.inr 69), some (.inl a), some (.inl b), some (.inl o), some (.inl (v4 + 0)), some (.inl (v5 + 1))] [] σ Q) ∧ ((σ 70 v5.toNatClampNeg) = o → EV d 187 1 [some (.inr 69), some (.inl a), some (.inl b), some (.inl o), some (.inl (v4 + 1)), some (.inl (v5 + 1))] [] σ Q)))) : EV d 187 1 [some (.inr 69), some (.inl a), some (.inl b), some (.inl o), some (.inl v4), some (.inl v5)] [] σ Q := EV.blk qb187_1 rfl ⟨fun q2 => EV.blk qb187_6 rfl ((hk.1 q2)), fun q2 => EV.blk qb187_2 rfl ⟨(hk.2 q2).1, ⟨fun q1 => EV.blk qb187_4 rfl (EV.blk qb187_5 rfl (((hk.2 q2).2.1 q1))), fun q1 => EV.blk qb187_3 rfl (EV.blk qb187_5 rfl (((hk.2 q2).2.2 q1)))⟩⟩⟩
end
