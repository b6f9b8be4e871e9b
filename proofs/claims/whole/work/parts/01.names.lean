-- ===== PART A: goes FIRST, ahead of the names: the tables' words, and 'selects' of the private methods out of them =====
/-- a private method of a class that the tables say can be made, by its rows of tables_1 -/
def lw_okq (q : MethodName × Nat) : Prop := (q.1.cls ≠ "java/lang/invoke/MethodHandle" ∧ q.1.cls ≠ "java/lang/invoke/VarHandle") ∧ Cond.instantiable q.1.cls q.2 ∈ tables_1 ∧ Cond.privateMethod q.1 ∈ tables_1 ∧ Cond.instanceMethod q.1 ∈ tables_1
theorem lw_p0 : lw_okq (⟨"NationBooks$Rows", "pick", "(III)V"⟩, 12) := ⟨⟨by decide +kernel, by decide +kernel⟩, List.mem_of_getElem? (i := 23) (by decide +kernel), List.mem_of_getElem? (i := 362) (by decide +kernel), List.mem_of_getElem? (i := 363) (by decide +kernel)⟩
theorem lw_p1 : lw_okq (⟨"NationBooks$Tables", "hear", "(I)V"⟩, 11) := ⟨⟨by decide +kernel, by decide +kernel⟩, List.mem_of_getElem? (i := 82) (by decide +kernel), List.mem_of_getElem? (i := 400) (by decide +kernel), List.mem_of_getElem? (i := 401) (by decide +kernel)⟩
theorem lw_p2 : lw_okq (⟨"NationBooks$Tables", "bend", "(II)V"⟩, 11) := ⟨⟨by decide +kernel, by decide +kernel⟩, List.mem_of_getElem? (i := 82) (by decide +kernel), List.mem_of_getElem? (i := 405) (by decide +kernel), List.mem_of_getElem? (i := 406) (by decide +kernel)⟩
theorem lw_p3 : lw_okq (⟨"NationBooks$Tables", "close", "(III)V"⟩, 11) := ⟨⟨by decide +kernel, by decide +kernel⟩, List.mem_of_getElem? (i := 82) (by decide +kernel), List.mem_of_getElem? (i := 428) (by decide +kernel), List.mem_of_getElem? (i := 429) (by decide +kernel)⟩
theorem lw_p4 : lw_okq (⟨"NationBooks$Tables", "reckonCosts", "(III)V"⟩, 11) := ⟨⟨by decide +kernel, by decide +kernel⟩, List.mem_of_getElem? (i := 82) (by decide +kernel), List.mem_of_getElem? (i := 432) (by decide +kernel), List.mem_of_getElem? (i := 433) (by decide +kernel)⟩
theorem lw_p5 : lw_okq (⟨"NationBooks$Tables", "shareToCheapest", "()V"⟩, 11) := ⟨⟨by decide +kernel, by decide +kernel⟩, List.mem_of_getElem? (i := 82) (by decide +kernel), List.mem_of_getElem? (i := 439) (by decide +kernel), List.mem_of_getElem? (i := 440) (by decide +kernel)⟩
theorem lw_p6 : lw_okq (⟨"NationBooks$Tables", "shareByCost", "()V"⟩, 11) := ⟨⟨by decide +kernel, by decide +kernel⟩, List.mem_of_getElem? (i := 82) (by decide +kernel), List.mem_of_getElem? (i := 443) (by decide +kernel), List.mem_of_getElem? (i := 444) (by decide +kernel)⟩
theorem lw_p7 : lw_okq (⟨"NationBooks$Volumes", "meanPriceOf", "(II)J"⟩, 3) := ⟨⟨by decide +kernel, by decide +kernel⟩, List.mem_of_getElem? (i := 148) (by decide +kernel), List.mem_of_getElem? (i := 573) (by decide +kernel), List.mem_of_getElem? (i := 574) (by decide +kernel)⟩
theorem lw_p8 : lw_okq (⟨"NationBooks$Law", "scanTerm", "(I)I"⟩, 6) := ⟨⟨by decide +kernel, by decide +kernel⟩, List.mem_of_getElem? (i := 205) (by decide +kernel), List.mem_of_getElem? (i := 739) (by decide +kernel), List.mem_of_getElem? (i := 740) (by decide +kernel)⟩
theorem lw_p9 : lw_okq (⟨"NationBooks$Law", "scanNumber", "()I"⟩, 6) := ⟨⟨by decide +kernel, by decide +kernel⟩, List.mem_of_getElem? (i := 205) (by decide +kernel), List.mem_of_getElem? (i := 743) (by decide +kernel), List.mem_of_getElem? (i := 744) (by decide +kernel)⟩
theorem lw_p10 : lw_okq (⟨"NationBooks$Law", "isFigureNext", "()Z"⟩, 6) := ⟨⟨by decide +kernel, by decide +kernel⟩, List.mem_of_getElem? (i := 205) (by decide +kernel), List.mem_of_getElem? (i := 747) (by decide +kernel), List.mem_of_getElem? (i := 748) (by decide +kernel)⟩
theorem lw_p11 : lw_okq (⟨"NationBooks$Law", "scanCell", "(I)I"⟩, 6) := ⟨⟨by decide +kernel, by decide +kernel⟩, List.mem_of_getElem? (i := 205) (by decide +kernel), List.mem_of_getElem? (i := 752) (by decide +kernel), List.mem_of_getElem? (i := 753) (by decide +kernel)⟩
theorem lw_p12 : lw_okq (⟨"NationBooks$Law", "isNext", "(I)Z"⟩, 6) := ⟨⟨by decide +kernel, by decide +kernel⟩, List.mem_of_getElem? (i := 205) (by decide +kernel), List.mem_of_getElem? (i := 756) (by decide +kernel), List.mem_of_getElem? (i := 757) (by decide +kernel)⟩
theorem lw_p13 : lw_okq (⟨"NationBooks$Law", "addTerm", "(II)I"⟩, 6) := ⟨⟨by decide +kernel, by decide +kernel⟩, List.mem_of_getElem? (i := 205) (by decide +kernel), List.mem_of_getElem? (i := 762) (by decide +kernel), List.mem_of_getElem? (i := 763) (by decide +kernel)⟩
theorem lw_p14 : lw_okq (⟨"NationBooks", "found", "(I)I"⟩, 8) := ⟨⟨by decide +kernel, by decide +kernel⟩, List.mem_of_getElem? (i := 15) (by decide +kernel), List.mem_of_getElem? (i := 821) (by decide +kernel), List.mem_of_getElem? (i := 822) (by decide +kernel)⟩
theorem lw_p15 : lw_okq (⟨"NationBooks", "refusalOfItem", "(III)I"⟩, 8) := ⟨⟨by decide +kernel, by decide +kernel⟩, List.mem_of_getElem? (i := 15) (by decide +kernel), List.mem_of_getElem? (i := 838) (by decide +kernel), List.mem_of_getElem? (i := 839) (by decide +kernel)⟩
def lw_privs_1 : List (MethodName × Nat) := [(⟨"NationBooks$Rows", "pick", "(III)V"⟩, 12), (⟨"NationBooks$Tables", "hear", "(I)V"⟩, 11), (⟨"NationBooks$Tables", "bend", "(II)V"⟩, 11), (⟨"NationBooks$Tables", "close", "(III)V"⟩, 11), (⟨"NationBooks$Tables", "reckonCosts", "(III)V"⟩, 11), (⟨"NationBooks$Tables", "shareToCheapest", "()V"⟩, 11), (⟨"NationBooks$Tables", "shareByCost", "()V"⟩, 11), (⟨"NationBooks$Volumes", "meanPriceOf", "(II)J"⟩, 3), (⟨"NationBooks$Law", "scanTerm", "(I)I"⟩, 6), (⟨"NationBooks$Law", "scanNumber", "()I"⟩, 6), (⟨"NationBooks$Law", "isFigureNext", "()Z"⟩, 6), (⟨"NationBooks$Law", "scanCell", "(I)I"⟩, 6), (⟨"NationBooks$Law", "isNext", "(I)Z"⟩, 6), (⟨"NationBooks$Law", "addTerm", "(II)I"⟩, 6), (⟨"NationBooks", "found", "(I)I"⟩, 8), (⟨"NationBooks", "refusalOfItem", "(III)I"⟩, 8)]
theorem lw_r1 : ∀ q ∈ lw_privs_1, lw_okq q := List.forall_mem_cons.mpr ⟨lw_p0, List.forall_mem_cons.mpr ⟨lw_p1, List.forall_mem_cons.mpr ⟨lw_p2, List.forall_mem_cons.mpr ⟨lw_p3, List.forall_mem_cons.mpr ⟨lw_p4, List.forall_mem_cons.mpr ⟨lw_p5, List.forall_mem_cons.mpr ⟨lw_p6, List.forall_mem_cons.mpr ⟨lw_p7, List.forall_mem_cons.mpr ⟨lw_p8, List.forall_mem_cons.mpr ⟨lw_p9, List.forall_mem_cons.mpr ⟨lw_p10, List.forall_mem_cons.mpr ⟨lw_p11, List.forall_mem_cons.mpr ⟨lw_p12, List.forall_mem_cons.mpr ⟨lw_p13, List.forall_mem_cons.mpr ⟨lw_p14, List.forall_mem_cons.mpr ⟨lw_p15, fun _ h => absurd h List.not_mem_nil⟩⟩⟩⟩⟩⟩⟩⟩⟩⟩⟩⟩⟩⟩⟩⟩
theorem lw_p16 : lw_okq (⟨"NationBooks", "bytesOfLaws", "()I"⟩, 8) := ⟨⟨by decide +kernel, by decide +kernel⟩, List.mem_of_getElem? (i := 15) (by decide +kernel), List.mem_of_getElem? (i := 886) (by decide +kernel), List.mem_of_getElem? (i := 887) (by decide +kernel)⟩
theorem lw_p17 : lw_okq (⟨"NationBooksModel", "rowMore", "(IIII)I"⟩, 43) := ⟨⟨by decide +kernel, by decide +kernel⟩, List.mem_of_getElem? (i := 897) (by decide +kernel), List.mem_of_getElem? (i := 1090) (by decide +kernel), List.mem_of_getElem? (i := 1091) (by decide +kernel)⟩
theorem lw_p18 : lw_okq (⟨"NationBooksModel", "looks", "()V"⟩, 43) := ⟨⟨by decide +kernel, by decide +kernel⟩, List.mem_of_getElem? (i := 897) (by decide +kernel), List.mem_of_getElem? (i := 1100) (by decide +kernel), List.mem_of_getElem? (i := 1101) (by decide +kernel)⟩
theorem lw_p19 : lw_okq (⟨"NationBooksModel", "countingRow", "(IIII)I"⟩, 43) := ⟨⟨by decide +kernel, by decide +kernel⟩, List.mem_of_getElem? (i := 897) (by decide +kernel), List.mem_of_getElem? (i := 1104) (by decide +kernel), List.mem_of_getElem? (i := 1105) (by decide +kernel)⟩
theorem lw_p20 : lw_okq (⟨"NationBooksModel", "saidBy", "(III)J"⟩, 43) := ⟨⟨by decide +kernel, by decide +kernel⟩, List.mem_of_getElem? (i := 897) (by decide +kernel), List.mem_of_getElem? (i := 1108) (by decide +kernel), List.mem_of_getElem? (i := 1109) (by decide +kernel)⟩
theorem lw_p21 : lw_okq (⟨"NationBooksModel", "bends", "(IIII)V"⟩, 43) := ⟨⟨by decide +kernel, by decide +kernel⟩, List.mem_of_getElem? (i := 897) (by decide +kernel), List.mem_of_getElem? (i := 1112) (by decide +kernel), List.mem_of_getElem? (i := 1113) (by decide +kernel)⟩
theorem lw_p22 : lw_okq (⟨"NationBooksModel", "parts", "(JI)V"⟩, 43) := ⟨⟨by decide +kernel, by decide +kernel⟩, List.mem_of_getElem? (i := 897) (by decide +kernel), List.mem_of_getElem? (i := 1116) (by decide +kernel), List.mem_of_getElem? (i := 1117) (by decide +kernel)⟩
theorem lw_p23 : lw_okq (⟨"NationBooksModel", "givesRest", "(JI)V"⟩, 43) := ⟨⟨by decide +kernel, by decide +kernel⟩, List.mem_of_getElem? (i := 897) (by decide +kernel), List.mem_of_getElem? (i := 1123) (by decide +kernel), List.mem_of_getElem? (i := 1124) (by decide +kernel)⟩
theorem lw_p24 : lw_okq (⟨"NationBooksModel", "closes", "(III)V"⟩, 43) := ⟨⟨by decide +kernel, by decide +kernel⟩, List.mem_of_getElem? (i := 897) (by decide +kernel), List.mem_of_getElem? (i := 1128) (by decide +kernel), List.mem_of_getElem? (i := 1129) (by decide +kernel)⟩
theorem lw_p25 : lw_okq (⟨"NationBooksModel", "gapOf", "(III)J"⟩, 43) := ⟨⟨by decide +kernel, by decide +kernel⟩, List.mem_of_getElem? (i := 897) (by decide +kernel), List.mem_of_getElem? (i := 1132) (by decide +kernel), List.mem_of_getElem? (i := 1133) (by decide +kernel)⟩
theorem lw_p26 : lw_okq (⟨"NationBooksModel", "costOf", "(IIII)I"⟩, 43) := ⟨⟨by decide +kernel, by decide +kernel⟩, List.mem_of_getElem? (i := 897) (by decide +kernel), List.mem_of_getElem? (i := 1136) (by decide +kernel), List.mem_of_getElem? (i := 1137) (by decide +kernel)⟩
theorem lw_p27 : lw_okq (⟨"NationBooksModel", "totalOf", "(IIII)J"⟩, 43) := ⟨⟨by decide +kernel, by decide +kernel⟩, List.mem_of_getElem? (i := 897) (by decide +kernel), List.mem_of_getElem? (i := 1197) (by decide +kernel), List.mem_of_getElem? (i := 1198) (by decide +kernel)⟩
theorem lw_p28 : lw_okq (⟨"NationBooksModel", "openMany", "()I"⟩, 43) := ⟨⟨by decide +kernel, by decide +kernel⟩, List.mem_of_getElem? (i := 897) (by decide +kernel), List.mem_of_getElem? (i := 1205) (by decide +kernel), List.mem_of_getElem? (i := 1206) (by decide +kernel)⟩
theorem lw_p29 : lw_okq (⟨"NationBooksModel", "brokenOf", "(I)I"⟩, 43) := ⟨⟨by decide +kernel, by decide +kernel⟩, List.mem_of_getElem? (i := 897) (by decide +kernel), List.mem_of_getElem? (i := 1213) (by decide +kernel), List.mem_of_getElem? (i := 1214) (by decide +kernel)⟩
theorem lw_p30 : lw_okq (⟨"NationBooksModel", "volumeOf", "(III)J"⟩, 43) := ⟨⟨by decide +kernel, by decide +kernel⟩, List.mem_of_getElem? (i := 897) (by decide +kernel), List.mem_of_getElem? (i := 1231) (by decide +kernel), List.mem_of_getElem? (i := 1232) (by decide +kernel)⟩
theorem lw_p31 : lw_okq (⟨"NationBooksModel", "atPricesOf", "(IIII)J"⟩, 43) := ⟨⟨by decide +kernel, by decide +kernel⟩, List.mem_of_getElem? (i := 897) (by decide +kernel), List.mem_of_getElem? (i := 1240) (by decide +kernel), List.mem_of_getElem? (i := 1241) (by decide +kernel)⟩
def lw_privs_2 : List (MethodName × Nat) := [(⟨"NationBooks", "bytesOfLaws", "()I"⟩, 8), (⟨"NationBooksModel", "rowMore", "(IIII)I"⟩, 43), (⟨"NationBooksModel", "looks", "()V"⟩, 43), (⟨"NationBooksModel", "countingRow", "(IIII)I"⟩, 43), (⟨"NationBooksModel", "saidBy", "(III)J"⟩, 43), (⟨"NationBooksModel", "bends", "(IIII)V"⟩, 43), (⟨"NationBooksModel", "parts", "(JI)V"⟩, 43), (⟨"NationBooksModel", "givesRest", "(JI)V"⟩, 43), (⟨"NationBooksModel", "closes", "(III)V"⟩, 43), (⟨"NationBooksModel", "gapOf", "(III)J"⟩, 43), (⟨"NationBooksModel", "costOf", "(IIII)I"⟩, 43), (⟨"NationBooksModel", "totalOf", "(IIII)J"⟩, 43), (⟨"NationBooksModel", "openMany", "()I"⟩, 43), (⟨"NationBooksModel", "brokenOf", "(I)I"⟩, 43), (⟨"NationBooksModel", "volumeOf", "(III)J"⟩, 43), (⟨"NationBooksModel", "atPricesOf", "(IIII)J"⟩, 43)]
theorem lw_r2 : ∀ q ∈ lw_privs_2, lw_okq q := List.forall_mem_cons.mpr ⟨lw_p16, List.forall_mem_cons.mpr ⟨lw_p17, List.forall_mem_cons.mpr ⟨lw_p18, List.forall_mem_cons.mpr ⟨lw_p19, List.forall_mem_cons.mpr ⟨lw_p20, List.forall_mem_cons.mpr ⟨lw_p21, List.forall_mem_cons.mpr ⟨lw_p22, List.forall_mem_cons.mpr ⟨lw_p23, List.forall_mem_cons.mpr ⟨lw_p24, List.forall_mem_cons.mpr ⟨lw_p25, List.forall_mem_cons.mpr ⟨lw_p26, List.forall_mem_cons.mpr ⟨lw_p27, List.forall_mem_cons.mpr ⟨lw_p28, List.forall_mem_cons.mpr ⟨lw_p29, List.forall_mem_cons.mpr ⟨lw_p30, List.forall_mem_cons.mpr ⟨lw_p31, fun _ h => absurd h List.not_mem_nil⟩⟩⟩⟩⟩⟩⟩⟩⟩⟩⟩⟩⟩⟩⟩⟩
theorem lw_p32 : lw_okq (⟨"NationBooksModel", "growthOf", "(III)J"⟩, 43) := ⟨⟨by decide +kernel, by decide +kernel⟩, List.mem_of_getElem? (i := 897) (by decide +kernel), List.mem_of_getElem? (i := 1248) (by decide +kernel), List.mem_of_getElem? (i := 1249) (by decide +kernel)⟩
theorem lw_p33 : lw_okq (⟨"NationBooksModel", "lowerOf", "(III)J"⟩, 43) := ⟨⟨by decide +kernel, by decide +kernel⟩, List.mem_of_getElem? (i := 897) (by decide +kernel), List.mem_of_getElem? (i := 1252) (by decide +kernel), List.mem_of_getElem? (i := 1253) (by decide +kernel)⟩
theorem lw_p34 : lw_okq (⟨"NationBooksModel", "chainOf", "(III)J"⟩, 43) := ⟨⟨by decide +kernel, by decide +kernel⟩, List.mem_of_getElem? (i := 897) (by decide +kernel), List.mem_of_getElem? (i := 1264) (by decide +kernel), List.mem_of_getElem? (i := 1265) (by decide +kernel)⟩
theorem lw_p35 : lw_okq (⟨"NationBooksModel", "soldBy", "(III)I"⟩, 43) := ⟨⟨by decide +kernel, by decide +kernel⟩, List.mem_of_getElem? (i := 897) (by decide +kernel), List.mem_of_getElem? (i := 1294) (by decide +kernel), List.mem_of_getElem? (i := 1295) (by decide +kernel)⟩
theorem lw_p36 : lw_okq (⟨"NationBooksModel", "boughtFrom", "(III)I"⟩, 43) := ⟨⟨by decide +kernel, by decide +kernel⟩, List.mem_of_getElem? (i := 897) (by decide +kernel), List.mem_of_getElem? (i := 1298) (by decide +kernel), List.mem_of_getElem? (i := 1299) (by decide +kernel)⟩
theorem lw_p37 : lw_okq (⟨"NationBooksModel", "netOf", "(II)J"⟩, 43) := ⟨⟨by decide +kernel, by decide +kernel⟩, List.mem_of_getElem? (i := 897) (by decide +kernel), List.mem_of_getElem? (i := 1321) (by decide +kernel), List.mem_of_getElem? (i := 1322) (by decide +kernel)⟩
theorem lw_p38 : lw_okq (⟨"NationBooksModel", "dueOf", "(II)J"⟩, 43) := ⟨⟨by decide +kernel, by decide +kernel⟩, List.mem_of_getElem? (i := 897) (by decide +kernel), List.mem_of_getElem? (i := 1338) (by decide +kernel), List.mem_of_getElem? (i := 1339) (by decide +kernel)⟩
theorem lw_p39 : lw_okq (⟨"NationBooksModel", "reads", "(II)J"⟩, 43) := ⟨⟨by decide +kernel, by decide +kernel⟩, List.mem_of_getElem? (i := 897) (by decide +kernel), List.mem_of_getElem? (i := 1362) (by decide +kernel), List.mem_of_getElem? (i := 1363) (by decide +kernel)⟩
theorem lw_p40 : lw_okq (⟨"NationBooksModel", "sum", "()J"⟩, 43) := ⟨⟨by decide +kernel, by decide +kernel⟩, List.mem_of_getElem? (i := 897) (by decide +kernel), List.mem_of_getElem? (i := 1366) (by decide +kernel), List.mem_of_getElem? (i := 1367) (by decide +kernel)⟩
theorem lw_p41 : lw_okq (⟨"NationBooksModel", "term", "()J"⟩, 43) := ⟨⟨by decide +kernel, by decide +kernel⟩, List.mem_of_getElem? (i := 897) (by decide +kernel), List.mem_of_getElem? (i := 1370) (by decide +kernel), List.mem_of_getElem? (i := 1371) (by decide +kernel)⟩
theorem lw_p42 : lw_okq (⟨"NationBooksModel", "byteNow", "()I"⟩, 43) := ⟨⟨by decide +kernel, by decide +kernel⟩, List.mem_of_getElem? (i := 897) (by decide +kernel), List.mem_of_getElem? (i := 1374) (by decide +kernel), List.mem_of_getElem? (i := 1375) (by decide +kernel)⟩
theorem lw_p43 : lw_okq (⟨"NationBooksModel", "cell", "()J"⟩, 43) := ⟨⟨by decide +kernel, by decide +kernel⟩, List.mem_of_getElem? (i := 897) (by decide +kernel), List.mem_of_getElem? (i := 1378) (by decide +kernel), List.mem_of_getElem? (i := 1379) (by decide +kernel)⟩
theorem lw_p44 : lw_okq (⟨"NationBooksModel", "isFigure", "()Z"⟩, 43) := ⟨⟨by decide +kernel, by decide +kernel⟩, List.mem_of_getElem? (i := 897) (by decide +kernel), List.mem_of_getElem? (i := 1382) (by decide +kernel), List.mem_of_getElem? (i := 1383) (by decide +kernel)⟩
theorem lw_p45 : lw_okq (⟨"NationBooksModel", "stepsTo", "(IIII)I"⟩, 43) := ⟨⟨by decide +kernel, by decide +kernel⟩, List.mem_of_getElem? (i := 897) (by decide +kernel), List.mem_of_getElem? (i := 1406) (by decide +kernel), List.mem_of_getElem? (i := 1407) (by decide +kernel)⟩
theorem lw_p46 : lw_okq (⟨"NationBooksModel", "hasRow", "(III)Z"⟩, 43) := ⟨⟨by decide +kernel, by decide +kernel⟩, List.mem_of_getElem? (i := 897) (by decide +kernel), List.mem_of_getElem? (i := 1410) (by decide +kernel), List.mem_of_getElem? (i := 1411) (by decide +kernel)⟩
theorem lw_p47 : lw_okq (⟨"NationBooksModel", "ledBy", "(I)J"⟩, 43) := ⟨⟨by decide +kernel, by decide +kernel⟩, List.mem_of_getElem? (i := 897) (by decide +kernel), List.mem_of_getElem? (i := 1422) (by decide +kernel), List.mem_of_getElem? (i := 1423) (by decide +kernel)⟩
def lw_privs_3 : List (MethodName × Nat) := [(⟨"NationBooksModel", "growthOf", "(III)J"⟩, 43), (⟨"NationBooksModel", "lowerOf", "(III)J"⟩, 43), (⟨"NationBooksModel", "chainOf", "(III)J"⟩, 43), (⟨"NationBooksModel", "soldBy", "(III)I"⟩, 43), (⟨"NationBooksModel", "boughtFrom", "(III)I"⟩, 43), (⟨"NationBooksModel", "netOf", "(II)J"⟩, 43), (⟨"NationBooksModel", "dueOf", "(II)J"⟩, 43), (⟨"NationBooksModel", "reads", "(II)J"⟩, 43), (⟨"NationBooksModel", "sum", "()J"⟩, 43), (⟨"NationBooksModel", "term", "()J"⟩, 43), (⟨"NationBooksModel", "byteNow", "()I"⟩, 43), (⟨"NationBooksModel", "cell", "()J"⟩, 43), (⟨"NationBooksModel", "isFigure", "()Z"⟩, 43), (⟨"NationBooksModel", "stepsTo", "(IIII)I"⟩, 43), (⟨"NationBooksModel", "hasRow", "(III)Z"⟩, 43), (⟨"NationBooksModel", "ledBy", "(I)J"⟩, 43)]
theorem lw_r3 : ∀ q ∈ lw_privs_3, lw_okq q := List.forall_mem_cons.mpr ⟨lw_p32, List.forall_mem_cons.mpr ⟨lw_p33, List.forall_mem_cons.mpr ⟨lw_p34, List.forall_mem_cons.mpr ⟨lw_p35, List.forall_mem_cons.mpr ⟨lw_p36, List.forall_mem_cons.mpr ⟨lw_p37, List.forall_mem_cons.mpr ⟨lw_p38, List.forall_mem_cons.mpr ⟨lw_p39, List.forall_mem_cons.mpr ⟨lw_p40, List.forall_mem_cons.mpr ⟨lw_p41, List.forall_mem_cons.mpr ⟨lw_p42, List.forall_mem_cons.mpr ⟨lw_p43, List.forall_mem_cons.mpr ⟨lw_p44, List.forall_mem_cons.mpr ⟨lw_p45, List.forall_mem_cons.mpr ⟨lw_p46, List.forall_mem_cons.mpr ⟨lw_p47, fun _ h => absurd h List.not_mem_nil⟩⟩⟩⟩⟩⟩⟩⟩⟩⟩⟩⟩⟩⟩⟩⟩
theorem lw_p48 : lw_okq (⟨"NationBooksModel", "meets", "(I)I"⟩, 43) := ⟨⟨by decide +kernel, by decide +kernel⟩, List.mem_of_getElem? (i := 897) (by decide +kernel), List.mem_of_getElem? (i := 1433) (by decide +kernel), List.mem_of_getElem? (i := 1434) (by decide +kernel)⟩
theorem lw_p49 : lw_okq (⟨"NationBooksModel", "lacks", "(III)I"⟩, 43) := ⟨⟨by decide +kernel, by decide +kernel⟩, List.mem_of_getElem? (i := 897) (by decide +kernel), List.mem_of_getElem? (i := 1445) (by decide +kernel), List.mem_of_getElem? (i := 1446) (by decide +kernel)⟩
theorem lw_p50 : lw_okq (⟨"NationBooksModel", "lay", "(IIJ)V"⟩, 43) := ⟨⟨by decide +kernel, by decide +kernel⟩, List.mem_of_getElem? (i := 897) (by decide +kernel), List.mem_of_getElem? (i := 1449) (by decide +kernel), List.mem_of_getElem? (i := 1450) (by decide +kernel)⟩
def lw_privs_4 : List (MethodName × Nat) := [(⟨"NationBooksModel", "meets", "(I)I"⟩, 43), (⟨"NationBooksModel", "lacks", "(III)I"⟩, 43), (⟨"NationBooksModel", "lay", "(IIJ)V"⟩, 43)]
theorem lw_r4 : ∀ q ∈ lw_privs_4, lw_okq q := List.forall_mem_cons.mpr ⟨lw_p48, List.forall_mem_cons.mpr ⟨lw_p49, List.forall_mem_cons.mpr ⟨lw_p50, fun _ h => absurd h List.not_mem_nil⟩⟩⟩
def lw_privs : List (MethodName × Nat) := lw_privs_1 ++ (lw_privs_2 ++ (lw_privs_3 ++ (lw_privs_4)))
def lw_tbl : List Cond := k2_sels lw_privs ++ tables_1
theorem lw_privs_ok : ∀ q ∈ lw_privs, lw_okq q := by
  show ∀ q ∈ lw_privs_1 ++ (lw_privs_2 ++ (lw_privs_3 ++ (lw_privs_4))), lw_okq q
  exact List.forall_mem_append.mpr ⟨lw_r1, List.forall_mem_append.mpr ⟨lw_r2, List.forall_mem_append.mpr ⟨lw_r3, lw_r4⟩⟩⟩
def RX0 : String := "NationBooks$Dealings"
def TX0 : u_T := fun k => match k with
  | 0 => ("NationBooks$Dealings", "told", "[I", true)
  | _ => ("NationBooks$Dealings", "precision", "[I", true)
def tyX0 : Nat → FieldType := fun k => match k with
  | 0 => .array .int
  | _ => .array .int
abbrev wsX00 : List Cond := u_ws RX0 TX0 2
theorem nmX0 : ∀ a, a < 2 → ∀ b, b < 2 → a ≠ b → (TX0 a).2.1 ≠ (TX0 b).2.1 := by decide +kernel
theorem tyX0_ok : ∀ k, k < 2 → parseFieldDescriptor (TX0 k).2.2.1 = some (tyX0 k) := by decide +kernel
abbrev cX0_init : ByteArray := prog_2_method_1_code
def yX0_init : MethodName := ⟨RX0, "<init>", "()V"⟩
abbrev cX0_placeOf : ByteArray := prog_2_method_2_code
def yX0_placeOf : MethodName := ⟨RX0, "placeOf", "(IIII)I"⟩
abbrev cX0_hiddenOf : ByteArray := prog_2_method_3_code
def yX0_hiddenOf : MethodName := ⟨RX0, "hiddenOf", "(III)I"⟩
abbrev cX0_agreedOf : ByteArray := prog_2_method_4_code
def yX0_agreedOf : MethodName := ⟨RX0, "agreedOf", "(III)I"⟩
def RX1 : String := "NationBooks$Law"
def TX1 : u_T := fun k => match k with
  | 0 => ("NationBooks$Law", "text", "[I", true)
  | 1 => ("NationBooks$Law", "length", "I", false)
  | 2 => ("NationBooks$Law", "times", "[I", true)
  | 3 => ("NationBooks$Law", "cell", "[I", true)
  | 4 => ("NationBooks$Law", "terms", "I", false)
  | _ => ("NationBooks$Law", "place", "I", false)
def tyX1 : Nat → FieldType := fun k => match k with
  | 0 => .array .int
  | 1 => .int
  | 2 => .array .int
  | 3 => .array .int
  | 4 => .int
  | _ => .int
abbrev wsX10 : List Cond := u_ws RX1 TX1 6
theorem nmX1 : ∀ a, a < 6 → ∀ b, b < 6 → a ≠ b → (TX1 a).2.1 ≠ (TX1 b).2.1 := by decide +kernel
theorem tyX1_ok : ∀ k, k < 6 → parseFieldDescriptor (TX1 k).2.2.1 = some (tyX1 k) := by decide +kernel
abbrev cX1_init : ByteArray := prog_3_method_1_code
def yX1_init : MethodName := ⟨RX1, "<init>", "()V"⟩
abbrev cX1_append : ByteArray := prog_3_method_2_code
def yX1_append : MethodName := ⟨RX1, "append", "(I)V"⟩
abbrev cX1_scan : ByteArray := prog_3_method_3_code
def yX1_scan : MethodName := ⟨RX1, "scan", "()I"⟩
abbrev cX1_scanTerm : ByteArray := prog_3_method_4_code
def yX1_scanTerm : MethodName := ⟨RX1, "scanTerm", "(I)I"⟩
abbrev cX1_scanNumber : ByteArray := prog_3_method_5_code
def yX1_scanNumber : MethodName := ⟨RX1, "scanNumber", "()I"⟩
abbrev cX1_scanCell : ByteArray := prog_3_method_6_code
def yX1_scanCell : MethodName := ⟨RX1, "scanCell", "(I)I"⟩
abbrev cX1_addTerm : ByteArray := prog_3_method_7_code
def yX1_addTerm : MethodName := ⟨RX1, "addTerm", "(II)I"⟩
abbrev cX1_isNext : ByteArray := prog_3_method_8_code
def yX1_isNext : MethodName := ⟨RX1, "isNext", "(I)Z"⟩
abbrev cX1_isFigureNext : ByteArray := prog_3_method_9_code
def yX1_isFigureNext : MethodName := ⟨RX1, "isFigureNext", "()Z"⟩
abbrev cX1_leftOver : ByteArray := prog_3_method_10_code
def yX1_leftOver : MethodName := ⟨RX1, "leftOver", "([JI)J"⟩
def RX2 : String := "NationBooks$Parts"
def TX2 : u_T := fun k => match k with
  | 0 => ("NationBooks$Parts", "share", "[J", true)
  | 1 => ("NationBooks$Parts", "part", "[J", true)
  | _ => ("NationBooks$Parts", "rest", "[J", true)
def tyX2 : Nat → FieldType := fun k => match k with
  | 0 => .array .long
  | 1 => .array .long
  | _ => .array .long
abbrev wsX20 : List Cond := u_ws RX2 TX2 3
theorem nmX2 : ∀ a, a < 3 → ∀ b, b < 3 → a ≠ b → (TX2 a).2.1 ≠ (TX2 b).2.1 := by decide +kernel
theorem tyX2_ok : ∀ k, k < 3 → parseFieldDescriptor (TX2 k).2.2.1 = some (tyX2 k) := by decide +kernel
abbrev cX2_init : ByteArray := prog_4_method_1_code
def yX2_init : MethodName := ⟨RX2, "<init>", "()V"⟩
abbrev cX2_deal : ByteArray := prog_4_method_2_code
def yX2_deal : MethodName := ⟨RX2, "deal", "(JI)V"⟩
abbrev cX2_divide : ByteArray := prog_4_method_3_code
def yX2_divide : MethodName := ⟨RX2, "divide", "(IJJ)J"⟩
abbrev cX2_handOut : ByteArray := prog_4_method_4_code
def yX2_handOut : MethodName := ⟨RX2, "handOut", "(JI)V"⟩
def RX3 : String := "NationBooks$Rows"
def TX3 : u_T := fun k => match k with
  | 0 => ("NationBooks$Rows", "trust", "[I", true)
  | 1 => ("NationBooks$Rows", "source", "[I", true)
  | 2 => ("NationBooks$Rows", "code", "[I", true)
  | 3 => ("NationBooks$Rows", "value", "[I", true)
  | 4 => ("NationBooks$Rows", "release", "[I", true)
  | 5 => ("NationBooks$Rows", "latest", "[I", true)
  | 6 => ("NationBooks$Rows", "older", "[I", true)
  | 7 => ("NationBooks$Rows", "picked", "[I", true)
  | 8 => ("NationBooks$Rows", "size", "I", false)
  | 9 => ("NationBooks$Rows", "asOf", "I", false)
  | 10 => ("NationBooks$Rows", "weight", "I", false)
  | _ => ("NationBooks$Rows", "mean", "I", false)
def tyX3 : Nat → FieldType := fun k => match k with
  | 0 => .array .int
  | 1 => .array .int
  | 2 => .array .int
  | 3 => .array .int
  | 4 => .array .int
  | 5 => .array .int
  | 6 => .array .int
  | 7 => .array .int
  | 8 => .int
  | 9 => .int
  | 10 => .int
  | _ => .int
abbrev wsX30 : List Cond := u_ws RX3 TX3 12
theorem nmX3 : ∀ a, a < 12 → ∀ b, b < 12 → a ≠ b → (TX3 a).2.1 ≠ (TX3 b).2.1 := by decide +kernel
theorem tyX3_ok : ∀ k, k < 12 → parseFieldDescriptor (TX3 k).2.2.1 = some (tyX3 k) := by decide +kernel
abbrev cX3_init : ByteArray := prog_5_method_1_code
def yX3_init : MethodName := ⟨RX3, "<init>", "()V"⟩
abbrev cX3_append : ByteArray := prog_5_method_2_code
def yX3_append : MethodName := ⟨RX3, "append", "(IIII)I"⟩
abbrev cX3_pick : ByteArray := prog_5_method_3_code
def yX3_pick : MethodName := ⟨RX3, "pick", "(III)V"⟩
abbrev cX3_tally : ByteArray := prog_5_method_4_code
def yX3_tally : MethodName := ⟨RX3, "tally", "(III)V"⟩
abbrev cX3_meanWith : ByteArray := prog_5_method_5_code
def yX3_meanWith : MethodName := ⟨RX3, "meanWith", "(III)J"⟩
abbrev cX3_isCounted : ByteArray := prog_5_method_6_code
def yX3_isCounted : MethodName := ⟨RX3, "isCounted", "(I)Z"⟩
abbrev cX3_countedRows : ByteArray := prog_5_method_7_code
def yX3_countedRows : MethodName := ⟨RX3, "countedRows", "()I"⟩
abbrev cX3_hasRow : ByteArray := prog_5_method_8_code
def yX3_hasRow : MethodName := ⟨RX3, "hasRow", "(III)Z"⟩
abbrev cX3_findStep : ByteArray := prog_5_method_9_code
def yX3_findStep : MethodName := ⟨RX3, "findStep", "(IIII)I"⟩
def RX4 : String := "NationBooks$Sectors"
def TX4 : u_T := fun k => match k with
  | 0 => ("NationBooks$Sectors", "flow", "[J", true)
  | 1 => ("NationBooks$Sectors", "stock", "[I", true)
  | _ => ("NationBooks$Sectors", "isTold", "[Z", true)
def tyX4 : Nat → FieldType := fun k => match k with
  | 0 => .array .long
  | 1 => .array .int
  | _ => .array .boolean
abbrev wsX40 : List Cond := u_ws RX4 TX4 3
theorem nmX4 : ∀ a, a < 3 → ∀ b, b < 3 → a ≠ b → (TX4 a).2.1 ≠ (TX4 b).2.1 := by decide +kernel
theorem tyX4_ok : ∀ k, k < 3 → parseFieldDescriptor (TX4 k).2.2.1 = some (tyX4 k) := by decide +kernel
abbrev cX4_init : ByteArray := prog_6_method_1_code
def yX4_init : MethodName := ⟨RX4, "<init>", "()V"⟩
abbrev cX4_placeOf : ByteArray := prog_6_method_2_code
def yX4_placeOf : MethodName := ⟨RX4, "placeOf", "(III)I"⟩
abbrev cX4_addFlow : ByteArray := prog_6_method_3_code
def yX4_addFlow : MethodName := ⟨RX4, "addFlow", "(IIII)J"⟩
abbrev cX4_netOf : ByteArray := prog_6_method_4_code
def yX4_netOf : MethodName := ⟨RX4, "netOf", "(II)J"⟩
abbrev cX4_dueOf : ByteArray := prog_6_method_5_code
def yX4_dueOf : MethodName := ⟨RX4, "dueOf", "(II)J"⟩
def RX5 : String := "NationBooks$Sheet"
def TX5 : u_T := fun k => match k with
  | 0 => ("NationBooks$Sheet", "items", "[I", true)
  | 1 => ("NationBooks$Sheet", "form", "I", false)
  | 2 => ("NationBooks$Sheet", "size", "I", false)
  | _ => ("NationBooks$Sheet", "isLost", "Z", false)
def tyX5 : Nat → FieldType := fun k => match k with
  | 0 => .array .int
  | 1 => .int
  | 2 => .int
  | _ => .boolean
abbrev wsX50 : List Cond := u_ws RX5 TX5 4
theorem nmX5 : ∀ a, a < 4 → ∀ b, b < 4 → a ≠ b → (TX5 a).2.1 ≠ (TX5 b).2.1 := by decide +kernel
theorem tyX5_ok : ∀ k, k < 4 → parseFieldDescriptor (TX5 k).2.2.1 = some (tyX5 k) := by decide +kernel
abbrev cX5_init : ByteArray := prog_7_method_1_code
def yX5_init : MethodName := ⟨RX5, "<init>", "()V"⟩
abbrev cX5_renew : ByteArray := prog_7_method_2_code
def yX5_renew : MethodName := ⟨RX5, "renew", "(II)V"⟩
abbrev cX5_store : ByteArray := prog_7_method_3_code
def yX5_store : MethodName := ⟨RX5, "store", "(II)V"⟩
abbrev cX5_holds : ByteArray := prog_7_method_4_code
def yX5_holds : MethodName := ⟨RX5, "holds", "(II)Z"⟩
def RX6 : String := "NationBooks$Tables"
def TX6 : u_T := fun k => match k with
  | 0 => ("NationBooks$Tables", "rows", "LNationBooks$Rows;", true)
  | 1 => ("NationBooks$Tables", "parts", "LNationBooks$Parts;", true)
  | 2 => ("NationBooks$Tables", "supply", "[Z", true)
  | 3 => ("NationBooks$Tables", "fixed", "[Z", true)
  | 4 => ("NationBooks$Tables", "isSettled", "[Z", true)
  | 5 => ("NationBooks$Tables", "said", "[I", true)
  | 6 => ("NationBooks$Tables", "weight", "[I", true)
  | 7 => ("NationBooks$Tables", "cost", "[I", true)
  | 8 => ("NationBooks$Tables", "bent", "[J", true)
  | 9 => ("NationBooks$Tables", "closed", "[J", true)
  | _ => ("NationBooks$Tables", "rule", "I", false)
def tyX6 : Nat → FieldType := fun k => match k with
  | 0 => .object "NationBooks$Rows"
  | 1 => .object "NationBooks$Parts"
  | 2 => .array .boolean
  | 3 => .array .boolean
  | 4 => .array .boolean
  | 5 => .array .int
  | 6 => .array .int
  | 7 => .array .int
  | 8 => .array .long
  | 9 => .array .long
  | _ => .int
abbrev wsX60 : List Cond := u_ws RX6 TX6 11
theorem nmX6 : ∀ a, a < 11 → ∀ b, b < 11 → a ≠ b → (TX6 a).2.1 ≠ (TX6 b).2.1 := by decide +kernel
theorem tyX6_ok : ∀ k, k < 11 → parseFieldDescriptor (TX6 k).2.2.1 = some (tyX6 k) := by decide +kernel
abbrev cX6_init : ByteArray := prog_8_method_1_code
def yX6_init : MethodName := ⟨RX6, "<init>", "(LNationBooks$Rows;)V"⟩
abbrev cX6_blockOf : ByteArray := prog_8_method_2_code
def yX6_blockOf : MethodName := ⟨RX6, "blockOf", "(III)I"⟩
abbrev cX6_forget : ByteArray := prog_8_method_3_code
def yX6_forget : MethodName := ⟨RX6, "forget", "(III)V"⟩
abbrev cX6_forgetAll : ByteArray := prog_8_method_4_code
def yX6_forgetAll : MethodName := ⟨RX6, "forgetAll", "()V"⟩
abbrev cX6_settleAll : ByteArray := prog_8_method_5_code
def yX6_settleAll : MethodName := ⟨RX6, "settleAll", "()V"⟩
abbrev cX6_settle : ByteArray := prog_8_method_6_code
def yX6_settle : MethodName := ⟨RX6, "settle", "(III)V"⟩
abbrev cX6_hear : ByteArray := prog_8_method_7_code
def yX6_hear : MethodName := ⟨RX6, "hear", "(I)V"⟩
abbrev cX6_bend : ByteArray := prog_8_method_8_code
def yX6_bend : MethodName := ⟨RX6, "bend", "(II)V"⟩
abbrev cX6_close : ByteArray := prog_8_method_9_code
def yX6_close : MethodName := ⟨RX6, "close", "(III)V"⟩
abbrev cX6_reckonCosts : ByteArray := prog_8_method_10_code
def yX6_reckonCosts : MethodName := ⟨RX6, "reckonCosts", "(III)V"⟩
abbrev cX6_shareToCheapest : ByteArray := prog_8_method_11_code
def yX6_shareToCheapest : MethodName := ⟨RX6, "shareToCheapest", "()V"⟩
abbrev cX6_shareByCost : ByteArray := prog_8_method_12_code
def yX6_shareByCost : MethodName := ⟨RX6, "shareByCost", "()V"⟩
abbrev cX6_gapOf : ByteArray := prog_8_method_13_code
def yX6_gapOf : MethodName := ⟨RX6, "gapOf", "(III)J"⟩
abbrev cX6_isOpen : ByteArray := prog_8_method_14_code
def yX6_isOpen : MethodName := ⟨RX6, "isOpen", "(III)Z"⟩
abbrev cX6_movesOf : ByteArray := prog_8_method_15_code
def yX6_movesOf : MethodName := ⟨RX6, "movesOf", "(III)J"⟩
abbrev cX6_sumOf : ByteArray := prog_8_method_16_code
def yX6_sumOf : MethodName := ⟨RX6, "sumOf", "(IIII)J"⟩
abbrev cX6_firstCellOf : ByteArray := prog_8_method_17_code
def yX6_firstCellOf : MethodName := ⟨RX6, "firstCellOf", "(I)I"⟩
abbrev cX6_isAllSaid : ByteArray := prog_8_method_18_code
def yX6_isAllSaid : MethodName := ⟨RX6, "isAllSaid", "(I)Z"⟩
abbrev cX6_shapeOf : ByteArray := prog_8_method_19_code
def yX6_shapeOf : MethodName := ⟨RX6, "shapeOf", "(I)J"⟩
abbrev cX6_isBroken : ByteArray := prog_8_method_20_code
def yX6_isBroken : MethodName := ⟨RX6, "isBroken", "(I)Z"⟩
abbrev cX6_howManyOpen : ByteArray := prog_8_method_21_code
def yX6_howManyOpen : MethodName := ⟨RX6, "howManyOpen", "()I"⟩
abbrev cX6_howManyBroken : ByteArray := prog_8_method_22_code
def yX6_howManyBroken : MethodName := ⟨RX6, "howManyBroken", "()I"⟩
abbrev cX6_findBroken : ByteArray := prog_8_method_23_code
def yX6_findBroken : MethodName := ⟨RX6, "findBroken", "(I)I"⟩
def RX7 : String := "NationBooks$Volumes"
def TX7 : u_T := fun k => match k with
  | 0 => ("NationBooks$Volumes", "tables", "LNationBooks$Tables;", true)
  | 1 => ("NationBooks$Volumes", "price", "[I", true)
  | _ => ("NationBooks$Volumes", "parts", "LNationBooks$Parts;", true)
def tyX7 : Nat → FieldType := fun k => match k with
  | 0 => .object "NationBooks$Tables"
  | 1 => .array .int
  | _ => .object "NationBooks$Parts"
abbrev wsX70 : List Cond := u_ws RX7 TX7 3
theorem nmX7 : ∀ a, a < 3 → ∀ b, b < 3 → a ≠ b → (TX7 a).2.1 ≠ (TX7 b).2.1 := by decide +kernel
theorem tyX7_ok : ∀ k, k < 3 → parseFieldDescriptor (TX7 k).2.2.1 = some (tyX7 k) := by decide +kernel
abbrev cX7_init : ByteArray := prog_9_method_1_code
def yX7_init : MethodName := ⟨RX7, "<init>", "(LNationBooks$Tables;)V"⟩
abbrev cX7_volumeOf : ByteArray := prog_9_method_2_code
def yX7_volumeOf : MethodName := ⟨RX7, "volumeOf", "(III)J"⟩
abbrev cX7_meanPriceOf : ByteArray := prog_9_method_3_code
def yX7_meanPriceOf : MethodName := ⟨RX7, "meanPriceOf", "(II)J"⟩
abbrev cX7_valueOf : ByteArray := prog_9_method_4_code
def yX7_valueOf : MethodName := ⟨RX7, "valueOf", "(IIII)J"⟩
abbrev cX7_priceYearOf : ByteArray := prog_9_method_5_code
def yX7_priceYearOf : MethodName := ⟨RX7, "priceYearOf", "(I)I"⟩
abbrev cX7_ratio : ByteArray := prog_9_method_6_code
def yX7_ratio : MethodName := ⟨RX7, "ratio", "(JJ)J"⟩
abbrev cX7_growthOf : ByteArray := prog_9_method_7_code
def yX7_growthOf : MethodName := ⟨RX7, "growthOf", "(III)J"⟩
abbrev cX7_hasGrowth : ByteArray := prog_9_method_8_code
def yX7_hasGrowth : MethodName := ⟨RX7, "hasGrowth", "(II)Z"⟩
abbrev cX7_chainOf : ByteArray := prog_9_method_9_code
def yX7_chainOf : MethodName := ⟨RX7, "chainOf", "(III)J"⟩
abbrev cX7_cut : ByteArray := prog_9_method_10_code
def yX7_cut : MethodName := ⟨RX7, "cut", "(JJ)J"⟩
abbrev cX7_partOf : ByteArray := prog_9_method_11_code
def yX7_partOf : MethodName := ⟨RX7, "partOf", "(III)J"⟩
abbrev cX7_apartOf : ByteArray := prog_9_method_12_code
def yX7_apartOf : MethodName := ⟨RX7, "apartOf", "(II)J"⟩
abbrev cX7_chained : ByteArray := prog_9_method_13_code
def yX7_chained : MethodName := ⟨RX7, "chained", "(JJ)J"⟩
def RX8 : String := "NationBooks"
def TX8 : u_T := fun k => match k with
  | 0 => ("NationBooks", "rows", "LNationBooks$Rows;", true)
  | 1 => ("NationBooks", "tables", "LNationBooks$Tables;", true)
  | 2 => ("NationBooks", "volumes", "LNationBooks$Volumes;", true)
  | 3 => ("NationBooks", "dealings", "LNationBooks$Dealings;", true)
  | 4 => ("NationBooks", "sectors", "LNationBooks$Sectors;", true)
  | 5 => ("NationBooks", "laws", "[LNationBooks$Law;", true)
  | 6 => ("NationBooks", "sheets", "[LNationBooks$Sheet;", true)
  | _ => ("NationBooks", "latestFinding", "I", false)
def tyX8 : Nat → FieldType := fun k => match k with
  | 0 => .object "NationBooks$Rows"
  | 1 => .object "NationBooks$Tables"
  | 2 => .object "NationBooks$Volumes"
  | 3 => .object "NationBooks$Dealings"
  | 4 => .object "NationBooks$Sectors"
  | 5 => .array (.object "NationBooks$Law")
  | 6 => .array (.object "NationBooks$Sheet")
  | _ => .int
abbrev wsX80 : List Cond := u_ws RX8 TX8 8
theorem nmX8 : ∀ a, a < 8 → ∀ b, b < 8 → a ≠ b → (TX8 a).2.1 ≠ (TX8 b).2.1 := by decide +kernel
theorem tyX8_ok : ∀ k, k < 8 → parseFieldDescriptor (TX8 k).2.2.1 = some (tyX8 k) := by decide +kernel
abbrev cX8_init : ByteArray := prog_1_method_1_code
def yX8_init : MethodName := ⟨RX8, "<init>", "()V"⟩
abbrev cX8_trust : ByteArray := prog_1_method_2_code
def yX8_trust : MethodName := ⟨RX8, "trust", "(II)I"⟩
abbrev cX8_code : ByteArray := prog_1_method_3_code
def yX8_code : MethodName := ⟨RX8, "code", "(IIII)I"⟩
abbrev cX8_annual : ByteArray := prog_1_method_4_code
def yX8_annual : MethodName := ⟨RX8, "annual", "(IIII)I"⟩
abbrev cX8_decode : ByteArray := prog_1_method_5_code
def yX8_decode : MethodName := ⟨RX8, "decode", "(II)I"⟩
abbrev cX8_row : ByteArray := prog_1_method_6_code
def yX8_row : MethodName := ⟨RX8, "row", "(IIII)I"⟩
abbrev cX8_rowIs : ByteArray := prog_1_method_7_code
def yX8_rowIs : MethodName := ⟨RX8, "rowIs", "(II)I"⟩
abbrev cX8_asOf : ByteArray := prog_1_method_8_code
def yX8_asOf : MethodName := ⟨RX8, "asOf", "(I)I"⟩
abbrev cX8_column : ByteArray := prog_1_method_9_code
def yX8_column : MethodName := ⟨RX8, "column", "(II)I"⟩
abbrev cX8_said : ByteArray := prog_1_method_10_code
def yX8_said : MethodName := ⟨RX8, "said", "(I)J"⟩
abbrev cX8_weight : ByteArray := prog_1_method_11_code
def yX8_weight : MethodName := ⟨RX8, "weight", "(I)I"⟩
abbrev cX8_bent : ByteArray := prog_1_method_12_code
def yX8_bent : MethodName := ⟨RX8, "bent", "(I)J"⟩
abbrev cX8_shape : ByteArray := prog_1_method_13_code
def yX8_shape : MethodName := ⟨RX8, "shape", "(I)J"⟩
abbrev cX8_fix : ByteArray := prog_1_method_14_code
def yX8_fix : MethodName := ⟨RX8, "fix", "(IIIZ)I"⟩
abbrev cX8_rule : ByteArray := prog_1_method_15_code
def yX8_rule : MethodName := ⟨RX8, "rule", "(I)I"⟩
abbrev cX8_gap : ByteArray := prog_1_method_16_code
def yX8_gap : MethodName := ⟨RX8, "gap", "(III)J"⟩
abbrev cX8_closed : ByteArray := prog_1_method_17_code
def yX8_closed : MethodName := ⟨RX8, "closed", "(I)J"⟩
abbrev cX8_moved : ByteArray := prog_1_method_18_code
def yX8_moved : MethodName := ⟨RX8, "moved", "(III)J"⟩
abbrev cX8_total : ByteArray := prog_1_method_19_code
def yX8_total : MethodName := ⟨RX8, "total", "(IIII)J"⟩
abbrev cX8_open : ByteArray := prog_1_method_20_code
def yX8_open : MethodName := ⟨RX8, "open", "()I"⟩
abbrev cX8_broken : ByteArray := prog_1_method_21_code
def yX8_broken : MethodName := ⟨RX8, "broken", "()I"⟩
abbrev cX8_breaks : ByteArray := prog_1_method_22_code
def yX8_breaks : MethodName := ⟨RX8, "breaks", "(I)I"⟩
abbrev cX8_price : ByteArray := prog_1_method_23_code
def yX8_price : MethodName := ⟨RX8, "price", "(III)I"⟩
abbrev cX8_volume : ByteArray := prog_1_method_24_code
def yX8_volume : MethodName := ⟨RX8, "volume", "(III)J"⟩
abbrev cX8_atPrices : ByteArray := prog_1_method_25_code
def yX8_atPrices : MethodName := ⟨RX8, "atPrices", "(IIII)J"⟩
abbrev cX8_growth : ByteArray := prog_1_method_26_code
def yX8_growth : MethodName := ⟨RX8, "growth", "(III)J"⟩
abbrev cX8_chain : ByteArray := prog_1_method_27_code
def yX8_chain : MethodName := ⟨RX8, "chain", "(III)J"⟩
abbrev cX8_part : ByteArray := prog_1_method_28_code
def yX8_part : MethodName := ⟨RX8, "part", "(III)J"⟩
abbrev cX8_apart : ByteArray := prog_1_method_29_code
def yX8_apart : MethodName := ⟨RX8, "apart", "(II)J"⟩
abbrev cX8_trade : ByteArray := prog_1_method_30_code
def yX8_trade : MethodName := ⟨RX8, "trade", "(IIIII)I"⟩
abbrev cX8_precise : ByteArray := prog_1_method_31_code
def yX8_precise : MethodName := ⟨RX8, "precise", "(II)I"⟩
abbrev cX8_hidden : ByteArray := prog_1_method_32_code
def yX8_hidden : MethodName := ⟨RX8, "hidden", "(III)I"⟩
abbrev cX8_agreed : ByteArray := prog_1_method_33_code
def yX8_agreed : MethodName := ⟨RX8, "agreed", "(III)I"⟩
abbrev cX8_flow : ByteArray := prog_1_method_34_code
def yX8_flow : MethodName := ⟨RX8, "flow", "(IIII)J"⟩
abbrev cX8_net : ByteArray := prog_1_method_35_code
def yX8_net : MethodName := ⟨RX8, "net", "(II)J"⟩
abbrev cX8_stock : ByteArray := prog_1_method_36_code
def yX8_stock : MethodName := ⟨RX8, "stock", "(III)I"⟩
abbrev cX8_unstock : ByteArray := prog_1_method_37_code
def yX8_unstock : MethodName := ⟨RX8, "unstock", "(II)I"⟩
abbrev cX8_due : ByteArray := prog_1_method_38_code
def yX8_due : MethodName := ⟨RX8, "due", "(II)J"⟩
abbrev cX8_off : ByteArray := prog_1_method_39_code
def yX8_off : MethodName := ⟨RX8, "off", "(II)J"⟩
abbrev cX8_type : ByteArray := prog_1_method_40_code
def yX8_type : MethodName := ⟨RX8, "type", "(II)I"⟩
abbrev cX8_repeal : ByteArray := prog_1_method_41_code
def yX8_repeal : MethodName := ⟨RX8, "repeal", "(I)I"⟩
abbrev cX8_fault : ByteArray := prog_1_method_42_code
def yX8_fault : MethodName := ⟨RX8, "fault", "(I)I"⟩
abbrev cX8_left : ByteArray := prog_1_method_43_code
def yX8_left : MethodName := ⟨RX8, "left", "(II)J"⟩
abbrev cX8_unkept : ByteArray := prog_1_method_44_code
def yX8_unkept : MethodName := ⟨RX8, "unkept", "(I)I"⟩
abbrev cX8_revision : ByteArray := prog_1_method_45_code
def yX8_revision : MethodName := ⟨RX8, "revision", "(III)J"⟩
abbrev cX8_steps : ByteArray := prog_1_method_46_code
def yX8_steps : MethodName := ⟨RX8, "steps", "(III)I"⟩
abbrev cX8_step : ByteArray := prog_1_method_47_code
def yX8_step : MethodName := ⟨RX8, "step", "(IIIII)J"⟩
abbrev cX8_led : ByteArray := prog_1_method_48_code
def yX8_led : MethodName := ⟨RX8, "led", "(IZ)J"⟩
abbrev cX8_sheet : ByteArray := prog_1_method_49_code
def yX8_sheet : MethodName := ⟨RX8, "sheet", "(III)I"⟩
abbrev cX8_lose : ByteArray := prog_1_method_50_code
def yX8_lose : MethodName := ⟨RX8, "lose", "(I)I"⟩
abbrev cX8_put : ByteArray := prog_1_method_51_code
def yX8_put : MethodName := ⟨RX8, "put", "(IIII)I"⟩
abbrev cX8_get : ByteArray := prog_1_method_52_code
def yX8_get : MethodName := ⟨RX8, "get", "(III)I"⟩
abbrev cX8_copy : ByteArray := prog_1_method_53_code
def yX8_copy : MethodName := ⟨RX8, "copy", "(IIIII)I"⟩
abbrev cX8_read : ByteArray := prog_1_method_54_code
def yX8_read : MethodName := ⟨RX8, "read", "(I)I"⟩
abbrev cX8_write : ByteArray := prog_1_method_55_code
def yX8_write : MethodName := ⟨RX8, "write", "(IIII)I"⟩
abbrev cX8_count : ByteArray := prog_1_method_56_code
def yX8_count : MethodName := ⟨RX8, "count", "(I)I"⟩
abbrev cX8_digest : ByteArray := prog_1_method_57_code
def yX8_digest : MethodName := ⟨RX8, "digest", "()J"⟩
abbrev cX8_refused : ByteArray := prog_1_method_58_code
def yX8_refused : MethodName := ⟨RX8, "refused", "(I)J"⟩
abbrev cX8_found : ByteArray := prog_1_method_59_code
def yX8_found : MethodName := ⟨RX8, "found", "(I)I"⟩
abbrev cX8_refusalOfItem : ByteArray := prog_1_method_60_code
def yX8_refusalOfItem : MethodName := ⟨RX8, "refusalOfItem", "(III)I"⟩
abbrev cX8_within : ByteArray := prog_1_method_61_code
def yX8_within : MethodName := ⟨RX8, "within", "(III)Z"⟩
abbrev cX8_below : ByteArray := prog_1_method_62_code
def yX8_below : MethodName := ⟨RX8, "below", "(II)Z"⟩
abbrev cX8_isGrade : ByteArray := prog_1_method_63_code
def yX8_isGrade : MethodName := ⟨RX8, "isGrade", "(I)Z"⟩
abbrev cX8_isLine : ByteArray := prog_1_method_64_code
def yX8_isLine : MethodName := ⟨RX8, "isLine", "(III)Z"⟩
abbrev cX8_isBalance : ByteArray := prog_1_method_65_code
def yX8_isBalance : MethodName := ⟨RX8, "isBalance", "(III)Z"⟩
abbrev cX8_isSeries : ByteArray := prog_1_method_66_code
def yX8_isSeries : MethodName := ⟨RX8, "isSeries", "(II)Z"⟩
abbrev cX8_isAccount : ByteArray := prog_1_method_67_code
def yX8_isAccount : MethodName := ⟨RX8, "isAccount", "(II)Z"⟩
abbrev cX8_isRevision : ByteArray := prog_1_method_68_code
def yX8_isRevision : MethodName := ⟨RX8, "isRevision", "(III)Z"⟩
abbrev cX8_lineOf : ByteArray := prog_1_method_69_code
def yX8_lineOf : MethodName := ⟨RX8, "lineOf", "(III)I"⟩
abbrev cX8_cellCode : ByteArray := prog_1_method_70_code
def yX8_cellCode : MethodName := ⟨RX8, "cellCode", "(IIII)I"⟩
abbrev cX8_annualCode : ByteArray := prog_1_method_71_code
def yX8_annualCode : MethodName := ⟨RX8, "annualCode", "(IIII)I"⟩
abbrev cX8_isAnnual : ByteArray := prog_1_method_72_code
def yX8_isAnnual : MethodName := ⟨RX8, "isAnnual", "(I)Z"⟩
abbrev cX8_lineOfCode : ByteArray := prog_1_method_73_code
def yX8_lineOfCode : MethodName := ⟨RX8, "lineOfCode", "(I)I"⟩
abbrev cX8_landOf : ByteArray := prog_1_method_74_code
def yX8_landOf : MethodName := ⟨RX8, "landOf", "(I)I"⟩
abbrev cX8_productOf : ByteArray := prog_1_method_75_code
def yX8_productOf : MethodName := ⟨RX8, "productOf", "(I)I"⟩
abbrev cX8_columnOf : ByteArray := prog_1_method_76_code
def yX8_columnOf : MethodName := ⟨RX8, "columnOf", "(I)I"⟩
abbrev cX8_periodOf : ByteArray := prog_1_method_77_code
def yX8_periodOf : MethodName := ⟨RX8, "periodOf", "(I)I"⟩
abbrev cX8_yearOf : ByteArray := prog_1_method_78_code
def yX8_yearOf : MethodName := ⟨RX8, "yearOf", "(I)I"⟩
abbrev cX8_isOneBlock : ByteArray := prog_1_method_79_code
def yX8_isOneBlock : MethodName := ⟨RX8, "isOneBlock", "(II)Z"⟩
abbrev cX8_firstStep : ByteArray := prog_1_method_80_code
def yX8_firstStep : MethodName := ⟨RX8, "firstStep", "(I)I"⟩
abbrev cX8_howManyTrue : ByteArray := prog_1_method_81_code
def yX8_howManyTrue : MethodName := ⟨RX8, "howManyTrue", "([Z)I"⟩
abbrev cX8_bytesOfLaws : ByteArray := prog_1_method_82_code
def yX8_bytesOfLaws : MethodName := ⟨RX8, "bytesOfLaws", "()I"⟩
def RX9 : String := "NationBooksModel"
def TX9 : u_T := fun k => match k with
  | 0 => ("NationBooksModel", "trusts", "[I", true)
  | 1 => ("NationBooksModel", "rows", "I", false)
  | 2 => ("NationBooksModel", "rowSource", "[I", true)
  | 3 => ("NationBooksModel", "rowCode", "[I", true)
  | 4 => ("NationBooksModel", "rowValue", "[I", true)
  | 5 => ("NationBooksModel", "rowRelease", "[I", true)
  | 6 => ("NationBooksModel", "release", "I", false)
  | 7 => ("NationBooksModel", "isFresh", "Z", false)
  | 8 => ("NationBooksModel", "counting", "[Z", true)
  | 9 => ("NationBooksModel", "saids", "[J", true)
  | 10 => ("NationBooksModel", "weights", "[I", true)
  | 11 => ("NationBooksModel", "trusted", "I", false)
  | 12 => ("NationBooksModel", "supplies", "[I", true)
  | 13 => ("NationBooksModel", "shares", "[J", true)
  | 14 => ("NationBooksModel", "parts", "[J", true)
  | 15 => ("NationBooksModel", "rests", "[J", true)
  | 16 => ("NationBooksModel", "bents", "[J", true)
  | 17 => ("NationBooksModel", "isFixed", "[Z", true)
  | 18 => ("NationBooksModel", "ruling", "I", false)
  | 19 => ("NationBooksModel", "closeds", "[J", true)
  | 20 => ("NationBooksModel", "moveds", "[J", true)
  | 21 => ("NationBooksModel", "isOpen", "[Z", true)
  | 22 => ("NationBooksModel", "brokenMany", "I", false)
  | 23 => ("NationBooksModel", "prices", "[I", true)
  | 24 => ("NationBooksModel", "trades", "[I", true)
  | 25 => ("NationBooksModel", "precisions", "[I", true)
  | 26 => ("NationBooksModel", "flows", "[J", true)
  | 27 => ("NationBooksModel", "isTold", "[Z", true)
  | 28 => ("NationBooksModel", "stocks", "[I", true)
  | 29 => ("NationBooksModel", "typed", "[I", true)
  | 30 => ("NationBooksModel", "text", "[I", true)
  | 31 => ("NationBooksModel", "lawNow", "I", false)
  | 32 => ("NationBooksModel", "at", "I", false)
  | 33 => ("NationBooksModel", "fault", "I", false)
  | 34 => ("NationBooksModel", "quarterNow", "I", false)
  | 35 => ("NationBooksModel", "stepSource", "I", false)
  | 36 => ("NationBooksModel", "stepRelease", "I", false)
  | 37 => ("NationBooksModel", "isThere", "[Z", true)
  | 38 => ("NationBooksModel", "forms", "[I", true)
  | 39 => ("NationBooksModel", "sizes", "[I", true)
  | 40 => ("NationBooksModel", "items", "[I", true)
  | 41 => ("NationBooksModel", "moved", "[I", true)
  | _ => ("NationBooksModel", "finding", "I", false)
def tyX9 : Nat → FieldType := fun k => match k with
  | 0 => .array .int
  | 1 => .int
  | 2 => .array .int
  | 3 => .array .int
  | 4 => .array .int
  | 5 => .array .int
  | 6 => .int
  | 7 => .boolean
  | 8 => .array .boolean
  | 9 => .array .long
  | 10 => .array .int
  | 11 => .int
  | 12 => .array .int
  | 13 => .array .long
  | 14 => .array .long
  | 15 => .array .long
  | 16 => .array .long
  | 17 => .array .boolean
  | 18 => .int
  | 19 => .array .long
  | 20 => .array .long
  | 21 => .array .boolean
  | 22 => .int
  | 23 => .array .int
  | 24 => .array .int
  | 25 => .array .int
  | 26 => .array .long
  | 27 => .array .boolean
  | 28 => .array .int
  | 29 => .array .int
  | 30 => .array .int
  | 31 => .int
  | 32 => .int
  | 33 => .int
  | 34 => .int
  | 35 => .int
  | 36 => .int
  | 37 => .array .boolean
  | 38 => .array .int
  | 39 => .array .int
  | 40 => .array .int
  | 41 => .array .int
  | _ => .int
abbrev wsX90 : List Cond := u_ws RX9 TX9 43
theorem nmX9 : ∀ a, a < 43 → ∀ b, b < 43 → a ≠ b → (TX9 a).2.1 ≠ (TX9 b).2.1 := by decide +kernel
theorem tyX9_ok : ∀ k, k < 43 → parseFieldDescriptor (TX9 k).2.2.1 = some (tyX9 k) := by decide +kernel
abbrev cX9_init : ByteArray := prog_11_method_1_code
def yX9_init : MethodName := ⟨RX9, "<init>", "()V"⟩
abbrev cX9_in : ByteArray := prog_11_method_3_code
def yX9_in : MethodName := ⟨RX9, "in", "(JJJ)Z"⟩
abbrev cX9_floor : ByteArray := prog_11_method_4_code
def yX9_floor : MethodName := ⟨RX9, "floor", "(JJ)J"⟩
abbrev cX9_areThere : ByteArray := prog_11_method_5_code
def yX9_areThere : MethodName := ⟨RX9, "areThere", "(III)Z"⟩
abbrev cX9_cellOf : ByteArray := prog_11_method_6_code
def yX9_cellOf : MethodName := ⟨RX9, "cellOf", "(IIII)I"⟩
abbrev cX9_annualOf : ByteArray := prog_11_method_7_code
def yX9_annualOf : MethodName := ⟨RX9, "annualOf", "(IIII)I"⟩
abbrev cX9_isCell : ByteArray := prog_11_method_8_code
def yX9_isCell : MethodName := ⟨RX9, "isCell", "(I)Z"⟩
abbrev cX9_isCode : ByteArray := prog_11_method_9_code
def yX9_isCode : MethodName := ⟨RX9, "isCode", "(I)Z"⟩
abbrev cX9_landOf : ByteArray := prog_11_method_10_code
def yX9_landOf : MethodName := ⟨RX9, "landOf", "(I)I"⟩
abbrev cX9_productOf : ByteArray := prog_11_method_11_code
def yX9_productOf : MethodName := ⟨RX9, "productOf", "(I)I"⟩
abbrev cX9_columnOf : ByteArray := prog_11_method_12_code
def yX9_columnOf : MethodName := ⟨RX9, "columnOf", "(I)I"⟩
abbrev cX9_timeOf : ByteArray := prog_11_method_13_code
def yX9_timeOf : MethodName := ⟨RX9, "timeOf", "(I)I"⟩
abbrev cX9_code : ByteArray := prog_11_method_14_code
def yX9_code : MethodName := ⟨RX9, "code", "(IIII)I"⟩
abbrev cX9_annual : ByteArray := prog_11_method_15_code
def yX9_annual : MethodName := ⟨RX9, "annual", "(IIII)I"⟩
abbrev cX9_decode : ByteArray := prog_11_method_16_code
def yX9_decode : MethodName := ⟨RX9, "decode", "(II)I"⟩
abbrev cX9_trust : ByteArray := prog_11_method_17_code
def yX9_trust : MethodName := ⟨RX9, "trust", "(II)I"⟩
abbrev cX9_rowMore : ByteArray := prog_11_method_18_code
def yX9_rowMore : MethodName := ⟨RX9, "rowMore", "(IIII)I"⟩
abbrev cX9_row : ByteArray := prog_11_method_19_code
def yX9_row : MethodName := ⟨RX9, "row", "(IIII)I"⟩
abbrev cX9_countingRow : ByteArray := prog_11_method_20_code
def yX9_countingRow : MethodName := ⟨RX9, "countingRow", "(IIII)I"⟩
abbrev cX9_saidBy : ByteArray := prog_11_method_21_code
def yX9_saidBy : MethodName := ⟨RX9, "saidBy", "(III)J"⟩
abbrev cX9_looks : ByteArray := prog_11_method_22_code
def yX9_looks : MethodName := ⟨RX9, "looks", "()V"⟩
abbrev cX9_rowIs : ByteArray := prog_11_method_23_code
def yX9_rowIs : MethodName := ⟨RX9, "rowIs", "(II)I"⟩
abbrev cX9_asOf : ByteArray := prog_11_method_24_code
def yX9_asOf : MethodName := ⟨RX9, "asOf", "(I)I"⟩
abbrev cX9_column : ByteArray := prog_11_method_25_code
def yX9_column : MethodName := ⟨RX9, "column", "(II)I"⟩
abbrev cX9_said : ByteArray := prog_11_method_26_code
def yX9_said : MethodName := ⟨RX9, "said", "(I)J"⟩
abbrev cX9_weight : ByteArray := prog_11_method_27_code
def yX9_weight : MethodName := ⟨RX9, "weight", "(I)I"⟩
abbrev cX9_parts : ByteArray := prog_11_method_28_code
def yX9_parts : MethodName := ⟨RX9, "parts", "(JI)V"⟩
abbrev cX9_givesRest : ByteArray := prog_11_method_29_code
def yX9_givesRest : MethodName := ⟨RX9, "givesRest", "(JI)V"⟩
abbrev cX9_bends : ByteArray := prog_11_method_30_code
def yX9_bends : MethodName := ⟨RX9, "bends", "(IIII)V"⟩
abbrev cX9_bent : ByteArray := prog_11_method_31_code
def yX9_bent : MethodName := ⟨RX9, "bent", "(I)J"⟩
abbrev cX9_amount : ByteArray := prog_11_method_32_code
def yX9_amount : MethodName := ⟨RX9, "amount", "(J)J"⟩
abbrev cX9_shape : ByteArray := prog_11_method_33_code
def yX9_shape : MethodName := ⟨RX9, "shape", "(I)J"⟩
abbrev cX9_fix : ByteArray := prog_11_method_34_code
def yX9_fix : MethodName := ⟨RX9, "fix", "(IIIZ)I"⟩
abbrev cX9_rule : ByteArray := prog_11_method_35_code
def yX9_rule : MethodName := ⟨RX9, "rule", "(I)I"⟩
abbrev cX9_gapOf : ByteArray := prog_11_method_36_code
def yX9_gapOf : MethodName := ⟨RX9, "gapOf", "(III)J"⟩
abbrev cX9_costOf : ByteArray := prog_11_method_37_code
def yX9_costOf : MethodName := ⟨RX9, "costOf", "(IIII)I"⟩
abbrev cX9_closes : ByteArray := prog_11_method_38_code
def yX9_closes : MethodName := ⟨RX9, "closes", "(III)V"⟩
abbrev cX9_isPlace : ByteArray := prog_11_method_39_code
def yX9_isPlace : MethodName := ⟨RX9, "isPlace", "(III)Z"⟩
abbrev cX9_gap : ByteArray := prog_11_method_40_code
def yX9_gap : MethodName := ⟨RX9, "gap", "(III)J"⟩
abbrev cX9_closed : ByteArray := prog_11_method_41_code
def yX9_closed : MethodName := ⟨RX9, "closed", "(I)J"⟩
abbrev cX9_moved : ByteArray := prog_11_method_42_code
def yX9_moved : MethodName := ⟨RX9, "moved", "(III)J"⟩
abbrev cX9_totalOf : ByteArray := prog_11_method_43_code
def yX9_totalOf : MethodName := ⟨RX9, "totalOf", "(IIII)J"⟩
abbrev cX9_total : ByteArray := prog_11_method_44_code
def yX9_total : MethodName := ⟨RX9, "total", "(IIII)J"⟩
abbrev cX9_openMany : ByteArray := prog_11_method_45_code
def yX9_openMany : MethodName := ⟨RX9, "openMany", "()I"⟩
abbrev cX9_open : ByteArray := prog_11_method_46_code
def yX9_open : MethodName := ⟨RX9, "open", "()I"⟩
abbrev cX9_brokenOf : ByteArray := prog_11_method_47_code
def yX9_brokenOf : MethodName := ⟨RX9, "brokenOf", "(I)I"⟩
abbrev cX9_broken : ByteArray := prog_11_method_48_code
def yX9_broken : MethodName := ⟨RX9, "broken", "()I"⟩
abbrev cX9_breaks : ByteArray := prog_11_method_49_code
def yX9_breaks : MethodName := ⟨RX9, "breaks", "(I)I"⟩
abbrev cX9_price : ByteArray := prog_11_method_50_code
def yX9_price : MethodName := ⟨RX9, "price", "(III)I"⟩
abbrev cX9_volumeOf : ByteArray := prog_11_method_51_code
def yX9_volumeOf : MethodName := ⟨RX9, "volumeOf", "(III)J"⟩
abbrev cX9_volume : ByteArray := prog_11_method_52_code
def yX9_volume : MethodName := ⟨RX9, "volume", "(III)J"⟩
abbrev cX9_atPricesOf : ByteArray := prog_11_method_53_code
def yX9_atPricesOf : MethodName := ⟨RX9, "atPricesOf", "(IIII)J"⟩
abbrev cX9_atPrices : ByteArray := prog_11_method_54_code
def yX9_atPrices : MethodName := ⟨RX9, "atPrices", "(IIII)J"⟩
abbrev cX9_yearFor : ByteArray := prog_11_method_55_code
def yX9_yearFor : MethodName := ⟨RX9, "yearFor", "(I)I"⟩
abbrev cX9_lowerOf : ByteArray := prog_11_method_56_code
def yX9_lowerOf : MethodName := ⟨RX9, "lowerOf", "(III)J"⟩
abbrev cX9_growthOf : ByteArray := prog_11_method_57_code
def yX9_growthOf : MethodName := ⟨RX9, "growthOf", "(III)J"⟩
abbrev cX9_growth : ByteArray := prog_11_method_58_code
def yX9_growth : MethodName := ⟨RX9, "growth", "(III)J"⟩
abbrev cX9_cut : ByteArray := prog_11_method_59_code
def yX9_cut : MethodName := ⟨RX9, "cut", "(JJ)J"⟩
abbrev cX9_chainOf : ByteArray := prog_11_method_60_code
def yX9_chainOf : MethodName := ⟨RX9, "chainOf", "(III)J"⟩
abbrev cX9_chain : ByteArray := prog_11_method_61_code
def yX9_chain : MethodName := ⟨RX9, "chain", "(III)J"⟩
abbrev cX9_part : ByteArray := prog_11_method_62_code
def yX9_part : MethodName := ⟨RX9, "part", "(III)J"⟩
abbrev cX9_apart : ByteArray := prog_11_method_63_code
def yX9_apart : MethodName := ⟨RX9, "apart", "(II)J"⟩
abbrev cX9_trade : ByteArray := prog_11_method_64_code
def yX9_trade : MethodName := ⟨RX9, "trade", "(IIIII)I"⟩
abbrev cX9_precise : ByteArray := prog_11_method_65_code
def yX9_precise : MethodName := ⟨RX9, "precise", "(II)I"⟩
abbrev cX9_soldBy : ByteArray := prog_11_method_66_code
def yX9_soldBy : MethodName := ⟨RX9, "soldBy", "(III)I"⟩
abbrev cX9_boughtFrom : ByteArray := prog_11_method_67_code
def yX9_boughtFrom : MethodName := ⟨RX9, "boughtFrom", "(III)I"⟩
abbrev cX9_hidden : ByteArray := prog_11_method_68_code
def yX9_hidden : MethodName := ⟨RX9, "hidden", "(III)I"⟩
abbrev cX9_agreed : ByteArray := prog_11_method_69_code
def yX9_agreed : MethodName := ⟨RX9, "agreed", "(III)I"⟩
abbrev cX9_isSector : ByteArray := prog_11_method_70_code
def yX9_isSector : MethodName := ⟨RX9, "isSector", "(I)Z"⟩
abbrev cX9_isQuarter : ByteArray := prog_11_method_71_code
def yX9_isQuarter : MethodName := ⟨RX9, "isQuarter", "(I)Z"⟩
abbrev cX9_flow : ByteArray := prog_11_method_72_code
def yX9_flow : MethodName := ⟨RX9, "flow", "(IIII)J"⟩
abbrev cX9_netOf : ByteArray := prog_11_method_73_code
def yX9_netOf : MethodName := ⟨RX9, "netOf", "(II)J"⟩
abbrev cX9_net : ByteArray := prog_11_method_74_code
def yX9_net : MethodName := ⟨RX9, "net", "(II)J"⟩
abbrev cX9_stock : ByteArray := prog_11_method_75_code
def yX9_stock : MethodName := ⟨RX9, "stock", "(III)I"⟩
abbrev cX9_unstock : ByteArray := prog_11_method_76_code
def yX9_unstock : MethodName := ⟨RX9, "unstock", "(II)I"⟩
abbrev cX9_dueOf : ByteArray := prog_11_method_77_code
def yX9_dueOf : MethodName := ⟨RX9, "dueOf", "(II)J"⟩
abbrev cX9_due : ByteArray := prog_11_method_78_code
def yX9_due : MethodName := ⟨RX9, "due", "(II)J"⟩
abbrev cX9_off : ByteArray := prog_11_method_79_code
def yX9_off : MethodName := ⟨RX9, "off", "(II)J"⟩
abbrev cX9_isLaw : ByteArray := prog_11_method_80_code
def yX9_isLaw : MethodName := ⟨RX9, "isLaw", "(I)Z"⟩
abbrev cX9_type : ByteArray := prog_11_method_81_code
def yX9_type : MethodName := ⟨RX9, "type", "(II)I"⟩
abbrev cX9_repeal : ByteArray := prog_11_method_82_code
def yX9_repeal : MethodName := ⟨RX9, "repeal", "(I)I"⟩
abbrev cX9_byteNow : ByteArray := prog_11_method_83_code
def yX9_byteNow : MethodName := ⟨RX9, "byteNow", "()I"⟩
abbrev cX9_isFigure : ByteArray := prog_11_method_84_code
def yX9_isFigure : MethodName := ⟨RX9, "isFigure", "()Z"⟩
abbrev cX9_cell : ByteArray := prog_11_method_85_code
def yX9_cell : MethodName := ⟨RX9, "cell", "()J"⟩
abbrev cX9_term : ByteArray := prog_11_method_86_code
def yX9_term : MethodName := ⟨RX9, "term", "()J"⟩
abbrev cX9_sum : ByteArray := prog_11_method_87_code
def yX9_sum : MethodName := ⟨RX9, "sum", "()J"⟩
abbrev cX9_reads : ByteArray := prog_11_method_88_code
def yX9_reads : MethodName := ⟨RX9, "reads", "(II)J"⟩
abbrev cX9_fault : ByteArray := prog_11_method_89_code
def yX9_fault : MethodName := ⟨RX9, "fault", "(I)I"⟩
abbrev cX9_left : ByteArray := prog_11_method_90_code
def yX9_left : MethodName := ⟨RX9, "left", "(II)J"⟩
abbrev cX9_unkept : ByteArray := prog_11_method_91_code
def yX9_unkept : MethodName := ⟨RX9, "unkept", "(I)I"⟩
abbrev cX9_areReleases : ByteArray := prog_11_method_92_code
def yX9_areReleases : MethodName := ⟨RX9, "areReleases", "(III)Z"⟩
abbrev cX9_revision : ByteArray := prog_11_method_93_code
def yX9_revision : MethodName := ⟨RX9, "revision", "(III)J"⟩
abbrev cX9_hasRow : ByteArray := prog_11_method_94_code
def yX9_hasRow : MethodName := ⟨RX9, "hasRow", "(III)Z"⟩
abbrev cX9_stepsTo : ByteArray := prog_11_method_95_code
def yX9_stepsTo : MethodName := ⟨RX9, "stepsTo", "(IIII)I"⟩
abbrev cX9_steps : ByteArray := prog_11_method_96_code
def yX9_steps : MethodName := ⟨RX9, "steps", "(III)I"⟩
abbrev cX9_step : ByteArray := prog_11_method_97_code
def yX9_step : MethodName := ⟨RX9, "step", "(IIIII)J"⟩
abbrev cX9_ledBy : ByteArray := prog_11_method_98_code
def yX9_ledBy : MethodName := ⟨RX9, "ledBy", "(I)J"⟩
abbrev cX9_led : ByteArray := prog_11_method_99_code
def yX9_led : MethodName := ⟨RX9, "led", "(IZ)J"⟩
abbrev cX9_meets : ByteArray := prog_11_method_100_code
def yX9_meets : MethodName := ⟨RX9, "meets", "(I)I"⟩
abbrev cX9_isSheet : ByteArray := prog_11_method_101_code
def yX9_isSheet : MethodName := ⟨RX9, "isSheet", "(I)Z"⟩
abbrev cX9_sheet : ByteArray := prog_11_method_102_code
def yX9_sheet : MethodName := ⟨RX9, "sheet", "(III)I"⟩
abbrev cX9_lose : ByteArray := prog_11_method_103_code
def yX9_lose : MethodName := ⟨RX9, "lose", "(I)I"⟩
abbrev cX9_lacks : ByteArray := prog_11_method_104_code
def yX9_lacks : MethodName := ⟨RX9, "lacks", "(III)I"⟩
abbrev cX9_lay : ByteArray := prog_11_method_105_code
def yX9_lay : MethodName := ⟨RX9, "lay", "(IIJ)V"⟩
abbrev cX9_put : ByteArray := prog_11_method_106_code
def yX9_put : MethodName := ⟨RX9, "put", "(IIII)I"⟩
abbrev cX9_get : ByteArray := prog_11_method_107_code
def yX9_get : MethodName := ⟨RX9, "get", "(III)I"⟩
abbrev cX9_copy : ByteArray := prog_11_method_108_code
def yX9_copy : MethodName := ⟨RX9, "copy", "(IIIII)I"⟩
abbrev cX9_read : ByteArray := prog_11_method_109_code
def yX9_read : MethodName := ⟨RX9, "read", "(I)I"⟩
abbrev cX9_write : ByteArray := prog_11_method_110_code
def yX9_write : MethodName := ⟨RX9, "write", "(IIII)I"⟩
abbrev cX9_count : ByteArray := prog_11_method_111_code
def yX9_count : MethodName := ⟨RX9, "count", "(I)I"⟩
abbrev cX9_digest : ByteArray := prog_11_method_112_code
def yX9_digest : MethodName := ⟨RX9, "digest", "()J"⟩
def RJ9 : String := "java/lang/Math"
def TJ9 : u_T := fun k => match k with
  | _ => ("", "", "", false)
def tyJ9 : Nat → FieldType := fun k => match k with
  | _ => .int
abbrev wsJ90 : List Cond := u_ws RJ9 TJ9 0
theorem nmJ9 : ∀ a, a < 0 → ∀ b, b < 0 → a ≠ b → (TJ9 a).2.1 ≠ (TJ9 b).2.1 := by decide +kernel
theorem tyJ9_ok : ∀ k, k < 0 → parseFieldDescriptor (TJ9 k).2.2.1 = some (tyJ9 k) := by decide +kernel
abbrev cJ9_floorDiv_f86c9 : ByteArray := prog_12_method_49_code
def yJ9_floorDiv_f86c9 : MethodName := ⟨RJ9, "floorDiv", "(JJ)J"⟩
abbrev cJ9_floorMod_f86c9 : ByteArray := prog_12_method_52_code
def yJ9_floorMod_f86c9 : MethodName := ⟨RJ9, "floorMod", "(JJ)J"⟩
abbrev cJ9_abs_067f4 : ByteArray := prog_12_method_61_code
def yJ9_abs_067f4 : MethodName := ⟨RJ9, "abs", "(J)J"⟩
abbrev cJ9_max_7cf53 : ByteArray := prog_12_method_65_code
def yJ9_max_7cf53 : MethodName := ⟨RJ9, "max", "(II)I"⟩
abbrev cJ9_max_f86c9 : ByteArray := prog_12_method_66_code
def yJ9_max_f86c9 : MethodName := ⟨RJ9, "max", "(JJ)J"⟩
abbrev cJ9_min_7cf53 : ByteArray := prog_12_method_69_code
def yJ9_min_7cf53 : MethodName := ⟨RJ9, "min", "(II)I"⟩
abbrev cJ9_min_f86c9 : ByteArray := prog_12_method_70_code
def yJ9_min_f86c9 : MethodName := ⟨RJ9, "min", "(JJ)J"⟩
def RJ10 : String := "java/lang/System"
def TJ10 : u_T := fun k => match k with
  | _ => ("", "", "", false)
def tyJ10 : Nat → FieldType := fun k => match k with
  | _ => .int
abbrev wsJ100 : List Cond := u_ws RJ10 TJ10 0
theorem nmJ10 : ∀ a, a < 0 → ∀ b, b < 0 → a ≠ b → (TJ10 a).2.1 ≠ (TJ10 b).2.1 := by decide +kernel
theorem tyJ10_ok : ∀ k, k < 0 → parseFieldDescriptor (TJ10 k).2.2.1 = some (tyJ10 k) := by decide +kernel
def RJ7 : String := "java/util/Arrays"
def TJ7 : u_T := fun k => match k with
  | _ => ("", "", "", false)
def tyJ7 : Nat → FieldType := fun k => match k with
  | _ => .int
abbrev wsJ70 : List Cond := u_ws RJ7 TJ7 0
theorem nmJ7 : ∀ a, a < 0 → ∀ b, b < 0 → a ≠ b → (TJ7 a).2.1 ≠ (TJ7 b).2.1 := by decide +kernel
theorem tyJ7_ok : ∀ k, k < 0 → parseFieldDescriptor (TJ7 k).2.2.1 = some (tyJ7 k) := by decide +kernel
abbrev cJ7_fill_53178 : ByteArray := prog_14_method_103_code
def yJ7_fill_53178 : MethodName := ⟨RJ7, "fill", "([II)V"⟩
def RL : String := "NationBooksLaw"
abbrev cL_law : ByteArray := code
def yL_law : MethodName := ⟨RL, "law", "([I)Z"⟩
abbrev vwCl : List vw_C := [(RX0, TX0, 2), (RX1, TX1, 6), (RX2, TX2, 3), (RX3, TX3, 12), (RX4, TX4, 3), (RX5, TX5, 4), (RX6, TX6, 11), (RX7, TX7, 3), (RX8, TX8, 8), (RX9, TX9, 43)]
