-- ===== PART A: goes FIRST, ahead of the names: the tables' words, and 'selects' of the private methods out of them =====
/-- a private method of a class that the tables say can be made, by its rows of tables_1 -/
def lw_okq (q : MethodName × Nat) : Prop := (q.1.cls ≠ "java/lang/invoke/MethodHandle" ∧ q.1.cls ≠ "java/lang/invoke/VarHandle") ∧ Cond.instantiable q.1.cls q.2 ∈ tables_1 ∧ Cond.privateMethod q.1 ∈ tables_1 ∧ Cond.instanceMethod q.1 ∈ tables_1
theorem lw_p0 : lw_okq (⟨"java/lang/Throwable", "fillInStackTrace", "(I)Ljava/lang/Throwable;"⟩, 6) := ⟨⟨by decide +kernel, by decide +kernel⟩, List.mem_of_getElem? (i := 400) (by decide +kernel), List.mem_of_getElem? (i := 398) (by decide +kernel), List.mem_of_getElem? (i := 399) (by decide +kernel)⟩
theorem lw_p1 : lw_okq (⟨"MuseumCases$Reader", "readToken", "()V"⟩, 10) := ⟨⟨by decide +kernel, by decide +kernel⟩, List.mem_of_getElem? (i := 32) (by decide +kernel), List.mem_of_getElem? (i := 473) (by decide +kernel), List.mem_of_getElem? (i := 474) (by decide +kernel)⟩
theorem lw_p2 : lw_okq (⟨"MuseumCases$Reader", "readValue", "()V"⟩, 10) := ⟨⟨by decide +kernel, by decide +kernel⟩, List.mem_of_getElem? (i := 32) (by decide +kernel), List.mem_of_getElem? (i := 483) (by decide +kernel), List.mem_of_getElem? (i := 484) (by decide +kernel)⟩
theorem lw_p3 : lw_okq (⟨"MuseumCases$Reader", "readMuseum", "(LMuseumCases$Setup;)V"⟩, 10) := ⟨⟨by decide +kernel, by decide +kernel⟩, List.mem_of_getElem? (i := 32) (by decide +kernel), List.mem_of_getElem? (i := 487) (by decide +kernel), List.mem_of_getElem? (i := 488) (by decide +kernel)⟩
theorem lw_p4 : lw_okq (⟨"MuseumCases$Reader", "takeWord", "(Ljava/lang/String;)V"⟩, 10) := ⟨⟨by decide +kernel, by decide +kernel⟩, List.mem_of_getElem? (i := 32) (by decide +kernel), List.mem_of_getElem? (i := 492) (by decide +kernel), List.mem_of_getElem? (i := 493) (by decide +kernel)⟩
theorem lw_p5 : lw_okq (⟨"MuseumCases$Reader", "at", "(Ljava/lang/String;)Z"⟩, 10) := ⟨⟨by decide +kernel, by decide +kernel⟩, List.mem_of_getElem? (i := 32) (by decide +kernel), List.mem_of_getElem? (i := 496) (by decide +kernel), List.mem_of_getElem? (i := 497) (by decide +kernel)⟩
theorem lw_p6 : lw_okq (⟨"MuseumCases$Reader", "fail", "(I)V"⟩, 10) := ⟨⟨by decide +kernel, by decide +kernel⟩, List.mem_of_getElem? (i := 32) (by decide +kernel), List.mem_of_getElem? (i := 548) (by decide +kernel), List.mem_of_getElem? (i := 549) (by decide +kernel)⟩
theorem lw_p7 : lw_okq (⟨"MuseumCases$Reader", "takeNumber", "(II)I"⟩, 10) := ⟨⟨by decide +kernel, by decide +kernel⟩, List.mem_of_getElem? (i := 32) (by decide +kernel), List.mem_of_getElem? (i := 568) (by decide +kernel), List.mem_of_getElem? (i := 569) (by decide +kernel)⟩
theorem lw_p8 : lw_okq (⟨"MuseumCases$Reader", "takeSemicolon", "()V"⟩, 10) := ⟨⟨by decide +kernel, by decide +kernel⟩, List.mem_of_getElem? (i := 32) (by decide +kernel), List.mem_of_getElem? (i := 572) (by decide +kernel), List.mem_of_getElem? (i := 573) (by decide +kernel)⟩
theorem lw_p9 : lw_okq (⟨"MuseumCases$Reader", "readSeason", "(LMuseumCases$Setup;)V"⟩, 10) := ⟨⟨by decide +kernel, by decide +kernel⟩, List.mem_of_getElem? (i := 32) (by decide +kernel), List.mem_of_getElem? (i := 577) (by decide +kernel), List.mem_of_getElem? (i := 578) (by decide +kernel)⟩
theorem lw_p10 : lw_okq (⟨"MuseumCases$Reader", "refuse", "(Ljava/lang/String;)V"⟩, 10) := ⟨⟨by decide +kernel, by decide +kernel⟩, List.mem_of_getElem? (i := 32) (by decide +kernel), List.mem_of_getElem? (i := 589) (by decide +kernel), List.mem_of_getElem? (i := 590) (by decide +kernel)⟩
theorem lw_p11 : lw_okq (⟨"MuseumCases$Reader", "readVisitors", "(LMuseumCases$Setup;)V"⟩, 10) := ⟨⟨by decide +kernel, by decide +kernel⟩, List.mem_of_getElem? (i := 32) (by decide +kernel), List.mem_of_getElem? (i := 594) (by decide +kernel), List.mem_of_getElem? (i := 595) (by decide +kernel)⟩
theorem lw_p12 : lw_okq (⟨"MuseumCases$Reader", "readKind", "(LMuseumCases$Setup;I)V"⟩, 10) := ⟨⟨by decide +kernel, by decide +kernel⟩, List.mem_of_getElem? (i := 32) (by decide +kernel), List.mem_of_getElem? (i := 603) (by decide +kernel), List.mem_of_getElem? (i := 604) (by decide +kernel)⟩
theorem lw_p13 : lw_okq (⟨"MuseumCases$Reader", "takeNewName", "([JI)J"⟩, 10) := ⟨⟨by decide +kernel, by decide +kernel⟩, List.mem_of_getElem? (i := 32) (by decide +kernel), List.mem_of_getElem? (i := 607) (by decide +kernel), List.mem_of_getElem? (i := 608) (by decide +kernel)⟩
theorem lw_p14 : lw_okq (⟨"MuseumCases$Reader", "nameHere", "()J"⟩, 10) := ⟨⟨by decide +kernel, by decide +kernel⟩, List.mem_of_getElem? (i := 32) (by decide +kernel), List.mem_of_getElem? (i := 611) (by decide +kernel), List.mem_of_getElem? (i := 612) (by decide +kernel)⟩
theorem lw_p15 : lw_okq (⟨"MuseumCases$Reader", "readPoint", "(LMuseumCases$Kind;)V"⟩, 10) := ⟨⟨by decide +kernel, by decide +kernel⟩, List.mem_of_getElem? (i := 32) (by decide +kernel), List.mem_of_getElem? (i := 624) (by decide +kernel), List.mem_of_getElem? (i := 625) (by decide +kernel)⟩
def lw_privs_1 : List (MethodName × Nat) := [(⟨"java/lang/Throwable", "fillInStackTrace", "(I)Ljava/lang/Throwable;"⟩, 6), (⟨"MuseumCases$Reader", "readToken", "()V"⟩, 10), (⟨"MuseumCases$Reader", "readValue", "()V"⟩, 10), (⟨"MuseumCases$Reader", "readMuseum", "(LMuseumCases$Setup;)V"⟩, 10), (⟨"MuseumCases$Reader", "takeWord", "(Ljava/lang/String;)V"⟩, 10), (⟨"MuseumCases$Reader", "at", "(Ljava/lang/String;)Z"⟩, 10), (⟨"MuseumCases$Reader", "fail", "(I)V"⟩, 10), (⟨"MuseumCases$Reader", "takeNumber", "(II)I"⟩, 10), (⟨"MuseumCases$Reader", "takeSemicolon", "()V"⟩, 10), (⟨"MuseumCases$Reader", "readSeason", "(LMuseumCases$Setup;)V"⟩, 10), (⟨"MuseumCases$Reader", "refuse", "(Ljava/lang/String;)V"⟩, 10), (⟨"MuseumCases$Reader", "readVisitors", "(LMuseumCases$Setup;)V"⟩, 10), (⟨"MuseumCases$Reader", "readKind", "(LMuseumCases$Setup;I)V"⟩, 10), (⟨"MuseumCases$Reader", "takeNewName", "([JI)J"⟩, 10), (⟨"MuseumCases$Reader", "nameHere", "()J"⟩, 10), (⟨"MuseumCases$Reader", "readPoint", "(LMuseumCases$Kind;)V"⟩, 10)]
theorem lw_r1 : ∀ q ∈ lw_privs_1, lw_okq q := List.forall_mem_cons.mpr ⟨lw_p0, List.forall_mem_cons.mpr ⟨lw_p1, List.forall_mem_cons.mpr ⟨lw_p2, List.forall_mem_cons.mpr ⟨lw_p3, List.forall_mem_cons.mpr ⟨lw_p4, List.forall_mem_cons.mpr ⟨lw_p5, List.forall_mem_cons.mpr ⟨lw_p6, List.forall_mem_cons.mpr ⟨lw_p7, List.forall_mem_cons.mpr ⟨lw_p8, List.forall_mem_cons.mpr ⟨lw_p9, List.forall_mem_cons.mpr ⟨lw_p10, List.forall_mem_cons.mpr ⟨lw_p11, List.forall_mem_cons.mpr ⟨lw_p12, List.forall_mem_cons.mpr ⟨lw_p13, List.forall_mem_cons.mpr ⟨lw_p14, List.forall_mem_cons.mpr ⟨lw_p15, fun _ h => absurd h List.not_mem_nil⟩⟩⟩⟩⟩⟩⟩⟩⟩⟩⟩⟩⟩⟩⟩⟩
theorem lw_p16 : lw_okq (⟨"MuseumCases$Reader", "readCase", "(LMuseumCases$Setup;I)V"⟩, 10) := ⟨⟨by decide +kernel, by decide +kernel⟩, List.mem_of_getElem? (i := 32) (by decide +kernel), List.mem_of_getElem? (i := 641) (by decide +kernel), List.mem_of_getElem? (i := 642) (by decide +kernel)⟩
theorem lw_p17 : lw_okq (⟨"MuseumCases$Reader", "readCassette", "(LMuseumCases$Setup;)V"⟩, 10) := ⟨⟨by decide +kernel, by decide +kernel⟩, List.mem_of_getElem? (i := 32) (by decide +kernel), List.mem_of_getElem? (i := 659) (by decide +kernel), List.mem_of_getElem? (i := 660) (by decide +kernel)⟩
theorem lw_p18 : lw_okq (⟨"MuseumCases$Reader", "knownName", "([JI)I"⟩, 10) := ⟨⟨by decide +kernel, by decide +kernel⟩, List.mem_of_getElem? (i := 32) (by decide +kernel), List.mem_of_getElem? (i := 663) (by decide +kernel), List.mem_of_getElem? (i := 664) (by decide +kernel)⟩
theorem lw_p19 : lw_okq (⟨"MuseumCases", "kindAt", "(I)LMuseumCases$Kind;"⟩, 9) := ⟨⟨by decide +kernel, by decide +kernel⟩, List.mem_of_getElem? (i := 24) (by decide +kernel), List.mem_of_getElem? (i := 779) (by decide +kernel), List.mem_of_getElem? (i := 780) (by decide +kernel)⟩
theorem lw_p20 : lw_okq (⟨"MuseumCases", "vitrineAt", "(I)LMuseumCases$Vitrine;"⟩, 9) := ⟨⟨by decide +kernel, by decide +kernel⟩, List.mem_of_getElem? (i := 24) (by decide +kernel), List.mem_of_getElem? (i := 801) (by decide +kernel), List.mem_of_getElem? (i := 802) (by decide +kernel)⟩
theorem lw_p21 : lw_okq (⟨"MuseumCases", "logbookAt", "(I)LMuseumCases$Logbook;"⟩, 9) := ⟨⟨by decide +kernel, by decide +kernel⟩, List.mem_of_getElem? (i := 24) (by decide +kernel), List.mem_of_getElem? (i := 806) (by decide +kernel), List.mem_of_getElem? (i := 807) (by decide +kernel)⟩
theorem lw_p22 : lw_okq (⟨"MuseumCases", "requireAnHour", "()V"⟩, 9) := ⟨⟨by decide +kernel, by decide +kernel⟩, List.mem_of_getElem? (i := 24) (by decide +kernel), List.mem_of_getElem? (i := 861) (by decide +kernel), List.mem_of_getElem? (i := 862) (by decide +kernel)⟩
theorem lw_p23 : lw_okq (⟨"MuseumCases", "requireHumidity", "(I)V"⟩, 9) := ⟨⟨by decide +kernel, by decide +kernel⟩, List.mem_of_getElem? (i := 24) (by decide +kernel), List.mem_of_getElem? (i := 900) (by decide +kernel), List.mem_of_getElem? (i := 901) (by decide +kernel)⟩
theorem lw_p24 : lw_okq (⟨"MuseumCases", "requireHours", "(III)V"⟩, 9) := ⟨⟨by decide +kernel, by decide +kernel⟩, List.mem_of_getElem? (i := 24) (by decide +kernel), List.mem_of_getElem? (i := 1018) (by decide +kernel), List.mem_of_getElem? (i := 1019) (by decide +kernel)⟩
theorem lw_p25 : lw_okq (⟨"MuseumCases", "foreseeRooms", "(I)V"⟩, 9) := ⟨⟨by decide +kernel, by decide +kernel⟩, List.mem_of_getElem? (i := 24) (by decide +kernel), List.mem_of_getElem? (i := 1110) (by decide +kernel), List.mem_of_getElem? (i := 1111) (by decide +kernel)⟩
theorem lw_p26 : lw_okq (⟨"MuseumCases", "unsafeHoursOfTrial", "(II)I"⟩, 9) := ⟨⟨by decide +kernel, by decide +kernel⟩, List.mem_of_getElem? (i := 24) (by decide +kernel), List.mem_of_getElem? (i := 1114) (by decide +kernel), List.mem_of_getElem? (i := 1115) (by decide +kernel)⟩
theorem lw_p27 : lw_okq (⟨"MuseumCases", "requireSlot", "(I)V"⟩, 9) := ⟨⟨by decide +kernel, by decide +kernel⟩, List.mem_of_getElem? (i := 24) (by decide +kernel), List.mem_of_getElem? (i := 1133) (by decide +kernel), List.mem_of_getElem? (i := 1134) (by decide +kernel)⟩
theorem lw_p28 : lw_okq (⟨"MuseumCasesModel", "plain", "()V"⟩, 26) := ⟨⟨by decide +kernel, by decide +kernel⟩, List.mem_of_getElem? (i := 1158) (by decide +kernel), List.mem_of_getElem? (i := 1164) (by decide +kernel), List.mem_of_getElem? (i := 1165) (by decide +kernel)⟩
theorem lw_p29 : lw_okq (⟨"MuseumCasesModel", "takes", "()V"⟩, 26) := ⟨⟨by decide +kernel, by decide +kernel⟩, List.mem_of_getElem? (i := 1158) (by decide +kernel), List.mem_of_getElem? (i := 1168) (by decide +kernel), List.mem_of_getElem? (i := 1169) (by decide +kernel)⟩
theorem lw_p30 : lw_okq (⟨"MuseumCasesModel", "of", "(II)I"⟩, 26) := ⟨⟨by decide +kernel, by decide +kernel⟩, List.mem_of_getElem? (i := 1158) (by decide +kernel), List.mem_of_getElem? (i := 1172) (by decide +kernel), List.mem_of_getElem? (i := 1173) (by decide +kernel)⟩
theorem lw_p31 : lw_okq (⟨"MuseumCasesModel", "its", "(III)I"⟩, 26) := ⟨⟨by decide +kernel, by decide +kernel⟩, List.mem_of_getElem? (i := 1158) (by decide +kernel), List.mem_of_getElem? (i := 1176) (by decide +kernel), List.mem_of_getElem? (i := 1177) (by decide +kernel)⟩
def lw_privs_2 : List (MethodName × Nat) := [(⟨"MuseumCases$Reader", "readCase", "(LMuseumCases$Setup;I)V"⟩, 10), (⟨"MuseumCases$Reader", "readCassette", "(LMuseumCases$Setup;)V"⟩, 10), (⟨"MuseumCases$Reader", "knownName", "([JI)I"⟩, 10), (⟨"MuseumCases", "kindAt", "(I)LMuseumCases$Kind;"⟩, 9), (⟨"MuseumCases", "vitrineAt", "(I)LMuseumCases$Vitrine;"⟩, 9), (⟨"MuseumCases", "logbookAt", "(I)LMuseumCases$Logbook;"⟩, 9), (⟨"MuseumCases", "requireAnHour", "()V"⟩, 9), (⟨"MuseumCases", "requireHumidity", "(I)V"⟩, 9), (⟨"MuseumCases", "requireHours", "(III)V"⟩, 9), (⟨"MuseumCases", "foreseeRooms", "(I)V"⟩, 9), (⟨"MuseumCases", "unsafeHoursOfTrial", "(II)I"⟩, 9), (⟨"MuseumCases", "requireSlot", "(I)V"⟩, 9), (⟨"MuseumCasesModel", "plain", "()V"⟩, 26), (⟨"MuseumCasesModel", "takes", "()V"⟩, 26), (⟨"MuseumCasesModel", "of", "(II)I"⟩, 26), (⟨"MuseumCasesModel", "its", "(III)I"⟩, 26)]
theorem lw_r2 : ∀ q ∈ lw_privs_2, lw_okq q := List.forall_mem_cons.mpr ⟨lw_p16, List.forall_mem_cons.mpr ⟨lw_p17, List.forall_mem_cons.mpr ⟨lw_p18, List.forall_mem_cons.mpr ⟨lw_p19, List.forall_mem_cons.mpr ⟨lw_p20, List.forall_mem_cons.mpr ⟨lw_p21, List.forall_mem_cons.mpr ⟨lw_p22, List.forall_mem_cons.mpr ⟨lw_p23, List.forall_mem_cons.mpr ⟨lw_p24, List.forall_mem_cons.mpr ⟨lw_p25, List.forall_mem_cons.mpr ⟨lw_p26, List.forall_mem_cons.mpr ⟨lw_p27, List.forall_mem_cons.mpr ⟨lw_p28, List.forall_mem_cons.mpr ⟨lw_p29, List.forall_mem_cons.mpr ⟨lw_p30, List.forall_mem_cons.mpr ⟨lw_p31, fun _ h => absurd h List.not_mem_nil⟩⟩⟩⟩⟩⟩⟩⟩⟩⟩⟩⟩⟩⟩⟩⟩
theorem lw_p32 : lw_okq (⟨"MuseumCasesModel", "wouldHave", "(III)I"⟩, 26) := ⟨⟨by decide +kernel, by decide +kernel⟩, List.mem_of_getElem? (i := 1158) (by decide +kernel), List.mem_of_getElem? (i := 1180) (by decide +kernel), List.mem_of_getElem? (i := 1181) (by decide +kernel)⟩
theorem lw_p33 : lw_okq (⟨"MuseumCasesModel", "contentOf", "(II)I"⟩, 26) := ⟨⟨by decide +kernel, by decide +kernel⟩, List.mem_of_getElem? (i := 1158) (by decide +kernel), List.mem_of_getElem? (i := 1184) (by decide +kernel), List.mem_of_getElem? (i := 1185) (by decide +kernel)⟩
theorem lw_p34 : lw_okq (⟨"MuseumCasesModel", "cassettes", "(IIII)V"⟩, 26) := ⟨⟨by decide +kernel, by decide +kernel⟩, List.mem_of_getElem? (i := 1158) (by decide +kernel), List.mem_of_getElem? (i := 1191) (by decide +kernel), List.mem_of_getElem? (i := 1192) (by decide +kernel)⟩
theorem lw_p35 : lw_okq (⟨"MuseumCasesModel", "lays", "(III)V"⟩, 26) := ⟨⟨by decide +kernel, by decide +kernel⟩, List.mem_of_getElem? (i := 1158) (by decide +kernel), List.mem_of_getElem? (i := 1195) (by decide +kernel), List.mem_of_getElem? (i := 1196) (by decide +kernel)⟩
theorem lw_p36 : lw_okq (⟨"MuseumCasesModel", "moistureOf", "(I)J"⟩, 26) := ⟨⟨by decide +kernel, by decide +kernel⟩, List.mem_of_getElem? (i := 1158) (by decide +kernel), List.mem_of_getElem? (i := 1199) (by decide +kernel), List.mem_of_getElem? (i := 1200) (by decide +kernel)⟩
theorem lw_p37 : lw_okq (⟨"MuseumCasesModel", "inCassettes", "(I)I"⟩, 26) := ⟨⟨by decide +kernel, by decide +kernel⟩, List.mem_of_getElem? (i := 1158) (by decide +kernel), List.mem_of_getElem? (i := 1203) (by decide +kernel), List.mem_of_getElem? (i := 1204) (by decide +kernel)⟩
theorem lw_p38 : lw_okq (⟨"MuseumCasesModel", "may", "(ZI)Z"⟩, 26) := ⟨⟨by decide +kernel, by decide +kernel⟩, List.mem_of_getElem? (i := 1158) (by decide +kernel), List.mem_of_getElem? (i := 1294) (by decide +kernel), List.mem_of_getElem? (i := 1295) (by decide +kernel)⟩
theorem lw_p39 : lw_okq (⟨"MuseumCasesModel", "token", "()V"⟩, 26) := ⟨⟨by decide +kernel, by decide +kernel⟩, List.mem_of_getElem? (i := 1158) (by decide +kernel), List.mem_of_getElem? (i := 1309) (by decide +kernel), List.mem_of_getElem? (i := 1310) (by decide +kernel)⟩
theorem lw_p40 : lw_okq (⟨"MuseumCasesModel", "at", "(I)I"⟩, 26) := ⟨⟨by decide +kernel, by decide +kernel⟩, List.mem_of_getElem? (i := 1158) (by decide +kernel), List.mem_of_getElem? (i := 1313) (by decide +kernel), List.mem_of_getElem? (i := 1314) (by decide +kernel)⟩
theorem lw_p41 : lw_okq (⟨"MuseumCasesModel", "reads", "()V"⟩, 26) := ⟨⟨by decide +kernel, by decide +kernel⟩, List.mem_of_getElem? (i := 1158) (by decide +kernel), List.mem_of_getElem? (i := 1325) (by decide +kernel), List.mem_of_getElem? (i := 1326) (by decide +kernel)⟩
theorem lw_p42 : lw_okq (⟨"MuseumCasesModel", "takesWord", "(Ljava/lang/String;)Z"⟩, 26) := ⟨⟨by decide +kernel, by decide +kernel⟩, List.mem_of_getElem? (i := 1158) (by decide +kernel), List.mem_of_getElem? (i := 1330) (by decide +kernel), List.mem_of_getElem? (i := 1331) (by decide +kernel)⟩
theorem lw_p43 : lw_okq (⟨"MuseumCasesModel", "isWord", "(Ljava/lang/String;)Z"⟩, 26) := ⟨⟨by decide +kernel, by decide +kernel⟩, List.mem_of_getElem? (i := 1158) (by decide +kernel), List.mem_of_getElem? (i := 1334) (by decide +kernel), List.mem_of_getElem? (i := 1335) (by decide +kernel)⟩
theorem lw_p44 : lw_okq (⟨"MuseumCasesModel", "isWrong", "()Z"⟩, 26) := ⟨⟨by decide +kernel, by decide +kernel⟩, List.mem_of_getElem? (i := 1158) (by decide +kernel), List.mem_of_getElem? (i := 1338) (by decide +kernel), List.mem_of_getElem? (i := 1339) (by decide +kernel)⟩
theorem lw_p45 : lw_okq (⟨"MuseumCasesModel", "fails", "(I)V"⟩, 26) := ⟨⟨by decide +kernel, by decide +kernel⟩, List.mem_of_getElem? (i := 1158) (by decide +kernel), List.mem_of_getElem? (i := 1344) (by decide +kernel), List.mem_of_getElem? (i := 1345) (by decide +kernel)⟩
theorem lw_p46 : lw_okq (⟨"MuseumCasesModel", "figure", "(II)I"⟩, 26) := ⟨⟨by decide +kernel, by decide +kernel⟩, List.mem_of_getElem? (i := 1158) (by decide +kernel), List.mem_of_getElem? (i := 1348) (by decide +kernel), List.mem_of_getElem? (i := 1349) (by decide +kernel)⟩
theorem lw_p47 : lw_okq (⟨"MuseumCasesModel", "ends", "()V"⟩, 26) := ⟨⟨by decide +kernel, by decide +kernel⟩, List.mem_of_getElem? (i := 1158) (by decide +kernel), List.mem_of_getElem? (i := 1352) (by decide +kernel), List.mem_of_getElem? (i := 1353) (by decide +kernel)⟩
def lw_privs_3 : List (MethodName × Nat) := [(⟨"MuseumCasesModel", "wouldHave", "(III)I"⟩, 26), (⟨"MuseumCasesModel", "contentOf", "(II)I"⟩, 26), (⟨"MuseumCasesModel", "cassettes", "(IIII)V"⟩, 26), (⟨"MuseumCasesModel", "lays", "(III)V"⟩, 26), (⟨"MuseumCasesModel", "moistureOf", "(I)J"⟩, 26), (⟨"MuseumCasesModel", "inCassettes", "(I)I"⟩, 26), (⟨"MuseumCasesModel", "may", "(ZI)Z"⟩, 26), (⟨"MuseumCasesModel", "token", "()V"⟩, 26), (⟨"MuseumCasesModel", "at", "(I)I"⟩, 26), (⟨"MuseumCasesModel", "reads", "()V"⟩, 26), (⟨"MuseumCasesModel", "takesWord", "(Ljava/lang/String;)Z"⟩, 26), (⟨"MuseumCasesModel", "isWord", "(Ljava/lang/String;)Z"⟩, 26), (⟨"MuseumCasesModel", "isWrong", "()Z"⟩, 26), (⟨"MuseumCasesModel", "fails", "(I)V"⟩, 26), (⟨"MuseumCasesModel", "figure", "(II)I"⟩, 26), (⟨"MuseumCasesModel", "ends", "()V"⟩, 26)]
theorem lw_r3 : ∀ q ∈ lw_privs_3, lw_okq q := List.forall_mem_cons.mpr ⟨lw_p32, List.forall_mem_cons.mpr ⟨lw_p33, List.forall_mem_cons.mpr ⟨lw_p34, List.forall_mem_cons.mpr ⟨lw_p35, List.forall_mem_cons.mpr ⟨lw_p36, List.forall_mem_cons.mpr ⟨lw_p37, List.forall_mem_cons.mpr ⟨lw_p38, List.forall_mem_cons.mpr ⟨lw_p39, List.forall_mem_cons.mpr ⟨lw_p40, List.forall_mem_cons.mpr ⟨lw_p41, List.forall_mem_cons.mpr ⟨lw_p42, List.forall_mem_cons.mpr ⟨lw_p43, List.forall_mem_cons.mpr ⟨lw_p44, List.forall_mem_cons.mpr ⟨lw_p45, List.forall_mem_cons.mpr ⟨lw_p46, List.forall_mem_cons.mpr ⟨lw_p47, fun _ h => absurd h List.not_mem_nil⟩⟩⟩⟩⟩⟩⟩⟩⟩⟩⟩⟩⟩⟩⟩⟩
theorem lw_p48 : lw_okq (⟨"MuseumCasesModel", "season", "()V"⟩, 26) := ⟨⟨by decide +kernel, by decide +kernel⟩, List.mem_of_getElem? (i := 1158) (by decide +kernel), List.mem_of_getElem? (i := 1357) (by decide +kernel), List.mem_of_getElem? (i := 1358) (by decide +kernel)⟩
theorem lw_p49 : lw_okq (⟨"MuseumCasesModel", "begins", "(II)Z"⟩, 26) := ⟨⟨by decide +kernel, by decide +kernel⟩, List.mem_of_getElem? (i := 1158) (by decide +kernel), List.mem_of_getElem? (i := 1361) (by decide +kernel), List.mem_of_getElem? (i := 1362) (by decide +kernel)⟩
theorem lw_p50 : lw_okq (⟨"MuseumCasesModel", "visitors", "()V"⟩, 26) := ⟨⟨by decide +kernel, by decide +kernel⟩, List.mem_of_getElem? (i := 1158) (by decide +kernel), List.mem_of_getElem? (i := 1366) (by decide +kernel), List.mem_of_getElem? (i := 1367) (by decide +kernel)⟩
theorem lw_p51 : lw_okq (⟨"MuseumCasesModel", "kind", "()V"⟩, 26) := ⟨⟨by decide +kernel, by decide +kernel⟩, List.mem_of_getElem? (i := 1158) (by decide +kernel), List.mem_of_getElem? (i := 1371) (by decide +kernel), List.mem_of_getElem? (i := 1372) (by decide +kernel)⟩
theorem lw_p52 : lw_okq (⟨"MuseumCasesModel", "newName", "([JI)Z"⟩, 26) := ⟨⟨by decide +kernel, by decide +kernel⟩, List.mem_of_getElem? (i := 1158) (by decide +kernel), List.mem_of_getElem? (i := 1375) (by decide +kernel), List.mem_of_getElem? (i := 1376) (by decide +kernel)⟩
theorem lw_p53 : lw_okq (⟨"MuseumCasesModel", "named", "([JI)I"⟩, 26) := ⟨⟨by decide +kernel, by decide +kernel⟩, List.mem_of_getElem? (i := 1158) (by decide +kernel), List.mem_of_getElem? (i := 1379) (by decide +kernel), List.mem_of_getElem? (i := 1380) (by decide +kernel)⟩
theorem lw_p54 : lw_okq (⟨"MuseumCasesModel", "point", "(II)V"⟩, 26) := ⟨⟨by decide +kernel, by decide +kernel⟩, List.mem_of_getElem? (i := 1158) (by decide +kernel), List.mem_of_getElem? (i := 1384) (by decide +kernel), List.mem_of_getElem? (i := 1385) (by decide +kernel)⟩
theorem lw_p55 : lw_okq (⟨"MuseumCasesModel", "oneCase", "()V"⟩, 26) := ⟨⟨by decide +kernel, by decide +kernel⟩, List.mem_of_getElem? (i := 1158) (by decide +kernel), List.mem_of_getElem? (i := 1389) (by decide +kernel), List.mem_of_getElem? (i := 1390) (by decide +kernel)⟩
theorem lw_p56 : lw_okq (⟨"MuseumCasesModel", "oneCassette", "()V"⟩, 26) := ⟨⟨by decide +kernel, by decide +kernel⟩, List.mem_of_getElem? (i := 1158) (by decide +kernel), List.mem_of_getElem? (i := 1395) (by decide +kernel), List.mem_of_getElem? (i := 1396) (by decide +kernel)⟩
theorem lw_p57 : lw_okq (⟨"MuseumCasesModel", "cassettesInAll", "()I"⟩, 26) := ⟨⟨by decide +kernel, by decide +kernel⟩, List.mem_of_getElem? (i := 1158) (by decide +kernel), List.mem_of_getElem? (i := 1411) (by decide +kernel), List.mem_of_getElem? (i := 1412) (by decide +kernel)⟩
theorem lw_p58 : lw_okq (⟨"MuseumCasesModel", "roomNow", "()I"⟩, 26) := ⟨⟨by decide +kernel, by decide +kernel⟩, List.mem_of_getElem? (i := 1158) (by decide +kernel), List.mem_of_getElem? (i := 1415) (by decide +kernel), List.mem_of_getElem? (i := 1416) (by decide +kernel)⟩
theorem lw_p59 : lw_okq (⟨"MuseumCasesModel", "setOn", "(I)I"⟩, 26) := ⟨⟨by decide +kernel, by decide +kernel⟩, List.mem_of_getElem? (i := 1158) (by decide +kernel), List.mem_of_getElem? (i := 1419) (by decide +kernel), List.mem_of_getElem? (i := 1420) (by decide +kernel)⟩
theorem lw_p60 : lw_okq (⟨"MuseumCasesModel", "isKind", "(I)Z"⟩, 26) := ⟨⟨by decide +kernel, by decide +kernel⟩, List.mem_of_getElem? (i := 1158) (by decide +kernel), List.mem_of_getElem? (i := 1435) (by decide +kernel), List.mem_of_getElem? (i := 1436) (by decide +kernel)⟩
theorem lw_p61 : lw_okq (⟨"MuseumCasesModel", "isCase", "(I)Z"⟩, 26) := ⟨⟨by decide +kernel, by decide +kernel⟩, List.mem_of_getElem? (i := 1158) (by decide +kernel), List.mem_of_getElem? (i := 1447) (by decide +kernel), List.mem_of_getElem? (i := 1448) (by decide +kernel)⟩
theorem lw_p62 : lw_okq (⟨"MuseumCasesModel", "humidityOf", "(I)I"⟩, 26) := ⟨⟨by decide +kernel, by decide +kernel⟩, List.mem_of_getElem? (i := 1158) (by decide +kernel), List.mem_of_getElem? (i := 1451) (by decide +kernel), List.mem_of_getElem? (i := 1452) (by decide +kernel)⟩
theorem lw_p63 : lw_okq (⟨"MuseumCasesModel", "recordOf", "(II)I"⟩, 26) := ⟨⟨by decide +kernel, by decide +kernel⟩, List.mem_of_getElem? (i := 1158) (by decide +kernel), List.mem_of_getElem? (i := 1464) (by decide +kernel), List.mem_of_getElem? (i := 1465) (by decide +kernel)⟩
def lw_privs_4 : List (MethodName × Nat) := [(⟨"MuseumCasesModel", "season", "()V"⟩, 26), (⟨"MuseumCasesModel", "begins", "(II)Z"⟩, 26), (⟨"MuseumCasesModel", "visitors", "()V"⟩, 26), (⟨"MuseumCasesModel", "kind", "()V"⟩, 26), (⟨"MuseumCasesModel", "newName", "([JI)Z"⟩, 26), (⟨"MuseumCasesModel", "named", "([JI)I"⟩, 26), (⟨"MuseumCasesModel", "point", "(II)V"⟩, 26), (⟨"MuseumCasesModel", "oneCase", "()V"⟩, 26), (⟨"MuseumCasesModel", "oneCassette", "()V"⟩, 26), (⟨"MuseumCasesModel", "cassettesInAll", "()I"⟩, 26), (⟨"MuseumCasesModel", "roomNow", "()I"⟩, 26), (⟨"MuseumCasesModel", "setOn", "(I)I"⟩, 26), (⟨"MuseumCasesModel", "isKind", "(I)Z"⟩, 26), (⟨"MuseumCasesModel", "isCase", "(I)Z"⟩, 26), (⟨"MuseumCasesModel", "humidityOf", "(I)I"⟩, 26), (⟨"MuseumCasesModel", "recordOf", "(II)I"⟩, 26)]
theorem lw_r4 : ∀ q ∈ lw_privs_4, lw_okq q := List.forall_mem_cons.mpr ⟨lw_p48, List.forall_mem_cons.mpr ⟨lw_p49, List.forall_mem_cons.mpr ⟨lw_p50, List.forall_mem_cons.mpr ⟨lw_p51, List.forall_mem_cons.mpr ⟨lw_p52, List.forall_mem_cons.mpr ⟨lw_p53, List.forall_mem_cons.mpr ⟨lw_p54, List.forall_mem_cons.mpr ⟨lw_p55, List.forall_mem_cons.mpr ⟨lw_p56, List.forall_mem_cons.mpr ⟨lw_p57, List.forall_mem_cons.mpr ⟨lw_p58, List.forall_mem_cons.mpr ⟨lw_p59, List.forall_mem_cons.mpr ⟨lw_p60, List.forall_mem_cons.mpr ⟨lw_p61, List.forall_mem_cons.mpr ⟨lw_p62, List.forall_mem_cons.mpr ⟨lw_p63, fun _ h => absurd h List.not_mem_nil⟩⟩⟩⟩⟩⟩⟩⟩⟩⟩⟩⟩⟩⟩⟩⟩
theorem lw_p64 : lw_okq (⟨"MuseumCasesModel", "counts", "(IIJ)V"⟩, 26) := ⟨⟨by decide +kernel, by decide +kernel⟩, List.mem_of_getElem? (i := 1158) (by decide +kernel), List.mem_of_getElem? (i := 1492) (by decide +kernel), List.mem_of_getElem? (i := 1493) (by decide +kernel)⟩
theorem lw_p65 : lw_okq (⟨"MuseumCasesModel", "ownHumidity", "(II)I"⟩, 26) := ⟨⟨by decide +kernel, by decide +kernel⟩, List.mem_of_getElem? (i := 1158) (by decide +kernel), List.mem_of_getElem? (i := 1500) (by decide +kernel), List.mem_of_getElem? (i := 1501) (by decide +kernel)⟩
theorem lw_p66 : lw_okq (⟨"MuseumCasesModel", "finds", "(I)Z"⟩, 26) := ⟨⟨by decide +kernel, by decide +kernel⟩, List.mem_of_getElem? (i := 1158) (by decide +kernel), List.mem_of_getElem? (i := 1508) (by decide +kernel), List.mem_of_getElem? (i := 1509) (by decide +kernel)⟩
theorem lw_p67 : lw_okq (⟨"MuseumCasesModel", "newSerial", "()I"⟩, 26) := ⟨⟨by decide +kernel, by decide +kernel⟩, List.mem_of_getElem? (i := 1158) (by decide +kernel), List.mem_of_getElem? (i := 1516) (by decide +kernel), List.mem_of_getElem? (i := 1517) (by decide +kernel)⟩
theorem lw_p68 : lw_okq (⟨"MuseumCasesModel", "addsTo", "(IIIII)V"⟩, 26) := ⟨⟨by decide +kernel, by decide +kernel⟩, List.mem_of_getElem? (i := 1158) (by decide +kernel), List.mem_of_getElem? (i := 1520) (by decide +kernel), List.mem_of_getElem? (i := 1521) (by decide +kernel)⟩
theorem lw_p69 : lw_okq (⟨"MuseumCasesModel", "puts", "(IIIIII)V"⟩, 26) := ⟨⟨by decide +kernel, by decide +kernel⟩, List.mem_of_getElem? (i := 1158) (by decide +kernel), List.mem_of_getElem? (i := 1524) (by decide +kernel), List.mem_of_getElem? (i := 1525) (by decide +kernel)⟩
theorem lw_p70 : lw_okq (⟨"MuseumCasesModel", "goes", "(II)I"⟩, 26) := ⟨⟨by decide +kernel, by decide +kernel⟩, List.mem_of_getElem? (i := 1158) (by decide +kernel), List.mem_of_getElem? (i := 1532) (by decide +kernel), List.mem_of_getElem? (i := 1533) (by decide +kernel)⟩
theorem lw_p71 : lw_okq (⟨"MuseumCasesModel", "exchanges", "(IIII)V"⟩, 26) := ⟨⟨by decide +kernel, by decide +kernel⟩, List.mem_of_getElem? (i := 1158) (by decide +kernel), List.mem_of_getElem? (i := 1544) (by decide +kernel), List.mem_of_getElem? (i := 1545) (by decide +kernel)⟩
theorem lw_p72 : lw_okq (⟨"MuseumCasesModel", "hours", "(III)I"⟩, 26) := ⟨⟨by decide +kernel, by decide +kernel⟩, List.mem_of_getElem? (i := 1158) (by decide +kernel), List.mem_of_getElem? (i := 1553) (by decide +kernel), List.mem_of_getElem? (i := 1554) (by decide +kernel)⟩
theorem lw_p73 : lw_okq (⟨"MuseumCasesModel", "hour", "(II)I"⟩, 26) := ⟨⟨by decide +kernel, by decide +kernel⟩, List.mem_of_getElem? (i := 1158) (by decide +kernel), List.mem_of_getElem? (i := 1557) (by decide +kernel), List.mem_of_getElem? (i := 1558) (by decide +kernel)⟩
theorem lw_p74 : lw_okq (⟨"MuseumCasesModel", "airs", "(II)V"⟩, 26) := ⟨⟨by decide +kernel, by decide +kernel⟩, List.mem_of_getElem? (i := 1158) (by decide +kernel), List.mem_of_getElem? (i := 1561) (by decide +kernel), List.mem_of_getElem? (i := 1562) (by decide +kernel)⟩
theorem lw_p75 : lw_okq (⟨"MuseumCasesModel", "records", "(I)Z"⟩, 26) := ⟨⟨by decide +kernel, by decide +kernel⟩, List.mem_of_getElem? (i := 1158) (by decide +kernel), List.mem_of_getElem? (i := 1566) (by decide +kernel), List.mem_of_getElem? (i := 1567) (by decide +kernel)⟩
theorem lw_p76 : lw_okq (⟨"MuseumCasesModel", "setsAside", "()V"⟩, 26) := ⟨⟨by decide +kernel, by decide +kernel⟩, List.mem_of_getElem? (i := 1158) (by decide +kernel), List.mem_of_getElem? (i := 1574) (by decide +kernel), List.mem_of_getElem? (i := 1575) (by decide +kernel)⟩
theorem lw_p77 : lw_okq (⟨"MuseumCasesModel", "bringsBack", "()V"⟩, 26) := ⟨⟨by decide +kernel, by decide +kernel⟩, List.mem_of_getElem? (i := 1158) (by decide +kernel), List.mem_of_getElem? (i := 1578) (by decide +kernel), List.mem_of_getElem? (i := 1579) (by decide +kernel)⟩
def lw_privs_5 : List (MethodName × Nat) := [(⟨"MuseumCasesModel", "counts", "(IIJ)V"⟩, 26), (⟨"MuseumCasesModel", "ownHumidity", "(II)I"⟩, 26), (⟨"MuseumCasesModel", "finds", "(I)Z"⟩, 26), (⟨"MuseumCasesModel", "newSerial", "()I"⟩, 26), (⟨"MuseumCasesModel", "addsTo", "(IIIII)V"⟩, 26), (⟨"MuseumCasesModel", "puts", "(IIIIII)V"⟩, 26), (⟨"MuseumCasesModel", "goes", "(II)I"⟩, 26), (⟨"MuseumCasesModel", "exchanges", "(IIII)V"⟩, 26), (⟨"MuseumCasesModel", "hours", "(III)I"⟩, 26), (⟨"MuseumCasesModel", "hour", "(II)I"⟩, 26), (⟨"MuseumCasesModel", "airs", "(II)V"⟩, 26), (⟨"MuseumCasesModel", "records", "(I)Z"⟩, 26), (⟨"MuseumCasesModel", "setsAside", "()V"⟩, 26), (⟨"MuseumCasesModel", "bringsBack", "()V"⟩, 26)]
theorem lw_r5 : ∀ q ∈ lw_privs_5, lw_okq q := List.forall_mem_cons.mpr ⟨lw_p64, List.forall_mem_cons.mpr ⟨lw_p65, List.forall_mem_cons.mpr ⟨lw_p66, List.forall_mem_cons.mpr ⟨lw_p67, List.forall_mem_cons.mpr ⟨lw_p68, List.forall_mem_cons.mpr ⟨lw_p69, List.forall_mem_cons.mpr ⟨lw_p70, List.forall_mem_cons.mpr ⟨lw_p71, List.forall_mem_cons.mpr ⟨lw_p72, List.forall_mem_cons.mpr ⟨lw_p73, List.forall_mem_cons.mpr ⟨lw_p74, List.forall_mem_cons.mpr ⟨lw_p75, List.forall_mem_cons.mpr ⟨lw_p76, List.forall_mem_cons.mpr ⟨lw_p77, fun _ h => absurd h List.not_mem_nil⟩⟩⟩⟩⟩⟩⟩⟩⟩⟩⟩⟩⟩⟩
def lw_privs : List (MethodName × Nat) := lw_privs_1 ++ (lw_privs_2 ++ (lw_privs_3 ++ (lw_privs_4 ++ (lw_privs_5))))
def lw_tbl : List Cond := k2_sels lw_privs ++ tables_1
theorem lw_privs_ok : ∀ q ∈ lw_privs, lw_okq q := by
  show ∀ q ∈ lw_privs_1 ++ (lw_privs_2 ++ (lw_privs_3 ++ (lw_privs_4 ++ (lw_privs_5)))), lw_okq q
  exact List.forall_mem_append.mpr ⟨lw_r1, List.forall_mem_append.mpr ⟨lw_r2, List.forall_mem_append.mpr ⟨lw_r3, List.forall_mem_append.mpr ⟨lw_r4, lw_r5⟩⟩⟩⟩
/-- the streams that the claim lets the run draw from -/
abbrev lw_cs : List Choice := [Jvm.Choice.named "NaN.bits"]
theorem lw_bits : nanBits ∈ lw_cs := by first | decide | exact List.mem_cons_self | simp [lw_cs, nanBits]
def RX0 : String := "MuseumCases$Cassette"
def TX0 : u_T := fun k => match k with
  | 0 => ("MuseumCases$Cassette", "serial", "I", false)
  | 1 => ("MuseumCases$Cassette", "kind", "LMuseumCases$Kind;", false)
  | 2 => ("MuseumCases$Cassette", "mass", "I", false)
  | _ => ("MuseumCases$Cassette", "moisture", "I", false)
def tyX0 : Nat → FieldType := fun k => match k with
  | 0 => .int
  | 1 => .object "MuseumCases$Kind"
  | 2 => .int
  | _ => .int
abbrev wsX00 : List Cond := u_ws RX0 TX0 4
theorem nmX0 : ∀ a, a < 4 → ∀ b, b < 4 → a ≠ b → (TX0 a).2.1 ≠ (TX0 b).2.1 := by decide +kernel
theorem tyX0_ok : ∀ k, k < 4 → parseFieldDescriptor (TX0 k).2.2.1 = some (tyX0 k) := by decide +kernel
abbrev cX0_init : ByteArray := prog_2_method_1_code
def yX0_init : MethodName := ⟨RX0, "<init>", "()V"⟩
abbrev cX0_begin : ByteArray := prog_2_method_2_code
def yX0_begin : MethodName := ⟨RX0, "begin", "(ILMuseumCases$Kind;II)V"⟩
abbrev cX0_renew : ByteArray := prog_2_method_3_code
def yX0_renew : MethodName := ⟨RX0, "renew", "(II)V"⟩
abbrev cX0_copyFrom : ByteArray := prog_2_method_4_code
def yX0_copyFrom : MethodName := ⟨RX0, "copyFrom", "(LMuseumCases$Cassette;)V"⟩
abbrev cX0_kindNumber : ByteArray := prog_2_method_5_code
def yX0_kindNumber : MethodName := ⟨RX0, "kindNumber", "()I"⟩
abbrev cX0_moistureAt : ByteArray := prog_2_method_6_code
def yX0_moistureAt : MethodName := ⟨RX0, "moistureAt", "(I)I"⟩
abbrev cX0_wishAt : ByteArray := prog_2_method_7_code
def yX0_wishAt : MethodName := ⟨RX0, "wishAt", "(I)I"⟩
abbrev cX0_ownHumidity : ByteArray := prog_2_method_8_code
def yX0_ownHumidity : MethodName := ⟨RX0, "ownHumidity", "()I"⟩
def RX1 : String := "MuseumCases$Kind"
def TX1 : u_T := fun k => match k with
  | 0 => ("MuseumCases$Kind", "number", "I", false)
  | 1 => ("MuseumCases$Kind", "speed", "I", false)
  | 2 => ("MuseumCases$Kind", "count", "I", false)
  | 3 => ("MuseumCases$Kind", "humidities", "[I", true)
  | _ => ("MuseumCases$Kind", "contents", "[I", true)
def tyX1 : Nat → FieldType := fun k => match k with
  | 0 => .int
  | 1 => .int
  | 2 => .int
  | 3 => .array .int
  | _ => .array .int
abbrev wsX10 : List Cond := u_ws RX1 TX1 5
theorem nmX1 : ∀ a, a < 5 → ∀ b, b < 5 → a ≠ b → (TX1 a).2.1 ≠ (TX1 b).2.1 := by decide +kernel
theorem tyX1_ok : ∀ k, k < 5 → parseFieldDescriptor (TX1 k).2.2.1 = some (tyX1 k) := by decide +kernel
abbrev cX1_init : ByteArray := prog_3_method_1_code
def yX1_init : MethodName := ⟨RX1, "<init>", "()V"⟩
abbrev cX1_begin : ByteArray := prog_3_method_2_code
def yX1_begin : MethodName := ⟨RX1, "begin", "(II)V"⟩
abbrev cX1_nextHumidity : ByteArray := prog_3_method_3_code
def yX1_nextHumidity : MethodName := ⟨RX1, "nextHumidity", "()I"⟩
abbrev cX1_lastContent : ByteArray := prog_3_method_4_code
def yX1_lastContent : MethodName := ⟨RX1, "lastContent", "()I"⟩
abbrev cX1_addPoint : ByteArray := prog_3_method_5_code
def yX1_addPoint : MethodName := ⟨RX1, "addPoint", "(II)V"⟩
abbrev cX1_contentAt : ByteArray := prog_3_method_6_code
def yX1_contentAt : MethodName := ⟨RX1, "contentAt", "(I)I"⟩
abbrev cX1_moistureAt : ByteArray := prog_3_method_7_code
def yX1_moistureAt : MethodName := ⟨RX1, "moistureAt", "(II)I"⟩
def RX2 : String := "MuseumCases$Logbook"
def TX2 : u_T := fun k => match k with
  | 0 => ("MuseumCases$Logbook", "atLoading", "J", false)
  | 1 => ("MuseumCases$Logbook", "leaked", "J", false)
  | 2 => ("MuseumCases$Logbook", "cameIn", "J", false)
  | 3 => ("MuseumCases$Logbook", "wentOut", "J", false)
  | 4 => ("MuseumCases$Logbook", "unsafeHours", "I", false)
  | 5 => ("MuseumCases$Logbook", "lowest", "I", false)
  | 6 => ("MuseumCases$Logbook", "greatest", "I", false)
  | 7 => ("MuseumCases$Logbook", "sumOfRecords", "J", false)
  | _ => ("MuseumCases$Logbook", "records", "[I", true)
def tyX2 : Nat → FieldType := fun k => match k with
  | 0 => .long
  | 1 => .long
  | 2 => .long
  | 3 => .long
  | 4 => .int
  | 5 => .int
  | 6 => .int
  | 7 => .long
  | _ => .array .int
abbrev wsX20 : List Cond := u_ws RX2 TX2 9
theorem nmX2 : ∀ a, a < 9 → ∀ b, b < 9 → a ≠ b → (TX2 a).2.1 ≠ (TX2 b).2.1 := by decide +kernel
theorem tyX2_ok : ∀ k, k < 9 → parseFieldDescriptor (TX2 k).2.2.1 = some (tyX2 k) := by decide +kernel
abbrev cX2_init : ByteArray := prog_4_method_1_code
def yX2_init : MethodName := ⟨RX2, "<init>", "()V"⟩
abbrev cX2_begin : ByteArray := prog_4_method_2_code
def yX2_begin : MethodName := ⟨RX2, "begin", "(I)V"⟩
abbrev cX2_copyFrom : ByteArray := prog_4_method_3_code
def yX2_copyFrom : MethodName := ⟨RX2, "copyFrom", "(LMuseumCases$Logbook;)V"⟩
abbrev cX2_note : ByteArray := prog_4_method_4_code
def yX2_note : MethodName := ⟨RX2, "note", "(IIZ)V"⟩
abbrev cX2_recordOf : ByteArray := prog_4_method_5_code
def yX2_recordOf : MethodName := ⟨RX2, "recordOf", "(I)I"⟩
abbrev cX2_swingAt : ByteArray := prog_4_method_6_code
def yX2_swingAt : MethodName := ⟨RX2, "swingAt", "(I)I"⟩
def RX3 : String := "MuseumCases$Reader"
def TX3 : u_T := fun k => match k with
  | 0 => ("MuseumCases$Reader", "text", "[B", true)
  | 1 => ("MuseumCases$Reader", "length", "I", false)
  | 2 => ("MuseumCases$Reader", "code", "I", false)
  | 3 => ("MuseumCases$Reader", "codeAt", "I", false)
  | 4 => ("MuseumCases$Reader", "token", "I", false)
  | 5 => ("MuseumCases$Reader", "start", "I", false)
  | 6 => ("MuseumCases$Reader", "end", "I", false)
  | 7 => ("MuseumCases$Reader", "value", "I", false)
  | 8 => ("MuseumCases$Reader", "kindNames", "[J", true)
  | _ => ("MuseumCases$Reader", "caseNames", "[J", true)
def tyX3 : Nat → FieldType := fun k => match k with
  | 0 => .array .byte
  | 1 => .int
  | 2 => .int
  | 3 => .int
  | 4 => .int
  | 5 => .int
  | 6 => .int
  | 7 => .int
  | 8 => .array .long
  | _ => .array .long
abbrev wsX30 : List Cond := u_ws RX3 TX3 10
theorem nmX3 : ∀ a, a < 10 → ∀ b, b < 10 → a ≠ b → (TX3 a).2.1 ≠ (TX3 b).2.1 := by decide +kernel
theorem tyX3_ok : ∀ k, k < 10 → parseFieldDescriptor (TX3 k).2.2.1 = some (tyX3 k) := by decide +kernel
abbrev cX3_init : ByteArray := prog_5_method_1_code
def yX3_init : MethodName := ⟨RX3, "<init>", "()V"⟩
abbrev cX3_appendBytes : ByteArray := prog_5_method_2_code
def yX3_appendBytes : MethodName := ⟨RX3, "appendBytes", "(I)V"⟩
abbrev cX3_readInto : ByteArray := prog_5_method_3_code
def yX3_readInto : MethodName := ⟨RX3, "readInto", "(LMuseumCases$Setup;)V"⟩
abbrev cX3_readMuseum : ByteArray := prog_5_method_4_code
def yX3_readMuseum : MethodName := ⟨RX3, "readMuseum", "(LMuseumCases$Setup;)V"⟩
abbrev cX3_readSeason : ByteArray := prog_5_method_5_code
def yX3_readSeason : MethodName := ⟨RX3, "readSeason", "(LMuseumCases$Setup;)V"⟩
abbrev cX3_readVisitors : ByteArray := prog_5_method_6_code
def yX3_readVisitors : MethodName := ⟨RX3, "readVisitors", "(LMuseumCases$Setup;)V"⟩
abbrev cX3_readKind : ByteArray := prog_5_method_7_code
def yX3_readKind : MethodName := ⟨RX3, "readKind", "(LMuseumCases$Setup;I)V"⟩
abbrev cX3_readPoint : ByteArray := prog_5_method_8_code
def yX3_readPoint : MethodName := ⟨RX3, "readPoint", "(LMuseumCases$Kind;)V"⟩
abbrev cX3_readCase : ByteArray := prog_5_method_9_code
def yX3_readCase : MethodName := ⟨RX3, "readCase", "(LMuseumCases$Setup;I)V"⟩
abbrev cX3_readCassette : ByteArray := prog_5_method_10_code
def yX3_readCassette : MethodName := ⟨RX3, "readCassette", "(LMuseumCases$Setup;)V"⟩
abbrev cX3_takeWord : ByteArray := prog_5_method_11_code
def yX3_takeWord : MethodName := ⟨RX3, "takeWord", "(Ljava/lang/String;)V"⟩
abbrev cX3_takeSemicolon : ByteArray := prog_5_method_12_code
def yX3_takeSemicolon : MethodName := ⟨RX3, "takeSemicolon", "()V"⟩
abbrev cX3_takeNumber : ByteArray := prog_5_method_13_code
def yX3_takeNumber : MethodName := ⟨RX3, "takeNumber", "(II)I"⟩
abbrev cX3_takeNewName : ByteArray := prog_5_method_14_code
def yX3_takeNewName : MethodName := ⟨RX3, "takeNewName", "([JI)J"⟩
abbrev cX3_knownName : ByteArray := prog_5_method_15_code
def yX3_knownName : MethodName := ⟨RX3, "knownName", "([JI)I"⟩
abbrev cX3_nameHere : ByteArray := prog_5_method_16_code
def yX3_nameHere : MethodName := ⟨RX3, "nameHere", "()J"⟩
abbrev cX3_indexOf : ByteArray := prog_5_method_17_code
def yX3_indexOf : MethodName := ⟨RX3, "indexOf", "([JIJ)I"⟩
abbrev cX3_refuse : ByteArray := prog_5_method_18_code
def yX3_refuse : MethodName := ⟨RX3, "refuse", "(Ljava/lang/String;)V"⟩
abbrev cX3_at : ByteArray := prog_5_method_19_code
def yX3_at : MethodName := ⟨RX3, "at", "(Ljava/lang/String;)Z"⟩
abbrev cX3_readToken : ByteArray := prog_5_method_20_code
def yX3_readToken : MethodName := ⟨RX3, "readToken", "()V"⟩
abbrev cX3_readValue : ByteArray := prog_5_method_21_code
def yX3_readValue : MethodName := ⟨RX3, "readValue", "()V"⟩
abbrev cX3_isBlank : ByteArray := prog_5_method_22_code
def yX3_isBlank : MethodName := ⟨RX3, "isBlank", "(B)Z"⟩
abbrev cX3_tokenOf : ByteArray := prog_5_method_23_code
def yX3_tokenOf : MethodName := ⟨RX3, "tokenOf", "(B)I"⟩
abbrev cX3_fail : ByteArray := prog_5_method_24_code
def yX3_fail : MethodName := ⟨RX3, "fail", "(I)V"⟩
def RX4 : String := "MuseumCases$Room"
def TX4 : u_T := fun k => match k with
  | 0 => ("MuseumCases$Room", "time", "I", false)
  | 1 => ("MuseumCases$Room", "excess", "I", false)
  | _ => ("MuseumCases$Room", "groups", "I", false)
def tyX4 : Nat → FieldType := fun k => match k with
  | 0 => .int
  | 1 => .int
  | _ => .int
abbrev wsX40 : List Cond := u_ws RX4 TX4 3
theorem nmX4 : ∀ a, a < 3 → ∀ b, b < 3 → a ≠ b → (TX4 a).2.1 ≠ (TX4 b).2.1 := by decide +kernel
theorem tyX4_ok : ∀ k, k < 3 → parseFieldDescriptor (TX4 k).2.2.1 = some (tyX4 k) := by decide +kernel
abbrev cX4_init : ByteArray := prog_6_method_1_code
def yX4_init : MethodName := ⟨RX4, "<init>", "()V"⟩
abbrev cX4_begin : ByteArray := prog_6_method_2_code
def yX4_begin : MethodName := ⟨RX4, "begin", "()V"⟩
abbrev cX4_copyFrom : ByteArray := prog_6_method_3_code
def yX4_copyFrom : MethodName := ⟨RX4, "copyFrom", "(LMuseumCases$Room;)V"⟩
abbrev cX4_day : ByteArray := prog_6_method_4_code
def yX4_day : MethodName := ⟨RX4, "day", "()I"⟩
abbrev cX4_hourOfDay : ByteArray := prog_6_method_5_code
def yX4_hourOfDay : MethodName := ⟨RX4, "hourOfDay", "()I"⟩
abbrev cX4_humidity : ByteArray := prog_6_method_6_code
def yX4_humidity : MethodName := ⟨RX4, "humidity", "(LMuseumCases$Setup;)I"⟩
abbrev cX4_passHour : ByteArray := prog_6_method_7_code
def yX4_passHour : MethodName := ⟨RX4, "passHour", "(LMuseumCases$Setup;)I"⟩
def RX5 : String := "MuseumCases$Setup"
def TX5 : u_T := fun k => match k with
  | 0 => ("MuseumCases$Setup", "persistence", "I", false)
  | 1 => ("MuseumCases$Setup", "loadOfVisitor", "I", false)
  | 2 => ("MuseumCases$Setup", "seasonCount", "I", false)
  | 3 => ("MuseumCases$Setup", "seasonDays", "[I", true)
  | 4 => ("MuseumCases$Setup", "seasonPoints", "[I", true)
  | 5 => ("MuseumCases$Setup", "visitorsOfHours", "[I", true)
  | 6 => ("MuseumCases$Setup", "kindCount", "I", false)
  | 7 => ("MuseumCases$Setup", "kinds", "[LMuseumCases$Kind;", true)
  | 8 => ("MuseumCases$Setup", "caseCount", "I", false)
  | 9 => ("MuseumCases$Setup", "vitrines", "[LMuseumCases$Vitrine;", true)
  | _ => ("MuseumCases$Setup", "cassetteCount", "I", false)
def tyX5 : Nat → FieldType := fun k => match k with
  | 0 => .int
  | 1 => .int
  | 2 => .int
  | 3 => .array .int
  | 4 => .array .int
  | 5 => .array .int
  | 6 => .int
  | 7 => .array (.object "MuseumCases$Kind")
  | 8 => .int
  | 9 => .array (.object "MuseumCases$Vitrine")
  | _ => .int
abbrev wsX50 : List Cond := u_ws RX5 TX5 11
theorem nmX5 : ∀ a, a < 11 → ∀ b, b < 11 → a ≠ b → (TX5 a).2.1 ≠ (TX5 b).2.1 := by decide +kernel
theorem tyX5_ok : ∀ k, k < 11 → parseFieldDescriptor (TX5 k).2.2.1 = some (tyX5 k) := by decide +kernel
abbrev cX5_init : ByteArray := prog_7_method_1_code
def yX5_init : MethodName := ⟨RX5, "<init>", "()V"⟩
abbrev cX5_clear : ByteArray := prog_7_method_2_code
def yX5_clear : MethodName := ⟨RX5, "clear", "()V"⟩
abbrev cX5_nextDay : ByteArray := prog_7_method_3_code
def yX5_nextDay : MethodName := ⟨RX5, "nextDay", "()I"⟩
abbrev cX5_addSeason : ByteArray := prog_7_method_4_code
def yX5_addSeason : MethodName := ⟨RX5, "addSeason", "(II)V"⟩
abbrev cX5_addVisitors : ByteArray := prog_7_method_5_code
def yX5_addVisitors : MethodName := ⟨RX5, "addVisitors", "(III)V"⟩
abbrev cX5_visitorsAt : ByteArray := prog_7_method_6_code
def yX5_visitorsAt : MethodName := ⟨RX5, "visitorsAt", "(I)I"⟩
abbrev cX5_setPointOf : ByteArray := prog_7_method_7_code
def yX5_setPointOf : MethodName := ⟨RX5, "setPointOf", "(I)I"⟩
def RX6 : String := "MuseumCases$State"
def TX6 : u_T := fun k => match k with
  | 0 => ("MuseumCases$State", "room", "LMuseumCases$Room;", true)
  | 1 => ("MuseumCases$State", "nextSerial", "I", false)
  | 2 => ("MuseumCases$State", "caseCount", "I", false)
  | 3 => ("MuseumCases$State", "vitrines", "[LMuseumCases$Vitrine;", true)
  | _ => ("MuseumCases$State", "logbooks", "[LMuseumCases$Logbook;", true)
def tyX6 : Nat → FieldType := fun k => match k with
  | 0 => .object "MuseumCases$Room"
  | 1 => .int
  | 2 => .int
  | 3 => .array (.object "MuseumCases$Vitrine")
  | _ => .array (.object "MuseumCases$Logbook")
abbrev wsX60 : List Cond := u_ws RX6 TX6 5
theorem nmX6 : ∀ a, a < 5 → ∀ b, b < 5 → a ≠ b → (TX6 a).2.1 ≠ (TX6 b).2.1 := by decide +kernel
theorem tyX6_ok : ∀ k, k < 5 → parseFieldDescriptor (TX6 k).2.2.1 = some (tyX6 k) := by decide +kernel
abbrev cX6_init : ByteArray := prog_8_method_1_code
def yX6_init : MethodName := ⟨RX6, "<init>", "()V"⟩
abbrev cX6_begin : ByteArray := prog_8_method_2_code
def yX6_begin : MethodName := ⟨RX6, "begin", "(LMuseumCases$Setup;)V"⟩
abbrev cX6_copyFrom : ByteArray := prog_8_method_3_code
def yX6_copyFrom : MethodName := ⟨RX6, "copyFrom", "(LMuseumCases$State;)V"⟩
abbrev cX6_takeSerial : ByteArray := prog_8_method_4_code
def yX6_takeSerial : MethodName := ⟨RX6, "takeSerial", "()I"⟩
abbrev cX6_cassettesInAll : ByteArray := prog_8_method_5_code
def yX6_cassettesInAll : MethodName := ⟨RX6, "cassettesInAll", "()I"⟩
abbrev cX6_holderOf : ByteArray := prog_8_method_6_code
def yX6_holderOf : MethodName := ⟨RX6, "holderOf", "(I)I"⟩
abbrev cX6_passHour : ByteArray := prog_8_method_7_code
def yX6_passHour : MethodName := ⟨RX6, "passHour", "(LMuseumCases$Setup;)I"⟩
def RX7 : String := "MuseumCases$Vitrine"
def TX7 : u_T := fun k => match k with
  | 0 => ("MuseumCases$Vitrine", "volume", "I", false)
  | 1 => ("MuseumCases$Vitrine", "leak", "I", false)
  | 2 => ("MuseumCases$Vitrine", "low", "I", false)
  | 3 => ("MuseumCases$Vitrine", "high", "I", false)
  | 4 => ("MuseumCases$Vitrine", "air", "I", false)
  | 5 => ("MuseumCases$Vitrine", "count", "I", false)
  | _ => ("MuseumCases$Vitrine", "cassettes", "[LMuseumCases$Cassette;", true)
def tyX7 : Nat → FieldType := fun k => match k with
  | 0 => .int
  | 1 => .int
  | 2 => .int
  | 3 => .int
  | 4 => .int
  | 5 => .int
  | _ => .array (.object "MuseumCases$Cassette")
abbrev wsX70 : List Cond := u_ws RX7 TX7 7
theorem nmX7 : ∀ a, a < 7 → ∀ b, b < 7 → a ≠ b → (TX7 a).2.1 ≠ (TX7 b).2.1 := by decide +kernel
theorem tyX7_ok : ∀ k, k < 7 → parseFieldDescriptor (TX7 k).2.2.1 = some (tyX7 k) := by decide +kernel
abbrev cX7_init : ByteArray := prog_9_method_1_code
def yX7_init : MethodName := ⟨RX7, "<init>", "()V"⟩
abbrev cX7_begin : ByteArray := prog_9_method_2_code
def yX7_begin : MethodName := ⟨RX7, "begin", "(III)V"⟩
abbrev cX7_copyFrom : ByteArray := prog_9_method_3_code
def yX7_copyFrom : MethodName := ⟨RX7, "copyFrom", "(LMuseumCases$Vitrine;)V"⟩
abbrev cX7_fillAir : ByteArray := prog_9_method_4_code
def yX7_fillAir : MethodName := ⟨RX7, "fillAir", "(I)V"⟩
abbrev cX7_airAt : ByteArray := prog_9_method_5_code
def yX7_airAt : MethodName := ⟨RX7, "airAt", "(I)I"⟩
abbrev cX7_humidity : ByteArray := prog_9_method_6_code
def yX7_humidity : MethodName := ⟨RX7, "humidity", "()I"⟩
abbrev cX7_isUnsafe : ByteArray := prog_9_method_7_code
def yX7_isUnsafe : MethodName := ⟨RX7, "isUnsafe", "()Z"⟩
abbrev cX7_isFull : ByteArray := prog_9_method_8_code
def yX7_isFull : MethodName := ⟨RX7, "isFull", "()Z"⟩
abbrev cX7_moistureOfCassettes : ByteArray := prog_9_method_9_code
def yX7_moistureOfCassettes : MethodName := ⟨RX7, "moistureOfCassettes", "()I"⟩
abbrev cX7_moisture : ByteArray := prog_9_method_10_code
def yX7_moisture : MethodName := ⟨RX7, "moisture", "()I"⟩
abbrev cX7_moistureAt : ByteArray := prog_9_method_11_code
def yX7_moistureAt : MethodName := ⟨RX7, "moistureAt", "(I)I"⟩
abbrev cX7_restHumidity : ByteArray := prog_9_method_12_code
def yX7_restHumidity : MethodName := ⟨RX7, "restHumidity", "()I"⟩
abbrev cX7_indexOf : ByteArray := prog_9_method_13_code
def yX7_indexOf : MethodName := ⟨RX7, "indexOf", "(I)I"⟩
abbrev cX7_moistureOf : ByteArray := prog_9_method_14_code
def yX7_moistureOf : MethodName := ⟨RX7, "moistureOf", "(I)I"⟩
abbrev cX7_put : ByteArray := prog_9_method_15_code
def yX7_put : MethodName := ⟨RX7, "put", "(ILMuseumCases$Kind;II)V"⟩
abbrev cX7_putCopyOf : ByteArray := prog_9_method_16_code
def yX7_putCopyOf : MethodName := ⟨RX7, "putCopyOf", "(LMuseumCases$Vitrine;I)V"⟩
abbrev cX7_recondition : ByteArray := prog_9_method_17_code
def yX7_recondition : MethodName := ⟨RX7, "recondition", "(III)V"⟩
abbrev cX7_takeOut : ByteArray := prog_9_method_18_code
def yX7_takeOut : MethodName := ⟨RX7, "takeOut", "(I)V"⟩
abbrev cX7_passHour : ByteArray := prog_9_method_19_code
def yX7_passHour : MethodName := ⟨RX7, "passHour", "(I)I"⟩
def RX8 : String := "MuseumCases"
def TX8 : u_T := fun k => match k with
  | 0 => ("MuseumCases", "reader", "LMuseumCases$Reader;", true)
  | 1 => ("MuseumCases", "setup", "LMuseumCases$Setup;", false)
  | 2 => ("MuseumCases", "draft", "LMuseumCases$Setup;", false)
  | 3 => ("MuseumCases", "state", "LMuseumCases$State;", true)
  | 4 => ("MuseumCases", "slots", "[LMuseumCases$State;", true)
  | 5 => ("MuseumCases", "isSaved", "[Z", true)
  | 6 => ("MuseumCases", "roomAhead", "LMuseumCases$Room;", true)
  | 7 => ("MuseumCases", "trial", "LMuseumCases$Vitrine;", true)
  | _ => ("MuseumCases", "roomsAhead", "[I", true)
def tyX8 : Nat → FieldType := fun k => match k with
  | 0 => .object "MuseumCases$Reader"
  | 1 => .object "MuseumCases$Setup"
  | 2 => .object "MuseumCases$Setup"
  | 3 => .object "MuseumCases$State"
  | 4 => .array (.object "MuseumCases$State")
  | 5 => .array .boolean
  | 6 => .object "MuseumCases$Room"
  | 7 => .object "MuseumCases$Vitrine"
  | _ => .array .int
abbrev wsX80 : List Cond := u_ws RX8 TX8 9
theorem nmX8 : ∀ a, a < 9 → ∀ b, b < 9 → a ≠ b → (TX8 a).2.1 ≠ (TX8 b).2.1 := by decide +kernel
theorem tyX8_ok : ∀ k, k < 9 → parseFieldDescriptor (TX8 k).2.2.1 = some (tyX8 k) := by decide +kernel
abbrev cX8_init : ByteArray := prog_1_method_1_code
def yX8_init : MethodName := ⟨RX8, "<init>", "()V"⟩
abbrev cX8_append : ByteArray := prog_1_method_2_code
def yX8_append : MethodName := ⟨RX8, "append", "(IIIII)I"⟩
abbrev cX8_truncate : ByteArray := prog_1_method_3_code
def yX8_truncate : MethodName := ⟨RX8, "truncate", "(I)I"⟩
abbrev cX8_load : ByteArray := prog_1_method_4_code
def yX8_load : MethodName := ⟨RX8, "load", "()I"⟩
abbrev cX8_errorCode : ByteArray := prog_1_method_5_code
def yX8_errorCode : MethodName := ⟨RX8, "errorCode", "()I"⟩
abbrev cX8_errorPosition : ByteArray := prog_1_method_6_code
def yX8_errorPosition : MethodName := ⟨RX8, "errorPosition", "()I"⟩
abbrev cX8_report : ByteArray := prog_1_method_7_code
def yX8_report : MethodName := ⟨RX8, "report", "(I)I"⟩
abbrev cX8_setPoint : ByteArray := prog_1_method_8_code
def yX8_setPoint : MethodName := ⟨RX8, "setPoint", "(I)I"⟩
abbrev cX8_visitors : ByteArray := prog_1_method_9_code
def yX8_visitors : MethodName := ⟨RX8, "visitors", "(I)I"⟩
abbrev cX8_content : ByteArray := prog_1_method_10_code
def yX8_content : MethodName := ⟨RX8, "content", "(II)I"⟩
abbrev cX8_announce : ByteArray := prog_1_method_11_code
def yX8_announce : MethodName := ⟨RX8, "announce", "(I)I"⟩
abbrev cX8_displayCase : ByteArray := prog_1_method_12_code
def yX8_displayCase : MethodName := ⟨RX8, "displayCase", "(II)I"⟩
abbrev cX8_balance : ByteArray := prog_1_method_13_code
def yX8_balance : MethodName := ⟨RX8, "balance", "(II)J"⟩
abbrev cX8_recorded : ByteArray := prog_1_method_14_code
def yX8_recorded : MethodName := ⟨RX8, "recorded", "(II)I"⟩
abbrev cX8_swing : ByteArray := prog_1_method_15_code
def yX8_swing : MethodName := ⟨RX8, "swing", "(I)I"⟩
abbrev cX8_mean : ByteArray := prog_1_method_16_code
def yX8_mean : MethodName := ⟨RX8, "mean", "(I)D"⟩
abbrev cX8_buffering : ByteArray := prog_1_method_17_code
def yX8_buffering : MethodName := ⟨RX8, "buffering", "(I)D"⟩
abbrev cX8_setLeak : ByteArray := prog_1_method_18_code
def yX8_setLeak : MethodName := ⟨RX8, "setLeak", "(II)I"⟩
abbrev cX8_setSafe : ByteArray := prog_1_method_19_code
def yX8_setSafe : MethodName := ⟨RX8, "setSafe", "(III)V"⟩
abbrev cX8_open : ByteArray := prog_1_method_20_code
def yX8_open : MethodName := ⟨RX8, "open", "(I)I"⟩
abbrev cX8_cassette : ByteArray := prog_1_method_21_code
def yX8_cassette : MethodName := ⟨RX8, "cassette", "(III)I"⟩
abbrev cX8_caseOf : ByteArray := prog_1_method_22_code
def yX8_caseOf : MethodName := ⟨RX8, "caseOf", "(I)I"⟩
abbrev cX8_add : ByteArray := prog_1_method_23_code
def yX8_add : MethodName := ⟨RX8, "add", "(IIII)I"⟩
abbrev cX8_remove : ByteArray := prog_1_method_24_code
def yX8_remove : MethodName := ⟨RX8, "remove", "(I)I"⟩
abbrev cX8_move : ByteArray := prog_1_method_25_code
def yX8_move : MethodName := ⟨RX8, "move", "(II)I"⟩
abbrev cX8_exchange : ByteArray := prog_1_method_26_code
def yX8_exchange : MethodName := ⟨RX8, "exchange", "(II)I"⟩
abbrev cX8_advance : ByteArray := prog_1_method_27_code
def yX8_advance : MethodName := ⟨RX8, "advance", "(I)I"⟩
abbrev cX8_roomIn : ByteArray := prog_1_method_28_code
def yX8_roomIn : MethodName := ⟨RX8, "roomIn", "(I)I"⟩
abbrev cX8_humidityIn : ByteArray := prog_1_method_29_code
def yX8_humidityIn : MethodName := ⟨RX8, "humidityIn", "(II)I"⟩
abbrev cX8_unsafeIn : ByteArray := prog_1_method_30_code
def yX8_unsafeIn : MethodName := ⟨RX8, "unsafeIn", "(I)I"⟩
abbrev cX8_restOf : ByteArray := prog_1_method_31_code
def yX8_restOf : MethodName := ⟨RX8, "restOf", "(I)I"⟩
abbrev cX8_massFor : ByteArray := prog_1_method_32_code
def yX8_massFor : MethodName := ⟨RX8, "massFor", "(IIII)I"⟩
abbrev cX8_bestFor : ByteArray := prog_1_method_33_code
def yX8_bestFor : MethodName := ⟨RX8, "bestFor", "(II)I"⟩
abbrev cX8_foreseeRooms : ByteArray := prog_1_method_34_code
def yX8_foreseeRooms : MethodName := ⟨RX8, "foreseeRooms", "(I)V"⟩
abbrev cX8_unsafeHoursOfTrial : ByteArray := prog_1_method_35_code
def yX8_unsafeHoursOfTrial : MethodName := ⟨RX8, "unsafeHoursOfTrial", "(II)I"⟩
abbrev cX8_save : ByteArray := prog_1_method_36_code
def yX8_save : MethodName := ⟨RX8, "save", "(I)V"⟩
abbrev cX8_restore : ByteArray := prog_1_method_37_code
def yX8_restore : MethodName := ⟨RX8, "restore", "(I)V"⟩
abbrev cX8_vitrineAt : ByteArray := prog_1_method_38_code
def yX8_vitrineAt : MethodName := ⟨RX8, "vitrineAt", "(I)LMuseumCases$Vitrine;"⟩
abbrev cX8_logbookAt : ByteArray := prog_1_method_39_code
def yX8_logbookAt : MethodName := ⟨RX8, "logbookAt", "(I)LMuseumCases$Logbook;"⟩
abbrev cX8_kindAt : ByteArray := prog_1_method_40_code
def yX8_kindAt : MethodName := ⟨RX8, "kindAt", "(I)LMuseumCases$Kind;"⟩
abbrev cX8_requireHumidity : ByteArray := prog_1_method_41_code
def yX8_requireHumidity : MethodName := ⟨RX8, "requireHumidity", "(I)V"⟩
abbrev cX8_requireHours : ByteArray := prog_1_method_42_code
def yX8_requireHours : MethodName := ⟨RX8, "requireHours", "(III)V"⟩
abbrev cX8_requireAnHour : ByteArray := prog_1_method_43_code
def yX8_requireAnHour : MethodName := ⟨RX8, "requireAnHour", "()V"⟩
abbrev cX8_requireSlot : ByteArray := prog_1_method_44_code
def yX8_requireSlot : MethodName := ⟨RX8, "requireSlot", "(I)V"⟩
abbrev cX8_onLine : ByteArray := prog_1_method_45_code
def yX8_onLine : MethodName := ⟨RX8, "onLine", "(IIII)I"⟩
def RX9 : String := "MuseumCasesModel"
def TX9 : u_T := fun k => match k with
  | 0 => ("MuseumCasesModel", "thrown", "I", false)
  | 1 => ("MuseumCasesModel", "p", "[I", true)
  | 2 => ("MuseumCasesModel", "told", "[I", true)
  | 3 => ("MuseumCasesModel", "a", "[I", true)
  | 4 => ("MuseumCasesModel", "beside", "[I", true)
  | 5 => ("MuseumCasesModel", "saved", "[I", true)
  | 6 => ("MuseumCasesModel", "fresh", "[I", true)
  | 7 => ("MuseumCasesModel", "b", "[J", true)
  | 8 => ("MuseumCasesModel", "besideLong", "[J", true)
  | 9 => ("MuseumCasesModel", "savedLong", "[J", true)
  | 10 => ("MuseumCasesModel", "isSaved", "[Z", true)
  | 11 => ("MuseumCasesModel", "text", "[I", true)
  | 12 => ("MuseumCasesModel", "typed", "I", false)
  | 13 => ("MuseumCasesModel", "ended", "I", false)
  | 14 => ("MuseumCasesModel", "next", "I", false)
  | 15 => ("MuseumCasesModel", "begin", "I", false)
  | 16 => ("MuseumCasesModel", "sort", "I", false)
  | 17 => ("MuseumCasesModel", "number", "I", false)
  | 18 => ("MuseumCasesModel", "errorCode", "I", false)
  | 19 => ("MuseumCasesModel", "errorAt", "I", false)
  | 20 => ("MuseumCasesModel", "name", "J", false)
  | 21 => ("MuseumCasesModel", "kindName", "[J", true)
  | 22 => ("MuseumCasesModel", "caseName", "[J", true)
  | 23 => ("MuseumCasesModel", "foundCase", "I", false)
  | 24 => ("MuseumCasesModel", "foundIndex", "I", false)
  | _ => ("MuseumCasesModel", "roomThen", "I", false)
def tyX9 : Nat → FieldType := fun k => match k with
  | 0 => .int
  | 1 => .array .int
  | 2 => .array .int
  | 3 => .array .int
  | 4 => .array .int
  | 5 => .array .int
  | 6 => .array .int
  | 7 => .array .long
  | 8 => .array .long
  | 9 => .array .long
  | 10 => .array .boolean
  | 11 => .array .int
  | 12 => .int
  | 13 => .int
  | 14 => .int
  | 15 => .int
  | 16 => .int
  | 17 => .int
  | 18 => .int
  | 19 => .int
  | 20 => .long
  | 21 => .array .long
  | 22 => .array .long
  | 23 => .int
  | 24 => .int
  | _ => .int
abbrev wsX90 : List Cond := u_ws RX9 TX9 26
theorem nmX9 : ∀ a, a < 26 → ∀ b, b < 26 → a ≠ b → (TX9 a).2.1 ≠ (TX9 b).2.1 := by decide +kernel
theorem tyX9_ok : ∀ k, k < 26 → parseFieldDescriptor (TX9 k).2.2.1 = some (tyX9 k) := by decide +kernel
abbrev cX9_init : ByteArray := prog_11_method_1_code
def yX9_init : MethodName := ⟨RX9, "<init>", "()V"⟩
abbrev cX9_thrown : ByteArray := prog_11_method_2_code
def yX9_thrown : MethodName := ⟨RX9, "thrown", "()I"⟩
abbrev cX9_isIn : ByteArray := prog_11_method_3_code
def yX9_isIn : MethodName := ⟨RX9, "isIn", "(III)Z"⟩
abbrev cX9_may : ByteArray := prog_11_method_4_code
def yX9_may : MethodName := ⟨RX9, "may", "(ZI)Z"⟩
abbrev cX9_plain : ByteArray := prog_11_method_5_code
def yX9_plain : MethodName := ⟨RX9, "plain", "()V"⟩
abbrev cX9_takes : ByteArray := prog_11_method_6_code
def yX9_takes : MethodName := ⟨RX9, "takes", "()V"⟩
abbrev cX9_of : ByteArray := prog_11_method_7_code
def yX9_of : MethodName := ⟨RX9, "of", "(II)I"⟩
abbrev cX9_lays : ByteArray := prog_11_method_8_code
def yX9_lays : MethodName := ⟨RX9, "lays", "(III)V"⟩
abbrev cX9_its : ByteArray := prog_11_method_9_code
def yX9_its : MethodName := ⟨RX9, "its", "(III)I"⟩
abbrev cX9_cassettes : ByteArray := prog_11_method_10_code
def yX9_cassettes : MethodName := ⟨RX9, "cassettes", "(IIII)V"⟩
abbrev cX9_counts : ByteArray := prog_11_method_11_code
def yX9_counts : MethodName := ⟨RX9, "counts", "(IIJ)V"⟩
abbrev cX9_append : ByteArray := prog_11_method_12_code
def yX9_append : MethodName := ⟨RX9, "append", "(IIIII)I"⟩
abbrev cX9_truncate : ByteArray := prog_11_method_13_code
def yX9_truncate : MethodName := ⟨RX9, "truncate", "(I)I"⟩
abbrev cX9_at : ByteArray := prog_11_method_14_code
def yX9_at : MethodName := ⟨RX9, "at", "(I)I"⟩
abbrev cX9_isLetter : ByteArray := prog_11_method_15_code
def yX9_isLetter : MethodName := ⟨RX9, "isLetter", "(I)Z"⟩
abbrev cX9_isDigit : ByteArray := prog_11_method_16_code
def yX9_isDigit : MethodName := ⟨RX9, "isDigit", "(I)Z"⟩
abbrev cX9_token : ByteArray := prog_11_method_17_code
def yX9_token : MethodName := ⟨RX9, "token", "()V"⟩
abbrev cX9_isWrong : ByteArray := prog_11_method_18_code
def yX9_isWrong : MethodName := ⟨RX9, "isWrong", "()Z"⟩
abbrev cX9_fails : ByteArray := prog_11_method_19_code
def yX9_fails : MethodName := ⟨RX9, "fails", "(I)V"⟩
abbrev cX9_isWord : ByteArray := prog_11_method_20_code
def yX9_isWord : MethodName := ⟨RX9, "isWord", "(Ljava/lang/String;)Z"⟩
abbrev cX9_takesWord : ByteArray := prog_11_method_21_code
def yX9_takesWord : MethodName := ⟨RX9, "takesWord", "(Ljava/lang/String;)Z"⟩
abbrev cX9_figure : ByteArray := prog_11_method_22_code
def yX9_figure : MethodName := ⟨RX9, "figure", "(II)I"⟩
abbrev cX9_ends : ByteArray := prog_11_method_23_code
def yX9_ends : MethodName := ⟨RX9, "ends", "()V"⟩
abbrev cX9_begins : ByteArray := prog_11_method_24_code
def yX9_begins : MethodName := ⟨RX9, "begins", "(II)Z"⟩
abbrev cX9_named : ByteArray := prog_11_method_25_code
def yX9_named : MethodName := ⟨RX9, "named", "([JI)I"⟩
abbrev cX9_newName : ByteArray := prog_11_method_26_code
def yX9_newName : MethodName := ⟨RX9, "newName", "([JI)Z"⟩
abbrev cX9_season : ByteArray := prog_11_method_27_code
def yX9_season : MethodName := ⟨RX9, "season", "()V"⟩
abbrev cX9_visitors : ByteArray := prog_11_method_28_code
def yX9_visitors : MethodName := ⟨RX9, "visitors", "()V"⟩
abbrev cX9_point : ByteArray := prog_11_method_29_code
def yX9_point : MethodName := ⟨RX9, "point", "(II)V"⟩
abbrev cX9_kind : ByteArray := prog_11_method_30_code
def yX9_kind : MethodName := ⟨RX9, "kind", "()V"⟩
abbrev cX9_oneCase : ByteArray := prog_11_method_31_code
def yX9_oneCase : MethodName := ⟨RX9, "oneCase", "()V"⟩
abbrev cX9_oneCassette : ByteArray := prog_11_method_32_code
def yX9_oneCassette : MethodName := ⟨RX9, "oneCassette", "()V"⟩
abbrev cX9_reads : ByteArray := prog_11_method_33_code
def yX9_reads : MethodName := ⟨RX9, "reads", "()V"⟩
abbrev cX9_load : ByteArray := prog_11_method_34_code
def yX9_load : MethodName := ⟨RX9, "load", "()I"⟩
abbrev cX9_errorCode : ByteArray := prog_11_method_35_code
def yX9_errorCode : MethodName := ⟨RX9, "errorCode", "()I"⟩
abbrev cX9_errorPosition : ByteArray := prog_11_method_36_code
def yX9_errorPosition : MethodName := ⟨RX9, "errorPosition", "()I"⟩
abbrev cX9_line : ByteArray := prog_11_method_37_code
def yX9_line : MethodName := ⟨RX9, "line", "(IIII)I"⟩
abbrev cX9_setOn : ByteArray := prog_11_method_38_code
def yX9_setOn : MethodName := ⟨RX9, "setOn", "(I)I"⟩
abbrev cX9_roomNow : ByteArray := prog_11_method_39_code
def yX9_roomNow : MethodName := ⟨RX9, "roomNow", "()I"⟩
abbrev cX9_cassettesInAll : ByteArray := prog_11_method_40_code
def yX9_cassettesInAll : MethodName := ⟨RX9, "cassettesInAll", "()I"⟩
abbrev cX9_report : ByteArray := prog_11_method_41_code
def yX9_report : MethodName := ⟨RX9, "report", "(I)I"⟩
abbrev cX9_setPoint : ByteArray := prog_11_method_42_code
def yX9_setPoint : MethodName := ⟨RX9, "setPoint", "(I)I"⟩
abbrev cX9_visitors_ : ByteArray := prog_11_method_43_code
def yX9_visitors_ : MethodName := ⟨RX9, "visitors", "(I)I"⟩
abbrev cX9_contentOf : ByteArray := prog_11_method_44_code
def yX9_contentOf : MethodName := ⟨RX9, "contentOf", "(II)I"⟩
abbrev cX9_wouldHave : ByteArray := prog_11_method_45_code
def yX9_wouldHave : MethodName := ⟨RX9, "wouldHave", "(III)I"⟩
abbrev cX9_isKind : ByteArray := prog_11_method_46_code
def yX9_isKind : MethodName := ⟨RX9, "isKind", "(I)Z"⟩
abbrev cX9_isCase : ByteArray := prog_11_method_47_code
def yX9_isCase : MethodName := ⟨RX9, "isCase", "(I)Z"⟩
abbrev cX9_content : ByteArray := prog_11_method_48_code
def yX9_content : MethodName := ⟨RX9, "content", "(II)I"⟩
abbrev cX9_announce : ByteArray := prog_11_method_49_code
def yX9_announce : MethodName := ⟨RX9, "announce", "(I)I"⟩
abbrev cX9_humidityOf : ByteArray := prog_11_method_50_code
def yX9_humidityOf : MethodName := ⟨RX9, "humidityOf", "(I)I"⟩
abbrev cX9_inCassettes : ByteArray := prog_11_method_51_code
def yX9_inCassettes : MethodName := ⟨RX9, "inCassettes", "(I)I"⟩
abbrev cX9_moistureOf : ByteArray := prog_11_method_52_code
def yX9_moistureOf : MethodName := ⟨RX9, "moistureOf", "(I)J"⟩
abbrev cX9_displayCase : ByteArray := prog_11_method_53_code
def yX9_displayCase : MethodName := ⟨RX9, "displayCase", "(II)I"⟩
abbrev cX9_balance : ByteArray := prog_11_method_54_code
def yX9_balance : MethodName := ⟨RX9, "balance", "(II)J"⟩
abbrev cX9_recordOf : ByteArray := prog_11_method_55_code
def yX9_recordOf : MethodName := ⟨RX9, "recordOf", "(II)I"⟩
abbrev cX9_recorded : ByteArray := prog_11_method_56_code
def yX9_recorded : MethodName := ⟨RX9, "recorded", "(II)I"⟩
abbrev cX9_swing : ByteArray := prog_11_method_57_code
def yX9_swing : MethodName := ⟨RX9, "swing", "(I)I"⟩
abbrev cX9_mean : ByteArray := prog_11_method_58_code
def yX9_mean : MethodName := ⟨RX9, "mean", "(I)D"⟩
abbrev cX9_buffering : ByteArray := prog_11_method_59_code
def yX9_buffering : MethodName := ⟨RX9, "buffering", "(I)D"⟩
abbrev cX9_setLeak : ByteArray := prog_11_method_60_code
def yX9_setLeak : MethodName := ⟨RX9, "setLeak", "(II)I"⟩
abbrev cX9_setSafe : ByteArray := prog_11_method_61_code
def yX9_setSafe : MethodName := ⟨RX9, "setSafe", "(III)V"⟩
abbrev cX9_open : ByteArray := prog_11_method_62_code
def yX9_open : MethodName := ⟨RX9, "open", "(I)I"⟩
abbrev cX9_finds : ByteArray := prog_11_method_63_code
def yX9_finds : MethodName := ⟨RX9, "finds", "(I)Z"⟩
abbrev cX9_ownHumidity : ByteArray := prog_11_method_64_code
def yX9_ownHumidity : MethodName := ⟨RX9, "ownHumidity", "(II)I"⟩
abbrev cX9_cassette : ByteArray := prog_11_method_65_code
def yX9_cassette : MethodName := ⟨RX9, "cassette", "(III)I"⟩
abbrev cX9_caseOf : ByteArray := prog_11_method_66_code
def yX9_caseOf : MethodName := ⟨RX9, "caseOf", "(I)I"⟩
abbrev cX9_puts : ByteArray := prog_11_method_67_code
def yX9_puts : MethodName := ⟨RX9, "puts", "(IIIIII)V"⟩
abbrev cX9_addsTo : ByteArray := prog_11_method_68_code
def yX9_addsTo : MethodName := ⟨RX9, "addsTo", "(IIIII)V"⟩
abbrev cX9_newSerial : ByteArray := prog_11_method_69_code
def yX9_newSerial : MethodName := ⟨RX9, "newSerial", "()I"⟩
abbrev cX9_add : ByteArray := prog_11_method_70_code
def yX9_add : MethodName := ⟨RX9, "add", "(IIII)I"⟩
abbrev cX9_goes : ByteArray := prog_11_method_71_code
def yX9_goes : MethodName := ⟨RX9, "goes", "(II)I"⟩
abbrev cX9_remove : ByteArray := prog_11_method_72_code
def yX9_remove : MethodName := ⟨RX9, "remove", "(I)I"⟩
abbrev cX9_move : ByteArray := prog_11_method_73_code
def yX9_move : MethodName := ⟨RX9, "move", "(II)I"⟩
abbrev cX9_exchanges : ByteArray := prog_11_method_74_code
def yX9_exchanges : MethodName := ⟨RX9, "exchanges", "(IIII)V"⟩
abbrev cX9_exchange : ByteArray := prog_11_method_75_code
def yX9_exchange : MethodName := ⟨RX9, "exchange", "(II)I"⟩
abbrev cX9_airs : ByteArray := prog_11_method_76_code
def yX9_airs : MethodName := ⟨RX9, "airs", "(II)V"⟩
abbrev cX9_records : ByteArray := prog_11_method_77_code
def yX9_records : MethodName := ⟨RX9, "records", "(I)Z"⟩
abbrev cX9_hour : ByteArray := prog_11_method_78_code
def yX9_hour : MethodName := ⟨RX9, "hour", "(II)I"⟩
abbrev cX9_hours : ByteArray := prog_11_method_79_code
def yX9_hours : MethodName := ⟨RX9, "hours", "(III)I"⟩
abbrev cX9_advance : ByteArray := prog_11_method_80_code
def yX9_advance : MethodName := ⟨RX9, "advance", "(I)I"⟩
abbrev cX9_setsAside : ByteArray := prog_11_method_81_code
def yX9_setsAside : MethodName := ⟨RX9, "setsAside", "()V"⟩
abbrev cX9_bringsBack : ByteArray := prog_11_method_82_code
def yX9_bringsBack : MethodName := ⟨RX9, "bringsBack", "()V"⟩
abbrev cX9_roomIn : ByteArray := prog_11_method_83_code
def yX9_roomIn : MethodName := ⟨RX9, "roomIn", "(I)I"⟩
abbrev cX9_humidityIn : ByteArray := prog_11_method_84_code
def yX9_humidityIn : MethodName := ⟨RX9, "humidityIn", "(II)I"⟩
abbrev cX9_unsafeIn : ByteArray := prog_11_method_85_code
def yX9_unsafeIn : MethodName := ⟨RX9, "unsafeIn", "(I)I"⟩
abbrev cX9_restOf : ByteArray := prog_11_method_86_code
def yX9_restOf : MethodName := ⟨RX9, "restOf", "(I)I"⟩
abbrev cX9_massFor : ByteArray := prog_11_method_87_code
def yX9_massFor : MethodName := ⟨RX9, "massFor", "(IIII)I"⟩
abbrev cX9_bestFor : ByteArray := prog_11_method_88_code
def yX9_bestFor : MethodName := ⟨RX9, "bestFor", "(II)I"⟩
abbrev cX9_save : ByteArray := prog_11_method_89_code
def yX9_save : MethodName := ⟨RX9, "save", "(I)V"⟩
abbrev cX9_restore : ByteArray := prog_11_method_90_code
def yX9_restore : MethodName := ⟨RX9, "restore", "(I)V"⟩
def RJx145de : String := "java/io/Serializable"
def TJx145de : u_T := fun k => match k with
  | _ => ("", "", "", false)
def tyJx145de : Nat → FieldType := fun k => match k with
  | _ => .int
abbrev wsJx145de0 : List Cond := u_ws RJx145de TJx145de 0
theorem nmJx145de : ∀ a, a < 0 → ∀ b, b < 0 → a ≠ b → (TJx145de a).2.1 ≠ (TJx145de b).2.1 := by decide +kernel
theorem tyJx145de_ok : ∀ k, k < 0 → parseFieldDescriptor (TJx145de k).2.2.1 = some (tyJx145de k) := by decide +kernel
def RJx9f9b0 : String := "java/lang/CharSequence"
def TJx9f9b0 : u_T := fun k => match k with
  | _ => ("", "", "", false)
def tyJx9f9b0 : Nat → FieldType := fun k => match k with
  | _ => .int
abbrev wsJx9f9b00 : List Cond := u_ws RJx9f9b0 TJx9f9b0 0
theorem nmJx9f9b0 : ∀ a, a < 0 → ∀ b, b < 0 → a ≠ b → (TJx9f9b0 a).2.1 ≠ (TJx9f9b0 b).2.1 := by decide +kernel
theorem tyJx9f9b0_ok : ∀ k, k < 0 → parseFieldDescriptor (TJx9f9b0 k).2.2.1 = some (tyJx9f9b0 k) := by decide +kernel
def RJxb160c : String := "java/lang/Comparable"
def TJxb160c : u_T := fun k => match k with
  | _ => ("", "", "", false)
def tyJxb160c : Nat → FieldType := fun k => match k with
  | _ => .int
abbrev wsJxb160c0 : List Cond := u_ws RJxb160c TJxb160c 0
theorem nmJxb160c : ∀ a, a < 0 → ∀ b, b < 0 → a ≠ b → (TJxb160c a).2.1 ≠ (TJxb160c b).2.1 := by decide +kernel
theorem tyJxb160c_ok : ∀ k, k < 0 → parseFieldDescriptor (TJxb160c k).2.2.1 = some (tyJxb160c k) := by decide +kernel
def RJ0 : String := "java/lang/String"
def TJ0 : u_T := fun k => match k with
  | _ => ("", "", "", false)
def tyJ0 : Nat → FieldType := fun k => match k with
  | _ => .int
abbrev wsJ00 : List Cond := u_ws RJ0 TJ0 0
theorem nmJ0 : ∀ a, a < 0 → ∀ b, b < 0 → a ≠ b → (TJ0 a).2.1 ≠ (TJ0 b).2.1 := by decide +kernel
theorem tyJ0_ok : ∀ k, k < 0 → parseFieldDescriptor (TJ0 k).2.2.1 = some (tyJ0 k) := by decide +kernel
abbrev cJ0_length_8abf5 : ByteArray := prog_20_method_54_code
def yJ0_length_8abf5 : MethodName := ⟨RJ0, "length", "()I"⟩
abbrev cJ0_charAt_5068e : ByteArray := prog_20_method_56_code
def yJ0_charAt_5068e : MethodName := ⟨RJ0, "charAt", "(I)C"⟩
abbrev cJ0_coder_7d493 : ByteArray := prog_20_method_152_code
def yJ0_coder_7d493 : MethodName := ⟨RJ0, "coder", "()B"⟩
abbrev cJ0_isLatin1_aae02 : ByteArray := prog_20_method_154_code
def yJ0_isLatin1_aae02 : MethodName := ⟨RJ0, "isLatin1", "()Z"⟩
abbrev cJ0_checkIndex_df160 : ByteArray := prog_20_method_155_code
def yJ0_checkIndex_df160 : MethodName := ⟨RJ0, "checkIndex", "(II)V"⟩
def RJ1 : String := "java/lang/StringLatin1"
def TJ1 : u_T := fun k => match k with
  | _ => ("", "", "", false)
def tyJ1 : Nat → FieldType := fun k => match k with
  | _ => .int
abbrev wsJ10 : List Cond := u_ws RJ1 TJ1 0
theorem nmJ1 : ∀ a, a < 0 → ∀ b, b < 0 → a ≠ b → (TJ1 a).2.1 ≠ (TJ1 b).2.1 := by decide +kernel
theorem tyJ1_ok : ∀ k, k < 0 → parseFieldDescriptor (TJ1 k).2.2.1 = some (tyJ1 k) := by decide +kernel
abbrev cJ1_charAt_3b067 : ByteArray := prog_21_method_2_code
def yJ1_charAt_3b067 : MethodName := ⟨RJ1, "charAt", "([BI)C"⟩
def RJ2 : String := "java/lang/StringUTF16"
def TJ2 : u_T := fun k => match k with
  | _ => ("", "", "", false)
def tyJ2 : Nat → FieldType := fun k => match k with
  | _ => .int
abbrev wsJ20 : List Cond := u_ws RJ2 TJ2 0
theorem nmJ2 : ∀ a, a < 0 → ∀ b, b < 0 → a ≠ b → (TJ2 a).2.1 ≠ (TJ2 b).2.1 := by decide +kernel
theorem tyJ2_ok : ∀ k, k < 0 → parseFieldDescriptor (TJ2 k).2.2.1 = some (tyJ2 k) := by decide +kernel
abbrev cJ2_getChar_3b067 : ByteArray := prog_22_method_5_code
def yJ2_getChar_3b067 : MethodName := ⟨RJ2, "getChar", "([BI)C"⟩
abbrev cJ2_length_9d52b : ByteArray := prog_22_method_6_code
def yJ2_length_9d52b : MethodName := ⟨RJ2, "length", "([B)I"⟩
abbrev cJ2_charAt_3b067 : ByteArray := prog_22_method_83_code
def yJ2_charAt_3b067 : MethodName := ⟨RJ2, "charAt", "([BI)C"⟩
abbrev cJ2_checkIndex_2214a : ByteArray := prog_22_method_91_code
def yJ2_checkIndex_2214a : MethodName := ⟨RJ2, "checkIndex", "(I[B)V"⟩
def RJ10 : String := "java/lang/System"
def TJ10 : u_T := fun k => match k with
  | _ => ("", "", "", false)
def tyJ10 : Nat → FieldType := fun k => match k with
  | _ => .int
abbrev wsJ100 : List Cond := u_ws RJ10 TJ10 0
theorem nmJ10 : ∀ a, a < 0 → ∀ b, b < 0 → a ≠ b → (TJ10 a).2.1 ≠ (TJ10 b).2.1 := by decide +kernel
theorem tyJ10_ok : ∀ k, k < 0 → parseFieldDescriptor (TJ10 k).2.2.1 = some (tyJ10 k) := by decide +kernel
def RJxfd54e : String := "java/lang/constant/Constable"
def TJxfd54e : u_T := fun k => match k with
  | _ => ("", "", "", false)
def tyJxfd54e : Nat → FieldType := fun k => match k with
  | _ => .int
abbrev wsJxfd54e0 : List Cond := u_ws RJxfd54e TJxfd54e 0
theorem nmJxfd54e : ∀ a, a < 0 → ∀ b, b < 0 → a ≠ b → (TJxfd54e a).2.1 ≠ (TJxfd54e b).2.1 := by decide +kernel
theorem tyJxfd54e_ok : ∀ k, k < 0 → parseFieldDescriptor (TJxfd54e k).2.2.1 = some (tyJxfd54e k) := by decide +kernel
def RJx3cf43 : String := "java/lang/constant/ConstantDesc"
def TJx3cf43 : u_T := fun k => match k with
  | _ => ("", "", "", false)
def tyJx3cf43 : Nat → FieldType := fun k => match k with
  | _ => .int
abbrev wsJx3cf430 : List Cond := u_ws RJx3cf43 TJx3cf43 0
theorem nmJx3cf43 : ∀ a, a < 0 → ∀ b, b < 0 → a ≠ b → (TJx3cf43 a).2.1 ≠ (TJx3cf43 b).2.1 := by decide +kernel
theorem tyJx3cf43_ok : ∀ k, k < 0 → parseFieldDescriptor (TJx3cf43 k).2.2.1 = some (tyJx3cf43 k) := by decide +kernel
def RJ3 : String := "jdk/internal/util/Preconditions"
def TJ3 : u_T := fun k => match k with
  | _ => ("", "", "", false)
def tyJ3 : Nat → FieldType := fun k => match k with
  | _ => .int
abbrev wsJ30 : List Cond := u_ws RJ3 TJ3 0
theorem nmJ3 : ∀ a, a < 0 → ∀ b, b < 0 → a ≠ b → (TJ3 a).2.1 ≠ (TJ3 b).2.1 := by decide +kernel
theorem tyJ3_ok : ∀ k, k < 0 → parseFieldDescriptor (TJ3 k).2.2.1 = some (tyJ3 k) := by decide +kernel
abbrev cJ3_checkIndex_8e157 : ByteArray := prog_28_method_11_code
def yJ3_checkIndex_8e157 : MethodName := ⟨RJ3, "checkIndex", "(IILjava/util/function/BiFunction;)I"⟩
def RL : String := "MuseumCasesLaw"
abbrev cL_append : ByteArray := method_3_code
def yL_append : MethodName := ⟨RL, "append", "(LMuseumCases;IIIII[J)I"⟩
abbrev cL_truncate : ByteArray := method_4_code
def yL_truncate : MethodName := ⟨RL, "truncate", "(LMuseumCases;I[J)I"⟩
abbrev cL_load : ByteArray := method_5_code
def yL_load : MethodName := ⟨RL, "load", "(LMuseumCases;[J)I"⟩
abbrev cL_report : ByteArray := method_6_code
def yL_report : MethodName := ⟨RL, "report", "(LMuseumCases;I[J)I"⟩
abbrev cL_setPoint : ByteArray := method_7_code
def yL_setPoint : MethodName := ⟨RL, "setPoint", "(LMuseumCases;I[J)I"⟩
abbrev cL_visitors : ByteArray := method_8_code
def yL_visitors : MethodName := ⟨RL, "visitors", "(LMuseumCases;I[J)I"⟩
abbrev cL_content : ByteArray := method_9_code
def yL_content : MethodName := ⟨RL, "content", "(LMuseumCases;II[J)I"⟩
abbrev cL_announce : ByteArray := method_10_code
def yL_announce : MethodName := ⟨RL, "announce", "(LMuseumCases;I[J)I"⟩
abbrev cL_displayCase : ByteArray := method_11_code
def yL_displayCase : MethodName := ⟨RL, "displayCase", "(LMuseumCases;II[J)I"⟩
abbrev cL_balance : ByteArray := method_12_code
def yL_balance : MethodName := ⟨RL, "balance", "(LMuseumCases;II[J)I"⟩
abbrev cL_recorded : ByteArray := method_13_code
def yL_recorded : MethodName := ⟨RL, "recorded", "(LMuseumCases;II[J)I"⟩
abbrev cL_swing : ByteArray := method_14_code
def yL_swing : MethodName := ⟨RL, "swing", "(LMuseumCases;I[J)I"⟩
abbrev cL_mean : ByteArray := method_15_code
def yL_mean : MethodName := ⟨RL, "mean", "(LMuseumCases;I[D)I"⟩
abbrev cL_buffering : ByteArray := method_16_code
def yL_buffering : MethodName := ⟨RL, "buffering", "(LMuseumCases;I[D)I"⟩
abbrev cL_setLeak : ByteArray := method_17_code
def yL_setLeak : MethodName := ⟨RL, "setLeak", "(LMuseumCases;II[J)I"⟩
abbrev cL_setSafe : ByteArray := method_18_code
def yL_setSafe : MethodName := ⟨RL, "setSafe", "(LMuseumCases;III)I"⟩
abbrev cL_open : ByteArray := method_19_code
def yL_open : MethodName := ⟨RL, "open", "(LMuseumCases;I[J)I"⟩
abbrev cL_cassette : ByteArray := method_20_code
def yL_cassette : MethodName := ⟨RL, "cassette", "(LMuseumCases;III[J)I"⟩
abbrev cL_caseOf : ByteArray := method_21_code
def yL_caseOf : MethodName := ⟨RL, "caseOf", "(LMuseumCases;I[J)I"⟩
abbrev cL_add : ByteArray := method_22_code
def yL_add : MethodName := ⟨RL, "add", "(LMuseumCases;IIII[J)I"⟩
abbrev cL_remove : ByteArray := method_23_code
def yL_remove : MethodName := ⟨RL, "remove", "(LMuseumCases;I[J)I"⟩
abbrev cL_move : ByteArray := method_24_code
def yL_move : MethodName := ⟨RL, "move", "(LMuseumCases;II[J)I"⟩
abbrev cL_exchange : ByteArray := method_25_code
def yL_exchange : MethodName := ⟨RL, "exchange", "(LMuseumCases;II[J)I"⟩
abbrev cL_advance : ByteArray := method_26_code
def yL_advance : MethodName := ⟨RL, "advance", "(LMuseumCases;I[J)I"⟩
abbrev cL_roomIn : ByteArray := method_27_code
def yL_roomIn : MethodName := ⟨RL, "roomIn", "(LMuseumCases;I[J)I"⟩
abbrev cL_humidityIn : ByteArray := method_28_code
def yL_humidityIn : MethodName := ⟨RL, "humidityIn", "(LMuseumCases;II[J)I"⟩
abbrev cL_unsafeIn : ByteArray := method_29_code
def yL_unsafeIn : MethodName := ⟨RL, "unsafeIn", "(LMuseumCases;I[J)I"⟩
abbrev cL_restOf : ByteArray := method_30_code
def yL_restOf : MethodName := ⟨RL, "restOf", "(LMuseumCases;I[J)I"⟩
abbrev cL_massFor : ByteArray := method_31_code
def yL_massFor : MethodName := ⟨RL, "massFor", "(LMuseumCases;IIII[J)I"⟩
abbrev cL_bestFor : ByteArray := method_32_code
def yL_bestFor : MethodName := ⟨RL, "bestFor", "(LMuseumCases;II[J)I"⟩
abbrev cL_save : ByteArray := method_33_code
def yL_save : MethodName := ⟨RL, "save", "(LMuseumCases;I)I"⟩
abbrev cL_restore : ByteArray := method_34_code
def yL_restore : MethodName := ⟨RL, "restore", "(LMuseumCases;I)I"⟩
abbrev cL_law : ByteArray := code
def yL_law : MethodName := ⟨RL, "law", "([I)Z"⟩
abbrev vwCl : List vw_C := [(RX0, TX0, 4), (RX1, TX1, 5), (RX2, TX2, 9), (RX3, TX3, 10), (RX4, TX4, 3), (RX5, TX5, 11), (RX6, TX6, 5), (RX7, TX7, 7), (RX8, TX8, 9), (RX9, TX9, 26)]
