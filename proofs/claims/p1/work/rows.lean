section
-- ===== PART A: goes FIRST, ahead of the names: the tables' words, and 'selects' of the private methods out of them =====
/-- a private method of a class that the tables say can be made, by its rows of tables_1 -/
def lw_okq (q : MethodName × Nat) : Prop := (q.1.cls ≠ "java/lang/invoke/MethodHandle" ∧ q.1.cls ≠ "java/lang/invoke/VarHandle") ∧ Cond.instantiable q.1.cls q.2 ∈ tables_1 ∧ Cond.privateMethod q.1 ∈ tables_1 ∧ Cond.instanceMethod q.1 ∈ tables_1
theorem lw_p0 : lw_okq (⟨"NailGold$BookReader", "readsLine", "(LNailGold$Book;LNailGold$Court;)Z"⟩, 1) := ⟨⟨by decide +kernel, by decide +kernel⟩, List.mem_of_getElem? (i := 82) (by decide +kernel), List.mem_of_getElem? (i := 541) (by decide +kernel), List.mem_of_getElem? (i := 542) (by decide +kernel)⟩
theorem lw_p1 : lw_okq (⟨"NailGold$BookReader", "readsStep", "(LNailGold$Book;)Z"⟩, 1) := ⟨⟨by decide +kernel, by decide +kernel⟩, List.mem_of_getElem? (i := 82) (by decide +kernel), List.mem_of_getElem? (i := 598) (by decide +kernel), List.mem_of_getElem? (i := 599) (by decide +kernel)⟩
theorem lw_p2 : lw_okq (⟨"NailGold$BookReader", "numberBehind", "(Ljava/lang/String;II)I"⟩, 1) := ⟨⟨by decide +kernel, by decide +kernel⟩, List.mem_of_getElem? (i := 82) (by decide +kernel), List.mem_of_getElem? (i := 604) (by decide +kernel), List.mem_of_getElem? (i := 605) (by decide +kernel)⟩
theorem lw_p3 : lw_okq (⟨"NailGold$BookReader", "readsMan", "(LNailGold$Court;)Z"⟩, 1) := ⟨⟨by decide +kernel, by decide +kernel⟩, List.mem_of_getElem? (i := 82) (by decide +kernel), List.mem_of_getElem? (i := 624) (by decide +kernel), List.mem_of_getElem? (i := 625) (by decide +kernel)⟩
theorem lw_p4 : lw_okq (⟨"NailGold$BookReader", "tricksBehind", "(Ljava/lang/String;)I"⟩, 1) := ⟨⟨by decide +kernel, by decide +kernel⟩, List.mem_of_getElem? (i := 82) (by decide +kernel), List.mem_of_getElem? (i := 631) (by decide +kernel), List.mem_of_getElem? (i := 632) (by decide +kernel)⟩
theorem lw_p5 : lw_okq (⟨"NailGold$BookReader", "readsTest", "(LNailGold$Book;)Z"⟩, 1) := ⟨⟨by decide +kernel, by decide +kernel⟩, List.mem_of_getElem? (i := 82) (by decide +kernel), List.mem_of_getElem? (i := 644) (by decide +kernel), List.mem_of_getElem? (i := 645) (by decide +kernel)⟩
theorem lw_p6 : lw_okq (⟨"NailGold$BookReader", "readsRival", "(LNailGold$Court;)Z"⟩, 1) := ⟨⟨by decide +kernel, by decide +kernel⟩, List.mem_of_getElem? (i := 82) (by decide +kernel), List.mem_of_getElem? (i := 654) (by decide +kernel), List.mem_of_getElem? (i := 655) (by decide +kernel)⟩
theorem lw_p7 : lw_okq (⟨"NailGold$BookReader", "readsChest", "(LNailGold$Court;)Z"⟩, 1) := ⟨⟨by decide +kernel, by decide +kernel⟩, List.mem_of_getElem? (i := 82) (by decide +kernel), List.mem_of_getElem? (i := 663) (by decide +kernel), List.mem_of_getElem? (i := 664) (by decide +kernel)⟩
theorem lw_p8 : lw_okq (⟨"NailGold$BookReader", "readsRule", "(LNailGold$Book;)Z"⟩, 1) := ⟨⟨by decide +kernel, by decide +kernel⟩, List.mem_of_getElem? (i := 82) (by decide +kernel), List.mem_of_getElem? (i := 667) (by decide +kernel), List.mem_of_getElem? (i := 668) (by decide +kernel)⟩
theorem lw_p9 : lw_okq (⟨"java/lang/Throwable", "fillInStackTrace", "(I)Ljava/lang/Throwable;"⟩, 6) := ⟨⟨by decide +kernel, by decide +kernel⟩, List.mem_of_getElem? (i := 722) (by decide +kernel), List.mem_of_getElem? (i := 720) (by decide +kernel), List.mem_of_getElem? (i := 721) (by decide +kernel)⟩
theorem lw_p10 : lw_okq (⟨"NailGold$LawReader", "readsLine", "()Z"⟩, 3) := ⟨⟨by decide +kernel, by decide +kernel⟩, List.mem_of_getElem? (i := 92) (by decide +kernel), List.mem_of_getElem? (i := 810) (by decide +kernel), List.mem_of_getElem? (i := 811) (by decide +kernel)⟩
theorem lw_p11 : lw_okq (⟨"NailGold$LawReader", "readsChoice", "(I)Z"⟩, 3) := ⟨⟨by decide +kernel, by decide +kernel⟩, List.mem_of_getElem? (i := 92) (by decide +kernel), List.mem_of_getElem? (i := 821) (by decide +kernel), List.mem_of_getElem? (i := 822) (by decide +kernel)⟩
theorem lw_p12 : lw_okq (⟨"NailGold$LawReader", "readsAll", "(I)Z"⟩, 3) := ⟨⟨by decide +kernel, by decide +kernel⟩, List.mem_of_getElem? (i := 92) (by decide +kernel), List.mem_of_getElem? (i := 825) (by decide +kernel), List.mem_of_getElem? (i := 826) (by decide +kernel)⟩
theorem lw_p13 : lw_okq (⟨"NailGold$LawReader", "readsAtom", "(I)Z"⟩, 3) := ⟨⟨by decide +kernel, by decide +kernel⟩, List.mem_of_getElem? (i := 92) (by decide +kernel), List.mem_of_getElem? (i := 829) (by decide +kernel), List.mem_of_getElem? (i := 830) (by decide +kernel)⟩
theorem lw_p14 : lw_okq (⟨"NailGold$LawReader", "emit", "(I)Z"⟩, 3) := ⟨⟨by decide +kernel, by decide +kernel⟩, List.mem_of_getElem? (i := 92) (by decide +kernel), List.mem_of_getElem? (i := 835) (by decide +kernel), List.mem_of_getElem? (i := 836) (by decide +kernel)⟩
theorem lw_p15 : lw_okq (⟨"NailGold$LawReader", "readsSum", "()Z"⟩, 3) := ⟨⟨by decide +kernel, by decide +kernel⟩, List.mem_of_getElem? (i := 92) (by decide +kernel), List.mem_of_getElem? (i := 842) (by decide +kernel), List.mem_of_getElem? (i := 843) (by decide +kernel)⟩
def lw_privs_1 : List (MethodName × Nat) := [(⟨"NailGold$BookReader", "readsLine", "(LNailGold$Book;LNailGold$Court;)Z"⟩, 1), (⟨"NailGold$BookReader", "readsStep", "(LNailGold$Book;)Z"⟩, 1), (⟨"NailGold$BookReader", "numberBehind", "(Ljava/lang/String;II)I"⟩, 1), (⟨"NailGold$BookReader", "readsMan", "(LNailGold$Court;)Z"⟩, 1), (⟨"NailGold$BookReader", "tricksBehind", "(Ljava/lang/String;)I"⟩, 1), (⟨"NailGold$BookReader", "readsTest", "(LNailGold$Book;)Z"⟩, 1), (⟨"NailGold$BookReader", "readsRival", "(LNailGold$Court;)Z"⟩, 1), (⟨"NailGold$BookReader", "readsChest", "(LNailGold$Court;)Z"⟩, 1), (⟨"NailGold$BookReader", "readsRule", "(LNailGold$Book;)Z"⟩, 1), (⟨"java/lang/Throwable", "fillInStackTrace", "(I)Ljava/lang/Throwable;"⟩, 6), (⟨"NailGold$LawReader", "readsLine", "()Z"⟩, 3), (⟨"NailGold$LawReader", "readsChoice", "(I)Z"⟩, 3), (⟨"NailGold$LawReader", "readsAll", "(I)Z"⟩, 3), (⟨"NailGold$LawReader", "readsAtom", "(I)Z"⟩, 3), (⟨"NailGold$LawReader", "emit", "(I)Z"⟩, 3), (⟨"NailGold$LawReader", "readsSum", "()Z"⟩, 3)]
theorem lw_r1 : ∀ q ∈ lw_privs_1, lw_okq q := List.forall_mem_cons.mpr ⟨lw_p0, List.forall_mem_cons.mpr ⟨lw_p1, List.forall_mem_cons.mpr ⟨lw_p2, List.forall_mem_cons.mpr ⟨lw_p3, List.forall_mem_cons.mpr ⟨lw_p4, List.forall_mem_cons.mpr ⟨lw_p5, List.forall_mem_cons.mpr ⟨lw_p6, List.forall_mem_cons.mpr ⟨lw_p7, List.forall_mem_cons.mpr ⟨lw_p8, List.forall_mem_cons.mpr ⟨lw_p9, List.forall_mem_cons.mpr ⟨lw_p10, List.forall_mem_cons.mpr ⟨lw_p11, List.forall_mem_cons.mpr ⟨lw_p12, List.forall_mem_cons.mpr ⟨lw_p13, List.forall_mem_cons.mpr ⟨lw_p14, List.forall_mem_cons.mpr ⟨lw_p15, fun _ h => absurd h List.not_mem_nil⟩⟩⟩⟩⟩⟩⟩⟩⟩⟩⟩⟩⟩⟩⟩⟩
theorem lw_p16 : lw_okq (⟨"NailGold$LawReader", "readsPart", "()Z"⟩, 3) := ⟨⟨by decide +kernel, by decide +kernel⟩, List.mem_of_getElem? (i := 92) (by decide +kernel), List.mem_of_getElem? (i := 846) (by decide +kernel), List.mem_of_getElem? (i := 847) (by decide +kernel)⟩
theorem lw_p17 : lw_okq (⟨"NailGold$LawReader", "namedFact", "()I"⟩, 3) := ⟨⟨by decide +kernel, by decide +kernel⟩, List.mem_of_getElem? (i := 92) (by decide +kernel), List.mem_of_getElem? (i := 850) (by decide +kernel), List.mem_of_getElem? (i := 851) (by decide +kernel)⟩
theorem lw_p18 : lw_okq (⟨"NailGold", "needStep", "(I)V"⟩, 17) := ⟨⟨by decide +kernel, by decide +kernel⟩, List.mem_of_getElem? (i := 32) (by decide +kernel), List.mem_of_getElem? (i := 872) (by decide +kernel), List.mem_of_getElem? (i := 873) (by decide +kernel)⟩
theorem lw_p19 : lw_okq (⟨"NailGold", "needMan", "(I)V"⟩, 17) := ⟨⟨by decide +kernel, by decide +kernel⟩, List.mem_of_getElem? (i := 32) (by decide +kernel), List.mem_of_getElem? (i := 919) (by decide +kernel), List.mem_of_getElem? (i := 920) (by decide +kernel)⟩
theorem lw_p20 : lw_okq (⟨"NailGold$Judge", "pop", "()I"⟩, 3) := ⟨⟨by decide +kernel, by decide +kernel⟩, List.mem_of_getElem? (i := 66) (by decide +kernel), List.mem_of_getElem? (i := 940) (by decide +kernel), List.mem_of_getElem? (i := 941) (by decide +kernel)⟩
theorem lw_p21 : lw_okq (⟨"NailGold$Judge", "combine", "(I)V"⟩, 3) := ⟨⟨by decide +kernel, by decide +kernel⟩, List.mem_of_getElem? (i := 66) (by decide +kernel), List.mem_of_getElem? (i := 944) (by decide +kernel), List.mem_of_getElem? (i := 945) (by decide +kernel)⟩
theorem lw_p22 : lw_okq (⟨"NailGold$Judge", "push", "(I)V"⟩, 3) := ⟨⟨by decide +kernel, by decide +kernel⟩, List.mem_of_getElem? (i := 66) (by decide +kernel), List.mem_of_getElem? (i := 948) (by decide +kernel), List.mem_of_getElem? (i := 949) (by decide +kernel)⟩
theorem lw_p23 : lw_okq (⟨"NailGold$Judge", "factAt", "(I)I"⟩, 3) := ⟨⟨by decide +kernel, by decide +kernel⟩, List.mem_of_getElem? (i := 66) (by decide +kernel), List.mem_of_getElem? (i := 952) (by decide +kernel), List.mem_of_getElem? (i := 953) (by decide +kernel)⟩
theorem lw_p24 : lw_okq (⟨"NailGold", "needTest", "(I)V"⟩, 17) := ⟨⟨by decide +kernel, by decide +kernel⟩, List.mem_of_getElem? (i := 32) (by decide +kernel), List.mem_of_getElem? (i := 975) (by decide +kernel), List.mem_of_getElem? (i := 976) (by decide +kernel)⟩
theorem lw_p25 : lw_okq (⟨"NailGold", "needRival", "(I)V"⟩, 17) := ⟨⟨by decide +kernel, by decide +kernel⟩, List.mem_of_getElem? (i := 32) (by decide +kernel), List.mem_of_getElem? (i := 987) (by decide +kernel), List.mem_of_getElem? (i := 988) (by decide +kernel)⟩
theorem lw_p26 : lw_okq (⟨"NailGold", "needKept", "(I)V"⟩, 17) := ⟨⟨by decide +kernel, by decide +kernel⟩, List.mem_of_getElem? (i := 32) (by decide +kernel), List.mem_of_getElem? (i := 1000) (by decide +kernel), List.mem_of_getElem? (i := 1001) (by decide +kernel)⟩
theorem lw_p27 : lw_okq (⟨"NailGold", "remember", "()V"⟩, 17) := ⟨⟨by decide +kernel, by decide +kernel⟩, List.mem_of_getElem? (i := 32) (by decide +kernel), List.mem_of_getElem? (i := 1021) (by decide +kernel), List.mem_of_getElem? (i := 1022) (by decide +kernel)⟩
theorem lw_p28 : lw_okq (⟨"NailGold", "needWithin", "(III)V"⟩, 17) := ⟨⟨by decide +kernel, by decide +kernel⟩, List.mem_of_getElem? (i := 32) (by decide +kernel), List.mem_of_getElem? (i := 1067) (by decide +kernel), List.mem_of_getElem? (i := 1068) (by decide +kernel)⟩
theorem lw_p29 : lw_okq (⟨"NailGold$Court", "passDayOf", "(ILNailGold$Book;LNailGold$Judge;)V"⟩, 10) := ⟨⟨by decide +kernel, by decide +kernel⟩, List.mem_of_getElem? (i := 180) (by decide +kernel), List.mem_of_getElem? (i := 1098) (by decide +kernel), List.mem_of_getElem? (i := 1099) (by decide +kernel)⟩
theorem lw_p30 : lw_okq (⟨"NailGold", "draftDays", "(III)V"⟩, 17) := ⟨⟨by decide +kernel, by decide +kernel⟩, List.mem_of_getElem? (i := 32) (by decide +kernel), List.mem_of_getElem? (i := 1118) (by decide +kernel), List.mem_of_getElem? (i := 1119) (by decide +kernel)⟩
theorem lw_p31 : lw_okq (⟨"NailGold$NailPlan", "keptFrom", "(III)I"⟩, 11) := ⟨⟨by decide +kernel, by decide +kernel⟩, List.mem_of_getElem? (i := 304) (by decide +kernel), List.mem_of_getElem? (i := 1172) (by decide +kernel), List.mem_of_getElem? (i := 1173) (by decide +kernel)⟩
def lw_privs_2 : List (MethodName × Nat) := [(⟨"NailGold$LawReader", "readsPart", "()Z"⟩, 3), (⟨"NailGold$LawReader", "namedFact", "()I"⟩, 3), (⟨"NailGold", "needStep", "(I)V"⟩, 17), (⟨"NailGold", "needMan", "(I)V"⟩, 17), (⟨"NailGold$Judge", "pop", "()I"⟩, 3), (⟨"NailGold$Judge", "combine", "(I)V"⟩, 3), (⟨"NailGold$Judge", "push", "(I)V"⟩, 3), (⟨"NailGold$Judge", "factAt", "(I)I"⟩, 3), (⟨"NailGold", "needTest", "(I)V"⟩, 17), (⟨"NailGold", "needRival", "(I)V"⟩, 17), (⟨"NailGold", "needKept", "(I)V"⟩, 17), (⟨"NailGold", "remember", "()V"⟩, 17), (⟨"NailGold", "needWithin", "(III)V"⟩, 17), (⟨"NailGold$Court", "passDayOf", "(ILNailGold$Book;LNailGold$Judge;)V"⟩, 10), (⟨"NailGold", "draftDays", "(III)V"⟩, 17), (⟨"NailGold$NailPlan", "keptFrom", "(III)I"⟩, 11)]
theorem lw_r2 : ∀ q ∈ lw_privs_2, lw_okq q := List.forall_mem_cons.mpr ⟨lw_p16, List.forall_mem_cons.mpr ⟨lw_p17, List.forall_mem_cons.mpr ⟨lw_p18, List.forall_mem_cons.mpr ⟨lw_p19, List.forall_mem_cons.mpr ⟨lw_p20, List.forall_mem_cons.mpr ⟨lw_p21, List.forall_mem_cons.mpr ⟨lw_p22, List.forall_mem_cons.mpr ⟨lw_p23, List.forall_mem_cons.mpr ⟨lw_p24, List.forall_mem_cons.mpr ⟨lw_p25, List.forall_mem_cons.mpr ⟨lw_p26, List.forall_mem_cons.mpr ⟨lw_p27, List.forall_mem_cons.mpr ⟨lw_p28, List.forall_mem_cons.mpr ⟨lw_p29, List.forall_mem_cons.mpr ⟨lw_p30, List.forall_mem_cons.mpr ⟨lw_p31, fun _ h => absurd h List.not_mem_nil⟩⟩⟩⟩⟩⟩⟩⟩⟩⟩⟩⟩⟩⟩⟩⟩
theorem lw_p32 : lw_okq (⟨"NailGold$NailPlan", "keptIfPassed", "(III)I"⟩, 11) := ⟨⟨by decide +kernel, by decide +kernel⟩, List.mem_of_getElem? (i := 304) (by decide +kernel), List.mem_of_getElem? (i := 1177) (by decide +kernel), List.mem_of_getElem? (i := 1178) (by decide +kernel)⟩
theorem lw_p33 : lw_okq (⟨"NailGold$NailPlan", "trustBehind", "(III)I"⟩, 11) := ⟨⟨by decide +kernel, by decide +kernel⟩, List.mem_of_getElem? (i := 304) (by decide +kernel), List.mem_of_getElem? (i := 1181) (by decide +kernel), List.mem_of_getElem? (i := 1182) (by decide +kernel)⟩
theorem lw_p34 : lw_okq (⟨"NailGold$NailPlan", "proven", "(I)I"⟩, 11) := ⟨⟨by decide +kernel, by decide +kernel⟩, List.mem_of_getElem? (i := 304) (by decide +kernel), List.mem_of_getElem? (i := 1189) (by decide +kernel), List.mem_of_getElem? (i := 1190) (by decide +kernel)⟩
theorem lw_p35 : lw_okq (⟨"NailGold", "takeFittingSets", "()J"⟩, 17) := ⟨⟨by decide +kernel, by decide +kernel⟩, List.mem_of_getElem? (i := 32) (by decide +kernel), List.mem_of_getElem? (i := 1248) (by decide +kernel), List.mem_of_getElem? (i := 1249) (by decide +kernel)⟩
theorem lw_p36 : lw_okq (⟨"NailGold", "isTale", "(I)Z"⟩, 17) := ⟨⟨by decide +kernel, by decide +kernel⟩, List.mem_of_getElem? (i := 32) (by decide +kernel), List.mem_of_getElem? (i := 1252) (by decide +kernel), List.mem_of_getElem? (i := 1253) (by decide +kernel)⟩
theorem lw_p37 : lw_okq (⟨"NailGold", "fitsTale", "(II)Z"⟩, 17) := ⟨⟨by decide +kernel, by decide +kernel⟩, List.mem_of_getElem? (i := 32) (by decide +kernel), List.mem_of_getElem? (i := 1257) (by decide +kernel), List.mem_of_getElem? (i := 1258) (by decide +kernel)⟩
theorem lw_p38 : lw_okq (⟨"NailGold", "caughtAmong", "(JI)I"⟩, 17) := ⟨⟨by decide +kernel, by decide +kernel⟩, List.mem_of_getElem? (i := 32) (by decide +kernel), List.mem_of_getElem? (i := 1274) (by decide +kernel), List.mem_of_getElem? (i := 1275) (by decide +kernel)⟩
theorem lw_p39 : lw_okq (⟨"NailGold", "princePays", "(IIIZ)I"⟩, 17) := ⟨⟨by decide +kernel, by decide +kernel⟩, List.mem_of_getElem? (i := 32) (by decide +kernel), List.mem_of_getElem? (i := 1285) (by decide +kernel), List.mem_of_getElem? (i := 1286) (by decide +kernel)⟩
theorem lw_p40 : lw_okq (⟨"NailGold", "waysOf", "(II)J"⟩, 17) := ⟨⟨by decide +kernel, by decide +kernel⟩, List.mem_of_getElem? (i := 32) (by decide +kernel), List.mem_of_getElem? (i := 1300) (by decide +kernel), List.mem_of_getElem? (i := 1301) (by decide +kernel)⟩
theorem lw_p41 : lw_okq (⟨"NailGold$Market", "given", "(III)I"⟩, 2) := ⟨⟨by decide +kernel, by decide +kernel⟩, List.mem_of_getElem? (i := 347) (by decide +kernel), List.mem_of_getElem? (i := 1319) (by decide +kernel), List.mem_of_getElem? (i := 1320) (by decide +kernel)⟩
theorem lw_p42 : lw_okq (⟨"NailGoldModel", "putsAside", "()V"⟩, 25) := ⟨⟨by decide +kernel, by decide +kernel⟩, List.mem_of_getElem? (i := 1376) (by decide +kernel), List.mem_of_getElem? (i := 1478) (by decide +kernel), List.mem_of_getElem? (i := 1479) (by decide +kernel)⟩
theorem lw_p43 : lw_okq (⟨"NailGoldModel", "begins", "()V"⟩, 25) := ⟨⟨by decide +kernel, by decide +kernel⟩, List.mem_of_getElem? (i := 1376) (by decide +kernel), List.mem_of_getElem? (i := 1482) (by decide +kernel), List.mem_of_getElem? (i := 1483) (by decide +kernel)⟩
theorem lw_p44 : lw_okq (⟨"NailGoldModel", "read", "(Z)I"⟩, 25) := ⟨⟨by decide +kernel, by decide +kernel⟩, List.mem_of_getElem? (i := 1376) (by decide +kernel), List.mem_of_getElem? (i := 1486) (by decide +kernel), List.mem_of_getElem? (i := 1487) (by decide +kernel)⟩
theorem lw_p45 : lw_okq (⟨"NailGoldModel", "skip", "()V"⟩, 25) := ⟨⟨by decide +kernel, by decide +kernel⟩, List.mem_of_getElem? (i := 1376) (by decide +kernel), List.mem_of_getElem? (i := 1490) (by decide +kernel), List.mem_of_getElem? (i := 1491) (by decide +kernel)⟩
theorem lw_p46 : lw_okq (⟨"NailGoldModel", "letter", "(I)I"⟩, 25) := ⟨⟨by decide +kernel, by decide +kernel⟩, List.mem_of_getElem? (i := 1376) (by decide +kernel), List.mem_of_getElem? (i := 1494) (by decide +kernel), List.mem_of_getElem? (i := 1495) (by decide +kernel)⟩
theorem lw_p47 : lw_okq (⟨"NailGoldModel", "wrong", "(I)V"⟩, 25) := ⟨⟨by decide +kernel, by decide +kernel⟩, List.mem_of_getElem? (i := 1376) (by decide +kernel), List.mem_of_getElem? (i := 1498) (by decide +kernel), List.mem_of_getElem? (i := 1499) (by decide +kernel)⟩
def lw_privs_3 : List (MethodName × Nat) := [(⟨"NailGold$NailPlan", "keptIfPassed", "(III)I"⟩, 11), (⟨"NailGold$NailPlan", "trustBehind", "(III)I"⟩, 11), (⟨"NailGold$NailPlan", "proven", "(I)I"⟩, 11), (⟨"NailGold", "takeFittingSets", "()J"⟩, 17), (⟨"NailGold", "isTale", "(I)Z"⟩, 17), (⟨"NailGold", "fitsTale", "(II)Z"⟩, 17), (⟨"NailGold", "caughtAmong", "(JI)I"⟩, 17), (⟨"NailGold", "princePays", "(IIIZ)I"⟩, 17), (⟨"NailGold", "waysOf", "(II)J"⟩, 17), (⟨"NailGold$Market", "given", "(III)I"⟩, 2), (⟨"NailGoldModel", "putsAside", "()V"⟩, 25), (⟨"NailGoldModel", "begins", "()V"⟩, 25), (⟨"NailGoldModel", "read", "(Z)I"⟩, 25), (⟨"NailGoldModel", "skip", "()V"⟩, 25), (⟨"NailGoldModel", "letter", "(I)I"⟩, 25), (⟨"NailGoldModel", "wrong", "(I)V"⟩, 25)]
theorem lw_r3 : ∀ q ∈ lw_privs_3, lw_okq q := List.forall_mem_cons.mpr ⟨lw_p32, List.forall_mem_cons.mpr ⟨lw_p33, List.forall_mem_cons.mpr ⟨lw_p34, List.forall_mem_cons.mpr ⟨lw_p35, List.forall_mem_cons.mpr ⟨lw_p36, List.forall_mem_cons.mpr ⟨lw_p37, List.forall_mem_cons.mpr ⟨lw_p38, List.forall_mem_cons.mpr ⟨lw_p39, List.forall_mem_cons.mpr ⟨lw_p40, List.forall_mem_cons.mpr ⟨lw_p41, List.forall_mem_cons.mpr ⟨lw_p42, List.forall_mem_cons.mpr ⟨lw_p43, List.forall_mem_cons.mpr ⟨lw_p44, List.forall_mem_cons.mpr ⟨lw_p45, List.forall_mem_cons.mpr ⟨lw_p46, List.forall_mem_cons.mpr ⟨lw_p47, fun _ h => absurd h List.not_mem_nil⟩⟩⟩⟩⟩⟩⟩⟩⟩⟩⟩⟩⟩⟩⟩⟩
theorem lw_p48 : lw_okq (⟨"NailGoldModel", "lawLine", "()V"⟩, 25) := ⟨⟨by decide +kernel, by decide +kernel⟩, List.mem_of_getElem? (i := 1376) (by decide +kernel), List.mem_of_getElem? (i := 1502) (by decide +kernel), List.mem_of_getElem? (i := 1503) (by decide +kernel)⟩
theorem lw_p49 : lw_okq (⟨"NailGoldModel", "has", "(Ljava/lang/String;)Z"⟩, 25) := ⟨⟨by decide +kernel, by decide +kernel⟩, List.mem_of_getElem? (i := 1376) (by decide +kernel), List.mem_of_getElem? (i := 1507) (by decide +kernel), List.mem_of_getElem? (i := 1508) (by decide +kernel)⟩
theorem lw_p50 : lw_okq (⟨"NailGoldModel", "figures", "(II)I"⟩, 25) := ⟨⟨by decide +kernel, by decide +kernel⟩, List.mem_of_getElem? (i := 1376) (by decide +kernel), List.mem_of_getElem? (i := 1514) (by decide +kernel), List.mem_of_getElem? (i := 1515) (by decide +kernel)⟩
theorem lw_p51 : lw_okq (⟨"NailGoldModel", "place", "()I"⟩, 25) := ⟨⟨by decide +kernel, by decide +kernel⟩, List.mem_of_getElem? (i := 1376) (by decide +kernel), List.mem_of_getElem? (i := 1518) (by decide +kernel), List.mem_of_getElem? (i := 1519) (by decide +kernel)⟩
theorem lw_p52 : lw_okq (⟨"NailGoldModel", "some", "()Z"⟩, 25) := ⟨⟨by decide +kernel, by decide +kernel⟩, List.mem_of_getElem? (i := 1376) (by decide +kernel), List.mem_of_getElem? (i := 1523) (by decide +kernel), List.mem_of_getElem? (i := 1524) (by decide +kernel)⟩
theorem lw_p53 : lw_okq (⟨"NailGoldModel", "every", "()Z"⟩, 25) := ⟨⟨by decide +kernel, by decide +kernel⟩, List.mem_of_getElem? (i := 1376) (by decide +kernel), List.mem_of_getElem? (i := 1527) (by decide +kernel), List.mem_of_getElem? (i := 1528) (by decide +kernel)⟩
theorem lw_p54 : lw_okq (⟨"NailGoldModel", "atom", "()Z"⟩, 25) := ⟨⟨by decide +kernel, by decide +kernel⟩, List.mem_of_getElem? (i := 1376) (by decide +kernel), List.mem_of_getElem? (i := 1531) (by decide +kernel), List.mem_of_getElem? (i := 1532) (by decide +kernel)⟩
theorem lw_p55 : lw_okq (⟨"NailGoldModel", "isSign", "(I)Z"⟩, 25) := ⟨⟨by decide +kernel, by decide +kernel⟩, List.mem_of_getElem? (i := 1376) (by decide +kernel), List.mem_of_getElem? (i := 1536) (by decide +kernel), List.mem_of_getElem? (i := 1537) (by decide +kernel)⟩
theorem lw_p56 : lw_okq (⟨"NailGoldModel", "plain", "()Z"⟩, 25) := ⟨⟨by decide +kernel, by decide +kernel⟩, List.mem_of_getElem? (i := 1376) (by decide +kernel), List.mem_of_getElem? (i := 1540) (by decide +kernel), List.mem_of_getElem? (i := 1541) (by decide +kernel)⟩
theorem lw_p57 : lw_okq (⟨"NailGoldModel", "sum", "()I"⟩, 25) := ⟨⟨by decide +kernel, by decide +kernel⟩, List.mem_of_getElem? (i := 1376) (by decide +kernel), List.mem_of_getElem? (i := 1546) (by decide +kernel), List.mem_of_getElem? (i := 1547) (by decide +kernel)⟩
theorem lw_p58 : lw_okq (⟨"NailGoldModel", "part", "()I"⟩, 25) := ⟨⟨by decide +kernel, by decide +kernel⟩, List.mem_of_getElem? (i := 1376) (by decide +kernel), List.mem_of_getElem? (i := 1550) (by decide +kernel), List.mem_of_getElem? (i := 1551) (by decide +kernel)⟩
theorem lw_p59 : lw_okq (⟨"NailGoldModel", "bookLine", "()V"⟩, 25) := ⟨⟨by decide +kernel, by decide +kernel⟩, List.mem_of_getElem? (i := 1376) (by decide +kernel), List.mem_of_getElem? (i := 1563) (by decide +kernel), List.mem_of_getElem? (i := 1564) (by decide +kernel)⟩
theorem lw_p60 : lw_okq (⟨"NailGoldModel", "stepLine", "(I)V"⟩, 25) := ⟨⟨by decide +kernel, by decide +kernel⟩, List.mem_of_getElem? (i := 1376) (by decide +kernel), List.mem_of_getElem? (i := 1568) (by decide +kernel), List.mem_of_getElem? (i := 1569) (by decide +kernel)⟩
theorem lw_p61 : lw_okq (⟨"NailGoldModel", "after", "(Ljava/lang/String;II)I"⟩, 25) := ⟨⟨by decide +kernel, by decide +kernel⟩, List.mem_of_getElem? (i := 1376) (by decide +kernel), List.mem_of_getElem? (i := 1573) (by decide +kernel), List.mem_of_getElem? (i := 1574) (by decide +kernel)⟩
theorem lw_p62 : lw_okq (⟨"NailGoldModel", "manLine", "(I)V"⟩, 25) := ⟨⟨by decide +kernel, by decide +kernel⟩, List.mem_of_getElem? (i := 1376) (by decide +kernel), List.mem_of_getElem? (i := 1579) (by decide +kernel), List.mem_of_getElem? (i := 1580) (by decide +kernel)⟩
theorem lw_p63 : lw_okq (⟨"NailGoldModel", "lettersAfter", "(Ljava/lang/String;)I"⟩, 25) := ⟨⟨by decide +kernel, by decide +kernel⟩, List.mem_of_getElem? (i := 1376) (by decide +kernel), List.mem_of_getElem? (i := 1584) (by decide +kernel), List.mem_of_getElem? (i := 1585) (by decide +kernel)⟩
def lw_privs_4 : List (MethodName × Nat) := [(⟨"NailGoldModel", "lawLine", "()V"⟩, 25), (⟨"NailGoldModel", "has", "(Ljava/lang/String;)Z"⟩, 25), (⟨"NailGoldModel", "figures", "(II)I"⟩, 25), (⟨"NailGoldModel", "place", "()I"⟩, 25), (⟨"NailGoldModel", "some", "()Z"⟩, 25), (⟨"NailGoldModel", "every", "()Z"⟩, 25), (⟨"NailGoldModel", "atom", "()Z"⟩, 25), (⟨"NailGoldModel", "isSign", "(I)Z"⟩, 25), (⟨"NailGoldModel", "plain", "()Z"⟩, 25), (⟨"NailGoldModel", "sum", "()I"⟩, 25), (⟨"NailGoldModel", "part", "()I"⟩, 25), (⟨"NailGoldModel", "bookLine", "()V"⟩, 25), (⟨"NailGoldModel", "stepLine", "(I)V"⟩, 25), (⟨"NailGoldModel", "after", "(Ljava/lang/String;II)I"⟩, 25), (⟨"NailGoldModel", "manLine", "(I)V"⟩, 25), (⟨"NailGoldModel", "lettersAfter", "(Ljava/lang/String;)I"⟩, 25)]
theorem lw_r4 : ∀ q ∈ lw_privs_4, lw_okq q := List.forall_mem_cons.mpr ⟨lw_p48, List.forall_mem_cons.mpr ⟨lw_p49, List.forall_mem_cons.mpr ⟨lw_p50, List.forall_mem_cons.mpr ⟨lw_p51, List.forall_mem_cons.mpr ⟨lw_p52, List.forall_mem_cons.mpr ⟨lw_p53, List.forall_mem_cons.mpr ⟨lw_p54, List.forall_mem_cons.mpr ⟨lw_p55, List.forall_mem_cons.mpr ⟨lw_p56, List.forall_mem_cons.mpr ⟨lw_p57, List.forall_mem_cons.mpr ⟨lw_p58, List.forall_mem_cons.mpr ⟨lw_p59, List.forall_mem_cons.mpr ⟨lw_p60, List.forall_mem_cons.mpr ⟨lw_p61, List.forall_mem_cons.mpr ⟨lw_p62, List.forall_mem_cons.mpr ⟨lw_p63, fun _ h => absurd h List.not_mem_nil⟩⟩⟩⟩⟩⟩⟩⟩⟩⟩⟩⟩⟩⟩⟩⟩
theorem lw_p64 : lw_okq (⟨"NailGoldModel", "put", "(III)V"⟩, 25) := ⟨⟨by decide +kernel, by decide +kernel⟩, List.mem_of_getElem? (i := 1376) (by decide +kernel), List.mem_of_getElem? (i := 1591) (by decide +kernel), List.mem_of_getElem? (i := 1592) (by decide +kernel)⟩
theorem lw_p65 : lw_okq (⟨"NailGoldModel", "testLine", "(I)V"⟩, 25) := ⟨⟨by decide +kernel, by decide +kernel⟩, List.mem_of_getElem? (i := 1376) (by decide +kernel), List.mem_of_getElem? (i := 1596) (by decide +kernel), List.mem_of_getElem? (i := 1597) (by decide +kernel)⟩
theorem lw_p66 : lw_okq (⟨"NailGoldModel", "rivalLine", "(I)V"⟩, 25) := ⟨⟨by decide +kernel, by decide +kernel⟩, List.mem_of_getElem? (i := 1376) (by decide +kernel), List.mem_of_getElem? (i := 1602) (by decide +kernel), List.mem_of_getElem? (i := 1603) (by decide +kernel)⟩
theorem lw_p67 : lw_okq (⟨"NailGoldModel", "tells", "(II)V"⟩, 25) := ⟨⟨by decide +kernel, by decide +kernel⟩, List.mem_of_getElem? (i := 1376) (by decide +kernel), List.mem_of_getElem? (i := 1607) (by decide +kernel), List.mem_of_getElem? (i := 1608) (by decide +kernel)⟩
theorem lw_p68 : lw_okq (⟨"NailGoldModel", "comesBack", "()V"⟩, 25) := ⟨⟨by decide +kernel, by decide +kernel⟩, List.mem_of_getElem? (i := 1376) (by decide +kernel), List.mem_of_getElem? (i := 1614) (by decide +kernel), List.mem_of_getElem? (i := 1615) (by decide +kernel)⟩
theorem lw_p69 : lw_okq (⟨"NailGoldModel", "isStep", "(I)Z"⟩, 25) := ⟨⟨by decide +kernel, by decide +kernel⟩, List.mem_of_getElem? (i := 1376) (by decide +kernel), List.mem_of_getElem? (i := 1630) (by decide +kernel), List.mem_of_getElem? (i := 1631) (by decide +kernel)⟩
theorem lw_p70 : lw_okq (⟨"NailGoldModel", "ofStep", "(II)I"⟩, 25) := ⟨⟨by decide +kernel, by decide +kernel⟩, List.mem_of_getElem? (i := 1376) (by decide +kernel), List.mem_of_getElem? (i := 1634) (by decide +kernel), List.mem_of_getElem? (i := 1635) (by decide +kernel)⟩
theorem lw_p71 : lw_okq (⟨"NailGoldModel", "ofRival", "(II)I"⟩, 25) := ⟨⟨by decide +kernel, by decide +kernel⟩, List.mem_of_getElem? (i := 1376) (by decide +kernel), List.mem_of_getElem? (i := 1638) (by decide +kernel), List.mem_of_getElem? (i := 1639) (by decide +kernel)⟩
theorem lw_p72 : lw_okq (⟨"NailGoldModel", "isMan", "(I)Z"⟩, 25) := ⟨⟨by decide +kernel, by decide +kernel⟩, List.mem_of_getElem? (i := 1376) (by decide +kernel), List.mem_of_getElem? (i := 1646) (by decide +kernel), List.mem_of_getElem? (i := 1647) (by decide +kernel)⟩
theorem lw_p73 : lw_okq (⟨"NailGoldModel", "of", "(II)I"⟩, 25) := ⟨⟨by decide +kernel, by decide +kernel⟩, List.mem_of_getElem? (i := 1376) (by decide +kernel), List.mem_of_getElem? (i := 1650) (by decide +kernel), List.mem_of_getElem? (i := 1651) (by decide +kernel)⟩
theorem lw_p74 : lw_okq (⟨"NailGoldModel", "turnsNow", "(I)I"⟩, 25) := ⟨⟨by decide +kernel, by decide +kernel⟩, List.mem_of_getElem? (i := 1376) (by decide +kernel), List.mem_of_getElem? (i := 1654) (by decide +kernel), List.mem_of_getElem? (i := 1655) (by decide +kernel)⟩
theorem lw_p75 : lw_okq (⟨"NailGoldModel", "turnsBy", "(IIIIIII)I"⟩, 25) := ⟨⟨by decide +kernel, by decide +kernel⟩, List.mem_of_getElem? (i := 1376) (by decide +kernel), List.mem_of_getElem? (i := 1658) (by decide +kernel), List.mem_of_getElem? (i := 1659) (by decide +kernel)⟩
theorem lw_p76 : lw_okq (⟨"NailGoldModel", "outlay", "(I)I"⟩, 25) := ⟨⟨by decide +kernel, by decide +kernel⟩, List.mem_of_getElem? (i := 1376) (by decide +kernel), List.mem_of_getElem? (i := 1662) (by decide +kernel), List.mem_of_getElem? (i := 1663) (by decide +kernel)⟩
theorem lw_p77 : lw_okq (⟨"NailGoldModel", "left", "(II)I"⟩, 25) := ⟨⟨by decide +kernel, by decide +kernel⟩, List.mem_of_getElem? (i := 1376) (by decide +kernel), List.mem_of_getElem? (i := 1666) (by decide +kernel), List.mem_of_getElem? (i := 1667) (by decide +kernel)⟩
theorem lw_p78 : lw_okq (⟨"NailGoldModel", "isTest", "(I)Z"⟩, 25) := ⟨⟨by decide +kernel, by decide +kernel⟩, List.mem_of_getElem? (i := 1376) (by decide +kernel), List.mem_of_getElem? (i := 1674) (by decide +kernel), List.mem_of_getElem? (i := 1675) (by decide +kernel)⟩
theorem lw_p79 : lw_okq (⟨"NailGoldModel", "stopsOf", "(I)I"⟩, 25) := ⟨⟨by decide +kernel, by decide +kernel⟩, List.mem_of_getElem? (i := 1376) (by decide +kernel), List.mem_of_getElem? (i := 1678) (by decide +kernel), List.mem_of_getElem? (i := 1679) (by decide +kernel)⟩
def lw_privs_5 : List (MethodName × Nat) := [(⟨"NailGoldModel", "put", "(III)V"⟩, 25), (⟨"NailGoldModel", "testLine", "(I)V"⟩, 25), (⟨"NailGoldModel", "rivalLine", "(I)V"⟩, 25), (⟨"NailGoldModel", "tells", "(II)V"⟩, 25), (⟨"NailGoldModel", "comesBack", "()V"⟩, 25), (⟨"NailGoldModel", "isStep", "(I)Z"⟩, 25), (⟨"NailGoldModel", "ofStep", "(II)I"⟩, 25), (⟨"NailGoldModel", "ofRival", "(II)I"⟩, 25), (⟨"NailGoldModel", "isMan", "(I)Z"⟩, 25), (⟨"NailGoldModel", "of", "(II)I"⟩, 25), (⟨"NailGoldModel", "turnsNow", "(I)I"⟩, 25), (⟨"NailGoldModel", "turnsBy", "(IIIIIII)I"⟩, 25), (⟨"NailGoldModel", "outlay", "(I)I"⟩, 25), (⟨"NailGoldModel", "left", "(II)I"⟩, 25), (⟨"NailGoldModel", "isTest", "(I)Z"⟩, 25), (⟨"NailGoldModel", "stopsOf", "(I)I"⟩, 25)]
theorem lw_r5 : ∀ q ∈ lw_privs_5, lw_okq q := List.forall_mem_cons.mpr ⟨lw_p64, List.forall_mem_cons.mpr ⟨lw_p65, List.forall_mem_cons.mpr ⟨lw_p66, List.forall_mem_cons.mpr ⟨lw_p67, List.forall_mem_cons.mpr ⟨lw_p68, List.forall_mem_cons.mpr ⟨lw_p69, List.forall_mem_cons.mpr ⟨lw_p70, List.forall_mem_cons.mpr ⟨lw_p71, List.forall_mem_cons.mpr ⟨lw_p72, List.forall_mem_cons.mpr ⟨lw_p73, List.forall_mem_cons.mpr ⟨lw_p74, List.forall_mem_cons.mpr ⟨lw_p75, List.forall_mem_cons.mpr ⟨lw_p76, List.forall_mem_cons.mpr ⟨lw_p77, List.forall_mem_cons.mpr ⟨lw_p78, List.forall_mem_cons.mpr ⟨lw_p79, fun _ h => absurd h List.not_mem_nil⟩⟩⟩⟩⟩⟩⟩⟩⟩⟩⟩⟩⟩⟩⟩⟩
theorem lw_p80 : lw_okq (⟨"NailGoldModel", "costOf", "(I)I"⟩, 25) := ⟨⟨by decide +kernel, by decide +kernel⟩, List.mem_of_getElem? (i := 1376) (by decide +kernel), List.mem_of_getElem? (i := 1682) (by decide +kernel), List.mem_of_getElem? (i := 1683) (by decide +kernel)⟩
theorem lw_p81 : lw_okq (⟨"NailGoldModel", "isRival", "(I)Z"⟩, 25) := ⟨⟨by decide +kernel, by decide +kernel⟩, List.mem_of_getElem? (i := 1376) (by decide +kernel), List.mem_of_getElem? (i := 1690) (by decide +kernel), List.mem_of_getElem? (i := 1691) (by decide +kernel)⟩
theorem lw_p82 : lw_okq (⟨"NailGoldModel", "isKept", "(I)Z"⟩, 25) := ⟨⟨by decide +kernel, by decide +kernel⟩, List.mem_of_getElem? (i := 1376) (by decide +kernel), List.mem_of_getElem? (i := 1698) (by decide +kernel), List.mem_of_getElem? (i := 1699) (by decide +kernel)⟩
theorem lw_p83 : lw_okq (⟨"NailGoldModel", "remembers", "()V"⟩, 25) := ⟨⟨by decide +kernel, by decide +kernel⟩, List.mem_of_getElem? (i := 1376) (by decide +kernel), List.mem_of_getElem? (i := 1702) (by decide +kernel), List.mem_of_getElem? (i := 1703) (by decide +kernel)⟩
theorem lw_p84 : lw_okq (⟨"NailGoldModel", "logs", "(II)V"⟩, 25) := ⟨⟨by decide +kernel, by decide +kernel⟩, List.mem_of_getElem? (i := 1376) (by decide +kernel), List.mem_of_getElem? (i := 1709) (by decide +kernel), List.mem_of_getElem? (i := 1710) (by decide +kernel)⟩
theorem lw_p85 : lw_okq (⟨"NailGoldModel", "pays", "(I)V"⟩, 25) := ⟨⟨by decide +kernel, by decide +kernel⟩, List.mem_of_getElem? (i := 1376) (by decide +kernel), List.mem_of_getElem? (i := 1717) (by decide +kernel), List.mem_of_getElem? (i := 1718) (by decide +kernel)⟩
theorem lw_p86 : lw_okq (⟨"NailGoldModel", "catches", "(II)Z"⟩, 25) := ⟨⟨by decide +kernel, by decide +kernel⟩, List.mem_of_getElem? (i := 1376) (by decide +kernel), List.mem_of_getElem? (i := 1721) (by decide +kernel), List.mem_of_getElem? (i := 1722) (by decide +kernel)⟩
theorem lw_p87 : lw_okq (⟨"NailGoldModel", "goes", "(IZ)I"⟩, 25) := ⟨⟨by decide +kernel, by decide +kernel⟩, List.mem_of_getElem? (i := 1376) (by decide +kernel), List.mem_of_getElem? (i := 1745) (by decide +kernel), List.mem_of_getElem? (i := 1746) (by decide +kernel)⟩
theorem lw_p88 : lw_okq (⟨"NailGoldModel", "works", "(I)V"⟩, 25) := ⟨⟨by decide +kernel, by decide +kernel⟩, List.mem_of_getElem? (i := 1376) (by decide +kernel), List.mem_of_getElem? (i := 1749) (by decide +kernel), List.mem_of_getElem? (i := 1750) (by decide +kernel)⟩
theorem lw_p89 : lw_okq (⟨"NailGoldModel", "draw", "(I)I"⟩, 25) := ⟨⟨by decide +kernel, by decide +kernel⟩, List.mem_of_getElem? (i := 1376) (by decide +kernel), List.mem_of_getElem? (i := 1756) (by decide +kernel), List.mem_of_getElem? (i := 1757) (by decide +kernel)⟩
theorem lw_p90 : lw_okq (⟨"NailGoldModel", "by", "(IZ)I"⟩, 25) := ⟨⟨by decide +kernel, by decide +kernel⟩, List.mem_of_getElem? (i := 1376) (by decide +kernel), List.mem_of_getElem? (i := 1777) (by decide +kernel), List.mem_of_getElem? (i := 1778) (by decide +kernel)⟩
theorem lw_p91 : lw_okq (⟨"NailGoldModel", "looks", "(I)V"⟩, 25) := ⟨⟨by decide +kernel, by decide +kernel⟩, List.mem_of_getElem? (i := 1376) (by decide +kernel), List.mem_of_getElem? (i := 1789) (by decide +kernel), List.mem_of_getElem? (i := 1790) (by decide +kernel)⟩
theorem lw_p92 : lw_okq (⟨"NailGoldModel", "from", "(IIII)I"⟩, 25) := ⟨⟨by decide +kernel, by decide +kernel⟩, List.mem_of_getElem? (i := 1376) (by decide +kernel), List.mem_of_getElem? (i := 1793) (by decide +kernel), List.mem_of_getElem? (i := 1794) (by decide +kernel)⟩
theorem lw_p93 : lw_okq (⟨"NailGoldModel", "using", "(IIIII)I"⟩, 25) := ⟨⟨by decide +kernel, by decide +kernel⟩, List.mem_of_getElem? (i := 1376) (by decide +kernel), List.mem_of_getElem? (i := 1797) (by decide +kernel), List.mem_of_getElem? (i := 1798) (by decide +kernel)⟩
theorem lw_p94 : lw_okq (⟨"NailGoldModel", "behind", "(IIII)I"⟩, 25) := ⟨⟨by decide +kernel, by decide +kernel⟩, List.mem_of_getElem? (i := 1376) (by decide +kernel), List.mem_of_getElem? (i := 1801) (by decide +kernel), List.mem_of_getElem? (i := 1802) (by decide +kernel)⟩
theorem lw_p95 : lw_okq (⟨"NailGoldModel", "stopped", "(I)I"⟩, 25) := ⟨⟨by decide +kernel, by decide +kernel⟩, List.mem_of_getElem? (i := 1376) (by decide +kernel), List.mem_of_getElem? (i := 1813) (by decide +kernel), List.mem_of_getElem? (i := 1814) (by decide +kernel)⟩
def lw_privs_6 : List (MethodName × Nat) := [(⟨"NailGoldModel", "costOf", "(I)I"⟩, 25), (⟨"NailGoldModel", "isRival", "(I)Z"⟩, 25), (⟨"NailGoldModel", "isKept", "(I)Z"⟩, 25), (⟨"NailGoldModel", "remembers", "()V"⟩, 25), (⟨"NailGoldModel", "logs", "(II)V"⟩, 25), (⟨"NailGoldModel", "pays", "(I)V"⟩, 25), (⟨"NailGoldModel", "catches", "(II)Z"⟩, 25), (⟨"NailGoldModel", "goes", "(IZ)I"⟩, 25), (⟨"NailGoldModel", "works", "(I)V"⟩, 25), (⟨"NailGoldModel", "draw", "(I)I"⟩, 25), (⟨"NailGoldModel", "by", "(IZ)I"⟩, 25), (⟨"NailGoldModel", "looks", "(I)V"⟩, 25), (⟨"NailGoldModel", "from", "(IIII)I"⟩, 25), (⟨"NailGoldModel", "using", "(IIIII)I"⟩, 25), (⟨"NailGoldModel", "behind", "(IIII)I"⟩, 25), (⟨"NailGoldModel", "stopped", "(I)I"⟩, 25)]
theorem lw_r6 : ∀ q ∈ lw_privs_6, lw_okq q := List.forall_mem_cons.mpr ⟨lw_p80, List.forall_mem_cons.mpr ⟨lw_p81, List.forall_mem_cons.mpr ⟨lw_p82, List.forall_mem_cons.mpr ⟨lw_p83, List.forall_mem_cons.mpr ⟨lw_p84, List.forall_mem_cons.mpr ⟨lw_p85, List.forall_mem_cons.mpr ⟨lw_p86, List.forall_mem_cons.mpr ⟨lw_p87, List.forall_mem_cons.mpr ⟨lw_p88, List.forall_mem_cons.mpr ⟨lw_p89, List.forall_mem_cons.mpr ⟨lw_p90, List.forall_mem_cons.mpr ⟨lw_p91, List.forall_mem_cons.mpr ⟨lw_p92, List.forall_mem_cons.mpr ⟨lw_p93, List.forall_mem_cons.mpr ⟨lw_p94, List.forall_mem_cons.mpr ⟨lw_p95, fun _ h => absurd h List.not_mem_nil⟩⟩⟩⟩⟩⟩⟩⟩⟩⟩⟩⟩⟩⟩⟩⟩
theorem lw_p96 : lw_okq (⟨"NailGoldModel", "bestSet", "(IZ)I"⟩, 25) := ⟨⟨by decide +kernel, by decide +kernel⟩, List.mem_of_getElem? (i := 1376) (by decide +kernel), List.mem_of_getElem? (i := 1821) (by decide +kernel), List.mem_of_getElem? (i := 1822) (by decide +kernel)⟩
theorem lw_p97 : lw_okq (⟨"NailGoldModel", "costs", "(I)I"⟩, 25) := ⟨⟨by decide +kernel, by decide +kernel⟩, List.mem_of_getElem? (i := 1376) (by decide +kernel), List.mem_of_getElem? (i := 1828) (by decide +kernel), List.mem_of_getElem? (i := 1829) (by decide +kernel)⟩
theorem lw_p98 : lw_okq (⟨"NailGoldModel", "told", "()I"⟩, 25) := ⟨⟨by decide +kernel, by decide +kernel⟩, List.mem_of_getElem? (i := 1376) (by decide +kernel), List.mem_of_getElem? (i := 1844) (by decide +kernel), List.mem_of_getElem? (i := 1845) (by decide +kernel)⟩
theorem lw_p99 : lw_okq (⟨"NailGoldModel", "princePays", "(IIII)I"⟩, 25) := ⟨⟨by decide +kernel, by decide +kernel⟩, List.mem_of_getElem? (i := 1376) (by decide +kernel), List.mem_of_getElem? (i := 1857) (by decide +kernel), List.mem_of_getElem? (i := 1858) (by decide +kernel)⟩
theorem lw_p100 : lw_okq (⟨"NailGoldModel", "manHas", "(IIII)I"⟩, 25) := ⟨⟨by decide +kernel, by decide +kernel⟩, List.mem_of_getElem? (i := 1376) (by decide +kernel), List.mem_of_getElem? (i := 1861) (by decide +kernel), List.mem_of_getElem? (i := 1862) (by decide +kernel)⟩
theorem lw_p101 : lw_okq (⟨"NailGoldModel", "gives", "(III)I"⟩, 25) := ⟨⟨by decide +kernel, by decide +kernel⟩, List.mem_of_getElem? (i := 1376) (by decide +kernel), List.mem_of_getElem? (i := 1879) (by decide +kernel), List.mem_of_getElem? (i := 1880) (by decide +kernel)⟩
theorem lw_p102 : lw_okq (⟨"NailGoldModel", "keptOnes", "(I)I"⟩, 25) := ⟨⟨by decide +kernel, by decide +kernel⟩, List.mem_of_getElem? (i := 1376) (by decide +kernel), List.mem_of_getElem? (i := 1883) (by decide +kernel), List.mem_of_getElem? (i := 1884) (by decide +kernel)⟩
theorem lw_p103 : lw_okq (⟨"NailGoldModel", "logged", "(II)I"⟩, 25) := ⟨⟨by decide +kernel, by decide +kernel⟩, List.mem_of_getElem? (i := 1376) (by decide +kernel), List.mem_of_getElem? (i := 1919) (by decide +kernel), List.mem_of_getElem? (i := 1920) (by decide +kernel)⟩
def lw_privs_7 : List (MethodName × Nat) := [(⟨"NailGoldModel", "bestSet", "(IZ)I"⟩, 25), (⟨"NailGoldModel", "costs", "(I)I"⟩, 25), (⟨"NailGoldModel", "told", "()I"⟩, 25), (⟨"NailGoldModel", "princePays", "(IIII)I"⟩, 25), (⟨"NailGoldModel", "manHas", "(IIII)I"⟩, 25), (⟨"NailGoldModel", "gives", "(III)I"⟩, 25), (⟨"NailGoldModel", "keptOnes", "(I)I"⟩, 25), (⟨"NailGoldModel", "logged", "(II)I"⟩, 25)]
theorem lw_r7 : ∀ q ∈ lw_privs_7, lw_okq q := List.forall_mem_cons.mpr ⟨lw_p96, List.forall_mem_cons.mpr ⟨lw_p97, List.forall_mem_cons.mpr ⟨lw_p98, List.forall_mem_cons.mpr ⟨lw_p99, List.forall_mem_cons.mpr ⟨lw_p100, List.forall_mem_cons.mpr ⟨lw_p101, List.forall_mem_cons.mpr ⟨lw_p102, List.forall_mem_cons.mpr ⟨lw_p103, fun _ h => absurd h List.not_mem_nil⟩⟩⟩⟩⟩⟩⟩⟩
def lw_privs : List (MethodName × Nat) := lw_privs_1 ++ (lw_privs_2 ++ (lw_privs_3 ++ (lw_privs_4 ++ (lw_privs_5 ++ (lw_privs_6 ++ (lw_privs_7))))))
def lw_tbl : List Cond := k2_sels lw_privs ++ tables_1
theorem lw_privs_ok : ∀ q ∈ lw_privs, lw_okq q := by
  show ∀ q ∈ lw_privs_1 ++ (lw_privs_2 ++ (lw_privs_3 ++ (lw_privs_4 ++ (lw_privs_5 ++ (lw_privs_6 ++ (lw_privs_7)))))), lw_okq q
  exact List.forall_mem_append.mpr ⟨lw_r1, List.forall_mem_append.mpr ⟨lw_r2, List.forall_mem_append.mpr ⟨lw_r3, List.forall_mem_append.mpr ⟨lw_r4, List.forall_mem_append.mpr ⟨lw_r5, List.forall_mem_append.mpr ⟨lw_r6, lw_r7⟩⟩⟩⟩⟩⟩
end
section
theorem goodIn_r {big : List Cond} (ws : List Cond) (ps : List Nat) (hp : ws = ps.filterMap (fun i => big[i]?)) (h : ws.all goodWord = true) : GoodIn big ws := by
  intro w hw
  have h1 := List.all_eq_true.mp h w hw
  rw [hp] at hw
  obtain ⟨i, -, hi⟩ := List.mem_filterMap.mp hw
  have hm : w ∈ big := by first | exact List.mem_of_getElem? hi | exact List.getElem?_mem hi
  exact ⟨hm, good_of_word h1⟩
theorem goodIn_app {big a b : List Cond} (ha : GoodIn big a) (hb : GoodIn big b) : GoodIn big (a ++ b) := fun w h => (List.mem_append.mp h).elim (ha w) (hb w)
theorem goodIn_ca {big a b : List Cond} {c : Cond} (ha : GoodIn big (c :: a)) (hb : GoodIn big b) : GoodIn big (c :: (a ++ b)) := fun w h => (List.mem_cons.mp h).elim (fun e => ha w (List.mem_cons.mpr (Or.inl e))) (fun h => (List.mem_append.mp h).elim (fun h => ha w (List.mem_cons.mpr (Or.inr h))) (hb w))
theorem goodIn_sub {big ws : List Cond} (hm : ∀ w ∈ ws, w ∈ big) (h : ws.all goodWord = true) : GoodIn big ws := fun w hw => ⟨hm w hw, good_of_word (List.all_eq_true.mp h w hw)⟩

section VXA
def vx_T (XC : String → State → State → Prop) (st : State) (q : Addr) (t : State) (mc ms : Nat) (free : Addr → Prop) : Prop :=
  ∃ (E : String) (ce : Cell) (L : List Loc), XC E st t ∧ t.heap[q]? = some ce ∧ ce.vm = .none ∧ st.vm.findClass E = some ce.cls ∧ st.WarmedH t.vm ∧ st.sameButNew ({ t with vm := st.vm } : State) L mc ms ∧ ∀ z ∈ L, free z.base
def vx_Q (Qc : Array Value → State → Outcome → State → Prop) (XC : String → State → State → Prop) (mc ms : Nat) (free : Addr → Prop) : Array Value → State → Outcome → State → Prop := fun a st o t =>
  (Qc a st o t ∧ ∃ L, FrameEnd st o t L mc ms ∧ ∀ q ∈ L, free q.base) ∨ ∃ q, o = .threw q ∧ vx_T XC st q t mc ms free
def vx_Met (l : Launch) (y : MethodName) (ws : List Cond) (rm : Room) (Pc : Array Value → State → Prop) (Qc : Array Value → State → Outcome → State → Prop) (XC : String → State → State → Prop) (mc ms : Nat) (free : Addr → Prop) : Prop :=
  MetFree l y (headSpec ws rm) Pc (fun _ _ _ _ _ => True) (vx_Q Qc XC mc ms free)
def vx_Post (XC : String → State → State → Prop) (mc ms : Nat) (free : Addr → Prop) : Pt → Array Value → Addr → Pt → Prop := fun A a q B =>
  ∃ (g : JFrame) (mk : MethodId) (t : State) (L : List Loc) (E : String) (ce : Cell), B.U.heap = t.heap ∧ B.U.vm = t.vm ∧ XC E (A.U.calling g mk a) t ∧ t.heap[q]? = some ce ∧ ce.vm = .none ∧ A.U.vm.findClass E = some ce.cls ∧ B.locs = A.locs ++ L ∧ (∀ z ∈ L, free z.base) ∧ B.cells = A.cells + mc ∧ B.slots = A.slots + ms
def vx_Back (l : Launch) (R : Room) (p : Program) (e : Env) (below : List Frame) (s : State) (sargs : Array Value) (y : MethodName) (len W9 : Nat)
    (Pre : Pt → Array Value → Prop) (Post : Pt → Array Value → Option Value → Pt → Prop) (PostX : Pt → Array Value → Addr → Pt → Prop) : Prop :=
  ∀ (m : MethodId) (meth : Method) (c : Code) (A : Pt) (g : JFrame) (ig : Instr) (mk : MethodId) (a : Array Value),
    Stand p l e R s m sargs below meth c A.U A.locs A.cells A.slots → g.method = m → g.locals.size = c.maxLocals → decode c.code g.pc = .ok (ig, len) →
    2 * g.monitorRoom + (g.stack.map fun v => v.category).sum ≤ W9 → A.U.methodNamed? y = some mk → Pre A a →
    (∃ (v : Option Value) (B : Pt), Stand p l e R s m sargs below meth c B.U B.locs B.cells B.slots ∧ Post A a v B ∧
      Steps p.tables e below (doInvoke e (A.U.setTop g) [] mk a).1 (B.U.setTop { g with pc := g.pc + len, stack := v.toList ++ g.stack })) ∨
    (∃ (q : Addr) (B : Pt), Stand p l e R s m sargs below meth c B.U B.locs B.cells B.slots ∧ PostX A a q B ∧
      Steps p.tables e below (doInvoke e (A.U.setTop g) [] mk a).1 ((B.U.setTop g).pushFrame (.throwing q)))
section Payer
variable {l : Launch} {R : Room} {p : Program} {e : Env} {below : List Frame} {s : State} {sargs : Array Value} {y : MethodName} {len W9 : Nat}
theorem vx_back {ws : List Cond} {rm : Room} {Pc : Array Value → State → Prop} {Qc : Array Value → State → Outcome → State → Prop} {XC : String → State → State → Prop} {mc ms : Nat} {free : Addr → Prop} {bytes : ByteArray} {maxL : Nat} {ret : Option FieldType}
    (hM : vx_Met l y ws rm Pc Qc XC mc ms free) (hblind : FrameBlind Pc) (hrc : rm.cells = mc) (hrs : rm.slots = ms)
    (hframes : rm.frames + 1 ≤ R.frames) (hlocals : W9 + (maxL + 11) + rm.locals ≤ R.locals)
    (hws : ∀ w ∈ ws, ∀ a' U, s.WarmedH U.vm → w.before a' U = true) (hcode : Cond.code y bytes maxL ret ∈ ws) (hinit : ∀ a' U, s.WarmedH U.vm → (Cond.initialized y.cls).before a' U = true) :
    vx_Back l R p e below s sargs y len W9 (PreOf R mc ms Pc) (PostOf Qc mc ms free) (vx_Post XC mc ms free) := by
  intro m meth c A g ig mk a X hg hsize hdg hW hn hp
  have h1 : (headSpec ws rm).pre.before a A.U = true := atoms_intro fun w hw => hws w hw _ _ X.warmed
  have h2 : (Cond.code y bytes maxL ret).before a A.U = true := hws _ hcode _ _ X.warmed
  have h3 : (Cond.initialized y.cls).before a A.U = true := hinit _ _ X.warmed
  have h4 : A.cells + (headSpec ws rm).room.cells ≤ R.cells := by rw [show (headSpec ws rm).room.cells = mc from hrc]; exact hp.1
  have h5 : A.slots + (headSpec ws rm).room.slots ≤ R.slots := by rw [show (headSpec ws rm).room.slots = ms from hrs]; exact hp.2.1
  have hPc : Pc a (A.U.calling g mk a) := hblind _ _ _ _ hp.2.2
  obtain ⟨U, Ls, c0, s0⟩ := A
  dsimp only [Pt.U, Pt.locs, Pt.cells, Pt.slots] at h1 h2 h3 h4 h5 X hn hPc ⊢
  obtain ⟨methY, cY, hmY, hcY, -, hlY, -, -, -, -⟩ := Cond.code_spec hn h2
  obtain ⟨kY, hkY, -⟩ := className_of_methodNamed hn
  have hinitY : kY.init = .initialized := Cond.initialized_spec (findClass_of_methodNamed hn) hkY h3
  have h : At U g.method c below := by rw [hg]; exact X.here
  have hlocals9 : W9 + (maxL + 11) + (headSpec ws rm).room.locals ≤ R.locals := hlocals
  have happ : (headSpec ws rm).appliesLoose y e.platform (U.calling g mk a) = true :=
    Spec.appliesLoose_calling (g := g) h hdg hn hkY hinitY
      (X.room_calling (g := g) (R' := (headSpec ws rm).room) hsize hmY hcY hframes (by rw [hlY]; omega) h4 h5) h1
  obtain ⟨mid, hmid⟩ := h.above
  have hfr : (U.setTop g).frames = (.java g :: mid) ++ below := by rw [State.frames_setTop' g h.top, hmid]; rfl
  obtain ⟨o, s₂, hsteps, -, hend, hq⟩ := Steps.callFree hM p X.admits X.cas X.clock (acts := []) hfr happ hPc trivial
  have hq' : vx_Q Qc XC mc ms free a (U.calling g mk a) o s₂ := hq
  rw [State.frames_setTop' g h.top] at hend
  obtain ⟨g₀, hg0⟩ := Option.isSome_iff_exists.mp h.top
  obtain ⟨r, hr⟩ := State.topJava?_eq_some.mp hg0
  have hr' : (({ U with heap := s₂.heap, slotsUsed := s₂.slotsUsed } : State).setVm s₂.vm).frames = .java g₀ :: r := hr
  rcases hq' with ⟨hqc, L, hfe, hL⟩ | ⟨q, rfl, E, ce, L, hx, hce, hcv, hcl, hW₂, hsm, hL⟩
  · obtain ⟨⟨v, rfl⟩, hW₂, e2, q2, q3, q4, q5, q6⟩ := id hfe
    have e3 : s₂ = ({ (U.calling g mk a).setFrames s₂.frames with heap := s₂.heap, slotsUsed := s₂.slotsUsed } : State).setVm s₂.vm := by
      have : s₂ = ({ s₂ with vm := (U.calling g mk a).vm } : State).setVm s₂.vm := rfl
      rw [e2] at this
      exact this
    obtain ⟨c₂, i₂, len₂, hc₂, hd₂, hf₂⟩ := hend
    have hW' : U.WarmedH s₂.vm := hW₂
    have hcc : c₂ = c := by
      have h1 : s₂.code? g.method = U.code? g.method := by
        rw [State.code?_eq, State.code?_eq, hW'.alike.method?]
      exact Option.some.inj (hc₂.symm.trans (h1.trans h.code))
    subst hcc
    have hlen : len₂ = len := by rw [hdg] at hd₂; cases hd₂; rfl
    subst hlen
    have hs₂ : s₂ = (({ U with heap := s₂.heap, slotsUsed := s₂.slotsUsed } : State).setVm s₂.vm).setTop { g with pc := g.pc + len₂, stack := v.toList ++ g.stack } := by
      refine e3.trans ?_
      rw [hf₂, State.calling_eq h.top, State.setFrames_setFrames, State.setTop_of_frames _ hr', hr]
      rfl
    have hsame : U.sameButNew ({ U with heap := s₂.heap, slotsUsed := s₂.slotsUsed } : State) L mc ms := by
      refine ⟨?_, q2, q3, q4, q5, q6⟩
      obtain ⟨t, ht, -⟩ := State.frames_cons hr
      show ({ U with heap := s₂.heap, slotsUsed := s₂.slotsUsed } : State) = { U.setFrames U.frames with heap := s₂.heap, slotsUsed := s₂.slotsUsed }
      rw [State.setFrames_self ht]
    subst hg
    refine Or.inl ⟨v, ⟨(({ U with heap := s₂.heap, slotsUsed := s₂.slotsUsed } : State).setVm s₂.vm), Ls ++ L, c0 + mc, s0 + ms⟩,
      ⟨X.admits, X.cas, X.clock, X.frames, X.room, X.hears, X.method, X.code, (X.here.setHeapUsed s₂.heap s₂.slotsUsed).setVm hW'.alike, X.tail, State.WarmedH.trans X.warmed hW', X.limits, X.bytes, X.same.trans (hsame.setVm s.vm)⟩,
      ⟨g, mk, s₂, L, rfl, rfl, hqc, rfl, hL, rfl, rfl⟩, ?_⟩
    show Steps p.tables e below _ ((({ U with heap := s₂.heap, slotsUsed := s₂.slotsUsed } : State).setVm s₂.vm).setTop { g with pc := g.pc + len₂, stack := v.toList ++ g.stack })
    rw [← hs₂]
    exact hsteps
  · obtain ⟨e2, q2, q3, q4, q5, q6⟩ := id hsm
    have e3 : s₂ = ({ (U.calling g mk a).setFrames s₂.frames with heap := s₂.heap, slotsUsed := s₂.slotsUsed } : State).setVm s₂.vm := by
      have : s₂ = ({ s₂ with vm := (U.calling g mk a).vm } : State).setVm s₂.vm := rfl
      rw [e2] at this
      exact this
    have hf₂ : s₂.frames = .throwing q :: .java g :: U.frames.tail := hend
    have hW' : U.WarmedH s₂.vm := hW₂
    have hs₂ : s₂ = ((({ U with heap := s₂.heap, slotsUsed := s₂.slotsUsed } : State).setVm s₂.vm).setTop g).pushFrame (.throwing q) := by
      refine e3.trans ?_
      rw [hf₂, State.calling_eq h.top, State.setFrames_setFrames, State.pushFrame, State.frames_setTop _ hr', State.setTop_of_frames _ hr', State.setFrames_setFrames, hr]
      rfl
    have hsame : U.sameButNew ({ U with heap := s₂.heap, slotsUsed := s₂.slotsUsed } : State) L mc ms := by
      refine ⟨?_, q2, q3, q4, q5, q6⟩
      obtain ⟨t, ht, -⟩ := State.frames_cons hr
      show ({ U with heap := s₂.heap, slotsUsed := s₂.slotsUsed } : State) = { U.setFrames U.frames with heap := s₂.heap, slotsUsed := s₂.slotsUsed }
      rw [State.setFrames_self ht]
    subst hg
    refine Or.inr ⟨q, ⟨(({ U with heap := s₂.heap, slotsUsed := s₂.slotsUsed } : State).setVm s₂.vm), Ls ++ L, c0 + mc, s0 + ms⟩,
      ⟨X.admits, X.cas, X.clock, X.frames, X.room, X.hears, X.method, X.code, (X.here.setHeapUsed s₂.heap s₂.slotsUsed).setVm hW'.alike, X.tail, State.WarmedH.trans X.warmed hW', X.limits, X.bytes, X.same.trans (hsame.setVm s.vm)⟩,
      ⟨g, mk, s₂, L, E, ce, rfl, rfl, hx, hce, hcv, hcl, rfl, hL, rfl, rfl⟩, ?_⟩
    show Steps p.tables e below _ (((({ U with heap := s₂.heap, slotsUsed := s₂.slotsUsed } : State).setVm s₂.vm).setTop g).pushFrame (.throwing q))
    rw [← hs₂]
    exact hsteps
end Payer
section Calls
variable {p : Program} {l : Launch} {e : Env} {R : Room} {s : State} {m : MethodId} {args : Array Value} {below : List Frame} {meth : Method} {c : Code} {T : State} {locs : List Loc} {cells slots : Nat}
theorem vx_callV (X : Stand p l e R s m args below meth c T locs cells slots) (hexec : p.tables.exec = Jvm.exec) {own C : String} {index : Nat} {y : MethodName} {bytes : ByteArray} {maxL : Nat} {ret : Option FieldType}
    (hown : s.vm.findClass own = some m.cls) (hlink : (Cond.methodLink own index y).before args s = true) (hinst : (Cond.instanceMethod y).before args s = true) (hsel : (Cond.selects C y y).before args s = true)
    (hcode : (Cond.code y bytes maxL ret).before args s = true) (hy : y.cls ≠ "java/lang/invoke/MethodHandle" ∧ y.cls ≠ "java/lang/invoke/VarHandle")
    {W9 : Nat} {Pre : Pt → Array Value → Prop} {Post : Pt → Array Value → Option Value → Pt → Prop} {PostX : Pt → Array Value → Addr → Pt → Prop} (hK : vx_Back l R p e below s args y 3 W9 Pre Post PostX)
    {b : Addr} {cellB : Cell} (hcell : T.heap[b]? = some cellB) (hobj : cellB.vm.isStatics = false) (hcls : s.vm.findClass C = some cellB.cls)
    {g : JFrame} (hg : g.method = m) (hsize : g.locals.size = c.maxLocals) {argsL rest : List Value} (hlen : ∀ sig, parseMethodDescriptor y.desc = some sig → argsL.length = sig.parameters.length)
    (hstack : g.stack = argsL.reverse ++ .ref b :: rest) (hW : 2 * g.monitorRoom + (rest.map fun v => v.category).sum ≤ W9) (hdg : decode c.code g.pc = .ok (.invokevirtual index, 3))
    (hpre : ∀ vm₁, s.WarmedH vm₁ → Pre ⟨T.setVm vm₁, locs, cells, slots⟩ (Value.ref b :: argsL).toArray) :
    (∃ (v : Option Value) (vm₁ : Vm) (B : Pt), s.WarmedH vm₁ ∧ Stand p l e R s m args below meth c B.U B.locs B.cells B.slots ∧ Post ⟨T.setVm vm₁, locs, cells, slots⟩ (Value.ref b :: argsL).toArray v B ∧
      ∀ target, Steps p.tables e below (B.U.setTop { g with pc := g.pc + 3, stack := v.toList ++ rest }) target → Steps p.tables e below (T.setTop g) target) ∨
    (∃ (q : Addr) (vm₁ : Vm) (B : Pt), s.WarmedH vm₁ ∧ Stand p l e R s m args below meth c B.U B.locs B.cells B.slots ∧ PostX ⟨T.setVm vm₁, locs, cells, slots⟩ (Value.ref b :: argsL).toArray q B ∧
      Steps p.tables e below (T.setTop g) ((B.U.setTop { g with stack := rest }).pushFrame (.throwing q))) := by
  obtain ⟨mk, methM, hnamed, hmethM, hstM, habM⟩ := Cond.instanceMethod_spec hinst
  obtain ⟨methM', cM, hmethM', -, -, -, -, -, -, hsigM⟩ := Cond.code_spec hnamed hcode
  cases hmethM.symm.trans hmethM'
  obtain ⟨c2, r2, m2, q1, q2, q3, q4, kP, hkP, hkPi⟩ := Cond.selects_spec hsel
  cases hcls.symm.trans q1
  cases (State.methodFound?_of_named hnamed hy).symm.trans q2
  cases hnamed.symm.trans q3
  have hselP : selectMethod e.platform s.vm cellB.cls mk = .method mk := by rw [Launch.admits_selectMethod X.admits]; exact q4
  obtain ⟨vm₁, X₁, hstep₁⟩ := X.invokevirtual hexec hown hlink hnamed hmethM hstM hkP hkPi hy (a := b) (cell := cellB) hcell
    (fun z h => by rw [h] at hobj; cases hobj) hselP hmethM habM hkP hkPi (g := g) hg (argsL := argsL) (rest := rest) (hlen _ hsigM) hstack hdg
  rcases hK m meth c ⟨T.setVm vm₁, locs, cells, slots⟩ { g with stack := rest } (.invokevirtual index) mk (Value.ref b :: argsL).toArray X₁ hg hsize hdg hW (X₁.named hnamed) (hpre vm₁ X₁.warmed) with ⟨v, B, X', hpost, hsteps⟩ | ⟨q, B, X', hpost, hsteps⟩
  · exact Or.inl ⟨v, vm₁, B, X₁.warmed, X', hpost, fun target h => hstep₁ _ fun acts => by rw [doInvoke_state]; exact hsteps.trans h⟩
  · exact Or.inr ⟨q, vm₁, B, X₁.warmed, X', hpost, hstep₁ _ fun acts => by rw [doInvoke_state]; exact hsteps⟩
theorem vx_callS (X : Stand p l e R s m args below meth c T locs cells slots) (hexec : p.tables.exec = Jvm.exec) {own : String} {index : Nat} {y : MethodName} {bytes : ByteArray} {maxL : Nat} {ret : Option FieldType}
    (hown : s.vm.findClass own = some m.cls) (hlink : (Cond.methodLink own index y).before args s = true) (hstat : (Cond.static y).before args s = true) (hinit : (Cond.initialized y.cls).before args s = true)
    (hcode : (Cond.code y bytes maxL ret).before args s = true) (hy : y.cls ≠ "java/lang/invoke/MethodHandle" ∧ y.cls ≠ "java/lang/invoke/VarHandle")
    {W9 : Nat} {Pre : Pt → Array Value → Prop} {Post : Pt → Array Value → Option Value → Pt → Prop} {PostX : Pt → Array Value → Addr → Pt → Prop} (hK : vx_Back l R p e below s args y 3 W9 Pre Post PostX)
    {g : JFrame} (hg : g.method = m) (hsize : g.locals.size = c.maxLocals) {argsL rest : List Value} (hlen : ∀ sig, parseMethodDescriptor y.desc = some sig → argsL.length = sig.parameters.length)
    (hstack : g.stack = argsL.reverse ++ rest) (hW : 2 * g.monitorRoom + (rest.map fun v => v.category).sum ≤ W9) (hdg : decode c.code g.pc = .ok (.invokestatic index, 3))
    (hpre : ∀ vm₁, s.WarmedH vm₁ → Pre ⟨T.setVm vm₁, locs, cells, slots⟩ argsL.toArray) :
    (∃ (v : Option Value) (vm₁ : Vm) (B : Pt), s.WarmedH vm₁ ∧ Stand p l e R s m args below meth c B.U B.locs B.cells B.slots ∧ Post ⟨T.setVm vm₁, locs, cells, slots⟩ argsL.toArray v B ∧
      ∀ target, Steps p.tables e below (B.U.setTop { g with pc := g.pc + 3, stack := v.toList ++ rest }) target → Steps p.tables e below (T.setTop g) target) ∨
    (∃ (q : Addr) (vm₁ : Vm) (B : Pt), s.WarmedH vm₁ ∧ Stand p l e R s m args below meth c B.U B.locs B.cells B.slots ∧ PostX ⟨T.setVm vm₁, locs, cells, slots⟩ argsL.toArray q B ∧
      Steps p.tables e below (T.setTop g) ((B.U.setTop { g with stack := rest }).pushFrame (.throwing q))) := by
  obtain ⟨mk, hnamed⟩ := Cond.code_named hcode
  obtain ⟨methM, cM, hmethM, -, -, -, -, -, -, hsigM⟩ := Cond.code_spec hnamed hcode
  have hstatic : methM.isStatic = true := Cond.static_spec hnamed hmethM hstat
  obtain ⟨kP, hkP, -⟩ := className_of_methodNamed hnamed
  have hinitP : kP.init = .initialized := Cond.initialized_spec (findClass_of_methodNamed hnamed) hkP hinit
  obtain ⟨vm₁, X₁, hstep₁⟩ := X.invokestatic hexec hown hlink hnamed hmethM hstatic hkP hinitP hy (g := g) hg (argsL := argsL) (rest := rest) (hlen _ hsigM) hstack hdg
  rcases hK m meth c ⟨T.setVm vm₁, locs, cells, slots⟩ { g with stack := rest } (.invokestatic index) mk argsL.toArray X₁ hg hsize hdg hW (X₁.named hnamed) (hpre vm₁ X₁.warmed) with ⟨v, B, X', hpost, hsteps⟩ | ⟨q, B, X', hpost, hsteps⟩
  · exact Or.inl ⟨v, vm₁, B, X₁.warmed, X', hpost, fun target h => hstep₁ _ fun acts => by rw [doInvoke_state]; exact hsteps.trans h⟩
  · exact Or.inr ⟨q, vm₁, B, X₁.warmed, X', hpost, hstep₁ _ fun acts => by rw [doInvoke_state]; exact hsteps⟩
end Calls
theorem vx_cls {s : State} {T : State} {vm₁ : Vm} {E : String} {k : ClassId} (hW : s.WarmedH vm₁) (h : (T.setVm vm₁).vm.findClass E = some k) : s.vm.findClass E = some k := by
  have h1 : vm₁.findClass E = some k := h
  rw [hW.alike.findClass] at h1
  exact h1
def vx_W (p : Program) (l : Launch) (e : Env) (R : Room) (s : State) (m : MethodId) (args : Array Value) (below : List Frame) (meth : Method) (c : Code) (H : Heap) (locs : List Loc) (cells slots : Nat) (Q : State → Prop) (g : JFrame) (q : Addr) : Prop :=
  ∀ T : State, T.heap = H → Stand p l e R s m args below meth c T locs cells slots → ∃ t, Steps p.tables e below ((T.setTop g).pushFrame (.throwing q)) t ∧ Q t
def vx_Run (p : Program) (l : Launch) (e : Env) (R : Room) (s : State) (m : MethodId) (args : Array Value) (below : List Frame) (meth : Method) (c : Code) (H : Heap) (locs : List Loc) (cells slots mc ms : Nat) (g : JFrame) (rest : List Value) (Qa : State → Outcome → State → Prop) (XC : String → State → State → Prop) (free : Addr → Prop) : Prop :=
  ∀ T : State, T.heap = H → Stand p l e R s m args below meth c T locs cells slots →
    (∃ (v : Option Value) (st₀ t T' : State) (L : List Loc), st₀.heap = H ∧ Stand p l e R s m args below meth c T' (locs ++ L) (cells + mc) (slots + ms) ∧ (∀ q ∈ L, free q.base) ∧ T'.heap = t.heap ∧ T'.vm = t.vm ∧ Qa st₀ (.returned v) t ∧
      Goes p e below T g T' { g with pc := g.pc + 3, stack := v.toList ++ rest }) ∨
    (∃ (q : Addr) (st₀ t T' : State) (L : List Loc) (E : String) (ce : Cell), st₀.heap = H ∧ Stand p l e R s m args below meth c T' (locs ++ L) (cells + mc) (slots + ms) ∧ (∀ z ∈ L, free z.base) ∧ T'.heap = t.heap ∧ T'.vm = t.vm ∧ XC E st₀ t ∧ t.heap[q]? = some ce ∧ ce.vm = .none ∧ s.vm.findClass E = some ce.cls ∧
      Steps p.tables e below (T.setTop g) ((T'.setTop { g with stack := rest }).pushFrame (.throwing q)))
def vx_X {S : Type} (px : S → Prop) (B : String → S → State → Prop) (A : Nat → Prop) : String → State → State → Prop := fun E st t => ∃ u : S, px u ∧ B E u t ∧ va_F A st t
section Runs
variable {p : Program} {l : Launch} {e : Env} {R : Room} {s : State} {m : MethodId} {args : Array Value} {below : List Frame} {meth : Method} {c : Code} {H : Heap} {locs : List Loc} {cells slots : Nat}
variable {y : MethodName} {bytes cc : ByteArray} {maxL nL mc ms n index : Nat} {ret : Option FieldType} {ws : List Cond} {rm : Room} {Pc : Array Value → State → Prop} {Qc : Array Value → State → Outcome → State → Prop} {XC : String → State → State → Prop} {free : Addr → Prop} {Ts : List Cond} {own C : String} {b : Addr} {As rest : List Value} {g : JFrame}
theorem vx_callBack (cb : CallB R s args own index y bytes maxL ret ws rm mc ms n) (hM : vx_Met l y ws rm Pc Qc XC mc ms free) (hbl : FrameBlind Pc) : vx_Back l R p e below s args y 3 8 (PreOf R mc ms Pc) (PostOf Qc mc ms free) (vx_Post XC mc ms free) := by
  obtain ⟨hrc, hrs, hfr, hlo, hws, hcw, -, hini, -⟩ := cb
  exact vx_back (bytes := bytes) (maxL := maxL) (ret := ret) hM hbl hrc hrs hfr hlo hws hcw (fun a' U hW => word_at hW (Or.inl (by first | rfl | simp [Cond.onTables, Cond.keeps, Cond.steady])) hini)
theorem vx_runV (S : CallFix p m c cc nL s args Ts own) (hM : vx_Met l y ws rm Pc Qc XC mc ms free) (cw : CallW R s args own C index y bytes maxL ret ws rm mc ms n) (hp : PreV s H C b Pc As)
    (hg : g.method = m) (hn : As.length = n) (hsize : g.locals.size = nL) (hstack : g.stack = As.reverse ++ .ref b :: rest) (hW : 2 * g.monitorRoom + (rest.map fun v => v.category).sum ≤ 8) (hdg : decode cc g.pc = .ok (.invokevirtual index, 3)) (hf : cells + mc ≤ R.cells ∧ slots + ms ≤ R.slots) :
    vx_Run p l e R s m args below meth c H locs cells slots mc ms g rest (Qc (Value.ref b :: As).toArray) XC free := by
  have hK : vx_Back l R p e below s args y 3 8 (PreOf R mc ms Pc) (PostOf Qc mc ms free) (vx_Post XC mc ms free) := vx_callBack cw.1 hM hp.1
  obtain ⟨⟨-, -, -, -, -, -, hcode, -, hy, hlen, hl⟩, hin, hse⟩ := cw
  obtain ⟨hx, hb, hml, ho, -⟩ := S
  obtain ⟨-, ⟨cellB, hcB, hoB, hclB⟩, hPc⟩ := hp
  intro T hT X
  rcases vx_callV X hx (C := C) (bytes := bytes) (maxL := maxL) (ret := ret) ho hl hin hse hcode hy hK (by rw [hT]; exact hcB) hoB hclB hg (hsize.trans hml.symm) (argsL := As) (rest := rest) (fun sig h => hn.trans (hlen sig h)) hstack hW (by rw [hb]; exact hdg)
    (fun vm₁ hW₁ => ⟨hf.1, hf.2, hPc (T.setVm vm₁) hT hW₁⟩) with ⟨v, vm₁, ⟨U', l2, c2, s2⟩, hW₁, X', ⟨g', mk, t, L, e1, e2, hq, h1, hL, h2, h3⟩, st⟩ | ⟨q, vm₁, ⟨U', l2, c2, s2⟩, hW₁, X', ⟨g', mk, t, L, E, ce, e1, e2, hq, hce, hcv, hcl, h1, hL, h2, h3⟩, st⟩
  · dsimp only [Pt.U, Pt.locs, Pt.cells, Pt.slots] at X' e1 e2 h1 h2 h3 st
    subst h1; subst h2; subst h3
    exact Or.inl ⟨v, (T.setVm vm₁).calling g' mk (Value.ref b :: As).toArray, t, U', L, hT, X', hL, e1, e2, hq, st⟩
  · dsimp only [Pt.U, Pt.locs, Pt.cells, Pt.slots] at X' e1 e2 h1 h2 h3 st hcl
    subst h1; subst h2; subst h3
    exact Or.inr ⟨q, (T.setVm vm₁).calling g' mk (Value.ref b :: As).toArray, t, U', L, E, ce, hT, X', hL, e1, e2, hq, hce, hcv, vx_cls hW₁ hcl, st⟩
theorem vx_runS (S : CallFix p m c cc nL s args Ts own) (hM : vx_Met l y ws rm Pc Qc XC mc ms free) (cw : CallB R s args own index y bytes maxL ret ws rm mc ms n ∧ (Cond.static y).before args s = true) (hp : PreS s H Pc As)
    (hg : g.method = m) (hn : As.length = n) (hsize : g.locals.size = nL) (hstack : g.stack = As.reverse ++ rest) (hW : 2 * g.monitorRoom + (rest.map fun v => v.category).sum ≤ 8) (hdg : decode cc g.pc = .ok (.invokestatic index, 3)) (hf : cells + mc ≤ R.cells ∧ slots + ms ≤ R.slots) :
    vx_Run p l e R s m args below meth c H locs cells slots mc ms g rest (Qc As.toArray) XC free := by
  have hK : vx_Back l R p e below s args y 3 8 (PreOf R mc ms Pc) (PostOf Qc mc ms free) (vx_Post XC mc ms free) := vx_callBack cw.1 hM hp.1
  obtain ⟨⟨-, -, -, -, -, -, hcode, hini, hy, hlen, hl⟩, hstt⟩ := cw
  obtain ⟨hx, hb, hml, ho, -⟩ := S
  intro T hT X
  rcases vx_callS X hx (bytes := bytes) (maxL := maxL) (ret := ret) ho hl hstt hini hcode hy hK hg (hsize.trans hml.symm) (argsL := As) (rest := rest) (fun sig h => hn.trans (hlen sig h)) hstack hW (by rw [hb]; exact hdg)
    (fun vm₁ hW₁ => ⟨hf.1, hf.2, hp.2 (T.setVm vm₁) hT hW₁⟩) with ⟨v, vm₁, ⟨U', l2, c2, s2⟩, hW₁, X', ⟨g', mk, t, L, e1, e2, hq, h1, hL, h2, h3⟩, st⟩ | ⟨q, vm₁, ⟨U', l2, c2, s2⟩, hW₁, X', ⟨g', mk, t, L, E, ce, e1, e2, hq, hce, hcv, hcl, h1, hL, h2, h3⟩, st⟩
  · dsimp only [Pt.U, Pt.locs, Pt.cells, Pt.slots] at X' e1 e2 h1 h2 h3 st
    subst h1; subst h2; subst h3
    exact Or.inl ⟨v, (T.setVm vm₁).calling g' mk As.toArray, t, U', L, hT, X', hL, e1, e2, hq, st⟩
  · dsimp only [Pt.U, Pt.locs, Pt.cells, Pt.slots] at X' e1 e2 h1 h2 h3 st hcl
    subst h1; subst h2; subst h3
    exact Or.inr ⟨q, (T.setVm vm₁).calling g' mk As.toArray, t, U', L, E, ce, hT, X', hL, e1, e2, hq, hce, hcv, vx_cls hW₁ hcl, st⟩
end Runs
section Rows
variable {p : Program} {l : Launch} {e : Env} {R : Room} {s : State} {m : MethodId} {args : Array Value} {below : List Frame} {meth : Method} {c : Code} {H : Heap} {locs : List Loc} {cells slots : Nat} {Q : State → Prop}
variable {mc ms : Nat} {free : Addr → Prop} {A0 A1 : Nat → Prop} {H0 : Heap} {a : Array Value} {pc : Nat} {ls : Array Slot} {st0 rest : List Value}
theorem vx_keep {st₀ t T' : State} {L : List Loc} (h0 : st₀.heap = H) (e1 : T'.heap = t.heap) (hS : va_S A0 H0 H locs) (hA : ∀ q, q < H.size → A1 q → A0 q) (hf : ∀ q, free q → A0 q) (hL : ∀ q ∈ L, free q.base) (hF : va_F A1 st₀ t) :
    H.size ≤ T'.heap.size ∧ (∀ q : Nat, q < H.size → ¬ A1 q → T'.heap[q]? = H[q]?) ∧ va_S A0 H0 T'.heap (locs ++ L) := by
  obtain ⟨hz, hk⟩ := hF
  rw [h0] at hz hk
  exact ⟨by rw [e1]; exact hz, fun q h1 h2 => by rw [e1]; exact hk q h1 h2,
    ⟨Nat.le_trans hS.1 (by rw [e1]; exact hz), fun q h1 h2 => by rw [e1, hk q (Nat.lt_of_lt_of_le h1 hS.1) (fun z => h2 (hA q (Nat.lt_of_lt_of_le h1 hS.1) z))]; exact hS.2.1 q h1 h2, fun q hq => by
      rcases List.mem_append.mp hq with h | h
      · exact hS.2.2 q h
      · exact hf _ (hL q h)⟩⟩
theorem vx_calli {S SX : Type} {post : Int32 → S → Prop} {px : SX → Prop} {B : S → State → Prop} {BX : String → SX → State → Prop} {AX : Nat → Prop} (hr : vx_Run p l e R s m args below meth c H locs cells slots mc ms (F0 m pc ls st0) rest (va_Qi post B A1 a) (vx_X px BX AX) free) (hS : va_S A0 H0 H locs) (hA : ∀ q, q < H.size → A1 q → A0 q) (hf : ∀ q, free q → A0 q) (hAX : ∀ q, q < H.size → AX q → A0 q)
    (kx : ∀ (E : String) (ce : Cell) (q9 : Addr) (u : SX) (t : State) (H1 : Heap) (locs1 : List Loc), t.heap = H1 → s.vm.Alike t.vm → px u → BX E u t → H.size ≤ H1.size → (∀ q : Nat, q < H.size → ¬ AX q → H1[q]? = H[q]?) → va_S A0 H0 H1 locs1 → H1[q9]? = some ce → ce.vm = .none → s.vm.findClass E = some ce.cls → vx_W p l e R s m args below meth c H1 locs1 (cells + mc) (slots + ms) Q (F0 m pc ls rest) q9)
    (kk : ∀ (r : Int32) (u : S) (t : State) (H1 : Heap) (locs1 : List Loc), t.heap = H1 → s.vm.Alike t.vm → post r u → B u t → H.size ≤ H1.size → (∀ q : Nat, q < H.size → ¬ A1 q → H1[q]? = H[q]?) → va_S A0 H0 H1 locs1 → W p l e R s m args below meth c H1 locs1 (cells + mc) (slots + ms) Q (F0 m (pc + 3) ls (.int r :: rest))) : W p l e R s m args below meth c H locs cells slots Q (F0 m pc ls st0) := by
  intro T hT X
  rcases hr T hT X with ⟨v, st₀, t, T', L, h0, X', hL, e1, e2, ⟨⟨r, u, hv, hp, hb⟩, hF⟩, st⟩ | ⟨q, st₀, t, T', L, E, ce, h0, X', hL, e1, e2, ⟨u, hp, hb, hF⟩, hce, hcv, hcl, st⟩
  · cases hv
    obtain ⟨k1, k2, k3⟩ := vx_keep h0 e1 hS hA hf hL hF
    obtain ⟨t2, a1, b1⟩ := kk r u t T'.heap (locs ++ L) e1.symm (by rw [← e2]; exact X'.warmed.alike) hp hb k1 k2 k3 T' rfl X'
    exact ⟨t2, st t2 a1, b1⟩
  · obtain ⟨k1, k2, k3⟩ := vx_keep h0 e1 hS hAX hf hL hF
    obtain ⟨t2, a1, b1⟩ := kx E ce q u t T'.heap (locs ++ L) e1.symm (by rw [← e2]; exact X'.warmed.alike) hp hb k1 k2 k3 (by rw [e1]; exact hce) hcv hcl T' rfl X'
    exact ⟨t2, st.trans a1, b1⟩
theorem vx_calll {S SX : Type} {post : Int64 → S → Prop} {px : SX → Prop} {B : S → State → Prop} {BX : String → SX → State → Prop} {AX : Nat → Prop} (hr : vx_Run p l e R s m args below meth c H locs cells slots mc ms (F0 m pc ls st0) rest (va_Ql post B A1 a) (vx_X px BX AX) free) (hS : va_S A0 H0 H locs) (hA : ∀ q, q < H.size → A1 q → A0 q) (hf : ∀ q, free q → A0 q) (hAX : ∀ q, q < H.size → AX q → A0 q)
    (kx : ∀ (E : String) (ce : Cell) (q9 : Addr) (u : SX) (t : State) (H1 : Heap) (locs1 : List Loc), t.heap = H1 → s.vm.Alike t.vm → px u → BX E u t → H.size ≤ H1.size → (∀ q : Nat, q < H.size → ¬ AX q → H1[q]? = H[q]?) → va_S A0 H0 H1 locs1 → H1[q9]? = some ce → ce.vm = .none → s.vm.findClass E = some ce.cls → vx_W p l e R s m args below meth c H1 locs1 (cells + mc) (slots + ms) Q (F0 m pc ls rest) q9)
    (kk : ∀ (r : Int64) (u : S) (t : State) (H1 : Heap) (locs1 : List Loc), t.heap = H1 → s.vm.Alike t.vm → post r u → B u t → H.size ≤ H1.size → (∀ q : Nat, q < H.size → ¬ A1 q → H1[q]? = H[q]?) → va_S A0 H0 H1 locs1 → W p l e R s m args below meth c H1 locs1 (cells + mc) (slots + ms) Q (F0 m (pc + 3) ls (.long r :: rest))) : W p l e R s m args below meth c H locs cells slots Q (F0 m pc ls st0) := by
  intro T hT X
  rcases hr T hT X with ⟨v, st₀, t, T', L, h0, X', hL, e1, e2, ⟨⟨r, u, hv, hp, hb⟩, hF⟩, st⟩ | ⟨q, st₀, t, T', L, E, ce, h0, X', hL, e1, e2, ⟨u, hp, hb, hF⟩, hce, hcv, hcl, st⟩
  · cases hv
    obtain ⟨k1, k2, k3⟩ := vx_keep h0 e1 hS hA hf hL hF
    obtain ⟨t2, a1, b1⟩ := kk r u t T'.heap (locs ++ L) e1.symm (by rw [← e2]; exact X'.warmed.alike) hp hb k1 k2 k3 T' rfl X'
    exact ⟨t2, st t2 a1, b1⟩
  · obtain ⟨k1, k2, k3⟩ := vx_keep h0 e1 hS hAX hf hL hF
    obtain ⟨t2, a1, b1⟩ := kx E ce q u t T'.heap (locs ++ L) e1.symm (by rw [← e2]; exact X'.warmed.alike) hp hb k1 k2 k3 (by rw [e1]; exact hce) hcv hcl T' rfl X'
    exact ⟨t2, st.trans a1, b1⟩
theorem vx_callf {S SX : Type} {post : UInt32 → S → Prop} {px : SX → Prop} {B : S → State → Prop} {BX : String → SX → State → Prop} {AX : Nat → Prop} (hr : vx_Run p l e R s m args below meth c H locs cells slots mc ms (F0 m pc ls st0) rest (va_Qf post B A1 a) (vx_X px BX AX) free) (hS : va_S A0 H0 H locs) (hA : ∀ q, q < H.size → A1 q → A0 q) (hf : ∀ q, free q → A0 q) (hAX : ∀ q, q < H.size → AX q → A0 q)
    (kx : ∀ (E : String) (ce : Cell) (q9 : Addr) (u : SX) (t : State) (H1 : Heap) (locs1 : List Loc), t.heap = H1 → s.vm.Alike t.vm → px u → BX E u t → H.size ≤ H1.size → (∀ q : Nat, q < H.size → ¬ AX q → H1[q]? = H[q]?) → va_S A0 H0 H1 locs1 → H1[q9]? = some ce → ce.vm = .none → s.vm.findClass E = some ce.cls → vx_W p l e R s m args below meth c H1 locs1 (cells + mc) (slots + ms) Q (F0 m pc ls rest) q9)
    (kk : ∀ (r : UInt32) (u : S) (t : State) (H1 : Heap) (locs1 : List Loc), t.heap = H1 → s.vm.Alike t.vm → post r u → B u t → H.size ≤ H1.size → (∀ q : Nat, q < H.size → ¬ A1 q → H1[q]? = H[q]?) → va_S A0 H0 H1 locs1 → W p l e R s m args below meth c H1 locs1 (cells + mc) (slots + ms) Q (F0 m (pc + 3) ls (.float r :: rest))) : W p l e R s m args below meth c H locs cells slots Q (F0 m pc ls st0) := by
  intro T hT X
  rcases hr T hT X with ⟨v, st₀, t, T', L, h0, X', hL, e1, e2, ⟨⟨r, u, hv, hp, hb⟩, hF⟩, st⟩ | ⟨q, st₀, t, T', L, E, ce, h0, X', hL, e1, e2, ⟨u, hp, hb, hF⟩, hce, hcv, hcl, st⟩
  · cases hv
    obtain ⟨k1, k2, k3⟩ := vx_keep h0 e1 hS hA hf hL hF
    obtain ⟨t2, a1, b1⟩ := kk r u t T'.heap (locs ++ L) e1.symm (by rw [← e2]; exact X'.warmed.alike) hp hb k1 k2 k3 T' rfl X'
    exact ⟨t2, st t2 a1, b1⟩
  · obtain ⟨k1, k2, k3⟩ := vx_keep h0 e1 hS hAX hf hL hF
    obtain ⟨t2, a1, b1⟩ := kx E ce q u t T'.heap (locs ++ L) e1.symm (by rw [← e2]; exact X'.warmed.alike) hp hb k1 k2 k3 (by rw [e1]; exact hce) hcv hcl T' rfl X'
    exact ⟨t2, st.trans a1, b1⟩
theorem vx_calld {S SX : Type} {post : UInt64 → S → Prop} {px : SX → Prop} {B : S → State → Prop} {BX : String → SX → State → Prop} {AX : Nat → Prop} (hr : vx_Run p l e R s m args below meth c H locs cells slots mc ms (F0 m pc ls st0) rest (va_Qd post B A1 a) (vx_X px BX AX) free) (hS : va_S A0 H0 H locs) (hA : ∀ q, q < H.size → A1 q → A0 q) (hf : ∀ q, free q → A0 q) (hAX : ∀ q, q < H.size → AX q → A0 q)
    (kx : ∀ (E : String) (ce : Cell) (q9 : Addr) (u : SX) (t : State) (H1 : Heap) (locs1 : List Loc), t.heap = H1 → s.vm.Alike t.vm → px u → BX E u t → H.size ≤ H1.size → (∀ q : Nat, q < H.size → ¬ AX q → H1[q]? = H[q]?) → va_S A0 H0 H1 locs1 → H1[q9]? = some ce → ce.vm = .none → s.vm.findClass E = some ce.cls → vx_W p l e R s m args below meth c H1 locs1 (cells + mc) (slots + ms) Q (F0 m pc ls rest) q9)
    (kk : ∀ (r : UInt64) (u : S) (t : State) (H1 : Heap) (locs1 : List Loc), t.heap = H1 → s.vm.Alike t.vm → post r u → B u t → H.size ≤ H1.size → (∀ q : Nat, q < H.size → ¬ A1 q → H1[q]? = H[q]?) → va_S A0 H0 H1 locs1 → W p l e R s m args below meth c H1 locs1 (cells + mc) (slots + ms) Q (F0 m (pc + 3) ls (.double r :: rest))) : W p l e R s m args below meth c H locs cells slots Q (F0 m pc ls st0) := by
  intro T hT X
  rcases hr T hT X with ⟨v, st₀, t, T', L, h0, X', hL, e1, e2, ⟨⟨r, u, hv, hp, hb⟩, hF⟩, st⟩ | ⟨q, st₀, t, T', L, E, ce, h0, X', hL, e1, e2, ⟨u, hp, hb, hF⟩, hce, hcv, hcl, st⟩
  · cases hv
    obtain ⟨k1, k2, k3⟩ := vx_keep h0 e1 hS hA hf hL hF
    obtain ⟨t2, a1, b1⟩ := kk r u t T'.heap (locs ++ L) e1.symm (by rw [← e2]; exact X'.warmed.alike) hp hb k1 k2 k3 T' rfl X'
    exact ⟨t2, st t2 a1, b1⟩
  · obtain ⟨k1, k2, k3⟩ := vx_keep h0 e1 hS hAX hf hL hF
    obtain ⟨t2, a1, b1⟩ := kx E ce q u t T'.heap (locs ++ L) e1.symm (by rw [← e2]; exact X'.warmed.alike) hp hb k1 k2 k3 (by rw [e1]; exact hce) hcv hcl T' rfl X'
    exact ⟨t2, st.trans a1, b1⟩
theorem vx_callv {S SX : Type} {post : S → Prop} {px : SX → Prop} {B : S → State → Prop} {BX : String → SX → State → Prop} {AX : Nat → Prop} (hr : vx_Run p l e R s m args below meth c H locs cells slots mc ms (F0 m pc ls st0) rest (va_Qv post B A1 a) (vx_X px BX AX) free) (hS : va_S A0 H0 H locs) (hA : ∀ q, q < H.size → A1 q → A0 q) (hf : ∀ q, free q → A0 q) (hAX : ∀ q, q < H.size → AX q → A0 q)
    (kx : ∀ (E : String) (ce : Cell) (q9 : Addr) (u : SX) (t : State) (H1 : Heap) (locs1 : List Loc), t.heap = H1 → s.vm.Alike t.vm → px u → BX E u t → H.size ≤ H1.size → (∀ q : Nat, q < H.size → ¬ AX q → H1[q]? = H[q]?) → va_S A0 H0 H1 locs1 → H1[q9]? = some ce → ce.vm = .none → s.vm.findClass E = some ce.cls → vx_W p l e R s m args below meth c H1 locs1 (cells + mc) (slots + ms) Q (F0 m pc ls rest) q9)
    (kk : ∀ (u : S) (t : State) (H1 : Heap) (locs1 : List Loc), t.heap = H1 → s.vm.Alike t.vm → post u → B u t → H.size ≤ H1.size → (∀ q : Nat, q < H.size → ¬ A1 q → H1[q]? = H[q]?) → va_S A0 H0 H1 locs1 → W p l e R s m args below meth c H1 locs1 (cells + mc) (slots + ms) Q (F0 m (pc + 3) ls (rest))) : W p l e R s m args below meth c H locs cells slots Q (F0 m pc ls st0) := by
  intro T hT X
  rcases hr T hT X with ⟨v, st₀, t, T', L, h0, X', hL, e1, e2, ⟨⟨u, hv, hp, hb⟩, hF⟩, st⟩ | ⟨q, st₀, t, T', L, E, ce, h0, X', hL, e1, e2, ⟨u, hp, hb, hF⟩, hce, hcv, hcl, st⟩
  · cases hv
    obtain ⟨k1, k2, k3⟩ := vx_keep h0 e1 hS hA hf hL hF
    obtain ⟨t2, a1, b1⟩ := kk u t T'.heap (locs ++ L) e1.symm (by rw [← e2]; exact X'.warmed.alike) hp hb k1 k2 k3 T' rfl X'
    exact ⟨t2, st t2 a1, b1⟩
  · obtain ⟨k1, k2, k3⟩ := vx_keep h0 e1 hS hAX hf hL hF
    obtain ⟨t2, a1, b1⟩ := kx E ce q u t T'.heap (locs ++ L) e1.symm (by rw [← e2]; exact X'.warmed.alike) hp hb k1 k2 k3 (by rw [e1]; exact hce) hcv hcl T' rfl X'
    exact ⟨t2, st.trans a1, b1⟩
end Rows
section Ends
variable {p : Program} {l : Launch} {e : Env} {R : Room} {s : State} {m : MethodId} {args : Array Value} {below : List Frame} {meth : Method} {c : Code} {H : Heap} {locs : List Loc} {cells slots : Nat} {Q : State → Prop}
variable {mc ms : Nat} {free : Addr → Prop} {A0 A1 : Nat → Prop} {H0 : Heap} {a : Array Value} {ls : Array Slot} {st0 rest : List Value}
variable {Qc : Array Value → State → Outcome → State → Prop} {XC : String → State → State → Prop}
def vx_MQ (below : List Frame) (Qc : Array Value → State → Outcome → State → Prop) (XC : String → State → State → Prop) (a : Array Value) (s : State) (mc ms : Nat) (free : Addr → Prop) : State → Prop := fun t =>
  ∃ o, t.status = .running ∧ Ended t below o ∧ vx_Q Qc XC mc ms free a s o t
theorem vx_ret {g : JFrame} {mc ms : Nat} (k : W p l e R s m args below meth c H locs cells slots (MQ below Qc args s mc ms free) g) : W p l e R s m args below meth c H locs cells slots (vx_MQ below Qc XC args s mc ms free) g := by
  intro T hT X
  obtain ⟨t, a1, o, b1, b2, b3, b4⟩ := k T hT X
  exact ⟨t, a1, o, b1, b2, Or.inl ⟨b3, b4⟩⟩
theorem vx_widen {g : JFrame} {q : Addr} {k n : Nat} (h1 : cells ≤ k) (h2 : slots ≤ n) (kk : vx_W p l e R s m args below meth c H locs k n Q g q) : vx_W p l e R s m args below meth c H locs cells slots Q g q := fun T hT X => kk T hT (stand_widen X h1 h2)
theorem vx_out {pc : Nat} {E : String} {ce : Cell} {q : Addr} {mc ms : Nat} (hout : ∀ x ∈ c.exceptionTable.toList, covers x pc = false) (hlocks : meth.locks = false) (hcell : H[q]? = some ce) (hv : ce.vm = .none) (hcl : s.vm.findClass E = some ce.cls)
    (hx : ∀ t : State, t.heap = H → s.vm.Alike t.vm → XC E s t) (hf : ∀ z ∈ locs, free z.base) (hc : cells ≤ mc) (hs : slots ≤ ms) :
    vx_W p l e R s m args below meth c H locs cells slots (vx_MQ below Qc XC args s mc ms free) (F0 m pc ls rest) q := by
  intro T hT X
  obtain ⟨st1, hrun, hend, hW, hsm⟩ := X.leaveThrown q (g := F0 m pc ls rest) rfl rfl rfl hout hlocks
  have hcell9 : (T.setFrames (.throwing q :: below)).heap[q]? = some ce := by
    show T.heap[q]? = some ce
    rw [hT]; exact hcell
  exact ⟨_, st1, .threw q, hrun, hend, Or.inr ⟨q, rfl, E, ce, locs, hx _ hT hW.alike, hcell9, hv, hcl, hW, hsm.mono hc hs, hf⟩⟩
theorem vx_frame {U : State} {k n : Nat} (h : s.sameButNew ({ U with vm := s.vm } : State) locs k n) : s.heap.size ≤ U.heap.size ∧ ∀ q : Nat, q < s.heap.size → (∀ z ∈ locs, z.base ≠ q) → U.heap[q]? = s.heap[q]? := by
  obtain ⟨-, h2, -, -, -, h6⟩ := h
  refine ⟨h2, fun q hq hz => ?_⟩
  obtain ⟨c9, e1, e2, e3, e4⟩ := h6 q _ (Array.getElem?_eq_getElem hq)
  have hs : c9.slots = (s.heap[q]).slots := Array.ext_getElem? fun i => e4 i fun hm => hz _ hm rfl
  have h9 : c9 = s.heap[q] := by
    rw [hs] at e2
    exact e2
  have e5 : U.heap[q]? = some c9 := e1
  rw [e5, h9, Array.getElem?_eq_getElem hq]
def vx_no (w : Cond) : Bool := decide (w ≠ .isRef (.static Bundle.tN "UNASSIGNED_STACK" Bundle.steD)) && decide (w ≠ .isRef (.static Bundle.tN "SUPPRESSED_SENTINEL" Bundle.listD)) && decide (w ≠ .laysStatic Bundle.tN "UNASSIGNED_STACK" Bundle.steD) && decide (w ≠ .laysStatic Bundle.tN "SUPPRESSED_SENTINEL" Bundle.listD)
def vx_at0 (own : String) (ic : Nat) (X : String) (names : List String) : List Cond := (Bundle.ownAtoms0 own ic X names).filter vx_no
def vx_atS (own : String) (ic : Nat) (X : String) (names : List String) : List Cond := (Bundle.ownAtoms own ic X names).filter vx_no
def vx_ot (w : Cond) : Bool := w.onTables || goodWord w
theorem vx_ot_at {args a' : Array Value} {s U : State} {w : Cond} (hW : s.WarmedH U.vm) (hvm : s.vm = U.vm) (hg : vx_ot w = true) (h : w.before args s = true) : w.before a' U = true := by
  simp only [vx_ot, Bool.or_eq_true] at hg
  rcases hg with hg | hg
  · exact va_tabs hg hvm h
  · exact word_at hW (good_of_word hg) h
theorem vx_hat {args : Array Value} {s : State} {L B : List Cond} (h1 : ∀ w ∈ L.filter goodWord, w.before args s = true) (h2 : ∀ w ∈ L.filter (fun w => !goodWord w), w ∈ B) (h3 : ∀ w ∈ B, w.before args s = true) : ∀ w ∈ L, w.before args s = true := by
  intro w hw
  by_cases g : goodWord w = true
  · exact h1 w (List.mem_filter.mpr ⟨hw, g⟩)
  · refine h3 w (h2 w (List.mem_filter.mpr ⟨hw, ?_⟩))
    show (!goodWord w) = true
    cases hgw : goodWord w
    · rfl
    · exact absurd hgw g
theorem vx_c {args : Array Value} {s : State} {w : Cond} {B : List Cond} (h : w.before args s = true) (t : ∀ w ∈ B, w.before args s = true) : ∀ w' ∈ w :: B, w'.before args s = true := fun w' h' => (List.mem_cons.mp h').elim (fun e => by rw [e]; exact h) (t w')
theorem vx_n {args : Array Value} {s : State} : ∀ w ∈ ([] : List Cond), w.before args s = true := fun _ h => nomatch h
theorem vx_own {args : Array Value} {s : State} {L : List Cond} (h1 : ∀ w ∈ L.filter vx_no, w.before args s = true)
    (hU : (Cond.isRef (.static Bundle.tN "UNASSIGNED_STACK" Bundle.steD)).before args s = true) (hN : (Cond.isRef (.static Bundle.tN "SUPPRESSED_SENTINEL" Bundle.listD)).before args s = true)
    (lU : (Cond.laysStatic Bundle.tN "UNASSIGNED_STACK" Bundle.steD).before args s = true) (lN : (Cond.laysStatic Bundle.tN "SUPPRESSED_SENTINEL" Bundle.listD).before args s = true) : ∀ w ∈ L, w.before args s = true := by
  intro w hw
  by_cases e1 : w = .isRef (.static Bundle.tN "UNASSIGNED_STACK" Bundle.steD)
  · rw [e1]; exact hU
  · by_cases e2 : w = .isRef (.static Bundle.tN "SUPPRESSED_SENTINEL" Bundle.listD)
    · rw [e2]; exact hN
    · by_cases e3 : w = .laysStatic Bundle.tN "UNASSIGNED_STACK" Bundle.steD
      · rw [e3]; exact lU
      · by_cases e4 : w = .laysStatic Bundle.tN "SUPPRESSED_SENTINEL" Bundle.listD
        · rw [e4]; exact lN
        · exact h1 w (List.mem_filter.mpr ⟨hw, by unfold vx_no; rw [decide_eq_true e1, decide_eq_true e2, decide_eq_true e3, decide_eq_true e4]; rfl⟩)
def vx_L (C n d : String) (A : Nat → Prop) (U : State) (H : Heap) : Prop := ∃ (c : ClassId) (k : Class) (i : Nat) (f : Field) (a : Nat) (cell : Cell), U.vm.findClass C = some c ∧ U.fieldFound? C n d = some (c, k, i, f) ∧ f.isStatic = true ∧ k.statics = some a ∧ H[a]? = some cell ∧ cell.vm.isStatics = true ∧ cell.cls = c ∧ f.slot < cell.slots.size ∧ k.staticTypes[f.slot]? = some f.type ∧ ¬ A a
theorem vx_L.moved {C n d : String} {A : Nat → Prop} {u U : State} {H : Heap} (hvm : u.vm.Alike U.vm) (h : vx_L C n d A u H) : vx_L C n d A U H := by
  obtain ⟨c, k, i, f, a, cell, h1, h2, h3, h4, h5, h6, h7, h8, h9, h10⟩ := h
  obtain ⟨k', hi', he⟩ := State.fieldFound?_setVm hvm h2
  exact ⟨c, k', i, f, a, cell, by rw [hvm.findClass]; exact h1, hi', h3, by rw [he]; exact h4, h5, h6, h7, h8, by rw [he]; exact h9, h10⟩
theorem vx_L.kept {C n d : String} {A : Nat → Prop} {U : State} {H H1 : Heap} (h : vx_L C n d A U H) (hq : ∀ a : Nat, a < H.size → ¬ A a → H1[a]? = H[a]?) : vx_L C n d A U H1 := by
  obtain ⟨c, k, i, f, a, cell, h1, h2, h3, h4, h5, h6, h7, h8, h9, h10⟩ := h
  exact ⟨c, k, i, f, a, cell, h1, h2, h3, h4, by rw [hq a (Array.getElem?_eq_some_iff.mp h5).1 h10]; exact h5, h6, h7, h8, h9, h10⟩
theorem vx_L.narrow {C n d : String} {A B : Nat → Prop} {U : State} {H : Heap} (h : vx_L C n d A U H) (hAB : ∀ q, B q → A q) : vx_L C n d B U H := by
  obtain ⟨c, k, i, f, a, cell, h1, h2, h3, h4, h5, h6, h7, h8, h9, h10⟩ := h
  exact ⟨c, k, i, f, a, cell, h1, h2, h3, h4, h5, h6, h7, h8, h9, fun z => h10 (hAB _ z)⟩
theorem vx_L.word {C n d : String} {A : Nat → Prop} {s : State} {args : Array Value} (h : vx_L C n d A s s.heap) : (Cond.laysStatic C n d).before args s = true := by
  obtain ⟨c, k, i, f, a, cell, h1, h2, h3, h4, h5, h6, h7, h8, h9, -⟩ := h
  show (Cond.laysStatic C n d).holds args s none s [] = true
  exact Cond.laysStatic_of h1 h2 h3 h4 h5 h6 h7 h8 h9
def vx_Zq (C n d : String) (A : Nat → Prop) (U : State) (H : Heap) : Prop := va_Zq C n d A U H ∧ vx_L C n d A U H
theorem vx_Zq.moved {C n d : String} {A : Nat → Prop} {u U : State} {H : Heap} (hvm : u.vm.Alike U.vm) (h : vx_Zq C n d A u H) : vx_Zq C n d A U H := ⟨va_Zq.moved hvm h.1, vx_L.moved hvm h.2⟩
theorem vx_Zq.kept {C n d : String} {A : Nat → Prop} {U : State} {H H1 : Heap} (h : vx_Zq C n d A U H) (hq : ∀ a : Nat, a < H.size → ¬ A a → H1[a]? = H[a]?) : vx_Zq C n d A U H1 := ⟨va_Zq.kept h.1 hq, vx_L.kept h.2 hq⟩
theorem vx_Zq.narrow {C n d : String} {A B : Nat → Prop} {U : State} {H : Heap} (h : vx_Zq C n d A U H) (hAB : ∀ q, B q → A q) : vx_Zq C n d B U H := ⟨va_Zq.narrow h.1 hAB, vx_L.narrow h.2 hAB⟩
theorem vx_Zqof {args : Array Value} {s : State} {C n d : String} {A : Nat → Prop} (hl : (Cond.laysStatic C n d).before args s = true) (hini : (Cond.initialized C).before args s = true) (h : (Cond.isRef (.static C n d)).before args s = true) (hA : ∀ a : Nat, a < s.heap.size → ¬ A a) : vx_Zq C n d A s s.heap := by
  refine ⟨va_Zqof hl hini h hA, ?_⟩
  obtain ⟨c, k, i, f, a, cell, h1, h2, h3, h4, h5, h6, h7, h8, h9⟩ := Cond.laysStatic_spec hl
  exact ⟨c, k, i, f, a, cell, h1, h2, h3, h4, h5, h6, h7, h8, h9, hA a (Array.getElem?_eq_some_iff.mp h5).1⟩
theorem vx_isRef {C n d : String} {v : Value} {A : Nat → Prop} {s : State} {args : Array Value} (h : va_Z C n d v A s s.heap) (hv : v.isRef = true) : (Cond.isRef (.static C n d)).before args s = true := by
  obtain ⟨cf, kf, fi, f, a, cell, h1, h2, h3, h4, h5, h6, h7, -⟩ := h
  have he : (Term.static C n d).eval args s none [] s = some v := by
    simp [Term.eval, State.fieldNamed?, h1, h2, h4, h5, h6, h7]
  simp only [Cond.before, Cond.holds, Cond.value, he]
  cases v <;> simp_all [Value.isRef]
theorem vx_isRefq {C n d : String} {A : Nat → Prop} {s : State} {args : Array Value} (h : va_Zq C n d A s s.heap) : (Cond.isRef (.static C n d)).before args s = true := by
  rcases h with h | ⟨t, h⟩
  · exact vx_isRef h rfl
  · exact vx_isRef h rfl
theorem vx_rebase {T : State} (X : Stand p l e R s m args below meth c T locs cells slots) {R' : Room} (hf : R'.frames ≤ R.frames) (hl : R'.locals ≤ R.locals) (hc : cells + R'.cells ≤ R.cells) (hs : slots + R'.slots ≤ R.slots) :
    Stand p l e R' ((T.setVm s.vm).setFrames (.invoking m args :: below)) m args below meth c T [] 0 0 := by
  have htop : (T.setVm s.vm).topJava?.isSome := X.here.top
  have hF : ((T.setVm s.vm).setFrames (.invoking m args :: below)).frames = .invoking m args :: below := State.frames_setFrames _ (State.cur_lt_of_top htop)
  obtain ⟨g₀, hg0⟩ := Option.isSome_iff_exists.mp htop
  obtain ⟨r, hr⟩ := State.topJava?_eq_some.mp hg0
  have hl9 : e.platform.stackLimits (T.setVm s.vm).me = e.platform.stackLimits s.me := X.limits
  have hb9 : (T.setVm s.vm).me.stackBytes = s.me.stackBytes := X.bytes
  refine ⟨X.admits, X.cas, X.clock, hF, ?_, X.hears, X.method, X.code, X.here, X.tail, X.warmed, ?_, ?_, ?_⟩
  · have h := X.room
    have hU : ((T.setVm s.vm).setFrames (.invoking m args :: below)).localsInUse = s.localsInUse := by
      rw [State.localsInUse_invoking hF (meth := meth) (c := c) X.method X.code, State.localsInUse_invoking X.frames X.method X.code]
    simp only [State.hasRoom, Bool.and_eq_true, decide_eq_true_eq] at h ⊢
    obtain ⟨⟨⟨⟨h1, h2, h3, h4, h5, h6⟩, h7⟩, h8⟩, h9⟩ := h
    rw [X.frames, List.length_cons] at h2 h3
    have q1 := X.heapSize
    have q2 := X.used
    simp only [hF, hU, List.length_cons, State.stackLimits_setFrames, State.stackBytes_setFrames, hl9, hb9]
    refine ⟨⟨⟨⟨by omega, by omega, by omega, by omega, by omega, h6⟩, ?_⟩, ?_⟩, X.book⟩
    · show T.heap.size + R'.cells ≤ e.platform.maxCells
      omega
    · show T.slotsUsed + R'.slots ≤ e.platform.maxSlots
      omega
  · rw [State.stackLimits_setFrames]; rfl
  · rw [State.stackBytes_setFrames]; rfl
  · refine ⟨?_, Nat.le_refl _, Nat.le_refl _, ?_, ?_, fun a c9 h9 => ⟨c9, h9, rfl, rfl, fun _ _ => rfl⟩⟩
    · obtain ⟨t, ht, -⟩ := State.frames_cons hr
      show T.setVm s.vm = { ((T.setVm s.vm).setFrames (.invoking m args :: below)).setFrames (T.setVm s.vm).frames with heap := T.heap, slotsUsed := T.slotsUsed }
      rw [State.setFrames_setFrames, State.setFrames_self ht]
      rfl
    · show T.slotsUsed = T.slotsUsed + ((T.heap.toList.drop T.heap.size).map (·.slots.size)).sum
      rw [List.drop_eq_nil_of_le (Nat.le_of_eq Array.length_toList)]
      rfl
    · show ((T.heap.toList.drop T.heap.size).map (·.slots.size)).sum ≤ 0
      rw [List.drop_eq_nil_of_le (Nat.le_of_eq Array.length_toList)]
      exact Nat.le_refl _
theorem vx_throw0 {cc : ByteArray} {pc : Nat} (hexec : p.tables.exec = Jvm.exec) (hb : c.code = cc) (hl : l.stackTraces = false) {own cls : String} {names : List String} {ik ic mc ms : Nat} {A : Nat → Prop}
    (hown : s.vm.findClass own = some m.cls) (hcls : Bundle.fit cls = true) (hnames : ∀ n ∈ names, Bundle.fit n = true)
    (hk : (Cond.classLink own ik cls).before args s = true) (hini : (Cond.initialized cls).before args s = true) (hat : ∀ w ∈ vx_at0 own ic cls names, w.before args s = true)
    (hgood : ∀ w ∈ Cond.classLink own ik cls :: Cond.initialized cls :: vx_at0 own ic cls names, vx_ot w = true)
    (hU : vx_Zq Bundle.tN "UNASSIGNED_STACK" Bundle.steD A s s.heap) (hN : vx_Zq Bundle.tN "SUPPRESSED_SENTINEL" Bundle.listD A s s.heap) (hS : va_S A s.heap H locs) (hsize : ls.size = c.maxLocals)
    (d0 : decode cc pc = .ok (.new ik, 3)) (d3 : decode cc (pc + 3) = .ok (.dup, 1)) (d4 : decode cc (pc + 4) = .ok (.invokespecial ic, 3)) (d7 : decode cc (pc + 7) = .ok (.athrow, 1))
    (hout : ∀ x ∈ c.exceptionTable.toList, covers x (pc + 7) = false)
    (hRframes : names.length + 3 < R.frames) (hRlocals : (rest.map fun v => v.category).sum + (13 * (names.length + 1) + 42) ≤ R.locals) (hRcells : cells + 1 ≤ R.cells) (hRslots : slots + 6 ≤ R.slots) (hlocks : meth.locks = false)
    (hx : ∀ t : State, s.vm.Alike t.vm → t.heap.size = H.size + 1 → (∀ q : Nat, q < H.size → t.heap[q]? = H[q]?) → XC cls s t)
    (hf : ∀ z ∈ locs, free z.base) (hc : cells + 1 ≤ mc) (hs : slots + 6 ≤ ms) :
    W p l e R s m args below meth c H locs cells slots (vx_MQ below Qc XC args s mc ms free) (F0 m pc ls rest) := by
  intro T hT X
  have htr : e.platform.stackTraces = false := (show e.platform.stackTraces = l.stackTraces by rw [X.admits.platform]).trans hl
  have Y := vx_rebase X (R' := { frames := R.frames, locals := R.locals, cells := 1, slots := 6 }) (Nat.le_refl _) (Nat.le_refl _) hRcells hRslots
  obtain ⟨s', hA⟩ : ∃ z, z = (T.setVm s.vm).setFrames (.invoking m args :: below) := ⟨_, rfl⟩
  rw [← hA] at Y
  have hvm : s'.vm = s.vm := by rw [hA]; rfl
  have hhp : s'.heap = H := by rw [hA]; exact hT
  have hW0 : s.WarmedH s'.vm := by rw [hvm]; exact State.WarmedH.refl s
  have hat' : ∀ w ∈ vx_at0 own ic cls names, w.before args s' = true := fun w hw => vx_ot_at hW0 hvm.symm (hgood w (List.mem_cons_of_mem _ (List.mem_cons_of_mem _ hw))) (hat w hw)
  have hk' : (Cond.classLink own ik cls).before args s' = true := vx_ot_at hW0 hvm.symm (hgood _ List.mem_cons_self) hk
  have hini' : (Cond.initialized cls).before args s' = true := vx_ot_at hW0 hvm.symm (hgood _ (List.mem_cons_of_mem _ List.mem_cons_self)) hini
  have hU' : vx_Zq Bundle.tN "UNASSIGNED_STACK" Bundle.steD A s' s'.heap := by rw [hhp]; exact vx_Zq.moved hW0.alike (hU.kept hS.2.1)
  have hN' : vx_Zq Bundle.tN "SUPPRESSED_SENTINEL" Bundle.listD A s' s'.heap := by rw [hhp]; exact vx_Zq.moved hW0.alike (hN.kept hS.2.1)
  have h : ∀ w ∈ Bundle.ownAtoms0 own ic cls names, w.before args s' = true := vx_own hat' (vx_isRefq hU'.1) (vx_isRefq hN'.1) hU'.2.word hN'.2.word
  have hown' : s'.vm.findClass own = some m.cls := by rw [hvm]; exact hown
  have hins : (Cond.instantiable cls 6).before args s' = true := h _ (by simp [Bundle.ownAtoms0])
  obtain ⟨vm₁, cX, kX, hfX, hkX, -, -, X₁, st1⟩ := Y.newCold hexec (own := own) (C := cls) (index := ik) (n := 6) hown' hk' hins hini'
    (g := F0 m pc ls rest) rfl (by rw [hb]; exact d0) (Nat.le_refl _) (Nat.le_refl _)
  generalize hT1 : (T.setVm vm₁).pushCell { cls := cX, slots := kX.instanceTypes.map defaultValue, vm := .none } = T1 at X₁ st1
  have hcat : (Value.ref T.heap.size).category = 1 := rfl
  have hcellA : T1.heap[T.heap.size]? = some (freshCell cX kX) := by rw [← hT1]; exact State.heap_pushCell_size _ _
  have d3' : decode c.code (pc + 3) = .ok (.dup, 1) := by rw [hb]; exact d3
  obtain ⟨U, hsteps, hrun, hend, hW, hsame, ce, hce, hO⟩ := X₁.ctorThrow0 hexec htr (own := own) (cls := cls) (names := names) (ic := ic) hown' hcls hnames h (fun x hx => nomatch hx) hfX hkX hcellA (by rw [hhp, hT]; exact Nat.le_refl _)
    (g := { method := m, pc := pc + 4, locals := ls, stack := .ref T.heap.size :: .ref T.heap.size :: rest, locked := none }) rfl hsize rfl rfl (rest := rest) rfl
    (by rw [hb]; exact d4) (by rw [hb]; exact d7) hout hRframes (by simp only [List.map_cons, List.sum_cons, hcat]; omega) hlocks
  obtain ⟨f1, f2⟩ := vx_frame hsame
  rw [hhp] at f1 f2
  have hWs : s.WarmedH U.vm := State.WarmedH.trans hW0 hW
  have hcl : s.vm.findClass cls = some ce.cls := by
    have h9 := hO.cls
    rw [hvm] at h9
    exact h9
  have hall : s.sameButNew ({ U with vm := s.vm } : State) locs mc ms := by
    subst hA
    obtain ⟨e1, e2⟩ := hsame
    rw [State.setFrames_setFrames] at e1
    have h2 : (T.setVm s.vm).sameButNew ({ U with vm := s.vm } : State) [] (0 + 1) (0 + 6) := ⟨e1, e2⟩
    have h3 := X.same.trans h2
    rw [List.append_nil] at h3
    exact h3.mono hc hs
  refine ⟨U, ?_, .threw T.heap.size, hrun, hend, Or.inr ⟨T.heap.size, rfl, cls, ce, locs, hx U hWs.alike (by have g1 : U.heap.size ≤ s'.heap.size + (0 + 1) := hsame.2.2.1; have g2 : T.heap.size < U.heap.size := (Array.getElem?_eq_some_iff.mp hce).1; rw [hhp] at g1; rw [hT] at g2; omega) (fun q hq => f2 q hq (fun z hz => nomatch hz)), hce, hO.vm, hcl, hWs, hall, hf⟩⟩
  refine st1 _ ?_
  show Steps p.tables e below (T1.setTop { method := m, pc := pc + 3, locals := ls, stack := .ref T.heap.size :: rest, locked := none }) _
  jvm_step X₁.here [X₁.here.top, hexec, d3', Value.category]
  exact hsteps
theorem vx_throwS {cc : ByteArray} {pc : Nat} (hexec : p.tables.exec = Jvm.exec) (hb : c.code = cc) (hl : l.stackTraces = false) {own cls text : String} {names : List String} {ik is ic mc ms sa : Nat} {A : Nat → Prop}
    (hown : s.vm.findClass own = some m.cls) (hcls : Bundle.fit cls = true) (hnames : ∀ n ∈ names, Bundle.fit n = true)
    (hk : (Cond.classLink own ik cls).before args s = true) (hini : (Cond.initialized cls).before args s = true) (hstr : vk_R own is text sa s) (hat : ∀ w ∈ vx_atS own ic cls names, w.before args s = true)
    (hgood : ∀ w ∈ Cond.classLink own ik cls :: Cond.initialized cls :: vx_atS own ic cls names, vx_ot w = true)
    (hU : vx_Zq Bundle.tN "UNASSIGNED_STACK" Bundle.steD A s s.heap) (hN : vx_Zq Bundle.tN "SUPPRESSED_SENTINEL" Bundle.listD A s s.heap) (hS : va_S A s.heap H locs) (hsize : ls.size = c.maxLocals)
    (d0 : decode cc pc = .ok (.new ik, 3)) (d3 : decode cc (pc + 3) = .ok (.dup, 1)) (d4 : decode cc (pc + 4) = .ok (.ldc is, 2)) (d6 : decode cc (pc + 6) = .ok (.invokespecial ic, 3)) (d9 : decode cc (pc + 9) = .ok (.athrow, 1))
    (hout : ∀ x ∈ c.exceptionTable.toList, covers x (pc + 9) = false)
    (hRframes : names.length + 3 < R.frames) (hRlocals : (rest.map fun v => v.category).sum + (13 * (names.length + 1) + 43) ≤ R.locals) (hRcells : cells + 1 ≤ R.cells) (hRslots : slots + 6 ≤ R.slots) (hlocks : meth.locks = false)
    (hx : ∀ t : State, s.vm.Alike t.vm → t.heap.size = H.size + 1 → (∀ q : Nat, q < H.size → t.heap[q]? = H[q]?) → XC cls s t)
    (hf : ∀ z ∈ locs, free z.base) (hc : cells + 1 ≤ mc) (hs : slots + 6 ≤ ms) :
    W p l e R s m args below meth c H locs cells slots (vx_MQ below Qc XC args s mc ms free) (F0 m pc ls rest) := by
  intro T hT X
  have htr : e.platform.stackTraces = false := (show e.platform.stackTraces = l.stackTraces by rw [X.admits.platform]).trans hl
  have Y := vx_rebase X (R' := { frames := R.frames, locals := R.locals, cells := 1, slots := 6 }) (Nat.le_refl _) (Nat.le_refl _) hRcells hRslots
  obtain ⟨s', hA⟩ : ∃ z, z = (T.setVm s.vm).setFrames (.invoking m args :: below) := ⟨_, rfl⟩
  rw [← hA] at Y
  have hvm : s'.vm = s.vm := by rw [hA]; rfl
  have hhp : s'.heap = H := by rw [hA]; exact hT
  have hW0 : s.WarmedH s'.vm := by rw [hvm]; exact State.WarmedH.refl s
  have hat' : ∀ w ∈ vx_atS own ic cls names, w.before args s' = true := fun w hw => vx_ot_at hW0 hvm.symm (hgood w (List.mem_cons_of_mem _ (List.mem_cons_of_mem _ hw))) (hat w hw)
  have hk' : (Cond.classLink own ik cls).before args s' = true := vx_ot_at hW0 hvm.symm (hgood _ List.mem_cons_self) hk
  have hini' : (Cond.initialized cls).before args s' = true := vx_ot_at hW0 hvm.symm (hgood _ (List.mem_cons_of_mem _ List.mem_cons_self)) hini
  have hU' : vx_Zq Bundle.tN "UNASSIGNED_STACK" Bundle.steD A s' s'.heap := by rw [hhp]; exact vx_Zq.moved hW0.alike (hU.kept hS.2.1)
  have hN' : vx_Zq Bundle.tN "SUPPRESSED_SENTINEL" Bundle.listD A s' s'.heap := by rw [hhp]; exact vx_Zq.moved hW0.alike (hN.kept hS.2.1)
  have h : ∀ w ∈ Bundle.ownAtoms own ic cls names, w.before args s' = true := vx_own hat' (vx_isRefq hU'.1) (vx_isRefq hN'.1) hU'.2.word hN'.2.word
  have hown' : s'.vm.findClass own = some m.cls := by rw [hvm]; exact hown
  have hins : (Cond.instantiable cls 6).before args s' = true := h _ (by simp [Bundle.ownAtoms])
  obtain ⟨vm₁, cX, kX, hfX, hkX, -, -, X₁, st1⟩ := Y.newCold hexec (own := own) (C := cls) (index := ik) (n := 6) hown' hk' hins hini'
    (g := F0 m pc ls rest) rfl (by rw [hb]; exact d0) (Nat.le_refl _) (Nat.le_refl _)
  generalize hT1 : (T.setVm vm₁).pushCell { cls := cX, slots := kX.instanceTypes.map defaultValue, vm := .none } = T1 at X₁ st1
  have hcat : (Value.ref T.heap.size).category = 1 := rfl
  have hcellA : T1.heap[T.heap.size]? = some (freshCell cX kX) := by rw [← hT1]; exact State.heap_pushCell_size _ _
  have d3' : decode c.code (pc + 3) = .ok (.dup, 1) := by rw [hb]; exact d3
  have d4' : decode c.code (pc + 4) = .ok (.ldc is, 2) := by rw [hb]; exact d4
  have hstr' : vk_R own is text sa s' := vk_R.warm hW0 hstr
  obtain ⟨U, hsteps, hrun, hend, hW, hsame, ce, hce, hO⟩ := X₁.ctorThrowS hexec htr (own := own) (cls := cls) (names := names) (ic := ic) hown' hcls hnames h (fun x hx => nomatch hx) hfX hkX hcellA (by rw [hhp, hT]; exact Nat.le_refl _) (msg := .ref sa) rfl
    (g := { method := m, pc := pc + 6, locals := ls, stack := .ref sa :: .ref T.heap.size :: .ref T.heap.size :: rest, locked := none }) rfl hsize rfl rfl (rest := rest) rfl
    (by rw [hb]; exact d6) (by rw [hb]; exact d9) hout hRframes (by simp only [List.map_cons, List.sum_cons, hcat]; omega) hlocks
  obtain ⟨f1, f2⟩ := vx_frame hsame
  rw [hhp] at f1 f2
  have hWs : s.WarmedH U.vm := State.WarmedH.trans hW0 hW
  have hcl : s.vm.findClass cls = some ce.cls := by
    have h9 := hO.cls
    rw [hvm] at h9
    exact h9
  have hall : s.sameButNew ({ U with vm := s.vm } : State) locs mc ms := by
    subst hA
    obtain ⟨e1, e2⟩ := hsame
    rw [State.setFrames_setFrames] at e1
    have h2 : (T.setVm s.vm).sameButNew ({ U with vm := s.vm } : State) [] (0 + 1) (0 + 6) := ⟨e1, e2⟩
    have h3 := X.same.trans h2
    rw [List.append_nil] at h3
    exact h3.mono hc hs
  refine ⟨U, ?_, .threw T.heap.size, hrun, hend, Or.inr ⟨T.heap.size, rfl, cls, ce, locs, hx U hWs.alike (by have g1 : U.heap.size ≤ s'.heap.size + (0 + 1) := hsame.2.2.1; have g2 : T.heap.size < U.heap.size := (Array.getElem?_eq_some_iff.mp hce).1; rw [hhp] at g1; rw [hT] at g2; omega) (fun q hq => f2 q hq (fun z hz => nomatch hz)), hce, hO.vm, hcl, hWs, hall, hf⟩⟩
  refine st1 _ ?_
  show Steps p.tables e below (T1.setTop { method := m, pc := pc + 3, locals := ls, stack := .ref T.heap.size :: rest, locked := none }) _
  jvm_step X₁.here [X₁.here.top, hexec, d3', Value.category]
  exact X₁.ldcString hexec (own := own) (text := text) (index := is) (a := sa) hown' hstr'.1 hstr'.2
    (g := { method := m, pc := pc + 4, locals := ls, stack := .ref T.heap.size :: .ref T.heap.size :: rest, locked := none }) rfl d4' _ hsteps
theorem vx_throwSW {cc : ByteArray} {pc : Nat} (hexec : p.tables.exec = Jvm.exec) (hb : c.code = cc) (hl : l.stackTraces = false) {own cls text : String} {names : List String} {ik is ic mc ms sa : Nat} {A : Nat → Prop}
    (hown : s.vm.findClass own = some m.cls) (hcls : Bundle.fit cls = true) (hnames : ∀ n ∈ names, Bundle.fit n = true)
    (hk : (Cond.classLink own ik cls).before args s = true) (hini : (Cond.initialized cls).before args s = true) (hstr : vk_R own is text sa s) (hat : ∀ w ∈ vx_atS own ic cls names, w.before args s = true)
    (hgood : ∀ w ∈ Cond.classLink own ik cls :: Cond.initialized cls :: vx_atS own ic cls names, vx_ot w = true)
    (hU : vx_Zq Bundle.tN "UNASSIGNED_STACK" Bundle.steD A s s.heap) (hN : vx_Zq Bundle.tN "SUPPRESSED_SENTINEL" Bundle.listD A s s.heap) (hS : va_S A s.heap H locs) (hsize : ls.size = c.maxLocals)
    (d0 : decode cc pc = .ok (.new ik, 3)) (d3 : decode cc (pc + 3) = .ok (.dup, 1)) (d4 : decode cc (pc + 4) = .ok (.ldc_w is, 3)) (d7 : decode cc (pc + 7) = .ok (.invokespecial ic, 3)) (d10 : decode cc (pc + 10) = .ok (.athrow, 1))
    (hout : ∀ x ∈ c.exceptionTable.toList, covers x (pc + 10) = false)
    (hRframes : names.length + 3 < R.frames) (hRlocals : (rest.map fun v => v.category).sum + (13 * (names.length + 1) + 43) ≤ R.locals) (hRcells : cells + 1 ≤ R.cells) (hRslots : slots + 6 ≤ R.slots) (hlocks : meth.locks = false)
    (hx : ∀ t : State, s.vm.Alike t.vm → t.heap.size = H.size + 1 → (∀ q : Nat, q < H.size → t.heap[q]? = H[q]?) → XC cls s t)
    (hf : ∀ z ∈ locs, free z.base) (hc : cells + 1 ≤ mc) (hs : slots + 6 ≤ ms) :
    W p l e R s m args below meth c H locs cells slots (vx_MQ below Qc XC args s mc ms free) (F0 m pc ls rest) := by
  intro T hT X
  have htr : e.platform.stackTraces = false := (show e.platform.stackTraces = l.stackTraces by rw [X.admits.platform]).trans hl
  have Y := vx_rebase X (R' := { frames := R.frames, locals := R.locals, cells := 1, slots := 6 }) (Nat.le_refl _) (Nat.le_refl _) hRcells hRslots
  obtain ⟨s', hA⟩ : ∃ z, z = (T.setVm s.vm).setFrames (.invoking m args :: below) := ⟨_, rfl⟩
  rw [← hA] at Y
  have hvm : s'.vm = s.vm := by rw [hA]; rfl
  have hhp : s'.heap = H := by rw [hA]; exact hT
  have hW0 : s.WarmedH s'.vm := by rw [hvm]; exact State.WarmedH.refl s
  have hat' : ∀ w ∈ vx_atS own ic cls names, w.before args s' = true := fun w hw => vx_ot_at hW0 hvm.symm (hgood w (List.mem_cons_of_mem _ (List.mem_cons_of_mem _ hw))) (hat w hw)
  have hk' : (Cond.classLink own ik cls).before args s' = true := vx_ot_at hW0 hvm.symm (hgood _ List.mem_cons_self) hk
  have hini' : (Cond.initialized cls).before args s' = true := vx_ot_at hW0 hvm.symm (hgood _ (List.mem_cons_of_mem _ List.mem_cons_self)) hini
  have hU' : vx_Zq Bundle.tN "UNASSIGNED_STACK" Bundle.steD A s' s'.heap := by rw [hhp]; exact vx_Zq.moved hW0.alike (hU.kept hS.2.1)
  have hN' : vx_Zq Bundle.tN "SUPPRESSED_SENTINEL" Bundle.listD A s' s'.heap := by rw [hhp]; exact vx_Zq.moved hW0.alike (hN.kept hS.2.1)
  have h : ∀ w ∈ Bundle.ownAtoms own ic cls names, w.before args s' = true := vx_own hat' (vx_isRefq hU'.1) (vx_isRefq hN'.1) hU'.2.word hN'.2.word
  have hown' : s'.vm.findClass own = some m.cls := by rw [hvm]; exact hown
  have hins : (Cond.instantiable cls 6).before args s' = true := h _ (by simp [Bundle.ownAtoms])
  obtain ⟨vm₁, cX, kX, hfX, hkX, -, -, X₁, st1⟩ := Y.newCold hexec (own := own) (C := cls) (index := ik) (n := 6) hown' hk' hins hini'
    (g := F0 m pc ls rest) rfl (by rw [hb]; exact d0) (Nat.le_refl _) (Nat.le_refl _)
  generalize hT1 : (T.setVm vm₁).pushCell { cls := cX, slots := kX.instanceTypes.map defaultValue, vm := .none } = T1 at X₁ st1
  have hcat : (Value.ref T.heap.size).category = 1 := rfl
  have hcellA : T1.heap[T.heap.size]? = some (freshCell cX kX) := by rw [← hT1]; exact State.heap_pushCell_size _ _
  have d3' : decode c.code (pc + 3) = .ok (.dup, 1) := by rw [hb]; exact d3
  have d4' : decode c.code (pc + 4) = .ok (.ldc_w is, 3) := by rw [hb]; exact d4
  have hstr' : vk_R own is text sa s' := vk_R.warm hW0 hstr
  obtain ⟨U, hsteps, hrun, hend, hW, hsame, ce, hce, hO⟩ := X₁.ctorThrowS hexec htr (own := own) (cls := cls) (names := names) (ic := ic) hown' hcls hnames h (fun x hx => nomatch hx) hfX hkX hcellA (by rw [hhp, hT]; exact Nat.le_refl _) (msg := .ref sa) rfl
    (g := { method := m, pc := pc + 7, locals := ls, stack := .ref sa :: .ref T.heap.size :: .ref T.heap.size :: rest, locked := none }) rfl hsize rfl rfl (rest := rest) rfl
    (by rw [hb]; exact d7) (by rw [hb]; exact d10) hout hRframes (by simp only [List.map_cons, List.sum_cons, hcat]; omega) hlocks
  obtain ⟨f1, f2⟩ := vx_frame hsame
  rw [hhp] at f1 f2
  have hWs : s.WarmedH U.vm := State.WarmedH.trans hW0 hW
  have hcl : s.vm.findClass cls = some ce.cls := by
    have h9 := hO.cls
    rw [hvm] at h9
    exact h9
  have hall : s.sameButNew ({ U with vm := s.vm } : State) locs mc ms := by
    subst hA
    obtain ⟨e1, e2⟩ := hsame
    rw [State.setFrames_setFrames] at e1
    have h2 : (T.setVm s.vm).sameButNew ({ U with vm := s.vm } : State) [] (0 + 1) (0 + 6) := ⟨e1, e2⟩
    have h3 := X.same.trans h2
    rw [List.append_nil] at h3
    exact h3.mono hc hs
  refine ⟨U, ?_, .threw T.heap.size, hrun, hend, Or.inr ⟨T.heap.size, rfl, cls, ce, locs, hx U hWs.alike (by have g1 : U.heap.size ≤ s'.heap.size + (0 + 1) := hsame.2.2.1; have g2 : T.heap.size < U.heap.size := (Array.getElem?_eq_some_iff.mp hce).1; rw [hhp] at g1; rw [hT] at g2; omega) (fun q hq => f2 q hq (fun z hz => nomatch hz)), hce, hO.vm, hcl, hWs, hall, hf⟩⟩
  refine st1 _ ?_
  show Steps p.tables e below (T1.setTop { method := m, pc := pc + 3, locals := ls, stack := .ref T.heap.size :: rest, locked := none }) _
  jvm_step X₁.here [X₁.here.top, hexec, d3', Value.category]
  exact X₁.ldcStringW hexec (own := own) (text := text) (index := is) (a := sa) hown' hstr'.1 hstr'.2
    (g := { method := m, pc := pc + 4, locals := ls, stack := .ref T.heap.size :: .ref T.heap.size :: rest, locked := none }) rfl d4' _ hsteps
end Ends
section Bodies
variable {l : Launch}
theorem vx_ofW {y : MethodName} {ws ws' : List Cond} {rm : Room} {Pc : Array Value → State → Prop} {Qc : Array Value → State → Outcome → State → Prop} {XC : String → State → State → Prop} {mc ms : Nat} {free : Addr → Prop} {cc : ByteArray} {maxL : Nat} {ret : Option FieldType}
    (hy : plainName y.cls = true) (hw : ws = Cond.code y cc maxL ret :: ws')
    (body : ∀ p e s m args below meth c s₁, BodyLoose p l y (headSpec ws rm) cc maxL ret e s m args below meth c s₁ → c.maxLocals = maxL → (∀ x ∈ c.exceptionTable.toList, False) → Pc args s →
      W p l e (headSpec ws rm).room s m args below meth c s.heap [] 0 0 (vx_MQ below Qc XC args s mc ms free) (entryFrame m args maxL)) : vx_Met l y ws rm Pc Qc XC mc ms free := by
  refine MetFree.of_bodyS (code := cc) (maxLocals := maxL) (ret := ret) hy ?_ ?_
  · intro args s m h hn
    obtain ⟨meth, c, h1, h2, h3, h4, h5, h6, -, -⟩ := Cond.code_spec hn (atoms_spec (ws := ws) h _ (by rw [hw]; exact List.mem_cons_self))
    exact ⟨meth, c, h1, h2, h3, h4, h5, h6⟩
  · intro p e s m args below meth c s₁ B hml hP _
    have hh0 : s₁.heap = s.heap := by rw [B.state]; rfl
    have ht : ∀ x ∈ c.exceptionTable.toList, False := by
      obtain ⟨meth9, c9, h1, h2, -, -, -, -, h7, -⟩ := Cond.code_spec B.named (atoms_spec (ws := ws) B.pre _ (by rw [hw]; exact List.mem_cons_self))
      cases Option.some.inj (h1.symm.trans B.method)
      cases Option.some.inj (h2.symm.trans (Stand.of_body B).code)
      intro x hx
      rw [Array.isEmpty_iff.mp h7] at hx
      cases hx
    obtain ⟨t, a1, o, b1, b2, b3⟩ := body p e s m args below meth c s₁ B hml ht hP s₁ hh0 (Stand.of_body B)
    exact ⟨t, o, a1, b1, b2, b3⟩
theorem vx_table {p : Program} {x y : MethodName} {S : Spec} {cc bytes : ByteArray} {maxL maxL' : Nat} {ret ret' : Option FieldType} {e : Env} {s s₁ : State} {m : MethodId} {args : Array Value} {below : List Frame} {meth : Method} {c : Code} {hh : List (Nat × Nat × Nat × Nat)}
    (B : BodyLoose p l y S cc maxL ret e s m args below meth c s₁) (h : (Cond.codeWith y bytes maxL' ret' hh).before args s = true) : c.exceptionTable.toList = tableOf hh := by
  obtain ⟨m9, meth9, c9, hn9, h1, h2, -, -, h6, -⟩ := Cond.codeWith_spec h
  cases Option.some.inj (hn9.symm.trans B.named)
  cases Option.some.inj (h1.symm.trans B.method)
  cases Option.some.inj (h2.symm.trans (Stand.of_body B).code)
  rw [← h6, table_eq]
end Bodies
end VXA
section VXS
variable {p : Program} {l : Launch} {e : Env} {R : Room} {s : State} {m : MethodId} {args : Array Value} {below : List Frame} {meth : Method} {c : Code} {T : State} {H : Heap} {locs : List Loc} {cells slots : Nat}
abbrev vx_CSW (R : Room) (s : State) (args : Array Value) (own : String) (index : Nat) (y : MethodName) (bytes : ByteArray) (maxL : Nat) (ret : Option FieldType) (hh : List (Nat × Nat × Nat × Nat)) (ws : List Cond) (rm : Room) (mc ms n : Nat) : Prop :=
  (rm.cells = mc ∧ rm.slots = ms ∧ rm.frames + 1 ≤ R.frames ∧ 8 + (maxL + 11) + rm.locals ≤ R.locals ∧ (∀ w ∈ ws, ∀ (a' : Array Value) (U : State), s.WarmedH U.vm → w.before a' U = true) ∧ Cond.codeWith y bytes maxL ret hh ∈ ws) ∧
  (Cond.codeWith y bytes maxL ret hh).before args s = true ∧ (Cond.initialized y.cls).before args s = true ∧ (y.cls ≠ "java/lang/invoke/MethodHandle" ∧ y.cls ≠ "java/lang/invoke/VarHandle") ∧
  (∀ sig, parseMethodDescriptor y.desc = some sig → n = sig.parameters.length) ∧ (Cond.methodLink own index y).before args s = true ∧ (Cond.static y).before args s = true
theorem vx_cwSW {own : String} {index maxL mc ms : Nat} {y : MethodName} {bytes : ByteArray} {ret : Option FieldType} {hh : List (Nat × Nat × Nat × Nat)} {Ts ws ws' : List Cond} {rm : Room} (n : Nat) (ht : ∀ w ∈ Ts, w.before args s = true) (hT : GoodIn Ts (va_wsS own index y ws)) (hw : ws = Cond.codeWith y bytes maxL ret hh :: ws') (hrc : rm.cells = mc) (hrs : rm.slots = ms)
    (hd : y.cls ≠ "java/lang/invoke/MethodHandle" ∧ y.cls ≠ "java/lang/invoke/VarHandle" ∧ (parseMethodDescriptor y.desc).map (fun d => d.parameters.length) = some n) (hR : rm.frames + 1 ≤ R.frames ∧ 8 + (maxL + 11) + rm.locals ≤ R.locals) :
    vx_CSW R s args own index y bytes maxL ret hh ws rm mc ms n := by
  have ok : ∀ w ∈ va_wsS own index y ws, w.before args s = true := fun w h => ht w (hT w h).1
  have hG : GoodIn Ts ws := fun w h => hT w (by unfold va_wsS; exact List.mem_append_right _ h)
  have hc : Cond.codeWith y bytes maxL ret hh ∈ ws := by rw [hw]; exact List.mem_cons_self
  refine ⟨⟨hrc, hrs, hR.1, hR.2, pay_in ht hG, hc⟩, ht _ (hG _ hc).1, ok _ (by simp [va_wsS]), ⟨hd.1, hd.2.1⟩, fun sig h => ?_, ok _ (by simp [va_wsS]), ok _ (by simp [va_wsS])⟩
  have h2 := hd.2.2
  rw [h] at h2
  exact (Option.some.inj h2).symm
theorem vx_callSW (X : Stand p l e R s m args below meth c T locs cells slots) (hexec : p.tables.exec = Jvm.exec) {own : String} {index : Nat} {y : MethodName} {bytes : ByteArray} {maxL : Nat} {ret : Option FieldType} {hh : List (Nat × Nat × Nat × Nat)}
    (hown : s.vm.findClass own = some m.cls) (hlink : (Cond.methodLink own index y).before args s = true) (hstat : (Cond.static y).before args s = true) (hinit : (Cond.initialized y.cls).before args s = true)
    (hcode : (Cond.codeWith y bytes maxL ret hh).before args s = true) (hy : y.cls ≠ "java/lang/invoke/MethodHandle" ∧ y.cls ≠ "java/lang/invoke/VarHandle")
    {W9 : Nat} {Pre : Pt → Array Value → Prop} {Post : Pt → Array Value → Option Value → Pt → Prop} (hK : Back l R p e below s args y 3 W9 Pre Post)
    {g : JFrame} (hg : g.method = m) (hsize : g.locals.size = c.maxLocals) {argsL rest : List Value} (hlen : ∀ sig, parseMethodDescriptor y.desc = some sig → argsL.length = sig.parameters.length)
    (hstack : g.stack = argsL.reverse ++ rest) (hW : 2 * g.monitorRoom + (rest.map fun v => v.category).sum ≤ W9) (hdg : decode c.code g.pc = .ok (.invokestatic index, 3))
    (hpre : ∀ vm₁, s.WarmedH vm₁ → Pre ⟨T.setVm vm₁, locs, cells, slots⟩ argsL.toArray) :
    ∃ (v : Option Value) (vm₁ : Vm) (B : Pt), s.WarmedH vm₁ ∧ Stand p l e R s m args below meth c B.U B.locs B.cells B.slots ∧ Post ⟨T.setVm vm₁, locs, cells, slots⟩ argsL.toArray v B ∧
      ∀ target, Steps p.tables e below (B.U.setTop { g with pc := g.pc + 3, stack := v.toList ++ rest }) target → Steps p.tables e below (T.setTop g) target := by
  obtain ⟨mk, methM, cM, hnamed, hmethM, -, -, -, -, -, -, hsigM⟩ := Cond.codeWith_spec hcode
  have hstatic : methM.isStatic = true := Cond.static_spec hnamed hmethM hstat
  obtain ⟨kP, hkP, -⟩ := className_of_methodNamed hnamed
  have hinitP : kP.init = .initialized := Cond.initialized_spec (findClass_of_methodNamed hnamed) hkP hinit
  obtain ⟨vm₁, X₁, hstep₁⟩ := X.invokestatic hexec hown hlink hnamed hmethM hstatic hkP hinitP hy (g := g) hg (argsL := argsL) (rest := rest) (hlen _ hsigM) hstack hdg
  obtain ⟨v, B, X', hpost, hsteps⟩ := hK m meth c ⟨T.setVm vm₁, locs, cells, slots⟩ { g with stack := rest } (.invokestatic index) mk argsL.toArray X₁ hg hsize hdg hW (X₁.named hnamed) (hpre vm₁ X₁.warmed)
  exact ⟨v, vm₁, B, X₁.warmed, X', hpost, fun target h => hstep₁ _ fun acts => by rw [doInvoke_state]; exact hsteps.trans h⟩
theorem vx_runSW {y : MethodName} {bytes cc : ByteArray} {maxL nL mc ms n index : Nat} {ret : Option FieldType} {hh : List (Nat × Nat × Nat × Nat)} {ws : List Cond} {rm : Room} {Pc : Array Value → State → Prop} {Qc : Array Value → State → Outcome → State → Prop} {free : Addr → Prop} {Ts : List Cond} {own : String} {As rest : List Value} {g : JFrame}
    (S : CallFix p m c cc nL s args Ts own) (hM : Met l y ws rm Pc Qc mc ms free) (cw : vx_CSW R s args own index y bytes maxL ret hh ws rm mc ms n) (hp : PreS s H Pc As)
    (hg : g.method = m) (hn : As.length = n) (hsize : g.locals.size = nL) (hstack : g.stack = As.reverse ++ rest) (hW : 2 * g.monitorRoom + (rest.map fun v => v.category).sum ≤ 8) (hdg : decode cc g.pc = .ok (.invokestatic index, 3)) (hf : cells + mc ≤ R.cells ∧ slots + ms ≤ R.slots) :
    va_Run p l e R s m args below meth c H locs cells slots mc ms g rest (Qc As.toArray) (free) := by
  obtain ⟨⟨hrc, hrs, hfr, hlo, hws, hcw⟩, hcode, hini, hy, hlen, hl, hstt⟩ := cw
  have hK : Back l R p e below s args y 3 8 (PreOf R mc ms Pc) (PostOf Qc mc ms free) := va_backW (hh := hh) (bytes := bytes) (maxL := maxL) (ret := ret) hM hp.1 hrc hrs hfr hlo hws hcw (fun a' U hW => word_at hW (Or.inl (by first | rfl | simp [Cond.onTables, Cond.keeps, Cond.steady])) hini)
  obtain ⟨hx, hb, hml, ho, -⟩ := S
  intro T hT X
  obtain ⟨v, vm₁, ⟨U', l2, c2, s2⟩, hW₁, X', ⟨g', mk, t, L, e1, e2, hq, h1, hL, h2, h3⟩, st⟩ := vx_callSW X hx (hh := hh) (bytes := bytes) (maxL := maxL) (ret := ret) ho hl hstt hini hcode hy hK hg (hsize.trans hml.symm) (argsL := As) (rest := rest) (fun sig h => hn.trans (hlen sig h)) hstack hW (by rw [hb]; exact hdg)
    (fun vm₁ hW₁ => ⟨hf.1, hf.2, hp.2 (T.setVm vm₁) hT hW₁⟩)
  dsimp only [Pt.U, Pt.locs, Pt.cells, Pt.slots] at X' e1 e2 h1 h2 h3 st
  subst h1; subst h2; subst h3
  exact ⟨v, (T.setVm vm₁).calling g' mk As.toArray, t, U', L, hT, X', hL, e1, e2, hq, st⟩
theorem vx_lt {D : va_G} {cl : List vw_C} {ws : va_W} {H1 : Heap} (h : va_P D cl ws H1) {k : Nat} {q : Nat × va_E} (hk : ws[k]? = some q) : q.1 < H1.size := (h k q hk).lt
end VXS
section VXH
section
variable {l : Launch} {R : Room} {p : Program} {e : Env} {below : List Frame} {s : State} {sargs : Array Value} {y : MethodName} {len W9 : Nat}
theorem vx_backW {ws : List Cond} {rm : Room} {Pc : Array Value → State → Prop} {Qc : Array Value → State → Outcome → State → Prop} {XC : String → State → State → Prop} {mc ms : Nat} {free : Addr → Prop} {bytes : ByteArray} {maxL : Nat} {ret : Option FieldType} {hh : List (Nat × Nat × Nat × Nat)}
    (hM : vx_Met l y ws rm Pc Qc XC mc ms free) (hblind : FrameBlind Pc) (hrc : rm.cells = mc) (hrs : rm.slots = ms)
    (hframes : rm.frames + 1 ≤ R.frames) (hlocals : W9 + (maxL + 11) + rm.locals ≤ R.locals)
    (hws : ∀ w ∈ ws, ∀ a' U, s.WarmedH U.vm → w.before a' U = true) (hcode : Cond.codeWith y bytes maxL ret hh ∈ ws) (hinit : ∀ a' U, s.WarmedH U.vm → (Cond.initialized y.cls).before a' U = true) :
    vx_Back l R p e below s sargs y len W9 (PreOf R mc ms Pc) (PostOf Qc mc ms free) (vx_Post XC mc ms free) := by
  intro m meth c A g ig mk a X hg hsize hdg hW hn hp
  have h1 : (headSpec ws rm).pre.before a A.U = true := atoms_intro fun w hw => hws w hw _ _ X.warmed
  have h2 : (Cond.codeWith y bytes maxL ret hh).before a A.U = true := hws _ hcode _ _ X.warmed
  have h3 : (Cond.initialized y.cls).before a A.U = true := hinit _ _ X.warmed
  have h4 : A.cells + (headSpec ws rm).room.cells ≤ R.cells := by rw [show (headSpec ws rm).room.cells = mc from hrc]; exact hp.1
  have h5 : A.slots + (headSpec ws rm).room.slots ≤ R.slots := by rw [show (headSpec ws rm).room.slots = ms from hrs]; exact hp.2.1
  have hPc : Pc a (A.U.calling g mk a) := hblind _ _ _ _ hp.2.2
  obtain ⟨U, Ls, c0, s0⟩ := A
  dsimp only [Pt.U, Pt.locs, Pt.cells, Pt.slots] at h1 h2 h3 h4 h5 X hn hPc ⊢
  obtain ⟨m9, methY, cY, hn9, hmY, hcY, -, hlY, -⟩ := Cond.codeWith_spec h2
  cases Option.some.inj (hn9.symm.trans hn)
  obtain ⟨kY, hkY, -⟩ := className_of_methodNamed hn
  have hinitY : kY.init = .initialized := Cond.initialized_spec (findClass_of_methodNamed hn) hkY h3
  have h : At U g.method c below := by rw [hg]; exact X.here
  have hlocals9 : W9 + (maxL + 11) + (headSpec ws rm).room.locals ≤ R.locals := hlocals
  have happ : (headSpec ws rm).appliesLoose y e.platform (U.calling g mk a) = true :=
    Spec.appliesLoose_calling (g := g) h hdg hn hkY hinitY
      (X.room_calling (g := g) (R' := (headSpec ws rm).room) hsize hmY hcY hframes (by rw [hlY]; omega) h4 h5) h1
  obtain ⟨mid, hmid⟩ := h.above
  have hfr : (U.setTop g).frames = (.java g :: mid) ++ below := by rw [State.frames_setTop' g h.top, hmid]; rfl
  obtain ⟨o, s₂, hsteps, -, hend, hq⟩ := Steps.callFree hM p X.admits X.cas X.clock (acts := []) hfr happ hPc trivial
  have hq' : vx_Q Qc XC mc ms free a (U.calling g mk a) o s₂ := hq
  rw [State.frames_setTop' g h.top] at hend
  obtain ⟨g₀, hg0⟩ := Option.isSome_iff_exists.mp h.top
  obtain ⟨r, hr⟩ := State.topJava?_eq_some.mp hg0
  have hr' : (({ U with heap := s₂.heap, slotsUsed := s₂.slotsUsed } : State).setVm s₂.vm).frames = .java g₀ :: r := hr
  rcases hq' with ⟨hqc, L, hfe, hL⟩ | ⟨q, rfl, E, ce, L, hx, hce, hcv, hcl, hW₂, hsm, hL⟩
  · obtain ⟨⟨v, rfl⟩, hW₂, e2, q2, q3, q4, q5, q6⟩ := id hfe
    have e3 : s₂ = ({ (U.calling g mk a).setFrames s₂.frames with heap := s₂.heap, slotsUsed := s₂.slotsUsed } : State).setVm s₂.vm := by
      have : s₂ = ({ s₂ with vm := (U.calling g mk a).vm } : State).setVm s₂.vm := rfl
      rw [e2] at this
      exact this
    obtain ⟨c₂, i₂, len₂, hc₂, hd₂, hf₂⟩ := hend
    have hW' : U.WarmedH s₂.vm := hW₂
    have hcc : c₂ = c := by
      have h1 : s₂.code? g.method = U.code? g.method := by
        rw [State.code?_eq, State.code?_eq, hW'.alike.method?]
      exact Option.some.inj (hc₂.symm.trans (h1.trans h.code))
    subst hcc
    have hlen : len₂ = len := by rw [hdg] at hd₂; cases hd₂; rfl
    subst hlen
    have hs₂ : s₂ = (({ U with heap := s₂.heap, slotsUsed := s₂.slotsUsed } : State).setVm s₂.vm).setTop { g with pc := g.pc + len₂, stack := v.toList ++ g.stack } := by
      refine e3.trans ?_
      rw [hf₂, State.calling_eq h.top, State.setFrames_setFrames, State.setTop_of_frames _ hr', hr]
      rfl
    have hsame : U.sameButNew ({ U with heap := s₂.heap, slotsUsed := s₂.slotsUsed } : State) L mc ms := by
      refine ⟨?_, q2, q3, q4, q5, q6⟩
      obtain ⟨t, ht, -⟩ := State.frames_cons hr
      show ({ U with heap := s₂.heap, slotsUsed := s₂.slotsUsed } : State) = { U.setFrames U.frames with heap := s₂.heap, slotsUsed := s₂.slotsUsed }
      rw [State.setFrames_self ht]
    subst hg
    refine Or.inl ⟨v, ⟨(({ U with heap := s₂.heap, slotsUsed := s₂.slotsUsed } : State).setVm s₂.vm), Ls ++ L, c0 + mc, s0 + ms⟩,
      ⟨X.admits, X.cas, X.clock, X.frames, X.room, X.hears, X.method, X.code, (X.here.setHeapUsed s₂.heap s₂.slotsUsed).setVm hW'.alike, X.tail, State.WarmedH.trans X.warmed hW', X.limits, X.bytes, X.same.trans (hsame.setVm s.vm)⟩,
      ⟨g, mk, s₂, L, rfl, rfl, hqc, rfl, hL, rfl, rfl⟩, ?_⟩
    show Steps p.tables e below _ ((({ U with heap := s₂.heap, slotsUsed := s₂.slotsUsed } : State).setVm s₂.vm).setTop { g with pc := g.pc + len₂, stack := v.toList ++ g.stack })
    rw [← hs₂]
    exact hsteps
  · obtain ⟨e2, q2, q3, q4, q5, q6⟩ := id hsm
    have e3 : s₂ = ({ (U.calling g mk a).setFrames s₂.frames with heap := s₂.heap, slotsUsed := s₂.slotsUsed } : State).setVm s₂.vm := by
      have : s₂ = ({ s₂ with vm := (U.calling g mk a).vm } : State).setVm s₂.vm := rfl
      rw [e2] at this
      exact this
    have hf₂ : s₂.frames = .throwing q :: .java g :: U.frames.tail := hend
    have hW' : U.WarmedH s₂.vm := hW₂
    have hs₂ : s₂ = ((({ U with heap := s₂.heap, slotsUsed := s₂.slotsUsed } : State).setVm s₂.vm).setTop g).pushFrame (.throwing q) := by
      refine e3.trans ?_
      rw [hf₂, State.calling_eq h.top, State.setFrames_setFrames, State.pushFrame, State.frames_setTop _ hr', State.setTop_of_frames _ hr', State.setFrames_setFrames, hr]
      rfl
    have hsame : U.sameButNew ({ U with heap := s₂.heap, slotsUsed := s₂.slotsUsed } : State) L mc ms := by
      refine ⟨?_, q2, q3, q4, q5, q6⟩
      obtain ⟨t, ht, -⟩ := State.frames_cons hr
      show ({ U with heap := s₂.heap, slotsUsed := s₂.slotsUsed } : State) = { U.setFrames U.frames with heap := s₂.heap, slotsUsed := s₂.slotsUsed }
      rw [State.setFrames_self ht]
    subst hg
    refine Or.inr ⟨q, ⟨(({ U with heap := s₂.heap, slotsUsed := s₂.slotsUsed } : State).setVm s₂.vm), Ls ++ L, c0 + mc, s0 + ms⟩,
      ⟨X.admits, X.cas, X.clock, X.frames, X.room, X.hears, X.method, X.code, (X.here.setHeapUsed s₂.heap s₂.slotsUsed).setVm hW'.alike, X.tail, State.WarmedH.trans X.warmed hW', X.limits, X.bytes, X.same.trans (hsame.setVm s.vm)⟩,
      ⟨g, mk, s₂, L, E, ce, rfl, rfl, hx, hce, hcv, hcl, rfl, hL, rfl, rfl⟩, ?_⟩
    show Steps p.tables e below _ (((({ U with heap := s₂.heap, slotsUsed := s₂.slotsUsed } : State).setVm s₂.vm).setTop g).pushFrame (.throwing q))
    rw [← hs₂]
    exact hsteps
end
variable {p : Program} {l : Launch} {e : Env} {R : Room} {s : State} {m : MethodId} {args : Array Value} {below : List Frame} {meth : Method} {c : Code} {T : State} {H : Heap} {locs : List Loc} {cells slots : Nat}
theorem vx_callVX (X : Stand p l e R s m args below meth c T locs cells slots) (hexec : p.tables.exec = Jvm.exec) {own C : String} {index : Nat} {y : MethodName} {bytes : ByteArray} {maxL : Nat} {ret : Option FieldType} {hh : List (Nat × Nat × Nat × Nat)}
    (hown : s.vm.findClass own = some m.cls) (hlink : (Cond.methodLink own index y).before args s = true) (hinst : (Cond.instanceMethod y).before args s = true) (hsel : (Cond.selects C y y).before args s = true)
    (hcode : (Cond.codeWith y bytes maxL ret hh).before args s = true) (hy : y.cls ≠ "java/lang/invoke/MethodHandle" ∧ y.cls ≠ "java/lang/invoke/VarHandle")
    {W9 : Nat} {Pre : Pt → Array Value → Prop} {Post : Pt → Array Value → Option Value → Pt → Prop} {PostX : Pt → Array Value → Addr → Pt → Prop} (hK : vx_Back l R p e below s args y 3 W9 Pre Post PostX)
    {b : Addr} {cellB : Cell} (hcell : T.heap[b]? = some cellB) (hobj : cellB.vm.isStatics = false) (hcls : s.vm.findClass C = some cellB.cls)
    {g : JFrame} (hg : g.method = m) (hsize : g.locals.size = c.maxLocals) {argsL rest : List Value} (hlen : ∀ sig, parseMethodDescriptor y.desc = some sig → argsL.length = sig.parameters.length)
    (hstack : g.stack = argsL.reverse ++ .ref b :: rest) (hW : 2 * g.monitorRoom + (rest.map fun v => v.category).sum ≤ W9) (hdg : decode c.code g.pc = .ok (.invokevirtual index, 3))
    (hpre : ∀ vm₁, s.WarmedH vm₁ → Pre ⟨T.setVm vm₁, locs, cells, slots⟩ (Value.ref b :: argsL).toArray) :
    (∃ (v : Option Value) (vm₁ : Vm) (B : Pt), s.WarmedH vm₁ ∧ Stand p l e R s m args below meth c B.U B.locs B.cells B.slots ∧ Post ⟨T.setVm vm₁, locs, cells, slots⟩ (Value.ref b :: argsL).toArray v B ∧
      ∀ target, Steps p.tables e below (B.U.setTop { g with pc := g.pc + 3, stack := v.toList ++ rest }) target → Steps p.tables e below (T.setTop g) target) ∨
    (∃ (q : Addr) (vm₁ : Vm) (B : Pt), s.WarmedH vm₁ ∧ Stand p l e R s m args below meth c B.U B.locs B.cells B.slots ∧ PostX ⟨T.setVm vm₁, locs, cells, slots⟩ (Value.ref b :: argsL).toArray q B ∧
      Steps p.tables e below (T.setTop g) ((B.U.setTop { g with stack := rest }).pushFrame (.throwing q))) := by
  obtain ⟨mk, methM, hnamed, hmethM, hstM, habM⟩ := Cond.instanceMethod_spec hinst
  obtain ⟨m8, methM', cM, hn8, hmethM', -, -, -, -, -, -, hsigM⟩ := Cond.codeWith_spec hcode
  cases Option.some.inj (hn8.symm.trans hnamed)
  cases hmethM.symm.trans hmethM'
  obtain ⟨c2, r2, m2, q1, q2, q3, q4, kP, hkP, hkPi⟩ := Cond.selects_spec hsel
  cases hcls.symm.trans q1
  cases (State.methodFound?_of_named hnamed hy).symm.trans q2
  cases hnamed.symm.trans q3
  have hselP : selectMethod e.platform s.vm cellB.cls mk = .method mk := by rw [Launch.admits_selectMethod X.admits]; exact q4
  obtain ⟨vm₁, X₁, hstep₁⟩ := X.invokevirtual hexec hown hlink hnamed hmethM hstM hkP hkPi hy (a := b) (cell := cellB) hcell
    (fun z h => by rw [h] at hobj; cases hobj) hselP hmethM habM hkP hkPi (g := g) hg (argsL := argsL) (rest := rest) (hlen _ hsigM) hstack hdg
  rcases hK m meth c ⟨T.setVm vm₁, locs, cells, slots⟩ { g with stack := rest } (.invokevirtual index) mk (Value.ref b :: argsL).toArray X₁ hg hsize hdg hW (X₁.named hnamed) (hpre vm₁ X₁.warmed) with ⟨v, B, X', hpost, hsteps⟩ | ⟨q, B, X', hpost, hsteps⟩
  · exact Or.inl ⟨v, vm₁, B, X₁.warmed, X', hpost, fun target h => hstep₁ _ fun acts => by rw [doInvoke_state]; exact hsteps.trans h⟩
  · exact Or.inr ⟨q, vm₁, B, X₁.warmed, X', hpost, hstep₁ _ fun acts => by rw [doInvoke_state]; exact hsteps⟩
theorem vx_callSX (X : Stand p l e R s m args below meth c T locs cells slots) (hexec : p.tables.exec = Jvm.exec) {own : String} {index : Nat} {y : MethodName} {bytes : ByteArray} {maxL : Nat} {ret : Option FieldType} {hh : List (Nat × Nat × Nat × Nat)}
    (hown : s.vm.findClass own = some m.cls) (hlink : (Cond.methodLink own index y).before args s = true) (hstat : (Cond.static y).before args s = true) (hinit : (Cond.initialized y.cls).before args s = true)
    (hcode : (Cond.codeWith y bytes maxL ret hh).before args s = true) (hy : y.cls ≠ "java/lang/invoke/MethodHandle" ∧ y.cls ≠ "java/lang/invoke/VarHandle")
    {W9 : Nat} {Pre : Pt → Array Value → Prop} {Post : Pt → Array Value → Option Value → Pt → Prop} {PostX : Pt → Array Value → Addr → Pt → Prop} (hK : vx_Back l R p e below s args y 3 W9 Pre Post PostX)
    {g : JFrame} (hg : g.method = m) (hsize : g.locals.size = c.maxLocals) {argsL rest : List Value} (hlen : ∀ sig, parseMethodDescriptor y.desc = some sig → argsL.length = sig.parameters.length)
    (hstack : g.stack = argsL.reverse ++ rest) (hW : 2 * g.monitorRoom + (rest.map fun v => v.category).sum ≤ W9) (hdg : decode c.code g.pc = .ok (.invokestatic index, 3))
    (hpre : ∀ vm₁, s.WarmedH vm₁ → Pre ⟨T.setVm vm₁, locs, cells, slots⟩ argsL.toArray) :
    (∃ (v : Option Value) (vm₁ : Vm) (B : Pt), s.WarmedH vm₁ ∧ Stand p l e R s m args below meth c B.U B.locs B.cells B.slots ∧ Post ⟨T.setVm vm₁, locs, cells, slots⟩ argsL.toArray v B ∧
      ∀ target, Steps p.tables e below (B.U.setTop { g with pc := g.pc + 3, stack := v.toList ++ rest }) target → Steps p.tables e below (T.setTop g) target) ∨
    (∃ (q : Addr) (vm₁ : Vm) (B : Pt), s.WarmedH vm₁ ∧ Stand p l e R s m args below meth c B.U B.locs B.cells B.slots ∧ PostX ⟨T.setVm vm₁, locs, cells, slots⟩ argsL.toArray q B ∧
      Steps p.tables e below (T.setTop g) ((B.U.setTop { g with stack := rest }).pushFrame (.throwing q))) := by
  obtain ⟨mk, methM, cM, hnamed, hmethM, -, -, -, -, -, -, hsigM⟩ := Cond.codeWith_spec hcode
  have hstatic : methM.isStatic = true := Cond.static_spec hnamed hmethM hstat
  obtain ⟨kP, hkP, -⟩ := className_of_methodNamed hnamed
  have hinitP : kP.init = .initialized := Cond.initialized_spec (findClass_of_methodNamed hnamed) hkP hinit
  obtain ⟨vm₁, X₁, hstep₁⟩ := X.invokestatic hexec hown hlink hnamed hmethM hstatic hkP hinitP hy (g := g) hg (argsL := argsL) (rest := rest) (hlen _ hsigM) hstack hdg
  rcases hK m meth c ⟨T.setVm vm₁, locs, cells, slots⟩ { g with stack := rest } (.invokestatic index) mk argsL.toArray X₁ hg hsize hdg hW (X₁.named hnamed) (hpre vm₁ X₁.warmed) with ⟨v, B, X', hpost, hsteps⟩ | ⟨q, B, X', hpost, hsteps⟩
  · exact Or.inl ⟨v, vm₁, B, X₁.warmed, X', hpost, fun target h => hstep₁ _ fun acts => by rw [doInvoke_state]; exact hsteps.trans h⟩
  · exact Or.inr ⟨q, vm₁, B, X₁.warmed, X', hpost, hstep₁ _ fun acts => by rw [doInvoke_state]; exact hsteps⟩
theorem vx_callVW (X : Stand p l e R s m args below meth c T locs cells slots) (hexec : p.tables.exec = Jvm.exec) {own C : String} {index : Nat} {y : MethodName} {bytes : ByteArray} {maxL : Nat} {ret : Option FieldType} {hh : List (Nat × Nat × Nat × Nat)}
    (hown : s.vm.findClass own = some m.cls) (hlink : (Cond.methodLink own index y).before args s = true) (hinst : (Cond.instanceMethod y).before args s = true) (hsel : (Cond.selects C y y).before args s = true)
    (hcode : (Cond.codeWith y bytes maxL ret hh).before args s = true) (hy : y.cls ≠ "java/lang/invoke/MethodHandle" ∧ y.cls ≠ "java/lang/invoke/VarHandle")
    {W9 : Nat} {Pre : Pt → Array Value → Prop} {Post : Pt → Array Value → Option Value → Pt → Prop} (hK : Back l R p e below s args y 3 W9 Pre Post)
    {b : Addr} {cellB : Cell} (hcell : T.heap[b]? = some cellB) (hobj : cellB.vm.isStatics = false) (hcls : s.vm.findClass C = some cellB.cls)
    {g : JFrame} (hg : g.method = m) (hsize : g.locals.size = c.maxLocals) {argsL rest : List Value} (hlen : ∀ sig, parseMethodDescriptor y.desc = some sig → argsL.length = sig.parameters.length)
    (hstack : g.stack = argsL.reverse ++ .ref b :: rest) (hW : 2 * g.monitorRoom + (rest.map fun v => v.category).sum ≤ W9) (hdg : decode c.code g.pc = .ok (.invokevirtual index, 3))
    (hpre : ∀ vm₁, s.WarmedH vm₁ → Pre ⟨T.setVm vm₁, locs, cells, slots⟩ (Value.ref b :: argsL).toArray) :
    ∃ (v : Option Value) (vm₁ : Vm) (B : Pt), s.WarmedH vm₁ ∧ Stand p l e R s m args below meth c B.U B.locs B.cells B.slots ∧ Post ⟨T.setVm vm₁, locs, cells, slots⟩ (Value.ref b :: argsL).toArray v B ∧
      ∀ target, Steps p.tables e below (B.U.setTop { g with pc := g.pc + 3, stack := v.toList ++ rest }) target → Steps p.tables e below (T.setTop g) target := by
  obtain ⟨mk, methM, hnamed, hmethM, hstM, habM⟩ := Cond.instanceMethod_spec hinst
  obtain ⟨m8, methM', cM, hn8, hmethM', -, -, -, -, -, -, hsigM⟩ := Cond.codeWith_spec hcode
  cases Option.some.inj (hn8.symm.trans hnamed)
  cases hmethM.symm.trans hmethM'
  obtain ⟨c2, r2, m2, q1, q2, q3, q4, kP, hkP, hkPi⟩ := Cond.selects_spec hsel
  cases hcls.symm.trans q1
  cases (State.methodFound?_of_named hnamed hy).symm.trans q2
  cases hnamed.symm.trans q3
  have hselP : selectMethod e.platform s.vm cellB.cls mk = .method mk := by rw [Launch.admits_selectMethod X.admits]; exact q4
  obtain ⟨vm₁, X₁, hstep₁⟩ := X.invokevirtual hexec hown hlink hnamed hmethM hstM hkP hkPi hy (a := b) (cell := cellB) hcell
    (fun z h => by rw [h] at hobj; cases hobj) hselP hmethM habM hkP hkPi (g := g) hg (argsL := argsL) (rest := rest) (hlen _ hsigM) hstack hdg
  obtain ⟨v, B, X', hpost, hsteps⟩ := hK m meth c ⟨T.setVm vm₁, locs, cells, slots⟩ { g with stack := rest } (.invokevirtual index) mk (Value.ref b :: argsL).toArray X₁ hg hsize hdg hW (X₁.named hnamed) (hpre vm₁ X₁.warmed)
  exact ⟨v, vm₁, B, X₁.warmed, X', hpost, fun target h => hstep₁ _ fun acts => by rw [doInvoke_state]; exact hsteps.trans h⟩
abbrev vx_CVW (R : Room) (s : State) (args : Array Value) (own C : String) (index : Nat) (y : MethodName) (bytes : ByteArray) (maxL : Nat) (ret : Option FieldType) (hh : List (Nat × Nat × Nat × Nat)) (ws : List Cond) (rm : Room) (mc ms n : Nat) : Prop :=
  (rm.cells = mc ∧ rm.slots = ms ∧ rm.frames + 1 ≤ R.frames ∧ 8 + (maxL + 11) + rm.locals ≤ R.locals ∧ (∀ w ∈ ws, ∀ (a' : Array Value) (U : State), s.WarmedH U.vm → w.before a' U = true) ∧ Cond.codeWith y bytes maxL ret hh ∈ ws) ∧
  (Cond.codeWith y bytes maxL ret hh).before args s = true ∧ (Cond.initialized y.cls).before args s = true ∧ (y.cls ≠ "java/lang/invoke/MethodHandle" ∧ y.cls ≠ "java/lang/invoke/VarHandle") ∧
  (∀ sig, parseMethodDescriptor y.desc = some sig → n = sig.parameters.length) ∧ (Cond.methodLink own index y).before args s = true ∧ (Cond.instanceMethod y).before args s = true ∧ (Cond.selects C y y).before args s = true
theorem vx_cwVW {own C : String} {index maxL mc ms : Nat} {y : MethodName} {bytes : ByteArray} {ret : Option FieldType} {hh : List (Nat × Nat × Nat × Nat)} {Ts ws ws' : List Cond} {rm : Room} (n : Nat) (ht : ∀ w ∈ Ts, w.before args s = true) (hT : GoodIn Ts (wsV own index C y ws)) (hw : ws = Cond.codeWith y bytes maxL ret hh :: ws') (hrc : rm.cells = mc) (hrs : rm.slots = ms)
    (hd : y.cls = C ∧ y.cls ≠ "java/lang/invoke/MethodHandle" ∧ y.cls ≠ "java/lang/invoke/VarHandle" ∧ (parseMethodDescriptor y.desc).map (fun d => d.parameters.length) = some n) (hR : rm.frames + 1 ≤ R.frames ∧ 8 + (maxL + 11) + rm.locals ≤ R.locals) :
    vx_CVW R s args own C index y bytes maxL ret hh ws rm mc ms n := by
  obtain ⟨hC, hd⟩ := hd
  subst hC
  have ok : ∀ w ∈ wsV own index y.cls y ws, w.before args s = true := fun w h => ht w (hT w h).1
  have hG : GoodIn Ts ws := fun w h => hT w (by unfold wsV; exact List.mem_append_right _ h)
  have hc : Cond.codeWith y bytes maxL ret hh ∈ ws := by rw [hw]; exact List.mem_cons_self
  refine ⟨⟨hrc, hrs, hR.1, hR.2, pay_in ht hG, hc⟩, ht _ (hG _ hc).1, ok _ (by simp [wsV]), ⟨hd.1, hd.2.1⟩, fun sig h => ?_, ok _ (by simp [wsV]), ok _ (by simp [wsV]), ok _ (by simp [wsV])⟩
  have h2 := hd.2.2
  rw [h] at h2
  exact (Option.some.inj h2).symm
theorem vx_runVW {y : MethodName} {bytes cc : ByteArray} {maxL nL mc ms n index : Nat} {ret : Option FieldType} {hh : List (Nat × Nat × Nat × Nat)} {ws : List Cond} {rm : Room} {Pc : Array Value → State → Prop} {Qc : Array Value → State → Outcome → State → Prop} {free : Addr → Prop} {Ts : List Cond} {own C : String} {b : Addr} {As rest : List Value} {g : JFrame}
    (S : CallFix p m c cc nL s args Ts own) (hM : Met l y ws rm Pc Qc mc ms free) (cw : vx_CVW R s args own C index y bytes maxL ret hh ws rm mc ms n) (hp : PreV s H C b Pc As)
    (hg : g.method = m) (hn : As.length = n) (hsize : g.locals.size = nL) (hstack : g.stack = As.reverse ++ .ref b :: rest) (hW : 2 * g.monitorRoom + (rest.map fun v => v.category).sum ≤ 8) (hdg : decode cc g.pc = .ok (.invokevirtual index, 3)) (hf : cells + mc ≤ R.cells ∧ slots + ms ≤ R.slots) :
    va_Run p l e R s m args below meth c H locs cells slots mc ms g rest (Qc (Value.ref b :: As).toArray) free := by
  obtain ⟨⟨hrc, hrs, hfr, hlo, hws, hcw⟩, hcode, hini, hy, hlen, hl, hin, hse⟩ := cw
  have hK : Back l R p e below s args y 3 8 (PreOf R mc ms Pc) (PostOf Qc mc ms free) := va_backW (hh := hh) (bytes := bytes) (maxL := maxL) (ret := ret) hM hp.1 hrc hrs hfr hlo hws hcw (fun a' U hW => word_at hW (Or.inl (by first | rfl | simp [Cond.onTables, Cond.keeps, Cond.steady])) hini)
  obtain ⟨hx, hb, hml, ho, -⟩ := S
  obtain ⟨-, ⟨cellB, hcB, hoB, hclB⟩, hPc⟩ := hp
  intro T hT X
  obtain ⟨v, vm₁, ⟨U', l2, c2, s2⟩, hW₁, X', ⟨g', mk, t, L, e1, e2, hq, h1, hL, h2, h3⟩, st⟩ := vx_callVW X hx (C := C) (hh := hh) (bytes := bytes) (maxL := maxL) (ret := ret) ho hl hin hse hcode hy hK (by rw [hT]; exact hcB) hoB hclB hg (hsize.trans hml.symm) (argsL := As) (rest := rest) (fun sig h => hn.trans (hlen sig h)) hstack hW (by rw [hb]; exact hdg)
    (fun vm₁ hW₁ => ⟨hf.1, hf.2, hPc (T.setVm vm₁) hT hW₁⟩)
  dsimp only [Pt.U, Pt.locs, Pt.cells, Pt.slots] at X' e1 e2 h1 h2 h3 st
  subst h1; subst h2; subst h3
  exact ⟨v, (T.setVm vm₁).calling g' mk (Value.ref b :: As).toArray, t, U', L, hT, X', hL, e1, e2, hq, st⟩
section
variable {y : MethodName} {bytes cc : ByteArray} {maxL nL mc ms n index : Nat} {ret : Option FieldType} {ws : List Cond} {rm : Room} {Pc : Array Value → State → Prop} {Qc : Array Value → State → Outcome → State → Prop} {XC : String → State → State → Prop} {free : Addr → Prop} {Ts : List Cond} {own C : String} {b : Addr} {As rest : List Value} {g : JFrame}
theorem vx_runVX {hh : List (Nat × Nat × Nat × Nat)} (S : CallFix p m c cc nL s args Ts own) (hM : vx_Met l y ws rm Pc Qc XC mc ms free) (cw : vx_CVW R s args own C index y bytes maxL ret hh ws rm mc ms n) (hp : PreV s H C b Pc As)
    (hg : g.method = m) (hn : As.length = n) (hsize : g.locals.size = nL) (hstack : g.stack = As.reverse ++ .ref b :: rest) (hW : 2 * g.monitorRoom + (rest.map fun v => v.category).sum ≤ 8) (hdg : decode cc g.pc = .ok (.invokevirtual index, 3)) (hf : cells + mc ≤ R.cells ∧ slots + ms ≤ R.slots) :
    vx_Run p l e R s m args below meth c H locs cells slots mc ms g rest (Qc (Value.ref b :: As).toArray) XC free := by
  obtain ⟨⟨hrc, hrs, hfr, hlo, hws, hcw⟩, hcode, hini, hy, hlen, hl, hin, hse⟩ := cw
  have hK : vx_Back l R p e below s args y 3 8 (PreOf R mc ms Pc) (PostOf Qc mc ms free) (vx_Post XC mc ms free) := vx_backW (hh := hh) (bytes := bytes) (maxL := maxL) (ret := ret) hM hp.1 hrc hrs hfr hlo hws hcw (fun a' U hW => word_at hW (Or.inl (by first | rfl | simp [Cond.onTables, Cond.keeps, Cond.steady])) hini)
  obtain ⟨hx, hb, hml, ho, -⟩ := S
  obtain ⟨-, ⟨cellB, hcB, hoB, hclB⟩, hPc⟩ := hp
  intro T hT X
  rcases vx_callVX X hx (C := C) (hh := hh) (bytes := bytes) (maxL := maxL) (ret := ret) ho hl hin hse hcode hy hK (by rw [hT]; exact hcB) hoB hclB hg (hsize.trans hml.symm) (argsL := As) (rest := rest) (fun sig h => hn.trans (hlen sig h)) hstack hW (by rw [hb]; exact hdg)
    (fun vm₁ hW₁ => ⟨hf.1, hf.2, hPc (T.setVm vm₁) hT hW₁⟩) with ⟨v, vm₁, ⟨U', l2, c2, s2⟩, hW₁, X', ⟨g', mk, t, L, e1, e2, hq, h1, hL, h2, h3⟩, st⟩ | ⟨q, vm₁, ⟨U', l2, c2, s2⟩, hW₁, X', ⟨g', mk, t, L, E, ce, e1, e2, hq, hce, hcv, hcl, h1, hL, h2, h3⟩, st⟩
  · dsimp only [Pt.U, Pt.locs, Pt.cells, Pt.slots] at X' e1 e2 h1 h2 h3 st
    subst h1; subst h2; subst h3
    exact Or.inl ⟨v, (T.setVm vm₁).calling g' mk (Value.ref b :: As).toArray, t, U', L, hT, X', hL, e1, e2, hq, st⟩
  · dsimp only [Pt.U, Pt.locs, Pt.cells, Pt.slots] at X' e1 e2 h1 h2 h3 st hcl
    subst h1; subst h2; subst h3
    exact Or.inr ⟨q, (T.setVm vm₁).calling g' mk (Value.ref b :: As).toArray, t, U', L, E, ce, hT, X', hL, e1, e2, hq, hce, hcv, vx_cls hW₁ hcl, st⟩
theorem vx_runSX {hh : List (Nat × Nat × Nat × Nat)} (S : CallFix p m c cc nL s args Ts own) (hM : vx_Met l y ws rm Pc Qc XC mc ms free) (cw : vx_CSW R s args own index y bytes maxL ret hh ws rm mc ms n) (hp : PreS s H Pc As)
    (hg : g.method = m) (hn : As.length = n) (hsize : g.locals.size = nL) (hstack : g.stack = As.reverse ++ rest) (hW : 2 * g.monitorRoom + (rest.map fun v => v.category).sum ≤ 8) (hdg : decode cc g.pc = .ok (.invokestatic index, 3)) (hf : cells + mc ≤ R.cells ∧ slots + ms ≤ R.slots) :
    vx_Run p l e R s m args below meth c H locs cells slots mc ms g rest (Qc As.toArray) XC free := by
  obtain ⟨⟨hrc, hrs, hfr, hlo, hws, hcw⟩, hcode, hini, hy, hlen, hl, hstt⟩ := cw
  have hK : vx_Back l R p e below s args y 3 8 (PreOf R mc ms Pc) (PostOf Qc mc ms free) (vx_Post XC mc ms free) := vx_backW (hh := hh) (bytes := bytes) (maxL := maxL) (ret := ret) hM hp.1 hrc hrs hfr hlo hws hcw (fun a' U hW => word_at hW (Or.inl (by first | rfl | simp [Cond.onTables, Cond.keeps, Cond.steady])) hini)
  obtain ⟨hx, hb, hml, ho, -⟩ := S
  intro T hT X
  rcases vx_callSX X hx (hh := hh) (bytes := bytes) (maxL := maxL) (ret := ret) ho hl hstt hini hcode hy hK hg (hsize.trans hml.symm) (argsL := As) (rest := rest) (fun sig h => hn.trans (hlen sig h)) hstack hW (by rw [hb]; exact hdg)
    (fun vm₁ hW₁ => ⟨hf.1, hf.2, hp.2 (T.setVm vm₁) hT hW₁⟩) with ⟨v, vm₁, ⟨U', l2, c2, s2⟩, hW₁, X', ⟨g', mk, t, L, e1, e2, hq, h1, hL, h2, h3⟩, st⟩ | ⟨q, vm₁, ⟨U', l2, c2, s2⟩, hW₁, X', ⟨g', mk, t, L, E, ce, e1, e2, hq, hce, hcv, hcl, h1, hL, h2, h3⟩, st⟩
  · dsimp only [Pt.U, Pt.locs, Pt.cells, Pt.slots] at X' e1 e2 h1 h2 h3 st
    subst h1; subst h2; subst h3
    exact Or.inl ⟨v, (T.setVm vm₁).calling g' mk As.toArray, t, U', L, hT, X', hL, e1, e2, hq, st⟩
  · dsimp only [Pt.U, Pt.locs, Pt.cells, Pt.slots] at X' e1 e2 h1 h2 h3 st hcl
    subst h1; subst h2; subst h3
    exact Or.inr ⟨q, (T.setVm vm₁).calling g' mk As.toArray, t, U', L, E, ce, hT, X', hL, e1, e2, hq, hce, hcv, vx_cls hW₁ hcl, st⟩
end
end VXH
theorem vx_ofWH {l : Launch} {y : MethodName} {ws ws' : List Cond} {rm : Room} {Pc : Array Value → State → Prop} {Qc : Array Value → State → Outcome → State → Prop} {XC : String → State → State → Prop} {mc ms : Nat} {free : Addr → Prop} {cc : ByteArray} {maxL : Nat} {ret : Option FieldType} {hh : List (Nat × Nat × Nat × Nat)}
    (hy : plainName y.cls = true) (hw : ws = Cond.codeWith y cc maxL ret hh :: ws')
    (body : ∀ p e s m args below meth c s₁, BodyLoose p l y (headSpec ws rm) cc maxL ret e s m args below meth c s₁ → c.maxLocals = maxL → Pc args s →
      W p l e (headSpec ws rm).room s m args below meth c s.heap [] 0 0 (vx_MQ below Qc XC args s mc ms free) (entryFrame m args maxL)) : vx_Met l y ws rm Pc Qc XC mc ms free := by
  refine MetFree.of_bodyS (code := cc) (maxLocals := maxL) (ret := ret) hy ?_ ?_
  · intro args s m h hn
    obtain ⟨m9, meth, c, hn9, h1, h2, h3, h4, -, h5, h6, -⟩ := Cond.codeWith_spec (atoms_spec (ws := ws) h _ (by rw [hw]; exact List.mem_cons_self))
    cases hn.symm.trans hn9
    exact ⟨meth, c, h1, h2, h3, h4, h5, h6⟩
  · intro p e s m args below meth c s₁ B hml hP _
    have hh0 : s₁.heap = s.heap := by rw [B.state]; rfl
    obtain ⟨t, a1, o, b1, b2, b3⟩ := body p e s m args below meth c s₁ B hml hP s₁ hh0 (Stand.of_body B)
    exact ⟨t, o, a1, b1, b2, b3⟩
end
section
def RX0 : String := "NailGold$Book"
def TX0 : u_T := fun k => match k with
  | 0 => ("NailGold$Book", "stepDays", "[I", true)
  | 1 => ("NailGold$Book", "stepCost", "[I", true)
  | 2 => ("NailGold$Book", "stepShows", "[I", true)
  | 3 => ("NailGold$Book", "testCost", "[I", true)
  | 4 => ("NailGold$Book", "testStops", "[I", true)
  | 5 => ("NailGold$Book", "steps", "I", false)
  | 6 => ("NailGold$Book", "tests", "I", false)
  | 7 => ("NailGold$Book", "bar", "I", false)
  | 8 => ("NailGold$Book", "luck", "I", false)
  | 9 => ("NailGold$Book", "proofGain", "I", false)
  | 10 => ("NailGold$Book", "texts", "I", false)
  | _ => ("NailGold$Book", "law", "LNailGold$Law;", false)
def tyX0 : Nat → FieldType := fun k => match k with
  | 0 => .array .int
  | 1 => .array .int
  | 2 => .array .int
  | 3 => .array .int
  | 4 => .array .int
  | 5 => .int
  | 6 => .int
  | 7 => .int
  | 8 => .int
  | 9 => .int
  | 10 => .int
  | _ => .object "NailGold$Law"
abbrev wsX00 : List Cond := u_ws RX0 TX0 12
theorem nmX0 : ∀ a, a < 12 → ∀ b, b < 12 → a ≠ b → (TX0 a).2.1 ≠ (TX0 b).2.1 := by decide +kernel
theorem tyX0_ok : ∀ k, k < 12 → parseFieldDescriptor (TX0 k).2.2.1 = some (tyX0 k) := by decide +kernel
abbrev cX0_init : ByteArray := prog_2_method_1_code
def yX0_init : MethodName := ⟨RX0, "<init>", "()V"⟩
abbrev cX0_copyFrom : ByteArray := prog_2_method_2_code
def yX0_copyFrom : MethodName := ⟨RX0, "copyFrom", "(LNailGold$Book;)V"⟩
abbrev cX0_addStep : ByteArray := prog_2_method_3_code
def yX0_addStep : MethodName := ⟨RX0, "addStep", "(III)V"⟩
abbrev cX0_addTest : ByteArray := prog_2_method_4_code
def yX0_addTest : MethodName := ⟨RX0, "addTest", "(II)V"⟩
abbrev cX0_catches : ByteArray := prog_2_method_5_code
def yX0_catches : MethodName := ⟨RX0, "catches", "(II)Z"⟩
abbrev cX0_stopsAll : ByteArray := prog_2_method_6_code
def yX0_stopsAll : MethodName := ⟨RX0, "stopsAll", "(II)Z"⟩
abbrev cX0_costOfTests : ByteArray := prog_2_method_7_code
def yX0_costOfTests : MethodName := ⟨RX0, "costOfTests", "(I)I"⟩
abbrev cX0_outlayOf : ByteArray := prog_2_method_8_code
def yX0_outlayOf : MethodName := ⟨RX0, "outlayOf", "(LNailGold$Man;)I"⟩
abbrev cX0_daysLeftOf : ByteArray := prog_2_method_9_code
def yX0_daysLeftOf : MethodName := ⟨RX0, "daysLeftOf", "(LNailGold$Man;)I"⟩
abbrev cX0_showsLeftOf : ByteArray := prog_2_method_10_code
def yX0_showsLeftOf : MethodName := ⟨RX0, "showsLeftOf", "(LNailGold$Man;)I"⟩
def RX1 : String := "NailGold$BookReader"
def TX1 : u_T := fun k => match k with
  | _ => ("NailGold$BookReader", "tape", "LNailGold$Tape;", true)
def tyX1 : Nat → FieldType := fun k => match k with
  | _ => .object "NailGold$Tape"
abbrev wsX10 : List Cond := u_ws RX1 TX1 1
theorem nmX1 : ∀ a, a < 1 → ∀ b, b < 1 → a ≠ b → (TX1 a).2.1 ≠ (TX1 b).2.1 := by decide +kernel
theorem tyX1_ok : ∀ k, k < 1 → parseFieldDescriptor (TX1 k).2.2.1 = some (tyX1 k) := by decide +kernel
abbrev cX1_init : ByteArray := prog_3_method_1_code
def yX1_init : MethodName := ⟨RX1, "<init>", "(LNailGold$Tape;)V"⟩
abbrev cX1_reads : ByteArray := prog_3_method_2_code
def yX1_reads : MethodName := ⟨RX1, "reads", "(LNailGold$Book;LNailGold$Court;)Z"⟩
abbrev cX1_readsLine : ByteArray := prog_3_method_3_code
def yX1_readsLine : MethodName := ⟨RX1, "readsLine", "(LNailGold$Book;LNailGold$Court;)Z"⟩
abbrev cX1_numberBehind : ByteArray := prog_3_method_4_code
def yX1_numberBehind : MethodName := ⟨RX1, "numberBehind", "(Ljava/lang/String;II)I"⟩
abbrev cX1_tricksBehind : ByteArray := prog_3_method_5_code
def yX1_tricksBehind : MethodName := ⟨RX1, "tricksBehind", "(Ljava/lang/String;)I"⟩
abbrev cX1_readsStep : ByteArray := prog_3_method_6_code
def yX1_readsStep : MethodName := ⟨RX1, "readsStep", "(LNailGold$Book;)Z"⟩
abbrev cX1_readsMan : ByteArray := prog_3_method_7_code
def yX1_readsMan : MethodName := ⟨RX1, "readsMan", "(LNailGold$Court;)Z"⟩
abbrev cX1_readsTest : ByteArray := prog_3_method_8_code
def yX1_readsTest : MethodName := ⟨RX1, "readsTest", "(LNailGold$Book;)Z"⟩
abbrev cX1_readsRival : ByteArray := prog_3_method_9_code
def yX1_readsRival : MethodName := ⟨RX1, "readsRival", "(LNailGold$Court;)Z"⟩
abbrev cX1_readsChest : ByteArray := prog_3_method_10_code
def yX1_readsChest : MethodName := ⟨RX1, "readsChest", "(LNailGold$Court;)Z"⟩
abbrev cX1_readsRule : ByteArray := prog_3_method_11_code
def yX1_readsRule : MethodName := ⟨RX1, "readsRule", "(LNailGold$Book;)Z"⟩
def RX2 : String := "NailGold$Court"
def TX2 : u_T := fun k => match k with
  | 0 => ("NailGold$Court", "man", "[LNailGold$Man;", true)
  | 1 => ("NailGold$Court", "purse", "[I", true)
  | 2 => ("NailGold$Court", "parts", "[I", true)
  | 3 => ("NailGold$Court", "log", "LNailGold$Log;", true)
  | 4 => ("NailGold$Court", "men", "I", false)
  | 5 => ("NailGold$Court", "rivals", "I", false)
  | 6 => ("NailGold$Court", "chest", "I", false)
  | 7 => ("NailGold$Court", "debts", "I", false)
  | 8 => ("NailGold$Court", "day", "I", false)
  | _ => ("NailGold$Court", "seed", "I", false)
def tyX2 : Nat → FieldType := fun k => match k with
  | 0 => .array (.object "NailGold$Man")
  | 1 => .array .int
  | 2 => .array .int
  | 3 => .object "NailGold$Log"
  | 4 => .int
  | 5 => .int
  | 6 => .int
  | 7 => .int
  | 8 => .int
  | _ => .int
abbrev wsX20 : List Cond := u_ws RX2 TX2 10
theorem nmX2 : ∀ a, a < 10 → ∀ b, b < 10 → a ≠ b → (TX2 a).2.1 ≠ (TX2 b).2.1 := by decide +kernel
theorem tyX2_ok : ∀ k, k < 10 → parseFieldDescriptor (TX2 k).2.2.1 = some (tyX2 k) := by decide +kernel
abbrev cX2_init : ByteArray := prog_4_method_1_code
def yX2_init : MethodName := ⟨RX2, "<init>", "()V"⟩
abbrev cX2_copyFrom : ByteArray := prog_4_method_2_code
def yX2_copyFrom : MethodName := ⟨RX2, "copyFrom", "(LNailGold$Court;)V"⟩
abbrev cX2_copyCourse : ByteArray := prog_4_method_3_code
def yX2_copyCourse : MethodName := ⟨RX2, "copyCourse", "(LNailGold$Court;)V"⟩
abbrev cX2_addMan : ByteArray := prog_4_method_4_code
def yX2_addMan : MethodName := ⟨RX2, "addMan", "(III)V"⟩
abbrev cX2_addRival : ByteArray := prog_4_method_5_code
def yX2_addRival : MethodName := ⟨RX2, "addRival", "(I)V"⟩
abbrev cX2_spend : ByteArray := prog_4_method_6_code
def yX2_spend : MethodName := ⟨RX2, "spend", "(I)V"⟩
abbrev cX2_passDay : ByteArray := prog_4_method_7_code
def yX2_passDay : MethodName := ⟨RX2, "passDay", "(LNailGold$Book;LNailGold$Judge;I)I"⟩
abbrev cX2_passDayOf : ByteArray := prog_4_method_8_code
def yX2_passDayOf : MethodName := ⟨RX2, "passDayOf", "(ILNailGold$Book;LNailGold$Judge;)V"⟩
abbrev cX2_menIn : ByteArray := prog_4_method_9_code
def yX2_menIn : MethodName := ⟨RX2, "menIn", "(I)I"⟩
abbrev cX2_trustOfKept : ByteArray := prog_4_method_10_code
def yX2_trustOfKept : MethodName := ⟨RX2, "trustOfKept", "()I"⟩
abbrev cX2_holdersOf : ByteArray := prog_4_method_11_code
def yX2_holdersOf : MethodName := ⟨RX2, "holdersOf", "(I)I"⟩
abbrev cX2_partsOf : ByteArray := prog_4_method_12_code
def yX2_partsOf : MethodName := ⟨RX2, "partsOf", "(I)I"⟩
def RX3 : String := "NailGold$Judge"
def TX3 : u_T := fun k => match k with
  | 0 => ("NailGold$Judge", "facts", "[I", true)
  | 1 => ("NailGold$Judge", "stack", "[I", true)
  | _ => ("NailGold$Judge", "height", "I", false)
def tyX3 : Nat → FieldType := fun k => match k with
  | 0 => .array .int
  | 1 => .array .int
  | _ => .int
abbrev wsX30 : List Cond := u_ws RX3 TX3 3
theorem nmX3 : ∀ a, a < 3 → ∀ b, b < 3 → a ≠ b → (TX3 a).2.1 ≠ (TX3 b).2.1 := by decide +kernel
theorem tyX3_ok : ∀ k, k < 3 → parseFieldDescriptor (TX3 k).2.2.1 = some (tyX3 k) := by decide +kernel
abbrev cX3_init : ByteArray := prog_5_method_1_code
def yX3_init : MethodName := ⟨RX3, "<init>", "()V"⟩
abbrev cX3_turnOf : ByteArray := prog_5_method_2_code
def yX3_turnOf : MethodName := ⟨RX3, "turnOf", "(ILNailGold$Book;LNailGold$Court;)I"⟩
abbrev cX3_see : ByteArray := prog_5_method_3_code
def yX3_see : MethodName := ⟨RX3, "see", "(ILNailGold$Man;I)V"⟩
abbrev cX3_seeTime : ByteArray := prog_5_method_4_code
def yX3_seeTime : MethodName := ⟨RX3, "seeTime", "(II)V"⟩
abbrev cX3_turn : ByteArray := prog_5_method_5_code
def yX3_turn : MethodName := ⟨RX3, "turn", "(LNailGold$Law;)I"⟩
abbrev cX3_combine : ByteArray := prog_5_method_6_code
def yX3_combine : MethodName := ⟨RX3, "combine", "(I)V"⟩
abbrev cX3_factAt : ByteArray := prog_5_method_7_code
def yX3_factAt : MethodName := ⟨RX3, "factAt", "(I)I"⟩
abbrev cX3_push : ByteArray := prog_5_method_8_code
def yX3_push : MethodName := ⟨RX3, "push", "(I)V"⟩
abbrev cX3_pop : ByteArray := prog_5_method_9_code
def yX3_pop : MethodName := ⟨RX3, "pop", "()I"⟩
def RX4 : String := "NailGold$Law"
def TX4 : u_T := fun k => match k with
  | 0 => ("NailGold$Law", "lines", "I", true)
  | _ => ("NailGold$Law", "code", "[I", true)
def tyX4 : Nat → FieldType := fun k => match k with
  | 0 => .int
  | _ => .array .int
abbrev wsX40 : List Cond := u_ws RX4 TX4 2
theorem nmX4 : ∀ a, a < 2 → ∀ b, b < 2 → a ≠ b → (TX4 a).2.1 ≠ (TX4 b).2.1 := by decide +kernel
theorem tyX4_ok : ∀ k, k < 2 → parseFieldDescriptor (TX4 k).2.2.1 = some (tyX4 k) := by decide +kernel
abbrev cX4_init : ByteArray := prog_6_method_1_code
def yX4_init : MethodName := ⟨RX4, "<init>", "(I[I)V"⟩
def RX5 : String := "NailGold$LawReader"
def TX5 : u_T := fun k => match k with
  | 0 => ("NailGold$LawReader", "tape", "LNailGold$Tape;", true)
  | 1 => ("NailGold$LawReader", "code", "[I", true)
  | _ => ("NailGold$LawReader", "size", "I", false)
def tyX5 : Nat → FieldType := fun k => match k with
  | 0 => .object "NailGold$Tape"
  | 1 => .array .int
  | _ => .int
abbrev wsX50 : List Cond := u_ws RX5 TX5 3
theorem nmX5 : ∀ a, a < 3 → ∀ b, b < 3 → a ≠ b → (TX5 a).2.1 ≠ (TX5 b).2.1 := by decide +kernel
theorem tyX5_ok : ∀ k, k < 3 → parseFieldDescriptor (TX5 k).2.2.1 = some (tyX5 k) := by decide +kernel
abbrev cX5_init : ByteArray := prog_7_method_1_code
def yX5_init : MethodName := ⟨RX5, "<init>", "(LNailGold$Tape;)V"⟩
abbrev cX5_readLaw : ByteArray := prog_7_method_2_code
def yX5_readLaw : MethodName := ⟨RX5, "readLaw", "()LNailGold$Law;"⟩
abbrev cX5_emit : ByteArray := prog_7_method_3_code
def yX5_emit : MethodName := ⟨RX5, "emit", "(I)Z"⟩
abbrev cX5_readsLine : ByteArray := prog_7_method_4_code
def yX5_readsLine : MethodName := ⟨RX5, "readsLine", "()Z"⟩
abbrev cX5_readsChoice : ByteArray := prog_7_method_5_code
def yX5_readsChoice : MethodName := ⟨RX5, "readsChoice", "(I)Z"⟩
abbrev cX5_readsAll : ByteArray := prog_7_method_6_code
def yX5_readsAll : MethodName := ⟨RX5, "readsAll", "(I)Z"⟩
abbrev cX5_readsAtom : ByteArray := prog_7_method_7_code
def yX5_readsAtom : MethodName := ⟨RX5, "readsAtom", "(I)Z"⟩
abbrev cX5_readsSum : ByteArray := prog_7_method_8_code
def yX5_readsSum : MethodName := ⟨RX5, "readsSum", "()Z"⟩
abbrev cX5_readsPart : ByteArray := prog_7_method_9_code
def yX5_readsPart : MethodName := ⟨RX5, "readsPart", "()Z"⟩
abbrev cX5_namedFact : ByteArray := prog_7_method_10_code
def yX5_namedFact : MethodName := ⟨RX5, "namedFact", "()I"⟩
def RX6 : String := "NailGold$Log"
def TX6 : u_T := fun k => match k with
  | 0 => ("NailGold$Log", "cells", "[I", true)
  | _ => ("NailGold$Log", "rows", "I", false)
def tyX6 : Nat → FieldType := fun k => match k with
  | 0 => .array .int
  | _ => .int
abbrev wsX60 : List Cond := u_ws RX6 TX6 2
theorem nmX6 : ∀ a, a < 2 → ∀ b, b < 2 → a ≠ b → (TX6 a).2.1 ≠ (TX6 b).2.1 := by decide +kernel
theorem tyX6_ok : ∀ k, k < 2 → parseFieldDescriptor (TX6 k).2.2.1 = some (tyX6 k) := by decide +kernel
abbrev cX6_init : ByteArray := prog_8_method_1_code
def yX6_init : MethodName := ⟨RX6, "<init>", "()V"⟩
abbrev cX6_copyFrom : ByteArray := prog_8_method_2_code
def yX6_copyFrom : MethodName := ⟨RX6, "copyFrom", "(LNailGold$Log;)V"⟩
abbrev cX6_add : ByteArray := prog_8_method_3_code
def yX6_add : MethodName := ⟨RX6, "add", "(IIII)V"⟩
abbrev cX6_cell : ByteArray := prog_8_method_4_code
def yX6_cell : MethodName := ⟨RX6, "cell", "(II)I"⟩
abbrev cX6_rowsOf : ByteArray := prog_8_method_5_code
def yX6_rowsOf : MethodName := ⟨RX6, "rowsOf", "(IZ)I"⟩
def RX7 : String := "NailGold$Man"
def TX7 : u_T := fun k => match k with
  | 0 => ("NailGold$Man", "trust", "I", false)
  | 1 => ("NailGold$Man", "nails", "I", false)
  | 2 => ("NailGold$Man", "tricks", "I", false)
  | 3 => ("NailGold$Man", "at", "I", false)
  | 4 => ("NailGold$Man", "heated", "I", false)
  | _ => ("NailGold$Man", "state", "I", false)
def tyX7 : Nat → FieldType := fun k => match k with
  | 0 => .int
  | 1 => .int
  | 2 => .int
  | 3 => .int
  | 4 => .int
  | _ => .int
abbrev wsX70 : List Cond := u_ws RX7 TX7 6
theorem nmX7 : ∀ a, a < 6 → ∀ b, b < 6 → a ≠ b → (TX7 a).2.1 ≠ (TX7 b).2.1 := by decide +kernel
theorem tyX7_ok : ∀ k, k < 6 → parseFieldDescriptor (TX7 k).2.2.1 = some (tyX7 k) := by decide +kernel
abbrev cX7_init : ByteArray := prog_9_method_1_code
def yX7_init : MethodName := ⟨RX7, "<init>", "()V"⟩
abbrev cX7_copyFrom : ByteArray := prog_9_method_2_code
def yX7_copyFrom : MethodName := ⟨RX7, "copyFrom", "(LNailGold$Man;)V"⟩
abbrev cX7_trustMore : ByteArray := prog_9_method_3_code
def yX7_trustMore : MethodName := ⟨RX7, "trustMore", "(I)V"⟩
abbrev cX7_heat : ByteArray := prog_9_method_4_code
def yX7_heat : MethodName := ⟨RX7, "heat", "(LNailGold$Book;)I"⟩
def RX8 : String := "NailGold$Market"
def TX8 : u_T := fun k => match k with
  | 0 => ("NailGold$Market", "court", "LNailGold$Court;", true)
  | _ => ("NailGold$Market", "most", "[I", true)
def tyX8 : Nat → FieldType := fun k => match k with
  | 0 => .object "NailGold$Court"
  | _ => .array .int
abbrev wsX80 : List Cond := u_ws RX8 TX8 2
theorem nmX8 : ∀ a, a < 2 → ∀ b, b < 2 → a ≠ b → (TX8 a).2.1 ≠ (TX8 b).2.1 := by decide +kernel
theorem tyX8_ok : ∀ k, k < 2 → parseFieldDescriptor (TX8 k).2.2.1 = some (tyX8 k) := by decide +kernel
abbrev cX8_init : ByteArray := prog_10_method_1_code
def yX8_init : MethodName := ⟨RX8, "<init>", "(LNailGold$Court;)V"⟩
abbrev cX8_weigh : ByteArray := prog_10_method_2_code
def yX8_weigh : MethodName := ⟨RX8, "weigh", "()V"⟩
abbrev cX8_given : ByteArray := prog_10_method_3_code
def yX8_given : MethodName := ⟨RX8, "given", "(III)I"⟩
abbrev cX8_most : ByteArray := prog_10_method_4_code
def yX8_most : MethodName := ⟨RX8, "most", "()I"⟩
abbrev cX8_gets : ByteArray := prog_10_method_5_code
def yX8_gets : MethodName := ⟨RX8, "gets", "(I)I"⟩
def RX9 : String := "NailGold$NailPlan"
def TX9 : u_T := fun k => match k with
  | 0 => ("NailGold$NailPlan", "judge", "LNailGold$Judge;", true)
  | 1 => ("NailGold$NailPlan", "book", "LNailGold$Book;", true)
  | 2 => ("NailGold$NailPlan", "figure", "LNailGold$Man;", true)
  | 3 => ("NailGold$NailPlan", "debts", "[I", true)
  | 4 => ("NailGold$NailPlan", "at", "[I", true)
  | 5 => ("NailGold$NailPlan", "heated", "[I", true)
  | 6 => ("NailGold$NailPlan", "shown", "[I", true)
  | 7 => ("NailGold$NailPlan", "known", "[J", true)
  | 8 => ("NailGold$NailPlan", "horizon", "I", false)
  | 9 => ("NailGold$NailPlan", "number", "I", false)
  | _ => ("NailGold$NailPlan", "firstDay", "I", false)
def tyX9 : Nat → FieldType := fun k => match k with
  | 0 => .object "NailGold$Judge"
  | 1 => .object "NailGold$Book"
  | 2 => .object "NailGold$Man"
  | 3 => .array .int
  | 4 => .array .int
  | 5 => .array .int
  | 6 => .array .int
  | 7 => .array .long
  | 8 => .int
  | 9 => .int
  | _ => .int
abbrev wsX90 : List Cond := u_ws RX9 TX9 11
theorem nmX9 : ∀ a, a < 11 → ∀ b, b < 11 → a ≠ b → (TX9 a).2.1 ≠ (TX9 b).2.1 := by decide +kernel
theorem tyX9_ok : ∀ k, k < 11 → parseFieldDescriptor (TX9 k).2.2.1 = some (tyX9 k) := by decide +kernel
abbrev cX9_init : ByteArray := prog_11_method_1_code
def yX9_init : MethodName := ⟨RX9, "<init>", "(LNailGold$Judge;LNailGold$Book;)V"⟩
abbrev cX9_lookAt : ByteArray := prog_11_method_2_code
def yX9_lookAt : MethodName := ⟨RX9, "lookAt", "(ILNailGold$Court;I)V"⟩
abbrev cX9_mostKept : ByteArray := prog_11_method_3_code
def yX9_mostKept : MethodName := ⟨RX9, "mostKept", "(II)I"⟩
abbrev cX9_keptFrom : ByteArray := prog_11_method_4_code
def yX9_keptFrom : MethodName := ⟨RX9, "keptFrom", "(III)I"⟩
abbrev cX9_keptIfPassed : ByteArray := prog_11_method_5_code
def yX9_keptIfPassed : MethodName := ⟨RX9, "keptIfPassed", "(III)I"⟩
abbrev cX9_proven : ByteArray := prog_11_method_6_code
def yX9_proven : MethodName := ⟨RX9, "proven", "(I)I"⟩
abbrev cX9_trustBehind : ByteArray := prog_11_method_7_code
def yX9_trustBehind : MethodName := ⟨RX9, "trustBehind", "(III)I"⟩
abbrev cX9_usedAheadOf : ByteArray := prog_11_method_8_code
def yX9_usedAheadOf : MethodName := ⟨RX9, "usedAheadOf", "(III)I"⟩
def RX10 : String := "NailGold$Tape"
def TX10 : u_T := fun k => match k with
  | 0 => ("NailGold$Tape", "bytes", "[I", true)
  | 1 => ("NailGold$Tape", "length", "I", false)
  | 2 => ("NailGold$Tape", "kind", "I", false)
  | 3 => ("NailGold$Tape", "from", "I", false)
  | _ => ("NailGold$Tape", "to", "I", false)
def tyX10 : Nat → FieldType := fun k => match k with
  | 0 => .array .int
  | 1 => .int
  | 2 => .int
  | 3 => .int
  | _ => .int
abbrev wsX100 : List Cond := u_ws RX10 TX10 5
theorem nmX10 : ∀ a, a < 5 → ∀ b, b < 5 → a ≠ b → (TX10 a).2.1 ≠ (TX10 b).2.1 := by decide +kernel
theorem tyX10_ok : ∀ k, k < 5 → parseFieldDescriptor (TX10 k).2.2.1 = some (tyX10 k) := by decide +kernel
abbrev cX10_init : ByteArray := prog_12_method_1_code
def yX10_init : MethodName := ⟨RX10, "<init>", "()V"⟩
abbrev cX10_put : ByteArray := prog_12_method_2_code
def yX10_put : MethodName := ⟨RX10, "put", "(I)V"⟩
abbrev cX10_rewind : ByteArray := prog_12_method_3_code
def yX10_rewind : MethodName := ⟨RX10, "rewind", "()V"⟩
abbrev cX10_advance : ByteArray := prog_12_method_4_code
def yX10_advance : MethodName := ⟨RX10, "advance", "()V"⟩
abbrev cX10_atEnd : ByteArray := prog_12_method_5_code
def yX10_atEnd : MethodName := ⟨RX10, "atEnd", "()Z"⟩
abbrev cX10_isWord : ByteArray := prog_12_method_6_code
def yX10_isWord : MethodName := ⟨RX10, "isWord", "(Ljava/lang/String;)Z"⟩
abbrev cX10_isSign : ByteArray := prog_12_method_7_code
def yX10_isSign : MethodName := ⟨RX10, "isSign", "(C)Z"⟩
abbrev cX10_takeWord : ByteArray := prog_12_method_8_code
def yX10_takeWord : MethodName := ⟨RX10, "takeWord", "(Ljava/lang/String;)Z"⟩
abbrev cX10_takeSign : ByteArray := prog_12_method_9_code
def yX10_takeSign : MethodName := ⟨RX10, "takeSign", "(C)Z"⟩
abbrev cX10_takeNumber : ByteArray := prog_12_method_10_code
def yX10_takeNumber : MethodName := ⟨RX10, "takeNumber", "(II)I"⟩
abbrev cX10_takeTricks : ByteArray := prog_12_method_11_code
def yX10_takeTricks : MethodName := ⟨RX10, "takeTricks", "()I"⟩
def RX11 : String := "NailGold"
def TX11 : u_T := fun k => match k with
  | 0 => ("NailGold", "tape", "LNailGold$Tape;", true)
  | 1 => ("NailGold", "judge", "LNailGold$Judge;", true)
  | 2 => ("NailGold", "bookReader", "LNailGold$BookReader;", true)
  | 3 => ("NailGold", "lawReader", "LNailGold$LawReader;", true)
  | 4 => ("NailGold", "book", "LNailGold$Book;", true)
  | 5 => ("NailGold", "court", "LNailGold$Court;", true)
  | 6 => ("NailGold", "plan", "LNailGold$NailPlan;", true)
  | 7 => ("NailGold", "market", "LNailGold$Market;", true)
  | 8 => ("NailGold", "draftBook", "LNailGold$Book;", true)
  | 9 => ("NailGold", "draft", "LNailGold$Court;", true)
  | 10 => ("NailGold", "imageBook", "LNailGold$Book;", true)
  | 11 => ("NailGold", "imageCourt", "LNailGold$Court;", true)
  | 12 => ("NailGold", "past", "[LNailGold$Court;", true)
  | 13 => ("NailGold", "newest", "I", false)
  | 14 => ("NailGold", "remembered", "I", false)
  | 15 => ("NailGold", "imageKept", "Z", false)
  | _ => ("NailGold", "wrongByte", "I", false)
def tyX11 : Nat → FieldType := fun k => match k with
  | 0 => .object "NailGold$Tape"
  | 1 => .object "NailGold$Judge"
  | 2 => .object "NailGold$BookReader"
  | 3 => .object "NailGold$LawReader"
  | 4 => .object "NailGold$Book"
  | 5 => .object "NailGold$Court"
  | 6 => .object "NailGold$NailPlan"
  | 7 => .object "NailGold$Market"
  | 8 => .object "NailGold$Book"
  | 9 => .object "NailGold$Court"
  | 10 => .object "NailGold$Book"
  | 11 => .object "NailGold$Court"
  | 12 => .array (.object "NailGold$Court")
  | 13 => .int
  | 14 => .int
  | 15 => .boolean
  | _ => .int
abbrev wsX110 : List Cond := u_ws RX11 TX11 17
theorem nmX11 : ∀ a, a < 17 → ∀ b, b < 17 → a ≠ b → (TX11 a).2.1 ≠ (TX11 b).2.1 := by decide +kernel
theorem tyX11_ok : ∀ k, k < 17 → parseFieldDescriptor (TX11 k).2.2.1 = some (tyX11 k) := by decide +kernel
abbrev cX11_init : ByteArray := prog_1_method_1_code
def yX11_init : MethodName := ⟨RX11, "<init>", "()V"⟩
abbrev cX11_feed : ByteArray := prog_1_method_2_code
def yX11_feed : MethodName := ⟨RX11, "feed", "(IIIII)I"⟩
abbrev cX11_end : ByteArray := prog_1_method_3_code
def yX11_end : MethodName := ⟨RX11, "end", "(I)Z"⟩
abbrev cX11_book : ByteArray := prog_1_method_4_code
def yX11_book : MethodName := ⟨RX11, "book", "()I"⟩
abbrev cX11_law : ByteArray := prog_1_method_5_code
def yX11_law : MethodName := ⟨RX11, "law", "()I"⟩
abbrev cX11_fault : ByteArray := prog_1_method_6_code
def yX11_fault : MethodName := ⟨RX11, "fault", "()I"⟩
abbrev cX11_step : ByteArray := prog_1_method_7_code
def yX11_step : MethodName := ⟨RX11, "step", "(II)I"⟩
abbrev cX11_man : ByteArray := prog_1_method_8_code
def yX11_man : MethodName := ⟨RX11, "man", "(II)I"⟩
abbrev cX11_test : ByteArray := prog_1_method_9_code
def yX11_test : MethodName := ⟨RX11, "test", "(IZ)I"⟩
abbrev cX11_rival : ByteArray := prog_1_method_10_code
def yX11_rival : MethodName := ⟨RX11, "rival", "(IZ)I"⟩
abbrev cX11_proof : ByteArray := prog_1_method_11_code
def yX11_proof : MethodName := ⟨RX11, "proof", "(I)I"⟩
abbrev cX11_tried : ByteArray := prog_1_method_12_code
def yX11_tried : MethodName := ⟨RX11, "tried", "(II)Z"⟩
abbrev cX11_flee : ByteArray := prog_1_method_13_code
def yX11_flee : MethodName := ⟨RX11, "flee", "(I)I"⟩
abbrev cX11_sell : ByteArray := prog_1_method_14_code
def yX11_sell : MethodName := ⟨RX11, "sell", "(III)I"⟩
abbrev cX11_part : ByteArray := prog_1_method_15_code
def yX11_part : MethodName := ⟨RX11, "part", "(II)I"⟩
abbrev cX11_pay : ByteArray := prog_1_method_16_code
def yX11_pay : MethodName := ⟨RX11, "pay", "(I)I"⟩
abbrev cX11_days : ByteArray := prog_1_method_17_code
def yX11_days : MethodName := ⟨RX11, "days", "(I)I"⟩
abbrev cX11_ahead : ByteArray := prog_1_method_18_code
def yX11_ahead : MethodName := ⟨RX11, "ahead", "(III)I"⟩
abbrev cX11_owes : ByteArray := prog_1_method_19_code
def yX11_owes : MethodName := ⟨RX11, "owes", "(I)I"⟩
abbrev cX11_chest : ByteArray := prog_1_method_20_code
def yX11_chest : MethodName := ⟨RX11, "chest", "(I)I"⟩
abbrev cX11_lives : ByteArray := prog_1_method_21_code
def yX11_lives : MethodName := ⟨RX11, "lives", "(I)I"⟩
abbrev cX11_done : ByteArray := prog_1_method_22_code
def yX11_done : MethodName := ⟨RX11, "done", "(I)I"⟩
abbrev cX11_longest : ByteArray := prog_1_method_23_code
def yX11_longest : MethodName := ⟨RX11, "longest", "(II)I"⟩
abbrev cX11_needs : ByteArray := prog_1_method_24_code
def yX11_needs : MethodName := ⟨RX11, "needs", "(II)I"⟩
abbrev cX11_stopped : ByteArray := prog_1_method_25_code
def yX11_stopped : MethodName := ⟨RX11, "stopped", "(II)Z"⟩
abbrev cX11_fewest : ByteArray := prog_1_method_26_code
def yX11_fewest : MethodName := ⟨RX11, "fewest", "(I)I"⟩
abbrev cX11_cheapest : ByteArray := prog_1_method_27_code
def yX11_cheapest : MethodName := ⟨RX11, "cheapest", "(IZ)I"⟩
abbrev cX11_slips : ByteArray := prog_1_method_28_code
def yX11_slips : MethodName := ⟨RX11, "slips", "(I)I"⟩
abbrev cX11_seen : ByteArray := prog_1_method_29_code
def yX11_seen : MethodName := ⟨RX11, "seen", "(Z)I"⟩
abbrev cX11_ask : ByteArray := prog_1_method_30_code
def yX11_ask : MethodName := ⟨RX11, "ask", "()I"⟩
abbrev cX11_rests : ByteArray := prog_1_method_31_code
def yX11_rests : MethodName := ⟨RX11, "rests", "(II)I"⟩
abbrev cX11_odds : ByteArray := prog_1_method_32_code
def yX11_odds : MethodName := ⟨RX11, "odds", "(II)I"⟩
abbrev cX11_bids : ByteArray := prog_1_method_33_code
def yX11_bids : MethodName := ⟨RX11, "bids", "(Z)I"⟩
abbrev cX11_sold : ByteArray := prog_1_method_34_code
def yX11_sold : MethodName := ⟨RX11, "sold", "(I)I"⟩
abbrev cX11_secret : ByteArray := prog_1_method_35_code
def yX11_secret : MethodName := ⟨RX11, "secret", "()I"⟩
abbrev cX11_mates : ByteArray := prog_1_method_36_code
def yX11_mates : MethodName := ⟨RX11, "mates", "()I"⟩
abbrev cX11_knows : ByteArray := prog_1_method_37_code
def yX11_knows : MethodName := ⟨RX11, "knows", "(I)I"⟩
abbrev cX11_dearest : ByteArray := prog_1_method_38_code
def yX11_dearest : MethodName := ⟨RX11, "dearest", "()I"⟩
abbrev cX11_kept : ByteArray := prog_1_method_39_code
def yX11_kept : MethodName := ⟨RX11, "kept", "(Z)I"⟩
abbrev cX11_trial : ByteArray := prog_1_method_40_code
def yX11_trial : MethodName := ⟨RX11, "trial", "(IZ)I"⟩
abbrev cX11_span : ByteArray := prog_1_method_41_code
def yX11_span : MethodName := ⟨RX11, "span", "(IZ)I"⟩
abbrev cX11_led : ByteArray := prog_1_method_42_code
def yX11_led : MethodName := ⟨RX11, "led", "(IZ)I"⟩
abbrev cX11_log : ByteArray := prog_1_method_43_code
def yX11_log : MethodName := ⟨RX11, "log", "(II)I"⟩
abbrev cX11_seed : ByteArray := prog_1_method_44_code
def yX11_seed : MethodName := ⟨RX11, "seed", "(I)I"⟩
abbrev cX11_undo : ByteArray := prog_1_method_45_code
def yX11_undo : MethodName := ⟨RX11, "undo", "()Z"⟩
abbrev cX11_image : ByteArray := prog_1_method_46_code
def yX11_image : MethodName := ⟨RX11, "image", "()V"⟩
abbrev cX11_back : ByteArray := prog_1_method_47_code
def yX11_back : MethodName := ⟨RX11, "back", "()Z"⟩
abbrev cX11_count : ByteArray := prog_1_method_48_code
def yX11_count : MethodName := ⟨RX11, "count", "(I)I"⟩
abbrev cX11_needStep : ByteArray := prog_1_method_49_code
def yX11_needStep : MethodName := ⟨RX11, "needStep", "(I)V"⟩
abbrev cX11_needMan : ByteArray := prog_1_method_50_code
def yX11_needMan : MethodName := ⟨RX11, "needMan", "(I)V"⟩
abbrev cX11_needTest : ByteArray := prog_1_method_51_code
def yX11_needTest : MethodName := ⟨RX11, "needTest", "(I)V"⟩
abbrev cX11_needRival : ByteArray := prog_1_method_52_code
def yX11_needRival : MethodName := ⟨RX11, "needRival", "(I)V"⟩
abbrev cX11_needWithin : ByteArray := prog_1_method_53_code
def yX11_needWithin : MethodName := ⟨RX11, "needWithin", "(III)V"⟩
abbrev cX11_needKept : ByteArray := prog_1_method_54_code
def yX11_needKept : MethodName := ⟨RX11, "needKept", "(I)V"⟩
abbrev cX11_remember : ByteArray := prog_1_method_55_code
def yX11_remember : MethodName := ⟨RX11, "remember", "()V"⟩
abbrev cX11_draftDays : ByteArray := prog_1_method_56_code
def yX11_draftDays : MethodName := ⟨RX11, "draftDays", "(III)V"⟩
abbrev cX11_takeFittingSets : ByteArray := prog_1_method_57_code
def yX11_takeFittingSets : MethodName := ⟨RX11, "takeFittingSets", "()J"⟩
abbrev cX11_isTale : ByteArray := prog_1_method_58_code
def yX11_isTale : MethodName := ⟨RX11, "isTale", "(I)Z"⟩
abbrev cX11_fitsTale : ByteArray := prog_1_method_59_code
def yX11_fitsTale : MethodName := ⟨RX11, "fitsTale", "(II)Z"⟩
abbrev cX11_caughtAmong : ByteArray := prog_1_method_60_code
def yX11_caughtAmong : MethodName := ⟨RX11, "caughtAmong", "(JI)I"⟩
abbrev cX11_princePays : ByteArray := prog_1_method_61_code
def yX11_princePays : MethodName := ⟨RX11, "princePays", "(IIIZ)I"⟩
abbrev cX11_manHas : ByteArray := prog_1_method_62_code
def yX11_manHas : MethodName := ⟨RX11, "manHas", "(IIIZ)I"⟩
abbrev cX11_waysOf : ByteArray := prog_1_method_63_code
def yX11_waysOf : MethodName := ⟨RX11, "waysOf", "(II)J"⟩
def RX12 : String := "NailGoldModel"
def TX12 : u_T := fun k => match k with
  | 0 => ("NailGoldModel", "thrown", "I", false)
  | 1 => ("NailGoldModel", "m", "[I", true)
  | 2 => ("NailGoldModel", "kept", "[I", true)
  | 3 => ("NailGoldModel", "hasImage", "Z", false)
  | 4 => ("NailGoldModel", "aside", "[I", true)
  | 5 => ("NailGoldModel", "acts", "[I", true)
  | 6 => ("NailGoldModel", "acted", "I", false)
  | 7 => ("NailGoldModel", "tape", "[I", true)
  | 8 => ("NailGoldModel", "taped", "I", false)
  | 9 => ("NailGoldModel", "base", "I", false)
  | 10 => ("NailGoldModel", "end", "I", false)
  | 11 => ("NailGoldModel", "at", "I", false)
  | 12 => ("NailGoldModel", "fault", "I", false)
  | 13 => ("NailGoldModel", "deep", "I", false)
  | 14 => ("NailGoldModel", "fact", "[I", true)
  | 15 => ("NailGoldModel", "isHot", "Z", false)
  | 16 => ("NailGoldModel", "isDone", "Z", false)
  | 17 => ("NailGoldModel", "turns", "I", false)
  | 18 => ("NailGoldModel", "debtsOn", "[I", true)
  | 19 => ("NailGoldModel", "atOn", "[I", true)
  | 20 => ("NailGoldModel", "heatedOn", "[I", true)
  | 21 => ("NailGoldModel", "showsOn", "[I", true)
  | 22 => ("NailGoldModel", "most", "[I", true)
  | 23 => ("NailGoldModel", "fits", "[Z", true)
  | _ => ("NailGoldModel", "given", "[I", true)
def tyX12 : Nat → FieldType := fun k => match k with
  | 0 => .int
  | 1 => .array .int
  | 2 => .array .int
  | 3 => .boolean
  | 4 => .array .int
  | 5 => .array .int
  | 6 => .int
  | 7 => .array .int
  | 8 => .int
  | 9 => .int
  | 10 => .int
  | 11 => .int
  | 12 => .int
  | 13 => .int
  | 14 => .array .int
  | 15 => .boolean
  | 16 => .boolean
  | 17 => .int
  | 18 => .array .int
  | 19 => .array .int
  | 20 => .array .int
  | 21 => .array .int
  | 22 => .array .int
  | 23 => .array .boolean
  | _ => .array .int
abbrev wsX120 : List Cond := u_ws RX12 TX12 25
theorem nmX12 : ∀ a, a < 25 → ∀ b, b < 25 → a ≠ b → (TX12 a).2.1 ≠ (TX12 b).2.1 := by decide +kernel
theorem tyX12_ok : ∀ k, k < 25 → parseFieldDescriptor (TX12 k).2.2.1 = some (tyX12 k) := by decide +kernel
abbrev cX12_init : ByteArray := prog_14_method_1_code
def yX12_init : MethodName := ⟨RX12, "<init>", "()V"⟩
abbrev cX12_thrown : ByteArray := prog_14_method_2_code
def yX12_thrown : MethodName := ⟨RX12, "thrown", "()I"⟩
abbrev cX12_isIn : ByteArray := prog_14_method_3_code
def yX12_isIn : MethodName := ⟨RX12, "isIn", "(III)Z"⟩
abbrev cX12_lesser : ByteArray := prog_14_method_4_code
def yX12_lesser : MethodName := ⟨RX12, "lesser", "(II)I"⟩
abbrev cX12_greater : ByteArray := prog_14_method_5_code
def yX12_greater : MethodName := ⟨RX12, "greater", "(II)I"⟩
abbrev cX12_isOf : ByteArray := prog_14_method_6_code
def yX12_isOf : MethodName := ⟨RX12, "isOf", "(II)Z"⟩
abbrev cX12_bits : ByteArray := prog_14_method_7_code
def yX12_bits : MethodName := ⟨RX12, "bits", "(I)I"⟩
abbrev cX12_ofStep : ByteArray := prog_14_method_8_code
def yX12_ofStep : MethodName := ⟨RX12, "ofStep", "(II)I"⟩
abbrev cX12_of : ByteArray := prog_14_method_9_code
def yX12_of : MethodName := ⟨RX12, "of", "(II)I"⟩
abbrev cX12_put : ByteArray := prog_14_method_10_code
def yX12_put : MethodName := ⟨RX12, "put", "(III)V"⟩
abbrev cX12_costOf : ByteArray := prog_14_method_11_code
def yX12_costOf : MethodName := ⟨RX12, "costOf", "(I)I"⟩
abbrev cX12_stopsOf : ByteArray := prog_14_method_12_code
def yX12_stopsOf : MethodName := ⟨RX12, "stopsOf", "(I)I"⟩
abbrev cX12_ofRival : ByteArray := prog_14_method_13_code
def yX12_ofRival : MethodName := ⟨RX12, "ofRival", "(II)I"⟩
abbrev cX12_isStep : ByteArray := prog_14_method_14_code
def yX12_isStep : MethodName := ⟨RX12, "isStep", "(I)Z"⟩
abbrev cX12_isMan : ByteArray := prog_14_method_15_code
def yX12_isMan : MethodName := ⟨RX12, "isMan", "(I)Z"⟩
abbrev cX12_isTest : ByteArray := prog_14_method_16_code
def yX12_isTest : MethodName := ⟨RX12, "isTest", "(I)Z"⟩
abbrev cX12_isRival : ByteArray := prog_14_method_17_code
def yX12_isRival : MethodName := ⟨RX12, "isRival", "(I)Z"⟩
abbrev cX12_isKept : ByteArray := prog_14_method_18_code
def yX12_isKept : MethodName := ⟨RX12, "isKept", "(I)Z"⟩
abbrev cX12_feed : ByteArray := prog_14_method_19_code
def yX12_feed : MethodName := ⟨RX12, "feed", "(IIIII)I"⟩
abbrev cX12_end : ByteArray := prog_14_method_20_code
def yX12_end : MethodName := ⟨RX12, "end", "(I)Z"⟩
abbrev cX12_letter : ByteArray := prog_14_method_21_code
def yX12_letter : MethodName := ⟨RX12, "letter", "(I)I"⟩
abbrev cX12_skip : ByteArray := prog_14_method_22_code
def yX12_skip : MethodName := ⟨RX12, "skip", "()V"⟩
abbrev cX12_isSign : ByteArray := prog_14_method_23_code
def yX12_isSign : MethodName := ⟨RX12, "isSign", "(I)Z"⟩
abbrev cX12_has : ByteArray := prog_14_method_24_code
def yX12_has : MethodName := ⟨RX12, "has", "(Ljava/lang/String;)Z"⟩
abbrev cX12_wrong : ByteArray := prog_14_method_25_code
def yX12_wrong : MethodName := ⟨RX12, "wrong", "(I)V"⟩
abbrev cX12_place : ByteArray := prog_14_method_26_code
def yX12_place : MethodName := ⟨RX12, "place", "()I"⟩
abbrev cX12_figures : ByteArray := prog_14_method_27_code
def yX12_figures : MethodName := ⟨RX12, "figures", "(II)I"⟩
abbrev cX12_after : ByteArray := prog_14_method_28_code
def yX12_after : MethodName := ⟨RX12, "after", "(Ljava/lang/String;II)I"⟩
abbrev cX12_lettersAfter : ByteArray := prog_14_method_29_code
def yX12_lettersAfter : MethodName := ⟨RX12, "lettersAfter", "(Ljava/lang/String;)I"⟩
abbrev cX12_stepLine : ByteArray := prog_14_method_30_code
def yX12_stepLine : MethodName := ⟨RX12, "stepLine", "(I)V"⟩
abbrev cX12_manLine : ByteArray := prog_14_method_31_code
def yX12_manLine : MethodName := ⟨RX12, "manLine", "(I)V"⟩
abbrev cX12_testLine : ByteArray := prog_14_method_32_code
def yX12_testLine : MethodName := ⟨RX12, "testLine", "(I)V"⟩
abbrev cX12_rivalLine : ByteArray := prog_14_method_33_code
def yX12_rivalLine : MethodName := ⟨RX12, "rivalLine", "(I)V"⟩
abbrev cX12_tells : ByteArray := prog_14_method_34_code
def yX12_tells : MethodName := ⟨RX12, "tells", "(II)V"⟩
abbrev cX12_bookLine : ByteArray := prog_14_method_35_code
def yX12_bookLine : MethodName := ⟨RX12, "bookLine", "()V"⟩
abbrev cX12_begins : ByteArray := prog_14_method_36_code
def yX12_begins : MethodName := ⟨RX12, "begins", "()V"⟩
abbrev cX12_read : ByteArray := prog_14_method_37_code
def yX12_read : MethodName := ⟨RX12, "read", "(Z)I"⟩
abbrev cX12_putsAside : ByteArray := prog_14_method_38_code
def yX12_putsAside : MethodName := ⟨RX12, "putsAside", "()V"⟩
abbrev cX12_comesBack : ByteArray := prog_14_method_39_code
def yX12_comesBack : MethodName := ⟨RX12, "comesBack", "()V"⟩
abbrev cX12_book : ByteArray := prog_14_method_40_code
def yX12_book : MethodName := ⟨RX12, "book", "()I"⟩
abbrev cX12_part : ByteArray := prog_14_method_41_code
def yX12_part : MethodName := ⟨RX12, "part", "()I"⟩
abbrev cX12_sum : ByteArray := prog_14_method_42_code
def yX12_sum : MethodName := ⟨RX12, "sum", "()I"⟩
abbrev cX12_plain : ByteArray := prog_14_method_43_code
def yX12_plain : MethodName := ⟨RX12, "plain", "()Z"⟩
abbrev cX12_atom : ByteArray := prog_14_method_44_code
def yX12_atom : MethodName := ⟨RX12, "atom", "()Z"⟩
abbrev cX12_every : ByteArray := prog_14_method_45_code
def yX12_every : MethodName := ⟨RX12, "every", "()Z"⟩
abbrev cX12_some : ByteArray := prog_14_method_46_code
def yX12_some : MethodName := ⟨RX12, "some", "()Z"⟩
abbrev cX12_lawLine : ByteArray := prog_14_method_47_code
def yX12_lawLine : MethodName := ⟨RX12, "lawLine", "()V"⟩
abbrev cX12_law : ByteArray := prog_14_method_48_code
def yX12_law : MethodName := ⟨RX12, "law", "()I"⟩
abbrev cX12_fault : ByteArray := prog_14_method_49_code
def yX12_fault : MethodName := ⟨RX12, "fault", "()I"⟩
abbrev cX12_turnsBy : ByteArray := prog_14_method_50_code
def yX12_turnsBy : MethodName := ⟨RX12, "turnsBy", "(IIIIIII)I"⟩
abbrev cX12_turnsNow : ByteArray := prog_14_method_51_code
def yX12_turnsNow : MethodName := ⟨RX12, "turnsNow", "(I)I"⟩
abbrev cX12_draw : ByteArray := prog_14_method_52_code
def yX12_draw : MethodName := ⟨RX12, "draw", "(I)I"⟩
abbrev cX12_pays : ByteArray := prog_14_method_53_code
def yX12_pays : MethodName := ⟨RX12, "pays", "(I)V"⟩
abbrev cX12_works : ByteArray := prog_14_method_54_code
def yX12_works : MethodName := ⟨RX12, "works", "(I)V"⟩
abbrev cX12_goes : ByteArray := prog_14_method_55_code
def yX12_goes : MethodName := ⟨RX12, "goes", "(IZ)I"⟩
abbrev cX12_step : ByteArray := prog_14_method_56_code
def yX12_step : MethodName := ⟨RX12, "step", "(II)I"⟩
abbrev cX12_left : ByteArray := prog_14_method_57_code
def yX12_left : MethodName := ⟨RX12, "left", "(II)I"⟩
abbrev cX12_outlay : ByteArray := prog_14_method_58_code
def yX12_outlay : MethodName := ⟨RX12, "outlay", "(I)I"⟩
abbrev cX12_man : ByteArray := prog_14_method_59_code
def yX12_man : MethodName := ⟨RX12, "man", "(II)I"⟩
abbrev cX12_test : ByteArray := prog_14_method_60_code
def yX12_test : MethodName := ⟨RX12, "test", "(IZ)I"⟩
abbrev cX12_rival : ByteArray := prog_14_method_61_code
def yX12_rival : MethodName := ⟨RX12, "rival", "(IZ)I"⟩
abbrev cX12_remembers : ByteArray := prog_14_method_62_code
def yX12_remembers : MethodName := ⟨RX12, "remembers", "()V"⟩
abbrev cX12_logs : ByteArray := prog_14_method_63_code
def yX12_logs : MethodName := ⟨RX12, "logs", "(II)V"⟩
abbrev cX12_proof : ByteArray := prog_14_method_64_code
def yX12_proof : MethodName := ⟨RX12, "proof", "(I)I"⟩
abbrev cX12_catches : ByteArray := prog_14_method_65_code
def yX12_catches : MethodName := ⟨RX12, "catches", "(II)Z"⟩
abbrev cX12_tried : ByteArray := prog_14_method_66_code
def yX12_tried : MethodName := ⟨RX12, "tried", "(II)Z"⟩
abbrev cX12_flee : ByteArray := prog_14_method_67_code
def yX12_flee : MethodName := ⟨RX12, "flee", "(I)I"⟩
abbrev cX12_sell : ByteArray := prog_14_method_68_code
def yX12_sell : MethodName := ⟨RX12, "sell", "(III)I"⟩
abbrev cX12_part_ : ByteArray := prog_14_method_69_code
def yX12_part_ : MethodName := ⟨RX12, "part", "(II)I"⟩
abbrev cX12_pay : ByteArray := prog_14_method_70_code
def yX12_pay : MethodName := ⟨RX12, "pay", "(I)I"⟩
abbrev cX12_days : ByteArray := prog_14_method_71_code
def yX12_days : MethodName := ⟨RX12, "days", "(I)I"⟩
abbrev cX12_ahead : ByteArray := prog_14_method_72_code
def yX12_ahead : MethodName := ⟨RX12, "ahead", "(III)I"⟩
abbrev cX12_owes : ByteArray := prog_14_method_73_code
def yX12_owes : MethodName := ⟨RX12, "owes", "(I)I"⟩
abbrev cX12_chest : ByteArray := prog_14_method_74_code
def yX12_chest : MethodName := ⟨RX12, "chest", "(I)I"⟩
abbrev cX12_by : ByteArray := prog_14_method_75_code
def yX12_by : MethodName := ⟨RX12, "by", "(IZ)I"⟩
abbrev cX12_lives : ByteArray := prog_14_method_76_code
def yX12_lives : MethodName := ⟨RX12, "lives", "(I)I"⟩
abbrev cX12_done : ByteArray := prog_14_method_77_code
def yX12_done : MethodName := ⟨RX12, "done", "(I)I"⟩
abbrev cX12_looks : ByteArray := prog_14_method_78_code
def yX12_looks : MethodName := ⟨RX12, "looks", "(I)V"⟩
abbrev cX12_from : ByteArray := prog_14_method_79_code
def yX12_from : MethodName := ⟨RX12, "from", "(IIII)I"⟩
abbrev cX12_using : ByteArray := prog_14_method_80_code
def yX12_using : MethodName := ⟨RX12, "using", "(IIIII)I"⟩
abbrev cX12_behind : ByteArray := prog_14_method_81_code
def yX12_behind : MethodName := ⟨RX12, "behind", "(IIII)I"⟩
abbrev cX12_longest : ByteArray := prog_14_method_82_code
def yX12_longest : MethodName := ⟨RX12, "longest", "(II)I"⟩
abbrev cX12_needs : ByteArray := prog_14_method_83_code
def yX12_needs : MethodName := ⟨RX12, "needs", "(II)I"⟩
abbrev cX12_stopped : ByteArray := prog_14_method_84_code
def yX12_stopped : MethodName := ⟨RX12, "stopped", "(I)I"⟩
abbrev cX12_costs : ByteArray := prog_14_method_85_code
def yX12_costs : MethodName := ⟨RX12, "costs", "(I)I"⟩
abbrev cX12_stopped_ : ByteArray := prog_14_method_86_code
def yX12_stopped_ : MethodName := ⟨RX12, "stopped", "(II)Z"⟩
abbrev cX12_bestSet : ByteArray := prog_14_method_87_code
def yX12_bestSet : MethodName := ⟨RX12, "bestSet", "(IZ)I"⟩
abbrev cX12_fewest : ByteArray := prog_14_method_88_code
def yX12_fewest : MethodName := ⟨RX12, "fewest", "(I)I"⟩
abbrev cX12_cheapest : ByteArray := prog_14_method_89_code
def yX12_cheapest : MethodName := ⟨RX12, "cheapest", "(IZ)I"⟩
abbrev cX12_slips : ByteArray := prog_14_method_90_code
def yX12_slips : MethodName := ⟨RX12, "slips", "(I)I"⟩
abbrev cX12_told : ByteArray := prog_14_method_91_code
def yX12_told : MethodName := ⟨RX12, "told", "()I"⟩
abbrev cX12_seen : ByteArray := prog_14_method_92_code
def yX12_seen : MethodName := ⟨RX12, "seen", "(Z)I"⟩
abbrev cX12_ask : ByteArray := prog_14_method_93_code
def yX12_ask : MethodName := ⟨RX12, "ask", "()I"⟩
abbrev cX12_princePays : ByteArray := prog_14_method_94_code
def yX12_princePays : MethodName := ⟨RX12, "princePays", "(IIII)I"⟩
abbrev cX12_manHas : ByteArray := prog_14_method_95_code
def yX12_manHas : MethodName := ⟨RX12, "manHas", "(IIII)I"⟩
abbrev cX12_rests : ByteArray := prog_14_method_96_code
def yX12_rests : MethodName := ⟨RX12, "rests", "(II)I"⟩
abbrev cX12_odds : ByteArray := prog_14_method_97_code
def yX12_odds : MethodName := ⟨RX12, "odds", "(II)I"⟩
abbrev cX12_bids : ByteArray := prog_14_method_98_code
def yX12_bids : MethodName := ⟨RX12, "bids", "(Z)I"⟩
abbrev cX12_gives : ByteArray := prog_14_method_99_code
def yX12_gives : MethodName := ⟨RX12, "gives", "(III)I"⟩
abbrev cX12_sold : ByteArray := prog_14_method_100_code
def yX12_sold : MethodName := ⟨RX12, "sold", "(I)I"⟩
abbrev cX12_secret : ByteArray := prog_14_method_101_code
def yX12_secret : MethodName := ⟨RX12, "secret", "()I"⟩
abbrev cX12_mates : ByteArray := prog_14_method_102_code
def yX12_mates : MethodName := ⟨RX12, "mates", "()I"⟩
abbrev cX12_knows : ByteArray := prog_14_method_103_code
def yX12_knows : MethodName := ⟨RX12, "knows", "(I)I"⟩
abbrev cX12_dearest : ByteArray := prog_14_method_104_code
def yX12_dearest : MethodName := ⟨RX12, "dearest", "()I"⟩
abbrev cX12_keptOnes : ByteArray := prog_14_method_105_code
def yX12_keptOnes : MethodName := ⟨RX12, "keptOnes", "(I)I"⟩
abbrev cX12_kept : ByteArray := prog_14_method_106_code
def yX12_kept : MethodName := ⟨RX12, "kept", "(Z)I"⟩
abbrev cX12_trial : ByteArray := prog_14_method_107_code
def yX12_trial : MethodName := ⟨RX12, "trial", "(IZ)I"⟩
abbrev cX12_span : ByteArray := prog_14_method_108_code
def yX12_span : MethodName := ⟨RX12, "span", "(IZ)I"⟩
abbrev cX12_logged : ByteArray := prog_14_method_109_code
def yX12_logged : MethodName := ⟨RX12, "logged", "(II)I"⟩
abbrev cX12_led : ByteArray := prog_14_method_110_code
def yX12_led : MethodName := ⟨RX12, "led", "(IZ)I"⟩
abbrev cX12_log : ByteArray := prog_14_method_111_code
def yX12_log : MethodName := ⟨RX12, "log", "(II)I"⟩
abbrev cX12_seed : ByteArray := prog_14_method_112_code
def yX12_seed : MethodName := ⟨RX12, "seed", "(I)I"⟩
abbrev cX12_undo : ByteArray := prog_14_method_113_code
def yX12_undo : MethodName := ⟨RX12, "undo", "()Z"⟩
abbrev cX12_image : ByteArray := prog_14_method_114_code
def yX12_image : MethodName := ⟨RX12, "image", "()V"⟩
abbrev cX12_back : ByteArray := prog_14_method_115_code
def yX12_back : MethodName := ⟨RX12, "back", "()Z"⟩
abbrev cX12_count : ByteArray := prog_14_method_116_code
def yX12_count : MethodName := ⟨RX12, "count", "(I)I"⟩
def RJx145de : String := "java/io/Serializable"
def TJx145de : u_T := fun k => match k with
  | _ => ("", "", "", false)
def tyJx145de : Nat → FieldType := fun k => match k with
  | _ => .int
abbrev wsJx145de0 : List Cond := u_ws RJx145de TJx145de 0
theorem nmJx145de : ∀ a, a < 0 → ∀ b, b < 0 → a ≠ b → (TJx145de a).2.1 ≠ (TJx145de b).2.1 := by decide +kernel
theorem tyJx145de_ok : ∀ k, k < 0 → parseFieldDescriptor (TJx145de k).2.2.1 = some (tyJx145de k) := by decide +kernel
def RJx9f9b0 : String := "java/lang/CharSequence"
def TJx9f9b0 : u_T := fun k => match k with
  | _ => ("", "", "", false)
def tyJx9f9b0 : Nat → FieldType := fun k => match k with
  | _ => .int
abbrev wsJx9f9b00 : List Cond := u_ws RJx9f9b0 TJx9f9b0 0
theorem nmJx9f9b0 : ∀ a, a < 0 → ∀ b, b < 0 → a ≠ b → (TJx9f9b0 a).2.1 ≠ (TJx9f9b0 b).2.1 := by decide +kernel
theorem tyJx9f9b0_ok : ∀ k, k < 0 → parseFieldDescriptor (TJx9f9b0 k).2.2.1 = some (tyJx9f9b0 k) := by decide +kernel
def RJx8e188 : String := "java/lang/Cloneable"
def TJx8e188 : u_T := fun k => match k with
  | _ => ("", "", "", false)
def tyJx8e188 : Nat → FieldType := fun k => match k with
  | _ => .int
abbrev wsJx8e1880 : List Cond := u_ws RJx8e188 TJx8e188 0
theorem nmJx8e188 : ∀ a, a < 0 → ∀ b, b < 0 → a ≠ b → (TJx8e188 a).2.1 ≠ (TJx8e188 b).2.1 := by decide +kernel
theorem tyJx8e188_ok : ∀ k, k < 0 → parseFieldDescriptor (TJx8e188 k).2.2.1 = some (tyJx8e188 k) := by decide +kernel
def RJxb160c : String := "java/lang/Comparable"
def TJxb160c : u_T := fun k => match k with
  | _ => ("", "", "", false)
def tyJxb160c : Nat → FieldType := fun k => match k with
  | _ => .int
abbrev wsJxb160c0 : List Cond := u_ws RJxb160c TJxb160c 0
theorem nmJxb160c : ∀ a, a < 0 → ∀ b, b < 0 → a ≠ b → (TJxb160c a).2.1 ≠ (TJxb160c b).2.1 := by decide +kernel
theorem tyJxb160c_ok : ∀ k, k < 0 → parseFieldDescriptor (TJxb160c k).2.2.1 = some (tyJxb160c k) := by decide +kernel
def RJ6 : String := "java/lang/Integer"
def TJ6 : u_T := fun k => match k with
  | _ => ("", "", "", false)
def tyJ6 : Nat → FieldType := fun k => match k with
  | _ => .int
abbrev wsJ60 : List Cond := u_ws RJ6 TJ6 0
theorem nmJ6 : ∀ a, a < 0 → ∀ b, b < 0 → a ≠ b → (TJ6 a).2.1 ≠ (TJ6 b).2.1 := by decide +kernel
theorem tyJ6_ok : ∀ k, k < 0 → parseFieldDescriptor (TJ6 k).2.2.1 = some (tyJ6 k) := by decide +kernel
abbrev cJ6_bitCount_0f7a4 : ByteArray := prog_23_method_49_code
def yJ6_bitCount_0f7a4 : MethodName := ⟨RJ6, "bitCount", "(I)I"⟩
def RJ13 : String := "java/lang/Long"
def TJ13 : u_T := fun k => match k with
  | _ => ("", "", "", false)
def tyJ13 : Nat → FieldType := fun k => match k with
  | _ => .int
abbrev wsJ130 : List Cond := u_ws RJ13 TJ13 0
theorem nmJ13 : ∀ a, a < 0 → ∀ b, b < 0 → a ≠ b → (TJ13 a).2.1 ≠ (TJ13 b).2.1 := by decide +kernel
theorem tyJ13_ok : ∀ k, k < 0 → parseFieldDescriptor (TJ13 k).2.2.1 = some (tyJ13 k) := by decide +kernel
abbrev cJ13_bitCount_95d88 : ByteArray := prog_24_method_50_code
def yJ13_bitCount_95d88 : MethodName := ⟨RJ13, "bitCount", "(J)I"⟩
def RJ9 : String := "java/lang/Math"
def TJ9 : u_T := fun k => match k with
  | _ => ("", "", "", false)
def tyJ9 : Nat → FieldType := fun k => match k with
  | _ => .int
abbrev wsJ90 : List Cond := u_ws RJ9 TJ9 0
theorem nmJ9 : ∀ a, a < 0 → ∀ b, b < 0 → a ≠ b → (TJ9 a).2.1 ≠ (TJ9 b).2.1 := by decide +kernel
theorem tyJ9_ok : ∀ k, k < 0 → parseFieldDescriptor (TJ9 k).2.2.1 = some (tyJ9 k) := by decide +kernel
abbrev cJ9_max_7cf53 : ByteArray := prog_25_method_65_code
def yJ9_max_7cf53 : MethodName := ⟨RJ9, "max", "(II)I"⟩
abbrev cJ9_min_7cf53 : ByteArray := prog_25_method_69_code
def yJ9_min_7cf53 : MethodName := ⟨RJ9, "min", "(II)I"⟩
def RJ0 : String := "java/lang/String"
def TJ0 : u_T := fun k => match k with
  | _ => ("", "", "", false)
def tyJ0 : Nat → FieldType := fun k => match k with
  | _ => .int
abbrev wsJ00 : List Cond := u_ws RJ0 TJ0 0
theorem nmJ0 : ∀ a, a < 0 → ∀ b, b < 0 → a ≠ b → (TJ0 a).2.1 ≠ (TJ0 b).2.1 := by decide +kernel
theorem tyJ0_ok : ∀ k, k < 0 → parseFieldDescriptor (TJ0 k).2.2.1 = some (tyJ0 k) := by decide +kernel
abbrev cJ0_length_8abf5 : ByteArray := prog_27_method_54_code
def yJ0_length_8abf5 : MethodName := ⟨RJ0, "length", "()I"⟩
abbrev cJ0_charAt_5068e : ByteArray := prog_27_method_56_code
def yJ0_charAt_5068e : MethodName := ⟨RJ0, "charAt", "(I)C"⟩
abbrev cJ0_coder_7d493 : ByteArray := prog_27_method_152_code
def yJ0_coder_7d493 : MethodName := ⟨RJ0, "coder", "()B"⟩
abbrev cJ0_isLatin1_aae02 : ByteArray := prog_27_method_154_code
def yJ0_isLatin1_aae02 : MethodName := ⟨RJ0, "isLatin1", "()Z"⟩
abbrev cJ0_checkIndex_df160 : ByteArray := prog_27_method_155_code
def yJ0_checkIndex_df160 : MethodName := ⟨RJ0, "checkIndex", "(II)V"⟩
def RJ1 : String := "java/lang/StringLatin1"
def TJ1 : u_T := fun k => match k with
  | _ => ("", "", "", false)
def tyJ1 : Nat → FieldType := fun k => match k with
  | _ => .int
abbrev wsJ10 : List Cond := u_ws RJ1 TJ1 0
theorem nmJ1 : ∀ a, a < 0 → ∀ b, b < 0 → a ≠ b → (TJ1 a).2.1 ≠ (TJ1 b).2.1 := by decide +kernel
theorem tyJ1_ok : ∀ k, k < 0 → parseFieldDescriptor (TJ1 k).2.2.1 = some (tyJ1 k) := by decide +kernel
abbrev cJ1_charAt_3b067 : ByteArray := prog_28_method_2_code
def yJ1_charAt_3b067 : MethodName := ⟨RJ1, "charAt", "([BI)C"⟩
def RJ2 : String := "java/lang/StringUTF16"
def TJ2 : u_T := fun k => match k with
  | _ => ("", "", "", false)
def tyJ2 : Nat → FieldType := fun k => match k with
  | _ => .int
abbrev wsJ20 : List Cond := u_ws RJ2 TJ2 0
theorem nmJ2 : ∀ a, a < 0 → ∀ b, b < 0 → a ≠ b → (TJ2 a).2.1 ≠ (TJ2 b).2.1 := by decide +kernel
theorem tyJ2_ok : ∀ k, k < 0 → parseFieldDescriptor (TJ2 k).2.2.1 = some (tyJ2 k) := by decide +kernel
abbrev cJ2_getChar_3b067 : ByteArray := prog_29_method_5_code
def yJ2_getChar_3b067 : MethodName := ⟨RJ2, "getChar", "([BI)C"⟩
abbrev cJ2_length_9d52b : ByteArray := prog_29_method_6_code
def yJ2_length_9d52b : MethodName := ⟨RJ2, "length", "([B)I"⟩
abbrev cJ2_charAt_3b067 : ByteArray := prog_29_method_83_code
def yJ2_charAt_3b067 : MethodName := ⟨RJ2, "charAt", "([BI)C"⟩
abbrev cJ2_checkIndex_2214a : ByteArray := prog_29_method_91_code
def yJ2_checkIndex_2214a : MethodName := ⟨RJ2, "checkIndex", "(I[B)V"⟩
def RJ10 : String := "java/lang/System"
def TJ10 : u_T := fun k => match k with
  | _ => ("", "", "", false)
def tyJ10 : Nat → FieldType := fun k => match k with
  | _ => .int
abbrev wsJ100 : List Cond := u_ws RJ10 TJ10 0
theorem nmJ10 : ∀ a, a < 0 → ∀ b, b < 0 → a ≠ b → (TJ10 a).2.1 ≠ (TJ10 b).2.1 := by decide +kernel
theorem tyJ10_ok : ∀ k, k < 0 → parseFieldDescriptor (TJ10 k).2.2.1 = some (tyJ10 k) := by decide +kernel
def RJxfd54e : String := "java/lang/constant/Constable"
def TJxfd54e : u_T := fun k => match k with
  | _ => ("", "", "", false)
def tyJxfd54e : Nat → FieldType := fun k => match k with
  | _ => .int
abbrev wsJxfd54e0 : List Cond := u_ws RJxfd54e TJxfd54e 0
theorem nmJxfd54e : ∀ a, a < 0 → ∀ b, b < 0 → a ≠ b → (TJxfd54e a).2.1 ≠ (TJxfd54e b).2.1 := by decide +kernel
theorem tyJxfd54e_ok : ∀ k, k < 0 → parseFieldDescriptor (TJxfd54e k).2.2.1 = some (tyJxfd54e k) := by decide +kernel
def RJx3cf43 : String := "java/lang/constant/ConstantDesc"
def TJx3cf43 : u_T := fun k => match k with
  | _ => ("", "", "", false)
def tyJx3cf43 : Nat → FieldType := fun k => match k with
  | _ => .int
abbrev wsJx3cf430 : List Cond := u_ws RJx3cf43 TJx3cf43 0
theorem nmJx3cf43 : ∀ a, a < 0 → ∀ b, b < 0 → a ≠ b → (TJx3cf43 a).2.1 ≠ (TJx3cf43 b).2.1 := by decide +kernel
theorem tyJx3cf43_ok : ∀ k, k < 0 → parseFieldDescriptor (TJx3cf43 k).2.2.1 = some (tyJx3cf43 k) := by decide +kernel
def RJ7 : String := "java/util/Arrays"
def TJ7 : u_T := fun k => match k with
  | _ => ("", "", "", false)
def tyJ7 : Nat → FieldType := fun k => match k with
  | _ => .int
abbrev wsJ70 : List Cond := u_ws RJ7 TJ7 0
theorem nmJ7 : ∀ a, a < 0 → ∀ b, b < 0 → a ≠ b → (TJ7 a).2.1 ≠ (TJ7 b).2.1 := by decide +kernel
theorem tyJ7_ok : ∀ k, k < 0 → parseFieldDescriptor (TJ7 k).2.2.1 = some (tyJ7 k) := by decide +kernel
abbrev cJ7_fill_d0a16 : ByteArray := prog_35_method_101_code
def yJ7_fill_d0a16 : MethodName := ⟨RJ7, "fill", "([JJ)V"⟩
abbrev cJ7_fill_53178 : ByteArray := prog_35_method_103_code
def yJ7_fill_53178 : MethodName := ⟨RJ7, "fill", "([II)V"⟩
abbrev cJ7_copyOf_59c91 : ByteArray := prog_35_method_123_code
def yJ7_copyOf_59c91 : MethodName := ⟨RJ7, "copyOf", "([II)[I"⟩
def RJ3 : String := "jdk/internal/util/Preconditions"
def TJ3 : u_T := fun k => match k with
  | _ => ("", "", "", false)
def tyJ3 : Nat → FieldType := fun k => match k with
  | _ => .int
abbrev wsJ30 : List Cond := u_ws RJ3 TJ3 0
theorem nmJ3 : ∀ a, a < 0 → ∀ b, b < 0 → a ≠ b → (TJ3 a).2.1 ≠ (TJ3 b).2.1 := by decide +kernel
theorem tyJ3_ok : ∀ k, k < 0 → parseFieldDescriptor (TJ3 k).2.2.1 = some (tyJ3 k) := by decide +kernel
abbrev cJ3_checkIndex_8e157 : ByteArray := prog_37_method_11_code
def yJ3_checkIndex_8e157 : MethodName := ⟨RJ3, "checkIndex", "(IILjava/util/function/BiFunction;)I"⟩
def RL : String := "NailGoldLaw"
abbrev cL_book : ByteArray := method_3_code
def yL_book : MethodName := ⟨RL, "book", "(LNailGold;[J)I"⟩
abbrev cL_law : ByteArray := method_4_code
def yL_law : MethodName := ⟨RL, "law", "(LNailGold;[J)I"⟩
abbrev cL_step : ByteArray := method_5_code
def yL_step : MethodName := ⟨RL, "step", "(LNailGold;II[J)I"⟩
abbrev cL_man : ByteArray := method_6_code
def yL_man : MethodName := ⟨RL, "man", "(LNailGold;II[J)I"⟩
abbrev cL_test : ByteArray := method_7_code
def yL_test : MethodName := ⟨RL, "test", "(LNailGold;IZ[J)I"⟩
abbrev cL_rival : ByteArray := method_8_code
def yL_rival : MethodName := ⟨RL, "rival", "(LNailGold;IZ[J)I"⟩
abbrev cL_proof : ByteArray := method_9_code
def yL_proof : MethodName := ⟨RL, "proof", "(LNailGold;I[J)I"⟩
abbrev cL_tried : ByteArray := method_10_code
def yL_tried : MethodName := ⟨RL, "tried", "(LNailGold;II[J)I"⟩
abbrev cL_flee : ByteArray := method_11_code
def yL_flee : MethodName := ⟨RL, "flee", "(LNailGold;I[J)I"⟩
abbrev cL_sell : ByteArray := method_12_code
def yL_sell : MethodName := ⟨RL, "sell", "(LNailGold;III[J)I"⟩
abbrev cL_part : ByteArray := method_13_code
def yL_part : MethodName := ⟨RL, "part", "(LNailGold;II[J)I"⟩
abbrev cL_pay : ByteArray := method_14_code
def yL_pay : MethodName := ⟨RL, "pay", "(LNailGold;I[J)I"⟩
abbrev cL_days : ByteArray := method_15_code
def yL_days : MethodName := ⟨RL, "days", "(LNailGold;I[J)I"⟩
abbrev cL_ahead : ByteArray := method_16_code
def yL_ahead : MethodName := ⟨RL, "ahead", "(LNailGold;III[J)I"⟩
abbrev cL_owes : ByteArray := method_17_code
def yL_owes : MethodName := ⟨RL, "owes", "(LNailGold;I[J)I"⟩
abbrev cL_chest : ByteArray := method_18_code
def yL_chest : MethodName := ⟨RL, "chest", "(LNailGold;I[J)I"⟩
abbrev cL_lives : ByteArray := method_19_code
def yL_lives : MethodName := ⟨RL, "lives", "(LNailGold;I[J)I"⟩
abbrev cL_done : ByteArray := method_20_code
def yL_done : MethodName := ⟨RL, "done", "(LNailGold;I[J)I"⟩
abbrev cL_longest : ByteArray := method_21_code
def yL_longest : MethodName := ⟨RL, "longest", "(LNailGold;II[J)I"⟩
abbrev cL_needs : ByteArray := method_22_code
def yL_needs : MethodName := ⟨RL, "needs", "(LNailGold;II[J)I"⟩
abbrev cL_stopped : ByteArray := method_23_code
def yL_stopped : MethodName := ⟨RL, "stopped", "(LNailGold;II[J)I"⟩
abbrev cL_fewest : ByteArray := method_24_code
def yL_fewest : MethodName := ⟨RL, "fewest", "(LNailGold;I[J)I"⟩
abbrev cL_cheapest : ByteArray := method_25_code
def yL_cheapest : MethodName := ⟨RL, "cheapest", "(LNailGold;IZ[J)I"⟩
abbrev cL_slips : ByteArray := method_26_code
def yL_slips : MethodName := ⟨RL, "slips", "(LNailGold;I[J)I"⟩
abbrev cL_seen : ByteArray := method_27_code
def yL_seen : MethodName := ⟨RL, "seen", "(LNailGold;Z[J)I"⟩
abbrev cL_ask : ByteArray := method_28_code
def yL_ask : MethodName := ⟨RL, "ask", "(LNailGold;[J)I"⟩
abbrev cL_rests : ByteArray := method_29_code
def yL_rests : MethodName := ⟨RL, "rests", "(LNailGold;II[J)I"⟩
abbrev cL_odds : ByteArray := method_30_code
def yL_odds : MethodName := ⟨RL, "odds", "(LNailGold;II[J)I"⟩
abbrev cL_sold : ByteArray := method_31_code
def yL_sold : MethodName := ⟨RL, "sold", "(LNailGold;I[J)I"⟩
abbrev cL_knows : ByteArray := method_32_code
def yL_knows : MethodName := ⟨RL, "knows", "(LNailGold;I[J)I"⟩
abbrev cL_trial : ByteArray := method_33_code
def yL_trial : MethodName := ⟨RL, "trial", "(LNailGold;IZ[J)I"⟩
abbrev cL_span : ByteArray := method_34_code
def yL_span : MethodName := ⟨RL, "span", "(LNailGold;IZ[J)I"⟩
abbrev cL_led : ByteArray := method_35_code
def yL_led : MethodName := ⟨RL, "led", "(LNailGold;IZ[J)I"⟩
abbrev cL_log : ByteArray := method_36_code
def yL_log : MethodName := ⟨RL, "log", "(LNailGold;II[J)I"⟩
abbrev cL_law_ : ByteArray := code
def yL_law_ : MethodName := ⟨RL, "law", "([I)Z"⟩
abbrev vwCl : List vw_C := [(RX0, TX0, 12), (RX1, TX1, 1), (RX2, TX2, 10), (RX3, TX3, 3), (RX4, TX4, 2), (RX5, TX5, 3), (RX6, TX6, 2), (RX7, TX7, 6), (RX8, TX8, 2), (RX9, TX9, 11), (RX10, TX10, 5), (RX11, TX11, 17), (RX12, TX12, 25)]
end
section
abbrev es_V : Type := Nat × Nat
abbrev es_O : Type := Nat × Nat × List (Nat × es_V)
abbrev es_F : Type := List (Nat × Nat)
abbrev es_I : Type := Nat × Instr × Nat × List Nat
abbrev es_L : Type := List (Nat × es_V)
abbrev es_Op : Type := _root_.Jvm.ClassFile.Cond
def es_get {α : Type} : List (Nat × α) → Nat → Option α
  | [], _ => none
  | q :: t, k => bif Nat.beq q.1 k then some q.2 else es_get t k
def es_set {α : Type} : List (Nat × α) → Nat → α → List (Nat × α)
  | [], k, v => [(k, v)]
  | q :: t, k, v => bif Nat.beq q.1 k then (k, v) :: t else q :: es_set t k v
def es_del {α : Type} : List (Nat × α) → Nat → List (Nat × α)
  | [], _ => []
  | q :: t, k => bif Nat.beq q.1 k then es_del t k else q :: es_del t k
theorem es_beq {a b : Nat} : Nat.beq a b = true ↔ a = b := ⟨Nat.eq_of_beq_eq_true, fun h => by subst h; exact Nat.beq_refl a⟩
theorem es_beqf {a b : Nat} : Nat.beq a b = false ↔ a ≠ b := by
  constructor
  · intro h e; subst e; rw [Nat.beq_refl] at h; cases h
  · intro h
    cases hb : Nat.beq a b
    · rfl
    · exact absurd (es_beq.mp hb) h
theorem es_get_set {α : Type} (l : List (Nat × α)) (k j : Nat) (v : α) : es_get (es_set l k v) j = if j = k then some v else es_get l j := by
  induction l with
  | nil =>
    by_cases h : j = k
    · subst h; simp [es_set, es_get, es_beq.mpr rfl]
    · simp [es_set, es_get, es_beqf.mpr (Ne.symm h), h]
  | cons q t ih =>
    cases hq : Nat.beq q.1 k
    · simp only [es_set, hq, cond_false, es_get]
      cases hj : Nat.beq q.1 j
      · simp only [cond_false]; exact ih
      · have e1 := es_beq.mp hj
        have e2 := es_beqf.mp hq
        have e3 : ¬ j = k := fun e => e2 (e1.trans e)
        simp [e3]
    · have e1 := es_beq.mp hq
      simp only [es_set, hq, cond_true, es_get]
      by_cases h : j = k
      · subst h; simp [es_beq.mpr rfl]
      · have e3 : Nat.beq q.1 j = false := es_beqf.mpr (fun e => h (e.symm.trans e1))
        simp [es_beqf.mpr (Ne.symm h), h, e3]
theorem es_get_del {α : Type} (l : List (Nat × α)) (k j : Nat) : es_get (es_del l k) j = if j = k then none else es_get l j := by
  induction l with
  | nil => simp [es_del, es_get]
  | cons q t ih =>
    cases hq : Nat.beq q.1 k
    · simp only [es_del, hq, cond_false, es_get]
      cases hj : Nat.beq q.1 j
      · simp only [cond_false]; exact ih
      · have e1 := es_beq.mp hj
        have e2 := es_beqf.mp hq
        have e3 : ¬ j = k := fun e => e2 (e1.trans e)
        simp [e3]
    · have e1 := es_beq.mp hq
      simp only [es_del, hq, cond_true, es_get]
      rw [ih]
      by_cases h : j = k
      · simp [h]
      · have e3 : Nat.beq q.1 j = false := es_beqf.mpr (fun e => h (e.symm.trans e1))
        simp [h, e3]
def es_force {β : Type} (n : Nat) (k : Nat → β) : β := @Nat.rec (fun _ => β) (k 0) (fun m _ => k (m + 1)) n
theorem es_force_eq {β : Type} (n : Nat) (k : Nat → β) : es_force n k = k n := by cases n <;> rfl
def es_kn (F : es_F) (v : es_V) : Option Nat := match v.1 with
  | 0 => some v.2
  | 1 => match F[v.2]? with
    | some q => bif Nat.beq q.1 q.2 then some ((q.1 + 2147483648) % 4294967296) else none
    | none => none
  | _ => none
def es_ti (v : es_V) : Bool := Nat.beq v.1 0 || (Nat.beq v.1 1 || Nat.beq v.1 6)
def es_tr (v : es_V) : Bool := Nat.beq v.1 3 || (Nat.beq v.1 4 || Nat.beq v.1 5)
def es_c (z : Int32) : es_V := es_force z.toBitVec.toNat (fun n => (0, n))
def es_lc (z : Int64) : es_V := es_force z.toBitVec.toNat (fun n => (2, n))
def es_bz (n : Nat) : Nat := (n + 2147483648) % 4294967296
def es_cmp (op : es_Op) (x y : Nat) : Bool := match op with
  | .eq => Nat.beq x y
  | .ne => !Nat.beq x y
  | .lt => Nat.blt x y
  | .ge => Nat.ble y x
  | .gt => Nat.blt y x
  | .le => Nat.ble x y
def es_sw (op : es_Op) : es_Op := match op with
  | .eq => .eq
  | .ne => .ne
  | .lt => .gt
  | .ge => .le
  | .gt => .lt
  | .le => .ge
def es_ng (op : es_Op) : es_Op := match op with
  | .eq => .ne
  | .ne => .eq
  | .lt => .ge
  | .ge => .lt
  | .gt => .le
  | .le => .gt
def es_iv (op : es_Op) (c : Nat) (q : Nat × Nat) : List (Nat × Nat) := match op with
  | .eq => bif Nat.ble q.1 c && Nat.ble c q.2 then [(c, c)] else []
  | .ne => bif Nat.beq q.1 c then (bif Nat.beq q.2 c then [] else [(c + 1, q.2)]) else bif Nat.beq q.2 c then [(q.1, c - 1)] else [q]
  | .lt => bif Nat.blt q.1 c then [(q.1, bif Nat.blt q.2 c then q.2 else c - 1)] else []
  | .ge => bif Nat.ble c q.2 then [(bif Nat.ble c q.1 then q.1 else c, q.2)] else []
  | .gt => bif Nat.blt c q.2 then [(bif Nat.blt c q.1 then q.1 else c + 1, q.2)] else []
  | .le => bif Nat.ble q.1 c then [(q.1, bif Nat.ble q.2 c then q.2 else c)] else []
def es_br (F : es_F) (op : es_Op) (a b : es_V) : List es_F := match es_kn F a, es_kn F b with
  | some x, some y => bif es_cmp op (es_bz x) (es_bz y) then [F] else []
  | none, some y => bif Nat.beq a.1 1 then (match F[a.2]? with
      | some q => (es_iv op (es_bz y) q).map (fun r => F.set a.2 r)
      | none => [F]) else [F]
  | some x, none => bif Nat.beq b.1 1 then (match F[b.2]? with
      | some q => (es_iv (es_sw op) (es_bz x) q).map (fun r => F.set b.2 r)
      | none => [F]) else [F]
  | none, none => [F]
def es_st (L : es_L) (i : Nat) (v : es_V) : es_L := es_set (match i with
  | 0 => L
  | j + 1 => match es_get L j with
    | some w => bif Nat.beq w.1 2 then es_del L j else L
    | none => L) i v
def es_bin (f : Int32 → Int32 → Int32) (F : es_F) (a b : es_V) : es_V := match es_kn F a, es_kn F b with
  | some x, some y => es_c (f (nI x) (nI y))
  | _, _ => (6, 0)
def es_lbin (f : Int64 → Int64 → Int64) (a b : es_V) : es_V := es_lc (f (lN a.2) (lN b.2))
def es_un (f : Int32 → Int32) (F : es_F) (a : es_V) : es_V := match es_kn F a with
  | some x => es_c (f (nI x))
  | none => (6, 0)
def es_to (pc : Nat) (off : Int) : Option Nat := match (pc : Int) + off with
  | .ofNat t => some t
  | .negSucc _ => none
def es_i2 (f : Int32 → Int32 → Int32) (pc : Nat) (L : es_L) (S : List es_V) (F : es_F) : Option (Nat × es_L × List es_V) := match S with
  | b :: a :: S' => bif es_ti a && es_ti b then some (pc + 1, L, es_bin f F a b :: S') else none
  | _ => none
def es_d2 (f : Int32 → Int32 → Int32) (pc : Nat) (L : es_L) (S : List es_V) (F : es_F) : Option (Nat × es_L × List es_V) := match S with
  | b :: a :: S' => match es_kn F b with
    | some y => bif es_ti a && (es_ti b && !decide (nI y = 0)) then some (pc + 1, L, es_bin f F a b :: S') else none
    | none => none
  | _ => none
def es_l2 (f : Int64 → Int64 → Int64) (pc : Nat) (L : es_L) (S : List es_V) : Option (Nat × es_L × List es_V) := match S with
  | b :: a :: S' => bif Nat.beq a.1 2 && Nat.beq b.1 2 then some (pc + 1, L, es_lbin f a b :: S') else none
  | _ => none
def es_lsh (f : Int64 → Int32 → Int64) (pc : Nat) (L : es_L) (S : List es_V) (F : es_F) : Option (Nat × es_L × List es_V) := match S with
  | b :: a :: S' => match es_kn F b with
    | some y => bif Nat.beq a.1 2 && es_ti b then some (pc + 1, L, es_lc (f (lN a.2) (nI y)) :: S') else none
    | none => none
  | _ => none
def es_ld (t : es_V → Bool) (i n pc : Nat) (L : es_L) (S : List es_V) : Option (Nat × es_L × List es_V) := match es_get L i with
  | some v => bif t v then some (pc + n, L, v :: S) else none
  | none => none
def es_sto (t : es_V → Bool) (nL i n pc : Nat) (L : es_L) (S : List es_V) : Option (Nat × es_L × List es_V) := match S with
  | v :: S' => bif t v && Nat.blt i nL then some (pc + n, es_st L i v, S') else none
  | _ => none
def es_lst (nL i n pc : Nat) (L : es_L) (S : List es_V) : Option (Nat × es_L × List es_V) := match S with
  | v :: S' => bif Nat.beq v.1 2 && Nat.blt (i + 1) nL then some (pc + n, es_del (es_st L i v) (i + 1), S') else none
  | _ => none
def es_t2 (v : es_V) : Bool := Nat.beq v.1 2
def es_pure (nL : Nat) (ins : Instr) (pc : Nat) (L : es_L) (S : List es_V) (F : es_F) : Option (Nat × es_L × List es_V) := match ins with
  | .iconst n => some (pc + 1, L, es_c (Int32.ofInt n) :: S)
  | .bipush n => some (pc + 2, L, es_c ((Int8.ofInt n).toInt32) :: S)
  | .sipush n => some (pc + 3, L, es_c ((Int16.ofInt n).toInt32) :: S)
  | .lconst n => some (pc + 1, L, es_lc (Int64.ofNat (n : Nat)) :: S)
  | .iload_n k => es_ld es_ti k 1 pc L S
  | .iload k => es_ld es_ti k 2 pc L S
  | .lload_n k => es_ld es_t2 k 1 pc L S
  | .lload k => es_ld es_t2 k 2 pc L S
  | .aload_n k => es_ld es_tr k 1 pc L S
  | .aload k => es_ld es_tr k 2 pc L S
  | .istore_n k => es_sto es_ti nL k 1 pc L S
  | .istore k => es_sto es_ti nL k 2 pc L S
  | .lstore_n k => es_lst nL k 1 pc L S
  | .lstore k => es_lst nL k 2 pc L S
  | .astore_n k => es_sto (fun v => Nat.beq v.1 3 || Nat.beq v.1 7) nL k 1 pc L S
  | .astore k => es_sto (fun v => Nat.beq v.1 3 || Nat.beq v.1 7) nL k 2 pc L S
  | .iinc k n => match es_get L k with
    | some v => bif es_ti v && Nat.blt k nL then some (pc + 3, es_st L k (es_un (fun x => x + Int32.ofInt n) F v), S) else none
    | none => none
  | .iadd => es_i2 (fun x y => x + y) pc L S F
  | .isub => es_i2 (fun x y => x - y) pc L S F
  | .imul => es_i2 (fun x y => x * y) pc L S F
  | .iand => es_i2 (fun x y => x &&& y) pc L S F
  | .ior => es_i2 (fun x y => x ||| y) pc L S F
  | .ixor => es_i2 (fun x y => x ^^^ y) pc L S F
  | .ishl => es_i2 (fun x y => x <<< (y &&& 31)) pc L S F
  | .ishr => es_i2 (fun x y => x >>> (y &&& 31)) pc L S F
  | .iushr => es_i2 (fun x y => (x.toUInt32 >>> (y.toUInt32 &&& Int32.toUInt32 31)).toInt32) pc L S F
  | .idiv => es_d2 (fun x y => x / y) pc L S F
  | .irem => es_d2 (fun x y => x - x / y * y) pc L S F
  | .ladd => es_l2 (fun x y => x + y) pc L S
  | .lsub => es_l2 (fun x y => x - y) pc L S
  | .lmul => es_l2 (fun x y => x * y) pc L S
  | .land => es_l2 (fun x y => x &&& y) pc L S
  | .lor => es_l2 (fun x y => x ||| y) pc L S
  | .ldiv => match S with
    | b :: a :: S' => bif (Nat.beq a.1 2 && Nat.beq b.1 2) && !decide (lN b.2 = 0) then some (pc + 1, L, es_lbin (fun x y => x / y) a b :: S') else none
    | _ => none
  | .lshl => es_lsh (fun x y => x <<< (y.toInt64 &&& 63)) pc L S F
  | .lshr => es_lsh (fun x y => x >>> (y.toInt64 &&& 63)) pc L S F
  | .lushr => es_lsh (fun x y => (x.toUInt64 >>> (y.toInt64.toUInt64 &&& Int64.toUInt64 63)).toInt64) pc L S F
  | .i2l => match S with
    | a :: S' => match es_kn F a with
      | some x => some (pc + 1, L, es_lc (nI x).toInt64 :: S')
      | none => none
    | _ => none
  | .l2i => match S with
    | a :: S' => bif Nat.beq a.1 2 then some (pc + 1, L, es_c (lN a.2).toInt32 :: S') else none
    | _ => none
  | .lcmp => match S with
    | b :: a :: S' => bif Nat.beq a.1 2 && Nat.beq b.1 2 then some (pc + 1, L, es_c (lg_cmp (lN a.2) (lN b.2)) :: S') else none
    | _ => none
  | .dup => match S with
    | a :: S' => bif es_t2 a then none else some (pc + 1, L, a :: a :: S')
    | _ => none
  | .pop => match S with
    | a :: S' => bif es_t2 a then none else some (pc + 1, L, S')
    | _ => none
  | .dup2 => match S with
    | b :: a :: S' => bif es_t2 a || es_t2 b then none else some (pc + 1, L, b :: a :: b :: a :: S')
    | _ => none
  | .goto off => match es_to pc off with
    | some t => some (t, L, S)
    | none => none
  | .ifnull off => match S with
    | a :: S' => bif Nat.beq a.1 4 then (match es_to pc off with
        | some t => some (t, L, S')
        | none => none) else bif Nat.beq a.1 3 then some (pc + 3, L, S') else none
    | _ => none
  | .ifnonnull off => match S with
    | a :: S' => bif Nat.beq a.1 3 then (match es_to pc off with
        | some t => some (t, L, S')
        | none => none) else bif Nat.beq a.1 4 then some (pc + 3, L, S') else none
    | _ => none
  | _ => none
def es_len (ins : Instr) : Nat := match ins with
  | .bipush _ | .iload _ | .lload _ | .aload _ | .istore _ | .lstore _ | .astore _ | .ldc _ | .newarray _ => 2
  | .sipush _ | .iinc _ _ | .goto _ | .ifnull _ | .ifnonnull _ | .ifCond _ _ | .if_icmp _ _ | .getfield _ | .putfield _ | .new _ | .anewarray _ | .invokevirtual _ | .invokespecial _ | .invokestatic _ | .ldc_w _ | .ldc2_w _ => 3
  | _ => 1
end
section
def es_zb (x : Int32) : Nat := (x.toInt + 2147483648).toNat
theorem es_rng (x : Int32) : -2147483648 ≤ x.toInt ∧ x.toInt < 2147483648 := ⟨Int32.le_toInt x, Int32.toInt_lt x⟩
theorem es_nb (x : Int32) : nI x.toBitVec.toNat = x := by
  apply Int32.toBitVec_inj.mp
  show BitVec.ofNat 32 x.toBitVec.toNat = x.toBitVec
  simp
theorem es_lb (x : Int64) : lN x.toBitVec.toNat = x := by
  apply Int64.toBitVec_inj.mp
  show BitVec.ofNat 64 x.toBitVec.toNat = x.toBitVec
  simp
theorem es_nIt (n : Nat) : (nI n).toInt = Int.bmod n 4294967296 := by
  show (Int32.ofNat n).toInt = _
  simp
theorem es_zbn (n : Nat) : es_zb (nI n) = es_bz n := by
  unfold es_zb es_bz
  rw [es_nIt]
  simp only [Int.bmod]
  split <;> omega
theorem es_zinj {x y : Int32} (h : es_zb x = es_zb y) : x = y := by
  have h1 := es_rng x
  have h2 := es_rng y
  unfold es_zb at h
  apply Int32.toInt_inj.mp
  omega
theorem es_zlt {x y : Int32} : x < y ↔ es_zb x < es_zb y := by
  have h1 := es_rng x
  have h2 := es_rng y
  unfold es_zb
  rw [Int32.lt_iff_toInt_lt]
  omega
theorem es_zle {x y : Int32} : x ≤ y ↔ es_zb x ≤ es_zb y := by
  have h1 := es_rng x
  have h2 := es_rng y
  unfold es_zb
  rw [Int32.le_iff_toInt_le]
  omega
theorem es_bzt (x : Int32) : nI ((es_zb x + 2147483648) % 4294967296) = x := by
  apply es_zinj
  rw [es_zbn]
  have h1 := es_rng x
  unfold es_zb es_bz
  omega
theorem es_blt {a b : Nat} : Nat.blt a b = true ↔ a < b := by
  show Nat.ble (a + 1) b = true ↔ a < b
  rw [Nat.ble_eq]; omega
theorem es_c_eq (z : Int32) : es_c z = (0, z.toBitVec.toNat) := es_force_eq _ _
theorem es_lc_eq (z : Int64) : es_lc z = (2, z.toBitVec.toNat) := es_force_eq _ _
section Rel
variable (n0 b : Nat) (ρ : Nat → Int32)
def es_vr (v : es_V) (x : Value) : Prop := match v.1 with
  | 0 => x = .int (nI v.2)
  | 1 => x = .int (ρ v.2)
  | 2 => x = .long (lN v.2)
  | 3 => x = .ref (n0 + v.2)
  | 4 => x = .null
  | 5 => x = .ref b
  | 7 => ∃ a : Nat, x = .ref a
  | _ => ∃ z : Int32, x = .int z
def es_sr : List es_V → List Value → Prop
  | [], st => st = []
  | v :: S, st => ∃ x st', st = x :: st' ∧ es_vr n0 b ρ v x ∧ es_sr S st'
def es_lr (nL : Nat) (L : es_L) (ls : Array Slot) : Prop := ls.size = nL ∧ lv_wf ls ∧ ∀ i v, es_get L i = some v → ∃ x, ls[i]? = some (.val x) ∧ es_vr n0 b ρ v x
def es_fr (F : es_F) : Prop := ∀ (k : Nat) (q : Nat × Nat), F[k]? = some q → q.1 ≤ es_zb (ρ k) ∧ es_zb (ρ k) ≤ q.2
end Rel
section RelLaws
variable {n0 b : Nat} {ρ : Nat → Int32}
theorem es_vr0 {n : Nat} {x : Value} (h : es_vr n0 b ρ (0, n) x) : x = .int (nI n) := h
theorem es_vrc (z : Int32) : es_vr n0 b ρ (es_c z) (.int z) := by
  rw [es_c_eq]
  show Value.int z = Value.int (nI z.toBitVec.toNat)
  rw [es_nb]
theorem es_vrlc (z : Int64) : es_vr n0 b ρ (es_lc z) (.long z) := by
  rw [es_lc_eq]
  show Value.long z = Value.long (lN z.toBitVec.toNat)
  rw [es_lb]
theorem es_ti_int {v : es_V} {x : Value} (h : es_vr n0 b ρ v x) (ht : es_ti v = true) : ∃ z, x = .int z := by
  obtain ⟨t, n⟩ := v
  simp only [es_ti, Bool.or_eq_true, es_beq] at ht
  rcases ht with rfl | rfl | rfl
  · exact ⟨_, h⟩
  · exact ⟨_, h⟩
  · exact h
theorem es_t2_long {v : es_V} {x : Value} (h : es_vr n0 b ρ v x) (ht : Nat.beq v.1 2 = true) : x = .long (lN v.2) := by
  obtain ⟨t, n⟩ := v
  have e := es_beq.mp ht
  dsimp only at e
  subst e
  exact h
theorem es_t3_ref {v : es_V} {x : Value} (h : es_vr n0 b ρ v x) (ht : Nat.beq v.1 3 = true) : x = .ref (n0 + v.2) := by
  obtain ⟨t, n⟩ := v
  have e := es_beq.mp ht
  dsimp only at e
  subst e
  exact h
theorem es_t7_ref {v : es_V} {x : Value} (h : es_vr n0 b ρ v x) (ht : (Nat.beq v.1 3 || Nat.beq v.1 7) = true) : ∃ a, x = .ref a := by
  obtain ⟨t, n⟩ := v
  rw [Bool.or_eq_true, es_beq, es_beq] at ht
  rcases ht with h1 | h1
  · dsimp only at h1; subst h1; exact ⟨_, h⟩
  · dsimp only at h1; subst h1; exact h
theorem es_t4_null {v : es_V} {x : Value} (h : es_vr n0 b ρ v x) (ht : Nat.beq v.1 4 = true) : x = .null := by
  obtain ⟨t, n⟩ := v
  have e := es_beq.mp ht
  dsimp only at e
  subst e
  exact h
theorem es_tr_ref {v : es_V} {x : Value} (h : es_vr n0 b ρ v x) (ht : es_tr v = true) : x = .null ∨ ∃ a, x = .ref a := by
  obtain ⟨t, n⟩ := v
  simp only [es_tr, Bool.or_eq_true, es_beq] at ht
  rcases ht with rfl | rfl | rfl
  · exact Or.inr ⟨_, h⟩
  · exact Or.inl h
  · exact Or.inr ⟨_, h⟩
theorem es_cat1 {v : es_V} {x : Value} (h : es_vr n0 b ρ v x) (ht : Nat.beq v.1 2 = false) : x.category = 1 := by
  obtain ⟨t, n⟩ := v
  have e := es_beqf.mp ht
  dsimp only at e
  match t, h with
  | 0, h => have h' : x = .int (nI n) := h; rw [h']; rfl
  | 1, h => have h' : x = .int (ρ n) := h; rw [h']; rfl
  | 2, h => exact absurd rfl e
  | 3, h => have h' : x = .ref (n0 + n) := h; rw [h']; rfl
  | 4, h => have h' : x = .null := h; rw [h']; rfl
  | 5, h => have h' : x = .ref b := h; rw [h']; rfl
  | 6, h => obtain ⟨z, hz⟩ : ∃ z : Int32, x = .int z := h; rw [hz]; rfl
  | 7, h => obtain ⟨z, hz⟩ : ∃ a : Nat, x = .ref a := h; rw [hz]; rfl
  | t + 8, h => obtain ⟨z, hz⟩ : ∃ z : Int32, x = .int z := h; rw [hz]; rfl
theorem es_ti_n2 {v : es_V} (ht : es_ti v = true) : Nat.beq v.1 2 = false := by
  simp only [es_ti, Bool.or_eq_true, es_beq] at ht
  rcases ht with h | h | h <;> rw [h] <;> rfl
theorem es_kn_ok {F : es_F} {v : es_V} {x : Value} {n : Nat} (hF : es_fr ρ F) (h : es_vr n0 b ρ v x) (hk : es_kn F v = some n) : x = .int (nI n) := by
  obtain ⟨t, m⟩ := v
  match t, h, hk with
  | 0, h, hk => have e : some m = some n := hk; cases e; exact h
  | 1, h, hk =>
    have h' : x = .int (ρ m) := h
    have hk' : (match F[m]? with | some q => bif Nat.beq q.1 q.2 then some ((q.1 + 2147483648) % 4294967296) else none | none => none) = some n := hk
    cases hq : F[m]? with
    | none => rw [hq] at hk'; cases hk'
    | some q =>
      rw [hq] at hk'
      dsimp only at hk'
      cases hb : Nat.beq q.1 q.2
      · rw [hb] at hk'; cases hk'
      · rw [hb] at hk'
        have e := es_beq.mp hb
        have e2 := hF m q hq
        have e3 : q.1 = es_zb (ρ m) := by omega
        have e4 : some ((q.1 + 2147483648) % 4294967296) = some n := hk'
        rw [h', ← Option.some.inj e4, e3, es_bzt]
  | 2, h, hk => cases hk
  | 3, h, hk => cases hk
  | 4, h, hk => cases hk
  | 5, h, hk => cases hk
  | t + 6, h, hk => cases hk
theorem es_kn_ti {F : es_F} {v : es_V} {n : Nat} (hk : es_kn F v = some n) : es_ti v = true := by
  obtain ⟨t, m⟩ := v
  match t, hk with
  | 0, hk => rfl
  | 1, hk => rfl
  | 2, hk => cases hk
  | 3, hk => cases hk
  | 4, hk => cases hk
  | 5, hk => cases hk
  | t + 6, hk => cases hk
theorem es_bin_ok {F : es_F} (hF : es_fr ρ F) (f : Int32 → Int32 → Int32) {va vb : es_V} {x y : Int32} (ha : es_vr n0 b ρ va (.int x)) (hb : es_vr n0 b ρ vb (.int y)) : es_vr n0 b ρ (es_bin f F va vb) (.int (f x y)) := by
  unfold es_bin
  split
  · rename_i p q hp hq
    have e1 := es_kn_ok hF ha hp
    have e2 := es_kn_ok hF hb hq
    cases e1; cases e2
    exact es_vrc _
  · exact ⟨_, rfl⟩
theorem es_un_ok {F : es_F} (hF : es_fr ρ F) (f : Int32 → Int32) {va : es_V} {x : Int32} (ha : es_vr n0 b ρ va (.int x)) : es_vr n0 b ρ (es_un f F va) (.int (f x)) := by
  unfold es_un
  split
  · rename_i p hp
    have e1 := es_kn_ok hF ha hp
    cases e1
    exact es_vrc _
  · exact ⟨_, rfl⟩
theorem es_cmp_eq (op : es_Op) (x y : Int32) : es_cmp op (es_zb x) (es_zb y) = true ↔ (match op with
  | .eq => x = y
  | .ne => ¬ x = y
  | .lt => x < y
  | .ge => y ≤ x
  | .gt => y < x
  | .le => x ≤ y) := by
  cases op
  · exact ⟨fun h => es_zinj (es_beq.mp h), fun h => es_beq.mpr (by rw [show x = y from h])⟩
  · show (!Nat.beq (es_zb x) (es_zb y)) = true ↔ ¬ x = y
    rw [Bool.not_eq_true', es_beqf]
    exact ⟨fun h e => h (by rw [e]), fun h e => h (es_zinj e)⟩
  · show Nat.blt _ _ = true ↔ x < y
    rw [es_blt, es_zlt]
  · show Nat.ble _ _ = true ↔ y ≤ x
    rw [Nat.ble_eq, es_zle]
  · show Nat.blt _ _ = true ↔ y < x
    rw [es_blt, es_zlt]
  · show Nat.ble _ _ = true ↔ x ≤ y
    rw [Nat.ble_eq, es_zle]
theorem es_cmp_ng (op : es_Op) (x y : Nat) : es_cmp (es_ng op) x y = !es_cmp op x y := by
  have hlt : ∀ a c : Nat, Nat.ble a c = !Nat.blt c a := fun a c => by
    cases h : Nat.blt c a
    · have : ¬ c < a := fun e => by rw [es_blt.mpr e] at h; cases h
      exact Nat.ble_eq.mpr (by omega)
    · have := es_blt.mp h
      cases h2 : Nat.ble a c
      · rfl
      · have := Nat.ble_eq.mp h2; omega
  cases op <;> simp only [es_ng, es_cmp, Bool.not_not]
  · exact hlt _ _
  · rw [hlt, Bool.not_not]
  · exact hlt _ _
  · rw [hlt, Bool.not_not]
theorem es_cmp_sw (op : es_Op) (x y : Nat) : es_cmp (es_sw op) y x = es_cmp op x y := by
  have hb : Nat.beq y x = Nat.beq x y := by
    cases h : Nat.beq x y
    · exact es_beqf.mpr (Ne.symm (es_beqf.mp h))
    · exact es_beq.mpr (es_beq.mp h).symm
  cases op <;> simp only [es_sw, es_cmp, hb]
theorem es_iv_ok (op : es_Op) (c : Nat) (q : Nat × Nat) (z : Nat) (h1 : q.1 ≤ z) (h2 : z ≤ q.2) (h : es_cmp op z c = true) : ∃ r ∈ es_iv op c q, r.1 ≤ z ∧ z ≤ r.2 := by
  cases op
  · have e := es_beq.mp (show Nat.beq z c = true from h)
    subst e
    simp [es_iv, Nat.ble_eq.mpr h1, Nat.ble_eq.mpr h2]
  · have e : z ≠ c := es_beqf.mp (by simpa [es_cmp] using h)
    simp only [es_iv]
    cases ha : Nat.beq q.1 c
    · cases hb : Nat.beq q.2 c
      · exact ⟨q, List.mem_singleton.mpr rfl, h1, h2⟩
      · have := es_beq.mp hb
        exact ⟨(q.1, c - 1), List.mem_singleton.mpr rfl, h1, by show z ≤ c - 1; omega⟩
    · have := es_beq.mp ha
      cases hb : Nat.beq q.2 c
      · exact ⟨(c + 1, q.2), List.mem_singleton.mpr rfl, by show c + 1 ≤ z; omega, h2⟩
      · have := es_beq.mp hb; omega
  · have e : z < c := es_blt.mp h
    simp only [es_iv, es_blt.mpr (show q.1 < c by omega), cond_true]
    refine ⟨_, List.mem_singleton.mpr rfl, h1, ?_⟩
    cases hb : Nat.blt q.2 c
    · show z ≤ c - 1; omega
    · exact h2
  · have e : c ≤ z := Nat.ble_eq.mp h
    simp only [es_iv, Nat.ble_eq.mpr (show c ≤ q.2 by omega), cond_true]
    refine ⟨_, List.mem_singleton.mpr rfl, ?_, h2⟩
    cases hb : Nat.ble c q.1
    · exact e
    · exact h1
  · have e : c < z := es_blt.mp h
    simp only [es_iv, es_blt.mpr (show c < q.2 by omega), cond_true]
    refine ⟨_, List.mem_singleton.mpr rfl, ?_, h2⟩
    cases hb : Nat.blt c q.1
    · exact e
    · exact h1
  · have e : z ≤ c := Nat.ble_eq.mp h
    simp only [es_iv, Nat.ble_eq.mpr (show q.1 ≤ c by omega), cond_true]
    refine ⟨_, List.mem_singleton.mpr rfl, h1, ?_⟩
    cases hb : Nat.ble q.2 c
    · exact e
    · exact h2
theorem es_fr_set {F : es_F} (hF : es_fr ρ F) {k : Nat} {r : Nat × Nat} (h1 : r.1 ≤ es_zb (ρ k)) (h2 : es_zb (ρ k) ≤ r.2) : es_fr ρ (F.set k r) := by
  intro j q hq
  by_cases hj : k = j
  · subst hj
    rw [List.getElem?_set] at hq
    simp only [if_true] at hq
    by_cases hl : k < F.length
    · rw [if_pos hl] at hq; cases hq; exact ⟨h1, h2⟩
    · rw [if_neg hl] at hq; cases hq
  · rw [List.getElem?_set_ne hj] at hq
    exact hF j q hq
theorem es_br_ok {F : es_F} (hF : es_fr ρ F) (op : es_Op) {va vb : es_V} {x y : Int32} (ha : es_vr n0 b ρ va (.int x)) (hb : es_vr n0 b ρ vb (.int y)) (h : es_cmp op (es_zb x) (es_zb y) = true) : ∃ f ∈ es_br F op va vb, es_fr ρ f := by
  unfold es_br
  split
  · rename_i p q hp hq
    have e1 := es_kn_ok hF ha hp
    have e2 := es_kn_ok hF hb hq
    cases e1; cases e2
    rw [es_zbn, es_zbn] at h
    rw [h]
    exact ⟨F, List.mem_singleton.mpr rfl, hF⟩
  · rename_i q hp hq
    have e2 := es_kn_ok hF hb hq
    cases e2
    cases h1 : Nat.beq va.1 1
    · exact ⟨F, List.mem_singleton.mpr rfl, hF⟩
    · obtain ⟨t, k⟩ := va
      have e := es_beq.mp h1
      dsimp only at e
      subst e
      have hx : Value.int x = .int (ρ k) := ha
      cases hx
      dsimp only [cond_true]
      cases hk : F[k]? with
      | none => exact ⟨F, List.mem_singleton.mpr rfl, hF⟩
      | some r =>
        have hr := hF k r hk
        obtain ⟨r', hr', g1, g2⟩ := es_iv_ok op (es_bz q) r (es_zb (ρ k)) hr.1 hr.2 (by rw [← es_zbn]; exact h)
        exact ⟨_, List.mem_map.mpr ⟨r', hr', rfl⟩, es_fr_set hF g1 g2⟩
  · rename_i p hp hq
    have e1 := es_kn_ok hF ha hp
    cases e1
    cases h1 : Nat.beq vb.1 1
    · exact ⟨F, List.mem_singleton.mpr rfl, hF⟩
    · obtain ⟨t, k⟩ := vb
      have e := es_beq.mp h1
      dsimp only at e
      subst e
      have hx : Value.int y = .int (ρ k) := hb
      cases hx
      dsimp only [cond_true]
      cases hk : F[k]? with
      | none => exact ⟨F, List.mem_singleton.mpr rfl, hF⟩
      | some r =>
        have hr := hF k r hk
        obtain ⟨r', hr', g1, g2⟩ := es_iv_ok (es_sw op) (es_bz p) r (es_zb (ρ k)) hr.1 hr.2 (by rw [es_cmp_sw, ← es_zbn]; exact h)
        exact ⟨_, List.mem_map.mpr ⟨r', hr', rfl⟩, es_fr_set hF g1 g2⟩
  · exact ⟨F, List.mem_singleton.mpr rfl, hF⟩
theorem es_to_ok {pc : Nat} {off : Int} {t : Nat} (h : es_to pc off = some t) : (pc : Int) + off = (t : Int) := by
  unfold es_to at h
  split at h
  · rename_i u hu
    cases h
    exact hu
  · cases h
end RelLaws
end
section
section St
variable {n0 b : Nat} {ρ : Nat → Int32}
def es_all (ls : Array Slot) (nL : Nat) : List (Nat × Value) := (List.range nL).filterMap (fun (j : Nat) => match (ls[j]? : Option Slot) with
  | some (Slot.val x) => some (j, x)
  | _ => none)
theorem es_all_has {nL : Nat} {L : es_L} {ls : Array Slot} (h : es_lr n0 b ρ nL L ls) : lv_has ls nL (es_all ls nL) := by
  refine ⟨h.1, h.2.1, fun q hq => ?_⟩
  obtain ⟨j, -, hj⟩ := List.mem_filterMap.mp hq
  split at hj
  · rename_i x hx
    cases hj
    exact hx
  · cases hj
theorem es_all_in {nL j : Nat} {ls : Array Slot} {x : Value} (hs : ls.size = nL) (h : ls[j]? = some (.val x)) : (j, x) ∈ es_all ls nL := by
  have hl : j < nL := by rw [← hs]; exact (Array.getElem?_eq_some_iff.mp h).1
  refine List.mem_filterMap.mpr ⟨j, List.mem_range.mpr hl, ?_⟩
  rw [h]
theorem es_st_get {L : es_L} {i j : Nat} {v w : es_V} (h : es_get (es_st L i v) j = some w) : (j = i ∧ w = v) ∨ (j ≠ i ∧ es_get L j = some w ∧ (j + 1 = i → Nat.beq w.1 2 = false)) := by
  unfold es_st at h
  rw [es_get_set] at h
  by_cases hj : j = i
  · rw [if_pos hj] at h; cases h; exact Or.inl ⟨hj, rfl⟩
  · rw [if_neg hj] at h
    refine Or.inr ⟨hj, ?_⟩
    cases i with
    | zero => exact ⟨h, fun e => by omega⟩
    | succ k =>
      dsimp only at h
      cases hk : es_get L k with
      | none =>
        rw [hk] at h
        refine ⟨h, fun e => ?_⟩
        have : j = k := by omega
        subst this
        rw [hk] at h; cases h
      | some u =>
        rw [hk] at h
        dsimp only at h
        cases hu : Nat.beq u.1 2
        · rw [hu] at h
          dsimp only [cond_false] at h
          refine ⟨h, fun e => ?_⟩
          have : j = k := by omega
          subst this
          rw [hk] at h; cases h; exact hu
        · rw [hu] at h
          dsimp only [cond_true] at h
          rw [es_get_del] at h
          by_cases hjk : j = k
          · rw [if_pos hjk] at h; cases h
          · rw [if_neg hjk] at h
            exact ⟨h, fun e => by omega⟩
theorem es_lr_st {nL i : Nat} {L : es_L} {ls ls' : Array Slot} {v : es_V} {x : Value} (h : es_lr n0 b ρ nL L ls) (hv : es_vr n0 b ρ v x)
    (h' : lv_has ls' nL ((i, x) :: (es_all ls nL).filter (fun q => !(q.1 == i) && !(q.1 + 1 == i && q.2.category == 2)))) : es_lr n0 b ρ nL (es_st L i v) ls' := by
  refine ⟨h'.1, h'.2.1, fun j w hw => ?_⟩
  rcases es_st_get hw with ⟨rfl, rfl⟩ | ⟨hj, hw, h2⟩
  · exact ⟨x, h'.2.2 (j, x) List.mem_cons_self, hv⟩
  · obtain ⟨y, hy, hyr⟩ := h.2.2 j w hw
    refine ⟨y, h'.2.2 (j, y) (List.mem_cons_of_mem _ (List.mem_filter.mpr ⟨es_all_in h.1 hy, ?_⟩)), hyr⟩
    have e1 : (j == i) = false := by simpa using hj
    simp only [e1, Bool.not_false, Bool.true_and]
    by_cases e2 : j + 1 = i
    · have := es_cat1 hyr (h2 e2)
      simp [this]
    · simp [e2]
theorem es_lr_st2 {nL i : Nat} {L : es_L} {ls ls' : Array Slot} {v : es_V} {x : Value} (h : es_lr n0 b ρ nL L ls) (hv : es_vr n0 b ρ v x)
    (h' : lv_has ls' nL ((i, x) :: (es_all ls nL).filter (fun q => !(q.1 == i) && (!(q.1 == i + 1) && !(q.1 + 1 == i && q.2.category == 2))))) : es_lr n0 b ρ nL (es_del (es_st L i v) (i + 1)) ls' := by
  refine ⟨h'.1, h'.2.1, fun j w hw => ?_⟩
  rw [es_get_del] at hw
  by_cases hj1 : j = i + 1
  · rw [if_pos hj1] at hw; cases hw
  · rw [if_neg hj1] at hw
    rcases es_st_get hw with ⟨rfl, rfl⟩ | ⟨hj, hw, h2⟩
    · exact ⟨x, h'.2.2 (j, x) List.mem_cons_self, hv⟩
    · obtain ⟨y, hy, hyr⟩ := h.2.2 j w hw
      refine ⟨y, h'.2.2 (j, y) (List.mem_cons_of_mem _ (List.mem_filter.mpr ⟨es_all_in h.1 hy, ?_⟩)), hyr⟩
      have e1 : (j == i) = false := by simpa using hj
      have e3 : (j == i + 1) = false := by simpa using hj1
      simp only [e1, e3, Bool.not_false, Bool.true_and]
      by_cases e2 : j + 1 = i
      · have := es_cat1 hyr (h2 e2)
        simp [this]
      · simp [e2]
end St
section Pure
variable {p : Program} {l : Launch} {e : Env} {R : Room} {s : State} {m : MethodId} {args : Array Value} {below : List Frame} {meth : Method} {c : Code} {H : Heap} {locs : List Loc} {cells slots : Nat} {Q : State → Prop}
variable {cc : ByteArray} {pc pc' nL len : Nat} {ls : Array Slot} {n0 b : Nat} {ρ : Nat → Int32} {L L' : es_L} {S S' : List es_V} {F : es_F} {st : List Value} {ins : Instr}
/-- what a step without heap owes -/
def es_PG (p : Program) (l : Launch) (e : Env) (R : Room) (s : State) (m : MethodId) (args : Array Value) (below : List Frame) (meth : Method) (c : Code) (H : Heap) (locs : List Loc) (cells slots : Nat) (Q : State → Prop) (n0 b : Nat) (ρ : Nat → Int32) (nL : Nat) (pc' : Nat) (L' : es_L) (S' : List es_V) : Prop :=
  ∀ (ls' : Array Slot) (st' : List Value), es_lr n0 b ρ nL L' ls' → es_sr n0 b ρ S' st' → W p l e R s m args below meth c H locs cells slots Q (F0 m pc' ls' st')
theorem es_ld_ok {t : es_V → Bool} {i n : Nat} (h : es_ld t i n pc L S = some (pc', L', S')) (hl : es_lr n0 b ρ nL L ls) : ∃ v x, t v = true ∧ es_vr n0 b ρ v x ∧ ls[i]? = some (.val x) ∧ pc' = pc + n ∧ L' = L ∧ S' = v :: S := by
  unfold es_ld at h
  cases hv : es_get L i with
  | none => rw [hv] at h; cases h
  | some v =>
    rw [hv] at h
    dsimp only at h
    cases ht : t v
    · rw [ht] at h; cases h
    · rw [ht] at h
      obtain ⟨x, hx, hr⟩ := hl.2.2 i v hv
      cases h
      exact ⟨v, x, ht, hr, hx, rfl, rfl, rfl⟩
theorem es_sto_ok {t : es_V → Bool} {i n : Nat} (h : es_sto t nL i n pc L S = some (pc', L', S')) (hs : es_sr n0 b ρ S st) : ∃ v x st', t v = true ∧ es_vr n0 b ρ v x ∧ st = x :: st' ∧ es_sr n0 b ρ S' st' ∧ i < nL ∧ pc' = pc + n ∧ L' = es_st L i v := by
  unfold es_sto at h
  cases S with
  | nil => cases h
  | cons v S1 =>
    obtain ⟨x, st', e, hv, hs'⟩ := hs
    dsimp only at h
    cases ht : (t v && Nat.blt i nL)
    · rw [ht] at h; cases h
    · rw [ht] at h
      rw [Bool.and_eq_true] at ht
      cases h
      exact ⟨v, x, st', ht.1, hv, e, hs', es_blt.mp ht.2, rfl, rfl⟩
theorem es_lst_ok {i n : Nat} (h : es_lst nL i n pc L S = some (pc', L', S')) (hs : es_sr n0 b ρ S st) : ∃ v st', es_vr n0 b ρ v (.long (lN v.2)) ∧ st = .long (lN v.2) :: st' ∧ es_sr n0 b ρ S' st' ∧ i + 1 < nL ∧ pc' = pc + n ∧ L' = es_del (es_st L i v) (i + 1) := by
  unfold es_lst at h
  cases S with
  | nil => cases h
  | cons v S1 =>
    obtain ⟨x, st', e, hv, hs'⟩ := hs
    dsimp only at h
    cases ht : (Nat.beq v.1 2 && Nat.blt (i + 1) nL)
    · rw [ht] at h; cases h
    · rw [ht] at h
      rw [Bool.and_eq_true] at ht
      cases h
      have hx := es_t2_long hv ht.1
      subst hx
      exact ⟨v, st', hv, e, hs', es_blt.mp ht.2, rfl, rfl⟩
theorem es_i2_ok {f : Int32 → Int32 → Int32} (h : es_i2 f pc L S F = some (pc', L', S')) (hF : es_fr ρ F) (hs : es_sr n0 b ρ S st) : ∃ x y st', st = .int y :: .int x :: st' ∧ pc' = pc + 1 ∧ L' = L ∧ es_sr n0 b ρ S' (.int (f x y) :: st') := by
  unfold es_i2 at h
  split at h
  · rename_i vb va S1
    obtain ⟨y, st1, rfl, hvb, xx, st', rfl, hva, hs'⟩ := hs
    cases ht : (es_ti va && es_ti vb)
    · rw [ht] at h; cases h
    · rw [ht] at h
      rw [Bool.and_eq_true] at ht
      cases h
      obtain ⟨x, rfl⟩ := es_ti_int hva ht.1
      obtain ⟨y, rfl⟩ := es_ti_int hvb ht.2
      exact ⟨x, y, st', rfl, rfl, rfl, _, _, rfl, es_bin_ok hF f hva hvb, hs'⟩
  · cases h
theorem es_d2_ok {f : Int32 → Int32 → Int32} (h : es_d2 f pc L S F = some (pc', L', S')) (hF : es_fr ρ F) (hs : es_sr n0 b ρ S st) : ∃ x y st', st = .int y :: .int x :: st' ∧ ¬ y = 0 ∧ pc' = pc + 1 ∧ L' = L ∧ es_sr n0 b ρ S' (.int (f x y) :: st') := by
  unfold es_d2 at h
  split at h
  · rename_i vb va S1
    obtain ⟨y, st1, rfl, hvb, xx, st', rfl, hva, hs'⟩ := hs
    cases hk : es_kn F vb with
    | none => rw [hk] at h; cases h
    | some n =>
      rw [hk] at h
      dsimp only at h
      cases ht : (es_ti va && (es_ti vb && !decide (nI n = 0)))
      · rw [ht] at h; cases h
      · rw [ht] at h
        simp only [Bool.and_eq_true, Bool.not_eq_true', decide_eq_false_iff_not] at ht
        cases h
        obtain ⟨x, rfl⟩ := es_ti_int hva ht.1
        have e := es_kn_ok hF hvb hk
        subst e
        exact ⟨x, nI n, st', rfl, ht.2.2, rfl, rfl, _, _, rfl, es_bin_ok hF f hva hvb, hs'⟩
  · cases h
theorem es_l2_ok {f : Int64 → Int64 → Int64} (h : es_l2 f pc L S = some (pc', L', S')) (hs : es_sr n0 b ρ S st) : ∃ x y st', st = .long y :: .long x :: st' ∧ pc' = pc + 1 ∧ L' = L ∧ es_sr n0 b ρ S' (.long (f x y) :: st') := by
  unfold es_l2 at h
  split at h
  · rename_i vb va S1
    obtain ⟨y, st1, rfl, hvb, xx, st', rfl, hva, hs'⟩ := hs
    cases ht : (Nat.beq va.1 2 && Nat.beq vb.1 2)
    · rw [ht] at h; cases h
    · rw [ht] at h
      rw [Bool.and_eq_true] at ht
      cases h
      have e1 := es_t2_long hva ht.1
      have e2 := es_t2_long hvb ht.2
      subst e1; subst e2
      exact ⟨_, _, st', rfl, rfl, rfl, _, _, rfl, es_vrlc _, hs'⟩
  · cases h
theorem es_lsh_ok {f : Int64 → Int32 → Int64} (h : es_lsh f pc L S F = some (pc', L', S')) (hF : es_fr ρ F) (hs : es_sr n0 b ρ S st) : ∃ x y st', st = .int y :: .long x :: st' ∧ pc' = pc + 1 ∧ L' = L ∧ es_sr n0 b ρ S' (.long (f x y) :: st') := by
  unfold es_lsh at h
  split at h
  · rename_i vb va S1
    obtain ⟨y, st1, rfl, hvb, xx, st', rfl, hva, hs'⟩ := hs
    cases hk : es_kn F vb with
    | none => rw [hk] at h; cases h
    | some n =>
      rw [hk] at h
      dsimp only at h
      cases ht : (Nat.beq va.1 2 && es_ti vb)
      · rw [ht] at h; cases h
      · rw [ht] at h
        rw [Bool.and_eq_true] at ht
        cases h
        have e1 := es_t2_long hva ht.1
        have e2 := es_kn_ok hF hvb hk
        subst e1; subst e2
        exact ⟨_, _, st', rfl, rfl, rfl, _, _, rfl, es_vrlc _, hs'⟩
  · cases h
set_option maxHeartbeats 4000000 in
theorem es_pure_ok (hx : p.tables.exec = Jvm.exec) (hb : c.code = cc) (hF : es_fr ρ F) (hl : es_lr n0 b ρ nL L ls) (hs : es_sr n0 b ρ S st) (hd : decode cc pc = .ok (ins, es_len ins))
    (h : es_pure nL ins pc L S F = some (pc', L', S'))
    (k : es_PG p l e R s m args below meth c H locs cells slots Q n0 b ρ nL pc' L' S') : W p l e R s m args below meth c H locs cells slots Q (F0 m pc ls st) := by
  unfold es_pure at h
  split at h
  · cases h; exact lv_iconst hx hb hd rfl (k _ _ hl ⟨_, _, rfl, es_vrc _, hs⟩)
  · cases h; exact lv_bipush hx hb hd rfl (k _ _ hl ⟨_, _, rfl, es_vrc _, hs⟩)
  · cases h; exact lv_sipush hx hb hd rfl (k _ _ hl ⟨_, _, rfl, es_vrc _, hs⟩)
  · cases h; exact lv_lconst hx hb hd rfl (k _ _ hl ⟨_, _, rfl, es_vrlc _, hs⟩)
  -- loads
  · obtain ⟨v, x, ht, hr, hi, rfl, rfl, rfl⟩ := es_ld_ok h hl
    obtain ⟨z, rfl⟩ := es_ti_int hr ht
    exact lv_iload_n hx hb hd rfl hi (k _ _ hl ⟨_, _, rfl, hr, hs⟩)
  · obtain ⟨v, x, ht, hr, hi, rfl, rfl, rfl⟩ := es_ld_ok h hl
    obtain ⟨z, rfl⟩ := es_ti_int hr ht
    exact lv_iload hx hb hd hi (k _ _ hl ⟨_, _, rfl, hr, hs⟩)
  · obtain ⟨v, x, ht, hr, hi, rfl, rfl, rfl⟩ := es_ld_ok h hl
    have e := es_t2_long hr ht
    subst e
    exact lv_lload_n hx hb hd rfl hi (k _ _ hl ⟨_, _, rfl, hr, hs⟩)
  · obtain ⟨v, x, ht, hr, hi, rfl, rfl, rfl⟩ := es_ld_ok h hl
    have e := es_t2_long hr ht
    subst e
    exact lv_lload hx hb hd hi (k _ _ hl ⟨_, _, rfl, hr, hs⟩)
  · obtain ⟨v, x, ht, hr, hi, rfl, rfl, rfl⟩ := es_ld_ok h hl
    rcases es_tr_ref hr ht with rfl | ⟨a, rfl⟩
    · exact lv_aload_nN hx hb hd rfl hi (k _ _ hl ⟨_, _, rfl, hr, hs⟩)
    · exact lv_aload_n hx hb hd rfl hi (k _ _ hl ⟨_, _, rfl, hr, hs⟩)
  · obtain ⟨v, x, ht, hr, hi, rfl, rfl, rfl⟩ := es_ld_ok h hl
    rcases es_tr_ref hr ht with rfl | ⟨a, rfl⟩
    · exact lv_aloadN hx hb hd hi (k _ _ hl ⟨_, _, rfl, hr, hs⟩)
    · exact lv_aload hx hb hd hi (k _ _ hl ⟨_, _, rfl, hr, hs⟩)
  -- stores
  · obtain ⟨v, x, st', ht, hr, rfl, hs', hi, rfl, rfl⟩ := es_sto_ok h hs
    obtain ⟨z, rfl⟩ := es_ti_int hr ht
    exact lv_istore_n hx hb hd rfl (es_all_has hl) hi rfl (fun ls' h' => k _ _ (es_lr_st hl hr h') hs')
  · obtain ⟨v, x, st', ht, hr, rfl, hs', hi, rfl, rfl⟩ := es_sto_ok h hs
    obtain ⟨z, rfl⟩ := es_ti_int hr ht
    exact lv_istore hx hb hd (es_all_has hl) hi rfl (fun ls' h' => k _ _ (es_lr_st hl hr h') hs')
  · obtain ⟨v, st', hr, rfl, hs', hi, rfl, rfl⟩ := es_lst_ok h hs
    exact lv_lstore_n hx hb hd rfl (es_all_has hl) hi rfl (fun ls' h' => k _ _ (es_lr_st2 hl hr h') hs')
  · obtain ⟨v, st', hr, rfl, hs', hi, rfl, rfl⟩ := es_lst_ok h hs
    exact lv_lstore hx hb hd (es_all_has hl) hi rfl (fun ls' h' => k _ _ (es_lr_st2 hl hr h') hs')
  · obtain ⟨v, x, st', ht, hr, rfl, hs', hi, rfl, rfl⟩ := es_sto_ok h hs
    obtain ⟨a, rfl⟩ := es_t7_ref hr ht
    exact lv_astore_n hx hb hd rfl (es_all_has hl) hi rfl (fun ls' h' => k _ _ (es_lr_st hl hr h') hs')
  · obtain ⟨v, x, st', ht, hr, rfl, hs', hi, rfl, rfl⟩ := es_sto_ok h hs
    obtain ⟨a, rfl⟩ := es_t7_ref hr ht
    exact lv_astore hx hb hd (es_all_has hl) hi rfl (fun ls' h' => k _ _ (es_lr_st hl hr h') hs')
  -- iinc
  · rename_i i n
    cases hv : es_get L i with
    | none => rw [hv] at h; cases h
    | some v =>
      rw [hv] at h
      dsimp only at h
      cases ht : (es_ti v && Nat.blt i nL)
      · rw [ht] at h; cases h
      · rw [ht] at h
        rw [Bool.and_eq_true] at ht
        cases h
        obtain ⟨x, hi, hr⟩ := hl.2.2 i v hv
        obtain ⟨z, rfl⟩ := es_ti_int hr ht.1
        obtain ⟨kk, hkk⟩ := List.getElem?_of_mem (es_all_in hl.1 hi)
        exact lv_iinc (k := kk) hx hb hd (es_all_has hl) hkk rfl (es_blt.mp ht.2) rfl (fun ls' h' => k _ _ (es_lr_st hl (es_un_ok hF _ hr) h') hs)
  -- int arithmetic
  · obtain ⟨x, y, st', rfl, rfl, rfl, hs'⟩ := es_i2_ok h hF hs; exact lv_iadd hx hb hd (k _ _ hl hs')
  · obtain ⟨x, y, st', rfl, rfl, rfl, hs'⟩ := es_i2_ok h hF hs; exact lv_isub hx hb hd (k _ _ hl hs')
  · obtain ⟨x, y, st', rfl, rfl, rfl, hs'⟩ := es_i2_ok h hF hs; exact lv_imul hx hb hd (k _ _ hl hs')
  · obtain ⟨x, y, st', rfl, rfl, rfl, hs'⟩ := es_i2_ok h hF hs; exact lv_iand hx hb hd (k _ _ hl hs')
  · obtain ⟨x, y, st', rfl, rfl, rfl, hs'⟩ := es_i2_ok h hF hs; exact lv_ior hx hb hd (k _ _ hl hs')
  · obtain ⟨x, y, st', rfl, rfl, rfl, hs'⟩ := es_i2_ok h hF hs; exact lv_ixor hx hb hd (k _ _ hl hs')
  · obtain ⟨x, y, st', rfl, rfl, rfl, hs'⟩ := es_i2_ok h hF hs; exact lv_ishl hx hb hd (k _ _ hl hs')
  · obtain ⟨x, y, st', rfl, rfl, rfl, hs'⟩ := es_i2_ok h hF hs; exact lv_ishr hx hb hd (k _ _ hl hs')
  · obtain ⟨x, y, st', rfl, rfl, rfl, hs'⟩ := es_i2_ok h hF hs; exact lv_iushr hx hb hd rfl (k _ _ hl hs')
  · obtain ⟨x, y, st', rfl, hy, rfl, rfl, hs'⟩ := es_d2_ok h hF hs; exact lv_idiv hx hb hd hy (k _ _ hl hs')
  · obtain ⟨x, y, st', rfl, hy, rfl, rfl, hs'⟩ := es_d2_ok h hF hs; exact lv_irem hx hb hd hy (k _ _ hl hs')
  · obtain ⟨x, y, st', rfl, rfl, rfl, hs'⟩ := es_l2_ok h hs; exact lv_ladd hx hb hd (k _ _ hl hs')
  · obtain ⟨x, y, st', rfl, rfl, rfl, hs'⟩ := es_l2_ok h hs; exact lv_lsub hx hb hd (k _ _ hl hs')
  · obtain ⟨x, y, st', rfl, rfl, rfl, hs'⟩ := es_l2_ok h hs; exact lv_lmul hx hb hd (k _ _ hl hs')
  · obtain ⟨x, y, st', rfl, rfl, rfl, hs'⟩ := es_l2_ok h hs; exact lv_land hx hb hd (k _ _ hl hs')
  · obtain ⟨x, y, st', rfl, rfl, rfl, hs'⟩ := es_l2_ok h hs; exact lv_lor hx hb hd (k _ _ hl hs')
  -- ldiv
  · split at h
    · rename_i vb va S1
      obtain ⟨y, st1, rfl, hvb, xx, st', rfl, hva, hs'⟩ := hs
      cases ht : ((Nat.beq va.1 2 && Nat.beq vb.1 2) && !decide (lN vb.2 = 0))
      · rw [ht] at h; cases h
      · rw [ht] at h
        simp only [Bool.and_eq_true, Bool.not_eq_true', decide_eq_false_iff_not] at ht
        cases h
        have e1 := es_t2_long hva ht.1.1
        have e2 := es_t2_long hvb ht.1.2
        subst e1; subst e2
        exact lv_ldiv hx hb hd ht.2 (k _ _ hl ⟨_, _, rfl, es_vrlc _, hs'⟩)
    · cases h
  · obtain ⟨x, y, st', rfl, rfl, rfl, hs'⟩ := es_lsh_ok h hF hs; exact lv_lshl hx hb hd rfl (k _ _ hl hs')
  · obtain ⟨x, y, st', rfl, rfl, rfl, hs'⟩ := es_lsh_ok h hF hs; exact lv_lshr hx hb hd rfl (k _ _ hl hs')
  · obtain ⟨x, y, st', rfl, rfl, rfl, hs'⟩ := es_lsh_ok h hF hs; exact lv_lushr hx hb hd rfl (k _ _ hl hs')
  -- i2l
  · split at h
    · rename_i va S1
      obtain ⟨xx, st', rfl, hva, hs'⟩ := hs
      cases hk : es_kn F va with
      | none => rw [hk] at h; cases h
      | some n =>
        rw [hk] at h
        cases h
        have e := es_kn_ok hF hva hk
        subst e
        exact lv_i2l hx hb hd rfl (k _ _ hl ⟨_, _, rfl, es_vrlc _, hs'⟩)
    · cases h
  -- l2i
  · split at h
    · rename_i va S1
      obtain ⟨xx, st', rfl, hva, hs'⟩ := hs
      cases ht : Nat.beq va.1 2
      · rw [ht] at h; cases h
      · rw [ht] at h
        cases h
        have e := es_t2_long hva ht
        subst e
        exact lv_l2i hx hb hd rfl (k _ _ hl ⟨_, _, rfl, es_vrc _, hs'⟩)
    · cases h
  -- lcmp
  · split at h
    · rename_i vb va S1
      obtain ⟨y, st1, rfl, hvb, xx, st', rfl, hva, hs'⟩ := hs
      cases ht : (Nat.beq va.1 2 && Nat.beq vb.1 2)
      · rw [ht] at h; cases h
      · rw [ht] at h
        rw [Bool.and_eq_true] at ht
        cases h
        have e1 := es_t2_long hva ht.1
        have e2 := es_t2_long hvb ht.2
        subst e1; subst e2
        exact W.lcmp hx hb hd (k _ _ hl ⟨_, _, rfl, es_vrc _, hs'⟩)
    · cases h
  -- dup
  · split at h
    · rename_i va S1
      obtain ⟨xx, st', rfl, hva, hs'⟩ := hs
      cases ht : es_t2 va
      · rw [ht] at h
        cases h
        exact lv_dup hx hb hd (es_cat1 hva ht) (k _ _ hl ⟨_, _, rfl, hva, _, _, rfl, hva, hs'⟩)
      · rw [ht] at h; cases h
    · cases h
  -- pop
  · split at h
    · rename_i va S1
      obtain ⟨xx, st', rfl, hva, hs'⟩ := hs
      cases ht : es_t2 va
      · rw [ht] at h
        cases h
        exact lv_pop hx hb hd (es_cat1 hva ht) (k _ _ hl hs')
      · rw [ht] at h; cases h
    · cases h
  -- dup2
  · split at h
    · rename_i vb va S1
      obtain ⟨y, st1, rfl, hvb, xx, st', rfl, hva, hs'⟩ := hs
      cases ht : (es_t2 va || es_t2 vb)
      · rw [ht] at h
        rw [Bool.or_eq_false_iff] at ht
        cases h
        exact lv_dup2_11 hx hb hd (es_cat1 hvb ht.2) (es_cat1 hva ht.1) (k _ _ hl ⟨_, _, rfl, hvb, _, _, rfl, hva, _, _, rfl, hvb, _, _, rfl, hva, hs'⟩)
      · rw [ht] at h; cases h
    · cases h
  -- goto
  · rename_i off
    cases ht : es_to pc off with
    | none => rw [ht] at h; cases h
    | some t =>
      rw [ht] at h
      cases h
      exact lv_goto hx hb hd (es_to_ok ht) (k _ _ hl hs)
  -- ifnull
  · rename_i off
    split at h
    · rename_i va S1
      obtain ⟨xx, st', rfl, hva, hs'⟩ := hs
      cases h4 : Nat.beq va.1 4
      · rw [h4] at h
        dsimp only [cond_false] at h
        cases h3 : Nat.beq va.1 3
        · rw [h3] at h; cases h
        · rw [h3] at h
          cases h
          have e := es_t3_ref hva h3
          subst e
          exact lv_ifnull hx hb hd (k _ _ hl hs')
      · rw [h4] at h
        dsimp only [cond_true] at h
        cases ht : es_to pc off with
        | none => rw [ht] at h; cases h
        | some t =>
          rw [ht] at h
          cases h
          have e := es_t4_null hva h4
          subst e
          exact lv_ifnullN hx hb hd (es_to_ok ht) (k _ _ hl hs')
    · cases h
  -- ifnonnull
  · rename_i off
    split at h
    · rename_i va S1
      obtain ⟨xx, st', rfl, hva, hs'⟩ := hs
      cases h3 : Nat.beq va.1 3
      · rw [h3] at h
        dsimp only [cond_false] at h
        cases h4 : Nat.beq va.1 4
        · rw [h4] at h; cases h
        · rw [h4] at h
          cases h
          have e := es_t4_null hva h4
          subst e
          exact lv_ifnonnullN hx hb hd (k _ _ hl hs')
      · rw [h3] at h
        dsimp only [cond_true] at h
        cases ht : es_to pc off with
        | none => rw [ht] at h; cases h
        | some t =>
          rw [ht] at h
          cases h
          have e := es_t3_ref hva h3
          subst e
          exact lv_ifnonnull hx hb hd (es_to_ok ht) (k _ _ hl hs')
    · cases h
  · cases h
end Pure
end
section
def es_dv (t : Nat) : es_V := match t with
  | 1 => (2, 0)
  | 3 => (4, 0)
  | 4 => (4, 0)
  | _ => (0, 0)
def es_ad (t : Nat) (c : List (Nat × es_V)) (j : Nat) : es_V := match es_get c j with
  | some v => v
  | none => es_dv t
section Hp
variable (D : va_G) (tys : List (ClassId × FieldType)) (n0 b : Nat) (ρ : Nat → Int32)
def es_or (a : Nat) (o : es_O) (H : Heap) : Prop := match o.1 with
  | 0 => ∃ (r : vw_C) (V : Nat → Value), vwCl[o.2.1]? = some r ∧ t_OB a (D.1 o.2.1) r.2.2 (D.2 o.2.1) H V ∧ ∀ k v, es_get o.2.2 k = some v → k < r.2.2 ∧ es_vr n0 b ρ v (V k)
  | 1 => True
  | t + 2 => ∃ (q : ClassId × FieldType) (V : Nat → Value), tys[t]? = some q ∧ H[a]? = some (arrV q.1 o.2.1 V) ∧ ∀ j, j < o.2.1 → es_vr n0 b ρ (es_ad t o.2.2 j) (V j)
def es_hr (AH : List es_O) (H : Heap) : Prop := H.size = n0 + AH.length ∧ ∀ i o, AH[i]? = some o → es_or D tys n0 b ρ (n0 + i) o H
end Hp
section HpL
variable {D : va_G} {tys : List (ClassId × FieldType)} {n0 b : Nat} {ρ : Nat → Int32}
theorem es_or_kept {a : Nat} {o : es_O} {H H1 : Heap} (h : es_or D tys n0 b ρ a o H) (hq : H1[a]? = H[a]?) : es_or D tys n0 b ρ a o H1 := by
  obtain ⟨t, i, c⟩ := o
  match t, h with
  | 0, h =>
    obtain ⟨r, V, h1, h2, h3⟩ := h
    exact ⟨r, V, h1, h2.kept hq, h3⟩
  | 1, h => trivial
  | t + 2, h =>
    obtain ⟨q, V, h1, h2, h3⟩ := h
    exact ⟨q, V, h1, hq.trans h2, h3⟩
theorem es_hr_set {AH : List es_O} {H H1 : Heap} {i : Nat} {o : es_O} (h : es_hr D tys n0 b ρ AH H) (hz : H1.size = H.size) (ho : ∀ q : Nat, q ≠ n0 + i → H1[q]? = H[q]?) (hn : es_or D tys n0 b ρ (n0 + i) o H1) : es_hr D tys n0 b ρ (AH.set i o) H1 := by
  refine ⟨by rw [hz, h.1, List.length_set], fun j q hq => ?_⟩
  by_cases hj : i = j
  · subst hj
    rw [List.getElem?_set] at hq
    simp only [if_true] at hq
    by_cases hl : i < AH.length
    · rw [if_pos hl] at hq; cases hq; exact hn
    · rw [if_neg hl] at hq; cases hq
  · rw [List.getElem?_set_ne hj] at hq
    exact es_or_kept (h.2 j q hq) (ho _ (by omega))
theorem es_hr_push {AH : List es_O} {H H1 : Heap} {o : es_O} (h : es_hr D tys n0 b ρ AH H) (hz : H1.size = H.size + 1) (ho : ∀ q : Nat, q < H.size → H1[q]? = H[q]?) (hn : es_or D tys n0 b ρ H.size o H1) : es_hr D tys n0 b ρ (AH ++ [o]) H1 := by
  refine ⟨by rw [hz, h.1, List.length_append]; rfl, fun j q hq => ?_⟩
  by_cases hj : j < AH.length
  · rw [List.getElem?_append_left hj] at hq
    exact es_or_kept (h.2 j q hq) (ho _ (by rw [h.1]; omega))
  · have hl : j < (AH ++ [o]).length := (List.getElem?_eq_some_iff.mp hq).1
    rw [List.length_append] at hl
    have hl2 : j < AH.length + 1 := hl
    have e : j = AH.length := by omega
    subst e
    rw [List.getElem?_append_right (Nat.le_refl _), Nat.sub_self] at hq
    cases hq
    rw [← h.1]
    exact hn
end HpL
def es_fitv (ty : FieldType) (F : es_F) (v : es_V) : Bool := match ty with
  | .int => es_ti v
  | .boolean => match es_kn F v with
    | some n => Nat.beq n 0 || Nat.beq n 1
    | none => false
  | .object _ => es_tr v
  | .array _ => es_tr v
  | _ => false
theorem es_fitv_ok {n0 b : Nat} {ρ : Nat → Int32} {ty : FieldType} {F : es_F} {v : es_V} {x : Value} (hF : es_fr ρ F) (hv : es_vr n0 b ρ v x) (h : es_fitv ty F v = true) : narrow ty x = x ∧ fits ty x = true := by
  unfold es_fitv at h
  split at h
  · obtain ⟨z, rfl⟩ := es_ti_int hv h
    exact ⟨rfl, rfl⟩
  · cases hk : es_kn F v with
    | none => rw [hk] at h; cases h
    | some n =>
      rw [hk] at h
      dsimp only at h
      rw [Bool.or_eq_true, es_beq, es_beq] at h
      have e := es_kn_ok hF hv hk
      subst e
      rcases h with rfl | rfl
      · exact ⟨by decide +kernel, by decide +kernel⟩
      · exact ⟨by decide +kernel, by decide +kernel⟩
  · rcases es_tr_ref hv h with rfl | ⟨a, rfl⟩
    · exact ⟨rfl, rfl⟩
    · exact ⟨rfl, rfl⟩
  · rcases es_tr_ref hv h with rfl | ⟨a, rfl⟩
    · exact ⟨rfl, rfl⟩
    · exact ⟨rfl, rfl⟩
  · cases h
section Rd
variable {p : Program} {l : Launch} {e : Env} {R : Room} {s : State} {m : MethodId} {args : Array Value} {below : List Frame} {meth : Method} {c : Code} {H : Heap} {locs : List Loc} {cells slots : Nat} {Q : State → Prop}
variable {cc : ByteArray} {pc nL : Nat} {ls : Array Slot} {n0 b : Nat} {ρ : Nat → Int32} {D : va_G} {tys : List (ClassId × FieldType)} {A : Nat → Prop} {H0 : Heap} {rest : List Value} {Ts : List Cond} {own : String}
theorem es_getf (hx : p.tables.exec = Jvm.exec) (hb : c.code = cc) (hown : s.vm.findClass own = some m.cls) (hts : ∀ w ∈ Ts, w.before args s = true) (hK : va_K D vwCl tys s) {C : String} {T : u_T} {N ci k index a : Nat} (hc : vwCl[ci]? = some (C, T, N)) (hin : ∀ w ∈ u_ws C T N, w ∈ Ts)
    (hlink : Cond.fieldLink own index (T k).1 (T k).2.1 (T k).2.2.1 ∈ Ts) {cs : List (Nat × es_V)} (ho : es_or D tys n0 b ρ a (0, ci, cs) H) {v : es_V} (hv : es_get cs k = some v) (hd : decode cc pc = .ok (.getfield index, 3))
    (kk : ∀ x, es_vr n0 b ρ v x → W p l e R s m args below meth c H locs cells slots Q (F0 m (pc + 3) ls (x :: rest))) : W p l e R s m args below meth c H locs cells slots Q (F0 m pc ls (.ref a :: rest)) := by
  obtain ⟨r, V, h1, ⟨cell, q1, q2, q3, q4⟩, h3⟩ := ho
  have hr : r = (C, T, N) := Option.some.inj (h1.symm.trans hc)
  subst hr
  obtain ⟨hk, hvr⟩ := h3 k v hv
  obtain ⟨hS, hfc, kC, hkC, hkind⟩ := hK.1 ci _ hc
  obtain ⟨cf, kf, fi, f, hi, hsl⟩ := hS k hk
  refine W.getf hx hb hown (hts _ hlink) hi (u_facts hfc hkC (u_lays hts hin hk) hi).1 q1 (by rw [q3]; exact fun h => by cases h) (v := V k) ?_ rfl rfl hd (kk _ hvr)
  rw [hsl, q4 k hk]
theorem es_putf (hx : p.tables.exec = Jvm.exec) (hb : c.code = cc) (hown : s.vm.findClass own = some m.cls) (hts : ∀ w ∈ Ts, w.before args s = true) (hK : va_K D vwCl tys s) {C : String} {T : u_T} {N ci k index a : Nat} (hc : vwCl[ci]? = some (C, T, N)) (hin : ∀ w ∈ u_ws C T N, w ∈ Ts)
    (ty0 : Nat → FieldType) (hty : ∀ k, k < N → parseFieldDescriptor (T k).2.2.1 = some (ty0 k)) (hnm : ∀ a, a < N → ∀ b, b < N → a ≠ b → (T a).2.1 ≠ (T b).2.1)
    (hlink : Cond.fieldLink own index (T k).1 (T k).2.1 (T k).2.2.1 ∈ Ts) (hfin : (T k).2.2.2 = false ∨ (meth.name = "<init>" ∧ (T k).1 = own)) {cs : List (Nat × es_V)} (ho : es_or D tys n0 b ρ a (0, ci, cs) H) {v w : es_V} (hw : es_get cs k = some w) {x : Value} (hv : es_vr n0 b ρ v x) (hn : narrow (ty0 k) x = x) (hft : fits (ty0 k) x = true) (hd : decode cc pc = .ok (.putfield index, 3))
    (kk : ∀ (H1 : Heap) (i : Nat), es_or D tys n0 b ρ a (0, ci, es_set cs k v) H1 → H1.size = H.size → (∀ q : Nat, q ≠ a → H1[q]? = H[q]?) → W p l e R s m args below meth c H1 (locs ++ [⟨a, i⟩]) cells slots Q (F0 m (pc + 3) ls rest)) : W p l e R s m args below meth c H locs cells slots Q (F0 m pc ls (x :: .ref a :: rest)) := by
  have hap := va_apart (own := own) hts hin ty0 hty hnm hK hc
  obtain ⟨r, V, h1, ⟨cell, q1, q2, q3, q4⟩, h3⟩ := ho
  have hr : r = (C, T, N) := Option.some.inj (h1.symm.trans hc)
  subst hr
  obtain ⟨hk, -⟩ := h3 k w hw
  obtain ⟨hS, hfc, kC, hkC, hkind⟩ := hK.1 ci _ hc
  obtain ⟨cf, kf, fi, f, hi, hsl⟩ := hS k hk
  have hst := (u_facts hfc hkC (u_lays hts hin hk) hi).1
  have hend : ∀ H1 : Heap, H1[a]? = some (cell.setSlot (D.2 ci k) x) → es_or D tys n0 b ρ a (0, ci, es_set cs k v) H1 := by
    intro H1 e1
    refine ⟨(C, T, N), updV V k x, hc, ⟨_, e1, q2, q3, t_set q4 hap hk x⟩, fun j u hu => ?_⟩
    rw [es_get_set] at hu
    by_cases hj : j = k
    · rw [if_pos hj] at hu
      cases hu
      subst hj
      refine ⟨hk, ?_⟩
      simp only [updV, if_true]
      exact hv
    · rw [if_neg hj] at hu
      obtain ⟨g1, g2⟩ := h3 j u hu
      refine ⟨g1, ?_⟩
      simp only [updV, if_neg hj]
      exact g2
  by_cases hf : (T k).2.2.2 = false
  · have hlay := hts _ (hin _ (u_in_lay hk))
    unfold u_lay at hlay
    rw [if_neg (by rw [hf]; decide)] at hlay
    have h6 := u_store hfc hkC hkind hlay hi (hty k hk) hn hft
    refine W.putK hx hb (f := f) ⟨hown, hts _ hlink, ⟨_, _, _, hi⟩, hst⟩ (by rw [q2]; exact h6) q1 q3 (by rw [hsl]; exact k2_hasslot (q4 k hk)) rfl rfl hd fun H' e1 e2 e3 => ?_
    rw [hsl] at e1 ⊢
    exact kk H' _ (hend H' e1) e2 e3
  · rcases hfin with h | ⟨hin2, hdecl⟩
    · exact absurd h hf
    · have hlay := hts _ (hin _ (u_in_lay hk))
      unfold u_lay at hlay
      rw [if_pos (show (T k).2.2.2 = true by cases hz : (T k).2.2.2 <;> simp_all)] at hlay
      have hcf : m.cls = cf := by
        obtain ⟨_, _, c', _, _, _, -, -, hf', -, -, -, hown2, -⟩ := Cond.laysFinal_spec hlay
        have e1 : c' = cf := by have := hi.symm.trans hf'; simp at this; exact this.1.symm
        rw [hdecl] at hown2
        rw [← e1]; exact Option.some.inj (hown.symm.trans hown2)
      have h6 := u_fits hfc hkC hkind (u_lays hts hin hk) hi (hty k hk) hn hft
      refine W.putFinK hx hb hown (hts _ hlink) hi hst hcf hin2 (by rw [q2]; exact h6) q1 q3 (by rw [hsl]; exact k2_hasslot (q4 k hk)) rfl rfl hd fun H' e1 e2 e3 => ?_
      rw [hsl] at e1 ⊢
      exact kk H' _ (hend H' e1) e2 e3
end Rd
end
section
def es_aset (t : Nat) (c : List (Nat × es_V)) (j : Nat) (v : es_V) : List (Nat × es_V) := match es_get c j with
  | some _ => es_set c j v
  | none => bif Nat.beq v.1 (es_dv t).1 && Nat.beq v.2 (es_dv t).2 then c else es_set c j v
theorem es_ad_set (t : Nat) (c : List (Nat × es_V)) (j i : Nat) (v : es_V) : es_ad t (es_aset t c j v) i = if i = j then v else es_ad t c i := by
  have hs : es_ad t (es_set c j v) i = if i = j then v else es_ad t c i := by
    unfold es_ad
    rw [es_get_set]
    by_cases h : i = j
    · simp [h]
    · simp [h]
  unfold es_aset
  split
  · exact hs
  · rename_i hn
    cases hb : (Nat.beq v.1 (es_dv t).1 && Nat.beq v.2 (es_dv t).2)
    · exact hs
    · rw [Bool.and_eq_true, es_beq, es_beq] at hb
      have e : v = es_dv t := Prod.ext hb.1 hb.2
      dsimp only [cond_true]
      by_cases h : i = j
      · subst h
        rw [if_pos rfl, e]
        unfold es_ad
        rw [hn]
      · rw [if_neg h]
section Ar
variable {p : Program} {l : Launch} {e : Env} {R : Room} {s : State} {m : MethodId} {args : Array Value} {below : List Frame} {meth : Method} {c : Code} {H : Heap} {locs : List Loc} {cells slots : Nat} {Q : State → Prop}
variable {cc : ByteArray} {pc nL : Nat} {ls : Array Slot} {n0 b : Nat} {ρ : Nat → Int32} {D : va_G} {tys : List (ClassId × FieldType)} {A : Nat → Prop} {H0 : Heap} {rest : List Value} {Ts : List Cond} {own : String}
def es_lop (t : Nat) : Instr := match t with
  | 0 => .iaload
  | 1 => .laload
  | 2 => .baload
  | _ => .aaload
def es_sop (t : Nat) : Instr := match t with
  | 0 => .iastore
  | 1 => .lastore
  | 2 => .bastore
  | _ => .aastore
def es_tyq (t : Nat) : FieldType := match t with
  | 0 => .int
  | 1 => .long
  | 2 => .boolean
  | 3 => .object RX2
  | _ => .object RX7
abbrev es_TY (cI cJ cZ cC cM : ClassId) : List (ClassId × FieldType) := [(cI, .int), (cJ, .long), (cZ, .boolean), (cC, .object RX2), (cM, .object RX7)]
variable {cI cJ cZ cC cM : ClassId}
theorem es_TY_at {t : Nat} {q : ClassId × FieldType} (h : (es_TY cI cJ cZ cC cM)[t]? = some q) : q.2 = es_tyq t ∧ t < 5 := by
  match t, h with
  | 0, h => cases h; exact ⟨rfl, by decide⟩
  | 1, h => cases h; exact ⟨rfl, by decide⟩
  | 2, h => cases h; exact ⟨rfl, by decide⟩
  | 3, h => cases h; exact ⟨rfl, by decide⟩
  | 4, h => cases h; exact ⟨rfl, by decide⟩
  | t + 5, h => simp at h
theorem es_ald (hx : p.tables.exec = Jvm.exec) (hb : c.code = cc) (hK : va_K D vwCl (es_TY cI cJ cZ cC cM) s) {t n j a : Nat} {cs : List (Nat × es_V)} (ho : es_or D (es_TY cI cJ cZ cC cM) n0 b ρ a (t + 2, n, cs) H) (hj : j < n) (hn : n < 2147483648) (hd : decode cc pc = .ok (es_lop t, 1))
    (kk : ∀ x, es_vr n0 b ρ (es_ad t cs j) x → W p l e R s m args below meth c H locs cells slots Q (F0 m (pc + 1) ls (x :: rest))) : W p l e R s m args below meth c H locs cells slots Q (F0 m pc ls (.int (nI j) :: .ref a :: rest)) := by
  obtain ⟨⟨cA, ty⟩, V, h1, h2, h3⟩ := ho
  obtain ⟨e1, ht⟩ := es_TY_at h1
  dsimp only at e1 h2 h3
  subst e1
  have hA := (hK.2 t _ h1).1
  have hin : ¬ (nI j < 0 ∨ (arrV cA n V).slots.size ≤ (nI j).toNatClampNeg) := by rw [arrV_size]; exact nI_in hj hn
  have hrd : (arrV cA n V).slots[(nI j).toNatClampNeg]? = some (V j) := by rw [nI_clamp (by omega), arrV_read _ _ hj]
  have hkn : (arrV cA n V).vm ≠ .unknown := fun q => by cases q
  match t, ht, hA, hd, h3 with
  | 0, _, hA, hd, h3 => exact W.iald hx hb h2 (hA n V) hkn hin hrd rfl rfl hd (kk _ (h3 j hj))
  | 1, _, hA, hd, h3 => exact W.lald hx hb h2 (hA n V) hkn hin hrd rfl rfl hd (kk _ (h3 j hj))
  | 2, _, hA, hd, h3 => exact W.zald hx hb h2 (hA n V) hkn hin hrd rfl rfl hd (kk _ (h3 j hj))
  | 3, _, hA, hd, h3 => exact W.aald hx hb h2 (hA n V) rfl hkn hin hrd rfl rfl hd (kk _ (h3 j hj))
  | 4, _, hA, hd, h3 => exact W.aald hx hb h2 (hA n V) rfl hkn hin hrd rfl rfl hd (kk _ (h3 j hj))
  | t + 5, ht, _, _, _ => exact absurd ht (by omega)
theorem es_aln (hx : p.tables.exec = Jvm.exec) (hb : c.code = cc) (hK : va_K D vwCl (es_TY cI cJ cZ cC cM) s) {t n a : Nat} {cs : List (Nat × es_V)} (ho : es_or D (es_TY cI cJ cZ cC cM) n0 b ρ a (t + 2, n, cs) H) (hd : decode cc pc = .ok (.arraylength, 1))
    (kk : W p l e R s m args below meth c H locs cells slots Q (F0 m (pc + 1) ls (.int (nI n) :: rest))) : W p l e R s m args below meth c H locs cells slots Q (F0 m pc ls (.ref a :: rest)) := by
  obtain ⟨⟨cA, ty⟩, V, h1, h2, h3⟩ := ho
  exact W.alen (n := nI n) hx hb h2 ((hK.2 t _ h1).1 n V) (by rw [arrV_size]; rfl) rfl rfl hd kk
/-- what may be stored: an int, a long, a truth, a reference to an object of the row's own kind -/
def es_sfit (AH : List es_O) (F : es_F) (t : Nat) (v : es_V) : Bool := match t with
  | 0 => es_ti v
  | 1 => Nat.beq v.1 2
  | 2 => es_fitv .boolean F v
  | t + 3 => bif Nat.beq v.1 3 then (match AH[v.2]? with
      | some o => Nat.beq o.1 0 && Nat.beq o.2.1 (bif Nat.beq t 0 then 2 else 7)
      | none => false) else false
theorem es_ast (hx : p.tables.exec = Jvm.exec) (hb : c.code = cc) (hK : va_K D vwCl (es_TY cI cJ cZ cC cM) s) {AH : List es_O} {F : es_F} (hF : es_fr ρ F) (hH : es_hr D (es_TY cI cJ cZ cC cM) n0 b ρ AH H) {t n j a : Nat} {cs : List (Nat × es_V)} (ho : es_or D (es_TY cI cJ cZ cC cM) n0 b ρ a (t + 2, n, cs) H) (hj : j < n) (hn : n < 2147483648) {v : es_V} {x : Value} (hv : es_vr n0 b ρ v x) (hfit : es_sfit AH F t v = true) (hd : decode cc pc = .ok (es_sop t, 1))
    (kk : ∀ (H1 : Heap) (i : Nat), es_or D (es_TY cI cJ cZ cC cM) n0 b ρ a (t + 2, n, es_aset t cs j v) H1 → H1.size = H.size → (∀ q : Nat, q ≠ a → H1[q]? = H[q]?) → W p l e R s m args below meth c H1 (locs ++ [⟨a, i⟩]) cells slots Q (F0 m (pc + 1) ls rest)) : W p l e R s m args below meth c H locs cells slots Q (F0 m pc ls (x :: .int (nI j) :: .ref a :: rest)) := by
  obtain ⟨⟨cA, ty⟩, V, h1, h2, h3⟩ := ho
  obtain ⟨e1, ht⟩ := es_TY_at h1
  dsimp only at e1 h2 h3
  subst e1
  have hA := (hK.2 t _ h1).1
  have hin : ¬ (nI j < 0 ∨ (arrV cA n V).slots.size ≤ (nI j).toNatClampNeg) := by rw [arrV_size]; exact nI_in hj hn
  have hkn : (arrV cA n V).vm ≠ .unknown := fun q => by cases q
  have hcl : (nI j).toNatClampNeg = j := nI_clamp (by omega)
  have hend : ∀ H1 : Heap, H1[a]? = some ((arrV cA n V).setSlot (nI j).toNatClampNeg x) → es_or D (es_TY cI cJ cZ cC cM) n0 b ρ a (t + 2, n, es_aset t cs j v) H1 := by
    intro H1 g1
    rw [hcl, arrV_store] at g1
    refine ⟨(cA, es_tyq t), updV V j x, h1, g1, fun i hi => ?_⟩
    rw [es_ad_set]
    by_cases hij : i = j
    · simp only [updV, if_pos hij]; exact hv
    · simp only [updV, if_neg hij]; exact h3 i hi
  match t, ht, hA, hd, hfit, hend, h1 with
  | 0, _, hA, hd, hfit, hend, _ =>
    obtain ⟨z, rfl⟩ := es_ti_int hv hfit
    exact W.iast hx hb h2 (hA n V) hkn hin rfl rfl hd fun H1 g1 g2 g3 => kk H1 _ (hend H1 g1) g2 g3
  | 1, _, hA, hd, hfit, hend, _ =>
    have e2 := es_t2_long hv hfit
    subst e2
    exact W.last hx hb h2 (hA n V) hkn hin rfl rfl hd fun H1 g1 g2 g3 => kk H1 _ (hend H1 g1) g2 g3
  | 2, _, hA, hd, hfit, hend, _ =>
    have e2 := es_fitv_ok hF hv (ty := .boolean) hfit
    have hti : es_ti v = true := by
      have h9 : (match es_kn F v with | some n => Nat.beq n 0 || Nat.beq n 1 | none => false) = true := hfit
      cases hk : es_kn F v with
      | none => rw [hk] at h9; cases h9
      | some n => exact es_kn_ti hk
    obtain ⟨z, rfl⟩ := es_ti_int hv hti
    refine W.zast hx hb h2 (hA n V) hkn hin rfl rfl hd fun H1 g1 g2 g3 => kk H1 _ (hend H1 ?_) g2 g3
    rw [e2.1] at g1
    exact g1
  | t + 3, ht, hA, hd, hfit, hend, h1 =>
    unfold es_sfit at hfit
    dsimp only at hfit
    cases h3v : Nat.beq v.1 3
    · rw [h3v] at hfit; cases hfit
    · rw [h3v] at hfit
      dsimp only [cond_true] at hfit
      have e2 := es_t3_ref hv h3v
      subst e2
      cases hav : AH[v.2]? with
      | none => rw [hav] at hfit; cases hfit
      | some o =>
        rw [hav] at hfit
        dsimp only at hfit
        obtain ⟨ok, oi, oc⟩ := o
        rw [Bool.and_eq_true, es_beq, es_beq] at hfit
        obtain ⟨hf1, hf2⟩ := hfit
        dsimp only at hf1 hf2
        subst hf1
        obtain ⟨r, V', k1, ⟨cellV, g1, g2, g3, -⟩, -⟩ := hH.2 _ _ hav
        dsimp only at k1 g2
        have hcls := (hK.1 oi r k1).2
        have hr1 : es_tyq (t + 3) = .object r.1 := by
          match t, ht, hf2 with
          | 0, _, hf2 => have e3 : oi = 2 := hf2; subst e3; cases k1; rfl
          | 1, _, hf2 => have e3 : oi = 7 := hf2; subst e3; cases k1; rfl
          | t + 2, ht, _ => exact absurd ht (by omega)
        have hRA := (hK.2 (t + 3) _ h1).2
        dsimp only at hRA
        rw [hr1] at hRA
        obtain ⟨kA, comp, j1, j2, j3, -⟩ := hRA
        have hcomp : comp = D.1 oi := Option.some.inj (j3.symm.trans hcls.1)
        subst hcomp
        obtain ⟨kC, hkC, -⟩ := id hcls.2
        have hd2 : decode cc pc = .ok (.aastore, 1) := hd
        exact W.aast hx hb h2 (fun q h => by cases h) hkn j1 j2 rfl hkC ⟨fun q => hin (Or.inl q), by rw [arrV_size, hcl]; exact hj⟩ g1 (fun q h => by rw [g3] at h; cases h) (by rw [g2]; exact hkC) (by rw [g2]; exact va_assign hcls) rfl rfl hd2 fun H1 w1 w2 w3 => kk H1 _ (hend H1 w1) w2 w3
/-- a new row of a plain type -/
def es_nat (t : Nat) : ArrayType := match t with
  | 0 => .int
  | 1 => .long
  | _ => .boolean
theorem es_newa (hx : p.tables.exec = Jvm.exec) (hb : c.code = cc) (hK : va_K D vwCl (es_TY cI cJ cZ cC cM) s) {AH : List es_O} (hH : es_hr D (es_TY cI cJ cZ cC cM) n0 b ρ AH H) {t n : Nat} (ht : t < 3) (hn : n < 1000000) (hw : (Cond.arrayClass (newarray.typeOf (es_nat t))).before args s = true) (hcells : cells + 1 ≤ R.cells) (hslots : slots + n ≤ R.slots) (hd : decode cc pc = .ok (.newarray (es_nat t), 2))
    (kk : ∀ H1 : Heap, es_hr D (es_TY cI cJ cZ cC cM) n0 b ρ (AH ++ [(t + 2, n, [])]) H1 → H1.size = H.size + 1 → (∀ q : Nat, q < H.size → H1[q]? = H[q]?) → W p l e R s m args below meth c H1 locs (cells + 1) (slots + n) Q (F0 m (pc + 2) ls (.ref H.size :: rest))) : W p l e R s m args below meth c H locs cells slots Q (F0 m pc ls (.int (nI n) :: rest)) := by
  have hcl : (nI n).toNatClampNeg = n := nI_clamp (by omega)
  have hnn : ¬ nI n < 0 := nI_pos (by omega)
  have hby : (nI n).toNatClampNeg * componentBytes (newarray.typeOf (es_nat t)) ≤ 536870912 := by
    rw [hcl]
    match t, ht with
    | 0, _ => show n * 4 ≤ _; omega
    | 1, _ => show n * 8 ≤ _; omega
    | 2, _ => show n * 1 ≤ _; omega
  refine W.newa hx hb hw rfl hd rfl hnn hby hcells (by rw [hcl]; exact hslots) fun cA kA comp f1 f2 f3 => ?_
  generalize hH1 : H.push ({ cls := cA, slots := Array.replicate (nI n).toNatClampNeg (defaultValue (newarray.typeOf (es_nat t))), vm := .none } : Cell) = H1
  have z1 : H1.size = H.size + 1 := by rw [← hH1, Array.size_push]
  have g1 : H1[H.size]? = some (arrV cA n (fun _ => defaultValue (newarray.typeOf (es_nat t)))) := by rw [← hH1, Array.getElem?_push_size, ← arrV_new, hcl]
  have o1 : ∀ q : Nat, q < H.size → H1[q]? = H[q]? := fun q hq => by rw [← hH1, Array.getElem?_push, if_neg (Nat.ne_of_lt hq)]
  rw [hcl]
  refine kk H1 (es_hr_push hH z1 o1 ?_) z1 o1
  match t, ht, f1, g1 with
  | 0, _, f1, g1 =>
    have e1 : cA = cI := Option.some.inj (f1.symm.trans (hK.2 0 _ rfl).2)
    subst e1
    exact ⟨(cA, .int), _, rfl, g1, fun j _ => by show Value.int 0 = Value.int (nI 0); rw [nI_0]⟩
  | 1, _, f1, g1 =>
    have e1 : cA = cJ := Option.some.inj (f1.symm.trans (hK.2 1 _ rfl).2)
    subst e1
    exact ⟨(cA, .long), _, rfl, g1, fun j _ => by show _ = _; rfl⟩
  | 2, _, f1, g1 =>
    have e1 : cA = cZ := Option.some.inj (f1.symm.trans (hK.2 2 _ rfl).2)
    subst e1
    exact ⟨(cA, .boolean), _, rfl, g1, fun j _ => by show Value.int 0 = Value.int (nI 0); rw [nI_0]⟩
/-- a new row of references -/
theorem es_anew (hx : p.tables.exec = Jvm.exec) (hb : c.code = cc) (hown : s.vm.findClass own = some m.cls) (hK : va_K D vwCl (es_TY cI cJ cZ cC cM) s) {AH : List es_O} (hH : es_hr D (es_TY cI cJ cZ cC cM) n0 b ρ AH H) {t n index : Nat} {C : String} (hC : es_tyq (t + 3) = .object C) (ht : t < 2) (hn : n < 1000000) (hw : (Cond.classLink own index C).before args s = true) (ho : (Cond.arrayOver (.object C)).before args s = true) (hcells : cells + 1 ≤ R.cells) (hslots : slots + n ≤ R.slots) (hd : decode cc pc = .ok (.anewarray index, 3))
    (kk : ∀ H1 : Heap, es_hr D (es_TY cI cJ cZ cC cM) n0 b ρ (AH ++ [(t + 3 + 2, n, [])]) H1 → H1.size = H.size + 1 → (∀ q : Nat, q < H.size → H1[q]? = H[q]?) → W p l e R s m args below meth c H1 locs (cells + 1) (slots + n) Q (F0 m (pc + 3) ls (.ref H.size :: rest))) : W p l e R s m args below meth c H locs cells slots Q (F0 m pc ls (.int (nI n) :: rest)) := by
  have hcl : (nI n).toNatClampNeg = n := nI_clamp (by omega)
  have hnn : ¬ nI n < 0 := nI_pos (by omega)
  refine W.anew hx hb hown hw ho rfl hd rfl hnn (by rw [hcl]; omega) hcells (by rw [hcl]; exact hslots) fun cA kA comp f1 f2 f3 f4 => ?_
  generalize hH1 : H.push ({ cls := cA, slots := Array.replicate (nI n).toNatClampNeg .null, vm := .none } : Cell) = H1
  have z1 : H1.size = H.size + 1 := by rw [← hH1, Array.size_push]
  have g1 : H1[H.size]? = some (arrV cA n (fun _ => .null)) := by rw [← hH1, Array.getElem?_push_size, ← arrV_new, hcl]
  have o1 : ∀ q : Nat, q < H.size → H1[q]? = H[q]? := fun q hq => by rw [← hH1, Array.getElem?_push, if_neg (Nat.ne_of_lt hq)]
  rw [hcl]
  refine kk H1 (es_hr_push hH z1 o1 ?_) z1 o1
  match t, ht, hC with
  | 0, _, hC =>
    cases hC
    obtain ⟨_, _, _, _, _, e2⟩ := (hK.2 3 _ rfl).2
    have e1 : cA = cC := Option.some.inj (f1.symm.trans e2)
    subst e1
    exact ⟨(cA, .object RX2), _, rfl, g1, fun j _ => rfl⟩
  | 1, _, hC =>
    cases hC
    obtain ⟨_, _, _, _, _, e2⟩ := (hK.2 4 _ rfl).2
    have e1 : cA = cM := Option.some.inj (f1.symm.trans e2)
    subst e1
    exact ⟨(cA, .object RX7), _, rfl, g1, fun j _ => rfl⟩
/-- a new object -/
def es_fs (N : Nat) (ty : Nat → FieldType) : List (Nat × es_V) := (List.range N).map (fun k => (k, match ty k with
  | .int => ((0, 0) : es_V)
  | .boolean => (0, 0)
  | _ => (4, 0)))
theorem es_get_map {α : Type} (f : Nat → α) : ∀ (l : List Nat) (k : Nat) (v : α), es_get (l.map (fun k => (k, f k))) k = some v → k ∈ l ∧ v = f k
  | [], k, v, h => by cases h
  | a :: t, k, v, h => by
    simp only [List.map_cons, es_get] at h
    cases hb : Nat.beq a k
    · rw [hb] at h
      obtain ⟨h1, h2⟩ := es_get_map f t k v h
      exact ⟨List.mem_cons_of_mem _ h1, h2⟩
    · rw [hb] at h
      have e := es_beq.mp hb
      subst e
      cases h
      exact ⟨List.mem_cons_self, rfl⟩
theorem es_newo (hx : p.tables.exec = Jvm.exec) (hb : c.code = cc) (hown : s.vm.findClass own = some m.cls) (hts : ∀ w ∈ Ts, w.before args s = true) {tys : List (ClassId × FieldType)} (hK : va_K D vwCl tys s) {AH : List es_O} (hH : es_hr D tys n0 b ρ AH H) {C : String} {T : u_T} {N ci index : Nat} (hc : vwCl[ci]? = some (C, T, N)) (hin : ∀ w ∈ u_ws C T N, w ∈ Ts)
    (ty0 : Nat → FieldType) (hty : ∀ k, k < N → parseFieldDescriptor (T k).2.2.1 = some (ty0 k)) (hpl : ∀ k, k < N → ty0 k = .int ∨ ty0 k = .boolean ∨ (∃ C, ty0 k = .object C) ∨ ∃ t, ty0 k = .array t)
    (hw1 : Cond.classLink own index C ∈ Ts) (hw2 : Cond.instantiable C N ∈ Ts) (hw3 : Cond.initialized C ∈ Ts) (hcells : cells + 1 ≤ R.cells) (hslots : slots + N ≤ R.slots) (hd : decode cc pc = .ok (.new index, 3))
    (kk : ∀ H1 : Heap, es_hr D tys n0 b ρ (AH ++ [(0, ci, es_fs N ty0)]) H1 → H1.size = H.size + 1 → (∀ q : Nat, q < H.size → H1[q]? = H[q]?) → W p l e R s m args below meth c H1 locs (cells + 1) (slots + N) Q (F0 m (pc + 3) ls (.ref H.size :: rest))) : W p l e R s m args below meth c H locs cells slots Q (F0 m pc ls rest) := by
  have hKn := hK.1 ci _ hc
  refine W.newcK hx hb hown (hts _ hw1) (hts _ hw2) (hts _ hw3) rfl hd hcells hslots hKn.2.1 rfl fun H1 kC hkC e1 z1 o1 => ?_
  refine kk H1 (es_hr_push hH z1 o1 ?_) z1 o1
  refine ⟨(C, T, N), _, hc, u_born ty0 hts hin hKn hkC e1 hty, fun k v hv => ?_⟩
  obtain ⟨h1, h2⟩ := es_get_map _ _ _ _ hv
  have hk : k < N := List.mem_range.mp h1
  refine ⟨hk, ?_⟩
  subst h2
  rcases hpl k hk with h | h | ⟨C', h⟩ | ⟨t, h⟩
  · rw [h]; show _ = _; rw [nI_0]; rfl
  · rw [h]; show _ = _; rw [nI_0]; rfl
  · rw [h]; rfl
  · rw [h]; rfl
end Ar
end
section
abbrev es_K : Type := Nat × es_L × List es_V × List es_O × es_F × Nat × Nat
abbrev es_E : Type := Nat × es_K
abbrev es_M : Type := MethodName × String × ByteArray × Nat × Option FieldType × List (Nat × Nat × Nat × Nat) × List (Nat × List es_I) × Nat × Nat × Nat × Nat
abbrev es_Lf : Type := Nat × es_V × List es_O × es_F
def es_y (M : es_M) : MethodName := M.1
def es_own (M : es_M) : String := M.2.1
def es_code (M : es_M) : ByteArray := M.2.2.1
def es_mL (M : es_M) : Nat := M.2.2.2.1
def es_rt (M : es_M) : Option FieldType := M.2.2.2.2.1
def es_hh (M : es_M) : List (Nat × Nat × Nat × Nat) := M.2.2.2.2.2.1
def es_tab (M : es_M) : List (Nat × List es_I) := M.2.2.2.2.2.2.1
def es_rf (M : es_M) : Nat := M.2.2.2.2.2.2.2.1
def es_mc (M : es_M) : Nat := M.2.2.2.2.2.2.2.2.1
def es_ms (M : es_M) : Nat := M.2.2.2.2.2.2.2.2.2.1
def es_lo (M : es_M) : Nat := M.2.2.2.2.2.2.2.2.2.2
def es_fi : List es_I → Nat → Option es_I
  | [], _ => none
  | q :: t, pc => bif Nat.beq q.1 pc then some q else es_fi t pc
def es_at : List (Nat × List es_I) → Nat → Option es_I
  | [], _ => none
  | q :: t, pc => bif Nat.blt pc q.1 then es_fi q.2 pc else es_at t pc
theorem es_fi_ok : ∀ {l : List es_I} {pc : Nat} {e : es_I}, es_fi l pc = some e → e.1 = pc ∧ e ∈ l
  | [], _, _, h => by cases h
  | q :: t, pc, e, h => by
    unfold es_fi at h
    cases hb : Nat.beq q.1 pc
    · rw [hb] at h
      obtain ⟨h1, h2⟩ := es_fi_ok (show es_fi t pc = some e from h)
      exact ⟨h1, List.mem_cons_of_mem _ h2⟩
    · rw [hb] at h
      cases h
      exact ⟨es_beq.mp hb, List.mem_cons_self⟩
theorem es_at_ok : ∀ {l : List (Nat × List es_I)} {pc : Nat} {e : es_I}, es_at l pc = some e → e.1 = pc ∧ ∃ q ∈ l, e ∈ q.2
  | [], _, _, h => by cases h
  | q :: t, pc, e, h => by
    unfold es_at at h
    cases hb : Nat.blt pc q.1
    · rw [hb] at h
      obtain ⟨h1, r, h2, h3⟩ := es_at_ok (show es_at t pc = some e from h)
      exact ⟨h1, r, List.mem_cons_of_mem _ h2, h3⟩
    · rw [hb] at h
      obtain ⟨h1, h2⟩ := es_fi_ok (show es_fi q.2 pc = some e from h)
      exact ⟨h1, q, List.mem_cons_self, h2⟩
def es_cat {α β : Type} (f : α → Option (List β)) : List α → Option (List β)
  | [] => some []
  | a :: t => match f a with
    | none => none
    | some x => match es_cat f t with
      | none => none
      | some y => some (x ++ y)
theorem es_cat_ok {α β : Type} {f : α → Option (List β)} : ∀ {l : List α} {r : List β}, es_cat f l = some r → ∀ a ∈ l, ∃ x, f a = some x ∧ ∀ z ∈ x, z ∈ r
  | [], _, _, a, ha => by cases ha
  | b :: t, r, h, a, ha => by
    unfold es_cat at h
    cases hb : f b with
    | none => rw [hb] at h; cases h
    | some x =>
      rw [hb] at h
      dsimp only at h
      cases ht : es_cat f t with
      | none => rw [ht] at h; cases h
      | some y =>
        rw [ht] at h
        cases h
        rcases List.mem_cons.mp ha with rfl | ha
        · exact ⟨x, hb, fun z hz => List.mem_append_left _ hz⟩
        · obtain ⟨x', h1, h2⟩ := es_cat_ok ht a ha
          exact ⟨x', h1, fun z hz => List.mem_append_right _ (h2 z hz)⟩
def es_rtv (ret : Option FieldType) (ins : Instr) (S : List es_V) (F : es_F) : Option (Nat × es_V) := match ins with
  | .return_ => match S, ret with
    | [], none => some (0, 0, 0)
    | _, _ => none
  | .ireturn => match S, ret with
    | [v], some .int => bif es_ti v then some (1, v) else none
    | [v], some .boolean => bif es_fitv .boolean F v then some (1, v) else none
    | _, _ => none
  | .lreturn => match S, ret with
    | [v], some .long => bif Nat.beq v.1 2 then some (1, v) else none
    | _, _ => none
  | .areturn => match S, ret with
    | [v], some (.object _) => bif es_tr v then some (1, v) else none
    | [v], some (.array _) => bif es_tr v then some (1, v) else none
    | _, _ => none
  | _ => none
def es_cts (S : List es_V) : Nat := match S with
  | [] => 0
  | v :: t => (bif Nat.beq v.1 2 then 2 else 1) + es_cts t
/-- the end of a method, as its caller sees it: 0 nothing, 1 a value, 2 and on a thrown one -/
def es_leaf (M : es_M) (E : es_E) : Option es_Lf := match E with
  | (n + 1, _, _, _, AH, F, cs, ss) => match es_hh M with
    | [] => bif Nat.ble cs (es_mc M) && Nat.ble ss (es_ms M) then some (n + 2, (0, 0), AH, F) else none
    | _ => none
  | (0, pc, _, S, AH, F, cs, ss) => match es_at (es_tab M) pc with
    | some e => match e.2.2.2 with
      | 100 :: x :: _ => match es_hh M with
        | [] => bif (Nat.blt cs (es_mc M) && Nat.ble (ss + 6) (es_ms M)) && (Nat.blt 5 (es_rf M) && Nat.ble 100 (es_lo M)) && Nat.ble (es_cts S) 8 then some (x + 2, (0, 0), AH ++ [(1, 0, [])], F) else none
        | _ => none
      | _ => match es_rtv (es_rt M) e.2.1 S F with
        | some q => bif Nat.ble cs (es_mc M) && Nat.ble ss (es_ms M) then some (q.1, q.2, AH, F) else none
        | none => none
    | none => none
def es_al : Nat → List es_V → es_L
  | _, [] => []
  | i, v :: vs => (i, v) :: es_al (bif Nat.beq v.1 2 then i + 2 else i + 1) vs
def es_isr (ins : Instr) : Bool := match ins with
  | .return_ | .ireturn | .lreturn | .areturn => true
  | _ => false
def es_ary (AH : List es_O) (v : es_V) : Option (Nat × Nat × List (Nat × es_V)) := bif Nat.beq v.1 3 then (match AH[v.2]? with
  | some (t + 2, n, c) => bif Nat.blt n 2147483648 then some (t, n, c) else none
  | _ => none) else none
def es_obj (AH : List es_O) (ci : Nat) (v : es_V) : Option (List (Nat × es_V)) := bif Nat.beq v.1 3 then (match AH[v.2]? with
  | some (0, i, c) => bif Nat.beq i ci then some c else none
  | _ => none) else none
/-- which kind of row an instruction reads or writes -/
def es_lt (ins : Instr) (t : Nat) : Bool := match ins with
  | .iaload => Nat.beq t 0
  | .laload => Nat.beq t 1
  | .baload => Nat.beq t 2
  | .aaload => Nat.blt 2 t && Nat.blt t 5
  | _ => false
def es_sti (ins : Instr) (t : Nat) : Bool := match ins with
  | .iastore => Nat.beq t 0
  | .lastore => Nat.beq t 1
  | .bastore => Nat.beq t 2
  | .aastore => Nat.blt 2 t && Nat.blt t 5
  | _ => false
def es_tyf (ci : Nat) : Nat → FieldType := match ci with
  | 0 => tyX0
  | 1 => tyX1
  | 2 => tyX2
  | 3 => tyX3
  | 4 => tyX4
  | 5 => tyX5
  | 6 => tyX6
  | 7 => tyX7
  | 8 => tyX8
  | 9 => tyX9
  | 10 => tyX10
  | 11 => tyX11
  | _ => tyX12
def es_hset (AH : List es_O) (a t n : Nat) (c : List (Nat × es_V)) (j : Nat) (v : es_V) : List es_O := match es_get c j with
  | some _ => AH.set a (t + 2, n, es_set c j v)
  | none => bif Nat.beq v.1 (es_dv t).1 && Nat.beq v.2 (es_dv t).2 then AH else AH.set a (t + 2, n, es_set c j v)
theorem es_hset_eq {AH : List es_O} {a t n : Nat} {c : List (Nat × es_V)} (h : AH[a]? = some (t + 2, n, c)) (j : Nat) (v : es_V) : es_hset AH a t n c j v = AH.set a (t + 2, n, es_aset t c j v) := by
  unfold es_hset es_aset
  cases hg : es_get c j with
  | some w => rfl
  | none =>
    dsimp only
    cases hb : (Nat.beq v.1 (es_dv t).1 && Nat.beq v.2 (es_dv t).2)
    · rfl
    · dsimp only [cond_true]
      obtain ⟨hl, he⟩ := List.getElem?_eq_some_iff.mp h
      rw [← he, List.set_getElem_self]
/-- a step that reads or writes the heap and calls nothing -/
def es_hs (SL : Nat) (M : es_M) (e : es_I) (K : es_K) : Option es_K := match K with
  | (pc, L, S, AH, F, cs, ss) => match e.2.1 with
    | .getfield _ => match e.2.2.2, S with
      | ci :: k :: _, v :: S' => match es_obj AH ci v with
        | some c => match es_get c k with
          | some w => some (pc + 3, L, w :: S', AH, F, cs, ss)
          | none => none
        | none => none
      | _, _ => none
    | .putfield _ => match e.2.2.2, S with
      | ci :: k :: _, v :: o :: S' => match es_obj AH ci o with
        | some c => match es_get c k with
          | some _ => bif es_fitv (es_tyf ci k) F v then some (pc + 3, L, S', AH.set o.2 (0, ci, es_set c k v), F, cs, ss) else none
          | none => none
        | none => none
      | _, _ => none
    | .new _ => match e.2.2.2 with
      | 1 :: ci :: _ => match vwCl[ci]? with
        | some r => bif Nat.blt cs (es_mc M) && Nat.ble (ss + r.2.2) (es_ms M) then some (pc + 3, L, (3, AH.length) :: S, AH ++ [(0, ci, es_fs r.2.2 (es_tyf ci))], F, cs + 1, ss + r.2.2) else none
        | none => none
      | _ => none
    | .newarray _ => match e.2.2.2, S with
      | t :: _, v :: S' => match es_kn F v with
        | some n => bif (Nat.blt t 3 && Nat.blt n 1000000) && (Nat.blt cs (es_mc M) && Nat.ble (ss + n) (es_ms M)) then some (pc + 2, L, (3, AH.length) :: S', AH ++ [(t + 2, n, [])], F, cs + 1, ss + n) else none
        | none => none
      | _, _ => none
    | .anewarray _ => match e.2.2.2, S with
      | t :: _, v :: S' => match es_kn F v with
        | some n => bif (Nat.blt t 2 && Nat.blt n 1000000) && (Nat.blt cs (es_mc M) && Nat.ble (ss + n) (es_ms M)) then some (pc + 3, L, (3, AH.length) :: S', AH ++ [(t + 3 + 2, n, [])], F, cs + 1, ss + n) else none
        | none => none
      | _, _ => none
    | .arraylength => match S with
      | v :: S' => bif Nat.beq v.1 5 then some (pc + 1, L, (0, SL) :: S', AH, F, cs, ss) else match es_ary AH v with
        | some (_, n, _) => some (pc + 1, L, (0, n) :: S', AH, F, cs, ss)
        | none => none
      | _ => none
    | .iastore | .lastore | .bastore | .aastore => match S with
      | v :: j :: a :: S' => match es_ary AH a, es_kn F j with
        | some (t, n, c), some jn => bif (es_sti e.2.1 t && Nat.blt jn n) && es_sfit AH F t v then some (pc + 1, L, S', es_hset AH a.2 t n c jn v, F, cs, ss) else none
        | _, _ => none
      | _ => none
    | .iaload | .laload | .baload | .aaload => match S with
      | j :: a :: S' => match es_kn F j with
        | some jn => bif Nat.beq a.1 5 then (match e.2.1 with
            | .iaload => bif Nat.blt jn SL && Nat.blt SL 2147483648 then some (pc + 1, L, (1, jn) :: S', AH, F, cs, ss) else none
            | _ => none) else match es_ary AH a with
          | some (t, n, c) => bif es_lt e.2.1 t && Nat.blt jn n then some (pc + 1, L, es_ad t c jn :: S', AH, F, cs, ss) else none
          | none => none
        | none => none
      | _ => none
    | .ldc _ => match e.2.2.2 with
      | _ :: n :: _ => some (pc + 2, L, (0, n) :: S, AH, F, cs, ss)
      | _ => none
    | .ldc_w _ => match e.2.2.2 with
      | _ :: n :: _ => some (pc + 3, L, (0, n) :: S, AH, F, cs, ss)
      | _ => none
    | .ldc2_w _ => match e.2.2.2 with
      | _ :: n :: _ => some (pc + 3, L, (2, n) :: S, AH, F, cs, ss)
      | _ => none
    | _ => none
end
section
def es_wj (WS : List Cond) (j : Nat) (w : Cond) : Bool := decide (WS[j]? = some w)
theorem es_wj_in {WS : List Cond} {j : Nat} {w : Cond} (h : es_wj WS j w = true) : w ∈ WS := List.mem_of_getElem? (of_decide_eq_true h)
def es_hok (WS : List Cond) (M : es_M) (e : es_I) : Bool := match e.2.1 with
  | .getfield idx => match e.2.2.2 with
    | [ci, k, j] => match vwCl[ci]? with
      | some r => es_wj WS j (.fieldLink (es_own M) idx (r.2.1 k).1 (r.2.1 k).2.1 (r.2.1 k).2.2.1)
      | none => false
    | _ => false
  | .putfield idx => match e.2.2.2 with
    | [ci, k, j] => match vwCl[ci]? with
      | some r => es_wj WS j (.fieldLink (es_own M) idx (r.2.1 k).1 (r.2.1 k).2.1 (r.2.1 k).2.2.1) && (!(r.2.1 k).2.2.2 || (decide ((es_y M).name = "<init>") && decide ((r.2.1 k).1 = es_own M)))
      | none => false
    | _ => false
  | .new idx => match e.2.2.2 with
    | [1, ci, j1, j2, j3] => match vwCl[ci]? with
      | some r => es_wj WS j1 (.classLink (es_own M) idx r.1) && (es_wj WS j2 (.instantiable r.1 r.2.2) && es_wj WS j3 (.initialized r.1))
      | none => false
    | 1 :: _ => false
    | _ => true
  | .newarray ty => match e.2.2.2 with
    | [t, j] => decide (ty = es_nat t) && es_wj WS j (.arrayClass (newarray.typeOf (es_nat t)))
    | _ => false
  | .anewarray idx => match e.2.2.2 with
    | [t, j1] => match es_tyq (t + 3) with
      | .object C => es_wj WS j1 (.classLink (es_own M) idx C)
      | _ => false
    | _ => false
  | .ldc idx => match e.2.2.2 with
    | [j, n] => es_wj WS j (.constant (es_own M) idx (nI n))
    | _ => false
  | .ldc_w idx => match e.2.2.2 with
    | [j, n] => es_wj WS j (.constant (es_own M) idx (nI n))
    | _ => false
  | .ldc2_w idx => match e.2.2.2 with
    | [j, n] => es_wj WS j (.constantLong (es_own M) idx (lN n))
    | _ => false
  | _ => true
theorem es_pl (x : FieldType) (h : (match x with | .int => true | .boolean => true | .object _ => true | .array _ => true | _ => false) = true) : x = .int ∨ x = .boolean ∨ (∃ C, x = .object C) ∨ ∃ t, x = .array t := by
  cases x <;> simp at h <;> simp
def es_plb (x : FieldType) : Bool := match x with
  | .int => true
  | .boolean => true
  | .object _ => true
  | .array _ => true
  | _ => false
theorem es_cl {ci : Nat} {r : vw_C} (h : vwCl[ci]? = some r) : (∀ k, k < r.2.2 → parseFieldDescriptor (r.2.1 k).2.2.1 = some (es_tyf ci k)) ∧ (∀ a, a < r.2.2 → ∀ b, b < r.2.2 → a ≠ b → (r.2.1 a).2.1 ≠ (r.2.1 b).2.1) ∧ ∀ k, k < r.2.2 → es_plb (es_tyf ci k) = true := by
  match ci, h with
  | 0, h => cases h; exact ⟨tyX0_ok, nmX0, by decide +kernel⟩
  | 1, h => cases h; exact ⟨tyX1_ok, nmX1, by decide +kernel⟩
  | 2, h => cases h; exact ⟨tyX2_ok, nmX2, by decide +kernel⟩
  | 3, h => cases h; exact ⟨tyX3_ok, nmX3, by decide +kernel⟩
  | 4, h => cases h; exact ⟨tyX4_ok, nmX4, by decide +kernel⟩
  | 5, h => cases h; exact ⟨tyX5_ok, nmX5, by decide +kernel⟩
  | 6, h => cases h; exact ⟨tyX6_ok, nmX6, by decide +kernel⟩
  | 7, h => cases h; exact ⟨tyX7_ok, nmX7, by decide +kernel⟩
  | 8, h => cases h; exact ⟨tyX8_ok, nmX8, by decide +kernel⟩
  | 9, h => cases h; exact ⟨tyX9_ok, nmX9, by decide +kernel⟩
  | 10, h => cases h; exact ⟨tyX10_ok, nmX10, by decide +kernel⟩
  | 11, h => cases h; exact ⟨tyX11_ok, nmX11, by decide +kernel⟩
  | 12, h => cases h; exact ⟨tyX12_ok, nmX12, by decide +kernel⟩
  | t + 13, h => simp at h
abbrev es_A (n0 : Nat) : Nat → Prop := fun q => n0 ≤ q
def es_inv (D : va_G) (tys : List (ClassId × FieldType)) (n0 b : Nat) (ρ : Nat → Int32) (nL : Nat) (s : State) (K : es_K) (H : Heap) (ls : Array Slot) (locs : List Loc) (st : List Value) : Prop :=
  es_lr n0 b ρ nL K.2.1 ls ∧ es_sr n0 b ρ K.2.2.1 st ∧ es_hr D tys n0 b ρ K.2.2.2.1 H ∧ es_fr ρ K.2.2.2.2.1 ∧ va_S (es_A n0) s.heap H locs
def es_G (p : Program) (l : Launch) (e : Env) (R : Room) (s : State) (m : MethodId) (args : Array Value) (below : List Frame) (meth : Method) (c : Code) (Q : State → Prop) (D : va_G) (tys : List (ClassId × FieldType)) (n0 b : Nat) (ρ : Nat → Int32) (nL : Nat) (K : es_K) : Prop :=
  ∀ (H : Heap) (ls : Array Slot) (locs : List Loc) (st : List Value), es_inv D tys n0 b ρ nL s K H ls locs st → W p l e R s m args below meth c H locs K.2.2.2.2.2.1 K.2.2.2.2.2.2 Q (F0 m K.1 ls st)
/-- what holds of a frame of the method M -/
def es_FC (WS : List Cond) (SL : Nat) (D : va_G) (cI cJ cZ cC cM : ClassId) (n0 b : Nat) (ρ : Nat → Int32) (p : Program) (R : Room) (s : State) (m : MethodId) (args : Array Value) (meth : Method) (c : Code) (M : es_M) : Prop :=
  p.tables.exec = Jvm.exec ∧ c.code = es_code M ∧ c.maxLocals = es_mL M ∧ s.vm.findClass (es_own M) = some m.cls ∧ (∀ w ∈ WS, w.before args s = true) ∧ va_K D vwCl (es_TY cI cJ cZ cC cM) s ∧ (es_mc M ≤ R.cells ∧ es_ms M ≤ R.slots ∧ es_rf M ≤ R.frames ∧ es_lo M ≤ R.locals) ∧
  ((es_y M).name = "<init>" → meth.name = "<init>") ∧ (b < n0 ∧ n0 ≤ s.heap.size ∧ va_X b SL ρ s s.heap) ∧ (va_AO RX2 s ∧ va_AO RX7 s) ∧ meth.locks = false ∧ meth.sig.returnType = es_rt M
section Hs
variable {p : Program} {l : Launch} {e : Env} {R : Room} {s : State} {m : MethodId} {args : Array Value} {below : List Frame} {meth : Method} {c : Code} {Q : State → Prop}
variable {WS : List Cond} {SL : Nat} {D : va_G} {cI cJ cZ cC cM : ClassId} {n0 b : Nat} {ρ : Nat → Int32} {M : es_M}
theorem es_va_put {H0 H H1 : Heap} {locs : List Loc} {i j : Nat} (h : va_S (es_A n0) H0 H locs) (z : H1.size = H.size) (o : ∀ q : Nat, q ≠ n0 + i → H1[q]? = H[q]?) : va_S (es_A n0) H0 H1 (locs ++ [⟨n0 + i, j⟩]) := h.put z o (Nat.le_add_right _ _)
theorem es_va_push {H0 H H1 : Heap} {locs : List Loc} (h : va_S (es_A n0) H0 H locs) (z : H1.size = H.size + 1) (o : ∀ q : Nat, q < H.size → H1[q]? = H[q]?) : va_S (es_A n0) H0 H1 locs :=
  ⟨Nat.le_trans h.1 (by omega), fun x h1 h2 => (o x (Nat.lt_of_lt_of_le h1 h.1)).trans (h.2.1 x h1 h2), h.2.2⟩
theorem es_obj_ok {AH : List es_O} {ci : Nat} {v : es_V} {cs : List (Nat × es_V)} {x : Value} (h : es_obj AH ci v = some cs) (hv : es_vr n0 b ρ v x) : x = .ref (n0 + v.2) ∧ AH[v.2]? = some (0, ci, cs) := by
  unfold es_obj at h
  cases h3 : Nat.beq v.1 3
  · rw [h3] at h; cases h
  · rw [h3] at h
    dsimp only [cond_true] at h
    refine ⟨es_t3_ref hv h3, ?_⟩
    split at h
    · rename_i i c0 hA
      cases hi : Nat.beq i ci
      · rw [hi] at h; cases h
      · rw [hi] at h
        cases h
        rw [hA, es_beq.mp hi]
    · cases h
theorem es_ary_ok {AH : List es_O} {v : es_V} {t n : Nat} {cs : List (Nat × es_V)} {x : Value} (h : es_ary AH v = some (t, n, cs)) (hv : es_vr n0 b ρ v x) : x = .ref (n0 + v.2) ∧ AH[v.2]? = some (t + 2, n, cs) ∧ n < 2147483648 := by
  unfold es_ary at h
  cases h3 : Nat.beq v.1 3
  · rw [h3] at h; cases h
  · rw [h3] at h
    dsimp only [cond_true] at h
    refine ⟨es_t3_ref hv h3, ?_⟩
    split at h
    · rename_i t' n' c0 hA
      cases hi : Nat.blt n' 2147483648
      · rw [hi] at h; cases h
      · rw [hi] at h
        cases h
        exact ⟨hA, es_blt.mp hi⟩
    · cases h
theorem es_sti_eq {ins : Instr} {t : Nat} (h : es_sti ins t = true) : ins = es_sop t ∧ es_len ins = 1 := by
  unfold es_sti at h
  split at h
  · rw [es_beq.mp h]; exact ⟨rfl, rfl⟩
  · rw [es_beq.mp h]; exact ⟨rfl, rfl⟩
  · rw [es_beq.mp h]; exact ⟨rfl, rfl⟩
  · rw [Bool.and_eq_true] at h
    have := es_blt.mp h.1
    match t, this with
    | t + 3, _ => exact ⟨rfl, rfl⟩
  · cases h
theorem es_lt_eq {ins : Instr} {t : Nat} (h : es_lt ins t = true) : ins = es_lop t ∧ es_len ins = 1 := by
  unfold es_lt at h
  split at h
  · rw [es_beq.mp h]; exact ⟨rfl, rfl⟩
  · rw [es_beq.mp h]; exact ⟨rfl, rfl⟩
  · rw [es_beq.mp h]; exact ⟨rfl, rfl⟩
  · rw [Bool.and_eq_true] at h
    have := es_blt.mp h.1
    match t, this with
    | t + 3, _ => exact ⟨rfl, rfl⟩
  · cases h
theorem es_stw (fc : es_FC WS SL D cI cJ cZ cC cM n0 b ρ p R s m args meth c M) {H : Heap} {ls : Array Slot} {locs : List Loc} {st : List Value} {ins : Instr} {pc : Nat} {L : es_L} {v j a : es_V} {S' : List es_V} {AH : List es_O} {F : es_F} {cs ss : Nat} {K' : es_K} (hd : decode (es_code M) pc = .ok (ins, es_len ins))
    (hs : es_sr n0 b ρ (v :: j :: a :: S') st) (hl : es_lr n0 b ρ (es_mL M) L ls) (hH : es_hr D (es_TY cI cJ cZ cC cM) n0 b ρ AH H) (hF : es_fr ρ F) (hS : va_S (es_A n0) s.heap H locs) {t n jn : Nat} {cf : List (Nat × es_V)} (hA : es_ary AH a = some (t, n, cf)) (hj : es_kn F j = some jn)
    (h : (bif (es_sti ins t && Nat.blt jn n) && es_sfit AH F t v then some (pc + 1, L, S', es_hset AH a.2 t n cf jn v, F, cs, ss) else none) = some K')
    (k : es_G p l e R s m args below meth c Q D (es_TY cI cJ cZ cC cM) n0 b ρ (es_mL M) K') : W p l e R s m args below meth c H locs cs ss Q (F0 m pc ls st) := by
  obtain ⟨hx, hb, hml, hown, hts, hK, hR, hin, hscr, hao, -⟩ := fc
  cases hc : ((es_sti ins t && Nat.blt jn n) && es_sfit AH F t v)
  · rw [hc] at h; cases h
  · rw [hc] at h
    simp only [Bool.and_eq_true, es_blt] at hc
    obtain ⟨⟨h1, h2⟩, h3⟩ := hc
    obtain ⟨e1, e2⟩ := es_sti_eq h1
    rw [e2, e1] at hd
    obtain ⟨x, st1, rfl, hv, y, st2, rfl, hvj, z, st', rfl, hva, hs'⟩ := hs
    obtain ⟨rfl, hA', hn⟩ := es_ary_ok hA hva
    rw [es_hset_eq hA'] at h
    cases h
    have e3 := es_kn_ok hF hvj hj
    subst e3
    exact es_ast hx hb hK hF hH (hH.2 _ _ hA') h2 hn hv h3 hd (fun H1 i g1 g2 g3 => k H1 ls _ _ ⟨hl, hs', es_hr_set hH g2 g3 g1, hF, es_va_put hS g2 g3⟩)
theorem es_ldw (fc : es_FC WS SL D cI cJ cZ cC cM n0 b ρ p R s m args meth c M) {H : Heap} {ls : Array Slot} {locs : List Loc} {st : List Value} {ins : Instr} {pc : Nat} {L : es_L} {j a : es_V} {S' : List es_V} {AH : List es_O} {F : es_F} {cs ss : Nat} {K' : es_K} (hd : decode (es_code M) pc = .ok (ins, es_len ins))
    (hs : es_sr n0 b ρ (j :: a :: S') st) (hl : es_lr n0 b ρ (es_mL M) L ls) (hH : es_hr D (es_TY cI cJ cZ cC cM) n0 b ρ AH H) (hF : es_fr ρ F) (hS : va_S (es_A n0) s.heap H locs) {jn : Nat} (hj : es_kn F j = some jn)
    (h : (bif Nat.beq a.1 5 then (match ins with
            | .iaload => bif Nat.blt jn SL && Nat.blt SL 2147483648 then some (pc + 1, L, (1, jn) :: S', AH, F, cs, ss) else none
            | _ => none) else match es_ary AH a with
          | some (t, n, c) => bif es_lt ins t && Nat.blt jn n then some (pc + 1, L, es_ad t c jn :: S', AH, F, cs, ss) else none
          | none => none) = some K')
    (k : es_G p l e R s m args below meth c Q D (es_TY cI cJ cZ cC cM) n0 b ρ (es_mL M) K') : W p l e R s m args below meth c H locs cs ss Q (F0 m pc ls st) := by
  obtain ⟨hx, hb, hml, hown, hts, hK, hR, hin, hscr, hao, -⟩ := fc
  obtain ⟨y, st2, rfl, hvj, z, st', rfl, hva, hs'⟩ := hs
  have e3 := es_kn_ok hF hvj hj
  subst e3
  cases h5 : Nat.beq a.1 5
  · rw [h5] at h
    dsimp only [cond_false] at h
    split at h
    · rename_i t n cf hA
      obtain ⟨rfl, hA', hn⟩ := es_ary_ok hA hva
      cases hc : (es_lt ins t && Nat.blt jn n)
      · rw [hc] at h; cases h
      · rw [hc] at h
        cases h
        rw [Bool.and_eq_true, es_blt] at hc
        obtain ⟨e1, e2⟩ := es_lt_eq hc.1
        rw [e2, e1] at hd
        exact es_ald hx hb hK (hH.2 _ _ hA') hc.2 hn hd (fun x hx2 => k H ls locs _ ⟨hl, ⟨_, _, rfl, hx2, hs'⟩, hH, hF, hS⟩)
    · cases h
  · rw [h5] at h
    dsimp only [cond_true] at h
    split at h
    · cases hc : (Nat.blt jn SL && Nat.blt SL 2147483648)
      · rw [hc] at h; cases h
      · rw [hc] at h
        cases h
        simp only [Bool.and_eq_true, es_blt] at hc
        obtain ⟨t, q⟩ := a
        have e := es_beq.mp h5
        dsimp only at e
        subst e
        have e2 : z = .ref b := hva
        subst e2
        refine va_sld hx hb hscr.2.2 (Nat.lt_of_lt_of_le hscr.1 hscr.2.1) (Nat.not_le.mpr hscr.1) hS (vp_in_nI hc.1 hc.2) (by assumption) (k H ls locs _ ⟨hl, ⟨_, _, rfl, ?_, hs'⟩, hH, hF, hS⟩)
        show Value.int _ = Value.int (ρ jn)
        rw [nI_clamp (by omega)]
    · cases h
set_option maxHeartbeats 4000000 in
theorem es_hs_ok (hU : ∀ (ci : Nat) (r : vw_C), vwCl[ci]? = some r → ∀ w ∈ u_ws r.1 r.2.1 r.2.2, w ∈ WS) (fc : es_FC WS SL D cI cJ cZ cC cM n0 b ρ p R s m args meth c M) {E : es_I} {K K' : es_K} (hd : decode (es_code M) K.1 = .ok (E.2.1, es_len E.2.1)) (hok : es_hok WS M E = true) (h : es_hs SL M E K = some K')
    (k : es_G p l e R s m args below meth c Q D (es_TY cI cJ cZ cC cM) n0 b ρ (es_mL M) K') : es_G p l e R s m args below meth c Q D (es_TY cI cJ cZ cC cM) n0 b ρ (es_mL M) K := by
  intro H ls locs st hinv
  obtain ⟨pc, L, S, AH, F, cs, ss⟩ := K
  obtain ⟨hl, hs, hH, hF, hS⟩ := hinv
  obtain ⟨hx, hb, hml, hown, hts, hK, hR, hin, hscr, hao, -⟩ := id fc
  obtain ⟨epc, ins, len, aux⟩ := E
  dsimp only at hl hs hH hF hd ⊢
  unfold es_hs at h
  unfold es_hok at hok
  dsimp only at h hok
  split at h
  -- getfield
  · rename_i idx
    split at h
    · rename_i ci kf tl v S'
      cases ho : es_obj AH ci v with
      | none => rw [ho] at h; cases h
      | some cf =>
        rw [ho] at h
        dsimp only at h
        cases hg : es_get cf kf with
        | none => rw [hg] at h; cases h
        | some w =>
          rw [hg] at h
          cases h
          obtain ⟨x, st', rfl, hv, hs'⟩ := hs
          obtain ⟨rfl, hA⟩ := es_obj_ok ho hv
          dsimp only at hok
          split at hok
          · rename_i ci' k' j heq
            cases heq
            split at hok
            · rename_i r hr
              obtain ⟨C, T, N⟩ := r
              exact es_getf hx hb hown hts hK hr (hU ci _ hr) (es_wj_in hok) (hH.2 _ _ hA) hg hd (fun y hy => k H ls locs _ ⟨hl, ⟨_, _, rfl, hy, hs'⟩, hH, hF, hS⟩)
            · cases hok
          · cases hok
    · cases h
  -- putfield
  · rename_i idx
    split at h
    · rename_i ci kf tl v o S'
      cases ho : es_obj AH ci o with
      | none => rw [ho] at h; cases h
      | some cf =>
        rw [ho] at h
        dsimp only at h
        cases hg : es_get cf kf with
        | none => rw [hg] at h; cases h
        | some w =>
          rw [hg] at h
          dsimp only at h
          cases hft : es_fitv (es_tyf ci kf) F v
          · rw [hft] at h; cases h
          · rw [hft] at h
            cases h
            obtain ⟨x, st1, rfl, hv, y, st', rfl, hvo, hs'⟩ := hs
            obtain ⟨rfl, hA⟩ := es_obj_ok ho hvo
            dsimp only at hok
            split at hok
            · rename_i ci' k' j heq
              cases heq
              split at hok
              · rename_i r hr
                obtain ⟨C, T, N⟩ := r
                rw [Bool.and_eq_true] at hok
                obtain ⟨c1, c2, -⟩ := es_cl hr
                obtain ⟨f1, f2⟩ := es_fitv_ok hF hv hft
                have hfin : (T kf).2.2.2 = false ∨ (meth.name = "<init>" ∧ (T kf).1 = es_own M) := by
                  have h2 := hok.2
                  rw [Bool.or_eq_true] at h2
                  rcases h2 with h2 | h2
                  · left; simpa using h2
                  · right
                    rw [Bool.and_eq_true] at h2
                    exact ⟨hin (of_decide_eq_true h2.1), of_decide_eq_true h2.2⟩
                exact es_putf hx hb hown hts hK hr (hU ci _ hr) (es_tyf ci) c1 c2 (es_wj_in hok.1) hfin (hH.2 _ _ hA) hg hv f1 f2 hd (fun H1 i g1 g2 g3 => k H1 ls _ _ ⟨hl, hs', es_hr_set hH g2 g3 g1, hF, es_va_put hS g2 g3⟩)
              · cases hok
            · cases hok
    · cases h
  -- new
  · rename_i idx
    split at h
    · rename_i ci tl
      dsimp only at hok
      split at hok
      · rename_i ci' j1 j2 j3 heq
        cases heq
        split at h
        · rename_i r hr
          rw [hr] at hok
          dsimp only at hok
          cases hcap : (Nat.blt cs (es_mc M) && Nat.ble (ss + r.2.2) (es_ms M))
          · rw [hcap] at h; cases h
          · rw [hcap] at h
            cases h
            rw [Bool.and_eq_true] at hcap
            have e1 := es_blt.mp hcap.1
            have e2 := Nat.ble_eq.mp hcap.2
            obtain ⟨C, T, N⟩ := r
            simp only [Bool.and_eq_true] at hok
            obtain ⟨c1, c2, c3⟩ := es_cl hr
            refine es_newo hx hb hown hts hK hH hr (hU ci _ hr) (es_tyf ci) c1 (fun q hq => es_pl _ (c3 q hq)) (es_wj_in hok.1) (es_wj_in hok.2.1) (es_wj_in hok.2.2) (by have := hR.1; omega) (by have := hR.2.1; dsimp only at e2; omega) hd (fun H1 g1 g2 g3 => k H1 ls _ _ ⟨hl, ⟨_, _, rfl, ?_, hs⟩, g1, hF, es_va_push hS g2 g3⟩)
            show Value.ref H.size = Value.ref (n0 + AH.length)
            rw [hH.1]
        · cases h
      · cases hok
      · rename_i hne1 hne2
        exact absurd rfl (hne2 _)
    · cases h
  -- newarray
  · rename_i ty
    split at h
    · rename_i t tl v S'
      cases hk : es_kn F v with
      | none => rw [hk] at h; cases h
      | some n =>
        rw [hk] at h
        dsimp only at h
        cases hcap : ((Nat.blt t 3 && Nat.blt n 1000000) && (Nat.blt cs (es_mc M) && Nat.ble (ss + n) (es_ms M)))
        · rw [hcap] at h; cases h
        · rw [hcap] at h
          cases h
          simp only [Bool.and_eq_true, es_blt, Nat.ble_eq] at hcap
          obtain ⟨⟨t3, n6⟩, e1, e2⟩ := hcap
          obtain ⟨x, st', rfl, hv, hs'⟩ := hs
          have e3 := es_kn_ok hF hv hk
          subst e3
          dsimp only at hok
          split at hok
          · rename_i t' j heq
            cases heq
            rw [Bool.and_eq_true] at hok
            have e4 := of_decide_eq_true hok.1
            subst e4
            refine es_newa hx hb hK hH t3 n6 (hts _ (es_wj_in hok.2)) (by have := hR.1; omega) (by have := hR.2.1; omega) hd (fun H1 g1 g2 g3 => k H1 ls _ _ ⟨hl, ⟨_, _, rfl, ?_, hs'⟩, g1, hF, es_va_push hS g2 g3⟩)
            show Value.ref H.size = Value.ref (n0 + AH.length)
            rw [hH.1]
          · cases hok
    · cases h
  -- anewarray
  · rename_i idx
    split at h
    · rename_i t tl v S'
      cases hk : es_kn F v with
      | none => rw [hk] at h; cases h
      | some n =>
        rw [hk] at h
        dsimp only at h
        cases hcap : ((Nat.blt t 2 && Nat.blt n 1000000) && (Nat.blt cs (es_mc M) && Nat.ble (ss + n) (es_ms M)))
        · rw [hcap] at h; cases h
        · rw [hcap] at h
          cases h
          simp only [Bool.and_eq_true, es_blt, Nat.ble_eq] at hcap
          obtain ⟨⟨t2, n6⟩, e1, e2⟩ := hcap
          obtain ⟨x, st', rfl, hv, hs'⟩ := hs
          have e3 := es_kn_ok hF hv hk
          subst e3
          dsimp only at hok
          split at hok
          · rename_i t' j heq
            cases heq
            split at hok
            · rename_i C hC
              have hover : va_AO C s := by
                match t, t2, hC with
                | 0, _, hC => cases hC; exact hao.1
                | 1, _, hC => cases hC; exact hao.2
              refine es_anew hx hb hown hK hH hC t2 n6 (hts _ (es_wj_in hok)) (va_AO.use hover) (by have := hR.1; omega) (by have := hR.2.1; omega) hd (fun H1 g1 g2 g3 => k H1 ls _ _ ⟨hl, ⟨_, _, rfl, ?_, hs'⟩, g1, hF, es_va_push hS g2 g3⟩)
              show Value.ref H.size = Value.ref (n0 + AH.length)
              rw [hH.1]
            · cases hok
          · cases hok
    · cases h
  -- arraylength
  · split at h
    · rename_i v S'
      obtain ⟨x, st', rfl, hv, hs'⟩ := hs
      cases h5 : Nat.beq v.1 5
      · rw [h5] at h
        dsimp only [cond_false] at h
        split at h
        · rename_i t n cf hA
          cases h
          obtain ⟨rfl, hA', -⟩ := es_ary_ok hA hv
          exact es_aln hx hb hK (hH.2 _ _ hA') hd (k H ls locs _ ⟨hl, ⟨_, _, rfl, rfl, hs'⟩, hH, hF, hS⟩)
        · cases h
      · rw [h5] at h
        cases h
        obtain ⟨t, q⟩ := v
        have e := es_beq.mp h5
        dsimp only at e
        subst e
        have e2 : x = .ref b := hv
        subst e2
        exact va_slen hx hb hscr.2.2 (Nat.lt_of_lt_of_le hscr.1 hscr.2.1) (Nat.not_le.mpr hscr.1) hS hd (k H ls locs _ ⟨hl, ⟨_, _, rfl, rfl, hs'⟩, hH, hF, hS⟩)
    · cases h
  · split at h
    · rename_i v j a S'
      split at h
      · rename_i t n cf jn hA hj
        exact es_stw fc hd hs hl hH hF hS hA hj h k
      · cases h
    · cases h
  · split at h
    · rename_i v j a S'
      split at h
      · rename_i t n cf jn hA hj
        exact es_stw fc hd hs hl hH hF hS hA hj h k
      · cases h
    · cases h
  · split at h
    · rename_i v j a S'
      split at h
      · rename_i t n cf jn hA hj
        exact es_stw fc hd hs hl hH hF hS hA hj h k
      · cases h
    · cases h
  · split at h
    · rename_i v j a S'
      split at h
      · rename_i t n cf jn hA hj
        exact es_stw fc hd hs hl hH hF hS hA hj h k
      · cases h
    · cases h
  · split at h
    · rename_i j a S'
      split at h
      · rename_i jn hj
        exact es_ldw fc hd hs hl hH hF hS hj h k
      · cases h
    · cases h
  · split at h
    · rename_i j a S'
      split at h
      · rename_i jn hj
        exact es_ldw fc hd hs hl hH hF hS hj h k
      · cases h
    · cases h
  · split at h
    · rename_i j a S'
      split at h
      · rename_i jn hj
        exact es_ldw fc hd hs hl hH hF hS hj h k
      · cases h
    · cases h
  · split at h
    · rename_i j a S'
      split at h
      · rename_i jn hj
        exact es_ldw fc hd hs hl hH hF hS hj h k
      · cases h
    · cases h
  · rename_i idx
    split at h
    · rename_i n tl
      cases h
      dsimp only at hok
      split at hok
      · rename_i n' j heq
        cases heq
        exact lv_ldc hx hb hown (hts _ (es_wj_in hok)) hd (k H ls locs _ ⟨hl, ⟨_, _, rfl, rfl, hs⟩, hH, hF, hS⟩)
      · cases hok
    · cases h
  · rename_i idx
    split at h
    · rename_i n tl
      cases h
      dsimp only at hok
      split at hok
      · rename_i n' j heq
        cases heq
        exact lv_ldcw hx hb hown (hts _ (es_wj_in hok)) hd (k H ls locs _ ⟨hl, ⟨_, _, rfl, rfl, hs⟩, hH, hF, hS⟩)
      · cases hok
    · cases h
  · rename_i idx
    split at h
    · rename_i n tl
      cases h
      dsimp only at hok
      split at hok
      · rename_i n' j heq
        cases heq
        exact lv_ldc2 hx hb hown (hts _ (es_wj_in hok)) hd (k H ls locs _ ⟨hl, ⟨_, _, rfl, rfl, hs⟩, hH, hF, hS⟩)
      · cases hok
    · cases h
  · cases h
end Hs
end
section
def es_veq (a b : es_V) : Bool := Nat.beq a.1 b.1 && Nat.beq a.2 b.2
def es_jv (a b : es_V) : Option es_V := bif es_veq a b then some a else bif es_ti a && es_ti b then some (6, 0) else none
def es_au (d : List (Nat × es_V)) : Bool := d.all (fun q => es_ti q.2)
def es_mu (d : List (Nat × es_V)) : List (Nat × es_V) := d.map (fun q => (q.1, (6, 0)))
def es_jc (g : Bool) : List (Nat × es_V) → List (Nat × es_V) → Option (List (Nat × es_V))
  | [], d => match d with
    | [] => some []
    | q :: t => bif g && es_au (q :: t) then some (es_mu (q :: t)) else none
  | p :: s, d => match d with
    | [] => bif g && es_au (p :: s) then some (es_mu (p :: s)) else none
    | q :: t => bif Nat.beq p.1 q.1 then (match es_jv p.2 q.2 with
      | some v => match es_jc g s t with
        | some r => some ((p.1, v) :: r)
        | none => none
      | none => none) else none
def es_jh : List es_O → List es_O → Option (List es_O)
  | [], d => match d with
    | [] => some []
    | _ :: _ => none
  | p :: s, d => match d with
    | [] => none
    | q :: t => bif Nat.beq p.1 q.1 && Nat.beq p.2.1 q.2.1 then (match es_jc (Nat.beq p.1 2) p.2.2 q.2.2 with
      | some c => match es_jh s t with
        | some r => some ((p.1, p.2.1, c) :: r)
        | none => none
      | none => none) else none
def es_jf : es_F → es_F → es_F
  | [], _ => []
  | p :: s, d => match d with
    | [] => []
    | q :: t => (bif Nat.ble p.1 q.1 then p.1 else q.1, bif Nat.ble p.2 q.2 then q.2 else p.2) :: es_jf s t
def es_j1 (a b : es_Lf) : Option es_Lf := bif Nat.beq a.1 b.1 then (match es_jv a.2.1 b.2.1 with
  | some v => match es_jh a.2.2.1 b.2.2.1 with
    | some h => some (a.1, v, h, es_jf a.2.2.2 b.2.2.2)
    | none => none
  | none => none) else none
def es_jl : es_Lf → List es_Lf → Option es_Lf
  | a, [] => some a
  | a, b :: t => match es_j1 a b with
    | some c => es_jl c t
    | none => none
/-- very many ends of a call, as one -/
def es_mrg (l : List es_Lf) : List es_Lf := bif Nat.blt 60 l.length then (match l.filter (fun x => Nat.blt x.1 2) with
  | [] => l
  | a :: t => match es_jl a t with
    | some j => j :: l.filter (fun x => !Nat.blt x.1 2)
    | none => l) else l
section Mrg
variable {D : va_G} {tys : List (ClassId × FieldType)} {n0 b : Nat} {ρ : Nat → Int32}
theorem es_jv_ok {u w v : es_V} (h : es_jv u w = some v) : (∀ x, es_vr n0 b ρ u x → es_vr n0 b ρ v x) ∧ ∀ x, es_vr n0 b ρ w x → es_vr n0 b ρ v x := by
  unfold es_jv at h
  cases he : es_veq u w
  · rw [he] at h
    dsimp only [cond_false] at h
    cases ht : (es_ti u && es_ti w)
    · rw [ht] at h; cases h
    · rw [ht] at h
      cases h
      rw [Bool.and_eq_true] at ht
      exact ⟨fun x hx => es_ti_int hx ht.1, fun x hx => es_ti_int hx ht.2⟩
  · rw [he] at h
    cases h
    unfold es_veq at he
    rw [Bool.and_eq_true, es_beq, es_beq] at he
    have e : u = w := Prod.ext he.1 he.2
    subst e
    exact ⟨fun x hx => hx, fun x hx => hx⟩
theorem es_mu_get : ∀ {d : List (Nat × es_V)}, es_au d = true → ∀ k, (es_get d k = none ∧ es_get (es_mu d) k = none) ∨ ∃ w, es_get d k = some w ∧ es_ti w = true ∧ es_get (es_mu d) k = some (6, 0)
  | [], _, k => Or.inl ⟨rfl, rfl⟩
  | q :: t, h, k => by
    unfold es_au at h
    rw [List.all_cons, Bool.and_eq_true] at h
    show (es_get (q :: t) k = none ∧ es_get ((q.1, (6, 0)) :: es_mu t) k = none) ∨ ∃ w, es_get (q :: t) k = some w ∧ es_ti w = true ∧ es_get ((q.1, (6, 0)) :: es_mu t) k = some (6, 0)
    unfold es_get
    cases hk : Nat.beq q.1 k
    · dsimp only [cond_false]
      exact es_mu_get h.2 k
    · dsimp only [cond_true]
      exact Or.inr ⟨_, rfl, h.1, rfl⟩
theorem es_jc_get {g : Bool} : ∀ {c d r : List (Nat × es_V)}, es_jc g c d = some r → ∀ k, (es_get c k = none ∧ es_get d k = none ∧ es_get r k = none) ∨ (∃ u w v, es_get c k = some u ∧ es_get d k = some w ∧ es_get r k = some v ∧ es_jv u w = some v) ∨ (g = true ∧ es_get r k = some (6, 0) ∧ ((es_get c k = none ∧ ∃ w, es_get d k = some w ∧ es_ti w = true) ∨ (es_get d k = none ∧ ∃ u, es_get c k = some u ∧ es_ti u = true)))
  | [], d, r, h, k => by
    cases d with
    | nil => cases h; exact Or.inl ⟨rfl, rfl, rfl⟩
    | cons q t =>
      unfold es_jc at h
      dsimp only at h
      cases hc : (g && es_au (q :: t))
      · rw [hc] at h; cases h
      · rw [hc] at h
        cases h
        rw [Bool.and_eq_true] at hc
        rcases es_mu_get hc.2 k with ⟨h1, h2⟩ | ⟨w, h1, h2, h3⟩
        · exact Or.inl ⟨rfl, h1, h2⟩
        · exact Or.inr (Or.inr ⟨hc.1, h3, Or.inl ⟨rfl, w, h1, h2⟩⟩)
  | p :: s, d, r, h, k => by
    cases d with
    | nil =>
      unfold es_jc at h
      dsimp only at h
      cases hc : (g && es_au (p :: s))
      · rw [hc] at h; cases h
      · rw [hc] at h
        cases h
        rw [Bool.and_eq_true] at hc
        rcases es_mu_get hc.2 k with ⟨h1, h2⟩ | ⟨w, h1, h2, h3⟩
        · exact Or.inl ⟨h1, rfl, h2⟩
        · exact Or.inr (Or.inr ⟨hc.1, h3, Or.inr ⟨rfl, w, h1, h2⟩⟩)
    | cons q t =>
      unfold es_jc at h
      dsimp only at h
      cases he : Nat.beq p.1 q.1
      · rw [he] at h; cases h
      · rw [he] at h
        dsimp only [cond_true] at h
        cases hv : es_jv p.2 q.2 with
        | none => rw [hv] at h; cases h
        | some v =>
          rw [hv] at h
          dsimp only at h
          cases hr : es_jc g s t with
          | none => rw [hr] at h; cases h
          | some r' =>
            rw [hr] at h
            cases h
            have e1 := es_beq.mp he
            unfold es_get
            rw [← e1]
            cases hk : Nat.beq p.1 k
            · dsimp only [cond_false]
              exact es_jc_get hr k
            · dsimp only [cond_true]
              exact Or.inr (Or.inl ⟨_, _, _, rfl, rfl, rfl, hv⟩)
theorem es_jo_ok {g : Bool} {t i : Nat} (hg : g = true → t = 2) {c d r : List (Nat × es_V)} (h : es_jc g c d = some r) {a : Nat} {H : Heap} : (es_or D tys n0 b ρ a (t, i, c) H → es_or D tys n0 b ρ a (t, i, r) H) ∧ (es_or D tys n0 b ρ a (t, i, d) H → es_or D tys n0 b ρ a (t, i, r) H) := by
  match t, hg with
  | 0, hg =>
    refine ⟨fun ho => ?_, fun ho => ?_⟩
    · obtain ⟨q, V, h1, h2, h3⟩ := ho
      refine ⟨q, V, h1, h2, fun k v hv => ?_⟩
      have hv' : es_get r k = some v := hv
      rcases es_jc_get h k with ⟨-, -, g⟩ | ⟨u, w, v', g1, g2, g3, g4⟩ | ⟨hg1, -⟩
      · rw [g] at hv'; cases hv'
      · rw [g3] at hv'
        cases hv'
        exact ⟨(h3 k u g1).1, (es_jv_ok g4).1 _ (h3 k u g1).2⟩
      · exact absurd (hg hg1) (by decide)
    · obtain ⟨q, V, h1, h2, h3⟩ := ho
      refine ⟨q, V, h1, h2, fun k v hv => ?_⟩
      have hv' : es_get r k = some v := hv
      rcases es_jc_get h k with ⟨-, -, g⟩ | ⟨u, w, v', g1, g2, g3, g4⟩ | ⟨hg1, -⟩
      · rw [g] at hv'; cases hv'
      · rw [g3] at hv'
        cases hv'
        exact ⟨(h3 k w g2).1, (es_jv_ok g4).2 _ (h3 k w g2).2⟩
      · exact absurd (hg hg1) (by decide)
  | 1, _ => exact ⟨fun _ => trivial, fun _ => trivial⟩
  | t + 2, hg =>
    have ht0 : g = true → t = 0 := fun h9 => by have := hg h9; omega
    refine ⟨fun ho => ?_, fun ho => ?_⟩
    · obtain ⟨q, V, h1, h2, h3⟩ := ho
      refine ⟨q, V, h1, h2, fun j hj => ?_⟩
      have h4 := h3 j hj
      dsimp only at h4 ⊢
      unfold es_ad at h4 ⊢
      rcases es_jc_get h j with ⟨g1, g2, g3⟩ | ⟨u, w, v', g1, g2, g3, g4⟩ | ⟨hg1, g3, ⟨g1, -⟩ | ⟨-, u, g1, g4⟩⟩
      · rw [g3]; rw [g1] at h4; exact h4
      · rw [g3]; rw [g1] at h4; exact (es_jv_ok g4).1 _ h4
      · rw [g3]; rw [g1] at h4
        have e0 := ht0 hg1
        subst e0
        exact ⟨_, h4⟩
      · rw [g3]; rw [g1] at h4
        exact es_ti_int h4 g4
    · obtain ⟨q, V, h1, h2, h3⟩ := ho
      refine ⟨q, V, h1, h2, fun j hj => ?_⟩
      have h4 := h3 j hj
      dsimp only at h4 ⊢
      unfold es_ad at h4 ⊢
      rcases es_jc_get h j with ⟨g1, g2, g3⟩ | ⟨u, w, v', g1, g2, g3, g4⟩ | ⟨hg1, g3, ⟨-, u, g1, g4⟩ | ⟨g1, -⟩⟩
      · rw [g3]; rw [g2] at h4; exact h4
      · rw [g3]; rw [g2] at h4; exact (es_jv_ok g4).2 _ h4
      · rw [g3]; rw [g1] at h4
        exact es_ti_int h4 g4
      · rw [g3]; rw [g1] at h4
        have e0 := ht0 hg1
        subst e0
        exact ⟨_, h4⟩
theorem es_jh_ok : ∀ {A B C : List es_O}, es_jh A B = some C → (A.length = C.length ∧ B.length = C.length) ∧ ∀ (i : Nat) (o : es_O), C[i]? = some o → ∀ (a : Nat) (H : Heap), (∀ o1, A[i]? = some o1 → es_or D tys n0 b ρ a o1 H → es_or D tys n0 b ρ a o H) ∧ (∀ o1, B[i]? = some o1 → es_or D tys n0 b ρ a o1 H → es_or D tys n0 b ρ a o H)
  | [], B, C, h => by
    cases B with
    | nil => cases h; exact ⟨⟨rfl, rfl⟩, fun i o ho => by cases ho⟩
    | cons q t => cases h
  | p :: s, B, C, h => by
    cases B with
    | nil => cases h
    | cons q t =>
      unfold es_jh at h
      dsimp only at h
      cases he : (Nat.beq p.1 q.1 && Nat.beq p.2.1 q.2.1)
      · rw [he] at h; cases h
      · rw [he] at h
        dsimp only [cond_true] at h
        cases hv : es_jc (Nat.beq p.1 2) p.2.2 q.2.2 with
        | none => rw [hv] at h; cases h
        | some c =>
          rw [hv] at h
          dsimp only at h
          cases hr : es_jh s t with
          | none => rw [hr] at h; cases h
          | some r =>
            rw [hr] at h
            cases h
            obtain ⟨⟨l1, l2⟩, ih⟩ := es_jh_ok hr
            rw [Bool.and_eq_true, es_beq, es_beq] at he
            refine ⟨⟨by simp [l1], by simp [l2]⟩, fun i o ho a H => ?_⟩
            cases i with
            | zero =>
              cases ho
              refine ⟨fun o1 h1 h2 => ?_, fun o1 h1 h2 => ?_⟩
              · cases h1; exact (es_jo_ok es_beq.mp hv).1 h2
              · cases h1
                have h3 : es_or D tys n0 b ρ a (p.1, p.2.1, q.2.2) H := by rw [he.1, he.2]; exact h2
                exact (es_jo_ok es_beq.mp hv).2 h3
            | succ i => exact ih i o ho a H
theorem es_jh_hr {A B C : List es_O} (h : es_jh A B = some C) {H : Heap} : (es_hr D tys n0 b ρ A H → es_hr D tys n0 b ρ C H) ∧ (es_hr D tys n0 b ρ B H → es_hr D tys n0 b ρ C H) := by
  obtain ⟨⟨l1, l2⟩, ih⟩ := es_jh_ok (D := D) (tys := tys) (n0 := n0) (b := b) (ρ := ρ) h
  refine ⟨fun hA => ⟨by rw [← l1]; exact hA.1, fun i o ho => ?_⟩, fun hB => ⟨by rw [← l2]; exact hB.1, fun i o ho => ?_⟩⟩
  · have hi : i < A.length := by rw [l1]; exact (List.getElem?_eq_some_iff.mp ho).1
    exact (ih i o ho (n0 + i) H).1 _ (List.getElem?_eq_getElem hi) (hA.2 i _ (List.getElem?_eq_getElem hi))
  · have hi : i < B.length := by rw [l2]; exact (List.getElem?_eq_some_iff.mp ho).1
    exact (ih i o ho (n0 + i) H).2 _ (List.getElem?_eq_getElem hi) (hB.2 i _ (List.getElem?_eq_getElem hi))
theorem es_jf_ok : ∀ {F G : es_F} (k : Nat) (q : Nat × Nat), (es_jf F G)[k]? = some q → (∃ p, F[k]? = some p ∧ q.1 ≤ p.1 ∧ p.2 ≤ q.2) ∧ ∃ p, G[k]? = some p ∧ q.1 ≤ p.1 ∧ p.2 ≤ q.2
  | [], G, k, q, h => by cases h
  | p :: s, G, k, q, h => by
    cases G with
    | nil => cases h
    | cons r t =>
      cases k with
      | succ k => exact es_jf_ok (F := s) (G := t) k q h
      | zero =>
        have h2 : (bif Nat.ble p.1 r.1 then p.1 else r.1, bif Nat.ble p.2 r.2 then r.2 else p.2) = q := by
          unfold es_jf at h
          dsimp only at h
          exact Option.some.inj h
        subst h2
        dsimp only
        refine ⟨⟨p, rfl, ?_, ?_⟩, r, rfl, ?_, ?_⟩
        · cases hb : Nat.ble p.1 r.1
          · dsimp only [cond_false]
            have : ¬ p.1 ≤ r.1 := fun h9 => by rw [Nat.ble_eq.mpr h9] at hb; cases hb
            omega
          · exact Nat.le_refl _
        · cases hb : Nat.ble p.2 r.2
          · exact Nat.le_refl _
          · exact Nat.ble_eq.mp hb
        · cases hb : Nat.ble p.1 r.1
          · exact Nat.le_refl _
          · exact Nat.ble_eq.mp hb
        · cases hb : Nat.ble p.2 r.2
          · dsimp only [cond_false]
            have : ¬ p.2 ≤ r.2 := fun h9 => by rw [Nat.ble_eq.mpr h9] at hb; cases hb
            omega
          · exact Nat.le_refl _
def es_lle (D : va_G) (tys : List (ClassId × FieldType)) (n0 b : Nat) (ρ : Nat → Int32) (lf lf' : es_Lf) : Prop :=
  lf.1 = lf'.1 ∧ (∀ x, es_vr n0 b ρ lf.2.1 x → es_vr n0 b ρ lf'.2.1 x) ∧ (∀ H, es_hr D tys n0 b ρ lf.2.2.1 H → es_hr D tys n0 b ρ lf'.2.2.1 H) ∧ (es_fr ρ lf.2.2.2 → es_fr ρ lf'.2.2.2)
theorem es_lle_rf (lf : es_Lf) : es_lle D tys n0 b ρ lf lf := ⟨rfl, fun _ h => h, fun _ h => h, fun h => h⟩
theorem es_lle_tr {a c d : es_Lf} (h1 : es_lle D tys n0 b ρ a c) (h2 : es_lle D tys n0 b ρ c d) : es_lle D tys n0 b ρ a d :=
  ⟨h1.1.trans h2.1, fun x h => h2.2.1 x (h1.2.1 x h), fun H h => h2.2.2.1 H (h1.2.2.1 H h), fun h => h2.2.2.2 (h1.2.2.2 h)⟩
theorem es_j1_ok {a c d : es_Lf} (h : es_j1 a c = some d) : es_lle D tys n0 b ρ a d ∧ es_lle D tys n0 b ρ c d := by
  unfold es_j1 at h
  cases he : Nat.beq a.1 c.1
  · rw [he] at h; cases h
  · rw [he] at h
    dsimp only [cond_true] at h
    cases hv : es_jv a.2.1 c.2.1 with
    | none => rw [hv] at h; cases h
    | some v =>
      rw [hv] at h
      dsimp only at h
      cases hr : es_jh a.2.2.1 c.2.2.1 with
      | none => rw [hr] at h; cases h
      | some r =>
        rw [hr] at h
        cases h
        have e1 := es_beq.mp he
        refine ⟨⟨rfl, (es_jv_ok hv).1, fun H hh => (es_jh_hr hr).1 hh, fun hf k q hq => ?_⟩, ⟨e1.symm, (es_jv_ok hv).2, fun H hh => (es_jh_hr hr).2 hh, fun hf k q hq => ?_⟩⟩
        · obtain ⟨⟨p, h1, h2, h3⟩, -⟩ := es_jf_ok k q hq
          have := hf k p h1
          omega
        · obtain ⟨-, p, h1, h2, h3⟩ := es_jf_ok k q hq
          have := hf k p h1
          omega
theorem es_jl_ok : ∀ {t : List es_Lf} {a d : es_Lf}, es_jl a t = some d → es_lle D tys n0 b ρ a d ∧ ∀ c ∈ t, es_lle D tys n0 b ρ c d
  | [], a, d, h => by cases h; exact ⟨es_lle_rf _, fun c hc => by cases hc⟩
  | b1 :: t, a, d, h => by
    unfold es_jl at h
    cases hj : es_j1 a b1 with
    | none => rw [hj] at h; cases h
    | some c =>
      rw [hj] at h
      obtain ⟨h1, h2⟩ := es_jl_ok (show es_jl c t = some d from h)
      obtain ⟨g1, g2⟩ := es_j1_ok (D := D) (tys := tys) (n0 := n0) (b := b) (ρ := ρ) hj
      refine ⟨es_lle_tr g1 h1, fun c' hc => ?_⟩
      rcases List.mem_cons.mp hc with rfl | hc
      · exact es_lle_tr g2 h1
      · exact h2 c' hc
theorem es_mrg_ok (l : List es_Lf) (lf : es_Lf) (h : lf ∈ l) : ∃ lf' ∈ es_mrg l, es_lle D tys n0 b ρ lf lf' := by
  unfold es_mrg
  cases hn : Nat.blt 60 l.length
  · exact ⟨lf, h, es_lle_rf _⟩
  · dsimp only [cond_true]
    split
    · exact ⟨lf, h, es_lle_rf _⟩
    · rename_i a t hf
      split
      · rename_i j hj
        obtain ⟨h1, h2⟩ := es_jl_ok (D := D) (tys := tys) (n0 := n0) (b := b) (ρ := ρ) hj
        cases hk : Nat.blt lf.1 2
        · exact ⟨lf, List.mem_cons_of_mem _ (List.mem_filter.mpr ⟨h, by rw [hk]; rfl⟩), es_lle_rf _⟩
        · have h3 : lf ∈ l.filter (fun x => Nat.blt x.1 2) := List.mem_filter.mpr ⟨h, hk⟩
          rw [hf] at h3
          rcases List.mem_cons.mp h3 with rfl | h3
          · exact ⟨j, List.mem_cons_self, h1⟩
          · exact ⟨j, List.mem_cons_self, h2 lf h3⟩
      · exact ⟨lf, h, es_lle_rf _⟩
end Mrg
end
section
def es_exc (n : Nat) : String := match n with
  | 0 => "java/lang/IllegalArgumentException"
  | 1 => "java/lang/UnsupportedOperationException"
  | 2 => "java/util/NoSuchElementException"
  | 3 => "java/lang/IndexOutOfBoundsException"
  | _ => "java/lang/IllegalStateException"
/-- the row of a table that takes a thrown one: the class of a row by its number -/
def es_hdl (ct : Nat → Nat) : List (Nat × Nat × Nat × Nat) → Nat → Nat → Option Nat
  | [], _, _ => none
  | q :: t, pc, x => bif Nat.ble q.1 pc && Nat.blt pc q.2.1 then (bif Nat.beq (ct q.2.2.2) x then some q.2.2.1 else es_hdl ct t pc x) else es_hdl ct t pc x
def es_ct (n : Nat) : Nat := match n with
  | 13 => 0
  | 15 => 1
  | 24 => 3
  | 26 => 2
  | 42 => 4
  | _ => 99
def es_n6 (v : es_V) : Bool := !(Nat.beq v.1 1 && Nat.beq v.2 6)
def es_n6l (L : List (Nat × es_V)) : Bool := L.all (fun q => es_n6 q.2)
def es_n6h (AH : List es_O) : Bool := AH.all (fun o => es_n6l o.2.2)
def es_fg1 (AH : List es_O) (a k : Nat) : Option (List es_O) := match AH[a]? with
  | some (0, ci, c) => match es_get c k with
    | some v => bif es_ti v then some (AH.set a (0, ci, es_set c k (6, 0))) else none
    | none => none
  | some (2, n, c) => bif es_ti (es_ad 0 c k) then some (AH.set a (2, n, es_set c k (6, 0))) else none
  | _ => none
def es_fg (AH : List es_O) : List (Nat × Nat) → Option (List es_O)
  | [] => some AH
  | q :: t => match es_fg1 AH q.1 q.2 with
    | some AH' => es_fg AH' t
    | none => none
def es_prs : List Nat → List (Nat × Nat)
  | a :: b :: t => (a, b) :: es_prs t
  | _ => []
def es_isl (ins : Instr) (i : Nat) : Bool := match ins with
  | .iload_n k => Nat.beq k i
  | .iload k => Nat.beq k i
  | _ => false
def es_teq (pc : Nat) (off : Int) (t : Nat) : Bool := match es_to pc off with
  | some x => Nat.beq x t
  | none => false
def es_nl (L : es_L) (i : Nat) : Bool := match i with
  | 0 => true
  | j + 1 => match es_get L j with
    | some w => !Nat.beq w.1 2
    | none => true
def es_subl (L Lb : es_L) : Bool := L.all (fun q => match es_get Lb q.1 with
  | some v => es_veq v q.2
  | none => false)
def es_is6 (v : Option es_V) : Bool := match v with
  | some v => es_veq v (1, 6)
  | none => false
def es_ise (v : Option es_V) (w : es_V) : Bool := match v with
  | some v => es_veq v w
  | none => false
def es_lr1 (T : es_M) (nl h1 h2 : Nat) : Bool := match es_at (es_tab T) h1 with
  | some e => es_isl e.2.1 nl && Nat.beq (h1 + es_len e.2.1) h2
  | none => false
def es_lr2 (T : es_M) (h2 ex : Nat) : Bool := match es_at (es_tab T) h2 with
  | some e => match e.2.1 with
    | .if_icmp .ge off => es_teq h2 off ex
    | _ => false
  | none => false
def es_lr3 (T : es_M) (i q : Nat) : Bool := match es_at (es_tab T) q with
  | some e => match e.2.1 with
    | .iinc k n => Nat.beq k i && decide (n = 1)
    | _ => false
  | none => false
def es_lr4 (T : es_M) (q h : Nat) : Bool := match es_at (es_tab T) (q + 3) with
  | some e => match e.2.1 with
    | .goto off => es_teq (q + 3) off h
    | _ => false
  | none => false
def es_lpc (T : es_M) (SL : Nat) (ins : Instr) (h i nl h1 h2 q ex : Nat) (Lx : es_L) (AHg : List es_O) (F : es_F) (vi vn : es_V) : Bool :=
  (((es_isl ins i && Nat.beq (h + es_len ins) h1) && (es_ti vi && Nat.ble vn.1 1)) && ((es_n6l Lx && es_n6h AHg) && ((Nat.ble F.length 6 && Nat.ble SL 6) && (es_nl Lx i && Nat.blt i (es_mL T))))) && (((es_ise (es_get Lx nl) vn && !Nat.beq nl i) && es_lr1 T nl h1 h2) && (es_lr2 T h2 ex && (es_lr3 T i q && es_lr4 T q h)))
def es_nil (S : List es_V) : Bool := match S with
  | [] => true
  | _ => false
def es_feq (A : Option (List es_O)) (B : List es_O) : Bool := match A with
  | some A => decide (A = B)
  | none => false
def es_lpe (q i : Nat) (Lx : es_L) (AHg : List es_O) (fl : List (Nat × Nat)) (cs ss : Nat) (E : es_E) : Bool :=
  ((Nat.beq E.1 0 && Nat.beq E.2.1 q) && (es_nil E.2.2.2.1 && (es_subl Lx E.2.2.1 && es_is6 (es_get E.2.2.1 i)))) && ((Nat.beq E.2.2.2.2.2.2.1 cs && Nat.beq E.2.2.2.2.2.2.2 ss) && es_feq (es_fg E.2.2.2.2.1 fl) AHg)
/-- a loop that counts: its body once, at a counter that is any number -/
def es_lp (T : es_M) (SL : Nat) (ih : Nat → es_K → Option (List es_E)) (M : Nat) (ins : Instr) (h i nl h1 h2 q ex : Nat) (fl : List (Nat × Nat)) (L : es_L) (S : List es_V) (AH : List es_O) (F : es_F) (cs ss : Nat) : Option (List es_E) := match S with
  | _ :: _ => none
  | [] => match es_get L i with
    | none => none
    | some vi => match es_get L nl with
      | none => none
      | some vn => match es_fg AH fl with
        | none => none
        | some AHg => bif es_lpc T SL ins h i nl h1 h2 q ex (es_del L i) AHg F vi vn then
            (match ih M (h2 + 3, es_set (es_del L i) i (1, 6), [], AHg, F, cs, ss) with
            | none => none
            | some ends => bif ends.all (es_lpe q i (es_del L i) AHg fl cs ss) then ih M (ex, es_del L i, [], AHg, F, cs, ss) else none) else none
section Step
variable (ME : Nat → es_M) (SL : Nat)
/-- behind a call: what each end of the callee leads to -/
def es_aft (ih : Nat → es_K → Option (List es_E)) (M : Nat) (pc : Nat) (L : es_L) (S : List es_V) (cs ss : Nat) (lf : es_Lf) : Option (List es_E) := match lf with
  | (0, _, AH, F) => ih M (pc + 3, L, S, AH, F, cs, ss)
  | (1, v, AH, F) => ih M (pc + 3, L, v :: S, AH, F, cs, ss)
  | (x + 2, _, AH, F) => match es_hh (ME M) with
    | [] => some [(x + 1, pc, L, S, AH, F, cs, ss)]
    | hh => match es_hdl es_ct hh pc x with
      | some h => bif Nat.blt x 5 then ih M (h, L, [(7, 0)], AH, F, cs, ss) else none
      | none => none
/-- a call of the method M' with the arguments vs: its ends -/
def es_inv1 (ih : Nat → es_K → Option (List es_E)) (M M' : Nat) (vs : List es_V) (rest : List es_V) (AH : List es_O) (F : es_F) (cs ss : Nat) : Option (List es_Lf) :=
  bif (Nat.ble (es_cts vs) (es_mL (ME M')) && Nat.ble (es_cts rest) 8) && ((Nat.blt (es_rf (ME M')) (es_rf (ME M)) && Nat.ble (19 + es_mL (ME M') + es_lo (ME M')) (es_lo (ME M))) && (Nat.ble (cs + es_mc (ME M')) (es_mc (ME M)) && Nat.ble (ss + es_ms (ME M')) (es_ms (ME M)))) then
    (match ih M' (0, es_al 0 vs, [], AH, F, 0, 0) with
    | some ends => match es_cat (fun E => (es_leaf (ME M') E).map (fun x => [x])) ends with
      | some lfs => some (es_mrg lfs)
      | none => none
    | none => none) else none
def es_nothr (l : List es_Lf) : Bool := l.all (fun x => Nat.blt x.1 2)
def es_copy (t : Nat) (cs cd : List (Nat × es_V)) (sp dp : Nat) : Nat → List (Nat × es_V)
  | 0 => cd
  | n + 1 => es_aset t (es_copy t cs cd sp dp n) (dp + n) (es_ad t cs (sp + n))
def es_tn (ih : Nat → es_K → Option (List es_E)) (M pc : Nat) (L : es_L) (S' : List es_V) (AH : List es_O) (F : es_F) (cs ss : Nat) (dflt lo hi : Int) (q : Nat × Nat) : Option (List es_E) := match es_to pc dflt with
  | some t => bif decide ((q.2 : Int) - 2147483648 < lo) || decide (hi < (q.1 : Int) - 2147483648) then ih M (t, L, S', AH, F, cs, ss) else none
  | none => none
def es_sv (ih : Nat → es_K → Option (List es_E)) (M M' n ci pc : Nat) (L : es_L) (S : List es_V) (AH : List es_O) (F : es_F) (cs ss : Nat) : Option (List es_E) := match S.drop n with
  | o :: S' => match es_obj AH ci o with
    | some _ => match es_inv1 ME ih M M' (o :: (S.take n).reverse) S' AH F cs ss with
      | some lfs => es_cat (es_aft ME ih M pc L S' (cs + es_mc (ME M')) (ss + es_ms (ME M'))) lfs
      | none => none
    | none => none
  | _ => none
def es_ss (ih : Nat → es_K → Option (List es_E)) (M M' n pc : Nat) (L : es_L) (S : List es_V) (AH : List es_O) (F : es_F) (cs ss : Nat) : Option (List es_E) := bif Nat.ble n S.length then (match es_inv1 ME ih M M' (S.take n).reverse (S.drop n) AH F cs ss with
  | some lfs => es_cat (es_aft ME ih M pc L (S.drop n) (cs + es_mc (ME M')) (ss + es_ms (ME M'))) lfs
  | none => none) else none
def es_sc (ih : Nat → es_K → Option (List es_E)) (M pc : Nat) (L : es_L) (S : List es_V) (AH : List es_O) (F : es_F) (cs ss : Nat) : Option (List es_E) := match S with
  | vn :: vd :: d :: vs :: s :: S' => match es_ary AH s, es_ary AH d with
    | some (ts, ns, c1), some (td, nd, c2) => match es_kn F vs, es_kn F vd, es_kn F vn with
      | some sp, some dp, some n => bif ((Nat.beq ts 0 && Nat.beq td 0) && ((Nat.ble (sp + n) ns && Nat.ble (dp + n) nd) && (Nat.blt 0 (es_rf (ME M)) && Nat.ble 200 (es_lo (ME M))))) && ((!(Nat.beq s.2 d.2) && c1.all (fun x => es_ti x.2)) && Nat.ble (es_cts S') 8) then ih M (pc + 3, L, S', AH.set d.2 (2, nd, es_copy 0 c1 c2 sp dp n), F, cs, ss) else none
      | _, _, _ => none
    | _, _ => none
  | _ => none
def es_smm (f : Int32 → Int32 → Int32) (ih : Nat → es_K → Option (List es_E)) (M pc : Nat) (L : es_L) (S : List es_V) (AH : List es_O) (F : es_F) (cs ss : Nat) : Option (List es_E) := match S with
  | w :: v :: S' => bif (es_ti v && es_ti w) && (((Nat.blt 0 (es_rf (ME M)) && Nat.ble 200 (es_lo (ME M))) && Nat.ble (es_cts S') 8) && (Nat.ble cs (es_mc (ME M)) && Nat.ble ss (es_ms (ME M)))) then ih M (pc + 3, L, es_bin f F v w :: S', AH, F, cs, ss) else none
  | _ => none
def es_si (ih : Nat → es_K → Option (List es_E)) (M M' n pc : Nat) (L : es_L) (S : List es_V) (AH : List es_O) (F : es_F) (cs ss : Nat) : Option (List es_E) := match S.drop n with
  | o :: S' => bif Nat.beq o.1 3 then (match es_inv1 ME ih M M' (o :: (S.take n).reverse) S' AH F cs ss with
      | some lfs => bif es_nothr lfs then es_cat (es_aft ME ih M pc L S' (cs + es_mc (ME M')) (ss + es_ms (ME M'))) lfs else none
      | none => none) else none
  | _ => none
def es_so (ih : Nat → es_K → Option (List es_E)) (M pc : Nat) (L : es_L) (S : List es_V) (AH : List es_O) (F : es_F) (cs ss : Nat) : Option (List es_E) := match S with
  | o :: S' => bif Nat.beq o.1 3 && (Nat.blt 0 (es_rf (ME M)) && Nat.ble (es_cts S' + 12) (es_lo (ME M))) then ih M (pc + 3, L, S', AH, F, cs, ss) else none
  | _ => none
def es_step (ih : Nat → es_K → Option (List es_E)) (M : Nat) (K : es_K) : Option (List es_E) := match K with
  | (pc, L, S, AH, F, cs, ss) => match es_at (es_tab (ME M)) pc with
    | none => none
    | some e => match e.2.2.2 with
      | 200 :: _ => some [(0, K)]
      | 100 :: _ => some [(0, K)]
      | 300 :: i :: nl :: h1 :: h2 :: q :: ex :: fl => es_lp (ME M) SL ih M e.2.1 pc i nl h1 h2 q ex (es_prs fl) L S AH F cs ss
      | _ => match es_pure (es_mL (ME M)) e.2.1 pc L S F with
        | some (pc', L', S') => ih M (pc', L', S', AH, F, cs, ss)
        | none => match es_hs SL (ME M) e K with
          | some K' => ih M K'
          | none => match e.2.1 with
            | .return_ | .ireturn | .lreturn | .areturn => some [(0, K)]
            | .ifCond op off => match S, es_to pc off with
              | v :: S', some t => bif es_ti v then (match es_cat (fun f => ih M (t, L, S', AH, f, cs, ss)) (es_br F op v (0, 0)) with
                  | some x => match es_cat (fun f => ih M (pc + 3, L, S', AH, f, cs, ss)) (es_br F (es_ng op) v (0, 0)) with
                    | some y => some (x ++ y)
                    | none => none
                  | none => none) else none
              | _, _ => none
            | .if_icmp op off => match S, es_to pc off with
              | w :: v :: S', some t => bif es_ti v && es_ti w then (match es_cat (fun f => ih M (t, L, S', AH, f, cs, ss)) (es_br F op v w) with
                  | some x => match es_cat (fun f => ih M (pc + 3, L, S', AH, f, cs, ss)) (es_br F (es_ng op) v w) with
                    | some y => some (x ++ y)
                    | none => none
                  | none => none) else none
              | _, _ => none
            | .tableswitch dflt lo hi offs => match S with
              | v :: S' => match es_kn F v with
                | some n => match es_to pc (bif decide ((nI n).toInt < lo) || decide (hi < (nI n).toInt) then dflt else (offs[((nI n).toInt - lo).toNat]?).getD 0) with
                  | some t => bif (decide ((nI n).toInt < lo) || decide (hi < (nI n).toInt)) || decide (((nI n).toInt - lo).toNat < offs.size) then ih M (t, L, S', AH, F, cs, ss) else none
                  | none => none
                | none => match v.1, F[v.2]? with
                  | 1, some q => es_tn ih M pc L S' AH F cs ss dflt lo hi q
                  | _, _ => none
              | _ => none
            | .invokevirtual _ => match e.2.2.2 with
              | 1 :: M' :: n :: ci :: _ => es_sv ME ih M M' n ci pc L S AH F cs ss
              | _ => none
            | .invokestatic _ => match e.2.2.2 with
              | 2 :: M' :: n :: _ => es_ss ME ih M M' n pc L S AH F cs ss
              | 4 :: _ => es_sc ME ih M pc L S AH F cs ss
              | 5 :: _ => es_smm ME (fun x y => if y < x then y else x) ih M pc L S AH F cs ss
              | 6 :: _ => es_smm ME (fun x y => if x < y then y else x) ih M pc L S AH F cs ss
              | _ => none
            | .invokespecial _ => match e.2.2.2 with
              | 7 :: M' :: n :: _ => es_si ME ih M M' n pc L S AH F cs ss
              | 9 :: _ => es_so ME ih M pc L S AH F cs ss
              | _ => none
            | _ => none
noncomputable def es_run : Nat → Nat → es_K → Option (List es_E) := fun n => Nat.rec (motive := fun _ => Nat → es_K → Option (List es_E)) (fun _ _ => none) (fun _ ih M K => es_step ME SL ih M K) n
theorem es_run_z (M : Nat) (K : es_K) : es_run ME SL 0 M K = none := rfl
theorem es_run_s (n M : Nat) (K : es_K) : es_run ME SL (n + 1) M K = es_step ME SL (es_run ME SL n) M K := rfl
end Step
end
section
def es_opn (n : Nat) : es_Op := bif Nat.ble n 2 then (bif Nat.beq n 0 then .eq else bif Nat.beq n 1 then .ne else .lt) else (bif Nat.beq n 3 then .ge else bif Nat.beq n 4 then .gt else .le)
abbrev es_C : Type := Nat × Nat × Nat
noncomputable def es_fi2 (l : List (Nat × es_C)) (pc : Nat) : Option es_C := @List.rec (Nat × es_C) (fun _ => Option es_C) none (fun q _ ih => bif Nat.beq q.1 pc then some q.2 else ih) l
noncomputable def es_at2 (l : List (Nat × List (Nat × es_C))) (pc : Nat) : Option es_C := @List.rec (Nat × List (Nat × es_C)) (fun _ => Option es_C) none (fun q _ ih => bif Nat.blt pc q.1 then es_fi2 q.2 pc else ih) l
def es_fa (c a n nL pc : Nat) (L : es_L) (S : List es_V) : Option (Nat × es_L × List es_V) := bif Nat.ble c 2 then (bif Nat.beq c 1 then es_ld es_ti a n pc L S else es_ld es_tr a n pc L S) else (bif Nat.beq c 3 then some (pc + n, L, (0, a) :: S) else es_sto es_ti nL a n pc L S)
def es_finc (a n nL pc : Nat) (L : es_L) (S : List es_V) (F : es_F) : Option (Nat × es_L × List es_V) := match es_get L a with
  | some v => bif es_ti v && Nat.blt a nL then some (pc + 3, es_st L a (es_un (fun x => x + nI n) F v), S) else none
  | none => none
def es_fb (c a n nL pc : Nat) (L : es_L) (S : List es_V) (F : es_F) : Option (Nat × es_L × List es_V) := bif Nat.beq c 5 then es_finc a n nL pc L S F else some (a, L, S)
def es_fc1 (c pc : Nat) (L : es_L) (S : List es_V) (F : es_F) : Option (Nat × es_L × List es_V) := bif Nat.ble c 8 then (bif Nat.beq c 7 then es_i2 (fun x y => x + y) pc L S F else es_i2 (fun x y => x - y) pc L S F) else (bif Nat.beq c 9 then es_i2 (fun x y => x * y) pc L S F else es_i2 (fun x y => x &&& y) pc L S F)
def es_fc2 (c pc : Nat) (L : es_L) (S : List es_V) (F : es_F) : Option (Nat × es_L × List es_V) := bif Nat.ble c 12 then (bif Nat.beq c 11 then es_i2 (fun x y => x ||| y) pc L S F else es_i2 (fun x y => x <<< (y &&& 31)) pc L S F) else (bif Nat.beq c 13 then es_i2 (fun x y => x >>> (y &&& 31)) pc L S F else es_d2 (fun x y => x - x / y * y) pc L S F)
def es_fp (c a n nL pc : Nat) (L : es_L) (S : List es_V) (F : es_F) : Option (Nat × es_L × List es_V) := bif Nat.ble c 6 then (bif Nat.ble c 4 then es_fa c a n nL pc L S else es_fb c a n nL pc L S F) else (bif Nat.ble c 10 then es_fc1 c pc L S F else es_fc2 c pc L S F)
def es_fgf (ci k pc : Nat) (L : es_L) (S : List es_V) (AH : List es_O) (F : es_F) (cs ss : Nat) : Option es_K := match S with
  | v :: S' => match es_obj AH ci v with
    | some c => match es_get c k with
      | some w => some (pc + 3, L, w :: S', AH, F, cs, ss)
      | none => none
    | none => none
  | _ => none
def es_fld (pc : Nat) (L : es_L) (S : List es_V) (AH : List es_O) (F : es_F) (cs ss : Nat) : Option es_K := match S with
  | j :: a :: S' => match es_kn F j with
    | some jn => bif Nat.beq a.1 5 then none else match es_ary AH a with
      | some (t, n, c) => bif Nat.beq t 0 && Nat.blt jn n then some (pc + 1, L, es_ad t c jn :: S', AH, F, cs, ss) else none
      | none => none
    | none => none
  | _ => none
def es_fst (pc : Nat) (L : es_L) (S : List es_V) (AH : List es_O) (F : es_F) (cs ss : Nat) : Option es_K := match S with
  | v :: j :: a :: S' => match es_ary AH a, es_kn F j with
    | some (t, n, c), some jn => bif (Nat.beq t 0 && Nat.blt jn n) && es_sfit AH F t v then some (pc + 1, L, S', es_hset AH a.2 t n c jn v, F, cs, ss) else none
    | _, _ => none
  | _ => none
def es_fh (c a n pc : Nat) (L : es_L) (S : List es_V) (AH : List es_O) (F : es_F) (cs ss : Nat) : Option es_K := bif Nat.beq c 18 then es_fgf a n pc L S AH F cs ss else (bif Nat.beq c 19 then es_fld pc L S AH F cs ss else es_fst pc L S AH F cs ss)
def es_two (ih : Nat → es_K → Option (List es_E)) (M t f : Nat) (L : es_L) (S : List es_V) (AH : List es_O) (cs ss : Nat) (T1 F1 : List es_F) : Option (List es_E) := match es_cat (fun f => ih M (t, L, S, AH, f, cs, ss)) T1 with
  | some x => match es_cat (fun g => ih M (f, L, S, AH, g, cs, ss)) F1 with
    | some y => some (x ++ y)
    | none => none
  | none => none
def es_fi0 (ih : Nat → es_K → Option (List es_E)) (M : Nat) (op : es_Op) (a pc : Nat) (L : es_L) (S : List es_V) (AH : List es_O) (F : es_F) (cs ss : Nat) : Option (List es_E) := match S with
  | v :: S' => bif es_ti v then es_two ih M a (pc + 3) L S' AH cs ss (es_br F op v (0, 0)) (es_br F (es_ng op) v (0, 0)) else none
  | _ => none
def es_fi1 (ih : Nat → es_K → Option (List es_E)) (M : Nat) (op : es_Op) (a pc : Nat) (L : es_L) (S : List es_V) (AH : List es_O) (F : es_F) (cs ss : Nat) : Option (List es_E) := match S with
  | w :: v :: S' => bif es_ti v && es_ti w then es_two ih M a (pc + 3) L S' AH cs ss (es_br F op v w) (es_br F (es_ng op) v w) else none
  | _ => none
def es_fj (ih : Nat → es_K → Option (List es_E)) (M c a n pc : Nat) (L : es_L) (S : List es_V) (AH : List es_O) (F : es_F) (cs ss : Nat) : Option (List es_E) := bif Nat.beq c 15 then es_fi0 ih M (es_opn n) a pc L S AH F cs ss else (bif Nat.beq c 16 then es_fi1 ih M (es_opn n) a pc L S AH F cs ss else some [(0, pc, L, S, AH, F, cs, ss)])
def es_gp (ih : Nat → es_K → Option (List es_E)) (M : Nat) (AH : List es_O) (F : es_F) (cs ss : Nat) (r : Option (Nat × es_L × List es_V)) : Option (List es_E) := match r with
  | some (pc', L', S') => ih M (pc', L', S', AH, F, cs, ss)
  | none => none
def es_gh (ih : Nat → es_K → Option (List es_E)) (M : Nat) (r : Option es_K) : Option (List es_E) := match r with
  | some K' => ih M K'
  | none => none
def es_fast (ih : Nat → es_K → Option (List es_E)) (M c a n nL pc : Nat) (L : es_L) (S : List es_V) (AH : List es_O) (F : es_F) (cs ss : Nat) : Option (List es_E) := bif Nat.ble c 14 then es_gp ih M AH F cs ss (es_fp c a n nL pc L S F) else (bif Nat.ble c 17 then es_fj ih M c a n pc L S AH F cs ss else es_gh ih M (es_fh c a n pc L S AH F cs ss))
section Run2
variable (ME : Nat → es_M) (CT : Nat → List (Nat × List (Nat × es_C))) (SL : Nat)
noncomputable def es_step2 (ih : Nat → es_K → Option (List es_E)) (M : Nat) (K : es_K) : Option (List es_E) := match K with
  | (pc, L, S, AH, F, cs, ss) => match es_at2 (CT M) pc with
    | some q => es_fast ih M q.1 q.2.1 q.2.2 (es_mL (ME M)) pc L S AH F cs ss
    | none => es_step ME SL ih M (pc, L, S, AH, F, cs, ss)
noncomputable def es_run2 : Nat → Nat → es_K → Option (List es_E) := fun n => Nat.rec (motive := fun _ => Nat → es_K → Option (List es_E)) (fun _ _ => none) (fun _ ih M K => es_step2 ME CT SL ih M K) n
theorem es_run2_z (M : Nat) (K : es_K) : es_run2 ME CT SL 0 M K = none := rfl
theorem es_run2_s (n M : Nat) (K : es_K) : es_run2 ME CT SL (n + 1) M K = es_step2 ME CT SL (es_run2 ME CT SL n) M K := rfl
end Run2
end
section
noncomputable def em_0 : es_M := (yX11_needMan, RX11, cX11_needMan, 2, none, [], [(16, [(0, .iload_n 1, 1, []), (1, .ifCond .lt 14, 3, []), (4, .iload_n 1, 1, []), (5, .aload_n 0, 1, []), (6, .getfield 49, 3, [11, 5, 461]), (9, .getfield 372, 3, [2, 4, 362]), (12, .if_icmp .lt 14, 3, []), (15, .new 400, 3, [100, 3, 405, 404, 1, 0, 904, 130])])], 6, 1, 6, 200)
noncomputable def em_1 : es_M := (yX11_ahead, RX11, cX11_ahead, 5, (some .int), [], [(3, [(0, .aload_n 0, 1, []), (1, .iload_n 1, 1, []), (2, .invokevirtual 165, 3, [1, 0, 1, 11, 943, 944, 19, 105])])], 7, 1, 6, 221)
noncomputable def em_2 : es_M := (yL_ahead, RL, cL_ahead, 6, (some .int), [(0, 12, 15, 24), (0, 12, 19, 13), (0, 12, 23, 26)], [(19, [(0, .aload 4, 2, []), (2, .iconst 0, 1, []), (3, .aload_n 0, 1, []), (4, .iload_n 1, 1, []), (5, .iload_n 2, 1, []), (6, .iload_n 3, 1, []), (7, .invokevirtual 64, 3, [1, 1, 3, 11, 1118, 1119, 1120, 105]), (15, .astore 5, 2, []), (17, .iconst 1, 1, []), (18, .ireturn, 1, [])])], 8, 1, 6, 245)
noncomputable def em_3 : es_M := (yJ13_bitCount_95d88, RJ13, cJ13_bitCount_95d88, 2, (some .int), [], [(14, [(0, .lload_n 0, 1, []), (1, .lload_n 0, 1, []), (2, .iconst 1, 1, []), (3, .lushr, 1, []), (4, .ldc2_w 314, 3, [1259, 6148914691236517205]), (7, .land, 1, []), (8, .lsub, 1, []), (9, .lstore_n 0, 1, []), (10, .lload_n 0, 1, []), (11, .ldc2_w 316, 3, [1260, 3689348814741910323])]),
  (26, [(14, .land, 1, []), (15, .lload_n 0, 1, []), (16, .iconst 2, 1, []), (17, .lushr, 1, []), (18, .ldc2_w 316, 3, [1260, 3689348814741910323]), (21, .land, 1, []), (22, .ladd, 1, []), (23, .lstore_n 0, 1, []), (24, .lload_n 0, 1, []), (25, .lload_n 0, 1, [])]),
  (39, [(26, .iconst 4, 1, []), (27, .lushr, 1, []), (28, .ladd, 1, []), (29, .ldc2_w 318, 3, [1261, 1085102592571150095]), (32, .land, 1, []), (33, .lstore_n 0, 1, []), (34, .lload_n 0, 1, []), (35, .lload_n 0, 1, []), (36, .bipush 8, 2, []), (38, .lushr, 1, [])]),
  (50, [(39, .ladd, 1, []), (40, .lstore_n 0, 1, []), (41, .lload_n 0, 1, []), (42, .lload_n 0, 1, []), (43, .bipush 16, 2, []), (45, .lushr, 1, []), (46, .ladd, 1, []), (47, .lstore_n 0, 1, []), (48, .lload_n 0, 1, []), (49, .lload_n 0, 1, [])]),
  (61, [(50, .bipush 32, 2, []), (52, .lushr, 1, []), (53, .ladd, 1, []), (54, .lstore_n 0, 1, []), (55, .lload_n 0, 1, []), (56, .l2i, 1, []), (57, .bipush 127, 2, []), (59, .iand, 1, []), (60, .ireturn, 1, [])])], 2, 0, 0, 200)
noncomputable def em_4 : es_M := (yX11_fitsTale, RX11, cX11_fitsTale, 4, (some .boolean), [], [(59, [(0, .iconst 0, 1, []), (1, .istore_n 3, 1, []), (2, .iload_n 3, 1, []), (3, .iconst 1, 1, []), (4, .iadd, 1, []), (5, .iload_n 2, 1, []), (6, .if_icmp .ge 51, 3, []), (57, .iconst 1, 1, []), (58, .ireturn, 1, [])])], 2, 0, 0, 200)
noncomputable def em_5 : es_M := (yX11_isTale, RX11, cX11_isTale, 3, (some .boolean), [], [(17, [(0, .iload_n 1, 1, []), (1, .bipush 40, 2, []), (3, .if_icmp .gt 9, 3, []), (6, .iload_n 1, 1, []), (7, .iconst 2, 1, []), (8, .irem, 1, []), (9, .ifCond .eq 5, 3, []), (14, .iconst 0, 1, []), (15, .istore_n 2, 1, []), (16, .iload_n 2, 1, [])]),
  (67, [(17, .iconst 1, 1, []), (18, .iadd, 1, []), (19, .iload_n 1, 1, []), (20, .if_icmp .ge 45, 3, []), (65, .iconst 1, 1, []), (66, .ireturn, 1, [])])], 2, 0, 0, 200)
noncomputable def em_6 : es_M := (yX11_takeFittingSets, RX11, cX11_takeFittingSets, 5, (some .long), [], [(18, [(0, .aload_n 0, 1, []), (1, .getfield 10, 3, [11, 0, 456]), (4, .getfield 91, 3, [10, 1, 150]), (7, .istore_n 1, 1, []), (8, .aload_n 0, 1, []), (9, .getfield 10, 3, [11, 0, 456]), (12, .iconst 0, 1, []), (13, .putfield 91, 3, [10, 1, 150]), (16, .aload_n 0, 1, []), (17, .iload_n 1, 1, [])]),
  (48, [(18, .invokevirtual 415, 3, [1, 5, 1, 11, 1250, 1251, 36, 105]), (21, .ifCond .ne 14, 3, []), (35, .lconst 0, 1, []), (36, .lstore_n 2, 1, []), (37, .iconst 1, 1, []), (38, .istore 4, 2, []), (40, .iload 4, 2, []), (42, .bipush 64, 2, []), (44, .if_icmp .ge 26, 3, []), (47, .aload_n 0, 1, [])]),
  (64, [(48, .iload 4, 2, []), (50, .iload_n 1, 1, []), (51, .invokevirtual 421, 3, [1, 4, 2, 11, 1253, 1254, 37, 105]), (54, .ifCond .eq 10, 3, []), (57, .lload_n 2, 1, []), (58, .lconst 1, 1, []), (59, .iload 4, 2, []), (61, .lshl, 1, []), (62, .lor, 1, []), (63, .lstore_n 2, 1, [])]),
  (72, [(64, .iinc 4 1, 3, []), (67, .goto (-27), 3, []), (70, .lload_n 2, 1, []), (71, .lreturn, 1, [])])], 3, 0, 0, 223)
noncomputable def em_7 : es_M := (yX11_ask, RX11, cX11_ask, 9, (some .int), [], [(16, [(0, .aload_n 0, 1, []), (1, .invokevirtual 325, 3, [1, 6, 0, 11, 1247, 1248, 35, 105]), (4, .lstore_n 1, 1, []), (5, .lload_n 1, 1, []), (6, .invokestatic 329, 3, [2, 3, 1, 1256, 1257, 134]), (9, .istore_n 3, 1, []), (10, .iconst (-1), 1, []), (11, .istore 4, 2, []), (13, .iconst (-1), 1, []), (14, .istore 5, 2, [])]),
  (86, [(16, .iconst 0, 1, []), (17, .istore 6, 2, []), (19, .iload 6, 2, []), (21, .aload_n 0, 1, []), (22, .getfield 42, 3, [11, 4, 460]), (25, .getfield 314, 3, [0, 6, 236]), (28, .if_icmp .ge 55, 3, []), (83, .iload 4, 2, []), (85, .ireturn, 1, [])])], 4, 0, 0, 247)
noncomputable def em_8 : es_M := (yL_ask, RL, cL_ask, 3, (some .int), [(0, 8, 11, 13)], [(16, [(0, .aload_n 1, 1, []), (1, .iconst 0, 1, []), (2, .aload_n 0, 1, []), (3, .invokevirtual 101, 3, [1, 7, 0, 11, 1265, 1266, 1267, 105]), (6, .i2l, 1, []), (7, .lastore, 1, []), (8, .goto 6, 3, []), (14, .iconst 0, 1, []), (15, .ireturn, 1, [])])], 5, 0, 0, 275)
noncomputable def em_9 : es_M := (yX0_copyFrom, RX0, cX0_copyFrom, 2, none, [], [(19, [(0, .aload_n 1, 1, []), (1, .getfield 9, 3, [0, 0, 214]), (4, .iconst 0, 1, []), (5, .aload_n 0, 1, []), (6, .getfield 9, 3, [0, 0, 214]), (9, .iconst 0, 1, []), (10, .bipush 8, 2, []), (12, .invokestatic 34, 3, [4, 597, 583, 582, 117]), (15, .aload_n 1, 1, []), (16, .getfield 15, 3, [0, 1, 217])]),
  (36, [(19, .iconst 0, 1, []), (20, .aload_n 0, 1, []), (21, .getfield 15, 3, [0, 1, 217]), (24, .iconst 0, 1, []), (25, .bipush 8, 2, []), (27, .invokestatic 34, 3, [4, 597, 583, 582, 117]), (30, .aload_n 1, 1, []), (31, .getfield 18, 3, [0, 2, 220]), (34, .iconst 0, 1, []), (35, .aload_n 0, 1, [])]),
  (55, [(36, .getfield 18, 3, [0, 2, 220]), (39, .iconst 0, 1, []), (40, .bipush 8, 2, []), (42, .invokestatic 34, 3, [4, 597, 583, 582, 117]), (45, .aload_n 1, 1, []), (46, .getfield 21, 3, [0, 3, 223]), (49, .iconst 0, 1, []), (50, .aload_n 0, 1, []), (51, .getfield 21, 3, [0, 3, 223]), (54, .iconst 0, 1, [])]),
  (75, [(55, .bipush 6, 2, []), (57, .invokestatic 34, 3, [4, 597, 583, 582, 117]), (60, .aload_n 1, 1, []), (61, .getfield 24, 3, [0, 4, 225]), (64, .iconst 0, 1, []), (65, .aload_n 0, 1, []), (66, .getfield 24, 3, [0, 4, 225]), (69, .iconst 0, 1, []), (70, .bipush 6, 2, []), (72, .invokestatic 34, 3, [4, 597, 583, 582, 117])]),
  (93, [(75, .aload_n 0, 1, []), (76, .aload_n 1, 1, []), (77, .getfield 40, 3, [0, 5, 228]), (80, .putfield 40, 3, [0, 5, 228]), (83, .aload_n 0, 1, []), (84, .aload_n 1, 1, []), (85, .getfield 43, 3, [0, 6, 234]), (88, .putfield 43, 3, [0, 6, 234]), (91, .aload_n 0, 1, []), (92, .aload_n 1, 1, [])]),
  (115, [(93, .getfield 27, 3, [0, 7, 237]), (96, .putfield 27, 3, [0, 7, 237]), (99, .aload_n 0, 1, []), (100, .aload_n 1, 1, []), (101, .getfield 46, 3, [0, 8, 242]), (104, .putfield 46, 3, [0, 8, 242]), (107, .aload_n 0, 1, []), (108, .aload_n 1, 1, []), (109, .getfield 31, 3, [0, 9, 245]), (112, .putfield 31, 3, [0, 9, 245])]),
  (132, [(115, .aload_n 0, 1, []), (116, .aload_n 1, 1, []), (117, .getfield 49, 3, [0, 10, 249]), (120, .putfield 49, 3, [0, 10, 249]), (123, .aload_n 0, 1, []), (124, .aload_n 1, 1, []), (125, .getfield 52, 3, [0, 11, 252]), (128, .putfield 52, 3, [0, 11, 252]), (131, .return_, 1, [])])], 2, 0, 0, 200)
noncomputable def em_10 : es_M := (yX10_atEnd, RX10, cX10_atEnd, 1, (some .boolean), [], [(13, [(0, .aload_n 0, 1, []), (1, .getfield 28, 3, [10, 2, 152]), (4, .ifCond .ne 7, 3, []), (7, .iconst 1, 1, []), (8, .goto 4, 3, []), (12, .ireturn, 1, [])])], 2, 0, 0, 200)
noncomputable def em_11 : es_M := (yX10_advance, RX10, cX10_advance, 6, none, [], [(47, [(0, .aload_n 0, 1, []), (1, .aload_n 0, 1, []), (2, .getfield 19, 3, [10, 4, 155]), (5, .putfield 25, 3, [10, 3, 153]), (8, .aload_n 0, 1, []), (9, .getfield 25, 3, [10, 3, 153]), (12, .aload_n 0, 1, []), (13, .getfield 15, 3, [10, 1, 151]), (16, .if_icmp .ge 30, 3, []), (46, .aload_n 0, 1, [])]),
  (67, [(47, .aload_n 0, 1, []), (48, .getfield 25, 3, [10, 3, 153]), (51, .putfield 19, 3, [10, 4, 155]), (54, .aload_n 0, 1, []), (55, .getfield 25, 3, [10, 3, 153]), (58, .aload_n 0, 1, []), (59, .getfield 15, 3, [10, 1, 151]), (62, .if_icmp .lt 9, 3, []), (65, .aload_n 0, 1, []), (66, .iconst 0, 1, [])]),
  (71, [(67, .putfield 28, 3, [10, 2, 152]), (70, .return_, 1, [])])], 2, 0, 0, 200)
noncomputable def em_12 : es_M := (yX10_rewind, RX10, cX10_rewind, 1, none, [], [(10, [(0, .aload_n 0, 1, []), (1, .iconst 0, 1, []), (2, .putfield 19, 3, [10, 4, 155]), (5, .aload_n 0, 1, []), (6, .invokevirtual 22, 3, [1, 11, 0, 10, 628, 629, 630, 106]), (9, .return_, 1, [])])], 3, 0, 0, 225)
noncomputable def em_13 : es_M := (yX1_reads, RX1, cX1_reads, 4, (some .boolean), [], [(19, [(0, .aload_n 0, 1, []), (1, .getfield 9, 3, [1, 0, 189]), (4, .invokevirtual 15, 3, [1, 12, 0, 10, 624, 625, 626, 106]), (7, .aload_n 0, 1, []), (8, .getfield 9, 3, [1, 0, 189]), (11, .invokevirtual 20, 3, [1, 10, 0, 10, 632, 633, 634, 106]), (14, .ifCond .eq 5, 3, []), (17, .iconst 1, 1, []), (18, .ireturn, 1, [])])], 4, 0, 0, 245)
noncomputable def em_14 : es_M := (yX7_copyFrom, RX7, cX7_copyFrom, 2, none, [], [(18, [(0, .aload_n 0, 1, []), (1, .aload_n 1, 1, []), (2, .getfield 9, 3, [7, 0, 304]), (5, .putfield 9, 3, [7, 0, 304]), (8, .aload_n 0, 1, []), (9, .aload_n 1, 1, []), (10, .getfield 15, 3, [7, 1, 310]), (13, .putfield 15, 3, [7, 1, 310]), (16, .aload_n 0, 1, []), (17, .aload_n 1, 1, [])]),
  (40, [(18, .getfield 18, 3, [7, 2, 315]), (21, .putfield 18, 3, [7, 2, 315]), (24, .aload_n 0, 1, []), (25, .aload_n 1, 1, []), (26, .getfield 21, 3, [7, 3, 318]), (29, .putfield 21, 3, [7, 3, 318]), (32, .aload_n 0, 1, []), (33, .aload_n 1, 1, []), (34, .getfield 24, 3, [7, 4, 324]), (37, .putfield 24, 3, [7, 4, 324])]),
  (49, [(40, .aload_n 0, 1, []), (41, .aload_n 1, 1, []), (42, .getfield 27, 3, [7, 5, 330]), (45, .putfield 27, 3, [7, 5, 330]), (48, .return_, 1, [])])], 2, 0, 0, 200)
noncomputable def em_15 : es_M := (yX2_copyCourse, RX2, cX2_copyCourse, 3, none, [], [(15, [(0, .iconst 0, 1, []), (1, .istore_n 2, 1, []), (2, .iload_n 2, 1, []), (3, .bipush 6, 2, []), (5, .if_icmp .ge 24, 3, []), (8, .aload_n 0, 1, []), (9, .getfield 11, 3, [2, 0, 347]), (12, .iload_n 2, 1, []), (13, .aaload, 1, []), (14, .aload_n 1, 1, [])]),
  (35, [(15, .getfield 11, 3, [2, 0, 347]), (18, .iload_n 2, 1, []), (19, .aaload, 1, []), (20, .invokevirtual 47, 3, [1, 14, 1, 7, 577, 578, 579, 113]), (23, .iinc 2 1, 3, []), (26, .goto (-24), 3, []), (29, .aload_n 1, 1, []), (30, .getfield 17, 3, [2, 1, 352]), (33, .iconst 0, 1, []), (34, .aload_n 0, 1, [])]),
  (54, [(35, .getfield 17, 3, [2, 1, 352]), (38, .iconst 0, 1, []), (39, .bipush 6, 2, []), (41, .invokestatic 50, 3, [4, 581, 583, 582, 117]), (44, .aload_n 1, 1, []), (45, .getfield 21, 3, [2, 2, 355]), (48, .iconst 0, 1, []), (49, .aload_n 0, 1, []), (50, .getfield 21, 3, [2, 2, 355]), (53, .iconst 0, 1, [])]),
  (75, [(54, .bipush 6, 2, []), (56, .invokestatic 50, 3, [4, 581, 583, 582, 117]), (59, .aload_n 0, 1, []), (60, .aload_n 1, 1, []), (61, .getfield 56, 3, [2, 4, 361]), (64, .putfield 56, 3, [2, 4, 361]), (67, .aload_n 0, 1, []), (68, .aload_n 1, 1, []), (69, .getfield 59, 3, [2, 5, 364]), (72, .putfield 59, 3, [2, 5, 364])]),
  (93, [(75, .aload_n 0, 1, []), (76, .aload_n 1, 1, []), (77, .getfield 31, 3, [2, 6, 367]), (80, .putfield 31, 3, [2, 6, 367]), (83, .aload_n 0, 1, []), (84, .aload_n 1, 1, []), (85, .getfield 62, 3, [2, 7, 372]), (88, .putfield 62, 3, [2, 7, 372]), (91, .aload_n 0, 1, []), (92, .aload_n 1, 1, [])]),
  (108, [(93, .getfield 65, 3, [2, 8, 376]), (96, .putfield 65, 3, [2, 8, 376]), (99, .aload_n 0, 1, []), (100, .aload_n 1, 1, []), (101, .getfield 35, 3, [2, 9, 378]), (104, .putfield 35, 3, [2, 9, 378]), (107, .return_, 1, [])])], 3, 0, 0, 221)
noncomputable def em_16 : es_M := (yX11_book, RX11, cX11_book, 2, (some .int), [], [(22, [(0, .aload_n 0, 1, []), (1, .getfield 71, 3, [11, 8, 464]), (4, .aload_n 0, 1, []), (5, .getfield 42, 3, [11, 4, 460]), (8, .invokevirtual 98, 3, [1, 9, 1, 0, 593, 594, 595, 110]), (11, .aload_n 0, 1, []), (12, .getfield 74, 3, [11, 9, 465]), (15, .aload_n 0, 1, []), (16, .getfield 49, 3, [11, 5, 461]), (19, .invokevirtual 102, 3, [1, 15, 1, 2, 619, 574, 575, 111])]),
  (40, [(22, .aload_n 0, 1, []), (23, .getfield 28, 3, [11, 2, 458]), (26, .aload_n 0, 1, []), (27, .getfield 71, 3, [11, 8, 464]), (30, .aload_n 0, 1, []), (31, .getfield 74, 3, [11, 9, 465]), (34, .invokevirtual 105, 3, [1, 13, 2, 1, 620, 621, 622, 108]), (37, .istore_n 1, 1, []), (38, .aload_n 0, 1, []), (39, .iload_n 1, 1, [])]),
  (79, [(40, .ifCond .eq 7, 3, []), (43, .iconst (-1), 1, []), (44, .goto 10, 3, []), (54, .putfield 87, 3, [11, 16, 472]), (57, .aload_n 0, 1, []), (58, .getfield 10, 3, [11, 0, 456]), (61, .iconst 0, 1, []), (62, .putfield 91, 3, [10, 1, 150]), (65, .iload_n 1, 1, []), (66, .ifCond .ne 13, 3, [])]),
  (112, [(79, .aload_n 0, 1, []), (80, .getfield 42, 3, [11, 4, 460]), (83, .getfield 119, 3, [0, 10, 250]), (86, .bipush 12, 2, []), (88, .if_icmp .lt 13, 3, []), (101, .aload_n 0, 1, []), (102, .getfield 42, 3, [11, 4, 460]), (105, .aload_n 0, 1, []), (106, .getfield 71, 3, [11, 8, 464]), (109, .invokevirtual 98, 3, [1, 9, 1, 0, 593, 594, 595, 110])]),
  (130, [(112, .aload_n 0, 1, []), (113, .getfield 42, 3, [11, 4, 460]), (116, .dup, 1, []), (117, .getfield 119, 3, [0, 10, 250]), (120, .iconst 1, 1, []), (121, .iadd, 1, []), (122, .putfield 119, 3, [0, 10, 250]), (125, .aload_n 0, 1, []), (126, .getfield 49, 3, [11, 5, 461]), (129, .aload_n 0, 1, [])]),
  (149, [(130, .getfield 74, 3, [11, 9, 465]), (133, .invokevirtual 102, 3, [1, 15, 1, 2, 619, 574, 575, 111]), (136, .aload_n 0, 1, []), (137, .iconst 0, 1, []), (138, .putfield 127, 3, [11, 14, 470]), (141, .aload_n 0, 1, []), (142, .getfield 42, 3, [11, 4, 460]), (145, .getfield 119, 3, [0, 10, 250]), (148, .ireturn, 1, [])])], 5, 0, 0, 268)
noncomputable def em_17 : es_M := (yL_book, RL, cL_book, 3, (some .int), [(0, 8, 11, 13), (0, 8, 14, 15)], [(19, [(0, .aload_n 1, 1, []), (1, .iconst 0, 1, []), (2, .aload_n 0, 1, []), (3, .invokevirtual 7, 3, [1, 16, 0, 11, 615, 616, 617, 105]), (6, .i2l, 1, []), (7, .lastore, 1, []), (8, .goto 9, 3, []), (17, .iconst 0, 1, []), (18, .ireturn, 1, [])])], 6, 0, 0, 289)
noncomputable def em_18 : es_M := (yX11_cheapest, RX11, cX11_cheapest, 7, (some .int), [], [(3, [(0, .aload_n 0, 1, []), (1, .iload_n 1, 1, []), (2, .invokevirtual 165, 3, [1, 0, 1, 11, 943, 944, 19, 105])])], 7, 1, 6, 221)
noncomputable def em_19 : es_M := (yL_cheapest, RL, cL_cheapest, 5, (some .int), [(0, 10, 13, 24)], [(17, [(0, .aload_n 3, 1, []), (1, .iconst 0, 1, []), (2, .aload_n 0, 1, []), (3, .iload_n 1, 1, []), (4, .iload_n 2, 1, []), (5, .invokevirtual 91, 3, [1, 18, 2, 11, 1225, 1226, 1227, 105]), (13, .astore 4, 2, []), (15, .iconst 1, 1, []), (16, .ireturn, 1, [])])], 8, 1, 6, 247)
noncomputable def em_20 : es_M := (yX2_menIn, RX2, cX2_menIn, 4, (some .int), [], [(39, [(0, .iconst 0, 1, []), (1, .istore_n 2, 1, []), (2, .iconst 0, 1, []), (3, .istore_n 3, 1, []), (4, .iload_n 3, 1, []), (5, .aload_n 0, 1, []), (6, .getfield 56, 3, [2, 4, 361]), (9, .if_icmp .ge 28, 3, []), (37, .iload_n 2, 1, []), (38, .ireturn, 1, [])])], 2, 0, 0, 200)
noncomputable def em_21 : es_M := (yX2_passDay, RX2, cX2_passDay, 6, (some .int), [], [(69, [(0, .iconst 0, 1, []), (1, .istore 4, 2, []), (3, .iconst 0, 1, []), (4, .istore 5, 2, []), (6, .iload 5, 2, []), (8, .aload_n 0, 1, []), (9, .getfield 56, 3, [2, 4, 361]), (12, .if_icmp .ge 54, 3, []), (66, .aload_n 0, 1, []), (67, .ldc 96, 2, [1113, 1103515245])]),
  (88, [(69, .aload_n 0, 1, []), (70, .getfield 35, 3, [2, 9, 378]), (73, .imul, 1, []), (74, .sipush 12345, 3, []), (77, .iadd, 1, []), (78, .putfield 35, 3, [2, 9, 378]), (81, .aload_n 0, 1, []), (82, .getfield 35, 3, [2, 9, 378]), (85, .bipush 16, 2, []), (87, .ishr, 1, [])]),
  (105, [(88, .sipush 32767, 3, []), (91, .iand, 1, []), (92, .istore 5, 2, []), (94, .iload 5, 2, []), (96, .bipush 100, 2, []), (98, .irem, 1, []), (99, .iload_n 3, 1, []), (100, .if_icmp .ge 28, 3, []), (103, .aload_n 0, 1, []), (104, .iconst 0, 1, [])]),
  (144, [(105, .invokevirtual 97, 3, [1, 20, 1, 2, 1114, 558, 559, 111]), (108, .ifCond .eq 20, 3, []), (128, .aload_n 0, 1, []), (129, .sipush 9999, 3, []), (132, .aload_n 0, 1, []), (133, .getfield 65, 3, [2, 8, 376]), (136, .iconst 1, 1, []), (137, .iadd, 1, []), (138, .invokestatic 86, 3, [5, 1056, 846, 129, 847]), (141, .putfield 65, 3, [2, 8, 376])]),
  (147, [(144, .iload 4, 2, []), (146, .ireturn, 1, [])])], 3, 0, 0, 223)
noncomputable def em_22 : es_M := (yX11_draftDays, RX11, cX11_draftDays, 5, none, [], [(20, [(0, .aload_n 0, 1, []), (1, .getfield 74, 3, [11, 9, 465]), (4, .aload_n 0, 1, []), (5, .getfield 49, 3, [11, 5, 461]), (8, .invokevirtual 102, 3, [1, 15, 1, 2, 619, 574, 575, 111]), (11, .aload_n 0, 1, []), (12, .getfield 74, 3, [11, 9, 465]), (15, .iload_n 3, 1, []), (16, .putfield 291, 3, [2, 9, 379]), (19, .iconst 0, 1, [])]),
  (40, [(20, .istore 4, 2, []), (22, .iload 4, 2, [300, 4, 1, 24, 25, 45, 51, 42, 8, 42, 9]), (24, .iload_n 1, 1, []), (25, .if_icmp .ge 26, 3, []), (28, .aload_n 0, 1, []), (29, .getfield 74, 3, [11, 9, 465]), (32, .aload_n 0, 1, []), (33, .getfield 42, 3, [11, 4, 460]), (36, .aload_n 0, 1, []), (37, .getfield 19, 3, [11, 1, 457])]),
  (52, [(40, .iload_n 2, 1, []), (41, .invokevirtual 287, 3, [1, 21, 3, 2, 1099, 1100, 1101, 111]), (44, .pop, 1, []), (45, .iinc 4 1, 3, [200]), (48, .goto (-26), 3, []), (51, .return_, 1, [])])], 4, 0, 0, 248)
noncomputable def em_23 : es_M := (yX11_needWithin, RX11, cX11_needWithin, 4, none, [], [(22, [(0, .iload_n 1, 1, []), (1, .iload_n 2, 1, []), (2, .if_icmp .lt 8, 3, []), (5, .iload_n 1, 1, []), (6, .iload_n 3, 1, []), (7, .if_icmp .le 14, 3, []), (10, .new 112, 3, [100, 0, 411, 116, 1, 1, 748, 125]), (21, .return_, 1, [])])], 6, 1, 6, 200)
noncomputable def em_24 : es_M := (yX11_chest, RX11, cX11_chest, 2, (some .int), [], [(16, [(0, .aload_n 0, 1, []), (1, .iload_n 1, 1, []), (2, .iconst 0, 1, []), (3, .sipush 200, 3, []), (6, .invokevirtual 266, 3, [1, 23, 3, 11, 1075, 1076, 28, 105]), (9, .aload_n 0, 1, []), (10, .iload_n 1, 1, []), (11, .iconst 0, 1, []), (12, .aload_n 0, 1, []), (13, .getfield 49, 3, [11, 5, 461])]),
  (30, [(16, .getfield 291, 3, [2, 9, 379]), (19, .invokevirtual 294, 3, [1, 22, 3, 11, 1122, 1123, 30, 105]), (22, .aload_n 0, 1, []), (23, .getfield 74, 3, [11, 9, 465]), (26, .getfield 270, 3, [2, 6, 369]), (29, .ireturn, 1, [])])], 7, 1, 6, 272)
noncomputable def em_25 : es_M := (yL_chest, RL, cL_chest, 4, (some .int), [(0, 9, 12, 13)], [(14, [(0, .aload_n 2, 1, []), (1, .iconst 0, 1, []), (2, .aload_n 0, 1, []), (3, .iload_n 1, 1, []), (4, .invokevirtual 70, 3, [1, 24, 1, 11, 1135, 1136, 1137, 105]), (7, .i2l, 1, []), (8, .lastore, 1, []), (9, .goto 6, 3, []), (12, .astore_n 3, 1, []), (13, .iconst 1, 1, [])]),
  (17, [(14, .ireturn, 1, []), (15, .iconst 0, 1, []), (16, .ireturn, 1, [])])], 8, 1, 6, 293)
noncomputable def em_26 : es_M := (yX6_copyFrom, RX6, cX6_copyFrom, 2, none, [], [(18, [(0, .aload_n 1, 1, []), (1, .getfield 11, 3, [6, 0, 292]), (4, .iconst 0, 1, []), (5, .aload_n 0, 1, []), (6, .getfield 11, 3, [6, 0, 292]), (9, .iconst 0, 1, []), (10, .aload_n 0, 1, []), (11, .getfield 11, 3, [6, 0, 292]), (14, .arraylength, 1, []), (15, .invokestatic 15, 3, [4, 588, 583, 582, 117])]),
  (27, [(18, .aload_n 0, 1, []), (19, .aload_n 1, 1, []), (20, .getfield 21, 3, [6, 1, 293]), (23, .putfield 21, 3, [6, 1, 293]), (26, .return_, 1, [])])], 2, 0, 0, 200)
noncomputable def em_27 : es_M := (yX2_copyFrom, RX2, cX2_copyFrom, 2, none, [], [(17, [(0, .aload_n 0, 1, []), (1, .aload_n 1, 1, []), (2, .invokevirtual 39, 3, [1, 15, 1, 2, 573, 574, 575, 111]), (5, .aload_n 0, 1, []), (6, .getfield 27, 3, [2, 3, 357]), (9, .aload_n 1, 1, []), (10, .getfield 27, 3, [2, 3, 357]), (13, .invokevirtual 43, 3, [1, 26, 1, 6, 584, 585, 586, 112]), (16, .return_, 1, [])])], 4, 0, 0, 243)
noncomputable def em_28 : es_M := (yX11_remember, RX11, cX11_remember, 1, none, [], [(17, [(0, .aload_n 0, 1, []), (1, .aload_n 0, 1, []), (2, .getfield 385, 3, [11, 13, 469]), (5, .iconst 1, 1, []), (6, .iadd, 1, []), (7, .bipush 12, 2, []), (9, .irem, 1, []), (10, .putfield 385, 3, [11, 13, 469]), (13, .aload_n 0, 1, []), (14, .getfield 83, 3, [11, 12, 468])]),
  (36, [(17, .aload_n 0, 1, []), (18, .getfield 385, 3, [11, 13, 469]), (21, .aaload, 1, []), (22, .aload_n 0, 1, []), (23, .getfield 49, 3, [11, 5, 461]), (26, .invokevirtual 388, 3, [1, 27, 1, 2, 569, 570, 571, 111]), (29, .aload_n 0, 1, []), (30, .bipush 12, 2, []), (32, .aload_n 0, 1, []), (33, .getfield 127, 3, [11, 14, 470])]),
  (45, [(36, .iconst 1, 1, []), (37, .iadd, 1, []), (38, .invokestatic 273, 3, [5, 1034, 846, 129, 847]), (41, .putfield 127, 3, [11, 14, 470]), (44, .return_, 1, [])])], 5, 0, 0, 264)
noncomputable def em_29 : es_M := (yX11_days, RX11, cX11_days, 4, (some .int), [], [(16, [(0, .aload_n 0, 1, []), (1, .iload_n 1, 1, []), (2, .iconst 1, 1, []), (3, .sipush 200, 3, []), (6, .invokevirtual 266, 3, [1, 23, 3, 11, 1075, 1076, 28, 105]), (9, .aload_n 0, 1, []), (10, .invokevirtual 232, 3, [1, 28, 0, 11, 1031, 1032, 27, 105]), (13, .iconst 0, 1, []), (14, .istore_n 2, 1, []), (15, .iconst 0, 1, [])]),
  (32, [(16, .istore_n 3, 1, []), (17, .iload_n 3, 1, [300, 3, 1, 18, 19, 47, 53, 15, 8, 15, 9]), (18, .iload_n 1, 1, []), (19, .if_icmp .ge 34, 3, []), (22, .iload_n 2, 1, []), (23, .aload_n 0, 1, []), (24, .getfield 49, 3, [11, 5, 461]), (27, .aload_n 0, 1, []), (28, .getfield 42, 3, [11, 4, 460]), (31, .aload_n 0, 1, [])]),
  (54, [(32, .getfield 19, 3, [11, 1, 457]), (35, .aload_n 0, 1, []), (36, .getfield 42, 3, [11, 4, 460]), (39, .getfield 284, 3, [0, 8, 244]), (42, .invokevirtual 287, 3, [1, 21, 3, 2, 1099, 1100, 1101, 111]), (45, .iadd, 1, []), (46, .istore_n 2, 1, []), (47, .iinc 3 1, 3, [200]), (50, .goto (-33), 3, []), (53, .iload_n 2, 1, [])]),
  (55, [(54, .ireturn, 1, [])])], 7, 1, 6, 284)
noncomputable def em_30 : es_M := (yL_days, RL, cL_days, 4, (some .int), [(0, 9, 12, 13)], [(14, [(0, .aload_n 2, 1, []), (1, .iconst 0, 1, []), (2, .aload_n 0, 1, []), (3, .iload_n 1, 1, []), (4, .invokevirtual 61, 3, [1, 29, 1, 11, 1095, 1096, 1097, 105]), (7, .i2l, 1, []), (8, .lastore, 1, []), (9, .goto 6, 3, []), (12, .astore_n 3, 1, []), (13, .iconst 1, 1, [])]),
  (17, [(14, .ireturn, 1, []), (15, .iconst 0, 1, []), (16, .ireturn, 1, [])])], 8, 1, 6, 307)
noncomputable def em_31 : es_M := (yX11_done, RX11, cX11_done, 4, (some .int), [], [(3, [(0, .aload_n 0, 1, []), (1, .iload_n 1, 1, []), (2, .invokevirtual 165, 3, [1, 0, 1, 11, 943, 944, 19, 105])])], 7, 1, 6, 221)
noncomputable def em_32 : es_M := (yL_done, RL, cL_done, 4, (some .int), [(0, 9, 12, 24)], [(15, [(0, .aload_n 2, 1, []), (1, .iconst 0, 1, []), (2, .aload_n 0, 1, []), (3, .iload_n 1, 1, []), (4, .invokevirtual 76, 3, [1, 31, 1, 11, 1149, 1150, 1151, 105]), (12, .astore_n 3, 1, []), (13, .iconst 1, 1, []), (14, .ireturn, 1, [])])], 8, 1, 6, 244)
noncomputable def em_33 : es_M := (yX11_fewest, RX11, cX11_fewest, 4, (some .int), [], [(3, [(0, .aload_n 0, 1, []), (1, .iload_n 1, 1, []), (2, .invokevirtual 165, 3, [1, 0, 1, 11, 943, 944, 19, 105])])], 7, 1, 6, 221)
noncomputable def em_34 : es_M := (yL_fewest, RL, cL_fewest, 4, (some .int), [(0, 9, 12, 24)], [(15, [(0, .aload_n 2, 1, []), (1, .iconst 0, 1, []), (2, .aload_n 0, 1, []), (3, .iload_n 1, 1, []), (4, .invokevirtual 88, 3, [1, 33, 1, 11, 1218, 1219, 1220, 105]), (12, .astore_n 3, 1, []), (13, .iconst 1, 1, []), (14, .ireturn, 1, [])])], 8, 1, 6, 244)
noncomputable def em_35 : es_M := (yX11_flee, RX11, cX11_flee, 3, (some .int), [], [(3, [(0, .aload_n 0, 1, []), (1, .iload_n 1, 1, []), (2, .invokevirtual 165, 3, [1, 0, 1, 11, 943, 944, 19, 105])])], 7, 1, 6, 221)
noncomputable def em_36 : es_M := (yL_flee, RL, cL_flee, 4, (some .int), [(0, 9, 12, 24), (0, 9, 15, 42)], [(15, [(0, .aload_n 2, 1, []), (1, .iconst 0, 1, []), (2, .aload_n 0, 1, []), (3, .iload_n 1, 1, []), (4, .invokevirtual 48, 3, [1, 35, 1, 11, 1064, 1065, 1066, 105]), (12, .astore_n 3, 1, []), (13, .iconst 1, 1, []), (14, .ireturn, 1, [])])], 8, 1, 6, 243)
noncomputable def em_37 : es_M := (yX11_knows, RX11, cX11_knows, 4, (some .int), [], [(12, [(0, .aload_n 0, 1, []), (1, .iload_n 1, 1, []), (2, .iconst 0, 1, []), (3, .iconst 5, 1, []), (4, .invokevirtual 266, 3, [1, 23, 3, 11, 1075, 1076, 28, 105]), (7, .iconst 0, 1, []), (8, .istore_n 2, 1, []), (9, .iconst 0, 1, []), (10, .istore_n 3, 1, []), (11, .iload_n 3, 1, [])]),
  (51, [(12, .aload_n 0, 1, []), (13, .getfield 49, 3, [11, 5, 461]), (16, .getfield 372, 3, [2, 4, 362]), (19, .if_icmp .ge 30, 3, []), (49, .iload_n 2, 1, []), (50, .ireturn, 1, [])])], 7, 1, 6, 223)
noncomputable def em_38 : es_M := (yL_knows, RL, cL_knows, 4, (some .int), [(0, 9, 12, 13)], [(14, [(0, .aload_n 2, 1, []), (1, .iconst 0, 1, []), (2, .aload_n 0, 1, []), (3, .iload_n 1, 1, []), (4, .invokevirtual 113, 3, [1, 37, 1, 11, 1327, 1328, 1329, 105]), (7, .i2l, 1, []), (8, .lastore, 1, []), (9, .goto 6, 3, []), (12, .astore_n 3, 1, []), (13, .iconst 1, 1, [])]),
  (17, [(14, .ireturn, 1, []), (15, .iconst 0, 1, []), (16, .ireturn, 1, [])])], 8, 1, 6, 246)
noncomputable def em_39 : es_M := (yJ7_copyOf_59c91, RJ7, cJ7_copyOf_59c91, 3, (some (.array .int)), [], [(21, [(0, .iload_n 1, 1, []), (1, .aload_n 0, 1, []), (2, .arraylength, 1, []), (3, .if_icmp .ne 11, 3, []), (14, .iload_n 1, 1, []), (15, .newarray .int, 2, [0, 167]), (17, .astore_n 2, 1, []), (18, .aload_n 0, 1, []), (19, .iconst 0, 1, []), (20, .aload_n 2, 1, [])]),
  (33, [(21, .iconst 0, 1, []), (22, .aload_n 0, 1, []), (23, .arraylength, 1, []), (24, .iload_n 1, 1, []), (25, .invokestatic 304, 3, [5, 845, 846, 129, 847]), (28, .invokestatic 150, 3, [4, 848, 583, 582, 117]), (31, .aload_n 2, 1, []), (32, .areturn, 1, [])])], 2, 1, 0, 200)
noncomputable def em_40 : es_M := (yX4_init, RX4, cX4_init, 3, none, [], [(15, [(0, .aload_n 0, 1, []), (1, .invokespecial 1, 3, [9, 852, 141, 142]), (4, .aload_n 0, 1, []), (5, .iload_n 1, 1, []), (6, .putfield 7, 3, [4, 0, 853]), (9, .aload_n 0, 1, []), (10, .aload_n 2, 1, []), (11, .putfield 13, 3, [4, 1, 855]), (14, .return_, 1, [])])], 2, 0, 0, 200)
noncomputable def em_41 : es_M := (yX5_readLaw, RX5, cX5_readLaw, 2, (some (.object "NailGold$Law")), [], [(22, [(0, .aload_n 0, 1, []), (1, .iconst 0, 1, []), (2, .putfield 21, 3, [5, 2, 201]), (5, .aload_n 0, 1, []), (6, .getfield 17, 3, [5, 0, 199]), (9, .invokevirtual 25, 3, [1, 12, 0, 10, 832, 625, 626, 106]), (12, .aload_n 0, 1, []), (13, .getfield 17, 3, [5, 0, 199]), (16, .invokevirtual 28, 3, [1, 10, 0, 10, 833, 633, 634, 106]), (19, .ifCond .eq 20, 3, [])]),
  (39, [(22, .new 32, 3, [1, 4, 834, 835, 127]), (25, .dup, 1, []), (26, .iconst 0, 1, []), (27, .aload_n 0, 1, []), (28, .getfield 11, 3, [5, 1, 200]), (31, .iconst 0, 1, []), (32, .invokestatic 34, 3, [2, 39, 2, 836, 837, 128]), (35, .invokespecial 40, 3, [7, 40, 2, 0, 849, 850, 127]), (38, .areturn, 1, [])])], 4, 2, 2, 245)
noncomputable def em_42 : es_M := (yX11_law, RX11, cX11_law, 2, (some .int), [], [(27, [(0, .aload_n 0, 1, []), (1, .getfield 35, 3, [11, 3, 459]), (4, .invokevirtual 130, 3, [1, 41, 0, 5, 828, 829, 830, 109]), (7, .astore_n 1, 1, []), (8, .aload_n 0, 1, []), (9, .aload_n 1, 1, []), (10, .ifnull 7, 3, []), (13, .iconst (-1), 1, []), (14, .goto 10, 3, []), (24, .putfield 87, 3, [11, 16, 472])]),
  (57, [(27, .aload_n 0, 1, []), (28, .getfield 10, 3, [11, 0, 456]), (31, .iconst 0, 1, []), (32, .putfield 91, 3, [10, 1, 150]), (35, .aload_n 1, 1, []), (36, .ifnonnull 13, 3, []), (49, .aload_n 0, 1, []), (50, .getfield 42, 3, [11, 4, 460]), (53, .aload_n 1, 1, []), (54, .putfield 134, 3, [0, 11, 253])]),
  (67, [(57, .aload_n 0, 1, []), (58, .iconst 0, 1, []), (59, .putfield 127, 3, [11, 14, 470]), (62, .aload_n 1, 1, []), (63, .getfield 138, 3, [4, 0, 854]), (66, .ireturn, 1, [])])], 5, 2, 2, 266)
noncomputable def em_43 : es_M := (yL_law, RL, cL_law, 3, (some .int), [(0, 8, 11, 13)], [(16, [(0, .aload_n 1, 1, []), (1, .iconst 0, 1, []), (2, .aload_n 0, 1, []), (3, .invokevirtual 17, 3, [1, 42, 0, 11, 824, 825, 826, 105]), (6, .i2l, 1, []), (7, .lastore, 1, []), (8, .goto 6, 3, []), (14, .iconst 0, 1, []), (15, .ireturn, 1, [])])], 6, 2, 2, 287)
noncomputable def em_44 : es_M := (yX11_led, RX11, cX11_led, 3, (some .int), [], [(3, [(0, .aload_n 0, 1, []), (1, .iload_n 1, 1, []), (2, .invokevirtual 165, 3, [1, 0, 1, 11, 943, 944, 19, 105])])], 7, 1, 6, 221)
noncomputable def em_45 : es_M := (yL_led, RL, cL_led, 5, (some .int), [(0, 10, 13, 24)], [(17, [(0, .aload_n 3, 1, []), (1, .iconst 0, 1, []), (2, .aload_n 0, 1, []), (3, .iload_n 1, 1, []), (4, .iload_n 2, 1, []), (5, .invokevirtual 122, 3, [1, 44, 2, 11, 1348, 1349, 1350, 105]), (13, .astore 4, 2, []), (15, .iconst 1, 1, []), (16, .ireturn, 1, [])])], 8, 1, 6, 243)
noncomputable def em_46 : es_M := (yX11_lives, RX11, cX11_lives, 4, (some .int), [], [(3, [(0, .aload_n 0, 1, []), (1, .iload_n 1, 1, []), (2, .invokevirtual 165, 3, [1, 0, 1, 11, 943, 944, 19, 105])])], 7, 1, 6, 221)
noncomputable def em_47 : es_M := (yL_lives, RL, cL_lives, 4, (some .int), [(0, 9, 12, 24)], [(15, [(0, .aload_n 2, 1, []), (1, .iconst 0, 1, []), (2, .aload_n 0, 1, []), (3, .iload_n 1, 1, []), (4, .invokevirtual 73, 3, [1, 46, 1, 11, 1142, 1143, 1144, 105]), (12, .astore_n 3, 1, []), (13, .iconst 1, 1, []), (14, .ireturn, 1, [])])], 8, 1, 6, 244)
noncomputable def em_48 : es_M := (yX6_cell, RX6, cX6_cell, 3, (some .int), [], [(23, [(0, .iload_n 1, 1, []), (1, .ifCond .lt 20, 3, []), (4, .iload_n 1, 1, []), (5, .aload_n 0, 1, []), (6, .getfield 21, 3, [6, 1, 293]), (9, .if_icmp .ge 12, 3, []), (21, .iconst (-1), 1, []), (22, .ireturn, 1, [])])], 2, 0, 0, 200)
noncomputable def em_49 : es_M := (yX11_log, RX11, cX11_log, 3, (some .int), [], [(27, [(0, .iload_n 2, 1, []), (1, .ifCond .lt 8, 3, []), (4, .iload_n 2, 1, []), (5, .iconst 4, 1, []), (6, .if_icmp .lt 13, 3, []), (9, .new 160, 3, [100, 2, 162, 164, 0, 2, 922, 131]), (19, .aload_n 0, 1, []), (20, .getfield 49, 3, [11, 5, 461]), (23, .getfield 241, 3, [2, 3, 358]), (26, .iload_n 1, 1, [])]),
  (32, [(27, .iload_n 2, 1, []), (28, .invokevirtual 382, 3, [1, 48, 2, 6, 1363, 1364, 1365, 112]), (31, .ireturn, 1, [])])], 6, 1, 6, 222)
noncomputable def em_50 : es_M := (yL_log, RL, cL_log, 5, (some .int), [(0, 10, 13, 26)], [(15, [(0, .aload_n 3, 1, []), (1, .iconst 0, 1, []), (2, .aload_n 0, 1, []), (3, .iload_n 1, 1, []), (4, .iload_n 2, 1, []), (5, .invokevirtual 125, 3, [1, 49, 2, 11, 1359, 1360, 1361, 105]), (8, .i2l, 1, []), (9, .lastore, 1, []), (10, .goto 7, 3, []), (13, .astore 4, 2, [])]),
  (19, [(15, .iconst 1, 1, []), (16, .ireturn, 1, []), (17, .iconst 0, 1, []), (18, .ireturn, 1, [])])], 7, 1, 6, 244)
noncomputable def em_51 : es_M := (yX11_longest, RX11, cX11_longest, 4, (some .int), [], [(3, [(0, .aload_n 0, 1, []), (1, .iload_n 1, 1, []), (2, .invokevirtual 165, 3, [1, 0, 1, 11, 943, 944, 19, 105])])], 7, 1, 6, 221)
noncomputable def em_52 : es_M := (yL_longest, RL, cL_longest, 5, (some .int), [(0, 10, 13, 24), (0, 10, 17, 13)], [(17, [(0, .aload_n 3, 1, []), (1, .iconst 0, 1, []), (2, .aload_n 0, 1, []), (3, .iload_n 1, 1, []), (4, .iload_n 2, 1, []), (5, .invokevirtual 79, 3, [1, 51, 2, 11, 1156, 1157, 1158, 105]), (13, .astore 4, 2, []), (15, .iconst 1, 1, []), (16, .ireturn, 1, [])])], 8, 1, 6, 244)
noncomputable def em_53 : es_M := (yX11_man, RX11, cX11_man, 4, (some .int), [], [(3, [(0, .aload_n 0, 1, []), (1, .iload_n 1, 1, []), (2, .invokevirtual 165, 3, [1, 0, 1, 11, 943, 944, 19, 105])])], 7, 1, 6, 221)
noncomputable def em_54 : es_M := (yL_man, RL, cL_man, 5, (some .int), [(0, 10, 13, 24), (0, 10, 17, 26)], [(17, [(0, .aload_n 3, 1, []), (1, .iconst 0, 1, []), (2, .aload_n 0, 1, []), (3, .iload_n 1, 1, []), (4, .iload_n 2, 1, []), (5, .invokevirtual 28, 3, [1, 53, 2, 11, 939, 940, 941, 105]), (13, .astore 4, 2, []), (15, .iconst 1, 1, []), (16, .ireturn, 1, [])])], 8, 1, 6, 244)
noncomputable def em_55 : es_M := (yX11_needs, RX11, cX11_needs, 5, (some .int), [], [(3, [(0, .aload_n 0, 1, []), (1, .iload_n 1, 1, []), (2, .invokevirtual 165, 3, [1, 0, 1, 11, 943, 944, 19, 105])])], 7, 1, 6, 221)
noncomputable def em_56 : es_M := (yL_needs, RL, cL_needs, 5, (some .int), [(0, 10, 13, 24), (0, 10, 17, 13)], [(17, [(0, .aload_n 3, 1, []), (1, .iconst 0, 1, []), (2, .aload_n 0, 1, []), (3, .iload_n 1, 1, []), (4, .iload_n 2, 1, []), (5, .invokevirtual 82, 3, [1, 55, 2, 11, 1200, 1201, 1202, 105]), (13, .astore 4, 2, []), (15, .iconst 1, 1, []), (16, .ireturn, 1, [])])], 8, 1, 6, 245)
noncomputable def em_57 : es_M := (yX11_waysOf, RX11, cX11_waysOf, 6, (some .long), [], [(15, [(0, .lconst 1, 1, []), (1, .lstore_n 3, 1, []), (2, .iconst 0, 1, []), (3, .istore 5, 2, []), (5, .iload 5, 2, []), (7, .iload_n 2, 1, []), (8, .if_icmp .ge 23, 3, []), (11, .lload_n 3, 1, []), (12, .iload_n 1, 1, []), (13, .iload 5, 2, [])]),
  (28, [(15, .isub, 1, []), (16, .i2l, 1, []), (17, .lmul, 1, []), (18, .iload 5, 2, []), (20, .iconst 1, 1, []), (21, .iadd, 1, []), (22, .i2l, 1, []), (23, .ldiv, 1, []), (24, .lstore_n 3, 1, []), (25, .iinc 5 1, 3, [])]),
  (47, [(28, .goto (-23), 3, []), (31, .iconst 0, 1, []), (32, .istore 5, 2, []), (34, .iload 5, 2, []), (36, .iload_n 1, 1, []), (37, .if_icmp .ge 40, 3, []), (40, .lload_n 3, 1, []), (41, .iload 5, 2, []), (43, .iload_n 2, 1, []), (44, .if_icmp .ge 14, 3, [])]),
  (68, [(47, .aload_n 0, 1, []), (48, .getfield 42, 3, [11, 4, 460]), (51, .getfield 284, 3, [0, 8, 244]), (54, .i2l, 1, []), (55, .goto 14, 3, []), (58, .bipush 100, 2, []), (60, .aload_n 0, 1, []), (61, .getfield 42, 3, [11, 4, 460]), (64, .getfield 284, 3, [0, 8, 244]), (67, .isub, 1, [])]),
  (79, [(68, .i2l, 1, []), (69, .lmul, 1, []), (70, .lstore_n 3, 1, []), (71, .iinc 5 1, 3, []), (74, .goto (-40), 3, []), (77, .lload_n 3, 1, []), (78, .lreturn, 1, [])])], 2, 0, 0, 200)
noncomputable def em_58 : es_M := (yX11_odds, RX11, cX11_odds, 8, (some .int), [], [(14, [(0, .aload_n 0, 1, []), (1, .iload_n 1, 1, []), (2, .iconst 0, 1, []), (3, .iconst 5, 1, []), (4, .invokevirtual 266, 3, [1, 23, 3, 11, 1075, 1076, 28, 105]), (7, .aload_n 0, 1, []), (8, .iload_n 2, 1, []), (9, .iconst 0, 1, []), (10, .iconst 5, 1, []), (11, .invokevirtual 266, 3, [1, 23, 3, 11, 1075, 1076, 28, 105])]),
  (30, [(14, .lconst 0, 1, []), (15, .lstore_n 3, 1, []), (16, .lconst 1, 1, []), (17, .lstore 5, 2, []), (19, .iconst 0, 1, []), (20, .istore 7, 2, []), (22, .iload 7, 2, []), (24, .iload_n 1, 1, []), (25, .if_icmp .ge 17, 3, []), (28, .lload 5, 2, [])]),
  (51, [(30, .ldc2_w 348, 3, [1292, 100]), (33, .lmul, 1, []), (34, .lstore 5, 2, []), (36, .iinc 7 1, 3, []), (39, .goto (-17), 3, []), (42, .iload_n 2, 1, []), (43, .istore 7, 2, []), (45, .iload 7, 2, []), (47, .iload_n 1, 1, []), (48, .if_icmp .gt 19, 3, [])]),
  (68, [(51, .lload_n 3, 1, []), (52, .aload_n 0, 1, []), (53, .iload_n 1, 1, []), (54, .iload 7, 2, []), (56, .invokevirtual 350, 3, [1, 57, 2, 11, 1293, 1294, 40, 105]), (59, .ladd, 1, []), (60, .lstore_n 3, 1, []), (61, .iinc 7 1, 3, []), (64, .goto (-19), 3, []), (67, .lload_n 3, 1, [])]),
  (77, [(68, .ldc2_w 354, 3, [1296, 10000]), (71, .lmul, 1, []), (72, .lload 5, 2, []), (74, .ldiv, 1, []), (75, .l2i, 1, []), (76, .ireturn, 1, [])])], 7, 2, 12, 225)
noncomputable def em_59 : es_M := (yL_odds, RL, cL_odds, 5, (some .int), [(0, 10, 13, 13)], [(15, [(0, .aload_n 3, 1, []), (1, .iconst 0, 1, []), (2, .aload_n 0, 1, []), (3, .iload_n 1, 1, []), (4, .iload_n 2, 1, []), (5, .invokevirtual 107, 3, [1, 58, 2, 11, 1288, 1289, 1290, 105]), (8, .i2l, 1, []), (9, .lastore, 1, []), (10, .goto 7, 3, []), (13, .astore 4, 2, [])]),
  (19, [(15, .iconst 1, 1, []), (16, .ireturn, 1, []), (17, .iconst 0, 1, []), (18, .ireturn, 1, [])])], 8, 2, 12, 252)
noncomputable def em_60 : es_M := (yX11_owes, RX11, cX11_owes, 2, (some .int), [], [(16, [(0, .aload_n 0, 1, []), (1, .iload_n 1, 1, []), (2, .iconst 0, 1, []), (3, .sipush 200, 3, []), (6, .invokevirtual 266, 3, [1, 23, 3, 11, 1075, 1076, 28, 105]), (9, .aload_n 0, 1, []), (10, .iload_n 1, 1, []), (11, .iconst 0, 1, []), (12, .aload_n 0, 1, []), (13, .getfield 49, 3, [11, 5, 461])]),
  (30, [(16, .getfield 291, 3, [2, 9, 379]), (19, .invokevirtual 294, 3, [1, 22, 3, 11, 1122, 1123, 30, 105]), (22, .aload_n 0, 1, []), (23, .getfield 74, 3, [11, 9, 465]), (26, .getfield 281, 3, [2, 7, 373]), (29, .ireturn, 1, [])])], 7, 1, 6, 272)
noncomputable def em_61 : es_M := (yL_owes, RL, cL_owes, 4, (some .int), [(0, 9, 12, 13)], [(14, [(0, .aload_n 2, 1, []), (1, .iconst 0, 1, []), (2, .aload_n 0, 1, []), (3, .iload_n 1, 1, []), (4, .invokevirtual 67, 3, [1, 60, 1, 11, 1128, 1129, 1130, 105]), (7, .i2l, 1, []), (8, .lastore, 1, []), (9, .goto 6, 3, []), (12, .astore_n 3, 1, []), (13, .iconst 1, 1, [])]),
  (17, [(14, .ireturn, 1, []), (15, .iconst 0, 1, []), (16, .ireturn, 1, [])])], 8, 1, 6, 293)
noncomputable def em_62 : es_M := (yX11_needStep, RX11, cX11_needStep, 2, none, [], [(16, [(0, .iload_n 1, 1, []), (1, .ifCond .lt 14, 3, []), (4, .iload_n 1, 1, []), (5, .aload_n 0, 1, []), (6, .getfield 42, 3, [11, 4, 460]), (9, .getfield 297, 3, [0, 5, 233]), (12, .if_icmp .lt 14, 3, []), (15, .new 400, 3, [100, 3, 402, 404, 1, 3, 904, 130])])], 6, 1, 6, 200)
noncomputable def em_63 : es_M := (yX11_part, RX11, cX11_part, 3, (some .int), [], [(3, [(0, .aload_n 0, 1, []), (1, .iload_n 1, 1, []), (2, .invokevirtual 143, 3, [1, 62, 1, 11, 901, 902, 18, 105])])], 7, 1, 6, 221)
noncomputable def em_64 : es_M := (yL_part, RL, cL_part, 5, (some .int), [(0, 10, 13, 24), (0, 10, 17, 42)], [(17, [(0, .aload_n 3, 1, []), (1, .iconst 0, 1, []), (2, .aload_n 0, 1, []), (3, .iload_n 1, 1, []), (4, .iload_n 2, 1, []), (5, .invokevirtual 55, 3, [1, 63, 2, 11, 1081, 1082, 1083, 105]), (13, .astore 4, 2, []), (15, .iconst 1, 1, []), (16, .ireturn, 1, [])])], 8, 1, 6, 243)
noncomputable def em_65 : es_M := (yX11_pay, RX11, cX11_pay, 2, (some .int), [], [(20, [(0, .aload_n 0, 1, []), (1, .iload_n 1, 1, []), (2, .iconst 1, 1, []), (3, .aload_n 0, 1, []), (4, .getfield 49, 3, [11, 5, 461]), (7, .getfield 281, 3, [2, 7, 373]), (10, .aload_n 0, 1, []), (11, .getfield 49, 3, [11, 5, 461]), (14, .getfield 270, 3, [2, 6, 369]), (17, .invokestatic 273, 3, [5, 1034, 846, 129, 847])]),
  (21, [(20, .invokevirtual 266, 3, [1, 23, 3, 11, 1075, 1076, 28, 105])])], 7, 1, 6, 223)
noncomputable def em_66 : es_M := (yL_pay, RL, cL_pay, 4, (some .int), [(0, 9, 12, 13)], [(15, [(0, .aload_n 2, 1, []), (1, .iconst 0, 1, []), (2, .aload_n 0, 1, []), (3, .iload_n 1, 1, []), (4, .invokevirtual 58, 3, [1, 65, 1, 11, 1088, 1089, 1090, 105]), (12, .astore_n 3, 1, []), (13, .iconst 1, 1, []), (14, .ireturn, 1, [])])], 8, 1, 6, 244)
noncomputable def em_67 : es_M := (yX11_proof, RX11, cX11_proof, 3, (some .int), [], [(3, [(0, .aload_n 0, 1, []), (1, .iload_n 1, 1, []), (2, .invokevirtual 165, 3, [1, 0, 1, 11, 943, 944, 19, 105])])], 7, 1, 6, 221)
noncomputable def em_68 : es_M := (yL_proof, RL, cL_proof, 4, (some .int), [(0, 9, 12, 24), (0, 9, 15, 42)], [(15, [(0, .aload_n 2, 1, []), (1, .iconst 0, 1, []), (2, .aload_n 0, 1, []), (3, .iload_n 1, 1, []), (4, .invokevirtual 38, 3, [1, 67, 1, 11, 1010, 1011, 1012, 105]), (12, .astore_n 3, 1, []), (13, .iconst 1, 1, []), (14, .ireturn, 1, [])])], 8, 1, 6, 243)
noncomputable def em_69 : es_M := (yX11_rests, RX11, cX11_rests, 11, (some .int), [], [(3, [(0, .aload_n 0, 1, []), (1, .iload_n 1, 1, []), (2, .invokevirtual 165, 3, [1, 0, 1, 11, 943, 944, 19, 105])])], 7, 1, 6, 221)
noncomputable def em_70 : es_M := (yL_rests, RL, cL_rests, 5, (some .int), [(0, 10, 13, 24)], [(17, [(0, .aload_n 3, 1, []), (1, .iconst 0, 1, []), (2, .aload_n 0, 1, []), (3, .iload_n 1, 1, []), (4, .iload_n 2, 1, []), (5, .invokevirtual 104, 3, [1, 69, 2, 11, 1275, 1276, 1277, 105]), (13, .astore 4, 2, []), (15, .iconst 1, 1, []), (16, .ireturn, 1, [])])], 8, 1, 6, 251)
noncomputable def em_71 : es_M := (yX11_needRival, RX11, cX11_needRival, 2, none, [], [(16, [(0, .iload_n 1, 1, []), (1, .ifCond .lt 14, 3, []), (4, .iload_n 1, 1, []), (5, .aload_n 0, 1, []), (6, .getfield 49, 3, [11, 5, 461]), (9, .getfield 356, 3, [2, 5, 366]), (12, .if_icmp .lt 14, 3, []), (15, .new 400, 3, [100, 3, 409, 404, 1, 4, 904, 130])])], 6, 1, 6, 200)
noncomputable def em_72 : es_M := (yX11_rival, RX11, cX11_rival, 3, (some .int), [], [(3, [(0, .aload_n 0, 1, []), (1, .iload_n 1, 1, []), (2, .invokevirtual 215, 3, [1, 71, 1, 11, 1003, 1004, 25, 105])])], 7, 1, 6, 221)
noncomputable def em_73 : es_M := (yL_rival, RL, cL_rival, 5, (some .int), [(0, 10, 13, 24)], [(17, [(0, .aload_n 3, 1, []), (1, .iconst 0, 1, []), (2, .aload_n 0, 1, []), (3, .iload_n 1, 1, []), (4, .iload_n 2, 1, []), (5, .invokevirtual 35, 3, [1, 72, 2, 11, 999, 1000, 1001, 105]), (13, .astore 4, 2, []), (15, .iconst 1, 1, []), (16, .ireturn, 1, [])])], 8, 1, 6, 243)
noncomputable def em_74 : es_M := (yX11_seen, RX11, cX11_seen, 6, (some .int), [], [(16, [(0, .aload_n 0, 1, []), (1, .invokevirtual 325, 3, [1, 6, 0, 11, 1247, 1248, 35, 105]), (4, .lstore_n 2, 1, []), (5, .iload_n 1, 1, []), (6, .ifCond .ne 8, 3, []), (9, .lload_n 2, 1, []), (10, .invokestatic 329, 3, [2, 3, 1, 1256, 1257, 134]), (13, .ireturn, 1, []), (14, .lload_n 2, 1, []), (15, .lconst 0, 1, [])]),
  (37, [(16, .lcmp, 1, []), (17, .ifCond .ne 5, 3, []), (22, .bipush 63, 2, []), (24, .istore 4, 2, []), (26, .iconst 1, 1, []), (27, .istore 5, 2, []), (29, .iload 5, 2, []), (31, .bipush 64, 2, []), (33, .if_icmp .ge 27, 3, []), (36, .lload_n 2, 1, [])]),
  (52, [(37, .iload 5, 2, []), (39, .lshr, 1, []), (40, .lconst 1, 1, []), (41, .land, 1, []), (42, .lconst 0, 1, []), (43, .lcmp, 1, []), (44, .ifCond .eq 10, 3, []), (47, .iload 4, 2, []), (49, .iload 5, 2, []), (51, .iand, 1, [])]),
  (63, [(52, .istore 4, 2, []), (54, .iinc 5 1, 3, []), (57, .goto (-28), 3, []), (60, .iload 4, 2, []), (62, .ireturn, 1, [])])], 4, 0, 0, 247)
noncomputable def em_75 : es_M := (yL_seen, RL, cL_seen, 4, (some .int), [(0, 9, 12, 13)], [(17, [(0, .aload_n 2, 1, []), (1, .iconst 0, 1, []), (2, .aload_n 0, 1, []), (3, .iload_n 1, 1, []), (4, .invokevirtual 97, 3, [1, 74, 1, 11, 1243, 1244, 1245, 105]), (7, .i2l, 1, []), (8, .lastore, 1, []), (9, .goto 6, 3, []), (15, .iconst 0, 1, []), (16, .ireturn, 1, [])])], 5, 0, 0, 272)
noncomputable def em_76 : es_M := (yX11_sell, RX11, cX11_sell, 5, (some .int), [], [(3, [(0, .aload_n 0, 1, []), (1, .iload_n 1, 1, []), (2, .invokevirtual 165, 3, [1, 0, 1, 11, 943, 944, 19, 105])])], 7, 1, 6, 221)
noncomputable def em_77 : es_M := (yL_sell, RL, cL_sell, 6, (some .int), [(0, 12, 15, 24), (0, 12, 19, 13), (0, 12, 23, 42)], [(19, [(0, .aload 4, 2, []), (2, .iconst 0, 1, []), (3, .aload_n 0, 1, []), (4, .iload_n 1, 1, []), (5, .iload_n 2, 1, []), (6, .iload_n 3, 1, []), (7, .invokevirtual 51, 3, [1, 76, 3, 11, 1071, 1072, 1073, 105]), (15, .astore 5, 2, []), (17, .iconst 1, 1, []), (18, .ireturn, 1, [])])], 8, 1, 6, 245)
noncomputable def em_78 : es_M := (yX11_slips, RX11, cX11_slips, 4, (some .int), [], [(3, [(0, .aload_n 0, 1, []), (1, .iload_n 1, 1, []), (2, .invokevirtual 165, 3, [1, 0, 1, 11, 943, 944, 19, 105])])], 7, 1, 6, 221)
noncomputable def em_79 : es_M := (yL_slips, RL, cL_slips, 4, (some .int), [(0, 9, 12, 24)], [(15, [(0, .aload_n 2, 1, []), (1, .iconst 0, 1, []), (2, .aload_n 0, 1, []), (3, .iload_n 1, 1, []), (4, .invokevirtual 94, 3, [1, 78, 1, 11, 1236, 1237, 1238, 105]), (12, .astore_n 3, 1, []), (13, .iconst 1, 1, []), (14, .ireturn, 1, [])])], 8, 1, 6, 244)
noncomputable def em_80 : es_M := (yX8_most, RX8, cX8_most, 1, (some .int), [], [(7, [(0, .aload_n 0, 1, []), (1, .getfield 11, 3, [8, 1, 450]), (4, .iconst 0, 1, []), (5, .iaload, 1, []), (6, .ireturn, 1, [])])], 2, 0, 0, 200)
noncomputable def em_81 : es_M := (yJ7_fill_53178, RJ7, cJ7_fill_53178, 4, none, [], [(12, [(0, .iconst 0, 1, []), (1, .istore_n 2, 1, []), (2, .aload_n 0, 1, []), (3, .arraylength, 1, []), (4, .istore_n 3, 1, []), (5, .iload_n 2, 1, []), (6, .iload_n 3, 1, []), (7, .if_icmp .ge 13, 3, []), (10, .aload_n 0, 1, []), (11, .iload_n 2, 1, [])]),
  (21, [(12, .iload_n 1, 1, []), (13, .iastore, 1, []), (14, .iinc 2 1, 3, []), (17, .goto (-12), 3, []), (20, .return_, 1, [])])], 2, 0, 0, 200)
noncomputable def em_82 : es_M := (yX8_weigh, RX8, cX8_weigh, 5, none, [], [(18, [(0, .aload_n 0, 1, []), (1, .getfield 11, 3, [8, 1, 450]), (4, .iconst 0, 1, []), (5, .invokestatic 19, 3, [2, 81, 2, 1308, 1309, 128]), (8, .aload_n 0, 1, []), (9, .getfield 15, 3, [8, 0, 449]), (12, .getfield 25, 3, [2, 5, 363]), (15, .iconst 1, 1, []), (16, .isub, 1, []), (17, .istore_n 1, 1, [])]),
  (104, [(18, .iload_n 1, 1, []), (19, .ifCond .lt 84, 3, []), (103, .return_, 1, [])])], 3, 0, 0, 223)
noncomputable def em_83 : es_M := (yX11_sold, RX11, cX11_sold, 2, (some .int), [], [(18, [(0, .iload_n 1, 1, []), (1, .iconst (-1), 1, []), (2, .if_icmp .eq 8, 3, []), (5, .aload_n 0, 1, []), (6, .iload_n 1, 1, []), (7, .invokevirtual 215, 3, [1, 71, 1, 11, 1003, 1004, 25, 105]), (10, .aload_n 0, 1, []), (11, .getfield 67, 3, [11, 7, 463]), (14, .invokevirtual 359, 3, [1, 82, 0, 8, 1304, 1305, 1306, 115]), (17, .iload_n 1, 1, [])]),
  (41, [(18, .iconst (-1), 1, []), (19, .if_icmp .ne 13, 3, []), (22, .aload_n 0, 1, []), (23, .getfield 67, 3, [11, 7, 463]), (26, .invokevirtual 362, 3, [1, 80, 0, 8, 1316, 1317, 1318, 115]), (29, .goto 11, 3, []), (40, .ireturn, 1, [])])], 7, 1, 6, 247)
noncomputable def em_84 : es_M := (yL_sold, RL, cL_sold, 4, (some .int), [(0, 9, 12, 24)], [(14, [(0, .aload_n 2, 1, []), (1, .iconst 0, 1, []), (2, .aload_n 0, 1, []), (3, .iload_n 1, 1, []), (4, .invokevirtual 110, 3, [1, 83, 1, 11, 1300, 1301, 1302, 105]), (7, .i2l, 1, []), (8, .lastore, 1, []), (9, .goto 6, 3, []), (12, .astore_n 3, 1, []), (13, .iconst 1, 1, [])]),
  (17, [(14, .ireturn, 1, []), (15, .iconst 0, 1, []), (16, .ireturn, 1, [])])], 8, 1, 6, 268)
noncomputable def em_85 : es_M := (yX11_span, RX11, cX11_span, 5, (some .int), [], [(16, [(0, .aload_n 0, 1, []), (1, .iload_n 1, 1, []), (2, .iconst 0, 1, []), (3, .sipush 200, 3, []), (6, .invokevirtual 266, 3, [1, 23, 3, 11, 1075, 1076, 28, 105]), (9, .iconst (-1), 1, []), (10, .istore_n 3, 1, []), (11, .iconst 1, 1, []), (12, .istore 4, 2, []), (14, .iload 4, 2, [])]),
  (36, [(16, .bipush 6, 2, []), (18, .if_icmp .gt 66, 3, []), (21, .aload_n 0, 1, []), (22, .iload_n 1, 1, []), (23, .aload_n 0, 1, []), (24, .getfield 42, 3, [11, 4, 460]), (27, .getfield 284, 3, [0, 8, 244]), (30, .iload 4, 2, []), (32, .invokevirtual 294, 3, [1, 22, 3, 11, 1122, 1123, 30, 105]), (35, .iload_n 3, 1, [])]),
  (54, [(36, .iconst (-1), 1, []), (37, .if_icmp .ne 11, 3, []), (40, .aload_n 0, 1, []), (41, .getfield 74, 3, [11, 9, 465]), (44, .getfield 270, 3, [2, 6, 369]), (47, .istore_n 3, 1, []), (48, .iload_n 2, 1, []), (49, .ifCond .eq 17, 3, []), (52, .iload_n 3, 1, []), (53, .aload_n 0, 1, [])]),
  (78, [(54, .getfield 74, 3, [11, 9, 465]), (57, .getfield 270, 3, [2, 6, 369]), (60, .invokestatic 338, 3, [6, 528, 529, 129, 530]), (63, .goto 14, 3, []), (66, .iload_n 3, 1, []), (67, .aload_n 0, 1, []), (68, .getfield 74, 3, [11, 9, 465]), (71, .getfield 270, 3, [2, 6, 369]), (74, .invokestatic 273, 3, [5, 1034, 846, 129, 847]), (77, .istore_n 3, 1, [])]),
  (86, [(78, .iinc 4 1, 3, []), (81, .goto (-67), 3, []), (84, .iload_n 3, 1, []), (85, .ireturn, 1, [])])], 7, 1, 6, 272)
noncomputable def em_86 : es_M := (yL_span, RL, cL_span, 5, (some .int), [(0, 10, 13, 13)], [(15, [(0, .aload_n 3, 1, []), (1, .iconst 0, 1, []), (2, .aload_n 0, 1, []), (3, .iload_n 1, 1, []), (4, .iload_n 2, 1, []), (5, .invokevirtual 119, 3, [1, 85, 2, 11, 1341, 1342, 1343, 105]), (8, .i2l, 1, []), (9, .lastore, 1, []), (10, .goto 7, 3, []), (13, .astore 4, 2, [])]),
  (19, [(15, .iconst 1, 1, []), (16, .ireturn, 1, []), (17, .iconst 0, 1, []), (18, .ireturn, 1, [])])], 8, 1, 6, 296)
noncomputable def em_87 : es_M := (yX11_step, RX11, cX11_step, 3, (some .int), [], [(3, [(0, .aload_n 0, 1, []), (1, .iload_n 1, 1, []), (2, .invokevirtual 143, 3, [1, 62, 1, 11, 901, 902, 18, 105])])], 7, 1, 6, 221)
noncomputable def em_88 : es_M := (yL_step, RL, cL_step, 5, (some .int), [(0, 10, 13, 24), (0, 10, 17, 26)], [(17, [(0, .aload_n 3, 1, []), (1, .iconst 0, 1, []), (2, .aload_n 0, 1, []), (3, .iload_n 1, 1, []), (4, .iload_n 2, 1, []), (5, .invokevirtual 20, 3, [1, 87, 2, 11, 897, 898, 899, 105]), (13, .astore 4, 2, []), (15, .iconst 1, 1, []), (16, .ireturn, 1, [])])], 8, 1, 6, 243)
noncomputable def em_89 : es_M := (yX11_stopped, RX11, cX11_stopped, 3, (some .boolean), [], [(3, [(0, .aload_n 0, 1, []), (1, .iload_n 1, 1, []), (2, .invokevirtual 165, 3, [1, 0, 1, 11, 943, 944, 19, 105])])], 7, 1, 6, 221)
noncomputable def em_90 : es_M := (yL_stopped, RL, cL_stopped, 5, (some .int), [(0, 17, 20, 24)], [(24, [(0, .aload_n 3, 1, []), (1, .iconst 0, 1, []), (2, .aload_n 0, 1, []), (3, .iload_n 1, 1, []), (4, .iload_n 2, 1, []), (5, .invokevirtual 85, 3, [1, 89, 2, 11, 1207, 1208, 1209, 105]), (20, .astore 4, 2, []), (22, .iconst 1, 1, []), (23, .ireturn, 1, [])])], 8, 1, 6, 243)
noncomputable def em_91 : es_M := (yX11_needTest, RX11, cX11_needTest, 2, none, [], [(16, [(0, .iload_n 1, 1, []), (1, .ifCond .lt 14, 3, []), (4, .iload_n 1, 1, []), (5, .aload_n 0, 1, []), (6, .getfield 42, 3, [11, 4, 460]), (9, .getfield 314, 3, [0, 6, 236]), (12, .if_icmp .lt 14, 3, []), (15, .new 400, 3, [100, 3, 407, 404, 1, 5, 904, 130])])], 6, 1, 6, 200)
noncomputable def em_92 : es_M := (yX11_test, RX11, cX11_test, 3, (some .int), [], [(3, [(0, .aload_n 0, 1, []), (1, .iload_n 1, 1, []), (2, .invokevirtual 206, 3, [1, 91, 1, 11, 993, 994, 24, 105])])], 7, 1, 6, 221)
noncomputable def em_93 : es_M := (yL_test, RL, cL_test, 5, (some .int), [(0, 10, 13, 24)], [(17, [(0, .aload_n 3, 1, []), (1, .iconst 0, 1, []), (2, .aload_n 0, 1, []), (3, .iload_n 1, 1, []), (4, .iload_n 2, 1, []), (5, .invokevirtual 31, 3, [1, 92, 2, 11, 989, 990, 991, 105]), (13, .astore 4, 2, []), (15, .iconst 1, 1, []), (16, .ireturn, 1, [])])], 8, 1, 6, 243)
noncomputable def em_94 : es_M := (yJ6_bitCount_0f7a4, RJ6, cJ6_bitCount_0f7a4, 1, (some .int), [], [(14, [(0, .iload_n 0, 1, []), (1, .iload_n 0, 1, []), (2, .iconst 1, 1, []), (3, .iushr, 1, []), (4, .ldc_w 265, 3, [542, 1431655765]), (7, .iand, 1, []), (8, .isub, 1, []), (9, .istore_n 0, 1, []), (10, .iload_n 0, 1, []), (11, .ldc_w 266, 3, [543, 858993459])]),
  (26, [(14, .iand, 1, []), (15, .iload_n 0, 1, []), (16, .iconst 2, 1, []), (17, .iushr, 1, []), (18, .ldc_w 266, 3, [543, 858993459]), (21, .iand, 1, []), (22, .iadd, 1, []), (23, .istore_n 0, 1, []), (24, .iload_n 0, 1, []), (25, .iload_n 0, 1, [])]),
  (39, [(26, .iconst 4, 1, []), (27, .iushr, 1, []), (28, .iadd, 1, []), (29, .ldc_w 267, 3, [544, 252645135]), (32, .iand, 1, []), (33, .istore_n 0, 1, []), (34, .iload_n 0, 1, []), (35, .iload_n 0, 1, []), (36, .bipush 8, 2, []), (38, .iushr, 1, [])]),
  (51, [(39, .iadd, 1, []), (40, .istore_n 0, 1, []), (41, .iload_n 0, 1, []), (42, .iload_n 0, 1, []), (43, .bipush 16, 2, []), (45, .iushr, 1, []), (46, .iadd, 1, []), (47, .istore_n 0, 1, []), (48, .iload_n 0, 1, []), (49, .bipush 63, 2, [])]),
  (53, [(51, .iand, 1, []), (52, .ireturn, 1, [])])], 2, 0, 0, 200)
noncomputable def em_95 : es_M := (yX11_trial, RX11, cX11_trial, 3, (some .int), [], [(18, [(0, .aload_n 0, 1, []), (1, .iload_n 1, 1, []), (2, .iconst 0, 1, []), (3, .sipush 200, 3, []), (6, .invokevirtual 266, 3, [1, 23, 3, 11, 1075, 1076, 28, 105]), (9, .aload_n 0, 1, []), (10, .iload_n 1, 1, []), (11, .aload_n 0, 1, []), (12, .getfield 42, 3, [11, 4, 460]), (15, .getfield 284, 3, [0, 8, 244])]),
  (40, [(18, .aload_n 0, 1, []), (19, .getfield 49, 3, [11, 5, 461]), (22, .getfield 291, 3, [2, 9, 379]), (25, .invokevirtual 294, 3, [1, 22, 3, 11, 1122, 1123, 30, 105]), (28, .iload_n 2, 1, []), (29, .ifCond .eq 17, 3, []), (32, .aload_n 0, 1, []), (33, .getfield 74, 3, [11, 9, 465]), (36, .iconst 0, 1, []), (37, .invokevirtual 375, 3, [1, 20, 1, 2, 557, 558, 559, 111])]),
  (54, [(40, .invokestatic 317, 3, [2, 94, 1, 539, 540, 133]), (43, .goto 10, 3, []), (46, .aload_n 0, 1, []), (47, .getfield 74, 3, [11, 9, 465]), (50, .getfield 270, 3, [2, 6, 369]), (53, .ireturn, 1, [])])], 7, 1, 6, 272)
noncomputable def em_96 : es_M := (yL_trial, RL, cL_trial, 5, (some .int), [(0, 10, 13, 13)], [(15, [(0, .aload_n 3, 1, []), (1, .iconst 0, 1, []), (2, .aload_n 0, 1, []), (3, .iload_n 1, 1, []), (4, .iload_n 2, 1, []), (5, .invokevirtual 116, 3, [1, 95, 2, 11, 1334, 1335, 1336, 105]), (8, .i2l, 1, []), (9, .lastore, 1, []), (10, .goto 7, 3, []), (13, .astore 4, 2, [])]),
  (19, [(15, .iconst 1, 1, []), (16, .ireturn, 1, []), (17, .iconst 0, 1, []), (18, .ireturn, 1, [])])], 8, 1, 6, 294)
noncomputable def em_97 : es_M := (yX11_tried, RX11, cX11_tried, 5, (some .boolean), [], [(3, [(0, .aload_n 0, 1, []), (1, .iload_n 1, 1, []), (2, .invokevirtual 165, 3, [1, 0, 1, 11, 943, 944, 19, 105])])], 7, 1, 6, 221)
noncomputable def em_98 : es_M := (yL_tried, RL, cL_tried, 5, (some .int), [(0, 17, 20, 24), (0, 17, 24, 42)], [(24, [(0, .aload_n 3, 1, []), (1, .iconst 0, 1, []), (2, .aload_n 0, 1, []), (3, .iload_n 1, 1, []), (4, .iload_n 2, 1, []), (5, .invokevirtual 44, 3, [1, 97, 2, 11, 1048, 1049, 1050, 105]), (20, .astore 4, 2, []), (22, .iconst 1, 1, []), (23, .ireturn, 1, [])])], 8, 1, 6, 245)
noncomputable def em_99 : es_M := (yX11_back, RX11, cX11_back, 1, (some .boolean), [], [(9, [(0, .aload_n 0, 1, []), (1, .getfield 390, 3, [11, 15, 471]), (4, .ifCond .ne 5, 3, []), (7, .iconst 0, 1, []), (8, .ireturn, 1, [])])], 2, 0, 0, 200)
noncomputable def em_100 : es_M := (yX11_bids, RX11, cX11_bids, 6, (some .int), [], [(16, [(0, .iconst (-1), 1, []), (1, .istore_n 2, 1, []), (2, .iconst 0, 1, []), (3, .istore_n 3, 1, []), (4, .iconst 0, 1, []), (5, .istore 4, 2, []), (7, .iload 4, 2, []), (9, .aload_n 0, 1, []), (10, .getfield 49, 3, [11, 5, 461]), (13, .getfield 356, 3, [2, 5, 366])]),
  (95, [(16, .if_icmp .ge 69, 3, []), (85, .iload_n 1, 1, []), (86, .ifCond .eq 7, 3, []), (89, .iload_n 3, 1, []), (90, .goto 4, 3, []), (93, .iload_n 2, 1, []), (94, .ireturn, 1, [])])], 2, 0, 0, 200)
noncomputable def em_101 : es_M := (yX2_trustOfKept, RX2, cX2_trustOfKept, 3, (some .int), [], [(44, [(0, .iconst 0, 1, []), (1, .istore_n 1, 1, []), (2, .iconst 0, 1, []), (3, .istore_n 2, 1, []), (4, .iload_n 2, 1, []), (5, .aload_n 0, 1, []), (6, .getfield 56, 3, [2, 4, 361]), (9, .if_icmp .ge 33, 3, []), (42, .iload_n 1, 1, []), (43, .ireturn, 1, [])])], 2, 0, 0, 200)
noncomputable def em_102 : es_M := (yX11_count, RX11, cX11_count, 2, (some .int), [], [(92, [(0, .iload_n 1, 1, []), (1, .tableswitch 212 0 14 #[75, 83, 91, 99, 107, 115, 140, 148, 156, 164, 172, 180, 188, 196, 207], 75, []), (76, .aload_n 0, 1, []), (77, .getfield 42, 3, [11, 4, 460]), (80, .getfield 297, 3, [0, 5, 233]), (83, .ireturn, 1, []), (84, .aload_n 0, 1, []), (85, .getfield 49, 3, [11, 5, 461]), (88, .getfield 372, 3, [2, 4, 362]), (91, .ireturn, 1, [])]),
  (112, [(92, .aload_n 0, 1, []), (93, .getfield 42, 3, [11, 4, 460]), (96, .getfield 314, 3, [0, 6, 236]), (99, .ireturn, 1, []), (100, .aload_n 0, 1, []), (101, .getfield 49, 3, [11, 5, 461]), (104, .getfield 356, 3, [2, 5, 366]), (107, .ireturn, 1, []), (108, .aload_n 0, 1, []), (109, .getfield 42, 3, [11, 4, 460])]),
  (142, [(112, .getfield 119, 3, [0, 10, 250]), (115, .ireturn, 1, []), (116, .aload_n 0, 1, []), (117, .getfield 42, 3, [11, 4, 460]), (120, .getfield 134, 3, [0, 11, 253]), (123, .ifnonnull 7, 3, []), (126, .iconst (-1), 1, []), (127, .goto 13, 3, []), (140, .ireturn, 1, []), (141, .aload_n 0, 1, [])]),
  (164, [(142, .getfield 49, 3, [11, 5, 461]), (145, .getfield 245, 3, [2, 8, 377]), (148, .ireturn, 1, []), (149, .aload_n 0, 1, []), (150, .getfield 49, 3, [11, 5, 461]), (153, .getfield 270, 3, [2, 6, 369]), (156, .ireturn, 1, []), (157, .aload_n 0, 1, []), (158, .getfield 49, 3, [11, 5, 461]), (161, .getfield 281, 3, [2, 7, 373])]),
  (182, [(164, .ireturn, 1, []), (165, .aload_n 0, 1, []), (166, .getfield 42, 3, [11, 4, 460]), (169, .getfield 261, 3, [0, 7, 241]), (172, .ireturn, 1, []), (173, .aload_n 0, 1, []), (174, .getfield 42, 3, [11, 4, 460]), (177, .getfield 284, 3, [0, 8, 244]), (180, .ireturn, 1, []), (181, .aload_n 0, 1, [])]),
  (204, [(182, .getfield 42, 3, [11, 4, 460]), (185, .getfield 235, 3, [0, 9, 247]), (188, .ireturn, 1, []), (189, .aload_n 0, 1, []), (190, .getfield 49, 3, [11, 5, 461]), (193, .invokevirtual 394, 3, [1, 101, 0, 2, 606, 607, 608, 111]), (196, .ireturn, 1, []), (197, .aload_n 0, 1, []), (198, .getfield 49, 3, [11, 5, 461]), (201, .getfield 241, 3, [2, 3, 358])]),
  (215, [(204, .getfield 397, 3, [6, 1, 294]), (207, .ireturn, 1, []), (208, .aload_n 0, 1, []), (209, .getfield 127, 3, [11, 14, 470]), (212, .ireturn, 1, []), (213, .iconst (-1), 1, []), (214, .ireturn, 1, [])])], 3, 0, 0, 222)
noncomputable def em_103 : es_M := (yX11_dearest, RX11, cX11_dearest, 3, (some .int), [], [(50, [(0, .iconst (-1), 1, []), (1, .istore_n 1, 1, []), (2, .iconst 0, 1, []), (3, .istore_n 2, 1, []), (4, .iload_n 2, 1, []), (5, .aload_n 0, 1, []), (6, .getfield 42, 3, [11, 4, 460]), (9, .getfield 297, 3, [0, 5, 233]), (12, .if_icmp .ge 37, 3, []), (49, .iload_n 1, 1, [])]),
  (51, [(50, .ireturn, 1, [])])], 2, 0, 0, 200)
noncomputable def em_104 : es_M := (yX11_end, RX11, cX11_end, 2, (some .boolean), [], [(18, [(0, .iload_n 1, 1, []), (1, .ifCond .lt 14, 3, []), (4, .iload_n 1, 1, []), (5, .aload_n 0, 1, []), (6, .getfield 10, 3, [11, 0, 456]), (9, .getfield 91, 3, [10, 1, 150]), (12, .if_icmp .le 5, 3, []), (15, .iconst 0, 1, []), (16, .ireturn, 1, []), (17, .aload_n 0, 1, [])]),
  (27, [(18, .getfield 10, 3, [11, 0, 456]), (21, .iload_n 1, 1, []), (22, .putfield 91, 3, [10, 1, 150]), (25, .iconst 1, 1, []), (26, .ireturn, 1, [])])], 2, 0, 0, 200)
noncomputable def em_105 : es_M := (yX11_fault, RX11, cX11_fault, 1, (some .int), [], [(5, [(0, .aload_n 0, 1, []), (1, .getfield 87, 3, [11, 16, 472]), (4, .ireturn, 1, [])])], 2, 0, 0, 200)
noncomputable def em_106 : es_M := (yX10_put, RX10, cX10_put, 3, none, [], [(21, [(0, .bipush 24, 2, []), (2, .istore_n 2, 1, []), (3, .iload_n 2, 1, []), (4, .ifCond .lt 45, 3, []), (7, .aload_n 0, 1, []), (8, .getfield 15, 3, [10, 1, 151]), (11, .sipush 400, 3, []), (14, .if_icmp .ge 35, 3, []), (17, .aload_n 0, 1, []), (18, .getfield 11, 3, [10, 0, 148])]),
  (35, [(21, .aload_n 0, 1, []), (22, .getfield 15, 3, [10, 1, 151]), (25, .iload_n 1, 1, []), (26, .iload_n 2, 1, []), (27, .ishr, 1, []), (28, .sipush 255, 3, []), (31, .iand, 1, []), (32, .iastore, 1, []), (33, .aload_n 0, 1, []), (34, .dup, 1, [])]),
  (50, [(35, .getfield 15, 3, [10, 1, 151]), (38, .iconst 1, 1, []), (39, .iadd, 1, []), (40, .putfield 15, 3, [10, 1, 151]), (43, .iinc 2 (-8), 3, []), (46, .goto (-43), 3, []), (49, .return_, 1, [])])], 2, 0, 0, 200)
noncomputable def em_107 : es_M := (yX11_feed, RX11, cX11_feed, 6, (some .int), [], [(23, [(0, .aload_n 0, 1, []), (1, .getfield 10, 3, [11, 0, 456]), (4, .getfield 91, 3, [10, 1, 150]), (7, .bipush 20, 2, []), (9, .iadd, 1, []), (10, .sipush 400, 3, []), (13, .if_icmp .le 5, 3, []), (18, .aload_n 0, 1, []), (19, .getfield 10, 3, [11, 0, 456]), (22, .iload_n 1, 1, [])]),
  (43, [(23, .invokevirtual 94, 3, [1, 106, 1, 10, 512, 513, 514, 106]), (26, .aload_n 0, 1, []), (27, .getfield 10, 3, [11, 0, 456]), (30, .iload_n 2, 1, []), (31, .invokevirtual 94, 3, [1, 106, 1, 10, 512, 513, 514, 106]), (34, .aload_n 0, 1, []), (35, .getfield 10, 3, [11, 0, 456]), (38, .iload_n 3, 1, []), (39, .invokevirtual 94, 3, [1, 106, 1, 10, 512, 513, 514, 106]), (42, .aload_n 0, 1, [])]),
  (67, [(43, .getfield 10, 3, [11, 0, 456]), (46, .iload 4, 2, []), (48, .invokevirtual 94, 3, [1, 106, 1, 10, 512, 513, 514, 106]), (51, .aload_n 0, 1, []), (52, .getfield 10, 3, [11, 0, 456]), (55, .iload 5, 2, []), (57, .invokevirtual 94, 3, [1, 106, 1, 10, 512, 513, 514, 106]), (60, .aload_n 0, 1, []), (61, .getfield 10, 3, [11, 0, 456]), (64, .getfield 91, 3, [10, 1, 150])]),
  (68, [(67, .ireturn, 1, [])])], 3, 0, 0, 222)
noncomputable def em_108 : es_M := (yX11_image, RX11, cX11_image, 1, none, [], [(22, [(0, .aload_n 0, 1, []), (1, .getfield 77, 3, [11, 10, 466]), (4, .aload_n 0, 1, []), (5, .getfield 42, 3, [11, 4, 460]), (8, .invokevirtual 98, 3, [1, 9, 1, 0, 593, 594, 595, 110]), (11, .aload_n 0, 1, []), (12, .getfield 80, 3, [11, 11, 467]), (15, .aload_n 0, 1, []), (16, .getfield 49, 3, [11, 5, 461]), (19, .invokevirtual 388, 3, [1, 27, 1, 2, 569, 570, 571, 111])]),
  (28, [(22, .aload_n 0, 1, []), (23, .iconst 1, 1, []), (24, .putfield 390, 3, [11, 15, 471]), (27, .return_, 1, [])])], 5, 0, 0, 264)
noncomputable def em_109 : es_M := (yX0_init, RX0, cX0_init, 1, none, [], [(20, [(0, .aload_n 0, 1, []), (1, .invokespecial 3, 3, [9, 213, 141, 142]), (4, .aload_n 0, 1, []), (5, .bipush 8, 2, []), (7, .newarray .int, 2, [0, 167]), (9, .putfield 9, 3, [0, 0, 214]), (12, .aload_n 0, 1, []), (13, .bipush 8, 2, []), (15, .newarray .int, 2, [0, 167]), (17, .putfield 15, 3, [0, 1, 217])]),
  (39, [(20, .aload_n 0, 1, []), (21, .bipush 8, 2, []), (23, .newarray .int, 2, [0, 167]), (25, .putfield 18, 3, [0, 2, 220]), (28, .aload_n 0, 1, []), (29, .bipush 6, 2, []), (31, .newarray .int, 2, [0, 167]), (33, .putfield 21, 3, [0, 3, 223]), (36, .aload_n 0, 1, []), (37, .bipush 6, 2, [])]),
  (57, [(39, .newarray .int, 2, [0, 167]), (41, .putfield 24, 3, [0, 4, 225]), (44, .aload_n 0, 1, []), (45, .bipush 10, 2, []), (47, .putfield 27, 3, [0, 7, 237]), (50, .aload_n 0, 1, []), (51, .bipush 10, 2, []), (53, .putfield 31, 3, [0, 9, 245]), (56, .return_, 1, [])])], 2, 5, 36, 200)
noncomputable def em_110 : es_M := (yX10_init, RX10, cX10_init, 1, none, [], [(14, [(0, .aload_n 0, 1, []), (1, .invokespecial 3, 3, [9, 147, 141, 142]), (4, .aload_n 0, 1, []), (5, .sipush 400, 3, []), (8, .newarray .int, 2, [0, 167]), (10, .putfield 11, 3, [10, 0, 148]), (13, .return_, 1, [])])], 2, 1, 400, 200)
noncomputable def em_111 : es_M := (yX1_init, RX1, cX1_init, 2, none, [], [(10, [(0, .aload_n 0, 1, []), (1, .invokespecial 3, 3, [9, 188, 141, 142]), (4, .aload_n 0, 1, []), (5, .aload_n 1, 1, []), (6, .putfield 9, 3, [1, 0, 189]), (9, .return_, 1, [])])], 2, 0, 0, 200)
noncomputable def em_112 : es_M := (yX6_init, RX6, cX6_init, 1, none, [], [(14, [(0, .aload_n 0, 1, []), (1, .invokespecial 3, 3, [9, 291, 141, 142]), (4, .aload_n 0, 1, []), (5, .sipush 240, 3, []), (8, .newarray .int, 2, [0, 167]), (10, .putfield 11, 3, [6, 0, 292]), (13, .return_, 1, [])])], 2, 1, 240, 200)
noncomputable def em_113 : es_M := (yX7_init, RX7, cX7_init, 1, none, [], [(5, [(0, .aload_n 0, 1, []), (1, .invokespecial 3, 3, [9, 303, 141, 142]), (4, .return_, 1, [])])], 2, 0, 0, 200)
noncomputable def em_114 : es_M := (yX2_init, RX2, cX2_init, 2, none, [], [(21, [(0, .aload_n 0, 1, []), (1, .invokespecial 3, 3, [9, 285, 141, 142]), (4, .aload_n 0, 1, []), (5, .bipush 6, 2, []), (7, .anewarray 9, 3, [1, 286]), (10, .putfield 11, 3, [2, 0, 347]), (13, .aload_n 0, 1, []), (14, .bipush 6, 2, []), (16, .newarray .int, 2, [0, 167]), (18, .putfield 17, 3, [2, 1, 352])]),
  (41, [(21, .aload_n 0, 1, []), (22, .bipush 6, 2, []), (24, .newarray .int, 2, [0, 167]), (26, .putfield 21, 3, [2, 2, 355]), (29, .aload_n 0, 1, []), (30, .new 24, 3, [1, 6, 287, 288, 112]), (33, .dup, 1, []), (34, .invokespecial 26, 3, [7, 112, 0, 1, 3, 289, 112]), (37, .putfield 27, 3, [2, 3, 357]), (40, .aload_n 0, 1, [])]),
  (60, [(41, .sipush 500, 3, []), (44, .putfield 31, 3, [2, 6, 367]), (47, .aload_n 0, 1, []), (48, .iconst 1, 1, []), (49, .putfield 35, 3, [2, 9, 378]), (52, .iconst 0, 1, []), (53, .istore_n 1, 1, []), (54, .iload_n 1, 1, []), (55, .bipush 6, 2, []), (57, .if_icmp .ge 22, 3, [])]),
  (80, [(60, .aload_n 0, 1, []), (61, .getfield 11, 3, [2, 0, 347]), (64, .iload_n 1, 1, []), (65, .new 9, 3, [1, 7, 286, 300, 113]), (68, .dup, 1, []), (69, .invokespecial 38, 3, [7, 113, 0, 1, 4, 301, 113]), (72, .aastore, 1, []), (73, .iinc 1 1, 3, []), (76, .goto (-22), 3, []), (79, .return_, 1, [])])], 3, 11, 296, 220)
noncomputable def em_115 : es_M := (yX3_init, RX3, cX3_init, 1, none, [], [(20, [(0, .aload_n 0, 1, []), (1, .invokespecial 1, 3, [9, 172, 141, 142]), (4, .aload_n 0, 1, []), (5, .bipush 9, 2, []), (7, .newarray .int, 2, [0, 167]), (9, .putfield 9, 3, [3, 0, 173]), (12, .aload_n 0, 1, []), (13, .bipush 32, 2, []), (15, .newarray .int, 2, [0, 167]), (17, .putfield 13, 3, [3, 1, 174])]),
  (21, [(20, .return_, 1, [])])], 2, 2, 41, 200)
noncomputable def em_116 : es_M := (yX5_init, RX5, cX5_init, 2, none, [], [(19, [(0, .aload_n 0, 1, []), (1, .invokespecial 3, 3, [9, 198, 141, 142]), (4, .aload_n 0, 1, []), (5, .sipush 400, 3, []), (8, .newarray .int, 2, [0, 167]), (10, .putfield 11, 3, [5, 1, 200]), (13, .aload_n 0, 1, []), (14, .aload_n 1, 1, []), (15, .putfield 17, 3, [5, 0, 199]), (18, .return_, 1, [])])], 2, 1, 400, 200)
noncomputable def em_117 : es_M := (yX8_init, RX8, cX8_init, 2, none, [], [(19, [(0, .aload_n 0, 1, []), (1, .invokespecial 3, 3, [9, 448, 141, 142]), (4, .aload_n 0, 1, []), (5, .sipush 448, 3, []), (8, .newarray .int, 2, [0, 167]), (10, .putfield 11, 3, [8, 1, 450]), (13, .aload_n 0, 1, []), (14, .aload_n 1, 1, []), (15, .putfield 15, 3, [8, 0, 449]), (18, .return_, 1, [])])], 2, 1, 448, 200)
noncomputable def em_118 : es_M := (yX9_init, RX9, cX9_init, 3, none, [], [(20, [(0, .aload_n 0, 1, []), (1, .invokespecial 3, 3, [9, 406, 141, 142]), (4, .aload_n 0, 1, []), (5, .new 9, 3, [1, 7, 407, 300, 113]), (8, .dup, 1, []), (9, .invokespecial 11, 3, [7, 113, 0, 1, 5, 301, 113]), (12, .putfield 12, 3, [9, 2, 410]), (15, .aload_n 0, 1, []), (16, .bipush 30, 2, []), (18, .newarray .int, 2, [0, 167])]),
  (40, [(20, .putfield 18, 3, [9, 3, 411]), (23, .aload_n 0, 1, []), (24, .bipush 30, 2, []), (26, .newarray .int, 2, [0, 167]), (28, .putfield 22, 3, [9, 4, 412]), (31, .aload_n 0, 1, []), (32, .bipush 30, 2, []), (34, .newarray .int, 2, [0, 167]), (36, .putfield 25, 3, [9, 5, 413]), (39, .aload_n 0, 1, [])]),
  (61, [(40, .bipush 30, 2, []), (42, .newarray .int, 2, [0, 167]), (44, .putfield 28, 3, [9, 6, 414]), (47, .aload_n 0, 1, []), (48, .sipush 3000, 3, []), (51, .newarray .long, 2, [1, 442]), (53, .putfield 31, 3, [9, 7, 415]), (56, .aload_n 0, 1, []), (57, .aload_n 1, 1, []), (58, .putfield 35, 3, [9, 0, 408])]),
  (67, [(61, .aload_n 0, 1, []), (62, .aload_n 2, 1, []), (63, .putfield 39, 3, [9, 1, 409]), (66, .return_, 1, [])])], 3, 6, 3126, 220)
noncomputable def em_119 : es_M := (yX11_init, RX11, cX11_init, 2, none, [], [(20, [(0, .aload_n 0, 1, []), (1, .invokespecial 1, 3, [9, 140, 141, 142]), (4, .aload_n 0, 1, []), (5, .new 7, 3, [1, 10, 143, 144, 106]), (8, .dup, 1, []), (9, .invokespecial 9, 3, [7, 110, 0, 1, 0, 145, 106]), (12, .putfield 10, 3, [11, 0, 456]), (15, .aload_n 0, 1, []), (16, .new 16, 3, [1, 3, 168, 169, 107]), (19, .dup, 1, [])]),
  (42, [(20, .invokespecial 18, 3, [7, 115, 0, 1, 1, 170, 107]), (23, .putfield 19, 3, [11, 1, 457]), (26, .aload_n 0, 1, []), (27, .new 23, 3, [1, 1, 183, 184, 108]), (30, .dup, 1, []), (31, .aload_n 0, 1, []), (32, .getfield 10, 3, [11, 0, 456]), (35, .invokespecial 25, 3, [7, 111, 1, 0, 185, 186, 108]), (38, .putfield 28, 3, [11, 2, 458]), (41, .aload_n 0, 1, [])]),
  (64, [(42, .new 32, 3, [1, 5, 193, 194, 109]), (45, .dup, 1, []), (46, .aload_n 0, 1, []), (47, .getfield 10, 3, [11, 0, 456]), (50, .invokespecial 34, 3, [7, 116, 1, 0, 195, 196, 109]), (53, .putfield 35, 3, [11, 3, 459]), (56, .aload_n 0, 1, []), (57, .new 39, 3, [1, 0, 209, 210, 110]), (60, .dup, 1, []), (61, .invokespecial 41, 3, [7, 109, 0, 1, 2, 211, 110])]),
  (84, [(64, .putfield 42, 3, [11, 4, 460]), (67, .aload_n 0, 1, []), (68, .new 46, 3, [1, 2, 280, 281, 111]), (71, .dup, 1, []), (72, .invokespecial 48, 3, [7, 114, 0, 0, 282, 283, 111]), (75, .putfield 49, 3, [11, 5, 461]), (78, .aload_n 0, 1, []), (79, .new 53, 3, [1, 9, 401, 402, 114]), (82, .dup, 1, []), (83, .aload_n 0, 1, [])]),
  (106, [(84, .getfield 19, 3, [11, 1, 457]), (87, .aload_n 0, 1, []), (88, .getfield 42, 3, [11, 4, 460]), (91, .invokespecial 55, 3, [7, 118, 2, 0, 403, 404, 114]), (94, .putfield 58, 3, [11, 6, 462]), (97, .aload_n 0, 1, []), (98, .new 62, 3, [1, 8, 443, 444, 115]), (101, .dup, 1, []), (102, .aload_n 0, 1, []), (103, .getfield 49, 3, [11, 5, 461])]),
  (128, [(106, .invokespecial 64, 3, [7, 117, 1, 0, 445, 446, 115]), (109, .putfield 67, 3, [11, 7, 463]), (112, .aload_n 0, 1, []), (113, .new 39, 3, [1, 0, 209, 210, 110]), (116, .dup, 1, []), (117, .invokespecial 41, 3, [7, 109, 0, 1, 2, 211, 110]), (120, .putfield 71, 3, [11, 8, 464]), (123, .aload_n 0, 1, []), (124, .new 46, 3, [1, 2, 280, 281, 111]), (127, .dup, 1, [])]),
  (150, [(128, .invokespecial 48, 3, [7, 114, 0, 0, 282, 283, 111]), (131, .putfield 74, 3, [11, 9, 465]), (134, .aload_n 0, 1, []), (135, .new 39, 3, [1, 0, 209, 210, 110]), (138, .dup, 1, []), (139, .invokespecial 41, 3, [7, 109, 0, 1, 2, 211, 110]), (142, .putfield 77, 3, [11, 10, 466]), (145, .aload_n 0, 1, []), (146, .new 46, 3, [1, 2, 280, 281, 111]), (149, .dup, 1, [])]),
  (171, [(150, .invokespecial 48, 3, [7, 114, 0, 0, 282, 283, 111]), (153, .putfield 80, 3, [11, 11, 467]), (156, .aload_n 0, 1, []), (157, .bipush 12, 2, []), (159, .anewarray 46, 3, [0, 280]), (162, .putfield 83, 3, [11, 12, 468]), (165, .aload_n 0, 1, []), (166, .iconst (-1), 1, []), (167, .putfield 87, 3, [11, 16, 472]), (170, .iconst 0, 1, [])]),
  (190, [(171, .istore_n 1, 1, []), (172, .iload_n 1, 1, []), (173, .bipush 12, 2, []), (175, .if_icmp .ge 22, 3, []), (178, .aload_n 0, 1, []), (179, .getfield 83, 3, [11, 12, 468]), (182, .iload_n 1, 1, []), (183, .new 46, 3, [1, 2, 280, 281, 111]), (186, .dup, 1, []), (187, .invokespecial 48, 3, [7, 114, 0, 0, 282, 283, 111])]),
  (198, [(190, .aastore, 1, []), (191, .iinc 1 1, 3, []), (194, .goto (-22), 3, []), (197, .return_, 1, [])])], 4, 216, 9186, 242)
noncomputable def em_120 : es_M := (yX11_kept, RX11, cX11_kept, 2, (some .int), [], [(17, [(0, .aload_n 0, 1, []), (1, .getfield 49, 3, [11, 5, 461]), (4, .iload_n 1, 1, []), (5, .ifCond .eq 7, 3, []), (8, .iconst 1, 1, []), (9, .goto 4, 3, []), (12, .iconst 0, 1, []), (13, .invokevirtual 375, 3, [1, 20, 1, 2, 557, 558, 559, 111]), (16, .ireturn, 1, [])])], 3, 0, 0, 223)
noncomputable def em_121 : es_M := (yX11_mates, RX11, cX11_mates, 4, (some .int), [], [(73, [(0, .iconst 0, 1, []), (1, .istore_n 1, 1, []), (2, .iconst 0, 1, []), (3, .istore_n 2, 1, []), (4, .iload_n 2, 1, []), (5, .aload_n 0, 1, []), (6, .getfield 49, 3, [11, 5, 461]), (9, .getfield 372, 3, [2, 4, 362]), (12, .if_icmp .ge 60, 3, []), (72, .iload_n 1, 1, [])]),
  (74, [(73, .ireturn, 1, [])])], 2, 0, 0, 200)
noncomputable def em_122 : es_M := (yX2_partsOf, RX2, cX2_partsOf, 4, (some .int), [], [(37, [(0, .iconst 0, 1, []), (1, .istore_n 2, 1, []), (2, .iconst 0, 1, []), (3, .istore_n 3, 1, []), (4, .iload_n 3, 1, []), (5, .aload_n 0, 1, []), (6, .getfield 59, 3, [2, 5, 364]), (9, .if_icmp .ge 26, 3, []), (35, .iload_n 2, 1, []), (36, .ireturn, 1, [])])], 2, 0, 0, 200)
noncomputable def em_123 : es_M := (yX11_secret, RX11, cX11_secret, 4, (some .int), [], [(14, [(0, .iconst 1, 1, []), (1, .aload_n 0, 1, []), (2, .getfield 42, 3, [11, 4, 460]), (5, .getfield 297, 3, [0, 5, 233]), (8, .ishl, 1, []), (9, .iconst 1, 1, []), (10, .isub, 1, []), (11, .istore_n 1, 1, []), (12, .iconst (-1), 1, []), (13, .istore_n 2, 1, [])]),
  (30, [(14, .iconst 0, 1, []), (15, .istore_n 3, 1, []), (16, .iload_n 3, 1, []), (17, .iconst 1, 1, []), (18, .aload_n 0, 1, []), (19, .getfield 49, 3, [11, 5, 461]), (22, .getfield 356, 3, [2, 5, 366]), (25, .ishl, 1, []), (26, .if_icmp .ge 39, 3, []), (29, .aload_n 0, 1, [])]),
  (59, [(30, .getfield 49, 3, [11, 5, 461]), (33, .iload_n 3, 1, []), (34, .invokevirtual 369, 3, [1, 122, 1, 2, 535, 536, 537, 111]), (37, .iload_n 1, 1, []), (38, .if_icmp .ne 21, 3, []), (41, .iload_n 2, 1, []), (42, .iconst (-1), 1, []), (43, .if_icmp .eq 14, 3, []), (57, .iload_n 3, 1, []), (58, .istore_n 2, 1, [])]),
  (67, [(59, .iinc 3 1, 3, []), (62, .goto (-46), 3, []), (65, .iload_n 2, 1, []), (66, .ireturn, 1, [])])], 3, 0, 0, 223)
noncomputable def em_124 : es_M := (yX11_seed, RX11, cX11_seed, 3, (some .int), [], [(18, [(0, .aload_n 0, 1, []), (1, .getfield 49, 3, [11, 5, 461]), (4, .getfield 291, 3, [2, 9, 379]), (7, .istore_n 2, 1, []), (8, .aload_n 0, 1, []), (9, .getfield 49, 3, [11, 5, 461]), (12, .iload_n 1, 1, []), (13, .putfield 291, 3, [2, 9, 379]), (16, .iload_n 2, 1, []), (17, .ireturn, 1, [])])], 2, 0, 0, 200)
noncomputable def em_125 : es_M := (yX11_undo, RX11, cX11_undo, 1, (some .boolean), [], [(10, [(0, .aload_n 0, 1, []), (1, .getfield 127, 3, [11, 14, 470]), (4, .iconst 1, 1, []), (5, .if_icmp .ge 5, 3, []), (8, .iconst 0, 1, []), (9, .ireturn, 1, [])])], 2, 0, 0, 200)
noncomputable def em_126 : es_M := (yX12_isIn, RX12, cX12_isIn, 3, (some .boolean), [], [(16, [(0, .iload_n 0, 1, []), (1, .iload_n 1, 1, []), (2, .if_icmp .lt 12, 3, []), (5, .iload_n 0, 1, []), (6, .iload_n 2, 1, []), (7, .if_icmp .gt 7, 3, []), (10, .iconst 1, 1, []), (11, .goto 4, 3, []), (14, .iconst 0, 1, []), (15, .ireturn, 1, [])])], 2, 0, 0, 200)
noncomputable def em_127 : es_M := (yX12_isMan, RX12, cX12_isMan, 2, (some .boolean), [], [(14, [(0, .iload_n 1, 1, []), (1, .iconst 0, 1, []), (2, .aload_n 0, 1, []), (3, .getfield 7, 3, [12, 1, 1374]), (6, .iconst 4, 1, []), (7, .iaload, 1, []), (8, .iconst 1, 1, []), (9, .isub, 1, []), (10, .invokestatic 57, 3, [2, 126, 3, 1462, 1463, 116]), (13, .ireturn, 1, [])])], 3, 0, 0, 222)
noncomputable def em_128 : es_M := (yX12_ahead, RX12, cX12_ahead, 6, (some .int), [], [(49, [(0, .aload_n 0, 1, []), (1, .aload_n 0, 1, []), (2, .iload_n 1, 1, []), (3, .invokevirtual 289, 3, [1, 127, 1, 12, 1580, 1581, 72, 116]), (6, .ifCond .ne 7, 3, []), (9, .iconst 1, 1, []), (10, .goto 32, 3, []), (42, .putfield 54, 3, [12, 0, 1373]), (45, .aload_n 0, 1, []), (46, .getfield 54, 3, [12, 0, 1373])]),
  (54, [(49, .ifCond .le 5, 3, []), (52, .iconst 0, 1, []), (53, .ireturn, 1, [])])], 4, 0, 0, 243)
noncomputable def em_129 : es_M := (yX12_told, RX12, cX12_told, 6, (some .int), [], [(16, [(0, .aload_n 0, 1, []), (1, .getfield 65, 3, [12, 8, 1381]), (4, .istore_n 1, 1, []), (5, .aload_n 0, 1, []), (6, .iconst 0, 1, []), (7, .putfield 65, 3, [12, 8, 1381]), (10, .iload_n 1, 1, []), (11, .iconst 2, 1, []), (12, .irem, 1, []), (13, .ifCond .ne 13, 3, [])]),
  (32, [(16, .iload_n 1, 1, []), (17, .bipush 40, 2, []), (19, .if_icmp .gt 7, 3, []), (22, .iconst 1, 1, []), (23, .goto 4, 3, []), (27, .istore_n 2, 1, []), (28, .iconst 0, 1, []), (29, .istore_n 3, 1, []), (30, .iload_n 3, 1, []), (31, .iload_n 1, 1, [])]),
  (94, [(32, .if_icmp .ge 44, 3, []), (76, .iload_n 2, 1, []), (77, .ifCond .ne 5, 3, []), (82, .iconst 0, 1, []), (83, .istore_n 3, 1, []), (84, .iconst 1, 1, []), (85, .istore 4, 2, []), (87, .iload 4, 2, []), (89, .bipush 64, 2, []), (91, .if_icmp .ge 106, 3, [])]),
  (173, [(94, .aload_n 0, 1, []), (95, .getfield 47, 3, [12, 23, 1396]), (98, .iload 4, 2, []), (100, .iconst 1, 1, []), (101, .bastore, 1, []), (102, .iconst 0, 1, []), (103, .istore 5, 2, []), (105, .iload 5, 2, []), (107, .iload_n 1, 1, []), (108, .if_icmp .ge 65, 3, [])]),
  (191, [(173, .iload_n 3, 1, []), (174, .aload_n 0, 1, []), (175, .getfield 47, 3, [12, 23, 1396]), (178, .iload 4, 2, []), (180, .baload, 1, []), (181, .ifCond .eq 7, 3, []), (184, .iconst 1, 1, []), (185, .goto 4, 3, []), (189, .iadd, 1, []), (190, .istore_n 3, 1, [])]),
  (199, [(191, .iinc 4 1, 3, []), (194, .goto (-107), 3, []), (197, .iload_n 3, 1, []), (198, .ireturn, 1, [])])], 2, 0, 0, 200)
noncomputable def em_130 : es_M := (yX12_ask, RX12, cX12_ask, 7, (some .int), [], [(20, [(0, .aload_n 0, 1, []), (1, .invokevirtual 349, 3, [1, 129, 0, 12, 1752, 1753, 98, 116]), (4, .istore_n 1, 1, []), (5, .aload_n 0, 1, []), (6, .iload_n 1, 1, []), (7, .iconst (-1), 1, []), (8, .if_icmp .ne 7, 3, []), (15, .iconst 0, 1, []), (16, .putfield 54, 3, [12, 0, 1373]), (19, .aload_n 0, 1, [])]),
  (40, [(20, .getfield 54, 3, [12, 0, 1373]), (23, .ifCond .le 5, 3, []), (28, .iconst (-1), 1, []), (29, .istore_n 2, 1, []), (30, .ldc_w 352, 3, [1759, 2000000000]), (33, .istore_n 3, 1, []), (34, .iconst 0, 1, []), (35, .istore 4, 2, []), (37, .iload 4, 2, []), (39, .aload_n 0, 1, [])]),
  (140, [(40, .getfield 7, 3, [12, 1, 1374]), (43, .iconst 5, 1, []), (44, .iaload, 1, []), (45, .if_icmp .ge 93, 3, []), (138, .iload_n 2, 1, []), (139, .ireturn, 1, [])])], 3, 0, 0, 225)
noncomputable def em_131 : es_M := (yX12_back, RX12, cX12_back, 2, (some .boolean), [], [(14, [(0, .aload_n 0, 1, []), (1, .iconst 0, 1, []), (2, .putfield 54, 3, [12, 0, 1373]), (5, .aload_n 0, 1, []), (6, .getfield 373, 3, [12, 3, 1376]), (9, .ifCond .ne 5, 3, []), (12, .iconst 0, 1, []), (13, .ireturn, 1, [])])], 2, 0, 0, 200)
noncomputable def em_132 : es_M := (yX12_bids, RX12, cX12_bids, 5, (some .int), [], [(14, [(0, .aload_n 0, 1, []), (1, .iconst 0, 1, []), (2, .putfield 54, 3, [12, 0, 1373]), (5, .iconst (-1), 1, []), (6, .istore_n 2, 1, []), (7, .iconst 0, 1, []), (8, .istore_n 3, 1, []), (9, .iload_n 3, 1, []), (10, .aload_n 0, 1, []), (11, .getfield 7, 3, [12, 1, 1374])]),
  (57, [(14, .bipush 6, 2, []), (16, .iaload, 1, []), (17, .if_icmp .ge 31, 3, []), (48, .iload_n 1, 1, []), (49, .ifCond .ne 5, 3, []), (52, .iload_n 2, 1, []), (53, .ireturn, 1, []), (54, .iconst 0, 1, []), (55, .istore_n 3, 1, []), (56, .iconst 0, 1, [])]),
  (97, [(57, .istore 4, 2, []), (59, .iload 4, 2, []), (61, .aload_n 0, 1, []), (62, .getfield 7, 3, [12, 1, 1374]), (65, .bipush 6, 2, []), (67, .iaload, 1, []), (68, .if_icmp .ge 27, 3, []), (95, .iload_n 3, 1, []), (96, .ireturn, 1, [])])], 2, 0, 0, 200)
noncomputable def em_133 : es_M := (yX12_begins, RX12, cX12_begins, 1, none, [], [(18, [(0, .aload_n 0, 1, []), (1, .iconst (-1), 1, []), (2, .putfield 25, 3, [12, 12, 1385]), (5, .aload_n 0, 1, []), (6, .iconst (-1), 1, []), (7, .putfield 68, 3, [12, 9, 1382]), (10, .aload_n 0, 1, []), (11, .aload_n 0, 1, []), (12, .getfield 65, 3, [12, 8, 1381]), (15, .putfield 74, 3, [12, 10, 1383])]),
  (34, [(18, .aload_n 0, 1, []), (19, .iconst 0, 1, []), (20, .putfield 65, 3, [12, 8, 1381]), (23, .aload_n 0, 1, []), (24, .iconst 0, 1, []), (25, .putfield 71, 3, [12, 11, 1384]), (28, .aload_n 0, 1, []), (29, .iconst 0, 1, []), (30, .putfield 170, 3, [12, 13, 1386]), (33, .return_, 1, [])])], 2, 0, 0, 200)
noncomputable def em_134 : es_M := (yX12_putsAside, RX12, cX12_putsAside, 2, none, [], [(18, [(0, .iconst 0, 1, []), (1, .istore_n 1, 1, []), (2, .iload_n 1, 1, []), (3, .sipush 340, 3, []), (6, .if_icmp .ge 21, 3, []), (9, .aload_n 0, 1, []), (10, .getfield 16, 3, [12, 4, 1377]), (13, .iload_n 1, 1, []), (14, .aload_n 0, 1, []), (15, .getfield 7, 3, [12, 1, 1374])]),
  (28, [(18, .iload_n 1, 1, []), (19, .iaload, 1, []), (20, .iastore, 1, []), (21, .iinc 1 1, 3, []), (24, .goto (-22), 3, []), (27, .return_, 1, [])])], 2, 0, 0, 200)
noncomputable def em_135 : es_M := (yX12_skip, RX12, cX12_skip, 1, none, [], [(38, [(0, .aload_n 0, 1, []), (1, .getfield 71, 3, [12, 11, 1384]), (4, .aload_n 0, 1, []), (5, .getfield 74, 3, [12, 10, 1383]), (8, .if_icmp .ge 29, 3, []), (37, .return_, 1, [])])], 2, 0, 0, 200)
noncomputable def em_136 : es_M := (yX12_read, RX12, cX12_read, 4, (some .int), [], [(22, [(0, .aload_n 0, 1, []), (1, .invokevirtual 81, 3, [1, 135, 0, 12, 1478, 1479, 45, 116]), (4, .aload_n 0, 1, []), (5, .getfield 71, 3, [12, 11, 1384]), (8, .aload_n 0, 1, []), (9, .getfield 74, 3, [12, 10, 1383]), (12, .if_icmp .ge 7, 3, []), (19, .iconst 0, 1, []), (20, .istore_n 2, 1, []), (21, .iconst 0, 1, [])]),
  (146, [(22, .istore_n 3, 1, []), (23, .iload_n 2, 1, []), (24, .ifCond .eq 120, 3, []), (144, .iload_n 3, 1, []), (145, .ireturn, 1, [])])], 3, 0, 0, 220)
noncomputable def em_137 : es_M := (yX12_book, RX12, cX12_book, 2, (some .int), [], [(16, [(0, .aload_n 0, 1, []), (1, .invokevirtual 183, 3, [1, 134, 0, 12, 1469, 1470, 42, 116]), (4, .aload_n 0, 1, []), (5, .invokevirtual 186, 3, [1, 133, 0, 12, 1472, 1473, 43, 116]), (8, .aload_n 0, 1, []), (9, .iconst 0, 1, []), (10, .invokevirtual 189, 3, [1, 136, 1, 12, 1475, 1476, 44, 116]), (13, .istore_n 1, 1, []), (14, .aload_n 0, 1, []), (15, .aload_n 0, 1, [])]),
  (43, [(16, .getfield 25, 3, [12, 12, 1385]), (19, .iconst (-1), 1, []), (20, .if_icmp .eq 7, 3, []), (27, .aload_n 0, 1, []), (28, .getfield 7, 3, [12, 1, 1374]), (31, .iconst 0, 1, []), (32, .iaload, 1, []), (33, .bipush 12, 2, []), (35, .if_icmp .ne 7, 3, []), (42, .iconst 0, 1, [])]),
  (67, [(43, .putfield 54, 3, [12, 0, 1373]), (46, .aload_n 0, 1, []), (47, .getfield 54, 3, [12, 0, 1373]), (50, .ifCond .le 9, 3, []), (59, .aload_n 0, 1, []), (60, .getfield 7, 3, [12, 1, 1374]), (63, .iconst 0, 1, []), (64, .dup2, 1, []), (65, .iaload, 1, []), (66, .iconst 1, 1, [])]),
  (81, [(67, .iadd, 1, []), (68, .iastore, 1, []), (69, .aload_n 0, 1, []), (70, .iconst 0, 1, []), (71, .putfield 196, 3, [12, 6, 1379]), (74, .aload_n 0, 1, []), (75, .getfield 7, 3, [12, 1, 1374]), (78, .iconst 0, 1, []), (79, .iaload, 1, []), (80, .ireturn, 1, [])])], 4, 0, 0, 243)
noncomputable def em_138 : es_M := (yX12_cheapest, RX12, cX12_cheapest, 4, (some .int), [], [(21, [(0, .aload_n 0, 1, []), (1, .aload_n 0, 1, []), (2, .iload_n 1, 1, []), (3, .invokevirtual 289, 3, [1, 127, 1, 12, 1580, 1581, 72, 116]), (6, .ifCond .ne 7, 3, []), (9, .iconst 1, 1, []), (10, .goto 4, 3, []), (14, .putfield 54, 3, [12, 0, 1373]), (17, .aload_n 0, 1, []), (18, .getfield 54, 3, [12, 0, 1373])]),
  (26, [(21, .ifCond .le 5, 3, []), (24, .iconst 0, 1, []), (25, .ireturn, 1, [])])], 4, 0, 0, 243)
noncomputable def em_139 : es_M := (yX12_comesBack, RX12, cX12_comesBack, 2, none, [], [(18, [(0, .iconst 0, 1, []), (1, .istore_n 1, 1, []), (2, .iload_n 1, 1, []), (3, .sipush 340, 3, []), (6, .if_icmp .ge 21, 3, []), (9, .aload_n 0, 1, []), (10, .getfield 7, 3, [12, 1, 1374]), (13, .iload_n 1, 1, []), (14, .aload_n 0, 1, []), (15, .getfield 16, 3, [12, 4, 1377])]),
  (28, [(18, .iload_n 1, 1, []), (19, .iaload, 1, []), (20, .iastore, 1, []), (21, .iinc 1 1, 3, []), (24, .goto (-22), 3, []), (27, .return_, 1, [])])], 2, 0, 0, 200)
noncomputable def em_140 : es_M := (yX12_draw, RX12, cX12_draw, 2, (some .int), [], [(19, [(0, .aload_n 0, 1, []), (1, .getfield 7, 3, [12, 1, 1374]), (4, .bipush 14, 2, []), (6, .ldc 255, 2, [1676, 1103515245]), (8, .aload_n 0, 1, []), (9, .getfield 7, 3, [12, 1, 1374]), (12, .bipush 14, 2, []), (14, .iaload, 1, []), (15, .imul, 1, []), (16, .sipush 12345, 3, [])]),
  (35, [(19, .iadd, 1, []), (20, .iastore, 1, []), (21, .aload_n 0, 1, []), (22, .getfield 7, 3, [12, 1, 1374]), (25, .bipush 14, 2, []), (27, .iaload, 1, []), (28, .bipush 16, 2, []), (30, .iushr, 1, []), (31, .sipush 32767, 3, []), (34, .iand, 1, [])]),
  (38, [(35, .iload_n 1, 1, []), (36, .irem, 1, []), (37, .ireturn, 1, [])])], 2, 0, 0, 200)
noncomputable def em_141 : es_M := (yX12_lesser, RX12, cX12_lesser, 2, (some .int), [], [(11, [(0, .iload_n 0, 1, []), (1, .iload_n 1, 1, []), (2, .if_icmp .ge 7, 3, []), (5, .iload_n 0, 1, []), (6, .goto 4, 3, []), (9, .iload_n 1, 1, []), (10, .ireturn, 1, [])])], 2, 0, 0, 200)
noncomputable def em_142 : es_M := (yX12_goes, RX12, cX12_goes, 7, (some .int), [], [(15, [(0, .iconst 0, 1, []), (1, .istore_n 3, 1, []), (2, .iconst 0, 1, []), (3, .istore 4, 2, []), (5, .iload 4, 2, [300, 4, 1, 7, 8, 186, 192, 218, 7, 218, 14]), (7, .iload_n 1, 1, []), (8, .if_icmp .ge 184, 3, []), (11, .iconst 0, 1, []), (12, .istore 5, 2, []), (14, .iconst 0, 1, [])]),
  (121, [(15, .istore 6, 2, []), (17, .iload 6, 2, []), (19, .aload_n 0, 1, []), (20, .getfield 7, 3, [12, 1, 1374]), (23, .iconst 4, 1, []), (24, .iaload, 1, []), (25, .if_icmp .ge 91, 3, []), (116, .iload_n 2, 1, []), (117, .ifCond .eq 47, 3, []), (120, .aload_n 0, 1, [])]),
  (165, [(121, .bipush 100, 2, []), (123, .invokevirtual 277, 3, [1, 140, 1, 12, 1673, 1674, 89, 116]), (126, .aload_n 0, 1, []), (127, .getfield 7, 3, [12, 1, 1374]), (130, .bipush 11, 2, []), (132, .iaload, 1, []), (133, .if_icmp .ge 31, 3, []), (136, .iload 5, 2, []), (138, .ifCond .le 26, 3, []), (164, .aload_n 0, 1, [])]),
  (185, [(165, .getfield 7, 3, [12, 1, 1374]), (168, .bipush 7, 2, []), (170, .sipush 9999, 3, []), (173, .aload_n 0, 1, []), (174, .getfield 7, 3, [12, 1, 1374]), (177, .bipush 7, 2, []), (179, .iaload, 1, []), (180, .iconst 1, 1, []), (181, .iadd, 1, []), (182, .invokestatic 256, 3, [2, 141, 2, 1628, 1629, 116])]),
  (194, [(185, .iastore, 1, []), (186, .iinc 4 1, 3, [200]), (189, .goto (-184), 3, []), (192, .iload_n 3, 1, []), (193, .ireturn, 1, [])])], 3, 0, 0, 221)
noncomputable def em_143 : es_M := (yX12_chest, RX12, cX12_chest, 4, (some .int), [], [(20, [(0, .aload_n 0, 1, []), (1, .iload_n 1, 1, []), (2, .iconst 0, 1, []), (3, .sipush 200, 3, []), (6, .invokestatic 57, 3, [2, 126, 3, 1462, 1463, 116]), (9, .ifCond .ne 7, 3, []), (12, .iconst 1, 1, []), (13, .goto 4, 3, []), (16, .iconst 0, 1, []), (17, .putfield 54, 3, [12, 0, 1373])]),
  (36, [(20, .aload_n 0, 1, []), (21, .getfield 54, 3, [12, 0, 1373]), (24, .ifCond .le 5, 3, []), (27, .iconst 0, 1, []), (28, .ireturn, 1, []), (29, .aload_n 0, 1, []), (30, .invokevirtual 183, 3, [1, 134, 0, 12, 1469, 1470, 42, 116]), (33, .aload_n 0, 1, []), (34, .iload_n 1, 1, []), (35, .iconst 0, 1, [])]),
  (53, [(36, .invokevirtual 316, 3, [1, 142, 2, 12, 1664, 1665, 87, 116]), (39, .istore_n 2, 1, []), (40, .aload_n 0, 1, []), (41, .getfield 7, 3, [12, 1, 1374]), (44, .bipush 8, 2, []), (46, .iaload, 1, []), (47, .istore_n 3, 1, []), (48, .aload_n 0, 1, []), (49, .invokevirtual 193, 3, [1, 139, 0, 12, 1552, 1553, 68, 116]), (52, .iload_n 3, 1, [])]),
  (54, [(53, .ireturn, 1, [])])], 4, 0, 0, 247)
noncomputable def em_144 : es_M := (yX12_count, RX12, cX12_count, 4, (some .int), [], [(18, [(0, .aload_n 0, 1, []), (1, .iconst 0, 1, []), (2, .putfield 54, 3, [12, 0, 1373]), (5, .iload_n 1, 1, []), (6, .iconst 0, 1, []), (7, .iconst 3, 1, []), (8, .invokestatic 57, 3, [2, 126, 3, 1462, 1463, 116]), (11, .ifCond .eq 12, 3, []), (14, .aload_n 0, 1, []), (15, .getfield 7, 3, [12, 1, 1374])]),
  (32, [(18, .iconst 3, 1, []), (19, .iload_n 1, 1, []), (20, .iadd, 1, []), (21, .iaload, 1, []), (22, .ireturn, 1, []), (23, .iload_n 1, 1, []), (24, .iconst 4, 1, []), (25, .if_icmp .ne 10, 3, []), (28, .aload_n 0, 1, []), (29, .getfield 7, 3, [12, 1, 1374])]),
  (46, [(32, .iconst 0, 1, []), (33, .iaload, 1, []), (34, .ireturn, 1, []), (35, .iload_n 1, 1, []), (36, .iconst 5, 1, []), (37, .if_icmp .ne 10, 3, []), (40, .aload_n 0, 1, []), (41, .getfield 7, 3, [12, 1, 1374]), (44, .iconst 1, 1, []), (45, .iaload, 1, [])]),
  (62, [(46, .ireturn, 1, []), (47, .iload_n 1, 1, []), (48, .bipush 6, 2, []), (50, .if_icmp .ne 11, 3, []), (53, .aload_n 0, 1, []), (54, .getfield 7, 3, [12, 1, 1374]), (57, .bipush 7, 2, []), (59, .iaload, 1, []), (60, .ireturn, 1, []), (61, .iload_n 1, 1, [])]),
  (82, [(62, .bipush 7, 2, []), (64, .bipush 11, 2, []), (66, .invokestatic 57, 3, [2, 126, 3, 1462, 1463, 116]), (69, .ifCond .eq 16, 3, []), (72, .aload_n 0, 1, []), (73, .getfield 7, 3, [12, 1, 1374]), (76, .bipush 8, 2, []), (78, .iload_n 1, 1, []), (79, .iadd, 1, []), (80, .bipush 7, 2, [])]),
  (95, [(82, .isub, 1, []), (83, .iaload, 1, []), (84, .ireturn, 1, []), (85, .iload_n 1, 1, []), (86, .bipush 12, 2, []), (88, .if_icmp .ne 46, 3, []), (91, .iconst 0, 1, []), (92, .istore_n 2, 1, []), (93, .iconst 0, 1, []), (94, .istore_n 3, 1, [])]),
  (137, [(95, .iload_n 3, 1, []), (96, .aload_n 0, 1, []), (97, .getfield 7, 3, [12, 1, 1374]), (100, .iconst 4, 1, []), (101, .iaload, 1, []), (102, .if_icmp .ge 30, 3, []), (132, .iload_n 2, 1, []), (133, .ireturn, 1, []), (134, .iload_n 1, 1, []), (135, .bipush 13, 2, [])]),
  (155, [(137, .if_icmp .ne 11, 3, []), (140, .aload_n 0, 1, []), (141, .getfield 7, 3, [12, 1, 1374]), (144, .bipush 13, 2, []), (146, .iaload, 1, []), (147, .ireturn, 1, []), (148, .iload_n 1, 1, []), (149, .bipush 14, 2, []), (151, .if_icmp .ne 10, 3, []), (154, .aload_n 0, 1, [])]),
  (163, [(155, .getfield 196, 3, [12, 6, 1379]), (158, .goto 4, 3, []), (161, .iconst (-1), 1, []), (162, .ireturn, 1, [])])], 3, 0, 0, 222)
noncomputable def em_145 : es_M := (yX12_remembers, RX12, cX12_remembers, 2, none, [], [(60, [(0, .aload_n 0, 1, []), (1, .getfield 196, 3, [12, 6, 1379]), (4, .bipush 12, 2, []), (6, .if_icmp .ne 44, 3, []), (50, .iconst 0, 1, []), (51, .istore_n 1, 1, []), (52, .iload_n 1, 1, []), (53, .sipush 340, 3, []), (56, .if_icmp .ge 30, 3, []), (59, .aload_n 0, 1, [])]),
  (78, [(60, .getfield 19, 3, [12, 5, 1378]), (63, .sipush 340, 3, []), (66, .aload_n 0, 1, []), (67, .getfield 196, 3, [12, 6, 1379]), (70, .imul, 1, []), (71, .iload_n 1, 1, []), (72, .iadd, 1, []), (73, .aload_n 0, 1, []), (74, .getfield 7, 3, [12, 1, 1374]), (77, .iload_n 1, 1, [])]),
  (96, [(78, .iaload, 1, []), (79, .iastore, 1, []), (80, .iinc 1 1, 3, []), (83, .goto (-31), 3, []), (86, .aload_n 0, 1, []), (87, .dup, 1, []), (88, .getfield 196, 3, [12, 6, 1379]), (91, .iconst 1, 1, []), (92, .iadd, 1, []), (93, .putfield 196, 3, [12, 6, 1379])]),
  (97, [(96, .return_, 1, [])])], 2, 0, 0, 200)
noncomputable def em_146 : es_M := (yX12_days, RX12, cX12_days, 2, (some .int), [], [(20, [(0, .aload_n 0, 1, []), (1, .iload_n 1, 1, []), (2, .iconst 1, 1, []), (3, .sipush 200, 3, []), (6, .invokestatic 57, 3, [2, 126, 3, 1462, 1463, 116]), (9, .ifCond .ne 7, 3, []), (12, .iconst 1, 1, []), (13, .goto 4, 3, []), (16, .iconst 0, 1, []), (17, .putfield 54, 3, [12, 0, 1373])]),
  (36, [(20, .aload_n 0, 1, []), (21, .getfield 54, 3, [12, 0, 1373]), (24, .ifCond .le 5, 3, []), (27, .iconst 0, 1, []), (28, .ireturn, 1, []), (29, .aload_n 0, 1, []), (30, .invokevirtual 307, 3, [1, 145, 0, 12, 1625, 1626, 83, 116]), (33, .aload_n 0, 1, []), (34, .iload_n 1, 1, []), (35, .iconst 1, 1, [])]),
  (40, [(36, .invokevirtual 316, 3, [1, 142, 2, 12, 1664, 1665, 87, 116]), (39, .ireturn, 1, [])])], 4, 0, 0, 247)
noncomputable def em_147 : es_M := (yX12_dearest, RX12, cX12_dearest, 3, (some .int), [], [(14, [(0, .aload_n 0, 1, []), (1, .iconst 0, 1, []), (2, .putfield 54, 3, [12, 0, 1373]), (5, .iconst (-1), 1, []), (6, .istore_n 1, 1, []), (7, .iconst 0, 1, []), (8, .istore_n 2, 1, []), (9, .iload_n 2, 1, []), (10, .aload_n 0, 1, []), (11, .getfield 7, 3, [12, 1, 1374])]),
  (49, [(14, .iconst 3, 1, []), (15, .iaload, 1, []), (16, .if_icmp .ge 31, 3, []), (47, .iload_n 1, 1, []), (48, .ireturn, 1, [])])], 2, 0, 0, 200)
noncomputable def em_148 : es_M := (yX12_done, RX12, cX12_done, 2, (some .int), [], [(21, [(0, .aload_n 0, 1, []), (1, .aload_n 0, 1, []), (2, .iload_n 1, 1, []), (3, .invokevirtual 289, 3, [1, 127, 1, 12, 1580, 1581, 72, 116]), (6, .ifCond .ne 7, 3, []), (9, .iconst 1, 1, []), (10, .goto 4, 3, []), (14, .putfield 54, 3, [12, 0, 1373]), (17, .aload_n 0, 1, []), (18, .getfield 54, 3, [12, 0, 1373])]),
  (35, [(21, .ifCond .le 7, 3, []), (24, .iconst 0, 1, []), (25, .goto 9, 3, []), (34, .ireturn, 1, [])])], 4, 0, 0, 243)
noncomputable def em_149 : es_M := (yX12_end, RX12, cX12_end, 2, (some .boolean), [], [(18, [(0, .aload_n 0, 1, []), (1, .iconst 0, 1, []), (2, .putfield 54, 3, [12, 0, 1373]), (5, .iload_n 1, 1, []), (6, .iconst 0, 1, []), (7, .aload_n 0, 1, []), (8, .getfield 65, 3, [12, 8, 1381]), (11, .invokestatic 57, 3, [2, 126, 3, 1462, 1463, 116]), (14, .ifCond .ne 5, 3, []), (17, .iconst 0, 1, [])]),
  (26, [(18, .ireturn, 1, []), (19, .aload_n 0, 1, []), (20, .iload_n 1, 1, []), (21, .putfield 65, 3, [12, 8, 1381]), (24, .iconst 1, 1, []), (25, .ireturn, 1, [])])], 3, 0, 0, 222)
noncomputable def em_150 : es_M := (yX12_fault, RX12, cX12_fault, 1, (some .int), [], [(10, [(0, .aload_n 0, 1, []), (1, .iconst 0, 1, []), (2, .putfield 54, 3, [12, 0, 1373]), (5, .aload_n 0, 1, []), (6, .getfield 25, 3, [12, 12, 1385]), (9, .ireturn, 1, [])])], 2, 0, 0, 200)
noncomputable def em_151 : es_M := (yX12_feed, RX12, cX12_feed, 8, (some .int), [], [(21, [(0, .aload_n 0, 1, []), (1, .iconst 0, 1, []), (2, .putfield 54, 3, [12, 0, 1373]), (5, .aload_n 0, 1, []), (6, .getfield 65, 3, [12, 8, 1381]), (9, .bipush 20, 2, []), (11, .iadd, 1, []), (12, .sipush 400, 3, []), (15, .if_icmp .le 5, 3, []), (20, .iconst 0, 1, [])]),
  (42, [(21, .istore 6, 2, []), (23, .iload 6, 2, []), (25, .bipush 20, 2, []), (27, .if_icmp .ge 93, 3, []), (30, .iload 6, 2, []), (32, .iconst 4, 1, []), (33, .if_icmp .ge 7, 3, []), (36, .iload_n 1, 1, []), (37, .goto 39, 3, []), (40, .iload 6, 2, [])]),
  (64, [(42, .bipush 8, 2, []), (44, .if_icmp .ge 7, 3, []), (47, .iload_n 2, 1, []), (48, .goto 28, 3, []), (51, .iload 6, 2, []), (53, .bipush 12, 2, []), (55, .if_icmp .ge 7, 3, []), (58, .iload_n 3, 1, []), (59, .goto 17, 3, []), (62, .iload 6, 2, [])]),
  (86, [(64, .bipush 16, 2, []), (66, .if_icmp .ge 8, 3, []), (69, .iload 4, 2, []), (71, .goto 5, 3, []), (74, .iload 5, 2, []), (76, .istore 7, 2, []), (78, .aload_n 0, 1, []), (79, .getfield 22, 3, [12, 7, 1380]), (82, .aload_n 0, 1, []), (83, .getfield 65, 3, [12, 8, 1381])]),
  (102, [(86, .iload 7, 2, []), (88, .bipush 24, 2, []), (90, .bipush 8, 2, []), (92, .iload 6, 2, []), (94, .iconst 4, 1, []), (95, .irem, 1, []), (96, .imul, 1, []), (97, .isub, 1, []), (98, .iushr, 1, []), (99, .sipush 255, 3, [])]),
  (120, [(102, .iand, 1, []), (103, .iastore, 1, []), (104, .aload_n 0, 1, []), (105, .dup, 1, []), (106, .getfield 65, 3, [12, 8, 1381]), (109, .iconst 1, 1, []), (110, .iadd, 1, []), (111, .putfield 65, 3, [12, 8, 1381]), (114, .iinc 6 1, 3, []), (117, .goto (-94), 3, [])]),
  (125, [(120, .aload_n 0, 1, []), (121, .getfield 65, 3, [12, 8, 1381]), (124, .ireturn, 1, [])])], 2, 0, 0, 200)
noncomputable def em_152 : es_M := (yX12_fewest, RX12, cX12_fewest, 2, (some .int), [], [(21, [(0, .aload_n 0, 1, []), (1, .aload_n 0, 1, []), (2, .iload_n 1, 1, []), (3, .invokevirtual 289, 3, [1, 127, 1, 12, 1580, 1581, 72, 116]), (6, .ifCond .ne 7, 3, []), (9, .iconst 1, 1, []), (10, .goto 4, 3, []), (14, .putfield 54, 3, [12, 0, 1373]), (17, .aload_n 0, 1, []), (18, .getfield 54, 3, [12, 0, 1373])]),
  (35, [(21, .ifCond .le 7, 3, []), (24, .iconst 0, 1, []), (25, .goto 9, 3, []), (34, .ireturn, 1, [])])], 4, 0, 0, 243)
noncomputable def em_153 : es_M := (yX12_flee, RX12, cX12_flee, 2, (some .int), [], [(42, [(0, .aload_n 0, 1, []), (1, .aload_n 0, 1, []), (2, .iload_n 1, 1, []), (3, .invokevirtual 289, 3, [1, 127, 1, 12, 1580, 1581, 72, 116]), (6, .ifCond .ne 7, 3, []), (9, .iconst 1, 1, []), (10, .goto 25, 3, []), (35, .putfield 54, 3, [12, 0, 1373]), (38, .aload_n 0, 1, []), (39, .getfield 54, 3, [12, 0, 1373])]),
  (47, [(42, .ifCond .le 5, 3, []), (45, .iconst 0, 1, []), (46, .ireturn, 1, [])])], 4, 0, 0, 243)
noncomputable def em_154 : es_M := (yX12_image, RX12, cX12_image, 2, none, [], [(18, [(0, .aload_n 0, 1, []), (1, .iconst 0, 1, []), (2, .putfield 54, 3, [12, 0, 1373]), (5, .iconst 0, 1, []), (6, .istore_n 1, 1, []), (7, .iload_n 1, 1, []), (8, .sipush 740, 3, []), (11, .if_icmp .ge 21, 3, []), (14, .aload_n 0, 1, []), (15, .getfield 13, 3, [12, 2, 1375])]),
  (34, [(18, .iload_n 1, 1, []), (19, .aload_n 0, 1, []), (20, .getfield 7, 3, [12, 1, 1374]), (23, .iload_n 1, 1, []), (24, .iaload, 1, []), (25, .iastore, 1, []), (26, .iinc 1 1, 3, []), (29, .goto (-22), 3, []), (32, .aload_n 0, 1, []), (33, .iconst 1, 1, [])]),
  (38, [(34, .putfield 373, 3, [12, 3, 1376]), (37, .return_, 1, [])])], 2, 0, 0, 200)
noncomputable def em_155 : es_M := (yX12_init, RX12, cX12_init, 1, none, [], [(22, [(0, .aload_n 0, 1, []), (1, .invokespecial 1, 3, [9, 1372, 141, 142]), (4, .aload_n 0, 1, []), (5, .sipush 740, 3, []), (8, .newarray .int, 2, [0, 167]), (10, .putfield 7, 3, [12, 1, 1374]), (13, .aload_n 0, 1, []), (14, .sipush 740, 3, []), (17, .newarray .int, 2, [0, 167]), (19, .putfield 13, 3, [12, 2, 1375])]),
  (44, [(22, .aload_n 0, 1, []), (23, .sipush 340, 3, []), (26, .newarray .int, 2, [0, 167]), (28, .putfield 16, 3, [12, 4, 1377]), (31, .aload_n 0, 1, []), (32, .sipush 4080, 3, []), (35, .newarray .int, 2, [0, 167]), (37, .putfield 19, 3, [12, 5, 1378]), (40, .aload_n 0, 1, []), (41, .sipush 400, 3, [])]),
  (63, [(44, .newarray .int, 2, [0, 167]), (46, .putfield 22, 3, [12, 7, 1380]), (49, .aload_n 0, 1, []), (50, .iconst (-1), 1, []), (51, .putfield 25, 3, [12, 12, 1385]), (54, .aload_n 0, 1, []), (55, .bipush 7, 2, []), (57, .newarray .int, 2, [0, 167]), (59, .putfield 29, 3, [12, 14, 1387]), (62, .aload_n 0, 1, [])]),
  (83, [(63, .bipush 30, 2, []), (65, .newarray .int, 2, [0, 167]), (67, .putfield 32, 3, [12, 18, 1391]), (70, .aload_n 0, 1, []), (71, .bipush 30, 2, []), (73, .newarray .int, 2, [0, 167]), (75, .putfield 35, 3, [12, 19, 1392]), (78, .aload_n 0, 1, []), (79, .bipush 30, 2, []), (81, .newarray .int, 2, [0, 167])]),
  (104, [(83, .putfield 38, 3, [12, 20, 1393]), (86, .aload_n 0, 1, []), (87, .bipush 30, 2, []), (89, .newarray .int, 2, [0, 167]), (91, .putfield 41, 3, [12, 21, 1394]), (94, .aload_n 0, 1, []), (95, .sipush 31000, 3, []), (98, .newarray .int, 2, [0, 167]), (100, .putfield 44, 3, [12, 22, 1395]), (103, .aload_n 0, 1, [])]),
  (125, [(104, .bipush 64, 2, []), (106, .newarray .boolean, 2, [2, 1449]), (108, .putfield 47, 3, [12, 23, 1396]), (111, .aload_n 0, 1, []), (112, .sipush 448, 3, []), (115, .newarray .int, 2, [0, 167]), (117, .putfield 51, 3, [12, 24, 1397]), (120, .aload_n 0, 1, []), (121, .getfield 7, 3, [12, 1, 1374]), (124, .iconst 1, 1, [])]),
  (143, [(125, .iconst (-1), 1, []), (126, .iastore, 1, []), (127, .aload_n 0, 1, []), (128, .getfield 7, 3, [12, 1, 1374]), (131, .bipush 8, 2, []), (133, .sipush 500, 3, []), (136, .iastore, 1, []), (137, .aload_n 0, 1, []), (138, .getfield 7, 3, [12, 1, 1374]), (141, .bipush 10, 2, [])]),
  (161, [(143, .bipush 10, 2, []), (145, .iastore, 1, []), (146, .aload_n 0, 1, []), (147, .getfield 7, 3, [12, 1, 1374]), (150, .bipush 12, 2, []), (152, .bipush 10, 2, []), (154, .iastore, 1, []), (155, .aload_n 0, 1, []), (156, .getfield 7, 3, [12, 1, 1374]), (159, .bipush 14, 2, [])]),
  (164, [(161, .iconst 1, 1, []), (162, .iastore, 1, []), (163, .return_, 1, [])])], 2, 13, 37939, 200)
noncomputable def em_156 : es_M := (yX12_keptOnes, RX12, cX12_keptOnes, 4, (some .int), [], [(40, [(0, .iconst 0, 1, []), (1, .istore_n 2, 1, []), (2, .iconst 0, 1, []), (3, .istore_n 3, 1, []), (4, .iload_n 3, 1, []), (5, .aload_n 0, 1, []), (6, .getfield 7, 3, [12, 1, 1374]), (9, .iconst 4, 1, []), (10, .iaload, 1, []), (11, .if_icmp .ge 29, 3, [])]),
  (42, [(40, .iload_n 2, 1, []), (41, .ireturn, 1, [])])], 2, 0, 0, 200)
noncomputable def em_157 : es_M := (yX12_kept, RX12, cX12_kept, 2, (some .int), [], [(18, [(0, .aload_n 0, 1, []), (1, .iconst 0, 1, []), (2, .putfield 54, 3, [12, 0, 1373]), (5, .aload_n 0, 1, []), (6, .iload_n 1, 1, []), (7, .ifCond .eq 7, 3, []), (10, .iconst 1, 1, []), (11, .goto 4, 3, []), (14, .iconst 0, 1, []), (15, .invokevirtual 367, 3, [1, 156, 1, 12, 1787, 1788, 102, 116])]),
  (19, [(18, .ireturn, 1, [])])], 3, 0, 0, 223)
noncomputable def em_158 : es_M := (yX12_knows, RX12, cX12_knows, 4, (some .int), [], [(18, [(0, .aload_n 0, 1, []), (1, .iload_n 1, 1, []), (2, .iconst 0, 1, []), (3, .iconst 5, 1, []), (4, .invokestatic 57, 3, [2, 126, 3, 1462, 1463, 116]), (7, .ifCond .ne 7, 3, []), (10, .iconst 1, 1, []), (11, .goto 4, 3, []), (14, .iconst 0, 1, []), (15, .putfield 54, 3, [12, 0, 1373])]),
  (68, [(18, .iconst 0, 1, []), (19, .istore_n 2, 1, []), (20, .iconst 0, 1, []), (21, .istore_n 3, 1, []), (22, .iload_n 3, 1, []), (23, .aload_n 0, 1, []), (24, .getfield 7, 3, [12, 1, 1374]), (27, .iconst 4, 1, []), (28, .iaload, 1, []), (29, .if_icmp .ge 39, 3, [])]),
  (70, [(68, .iload_n 2, 1, []), (69, .ireturn, 1, [])])], 3, 0, 0, 222)
noncomputable def em_159 : es_M := (yX12_law, RX12, cX12_law, 3, (some .int), [], [(16, [(0, .aload_n 0, 1, []), (1, .invokevirtual 186, 3, [1, 133, 0, 12, 1472, 1473, 43, 116]), (4, .aload_n 0, 1, []), (5, .iconst 1, 1, []), (6, .invokevirtual 189, 3, [1, 136, 1, 12, 1475, 1476, 44, 116]), (9, .istore_n 1, 1, []), (10, .aload_n 0, 1, []), (11, .aload_n 0, 1, []), (12, .getfield 25, 3, [12, 12, 1385]), (15, .iconst (-1), 1, [])]),
  (42, [(16, .if_icmp .eq 7, 3, []), (23, .iconst 0, 1, []), (24, .putfield 54, 3, [12, 0, 1373]), (27, .aload_n 0, 1, []), (28, .getfield 54, 3, [12, 0, 1373]), (31, .ifCond .le 5, 3, []), (36, .aload_n 0, 1, []), (37, .getfield 7, 3, [12, 1, 1374]), (40, .iconst 1, 1, []), (41, .iload_n 1, 1, [])]),
  (56, [(42, .iastore, 1, []), (43, .aload_n 0, 1, []), (44, .getfield 7, 3, [12, 1, 1374]), (47, .iconst 2, 1, []), (48, .aload_n 0, 1, []), (49, .getfield 74, 3, [12, 10, 1383]), (52, .iastore, 1, []), (53, .iconst 0, 1, []), (54, .istore_n 2, 1, []), (55, .iload_n 2, 1, [])]),
  (92, [(56, .aload_n 0, 1, []), (57, .getfield 74, 3, [12, 10, 1383]), (60, .if_icmp .ge 25, 3, []), (85, .aload_n 0, 1, []), (86, .iconst 0, 1, []), (87, .putfield 196, 3, [12, 6, 1379]), (90, .iload_n 1, 1, []), (91, .ireturn, 1, [])])], 4, 0, 0, 243)
noncomputable def em_160 : es_M := (yX12_led, RX12, cX12_led, 5, (some .int), [], [(19, [(0, .aload_n 0, 1, []), (1, .aload_n 0, 1, []), (2, .iload_n 1, 1, []), (3, .invokevirtual 289, 3, [1, 127, 1, 12, 1580, 1581, 72, 116]), (6, .ifCond .ne 7, 3, []), (9, .iconst 1, 1, []), (10, .goto 4, 3, []), (14, .putfield 54, 3, [12, 0, 1373]), (17, .iconst 0, 1, []), (18, .istore_n 3, 1, [])]),
  (83, [(19, .iconst 0, 1, []), (20, .istore 4, 2, []), (22, .iload 4, 2, []), (24, .aload_n 0, 1, []), (25, .getfield 7, 3, [12, 1, 1374]), (28, .bipush 13, 2, []), (30, .iaload, 1, []), (31, .if_icmp .ge 50, 3, []), (81, .iload_n 3, 1, []), (82, .ireturn, 1, [])])], 4, 0, 0, 243)
noncomputable def em_161 : es_M := (yX12_lives, RX12, cX12_lives, 2, (some .int), [], [(21, [(0, .aload_n 0, 1, []), (1, .aload_n 0, 1, []), (2, .iload_n 1, 1, []), (3, .invokevirtual 289, 3, [1, 127, 1, 12, 1580, 1581, 72, 116]), (6, .ifCond .ne 7, 3, []), (9, .iconst 1, 1, []), (10, .goto 4, 3, []), (14, .putfield 54, 3, [12, 0, 1373]), (17, .aload_n 0, 1, []), (18, .getfield 54, 3, [12, 0, 1373])]),
  (35, [(21, .ifCond .le 7, 3, []), (24, .iconst 0, 1, []), (25, .goto 9, 3, []), (34, .ireturn, 1, [])])], 4, 0, 0, 243)
noncomputable def em_162 : es_M := (yX12_log, RX12, cX12_log, 3, (some .int), [], [(18, [(0, .aload_n 0, 1, []), (1, .iload_n 2, 1, []), (2, .iconst 0, 1, []), (3, .iconst 3, 1, []), (4, .invokestatic 57, 3, [2, 126, 3, 1462, 1463, 116]), (7, .ifCond .ne 7, 3, []), (10, .iconst 1, 1, []), (11, .goto 4, 3, []), (14, .iconst 0, 1, []), (15, .putfield 54, 3, [12, 0, 1373])]),
  (35, [(18, .aload_n 0, 1, []), (19, .getfield 54, 3, [12, 0, 1373]), (22, .ifCond .le 5, 3, []), (25, .iconst 0, 1, []), (26, .ireturn, 1, []), (27, .iload_n 1, 1, []), (28, .iconst 0, 1, []), (29, .aload_n 0, 1, []), (30, .getfield 7, 3, [12, 1, 1374]), (33, .bipush 13, 2, [])]),
  (55, [(35, .iaload, 1, []), (36, .iconst 1, 1, []), (37, .isub, 1, []), (38, .invokestatic 57, 3, [2, 126, 3, 1462, 1463, 116]), (41, .ifCond .eq 12, 3, []), (53, .iconst (-1), 1, []), (54, .ireturn, 1, [])])], 3, 0, 0, 222)
noncomputable def em_163 : es_M := (yX12_longest, RX12, cX12_longest, 7, (some .int), [], [(40, [(0, .aload_n 0, 1, []), (1, .aload_n 0, 1, []), (2, .iload_n 1, 1, []), (3, .invokevirtual 289, 3, [1, 127, 1, 12, 1580, 1581, 72, 116]), (6, .ifCond .ne 7, 3, []), (9, .iconst 1, 1, []), (10, .goto 23, 3, []), (33, .putfield 54, 3, [12, 0, 1373]), (36, .aload_n 0, 1, []), (37, .getfield 54, 3, [12, 0, 1373])]),
  (45, [(40, .ifCond .le 5, 3, []), (43, .iconst 0, 1, []), (44, .ireturn, 1, [])])], 4, 0, 0, 243)
noncomputable def em_164 : es_M := (yX12_man, RX12, cX12_man, 3, (some .int), [], [(35, [(0, .aload_n 0, 1, []), (1, .aload_n 0, 1, []), (2, .iload_n 1, 1, []), (3, .invokevirtual 289, 3, [1, 127, 1, 12, 1580, 1581, 72, 116]), (6, .ifCond .ne 7, 3, []), (9, .iconst 1, 1, []), (10, .goto 18, 3, []), (28, .putfield 54, 3, [12, 0, 1373]), (31, .aload_n 0, 1, []), (32, .getfield 54, 3, [12, 0, 1373])]),
  (40, [(35, .ifCond .le 5, 3, []), (38, .iconst 0, 1, []), (39, .ireturn, 1, [])])], 4, 0, 0, 243)
noncomputable def em_165 : es_M := (yX12_mates, RX12, cX12_mates, 4, (some .int), [], [(14, [(0, .aload_n 0, 1, []), (1, .iconst 0, 1, []), (2, .putfield 54, 3, [12, 0, 1373]), (5, .iconst 0, 1, []), (6, .istore_n 1, 1, []), (7, .iconst 0, 1, []), (8, .istore_n 2, 1, []), (9, .iload_n 2, 1, []), (10, .aload_n 0, 1, []), (11, .getfield 7, 3, [12, 1, 1374])]),
  (70, [(14, .iconst 4, 1, []), (15, .iaload, 1, []), (16, .if_icmp .ge 52, 3, []), (68, .iload_n 1, 1, []), (69, .ireturn, 1, [])])], 2, 0, 0, 200)
noncomputable def em_166 : es_M := (yX12_needs, RX12, cX12_needs, 4, (some .int), [], [(35, [(0, .aload_n 0, 1, []), (1, .aload_n 0, 1, []), (2, .iload_n 1, 1, []), (3, .invokevirtual 289, 3, [1, 127, 1, 12, 1580, 1581, 72, 116]), (6, .ifCond .ne 7, 3, []), (9, .iconst 1, 1, []), (10, .goto 18, 3, []), (28, .putfield 54, 3, [12, 0, 1373]), (31, .aload_n 0, 1, []), (32, .getfield 54, 3, [12, 0, 1373])]),
  (40, [(35, .ifCond .le 5, 3, []), (38, .iconst 0, 1, []), (39, .ireturn, 1, [])])], 4, 0, 0, 243)
noncomputable def em_167 : es_M := (yX12_bits, RX12, cX12_bits, 3, (some .int), [], [(13, [(0, .iconst 0, 1, []), (1, .istore_n 1, 1, []), (2, .iconst 0, 1, []), (3, .istore_n 2, 1, []), (4, .iload_n 2, 1, []), (5, .bipush 31, 2, []), (7, .if_icmp .ge 17, 3, []), (10, .iload_n 1, 1, []), (11, .iload_n 0, 1, []), (12, .iload_n 2, 1, [])]),
  (26, [(13, .ishr, 1, []), (14, .iconst 1, 1, []), (15, .iand, 1, []), (16, .iadd, 1, []), (17, .istore_n 1, 1, []), (18, .iinc 2 1, 3, []), (21, .goto (-17), 3, []), (24, .iload_n 1, 1, []), (25, .ireturn, 1, [])])], 2, 0, 0, 200)
noncomputable def em_168 : es_M := (yX12_isOf, RX12, cX12_isOf, 2, (some .boolean), [], [(14, [(0, .iload_n 0, 1, []), (1, .iload_n 1, 1, []), (2, .ishr, 1, []), (3, .iconst 1, 1, []), (4, .iand, 1, []), (5, .iconst 1, 1, []), (6, .if_icmp .ne 7, 3, []), (9, .iconst 1, 1, []), (10, .goto 4, 3, []), (13, .iconst 0, 1, [])]),
  (15, [(14, .ireturn, 1, [])])], 2, 0, 0, 200)
noncomputable def em_169 : es_M := (yX12_odds, RX12, cX12_odds, 11, (some .int), [], [(16, [(0, .aload_n 0, 1, []), (1, .iload_n 1, 1, []), (2, .iconst 0, 1, []), (3, .iconst 5, 1, []), (4, .invokestatic 57, 3, [2, 126, 3, 1462, 1463, 116]), (7, .ifCond .eq 12, 3, []), (10, .iload_n 2, 1, []), (11, .iconst 0, 1, []), (12, .iconst 5, 1, []), (13, .invokestatic 57, 3, [2, 126, 3, 1462, 1463, 116])]),
  (36, [(16, .ifCond .ne 7, 3, []), (19, .iconst 1, 1, []), (20, .goto 4, 3, []), (23, .iconst 0, 1, []), (24, .putfield 54, 3, [12, 0, 1373]), (27, .aload_n 0, 1, []), (28, .getfield 54, 3, [12, 0, 1373]), (31, .ifCond .le 5, 3, []), (34, .iconst 0, 1, []), (35, .ireturn, 1, [])]),
  (52, [(36, .lconst 1, 1, []), (37, .lstore_n 3, 1, []), (38, .iconst 0, 1, []), (39, .istore 5, 2, []), (41, .iload 5, 2, []), (43, .iload_n 1, 1, []), (44, .if_icmp .ge 15, 3, []), (47, .lload_n 3, 1, []), (48, .ldc2_w 359, 3, [1774, 100]), (51, .lmul, 1, [])]),
  (69, [(52, .lstore_n 3, 1, []), (53, .iinc 5 1, 3, []), (56, .goto (-15), 3, []), (59, .lconst 0, 1, []), (60, .lstore 5, 2, []), (62, .iconst 0, 1, []), (63, .istore 7, 2, []), (65, .iload 7, 2, []), (67, .iconst 1, 1, []), (68, .iload_n 1, 1, [])]),
  (89, [(69, .ishl, 1, []), (70, .if_icmp .ge 84, 3, []), (73, .iload 7, 2, []), (75, .invokestatic 340, 3, [2, 167, 1, 1734, 1735, 116]), (78, .iload_n 2, 1, []), (79, .if_icmp .ge 7, 3, []), (82, .lconst 0, 1, []), (83, .goto 4, 3, []), (86, .lconst 1, 1, []), (87, .lstore 8, 2, [])]),
  (110, [(89, .iconst 0, 1, []), (90, .istore 10, 2, []), (92, .iload 10, 2, []), (94, .iload_n 1, 1, []), (95, .if_icmp .ge 46, 3, []), (98, .lload 8, 2, []), (100, .iload 7, 2, []), (102, .iload 10, 2, []), (104, .invokestatic 108, 3, [2, 168, 2, 1537, 1538, 116]), (107, .ifCond .eq 14, 3, [])]),
  (129, [(110, .aload_n 0, 1, []), (111, .getfield 7, 3, [12, 1, 1374]), (114, .bipush 11, 2, []), (116, .iaload, 1, []), (117, .i2l, 1, []), (118, .goto 14, 3, []), (121, .bipush 100, 2, []), (123, .aload_n 0, 1, []), (124, .getfield 7, 3, [12, 1, 1374]), (127, .bipush 11, 2, [])]),
  (146, [(129, .iaload, 1, []), (130, .isub, 1, []), (131, .i2l, 1, []), (132, .lmul, 1, []), (133, .lstore 8, 2, []), (135, .iinc 10 1, 3, []), (138, .goto (-46), 3, []), (141, .lload 5, 2, []), (143, .lload 8, 2, []), (145, .ladd, 1, [])]),
  (164, [(146, .lstore 5, 2, []), (148, .iinc 7 1, 3, []), (151, .goto (-86), 3, []), (154, .ldc2_w 361, 3, [1775, 10000]), (157, .lload 5, 2, []), (159, .lmul, 1, []), (160, .lload_n 3, 1, []), (161, .ldiv, 1, []), (162, .l2i, 1, []), (163, .ireturn, 1, [])])], 3, 0, 0, 222)
noncomputable def em_170 : es_M := (yX12_owes, RX12, cX12_owes, 4, (some .int), [], [(20, [(0, .aload_n 0, 1, []), (1, .iload_n 1, 1, []), (2, .iconst 0, 1, []), (3, .sipush 200, 3, []), (6, .invokestatic 57, 3, [2, 126, 3, 1462, 1463, 116]), (9, .ifCond .ne 7, 3, []), (12, .iconst 1, 1, []), (13, .goto 4, 3, []), (16, .iconst 0, 1, []), (17, .putfield 54, 3, [12, 0, 1373])]),
  (36, [(20, .aload_n 0, 1, []), (21, .getfield 54, 3, [12, 0, 1373]), (24, .ifCond .le 5, 3, []), (27, .iconst 0, 1, []), (28, .ireturn, 1, []), (29, .aload_n 0, 1, []), (30, .invokevirtual 183, 3, [1, 134, 0, 12, 1469, 1470, 42, 116]), (33, .aload_n 0, 1, []), (34, .iload_n 1, 1, []), (35, .iconst 0, 1, [])]),
  (53, [(36, .invokevirtual 316, 3, [1, 142, 2, 12, 1664, 1665, 87, 116]), (39, .istore_n 2, 1, []), (40, .aload_n 0, 1, []), (41, .getfield 7, 3, [12, 1, 1374]), (44, .bipush 9, 2, []), (46, .iaload, 1, []), (47, .istore_n 3, 1, []), (48, .aload_n 0, 1, []), (49, .invokevirtual 193, 3, [1, 139, 0, 12, 1552, 1553, 68, 116]), (52, .iload_n 3, 1, [])]),
  (54, [(53, .ireturn, 1, [])])], 4, 0, 0, 247)
noncomputable def em_171 : es_M := (yX12_isStep, RX12, cX12_isStep, 2, (some .boolean), [], [(14, [(0, .iload_n 1, 1, []), (1, .iconst 0, 1, []), (2, .aload_n 0, 1, []), (3, .getfield 7, 3, [12, 1, 1374]), (6, .iconst 3, 1, []), (7, .iaload, 1, []), (8, .iconst 1, 1, []), (9, .isub, 1, []), (10, .invokestatic 57, 3, [2, 126, 3, 1462, 1463, 116]), (13, .ireturn, 1, [])])], 3, 0, 0, 222)
noncomputable def em_172 : es_M := (yX12_part_, RX12, cX12_part_, 3, (some .int), [], [(57, [(0, .aload_n 0, 1, []), (1, .aload_n 0, 1, []), (2, .iload_n 1, 1, []), (3, .invokevirtual 280, 3, [1, 171, 1, 12, 1567, 1568, 69, 116]), (6, .ifCond .eq 11, 3, []), (17, .iconst 1, 1, []), (18, .goto 32, 3, []), (50, .putfield 54, 3, [12, 0, 1373]), (53, .aload_n 0, 1, []), (54, .getfield 54, 3, [12, 0, 1373])]),
  (62, [(57, .ifCond .le 5, 3, []), (60, .iconst 0, 1, []), (61, .ireturn, 1, [])])], 4, 0, 0, 243)
noncomputable def em_173 : es_M := (yX12_pay, RX12, cX12_pay, 2, (some .int), [], [(16, [(0, .aload_n 0, 1, []), (1, .iload_n 1, 1, []), (2, .iconst 1, 1, []), (3, .aload_n 0, 1, []), (4, .getfield 7, 3, [12, 1, 1374]), (7, .bipush 9, 2, []), (9, .iaload, 1, []), (10, .aload_n 0, 1, []), (11, .getfield 7, 3, [12, 1, 1374]), (14, .bipush 8, 2, [])]),
  (41, [(16, .iaload, 1, []), (17, .invokestatic 256, 3, [2, 141, 2, 1628, 1629, 116]), (20, .invokestatic 57, 3, [2, 126, 3, 1462, 1463, 116]), (23, .ifCond .ne 7, 3, []), (26, .iconst 1, 1, []), (27, .goto 4, 3, []), (31, .putfield 54, 3, [12, 0, 1373]), (34, .aload_n 0, 1, []), (35, .getfield 54, 3, [12, 0, 1373]), (38, .ifCond .le 5, 3, [])]),
  (43, [(41, .iconst 0, 1, []), (42, .ireturn, 1, [])])], 3, 0, 0, 222)
noncomputable def em_174 : es_M := (yX12_proof, RX12, cX12_proof, 2, (some .int), [], [(42, [(0, .aload_n 0, 1, []), (1, .aload_n 0, 1, []), (2, .iload_n 1, 1, []), (3, .invokevirtual 289, 3, [1, 127, 1, 12, 1580, 1581, 72, 116]), (6, .ifCond .ne 7, 3, []), (9, .iconst 1, 1, []), (10, .goto 25, 3, []), (35, .putfield 54, 3, [12, 0, 1373]), (38, .aload_n 0, 1, []), (39, .getfield 54, 3, [12, 0, 1373])]),
  (47, [(42, .ifCond .le 5, 3, []), (45, .iconst 0, 1, []), (46, .ireturn, 1, [])])], 4, 0, 0, 243)
noncomputable def em_175 : es_M := (yX12_rests, RX12, cX12_rests, 7, (some .int), [], [(27, [(0, .aload_n 0, 1, []), (1, .aload_n 0, 1, []), (2, .iload_n 1, 1, []), (3, .invokevirtual 289, 3, [1, 127, 1, 12, 1580, 1581, 72, 116]), (6, .ifCond .eq 11, 3, []), (17, .iconst 1, 1, []), (18, .goto 4, 3, []), (22, .putfield 54, 3, [12, 0, 1373]), (25, .iconst 0, 1, []), (26, .istore_n 3, 1, [])]),
  (120, [(27, .iconst 0, 1, []), (28, .istore 4, 2, []), (30, .iload 4, 2, []), (32, .iconst 4, 1, []), (33, .if_icmp .ge 85, 3, []), (36, .aload_n 0, 1, []), (37, .getfield 54, 3, [12, 0, 1373]), (40, .ifCond .ne 78, 3, []), (118, .iload_n 3, 1, []), (119, .ireturn, 1, [])])], 4, 0, 0, 243)
noncomputable def em_176 : es_M := (yX12_isRival, RX12, cX12_isRival, 2, (some .boolean), [], [(15, [(0, .iload_n 1, 1, []), (1, .iconst 0, 1, []), (2, .aload_n 0, 1, []), (3, .getfield 7, 3, [12, 1, 1374]), (6, .bipush 6, 2, []), (8, .iaload, 1, []), (9, .iconst 1, 1, []), (10, .isub, 1, []), (11, .invokestatic 57, 3, [2, 126, 3, 1462, 1463, 116]), (14, .ireturn, 1, [])])], 3, 0, 0, 222)
noncomputable def em_177 : es_M := (yX12_rival, RX12, cX12_rival, 3, (some .int), [], [(21, [(0, .aload_n 0, 1, []), (1, .aload_n 0, 1, []), (2, .iload_n 1, 1, []), (3, .invokevirtual 304, 3, [1, 176, 1, 12, 1615, 1616, 81, 116]), (6, .ifCond .ne 7, 3, []), (9, .iconst 1, 1, []), (10, .goto 4, 3, []), (14, .putfield 54, 3, [12, 0, 1373]), (17, .aload_n 0, 1, []), (18, .getfield 54, 3, [12, 0, 1373])]),
  (43, [(21, .ifCond .le 7, 3, []), (24, .iconst 0, 1, []), (25, .goto 17, 3, []), (42, .ireturn, 1, [])])], 4, 0, 0, 243)
noncomputable def em_178 : es_M := (yX12_secret, RX12, cX12_secret, 6, (some .int), [], [(14, [(0, .aload_n 0, 1, []), (1, .iconst 0, 1, []), (2, .putfield 54, 3, [12, 0, 1373]), (5, .iconst 1, 1, []), (6, .aload_n 0, 1, []), (7, .getfield 7, 3, [12, 1, 1374]), (10, .iconst 3, 1, []), (11, .iaload, 1, []), (12, .ishl, 1, []), (13, .iconst 1, 1, [])]),
  (26, [(14, .isub, 1, []), (15, .istore_n 1, 1, []), (16, .iconst (-1), 1, []), (17, .istore_n 2, 1, []), (18, .iconst 0, 1, []), (19, .istore_n 3, 1, []), (20, .iload_n 3, 1, []), (21, .iconst 1, 1, []), (22, .aload_n 0, 1, []), (23, .getfield 7, 3, [12, 1, 1374])]),
  (42, [(26, .bipush 6, 2, []), (28, .iaload, 1, []), (29, .ishl, 1, []), (30, .if_icmp .ge 85, 3, []), (33, .iconst 0, 1, []), (34, .istore 4, 2, []), (36, .iconst 0, 1, []), (37, .istore 5, 2, []), (39, .iload 5, 2, []), (41, .aload_n 0, 1, [])]),
  (91, [(42, .getfield 7, 3, [12, 1, 1374]), (45, .bipush 6, 2, []), (47, .iaload, 1, []), (48, .if_icmp .ge 34, 3, []), (82, .iload_n 1, 1, []), (83, .iload 4, 2, []), (85, .iconst (-1), 1, []), (86, .ixor, 1, []), (87, .iand, 1, []), (88, .ifCond .ne 21, 3, [])]),
  (117, [(91, .iload_n 2, 1, []), (92, .iconst (-1), 1, []), (93, .if_icmp .eq 14, 3, []), (107, .iload_n 3, 1, []), (108, .istore_n 2, 1, []), (109, .iinc 3 1, 3, []), (112, .goto (-92), 3, []), (115, .iload_n 2, 1, []), (116, .ireturn, 1, [])])], 2, 0, 0, 200)
noncomputable def em_179 : es_M := (yX12_seed, RX12, cX12_seed, 3, (some .int), [], [(17, [(0, .aload_n 0, 1, []), (1, .iconst 0, 1, []), (2, .putfield 54, 3, [12, 0, 1373]), (5, .aload_n 0, 1, []), (6, .getfield 7, 3, [12, 1, 1374]), (9, .bipush 14, 2, []), (11, .iaload, 1, []), (12, .istore_n 2, 1, []), (13, .aload_n 0, 1, []), (14, .getfield 7, 3, [12, 1, 1374])]),
  (23, [(17, .bipush 14, 2, []), (19, .iload_n 1, 1, []), (20, .iastore, 1, []), (21, .iload_n 2, 1, []), (22, .ireturn, 1, [])])], 2, 0, 0, 200)
noncomputable def em_180 : es_M := (yX12_seen, RX12, cX12_seen, 5, (some .int), [], [(20, [(0, .aload_n 0, 1, []), (1, .invokevirtual 349, 3, [1, 129, 0, 12, 1752, 1753, 98, 116]), (4, .istore_n 2, 1, []), (5, .aload_n 0, 1, []), (6, .iload_n 2, 1, []), (7, .iconst (-1), 1, []), (8, .if_icmp .ne 7, 3, []), (15, .iconst 0, 1, []), (16, .putfield 54, 3, [12, 0, 1373]), (19, .aload_n 0, 1, [])]),
  (44, [(20, .getfield 54, 3, [12, 0, 1373]), (23, .ifCond .gt 7, 3, []), (26, .iload_n 1, 1, []), (27, .ifCond .ne 16, 3, []), (30, .aload_n 0, 1, []), (31, .getfield 54, 3, [12, 0, 1373]), (34, .ifCond .le 7, 3, []), (41, .iload_n 2, 1, []), (42, .ireturn, 1, []), (43, .iload_n 2, 1, [])]),
  (68, [(44, .ifCond .ne 7, 3, []), (51, .bipush 63, 2, []), (53, .istore_n 3, 1, []), (54, .iconst 1, 1, []), (55, .istore 4, 2, []), (57, .iload 4, 2, []), (59, .bipush 64, 2, []), (61, .if_icmp .ge 24, 3, []), (64, .aload_n 0, 1, []), (65, .getfield 47, 3, [12, 23, 1396])]),
  (86, [(68, .iload 4, 2, []), (70, .baload, 1, []), (71, .ifCond .eq 8, 3, []), (74, .iload_n 3, 1, []), (75, .iload 4, 2, []), (77, .iand, 1, []), (78, .istore_n 3, 1, []), (79, .iinc 4 1, 3, []), (82, .goto (-25), 3, []), (85, .iload_n 3, 1, [])]),
  (87, [(86, .ireturn, 1, [])])], 3, 0, 0, 225)
noncomputable def em_181 : es_M := (yX12_sell, RX12, cX12_sell, 4, (some .int), [], [(59, [(0, .aload_n 0, 1, []), (1, .aload_n 0, 1, []), (2, .iload_n 1, 1, []), (3, .invokevirtual 289, 3, [1, 127, 1, 12, 1580, 1581, 72, 116]), (6, .ifCond .eq 11, 3, []), (17, .iconst 1, 1, []), (18, .goto 34, 3, []), (52, .putfield 54, 3, [12, 0, 1373]), (55, .aload_n 0, 1, []), (56, .getfield 54, 3, [12, 0, 1373])]),
  (64, [(59, .ifCond .le 5, 3, []), (62, .iconst 0, 1, []), (63, .ireturn, 1, [])])], 4, 0, 0, 243)
noncomputable def em_182 : es_M := (yX12_slips, RX12, cX12_slips, 4, (some .int), [], [(19, [(0, .aload_n 0, 1, []), (1, .aload_n 0, 1, []), (2, .iload_n 1, 1, []), (3, .invokevirtual 289, 3, [1, 127, 1, 12, 1580, 1581, 72, 116]), (6, .ifCond .ne 7, 3, []), (9, .iconst 1, 1, []), (10, .goto 4, 3, []), (14, .putfield 54, 3, [12, 0, 1373]), (17, .iconst 0, 1, []), (18, .istore_n 2, 1, [])]),
  (70, [(19, .iconst 0, 1, []), (20, .istore_n 3, 1, []), (21, .iload_n 3, 1, []), (22, .aload_n 0, 1, []), (23, .getfield 7, 3, [12, 1, 1374]), (26, .iconst 5, 1, []), (27, .iaload, 1, []), (28, .if_icmp .ge 40, 3, []), (68, .iload_n 2, 1, []), (69, .ireturn, 1, [])])], 4, 0, 0, 243)
noncomputable def em_183 : es_M := (yX12_sold, RX12, cX12_sold, 7, (some .int), [], [(18, [(0, .aload_n 0, 1, []), (1, .iload_n 1, 1, []), (2, .iconst (-1), 1, []), (3, .if_icmp .eq 15, 3, []), (6, .aload_n 0, 1, []), (7, .iload_n 1, 1, []), (8, .invokevirtual 304, 3, [1, 176, 1, 12, 1615, 1616, 81, 116]), (11, .ifCond .ne 7, 3, []), (14, .iconst 1, 1, []), (15, .goto 4, 3, [])]),
  (37, [(18, .iconst 0, 1, []), (19, .putfield 54, 3, [12, 0, 1373]), (22, .aload_n 0, 1, []), (23, .getfield 54, 3, [12, 0, 1373]), (26, .ifCond .le 5, 3, []), (29, .iconst 0, 1, []), (30, .ireturn, 1, []), (31, .aload_n 0, 1, []), (32, .getfield 7, 3, [12, 1, 1374]), (35, .bipush 6, 2, [])]),
  (52, [(37, .iaload, 1, []), (38, .istore_n 2, 1, []), (39, .iload_n 2, 1, []), (40, .istore_n 3, 1, []), (41, .iload_n 3, 1, []), (42, .ifCond .lt 109, 3, []), (45, .iconst 0, 1, []), (46, .istore 4, 2, []), (48, .iload 4, 2, []), (50, .bipush 64, 2, [])]),
  (79, [(52, .if_icmp .ge 93, 3, []), (55, .iload_n 3, 1, []), (56, .iload_n 2, 1, []), (57, .if_icmp .ne 7, 3, []), (60, .iconst 0, 1, []), (61, .goto 11, 3, []), (72, .istore 5, 2, []), (74, .iconst 0, 1, []), (75, .istore 6, 2, []), (77, .iload 6, 2, [])]),
  (133, [(79, .aload_n 0, 1, []), (80, .getfield 7, 3, [12, 1, 1374]), (83, .iconst 4, 1, []), (84, .iaload, 1, []), (85, .if_icmp .ge 40, 3, []), (125, .aload_n 0, 1, []), (126, .getfield 51, 3, [12, 24, 1397]), (129, .bipush 64, 2, []), (131, .iload_n 3, 1, []), (132, .imul, 1, [])]),
  (153, [(133, .iload 4, 2, []), (135, .iadd, 1, []), (136, .iload 5, 2, []), (138, .iastore, 1, []), (139, .iinc 4 1, 3, []), (142, .goto (-94), 3, []), (145, .iinc 3 (-1), 3, []), (148, .goto (-107), 3, []), (151, .aload_n 0, 1, []), (152, .iconst 0, 1, [])]),
  (169, [(153, .invokevirtual 367, 3, [1, 156, 1, 12, 1787, 1788, 102, 116]), (156, .istore_n 3, 1, []), (157, .iload_n 1, 1, []), (158, .iconst (-1), 1, []), (159, .if_icmp .ne 10, 3, []), (162, .aload_n 0, 1, []), (163, .getfield 51, 3, [12, 24, 1397]), (166, .iload_n 3, 1, []), (167, .iaload, 1, []), (168, .ireturn, 1, [])])], 4, 0, 0, 243)
noncomputable def em_184 : es_M := (yX12_greater, RX12, cX12_greater, 2, (some .int), [], [(11, [(0, .iload_n 0, 1, []), (1, .iload_n 1, 1, []), (2, .if_icmp .le 7, 3, []), (9, .iload_n 1, 1, []), (10, .ireturn, 1, [])])], 2, 0, 0, 200)
noncomputable def em_185 : es_M := (yX12_span, RX12, cX12_span, 7, (some .int), [], [(20, [(0, .aload_n 0, 1, []), (1, .iload_n 1, 1, []), (2, .iconst 0, 1, []), (3, .sipush 200, 3, []), (6, .invokestatic 57, 3, [2, 126, 3, 1462, 1463, 116]), (9, .ifCond .ne 7, 3, []), (12, .iconst 1, 1, []), (13, .goto 4, 3, []), (16, .iconst 0, 1, []), (17, .putfield 54, 3, [12, 0, 1373])]),
  (36, [(20, .aload_n 0, 1, []), (21, .getfield 54, 3, [12, 0, 1373]), (24, .ifCond .le 5, 3, []), (27, .iconst 0, 1, []), (28, .ireturn, 1, []), (29, .aload_n 0, 1, []), (30, .invokevirtual 183, 3, [1, 134, 0, 12, 1469, 1470, 42, 116]), (33, .iconst (-1), 1, []), (34, .istore_n 3, 1, []), (35, .iconst 1, 1, [])]),
  (55, [(36, .istore 4, 2, []), (38, .iload 4, 2, []), (40, .bipush 6, 2, []), (42, .if_icmp .gt 69, 3, []), (45, .aload_n 0, 1, []), (46, .getfield 7, 3, [12, 1, 1374]), (49, .bipush 14, 2, []), (51, .iload 4, 2, []), (53, .iastore, 1, []), (54, .aload_n 0, 1, [])]),
  (72, [(55, .iload_n 1, 1, []), (56, .iconst 1, 1, []), (57, .invokevirtual 316, 3, [1, 142, 2, 12, 1664, 1665, 87, 116]), (60, .istore 5, 2, []), (62, .aload_n 0, 1, []), (63, .getfield 7, 3, [12, 1, 1374]), (66, .bipush 8, 2, []), (68, .iaload, 1, []), (69, .istore 6, 2, []), (71, .aload_n 0, 1, [])]),
  (92, [(72, .invokevirtual 193, 3, [1, 139, 0, 12, 1552, 1553, 68, 116]), (75, .iload_n 3, 1, []), (76, .iconst (-1), 1, []), (77, .if_icmp .ne 8, 3, []), (80, .iload 6, 2, []), (82, .goto 22, 3, []), (85, .iload_n 2, 1, []), (86, .ifCond .eq 12, 3, []), (89, .iload_n 3, 1, []), (90, .iload 6, 2, [])]),
  (113, [(92, .invokestatic 274, 3, [2, 184, 2, 1670, 1671, 116]), (95, .goto 9, 3, []), (98, .iload_n 3, 1, []), (99, .iload 6, 2, []), (101, .invokestatic 256, 3, [2, 141, 2, 1628, 1629, 116]), (104, .istore_n 3, 1, []), (105, .iinc 4 1, 3, []), (108, .goto (-70), 3, []), (111, .iload_n 3, 1, []), (112, .ireturn, 1, [])])], 4, 0, 0, 247)
noncomputable def em_186 : es_M := (yX12_step, RX12, cX12_step, 5, (some .int), [], [(34, [(0, .aload_n 0, 1, []), (1, .aload_n 0, 1, []), (2, .iload_n 1, 1, []), (3, .invokevirtual 280, 3, [1, 171, 1, 12, 1567, 1568, 69, 116]), (6, .ifCond .ne 7, 3, []), (9, .iconst 1, 1, []), (10, .goto 17, 3, []), (27, .putfield 54, 3, [12, 0, 1373]), (30, .aload_n 0, 1, []), (31, .getfield 54, 3, [12, 0, 1373])]),
  (39, [(34, .ifCond .le 5, 3, []), (37, .iconst 0, 1, []), (38, .ireturn, 1, [])])], 4, 0, 0, 243)
noncomputable def em_187 : es_M := (yX12_stopped_, RX12, cX12_stopped_, 3, (some .boolean), [], [(21, [(0, .aload_n 0, 1, []), (1, .aload_n 0, 1, []), (2, .iload_n 1, 1, []), (3, .invokevirtual 289, 3, [1, 127, 1, 12, 1580, 1581, 72, 116]), (6, .ifCond .ne 7, 3, []), (9, .iconst 1, 1, []), (10, .goto 4, 3, []), (14, .putfield 54, 3, [12, 0, 1373]), (17, .aload_n 0, 1, []), (18, .getfield 54, 3, [12, 0, 1373])]),
  (47, [(21, .ifCond .ne 24, 3, []), (45, .iconst 0, 1, []), (46, .ireturn, 1, [])])], 4, 0, 0, 243)
noncomputable def em_188 : es_M := (yX12_isTest, RX12, cX12_isTest, 2, (some .boolean), [], [(14, [(0, .iload_n 1, 1, []), (1, .iconst 0, 1, []), (2, .aload_n 0, 1, []), (3, .getfield 7, 3, [12, 1, 1374]), (6, .iconst 5, 1, []), (7, .iaload, 1, []), (8, .iconst 1, 1, []), (9, .isub, 1, []), (10, .invokestatic 57, 3, [2, 126, 3, 1462, 1463, 116]), (13, .ireturn, 1, [])])], 3, 0, 0, 222)
noncomputable def em_189 : es_M := (yX12_test, RX12, cX12_test, 3, (some .int), [], [(21, [(0, .aload_n 0, 1, []), (1, .aload_n 0, 1, []), (2, .iload_n 1, 1, []), (3, .invokevirtual 295, 3, [1, 188, 1, 12, 1602, 1603, 78, 116]), (6, .ifCond .ne 7, 3, []), (9, .iconst 1, 1, []), (10, .goto 4, 3, []), (14, .putfield 54, 3, [12, 0, 1373]), (17, .aload_n 0, 1, []), (18, .getfield 54, 3, [12, 0, 1373])]),
  (46, [(21, .ifCond .le 7, 3, []), (24, .iconst 0, 1, []), (25, .goto 20, 3, []), (45, .ireturn, 1, [])])], 4, 0, 0, 243)
noncomputable def em_190 : es_M := (yX12_thrown, RX12, cX12_thrown, 1, (some .int), [], [(5, [(0, .aload_n 0, 1, []), (1, .getfield 54, 3, [12, 0, 1373]), (4, .ireturn, 1, [])])], 2, 0, 0, 200)
noncomputable def em_191 : es_M := (yX12_trial, RX12, cX12_trial, 5, (some .int), [], [(20, [(0, .aload_n 0, 1, []), (1, .iload_n 1, 1, []), (2, .iconst 0, 1, []), (3, .sipush 200, 3, []), (6, .invokestatic 57, 3, [2, 126, 3, 1462, 1463, 116]), (9, .ifCond .ne 7, 3, []), (12, .iconst 1, 1, []), (13, .goto 4, 3, []), (16, .iconst 0, 1, []), (17, .putfield 54, 3, [12, 0, 1373])]),
  (36, [(20, .aload_n 0, 1, []), (21, .getfield 54, 3, [12, 0, 1373]), (24, .ifCond .le 5, 3, []), (27, .iconst 0, 1, []), (28, .ireturn, 1, []), (29, .aload_n 0, 1, []), (30, .invokevirtual 183, 3, [1, 134, 0, 12, 1469, 1470, 42, 116]), (33, .aload_n 0, 1, []), (34, .iload_n 1, 1, []), (35, .iconst 1, 1, [])]),
  (56, [(36, .invokevirtual 316, 3, [1, 142, 2, 12, 1664, 1665, 87, 116]), (39, .istore_n 3, 1, []), (40, .iload_n 2, 1, []), (41, .ifCond .eq 14, 3, []), (44, .aload_n 0, 1, []), (45, .iconst 0, 1, []), (46, .invokevirtual 367, 3, [1, 156, 1, 12, 1787, 1788, 102, 116]), (49, .invokestatic 340, 3, [2, 167, 1, 1734, 1735, 116]), (52, .goto 10, 3, []), (55, .aload_n 0, 1, [])]),
  (71, [(56, .getfield 7, 3, [12, 1, 1374]), (59, .bipush 8, 2, []), (61, .iaload, 1, []), (62, .istore 4, 2, []), (64, .aload_n 0, 1, []), (65, .invokevirtual 193, 3, [1, 139, 0, 12, 1552, 1553, 68, 116]), (68, .iload 4, 2, []), (70, .ireturn, 1, [])])], 4, 0, 0, 247)
noncomputable def em_192 : es_M := (yX12_tried, RX12, cX12_tried, 4, (some .boolean), [], [(41, [(0, .aload_n 0, 1, []), (1, .aload_n 0, 1, []), (2, .iload_n 1, 1, []), (3, .invokevirtual 289, 3, [1, 127, 1, 12, 1580, 1581, 72, 116]), (6, .ifCond .eq 11, 3, []), (17, .iconst 1, 1, []), (18, .goto 16, 3, []), (34, .putfield 54, 3, [12, 0, 1373]), (37, .aload_n 0, 1, []), (38, .getfield 54, 3, [12, 0, 1373])]),
  (46, [(41, .ifCond .le 5, 3, []), (44, .iconst 0, 1, []), (45, .ireturn, 1, [])])], 4, 0, 0, 243)
noncomputable def em_193 : es_M := (yX12_undo, RX12, cX12_undo, 2, (some .boolean), [], [(14, [(0, .aload_n 0, 1, []), (1, .iconst 0, 1, []), (2, .putfield 54, 3, [12, 0, 1373]), (5, .aload_n 0, 1, []), (6, .getfield 196, 3, [12, 6, 1379]), (9, .ifCond .ne 5, 3, []), (12, .iconst 0, 1, []), (13, .ireturn, 1, [])])], 2, 0, 0, 200)
noncomputable def em_194 : es_M := (yL_law_, RL, cL_law_, 7, (some .boolean), [], [(19, [(0, .new 8, 3, [1, 11, 135, 136, 105]), (3, .dup, 1, []), (4, .invokespecial 128, 3, [7, 119, 0, 0, 137, 138, 105]), (7, .astore_n 1, 1, []), (8, .new 129, 3, [1, 12, 1367, 1368, 116]), (11, .dup, 1, []), (12, .invokespecial 131, 3, [7, 155, 0, 0, 1369, 1370, 116]), (15, .astore_n 2, 1, []), (16, .iconst 1, 1, []), (17, .newarray .long, 2, [1, 442])]),
  (34, [(19, .astore_n 3, 1, []), (20, .iconst 0, 1, []), (21, .istore 4, 2, []), (23, .iload 4, 2, []), (25, .aload_n 0, 1, []), (26, .arraylength, 1, []), (27, .bipush 6, 2, []), (29, .isub, 1, []), (30, .if_icmp .gt 2773, 3, []), (33, .aload_n 0, 1, [])]),
  (251, [(34, .iload 4, 2, []), (36, .iaload, 1, []), (37, .bipush 63, 2, []), (39, .iand, 1, [200]), (244, .aload_n 1, 1, []), (245, .aload_n 0, 1, []), (246, .iload 4, 2, []), (248, .iconst 1, 1, []), (249, .iadd, 1, []), (250, .iaload, 1, [])]),
  (263, [(251, .aload_n 0, 1, []), (252, .iload 4, 2, []), (254, .iconst 2, 1, []), (255, .iadd, 1, []), (256, .iaload, 1, []), (257, .aload_n 0, 1, []), (258, .iload 4, 2, []), (260, .iconst 3, 1, []), (261, .iadd, 1, []), (262, .iaload, 1, [])]),
  (275, [(263, .aload_n 0, 1, []), (264, .iload 4, 2, []), (266, .iconst 4, 1, []), (267, .iadd, 1, []), (268, .iaload, 1, []), (269, .aload_n 0, 1, []), (270, .iload 4, 2, []), (272, .iconst 5, 1, []), (273, .iadd, 1, []), (274, .iaload, 1, [])]),
  (289, [(275, .invokevirtual 132, 3, [1, 107, 5, 11, 508, 509, 510, 105]), (278, .aload_n 2, 1, []), (279, .aload_n 0, 1, []), (280, .iload 4, 2, []), (282, .iconst 1, 1, []), (283, .iadd, 1, []), (284, .iaload, 1, []), (285, .aload_n 0, 1, []), (286, .iload 4, 2, []), (288, .iconst 2, 1, [])]),
  (301, [(289, .iadd, 1, []), (290, .iaload, 1, []), (291, .aload_n 0, 1, []), (292, .iload 4, 2, []), (294, .iconst 3, 1, []), (295, .iadd, 1, []), (296, .iaload, 1, []), (297, .aload_n 0, 1, []), (298, .iload 4, 2, []), (300, .iconst 4, 1, [])]),
  (318, [(301, .iadd, 1, []), (302, .iaload, 1, []), (303, .aload_n 0, 1, []), (304, .iload 4, 2, []), (306, .iconst 5, 1, []), (307, .iadd, 1, []), (308, .iaload, 1, []), (309, .invokevirtual 136, 3, [1, 151, 5, 12, 1454, 1455, 1456, 116]), (312, .if_icmp .eq 2485, 3, []), (317, .aload_n 1, 1, [])]),
  (332, [(318, .aload_n 0, 1, []), (319, .iload 4, 2, []), (321, .iconst 1, 1, []), (322, .iadd, 1, []), (323, .iaload, 1, []), (324, .invokevirtual 137, 3, [1, 104, 1, 11, 516, 517, 518, 105]), (327, .aload_n 2, 1, []), (328, .aload_n 0, 1, []), (329, .iload 4, 2, []), (331, .iconst 1, 1, [])]),
  (353, [(332, .iadd, 1, []), (333, .iaload, 1, []), (334, .invokevirtual 141, 3, [1, 149, 1, 12, 1458, 1459, 1460, 116]), (337, .if_icmp .eq 2460, 3, []), (342, .aload_n 1, 1, []), (343, .aload_n 3, 1, []), (344, .invokestatic 142, 3, [2, 17, 2, 610, 611, 104]), (347, .istore 5, 2, []), (349, .aload_n 2, 1, []), (350, .invokevirtual 147, 3, [1, 137, 0, 12, 1465, 1466, 1467, 116])]),
  (374, [(353, .istore 6, 2, []), (355, .aload_n 2, 1, []), (356, .invokevirtual 148, 3, [1, 190, 0, 12, 1450, 1451, 1452, 116]), (359, .iload 5, 2, []), (361, .if_icmp .eq 5, 3, []), (366, .iload 5, 2, []), (368, .ifCond .ne 15, 3, []), (371, .aload_n 3, 1, []), (372, .iconst 0, 1, []), (373, .laload, 1, [])]),
  (394, [(374, .iload 6, 2, []), (376, .i2l, 1, []), (377, .lcmp, 1, []), (378, .ifCond .eq 5, 3, []), (383, .goto 2414, 3, []), (386, .aload_n 1, 1, []), (387, .aload_n 3, 1, []), (388, .invokestatic 151, 3, [2, 43, 2, 821, 822, 104]), (391, .istore 5, 2, []), (393, .aload_n 2, 1, [])]),
  (417, [(394, .invokevirtual 153, 3, [1, 159, 0, 12, 1555, 1556, 1557, 116]), (397, .istore 6, 2, []), (399, .aload_n 2, 1, []), (400, .invokevirtual 148, 3, [1, 190, 0, 12, 1450, 1451, 1452, 116]), (403, .iload 5, 2, []), (405, .if_icmp .eq 5, 3, []), (410, .iload 5, 2, []), (412, .ifCond .ne 15, 3, []), (415, .aload_n 3, 1, []), (416, .iconst 0, 1, [])]),
  (438, [(417, .laload, 1, []), (418, .iload 6, 2, []), (420, .i2l, 1, []), (421, .lcmp, 1, []), (422, .ifCond .eq 5, 3, []), (427, .goto 2370, 3, []), (430, .aload_n 1, 1, []), (431, .invokevirtual 154, 3, [1, 105, 0, 11, 520, 521, 522, 105]), (434, .aload_n 2, 1, []), (435, .invokevirtual 157, 3, [1, 150, 0, 12, 1559, 1560, 1561, 116])]),
  (454, [(438, .if_icmp .eq 2359, 3, []), (443, .aload_n 1, 1, []), (444, .aload_n 0, 1, []), (445, .iload 4, 2, []), (447, .iconst 1, 1, []), (448, .iadd, 1, []), (449, .iaload, 1, []), (450, .aload_n 0, 1, []), (451, .iload 4, 2, []), (453, .iconst 2, 1, [])]),
  (468, [(454, .iadd, 1, []), (455, .iaload, 1, []), (456, .aload_n 3, 1, []), (457, .invokestatic 158, 3, [2, 88, 4, 892, 893, 104]), (460, .istore 5, 2, []), (462, .aload_n 2, 1, []), (463, .aload_n 0, 1, []), (464, .iload 4, 2, []), (466, .iconst 1, 1, []), (467, .iadd, 1, [])]),
  (484, [(468, .iaload, 1, []), (469, .aload_n 0, 1, []), (470, .iload 4, 2, []), (472, .iconst 2, 1, []), (473, .iadd, 1, []), (474, .iaload, 1, []), (475, .invokevirtual 161, 3, [1, 186, 2, 12, 1563, 1564, 1565, 116]), (478, .istore 6, 2, []), (480, .aload_n 2, 1, []), (481, .invokevirtual 148, 3, [1, 190, 0, 12, 1450, 1451, 1452, 116])]),
  (517, [(484, .iload 5, 2, []), (486, .if_icmp .eq 5, 3, []), (491, .iload 5, 2, []), (493, .ifCond .ne 15, 3, []), (508, .goto 2289, 3, []), (511, .aload_n 1, 1, []), (512, .aload_n 0, 1, []), (513, .iload 4, 2, []), (515, .iconst 1, 1, []), (516, .iadd, 1, [])]),
  (531, [(517, .iaload, 1, []), (518, .aload_n 0, 1, []), (519, .iload 4, 2, []), (521, .iconst 2, 1, []), (522, .iadd, 1, []), (523, .iaload, 1, []), (524, .aload_n 3, 1, []), (525, .invokestatic 162, 3, [2, 54, 4, 936, 937, 104]), (528, .istore 5, 2, []), (530, .aload_n 2, 1, [])]),
  (543, [(531, .aload_n 0, 1, []), (532, .iload 4, 2, []), (534, .iconst 1, 1, []), (535, .iadd, 1, []), (536, .iaload, 1, []), (537, .aload_n 0, 1, []), (538, .iload 4, 2, []), (540, .iconst 2, 1, []), (541, .iadd, 1, []), (542, .iaload, 1, [])]),
  (580, [(543, .invokevirtual 164, 3, [1, 164, 2, 12, 1576, 1577, 1578, 116]), (546, .istore 6, 2, []), (548, .aload_n 2, 1, []), (549, .invokevirtual 148, 3, [1, 190, 0, 12, 1450, 1451, 1452, 116]), (552, .iload 5, 2, []), (554, .if_icmp .eq 5, 3, []), (559, .iload 5, 2, []), (561, .ifCond .ne 15, 3, []), (576, .goto 2221, 3, []), (579, .aload_n 1, 1, [])]),
  (592, [(580, .aload_n 0, 1, []), (581, .iload 4, 2, []), (583, .iconst 1, 1, []), (584, .iadd, 1, []), (585, .iaload, 1, []), (586, .aload_n 0, 1, []), (587, .iload 4, 2, []), (589, .iconst 2, 1, []), (590, .iadd, 1, []), (591, .iaload, 1, [])]),
  (610, [(592, .ifCond .eq 7, 3, []), (595, .iconst 1, 1, []), (596, .goto 4, 3, []), (599, .iconst 0, 1, []), (600, .aload_n 3, 1, []), (601, .invokestatic 165, 3, [2, 93, 4, 986, 987, 104]), (604, .istore 5, 2, []), (606, .aload_n 2, 1, []), (607, .aload_n 0, 1, []), (608, .iload 4, 2, [])]),
  (623, [(610, .iconst 1, 1, []), (611, .iadd, 1, []), (612, .iaload, 1, []), (613, .aload_n 0, 1, []), (614, .iload 4, 2, []), (616, .iconst 2, 1, []), (617, .iadd, 1, []), (618, .iaload, 1, []), (619, .ifCond .eq 7, 3, []), (622, .iconst 1, 1, [])]),
  (660, [(623, .goto 4, 3, []), (626, .iconst 0, 1, []), (627, .invokevirtual 168, 3, [1, 189, 2, 12, 1598, 1599, 1600, 116]), (630, .istore 6, 2, []), (632, .aload_n 2, 1, []), (633, .invokevirtual 148, 3, [1, 190, 0, 12, 1450, 1451, 1452, 116]), (636, .iload 5, 2, []), (638, .if_icmp .eq 5, 3, []), (643, .iload 5, 2, []), (645, .ifCond .ne 15, 3, [])]),
  (674, [(660, .goto 2137, 3, []), (663, .aload_n 1, 1, []), (664, .aload_n 0, 1, []), (665, .iload 4, 2, []), (667, .iconst 1, 1, []), (668, .iadd, 1, []), (669, .iaload, 1, []), (670, .aload_n 0, 1, []), (671, .iload 4, 2, []), (673, .iconst 2, 1, [])]),
  (691, [(674, .iadd, 1, []), (675, .iaload, 1, []), (676, .ifCond .eq 7, 3, []), (679, .iconst 1, 1, []), (680, .goto 4, 3, []), (683, .iconst 0, 1, []), (684, .aload_n 3, 1, []), (685, .invokestatic 169, 3, [2, 73, 4, 996, 997, 104]), (688, .istore 5, 2, []), (690, .aload_n 2, 1, [])]),
  (703, [(691, .aload_n 0, 1, []), (692, .iload 4, 2, []), (694, .iconst 1, 1, []), (695, .iadd, 1, []), (696, .iaload, 1, []), (697, .aload_n 0, 1, []), (698, .iload 4, 2, []), (700, .iconst 2, 1, []), (701, .iadd, 1, []), (702, .iaload, 1, [])]),
  (727, [(703, .ifCond .eq 7, 3, []), (706, .iconst 1, 1, []), (707, .goto 4, 3, []), (710, .iconst 0, 1, []), (711, .invokevirtual 171, 3, [1, 177, 2, 12, 1611, 1612, 1613, 116]), (714, .istore 6, 2, []), (716, .aload_n 2, 1, []), (717, .invokevirtual 148, 3, [1, 190, 0, 12, 1450, 1451, 1452, 116]), (720, .iload 5, 2, []), (722, .if_icmp .eq 5, 3, [])]),
  (755, [(727, .iload 5, 2, []), (729, .ifCond .ne 15, 3, []), (744, .goto 2053, 3, []), (747, .aload_n 1, 1, []), (748, .aload_n 0, 1, []), (749, .iload 4, 2, []), (751, .iconst 1, 1, []), (752, .iadd, 1, []), (753, .iaload, 1, []), (754, .aload_n 3, 1, [])]),
  (772, [(755, .invokestatic 172, 3, [2, 68, 3, 1006, 1007, 104]), (758, .istore 5, 2, []), (760, .aload_n 2, 1, []), (761, .aload_n 0, 1, []), (762, .iload 4, 2, []), (764, .iconst 1, 1, []), (765, .iadd, 1, []), (766, .iaload, 1, []), (767, .invokevirtual 175, 3, [1, 174, 1, 12, 1618, 1619, 1620, 116]), (770, .istore 6, 2, [])]),
  (807, [(772, .aload_n 2, 1, []), (773, .invokevirtual 148, 3, [1, 190, 0, 12, 1450, 1451, 1452, 116]), (776, .iload 5, 2, []), (778, .if_icmp .eq 5, 3, []), (783, .iload 5, 2, []), (785, .ifCond .ne 15, 3, []), (800, .goto 1997, 3, []), (803, .aload_n 1, 1, []), (804, .aload_n 0, 1, []), (805, .iload 4, 2, [])]),
  (820, [(807, .iconst 1, 1, []), (808, .iadd, 1, []), (809, .iaload, 1, []), (810, .aload_n 0, 1, []), (811, .iload 4, 2, []), (813, .iconst 2, 1, []), (814, .iadd, 1, []), (815, .iaload, 1, []), (816, .aload_n 3, 1, []), (817, .invokestatic 176, 3, [2, 98, 4, 1045, 1046, 104])]),
  (833, [(820, .istore 5, 2, []), (822, .aload_n 2, 1, []), (823, .aload_n 0, 1, []), (824, .iload 4, 2, []), (826, .iconst 1, 1, []), (827, .iadd, 1, []), (828, .iaload, 1, []), (829, .aload_n 0, 1, []), (830, .iload 4, 2, []), (832, .iconst 2, 1, [])]),
  (875, [(833, .iadd, 1, []), (834, .iaload, 1, []), (835, .invokevirtual 178, 3, [1, 192, 2, 12, 1634, 1635, 1636, 116]), (838, .istore 6, 2, []), (840, .aload_n 2, 1, []), (841, .invokevirtual 148, 3, [1, 190, 0, 12, 1450, 1451, 1452, 116]), (844, .iload 5, 2, []), (846, .if_icmp .eq 5, 3, []), (851, .iload 5, 2, []), (853, .ifCond .ne 22, 3, [])]),
  (891, [(875, .goto 1922, 3, []), (878, .aload_n 1, 1, []), (879, .aload_n 0, 1, []), (880, .iload 4, 2, []), (882, .iconst 1, 1, []), (883, .iadd, 1, []), (884, .iaload, 1, []), (885, .aload_n 3, 1, []), (886, .invokestatic 179, 3, [2, 36, 3, 1061, 1062, 104]), (889, .istore 5, 2, [])]),
  (907, [(891, .aload_n 2, 1, []), (892, .aload_n 0, 1, []), (893, .iload 4, 2, []), (895, .iconst 1, 1, []), (896, .iadd, 1, []), (897, .iaload, 1, []), (898, .invokevirtual 181, 3, [1, 153, 1, 12, 1644, 1645, 1646, 116]), (901, .istore 6, 2, []), (903, .aload_n 2, 1, []), (904, .invokevirtual 148, 3, [1, 190, 0, 12, 1450, 1451, 1452, 116])]),
  (940, [(907, .iload 5, 2, []), (909, .if_icmp .eq 5, 3, []), (914, .iload 5, 2, []), (916, .ifCond .ne 15, 3, []), (931, .goto 1866, 3, []), (934, .aload_n 1, 1, []), (935, .aload_n 0, 1, []), (936, .iload 4, 2, []), (938, .iconst 1, 1, []), (939, .iadd, 1, [])]),
  (952, [(940, .iaload, 1, []), (941, .aload_n 0, 1, []), (942, .iload 4, 2, []), (944, .iconst 2, 1, []), (945, .iadd, 1, []), (946, .iaload, 1, []), (947, .aload_n 0, 1, []), (948, .iload 4, 2, []), (950, .iconst 3, 1, []), (951, .iadd, 1, [])]),
  (966, [(952, .iaload, 1, []), (953, .aload_n 3, 1, []), (954, .invokestatic 182, 3, [2, 77, 5, 1068, 1069, 104]), (957, .istore 5, 2, []), (959, .aload_n 2, 1, []), (960, .aload_n 0, 1, []), (961, .iload 4, 2, []), (963, .iconst 1, 1, []), (964, .iadd, 1, []), (965, .iaload, 1, [])]),
  (978, [(966, .aload_n 0, 1, []), (967, .iload 4, 2, []), (969, .iconst 2, 1, []), (970, .iadd, 1, []), (971, .iaload, 1, []), (972, .aload_n 0, 1, []), (973, .iload 4, 2, []), (975, .iconst 3, 1, []), (976, .iadd, 1, []), (977, .iaload, 1, [])]),
  (1015, [(978, .invokevirtual 185, 3, [1, 181, 3, 12, 1648, 1649, 1650, 116]), (981, .istore 6, 2, []), (983, .aload_n 2, 1, []), (984, .invokevirtual 148, 3, [1, 190, 0, 12, 1450, 1451, 1452, 116]), (987, .iload 5, 2, []), (989, .if_icmp .eq 5, 3, []), (994, .iload 5, 2, []), (996, .ifCond .ne 15, 3, []), (1011, .goto 1786, 3, []), (1014, .aload_n 1, 1, [])]),
  (1027, [(1015, .aload_n 0, 1, []), (1016, .iload 4, 2, []), (1018, .iconst 1, 1, []), (1019, .iadd, 1, []), (1020, .iaload, 1, []), (1021, .aload_n 0, 1, []), (1022, .iload 4, 2, []), (1024, .iconst 2, 1, []), (1025, .iadd, 1, []), (1026, .iaload, 1, [])]),
  (1041, [(1027, .aload_n 3, 1, []), (1028, .invokestatic 186, 3, [2, 64, 4, 1078, 1079, 104]), (1031, .istore 5, 2, []), (1033, .aload_n 2, 1, []), (1034, .aload_n 0, 1, []), (1035, .iload 4, 2, []), (1037, .iconst 1, 1, []), (1038, .iadd, 1, []), (1039, .iaload, 1, []), (1040, .aload_n 0, 1, [])]),
  (1062, [(1041, .iload 4, 2, []), (1043, .iconst 2, 1, []), (1044, .iadd, 1, []), (1045, .iaload, 1, []), (1046, .invokevirtual 188, 3, [1, 172, 2, 12, 1652, 1653, 1654, 116]), (1049, .istore 6, 2, []), (1051, .aload_n 2, 1, []), (1052, .invokevirtual 148, 3, [1, 190, 0, 12, 1450, 1451, 1452, 116]), (1055, .iload 5, 2, []), (1057, .if_icmp .eq 5, 3, [])]),
  (1090, [(1062, .iload 5, 2, []), (1064, .ifCond .ne 15, 3, []), (1079, .goto 1718, 3, []), (1082, .aload_n 1, 1, []), (1083, .aload_n 0, 1, []), (1084, .iload 4, 2, []), (1086, .iconst 1, 1, []), (1087, .iadd, 1, []), (1088, .iaload, 1, []), (1089, .aload_n 3, 1, [])]),
  (1107, [(1090, .invokestatic 189, 3, [2, 66, 3, 1085, 1086, 104]), (1093, .istore 5, 2, []), (1095, .aload_n 2, 1, []), (1096, .aload_n 0, 1, []), (1097, .iload 4, 2, []), (1099, .iconst 1, 1, []), (1100, .iadd, 1, []), (1101, .iaload, 1, []), (1102, .invokevirtual 191, 3, [1, 173, 1, 12, 1656, 1657, 1658, 116]), (1105, .istore 6, 2, [])]),
  (1142, [(1107, .aload_n 2, 1, []), (1108, .invokevirtual 148, 3, [1, 190, 0, 12, 1450, 1451, 1452, 116]), (1111, .iload 5, 2, []), (1113, .if_icmp .eq 5, 3, []), (1118, .iload 5, 2, []), (1120, .ifCond .ne 15, 3, []), (1135, .goto 1662, 3, []), (1138, .aload_n 1, 1, []), (1139, .aload_n 0, 1, []), (1140, .iload 4, 2, [])]),
  (1156, [(1142, .iconst 1, 1, []), (1143, .iadd, 1, []), (1144, .iaload, 1, []), (1145, .aload_n 3, 1, []), (1146, .invokestatic 192, 3, [2, 30, 3, 1092, 1093, 104]), (1149, .istore 5, 2, []), (1151, .aload_n 2, 1, []), (1152, .aload_n 0, 1, []), (1153, .iload 4, 2, []), (1155, .iconst 1, 1, [])]),
  (1179, [(1156, .iadd, 1, []), (1157, .iaload, 1, []), (1158, .invokevirtual 194, 3, [1, 146, 1, 12, 1660, 1661, 1662, 116]), (1161, .istore 6, 2, []), (1163, .aload_n 2, 1, []), (1164, .invokevirtual 148, 3, [1, 190, 0, 12, 1450, 1451, 1452, 116]), (1167, .iload 5, 2, []), (1169, .if_icmp .eq 5, 3, []), (1174, .iload 5, 2, []), (1176, .ifCond .ne 15, 3, [])]),
  (1196, [(1179, .aload_n 3, 1, []), (1180, .iconst 0, 1, []), (1181, .laload, 1, []), (1182, .iload 6, 2, []), (1184, .i2l, 1, []), (1185, .lcmp, 1, []), (1186, .ifCond .eq 5, 3, []), (1191, .goto 1606, 3, []), (1194, .aload_n 1, 1, []), (1195, .aload_n 0, 1, [])]),
  (1208, [(1196, .iload 4, 2, []), (1198, .iconst 1, 1, []), (1199, .iadd, 1, []), (1200, .iaload, 1, []), (1201, .aload_n 0, 1, []), (1202, .iload 4, 2, []), (1204, .iconst 2, 1, []), (1205, .iadd, 1, []), (1206, .iaload, 1, []), (1207, .aload_n 0, 1, [])]),
  (1223, [(1208, .iload 4, 2, []), (1210, .iconst 3, 1, []), (1211, .iadd, 1, []), (1212, .iaload, 1, []), (1213, .aload_n 3, 1, []), (1214, .invokestatic 195, 3, [2, 2, 5, 1115, 1116, 104]), (1217, .istore 5, 2, []), (1219, .aload_n 2, 1, []), (1220, .aload_n 0, 1, []), (1221, .iload 4, 2, [])]),
  (1235, [(1223, .iconst 1, 1, []), (1224, .iadd, 1, []), (1225, .iaload, 1, []), (1226, .aload_n 0, 1, []), (1227, .iload 4, 2, []), (1229, .iconst 2, 1, []), (1230, .iadd, 1, []), (1231, .iaload, 1, []), (1232, .aload_n 0, 1, []), (1233, .iload 4, 2, [])]),
  (1256, [(1235, .iconst 3, 1, []), (1236, .iadd, 1, []), (1237, .iaload, 1, []), (1238, .invokevirtual 197, 3, [1, 128, 3, 12, 1677, 1678, 1679, 116]), (1241, .istore 6, 2, []), (1243, .aload_n 2, 1, []), (1244, .invokevirtual 148, 3, [1, 190, 0, 12, 1450, 1451, 1452, 116]), (1247, .iload 5, 2, []), (1249, .if_icmp .eq 5, 3, []), (1254, .iload 5, 2, [])]),
  (1285, [(1256, .ifCond .ne 15, 3, []), (1271, .goto 1526, 3, []), (1274, .aload_n 1, 1, []), (1275, .aload_n 0, 1, []), (1276, .iload 4, 2, []), (1278, .iconst 1, 1, []), (1279, .iadd, 1, []), (1280, .iaload, 1, []), (1281, .aload_n 3, 1, []), (1282, .invokestatic 198, 3, [2, 61, 3, 1125, 1126, 104])]),
  (1300, [(1285, .istore 5, 2, []), (1287, .aload_n 2, 1, []), (1288, .aload_n 0, 1, []), (1289, .iload 4, 2, []), (1291, .iconst 1, 1, []), (1292, .iadd, 1, []), (1293, .iaload, 1, []), (1294, .invokevirtual 200, 3, [1, 170, 1, 12, 1681, 1682, 1683, 116]), (1297, .istore 6, 2, []), (1299, .aload_n 2, 1, [])]),
  (1321, [(1300, .invokevirtual 148, 3, [1, 190, 0, 12, 1450, 1451, 1452, 116]), (1303, .iload 5, 2, []), (1305, .if_icmp .eq 5, 3, []), (1310, .iload 5, 2, []), (1312, .ifCond .ne 15, 3, []), (1315, .aload_n 3, 1, []), (1316, .iconst 0, 1, []), (1317, .laload, 1, []), (1318, .iload 6, 2, []), (1320, .i2l, 1, [])]),
  (1338, [(1321, .lcmp, 1, []), (1322, .ifCond .eq 5, 3, []), (1327, .goto 1470, 3, []), (1330, .aload_n 1, 1, []), (1331, .aload_n 0, 1, []), (1332, .iload 4, 2, []), (1334, .iconst 1, 1, []), (1335, .iadd, 1, []), (1336, .iaload, 1, []), (1337, .aload_n 3, 1, [])]),
  (1355, [(1338, .invokestatic 201, 3, [2, 25, 3, 1132, 1133, 104]), (1341, .istore 5, 2, []), (1343, .aload_n 2, 1, []), (1344, .aload_n 0, 1, []), (1345, .iload 4, 2, []), (1347, .iconst 1, 1, []), (1348, .iadd, 1, []), (1349, .iaload, 1, []), (1350, .invokevirtual 203, 3, [1, 143, 1, 12, 1685, 1686, 1687, 116]), (1353, .istore 6, 2, [])]),
  (1376, [(1355, .aload_n 2, 1, []), (1356, .invokevirtual 148, 3, [1, 190, 0, 12, 1450, 1451, 1452, 116]), (1359, .iload 5, 2, []), (1361, .if_icmp .eq 5, 3, []), (1366, .iload 5, 2, []), (1368, .ifCond .ne 15, 3, []), (1371, .aload_n 3, 1, []), (1372, .iconst 0, 1, []), (1373, .laload, 1, []), (1374, .iload 6, 2, [])]),
  (1393, [(1376, .i2l, 1, []), (1377, .lcmp, 1, []), (1378, .ifCond .eq 5, 3, []), (1383, .goto 1414, 3, []), (1386, .aload_n 1, 1, []), (1387, .aload_n 0, 1, []), (1388, .iload 4, 2, []), (1390, .iconst 1, 1, []), (1391, .iadd, 1, []), (1392, .iaload, 1, [])]),
  (1409, [(1393, .aload_n 3, 1, []), (1394, .invokestatic 204, 3, [2, 47, 3, 1139, 1140, 104]), (1397, .istore 5, 2, []), (1399, .aload_n 2, 1, []), (1400, .aload_n 0, 1, []), (1401, .iload 4, 2, []), (1403, .iconst 1, 1, []), (1404, .iadd, 1, []), (1405, .iaload, 1, []), (1406, .invokevirtual 206, 3, [1, 161, 1, 12, 1689, 1690, 1691, 116])]),
  (1444, [(1409, .istore 6, 2, []), (1411, .aload_n 2, 1, []), (1412, .invokevirtual 148, 3, [1, 190, 0, 12, 1450, 1451, 1452, 116]), (1415, .iload 5, 2, []), (1417, .if_icmp .eq 5, 3, []), (1422, .iload 5, 2, []), (1424, .ifCond .ne 15, 3, []), (1439, .goto 1358, 3, []), (1442, .aload_n 1, 1, []), (1443, .aload_n 0, 1, [])]),
  (1459, [(1444, .iload 4, 2, []), (1446, .iconst 1, 1, []), (1447, .iadd, 1, []), (1448, .iaload, 1, []), (1449, .aload_n 3, 1, []), (1450, .invokestatic 207, 3, [2, 32, 3, 1146, 1147, 104]), (1453, .istore 5, 2, []), (1455, .aload_n 2, 1, []), (1456, .aload_n 0, 1, []), (1457, .iload 4, 2, [])]),
  (1480, [(1459, .iconst 1, 1, []), (1460, .iadd, 1, []), (1461, .iaload, 1, []), (1462, .invokevirtual 209, 3, [1, 148, 1, 12, 1696, 1697, 1698, 116]), (1465, .istore 6, 2, []), (1467, .aload_n 2, 1, []), (1468, .invokevirtual 148, 3, [1, 190, 0, 12, 1450, 1451, 1452, 116]), (1471, .iload 5, 2, []), (1473, .if_icmp .eq 5, 3, []), (1478, .iload 5, 2, [])]),
  (1508, [(1480, .ifCond .ne 15, 3, []), (1495, .goto 1302, 3, []), (1498, .aload_n 1, 1, []), (1499, .aload_n 0, 1, []), (1500, .iload 4, 2, []), (1502, .iconst 1, 1, []), (1503, .iadd, 1, []), (1504, .iaload, 1, []), (1505, .aload_n 0, 1, []), (1506, .iload 4, 2, [])]),
  (1522, [(1508, .iconst 2, 1, []), (1509, .iadd, 1, []), (1510, .iaload, 1, []), (1511, .aload_n 3, 1, []), (1512, .invokestatic 210, 3, [2, 52, 4, 1153, 1154, 104]), (1515, .istore 5, 2, []), (1517, .aload_n 2, 1, []), (1518, .aload_n 0, 1, []), (1519, .iload 4, 2, []), (1521, .iconst 1, 1, [])]),
  (1536, [(1522, .iadd, 1, []), (1523, .iaload, 1, []), (1524, .aload_n 0, 1, []), (1525, .iload 4, 2, []), (1527, .iconst 2, 1, []), (1528, .iadd, 1, []), (1529, .iaload, 1, []), (1530, .invokevirtual 212, 3, [1, 163, 2, 12, 1700, 1701, 1702, 116]), (1533, .istore 6, 2, []), (1535, .aload_n 2, 1, [])]),
  (1571, [(1536, .invokevirtual 148, 3, [1, 190, 0, 12, 1450, 1451, 1452, 116]), (1539, .iload 5, 2, []), (1541, .if_icmp .eq 5, 3, []), (1546, .iload 5, 2, []), (1548, .ifCond .ne 15, 3, []), (1563, .goto 1234, 3, []), (1566, .aload_n 1, 1, []), (1567, .aload_n 0, 1, []), (1568, .iload 4, 2, []), (1570, .iconst 1, 1, [])]),
  (1585, [(1571, .iadd, 1, []), (1572, .iaload, 1, []), (1573, .aload_n 0, 1, []), (1574, .iload 4, 2, []), (1576, .iconst 2, 1, []), (1577, .iadd, 1, []), (1578, .iaload, 1, []), (1579, .aload_n 3, 1, []), (1580, .invokestatic 213, 3, [2, 56, 4, 1197, 1198, 104]), (1583, .istore 5, 2, [])]),
  (1597, [(1585, .aload_n 2, 1, []), (1586, .aload_n 0, 1, []), (1587, .iload 4, 2, []), (1589, .iconst 1, 1, []), (1590, .iadd, 1, []), (1591, .iaload, 1, []), (1592, .aload_n 0, 1, []), (1593, .iload 4, 2, []), (1595, .iconst 2, 1, []), (1596, .iadd, 1, [])]),
  (1634, [(1597, .iaload, 1, []), (1598, .invokevirtual 215, 3, [1, 166, 2, 12, 1716, 1717, 1718, 116]), (1601, .istore 6, 2, []), (1603, .aload_n 2, 1, []), (1604, .invokevirtual 148, 3, [1, 190, 0, 12, 1450, 1451, 1452, 116]), (1607, .iload 5, 2, []), (1609, .if_icmp .eq 5, 3, []), (1614, .iload 5, 2, []), (1616, .ifCond .ne 15, 3, []), (1631, .goto 1166, 3, [])]),
  (1646, [(1634, .aload_n 1, 1, []), (1635, .aload_n 0, 1, []), (1636, .iload 4, 2, []), (1638, .iconst 1, 1, []), (1639, .iadd, 1, []), (1640, .iaload, 1, []), (1641, .aload_n 0, 1, []), (1642, .iload 4, 2, []), (1644, .iconst 2, 1, []), (1645, .iadd, 1, [])]),
  (1660, [(1646, .iaload, 1, []), (1647, .aload_n 3, 1, []), (1648, .invokestatic 216, 3, [2, 90, 4, 1204, 1205, 104]), (1651, .istore 5, 2, []), (1653, .aload_n 2, 1, []), (1654, .aload_n 0, 1, []), (1655, .iload 4, 2, []), (1657, .iconst 1, 1, []), (1658, .iadd, 1, []), (1659, .iaload, 1, [])]),
  (1677, [(1660, .aload_n 0, 1, []), (1661, .iload 4, 2, []), (1663, .iconst 2, 1, []), (1664, .iadd, 1, []), (1665, .iaload, 1, []), (1666, .invokevirtual 218, 3, [1, 187, 2, 12, 1720, 1721, 1722, 116]), (1669, .istore 6, 2, []), (1671, .aload_n 2, 1, []), (1672, .invokevirtual 148, 3, [1, 190, 0, 12, 1450, 1451, 1452, 116]), (1675, .iload 5, 2, [])]),
  (1716, [(1677, .if_icmp .eq 5, 3, []), (1682, .iload 5, 2, []), (1684, .ifCond .ne 22, 3, []), (1706, .goto 1091, 3, []), (1709, .aload_n 1, 1, []), (1710, .aload_n 0, 1, []), (1711, .iload 4, 2, []), (1713, .iconst 1, 1, []), (1714, .iadd, 1, []), (1715, .iaload, 1, [])]),
  (1732, [(1716, .aload_n 3, 1, []), (1717, .invokestatic 219, 3, [2, 34, 3, 1215, 1216, 104]), (1720, .istore 5, 2, []), (1722, .aload_n 2, 1, []), (1723, .aload_n 0, 1, []), (1724, .iload 4, 2, []), (1726, .iconst 1, 1, []), (1727, .iadd, 1, []), (1728, .iaload, 1, []), (1729, .invokevirtual 221, 3, [1, 152, 1, 12, 1727, 1728, 1729, 116])]),
  (1767, [(1732, .istore 6, 2, []), (1734, .aload_n 2, 1, []), (1735, .invokevirtual 148, 3, [1, 190, 0, 12, 1450, 1451, 1452, 116]), (1738, .iload 5, 2, []), (1740, .if_icmp .eq 5, 3, []), (1745, .iload 5, 2, []), (1747, .ifCond .ne 15, 3, []), (1762, .goto 1035, 3, []), (1765, .aload_n 1, 1, []), (1766, .aload_n 0, 1, [])]),
  (1781, [(1767, .iload 4, 2, []), (1769, .iconst 1, 1, []), (1770, .iadd, 1, []), (1771, .iaload, 1, []), (1772, .aload_n 0, 1, []), (1773, .iload 4, 2, []), (1775, .iconst 2, 1, []), (1776, .iadd, 1, []), (1777, .iaload, 1, []), (1778, .ifCond .eq 7, 3, [])]),
  (1797, [(1781, .iconst 1, 1, []), (1782, .goto 4, 3, []), (1785, .iconst 0, 1, []), (1786, .aload_n 3, 1, []), (1787, .invokestatic 222, 3, [2, 19, 4, 1222, 1223, 104]), (1790, .istore 5, 2, []), (1792, .aload_n 2, 1, []), (1793, .aload_n 0, 1, []), (1794, .iload 4, 2, []), (1796, .iconst 1, 1, [])]),
  (1812, [(1797, .iadd, 1, []), (1798, .iaload, 1, []), (1799, .aload_n 0, 1, []), (1800, .iload 4, 2, []), (1802, .iconst 2, 1, []), (1803, .iadd, 1, []), (1804, .iaload, 1, []), (1805, .ifCond .eq 7, 3, []), (1808, .iconst 1, 1, []), (1809, .goto 4, 3, [])]),
  (1849, [(1812, .iconst 0, 1, []), (1813, .invokevirtual 224, 3, [1, 138, 2, 12, 1740, 1741, 1742, 116]), (1816, .istore 6, 2, []), (1818, .aload_n 2, 1, []), (1819, .invokevirtual 148, 3, [1, 190, 0, 12, 1450, 1451, 1452, 116]), (1822, .iload 5, 2, []), (1824, .if_icmp .eq 5, 3, []), (1829, .iload 5, 2, []), (1831, .ifCond .ne 15, 3, []), (1846, .goto 951, 3, [])]),
  (1863, [(1849, .aload_n 1, 1, []), (1850, .aload_n 0, 1, []), (1851, .iload 4, 2, []), (1853, .iconst 1, 1, []), (1854, .iadd, 1, []), (1855, .iaload, 1, []), (1856, .aload_n 3, 1, []), (1857, .invokestatic 225, 3, [2, 79, 3, 1233, 1234, 104]), (1860, .istore 5, 2, []), (1862, .aload_n 2, 1, [])]),
  (1880, [(1863, .aload_n 0, 1, []), (1864, .iload 4, 2, []), (1866, .iconst 1, 1, []), (1867, .iadd, 1, []), (1868, .iaload, 1, []), (1869, .invokevirtual 227, 3, [1, 182, 1, 12, 1744, 1745, 1746, 116]), (1872, .istore 6, 2, []), (1874, .aload_n 2, 1, []), (1875, .invokevirtual 148, 3, [1, 190, 0, 12, 1450, 1451, 1452, 116]), (1878, .iload 5, 2, [])]),
  (1912, [(1880, .if_icmp .eq 5, 3, []), (1885, .iload 5, 2, []), (1887, .ifCond .ne 15, 3, []), (1902, .goto 895, 3, []), (1905, .aload_n 1, 1, []), (1906, .aload_n 0, 1, []), (1907, .iload 4, 2, []), (1909, .iconst 1, 1, []), (1910, .iadd, 1, []), (1911, .iaload, 1, [])]),
  (1930, [(1912, .ifCond .eq 7, 3, []), (1915, .iconst 1, 1, []), (1916, .goto 4, 3, []), (1919, .iconst 0, 1, []), (1920, .aload_n 3, 1, []), (1921, .invokestatic 228, 3, [2, 75, 3, 1240, 1241, 104]), (1924, .istore 5, 2, []), (1926, .aload_n 2, 1, []), (1927, .aload_n 0, 1, []), (1928, .iload 4, 2, [])]),
  (1947, [(1930, .iconst 1, 1, []), (1931, .iadd, 1, []), (1932, .iaload, 1, []), (1933, .ifCond .eq 7, 3, []), (1936, .iconst 1, 1, []), (1937, .goto 4, 3, []), (1940, .iconst 0, 1, []), (1941, .invokevirtual 231, 3, [1, 180, 1, 12, 1748, 1749, 1750, 116]), (1944, .istore 6, 2, []), (1946, .aload_n 2, 1, [])]),
  (1968, [(1947, .invokevirtual 148, 3, [1, 190, 0, 12, 1450, 1451, 1452, 116]), (1950, .iload 5, 2, []), (1952, .if_icmp .eq 5, 3, []), (1957, .iload 5, 2, []), (1959, .ifCond .ne 15, 3, []), (1962, .aload_n 3, 1, []), (1963, .iconst 0, 1, []), (1964, .laload, 1, []), (1965, .iload 6, 2, []), (1967, .i2l, 1, [])]),
  (1990, [(1968, .lcmp, 1, []), (1969, .ifCond .eq 5, 3, []), (1974, .goto 823, 3, []), (1977, .aload_n 1, 1, []), (1978, .aload_n 3, 1, []), (1979, .invokestatic 232, 3, [2, 8, 2, 1262, 1263, 104]), (1982, .istore 5, 2, []), (1984, .aload_n 2, 1, []), (1985, .invokevirtual 234, 3, [1, 130, 0, 12, 1755, 1756, 1757, 116]), (1988, .istore 6, 2, [])]),
  (2011, [(1990, .aload_n 2, 1, []), (1991, .invokevirtual 148, 3, [1, 190, 0, 12, 1450, 1451, 1452, 116]), (1994, .iload 5, 2, []), (1996, .if_icmp .eq 5, 3, []), (2001, .iload 5, 2, []), (2003, .ifCond .ne 15, 3, []), (2006, .aload_n 3, 1, []), (2007, .iconst 0, 1, []), (2008, .laload, 1, []), (2009, .iload 6, 2, [])]),
  (2028, [(2011, .i2l, 1, []), (2012, .lcmp, 1, []), (2013, .ifCond .eq 5, 3, []), (2018, .goto 779, 3, []), (2021, .aload_n 1, 1, []), (2022, .aload_n 0, 1, []), (2023, .iload 4, 2, []), (2025, .iconst 1, 1, []), (2026, .iadd, 1, []), (2027, .iaload, 1, [])]),
  (2042, [(2028, .aload_n 0, 1, []), (2029, .iload 4, 2, []), (2031, .iconst 2, 1, []), (2032, .iadd, 1, []), (2033, .iaload, 1, []), (2034, .aload_n 3, 1, []), (2035, .invokestatic 235, 3, [2, 70, 4, 1272, 1273, 104]), (2038, .istore 5, 2, []), (2040, .aload_n 2, 1, []), (2041, .aload_n 0, 1, [])]),
  (2056, [(2042, .iload 4, 2, []), (2044, .iconst 1, 1, []), (2045, .iadd, 1, []), (2046, .iaload, 1, []), (2047, .aload_n 0, 1, []), (2048, .iload 4, 2, []), (2050, .iconst 2, 1, []), (2051, .iadd, 1, []), (2052, .iaload, 1, []), (2053, .invokevirtual 237, 3, [1, 175, 2, 12, 1760, 1761, 1762, 116])]),
  (2091, [(2056, .istore 6, 2, []), (2058, .aload_n 2, 1, []), (2059, .invokevirtual 148, 3, [1, 190, 0, 12, 1450, 1451, 1452, 116]), (2062, .iload 5, 2, []), (2064, .if_icmp .eq 5, 3, []), (2069, .iload 5, 2, []), (2071, .ifCond .ne 15, 3, []), (2086, .goto 711, 3, []), (2089, .aload_n 1, 1, []), (2090, .aload_n 0, 1, [])]),
  (2103, [(2091, .iload 4, 2, []), (2093, .iconst 1, 1, []), (2094, .iadd, 1, []), (2095, .iaload, 1, []), (2096, .aload_n 0, 1, []), (2097, .iload 4, 2, []), (2099, .iconst 2, 1, []), (2100, .iadd, 1, []), (2101, .iaload, 1, []), (2102, .aload_n 3, 1, [])]),
  (2118, [(2103, .invokestatic 238, 3, [2, 59, 4, 1285, 1286, 104]), (2106, .istore 5, 2, []), (2108, .aload_n 2, 1, []), (2109, .aload_n 0, 1, []), (2110, .iload 4, 2, []), (2112, .iconst 1, 1, []), (2113, .iadd, 1, []), (2114, .iaload, 1, []), (2115, .aload_n 0, 1, []), (2116, .iload 4, 2, [])]),
  (2139, [(2118, .iconst 2, 1, []), (2119, .iadd, 1, []), (2120, .iaload, 1, []), (2121, .invokevirtual 240, 3, [1, 169, 2, 12, 1770, 1771, 1772, 116]), (2124, .istore 6, 2, []), (2126, .aload_n 2, 1, []), (2127, .invokevirtual 148, 3, [1, 190, 0, 12, 1450, 1451, 1452, 116]), (2130, .iload 5, 2, []), (2132, .if_icmp .eq 5, 3, []), (2137, .iload 5, 2, [])]),
  (2158, [(2139, .ifCond .ne 15, 3, []), (2142, .aload_n 3, 1, []), (2143, .iconst 0, 1, []), (2144, .laload, 1, []), (2145, .iload 6, 2, []), (2147, .i2l, 1, []), (2148, .lcmp, 1, []), (2149, .ifCond .eq 5, 3, []), (2154, .goto 643, 3, []), (2157, .aload_n 1, 1, [])]),
  (2175, [(2158, .aload_n 0, 1, []), (2159, .iload 4, 2, []), (2161, .iconst 1, 1, []), (2162, .iadd, 1, []), (2163, .iaload, 1, []), (2164, .ifCond .eq 7, 3, []), (2167, .iconst 1, 1, []), (2168, .goto 4, 3, []), (2171, .iconst 0, 1, []), (2172, .invokevirtual 241, 3, [1, 100, 1, 11, 524, 525, 526, 105])]),
  (2190, [(2175, .aload_n 2, 1, []), (2176, .aload_n 0, 1, []), (2177, .iload 4, 2, []), (2179, .iconst 1, 1, []), (2180, .iadd, 1, []), (2181, .iaload, 1, []), (2182, .ifCond .eq 7, 3, []), (2185, .iconst 1, 1, []), (2186, .goto 4, 3, []), (2189, .iconst 0, 1, [])]),
  (2209, [(2190, .invokevirtual 244, 3, [1, 132, 1, 12, 1776, 1777, 1778, 116]), (2193, .if_icmp .eq 604, 3, []), (2198, .aload_n 1, 1, []), (2199, .aload_n 0, 1, []), (2200, .iload 4, 2, []), (2202, .iconst 1, 1, []), (2203, .iadd, 1, []), (2204, .iaload, 1, []), (2205, .aload_n 3, 1, []), (2206, .invokestatic 245, 3, [2, 84, 3, 1297, 1298, 104])]),
  (2224, [(2209, .istore 5, 2, []), (2211, .aload_n 2, 1, []), (2212, .aload_n 0, 1, []), (2213, .iload 4, 2, []), (2215, .iconst 1, 1, []), (2216, .iadd, 1, []), (2217, .iaload, 1, []), (2218, .invokevirtual 247, 3, [1, 183, 1, 12, 1780, 1781, 1782, 116]), (2221, .istore 6, 2, []), (2223, .aload_n 2, 1, [])]),
  (2245, [(2224, .invokevirtual 148, 3, [1, 190, 0, 12, 1450, 1451, 1452, 116]), (2227, .iload 5, 2, []), (2229, .if_icmp .eq 5, 3, []), (2234, .iload 5, 2, []), (2236, .ifCond .ne 15, 3, []), (2239, .aload_n 3, 1, []), (2240, .iconst 0, 1, []), (2241, .laload, 1, []), (2242, .iload 6, 2, []), (2244, .i2l, 1, [])]),
  (2271, [(2245, .lcmp, 1, []), (2246, .ifCond .eq 5, 3, []), (2251, .goto 546, 3, []), (2254, .aload_n 1, 1, []), (2255, .invokevirtual 248, 3, [1, 123, 0, 11, 531, 532, 533, 105]), (2258, .aload_n 2, 1, []), (2259, .invokevirtual 251, 3, [1, 178, 0, 12, 1790, 1791, 1792, 116]), (2262, .if_icmp .eq 535, 3, []), (2267, .aload_n 1, 1, []), (2268, .invokevirtual 252, 3, [1, 121, 0, 11, 545, 546, 547, 105])]),
  (2288, [(2271, .aload_n 2, 1, []), (2272, .invokevirtual 255, 3, [1, 165, 0, 12, 1794, 1795, 1796, 116]), (2275, .if_icmp .eq 522, 3, []), (2280, .aload_n 1, 1, []), (2281, .aload_n 0, 1, []), (2282, .iload 4, 2, []), (2284, .iconst 1, 1, []), (2285, .iadd, 1, []), (2286, .iaload, 1, []), (2287, .aload_n 3, 1, [])]),
  (2305, [(2288, .invokestatic 256, 3, [2, 38, 3, 1324, 1325, 104]), (2291, .istore 5, 2, []), (2293, .aload_n 2, 1, []), (2294, .aload_n 0, 1, []), (2295, .iload 4, 2, []), (2297, .iconst 1, 1, []), (2298, .iadd, 1, []), (2299, .iaload, 1, []), (2300, .invokevirtual 258, 3, [1, 158, 1, 12, 1798, 1799, 1800, 116]), (2303, .istore 6, 2, [])]),
  (2326, [(2305, .aload_n 2, 1, []), (2306, .invokevirtual 148, 3, [1, 190, 0, 12, 1450, 1451, 1452, 116]), (2309, .iload 5, 2, []), (2311, .if_icmp .eq 5, 3, []), (2316, .iload 5, 2, []), (2318, .ifCond .ne 15, 3, []), (2321, .aload_n 3, 1, []), (2322, .iconst 0, 1, []), (2323, .laload, 1, []), (2324, .iload 6, 2, [])]),
  (2350, [(2326, .i2l, 1, []), (2327, .lcmp, 1, []), (2328, .ifCond .eq 5, 3, []), (2333, .goto 464, 3, []), (2336, .aload_n 1, 1, []), (2337, .invokevirtual 259, 3, [1, 103, 0, 11, 549, 550, 551, 105]), (2340, .aload_n 2, 1, []), (2341, .invokevirtual 262, 3, [1, 147, 0, 12, 1802, 1803, 1804, 116]), (2344, .if_icmp .eq 453, 3, []), (2349, .aload_n 1, 1, [])]),
  (2367, [(2350, .aload_n 0, 1, []), (2351, .iload 4, 2, []), (2353, .iconst 1, 1, []), (2354, .iadd, 1, []), (2355, .iaload, 1, []), (2356, .ifCond .eq 7, 3, []), (2359, .iconst 1, 1, []), (2360, .goto 4, 3, []), (2363, .iconst 0, 1, []), (2364, .invokevirtual 263, 3, [1, 120, 1, 11, 553, 554, 555, 105])]),
  (2382, [(2367, .aload_n 2, 1, []), (2368, .aload_n 0, 1, []), (2369, .iload 4, 2, []), (2371, .iconst 1, 1, []), (2372, .iadd, 1, []), (2373, .iaload, 1, []), (2374, .ifCond .eq 7, 3, []), (2377, .iconst 1, 1, []), (2378, .goto 4, 3, []), (2381, .iconst 0, 1, [])]),
  (2400, [(2382, .invokevirtual 266, 3, [1, 157, 1, 12, 1806, 1807, 1808, 116]), (2385, .if_icmp .eq 412, 3, []), (2390, .aload_n 1, 1, []), (2391, .aload_n 0, 1, []), (2392, .iload 4, 2, []), (2394, .iconst 1, 1, []), (2395, .iadd, 1, []), (2396, .iaload, 1, []), (2397, .aload_n 0, 1, []), (2398, .iload 4, 2, [])]),
  (2417, [(2400, .iconst 2, 1, []), (2401, .iadd, 1, []), (2402, .iaload, 1, []), (2403, .ifCond .eq 7, 3, []), (2406, .iconst 1, 1, []), (2407, .goto 4, 3, []), (2410, .iconst 0, 1, []), (2411, .aload_n 3, 1, []), (2412, .invokestatic 267, 3, [2, 96, 4, 1331, 1332, 104]), (2415, .istore 5, 2, [])]),
  (2429, [(2417, .aload_n 2, 1, []), (2418, .aload_n 0, 1, []), (2419, .iload 4, 2, []), (2421, .iconst 1, 1, []), (2422, .iadd, 1, []), (2423, .iaload, 1, []), (2424, .aload_n 0, 1, []), (2425, .iload 4, 2, []), (2427, .iconst 2, 1, []), (2428, .iadd, 1, [])]),
  (2449, [(2429, .iaload, 1, []), (2430, .ifCond .eq 7, 3, []), (2433, .iconst 1, 1, []), (2434, .goto 4, 3, []), (2437, .iconst 0, 1, []), (2438, .invokevirtual 269, 3, [1, 191, 2, 12, 1810, 1811, 1812, 116]), (2441, .istore 6, 2, []), (2443, .aload_n 2, 1, []), (2444, .invokevirtual 148, 3, [1, 190, 0, 12, 1450, 1451, 1452, 116]), (2447, .iload 5, 2, [])]),
  (2471, [(2449, .if_icmp .eq 5, 3, []), (2454, .iload 5, 2, []), (2456, .ifCond .ne 15, 3, []), (2459, .aload_n 3, 1, []), (2460, .iconst 0, 1, []), (2461, .laload, 1, []), (2462, .iload 6, 2, []), (2464, .i2l, 1, []), (2465, .lcmp, 1, []), (2466, .ifCond .eq 5, 3, [])]),
  (2485, [(2471, .goto 326, 3, []), (2474, .aload_n 1, 1, []), (2475, .aload_n 0, 1, []), (2476, .iload 4, 2, []), (2478, .iconst 1, 1, []), (2479, .iadd, 1, []), (2480, .iaload, 1, []), (2481, .aload_n 0, 1, []), (2482, .iload 4, 2, []), (2484, .iconst 2, 1, [])]),
  (2502, [(2485, .iadd, 1, []), (2486, .iaload, 1, []), (2487, .ifCond .eq 7, 3, []), (2490, .iconst 1, 1, []), (2491, .goto 4, 3, []), (2494, .iconst 0, 1, []), (2495, .aload_n 3, 1, []), (2496, .invokestatic 270, 3, [2, 86, 4, 1338, 1339, 104]), (2499, .istore 5, 2, []), (2501, .aload_n 2, 1, [])]),
  (2514, [(2502, .aload_n 0, 1, []), (2503, .iload 4, 2, []), (2505, .iconst 1, 1, []), (2506, .iadd, 1, []), (2507, .iaload, 1, []), (2508, .aload_n 0, 1, []), (2509, .iload 4, 2, []), (2511, .iconst 2, 1, []), (2512, .iadd, 1, []), (2513, .iaload, 1, [])]),
  (2538, [(2514, .ifCond .eq 7, 3, []), (2517, .iconst 1, 1, []), (2518, .goto 4, 3, []), (2521, .iconst 0, 1, []), (2522, .invokevirtual 272, 3, [1, 185, 2, 12, 1814, 1815, 1816, 116]), (2525, .istore 6, 2, []), (2527, .aload_n 2, 1, []), (2528, .invokevirtual 148, 3, [1, 190, 0, 12, 1450, 1451, 1452, 116]), (2531, .iload 5, 2, []), (2533, .if_icmp .eq 5, 3, [])]),
  (2558, [(2538, .iload 5, 2, []), (2540, .ifCond .ne 15, 3, []), (2543, .aload_n 3, 1, []), (2544, .iconst 0, 1, []), (2545, .laload, 1, []), (2546, .iload 6, 2, []), (2548, .i2l, 1, []), (2549, .lcmp, 1, []), (2550, .ifCond .eq 5, 3, []), (2555, .goto 242, 3, [])]),
  (2570, [(2558, .aload_n 1, 1, []), (2559, .aload_n 0, 1, []), (2560, .iload 4, 2, []), (2562, .iconst 1, 1, []), (2563, .iadd, 1, []), (2564, .iaload, 1, []), (2565, .aload_n 0, 1, []), (2566, .iload 4, 2, []), (2568, .iconst 2, 1, []), (2569, .iadd, 1, [])]),
  (2587, [(2570, .iaload, 1, []), (2571, .ifCond .eq 7, 3, []), (2574, .iconst 1, 1, []), (2575, .goto 4, 3, []), (2578, .iconst 0, 1, []), (2579, .aload_n 3, 1, []), (2580, .invokestatic 273, 3, [2, 45, 4, 1345, 1346, 104]), (2583, .istore 5, 2, []), (2585, .aload_n 2, 1, []), (2586, .aload_n 0, 1, [])]),
  (2601, [(2587, .iload 4, 2, []), (2589, .iconst 1, 1, []), (2590, .iadd, 1, []), (2591, .iaload, 1, []), (2592, .aload_n 0, 1, []), (2593, .iload 4, 2, []), (2595, .iconst 2, 1, []), (2596, .iadd, 1, []), (2597, .iaload, 1, []), (2598, .ifCond .eq 7, 3, [])]),
  (2624, [(2601, .iconst 1, 1, []), (2602, .goto 4, 3, []), (2605, .iconst 0, 1, []), (2606, .invokevirtual 275, 3, [1, 160, 2, 12, 1818, 1819, 1820, 116]), (2609, .istore 6, 2, []), (2611, .aload_n 2, 1, []), (2612, .invokevirtual 148, 3, [1, 190, 0, 12, 1450, 1451, 1452, 116]), (2615, .iload 5, 2, []), (2617, .if_icmp .eq 5, 3, []), (2622, .iload 5, 2, [])]),
  (2652, [(2624, .ifCond .ne 15, 3, []), (2639, .goto 158, 3, []), (2642, .aload_n 1, 1, []), (2643, .aload_n 0, 1, []), (2644, .iload 4, 2, []), (2646, .iconst 1, 1, []), (2647, .iadd, 1, []), (2648, .iaload, 1, []), (2649, .aload_n 0, 1, []), (2650, .iload 4, 2, [])]),
  (2666, [(2652, .iconst 2, 1, []), (2653, .iadd, 1, []), (2654, .iaload, 1, []), (2655, .aload_n 3, 1, []), (2656, .invokestatic 276, 3, [2, 50, 4, 1356, 1357, 104]), (2659, .istore 5, 2, []), (2661, .aload_n 2, 1, []), (2662, .aload_n 0, 1, []), (2663, .iload 4, 2, []), (2665, .iconst 1, 1, [])]),
  (2680, [(2666, .iadd, 1, []), (2667, .iaload, 1, []), (2668, .aload_n 0, 1, []), (2669, .iload 4, 2, []), (2671, .iconst 2, 1, []), (2672, .iadd, 1, []), (2673, .iaload, 1, []), (2674, .invokevirtual 278, 3, [1, 162, 2, 12, 1825, 1826, 1827, 116]), (2677, .istore 6, 2, []), (2679, .aload_n 2, 1, [])]),
  (2701, [(2680, .invokevirtual 148, 3, [1, 190, 0, 12, 1450, 1451, 1452, 116]), (2683, .iload 5, 2, []), (2685, .if_icmp .eq 5, 3, []), (2690, .iload 5, 2, []), (2692, .ifCond .ne 15, 3, []), (2695, .aload_n 3, 1, []), (2696, .iconst 0, 1, []), (2697, .laload, 1, []), (2698, .iload 6, 2, []), (2700, .i2l, 1, [])]),
  (2720, [(2701, .lcmp, 1, []), (2702, .ifCond .eq 5, 3, []), (2707, .goto 90, 3, []), (2710, .aload_n 1, 1, []), (2711, .aload_n 0, 1, []), (2712, .iload 4, 2, []), (2714, .iconst 1, 1, []), (2715, .iadd, 1, []), (2716, .iaload, 1, []), (2717, .invokevirtual 279, 3, [1, 124, 1, 11, 561, 562, 563, 105])]),
  (2739, [(2720, .aload_n 2, 1, []), (2721, .aload_n 0, 1, []), (2722, .iload 4, 2, []), (2724, .iconst 1, 1, []), (2725, .iadd, 1, []), (2726, .iaload, 1, []), (2727, .invokevirtual 282, 3, [1, 179, 1, 12, 1829, 1830, 1831, 116]), (2730, .if_icmp .eq 67, 3, []), (2735, .aload_n 1, 1, []), (2736, .invokevirtual 283, 3, [1, 125, 0, 11, 565, 566, 567, 105])]),
  (2763, [(2739, .aload_n 2, 1, []), (2740, .invokevirtual 287, 3, [1, 193, 0, 12, 1833, 1834, 1835, 116]), (2743, .if_icmp .eq 54, 3, []), (2748, .aload_n 1, 1, []), (2749, .invokevirtual 288, 3, [1, 108, 0, 11, 589, 590, 591, 105]), (2752, .aload_n 2, 1, []), (2753, .invokevirtual 291, 3, [1, 154, 0, 12, 1837, 1838, 1839, 116]), (2756, .goto 41, 3, []), (2759, .aload_n 1, 1, []), (2760, .invokevirtual 292, 3, [1, 99, 0, 11, 598, 599, 600, 105])]),
  (2782, [(2763, .aload_n 2, 1, []), (2764, .invokevirtual 295, 3, [1, 131, 0, 12, 1841, 1842, 1843, 116]), (2767, .if_icmp .eq 30, 3, []), (2772, .aload_n 1, 1, []), (2773, .aload_n 0, 1, []), (2774, .iload 4, 2, []), (2776, .iconst 1, 1, []), (2777, .iadd, 1, []), (2778, .iaload, 1, []), (2779, .invokevirtual 296, 3, [1, 102, 1, 11, 602, 603, 604, 105])]),
  (2803, [(2782, .aload_n 2, 1, []), (2783, .aload_n 0, 1, []), (2784, .iload 4, 2, []), (2786, .iconst 1, 1, []), (2787, .iadd, 1, []), (2788, .iaload, 1, []), (2789, .invokevirtual 299, 3, [1, 144, 1, 12, 1845, 1846, 1847, 116]), (2792, .if_icmp .eq 5, 3, []), (2797, .iinc 4 6, 3, []), (2800, .goto (-2777), 3, [])]),
  (2805, [(2803, .iconst 1, 1, []), (2804, .ireturn, 1, [])])], 2048, 600002, 7302232, 84000)
noncomputable def em_l : List (List es_M) := [[em_0, em_1, em_2, em_3, em_4, em_5, em_6, em_7, em_8, em_9, em_10, em_11, em_12, em_13],
  [em_14, em_15, em_16, em_17, em_18, em_19, em_20, em_21, em_22, em_23, em_24, em_25, em_26, em_27],
  [em_28, em_29, em_30, em_31, em_32, em_33, em_34, em_35, em_36, em_37, em_38, em_39, em_40, em_41],
  [em_42, em_43, em_44, em_45, em_46, em_47, em_48, em_49, em_50, em_51, em_52, em_53, em_54, em_55],
  [em_56, em_57, em_58, em_59, em_60, em_61, em_62, em_63, em_64, em_65, em_66, em_67, em_68, em_69],
  [em_70, em_71, em_72, em_73, em_74, em_75, em_76, em_77, em_78, em_79, em_80, em_81, em_82, em_83],
  [em_84, em_85, em_86, em_87, em_88, em_89, em_90, em_91, em_92, em_93, em_94, em_95, em_96, em_97],
  [em_98, em_99, em_100, em_101, em_102, em_103, em_104, em_105, em_106, em_107, em_108, em_109, em_110, em_111],
  [em_112, em_113, em_114, em_115, em_116, em_117, em_118, em_119, em_120, em_121, em_122, em_123, em_124, em_125],
  [em_126, em_127, em_128, em_129, em_130, em_131, em_132, em_133, em_134, em_135, em_136, em_137, em_138, em_139],
  [em_140, em_141, em_142, em_143, em_144, em_145, em_146, em_147, em_148, em_149, em_150, em_151, em_152, em_153],
  [em_154, em_155, em_156, em_157, em_158, em_159, em_160, em_161, em_162, em_163, em_164, em_165, em_166, em_167],
  [em_168, em_169, em_170, em_171, em_172, em_173, em_174, em_175, em_176, em_177, em_178, em_179, em_180, em_181],
  [em_182, em_183, em_184, em_185, em_186, em_187, em_188, em_189, em_190, em_191, em_192, em_193, em_194]]
noncomputable def es_ME (n : Nat) : es_M := match em_l[n / 14]? with
  | some r => match r[n % 14]? with
    | some x => x
    | none => em_0
  | none => em_0
end
section
def ec_0 : List (Nat × List (Nat × es_C)) := [(16, [(0, 1, 1, 1), (1, 15, 15, 2), (4, 1, 1, 1), (5, 2, 0, 1), (6, 18, 11, 5), (9, 18, 2, 4), (12, 16, 26, 2)])]
def ec_1 : List (Nat × List (Nat × es_C)) := [(3, [(0, 2, 0, 1), (1, 1, 1, 1)])]
def ec_2 : List (Nat × List (Nat × es_C)) := [(19, [(0, 2, 4, 2), (2, 3, 0, 1), (3, 2, 0, 1), (4, 1, 1, 1), (5, 1, 2, 1), (6, 1, 3, 1), (17, 3, 1, 1), (18, 17, 0, 0)])]
def ec_3 : List (Nat × List (Nat × es_C)) := [(60, [(2, 3, 1, 1), (16, 3, 2, 1), (26, 3, 4, 1), (36, 3, 8, 2), (43, 3, 16, 2), (50, 3, 32, 2), (57, 3, 127, 2), (59, 10, 0, 0)]), (61, [(60, 17, 0, 0)])]
def ec_4 : List (Nat × List (Nat × es_C)) := [(58, [(0, 3, 0, 1), (1, 4, 3, 1), (2, 1, 3, 1), (3, 3, 1, 1), (4, 7, 0, 0), (5, 1, 2, 1), (6, 16, 57, 3), (57, 3, 1, 1)]), (59, [(58, 17, 0, 0)])]
def ec_5 : List (Nat × List (Nat × es_C)) := [(15, [(0, 1, 1, 1), (1, 3, 40, 2), (3, 16, 12, 4), (6, 1, 1, 1), (7, 3, 2, 1), (8, 14, 0, 0), (9, 15, 14, 0), (14, 3, 0, 1)]), (67, [(15, 4, 2, 1), (16, 1, 2, 1), (17, 3, 1, 1), (18, 7, 0, 0), (19, 1, 1, 1), (20, 16, 65, 3), (65, 3, 1, 1), (66, 17, 0, 0)])]
def ec_6 : List (Nat × List (Nat × es_C)) := [(17, [(0, 2, 0, 1), (1, 18, 11, 0), (4, 18, 10, 1), (7, 4, 1, 1), (8, 2, 0, 1), (9, 18, 11, 0), (12, 3, 0, 1), (16, 2, 0, 1)]), (48, [(17, 1, 1, 1), (21, 15, 35, 1), (37, 3, 1, 1), (38, 4, 4, 2), (40, 1, 4, 2), (42, 3, 64, 2), (44, 16, 70, 3), (47, 2, 0, 1)]), (72, [(48, 1, 4, 2), (50, 1, 1, 1), (54, 15, 64, 0), (59, 1, 4, 2), (64, 5, 4, 1), (67, 6, 40, 0), (71, 17, 0, 0)])]
def ec_7 : List (Nat × List (Nat × es_C)) := [(19, [(0, 2, 0, 1), (9, 4, 3, 1), (10, 3, 4294967295, 1), (11, 4, 4, 2), (13, 3, 4294967295, 1), (14, 4, 5, 2), (16, 3, 0, 1), (17, 4, 6, 2)]), (86, [(19, 1, 6, 2), (21, 2, 0, 1), (22, 18, 11, 4), (25, 18, 0, 6), (28, 16, 83, 3), (83, 1, 4, 2), (85, 17, 0, 0)])]
def ec_8 : List (Nat × List (Nat × es_C)) := [(16, [(0, 2, 1, 1), (1, 3, 0, 1), (2, 2, 0, 1), (8, 6, 14, 0), (14, 3, 0, 1), (15, 17, 0, 0)])]
def ec_9 : List (Nat × List (Nat × es_C)) := [(16, [(0, 2, 1, 1), (1, 18, 0, 0), (4, 3, 0, 1), (5, 2, 0, 1), (6, 18, 0, 0), (9, 3, 0, 1), (10, 3, 8, 2), (15, 2, 1, 1)]), (34, [(16, 18, 0, 1), (19, 3, 0, 1), (20, 2, 0, 1), (21, 18, 0, 1), (24, 3, 0, 1), (25, 3, 8, 2), (30, 2, 1, 1), (31, 18, 0, 2)]), (50, [(34, 3, 0, 1), (35, 2, 0, 1), (36, 18, 0, 2), (39, 3, 0, 1), (40, 3, 8, 2), (45, 2, 1, 1), (46, 18, 0, 3), (49, 3, 0, 1)]), (66, [(50, 2, 0, 1), (51, 18, 0, 3), (54, 3, 0, 1), (55, 3, 6, 2), (60, 2, 1, 1), (61, 18, 0, 4), (64, 3, 0, 1), (65, 2, 0, 1)]), (85, [(66, 18, 0, 4), (69, 3, 0, 1), (70, 3, 6, 2), (75, 2, 0, 1), (76, 2, 1, 1), (77, 18, 0, 5), (83, 2, 0, 1), (84, 2, 1, 1)]), (108, [(85, 18, 0, 6), (91, 2, 0, 1), (92, 2, 1, 1), (93, 18, 0, 7), (99, 2, 0, 1), (100, 2, 1, 1), (101, 18, 0, 8), (107, 2, 0, 1)]), (131, [(108, 2, 1, 1), (109, 18, 0, 9), (115, 2, 0, 1), (116, 2, 1, 1), (117, 18, 0, 10), (123, 2, 0, 1), (124, 2, 1, 1), (125, 18, 0, 11)]), (132, [(131, 17, 0, 0)])]
def ec_10 : List (Nat × List (Nat × es_C)) := [(13, [(0, 2, 0, 1), (1, 18, 10, 2), (4, 15, 11, 1), (7, 3, 1, 1), (8, 6, 12, 0), (12, 17, 0, 0)])]
def ec_11 : List (Nat × List (Nat × es_C)) := [(46, [(0, 2, 0, 1), (1, 2, 0, 1), (2, 18, 10, 4), (8, 2, 0, 1), (9, 18, 10, 3), (12, 2, 0, 1), (13, 18, 10, 1), (16, 16, 46, 3)]), (65, [(46, 2, 0, 1), (47, 2, 0, 1), (48, 18, 10, 3), (54, 2, 0, 1), (55, 18, 10, 3), (58, 2, 0, 1), (59, 18, 10, 1), (62, 16, 71, 2)]), (71, [(65, 2, 0, 1), (66, 3, 0, 1), (70, 17, 0, 0)])]
def ec_12 : List (Nat × List (Nat × es_C)) := [(10, [(0, 2, 0, 1), (1, 3, 0, 1), (5, 2, 0, 1), (9, 17, 0, 0)])]
def ec_13 : List (Nat × List (Nat × es_C)) := [(19, [(0, 2, 0, 1), (1, 18, 1, 0), (7, 2, 0, 1), (8, 18, 1, 0), (14, 15, 19, 0), (17, 3, 1, 1), (18, 17, 0, 0)])]
def ec_14 : List (Nat × List (Nat × es_C)) := [(18, [(0, 2, 0, 1), (1, 2, 1, 1), (2, 18, 7, 0), (8, 2, 0, 1), (9, 2, 1, 1), (10, 18, 7, 1), (16, 2, 0, 1), (17, 2, 1, 1)]), (41, [(18, 18, 7, 2), (24, 2, 0, 1), (25, 2, 1, 1), (26, 18, 7, 3), (32, 2, 0, 1), (33, 2, 1, 1), (34, 18, 7, 4), (40, 2, 0, 1)]), (49, [(41, 2, 1, 1), (42, 18, 7, 5), (48, 17, 0, 0)])]
def ec_15 : List (Nat × List (Nat × es_C)) := [(14, [(0, 3, 0, 1), (1, 4, 2, 1), (2, 1, 2, 1), (3, 3, 6, 2), (5, 16, 29, 3), (8, 2, 0, 1), (9, 18, 2, 0), (12, 1, 2, 1)]), (34, [(14, 2, 1, 1), (15, 18, 2, 0), (18, 1, 2, 1), (23, 5, 2, 1), (26, 6, 2, 0), (29, 2, 1, 1), (30, 18, 2, 1), (33, 3, 0, 1)]), (50, [(34, 2, 0, 1), (35, 18, 2, 1), (38, 3, 0, 1), (39, 3, 6, 2), (44, 2, 1, 1), (45, 18, 2, 2), (48, 3, 0, 1), (49, 2, 0, 1)]), (69, [(50, 18, 2, 2), (53, 3, 0, 1), (54, 3, 6, 2), (59, 2, 0, 1), (60, 2, 1, 1), (61, 18, 2, 4), (67, 2, 0, 1), (68, 2, 1, 1)]), (92, [(69, 18, 2, 5), (75, 2, 0, 1), (76, 2, 1, 1), (77, 18, 2, 6), (83, 2, 0, 1), (84, 2, 1, 1), (85, 18, 2, 7), (91, 2, 0, 1)]), (108, [(92, 2, 1, 1), (93, 18, 2, 8), (99, 2, 0, 1), (100, 2, 1, 1), (101, 18, 2, 9), (107, 17, 0, 0)])]
def ec_16 : List (Nat × List (Nat × es_C)) := [(22, [(0, 2, 0, 1), (1, 18, 11, 8), (4, 2, 0, 1), (5, 18, 11, 4), (11, 2, 0, 1), (12, 18, 11, 9), (15, 2, 0, 1), (16, 18, 11, 5)]), (39, [(22, 2, 0, 1), (23, 18, 11, 2), (26, 2, 0, 1), (27, 18, 11, 8), (30, 2, 0, 1), (31, 18, 11, 9), (37, 4, 1, 1), (38, 2, 0, 1)]), (66, [(39, 1, 1, 1), (40, 15, 47, 0), (43, 3, 4294967295, 1), (44, 6, 54, 0), (57, 2, 0, 1), (58, 18, 11, 0), (61, 3, 0, 1), (65, 1, 1, 1)]), (105, [(66, 15, 79, 1), (79, 2, 0, 1), (80, 18, 11, 4), (83, 18, 0, 10), (86, 3, 12, 2), (88, 16, 101, 2), (101, 2, 0, 1), (102, 18, 11, 4)]), (126, [(105, 2, 0, 1), (106, 18, 11, 8), (112, 2, 0, 1), (113, 18, 11, 4), (117, 18, 0, 10), (120, 3, 1, 1), (121, 7, 0, 0), (125, 2, 0, 1)]), (148, [(126, 18, 11, 5), (129, 2, 0, 1), (130, 18, 11, 9), (136, 2, 0, 1), (137, 3, 0, 1), (141, 2, 0, 1), (142, 18, 11, 4), (145, 18, 0, 10)]), (149, [(148, 17, 0, 0)])]
def ec_17 : List (Nat × List (Nat × es_C)) := [(19, [(0, 2, 1, 1), (1, 3, 0, 1), (2, 2, 0, 1), (8, 6, 17, 0), (17, 3, 0, 1), (18, 17, 0, 0)])]
def ec_18 : List (Nat × List (Nat × es_C)) := [(3, [(0, 2, 0, 1), (1, 1, 1, 1)])]
def ec_19 : List (Nat × List (Nat × es_C)) := [(17, [(0, 2, 3, 1), (1, 3, 0, 1), (2, 2, 0, 1), (3, 1, 1, 1), (4, 1, 2, 1), (15, 3, 1, 1), (16, 17, 0, 0)])]
def ec_20 : List (Nat × List (Nat × es_C)) := [(37, [(0, 3, 0, 1), (1, 4, 2, 1), (2, 3, 0, 1), (3, 4, 3, 1), (4, 1, 3, 1), (5, 2, 0, 1), (6, 18, 2, 4), (9, 16, 37, 3)]), (39, [(37, 1, 2, 1), (38, 17, 0, 0)])]
def ec_21 : List (Nat × List (Nat × es_C)) := [(66, [(0, 3, 0, 1), (1, 4, 4, 2), (3, 3, 0, 1), (4, 4, 5, 2), (6, 1, 5, 2), (8, 2, 0, 1), (9, 18, 2, 4), (12, 16, 66, 3)]), (85, [(66, 2, 0, 1), (69, 2, 0, 1), (70, 18, 2, 9), (73, 9, 0, 0), (74, 3, 12345, 3), (77, 7, 0, 0), (81, 2, 0, 1), (82, 18, 2, 9)]), (99, [(85, 3, 16, 2), (87, 13, 0, 0), (88, 3, 32767, 3), (91, 10, 0, 0), (92, 4, 5, 2), (94, 1, 5, 2), (96, 3, 100, 2), (98, 14, 0, 0)]), (133, [(99, 1, 3, 1), (100, 16, 128, 3), (103, 2, 0, 1), (104, 3, 0, 1), (108, 15, 128, 0), (128, 2, 0, 1), (129, 3, 9999, 3), (132, 2, 0, 1)]), (147, [(133, 18, 2, 8), (136, 3, 1, 1), (137, 7, 0, 0), (144, 1, 4, 2), (146, 17, 0, 0)])]
def ec_22 : List (Nat × List (Nat × es_C)) := [(20, [(0, 2, 0, 1), (1, 18, 11, 9), (4, 2, 0, 1), (5, 18, 11, 5), (11, 2, 0, 1), (12, 18, 11, 9), (15, 1, 3, 1), (19, 3, 0, 1)]), (37, [(20, 4, 4, 2), (24, 1, 1, 1), (25, 16, 51, 3), (28, 2, 0, 1), (29, 18, 11, 9), (32, 2, 0, 1), (33, 18, 11, 4), (36, 2, 0, 1)]), (52, [(37, 18, 11, 1), (40, 1, 2, 1), (48, 6, 22, 0), (51, 17, 0, 0)])]
def ec_23 : List (Nat × List (Nat × es_C)) := [(22, [(0, 1, 1, 1), (1, 1, 2, 1), (2, 16, 10, 2), (5, 1, 1, 1), (6, 1, 3, 1), (7, 16, 21, 5), (21, 17, 0, 0)])]
def ec_24 : List (Nat × List (Nat × es_C)) := [(13, [(0, 2, 0, 1), (1, 1, 1, 1), (2, 3, 0, 1), (3, 3, 200, 3), (9, 2, 0, 1), (10, 1, 1, 1), (11, 3, 0, 1), (12, 2, 0, 1)]), (30, [(13, 18, 11, 5), (16, 18, 2, 9), (22, 2, 0, 1), (23, 18, 11, 9), (26, 18, 2, 6), (29, 17, 0, 0)])]
def ec_25 : List (Nat × List (Nat × es_C)) := [(16, [(0, 2, 2, 1), (1, 3, 0, 1), (2, 2, 0, 1), (3, 1, 1, 1), (9, 6, 15, 0), (13, 3, 1, 1), (14, 17, 0, 0), (15, 3, 0, 1)]), (17, [(16, 17, 0, 0)])]
def ec_26 : List (Nat × List (Nat × es_C)) := [(18, [(0, 2, 1, 1), (1, 18, 6, 0), (4, 3, 0, 1), (5, 2, 0, 1), (6, 18, 6, 0), (9, 3, 0, 1), (10, 2, 0, 1), (11, 18, 6, 0)]), (27, [(18, 2, 0, 1), (19, 2, 1, 1), (20, 18, 6, 1), (26, 17, 0, 0)])]
def ec_27 : List (Nat × List (Nat × es_C)) := [(17, [(0, 2, 0, 1), (1, 2, 1, 1), (5, 2, 0, 1), (6, 18, 2, 3), (9, 2, 1, 1), (10, 18, 2, 3), (16, 17, 0, 0)])]
def ec_28 : List (Nat × List (Nat × es_C)) := [(14, [(0, 2, 0, 1), (1, 2, 0, 1), (2, 18, 11, 13), (5, 3, 1, 1), (6, 7, 0, 0), (7, 3, 12, 2), (9, 14, 0, 0), (13, 2, 0, 1)]), (33, [(14, 18, 11, 12), (17, 2, 0, 1), (18, 18, 11, 13), (22, 2, 0, 1), (23, 18, 11, 5), (29, 2, 0, 1), (30, 3, 12, 2), (32, 2, 0, 1)]), (45, [(33, 18, 11, 14), (36, 3, 1, 1), (37, 7, 0, 0), (44, 17, 0, 0)])]
def ec_29 : List (Nat × List (Nat × es_C)) := [(16, [(0, 2, 0, 1), (1, 1, 1, 1), (2, 3, 1, 1), (3, 3, 200, 3), (9, 2, 0, 1), (13, 3, 0, 1), (14, 4, 2, 1), (15, 3, 0, 1)]), (31, [(16, 4, 3, 1), (18, 1, 1, 1), (19, 16, 53, 3), (22, 1, 2, 1), (23, 2, 0, 1), (24, 18, 11, 5), (27, 2, 0, 1), (28, 18, 11, 4)]), (53, [(31, 2, 0, 1), (32, 18, 11, 1), (35, 2, 0, 1), (36, 18, 11, 4), (39, 18, 0, 8), (45, 7, 0, 0), (46, 4, 2, 1), (50, 6, 17, 0)]), (55, [(53, 1, 2, 1), (54, 17, 0, 0)])]
def ec_30 : List (Nat × List (Nat × es_C)) := [(16, [(0, 2, 2, 1), (1, 3, 0, 1), (2, 2, 0, 1), (3, 1, 1, 1), (9, 6, 15, 0), (13, 3, 1, 1), (14, 17, 0, 0), (15, 3, 0, 1)]), (17, [(16, 17, 0, 0)])]
def ec_31 : List (Nat × List (Nat × es_C)) := [(3, [(0, 2, 0, 1), (1, 1, 1, 1)])]
def ec_32 : List (Nat × List (Nat × es_C)) := [(15, [(0, 2, 2, 1), (1, 3, 0, 1), (2, 2, 0, 1), (3, 1, 1, 1), (13, 3, 1, 1), (14, 17, 0, 0)])]
def ec_33 : List (Nat × List (Nat × es_C)) := [(3, [(0, 2, 0, 1), (1, 1, 1, 1)])]
def ec_34 : List (Nat × List (Nat × es_C)) := [(15, [(0, 2, 2, 1), (1, 3, 0, 1), (2, 2, 0, 1), (3, 1, 1, 1), (13, 3, 1, 1), (14, 17, 0, 0)])]
def ec_35 : List (Nat × List (Nat × es_C)) := [(3, [(0, 2, 0, 1), (1, 1, 1, 1)])]
def ec_36 : List (Nat × List (Nat × es_C)) := [(15, [(0, 2, 2, 1), (1, 3, 0, 1), (2, 2, 0, 1), (3, 1, 1, 1), (13, 3, 1, 1), (14, 17, 0, 0)])]
def ec_37 : List (Nat × List (Nat × es_C)) := [(11, [(0, 2, 0, 1), (1, 1, 1, 1), (2, 3, 0, 1), (3, 3, 5, 1), (7, 3, 0, 1), (8, 4, 2, 1), (9, 3, 0, 1), (10, 4, 3, 1)]), (51, [(11, 1, 3, 1), (12, 2, 0, 1), (13, 18, 11, 5), (16, 18, 2, 4), (19, 16, 49, 3), (49, 1, 2, 1), (50, 17, 0, 0)])]
def ec_38 : List (Nat × List (Nat × es_C)) := [(16, [(0, 2, 2, 1), (1, 3, 0, 1), (2, 2, 0, 1), (3, 1, 1, 1), (9, 6, 15, 0), (13, 3, 1, 1), (14, 17, 0, 0), (15, 3, 0, 1)]), (17, [(16, 17, 0, 0)])]
def ec_39 : List (Nat × List (Nat × es_C)) := [(22, [(0, 1, 1, 1), (1, 2, 0, 1), (3, 16, 14, 1), (14, 1, 1, 1), (18, 2, 0, 1), (19, 3, 0, 1), (20, 2, 2, 1), (21, 3, 0, 1)]), (33, [(22, 2, 0, 1), (24, 1, 1, 1), (31, 2, 2, 1), (32, 17, 0, 0)])]
def ec_40 : List (Nat × List (Nat × es_C)) := [(15, [(0, 2, 0, 1), (4, 2, 0, 1), (5, 1, 1, 1), (9, 2, 0, 1), (10, 2, 2, 1), (14, 17, 0, 0)])]
def ec_41 : List (Nat × List (Nat × es_C)) := [(27, [(0, 2, 0, 1), (1, 3, 0, 1), (5, 2, 0, 1), (6, 18, 5, 0), (12, 2, 0, 1), (13, 18, 5, 0), (19, 15, 39, 0), (26, 3, 0, 1)]), (39, [(27, 2, 0, 1), (28, 18, 5, 1), (31, 3, 0, 1), (38, 17, 0, 0)])]
def ec_42 : List (Nat × List (Nat × es_C)) := [(31, [(0, 2, 0, 1), (1, 18, 11, 3), (8, 2, 0, 1), (9, 2, 1, 1), (13, 3, 4294967295, 1), (14, 6, 24, 0), (27, 2, 0, 1), (28, 18, 11, 0)]), (63, [(31, 3, 0, 1), (35, 2, 1, 1), (49, 2, 0, 1), (50, 18, 11, 4), (53, 2, 1, 1), (57, 2, 0, 1), (58, 3, 0, 1), (62, 2, 1, 1)]), (67, [(63, 18, 4, 0), (66, 17, 0, 0)])]
def ec_43 : List (Nat × List (Nat × es_C)) := [(16, [(0, 2, 1, 1), (1, 3, 0, 1), (2, 2, 0, 1), (8, 6, 14, 0), (14, 3, 0, 1), (15, 17, 0, 0)])]
def ec_44 : List (Nat × List (Nat × es_C)) := [(3, [(0, 2, 0, 1), (1, 1, 1, 1)])]
def ec_45 : List (Nat × List (Nat × es_C)) := [(17, [(0, 2, 3, 1), (1, 3, 0, 1), (2, 2, 0, 1), (3, 1, 1, 1), (4, 1, 2, 1), (15, 3, 1, 1), (16, 17, 0, 0)])]
def ec_46 : List (Nat × List (Nat × es_C)) := [(3, [(0, 2, 0, 1), (1, 1, 1, 1)])]
def ec_47 : List (Nat × List (Nat × es_C)) := [(15, [(0, 2, 2, 1), (1, 3, 0, 1), (2, 2, 0, 1), (3, 1, 1, 1), (13, 3, 1, 1), (14, 17, 0, 0)])]
def ec_48 : List (Nat × List (Nat × es_C)) := [(23, [(0, 1, 1, 1), (1, 15, 21, 2), (4, 1, 1, 1), (5, 2, 0, 1), (6, 18, 6, 1), (9, 16, 21, 3), (21, 3, 4294967295, 1), (22, 17, 0, 0)])]
def ec_49 : List (Nat × List (Nat × es_C)) := [(26, [(0, 1, 2, 1), (1, 15, 9, 2), (4, 1, 2, 1), (5, 3, 4, 1), (6, 16, 19, 2), (19, 2, 0, 1), (20, 18, 11, 5), (23, 18, 2, 3)]), (32, [(26, 1, 1, 1), (27, 1, 2, 1), (31, 17, 0, 0)])]
def ec_50 : List (Nat × List (Nat × es_C)) := [(17, [(0, 2, 3, 1), (1, 3, 0, 1), (2, 2, 0, 1), (3, 1, 1, 1), (4, 1, 2, 1), (10, 6, 17, 0), (15, 3, 1, 1), (16, 17, 0, 0)]), (19, [(17, 3, 0, 1), (18, 17, 0, 0)])]
def ec_51 : List (Nat × List (Nat × es_C)) := [(3, [(0, 2, 0, 1), (1, 1, 1, 1)])]
def ec_52 : List (Nat × List (Nat × es_C)) := [(17, [(0, 2, 3, 1), (1, 3, 0, 1), (2, 2, 0, 1), (3, 1, 1, 1), (4, 1, 2, 1), (15, 3, 1, 1), (16, 17, 0, 0)])]
def ec_53 : List (Nat × List (Nat × es_C)) := [(3, [(0, 2, 0, 1), (1, 1, 1, 1)])]
def ec_54 : List (Nat × List (Nat × es_C)) := [(17, [(0, 2, 3, 1), (1, 3, 0, 1), (2, 2, 0, 1), (3, 1, 1, 1), (4, 1, 2, 1), (15, 3, 1, 1), (16, 17, 0, 0)])]
def ec_55 : List (Nat × List (Nat × es_C)) := [(3, [(0, 2, 0, 1), (1, 1, 1, 1)])]
def ec_56 : List (Nat × List (Nat × es_C)) := [(17, [(0, 2, 3, 1), (1, 3, 0, 1), (2, 2, 0, 1), (3, 1, 1, 1), (4, 1, 2, 1), (15, 3, 1, 1), (16, 17, 0, 0)])]
def ec_57 : List (Nat × List (Nat × es_C)) := [(18, [(2, 3, 0, 1), (3, 4, 5, 2), (5, 1, 5, 2), (7, 1, 2, 1), (8, 16, 31, 3), (12, 1, 1, 1), (13, 1, 5, 2), (15, 8, 0, 0)]), (36, [(18, 1, 5, 2), (20, 3, 1, 1), (21, 7, 0, 0), (25, 5, 5, 1), (28, 6, 5, 0), (31, 3, 0, 1), (32, 4, 5, 2), (34, 1, 5, 2)]), (55, [(36, 1, 1, 1), (37, 16, 77, 3), (41, 1, 5, 2), (43, 1, 2, 1), (44, 16, 58, 3), (47, 2, 0, 1), (48, 18, 11, 4), (51, 18, 0, 8)]), (78, [(55, 6, 69, 0), (58, 3, 100, 2), (60, 2, 0, 1), (61, 18, 11, 4), (64, 18, 0, 8), (67, 8, 0, 0), (71, 5, 5, 1), (74, 6, 34, 0)]), (79, [(78, 17, 0, 0)])]
def ec_58 : List (Nat × List (Nat × es_C)) := [(19, [(0, 2, 0, 1), (1, 1, 1, 1), (2, 3, 0, 1), (3, 3, 5, 1), (7, 2, 0, 1), (8, 1, 2, 1), (9, 3, 0, 1), (10, 3, 5, 1)]), (43, [(19, 3, 0, 1), (20, 4, 7, 2), (22, 1, 7, 2), (24, 1, 1, 1), (25, 16, 42, 3), (36, 5, 7, 1), (39, 6, 22, 0), (42, 1, 2, 1)]), (64, [(43, 4, 7, 2), (45, 1, 7, 2), (47, 1, 1, 1), (48, 16, 67, 4), (52, 2, 0, 1), (53, 1, 1, 1), (54, 1, 7, 2), (61, 5, 7, 1)]), (77, [(64, 6, 45, 0), (76, 17, 0, 0)])]
def ec_59 : List (Nat × List (Nat × es_C)) := [(17, [(0, 2, 3, 1), (1, 3, 0, 1), (2, 2, 0, 1), (3, 1, 1, 1), (4, 1, 2, 1), (10, 6, 17, 0), (15, 3, 1, 1), (16, 17, 0, 0)]), (19, [(17, 3, 0, 1), (18, 17, 0, 0)])]
def ec_60 : List (Nat × List (Nat × es_C)) := [(13, [(0, 2, 0, 1), (1, 1, 1, 1), (2, 3, 0, 1), (3, 3, 200, 3), (9, 2, 0, 1), (10, 1, 1, 1), (11, 3, 0, 1), (12, 2, 0, 1)]), (30, [(13, 18, 11, 5), (16, 18, 2, 9), (22, 2, 0, 1), (23, 18, 11, 9), (26, 18, 2, 7), (29, 17, 0, 0)])]
def ec_61 : List (Nat × List (Nat × es_C)) := [(16, [(0, 2, 2, 1), (1, 3, 0, 1), (2, 2, 0, 1), (3, 1, 1, 1), (9, 6, 15, 0), (13, 3, 1, 1), (14, 17, 0, 0), (15, 3, 0, 1)]), (17, [(16, 17, 0, 0)])]
def ec_62 : List (Nat × List (Nat × es_C)) := [(16, [(0, 1, 1, 1), (1, 15, 15, 2), (4, 1, 1, 1), (5, 2, 0, 1), (6, 18, 11, 4), (9, 18, 0, 5), (12, 16, 26, 2)])]
def ec_63 : List (Nat × List (Nat × es_C)) := [(3, [(0, 2, 0, 1), (1, 1, 1, 1)])]
def ec_64 : List (Nat × List (Nat × es_C)) := [(17, [(0, 2, 3, 1), (1, 3, 0, 1), (2, 2, 0, 1), (3, 1, 1, 1), (4, 1, 2, 1), (15, 3, 1, 1), (16, 17, 0, 0)])]
def ec_65 : List (Nat × List (Nat × es_C)) := [(14, [(0, 2, 0, 1), (1, 1, 1, 1), (2, 3, 1, 1), (3, 2, 0, 1), (4, 18, 11, 5), (7, 18, 2, 7), (10, 2, 0, 1), (11, 18, 11, 5)]), (21, [(14, 18, 2, 6)])]
def ec_66 : List (Nat × List (Nat × es_C)) := [(15, [(0, 2, 2, 1), (1, 3, 0, 1), (2, 2, 0, 1), (3, 1, 1, 1), (13, 3, 1, 1), (14, 17, 0, 0)])]
def ec_67 : List (Nat × List (Nat × es_C)) := [(3, [(0, 2, 0, 1), (1, 1, 1, 1)])]
def ec_68 : List (Nat × List (Nat × es_C)) := [(15, [(0, 2, 2, 1), (1, 3, 0, 1), (2, 2, 0, 1), (3, 1, 1, 1), (13, 3, 1, 1), (14, 17, 0, 0)])]
def ec_69 : List (Nat × List (Nat × es_C)) := [(3, [(0, 2, 0, 1), (1, 1, 1, 1)])]
def ec_70 : List (Nat × List (Nat × es_C)) := [(17, [(0, 2, 3, 1), (1, 3, 0, 1), (2, 2, 0, 1), (3, 1, 1, 1), (4, 1, 2, 1), (15, 3, 1, 1), (16, 17, 0, 0)])]
def ec_71 : List (Nat × List (Nat × es_C)) := [(16, [(0, 1, 1, 1), (1, 15, 15, 2), (4, 1, 1, 1), (5, 2, 0, 1), (6, 18, 11, 5), (9, 18, 2, 5), (12, 16, 26, 2)])]
def ec_72 : List (Nat × List (Nat × es_C)) := [(3, [(0, 2, 0, 1), (1, 1, 1, 1)])]
def ec_73 : List (Nat × List (Nat × es_C)) := [(17, [(0, 2, 3, 1), (1, 3, 0, 1), (2, 2, 0, 1), (3, 1, 1, 1), (4, 1, 2, 1), (15, 3, 1, 1), (16, 17, 0, 0)])]
def ec_74 : List (Nat × List (Nat × es_C)) := [(27, [(0, 2, 0, 1), (5, 1, 1, 1), (6, 15, 14, 1), (13, 17, 0, 0), (17, 15, 22, 1), (22, 3, 63, 2), (24, 4, 4, 2), (26, 3, 1, 1)]), (51, [(27, 4, 5, 2), (29, 1, 5, 2), (31, 3, 64, 2), (33, 16, 60, 3), (37, 1, 5, 2), (44, 15, 54, 0), (47, 1, 4, 2), (49, 1, 5, 2)]), (63, [(51, 10, 0, 0), (52, 4, 4, 2), (54, 5, 5, 1), (57, 6, 29, 0), (60, 1, 4, 2), (62, 17, 0, 0)])]
def ec_75 : List (Nat × List (Nat × es_C)) := [(17, [(0, 2, 2, 1), (1, 3, 0, 1), (2, 2, 0, 1), (3, 1, 1, 1), (9, 6, 15, 0), (15, 3, 0, 1), (16, 17, 0, 0)])]
def ec_76 : List (Nat × List (Nat × es_C)) := [(3, [(0, 2, 0, 1), (1, 1, 1, 1)])]
def ec_77 : List (Nat × List (Nat × es_C)) := [(19, [(0, 2, 4, 2), (2, 3, 0, 1), (3, 2, 0, 1), (4, 1, 1, 1), (5, 1, 2, 1), (6, 1, 3, 1), (17, 3, 1, 1), (18, 17, 0, 0)])]
def ec_78 : List (Nat × List (Nat × es_C)) := [(3, [(0, 2, 0, 1), (1, 1, 1, 1)])]
def ec_79 : List (Nat × List (Nat × es_C)) := [(15, [(0, 2, 2, 1), (1, 3, 0, 1), (2, 2, 0, 1), (3, 1, 1, 1), (13, 3, 1, 1), (14, 17, 0, 0)])]
def ec_80 : List (Nat × List (Nat × es_C)) := [(7, [(0, 2, 0, 1), (1, 18, 8, 1), (4, 3, 0, 1), (5, 19, 0, 0), (6, 17, 0, 0)])]
def ec_81 : List (Nat × List (Nat × es_C)) := [(11, [(0, 3, 0, 1), (1, 4, 2, 1), (2, 2, 0, 1), (4, 4, 3, 1), (5, 1, 2, 1), (6, 1, 3, 1), (7, 16, 20, 3), (10, 2, 0, 1)]), (21, [(11, 1, 2, 1), (12, 1, 1, 1), (13, 20, 0, 0), (14, 5, 2, 1), (17, 6, 5, 0), (20, 17, 0, 0)])]
def ec_82 : List (Nat × List (Nat × es_C)) := [(17, [(0, 2, 0, 1), (1, 18, 8, 1), (4, 3, 0, 1), (8, 2, 0, 1), (9, 18, 8, 0), (12, 18, 2, 5), (15, 3, 1, 1), (16, 8, 0, 0)]), (104, [(17, 4, 1, 1), (18, 1, 1, 1), (19, 15, 103, 2), (103, 17, 0, 0)])]
def ec_83 : List (Nat × List (Nat × es_C)) := [(18, [(0, 1, 1, 1), (1, 3, 4294967295, 1), (2, 16, 10, 0), (5, 2, 0, 1), (6, 1, 1, 1), (10, 2, 0, 1), (11, 18, 11, 7), (17, 1, 1, 1)]), (41, [(18, 3, 4294967295, 1), (19, 16, 32, 1), (22, 2, 0, 1), (23, 18, 11, 7), (29, 6, 40, 0), (40, 17, 0, 0)])]
def ec_84 : List (Nat × List (Nat × es_C)) := [(16, [(0, 2, 2, 1), (1, 3, 0, 1), (2, 2, 0, 1), (3, 1, 1, 1), (9, 6, 15, 0), (13, 3, 1, 1), (14, 17, 0, 0), (15, 3, 0, 1)]), (17, [(16, 17, 0, 0)])]
def ec_85 : List (Nat × List (Nat × es_C)) := [(14, [(0, 2, 0, 1), (1, 1, 1, 1), (2, 3, 0, 1), (3, 3, 200, 3), (9, 3, 4294967295, 1), (10, 4, 3, 1), (11, 3, 1, 1), (12, 4, 4, 2)]), (30, [(14, 1, 4, 2), (16, 3, 6, 2), (18, 16, 84, 4), (21, 2, 0, 1), (22, 1, 1, 1), (23, 2, 0, 1), (24, 18, 11, 4), (27, 18, 0, 8)]), (48, [(30, 1, 4, 2), (35, 1, 3, 1), (36, 3, 4294967295, 1), (37, 16, 48, 1), (40, 2, 0, 1), (41, 18, 11, 9), (44, 18, 2, 6), (47, 4, 3, 1)]), (67, [(48, 1, 2, 1), (49, 15, 66, 0), (52, 1, 3, 1), (53, 2, 0, 1), (54, 18, 11, 9), (57, 18, 2, 6), (63, 6, 77, 0), (66, 1, 3, 1)]), (86, [(67, 2, 0, 1), (68, 18, 11, 9), (71, 18, 2, 6), (77, 4, 3, 1), (78, 5, 4, 1), (81, 6, 14, 0), (84, 1, 3, 1), (85, 17, 0, 0)])]
def ec_86 : List (Nat × List (Nat × es_C)) := [(17, [(0, 2, 3, 1), (1, 3, 0, 1), (2, 2, 0, 1), (3, 1, 1, 1), (4, 1, 2, 1), (10, 6, 17, 0), (15, 3, 1, 1), (16, 17, 0, 0)]), (19, [(17, 3, 0, 1), (18, 17, 0, 0)])]
def ec_87 : List (Nat × List (Nat × es_C)) := [(3, [(0, 2, 0, 1), (1, 1, 1, 1)])]
def ec_88 : List (Nat × List (Nat × es_C)) := [(17, [(0, 2, 3, 1), (1, 3, 0, 1), (2, 2, 0, 1), (3, 1, 1, 1), (4, 1, 2, 1), (15, 3, 1, 1), (16, 17, 0, 0)])]
def ec_89 : List (Nat × List (Nat × es_C)) := [(3, [(0, 2, 0, 1), (1, 1, 1, 1)])]
def ec_90 : List (Nat × List (Nat × es_C)) := [(24, [(0, 2, 3, 1), (1, 3, 0, 1), (2, 2, 0, 1), (3, 1, 1, 1), (4, 1, 2, 1), (22, 3, 1, 1), (23, 17, 0, 0)])]
def ec_91 : List (Nat × List (Nat × es_C)) := [(16, [(0, 1, 1, 1), (1, 15, 15, 2), (4, 1, 1, 1), (5, 2, 0, 1), (6, 18, 11, 4), (9, 18, 0, 6), (12, 16, 26, 2)])]
def ec_92 : List (Nat × List (Nat × es_C)) := [(3, [(0, 2, 0, 1), (1, 1, 1, 1)])]
def ec_93 : List (Nat × List (Nat × es_C)) := [(17, [(0, 2, 3, 1), (1, 3, 0, 1), (2, 2, 0, 1), (3, 1, 1, 1), (4, 1, 2, 1), (15, 3, 1, 1), (16, 17, 0, 0)])]
def ec_94 : List (Nat × List (Nat × es_C)) := [(15, [(0, 1, 0, 1), (1, 1, 0, 1), (2, 3, 1, 1), (7, 10, 0, 0), (8, 8, 0, 0), (9, 4, 0, 1), (10, 1, 0, 1), (14, 10, 0, 0)]), (28, [(15, 1, 0, 1), (16, 3, 2, 1), (21, 10, 0, 0), (22, 7, 0, 0), (23, 4, 0, 1), (24, 1, 0, 1), (25, 1, 0, 1), (26, 3, 4, 1)]), (41, [(28, 7, 0, 0), (32, 10, 0, 0), (33, 4, 0, 1), (34, 1, 0, 1), (35, 1, 0, 1), (36, 3, 8, 2), (39, 7, 0, 0), (40, 4, 0, 1)]), (52, [(41, 1, 0, 1), (42, 1, 0, 1), (43, 3, 16, 2), (46, 7, 0, 0), (47, 4, 0, 1), (48, 1, 0, 1), (49, 3, 63, 2), (51, 10, 0, 0)]), (53, [(52, 17, 0, 0)])]
def ec_95 : List (Nat × List (Nat × es_C)) := [(15, [(0, 2, 0, 1), (1, 1, 1, 1), (2, 3, 0, 1), (3, 3, 200, 3), (9, 2, 0, 1), (10, 1, 1, 1), (11, 2, 0, 1), (12, 18, 11, 4)]), (36, [(15, 18, 0, 8), (18, 2, 0, 1), (19, 18, 11, 5), (22, 18, 2, 9), (28, 1, 2, 1), (29, 15, 46, 0), (32, 2, 0, 1), (33, 18, 11, 9)]), (54, [(36, 3, 0, 1), (43, 6, 53, 0), (46, 2, 0, 1), (47, 18, 11, 9), (50, 18, 2, 6), (53, 17, 0, 0)])]
def ec_96 : List (Nat × List (Nat × es_C)) := [(17, [(0, 2, 3, 1), (1, 3, 0, 1), (2, 2, 0, 1), (3, 1, 1, 1), (4, 1, 2, 1), (10, 6, 17, 0), (15, 3, 1, 1), (16, 17, 0, 0)]), (19, [(17, 3, 0, 1), (18, 17, 0, 0)])]
def ec_97 : List (Nat × List (Nat × es_C)) := [(3, [(0, 2, 0, 1), (1, 1, 1, 1)])]
def ec_98 : List (Nat × List (Nat × es_C)) := [(24, [(0, 2, 3, 1), (1, 3, 0, 1), (2, 2, 0, 1), (3, 1, 1, 1), (4, 1, 2, 1), (22, 3, 1, 1), (23, 17, 0, 0)])]
def ec_99 : List (Nat × List (Nat × es_C)) := [(9, [(0, 2, 0, 1), (1, 18, 11, 15), (4, 15, 9, 1), (7, 3, 0, 1), (8, 17, 0, 0)])]
def ec_100 : List (Nat × List (Nat × es_C)) := [(10, [(0, 3, 4294967295, 1), (1, 4, 2, 1), (2, 3, 0, 1), (3, 4, 3, 1), (4, 3, 0, 1), (5, 4, 4, 2), (7, 1, 4, 2), (9, 2, 0, 1)]), (94, [(10, 18, 11, 5), (13, 18, 2, 5), (16, 16, 85, 3), (85, 1, 1, 1), (86, 15, 93, 0), (89, 1, 3, 1), (90, 6, 94, 0), (93, 1, 2, 1)]), (95, [(94, 17, 0, 0)])]
def ec_101 : List (Nat × List (Nat × es_C)) := [(42, [(0, 3, 0, 1), (1, 4, 1, 1), (2, 3, 0, 1), (3, 4, 2, 1), (4, 1, 2, 1), (5, 2, 0, 1), (6, 18, 2, 4), (9, 16, 42, 3)]), (44, [(42, 1, 1, 1), (43, 17, 0, 0)])]
def ec_102 : List (Nat × List (Nat × es_C)) := [(91, [(0, 1, 1, 1), (76, 2, 0, 1), (77, 18, 11, 4), (80, 18, 0, 5), (83, 17, 0, 0), (84, 2, 0, 1), (85, 18, 11, 5), (88, 18, 2, 4)]), (107, [(91, 17, 0, 0), (92, 2, 0, 1), (93, 18, 11, 4), (96, 18, 0, 6), (99, 17, 0, 0), (100, 2, 0, 1), (101, 18, 11, 5), (104, 18, 2, 5)]), (126, [(107, 17, 0, 0), (108, 2, 0, 1), (109, 18, 11, 4), (112, 18, 0, 10), (115, 17, 0, 0), (116, 2, 0, 1), (117, 18, 11, 4), (120, 18, 0, 11)]), (150, [(126, 3, 4294967295, 1), (127, 6, 140, 0), (140, 17, 0, 0), (141, 2, 0, 1), (142, 18, 11, 5), (145, 18, 2, 8), (148, 17, 0, 0), (149, 2, 0, 1)]), (166, [(150, 18, 11, 5), (153, 18, 2, 6), (156, 17, 0, 0), (157, 2, 0, 1), (158, 18, 11, 5), (161, 18, 2, 7), (164, 17, 0, 0), (165, 2, 0, 1)]), (182, [(166, 18, 11, 4), (169, 18, 0, 7), (172, 17, 0, 0), (173, 2, 0, 1), (174, 18, 11, 4), (177, 18, 0, 8), (180, 17, 0, 0), (181, 2, 0, 1)]), (201, [(182, 18, 11, 4), (185, 18, 0, 9), (188, 17, 0, 0), (189, 2, 0, 1), (190, 18, 11, 5), (196, 17, 0, 0), (197, 2, 0, 1), (198, 18, 11, 5)]), (215, [(201, 18, 2, 3), (204, 18, 6, 1), (207, 17, 0, 0), (208, 2, 0, 1), (209, 18, 11, 14), (212, 17, 0, 0), (213, 3, 4294967295, 1), (214, 17, 0, 0)])]
def ec_103 : List (Nat × List (Nat × es_C)) := [(12, [(0, 3, 4294967295, 1), (1, 4, 1, 1), (2, 3, 0, 1), (3, 4, 2, 1), (4, 1, 2, 1), (5, 2, 0, 1), (6, 18, 11, 4), (9, 18, 0, 5)]), (51, [(12, 16, 49, 3), (49, 1, 1, 1), (50, 17, 0, 0)])]
def ec_104 : List (Nat × List (Nat × es_C)) := [(16, [(0, 1, 1, 1), (1, 15, 15, 2), (4, 1, 1, 1), (5, 2, 0, 1), (6, 18, 11, 0), (9, 18, 10, 1), (12, 16, 17, 5), (15, 3, 0, 1)]), (27, [(16, 17, 0, 0), (17, 2, 0, 1), (18, 18, 11, 0), (21, 1, 1, 1), (25, 3, 1, 1), (26, 17, 0, 0)])]
def ec_105 : List (Nat × List (Nat × es_C)) := [(5, [(0, 2, 0, 1), (1, 18, 11, 16), (4, 17, 0, 0)])]
def ec_106 : List (Nat × List (Nat × es_C)) := [(17, [(0, 3, 24, 2), (2, 4, 2, 1), (3, 1, 2, 1), (4, 15, 49, 2), (7, 2, 0, 1), (8, 18, 10, 1), (11, 3, 400, 3), (14, 16, 49, 3)]), (31, [(17, 2, 0, 1), (18, 18, 10, 0), (21, 2, 0, 1), (22, 18, 10, 1), (25, 1, 1, 1), (26, 1, 2, 1), (27, 13, 0, 0), (28, 3, 255, 3)]), (49, [(31, 10, 0, 0), (32, 20, 0, 0), (33, 2, 0, 1), (35, 18, 10, 1), (38, 3, 1, 1), (39, 7, 0, 0), (43, 5, 2, 4294967288), (46, 6, 3, 0)]), (50, [(49, 17, 0, 0)])]
def ec_107 : List (Nat × List (Nat × es_C)) := [(19, [(0, 2, 0, 1), (1, 18, 11, 0), (4, 18, 10, 1), (7, 3, 20, 2), (9, 7, 0, 0), (10, 3, 400, 3), (13, 16, 18, 5), (18, 2, 0, 1)]), (42, [(19, 18, 11, 0), (22, 1, 1, 1), (26, 2, 0, 1), (27, 18, 11, 0), (30, 1, 2, 1), (34, 2, 0, 1), (35, 18, 11, 0), (38, 1, 3, 1)]), (64, [(42, 2, 0, 1), (43, 18, 11, 0), (46, 1, 4, 2), (51, 2, 0, 1), (52, 18, 11, 0), (55, 1, 5, 2), (60, 2, 0, 1), (61, 18, 11, 0)]), (68, [(64, 18, 10, 1), (67, 17, 0, 0)])]
def ec_108 : List (Nat × List (Nat × es_C)) := [(22, [(0, 2, 0, 1), (1, 18, 11, 10), (4, 2, 0, 1), (5, 18, 11, 4), (11, 2, 0, 1), (12, 18, 11, 11), (15, 2, 0, 1), (16, 18, 11, 5)]), (28, [(22, 2, 0, 1), (23, 3, 1, 1), (27, 17, 0, 0)])]
def ec_109 : List (Nat × List (Nat × es_C)) := [(29, [(0, 2, 0, 1), (4, 2, 0, 1), (5, 3, 8, 2), (12, 2, 0, 1), (13, 3, 8, 2), (20, 2, 0, 1), (21, 3, 8, 2), (28, 2, 0, 1)]), (57, [(29, 3, 6, 2), (36, 2, 0, 1), (37, 3, 6, 2), (44, 2, 0, 1), (45, 3, 10, 2), (50, 2, 0, 1), (51, 3, 10, 2), (56, 17, 0, 0)])]
def ec_110 : List (Nat × List (Nat × es_C)) := [(14, [(0, 2, 0, 1), (4, 2, 0, 1), (5, 3, 400, 3), (13, 17, 0, 0)])]
def ec_111 : List (Nat × List (Nat × es_C)) := [(10, [(0, 2, 0, 1), (4, 2, 0, 1), (5, 2, 1, 1), (9, 17, 0, 0)])]
def ec_112 : List (Nat × List (Nat × es_C)) := [(14, [(0, 2, 0, 1), (4, 2, 0, 1), (5, 3, 240, 3), (13, 17, 0, 0)])]
def ec_113 : List (Nat × List (Nat × es_C)) := [(5, [(0, 2, 0, 1), (4, 17, 0, 0)])]
def ec_114 : List (Nat × List (Nat × es_C)) := [(40, [(0, 2, 0, 1), (4, 2, 0, 1), (5, 3, 6, 2), (13, 2, 0, 1), (14, 3, 6, 2), (21, 2, 0, 1), (22, 3, 6, 2), (29, 2, 0, 1)]), (57, [(40, 2, 0, 1), (41, 3, 500, 3), (47, 2, 0, 1), (48, 3, 1, 1), (52, 3, 0, 1), (53, 4, 1, 1), (54, 1, 1, 1), (55, 3, 6, 2)]), (80, [(57, 16, 79, 3), (60, 2, 0, 1), (61, 18, 2, 0), (64, 1, 1, 1), (73, 5, 1, 1), (76, 6, 54, 0), (79, 17, 0, 0)])]
def ec_115 : List (Nat × List (Nat × es_C)) := [(21, [(0, 2, 0, 1), (4, 2, 0, 1), (5, 3, 9, 2), (12, 2, 0, 1), (13, 3, 32, 2), (20, 17, 0, 0)])]
def ec_116 : List (Nat × List (Nat × es_C)) := [(19, [(0, 2, 0, 1), (4, 2, 0, 1), (5, 3, 400, 3), (13, 2, 0, 1), (14, 2, 1, 1), (18, 17, 0, 0)])]
def ec_117 : List (Nat × List (Nat × es_C)) := [(19, [(0, 2, 0, 1), (4, 2, 0, 1), (5, 3, 448, 3), (13, 2, 0, 1), (14, 2, 1, 1), (18, 17, 0, 0)])]
def ec_118 : List (Nat × List (Nat × es_C)) := [(39, [(0, 2, 0, 1), (4, 2, 0, 1), (15, 2, 0, 1), (16, 3, 30, 2), (23, 2, 0, 1), (24, 3, 30, 2), (31, 2, 0, 1), (32, 3, 30, 2)]), (66, [(39, 2, 0, 1), (40, 3, 30, 2), (47, 2, 0, 1), (48, 3, 3000, 3), (56, 2, 0, 1), (57, 2, 1, 1), (61, 2, 0, 1), (62, 2, 2, 1)]), (67, [(66, 17, 0, 0)])]
def ec_119 : List (Nat × List (Nat × es_C)) := [(47, [(0, 2, 0, 1), (4, 2, 0, 1), (15, 2, 0, 1), (26, 2, 0, 1), (31, 2, 0, 1), (32, 18, 11, 0), (41, 2, 0, 1), (46, 2, 0, 1)]), (97, [(47, 18, 11, 0), (56, 2, 0, 1), (67, 2, 0, 1), (78, 2, 0, 1), (83, 2, 0, 1), (84, 18, 11, 1), (87, 2, 0, 1), (88, 18, 11, 4)]), (157, [(97, 2, 0, 1), (102, 2, 0, 1), (103, 18, 11, 5), (112, 2, 0, 1), (123, 2, 0, 1), (134, 2, 0, 1), (145, 2, 0, 1), (156, 2, 0, 1)]), (178, [(157, 3, 12, 2), (165, 2, 0, 1), (166, 3, 4294967295, 1), (170, 3, 0, 1), (171, 4, 1, 1), (172, 1, 1, 1), (173, 3, 12, 2), (175, 16, 197, 3)]), (198, [(178, 2, 0, 1), (179, 18, 11, 12), (182, 1, 1, 1), (191, 5, 1, 1), (194, 6, 172, 0), (197, 17, 0, 0)])]
def ec_120 : List (Nat × List (Nat × es_C)) := [(17, [(0, 2, 0, 1), (1, 18, 11, 5), (4, 1, 1, 1), (5, 15, 12, 0), (8, 3, 1, 1), (9, 6, 13, 0), (12, 3, 0, 1), (16, 17, 0, 0)])]
def ec_121 : List (Nat × List (Nat × es_C)) := [(12, [(0, 3, 0, 1), (1, 4, 1, 1), (2, 3, 0, 1), (3, 4, 2, 1), (4, 1, 2, 1), (5, 2, 0, 1), (6, 18, 11, 5), (9, 18, 2, 4)]), (74, [(12, 16, 72, 3), (72, 1, 1, 1), (73, 17, 0, 0)])]
def ec_122 : List (Nat × List (Nat × es_C)) := [(35, [(0, 3, 0, 1), (1, 4, 2, 1), (2, 3, 0, 1), (3, 4, 3, 1), (4, 1, 3, 1), (5, 2, 0, 1), (6, 18, 2, 5), (9, 16, 35, 3)]), (37, [(35, 1, 2, 1), (36, 17, 0, 0)])]
def ec_123 : List (Nat × List (Nat × es_C)) := [(12, [(0, 3, 1, 1), (1, 2, 0, 1), (2, 18, 11, 4), (5, 18, 0, 5), (8, 12, 0, 0), (9, 3, 1, 1), (10, 8, 0, 0), (11, 4, 1, 1)]), (22, [(12, 3, 4294967295, 1), (13, 4, 2, 1), (14, 3, 0, 1), (15, 4, 3, 1), (16, 1, 3, 1), (17, 3, 1, 1), (18, 2, 0, 1), (19, 18, 11, 5)]), (41, [(22, 18, 2, 5), (25, 12, 0, 0), (26, 16, 65, 3), (29, 2, 0, 1), (30, 18, 11, 5), (33, 1, 3, 1), (37, 1, 1, 1), (38, 16, 59, 1)]), (66, [(41, 1, 2, 1), (42, 3, 4294967295, 1), (43, 16, 57, 0), (57, 1, 3, 1), (58, 4, 2, 1), (59, 5, 3, 1), (62, 6, 16, 0), (65, 1, 2, 1)]), (67, [(66, 17, 0, 0)])]
def ec_124 : List (Nat × List (Nat × es_C)) := [(17, [(0, 2, 0, 1), (1, 18, 11, 5), (4, 18, 2, 9), (7, 4, 2, 1), (8, 2, 0, 1), (9, 18, 11, 5), (12, 1, 1, 1), (16, 1, 2, 1)]), (18, [(17, 17, 0, 0)])]
def ec_125 : List (Nat × List (Nat × es_C)) := [(10, [(0, 2, 0, 1), (1, 18, 11, 14), (4, 3, 1, 1), (5, 16, 10, 3), (8, 3, 0, 1), (9, 17, 0, 0)])]
def ec_126 : List (Nat × List (Nat × es_C)) := [(14, [(0, 1, 0, 1), (1, 1, 1, 1), (2, 16, 14, 2), (5, 1, 0, 1), (6, 1, 2, 1), (7, 16, 14, 4), (10, 3, 1, 1), (11, 6, 15, 0)]), (16, [(14, 3, 0, 1), (15, 17, 0, 0)])]
def ec_127 : List (Nat × List (Nat × es_C)) := [(13, [(0, 1, 1, 1), (1, 3, 0, 1), (2, 2, 0, 1), (3, 18, 12, 1), (6, 3, 4, 1), (7, 19, 0, 0), (8, 3, 1, 1), (9, 8, 0, 0)]), (14, [(13, 17, 0, 0)])]
def ec_128 : List (Nat × List (Nat × es_C)) := [(49, [(0, 2, 0, 1), (1, 2, 0, 1), (2, 1, 1, 1), (6, 15, 13, 1), (9, 3, 1, 1), (10, 6, 42, 0), (45, 2, 0, 1), (46, 18, 12, 0)]), (54, [(49, 15, 54, 5), (52, 3, 0, 1), (53, 17, 0, 0)])]
def ec_129 : List (Nat × List (Nat × es_C)) := [(13, [(0, 2, 0, 1), (1, 18, 12, 8), (4, 4, 1, 1), (5, 2, 0, 1), (6, 3, 0, 1), (10, 1, 1, 1), (11, 3, 2, 1), (12, 14, 0, 0)]), (29, [(13, 15, 26, 1), (16, 1, 1, 1), (17, 3, 40, 2), (19, 16, 26, 4), (22, 3, 1, 1), (23, 6, 27, 0), (27, 4, 2, 1), (28, 3, 0, 1)]), (84, [(29, 4, 3, 1), (30, 1, 3, 1), (31, 1, 1, 1), (32, 16, 76, 3), (76, 1, 2, 1), (77, 15, 82, 1), (82, 3, 0, 1), (83, 4, 3, 1)]), (100, [(84, 3, 1, 1), (85, 4, 4, 2), (87, 1, 4, 2), (89, 3, 64, 2), (91, 16, 197, 3), (94, 2, 0, 1), (95, 18, 12, 23), (98, 1, 4, 2)]), (175, [(100, 3, 1, 1), (102, 3, 0, 1), (103, 4, 5, 2), (105, 1, 5, 2), (107, 1, 1, 1), (108, 16, 173, 3), (173, 1, 3, 1), (174, 2, 0, 1)]), (194, [(175, 18, 12, 23), (178, 1, 4, 2), (181, 15, 188, 0), (184, 3, 1, 1), (185, 6, 189, 0), (189, 7, 0, 0), (190, 4, 3, 1), (191, 5, 4, 1)]), (199, [(194, 6, 87, 0), (197, 1, 3, 1), (198, 17, 0, 0)])]
def ec_130 : List (Nat × List (Nat × es_C)) := [(20, [(0, 2, 0, 1), (4, 4, 1, 1), (5, 2, 0, 1), (6, 1, 1, 1), (7, 3, 4294967295, 1), (8, 16, 15, 1), (15, 3, 0, 1), (19, 2, 0, 1)]), (39, [(20, 18, 12, 0), (23, 15, 28, 5), (28, 3, 4294967295, 1), (29, 4, 2, 1), (33, 4, 3, 1), (34, 3, 0, 1), (35, 4, 4, 2), (37, 1, 4, 2)]), (140, [(39, 2, 0, 1), (40, 18, 12, 1), (43, 3, 5, 1), (44, 19, 0, 0), (45, 16, 138, 3), (138, 1, 2, 1), (139, 17, 0, 0)])]
def ec_131 : List (Nat × List (Nat × es_C)) := [(14, [(0, 2, 0, 1), (1, 3, 0, 1), (5, 2, 0, 1), (6, 18, 12, 3), (9, 15, 14, 1), (12, 3, 0, 1), (13, 17, 0, 0)])]
def ec_132 : List (Nat × List (Nat × es_C)) := [(11, [(0, 2, 0, 1), (1, 3, 0, 1), (5, 3, 4294967295, 1), (6, 4, 2, 1), (7, 3, 0, 1), (8, 4, 3, 1), (9, 1, 3, 1), (10, 2, 0, 1)]), (54, [(11, 18, 12, 1), (14, 3, 6, 2), (16, 19, 0, 0), (17, 16, 48, 3), (48, 1, 1, 1), (49, 15, 54, 1), (52, 1, 2, 1), (53, 17, 0, 0)]), (67, [(54, 3, 0, 1), (55, 4, 3, 1), (56, 3, 0, 1), (57, 4, 4, 2), (59, 1, 4, 2), (61, 2, 0, 1), (62, 18, 12, 1), (65, 3, 6, 2)]), (97, [(67, 19, 0, 0), (68, 16, 95, 3), (95, 1, 3, 1), (96, 17, 0, 0)])]
def ec_133 : List (Nat × List (Nat × es_C)) := [(19, [(0, 2, 0, 1), (1, 3, 4294967295, 1), (5, 2, 0, 1), (6, 3, 4294967295, 1), (10, 2, 0, 1), (11, 2, 0, 1), (12, 18, 12, 8), (18, 2, 0, 1)]), (34, [(19, 3, 0, 1), (23, 2, 0, 1), (24, 3, 0, 1), (28, 2, 0, 1), (29, 3, 0, 1), (33, 17, 0, 0)])]
def ec_134 : List (Nat × List (Nat × es_C)) := [(14, [(0, 3, 0, 1), (1, 4, 1, 1), (2, 1, 1, 1), (3, 3, 340, 3), (6, 16, 27, 3), (9, 2, 0, 1), (10, 18, 12, 4), (13, 1, 1, 1)]), (28, [(14, 2, 0, 1), (15, 18, 12, 1), (18, 1, 1, 1), (19, 19, 0, 0), (20, 20, 0, 0), (21, 5, 1, 1), (24, 6, 2, 0), (27, 17, 0, 0)])]
def ec_135 : List (Nat × List (Nat × es_C)) := [(38, [(0, 2, 0, 1), (1, 18, 12, 11), (4, 2, 0, 1), (5, 18, 12, 10), (8, 16, 37, 3), (37, 17, 0, 0)])]
def ec_136 : List (Nat × List (Nat × es_C)) := [(21, [(0, 2, 0, 1), (4, 2, 0, 1), (5, 18, 12, 11), (8, 2, 0, 1), (9, 18, 12, 10), (12, 16, 19, 3), (19, 3, 0, 1), (20, 4, 2, 1)]), (146, [(21, 3, 0, 1), (22, 4, 3, 1), (23, 1, 2, 1), (24, 15, 144, 0), (144, 1, 3, 1), (145, 17, 0, 0)])]
def ec_137 : List (Nat × List (Nat × es_C)) := [(19, [(0, 2, 0, 1), (4, 2, 0, 1), (8, 2, 0, 1), (9, 3, 0, 1), (13, 4, 1, 1), (14, 2, 0, 1), (15, 2, 0, 1), (16, 18, 12, 12)]), (42, [(19, 3, 4294967295, 1), (20, 16, 27, 0), (27, 2, 0, 1), (28, 18, 12, 1), (31, 3, 0, 1), (32, 19, 0, 0), (33, 3, 12, 2), (35, 16, 42, 1)]), (66, [(42, 3, 0, 1), (46, 2, 0, 1), (47, 18, 12, 0), (50, 15, 59, 5), (59, 2, 0, 1), (60, 18, 12, 1), (63, 3, 0, 1), (65, 19, 0, 0)]), (79, [(66, 3, 1, 1), (67, 7, 0, 0), (68, 20, 0, 0), (69, 2, 0, 1), (70, 3, 0, 1), (74, 2, 0, 1), (75, 18, 12, 1), (78, 3, 0, 1)]), (81, [(79, 19, 0, 0), (80, 17, 0, 0)])]
def ec_138 : List (Nat × List (Nat × es_C)) := [(21, [(0, 2, 0, 1), (1, 2, 0, 1), (2, 1, 1, 1), (6, 15, 13, 1), (9, 3, 1, 1), (10, 6, 14, 0), (17, 2, 0, 1), (18, 18, 12, 0)]), (26, [(21, 15, 26, 5), (24, 3, 0, 1), (25, 17, 0, 0)])]
def ec_139 : List (Nat × List (Nat × es_C)) := [(14, [(0, 3, 0, 1), (1, 4, 1, 1), (2, 1, 1, 1), (3, 3, 340, 3), (6, 16, 27, 3), (9, 2, 0, 1), (10, 18, 12, 1), (13, 1, 1, 1)]), (28, [(14, 2, 0, 1), (15, 18, 12, 4), (18, 1, 1, 1), (19, 19, 0, 0), (20, 20, 0, 0), (21, 5, 1, 1), (24, 6, 2, 0), (27, 17, 0, 0)])]
def ec_140 : List (Nat × List (Nat × es_C)) := [(16, [(0, 2, 0, 1), (1, 18, 12, 1), (4, 3, 14, 2), (8, 2, 0, 1), (9, 18, 12, 1), (12, 3, 14, 2), (14, 19, 0, 0), (15, 9, 0, 0)]), (31, [(16, 3, 12345, 3), (19, 7, 0, 0), (20, 20, 0, 0), (21, 2, 0, 1), (22, 18, 12, 1), (25, 3, 14, 2), (27, 19, 0, 0), (28, 3, 16, 2)]), (38, [(31, 3, 32767, 3), (34, 10, 0, 0), (35, 1, 1, 1), (36, 14, 0, 0), (37, 17, 0, 0)])]
def ec_141 : List (Nat × List (Nat × es_C)) := [(11, [(0, 1, 0, 1), (1, 1, 1, 1), (2, 16, 9, 3), (5, 1, 0, 1), (6, 6, 10, 0), (9, 1, 1, 1), (10, 17, 0, 0)])]
def ec_142 : List (Nat × List (Nat × es_C)) := [(14, [(0, 3, 0, 1), (1, 4, 3, 1), (2, 3, 0, 1), (3, 4, 4, 2), (7, 1, 1, 1), (8, 16, 192, 3), (11, 3, 0, 1), (12, 4, 5, 2)]), (116, [(14, 3, 0, 1), (15, 4, 6, 2), (17, 1, 6, 2), (19, 2, 0, 1), (20, 18, 12, 1), (23, 3, 4, 1), (24, 19, 0, 0), (25, 16, 116, 3)]), (133, [(116, 1, 2, 1), (117, 15, 164, 0), (120, 2, 0, 1), (121, 3, 100, 2), (126, 2, 0, 1), (127, 18, 12, 1), (130, 3, 11, 2), (132, 19, 0, 0)]), (174, [(133, 16, 164, 3), (136, 1, 5, 2), (138, 15, 164, 5), (164, 2, 0, 1), (165, 18, 12, 1), (168, 3, 7, 2), (170, 3, 9999, 3), (173, 2, 0, 1)]), (193, [(174, 18, 12, 1), (177, 3, 7, 2), (179, 19, 0, 0), (180, 3, 1, 1), (181, 7, 0, 0), (185, 20, 0, 0), (189, 6, 5, 0), (192, 1, 3, 1)]), (194, [(193, 17, 0, 0)])]
def ec_143 : List (Nat × List (Nat × es_C)) := [(20, [(0, 2, 0, 1), (1, 1, 1, 1), (2, 3, 0, 1), (3, 3, 200, 3), (9, 15, 16, 1), (12, 3, 1, 1), (13, 6, 17, 0), (16, 3, 0, 1)]), (35, [(20, 2, 0, 1), (21, 18, 12, 0), (24, 15, 29, 5), (27, 3, 0, 1), (28, 17, 0, 0), (29, 2, 0, 1), (33, 2, 0, 1), (34, 1, 1, 1)]), (52, [(35, 3, 0, 1), (39, 4, 2, 1), (40, 2, 0, 1), (41, 18, 12, 1), (44, 3, 8, 2), (46, 19, 0, 0), (47, 4, 3, 1), (48, 2, 0, 1)]), (54, [(52, 1, 3, 1), (53, 17, 0, 0)])]
def ec_144 : List (Nat × List (Nat × es_C)) := [(18, [(0, 2, 0, 1), (1, 3, 0, 1), (5, 1, 1, 1), (6, 3, 0, 1), (7, 3, 3, 1), (11, 15, 23, 0), (14, 2, 0, 1), (15, 18, 12, 1)]), (28, [(18, 3, 3, 1), (19, 1, 1, 1), (20, 7, 0, 0), (21, 19, 0, 0), (22, 17, 0, 0), (23, 1, 1, 1), (24, 3, 4, 1), (25, 16, 35, 1)]), (40, [(28, 2, 0, 1), (29, 18, 12, 1), (32, 3, 0, 1), (33, 19, 0, 0), (34, 17, 0, 0), (35, 1, 1, 1), (36, 3, 5, 1), (37, 16, 47, 1)]), (53, [(40, 2, 0, 1), (41, 18, 12, 1), (44, 3, 1, 1), (45, 19, 0, 0), (46, 17, 0, 0), (47, 1, 1, 1), (48, 3, 6, 2), (50, 16, 61, 1)]), (69, [(53, 2, 0, 1), (54, 18, 12, 1), (57, 3, 7, 2), (59, 19, 0, 0), (60, 17, 0, 0), (61, 1, 1, 1), (62, 3, 7, 2), (64, 3, 11, 2)]), (83, [(69, 15, 85, 0), (72, 2, 0, 1), (73, 18, 12, 1), (76, 3, 8, 2), (78, 1, 1, 1), (79, 7, 0, 0), (80, 3, 7, 2), (82, 8, 0, 0)]), (94, [(83, 19, 0, 0), (84, 17, 0, 0), (85, 1, 1, 1), (86, 3, 12, 2), (88, 16, 134, 1), (91, 3, 0, 1), (92, 4, 2, 1), (93, 3, 0, 1)]), (133, [(94, 4, 3, 1), (95, 1, 3, 1), (96, 2, 0, 1), (97, 18, 12, 1), (100, 3, 4, 1), (101, 19, 0, 0), (102, 16, 132, 3), (132, 1, 2, 1)]), (147, [(133, 17, 0, 0), (134, 1, 1, 1), (135, 3, 13, 2), (137, 16, 148, 1), (140, 2, 0, 1), (141, 18, 12, 1), (144, 3, 13, 2), (146, 19, 0, 0)]), (162, [(147, 17, 0, 0), (148, 1, 1, 1), (149, 3, 14, 2), (151, 16, 161, 1), (154, 2, 0, 1), (155, 18, 12, 6), (158, 6, 162, 0), (161, 3, 4294967295, 1)]), (163, [(162, 17, 0, 0)])]
def ec_145 : List (Nat × List (Nat × es_C)) := [(56, [(0, 2, 0, 1), (1, 18, 12, 6), (4, 3, 12, 2), (6, 16, 50, 1), (50, 3, 0, 1), (51, 4, 1, 1), (52, 1, 1, 1), (53, 3, 340, 3)]), (72, [(56, 16, 86, 3), (59, 2, 0, 1), (60, 18, 12, 5), (63, 3, 340, 3), (66, 2, 0, 1), (67, 18, 12, 6), (70, 9, 0, 0), (71, 1, 1, 1)]), (86, [(72, 7, 0, 0), (73, 2, 0, 1), (74, 18, 12, 1), (77, 1, 1, 1), (78, 19, 0, 0), (79, 20, 0, 0), (80, 5, 1, 1), (83, 6, 52, 0)]), (97, [(86, 2, 0, 1), (88, 18, 12, 6), (91, 3, 1, 1), (92, 7, 0, 0), (96, 17, 0, 0)])]
def ec_146 : List (Nat × List (Nat × es_C)) := [(20, [(0, 2, 0, 1), (1, 1, 1, 1), (2, 3, 1, 1), (3, 3, 200, 3), (9, 15, 16, 1), (12, 3, 1, 1), (13, 6, 17, 0), (16, 3, 0, 1)]), (35, [(20, 2, 0, 1), (21, 18, 12, 0), (24, 15, 29, 5), (27, 3, 0, 1), (28, 17, 0, 0), (29, 2, 0, 1), (33, 2, 0, 1), (34, 1, 1, 1)]), (40, [(35, 3, 1, 1), (39, 17, 0, 0)])]
def ec_147 : List (Nat × List (Nat × es_C)) := [(11, [(0, 2, 0, 1), (1, 3, 0, 1), (5, 3, 4294967295, 1), (6, 4, 1, 1), (7, 3, 0, 1), (8, 4, 2, 1), (9, 1, 2, 1), (10, 2, 0, 1)]), (49, [(11, 18, 12, 1), (14, 3, 3, 1), (15, 19, 0, 0), (16, 16, 47, 3), (47, 1, 1, 1), (48, 17, 0, 0)])]
def ec_148 : List (Nat × List (Nat × es_C)) := [(21, [(0, 2, 0, 1), (1, 2, 0, 1), (2, 1, 1, 1), (6, 15, 13, 1), (9, 3, 1, 1), (10, 6, 14, 0), (17, 2, 0, 1), (18, 18, 12, 0)]), (35, [(21, 15, 28, 5), (24, 3, 0, 1), (25, 6, 34, 0), (34, 17, 0, 0)])]
def ec_149 : List (Nat × List (Nat × es_C)) := [(18, [(0, 2, 0, 1), (1, 3, 0, 1), (5, 1, 1, 1), (6, 3, 0, 1), (7, 2, 0, 1), (8, 18, 12, 8), (14, 15, 19, 1), (17, 3, 0, 1)]), (26, [(18, 17, 0, 0), (19, 2, 0, 1), (20, 1, 1, 1), (24, 3, 1, 1), (25, 17, 0, 0)])]
def ec_150 : List (Nat × List (Nat × es_C)) := [(10, [(0, 2, 0, 1), (1, 3, 0, 1), (5, 2, 0, 1), (6, 18, 12, 12), (9, 17, 0, 0)])]
def ec_151 : List (Nat × List (Nat × es_C)) := [(20, [(0, 2, 0, 1), (1, 3, 0, 1), (5, 2, 0, 1), (6, 18, 12, 8), (9, 3, 20, 2), (11, 7, 0, 0), (12, 3, 400, 3), (15, 16, 20, 5)]), (36, [(20, 3, 0, 1), (21, 4, 6, 2), (23, 1, 6, 2), (25, 3, 20, 2), (27, 16, 120, 3), (30, 1, 6, 2), (32, 3, 4, 1), (33, 16, 40, 3)]), (53, [(36, 1, 1, 1), (37, 6, 76, 0), (40, 1, 6, 2), (42, 3, 8, 2), (44, 16, 51, 3), (47, 1, 2, 1), (48, 6, 76, 0), (51, 1, 6, 2)]), (71, [(53, 3, 12, 2), (55, 16, 62, 3), (58, 1, 3, 1), (59, 6, 76, 0), (62, 1, 6, 2), (64, 3, 16, 2), (66, 16, 74, 3), (69, 1, 4, 2)]), (88, [(71, 6, 76, 0), (74, 1, 5, 2), (76, 4, 7, 2), (78, 2, 0, 1), (79, 18, 12, 7), (82, 2, 0, 1), (83, 18, 12, 8), (86, 1, 7, 2)]), (102, [(88, 3, 24, 2), (90, 3, 8, 2), (92, 1, 6, 2), (94, 3, 4, 1), (95, 14, 0, 0), (96, 9, 0, 0), (97, 8, 0, 0), (99, 3, 255, 3)]), (120, [(102, 10, 0, 0), (103, 20, 0, 0), (104, 2, 0, 1), (106, 18, 12, 8), (109, 3, 1, 1), (110, 7, 0, 0), (114, 5, 6, 1), (117, 6, 23, 0)]), (125, [(120, 2, 0, 1), (121, 18, 12, 8), (124, 17, 0, 0)])]
def ec_152 : List (Nat × List (Nat × es_C)) := [(21, [(0, 2, 0, 1), (1, 2, 0, 1), (2, 1, 1, 1), (6, 15, 13, 1), (9, 3, 1, 1), (10, 6, 14, 0), (17, 2, 0, 1), (18, 18, 12, 0)]), (35, [(21, 15, 28, 5), (24, 3, 0, 1), (25, 6, 34, 0), (34, 17, 0, 0)])]
def ec_153 : List (Nat × List (Nat × es_C)) := [(42, [(0, 2, 0, 1), (1, 2, 0, 1), (2, 1, 1, 1), (6, 15, 13, 1), (9, 3, 1, 1), (10, 6, 35, 0), (38, 2, 0, 1), (39, 18, 12, 0)]), (47, [(42, 15, 47, 5), (45, 3, 0, 1), (46, 17, 0, 0)])]
def ec_154 : List (Nat × List (Nat × es_C)) := [(15, [(0, 2, 0, 1), (1, 3, 0, 1), (5, 3, 0, 1), (6, 4, 1, 1), (7, 1, 1, 1), (8, 3, 740, 3), (11, 16, 32, 3), (14, 2, 0, 1)]), (29, [(15, 18, 12, 2), (18, 1, 1, 1), (19, 2, 0, 1), (20, 18, 12, 1), (23, 1, 1, 1), (24, 19, 0, 0), (25, 20, 0, 0), (26, 5, 1, 1)]), (38, [(29, 6, 7, 0), (32, 2, 0, 1), (33, 3, 1, 1), (37, 17, 0, 0)])]
def ec_155 : List (Nat × List (Nat × es_C)) := [(32, [(0, 2, 0, 1), (4, 2, 0, 1), (5, 3, 740, 3), (13, 2, 0, 1), (14, 3, 740, 3), (22, 2, 0, 1), (23, 3, 340, 3), (31, 2, 0, 1)]), (63, [(32, 3, 4080, 3), (40, 2, 0, 1), (41, 3, 400, 3), (49, 2, 0, 1), (50, 3, 4294967295, 1), (54, 2, 0, 1), (55, 3, 7, 2), (62, 2, 0, 1)]), (95, [(63, 3, 30, 2), (70, 2, 0, 1), (71, 3, 30, 2), (78, 2, 0, 1), (79, 3, 30, 2), (86, 2, 0, 1), (87, 3, 30, 2), (94, 2, 0, 1)]), (125, [(95, 3, 31000, 3), (103, 2, 0, 1), (104, 3, 64, 2), (111, 2, 0, 1), (112, 3, 448, 3), (120, 2, 0, 1), (121, 18, 12, 1), (124, 3, 1, 1)]), (138, [(125, 3, 4294967295, 1), (126, 20, 0, 0), (127, 2, 0, 1), (128, 18, 12, 1), (131, 3, 8, 2), (133, 3, 500, 3), (136, 20, 0, 0), (137, 2, 0, 1)]), (154, [(138, 18, 12, 1), (141, 3, 10, 2), (143, 3, 10, 2), (145, 20, 0, 0), (146, 2, 0, 1), (147, 18, 12, 1), (150, 3, 12, 2), (152, 3, 10, 2)]), (164, [(154, 20, 0, 0), (155, 2, 0, 1), (156, 18, 12, 1), (159, 3, 14, 2), (161, 3, 1, 1), (162, 20, 0, 0), (163, 17, 0, 0)])]
def ec_156 : List (Nat × List (Nat × es_C)) := [(10, [(0, 3, 0, 1), (1, 4, 2, 1), (2, 3, 0, 1), (3, 4, 3, 1), (4, 1, 3, 1), (5, 2, 0, 1), (6, 18, 12, 1), (9, 3, 4, 1)]), (42, [(10, 19, 0, 0), (11, 16, 40, 3), (40, 1, 2, 1), (41, 17, 0, 0)])]
def ec_157 : List (Nat × List (Nat × es_C)) := [(18, [(0, 2, 0, 1), (1, 3, 0, 1), (5, 2, 0, 1), (6, 1, 1, 1), (7, 15, 14, 0), (10, 3, 1, 1), (11, 6, 15, 0), (14, 3, 0, 1)]), (19, [(18, 17, 0, 0)])]
def ec_158 : List (Nat × List (Nat × es_C)) := [(18, [(0, 2, 0, 1), (1, 1, 1, 1), (2, 3, 0, 1), (3, 3, 5, 1), (7, 15, 14, 1), (10, 3, 1, 1), (11, 6, 15, 0), (14, 3, 0, 1)]), (28, [(18, 3, 0, 1), (19, 4, 2, 1), (20, 3, 0, 1), (21, 4, 3, 1), (22, 1, 3, 1), (23, 2, 0, 1), (24, 18, 12, 1), (27, 3, 4, 1)]), (70, [(28, 19, 0, 0), (29, 16, 68, 3), (68, 1, 2, 1), (69, 17, 0, 0)])]
def ec_159 : List (Nat × List (Nat × es_C)) := [(16, [(0, 2, 0, 1), (4, 2, 0, 1), (5, 3, 1, 1), (9, 4, 1, 1), (10, 2, 0, 1), (11, 2, 0, 1), (12, 18, 12, 12), (15, 3, 4294967295, 1)]), (41, [(16, 16, 23, 0), (23, 3, 0, 1), (27, 2, 0, 1), (28, 18, 12, 0), (31, 15, 36, 5), (36, 2, 0, 1), (37, 18, 12, 1), (40, 3, 1, 1)]), (53, [(41, 1, 1, 1), (42, 20, 0, 0), (43, 2, 0, 1), (44, 18, 12, 1), (47, 3, 2, 1), (48, 2, 0, 1), (49, 18, 12, 10), (52, 20, 0, 0)]), (90, [(53, 3, 0, 1), (54, 4, 2, 1), (55, 1, 2, 1), (56, 2, 0, 1), (57, 18, 12, 10), (60, 16, 85, 3), (85, 2, 0, 1), (86, 3, 0, 1)]), (92, [(90, 1, 1, 1), (91, 17, 0, 0)])]
def ec_160 : List (Nat × List (Nat × es_C)) := [(19, [(0, 2, 0, 1), (1, 2, 0, 1), (2, 1, 1, 1), (6, 15, 13, 1), (9, 3, 1, 1), (10, 6, 14, 0), (17, 3, 0, 1), (18, 4, 3, 1)]), (81, [(19, 3, 0, 1), (20, 4, 4, 2), (22, 1, 4, 2), (24, 2, 0, 1), (25, 18, 12, 1), (28, 3, 13, 2), (30, 19, 0, 0), (31, 16, 81, 3)]), (83, [(81, 1, 3, 1), (82, 17, 0, 0)])]
def ec_161 : List (Nat × List (Nat × es_C)) := [(21, [(0, 2, 0, 1), (1, 2, 0, 1), (2, 1, 1, 1), (6, 15, 13, 1), (9, 3, 1, 1), (10, 6, 14, 0), (17, 2, 0, 1), (18, 18, 12, 0)]), (35, [(21, 15, 28, 5), (24, 3, 0, 1), (25, 6, 34, 0), (34, 17, 0, 0)])]
def ec_162 : List (Nat × List (Nat × es_C)) := [(18, [(0, 2, 0, 1), (1, 1, 2, 1), (2, 3, 0, 1), (3, 3, 3, 1), (7, 15, 14, 1), (10, 3, 1, 1), (11, 6, 15, 0), (14, 3, 0, 1)]), (30, [(18, 2, 0, 1), (19, 18, 12, 0), (22, 15, 27, 5), (25, 3, 0, 1), (26, 17, 0, 0), (27, 1, 1, 1), (28, 3, 0, 1), (29, 2, 0, 1)]), (55, [(30, 18, 12, 1), (33, 3, 13, 2), (35, 19, 0, 0), (36, 3, 1, 1), (37, 8, 0, 0), (41, 15, 53, 0), (53, 3, 4294967295, 1), (54, 17, 0, 0)])]
def ec_163 : List (Nat × List (Nat × es_C)) := [(40, [(0, 2, 0, 1), (1, 2, 0, 1), (2, 1, 1, 1), (6, 15, 13, 1), (9, 3, 1, 1), (10, 6, 33, 0), (36, 2, 0, 1), (37, 18, 12, 0)]), (45, [(40, 15, 45, 5), (43, 3, 0, 1), (44, 17, 0, 0)])]
def ec_164 : List (Nat × List (Nat × es_C)) := [(35, [(0, 2, 0, 1), (1, 2, 0, 1), (2, 1, 1, 1), (6, 15, 13, 1), (9, 3, 1, 1), (10, 6, 28, 0), (31, 2, 0, 1), (32, 18, 12, 0)]), (40, [(35, 15, 40, 5), (38, 3, 0, 1), (39, 17, 0, 0)])]
def ec_165 : List (Nat × List (Nat × es_C)) := [(11, [(0, 2, 0, 1), (1, 3, 0, 1), (5, 3, 0, 1), (6, 4, 1, 1), (7, 3, 0, 1), (8, 4, 2, 1), (9, 1, 2, 1), (10, 2, 0, 1)]), (70, [(11, 18, 12, 1), (14, 3, 4, 1), (15, 19, 0, 0), (16, 16, 68, 3), (68, 1, 1, 1), (69, 17, 0, 0)])]
def ec_166 : List (Nat × List (Nat × es_C)) := [(35, [(0, 2, 0, 1), (1, 2, 0, 1), (2, 1, 1, 1), (6, 15, 13, 1), (9, 3, 1, 1), (10, 6, 28, 0), (31, 2, 0, 1), (32, 18, 12, 0)]), (40, [(35, 15, 40, 5), (38, 3, 0, 1), (39, 17, 0, 0)])]
def ec_167 : List (Nat × List (Nat × es_C)) := [(11, [(0, 3, 0, 1), (1, 4, 1, 1), (2, 3, 0, 1), (3, 4, 2, 1), (4, 1, 2, 1), (5, 3, 31, 2), (7, 16, 24, 3), (10, 1, 1, 1)]), (21, [(11, 1, 0, 1), (12, 1, 2, 1), (13, 13, 0, 0), (14, 3, 1, 1), (15, 10, 0, 0), (16, 7, 0, 0), (17, 4, 1, 1), (18, 5, 2, 1)]), (26, [(21, 6, 4, 0), (24, 1, 1, 1), (25, 17, 0, 0)])]
def ec_168 : List (Nat × List (Nat × es_C)) := [(10, [(0, 1, 0, 1), (1, 1, 1, 1), (2, 13, 0, 0), (3, 3, 1, 1), (4, 10, 0, 0), (5, 3, 1, 1), (6, 16, 13, 1), (9, 3, 1, 1)]), (15, [(10, 6, 14, 0), (13, 3, 0, 1), (14, 17, 0, 0)])]
def ec_169 : List (Nat × List (Nat × es_C)) := [(16, [(0, 2, 0, 1), (1, 1, 1, 1), (2, 3, 0, 1), (3, 3, 5, 1), (7, 15, 19, 0), (10, 1, 2, 1), (11, 3, 0, 1), (12, 3, 5, 1)]), (35, [(16, 15, 23, 1), (19, 3, 1, 1), (20, 6, 24, 0), (23, 3, 0, 1), (27, 2, 0, 1), (28, 18, 12, 0), (31, 15, 36, 5), (34, 3, 0, 1)]), (62, [(35, 17, 0, 0), (38, 3, 0, 1), (39, 4, 5, 2), (41, 1, 5, 2), (43, 1, 1, 1), (44, 16, 59, 3), (53, 5, 5, 1), (56, 6, 41, 0)]), (78, [(62, 3, 0, 1), (63, 4, 7, 2), (65, 1, 7, 2), (67, 3, 1, 1), (68, 1, 1, 1), (69, 12, 0, 0), (70, 16, 154, 3), (73, 1, 7, 2)]), (100, [(78, 1, 2, 1), (79, 16, 86, 3), (83, 6, 87, 0), (89, 3, 0, 1), (90, 4, 10, 2), (92, 1, 10, 2), (94, 1, 1, 1), (95, 16, 141, 3)]), (121, [(100, 1, 7, 2), (102, 1, 10, 2), (107, 15, 121, 0), (110, 2, 0, 1), (111, 18, 12, 1), (114, 3, 11, 2), (116, 19, 0, 0), (118, 6, 132, 0)]), (148, [(121, 3, 100, 2), (123, 2, 0, 1), (124, 18, 12, 1), (127, 3, 11, 2), (129, 19, 0, 0), (130, 8, 0, 0), (135, 5, 10, 1), (138, 6, 92, 0)]), (164, [(148, 5, 7, 1), (151, 6, 65, 0), (163, 17, 0, 0)])]
def ec_170 : List (Nat × List (Nat × es_C)) := [(20, [(0, 2, 0, 1), (1, 1, 1, 1), (2, 3, 0, 1), (3, 3, 200, 3), (9, 15, 16, 1), (12, 3, 1, 1), (13, 6, 17, 0), (16, 3, 0, 1)]), (35, [(20, 2, 0, 1), (21, 18, 12, 0), (24, 15, 29, 5), (27, 3, 0, 1), (28, 17, 0, 0), (29, 2, 0, 1), (33, 2, 0, 1), (34, 1, 1, 1)]), (52, [(35, 3, 0, 1), (39, 4, 2, 1), (40, 2, 0, 1), (41, 18, 12, 1), (44, 3, 9, 2), (46, 19, 0, 0), (47, 4, 3, 1), (48, 2, 0, 1)]), (54, [(52, 1, 3, 1), (53, 17, 0, 0)])]
def ec_171 : List (Nat × List (Nat × es_C)) := [(13, [(0, 1, 1, 1), (1, 3, 0, 1), (2, 2, 0, 1), (3, 18, 12, 1), (6, 3, 3, 1), (7, 19, 0, 0), (8, 3, 1, 1), (9, 8, 0, 0)]), (14, [(13, 17, 0, 0)])]
def ec_172 : List (Nat × List (Nat × es_C)) := [(57, [(0, 2, 0, 1), (1, 2, 0, 1), (2, 1, 1, 1), (6, 15, 17, 0), (17, 3, 1, 1), (18, 6, 50, 0), (53, 2, 0, 1), (54, 18, 12, 0)]), (62, [(57, 15, 62, 5), (60, 3, 0, 1), (61, 17, 0, 0)])]
def ec_173 : List (Nat × List (Nat × es_C)) := [(11, [(0, 2, 0, 1), (1, 1, 1, 1), (2, 3, 1, 1), (3, 2, 0, 1), (4, 18, 12, 1), (7, 3, 9, 2), (9, 19, 0, 0), (10, 2, 0, 1)]), (38, [(11, 18, 12, 1), (14, 3, 8, 2), (16, 19, 0, 0), (23, 15, 30, 1), (26, 3, 1, 1), (27, 6, 31, 0), (34, 2, 0, 1), (35, 18, 12, 0)]), (43, [(38, 15, 43, 5), (41, 3, 0, 1), (42, 17, 0, 0)])]
def ec_174 : List (Nat × List (Nat × es_C)) := [(42, [(0, 2, 0, 1), (1, 2, 0, 1), (2, 1, 1, 1), (6, 15, 13, 1), (9, 3, 1, 1), (10, 6, 35, 0), (38, 2, 0, 1), (39, 18, 12, 0)]), (47, [(42, 15, 47, 5), (45, 3, 0, 1), (46, 17, 0, 0)])]
def ec_175 : List (Nat × List (Nat × es_C)) := [(27, [(0, 2, 0, 1), (1, 2, 0, 1), (2, 1, 1, 1), (6, 15, 17, 0), (17, 3, 1, 1), (18, 6, 22, 0), (25, 3, 0, 1), (26, 4, 3, 1)]), (118, [(27, 3, 0, 1), (28, 4, 4, 2), (30, 1, 4, 2), (32, 3, 4, 1), (33, 16, 118, 3), (36, 2, 0, 1), (37, 18, 12, 0), (40, 15, 118, 1)]), (120, [(118, 1, 3, 1), (119, 17, 0, 0)])]
def ec_176 : List (Nat × List (Nat × es_C)) := [(14, [(0, 1, 1, 1), (1, 3, 0, 1), (2, 2, 0, 1), (3, 18, 12, 1), (6, 3, 6, 2), (8, 19, 0, 0), (9, 3, 1, 1), (10, 8, 0, 0)]), (15, [(14, 17, 0, 0)])]
def ec_177 : List (Nat × List (Nat × es_C)) := [(21, [(0, 2, 0, 1), (1, 2, 0, 1), (2, 1, 1, 1), (6, 15, 13, 1), (9, 3, 1, 1), (10, 6, 14, 0), (17, 2, 0, 1), (18, 18, 12, 0)]), (43, [(21, 15, 28, 5), (24, 3, 0, 1), (25, 6, 42, 0), (42, 17, 0, 0)])]
def ec_178 : List (Nat × List (Nat × es_C)) := [(13, [(0, 2, 0, 1), (1, 3, 0, 1), (5, 3, 1, 1), (6, 2, 0, 1), (7, 18, 12, 1), (10, 3, 3, 1), (11, 19, 0, 0), (12, 12, 0, 0)]), (21, [(13, 3, 1, 1), (14, 8, 0, 0), (15, 4, 1, 1), (16, 3, 4294967295, 1), (17, 4, 2, 1), (18, 3, 0, 1), (19, 4, 3, 1), (20, 1, 3, 1)]), (34, [(21, 3, 1, 1), (22, 2, 0, 1), (23, 18, 12, 1), (26, 3, 6, 2), (28, 19, 0, 0), (29, 12, 0, 0), (30, 16, 115, 3), (33, 3, 0, 1)]), (48, [(34, 4, 4, 2), (36, 3, 0, 1), (37, 4, 5, 2), (39, 1, 5, 2), (41, 2, 0, 1), (42, 18, 12, 1), (45, 3, 6, 2), (47, 19, 0, 0)]), (93, [(48, 16, 82, 3), (82, 1, 1, 1), (83, 1, 4, 2), (85, 3, 4294967295, 1), (87, 10, 0, 0), (88, 15, 109, 1), (91, 1, 2, 1), (92, 3, 4294967295, 1)]), (117, [(93, 16, 107, 0), (107, 1, 3, 1), (108, 4, 2, 1), (109, 5, 3, 1), (112, 6, 20, 0), (115, 1, 2, 1), (116, 17, 0, 0)])]
def ec_179 : List (Nat × List (Nat × es_C)) := [(14, [(0, 2, 0, 1), (1, 3, 0, 1), (5, 2, 0, 1), (6, 18, 12, 1), (9, 3, 14, 2), (11, 19, 0, 0), (12, 4, 2, 1), (13, 2, 0, 1)]), (23, [(14, 18, 12, 1), (17, 3, 14, 2), (19, 1, 1, 1), (20, 20, 0, 0), (21, 1, 2, 1), (22, 17, 0, 0)])]
def ec_180 : List (Nat × List (Nat × es_C)) := [(20, [(0, 2, 0, 1), (4, 4, 2, 1), (5, 2, 0, 1), (6, 1, 2, 1), (7, 3, 4294967295, 1), (8, 16, 15, 1), (15, 3, 0, 1), (19, 2, 0, 1)]), (42, [(20, 18, 12, 0), (23, 15, 30, 4), (26, 1, 1, 1), (27, 15, 43, 1), (30, 2, 0, 1), (31, 18, 12, 0), (34, 15, 41, 5), (41, 1, 2, 1)]), (59, [(42, 17, 0, 0), (43, 1, 2, 1), (44, 15, 51, 1), (51, 3, 63, 2), (53, 4, 3, 1), (54, 3, 1, 1), (55, 4, 4, 2), (57, 1, 4, 2)]), (77, [(59, 3, 64, 2), (61, 16, 85, 3), (64, 2, 0, 1), (65, 18, 12, 23), (68, 1, 4, 2), (71, 15, 79, 0), (74, 1, 3, 1), (75, 1, 4, 2)]), (87, [(77, 10, 0, 0), (78, 4, 3, 1), (79, 5, 4, 1), (82, 6, 57, 0), (85, 1, 3, 1), (86, 17, 0, 0)])]
def ec_181 : List (Nat × List (Nat × es_C)) := [(59, [(0, 2, 0, 1), (1, 2, 0, 1), (2, 1, 1, 1), (6, 15, 17, 0), (17, 3, 1, 1), (18, 6, 52, 0), (55, 2, 0, 1), (56, 18, 12, 0)]), (64, [(59, 15, 64, 5), (62, 3, 0, 1), (63, 17, 0, 0)])]
def ec_182 : List (Nat × List (Nat × es_C)) := [(19, [(0, 2, 0, 1), (1, 2, 0, 1), (2, 1, 1, 1), (6, 15, 13, 1), (9, 3, 1, 1), (10, 6, 14, 0), (17, 3, 0, 1), (18, 4, 2, 1)]), (68, [(19, 3, 0, 1), (20, 4, 3, 1), (21, 1, 3, 1), (22, 2, 0, 1), (23, 18, 12, 1), (26, 3, 5, 1), (27, 19, 0, 0), (28, 16, 68, 3)]), (70, [(68, 1, 2, 1), (69, 17, 0, 0)])]
def ec_183 : List (Nat × List (Nat × es_C)) := [(15, [(0, 2, 0, 1), (1, 1, 1, 1), (2, 3, 4294967295, 1), (3, 16, 18, 0), (6, 2, 0, 1), (7, 1, 1, 1), (11, 15, 18, 1), (14, 3, 1, 1)]), (32, [(15, 6, 19, 0), (18, 3, 0, 1), (22, 2, 0, 1), (23, 18, 12, 0), (26, 15, 31, 5), (29, 3, 0, 1), (30, 17, 0, 0), (31, 2, 0, 1)]), (45, [(32, 18, 12, 1), (35, 3, 6, 2), (37, 19, 0, 0), (38, 4, 2, 1), (39, 1, 2, 1), (40, 4, 3, 1), (41, 1, 3, 1), (42, 15, 151, 2)]), (60, [(45, 3, 0, 1), (46, 4, 4, 2), (48, 1, 4, 2), (50, 3, 64, 2), (52, 16, 145, 3), (55, 1, 3, 1), (56, 1, 2, 1), (57, 16, 64, 1)]), (83, [(60, 3, 0, 1), (61, 6, 72, 0), (72, 4, 5, 2), (74, 3, 0, 1), (75, 4, 6, 2), (77, 1, 6, 2), (79, 2, 0, 1), (80, 18, 12, 1)]), (133, [(83, 3, 4, 1), (84, 19, 0, 0), (85, 16, 125, 3), (125, 2, 0, 1), (126, 18, 12, 24), (129, 3, 64, 2), (131, 1, 3, 1), (132, 9, 0, 0)]), (151, [(133, 1, 4, 2), (135, 7, 0, 0), (136, 1, 5, 2), (138, 20, 0, 0), (139, 5, 4, 1), (142, 6, 48, 0), (145, 5, 3, 4294967295), (148, 6, 41, 0)]), (166, [(151, 2, 0, 1), (152, 3, 0, 1), (156, 4, 3, 1), (157, 1, 1, 1), (158, 3, 4294967295, 1), (159, 16, 169, 1), (162, 2, 0, 1), (163, 18, 12, 24)]), (169, [(166, 1, 3, 1), (167, 19, 0, 0), (168, 17, 0, 0)])]
def ec_184 : List (Nat × List (Nat × es_C)) := [(11, [(0, 1, 0, 1), (1, 1, 1, 1), (2, 16, 9, 5), (9, 1, 1, 1), (10, 17, 0, 0)])]
def ec_185 : List (Nat × List (Nat × es_C)) := [(20, [(0, 2, 0, 1), (1, 1, 1, 1), (2, 3, 0, 1), (3, 3, 200, 3), (9, 15, 16, 1), (12, 3, 1, 1), (13, 6, 17, 0), (16, 3, 0, 1)]), (35, [(20, 2, 0, 1), (21, 18, 12, 0), (24, 15, 29, 5), (27, 3, 0, 1), (28, 17, 0, 0), (29, 2, 0, 1), (33, 3, 4294967295, 1), (34, 4, 3, 1)]), (51, [(35, 3, 1, 1), (36, 4, 4, 2), (38, 1, 4, 2), (40, 3, 6, 2), (42, 16, 111, 4), (45, 2, 0, 1), (46, 18, 12, 1), (49, 3, 14, 2)]), (66, [(51, 1, 4, 2), (53, 20, 0, 0), (54, 2, 0, 1), (55, 1, 1, 1), (56, 3, 1, 1), (60, 4, 5, 2), (62, 2, 0, 1), (63, 18, 12, 1)]), (82, [(66, 3, 8, 2), (68, 19, 0, 0), (69, 4, 6, 2), (71, 2, 0, 1), (75, 1, 3, 1), (76, 3, 4294967295, 1), (77, 16, 85, 1), (80, 1, 6, 2)]), (104, [(82, 6, 104, 0), (85, 1, 2, 1), (86, 15, 98, 0), (89, 1, 3, 1), (90, 1, 6, 2), (95, 6, 104, 0), (98, 1, 3, 1), (99, 1, 6, 2)]), (113, [(104, 4, 3, 1), (105, 5, 4, 1), (108, 6, 38, 0), (111, 1, 3, 1), (112, 17, 0, 0)])]
def ec_186 : List (Nat × List (Nat × es_C)) := [(34, [(0, 2, 0, 1), (1, 2, 0, 1), (2, 1, 1, 1), (6, 15, 13, 1), (9, 3, 1, 1), (10, 6, 27, 0), (30, 2, 0, 1), (31, 18, 12, 0)]), (39, [(34, 15, 39, 5), (37, 3, 0, 1), (38, 17, 0, 0)])]
def ec_187 : List (Nat × List (Nat × es_C)) := [(21, [(0, 2, 0, 1), (1, 2, 0, 1), (2, 1, 1, 1), (6, 15, 13, 1), (9, 3, 1, 1), (10, 6, 14, 0), (17, 2, 0, 1), (18, 18, 12, 0)]), (47, [(21, 15, 45, 1), (45, 3, 0, 1), (46, 17, 0, 0)])]
def ec_188 : List (Nat × List (Nat × es_C)) := [(13, [(0, 1, 1, 1), (1, 3, 0, 1), (2, 2, 0, 1), (3, 18, 12, 1), (6, 3, 5, 1), (7, 19, 0, 0), (8, 3, 1, 1), (9, 8, 0, 0)]), (14, [(13, 17, 0, 0)])]
def ec_189 : List (Nat × List (Nat × es_C)) := [(21, [(0, 2, 0, 1), (1, 2, 0, 1), (2, 1, 1, 1), (6, 15, 13, 1), (9, 3, 1, 1), (10, 6, 14, 0), (17, 2, 0, 1), (18, 18, 12, 0)]), (46, [(21, 15, 28, 5), (24, 3, 0, 1), (25, 6, 45, 0), (45, 17, 0, 0)])]
def ec_190 : List (Nat × List (Nat × es_C)) := [(5, [(0, 2, 0, 1), (1, 18, 12, 0), (4, 17, 0, 0)])]
def ec_191 : List (Nat × List (Nat × es_C)) := [(20, [(0, 2, 0, 1), (1, 1, 1, 1), (2, 3, 0, 1), (3, 3, 200, 3), (9, 15, 16, 1), (12, 3, 1, 1), (13, 6, 17, 0), (16, 3, 0, 1)]), (35, [(20, 2, 0, 1), (21, 18, 12, 0), (24, 15, 29, 5), (27, 3, 0, 1), (28, 17, 0, 0), (29, 2, 0, 1), (33, 2, 0, 1), (34, 1, 1, 1)]), (56, [(35, 3, 1, 1), (39, 4, 3, 1), (40, 1, 2, 1), (41, 15, 55, 0), (44, 2, 0, 1), (45, 3, 0, 1), (52, 6, 62, 0), (55, 2, 0, 1)]), (71, [(56, 18, 12, 1), (59, 3, 8, 2), (61, 19, 0, 0), (62, 4, 4, 2), (64, 2, 0, 1), (68, 1, 4, 2), (70, 17, 0, 0)])]
def ec_192 : List (Nat × List (Nat × es_C)) := [(41, [(0, 2, 0, 1), (1, 2, 0, 1), (2, 1, 1, 1), (6, 15, 17, 0), (17, 3, 1, 1), (18, 6, 34, 0), (37, 2, 0, 1), (38, 18, 12, 0)]), (46, [(41, 15, 46, 5), (44, 3, 0, 1), (45, 17, 0, 0)])]
def ec_193 : List (Nat × List (Nat × es_C)) := [(14, [(0, 2, 0, 1), (1, 3, 0, 1), (5, 2, 0, 1), (6, 18, 12, 6), (9, 15, 14, 1), (12, 3, 0, 1), (13, 17, 0, 0)])]
def ec_194 : List (Nat × List (Nat × es_C)) := [(33, [(16, 3, 1, 1), (20, 3, 0, 1), (21, 4, 4, 2), (23, 1, 4, 2), (25, 2, 0, 1), (27, 3, 6, 2), (29, 8, 0, 0), (30, 16, 2803, 4)]), (251, [(33, 2, 0, 1), (34, 1, 4, 2), (37, 3, 63, 2), (244, 2, 1, 1), (245, 2, 0, 1), (246, 1, 4, 2), (248, 3, 1, 1), (249, 7, 0, 0)]), (263, [(251, 2, 0, 1), (252, 1, 4, 2), (254, 3, 2, 1), (255, 7, 0, 0), (257, 2, 0, 1), (258, 1, 4, 2), (260, 3, 3, 1), (261, 7, 0, 0)]), (278, [(263, 2, 0, 1), (264, 1, 4, 2), (266, 3, 4, 1), (267, 7, 0, 0), (269, 2, 0, 1), (270, 1, 4, 2), (272, 3, 5, 1), (273, 7, 0, 0)]), (289, [(278, 2, 2, 1), (279, 2, 0, 1), (280, 1, 4, 2), (282, 3, 1, 1), (283, 7, 0, 0), (285, 2, 0, 1), (286, 1, 4, 2), (288, 3, 2, 1)]), (301, [(289, 7, 0, 0), (291, 2, 0, 1), (292, 1, 4, 2), (294, 3, 3, 1), (295, 7, 0, 0), (297, 2, 0, 1), (298, 1, 4, 2), (300, 3, 4, 1)]), (319, [(301, 7, 0, 0), (303, 2, 0, 1), (304, 1, 4, 2), (306, 3, 5, 1), (307, 7, 0, 0), (312, 16, 2797, 0), (317, 2, 1, 1), (318, 2, 0, 1)]), (337, [(319, 1, 4, 2), (321, 3, 1, 1), (322, 7, 0, 0), (327, 2, 2, 1), (328, 2, 0, 1), (329, 1, 4, 2), (331, 3, 1, 1), (332, 7, 0, 0)]), (361, [(337, 16, 2797, 0), (342, 2, 1, 1), (343, 2, 3, 1), (347, 4, 5, 2), (349, 2, 2, 1), (353, 4, 6, 2), (355, 2, 2, 1), (359, 1, 5, 2)]), (386, [(361, 16, 366, 0), (366, 1, 5, 2), (368, 15, 383, 1), (371, 2, 3, 1), (372, 3, 0, 1), (374, 1, 6, 2), (378, 15, 383, 0), (383, 6, 2797, 0)]), (410, [(386, 2, 1, 1), (387, 2, 3, 1), (391, 4, 5, 2), (393, 2, 2, 1), (397, 4, 6, 2), (399, 2, 2, 1), (403, 1, 5, 2), (405, 16, 410, 0)]), (434, [(410, 1, 5, 2), (412, 15, 427, 1), (415, 2, 3, 1), (416, 3, 0, 1), (418, 1, 6, 2), (422, 15, 427, 0), (427, 6, 2797, 0), (430, 2, 1, 1)]), (451, [(434, 2, 2, 1), (438, 16, 2797, 0), (443, 2, 1, 1), (444, 2, 0, 1), (445, 1, 4, 2), (447, 3, 1, 1), (448, 7, 0, 0), (450, 2, 0, 1)]), (466, [(451, 1, 4, 2), (453, 3, 2, 1), (454, 7, 0, 0), (456, 2, 3, 1), (460, 4, 5, 2), (462, 2, 2, 1), (463, 2, 0, 1), (464, 1, 4, 2)]), (484, [(466, 3, 1, 1), (467, 7, 0, 0), (469, 2, 0, 1), (470, 1, 4, 2), (472, 3, 2, 1), (473, 7, 0, 0), (478, 4, 6, 2), (480, 2, 2, 1)]), (515, [(484, 1, 5, 2), (486, 16, 491, 0), (491, 1, 5, 2), (493, 15, 508, 1), (508, 6, 2797, 0), (511, 2, 1, 1), (512, 2, 0, 1), (513, 1, 4, 2)]), (530, [(515, 3, 1, 1), (516, 7, 0, 0), (518, 2, 0, 1), (519, 1, 4, 2), (521, 3, 2, 1), (522, 7, 0, 0), (524, 2, 3, 1), (528, 4, 5, 2)]), (541, [(530, 2, 2, 1), (531, 2, 0, 1), (532, 1, 4, 2), (534, 3, 1, 1), (535, 7, 0, 0), (537, 2, 0, 1), (538, 1, 4, 2), (540, 3, 2, 1)]), (579, [(541, 7, 0, 0), (546, 4, 6, 2), (548, 2, 2, 1), (552, 1, 5, 2), (554, 16, 559, 0), (559, 1, 5, 2), (561, 15, 576, 1), (576, 6, 2797, 0)]), (590, [(579, 2, 1, 1), (580, 2, 0, 1), (581, 1, 4, 2), (583, 3, 1, 1), (584, 7, 0, 0), (586, 2, 0, 1), (587, 1, 4, 2), (589, 3, 2, 1)]), (607, [(590, 7, 0, 0), (592, 15, 599, 0), (595, 3, 1, 1), (596, 6, 600, 0), (599, 3, 0, 1), (600, 2, 3, 1), (604, 4, 5, 2), (606, 2, 2, 1)]), (619, [(607, 2, 0, 1), (608, 1, 4, 2), (610, 3, 1, 1), (611, 7, 0, 0), (613, 2, 0, 1), (614, 1, 4, 2), (616, 3, 2, 1), (617, 7, 0, 0)]), (643, [(619, 15, 626, 0), (622, 3, 1, 1), (623, 6, 627, 0), (626, 3, 0, 1), (630, 4, 6, 2), (632, 2, 2, 1), (636, 1, 5, 2), (638, 16, 643, 0)]), (670, [(643, 1, 5, 2), (645, 15, 660, 1), (660, 6, 2797, 0), (663, 2, 1, 1), (664, 2, 0, 1), (665, 1, 4, 2), (667, 3, 1, 1), (668, 7, 0, 0)]), (684, [(670, 2, 0, 1), (671, 1, 4, 2), (673, 3, 2, 1), (674, 7, 0, 0), (676, 15, 683, 0), (679, 3, 1, 1), (680, 6, 684, 0), (683, 3, 0, 1)]), (698, [(684, 2, 3, 1), (688, 4, 5, 2), (690, 2, 2, 1), (691, 2, 0, 1), (692, 1, 4, 2), (694, 3, 1, 1), (695, 7, 0, 0), (697, 2, 0, 1)]), (716, [(698, 1, 4, 2), (700, 3, 2, 1), (701, 7, 0, 0), (703, 15, 710, 0), (706, 3, 1, 1), (707, 6, 711, 0), (710, 3, 0, 1), (714, 4, 6, 2)]), (749, [(716, 2, 2, 1), (720, 1, 5, 2), (722, 16, 727, 0), (727, 1, 5, 2), (729, 15, 744, 1), (744, 6, 2797, 0), (747, 2, 1, 1), (748, 2, 0, 1)]), (764, [(749, 1, 4, 2), (751, 3, 1, 1), (752, 7, 0, 0), (754, 2, 3, 1), (758, 4, 5, 2), (760, 2, 2, 1), (761, 2, 0, 1), (762, 1, 4, 2)]), (800, [(764, 3, 1, 1), (765, 7, 0, 0), (770, 4, 6, 2), (772, 2, 2, 1), (776, 1, 5, 2), (778, 16, 783, 0), (783, 1, 5, 2), (785, 15, 800, 1)]), (813, [(800, 6, 2797, 0), (803, 2, 1, 1), (804, 2, 0, 1), (805, 1, 4, 2), (807, 3, 1, 1), (808, 7, 0, 0), (810, 2, 0, 1), (811, 1, 4, 2)]), (827, [(813, 3, 2, 1), (814, 7, 0, 0), (816, 2, 3, 1), (820, 4, 5, 2), (822, 2, 2, 1), (823, 2, 0, 1), (824, 1, 4, 2), (826, 3, 1, 1)]), (846, [(827, 7, 0, 0), (829, 2, 0, 1), (830, 1, 4, 2), (832, 3, 2, 1), (833, 7, 0, 0), (838, 4, 6, 2), (840, 2, 2, 1), (844, 1, 5, 2)]), (883, [(846, 16, 851, 0), (851, 1, 5, 2), (853, 15, 875, 1), (875, 6, 2797, 0), (878, 2, 1, 1), (879, 2, 0, 1), (880, 1, 4, 2), (882, 3, 1, 1)]), (901, [(883, 7, 0, 0), (885, 2, 3, 1), (889, 4, 5, 2), (891, 2, 2, 1), (892, 2, 0, 1), (893, 1, 4, 2), (895, 3, 1, 1), (896, 7, 0, 0)]), (935, [(901, 4, 6, 2), (903, 2, 2, 1), (907, 1, 5, 2), (909, 16, 914, 0), (914, 1, 5, 2), (916, 15, 931, 1), (931, 6, 2797, 0), (934, 2, 1, 1)]), (947, [(935, 2, 0, 1), (936, 1, 4, 2), (938, 3, 1, 1), (939, 7, 0, 0), (941, 2, 0, 1), (942, 1, 4, 2), (944, 3, 2, 1), (945, 7, 0, 0)]), (961, [(947, 2, 0, 1), (948, 1, 4, 2), (950, 3, 3, 1), (951, 7, 0, 0), (953, 2, 3, 1), (957, 4, 5, 2), (959, 2, 2, 1), (960, 2, 0, 1)]), (973, [(961, 1, 4, 2), (963, 3, 1, 1), (964, 7, 0, 0), (966, 2, 0, 1), (967, 1, 4, 2), (969, 3, 2, 1), (970, 7, 0, 0), (972, 2, 0, 1)]), (996, [(973, 1, 4, 2), (975, 3, 3, 1), (976, 7, 0, 0), (981, 4, 6, 2), (983, 2, 2, 1), (987, 1, 5, 2), (989, 16, 994, 0), (994, 1, 5, 2)]), (1022, [(996, 15, 1011, 1), (1011, 6, 2797, 0), (1014, 2, 1, 1), (1015, 2, 0, 1), (1016, 1, 4, 2), (1018, 3, 1, 1), (1019, 7, 0, 0), (1021, 2, 0, 1)]), (1037, [(1022, 1, 4, 2), (1024, 3, 2, 1), (1025, 7, 0, 0), (1027, 2, 3, 1), (1031, 4, 5, 2), (1033, 2, 2, 1), (1034, 2, 0, 1), (1035, 1, 4, 2)]), (1055, [(1037, 3, 1, 1), (1038, 7, 0, 0), (1040, 2, 0, 1), (1041, 1, 4, 2), (1043, 3, 2, 1), (1044, 7, 0, 0), (1049, 4, 6, 2), (1051, 2, 2, 1)]), (1086, [(1055, 1, 5, 2), (1057, 16, 1062, 0), (1062, 1, 5, 2), (1064, 15, 1079, 1), (1079, 6, 2797, 0), (1082, 2, 1, 1), (1083, 2, 0, 1), (1084, 1, 4, 2)]), (1100, [(1086, 3, 1, 1), (1087, 7, 0, 0), (1089, 2, 3, 1), (1093, 4, 5, 2), (1095, 2, 2, 1), (1096, 2, 0, 1), (1097, 1, 4, 2), (1099, 3, 1, 1)]), (1138, [(1100, 7, 0, 0), (1105, 4, 6, 2), (1107, 2, 2, 1), (1111, 1, 5, 2), (1113, 16, 1118, 0), (1118, 1, 5, 2), (1120, 15, 1135, 1), (1135, 6, 2797, 0)]), (1152, [(1138, 2, 1, 1), (1139, 2, 0, 1), (1140, 1, 4, 2), (1142, 3, 1, 1), (1143, 7, 0, 0), (1145, 2, 3, 1), (1149, 4, 5, 2), (1151, 2, 2, 1)]), (1174, [(1152, 2, 0, 1), (1153, 1, 4, 2), (1155, 3, 1, 1), (1156, 7, 0, 0), (1161, 4, 6, 2), (1163, 2, 2, 1), (1167, 1, 5, 2), (1169, 16, 1174, 0)]), (1195, [(1174, 1, 5, 2), (1176, 15, 1191, 1), (1179, 2, 3, 1), (1180, 3, 0, 1), (1182, 1, 6, 2), (1186, 15, 1191, 0), (1191, 6, 2797, 0), (1194, 2, 1, 1)]), (1207, [(1195, 2, 0, 1), (1196, 1, 4, 2), (1198, 3, 1, 1), (1199, 7, 0, 0), (1201, 2, 0, 1), (1202, 1, 4, 2), (1204, 3, 2, 1), (1205, 7, 0, 0)]), (1221, [(1207, 2, 0, 1), (1208, 1, 4, 2), (1210, 3, 3, 1), (1211, 7, 0, 0), (1213, 2, 3, 1), (1217, 4, 5, 2), (1219, 2, 2, 1), (1220, 2, 0, 1)]), (1233, [(1221, 1, 4, 2), (1223, 3, 1, 1), (1224, 7, 0, 0), (1226, 2, 0, 1), (1227, 1, 4, 2), (1229, 3, 2, 1), (1230, 7, 0, 0), (1232, 2, 0, 1)]), (1256, [(1233, 1, 4, 2), (1235, 3, 3, 1), (1236, 7, 0, 0), (1241, 4, 6, 2), (1243, 2, 2, 1), (1247, 1, 5, 2), (1249, 16, 1254, 0), (1254, 1, 5, 2)]), (1285, [(1256, 15, 1271, 1), (1271, 6, 2797, 0), (1274, 2, 1, 1), (1275, 2, 0, 1), (1276, 1, 4, 2), (1278, 3, 1, 1), (1279, 7, 0, 0), (1281, 2, 3, 1)]), (1303, [(1285, 4, 5, 2), (1287, 2, 2, 1), (1288, 2, 0, 1), (1289, 1, 4, 2), (1291, 3, 1, 1), (1292, 7, 0, 0), (1297, 4, 6, 2), (1299, 2, 2, 1)]), (1327, [(1303, 1, 5, 2), (1305, 16, 1310, 0), (1310, 1, 5, 2), (1312, 15, 1327, 1), (1315, 2, 3, 1), (1316, 3, 0, 1), (1318, 1, 6, 2), (1322, 15, 1327, 0)]), (1343, [(1327, 6, 2797, 0), (1330, 2, 1, 1), (1331, 2, 0, 1), (1332, 1, 4, 2), (1334, 3, 1, 1), (1335, 7, 0, 0), (1337, 2, 3, 1), (1341, 4, 5, 2)]), (1361, [(1343, 2, 2, 1), (1344, 2, 0, 1), (1345, 1, 4, 2), (1347, 3, 1, 1), (1348, 7, 0, 0), (1353, 4, 6, 2), (1355, 2, 2, 1), (1359, 1, 5, 2)]), (1386, [(1361, 16, 1366, 0), (1366, 1, 5, 2), (1368, 15, 1383, 1), (1371, 2, 3, 1), (1372, 3, 0, 1), (1374, 1, 6, 2), (1378, 15, 1383, 0), (1383, 6, 2797, 0)]), (1400, [(1386, 2, 1, 1), (1387, 2, 0, 1), (1388, 1, 4, 2), (1390, 3, 1, 1), (1391, 7, 0, 0), (1393, 2, 3, 1), (1397, 4, 5, 2), (1399, 2, 2, 1)]), (1422, [(1400, 2, 0, 1), (1401, 1, 4, 2), (1403, 3, 1, 1), (1404, 7, 0, 0), (1409, 4, 6, 2), (1411, 2, 2, 1), (1415, 1, 5, 2), (1417, 16, 1422, 0)]), (1449, [(1422, 1, 5, 2), (1424, 15, 1439, 1), (1439, 6, 2797, 0), (1442, 2, 1, 1), (1443, 2, 0, 1), (1444, 1, 4, 2), (1446, 3, 1, 1), (1447, 7, 0, 0)]), (1467, [(1449, 2, 3, 1), (1453, 4, 5, 2), (1455, 2, 2, 1), (1456, 2, 0, 1), (1457, 1, 4, 2), (1459, 3, 1, 1), (1460, 7, 0, 0), (1465, 4, 6, 2)]), (1500, [(1467, 2, 2, 1), (1471, 1, 5, 2), (1473, 16, 1478, 0), (1478, 1, 5, 2), (1480, 15, 1495, 1), (1495, 6, 2797, 0), (1498, 2, 1, 1), (1499, 2, 0, 1)]), (1515, [(1500, 1, 4, 2), (1502, 3, 1, 1), (1503, 7, 0, 0), (1505, 2, 0, 1), (1506, 1, 4, 2), (1508, 3, 2, 1), (1509, 7, 0, 0), (1511, 2, 3, 1)]), (1527, [(1515, 4, 5, 2), (1517, 2, 2, 1), (1518, 2, 0, 1), (1519, 1, 4, 2), (1521, 3, 1, 1), (1522, 7, 0, 0), (1524, 2, 0, 1), (1525, 1, 4, 2)]), (1563, [(1527, 3, 2, 1), (1528, 7, 0, 0), (1533, 4, 6, 2), (1535, 2, 2, 1), (1539, 1, 5, 2), (1541, 16, 1546, 0), (1546, 1, 5, 2), (1548, 15, 1563, 1)]), (1576, [(1563, 6, 2797, 0), (1566, 2, 1, 1), (1567, 2, 0, 1), (1568, 1, 4, 2), (1570, 3, 1, 1), (1571, 7, 0, 0), (1573, 2, 0, 1), (1574, 1, 4, 2)]), (1590, [(1576, 3, 2, 1), (1577, 7, 0, 0), (1579, 2, 3, 1), (1583, 4, 5, 2), (1585, 2, 2, 1), (1586, 2, 0, 1), (1587, 1, 4, 2), (1589, 3, 1, 1)]), (1609, [(1590, 7, 0, 0), (1592, 2, 0, 1), (1593, 1, 4, 2), (1595, 3, 2, 1), (1596, 7, 0, 0), (1601, 4, 6, 2), (1603, 2, 2, 1), (1607, 1, 5, 2)]), (1639, [(1609, 16, 1614, 0), (1614, 1, 5, 2), (1616, 15, 1631, 1), (1631, 6, 2797, 0), (1634, 2, 1, 1), (1635, 2, 0, 1), (1636, 1, 4, 2), (1638, 3, 1, 1)]), (1654, [(1639, 7, 0, 0), (1641, 2, 0, 1), (1642, 1, 4, 2), (1644, 3, 2, 1), (1645, 7, 0, 0), (1647, 2, 3, 1), (1651, 4, 5, 2), (1653, 2, 2, 1)]), (1669, [(1654, 2, 0, 1), (1655, 1, 4, 2), (1657, 3, 1, 1), (1658, 7, 0, 0), (1660, 2, 0, 1), (1661, 1, 4, 2), (1663, 3, 2, 1), (1664, 7, 0, 0)]), (1710, [(1669, 4, 6, 2), (1671, 2, 2, 1), (1675, 1, 5, 2), (1677, 16, 1682, 0), (1682, 1, 5, 2), (1684, 15, 1706, 1), (1706, 6, 2797, 0), (1709, 2, 1, 1)]), (1724, [(1710, 2, 0, 1), (1711, 1, 4, 2), (1713, 3, 1, 1), (1714, 7, 0, 0), (1716, 2, 3, 1), (1720, 4, 5, 2), (1722, 2, 2, 1), (1723, 2, 0, 1)]), (1747, [(1724, 1, 4, 2), (1726, 3, 1, 1), (1727, 7, 0, 0), (1732, 4, 6, 2), (1734, 2, 2, 1), (1738, 1, 5, 2), (1740, 16, 1745, 0), (1745, 1, 5, 2)]), (1773, [(1747, 15, 1762, 1), (1762, 6, 2797, 0), (1765, 2, 1, 1), (1766, 2, 0, 1), (1767, 1, 4, 2), (1769, 3, 1, 1), (1770, 7, 0, 0), (1772, 2, 0, 1)]), (1790, [(1773, 1, 4, 2), (1775, 3, 2, 1), (1776, 7, 0, 0), (1778, 15, 1785, 0), (1781, 3, 1, 1), (1782, 6, 1786, 0), (1785, 3, 0, 1), (1786, 2, 3, 1)]), (1802, [(1790, 4, 5, 2), (1792, 2, 2, 1), (1793, 2, 0, 1), (1794, 1, 4, 2), (1796, 3, 1, 1), (1797, 7, 0, 0), (1799, 2, 0, 1), (1800, 1, 4, 2)]), (1822, [(1802, 3, 2, 1), (1803, 7, 0, 0), (1805, 15, 1812, 0), (1808, 3, 1, 1), (1809, 6, 1813, 0), (1812, 3, 0, 1), (1816, 4, 6, 2), (1818, 2, 2, 1)]), (1853, [(1822, 1, 5, 2), (1824, 16, 1829, 0), (1829, 1, 5, 2), (1831, 15, 1846, 1), (1846, 6, 2797, 0), (1849, 2, 1, 1), (1850, 2, 0, 1), (1851, 1, 4, 2)]), (1867, [(1853, 3, 1, 1), (1854, 7, 0, 0), (1856, 2, 3, 1), (1860, 4, 5, 2), (1862, 2, 2, 1), (1863, 2, 0, 1), (1864, 1, 4, 2), (1866, 3, 1, 1)]), (1905, [(1867, 7, 0, 0), (1872, 4, 6, 2), (1874, 2, 2, 1), (1878, 1, 5, 2), (1880, 16, 1885, 0), (1885, 1, 5, 2), (1887, 15, 1902, 1), (1902, 6, 2797, 0)]), (1919, [(1905, 2, 1, 1), (1906, 2, 0, 1), (1907, 1, 4, 2), (1909, 3, 1, 1), (1910, 7, 0, 0), (1912, 15, 1919, 0), (1915, 3, 1, 1), (1916, 6, 1920, 0)]), (1933, [(1919, 3, 0, 1), (1920, 2, 3, 1), (1924, 4, 5, 2), (1926, 2, 2, 1), (1927, 2, 0, 1), (1928, 1, 4, 2), (1930, 3, 1, 1), (1931, 7, 0, 0)]), (1957, [(1933, 15, 1940, 0), (1936, 3, 1, 1), (1937, 6, 1941, 0), (1940, 3, 0, 1), (1944, 4, 6, 2), (1946, 2, 2, 1), (1950, 1, 5, 2), (1952, 16, 1957, 0)]), (1978, [(1957, 1, 5, 2), (1959, 15, 1974, 1), (1962, 2, 3, 1), (1963, 3, 0, 1), (1965, 1, 6, 2), (1969, 15, 1974, 0), (1974, 6, 2797, 0), (1977, 2, 1, 1)]), (2003, [(1978, 2, 3, 1), (1982, 4, 5, 2), (1984, 2, 2, 1), (1988, 4, 6, 2), (1990, 2, 2, 1), (1994, 1, 5, 2), (1996, 16, 2001, 0), (2001, 1, 5, 2)]), (2023, [(2003, 15, 2018, 1), (2006, 2, 3, 1), (2007, 3, 0, 1), (2009, 1, 6, 2), (2013, 15, 2018, 0), (2018, 6, 2797, 0), (2021, 2, 1, 1), (2022, 2, 0, 1)]), (2038, [(2023, 1, 4, 2), (2025, 3, 1, 1), (2026, 7, 0, 0), (2028, 2, 0, 1), (2029, 1, 4, 2), (2031, 3, 2, 1), (2032, 7, 0, 0), (2034, 2, 3, 1)]), (2050, [(2038, 4, 5, 2), (2040, 2, 2, 1), (2041, 2, 0, 1), (2042, 1, 4, 2), (2044, 3, 1, 1), (2045, 7, 0, 0), (2047, 2, 0, 1), (2048, 1, 4, 2)]), (2086, [(2050, 3, 2, 1), (2051, 7, 0, 0), (2056, 4, 6, 2), (2058, 2, 2, 1), (2062, 1, 5, 2), (2064, 16, 2069, 0), (2069, 1, 5, 2), (2071, 15, 2086, 1)]), (2099, [(2086, 6, 2797, 0), (2089, 2, 1, 1), (2090, 2, 0, 1), (2091, 1, 4, 2), (2093, 3, 1, 1), (2094, 7, 0, 0), (2096, 2, 0, 1), (2097, 1, 4, 2)]), (2113, [(2099, 3, 2, 1), (2100, 7, 0, 0), (2102, 2, 3, 1), (2106, 4, 5, 2), (2108, 2, 2, 1), (2109, 2, 0, 1), (2110, 1, 4, 2), (2112, 3, 1, 1)]), (2132, [(2113, 7, 0, 0), (2115, 2, 0, 1), (2116, 1, 4, 2), (2118, 3, 2, 1), (2119, 7, 0, 0), (2124, 4, 6, 2), (2126, 2, 2, 1), (2130, 1, 5, 2)]), (2157, [(2132, 16, 2137, 0), (2137, 1, 5, 2), (2139, 15, 2154, 1), (2142, 2, 3, 1), (2143, 3, 0, 1), (2145, 1, 6, 2), (2149, 15, 2154, 0), (2154, 6, 2797, 0)]), (2171, [(2157, 2, 1, 1), (2158, 2, 0, 1), (2159, 1, 4, 2), (2161, 3, 1, 1), (2162, 7, 0, 0), (2164, 15, 2171, 0), (2167, 3, 1, 1), (2168, 6, 2172, 0)]), (2186, [(2171, 3, 0, 1), (2175, 2, 2, 1), (2176, 2, 0, 1), (2177, 1, 4, 2), (2179, 3, 1, 1), (2180, 7, 0, 0), (2182, 15, 2189, 0), (2185, 3, 1, 1)]), (2205, [(2186, 6, 2190, 0), (2189, 3, 0, 1), (2193, 16, 2797, 0), (2198, 2, 1, 1), (2199, 2, 0, 1), (2200, 1, 4, 2), (2202, 3, 1, 1), (2203, 7, 0, 0)]), (2223, [(2205, 2, 3, 1), (2209, 4, 5, 2), (2211, 2, 2, 1), (2212, 2, 0, 1), (2213, 1, 4, 2), (2215, 3, 1, 1), (2216, 7, 0, 0), (2221, 4, 6, 2)]), (2246, [(2223, 2, 2, 1), (2227, 1, 5, 2), (2229, 16, 2234, 0), (2234, 1, 5, 2), (2236, 15, 2251, 1), (2239, 2, 3, 1), (2240, 3, 0, 1), (2242, 1, 6, 2)]), (2280, [(2246, 15, 2251, 0), (2251, 6, 2797, 0), (2254, 2, 1, 1), (2258, 2, 2, 1), (2262, 16, 2797, 0), (2267, 2, 1, 1), (2271, 2, 2, 1), (2275, 16, 2797, 0)]), (2294, [(2280, 2, 1, 1), (2281, 2, 0, 1), (2282, 1, 4, 2), (2284, 3, 1, 1), (2285, 7, 0, 0), (2287, 2, 3, 1), (2291, 4, 5, 2), (2293, 2, 2, 1)]), (2316, [(2294, 2, 0, 1), (2295, 1, 4, 2), (2297, 3, 1, 1), (2298, 7, 0, 0), (2303, 4, 6, 2), (2305, 2, 2, 1), (2309, 1, 5, 2), (2311, 16, 2316, 0)]), (2340, [(2316, 1, 5, 2), (2318, 15, 2333, 1), (2321, 2, 3, 1), (2322, 3, 0, 1), (2324, 1, 6, 2), (2328, 15, 2333, 0), (2333, 6, 2797, 0), (2336, 2, 1, 1)]), (2359, [(2340, 2, 2, 1), (2344, 16, 2797, 0), (2349, 2, 1, 1), (2350, 2, 0, 1), (2351, 1, 4, 2), (2353, 3, 1, 1), (2354, 7, 0, 0), (2356, 15, 2363, 0)]), (2374, [(2359, 3, 1, 1), (2360, 6, 2364, 0), (2363, 3, 0, 1), (2367, 2, 2, 1), (2368, 2, 0, 1), (2369, 1, 4, 2), (2371, 3, 1, 1), (2372, 7, 0, 0)]), (2394, [(2374, 15, 2381, 0), (2377, 3, 1, 1), (2378, 6, 2382, 0), (2381, 3, 0, 1), (2385, 16, 2797, 0), (2390, 2, 1, 1), (2391, 2, 0, 1), (2392, 1, 4, 2)]), (2407, [(2394, 3, 1, 1), (2395, 7, 0, 0), (2397, 2, 0, 1), (2398, 1, 4, 2), (2400, 3, 2, 1), (2401, 7, 0, 0), (2403, 15, 2410, 0), (2406, 3, 1, 1)]), (2422, [(2407, 6, 2411, 0), (2410, 3, 0, 1), (2411, 2, 3, 1), (2415, 4, 5, 2), (2417, 2, 2, 1), (2418, 2, 0, 1), (2419, 1, 4, 2), (2421, 3, 1, 1)]), (2437, [(2422, 7, 0, 0), (2424, 2, 0, 1), (2425, 1, 4, 2), (2427, 3, 2, 1), (2428, 7, 0, 0), (2430, 15, 2437, 0), (2433, 3, 1, 1), (2434, 6, 2438, 0)]), (2460, [(2437, 3, 0, 1), (2441, 4, 6, 2), (2443, 2, 2, 1), (2447, 1, 5, 2), (2449, 16, 2454, 0), (2454, 1, 5, 2), (2456, 15, 2471, 1), (2459, 2, 3, 1)]), (2479, [(2460, 3, 0, 1), (2462, 1, 6, 2), (2466, 15, 2471, 0), (2471, 6, 2797, 0), (2474, 2, 1, 1), (2475, 2, 0, 1), (2476, 1, 4, 2), (2478, 3, 1, 1)]), (2494, [(2479, 7, 0, 0), (2481, 2, 0, 1), (2482, 1, 4, 2), (2484, 3, 2, 1), (2485, 7, 0, 0), (2487, 15, 2494, 0), (2490, 3, 1, 1), (2491, 6, 2495, 0)]), (2508, [(2494, 3, 0, 1), (2495, 2, 3, 1), (2499, 4, 5, 2), (2501, 2, 2, 1), (2502, 2, 0, 1), (2503, 1, 4, 2), (2505, 3, 1, 1), (2506, 7, 0, 0)]), (2525, [(2508, 2, 0, 1), (2509, 1, 4, 2), (2511, 3, 2, 1), (2512, 7, 0, 0), (2514, 15, 2521, 0), (2517, 3, 1, 1), (2518, 6, 2522, 0), (2521, 3, 0, 1)]), (2546, [(2525, 4, 6, 2), (2527, 2, 2, 1), (2531, 1, 5, 2), (2533, 16, 2538, 0), (2538, 1, 5, 2), (2540, 15, 2555, 1), (2543, 2, 3, 1), (2544, 3, 0, 1)]), (2565, [(2546, 1, 6, 2), (2550, 15, 2555, 0), (2555, 6, 2797, 0), (2558, 2, 1, 1), (2559, 2, 0, 1), (2560, 1, 4, 2), (2562, 3, 1, 1), (2563, 7, 0, 0)]), (2579, [(2565, 2, 0, 1), (2566, 1, 4, 2), (2568, 3, 2, 1), (2569, 7, 0, 0), (2571, 15, 2578, 0), (2574, 3, 1, 1), (2575, 6, 2579, 0), (2578, 3, 0, 1)]), (2593, [(2579, 2, 3, 1), (2583, 4, 5, 2), (2585, 2, 2, 1), (2586, 2, 0, 1), (2587, 1, 4, 2), (2589, 3, 1, 1), (2590, 7, 0, 0), (2592, 2, 0, 1)]), (2611, [(2593, 1, 4, 2), (2595, 3, 2, 1), (2596, 7, 0, 0), (2598, 15, 2605, 0), (2601, 3, 1, 1), (2602, 6, 2606, 0), (2605, 3, 0, 1), (2609, 4, 6, 2)]), (2644, [(2611, 2, 2, 1), (2615, 1, 5, 2), (2617, 16, 2622, 0), (2622, 1, 5, 2), (2624, 15, 2639, 1), (2639, 6, 2797, 0), (2642, 2, 1, 1), (2643, 2, 0, 1)]), (2659, [(2644, 1, 4, 2), (2646, 3, 1, 1), (2647, 7, 0, 0), (2649, 2, 0, 1), (2650, 1, 4, 2), (2652, 3, 2, 1), (2653, 7, 0, 0), (2655, 2, 3, 1)]), (2671, [(2659, 4, 5, 2), (2661, 2, 2, 1), (2662, 2, 0, 1), (2663, 1, 4, 2), (2665, 3, 1, 1), (2666, 7, 0, 0), (2668, 2, 0, 1), (2669, 1, 4, 2)]), (2695, [(2671, 3, 2, 1), (2672, 7, 0, 0), (2677, 4, 6, 2), (2679, 2, 2, 1), (2683, 1, 5, 2), (2685, 16, 2690, 0), (2690, 1, 5, 2), (2692, 15, 2707, 1)]), (2714, [(2695, 2, 3, 1), (2696, 3, 0, 1), (2698, 1, 6, 2), (2702, 15, 2707, 0), (2707, 6, 2797, 0), (2710, 2, 1, 1), (2711, 2, 0, 1), (2712, 1, 4, 2)]), (2735, [(2714, 3, 1, 1), (2715, 7, 0, 0), (2720, 2, 2, 1), (2721, 2, 0, 1), (2722, 1, 4, 2), (2724, 3, 1, 1), (2725, 7, 0, 0), (2730, 16, 2797, 0)]), (2767, [(2735, 2, 1, 1), (2739, 2, 2, 1), (2743, 16, 2797, 0), (2748, 2, 1, 1), (2752, 2, 2, 1), (2756, 6, 2797, 0), (2759, 2, 1, 1), (2763, 2, 2, 1)]), (2784, [(2767, 16, 2797, 0), (2772, 2, 1, 1), (2773, 2, 0, 1), (2774, 1, 4, 2), (2776, 3, 1, 1), (2777, 7, 0, 0), (2782, 2, 2, 1), (2783, 2, 0, 1)]), (2805, [(2784, 1, 4, 2), (2786, 3, 1, 1), (2787, 7, 0, 0), (2792, 16, 2797, 0), (2797, 5, 4, 6), (2800, 6, 23, 0), (2803, 3, 1, 1), (2804, 17, 0, 0)])]
def ec_l : List (List (List (Nat × List (Nat × es_C)))) := [[ec_0, ec_1, ec_2, ec_3, ec_4, ec_5, ec_6, ec_7, ec_8, ec_9, ec_10, ec_11, ec_12, ec_13],
  [ec_14, ec_15, ec_16, ec_17, ec_18, ec_19, ec_20, ec_21, ec_22, ec_23, ec_24, ec_25, ec_26, ec_27],
  [ec_28, ec_29, ec_30, ec_31, ec_32, ec_33, ec_34, ec_35, ec_36, ec_37, ec_38, ec_39, ec_40, ec_41],
  [ec_42, ec_43, ec_44, ec_45, ec_46, ec_47, ec_48, ec_49, ec_50, ec_51, ec_52, ec_53, ec_54, ec_55],
  [ec_56, ec_57, ec_58, ec_59, ec_60, ec_61, ec_62, ec_63, ec_64, ec_65, ec_66, ec_67, ec_68, ec_69],
  [ec_70, ec_71, ec_72, ec_73, ec_74, ec_75, ec_76, ec_77, ec_78, ec_79, ec_80, ec_81, ec_82, ec_83],
  [ec_84, ec_85, ec_86, ec_87, ec_88, ec_89, ec_90, ec_91, ec_92, ec_93, ec_94, ec_95, ec_96, ec_97],
  [ec_98, ec_99, ec_100, ec_101, ec_102, ec_103, ec_104, ec_105, ec_106, ec_107, ec_108, ec_109, ec_110, ec_111],
  [ec_112, ec_113, ec_114, ec_115, ec_116, ec_117, ec_118, ec_119, ec_120, ec_121, ec_122, ec_123, ec_124, ec_125],
  [ec_126, ec_127, ec_128, ec_129, ec_130, ec_131, ec_132, ec_133, ec_134, ec_135, ec_136, ec_137, ec_138, ec_139],
  [ec_140, ec_141, ec_142, ec_143, ec_144, ec_145, ec_146, ec_147, ec_148, ec_149, ec_150, ec_151, ec_152, ec_153],
  [ec_154, ec_155, ec_156, ec_157, ec_158, ec_159, ec_160, ec_161, ec_162, ec_163, ec_164, ec_165, ec_166, ec_167],
  [ec_168, ec_169, ec_170, ec_171, ec_172, ec_173, ec_174, ec_175, ec_176, ec_177, ec_178, ec_179, ec_180, ec_181],
  [ec_182, ec_183, ec_184, ec_185, ec_186, ec_187, ec_188, ec_189, ec_190, ec_191, ec_192, ec_193, ec_194]]
def es_CT (n : Nat) : List (Nat × List (Nat × es_C)) := match ec_l[n / 14]? with
  | some r => match r[n % 14]? with
    | some x => x
    | none => []
  | none => []
end
section
def es_ex (l : Launch) (strs : List (String × Nat × String)) (wx : List Cond) (n0 : Nat) (U : State) : Prop :=
  l.stackTraces = false ∧ vx_Zq Bundle.tN "UNASSIGNED_STACK" Bundle.steD (es_A n0) U U.heap ∧ vx_Zq Bundle.tN "SUPPRESSED_SENTINEL" Bundle.listD (es_A n0) U U.heap ∧ (∀ q ∈ strs, ∃ sa, vk_R q.1 q.2.1 q.2.2 sa U) ∧ (∀ w ∈ wx, va_Nw w U) ∧ ∀ x y : Nat, x < 5 → y < 5 → x ≠ y → va_Nc (es_exc x) (es_exc y) U
def es_ev (l : Launch) (strs : List (String × Nat × String)) (wx : List Cond) (SL : Nat) (D : va_G) (cI cJ cZ cC cM : ClassId) (n0 b : Nat) (ρ : Nat → Int32) (U : State) : Prop :=
  va_K D vwCl (es_TY cI cJ cZ cC cM) U ∧ (b < n0 ∧ n0 ≤ U.heap.size ∧ va_X b SL ρ U U.heap) ∧ (va_AO RX2 U ∧ va_AO RX7 U) ∧ es_ex l strs wx n0 U
def es_room (M : es_M) : Room := { frames := es_rf M, cells := es_mc M, slots := es_ms M, locals := es_lo M }
def es_cw (M : es_M) : Cond := match es_hh M with
  | [] => .code (es_y M) (es_code M) (es_mL M) (es_rt M)
  | hh => .codeWith (es_y M) (es_code M) (es_mL M) (es_rt M) hh
section Met
variable {l : Launch} {strs : List (String × Nat × String)} {wx : List Cond} {WS : List Cond} {SL : Nat} {D : va_G} {cI cJ cZ cC cM : ClassId} {n0 b : Nat} {ρ : Nat → Int32}
/-- words that go along with the tables' warming -/
def es_wxok (wx : List Cond) : Prop := ∀ w ∈ wx, ∀ s U : State, s.WarmedH U.vm → va_Nw w s → va_Nw w U
theorem es_ev_move (hwx : es_wxok wx) {s U : State} (h : es_ev l strs wx SL D cI cJ cZ cC cM n0 b ρ s) (hW : s.WarmedH U.vm) (h1 : s.heap.size ≤ U.heap.size) (h2 : ∀ q : Nat, q < s.heap.size → ¬ es_A n0 q → U.heap[q]? = s.heap[q]?) : es_ev l strs wx SL D cI cJ cZ cC cM n0 b ρ U := by
  obtain ⟨hK, ⟨hb0, hn0, hX⟩, hao, hl, hU, hN, hst, hw, hnc⟩ := h
  exact ⟨va_K.moved hW.alike hK, ⟨hb0, Nat.le_trans hn0 h1, va_X.moved hW.alike (hX.kept (h2 b (Nat.lt_of_lt_of_le hb0 hn0) (Nat.not_le.mpr hb0)))⟩, ⟨va_AO.moved hW.alike hao.1, va_AO.moved hW.alike hao.2⟩, hl, vx_Zq.moved hW.alike (hU.kept h2), vx_Zq.moved hW.alike (hN.kept h2),
    fun q hq => by obtain ⟨sa, h⟩ := hst q hq; exact ⟨sa, vk_R.warm hW h⟩, fun w hw' => hwx w hw' s U hW (hw w hw'), fun x y h3 h4 h5 => va_Nc.moved hW.alike (hnc x y h3 h4 h5)⟩
def es_Qc (D : va_G) (tys : List (ClassId × FieldType)) (n0 b : Nat) (ρ : Nat → Int32) (lfs : List es_Lf) : Array Value → State → Outcome → State → Prop := fun _ st o t =>
  ∃ lf ∈ lfs, es_fr ρ lf.2.2.2 ∧ es_hr D tys n0 b ρ lf.2.2.1 t.heap ∧ va_F (es_A n0) st t ∧ ((lf.1 = 0 ∧ o = .returned none) ∨ (lf.1 = 1 ∧ ∃ x, o = .returned (some x) ∧ es_vr n0 b ρ lf.2.1 x))
def es_XC (D : va_G) (tys : List (ClassId × FieldType)) (n0 b : Nat) (ρ : Nat → Int32) (lfs : List es_Lf) : String → State → State → Prop := fun E st t =>
  ∃ lf ∈ lfs, ∃ n, lf.1 = n + 2 ∧ es_exc n = E ∧ es_fr ρ lf.2.2.2 ∧ es_hr D tys n0 b ρ lf.2.2.1 t.heap ∧ va_F (es_A n0) st t
/-- an end of a walk, as its method owes it -/
def es_EG (p : Program) (l : Launch) (e : Env) (R : Room) (s : State) (m : MethodId) (args : Array Value) (below : List Frame) (meth : Method) (c : Code) (Q : State → Prop) (D : va_G) (tys : List (ClassId × FieldType)) (n0 b : Nat) (ρ : Nat → Int32) (nL : Nat) (E : es_E) : Prop := match E.1 with
  | 0 => es_G p l e R s m args below meth c Q D tys n0 b ρ nL E.2
  | n + 1 => ∀ (H : Heap) (ls : Array Slot) (locs : List Loc) (st : List Value) (q : Addr) (ce : Cell), es_inv D tys n0 b ρ nL s E.2 H ls locs st → H[q]? = some ce → ce.vm = .none → s.vm.findClass (es_exc n) = some ce.cls → vx_W p l e R s m args below meth c H locs E.2.2.2.2.2.2.1 E.2.2.2.2.2.2.2 Q (F0 m E.2.1 ls st) q
variable {p : Program} {e : Env} {R : Room} {s : State} {m : MethodId} {args : Array Value} {below : List Frame} {meth : Method} {c : Code} {M : es_M}
theorem es_rtv_ok {ret : Option FieldType} {ins : Instr} {S : List es_V} {F : es_F} {q : Nat × es_V} (h : es_rtv ret ins S F = some q) (hF : es_fr ρ F) {st : List Value} (hs : es_sr n0 b ρ S st) {pc : Nat} {cc : ByteArray} (hd : decode cc pc = .ok (ins, es_len ins)) {H : Heap} {ls : Array Slot} {locs : List Loc} {cells slots : Nat} {Qc : Array Value → State → Outcome → State → Prop} {free : Addr → Prop}
    (hx : p.tables.exec = Jvm.exec) (hb : c.code = cc) (hr : meth.sig.returnType = ret) (hlocks : meth.locks = false) (hf : ∀ z ∈ locs, free z.base)
    (hq0 : q.1 = 0 → ∀ t : State, t.heap = H → s.WarmedH t.vm → Qc args s (.returned none) t) (hq1 : q.1 = 1 → ∀ x, es_vr n0 b ρ q.2 x → ∀ t : State, t.heap = H → s.WarmedH t.vm → Qc args s (.returned (some x)) t) :
    W p l e R s m args below meth c H locs cells slots (MQ below Qc args s cells slots free) (F0 m pc ls st) := by
  unfold es_rtv at h
  split at h
  · split at h
    · cases h
      have e1 : st = [] := hs
      subst e1
      exact W.vret hx hb hr (hq0 rfl) hf hd
    · cases h
  · split at h
    · rename_i v
      cases hv : es_ti v
      · rw [hv] at h; cases h
      · rw [hv] at h
        cases h
        obtain ⟨x, st', rfl, hvr, e1⟩ := hs
        have e2 : st' = [] := e1
        subst e2
        obtain ⟨z, rfl⟩ := es_ti_int hvr hv
        exact W.iret hx hb hr (hq1 rfl _ hvr) hf hd
    · rename_i v
      cases hv : es_fitv .boolean F v
      · rw [hv] at h; cases h
      · rw [hv] at h
        cases h
        obtain ⟨x, st', rfl, hvr, e1⟩ := hs
        have e2 : st' = [] := e1
        subst e2
        have e3 := es_fitv_ok hF hvr hv
        have hti : es_ti v = true := by
          have h9 : (match es_kn F v with | some n => Nat.beq n 0 || Nat.beq n 1 | none => false) = true := hv
          cases hk : es_kn F v with
          | none => rw [hk] at h9; cases h9
          | some n => exact es_kn_ti hk
        obtain ⟨z, rfl⟩ := es_ti_int hvr hti
        exact W.zret hx hb hr e3.1 (hq1 rfl _ hvr) hf hd
    · cases h
  · split at h
    · rename_i v
      cases hv : Nat.beq v.1 2
      · rw [hv] at h; cases h
      · rw [hv] at h
        cases h
        obtain ⟨x, st', rfl, hvr, e1⟩ := hs
        have e2 : st' = [] := e1
        subst e2
        have e3 := es_t2_long hvr hv
        subst e3
        exact W.lret hx hb hr (hq1 rfl _ hvr) hf hd
    · cases h
  · split at h
    · rename_i v C
      cases hv : es_tr v
      · rw [hv] at h; cases h
      · rw [hv] at h
        cases h
        obtain ⟨x, st', rfl, hvr, e1⟩ := hs
        have e2 : st' = [] := e1
        subst e2
        exact W.aret hx hb hr (Or.inl ⟨_, rfl⟩) (es_tr_ref hvr hv) (hq1 rfl _ hvr) hf hd
    · rename_i v C
      cases hv : es_tr v
      · rw [hv] at h; cases h
      · rw [hv] at h
        cases h
        obtain ⟨x, st', rfl, hvr, e1⟩ := hs
        have e2 : st' = [] := e1
        subst e2
        exact W.aret hx hb hr (Or.inr ⟨_, rfl⟩) (es_tr_ref hvr hv) (hq1 rfl _ hvr) hf hd
    · cases h
  · cases h
theorem es_vxrun {H : Heap} {locs : List Loc} {cells slots mc ms pc : Nat} {ls : Array Slot} {st0 rest : List Value} {Q : State → Prop} {Qa : State → Outcome → State → Prop} {XC : String → State → State → Prop} {free : Addr → Prop} (hr : vx_Run p l e R s m args below meth c H locs cells slots mc ms (F0 m pc ls st0) rest Qa XC free)
    (kk : ∀ (v : Option Value) (st₀ t : State) (H1 : Heap) (L : List Loc), st₀.heap = H → t.heap = H1 → Qa st₀ (.returned v) t → (∀ q ∈ L, free q.base) → W p l e R s m args below meth c H1 (locs ++ L) (cells + mc) (slots + ms) Q (F0 m (pc + 3) ls (v.toList ++ rest)))
    (kx : ∀ (q : Addr) (st₀ t : State) (H1 : Heap) (L : List Loc) (E : String) (ce : Cell), st₀.heap = H → t.heap = H1 → XC E st₀ t → H1[q]? = some ce → ce.vm = .none → s.vm.findClass E = some ce.cls → (∀ z ∈ L, free z.base) → vx_W p l e R s m args below meth c H1 (locs ++ L) (cells + mc) (slots + ms) Q (F0 m pc ls rest) q) :
    W p l e R s m args below meth c H locs cells slots Q (F0 m pc ls st0) := by
  intro T hT X
  rcases hr T hT X with ⟨v, st₀, t, T', L, h0, X', hL, e1, e2, hq, st⟩ | ⟨q, st₀, t, T', L, E, ce, h0, X', hL, e1, e2, hxc, hce, hcv, hcl, st⟩
  · obtain ⟨t2, a1, b1⟩ := kk v st₀ t T'.heap L h0 e1.symm hq hL T' rfl X'
    exact ⟨t2, st t2 a1, b1⟩
  · obtain ⟨t2, a1, b1⟩ := kx q st₀ t T'.heap L E ce h0 e1.symm hxc (by rw [e1]; exact hce) hcv hcl hL T' rfl X'
    exact ⟨t2, st.trans a1, b1⟩
theorem es_varun {H : Heap} {locs : List Loc} {cells slots mc ms pc : Nat} {ls : Array Slot} {st0 rest : List Value} {Q : State → Prop} {Qa : State → Outcome → State → Prop} {free : Addr → Prop} (hr : va_Run p l e R s m args below meth c H locs cells slots mc ms (F0 m pc ls st0) rest Qa free)
    (kk : ∀ (v : Option Value) (st₀ t : State) (H1 : Heap) (L : List Loc), st₀.heap = H → t.heap = H1 → Qa st₀ (.returned v) t → (∀ q ∈ L, free q.base) → W p l e R s m args below meth c H1 (locs ++ L) (cells + mc) (slots + ms) Q (F0 m (pc + 3) ls (v.toList ++ rest))) :
    W p l e R s m args below meth c H locs cells slots Q (F0 m pc ls st0) := by
  intro T hT X
  obtain ⟨v, st₀, t, T', L, h0, X', hL, e1, e2, hq, st⟩ := hr T hT X
  obtain ⟨t2, a1, b1⟩ := kk v st₀ t T'.heap L h0 e1.symm hq hL T' rfl X'
  exact ⟨t2, st t2 a1, b1⟩
/-- the arguments in their places -/
theorem es_al_ok : ∀ (vs : List es_V) (xs : List Value) (i : Nat), es_sr n0 b ρ vs xs → ∀ j v, es_get (es_al i vs) j = some v → ∃ x, (j, x) ∈ lv_args i xs ∧ es_vr n0 b ρ v x
  | [], xs, i, h, j, v, hv => by cases hv
  | w :: vs, xs, i, h, j, v, hv => by
    obtain ⟨x, xs', rfl, hw, h'⟩ := h
    unfold es_al at hv
    unfold es_get at hv
    cases hb : Nat.beq i j
    · rw [hb] at hv
      have hv' : es_get (es_al (bif Nat.beq w.1 2 then i + 2 else i + 1) vs) j = some v := hv
      obtain ⟨y, h1, h2⟩ := es_al_ok vs xs' _ h' j v hv'
      refine ⟨y, ?_, h2⟩
      unfold lv_args
      refine List.mem_cons_of_mem _ ?_
      cases h2w : Nat.beq w.1 2
      · rw [h2w] at h1
        rw [if_neg (by rw [es_cat1 hw h2w]; decide)]
        exact h1
      · rw [h2w] at h1
        have e1 := es_t2_long hw h2w
        subst e1
        rw [if_pos (show (Value.long (lN w.2)).category = 2 from rfl)]
        exact h1
    · rw [hb] at hv
      cases hv
      have e1 := es_beq.mp hb
      subst e1
      exact ⟨x, List.mem_cons_self, hw⟩
theorem es_cts_ok : ∀ (vs : List es_V) (xs : List Value), es_sr n0 b ρ vs xs → (lg_sl xs).length = es_cts vs ∧ (xs.map fun v => v.category).sum = es_cts vs
  | [], xs, h => by have e : xs = [] := h; subst e; exact ⟨rfl, rfl⟩
  | w :: vs, xs, h => by
    obtain ⟨x, xs', rfl, hw, h'⟩ := h
    obtain ⟨h1, h2⟩ := es_cts_ok vs xs' h'
    unfold es_cts
    cases h2w : Nat.beq w.1 2
    · have hc := es_cat1 hw h2w
      refine ⟨?_, ?_⟩
      · rw [← h1]
        simp only [lg_sl, List.flatMap_cons, hc, List.length_append]
        rfl
      · simp only [List.map_cons, List.sum_cons, hc, h2, cond_false]
    · have e1 := es_t2_long hw h2w
      subst e1
      refine ⟨?_, ?_⟩
      · rw [← h1]
        simp only [lg_sl, List.flatMap_cons, List.length_append]
        rfl
      · simp only [List.map_cons, List.sum_cons, h2, cond_true]
        rfl
theorem es_sr_len : ∀ (vs : List es_V) (xs : List Value), es_sr n0 b ρ vs xs → xs.length = vs.length
  | [], xs, h => by have e : xs = [] := h; subst e; rfl
  | w :: vs, xs, h => by
    obtain ⟨x, xs', rfl, hw, h'⟩ := h
    simp [es_sr_len vs xs' h']
theorem es_sr_app : ∀ (vs ws : List es_V) (st : List Value), es_sr n0 b ρ (vs ++ ws) st → ∃ xs ys, st = xs ++ ys ∧ es_sr n0 b ρ vs xs ∧ es_sr n0 b ρ ws ys
  | [], ws, st, h => ⟨[], st, rfl, rfl, h⟩
  | v :: vs, ws, st, h => by
    obtain ⟨x, st', rfl, hv, h'⟩ := h
    obtain ⟨xs, ys, rfl, h1, h2⟩ := es_sr_app vs ws st' h'
    exact ⟨x :: xs, ys, rfl, ⟨x, xs, rfl, hv, h1⟩, h2⟩
theorem es_sr_cat : ∀ (vs ws : List es_V) (xs ys : List Value), es_sr n0 b ρ vs xs → es_sr n0 b ρ ws ys → es_sr n0 b ρ (vs ++ ws) (xs ++ ys)
  | [], ws, xs, ys, h, h' => by have e : xs = [] := h; subst e; exact h'
  | v :: vs, ws, xs, ys, h, h' => by
    obtain ⟨x, xs', rfl, hv, h1⟩ := h
    exact ⟨x, xs' ++ ys, rfl, hv, es_sr_cat vs ws xs' ys h1 h'⟩
theorem es_sr_rev : ∀ (vs : List es_V) (xs : List Value), es_sr n0 b ρ vs xs → es_sr n0 b ρ vs.reverse xs.reverse
  | [], xs, h => by have e : xs = [] := h; subst e; rfl
  | v :: vs, xs, h => by
    obtain ⟨x, xs', rfl, hv, h1⟩ := h
    rw [List.reverse_cons, List.reverse_cons]
    exact es_sr_cat _ _ _ _ (es_sr_rev vs xs' h1) ⟨x, [], rfl, hv, rfl⟩
end Met
end
section
/-- the constructor of an exception whose call of the next one stands at another number of its pool -/
def es_rxN : ByteArray := ⟨#[0x2a, 0x2b, 0xb7, 0x00, 0x0d, 0xb1]⟩
theorem es_rxN0 : decode es_rxN 0 = .ok (.aload_n 0, 1) := by decide +kernel
theorem es_rxN1 : decode es_rxN 1 = .ok (.aload_n 1, 1) := by decide +kernel
theorem es_rxN2 : decode es_rxN 2 = .ok (.invokespecial 13, 3) := by decide +kernel
theorem es_rxN5 : decode es_rxN 5 = .ok (.return_, 1) := by decide +kernel
def es_rt9 : String := "java/lang/RuntimeException"
def es_chN (X : String) : List Cond := Bundle.passSAtoms X es_rt9 13 es_rxN ++ Bundle.chainSAtoms es_rt9 ["java/lang/Exception"]
def es_tlN (own : String) (ic : Nat) (X : String) : List Cond := [.methodLink own ic (Bundle.initS X), .instantiable X 6, .castable X X, .selects X Bundle.tFill0 Bundle.tFill0, .selects X Bundle.tFill Bundle.tFill,
  .lays X Bundle.tN "cause" "Ljava/lang/Throwable;", .lays X Bundle.tN "stackTrace" Bundle.steD, .lays X Bundle.tN "suppressedExceptions" Bundle.listD, .lays X Bundle.tN "detailMessage" "Ljava/lang/String;",
  .isRef (.static Bundle.tN "UNASSIGNED_STACK" Bundle.steD), .isRef (.static Bundle.tN "SUPPRESSED_SENTINEL" Bundle.listD),
  .fieldLink Bundle.tN 198 Bundle.tN "backtrace" "Ljava/lang/Object;", .lays Bundle.tN Bundle.tN "backtrace" "Ljava/lang/Object;", .lays X Bundle.tN "backtrace" "Ljava/lang/Object;"]
def es_owN (own : String) (ic : Nat) (X : String) : List Cond := (Bundle.throwableAtoms ++ Bundle.throwableSAtoms) ++ (es_chN X ++ es_tlN own ic X)
def es_atN (own : String) (ic : Nat) (X : String) : List Cond := (es_owN own ic X).filter vx_no
section Ns
variable {p : Program} {l : Launch} {e : Env} {R : Room} {s : State} {m : MethodId} {args : Array Value} {below : List Frame} {meth : Method} {c : Code} {V : State} {cells slots : Nat}
set_option maxHeartbeats 4000000 in
theorem es_ctorN (X : Stand p l e R s m args below meth c V [] cells slots) (hexec : p.tables.exec = Jvm.exec) (htr : e.platform.stackTraces = false) {own cls : String} {ic : Nat} (hown : s.vm.findClass own = some m.cls) (hcls : Bundle.fit cls = true) (h : ∀ w ∈ es_owN own ic cls, w.before args s = true)
    {a : Addr} {cX : ClassId} {kX : Class} (hfX : s.vm.findClass cls = some cX) (hkX : s.vm.classes[cX]? = some kX) (hcell : V.heap[a]? = some (freshCell cX kX)) (hnew : s.heap.size ≤ a) {msg : Value} (hmsg : msg.isRef = true)
    {g : JFrame} (hg : g.method = m) (hsize : g.locals.size = c.maxLocals) (hlocked : g.locked = none) (hentered : g.entered = []) {rest : List Value} (hstack : g.stack = msg :: .ref a :: .ref a :: rest)
    (hd6 : decode c.code g.pc = .ok (.invokespecial ic, 3)) (hd9 : decode c.code (g.pc + 3) = .ok (.athrow, 1)) (hout : ∀ x ∈ c.exceptionTable.toList, covers x (g.pc + 3) = false)
    (hRf : 5 < R.frames) (hRl : 2 * g.monitorRoom + ((Value.ref a :: rest).map fun v => v.category).sum + (13 * 3 + 42) ≤ R.locals) (hlocks : meth.locks = false) :
    ∃ U : State, Steps p.tables e below (V.setTop g) U ∧ U.status = .running ∧ Ended U below (.threw a) ∧ s.WarmedH U.vm ∧ s.sameButNew ({ U with vm := s.vm } : State) [] cells slots ∧ ∃ ce : Cell, U.heap[a]? = some ce ∧ s.vm.findClass cls = some ce.cls ∧ ce.vm = .none := by
  have hpf := X.admits.platform
  have hpl : e.platform.magicAccessors = ({} : Platform).magicAccessors := by rw [hpf]
  have hA : ∀ w ∈ Bundle.throwableAtoms, w.before args s = true := fun w hw => h w (List.mem_append_left _ (List.mem_append_left _ hw))
  have hB : ∀ w ∈ Bundle.throwableSAtoms, w.before args s = true := fun w hw => h w (List.mem_append_left _ (List.mem_append_right _ hw))
  have hC : ∀ w ∈ Bundle.passSAtoms cls es_rt9 13 es_rxN, w.before args s = true := fun w hw => h w (List.mem_append_right _ (List.mem_append_left _ (List.mem_append_left _ hw)))
  have hD : ∀ w ∈ Bundle.chainSAtoms es_rt9 ["java/lang/Exception"], w.before args s = true := fun w hw => h w (List.mem_append_right _ (List.mem_append_left _ (List.mem_append_right _ hw)))
  have hE : ∀ w ∈ es_tlN own ic cls, w.before args s = true := fun w hw => h w (List.mem_append_right _ (List.mem_append_right _ hw))
  obtain ⟨T, Z0, L, -, Y⟩ := ThrowableC.of_atoms (args := args) (by rw [hpf]) (by rw [hpf]) hpl hA
  obtain ⟨Z, M, LZ, LM, hnZ⟩ := Init0T.ofS_atoms (args := args) hpl L Y hB
  obtain ⟨P0, L0, hm0, hs0⟩ := PassC.ofS_atoms (args := args) (s := s) hpl (X := cls) (Y := es_rt9) (Bundle.fit_spec hcls).1 (by decide) es_rxN0 es_rxN1 es_rxN2 es_rxN5 hC
  obtain ⟨P1, Ps, hlen, L1, hL, hm1, k1, k2⟩ := Bundle.chainS (args := args) hpl hnZ ["java/lang/Exception"] es_rt9 (by decide +kernel) (fun n hn => by rw [List.mem_singleton.mp hn]; decide +kernel) hD
  have e01 : P0.sup = P1.m := Option.some.inj (hs0.symm.trans hm1)
  have hfd : s.vm.findClass cls = some P0.m.cls := findClass_of_methodNamed hm0
  cases Option.some.inj (hfX.symm.trans hfd)
  obtain ⟨cI, kI, i1, hk, hord, -, -, hn6⟩ := Cond.instantiable_spec (hE (.instantiable cls 6) (by simp [es_tlN]))
  cases Option.some.inj (i1.symm.trans hfd)
  cases Option.some.inj (hkX.symm.trans hk)
  have s0 : selectMethod e.platform s.vm P0.m.cls T.fill0 = .method T.fill0 := by
    obtain ⟨c2, r2, m2, q1, q2, q3, q4, -⟩ := Cond.selects_spec (hE (.selects cls Bundle.tFill0 Bundle.tFill0) (by simp [es_tlN]))
    cases Option.some.inj (q1.symm.trans hfd)
    cases Option.some.inj (q2.symm.trans (State.methodFound?_of_named Y.fill0 (by decide)))
    cases Option.some.inj (q3.symm.trans Y.fill0)
    rw [Launch.admits_selectMethod X.admits]
    exact q4
  have s1 : selectMethod e.platform s.vm P0.m.cls T.fill = .method T.fill := by
    obtain ⟨c2, r2, m2, q1, q2, q3, q4, -⟩ := Cond.selects_spec (hE (.selects cls Bundle.tFill Bundle.tFill) (by simp [es_tlN]))
    cases Option.some.inj (q1.symm.trans hfd)
    cases Option.some.inj (q2.symm.trans (State.methodFound?_of_named Y.fill (by decide)))
    cases Option.some.inj (q3.symm.trans Y.fill)
    rw [Launch.admits_selectMethod X.admits]
    exact q4
  obtain ⟨cS, hcS, hst⟩ := Y.statics
  obtain ⟨u0, hu0⟩ := Cond.staticRefV Y.unassigned L.unassignedStatic L.statics hcS hst (hE (.isRef (.static Bundle.tN "UNASSIGNED_STACK" Bundle.steD)) (by simp [es_tlN]))
  obtain ⟨sen, hsen⟩ := Cond.staticRefV Y.sentinel L.sentinelStatic L.statics hcS hst (hE (.isRef (.static Bundle.tN "SUPPRESSED_SENTINEL" Bundle.listD)) (by simp [es_tlN]))
  obtain ⟨b1, b2, fB, b3, b4, b5, b6, -, b7, b8, b9⟩ := Cond.ownField (t := .object "java/lang/Object") Y.found L.cls (by decide +kernel) (hE (.fieldLink Bundle.tN 198 Bundle.tN "backtrace" "Ljava/lang/Object;") (by simp [es_tlN])) (hE (.lays Bundle.tN Bundle.tN "backtrace" "Ljava/lang/Object;") (by simp [es_tlN])) e.platform hpl
  obtain ⟨cN, hcN, heN, -, hkp⟩ := X.same.2.2.2.2.2 T.aS cS hcS
  have hno : ∀ i, (⟨T.aS, i⟩ : Loc) ∉ ([] : List Loc) := fun i hm => by cases hm
  have hunk : cN.vm ≠ .unknown := by
    rw [heN]
    intro hu
    rw [show cS.vm = .unknown from hu] at hst
    cases hst
  have hapart : T.aS ≠ a := Nat.ne_of_lt (Nat.lt_of_lt_of_le (Array.getElem?_eq_some_iff.mp hcS).1 hnew)
  obtain ⟨iM, hfM⟩ := Y.msg
  obtain ⟨tC, dC, gC, nC⟩ := Cond.laysAt hfd hk Y.cause (hE (.lays cls Bundle.tN "cause" "Ljava/lang/Throwable;") (by simp [es_tlN]))
  obtain ⟨tS, dS, gS, nS⟩ := Cond.laysAt hfd hk Y.stack (hE (.lays cls Bundle.tN "stackTrace" Bundle.steD) (by simp [es_tlN]))
  obtain ⟨tP, dP, gP, nP⟩ := Cond.laysAt hfd hk Y.supp (hE (.lays cls Bundle.tN "suppressedExceptions" Bundle.listD) (by simp [es_tlN]))
  obtain ⟨tM, dM, gM, nM⟩ := Cond.laysAt hfd hk hfM (hE (.lays cls Bundle.tN "detailMessage" "Ljava/lang/String;") (by simp [es_tlN]))
  obtain ⟨tB, dB, gB, nB⟩ := Cond.laysAt hfd hk b9 (hE (.lays cls Bundle.tN "backtrace" "Ljava/lang/Object;") (by simp [es_tlN]))
  have x1 := Cond.laysApart gB gC nB nC (by rw [b7, Y.causeName]; decide)
  have x2 := Cond.laysApart gB gS nB nS (by rw [b7, Y.stackName]; decide)
  have x3 := Cond.laysApart gB gP nB nP (by rw [b7, Y.suppName]; decide)
  have hsk : SkipFacts T e.platform s (fun u => u) u0 ((preparedCellV T.toThrowableT (freshCell P0.m.cls kX) a u0 sen).withEntry V.cur) := by
    refine ⟨{ ci198 := b1, i198 := b2, fBack := fB }, ⟨b3, b4, b5, b6⟩, ?_, fun _ _ => rfl⟩
    have h9 := fresh_default (c := P0.m.cls) tB
    rw [b8] at h9
    simpa [preparedCellV, Cell.setSlot, Cell.withEntry, Array.getElem?_setIfInBounds, x1, x2, x3, x1.symm, x2.symm, x3.symm, defaultValue] using h9
  obtain ⟨tm, mC, cC, kC, vm₁, hnC, -, -, -, -, -, -, -, hW₁, st1⟩ := Steps.initColdS (tb := p.tables) (e := e) (below := below) (s := s) (U := V) X.here hexec X.warmed hpl hown (t := Bundle.initS cls) rfl rfl (Bundle.fit_spec hcls).2
    (hE (.methodLink own ic (Bundle.initS cls)) (by simp [es_tlN])) (hC (.instanceMethod (Bundle.initS cls)) (by simp [Bundle.passSAtoms])) (bytes := es_rxN) (maxL := 2) (hC (.code (Bundle.initS cls) es_rxN 2 none) (by simp [Bundle.passSAtoms]))
    (f := g) hg (a := a) (msg := msg) (rest := .ref a :: rest) hstack hd6
  cases Option.some.inj (hnC.symm.trans hm0)
  have X₁ := X.noted hW₁
  obtain ⟨vm₂, X₂, st2⟩ := X₁.ctorMessageOffV hexec (g := { g with stack := .ref a :: rest }) hg hsize T L Z LZ M LM (P0 :: P1 :: Ps)
    (fun P hP => by
      rcases List.mem_cons.mp hP with rfl | hP
      · exact L0
      · rcases List.mem_cons.mp hP with rfl | hP
        · exact L1
        · exact hL P hP) ⟨e01, k1, k2⟩ (u0 := u0) (sen := sen) (self := a) hmsg (cell := freshCell P0.m.cls kX) (cellS := cN)
    hcell (fun _ => by simp) (by simp) rfl rfl s0 s1 hcN hapart hunk (by rw [hkp _ (hno _)]; exact hu0) (by rw [hkp _ (hno _)]; exact hsen)
    (Takes.of_laid hk hord tC (by rw [Y.causeType]; rfl)) (Takes.of_laid hk hord tS (by rw [Y.stackType]; exact fits_refV_array _ u0)) (Takes.of_laid hk hord tP (by rw [Y.suppType]; exact fits_refV_object _ sen))
    (Takes.of_laid hk hord tM (by rw [Y.msgType]; exact fits_refV_object _ ⟨msg, hmsg⟩)) Y.objLocals hsk htr [] hd6
    (by simp only [List.length_cons, hlen]; simp; omega) (by simp only [List.length_cons, hlen]; exact hRl)
  obtain ⟨hwalk, hrun, hended, hWU, hsame⟩ := X₂.athrowLeaves hexec (g := { g with stack := .ref a :: rest, pc := g.pc + 3 }) hg hlocked hentered hout (a := a) (rest := rest) rfl hd9
  have hlt : a < ((V.setVm vm₁).setVm vm₂).heap.size := (Array.getElem?_eq_some_iff.mp hcell).1
  have hU := heapAt_setCell_self (s := (V.setVm vm₁).setVm vm₂) (plainBareV T.toThrowableT (freshCell P0.m.cls kX) a u0 sen msg) hlt
  refine ⟨_, st1 _ (fun acts => ?_), hrun, hended, hWU, hsame.weaken (fun y hy hl' => ?_) (Nat.le_refl _) (Nat.le_refl _), _, hU, hfd, rfl⟩
  · rw [doInvoke_state]
    exact st2 _ hwalk
  · exfalso
    have hb : y.base = a := by
      simp only [List.nil_append, List.mem_cons, List.not_mem_nil, or_false] at hy
      rcases hy with rfl | rfl | rfl | rfl | rfl <;> rfl
    rw [hb] at hl'
    exact Nat.not_lt.mpr hnew hl'
end Ns
section NsE
variable {p : Program} {l : Launch} {e : Env} {R : Room} {s : State} {m : MethodId} {args : Array Value} {below : List Frame} {meth : Method} {c : Code} {H : Heap} {locs : List Loc} {cells slots : Nat} {Q : State → Prop}
variable {mc ms : Nat} {free : Addr → Prop} {A0 A1 : Nat → Prop} {H0 : Heap} {a : Array Value} {ls : Array Slot} {st0 rest : List Value}
variable {Qc : Array Value → State → Outcome → State → Prop} {XC : String → State → State → Prop}
theorem es_throwN {cc : ByteArray} {pc : Nat} (hexec : p.tables.exec = Jvm.exec) (hb : c.code = cc) (hl : l.stackTraces = false) {own cls text : String} {ik is ic mc ms sa : Nat} {A : Nat → Prop}
    (hown : s.vm.findClass own = some m.cls) (hcls : Bundle.fit cls = true)
    (hk : (Cond.classLink own ik cls).before args s = true) (hini : (Cond.initialized cls).before args s = true) (hstr : vk_R own is text sa s) (hat : ∀ w ∈ es_atN own ic cls, w.before args s = true)
    (hgood : ∀ w ∈ Cond.classLink own ik cls :: Cond.initialized cls :: es_atN own ic cls, vx_ot w = true)
    (hU : vx_Zq Bundle.tN "UNASSIGNED_STACK" Bundle.steD A s s.heap) (hN : vx_Zq Bundle.tN "SUPPRESSED_SENTINEL" Bundle.listD A s s.heap) (hS : va_S A s.heap H locs) (hsize : ls.size = c.maxLocals)
    (d0 : decode cc pc = .ok (.new ik, 3)) (d3 : decode cc (pc + 3) = .ok (.dup, 1)) (d4 : decode cc (pc + 4) = .ok (.ldc is, 2)) (d6 : decode cc (pc + 6) = .ok (.invokespecial ic, 3)) (d9 : decode cc (pc + 9) = .ok (.athrow, 1))
    (hout : ∀ x ∈ c.exceptionTable.toList, covers x (pc + 9) = false)
    (hRframes : 5 < R.frames) (hRlocals : (rest.map fun v => v.category).sum + (13 * 3 + 43) ≤ R.locals) (hRcells : cells + 1 ≤ R.cells) (hRslots : slots + 6 ≤ R.slots) (hlocks : meth.locks = false)
    (hx : ∀ t : State, s.vm.Alike t.vm → t.heap.size = H.size + 1 → (∀ q : Nat, q < H.size → t.heap[q]? = H[q]?) → XC cls s t)
    (hf : ∀ z ∈ locs, free z.base) (hc : cells + 1 ≤ mc) (hs : slots + 6 ≤ ms) :
    W p l e R s m args below meth c H locs cells slots (vx_MQ below Qc XC args s mc ms free) (F0 m pc ls rest) := by
  intro T hT X
  have htr : e.platform.stackTraces = false := (show e.platform.stackTraces = l.stackTraces by rw [X.admits.platform]).trans hl
  have Y := vx_rebase X (R' := { frames := R.frames, locals := R.locals, cells := 1, slots := 6 }) (Nat.le_refl _) (Nat.le_refl _) hRcells hRslots
  obtain ⟨s', hA⟩ : ∃ z, z = (T.setVm s.vm).setFrames (.invoking m args :: below) := ⟨_, rfl⟩
  rw [← hA] at Y
  have hvm : s'.vm = s.vm := by rw [hA]; rfl
  have hhp : s'.heap = H := by rw [hA]; exact hT
  have hW0 : s.WarmedH s'.vm := by rw [hvm]; exact State.WarmedH.refl s
  have hat' : ∀ w ∈ es_atN own ic cls, w.before args s' = true := fun w hw => vx_ot_at hW0 hvm.symm (hgood w (List.mem_cons_of_mem _ (List.mem_cons_of_mem _ hw))) (hat w hw)
  have hk' : (Cond.classLink own ik cls).before args s' = true := vx_ot_at hW0 hvm.symm (hgood _ List.mem_cons_self) hk
  have hini' : (Cond.initialized cls).before args s' = true := vx_ot_at hW0 hvm.symm (hgood _ (List.mem_cons_of_mem _ List.mem_cons_self)) hini
  have hU' : vx_Zq Bundle.tN "UNASSIGNED_STACK" Bundle.steD A s' s'.heap := by rw [hhp]; exact vx_Zq.moved hW0.alike (hU.kept hS.2.1)
  have hN' : vx_Zq Bundle.tN "SUPPRESSED_SENTINEL" Bundle.listD A s' s'.heap := by rw [hhp]; exact vx_Zq.moved hW0.alike (hN.kept hS.2.1)
  have h : ∀ w ∈ es_owN own ic cls, w.before args s' = true := vx_own hat' (vx_isRefq hU'.1) (vx_isRefq hN'.1) hU'.2.word hN'.2.word
  have hown' : s'.vm.findClass own = some m.cls := by rw [hvm]; exact hown
  have hins : (Cond.instantiable cls 6).before args s' = true := h _ (List.mem_append_right _ (List.mem_append_right _ (by simp [es_tlN])))
  obtain ⟨vm₁, cX, kX, hfX, hkX, -, -, X₁, st1⟩ := Y.newCold hexec (own := own) (C := cls) (index := ik) (n := 6) hown' hk' hins hini'
    (g := F0 m pc ls rest) rfl (by rw [hb]; exact d0) (Nat.le_refl _) (Nat.le_refl _)
  generalize hT1 : (T.setVm vm₁).pushCell { cls := cX, slots := kX.instanceTypes.map defaultValue, vm := .none } = T1 at X₁ st1
  have hcat : (Value.ref T.heap.size).category = 1 := rfl
  have hcellA : T1.heap[T.heap.size]? = some (freshCell cX kX) := by rw [← hT1]; exact State.heap_pushCell_size _ _
  have d3' : decode c.code (pc + 3) = .ok (.dup, 1) := by rw [hb]; exact d3
  have d4' : decode c.code (pc + 4) = .ok (.ldc is, 2) := by rw [hb]; exact d4
  have hstr' : vk_R own is text sa s' := vk_R.warm hW0 hstr
  obtain ⟨U, hsteps, hrun, hend, hW, hsame, ce, hce, hO1, hO2⟩ := es_ctorN X₁ hexec htr (own := own) (cls := cls) (ic := ic) hown' hcls h hfX hkX hcellA (by rw [hhp, hT]; exact Nat.le_refl _) (msg := .ref sa) rfl
    (g := { method := m, pc := pc + 6, locals := ls, stack := .ref sa :: .ref T.heap.size :: .ref T.heap.size :: rest, locked := none }) rfl hsize rfl rfl (rest := rest) rfl
    (by rw [hb]; exact d6) (by rw [hb]; exact d9) hout hRframes (by simp only [List.map_cons, List.sum_cons, hcat]; omega) hlocks
  obtain ⟨f1, f2⟩ := vx_frame hsame
  rw [hhp] at f1 f2
  have hWs : s.WarmedH U.vm := State.WarmedH.trans hW0 hW
  have hcl : s.vm.findClass cls = some ce.cls := by
    have h9 := hO1
    rw [hvm] at h9
    exact h9
  have hall : s.sameButNew ({ U with vm := s.vm } : State) locs mc ms := by
    subst hA
    obtain ⟨e1, e2⟩ := hsame
    rw [State.setFrames_setFrames] at e1
    have h2 : (T.setVm s.vm).sameButNew ({ U with vm := s.vm } : State) [] (0 + 1) (0 + 6) := ⟨e1, e2⟩
    have h3 := X.same.trans h2
    rw [List.append_nil] at h3
    exact h3.mono hc hs
  refine ⟨U, ?_, .threw T.heap.size, hrun, hend, Or.inr ⟨T.heap.size, rfl, cls, ce, locs, hx U hWs.alike (by have g1 : U.heap.size ≤ s'.heap.size + (0 + 1) := hsame.2.2.1; have g2 : T.heap.size < U.heap.size := (Array.getElem?_eq_some_iff.mp hce).1; rw [hhp] at g1; rw [hT] at g2; omega) (fun q hq => f2 q hq (fun z hz => nomatch hz)), hce, hO2, hcl, hWs, hall, hf⟩⟩
  refine st1 _ ?_
  show Steps p.tables e below (T1.setTop { method := m, pc := pc + 3, locals := ls, stack := .ref T.heap.size :: rest, locked := none }) _
  jvm_step X₁.here [X₁.here.top, hexec, d3', Value.category]
  exact X₁.ldcString hexec (own := own) (text := text) (index := is) (a := sa) hown' hstr'.1 hstr'.2
    (g := { method := m, pc := pc + 4, locals := ls, stack := .ref T.heap.size :: .ref T.heap.size :: rest, locked := none }) rfl d4' _ hsteps
end NsE
end
section
section Met2
variable {l : Launch} {strs : List (String × Nat × String)} {wx : List Cond} {WS : List Cond} {SL : Nat} {D : va_G} {cI cJ cZ cC cM : ClassId} {n0 b : Nat} {ρ : Nat → Int32}
variable {p : Program} {e : Env} {R : Room} {s : State} {m : MethodId} {args : Array Value} {below : List Frame} {meth : Method} {c : Code} {M : es_M}
def es_dok (M : es_M) (E : es_I) : Bool := decide (decode (es_code M) E.1 = .ok (E.2.1, E.2.2.1)) && (match E.2.1 with
  | .tableswitch _ _ _ _ => true
  | _ => Nat.beq E.2.2.1 (es_len E.2.1))
/-- a throw, as its row of the table says it -/
def es_tok (WS : List Cond) (wx : List Cond) (strs : List (String × Nat × String)) (M : es_M) (E : es_I) : Bool := match E.2.1, E.2.2.2 with
  | .new ik, [100, x, is, ic, wide, si, j1, j2] => (Nat.beq E.2.2.1 3 && (!Nat.beq x 2 || Nat.beq wide 0)) && (match strs[si]? with
      | some q => decide (q.1 = es_own M) && decide (q.2.1 = is)
      | none => false) && ((es_wj WS j1 (.classLink (es_own M) ik (es_exc x)) && es_wj WS j2 (.initialized (es_exc x))) && (decide (decode (es_code M) (E.1 + 3) = .ok (.dup, 1)) &&
      (bif Nat.beq wide 0 then decide (decode (es_code M) (E.1 + 4) = .ok (.ldc is, 2)) && (decide (decode (es_code M) (E.1 + 6) = .ok (.invokespecial ic, 3)) && decide (decode (es_code M) (E.1 + 9) = .ok (.athrow, 1)))
        else decide (decode (es_code M) (E.1 + 4) = .ok (.ldc_w is, 3)) && (decide (decode (es_code M) (E.1 + 7) = .ok (.invokespecial ic, 3)) && decide (decode (es_code M) (E.1 + 10) = .ok (.athrow, 1))))))
  | _, 100 :: _ => false
  | _, _ => true
def es_nms : List String := ["java/lang/RuntimeException", "java/lang/Exception"]
/-- the words that a throw of the class with this number, by this constructor, asks beside -/
def es_ats (own : String) (ic x : Nat) : List Cond := bif Nat.beq x 2 then es_atN own ic (es_exc x) else vx_atS own ic (es_exc x) es_nms
def es_thw (WS wx : List Cond) (own : String) (ic x : Nat) : Prop := ∀ w ∈ es_ats own ic x, w ∈ WS ∨ (w ∈ wx ∧ w.onTables = true)
theorem es_throw_ok (hWS : ∀ w ∈ WS, goodWord w = true)  (fc : es_FC WS SL D cI cJ cZ cC cM n0 b ρ p R s m args meth c M) (hev : es_ev l strs wx SL D cI cJ cZ cC cM n0 b ρ s) (htab : c.exceptionTable.toList = tableOf (es_hh M)) (hh0 : es_hh M = []) {E : es_I} (hthw : ∀ x is ic wide si j1 j2, E.2.2.2 = [100, x, is, ic, wide, si, j1, j2] → es_thw WS wx (es_own M) ic x) (hd : decode (es_code M) E.1 = .ok (E.2.1, E.2.2.1)) (htok : es_tok WS wx strs M E = true) {x : Nat} {tl : List Nat} (ha : E.2.2.2 = 100 :: x :: tl)
    {L : es_L} {S : List es_V} {AH : List es_O} {F : es_F} {cs ss : Nat} (hcap : ((Nat.blt cs (es_mc M) && Nat.ble (ss + 6) (es_ms M)) && (Nat.blt 5 (es_rf M) && Nat.ble 100 (es_lo M)) && Nat.ble (es_cts S) 8) = true) {lfs : List es_Lf} (hin : (x + 2, (0, 0), AH ++ [(1, 0, [])], F) ∈ lfs) :
    es_G p l e R s m args below meth c (vx_MQ below (es_Qc D (es_TY cI cJ cZ cC cM) n0 b ρ lfs) (es_XC D (es_TY cI cJ cZ cC cM) n0 b ρ lfs) args s (es_mc M) (es_ms M) (es_A n0)) D (es_TY cI cJ cZ cC cM) n0 b ρ (es_mL M) (E.1, L, S, AH, F, cs, ss) := by
  intro H ls locs st hinv
  obtain ⟨hl, hs, hH, hF, hS⟩ := hinv
  dsimp only at hl hs hH hF ⊢
  obtain ⟨hx, hb, hml, hown, hts, hK, hR, hinit, hscr, hao, hlocks, hr⟩ := id fc
  obtain ⟨-, -, -, htr, hU, hN, hst, hw, -⟩ := hev
  obtain ⟨epc, ins, len, aux⟩ := E
  dsimp only at ha hd ⊢
  simp only [Bool.and_eq_true, es_blt, Nat.ble_eq] at hcap
  obtain ⟨⟨⟨c1, c2⟩, c3, c4⟩, c5⟩ := hcap
  have hsum := (es_cts_ok S st hs).2
  have hsz : ls.size = c.maxLocals := by rw [hl.1, hml]
  unfold es_tok at htok
  dsimp only at htok
  subst ha
  split at htok
  · rename_i ik x' is ic wide si j1 j2 heq
    cases heq
    have hthx := hthw x is ic wide si j1 j2 rfl
    simp only [Bool.and_eq_true] at htok
    obtain ⟨⟨⟨h3, hxw⟩, hstr⟩, ⟨hj1, hj2⟩, hdup, hrest⟩ := htok
    have e3 := es_beq.mp h3
    subst e3
    cases hq : strs[si]? with
    | none => rw [hq] at hstr; cases hstr
    | some q =>
      rw [hq] at hstr
      dsimp only at hstr
      rw [Bool.and_eq_true] at hstr
      obtain ⟨so, sk, tx⟩ := q
      have g1 := of_decide_eq_true hstr.1
      have g2 := of_decide_eq_true hstr.2
      dsimp only at g1 g2
      subst g1; subst g2
      obtain ⟨sa, hsa⟩ := hst _ (List.mem_of_getElem? hq)
      dsimp only at hsa
      have hat : ∀ w ∈ es_ats (es_own M) ic x, w.before args s = true := fun w hw' => by
        rcases hthx w hw' with h | ⟨h, h2⟩
        · exact hts w h
        · exact va_Nw.use h2 (hw w h)
      have hgood : ∀ w ∈ Cond.classLink (es_own M) ik (es_exc x) :: Cond.initialized (es_exc x) :: es_ats (es_own M) ic x, vx_ot w = true := fun w hw' => by
        rcases List.mem_cons.mp hw' with rfl | hw'
        · unfold vx_ot; rw [hWS _ (es_wj_in hj1), Bool.or_true]
        · rcases List.mem_cons.mp hw' with rfl | hw'
          · unfold vx_ot; rw [hWS _ (es_wj_in hj2), Bool.or_true]
          · rcases hthx w hw' with h | ⟨h, h2⟩
            · unfold vx_ot; rw [hWS _ h, Bool.or_true]
            · unfold vx_ot; rw [h2, Bool.true_or]
      have hfit : Bundle.fit (es_exc x) = true := by unfold es_exc; split <;> decide +kernel
      have hfn : ∀ n ∈ es_nms, Bundle.fit n = true := by decide +kernel
      have hxx : ∀ t : State, s.vm.Alike t.vm → t.heap.size = H.size + 1 → (∀ q : Nat, q < H.size → t.heap[q]? = H[q]?) → es_XC D (es_TY cI cJ cZ cC cM) n0 b ρ lfs (es_exc x) s t := fun t ht1 ht2 ht3 =>
        ⟨_, hin, x, rfl, rfl, hF, es_hr_push hH ht2 ht3 trivial, by rw [ht2]; exact Nat.le_trans hS.1 (by omega), fun q q1 q2 => (ht3 q (Nat.lt_of_lt_of_le q1 hS.1)).trans (hS.2.1 q q1 q2)⟩
      have hout : ∀ pc9 : Nat, ∀ z ∈ c.exceptionTable.toList, covers z pc9 = false := fun pc9 z hz => by rw [htab, hh0] at hz; cases hz
      cases hx2 : Nat.beq x 2
      · have ea : es_ats (es_own M) ic x = vx_atS (es_own M) ic (es_exc x) es_nms := by unfold es_ats; rw [hx2]; rfl
        rw [ea] at hat hgood
        cases hwd : Nat.beq wide 0
        · rw [hwd] at hrest
          simp only [cond_false, Bool.and_eq_true] at hrest
          exact vx_throwSW hx hb htr hown hfit hfn (hts _ (es_wj_in hj1)) (hts _ (es_wj_in hj2)) hsa hat hgood hU hN hS hsz hd (of_decide_eq_true hdup) (of_decide_eq_true hrest.1) (of_decide_eq_true hrest.2.1) (of_decide_eq_true hrest.2.2) (hout _) (by show 2 + 3 < _; omega) (by show _ + (13 * (2 + 1) + 43) ≤ _; omega) (by omega) (by omega) hlocks hxx hS.2.2 (by omega) (by omega)
        · rw [hwd] at hrest
          simp only [cond_true, Bool.and_eq_true] at hrest
          exact vx_throwS hx hb htr hown hfit hfn (hts _ (es_wj_in hj1)) (hts _ (es_wj_in hj2)) hsa hat hgood hU hN hS hsz hd (of_decide_eq_true hdup) (of_decide_eq_true hrest.1) (of_decide_eq_true hrest.2.1) (of_decide_eq_true hrest.2.2) (hout _) (by show 2 + 3 < _; omega) (by show _ + (13 * (2 + 1) + 43) ≤ _; omega) (by omega) (by omega) hlocks hxx hS.2.2 (by omega) (by omega)
      · have ea : es_ats (es_own M) ic x = es_atN (es_own M) ic (es_exc x) := by unfold es_ats; rw [hx2]; rfl
        rw [ea] at hat hgood
        rw [hx2] at hxw
        have hwd : Nat.beq wide 0 = true := hxw
        rw [hwd] at hrest
        simp only [cond_true, Bool.and_eq_true] at hrest
        exact es_throwN hx hb htr hown hfit (hts _ (es_wj_in hj1)) (hts _ (es_wj_in hj2)) hsa hat hgood hU hN hS hsz hd (of_decide_eq_true hdup) (of_decide_eq_true hrest.1) (of_decide_eq_true hrest.2.1) (of_decide_eq_true hrest.2.2) (hout _) (by omega) (by omega) (by omega) (by omega) hlocks hxx hS.2.2 (by omega) (by omega)
  · cases htok
  · rename_i h7 h8
    first | exact (h7 _ rfl).elim | exact (h8 _ rfl).elim | (exfalso; apply h7; rfl)
theorem es_leaf_ok (hWS : ∀ w ∈ WS, goodWord w = true) (hthw : ∀ q ∈ es_tab M, ∀ E ∈ q.2, ∀ x is ic wide si j1 j2, E.2.2.2 = [100, x, is, ic, wide, si, j1, j2] → es_thw WS wx (es_own M) ic x) (htk : ∀ q ∈ es_tab M, ∀ E ∈ q.2, es_dok M E = true ∧ es_tok WS wx strs M E = true) (fc : es_FC WS SL D cI cJ cZ cC cM n0 b ρ p R s m args meth c M) (hev : es_ev l strs wx SL D cI cJ cZ cC cM n0 b ρ s) (htab : c.exceptionTable.toList = tableOf (es_hh M)) {E : es_E} {lf : es_Lf} (h : es_leaf M E = some lf) {lfs : List es_Lf} (hin : lf ∈ lfs) :
    es_EG p l e R s m args below meth c (vx_MQ below (es_Qc D (es_TY cI cJ cZ cC cM) n0 b ρ lfs) (es_XC D (es_TY cI cJ cZ cC cM) n0 b ρ lfs) args s (es_mc M) (es_ms M) (es_A n0)) D (es_TY cI cJ cZ cC cM) n0 b ρ (es_mL M) E := by
  obtain ⟨hx, hb, hml, hown, hts, hK, hR, hinit, hscr, hao, hlocks, hr⟩ := id fc
  obtain ⟨kd, pc, L, S, AH, F, cs, ss⟩ := E
  unfold es_leaf at h
  split at h
  · rename_i n pc' L' S' AH' F' cs' ss' heq
    cases heq
    split at h
    · rename_i hh0
      cases hcap : (Nat.ble cs (es_mc M) && Nat.ble ss (es_ms M))
      · rw [hcap] at h; cases h
      · rw [hcap] at h
        cases h
        rw [Bool.and_eq_true, Nat.ble_eq, Nat.ble_eq] at hcap
        intro H ls locs st q ce hinv h1 h2 h3
        obtain ⟨hl, hs, hH, hF, hS⟩ := hinv
        refine vx_out (E := es_exc n) ?_ hlocks h1 h2 h3 (fun t ht hvm => ⟨_, hin, n, rfl, rfl, hF, by rw [ht]; exact hH, hS.F ht⟩) hS.2.2 hcap.1 hcap.2
        intro z hz
        rw [htab, hh0] at hz
        cases hz
    · cases h
  · rename_i pc' L' S' AH' F' cs' ss' heq
    cases heq
    split at h
    · rename_i ent hat
      obtain ⟨e1, qq, hq1, hq2⟩ := es_at_ok hat
      obtain ⟨hdk, htok⟩ := htk qq hq1 ent hq2
      unfold es_dok at hdk
      rw [Bool.and_eq_true] at hdk
      have hd := of_decide_eq_true hdk.1
      split at h
      · rename_i x tl haux
        split at h
        · rename_i hh0
          cases hcap : ((Nat.blt cs (es_mc M) && Nat.ble (ss + 6) (es_ms M)) && (Nat.blt 5 (es_rf M) && Nat.ble 100 (es_lo M)) && Nat.ble (es_cts S) 8)
          · rw [hcap] at h; cases h
          · rw [hcap] at h
            cases h
            subst e1
            exact es_throw_ok hWS fc hev htab hh0 (hthw qq hq1 ent hq2) hd htok haux hcap hin
        · cases h
      · cases hrt : es_rtv (es_rt M) ent.2.1 S F with
        | none => rw [hrt] at h; cases h
        | some q =>
          rw [hrt] at h
          dsimp only at h
          cases hcap : (Nat.ble cs (es_mc M) && Nat.ble ss (es_ms M))
          · rw [hcap] at h; cases h
          · rw [hcap] at h
            cases h
            rw [Bool.and_eq_true, Nat.ble_eq, Nat.ble_eq] at hcap
            intro H ls locs st hinv
            obtain ⟨hl, hs, hH, hF, hS⟩ := hinv
            dsimp only at hl hs hH hF ⊢
            have hdl : es_len ent.2.1 = ent.2.2.1 := by
              have h2 := hdk.2
              split at h2
              · rename_i hts2
                rw [hts2] at hrt
                cases hrt
              · exact (es_beq.mp h2).symm
            rw [← hdl, e1] at hd
            refine W.widen (k := es_mc M) (n := es_ms M) hcap.1 hcap.2 (vx_ret ?_)
            exact es_rtv_ok hrt hF hs hd hx hb hr hlocks hS.2.2 (fun h0 t ht hW => ⟨_, hin, hF, by rw [ht]; exact hH, hS.F ht, Or.inl ⟨h0, rfl⟩⟩) (fun h1 y hy t ht hW => ⟨_, hin, hF, by rw [ht]; exact hH, hS.F ht, Or.inr ⟨h1, y, rfl, hy⟩⟩)
    · cases h
end Met2
end
section
section Con
variable {l : Launch} {strs : List (String × Nat × String)} {wx : List Cond} {WS : List Cond} {SL : Nat} {D : va_G} {cI cJ cZ cC cM : ClassId} {n0 b : Nat} {ρ : Nat → Int32} {M : es_M}
/-- what a run of a method's body gives, in every frame of it -/
def es_RS (l : Launch) (strs : List (String × Nat × String)) (wx : List Cond) (WS : List Cond) (SL : Nat) (D : va_G) (cI cJ cZ cC cM : ClassId) (n0 b : Nat) (ρ : Nat → Int32) (M : es_M) (K : es_K) (ends : List es_E) : Prop :=
  ∀ (p : Program) (e : Env) (R : Room) (s : State) (m : MethodId) (args : Array Value) (below : List Frame) (meth : Method) (c : Code) (Q : State → Prop), es_FC WS SL D cI cJ cZ cC cM n0 b ρ p R s m args meth c M → es_ev l strs wx SL D cI cJ cZ cC cM n0 b ρ s → c.exceptionTable.toList = tableOf (es_hh M) →
    (∀ E ∈ ends, es_EG p l e R s m args below meth c Q D (es_TY cI cJ cZ cC cM) n0 b ρ (es_mL M) E) → es_G p l e R s m args below meth c Q D (es_TY cI cJ cZ cC cM) n0 b ρ (es_mL M) K
/-- what holds of a method's rows -/
def es_MOK (strs : List (String × Nat × String)) (wx WS : List Cond) (M : es_M) : Prop :=
  (es_own M = (es_y M).cls ∧ plainName (es_y M).cls = true) ∧ (∀ q ∈ es_tab M, ∀ E ∈ q.2, ∀ x is ic wide si j1 j2, E.2.2.2 = [100, x, is, ic, wide, si, j1, j2] → es_thw WS wx (es_own M) ic x) ∧ ∀ q ∈ es_tab M, ∀ E ∈ q.2, es_dok M E = true ∧ es_tok WS wx strs M E = true
theorem es_body (hWS : ∀ w ∈ WS, goodWord w = true) (hMO : es_MOK strs wx WS M) {vs : List es_V} {xs : List Value} {AH : List es_O} {F : es_F} {ends : List es_E} (hrs : es_RS l strs wx WS SL D cI cJ cZ cC cM n0 b ρ M (0, es_al 0 vs, [], AH, F, 0, 0) ends) {lfs : List es_Lf} (hlf : es_cat (fun E => (es_leaf M E).map (fun x => [x])) ends = some lfs) (hvs : es_sr n0 b ρ vs xs) (hct : es_cts vs ≤ es_mL M) (hF : es_fr ρ F)
    {p : Program} {e : Env} {s : State} {m : MethodId} {args : Array Value} {below : List Frame} {meth : Method} {c : Code} {s₁ : State} (B : BodyLoose p l (es_y M) (headSpec (es_cw M :: WS) (es_room M)) (es_code M) (es_mL M) (es_rt M) e s m args below meth c s₁) (hml : c.maxLocals = es_mL M) (htab : c.exceptionTable.toList = tableOf (es_hh M))
    (hP : va_Pc xs (fun U => es_hr D (es_TY cI cJ cZ cC cM) n0 b ρ AH U.heap ∧ es_ev l strs wx SL D cI cJ cZ cC cM n0 b ρ U) args s) :
    W p l e (headSpec (es_cw M :: WS) (es_room M)).room s m args below meth c s.heap [] 0 0 (vx_MQ below (es_Qc D (es_TY cI cJ cZ cC cM) n0 b ρ lfs) (es_XC D (es_TY cI cJ cZ cC cM) n0 b ρ lfs) args s (es_mc M) (es_ms M) (es_A n0)) (entryFrame m args (es_mL M)) := by
  obtain ⟨rfl, hH, hev⟩ := hP
  have hts := atoms_spec (ws := es_cw M :: WS) B.pre
  have hown : s.vm.findClass (es_own M) = some m.cls := by rw [hMO.1.1]; exact findClass_of_methodNamed B.named
  have fc : es_FC WS SL D cI cJ cZ cC cM n0 b ρ p (headSpec (es_cw M :: WS) (es_room M)).room s m xs.toArray meth c M :=
    ⟨B.exec, B.bytes, hml, hown, fun w hw => hts w (List.mem_cons_of_mem _ hw), hev.1, ⟨Nat.le_refl _, Nat.le_refl _, Nat.le_refl _, Nat.le_refl _⟩, fun h => ((name_of_methodNamed B.named B.method).1).trans h, hev.2.1, hev.2.2.1, B.notSynchronized, B.returns⟩
  have hent := lv_entry xs (n := es_mL M) (by rw [(es_cts_ok vs xs hvs).1]; exact hct)
  rw [lg_entry_eq]
  generalize (lg_sl xs ++ List.replicate (es_mL M - (lg_sl xs).length) Slot.unset).toArray = ls at hent ⊢
  refine hrs p e _ s m xs.toArray below meth c _ fc hev htab (fun E hE => ?_) s.heap ls [] [] ⟨⟨hent.1, hent.2.1, fun j v hv => ?_⟩, rfl, hH, hF, va_S.rf⟩
  · obtain ⟨x, h1, h2⟩ := es_cat_ok hlf E hE
    cases hlE : es_leaf M E with
    | none => rw [hlE] at h1; cases h1
    | some lf =>
      rw [hlE] at h1
      cases h1
      exact es_leaf_ok hWS hMO.2.1 hMO.2.2 fc hev htab hlE (h2 lf (List.mem_singleton.mpr rfl))
  · obtain ⟨x, h1, h2⟩ := es_al_ok vs xs 0 hvs j v hv
    exact ⟨x, hent.2.2 _ h1, h2⟩
theorem es_met (hWS : ∀ w ∈ WS, goodWord w = true) (hMO : es_MOK strs wx WS M) {vs : List es_V} {xs : List Value} {AH : List es_O} {F : es_F} {ends : List es_E} (hrs : es_RS l strs wx WS SL D cI cJ cZ cC cM n0 b ρ M (0, es_al 0 vs, [], AH, F, 0, 0) ends) {lfs : List es_Lf} (hlf : es_cat (fun E => (es_leaf M E).map (fun x => [x])) ends = some lfs) (hvs : es_sr n0 b ρ vs xs) (hct : es_cts vs ≤ es_mL M) (hF : es_fr ρ F) :
    vx_Met l (es_y M) (es_cw M :: WS) (es_room M) (va_Pc xs (fun U => es_hr D (es_TY cI cJ cZ cC cM) n0 b ρ AH U.heap ∧ es_ev l strs wx SL D cI cJ cZ cC cM n0 b ρ U)) (es_Qc D (es_TY cI cJ cZ cC cM) n0 b ρ lfs) (es_XC D (es_TY cI cJ cZ cC cM) n0 b ρ lfs) (es_mc M) (es_ms M) (es_A n0) := by
  cases hh : es_hh M with
  | nil =>
    have hcw : es_cw M = .code (es_y M) (es_code M) (es_mL M) (es_rt M) := by unfold es_cw; rw [hh]
    refine vx_ofW (cc := es_code M) (maxL := es_mL M) (ret := es_rt M) hMO.1.2 (by rw [hcw]) ?_
    intro p e s m args below meth c s₁ B hml ht hP
    refine es_body hWS hMO hrs hlf hvs hct hF B hml ?_ hP
    rw [hh]
    exact List.eq_nil_iff_forall_not_mem.mpr ht
  | cons q t =>
    have hcw : es_cw M = .codeWith (es_y M) (es_code M) (es_mL M) (es_rt M) (es_hh M) := by unfold es_cw; rw [hh]
    refine vx_ofWH (cc := es_code M) (maxL := es_mL M) (ret := es_rt M) (hh := es_hh M) hMO.1.2 (by rw [hcw]) ?_
    intro p e s m args below meth c s₁ B hml hP
    refine es_body hWS hMO hrs hlf hvs hct hF B hml ?_ hP
    have hts := atoms_spec (ws := es_cw M :: WS) B.pre
    exact vx_table (x := es_y M) B (by rw [← hcw]; exact hts _ List.mem_cons_self)
theorem es_mono {y : MethodName} {ws : List Cond} {rm : Room} {Pc : Array Value → State → Prop} {lfs lfs' : List es_Lf} {mc ms : Nat} {free : Addr → Prop} (h : vx_Met l y ws rm Pc (es_Qc D (es_TY cI cJ cZ cC cM) n0 b ρ lfs) (es_XC D (es_TY cI cJ cZ cC cM) n0 b ρ lfs) mc ms free) (hn : ∀ lf ∈ lfs, ∃ lf' ∈ lfs', es_lle D (es_TY cI cJ cZ cC cM) n0 b ρ lf lf') : vx_Met l y ws rm Pc (es_Qc D (es_TY cI cJ cZ cC cM) n0 b ρ lfs') (es_XC D (es_TY cI cJ cZ cC cM) n0 b ρ lfs') mc ms free := by
  unfold vx_Met at h ⊢
  intro p e ha hc hk s m args below hf hfit hheap happ
  obtain ⟨t, o, h1, h2, h3, h4⟩ := h p e ha hc hk s m args below hf hfit hheap happ
  refine ⟨t, o, h1, h2, h3, ?_⟩
  rcases h4 with h4 | ⟨q, rfl, E, ce, L, ⟨lf, hl1, n, hl2, hl3, hl4, hl5, hl6⟩, h5⟩
  · obtain ⟨g1, g2, g3, g4⟩ := h4
    refine Or.inl ⟨?_, g2, g3, g4⟩
    obtain ⟨lf, hl1, hl2, hl3, hl4, hl5⟩ := g1
    obtain ⟨lf', k1, k2⟩ := hn lf hl1
    refine ⟨lf', k1, k2.2.2.2 hl2, k2.2.2.1 _ hl3, hl4, ?_⟩
    rcases hl5 with ⟨h6, h7⟩ | ⟨h6, x, h7, h8⟩
    · exact Or.inl ⟨k2.1 ▸ h6, h7⟩
    · exact Or.inr ⟨k2.1 ▸ h6, x, h7, k2.2.1 x h8⟩
  · obtain ⟨lf', k1, k2⟩ := hn lf hl1
    exact Or.inr ⟨q, rfl, E, ce, L, ⟨lf', k1, n, k2.1 ▸ hl2, hl3, k2.2.2.2 hl4, k2.2.2.1 _ hl5, hl6⟩, h5⟩
/-- .. and where nothing is thrown -/
theorem es_met0 {y : MethodName} {ws : List Cond} {rm : Room} {Pc : Array Value → State → Prop} {lfs : List es_Lf} {mc ms : Nat} {free : Addr → Prop} (h : vx_Met l y ws rm Pc (es_Qc D (es_TY cI cJ cZ cC cM) n0 b ρ lfs) (es_XC D (es_TY cI cJ cZ cC cM) n0 b ρ lfs) mc ms free) (hn : es_nothr lfs = true) : Met l y ws rm Pc (es_Qc D (es_TY cI cJ cZ cC cM) n0 b ρ lfs) mc ms free := by
  unfold vx_Met at h
  unfold Met
  intro p e ha hc hk s m args below hf hfit hheap happ
  obtain ⟨t, o, h1, h2, h3, h4⟩ := h p e ha hc hk s m args below hf hfit hheap happ
  refine ⟨t, o, h1, h2, h3, ?_⟩
  rcases h4 with h4 | ⟨q, rfl, E, ce, L, ⟨lf, hl1, n, hl2, -⟩, -⟩
  · exact h4
  · have h5 := List.all_eq_true.mp hn lf hl1
    have h6 := es_blt.mp h5
    rw [hl2] at h6
    omega
end Con
end
section
section Catch
theorem es_covers {q : Nat × Nat × Nat × Nat} {pc : Nat} : covers (⟨q.1, q.2.1, q.2.2.1, q.2.2.2⟩ : ExceptionTableEntry) pc = (Nat.ble q.1 pc && Nat.blt pc q.2.1) := by
  unfold covers
  cases h1 : Nat.ble q.1 pc <;> cases h2 : Nat.blt pc q.2.1
  · have g1 : ¬ q.1 ≤ pc := fun h => by rw [Nat.ble_eq.mpr h] at h1; cases h1
    simp [g1]
  · have g1 : ¬ q.1 ≤ pc := fun h => by rw [Nat.ble_eq.mpr h] at h1; cases h1
    simp [g1]
  · have g1 : ¬ pc < q.2.1 := fun h => by rw [es_blt.mpr h] at h2; cases h2
    simp [g1]
  · have g1 := Nat.ble_eq.mp h1
    have g2 := es_blt.mp h2
    simp [g1, g2]
theorem es_goOne {Q : Handler → Pre} {E : CtlPost} {e : Env} {d : Bool} {acts : List Action} {s : State} {f : JFrame} {a : Addr} {x : ExceptionTableEntry} {t : List ExceptionTableEntry} {c : ClassId} {cell : Cell} (hx : covers x f.pc = true) (h0 : x.catchType ≠ 0)
    (hl : s.vm.ClassLinks e.platform f.method.cls x.catchType c) (hcell : s.heap[a]? = some cell) (hobj : ∀ k, cell.vm ≠ .statics k)
    (hk : ∃ k, s.vm.classes[cell.cls]? = some k) (hc : ∃ k, s.vm.classes[c]? = some k) :
    wp (findHandler.go f a (x :: t)) Q E e d acts s ↔ (if s.vm.assignable cell.cls c = true then Q (.found x.handlerPc) d acts (s.setVm (s.vm.noted f.method.cls x.catchType (.cls c))) else wp (findHandler.go f a t) Q E e d acts (s.setVm (s.vm.noted f.method.cls x.catchType (.cls c)))) := by
  simp only [covers] at hx
  obtain ⟨ha, ht⟩ := (resolveClass_links e.toSetting hl).op (op := VmOp.resolveClass f.method.cls x.catchType) rfl
  have hal : s.vm.Alike (s.vm.noted f.method.cls x.catchType (.cls c)) := (Vm.Alike.refl s.vm).noted _ _ _
  obtain ⟨k1, hk1⟩ := hk
  obtain ⟨k2, hk2⟩ := hc
  obtain ⟨k1', hk1', -⟩ := hal.2.2 _ _ hk1
  obtain ⟨k2', hk2', -⟩ := hal.2.2 _ _ hk2
  have hfit' : (s.vm.noted f.method.cls x.catchType (.cls c)).assignable cell.cls c = s.vm.assignable cell.cls c := by rw [hal.assignable]
  by_cases hf : s.vm.assignable cell.cls c = true
  · rw [if_pos hf]
    rw [hf] at hfit'
    simp [findHandler.go, hx, h0, ha, ht, hcell, hobj, hk1', hk2', hfit', VmOp.dirties, VmOp.acts]
  · rw [if_neg hf]
    have hf2 : s.vm.assignable cell.cls c = false := by simpa using hf
    rw [hf2] at hfit'
    simp [findHandler.go, hx, h0, ha, ht, hcell, hobj, hk1', hk2', hfit', VmOp.dirties, VmOp.acts]
theorem es_goes {e : Env} {s₀ : State} {f : JFrame} {a : Addr} {cell : Cell} {x h : Nat} {own : String} {args : Array Value} (hpl : e.platform.magicAccessors = ({} : Platform).magicAccessors) (hown : s₀.vm.findClass own = some f.method.cls) (hobj : ∀ k, cell.vm ≠ .statics k) (hx5 : x < 5) (hcl : s₀.vm.findClass (es_exc x) = some cell.cls) (hnc : ∀ x y : Nat, x < 5 → y < 5 → x ≠ y → va_Nc (es_exc x) (es_exc y) s₀) :
    ∀ (hh : List (Nat × Nat × Nat × Nat)) (S : State), s₀.WarmedH S.vm → S.heap[a]? = some cell → (∀ q ∈ hh, q.2.2.2 ≠ 0 ∧ es_ct q.2.2.2 < 5 ∧ (Cond.classLink own q.2.2.2 (es_exc (es_ct q.2.2.2))).before args s₀ = true) → es_hdl es_ct hh f.pc x = some h →
      ∃ vm', s₀.WarmedH vm' ∧ ∀ (Q : Handler → Pre) (E : CtlPost) (d : Bool) (acts : List Action), wp (findHandler.go f a (tableOf hh)) Q E e d acts S ↔ Q (.found h) d acts (S.setVm vm') := by
  intro hh
  induction hh with
  | nil => intro S _ _ _ h0; cases h0
  | cons q t ih =>
    intro S hW hcell hrow hhd
    obtain ⟨g0, g5, glk⟩ := hrow q List.mem_cons_self
    have hrest : ∀ z ∈ t, z.2.2.2 ≠ 0 ∧ es_ct z.2.2.2 < 5 ∧ (Cond.classLink own z.2.2.2 (es_exc (es_ct z.2.2.2))).before args s₀ = true := fun z hz => hrow z (List.mem_cons_of_mem _ hz)
    unfold es_hdl at hhd
    cases hcv : (Nat.ble q.1 f.pc && Nat.blt f.pc q.2.1)
    · rw [hcv] at hhd
      dsimp only [cond_false] at hhd
      obtain ⟨vm', w1, w2⟩ := ih S hW hcell hrest hhd
      refine ⟨vm', w1, fun Q E d acts => ?_⟩
      show wp (findHandler.go f a (⟨q.1, q.2.1, q.2.2.1, q.2.2.2⟩ :: tableOf t)) Q E e d acts S ↔ _
      rw [W.findHandler_go_skip (by rw [es_covers]; exact hcv)]
      exact w2 Q E d acts
    · rw [hcv] at hhd
      dsimp only [cond_true] at hhd
      obtain ⟨c', hc', hlk⟩ := Cond.classLink_spec hown glk e.platform hpl
      obtain ⟨dk, _, _, kt, hd, _, _, _, _, hkt, _, hopn⟩ := hlk.here
      obtain ⟨kt', hkt', -⟩ := hW.alike.2.2 _ _ hkt
      obtain ⟨k0, hk0, -⟩ := Vm.findClass_spec hcl
      obtain ⟨k0', hk0', -⟩ := hW.alike.2.2 _ _ hk0
      have hW2 : s₀.WarmedH (S.vm.noted f.method.cls q.2.2.2 (.cls c')) := hW.noted hd hopn (State.rightAt_cls hlk)
      have hone : ∀ (Q : Handler → Pre) (E : CtlPost) (d : Bool) (acts : List Action), _ := fun Q E d acts => es_goOne (Q := Q) (E := E) (e := e) (d := d) (acts := acts) (s := S) (f := f) (a := a) (x := (⟨q.1, q.2.1, q.2.2.1, q.2.2.2⟩ : ExceptionTableEntry)) (t := tableOf t) (c := c') (cell := cell) (by rw [es_covers]; exact hcv) g0 (hW.classLinks hlk) hcell hobj ⟨k0', hk0'⟩ ⟨kt', hkt'⟩
      cases hcx : Nat.beq (es_ct q.2.2.2) x
      · rw [hcx] at hhd
        dsimp only [cond_false] at hhd
        have hne := es_beqf.mp hcx
        obtain ⟨a8, b8, n1, n2, n3⟩ := hnc x (es_ct q.2.2.2) hx5 g5 (Ne.symm hne)
        cases Option.some.inj (n1.symm.trans hcl)
        cases Option.some.inj (n2.symm.trans hc')
        obtain ⟨vm', w1, w2⟩ := ih (S.setVm (S.vm.noted f.method.cls q.2.2.2 (.cls c'))) hW2 hcell hrest hhd
        refine ⟨vm', w1, fun Q E d acts => ?_⟩
        show wp (findHandler.go f a (⟨q.1, q.2.1, q.2.2.1, q.2.2.2⟩ :: tableOf t)) Q E e d acts S ↔ _
        rw [hone Q E d acts, if_neg (by rw [hW.alike.assignable, n3]; decide)]
        exact w2 Q E d acts
      · rw [hcx] at hhd
        cases hhd
        have he := es_beq.mp hcx
        rw [he] at hc'
        cases Option.some.inj (hcl.symm.trans hc')
        refine ⟨_, hW2, fun Q E d acts => ?_⟩
        show wp (findHandler.go f a (⟨q.1, q.2.1, q.2.2.1, q.2.2.2⟩ :: tableOf t)) Q E e d acts S ↔ _
        rw [hone Q E d acts, if_pos (va_asg _ _)]
theorem es_catch {p : Program} {l : Launch} {e : Env} {R : Room} {s : State} {m : MethodId} {args : Array Value} {below : List Frame} {meth : Method} {c : Code} {H : Heap} {locs : List Loc} {cells slots : Nat} {Q : State → Prop} {pc : Nat} {ls : Array Slot} {rest : List Value} {q : Addr} {ce : Cell} {own : String} {x h : Nat} {hh : List (Nat × Nat × Nat × Nat)}
    (hown : s.vm.findClass own = some m.cls) (htab : c.exceptionTable.toList = tableOf hh) (hx5 : x < 5) (hnc : ∀ x y : Nat, x < 5 → y < 5 → x ≠ y → va_Nc (es_exc x) (es_exc y) s) (hrow : ∀ q ∈ hh, q.2.2.2 ≠ 0 ∧ es_ct q.2.2.2 < 5 ∧ (Cond.classLink own q.2.2.2 (es_exc (es_ct q.2.2.2))).before args s = true) (hhd : es_hdl es_ct hh pc x = some h) (hcell : H[q]? = some ce) (hv : ce.vm = .none) (hcl : s.vm.findClass (es_exc x) = some ce.cls)
    (kk : W p l e R s m args below meth c H locs cells slots Q (F0 m h ls [.ref q])) : vx_W p l e R s m args below meth c H locs cells slots Q (F0 m pc ls rest) q := by
  intro T hT X
  have hpl : e.platform.magicAccessors = ({} : Platform).magicAccessors := by rw [X.admits.platform]
  obtain ⟨vm', hW', hq⟩ := es_goes (e := e) (s₀ := s) (f := F0 m pc ls rest) (a := q) (cell := ce) (args := args) (own := own) hpl hown (fun k h9 => by rw [hv] at h9; cases h9) hx5 hcl hnc hh ((T.setTop (F0 m pc ls rest)).pushFrame (.throwing q)) X.warmed (by show T.heap[q]? = some ce; rw [hT]; exact hcell) hrow hhd
  obtain ⟨t, a1, b1⟩ := kk (T.setVm vm') hT (X.noted hW')
  refine ⟨t, ?_, b1⟩
  have hgoes : ∀ (Q : Handler → Pre) (E : CtlPost) (d : Bool) (acts : List Action), wp (findHandler (F0 m pc ls rest) q) Q E e d acts ((T.setTop (F0 m pc ls rest)).pushFrame (.throwing q)) ↔ Q (.found h) d acts (((T.setTop (F0 m pc ls rest)).pushFrame (.throwing q)).setVm vm') := fun Q E d acts => by
    rw [W.findHandler_eq (meth := meth) (code := c) X.method' X.code, htab]
    exact hq Q E d acts
  have hst : (stepThrowing e ((T.setTop (F0 m pc ls rest)).pushFrame (.throwing q)) q (.java (F0 m pc ls rest) :: below)).Is ((((T.setTop (F0 m pc ls rest)).pushFrame (.throwing q)).setVm vm').setFrames (.java { (F0 m pc ls rest) with pc := h, stack := [.ref q] } :: below)) [] := by
    simp only [stepThrowing, searchFrame, vmDo]
    generalize hr : Sem.go _ e false [] ((T.setTop (F0 m pc ls rest)).pushFrame (.throwing q)) = res
    obtain ⟨as, rfl, ha⟩ := Sem.eq_ok_of hr (a := Handler.found h) (s' := ((T.setTop (F0 m pc ls rest)).pushFrame (.throwing q)).setVm vm') (acts' := []) (by simp [hgoes])
    exact ⟨rfl, ha⟩
  have hAt : At T (F0 m pc ls rest).method c below := X.here
  obtain ⟨hgo, hw⟩ := hAt.throwing q
  refine Steps.head hgo hw ?_
  rw [stepThread_throwing (frames_entered hAt.top _)]
  obtain ⟨g₀, hfr⟩ := X.frames_eq
  have hr' : (T.setVm vm').frames = .java g₀ :: below := hfr
  rw [State.setTop_of_frames _ hr'] at a1
  rw [hfr, List.tail_cons, hst.1, State.pushFrame, State.setTop_of_frames _ hfr]
  have hz : ∀ (u : State) (F G : List Frame), ((u.setFrames F).setVm vm').setFrames G = (u.setVm vm').setFrames G := fun u F G => by
    have h1 : (u.setFrames F).setVm vm' = (u.setVm vm').setFrames F := rfl
    rw [h1, State.setFrames_setFrames]
  rw [State.setFrames_setFrames, hz]
  exact a1
end Catch
end
section
def es_ymok (y : MethodName) (n : Nat) : Bool := decide (y.cls ≠ "java/lang/invoke/MethodHandle") && (decide (y.cls ≠ "java/lang/invoke/VarHandle") && decide ((parseMethodDescriptor y.desc).map (fun d => d.parameters.length) = some n))
theorem es_ymok_ok {y : MethodName} {n : Nat} (h : es_ymok y n = true) : y.cls ≠ "java/lang/invoke/MethodHandle" ∧ y.cls ≠ "java/lang/invoke/VarHandle" ∧ (parseMethodDescriptor y.desc).map (fun d => d.parameters.length) = some n := by
  unfold es_ymok at h
  rw [Bool.and_eq_true, Bool.and_eq_true] at h
  exact ⟨of_decide_eq_true h.1, of_decide_eq_true h.2.1, of_decide_eq_true h.2.2⟩
def es_cok (ME : Nat → es_M) (WS wx : List Cond) (M : es_M) (E : es_I) : Bool := match E.2.1 with
  | .invokevirtual idx => match E.2.2.2 with
    | [1, M', n, ci, j1, j2, j3, j4] => (match vwCl[ci]? with
        | some r => decide (r.1 = (es_y (ME M')).cls)
        | none => false) && ((es_wj WS j1 (.methodLink (es_own M) idx (es_y (ME M'))) && es_wj WS j2 (.instanceMethod (es_y (ME M')))) && ((es_wj WS j3 (.selects (es_y (ME M')).cls (es_y (ME M')) (es_y (ME M'))) && es_wj WS j4 (.initialized (es_y (ME M')).cls)) && (es_ymok (es_y (ME M')) n && (es_hh (ME M')).isEmpty)))
    | _ => false
  | .invokestatic idx => match E.2.2.2 with
    | [2, M', n, j1, j2, j3] => (es_wj WS j1 (.methodLink (es_own M) idx (es_y (ME M'))) && es_wj WS j2 (.static (es_y (ME M')))) && (es_wj WS j3 (.initialized (es_y (ME M')).cls) && es_ymok (es_y (ME M')) n)
    | [4, j1, j2, j3, j4] => (es_wj WS j1 (.methodLink (es_own M) idx arraycopyName) && es_wj WS j2 (.native arraycopyName)) && (es_wj WS j3 (.static arraycopyName) && es_wj WS j4 (.initialized "java/lang/System"))
    | [5, j1, j2, j3, j4] => (es_wj WS j1 (.methodLink (es_own M) idx Lib.Math.min.name) && es_wj WS j2 (.static Lib.Math.min.name)) && (es_wj WS j3 (.initialized "java/lang/Math") && es_wj WS j4 (.code Lib.Math.min.name Lib.Math.min.code 2 (some .int)))
    | [6, j1, j2, j3, j4] => (es_wj WS j1 (.methodLink (es_own M) idx Lib.Math.max.name) && es_wj WS j2 (.static Lib.Math.max.name)) && (es_wj WS j3 (.initialized "java/lang/Math") && es_wj WS j4 (.code Lib.Math.max.name Lib.Math.max.code 2 (some .int)))
    | _ => false
  | .invokespecial idx => match E.2.2.2 with
    | [7, M', n, nest, j1, j2, j3] => (bif Nat.beq nest 0 then es_wj WS j1 (.methodLink (es_own M) idx (es_y (ME M'))) else es_wj wx j1 (.methodLinkNest (es_own M) idx (es_y (ME M')) RX11)) && ((es_wj WS j2 (.instanceMethod (es_y (ME M'))) && es_wj WS j3 (.initialized (es_y (ME M')).cls)) && ((es_ymok (es_y (ME M')) n && (es_hh (ME M')).isEmpty) && (decide ((es_y (ME M')).name = "<init>") && decide (es_rt (ME M') = none))))
    | [9, j1, j2, j3] => es_wj WS j1 (.methodLink (es_own M) idx Lib.objectInit) && (es_wj WS j2 (.instanceMethod Lib.objectInit) && es_wj WS j3 (.code Lib.objectInit ⟨#[0xb1]⟩ 1 none))
    | _ => false
  | _ => true
section Call
variable {l : Launch} {strs : List (String × Nat × String)} {wx : List Cond} {WS : List Cond} {SL : Nat} {D : va_G} {cI cJ cZ cC cM : ClassId} {n0 b : Nat} {ρ : Nat → Int32} {ME : Nat → es_M}
variable {p : Program} {e : Env} {R : Room} {s : State} {m : MethodId} {args : Array Value} {below : List Frame} {meth : Method} {c : Code} {Q : State → Prop}
/-- what holds of all rows -/
def es_GH (strs : List (String × Nat × String)) (wx WS : List Cond) (ME : Nat → es_M) : Prop :=
  (∀ w ∈ WS, goodWord w = true) ∧ (∀ (ci : Nat) (r : vw_C), vwCl[ci]? = some r → ∀ w ∈ u_ws r.1 r.2.1 r.2.2, w ∈ WS) ∧ es_wxok wx ∧ (∀ M, es_MOK strs wx WS (ME M)) ∧ (∀ M, es_lo (ME M) ≤ 84000 ∧ (es_lo (ME M) < 84000 → es_cw (ME M) ∈ WS)) ∧ (∀ M, ∀ q ∈ es_tab (ME M), ∀ E ∈ q.2, es_hok WS (ME M) E = true ∧ es_cok ME WS wx (ME M) E = true) ∧
  (∀ M, ∀ q ∈ es_hh (ME M), q.2.2.2 ≠ 0 ∧ es_ct q.2.2.2 < 5 ∧ Cond.classLink (es_own (ME M)) q.2.2.2 (es_exc (es_ct q.2.2.2)) ∈ WS)
theorem es_good (G : es_GH strs wx WS ME) {M : Nat} (hc : es_cw (ME M) ∈ WS) : GoodIn WS (es_cw (ME M) :: WS) := fun w hw => by
  rcases List.mem_cons.mp hw with rfl | h
  · exact ⟨hc, good_of_word (G.1 _ hc)⟩
  · exact ⟨h, good_of_word (G.1 _ h)⟩
abbrev es_Pc (l : Launch) (strs : List (String × Nat × String)) (wx : List Cond) (SL : Nat) (D : va_G) (cI cJ cZ cC cM : ClassId) (n0 b : Nat) (ρ : Nat → Int32) (xs : List Value) (AH : List es_O) : Array Value → State → Prop := va_Pc xs (fun U => es_hr D (es_TY cI cJ cZ cC cM) n0 b ρ AH U.heap ∧ es_ev l strs wx SL D cI cJ cZ cC cM n0 b ρ U)
theorem es_blind (hwx : es_wxok wx) {xs : List Value} {AH : List es_O} : FrameBlind (es_Pc l strs wx SL D cI cJ cZ cC cM n0 b ρ xs AH) := by
  intro a U g mk h
  obtain ⟨h1, h2, h3⟩ := h
  exact ⟨h1, h2, es_ev_move hwx h3 (U := U.calling g mk a) (State.WarmedH.refl U) (Nat.le_refl _) (fun _ _ _ => rfl)⟩
theorem es_pcU (hwx : es_wxok wx) (hev : es_ev l strs wx SL D cI cJ cZ cC cM n0 b ρ s) {H : Heap} {locs : List Loc} (hS : va_S (es_A n0) s.heap H locs) {AH : List es_O} (hH : es_hr D (es_TY cI cJ cZ cC cM) n0 b ρ AH H) {xs : List Value} : ∀ U : State, U.heap = H → s.WarmedH U.vm → es_Pc l strs wx SL D cI cJ cZ cC cM n0 b ρ xs AH xs.toArray U := fun U hU hW =>
  ⟨rfl, by rw [hU]; exact hH, es_ev_move hwx hev hW (by rw [hU]; exact hS.1) (fun q h1 h2 => by rw [hU]; exact hS.2.1 q h1 h2)⟩
theorem es_va_join {H H1 : Heap} {locs L : List Loc} {st₀ t : State} (hS : va_S (es_A n0) s.heap H locs) (h0 : st₀.heap = H) (ht : t.heap = H1) (hf : va_F (es_A n0) st₀ t) (hL : ∀ q ∈ L, es_A n0 q.base) : va_S (es_A n0) s.heap H1 (locs ++ L) := by
  obtain ⟨f1, f2⟩ := hf
  rw [h0, ht] at f1
  rw [h0, ht] at f2
  refine ⟨Nat.le_trans hS.1 f1, fun q h1 h2 => (f2 q (Nat.lt_of_lt_of_le h1 hS.1) h2).trans (hS.2.1 q h1 h2), fun z hz => ?_⟩
  rcases List.mem_append.mp hz with h | h
  · exact hS.2.2 z h
  · exact hL z h
/-- what comes behind a call -/
theorem es_aft_ok (G : es_GH strs wx WS ME) {ih : Nat → es_K → Option (List es_E)} (hih : ∀ (M : Nat) (K : es_K) (ends : List es_E), ih M K = some ends → es_RS l strs wx WS SL D cI cJ cZ cC cM n0 b ρ (ME M) K ends) {M : Nat} (fc : es_FC WS SL D cI cJ cZ cC cM n0 b ρ p R s m args meth c (ME M)) (hev : es_ev l strs wx SL D cI cJ cZ cC cM n0 b ρ s) (htab : c.exceptionTable.toList = tableOf (es_hh (ME M))) {ends : List es_E} (hends : ∀ E ∈ ends, es_EG p l e R s m args below meth c Q D (es_TY cI cJ cZ cC cM) n0 b ρ (es_mL (ME M)) E)
    {pc : Nat} {L : es_L} {S' : List es_V} {cs ss mc ms : Nat} {lfs : List es_Lf} (hcat : es_cat (es_aft ME ih M pc L S' (cs + mc) (ss + ms)) lfs = some ends)
    {H : Heap} {ls : Array Slot} {locs : List Loc} {rest st0 : List Value} (hl : es_lr n0 b ρ (es_mL (ME M)) L ls) (hs' : es_sr n0 b ρ S' rest) (hS : va_S (es_A n0) s.heap H locs)
    (hr : vx_Run p l e R s m args below meth c H locs cs ss mc ms (F0 m pc ls st0) rest (es_Qc D (es_TY cI cJ cZ cC cM) n0 b ρ lfs #[]) (es_XC D (es_TY cI cJ cZ cC cM) n0 b ρ lfs) (es_A n0)) :
    W p l e R s m args below meth c H locs cs ss Q (F0 m pc ls st0) := by
  refine es_vxrun hr (fun v st₀ t H1 L1 h0 ht hq hL => ?_) (fun q st₀ t H1 L1 E ce h0 ht hxc hce hcv hcl hL => ?_)
  · obtain ⟨lf, hlf, hF', hH', hf, hcase⟩ := hq
    obtain ⟨x, h1, h2⟩ := es_cat_ok hcat lf hlf
    rw [ht] at hH'
    obtain ⟨kd, w, AH', F'⟩ := lf
    dsimp only at hF' hH' hcase
    rcases hcase with ⟨rfl, hv⟩ | ⟨rfl, y, hv, hy⟩
    · cases hv
      have h1' : ih M (pc + 3, L, S', AH', F', cs + mc, ss + ms) = some x := h1
      exact hih M _ _ h1' p e R s m args below meth c Q fc hev htab (fun E hE => hends E (h2 E hE)) H1 ls _ rest ⟨hl, hs', hH', hF', es_va_join hS h0 ht hf hL⟩
    · cases hv
      have h1' : ih M (pc + 3, L, w :: S', AH', F', cs + mc, ss + ms) = some x := h1
      exact hih M _ _ h1' p e R s m args below meth c Q fc hev htab (fun E hE => hends E (h2 E hE)) H1 ls _ (y :: rest) ⟨hl, ⟨y, rest, rfl, hy, hs'⟩, hH', hF', es_va_join hS h0 ht hf hL⟩
  · obtain ⟨lf, hlf, n, hn, rfl, hF', hH', hf⟩ := hxc
    obtain ⟨x, h1, h2⟩ := es_cat_ok hcat lf hlf
    rw [ht] at hH'
    obtain ⟨kd, w, AH', F'⟩ := lf
    dsimp only at hF' hH' hn
    subst hn
    unfold es_aft at h1
    dsimp only at h1
    split at h1
    · cases h1
      have h3 := hends _ (h2 _ (List.mem_singleton.mpr rfl))
      exact h3 H1 ls _ rest q ce ⟨hl, hs', hH', hF', es_va_join hS h0 ht hf hL⟩ hce hcv hcl
    · split at h1
      · rename_i hd2 hdl
        cases hx5 : Nat.blt n 5
        · rw [hx5] at h1; cases h1
        · rw [hx5] at h1
          have h1' : ih M (hd2, L, [(7, 0)], AH', F', cs + mc, ss + ms) = some x := h1
          refine es_catch fc.2.2.2.1 htab (es_blt.mp hx5) hev.2.2.2.2.2.2.2.2 (fun z hz => ?_) hdl hce hcv hcl ?_
          · obtain ⟨g1, g2, g3⟩ := G.2.2.2.2.2.2 M z hz
            exact ⟨g1, g2, fc.2.2.2.2.1 _ g3⟩
          · exact hih M _ _ h1' p e R s m args below meth c Q fc hev htab (fun E hE => hends E (h2 E hE)) H1 ls _ [.ref q] ⟨hl, ⟨_, _, rfl, ⟨q, rfl⟩, rfl⟩, hH', hF', es_va_join hS h0 ht hf hL⟩
      · cases h1
end Call
end
section
section Snd
variable {l : Launch} {strs : List (String × Nat × String)} {wx : List Cond} {WS : List Cond} {SL : Nat} {D : va_G} {cI cJ cZ cC cM : ClassId} {n0 b : Nat} {ρ : Nat → Int32} {ME : Nat → es_M}
variable {p : Program} {e : Env} {R : Room} {s : State} {m : MethodId} {args : Array Value} {below : List Frame} {meth : Method} {c : Code} {Q : State → Prop}
theorem es_ifc {cc : ByteArray} (hx : p.tables.exec = Jvm.exec) (hb : c.code = cc) {H : Heap} {locs : List Loc} {cells slots pc tgt : Nat} {ls : Array Slot} {rest : List Value} {x : Int32} {off : Int} (op : es_Op) (hd : decode cc pc = .ok (.ifCond op off, 3)) (ht : (pc : Int) + off = (tgt : Int))
    (kt : es_cmp op (es_zb x) (es_zb 0) = true → W p l e R s m args below meth c H locs cells slots Q (F0 m tgt ls rest)) (kf : es_cmp (es_ng op) (es_zb x) (es_zb 0) = true → W p l e R s m args below meth c H locs cells slots Q (F0 m (pc + 3) ls rest)) : W p l e R s m args below meth c H locs cells slots Q (F0 m pc ls (.int x :: rest)) := by
  have hn : ∀ P : Prop, (es_cmp op (es_zb x) (es_zb 0) = true ↔ P) → ¬ P → es_cmp (es_ng op) (es_zb x) (es_zb 0) = true := fun P h1 h2 => by
    rw [es_cmp_ng]
    cases hc : es_cmp op (es_zb x) (es_zb 0)
    · rfl
    · exact absurd (h1.mp hc) h2
  have hc := es_cmp_eq op x 0
  cases op
  · exact lv_if_eq hx hb hd ht (fun h => kt (hc.mpr h)) (fun h => kf (hn _ hc h))
  · exact lv_if_ne hx hb hd ht (fun h => kt (hc.mpr h)) (fun h => kf (hn _ hc (fun h9 => h9 h)))
  · exact lv_if_lt hx hb hd ht (fun h => kt (hc.mpr h)) (fun h => kf (hn _ hc h))
  · exact lv_if_ge hx hb hd ht (fun h => kt (hc.mpr h)) (fun h => kf (hn _ hc h))
  · exact lv_if_gt hx hb hd ht (fun h => kt (hc.mpr h)) (fun h => kf (hn _ hc h))
  · exact lv_if_le hx hb hd ht (fun h => kt (hc.mpr h)) (fun h => kf (hn _ hc h))
theorem es_icm {cc : ByteArray} (hx : p.tables.exec = Jvm.exec) (hb : c.code = cc) {H : Heap} {locs : List Loc} {cells slots pc tgt : Nat} {ls : Array Slot} {rest : List Value} {x y : Int32} {off : Int} (op : es_Op) (hd : decode cc pc = .ok (.if_icmp op off, 3)) (ht : (pc : Int) + off = (tgt : Int))
    (kt : es_cmp op (es_zb x) (es_zb y) = true → W p l e R s m args below meth c H locs cells slots Q (F0 m tgt ls rest)) (kf : es_cmp (es_ng op) (es_zb x) (es_zb y) = true → W p l e R s m args below meth c H locs cells slots Q (F0 m (pc + 3) ls rest)) : W p l e R s m args below meth c H locs cells slots Q (F0 m pc ls (.int y :: .int x :: rest)) := by
  have hn : ∀ P : Prop, (es_cmp op (es_zb x) (es_zb y) = true ↔ P) → ¬ P → es_cmp (es_ng op) (es_zb x) (es_zb y) = true := fun P h1 h2 => by
    rw [es_cmp_ng]
    cases hc : es_cmp op (es_zb x) (es_zb y)
    · rfl
    · exact absurd (h1.mp hc) h2
  have hc := es_cmp_eq op x y
  cases op
  · exact lv_icmp_eq hx hb hd ht (fun h => kt (hc.mpr h)) (fun h => kf (hn _ hc h))
  · exact lv_icmp_ne hx hb hd ht (fun h => kt (hc.mpr h)) (fun h => kf (hn _ hc (fun h9 => h9 h)))
  · exact lv_icmp_lt hx hb hd ht (fun h => kt (hc.mpr h)) (fun h => kf (hn _ hc h))
  · exact lv_icmp_ge hx hb hd ht (fun h => kt (hc.mpr h)) (fun h => kf (hn _ hc h))
  · exact lv_icmp_gt hx hb hd ht (fun h => kt (hc.mpr h)) (fun h => kf (hn _ hc h))
  · exact lv_icmp_le hx hb hd ht (fun h => kt (hc.mpr h)) (fun h => kf (hn _ hc h))
def es_r6 (ρ : Nat → Int32) (x : Int32) : Nat → Int32 := fun k => if k = 6 then x else ρ k
theorem es_r66 (ρ : Nat → Int32) (x : Int32) : es_r6 ρ x 6 = x := if_pos rfl
theorem es_r6n {ρ : Nat → Int32} {x : Int32} {k : Nat} (h : k ≠ 6) : es_r6 ρ x k = ρ k := if_neg h
section No6
variable {ρ₁ ρ₂ : Nat → Int32} {tys : List (ClassId × FieldType)}
theorem es_vr6 (hr : ∀ k, k ≠ 6 → ρ₁ k = ρ₂ k) {v : es_V} {x : Value} (hn : es_n6 v = true) (h : es_vr n0 b ρ₁ v x) : es_vr n0 b ρ₂ v x := by
  obtain ⟨t, k⟩ := v
  match t, h, hn with
  | 0, h, _ => exact h
  | 1, h, hn =>
    have h' : x = .int (ρ₁ k) := h
    have hk : k ≠ 6 := fun e => by subst e; exact absurd hn (by decide)
    show x = .int (ρ₂ k)
    rw [← hr k hk]
    exact h'
  | 2, h, _ => exact h
  | 3, h, _ => exact h
  | 4, h, _ => exact h
  | 5, h, _ => exact h
  | 6, h, _ => exact h
  | 7, h, _ => exact h
  | t + 8, h, _ => exact h
theorem es_get_mem {α : Type} : ∀ {L : List (Nat × α)} {k : Nat} {v : α}, es_get L k = some v → (k, v) ∈ L
  | [], _, _, h => by cases h
  | q :: t, k, v, h => by
    unfold es_get at h
    cases hb : Nat.beq q.1 k
    · rw [hb] at h
      exact List.mem_cons_of_mem _ (es_get_mem (show es_get t k = some v from h))
    · rw [hb] at h
      cases h
      rw [← es_beq.mp hb]
      exact List.mem_cons_self
theorem es_n6g {L : List (Nat × es_V)} (h : es_n6l L = true) {k : Nat} {v : es_V} (hg : es_get L k = some v) : es_n6 v = true := List.all_eq_true.mp h _ (es_get_mem hg)
theorem es_lr6 (hr : ∀ k, k ≠ 6 → ρ₁ k = ρ₂ k) {nL : Nat} {L : es_L} {ls : Array Slot} (hn : es_n6l L = true) (h : es_lr n0 b ρ₁ nL L ls) : es_lr n0 b ρ₂ nL L ls :=
  ⟨h.1, h.2.1, fun i v hv => by obtain ⟨x, h1, h2⟩ := h.2.2 i v hv; exact ⟨x, h1, es_vr6 hr (es_n6g hn hv) h2⟩⟩
theorem es_or6 (hr : ∀ k, k ≠ 6 → ρ₁ k = ρ₂ k) {a : Nat} {o : es_O} {H : Heap} (hn : es_n6l o.2.2 = true) (h : es_or D tys n0 b ρ₁ a o H) : es_or D tys n0 b ρ₂ a o H := by
  obtain ⟨t, i, c⟩ := o
  match t, h with
  | 0, h =>
    obtain ⟨r, V, h1, h2, h3⟩ := h
    exact ⟨r, V, h1, h2, fun k v hv => ⟨(h3 k v hv).1, es_vr6 hr (es_n6g hn hv) (h3 k v hv).2⟩⟩
  | 1, h => trivial
  | t + 2, h =>
    obtain ⟨q, V, h1, h2, h3⟩ := h
    refine ⟨q, V, h1, h2, fun j hj => es_vr6 hr ?_ (h3 j hj)⟩
    unfold es_ad
    cases hg : es_get c j with
    | some v => exact es_n6g hn hg
    | none =>
      show es_n6 (es_dv t) = true
      unfold es_dv
      split <;> rfl
theorem es_hr6 (hr : ∀ k, k ≠ 6 → ρ₁ k = ρ₂ k) {AH : List es_O} {H : Heap} (hn : es_n6h AH = true) (h : es_hr D tys n0 b ρ₁ AH H) : es_hr D tys n0 b ρ₂ AH H :=
  ⟨h.1, fun i o ho => es_or6 hr (List.all_eq_true.mp hn _ (List.mem_of_getElem? ho)) (h.2 i o ho)⟩
theorem es_fr6 (hr : ∀ k, k ≠ 6 → ρ₁ k = ρ₂ k) {F : es_F} (hn : F.length ≤ 6) (h : es_fr ρ₁ F) : es_fr ρ₂ F := fun k q hq => by
  have hk : k < F.length := (List.getElem?_eq_some_iff.mp hq).1
  rw [← hr k (by omega)]
  exact h k q hq
theorem es_X6 (hr : ∀ k, k ≠ 6 → ρ₁ k = ρ₂ k) (hn : SL ≤ 6) {U : State} {H : Heap} (h : va_X b SL ρ₁ U H) : va_X b SL ρ₂ U H := by
  obtain ⟨scr, h1, h2, h3, h4, h5⟩ := h
  exact ⟨scr, h1, h2, h3, h4, fun j hj => by rw [← hr j (by omega)]; exact h5 j hj⟩
theorem es_ev6 (hr : ∀ k, k ≠ 6 → ρ₁ k = ρ₂ k) (hn : SL ≤ 6) {U : State} (h : es_ev l strs wx SL D cI cJ cZ cC cM n0 b ρ₁ U) : es_ev l strs wx SL D cI cJ cZ cC cM n0 b ρ₂ U :=
  ⟨h.1, ⟨h.2.1.1, h.2.1.2.1, es_X6 hr hn h.2.1.2.2⟩, h.2.2⟩
theorem es_FC6 (hr : ∀ k, k ≠ 6 → ρ₁ k = ρ₂ k) (hn : SL ≤ 6) {T : es_M} (h : es_FC WS SL D cI cJ cZ cC cM n0 b ρ₁ p R s m args meth c T) : es_FC WS SL D cI cJ cZ cC cM n0 b ρ₂ p R s m args meth c T := by
  obtain ⟨h1, h2, h3, h4, h5, h6, h7, h8, ⟨g1, g2, g3⟩, h9⟩ := h
  exact ⟨h1, h2, h3, h4, h5, h6, h7, h8, ⟨g1, g2, es_X6 hr hn g3⟩, h9⟩
end No6
theorem es_fg1_ok {tys : List (ClassId × FieldType)} {AH AH' : List es_O} {a k : Nat} (h : es_fg1 AH a k = some AH') {H : Heap} (hH : es_hr D tys n0 b ρ AH H) : es_hr D tys n0 b ρ AH' H := by
  unfold es_fg1 at h
  split at h
  · rename_i ci c hA
    split at h
    · rename_i v hv
      cases ht : es_ti v
      · rw [ht] at h; cases h
      · rw [ht] at h
        cases h
        refine es_hr_set hH rfl (fun _ _ => rfl) ?_
        obtain ⟨r, V, h1, h2, h3⟩ := hH.2 _ _ hA
        refine ⟨r, V, h1, h2, fun j w hw => ?_⟩
        have hw' : es_get (es_set c k (6, 0)) j = some w := hw
        rw [es_get_set] at hw'
        by_cases hj : j = k
        · rw [if_pos hj] at hw'
          cases hw'
          subst hj
          exact ⟨(h3 j v hv).1, es_ti_int (h3 j v hv).2 ht⟩
        · rw [if_neg hj] at hw'
          exact h3 j w hw'
    · cases h
  · rename_i n c hA
    cases ht : es_ti (es_ad 0 c k)
    · rw [ht] at h; cases h
    · rw [ht] at h
      cases h
      refine es_hr_set hH rfl (fun _ _ => rfl) ?_
      obtain ⟨q, V, h1, h2, h3⟩ := hH.2 _ _ hA
      refine ⟨q, V, h1, h2, fun j hj => ?_⟩
      have h4 := h3 j hj
      dsimp only at h4 ⊢
      by_cases hjk : j = k
      · subst hjk
        have e : es_ad 0 (es_set c j (6, 0)) j = (6, 0) := by unfold es_ad; rw [es_get_set, if_pos rfl]
        rw [e]
        exact es_ti_int h4 ht
      · have e : es_ad 0 (es_set c k (6, 0)) j = es_ad 0 c j := by unfold es_ad; rw [es_get_set, if_neg hjk]
        rw [e]
        exact h4
  · cases h
theorem es_fg_ok {tys : List (ClassId × FieldType)} : ∀ {fl : List (Nat × Nat)} {AH AH' : List es_O}, es_fg AH fl = some AH' → ∀ {H : Heap}, es_hr D tys n0 b ρ AH H → es_hr D tys n0 b ρ AH' H
  | [], AH, AH', h, H, hH => by cases h; exact hH
  | q :: t, AH, AH', h, H, hH => by
    unfold es_fg at h
    cases h1 : es_fg1 AH q.1 q.2 with
    | none => rw [h1] at h; cases h
    | some A1 =>
      rw [h1] at h
      exact es_fg_ok (show es_fg A1 t = some AH' from h) (es_fg1_ok h1 hH)
theorem es_isl_ok {ins : Instr} {i : Nat} (h : es_isl ins i = true) (nL pc : Nat) (L : es_L) (S : List es_V) (F : es_F) : es_pure nL ins pc L S F = es_ld es_ti i (es_len ins) pc L S := by
  unfold es_isl at h
  split at h
  · have e := es_beq.mp h; subst e; rfl
  · have e := es_beq.mp h; subst e; rfl
  · cases h
theorem es_teq_ok {pc : Nat} {off : Int} {t : Nat} (h : es_teq pc off t = true) : (pc : Int) + off = (t : Int) := by
  unfold es_teq at h
  split at h
  · rename_i x hx
    rw [← es_beq.mp h]
    exact es_to_ok hx
  · cases h
theorem es_veq_ok {v w : es_V} (h : es_veq v w = true) : v = w := by
  unfold es_veq at h
  rw [Bool.and_eq_true, es_beq, es_beq] at h
  exact Prod.ext h.1 h.2
theorem es_nl_ok {L : es_L} {i : Nat} (h : es_nl L i = true) (v : es_V) : es_st L i v = es_set L i v := by
  unfold es_nl at h
  unfold es_st
  cases i with
  | zero => rfl
  | succ j =>
    dsimp only at h ⊢
    cases hg : es_get L j with
    | none => rfl
    | some w =>
      rw [hg] at h
      dsimp only at h ⊢
      cases hb : Nat.beq w.1 2
      · rfl
      · rw [hb] at h; cases h
/-- what the rows of the loop say of the code -/
theorem es_rows (G : es_GH strs wx WS ME) {M pc : Nat} {ent : es_I} (hat : es_at (es_tab (ME M)) pc = some ent) (hne : ∀ d1 d2 d3 d4, ent.2.1 ≠ .tableswitch d1 d2 d3 d4) : decode (es_code (ME M)) pc = .ok (ent.2.1, es_len ent.2.1) := by
  obtain ⟨e1, qq, hq1, hq2⟩ := es_at_ok hat
  obtain ⟨hdk, -⟩ := (G.2.2.2.1 M).2.2 qq hq1 ent hq2
  unfold es_dok at hdk
  rw [Bool.and_eq_true] at hdk
  have hd := of_decide_eq_true hdk.1
  rw [e1] at hd
  have h2 := hdk.2
  split at h2
  · rename_i hts2; exact absurd hts2 (hne _ _ _ _)
  · rw [hd, es_beq.mp h2]
theorem es_isl_ts {ins : Instr} {i : Nat} (h : es_isl ins i = true) : ∀ d1 d2 d3 d4, ins ≠ .tableswitch d1 d2 d3 d4 := fun d1 d2 d3 d4 e => by rw [e] at h; cases h
theorem es_lpr (G : es_GH strs wx WS ME) {M : Nat} {nl h h1 h2 i q ex : Nat} (k1 : es_lr1 (ME M) nl h1 h2 = true) (k2 : es_lr2 (ME M) h2 ex = true) (k3 : es_lr3 (ME M) i q = true) (k4 : es_lr4 (ME M) q h = true) :
    (∃ ins1, es_isl ins1 nl = true ∧ h1 + es_len ins1 = h2 ∧ decode (es_code (ME M)) h1 = .ok (ins1, es_len ins1)) ∧ (∃ off, decode (es_code (ME M)) h2 = .ok (.if_icmp .ge off, 3) ∧ (h2 : Int) + off = (ex : Int)) ∧ decode (es_code (ME M)) q = .ok (.iinc i 1, 3) ∧ ∃ off, decode (es_code (ME M)) (q + 3) = .ok (.goto off, 3) ∧ ((q + 3 : Nat) : Int) + off = (h : Int) := by
  refine ⟨?_, ?_, ?_, ?_⟩
  · unfold es_lr1 at k1
    split at k1
    · rename_i e1 hat
      rw [Bool.and_eq_true, es_beq] at k1
      exact ⟨_, k1.1, k1.2, es_rows G hat (es_isl_ts k1.1)⟩
    · cases k1
  · unfold es_lr2 at k2
    split at k2
    · rename_i e1 hat
      split at k2
      · rename_i off hins
        have h5 := es_rows G hat (fun d1 d2 d3 d4 e => by rw [e] at hins; cases hins)
        rw [hins] at h5
        exact ⟨off, h5, es_teq_ok k2⟩
      · cases k2
    · cases k2
  · unfold es_lr3 at k3
    split at k3
    · rename_i e1 hat
      split at k3
      · rename_i k n hins
        rw [Bool.and_eq_true, es_beq, decide_eq_true_eq] at k3
        obtain ⟨rfl, rfl⟩ := k3
        have h5 := es_rows G hat (fun d1 d2 d3 d4 e => by rw [e] at hins; cases hins)
        rw [hins] at h5
        exact h5
      · cases k3
    · cases k3
  · unfold es_lr4 at k4
    split at k4
    · rename_i e1 hat
      split at k4
      · rename_i off hins
        have h5 := es_rows G hat (fun d1 d2 d3 d4 e => by rw [e] at hins; cases hins)
        rw [hins] at h5
        exact ⟨off, h5, es_teq_ok k4⟩
      · cases k4
    · cases k4
theorem es_vn6 {vn : es_V} (h1 : Nat.ble vn.1 1 = true) (h2 : es_n6 vn = true) : ∃ nz : Int32, ∀ (x : Int32) (y : Value), es_vr n0 b (es_r6 ρ x) vn y → y = .int nz := by
  obtain ⟨t, k⟩ := vn
  match t, h1, h2 with
  | 0, _, _ => exact ⟨nI k, fun x y hy => hy⟩
  | 1, _, h2 =>
    have hk : k ≠ 6 := fun e => by subst e; exact absurd h2 (by decide)
    refine ⟨ρ k, fun x y hy => ?_⟩
    have hy' : y = .int (es_r6 ρ x k) := hy
    rw [hy', es_r6n hk]
  | t + 2, h1, _ => exact absurd h1 (by simp)
theorem es_succ6 {x nz : Int32} (h : x.toInt < nz.toInt) : (x + Int32.ofInt 1).toInt = x.toInt + 1 := by
  have h1 := es_rng x
  have h2 := es_rng nz
  rw [Int32.toInt_add]
  have e : (Int32.ofInt 1).toInt = 1 := by decide
  rw [e]
  simp only [Int.bmod]
  split <;> omega
theorem es_lp_ok (G : es_GH strs wx WS ME) {ih : Nat → es_K → Option (List es_E)} (hih : ∀ (ρ : Nat → Int32) (M : Nat) (K : es_K) (ends : List es_E), ih M K = some ends → es_RS l strs wx WS SL D cI cJ cZ cC cM n0 b ρ (ME M) K ends) {M pc : Nat} {ent : es_I} (hat : es_at (es_tab (ME M)) pc = some ent) {i nl h1 h2 q ex : Nat} {fl : List (Nat × Nat)} {L : es_L} {S : List es_V} {AH : List es_O} {F : es_F} {cs ss : Nat} {ends : List es_E}
    (h : es_lp (ME M) SL ih M ent.2.1 pc i nl h1 h2 q ex fl L S AH F cs ss = some ends) : es_RS l strs wx WS SL D cI cJ cZ cC cM n0 b ρ (ME M) (pc, L, S, AH, F, cs, ss) ends := by
  unfold es_lp at h
  cases S with
  | cons v S => cases h
  | nil =>
    dsimp only at h
    cases hvi : es_get L i with
    | none => rw [hvi] at h; cases h
    | some vi =>
      rw [hvi] at h
      dsimp only at h
      cases hvn : es_get L nl with
      | none => rw [hvn] at h; cases h
      | some vn =>
        rw [hvn] at h
        dsimp only at h
        cases hfg : es_fg AH fl with
        | none => rw [hfg] at h; cases h
        | some AHg =>
          rw [hfg] at h
          dsimp only at h
          cases hc : es_lpc (ME M) SL ent.2.1 pc i nl h1 h2 q ex (es_del L i) AHg F vi vn
          · rw [hc] at h; cases h
          · rw [hc] at h
            dsimp only [cond_true] at h
            cases hB : ih M (h2 + 3, es_set (es_del L i) i (1, 6), [], AHg, F, cs, ss) with
            | none => rw [hB] at h; cases h
            | some endsB =>
              rw [hB] at h
              dsimp only at h
              cases hall : endsB.all (es_lpe q i (es_del L i) AHg fl cs ss)
              · rw [hall] at h; cases h
              · rw [hall] at h
                dsimp only [cond_true] at h
                unfold es_lpc at hc
                simp only [Bool.and_eq_true, es_blt, Nat.ble_eq, es_beq] at hc
                obtain ⟨⟨⟨⟨c1, c2⟩, c3, c4⟩, ⟨c5, c6⟩, ⟨c7, c8⟩, c9, c10⟩, ⟨⟨c11, c12⟩, k1⟩, k2, k3, k4⟩ := hc
                obtain ⟨⟨ins1, r1, r2, r3⟩, ⟨off2, r4, r5⟩, r6, off5, r7, r8⟩ := es_lpr G k1 k2 k3 k4
                have hgn : es_get (es_del L i) nl = some vn := by
                  cases hg : es_get (es_del L i) nl with
                  | none => rw [hg] at c11; cases c11
                  | some w => rw [hg] at c11; rw [es_veq_ok c11]
                have hni : nl ≠ i := fun e => by
                  rw [es_beq.mpr e] at c12; cases c12
                obtain ⟨nz, hnz⟩ := es_vn6 (n0 := n0) (b := b) (ρ := ρ) (Nat.ble_eq.mpr c4) (es_n6g c5 hgn)
                intro p e R s m args below meth c Q fc hev htab hends
                have hr1 : ∀ x : Int32, ∀ k, k ≠ 6 → es_r6 ρ x k = ρ k := fun x k hk => es_r6n hk
                have hr2 : ∀ x : Int32, ∀ k, k ≠ 6 → ρ k = es_r6 ρ x k := fun x k hk => (es_r6n hk).symm
                have hr3 : ∀ x y : Int32, ∀ k, k ≠ 6 → es_r6 ρ x k = es_r6 ρ y k := fun x y k hk => (es_r6n hk).trans (es_r6n hk).symm
                have hx := fc.1
                have hb := fc.2.1
                have hL' : es_get (es_set (es_del L i) i (1, 6)) i = some (1, 6) := by rw [es_get_set, if_pos rfl]
                have hLn : es_get (es_set (es_del L i) i (1, 6)) nl = some vn := by rw [es_get_set, if_neg hni]; exact hgn
                have hLx : ∀ {x : Int32} {ls : Array Slot}, es_lr n0 b (es_r6 ρ x) (es_mL (ME M)) (es_set (es_del L i) i (1, 6)) ls → es_lr n0 b (es_r6 ρ x) (es_mL (ME M)) (es_del L i) ls := fun {x ls} hl =>
                  ⟨hl.1, hl.2.1, fun j v hv => hl.2.2 j v (by
                    rw [es_get_set]
                    by_cases hj : j = i
                    · rw [es_get_del, if_pos hj] at hv; cases hv
                    · rw [if_neg hj]; exact hv)⟩
                have hd1 := es_rows G hat (es_isl_ts c1)
                have key : ∀ (d : Nat) (x : Int32) (H : Heap) (ls : Array Slot) (locs : List Loc), (nz.toInt - x.toInt).toNat < d → es_inv D (es_TY cI cJ cZ cC cM) n0 b (es_r6 ρ x) (es_mL (ME M)) s (pc, es_set (es_del L i) i (1, 6), [], AHg, F, cs, ss) H ls locs [] → W p l e R s m args below meth c H locs cs ss Q (F0 m pc ls []) := by
                  intro d
                  induction d with
                  | zero => intro x H ls locs hd0; omega
                  | succ d IH =>
                    intro x H ls locs hdd hinv
                    obtain ⟨hl, hs, hH, hF, hS⟩ := hinv
                    dsimp only at hl hs hH hF hS
                    refine es_pure_ok hx hb hF hl hs hd1 (pc' := h1) (L' := es_set (es_del L i) i (1, 6)) (S' := [(1, 6)]) ?_ (fun ls1 st1 g1 g2 => ?_)
                    · rw [es_isl_ok c1]
                      unfold es_ld
                      rw [hL', ← c2]
                      rfl
                    · refine es_pure_ok hx hb hF g1 g2 r3 (pc' := h2) (L' := es_set (es_del L i) i (1, 6)) (S' := [vn, (1, 6)]) ?_ (fun ls2 st2 g3 g4 => ?_)
                      · rw [es_isl_ok r1]
                        unfold es_ld
                        rw [hLn, ← r2]
                        dsimp only
                        have hti : es_ti vn = true := by
                          obtain ⟨t, k⟩ := vn
                          match t, c4 with
                          | 0, _ => rfl
                          | 1, _ => rfl
                          | t + 2, c4 => exact absurd c4 (by omega)
                        rw [hti]
                        rfl
                      · obtain ⟨yn, st3, rfl, hyn, yx, st4, rfl, hyx, hst4⟩ := g4
                        have e4 : st4 = [] := hst4
                        subst e4
                        have e5 := hnz x yn hyn
                        subst e5
                        have e6 : yx = .int x := by
                          have h9 : yx = .int (es_r6 ρ x 6) := hyx
                          rw [h9, es_r66]
                        subst e6
                        refine es_icm hx hb .ge r4 r5 (fun hge => ?_) (fun hlt => ?_)
                        · exact hih ρ M _ _ h p e R s m args below meth c Q fc hev htab hends H ls2 locs [] ⟨es_lr6 (hr1 x) c5 (hLx g3), rfl, es_hr6 (hr1 x) c6 hH, es_fr6 (hr1 x) c7 hF, hS⟩
                        · have hlt2 : x.toInt < nz.toInt := by
                            have h9 : Nat.blt (es_zb x) (es_zb nz) = true := hlt
                            have h10 := es_zlt.mpr (es_blt.mp h9)
                            exact Int32.lt_iff_toInt_lt.mp h10
                          refine hih (es_r6 ρ x) M _ _ hB p e R s m args below meth c Q (es_FC6 (hr2 x) c8 fc) (es_ev6 (hr2 x) c8 hev) htab (fun E hE => ?_) H ls2 locs [] ⟨g3, rfl, hH, hF, hS⟩
                          have hE2 := List.all_eq_true.mp hall E hE
                          obtain ⟨ek, epc, eL, eS, eA, eF, ec, es⟩ := E
                          unfold es_lpe at hE2
                          simp only [Bool.and_eq_true, es_beq] at hE2
                          obtain ⟨⟨⟨rfl, rfl⟩, m3, m4, m5⟩, ⟨rfl, rfl⟩, m8⟩ := hE2
                          show es_G p l e R s m args below meth c Q D (es_TY cI cJ cZ cC cM) n0 b (es_r6 ρ x) (es_mL (ME M)) (epc, eL, eS, eA, eF, ec, es)
                          intro H3 ls3 locs3 st3 hinv3
                          obtain ⟨hl3, hs3, hH3, hF3, hS3⟩ := hinv3
                          dsimp only at hl3 hs3 hH3 hF3 hS3 ⊢
                          cases eS with
                          | cons _ _ => cases m3
                          | nil =>
                            have e7 : st3 = [] := hs3
                            subst e7
                            have hgi : es_get eL i = some (1, 6) := by
                              cases hg : es_get eL i with
                              | none => rw [hg] at m5; cases m5
                              | some w => rw [hg] at m5; rw [es_veq_ok m5]
                            have hA3 : es_hr D (es_TY cI cJ cZ cC cM) n0 b (es_r6 ρ x) AHg H3 := by
                              cases hf3 : es_fg eA fl with
                              | none => rw [hf3] at m8; cases m8
                              | some A => rw [hf3] at m8; rw [← of_decide_eq_true m8]; exact es_fg_ok hf3 hH3
                            have hl4 : es_lr n0 b (es_r6 ρ (x + Int32.ofInt 1)) (es_mL (ME M)) (es_del L i) ls3 := by
                              refine es_lr6 (hr3 x _) c5 ⟨hl3.1, hl3.2.1, fun j v hv => hl3.2.2 j v ?_⟩
                              have h11 := List.all_eq_true.mp m4 _ (es_get_mem hv)
                              dsimp only at h11
                              cases hg : es_get eL j with
                              | none => rw [hg] at h11; cases h11
                              | some w => rw [hg] at h11; rw [es_veq_ok h11]
                            obtain ⟨y, hy1, hy2⟩ := hl3.2.2 i _ hgi
                            have e8 : y = .int x := by
                              have h9 : y = .int (es_r6 ρ x 6) := hy2
                              rw [h9, es_r66]
                            subst e8
                            obtain ⟨kk, hkk⟩ := List.getElem?_of_mem (es_all_in hl3.1 hy1)
                            refine lv_iinc (k := kk) hx hb r6 (es_all_has hl3) hkk rfl c10 rfl (fun ls' h' => ?_)
                            have hl5 := es_lr_st (v := (1, 6)) hl4 (by show Value.int (x + Int32.ofInt 1) = Value.int (es_r6 ρ (x + Int32.ofInt 1) 6); rw [es_r66]) h'
                            rw [es_nl_ok c9] at hl5
                            refine lv_goto hx hb r7 r8 ?_
                            refine IH (x + Int32.ofInt 1) H3 ls' locs3 ?_ ⟨hl5, rfl, es_hr6 (hr3 x _) c6 hA3, es_fr6 (hr3 x _) c7 hF, hS3⟩
                            have e10 := es_succ6 hlt2
                            omega
                intro H ls locs st hinv
                obtain ⟨hl, hs, hH, hF, hS⟩ := hinv
                dsimp only at hl hs hH hF hS ⊢
                have e0 : st = [] := hs
                subst e0
                obtain ⟨y, hy1, hy2⟩ := hl.2.2 i vi hvi
                obtain ⟨x, rfl⟩ := es_ti_int hy2 c3
                refine key _ x H ls locs (Nat.lt_succ_self _) ⟨⟨hl.1, hl.2.1, fun j v hv => ?_⟩, rfl, es_hr6 (hr2 x) c6 (es_fg_ok hfg hH), es_fr6 (hr2 x) c7 hF, hS⟩
                rw [es_get_set] at hv
                by_cases hj : j = i
                · rw [if_pos hj] at hv
                  cases hv
                  subst hj
                  refine ⟨_, hy1, ?_⟩
                  show Value.int x = Value.int (es_r6 ρ x 6)
                  rw [es_r66]
                · rw [if_neg hj] at hv
                  have hv2 := hv
                  rw [es_get_del, if_neg hj] at hv2
                  obtain ⟨z, h3, h4⟩ := hl.2.2 j v hv2
                  exact ⟨z, h3, es_vr6 (hr2 x) (es_n6g c5 hv) h4⟩
end Snd
end
section
section Snd
variable {l : Launch} {strs : List (String × Nat × String)} {wx : List Cond} {WS : List Cond} {SL : Nat} {D : va_G} {cI cJ cZ cC cM : ClassId} {n0 b : Nat} {ρ : Nat → Int32} {ME : Nat → es_M}
variable {p : Program} {e : Env} {R : Room} {s : State} {m : MethodId} {args : Array Value} {below : List Frame} {meth : Method} {c : Code} {Q : State → Prop}
theorem es_take {S : List es_V} {n : Nat} {st : List Value} (hs : es_sr n0 b ρ S st) : ∃ xs ys, st = xs ++ ys ∧ es_sr n0 b ρ (S.take n) xs ∧ es_sr n0 b ρ (S.drop n) ys := by
  rw [← List.take_append_drop n S] at hs
  exact es_sr_app _ _ _ hs
/-- a call's contract -/
theorem es_inv1_ok (G : es_GH strs wx WS ME) {ih : Nat → es_K → Option (List es_E)} (hih : ∀ (M : Nat) (K : es_K) (ends : List es_E), ih M K = some ends → es_RS l strs wx WS SL D cI cJ cZ cC cM n0 b ρ (ME M) K ends) {M M' : Nat} {vs rest : List es_V} {AH : List es_O} {F : es_F} {cs ss : Nat} {lfs : List es_Lf} (h : es_inv1 ME ih M M' vs rest AH F cs ss = some lfs) {xs : List Value} (hvs : es_sr n0 b ρ vs xs) (hF : es_fr ρ F) (hR : es_mc (ME M) ≤ R.cells ∧ es_ms (ME M) ≤ R.slots ∧ es_rf (ME M) ≤ R.frames ∧ es_lo (ME M) ≤ R.locals) :
    vx_Met l (es_y (ME M')) (es_cw (ME M') :: WS) (es_room (ME M')) (es_Pc l strs wx SL D cI cJ cZ cC cM n0 b ρ xs AH) (es_Qc D (es_TY cI cJ cZ cC cM) n0 b ρ lfs) (es_XC D (es_TY cI cJ cZ cC cM) n0 b ρ lfs) (es_mc (ME M')) (es_ms (ME M')) (es_A n0) ∧ es_cts rest ≤ 8 ∧ ((es_room (ME M')).frames + 1 ≤ R.frames ∧ 8 + (es_mL (ME M') + 11) + (es_room (ME M')).locals ≤ R.locals) ∧ (cs + es_mc (ME M') ≤ R.cells ∧ ss + es_ms (ME M') ≤ R.slots) ∧ es_cw (ME M') ∈ WS := by
  unfold es_inv1 at h
  cases hc : ((Nat.ble (es_cts vs) (es_mL (ME M')) && Nat.ble (es_cts rest) 8) && ((Nat.blt (es_rf (ME M')) (es_rf (ME M)) && Nat.ble (19 + es_mL (ME M') + es_lo (ME M')) (es_lo (ME M))) && (Nat.ble (cs + es_mc (ME M')) (es_mc (ME M)) && Nat.ble (ss + es_ms (ME M')) (es_ms (ME M)))))
  · rw [hc] at h; cases h
  · rw [hc] at h
    try dsimp only [cond_true] at h
    simp only [Bool.and_eq_true, es_blt, Nat.ble_eq] at hc
    obtain ⟨⟨c1, c2⟩, ⟨c3, c4⟩, c5, c6⟩ := hc
    split at h
    · rename_i ends hrun
      split at h
      rotate_left
      · cases h
      rename_i lfs0 hcat
      cases h
      refine ⟨es_mono (es_met G.1 (G.2.2.2.1 M') (hih M' _ _ hrun) hcat hvs c1 hF) (es_mrg_ok lfs0), c2, ⟨?_, ?_⟩, ⟨by omega, by omega⟩, (G.2.2.2.2.1 M').2 (by have h8 := (G.2.2.2.2.1 M).1; omega)⟩
      · show es_rf (ME M') + 1 ≤ _; omega
      · show 8 + (es_mL (ME M') + 11) + es_lo (ME M') ≤ _; omega
    · cases h
theorem es_cpy_ad (t : Nat) (cs cd : List (Nat × es_V)) (sp dp k : Nat) : ∀ n, es_ad t (es_copy t cs cd sp dp n) k = if dp ≤ k ∧ k < dp + n then es_ad t cs (sp + (k - dp)) else es_ad t cd k
  | 0 => by
    rw [if_neg (by omega)]
    rfl
  | n + 1 => by
    show es_ad t (es_aset t (es_copy t cs cd sp dp n) (dp + n) (es_ad t cs (sp + n))) k = _
    rw [es_ad_set, es_cpy_ad t cs cd sp dp k n]
    by_cases h : k = dp + n
    · subst h
      rw [if_pos rfl, if_pos (by omega)]
      congr 1
      omega
    · rw [if_neg h]
      by_cases h2 : dp ≤ k ∧ k < dp + n
      · rw [if_pos h2, if_pos (by omega)]
      · rw [if_neg h2, if_neg (by omega)]
theorem es_ad_ti {c : List (Nat × es_V)} (h : c.all (fun x => es_ti x.2) = true) (j : Nat) : es_ti (es_ad 0 c j) = true := by
  induction c with
  | nil => rfl
  | cons q t ih =>
    rw [List.all_cons, Bool.and_eq_true] at h
    unfold es_ad es_get
    cases hb : Nat.beq q.1 j
    · exact ih h.2
    · exact h.1
theorem es_acp {cc : ByteArray} (hexec : p.tables.exec = Jvm.exec) (hb : c.code = cc) {ls : Array Slot} (hml : c.maxLocals = ls.size) {own : String} {index : Nat} (hown : s.vm.findClass own = some m.cls) (hlink : (Cond.methodLink own index arraycopyName).before args s = true) (hnat : (Cond.native arraycopyName).before args s = true) (hstat : (Cond.static arraycopyName).before args s = true) (hini : (Cond.initialized "java/lang/System").before args s = true)
    (hK : va_K D vwCl (es_TY cI cJ cZ cC cM) s) {H : Heap} {locs : List Loc} {cells slots pc : Nat} {rest : List Value} {a0 a : Nat} {N0 N1 : Nat} {V0 V1 : Nat → Value} (hc0 : H[a0]? = some (arrV cI N0 V0)) (hc1 : H[a]? = some (arrV cI N1 V1)) {sp dp n : Nat} (hN0 : N0 < 2147483648) (hN1 : N1 < 2147483648) (h4 : sp + n ≤ N0) (h5 : dp + n ≤ N1) (hi : ∀ j, ∃ z, j < N0 → V0 j = .int z)
    (hframes : 1 ≤ R.frames) (hlocals : (rest.map fun v => v.category).sum + (nativeFrameWords "java/lang/System" "arraycopy" 5 + 11) ≤ R.locals) (hdg : decode cc pc = .ok (.invokestatic index, 3))
    (kk : ∀ (H1 : Heap) (L : List Loc), H1[a]? = some (arrV cI N1 (va_cpy V0 V1 sp dp n)) → H1.size = H.size → (∀ q : Nat, q ≠ a → H1[q]? = H[q]?) → (∀ z ∈ L, z.base = a) → W p l e R s m args below meth c H1 (locs ++ L) cells slots Q (F0 m (pc + 3) ls rest)) : W p l e R s m args below meth c H locs cells slots Q (F0 m pc ls (.int (nI n) :: .int (nI dp) :: .ref a :: .int (nI sp) :: .ref a0 :: rest)) := by
  have nn : ∀ z : Nat, z < 2147483648 → (nI z).toInt = (z : Int) := fun z hz => by
    rw [es_nIt]
    simp only [Int.bmod]
    split <;> omega
  have ng : ∀ z : Nat, z < 2147483648 → ¬ nI z < 0 := fun z hz h => by
    have h2 := Int32.lt_iff_toInt_lt.mp h
    rw [nn z hz] at h2
    have h3 : (z : Int) < 0 := h2
    omega
  intro T hT X
  obtain ⟨-, k0, hk0, cm0, hkk0⟩ := (hK.2 0 _ rfl).1 N0 V0
  obtain ⟨-, k1, hk1, cm1, hkk1⟩ := (hK.2 0 _ rfl).1 N1 V1
  obtain ⟨vm', X', step⟩ := X.arraycopy hexec hown hlink hnat hstat hini (src := a0) (dst := a) (cs := arrV cI N0 V0) (cd := arrV cI N1 V1) (srcPos := nI sp) (destPos := nI dp) (n := nI n) (by rw [hT]; exact hc0) (by rw [hT]; exact hc1)
    (fun _ h => by cases h) (fun _ h => by cases h) (fun h => by cases h) (fun h => by cases h) hk0 hk1 hkk0 hkk1 (by simp [refKind]) (ng _ (by omega)) (ng _ (by omega)) (ng _ (by omega))
    (by rw [nn sp (by omega), nn n (by omega)]; show ¬ _ > ((arrV cI N0 V0).slots.size : Int); rw [arrV_size]; omega)
    (by rw [nn dp (by omega), nn n (by omega)]; show ¬ _ > ((arrV cI N1 V1).slots.size : Int); rw [arrV_size]; omega)
    (fun vm₁ _ i hi2 => by
      rw [nI_clamp (by omega)] at hi2
      rw [nI_clamp (by omega)]
      have e : (arrV cI N0 V0).slots.getD (sp + i) .null = V0 (sp + i) := by
        rw [Array.getD_eq_getD_getElem?, arrV_read _ _ (by omega)]
        rfl
      obtain ⟨z, hz⟩ := hi (sp + i)
      rw [e, hz (by omega)]
      exact ⟨rfl, trivial⟩)
    (g := F0 m pc ls (.int (nI n) :: .int (nI dp) :: .ref a :: .int (nI sp) :: .ref a0 :: rest)) rfl (by rw [hml]) (rest := rest) rfl (by rw [hb]; exact hdg) hframes (by show 2 * 0 + _ + _ ≤ _; omega)
  have e1 : copied (arrV cI N0 V0) (arrV cI N1 V1) (nI sp) (nI dp) (nI n) = arrV cI N1 (va_cpy V0 V1 sp dp n) := by
    unfold copied
    rw [nI_clamp (by omega), nI_clamp (by omega), nI_clamp (by omega)]
    exact va_copied (fun z => z) cI cI V0 V1 h4
  rw [e1] at X' step
  have hl : a < H.size := (Array.getElem?_eq_some_iff.mp hc1).1
  have hheap : ((T.setVm vm').setCell a (arrV cI N1 (va_cpy V0 V1 sp dp n))).heap = H.setIfInBounds a (arrV cI N1 (va_cpy V0 V1 sp dp n)) := by rw [← hT]; rfl
  obtain ⟨t, a1, b1⟩ := kk _ _ (show (H.setIfInBounds a (arrV cI N1 (va_cpy V0 V1 sp dp n)))[a]? = some _ by simp [Array.getElem?_setIfInBounds, hl]) (by simp) (fun q hq => by simp [Array.getElem?_setIfInBounds, Ne.symm hq]) (fun z hz => by
    obtain ⟨y, -, hy⟩ := List.mem_map.mp hz
    rw [← hy]) _ hheap X'
  exact ⟨t, step t a1, b1⟩
theorem es_emp {hh : List (Nat × Nat × Nat × Nat)} (h : hh.isEmpty = true) : hh = [] := by cases hh <;> simp_all
set_option maxHeartbeats 8000000 in
theorem es_step_ok (G : es_GH strs wx WS ME) {ih : Nat → es_K → Option (List es_E)} (hihA : ∀ (ρ : Nat → Int32) (M : Nat) (K : es_K) (ends : List es_E), ih M K = some ends → es_RS l strs wx WS SL D cI cJ cZ cC cM n0 b ρ (ME M) K ends) (M : Nat) (K : es_K) (ends : List es_E) (h : es_step ME SL ih M K = some ends) : es_RS l strs wx WS SL D cI cJ cZ cC cM n0 b ρ (ME M) K ends := by
  have hih := hihA ρ
  intro p e R s m args below meth c Q fc hev htab hends
  have hK0 : ∀ E : es_E, E = (0, K) → E ∈ ends → es_G p l e R s m args below meth c Q D (es_TY cI cJ cZ cC cM) n0 b ρ (es_mL (ME M)) K := fun E h1 h2 => by
    have h3 := hends E h2
    rw [h1] at h3
    exact h3
  have hgo : ∀ (K' : es_K) (ends' : List es_E), ih M K' = some ends' → (∀ E ∈ ends', E ∈ ends) → es_G p l e R s m args below meth c Q D (es_TY cI cJ cZ cC cM) n0 b ρ (es_mL (ME M)) K' := fun K' ends' h1 h2 => hih M K' ends' h1 p e R s m args below meth c Q fc hev htab (fun E hE => hends E (h2 E hE))
  obtain ⟨pc, L, S, AH, F, cs, ss⟩ := K
  obtain ⟨hx, hb, hml, hown, hts, hK, hR, hinit, hscr, hao, hlocks, hr⟩ := id fc
  unfold es_step at h
  try dsimp only at h
  split at h
  · cases h
  · rename_i ent hat
    obtain ⟨e1, qq, hq1, hq2⟩ := es_at_ok hat
    obtain ⟨hdk, htok⟩ := (G.2.2.2.1 M).2.2 qq hq1 ent hq2
    obtain ⟨hhok, hcok⟩ := G.2.2.2.2.2.1 M qq hq1 ent hq2
    unfold es_dok at hdk
    rw [Bool.and_eq_true] at hdk
    have hd := of_decide_eq_true hdk.1
    rw [e1] at hd
    have hlen : (∀ d1 d2 d3 d4, ent.2.1 ≠ .tableswitch d1 d2 d3 d4) → decode (es_code (ME M)) pc = .ok (ent.2.1, es_len ent.2.1) := fun hne => by
      have h2 := hdk.2
      split at h2
      · rename_i hts2; exact absurd hts2 (hne _ _ _ _)
      · rw [hd, es_beq.mp h2]
    split at h
    · cases h; exact hK0 _ rfl (List.mem_singleton.mpr rfl)
    · cases h; exact hK0 _ rfl (List.mem_singleton.mpr rfl)
    · exact es_lp_ok G hihA hat h p e R s m args below meth c Q fc hev htab hends
    · split at h
      -- without heap
      · rename_i pc' L' S' hpu
        intro H ls locs st hinv
        obtain ⟨hl, hs, hH, hF, hS⟩ := hinv
        refine es_pure_ok hx hb hF hl hs (hlen (fun d1 d2 d3 d4 h9 => by rw [h9] at hpu; cases hpu)) hpu (fun ls' st' g1 g2 => ?_)
        exact hgo _ _ h (fun _ h => h) H ls' locs st' ⟨g1, g2, hH, hF, hS⟩
      · split at h
        -- with heap
        · rename_i K' hhs
          refine es_hs_ok G.2.1 fc (hlen (fun d1 d2 d3 d4 h9 => ?_)) hhok hhs (hgo _ _ h (fun _ h => h))
          unfold es_hs at hhs
          dsimp only at hhs
          rw [h9] at hhs
          cases hhs
        · split at h
          · cases h; exact hK0 _ rfl (List.mem_singleton.mpr rfl)
          · cases h; exact hK0 _ rfl (List.mem_singleton.mpr rfl)
          · cases h; exact hK0 _ rfl (List.mem_singleton.mpr rfl)
          · cases h; exact hK0 _ rfl (List.mem_singleton.mpr rfl)
          -- ifCond
          · rename_i op off hins
            cases hto : es_to pc off with
            | none => rw [hto] at h; cases S <;> cases h
            | some t =>
             rw [hto] at h
             cases S with
             | nil => cases h
             | cons v S' =>
              try dsimp only at h
              cases hti : es_ti v
              · rw [hti] at h; cases h
              · rw [hti] at h
                try dsimp only [cond_true] at h
                split at h
                · rename_i x hx1
                  split at h
                  · rename_i y hy1
                    cases h
                    intro H ls locs st hinv
                    obtain ⟨hl, hs, hH, hF, hS⟩ := hinv
                    obtain ⟨xv, st', rfl, hv, hs'⟩ := hs
                    obtain ⟨z, rfl⟩ := es_ti_int hv hti
                    have h0 : es_vr n0 b ρ (0, 0) (.int 0) := by show Value.int 0 = Value.int (nI 0); rw [nI_0]
                    have hd2 := hlen (fun d1 d2 d3 d4 h9 => by rw [h9] at hins; cases hins)
                    rw [hins] at hd2
                    refine es_ifc hx hb op hd2 (es_to_ok hto) (fun hc => ?_) (fun hc => ?_)
                    · obtain ⟨f, hf1, hf2⟩ := es_br_ok hF op hv h0 hc
                      obtain ⟨w, g1, g2⟩ := es_cat_ok hx1 f hf1
                      exact hgo _ _ g1 (fun E hE => List.mem_append_left _ (g2 E hE)) H ls locs st' ⟨hl, hs', hH, hf2, hS⟩
                    · obtain ⟨f, hf1, hf2⟩ := es_br_ok hF (es_ng op) hv h0 hc
                      obtain ⟨w, g1, g2⟩ := es_cat_ok hy1 f hf1
                      exact hgo _ _ g1 (fun E hE => List.mem_append_right _ (g2 E hE)) H ls locs st' ⟨hl, hs', hH, hf2, hS⟩
                  · cases h
                · cases h
          -- if_icmp
          · rename_i op off hins
            cases hto : es_to pc off with
            | none => rw [hto] at h; rcases S with _ | ⟨w, _ | ⟨v, S'⟩⟩ <;> cases h
            | some t =>
             rw [hto] at h
             rcases S with _ | ⟨w, _ | ⟨v, S'⟩⟩
             · cases h
             · cases h
             ·
              try dsimp only at h
              cases hti : (es_ti v && es_ti w)
              · rw [hti] at h; cases h
              · rw [hti] at h
                try dsimp only [cond_true] at h
                rw [Bool.and_eq_true] at hti
                split at h
                · rename_i x hx1
                  split at h
                  · rename_i y hy1
                    cases h
                    intro H ls locs st hinv
                    obtain ⟨hl, hs, hH, hF, hS⟩ := hinv
                    obtain ⟨yv, st1, rfl, hvw, xv, st', rfl, hv, hs'⟩ := hs
                    obtain ⟨z, rfl⟩ := es_ti_int hv hti.1
                    obtain ⟨z2, rfl⟩ := es_ti_int hvw hti.2
                    have hd2 := hlen (fun d1 d2 d3 d4 h9 => by rw [h9] at hins; cases hins)
                    rw [hins] at hd2
                    refine es_icm hx hb op hd2 (es_to_ok hto) (fun hc => ?_) (fun hc => ?_)
                    · obtain ⟨f, hf1, hf2⟩ := es_br_ok hF op hv hvw hc
                      obtain ⟨w, g1, g2⟩ := es_cat_ok hx1 f hf1
                      exact hgo _ _ g1 (fun E hE => List.mem_append_left _ (g2 E hE)) H ls locs st' ⟨hl, hs', hH, hf2, hS⟩
                    · obtain ⟨f, hf1, hf2⟩ := es_br_ok hF (es_ng op) hv hvw hc
                      obtain ⟨w, g1, g2⟩ := es_cat_ok hy1 f hf1
                      exact hgo _ _ g1 (fun E hE => List.mem_append_right _ (g2 E hE)) H ls locs st' ⟨hl, hs', hH, hf2, hS⟩
                  · cases h
                · cases h
          -- tableswitch
          · rename_i dflt lo hi offs hins
            rcases S with _ | ⟨v, S'⟩
            · cases h
            · dsimp only at h
              rw [hins] at hd
              cases hk : es_kn F v with
              | some n =>
                rw [hk] at h
                try dsimp only at h
                split at h
                · rename_i t hto
                  cases hc : ((decide ((nI n).toInt < lo) || decide (hi < (nI n).toInt)) || decide (((nI n).toInt - lo).toNat < offs.size))
                  · rw [hc] at h; cases h
                  · rw [hc] at h
                    try dsimp only [cond_true] at h
                    intro H ls locs st hinv
                    obtain ⟨hl, hs, hH, hF, hS⟩ := hinv
                    obtain ⟨xv, st', rfl, hv, hs'⟩ := hs
                    have e5 := es_kn_ok hF hv hk
                    subst e5
                    by_cases hout : (nI n).toInt < lo ∨ hi < (nI n).toInt
                    · have hb1 : (decide ((nI n).toInt < lo) || decide (hi < (nI n).toInt)) = true := by
                        rw [Bool.or_eq_true, decide_eq_true_eq, decide_eq_true_eq]; exact hout
                      rw [hb1] at hto
                      exact lv_tableOut hx hb hd hout (es_to_ok hto) (hgo _ _ h (fun _ h => h) H ls locs st' ⟨hl, hs', hH, hF, hS⟩)
                    · have hb1 : (decide ((nI n).toInt < lo) || decide (hi < (nI n).toInt)) = false := by
                        rw [Bool.or_eq_false_iff, decide_eq_false_iff_not, decide_eq_false_iff_not]
                        exact ⟨fun h9 => hout (Or.inl h9), fun h9 => hout (Or.inr h9)⟩
                      rw [hb1] at hto hc
                      rw [Bool.false_or, decide_eq_true_eq] at hc
                      dsimp only [cond_false] at hto
                      rw [Array.getElem?_eq_getElem hc] at hto
                      dsimp only [Option.getD_some] at hto
                      exact lv_tableIn hx hb hd (fun h9 => hout (Or.inl h9)) (fun h9 => hout (Or.inr h9)) (Array.getElem?_eq_getElem hc) (es_to_ok hto) (hgo _ _ h (fun _ h => h) H ls locs st' ⟨hl, hs', hH, hF, hS⟩)
                · cases h
              | none =>
                rw [hk] at h
                try dsimp only at h
                obtain ⟨vt, vp⟩ := v
                try dsimp only at h
                by_cases hv1 : vt = 1
                · subst hv1
                  cases hq : F[vp]? with
                  | none => rw [hq] at h; cases h
                  | some q =>
                    rw [hq] at h
                    replace h : es_tn ih M pc L S' AH F cs ss dflt lo hi q = some ends := h
                    unfold es_tn at h
                    split at h
                    · rename_i t hto
                      cases hc : (decide ((q.2 : Int) - 2147483648 < lo) || decide (hi < (q.1 : Int) - 2147483648))
                      · rw [hc] at h; cases h
                      · rw [hc] at h
                        try dsimp only [cond_true] at h
                        rw [Bool.or_eq_true, decide_eq_true_eq, decide_eq_true_eq] at hc
                        intro H ls locs st hinv
                        obtain ⟨hl, hs, hH, hF, hS⟩ := hinv
                        obtain ⟨xv, st', rfl, hv, hs'⟩ := hs
                        have e5 : xv = .int (ρ vp) := hv
                        subst e5
                        have hqq := hF vp q hq
                        have hrg := es_rng (ρ vp)
                        unfold es_zb at hqq
                        have hout : (ρ vp).toInt < lo ∨ hi < (ρ vp).toInt := by
                          rcases hc with h9 | h9
                          · left; omega
                          · right; omega
                        exact lv_tableOut hx hb hd hout (es_to_ok hto) (hgo _ _ h (fun _ h => h) H ls locs st' ⟨hl, hs', hH, hF, hS⟩)
                    · cases h
                · split at h
                  · exact absurd rfl hv1
                  · cases h
          -- invokevirtual
          · rename_i idx hins
            have hd2 := hlen (fun d1 d2 d3 d4 h9 => by rw [h9] at hins; cases hins)
            rw [hins] at hd2
            unfold es_cok at hcok
            rw [hins] at hcok
            dsimp only at hcok
            split at hcok
            · rename_i M' n ci j1 j2 j3 j4 haux
              rw [haux] at h
              replace h : es_sv ME ih M M' n ci pc L S AH F cs ss = some ends := h
              unfold es_sv at h
              cases hdr : S.drop n with
              | nil => rw [hdr] at h; cases h
              | cons o S' =>
                rw [hdr] at h
                try dsimp only at h
                cases ho : es_obj AH ci o with
                | none => rw [ho] at h; cases h
                | some co =>
                  rw [ho] at h
                  try dsimp only at h
                  cases hi1 : es_inv1 ME ih M M' (o :: (S.take n).reverse) S' AH F cs ss with
                  | none => rw [hi1] at h; cases h
                  | some lfs =>
                    rw [hi1] at h
                    try dsimp only at h
                    intro H ls locs st hinv
                    obtain ⟨hl, hs, hH, hF, hS⟩ := hinv
                    dsimp only at hl hs hH hF ⊢
                    obtain ⟨xs, ys, rfl, hxs, hys⟩ := es_take (n := n) hs
                    rw [hdr] at hys
                    obtain ⟨ro, rest, rfl, hvo, hs'⟩ := hys
                    obtain ⟨rfl, hA⟩ := es_obj_ok ho hvo
                    have hn : xs.length = n := by
                      rw [es_sr_len _ _ hxs, List.length_take]
                      have h7 : (S.drop n).length = S.length - n := List.length_drop
                      rw [hdr, List.length_cons] at h7
                      omega
                    obtain ⟨hmet, h8, hRR, hcap, hcwm⟩ := es_inv1_ok (R := R) G hih hi1 (xs := .ref (n0 + o.2) :: xs.reverse) ⟨_, _, rfl, hvo, es_sr_rev _ _ hxs⟩ hF hR
                    split at hcok
                    · rename_i r hr0
                      simp only [Bool.and_eq_true] at hcok
                      obtain ⟨k1, ⟨k2, k3⟩, ⟨k4, k5⟩, k6, k7⟩ := hcok
                      have k1 := of_decide_eq_true k1
                      have k7 := es_emp k7
                      have hcw : es_cw (ME M') = .code (es_y (ME M')) (es_code (ME M')) (es_mL (ME M')) (es_rt (ME M')) := by unfold es_cw; rw [k7]
                      obtain ⟨r', V', q1, ⟨cellV, g1, g2, g3, -⟩, -⟩ := hH.2 _ _ hA
                      dsimp only at q1 g2
                      rw [hr0] at q1
                      cases q1
                      have hfc := (hK.1 ci r hr0).2.1
                      rw [k1] at hfc
                      refine es_aft_ok G hih fc hev htab hends h hl hs' hS ?_
                      exact vx_runV (As := xs.reverse) (C := (es_y (ME M')).cls) ⟨hx, hb, hml, hown, hts⟩ hmet ⟨callB_of n hts (es_good G hcwm) (by rw [hcw]) rfl rfl (hts _ (es_wj_in k5)) (hts _ (es_wj_in k2)) (es_ymok_ok k6) hRR, hts _ (es_wj_in k3), hts _ (es_wj_in k4)⟩ ⟨es_blind G.2.2.1, ⟨cellV, g1, by rw [g3]; rfl, by rw [g2]; exact hfc⟩, es_pcU G.2.2.1 hev hS hH⟩ rfl (by rw [List.length_reverse]; exact hn) hl.1 (by rw [List.reverse_reverse]) (lv_room (by rw [(es_cts_ok _ _ hs').2]; exact h8)) hd2 hcap
                    · simp only [Bool.false_and] at hcok; cases hcok
            · cases hcok
          -- invokestatic
          · rename_i idx hins
            have hd2 := hlen (fun d1 d2 d3 d4 h9 => by rw [h9] at hins; cases hins)
            rw [hins] at hd2
            unfold es_cok at hcok
            rw [hins] at hcok
            dsimp only at hcok
            split at hcok
            · rename_i M' n j1 j2 j3 haux
              rw [haux] at h
              replace h : es_ss ME ih M M' n pc L S AH F cs ss = some ends := h
              unfold es_ss at h
              cases hnl : Nat.ble n S.length
              · rw [hnl] at h; cases h
              · rw [hnl] at h
                try dsimp only [cond_true] at h
                cases hi1 : es_inv1 ME ih M M' (S.take n).reverse (S.drop n) AH F cs ss with
                | none => rw [hi1] at h; cases h
                | some lfs =>
                  rw [hi1] at h
                  try dsimp only at h
                  intro H ls locs st hinv
                  obtain ⟨hl, hs, hH, hF, hS⟩ := hinv
                  dsimp only at hl hs hH hF ⊢
                  obtain ⟨xs, rest, rfl, hxs, hs'⟩ := es_take (n := n) hs
                  have hn : xs.length = n := by
                    rw [es_sr_len _ _ hxs, List.length_take]
                    have := Nat.ble_eq.mp hnl
                    omega
                  obtain ⟨hmet, h8, hRR, hcap, hcwm⟩ := es_inv1_ok (R := R) G hih hi1 (xs := xs.reverse) (es_sr_rev _ _ hxs) hF hR
                  simp only [Bool.and_eq_true] at hcok
                  obtain ⟨⟨k2, k3⟩, k5, k6⟩ := hcok
                  refine es_aft_ok G hih fc hev htab hends h hl hs' hS ?_
                  cases hh : es_hh (ME M') with
                  | nil =>
                    have hcw : es_cw (ME M') = .code (es_y (ME M')) (es_code (ME M')) (es_mL (ME M')) (es_rt (ME M')) := by unfold es_cw; rw [hh]
                    exact vx_runS (As := xs.reverse) ⟨hx, hb, hml, hown, hts⟩ hmet ⟨callB_of n hts (es_good G hcwm) (by rw [hcw]) rfl rfl (hts _ (es_wj_in k5)) (hts _ (es_wj_in k2)) (es_ymok_ok k6) hRR, hts _ (es_wj_in k3)⟩ ⟨es_blind G.2.2.1, es_pcU G.2.2.1 hev hS hH⟩ rfl (by rw [List.length_reverse]; exact hn) hl.1 (by rw [List.reverse_reverse]) (lv_room (by rw [(es_cts_ok _ _ hs').2]; exact h8)) hd2 hcap
                  | cons hq0 ht0 =>
                    have hcw : es_cw (ME M') = .codeWith (es_y (ME M')) (es_code (ME M')) (es_mL (ME M')) (es_rt (ME M')) (es_hh (ME M')) := by unfold es_cw; rw [hh]
                    have hgd : GoodIn WS (va_wsS (es_own (ME M)) idx (es_y (ME M')) (es_cw (ME M') :: WS)) := fun w hw => by
                      unfold va_wsS at hw
                      rcases List.mem_append.mp hw with h9 | h9
                      · simp only [List.mem_cons, List.not_mem_nil, or_false] at h9
                        rcases h9 with rfl | rfl | rfl
                        · exact ⟨es_wj_in k2, good_of_word (G.1 _ (es_wj_in k2))⟩
                        · exact ⟨es_wj_in k3, good_of_word (G.1 _ (es_wj_in k3))⟩
                        · exact ⟨es_wj_in k5, good_of_word (G.1 _ (es_wj_in k5))⟩
                      · exact es_good G hcwm w h9
                    exact vx_runSX (As := xs.reverse) (hh := es_hh (ME M')) ⟨hx, hb, hml, hown, hts⟩ hmet (vx_cwSW n hts hgd (by rw [hcw]) rfl rfl (es_ymok_ok k6) hRR) ⟨es_blind G.2.2.1, es_pcU G.2.2.1 hev hS hH⟩ rfl (by rw [List.length_reverse]; exact hn) hl.1 (by rw [List.reverse_reverse]) (lv_room (by rw [(es_cts_ok _ _ hs').2]; exact h8)) hd2 hcap
            -- arraycopy
            · rename_i j1 j2 j3 j4 haux
              rw [haux] at h
              replace h : es_sc ME ih M pc L S AH F cs ss = some ends := h
              unfold es_sc at h
              rcases S with _ | ⟨vn, _ | ⟨vd, _ | ⟨d, _ | ⟨vs, _ | ⟨s0, S'⟩⟩⟩⟩⟩
              · cases h
              · cases h
              · cases h
              · cases h
              · cases h
              · dsimp only at h
                split at h
                · rename_i ts ns c1 td nd c2 ha0 ha1
                  split at h
                  · rename_i sp dp n hk0 hk1 hk2
                    cases hc : (((Nat.beq ts 0 && Nat.beq td 0) && ((Nat.ble (sp + n) ns && Nat.ble (dp + n) nd) && (Nat.blt 0 (es_rf (ME M)) && Nat.ble 200 (es_lo (ME M))))) && ((!(Nat.beq s0.2 d.2) && c1.all (fun x => es_ti x.2)) && Nat.ble (es_cts S') 8))
                    · rw [hc] at h; cases h
                    · rw [hc] at h
                      try dsimp only [cond_true] at h
                      simp only [Bool.and_eq_true, es_blt, Nat.ble_eq, es_beq] at hc hcok
                      obtain ⟨⟨⟨rfl, rfl⟩, ⟨c3, c4⟩, c5, c6⟩, ⟨c7, c8⟩, c9⟩ := hc
                      intro H ls locs st hinv
                      obtain ⟨hl, hs, hH, hF, hS⟩ := hinv
                      dsimp only at hl hs hH hF ⊢
                      obtain ⟨xn, st1, rfl, hvn, xd, st2, rfl, hvd, xa, st3, rfl, hva, xs, st4, rfl, hvs, x0, st', rfl, hv0, hs'⟩ := hs
                      have e1 := es_kn_ok hF hvn hk2
                      have e2 := es_kn_ok hF hvd hk1
                      have e3 := es_kn_ok hF hvs hk0
                      subst e1 e2 e3
                      obtain ⟨rfl, hA0, hn0⟩ := es_ary_ok ha0 hv0
                      obtain ⟨rfl, hA1, hn1⟩ := es_ary_ok ha1 hva
                      obtain ⟨q0, V0, t1, t2, t3⟩ := hH.2 _ _ hA0
                      obtain ⟨q1, V1, u1, u2, u3⟩ := hH.2 _ _ hA1
                      cases t1
                      cases u1
                      dsimp only at t2 u2 t3 u3
                      have hsum := (es_cts_ok _ _ hs').2
                      have e9 : nativeFrameWords "java/lang/System" "arraycopy" 5 ≤ 100 := by decide +kernel
                      refine es_acp hx hb (by rw [hl.1, hml]) hown (hts _ (es_wj_in hcok.1.1)) (hts _ (es_wj_in hcok.1.2)) (hts _ (es_wj_in hcok.2.1)) (hts _ (es_wj_in hcok.2.2)) hK t2 u2 hn0 hn1 c3 c4 (fun j => ?_) (by omega) (by omega) hd2 (fun H1 L1 g1 g2 g3 g4 => ?_)
                      · by_cases hj : j < ns
                        · obtain ⟨z, hz⟩ := es_ti_int (t3 j hj) (es_ad_ti c8 j)
                          exact ⟨z, fun _ => hz⟩
                        · exact ⟨0, fun h9 => absurd h9 hj⟩
                      · refine hgo _ _ h (fun _ h => h) H1 ls _ st' ⟨hl, hs', es_hr_set hH g2 g3 ⟨_, _, rfl, g1, fun j hj => ?_⟩, hF, ?_⟩
                        · rw [es_cpy_ad]
                          unfold va_cpy
                          by_cases h9 : dp ≤ j ∧ j < dp + n
                          · rw [if_pos h9, if_pos h9]
                            exact t3 _ (by omega)
                          · rw [if_neg h9, if_neg h9]
                            exact u3 j hj
                        · refine ⟨by rw [g2]; exact hS.1, fun q k1 k2 => (g3 q (fun e9 => k2 (by rw [e9]; exact Nat.le_add_right _ _))).trans (hS.2.1 q k1 k2), fun z hz => ?_⟩
                          rcases List.mem_append.mp hz with h9 | h9
                          · exact hS.2.2 z h9
                          · rw [g4 z h9]; exact Nat.le_add_right _ _
                  · cases h
                · cases h
            -- min
            · rename_i j1 j2 j3 j4 haux
              rw [haux] at h
              replace h : es_smm ME (fun x y => if y < x then y else x) ih M pc L S AH F cs ss = some ends := h
              unfold es_smm at h
              rcases S with _ | ⟨w, _ | ⟨v, S'⟩⟩
              · cases h
              · cases h
              · dsimp only at h
                cases hc : ((es_ti v && es_ti w) && (((Nat.blt 0 (es_rf (ME M)) && Nat.ble 200 (es_lo (ME M))) && Nat.ble (es_cts S') 8) && (Nat.ble cs (es_mc (ME M)) && Nat.ble ss (es_ms (ME M)))))
                · rw [hc] at h; cases h
                · rw [hc] at h
                  try dsimp only [cond_true] at h
                  simp only [Bool.and_eq_true, es_blt, Nat.ble_eq] at hc hcok
                  obtain ⟨⟨t1, t2⟩, ⟨⟨c1, c2⟩, c3⟩, c4, c5⟩ := hc
                  intro H ls locs st hinv
                  obtain ⟨hl, hs, hH, hF, hS⟩ := hinv
                  obtain ⟨yv, st1, rfl, hvw, xv, st', rfl, hv, hs'⟩ := hs
                  obtain ⟨z, rfl⟩ := es_ti_int hv t1
                  obtain ⟨z2, rfl⟩ := es_ti_int hvw t2
                  have hsum := (es_cts_ok _ _ hs').2
                  exact va_mmin hx hb (by rw [hl.1, hml]) hown (hts _ (es_wj_in hcok.1.1)) (hts _ (es_wj_in hcok.1.2)) (hts _ (es_wj_in hcok.2.1)) (hts _ (es_wj_in hcok.2.2)) (by omega) (by omega) (by dsimp only; omega) (by dsimp only; omega) hd2 (hgo _ _ h (fun _ h => h) H ls locs _ ⟨hl, ⟨_, _, rfl, es_bin_ok hF _ hv hvw, hs'⟩, hH, hF, hS⟩)
            -- max
            · rename_i j1 j2 j3 j4 haux
              rw [haux] at h
              replace h : es_smm ME (fun x y => if x < y then y else x) ih M pc L S AH F cs ss = some ends := h
              unfold es_smm at h
              rcases S with _ | ⟨w, _ | ⟨v, S'⟩⟩
              · cases h
              · cases h
              · dsimp only at h
                cases hc : ((es_ti v && es_ti w) && (((Nat.blt 0 (es_rf (ME M)) && Nat.ble 200 (es_lo (ME M))) && Nat.ble (es_cts S') 8) && (Nat.ble cs (es_mc (ME M)) && Nat.ble ss (es_ms (ME M)))))
                · rw [hc] at h; cases h
                · rw [hc] at h
                  try dsimp only [cond_true] at h
                  simp only [Bool.and_eq_true, es_blt, Nat.ble_eq] at hc hcok
                  obtain ⟨⟨t1, t2⟩, ⟨⟨c1, c2⟩, c3⟩, c4, c5⟩ := hc
                  intro H ls locs st hinv
                  obtain ⟨hl, hs, hH, hF, hS⟩ := hinv
                  obtain ⟨yv, st1, rfl, hvw, xv, st', rfl, hv, hs'⟩ := hs
                  obtain ⟨z, rfl⟩ := es_ti_int hv t1
                  obtain ⟨z2, rfl⟩ := es_ti_int hvw t2
                  have hsum := (es_cts_ok _ _ hs').2
                  exact va_mmax hx hb (by rw [hl.1, hml]) hown (hts _ (es_wj_in hcok.1.1)) (hts _ (es_wj_in hcok.1.2)) (hts _ (es_wj_in hcok.2.1)) (hts _ (es_wj_in hcok.2.2)) (by omega) (by omega) (by dsimp only; omega) (by dsimp only; omega) hd2 (hgo _ _ h (fun _ h => h) H ls locs _ ⟨hl, ⟨_, _, rfl, es_bin_ok hF _ hv hvw, hs'⟩, hH, hF, hS⟩)
            · cases hcok
          -- invokespecial
          · rename_i idx hins
            have hd2 := hlen (fun d1 d2 d3 d4 h9 => by rw [h9] at hins; cases hins)
            rw [hins] at hd2
            unfold es_cok at hcok
            rw [hins] at hcok
            dsimp only at hcok
            split at hcok
            · rename_i M' n nest j1 j2 j3 haux
              rw [haux] at h
              replace h : es_si ME ih M M' n pc L S AH F cs ss = some ends := h
              unfold es_si at h
              cases hdr : S.drop n with
              | nil => rw [hdr] at h; cases h
              | cons o S' =>
                rw [hdr] at h
                try dsimp only at h
                cases ho3 : Nat.beq o.1 3
                · rw [ho3] at h; cases h
                · rw [ho3] at h
                  try dsimp only [cond_true] at h
                  cases hi1 : es_inv1 ME ih M M' (o :: (S.take n).reverse) S' AH F cs ss with
                  | none => rw [hi1] at h; cases h
                  | some lfs =>
                    rw [hi1] at h
                    try dsimp only at h
                    cases hnt : es_nothr lfs
                    · rw [hnt] at h; cases h
                    · rw [hnt] at h
                      try dsimp only [cond_true] at h
                      intro H ls locs st hinv
                      obtain ⟨hl, hs, hH, hF, hS⟩ := hinv
                      dsimp only at hl hs hH hF ⊢
                      obtain ⟨xs, ys, rfl, hxs, hys⟩ := es_take (n := n) hs
                      rw [hdr] at hys
                      obtain ⟨ro, rest, rfl, hvo, hs'⟩ := hys
                      have e6 := es_t3_ref hvo ho3
                      subst e6
                      have hn : xs.length = n := by
                        rw [es_sr_len _ _ hxs, List.length_take]
                        have h7 : (S.drop n).length = S.length - n := List.length_drop
                        rw [hdr, List.length_cons] at h7
                        omega
                      obtain ⟨hmet, h8, hRR, hcap, hcwm⟩ := es_inv1_ok (R := R) G hih hi1 (xs := .ref (n0 + o.2) :: xs.reverse) ⟨_, _, rfl, hvo, es_sr_rev _ _ hxs⟩ hF hR
                      have hmet0 := es_met0 hmet hnt
                      simp only [Bool.and_eq_true] at hcok
                      obtain ⟨k1, ⟨k2, k3⟩, ⟨k4, k5⟩, k6, k7⟩ := hcok
                      have k5 := es_emp k5
                      have k6 := of_decide_eq_true k6
                      have k7 := of_decide_eq_true k7
                      have hcw : es_cw (ME M') = .code (es_y (ME M')) (es_code (ME M')) (es_mL (ME M')) none := by unfold es_cw; rw [k5, k7]
                      refine es_aft_ok G hih fc hev htab hends h hl hs' hS ?_
                      cases hns : Nat.beq nest 0
                      · rw [hns] at k1
                        exact fun T hT X => Or.inl (va_runIN (As := xs.reverse) ⟨hx, hb, hml, hown, hts⟩ hmet0 ⟨va_cnB n hts (es_good G hcwm) (by rw [hcw]) rfl rfl (hev.2.2.2.2.2.2.2.1 _ (es_wj_in k1)) (hts _ (es_wj_in k3)) (es_ymok_ok k4) hRR, k6, hts _ (es_wj_in k2)⟩ ⟨es_blind G.2.2.1, es_pcU G.2.2.1 hev hS hH⟩ rfl (by rw [List.length_reverse]; exact hn) hl.1 (by rw [List.reverse_reverse]) (lv_room (by rw [(es_cts_ok _ _ hs').2]; exact h8)) hd2 hcap T hT X)
                      · rw [hns] at k1
                        exact fun T hT X => Or.inl (va_runI (As := xs.reverse) ⟨hx, hb, hml, hown, hts⟩ hmet0 ⟨callB_of n hts (es_good G hcwm) (by rw [hcw]) rfl rfl (hts _ (es_wj_in k3)) (hts _ (es_wj_in k1)) (es_ymok_ok k4) hRR, k6, hts _ (es_wj_in k2)⟩ ⟨es_blind G.2.2.1, es_pcU G.2.2.1 hev hS hH⟩ rfl (by rw [List.length_reverse]; exact hn) hl.1 (by rw [List.reverse_reverse]) (lv_room (by rw [(es_cts_ok _ _ hs').2]; exact h8)) hd2 hcap T hT X)
            -- Object.<init>
            · rename_i j1 j2 j3 haux
              rw [haux] at h
              replace h : es_so ME ih M pc L S AH F cs ss = some ends := h
              unfold es_so at h
              rcases S with _ | ⟨o, S'⟩
              · cases h
              · dsimp only at h
                cases hc : (Nat.beq o.1 3 && (Nat.blt 0 (es_rf (ME M)) && Nat.ble (es_cts S' + 12) (es_lo (ME M))))
                · rw [hc] at h; cases h
                · rw [hc] at h
                  try dsimp only [cond_true] at h
                  simp only [Bool.and_eq_true, es_blt, Nat.ble_eq] at hc hcok
                  obtain ⟨c1, c2, c3⟩ := hc
                  intro H ls locs st hinv
                  obtain ⟨hl, hs, hH, hF, hS⟩ := hinv
                  obtain ⟨yv, st', rfl, hv, hs'⟩ := hs
                  have e6 := es_t3_ref hv c1
                  subst e6
                  have hsum := (es_cts_ok _ _ hs').2
                  refine W.objInit hx hb hown (hts _ (es_wj_in hcok.1)) (hts _ (es_wj_in hcok.2.1)) (hts _ (es_wj_in hcok.2.2)) rfl (by rw [hml]; exact hl.1) rfl hd2 (by omega) (by show 2 * 0 + _ + 12 ≤ _; omega) ?_
                  exact hgo _ _ h (fun _ h => h) H ls locs _ ⟨hl, hs', hH, hF, hS⟩
            · cases hcok
          · cases h
end Snd
section Snd2
variable {l : Launch} {strs : List (String × Nat × String)} {wx : List Cond} {WS : List Cond} {SL : Nat} {D : va_G} {cI cJ cZ cC cM : ClassId} {n0 b : Nat} {ρ : Nat → Int32} {ME : Nat → es_M}
theorem es_run_ok (G : es_GH strs wx WS ME) : ∀ (n : Nat) (ρ : Nat → Int32) (M : Nat) (K : es_K) (ends : List es_E), es_run ME SL n M K = some ends → es_RS l strs wx WS SL D cI cJ cZ cC cM n0 b ρ (ME M) K ends
  | 0, _, _, _, _, h => by rw [es_run_z] at h; cases h
  | n + 1, ρ, M, K, ends, h => by
    rw [es_run_s] at h
    exact es_step_ok G (fun ρ' M' K' ends' h' => es_run_ok G n ρ' M' K' ends' h') M K ends h
end Snd2
end
section
theorem es_fi2_ok {l : List (Nat × es_C)} {pc : Nat} {r : es_C} (h : es_fi2 l pc = some r) : (pc, r) ∈ l := by
  induction l with
  | nil => cases h
  | cons q t ih =>
    have h' : (bif Nat.beq q.1 pc then some q.2 else es_fi2 t pc) = some r := h
    cases hb : Nat.beq q.1 pc
    · rw [hb] at h'
      exact List.mem_cons_of_mem _ (ih h')
    · rw [hb] at h'
      cases h'
      rw [← es_beq.mp hb]
      exact List.mem_cons_self
theorem es_at2_ok {l : List (Nat × List (Nat × es_C))} {pc : Nat} {r : es_C} (h : es_at2 l pc = some r) : ∃ q ∈ l, (pc, r) ∈ q.2 := by
  induction l with
  | nil => cases h
  | cons q t ih =>
    have h' : (bif Nat.blt pc q.1 then es_fi2 q.2 pc else es_at2 t pc) = some r := h
    cases hb : Nat.blt pc q.1
    · rw [hb] at h'
      obtain ⟨q', h1, h2⟩ := ih h'
      exact ⟨q', List.mem_cons_of_mem _ h1, h2⟩
    · rw [hb] at h'
      exact ⟨q, List.mem_cons_self, es_fi2_ok h'⟩
/-- is this number the row's? -/
def es_qok (e : es_I) (pc c a n : Nat) : Bool := match e.2.1 with
  | .iload_n k => (Nat.beq c 1 && (Nat.beq k a && Nat.beq n 1)) && e.2.2.2.isEmpty
  | .iload k => (Nat.beq c 1 && (Nat.beq k a && Nat.beq n 2)) && e.2.2.2.isEmpty
  | .aload_n k => (Nat.beq c 2 && (Nat.beq k a && Nat.beq n 1)) && e.2.2.2.isEmpty
  | .aload k => (Nat.beq c 2 && (Nat.beq k a && Nat.beq n 2)) && e.2.2.2.isEmpty
  | .iconst v => (Nat.beq c 3 && (es_veq (es_c (Int32.ofInt v)) (0, a) && Nat.beq n 1)) && e.2.2.2.isEmpty
  | .bipush v => (Nat.beq c 3 && (es_veq (es_c ((Int8.ofInt v).toInt32)) (0, a) && Nat.beq n 2)) && e.2.2.2.isEmpty
  | .sipush v => (Nat.beq c 3 && (es_veq (es_c ((Int16.ofInt v).toInt32)) (0, a) && Nat.beq n 3)) && e.2.2.2.isEmpty
  | .istore_n k => (Nat.beq c 4 && (Nat.beq k a && Nat.beq n 1)) && e.2.2.2.isEmpty
  | .istore k => (Nat.beq c 4 && (Nat.beq k a && Nat.beq n 2)) && e.2.2.2.isEmpty
  | .iinc k v => (Nat.beq c 5 && (Nat.beq k a && decide (Int32.ofInt v = nI n))) && e.2.2.2.isEmpty
  | .goto off => (Nat.beq c 6 && es_teq pc off a) && e.2.2.2.isEmpty
  | .iadd => Nat.beq c 7 && e.2.2.2.isEmpty
  | .isub => Nat.beq c 8 && e.2.2.2.isEmpty
  | .imul => Nat.beq c 9 && e.2.2.2.isEmpty
  | .iand => Nat.beq c 10 && e.2.2.2.isEmpty
  | .ior => Nat.beq c 11 && e.2.2.2.isEmpty
  | .ishl => Nat.beq c 12 && e.2.2.2.isEmpty
  | .ishr => Nat.beq c 13 && e.2.2.2.isEmpty
  | .irem => Nat.beq c 14 && e.2.2.2.isEmpty
  | .ifCond op off => (Nat.beq c 15 && (es_teq pc off a && decide (es_opn n = op))) && e.2.2.2.isEmpty
  | .if_icmp op off => (Nat.beq c 16 && (es_teq pc off a && decide (es_opn n = op))) && e.2.2.2.isEmpty
  | .return_ => Nat.beq c 17 && e.2.2.2.isEmpty
  | .ireturn => Nat.beq c 17 && e.2.2.2.isEmpty
  | .areturn => Nat.beq c 17 && e.2.2.2.isEmpty
  | .lreturn => Nat.beq c 17 && e.2.2.2.isEmpty
  | .getfield _ => Nat.beq c 18 && (match e.2.2.2 with
    | [ci, k, _] => (Nat.beq ci a && Nat.beq k n) && Nat.blt ci 100
    | _ => false)
  | .iaload => Nat.beq c 19 && e.2.2.2.isEmpty
  | .iastore => Nat.beq c 20 && e.2.2.2.isEmpty
  | _ => false
section Fast
variable {ME : Nat → es_M} {SL : Nat}
theorem es_isE {l : List Nat} (h : l.isEmpty = true) : l = [] := by cases l <;> simp_all
theorem es_teq_to {pc : Nat} {off : Int} {t : Nat} (h : es_teq pc off t = true) : es_to pc off = some t := by
  unfold es_teq at h
  split at h
  · rename_i x hx
    rw [hx, es_beq.mp h]
  · cases h
/-- a row of plain kind, with nothing beside -/
theorem es_sp {ih : Nat → es_K → Option (List es_E)} {M pc : Nat} {e : es_I} (hat : es_at (es_tab (ME M)) pc = some e) (ha : e.2.2.2 = []) {L : es_L} {S : List es_V} {AH : List es_O} {F : es_F} {cs ss : Nat} {ends : List es_E} {r : Option (Nat × es_L × List es_V)} (hr : es_pure (es_mL (ME M)) e.2.1 pc L S F = r)
    (h : es_gp ih M AH F cs ss r = some ends) : es_step ME SL ih M (pc, L, S, AH, F, cs, ss) = some ends := by
  unfold es_step
  dsimp only
  rw [hat]
  dsimp only
  rw [ha]
  dsimp only
  rw [hr]
  cases r with
  | none => cases h
  | some q => exact h
theorem es_fast_ok {ih : Nat → es_K → Option (List es_E)} {M pc c a n : Nat} {e : es_I} (hat : es_at (es_tab (ME M)) pc = some e) (hq : es_qok e pc c a n = true) {L : es_L} {S : List es_V} {AH : List es_O} {F : es_F} {cs ss : Nat} {ends : List es_E}
    (h : es_fast ih M c a n (es_mL (ME M)) pc L S AH F cs ss = some ends) : es_step ME SL ih M (pc, L, S, AH, F, cs, ss) = some ends := by
  unfold es_qok at hq
  split at hq
  · rename_i k hins
    simp only [Bool.and_eq_true, es_beq] at hq
    obtain ⟨⟨rfl, rfl, rfl⟩, ha⟩ := hq
    exact es_sp hat (es_isE ha) (by rw [hins]; rfl) h
  · rename_i k hins
    simp only [Bool.and_eq_true, es_beq] at hq
    obtain ⟨⟨rfl, rfl, rfl⟩, ha⟩ := hq
    exact es_sp hat (es_isE ha) (by rw [hins]; rfl) h
  · rename_i k hins
    simp only [Bool.and_eq_true, es_beq] at hq
    obtain ⟨⟨rfl, rfl, rfl⟩, ha⟩ := hq
    exact es_sp hat (es_isE ha) (by rw [hins]; rfl) h
  · rename_i k hins
    simp only [Bool.and_eq_true, es_beq] at hq
    obtain ⟨⟨rfl, rfl, rfl⟩, ha⟩ := hq
    exact es_sp hat (es_isE ha) (by rw [hins]; rfl) h
  · rename_i k hins
    simp only [Bool.and_eq_true, es_beq] at hq
    obtain ⟨⟨rfl, hv, rfl⟩, ha⟩ := hq
    exact es_sp (r := some (pc + 1, L, (0, a) :: S)) hat (es_isE ha) (by rw [hins]; show some (pc + 1, L, es_c (Int32.ofInt k) :: S) = _; rw [es_veq_ok hv]) h
  · rename_i k hins
    simp only [Bool.and_eq_true, es_beq] at hq
    obtain ⟨⟨rfl, hv, rfl⟩, ha⟩ := hq
    exact es_sp (r := some (pc + 2, L, (0, a) :: S)) hat (es_isE ha) (by rw [hins]; show some (pc + 2, L, es_c ((Int8.ofInt k).toInt32) :: S) = _; rw [es_veq_ok hv]) h
  · rename_i k hins
    simp only [Bool.and_eq_true, es_beq] at hq
    obtain ⟨⟨rfl, hv, rfl⟩, ha⟩ := hq
    exact es_sp (r := some (pc + 3, L, (0, a) :: S)) hat (es_isE ha) (by rw [hins]; show some (pc + 3, L, es_c ((Int16.ofInt k).toInt32) :: S) = _; rw [es_veq_ok hv]) h
  · rename_i k hins
    simp only [Bool.and_eq_true, es_beq] at hq
    obtain ⟨⟨rfl, rfl, rfl⟩, ha⟩ := hq
    exact es_sp hat (es_isE ha) (by rw [hins]; rfl) h
  · rename_i k hins
    simp only [Bool.and_eq_true, es_beq] at hq
    obtain ⟨⟨rfl, rfl, rfl⟩, ha⟩ := hq
    exact es_sp hat (es_isE ha) (by rw [hins]; rfl) h
  · rename_i k v hins
    simp only [Bool.and_eq_true, es_beq, decide_eq_true_eq] at hq
    obtain ⟨⟨rfl, rfl, hv⟩, ha⟩ := hq
    exact es_sp (r := es_finc k n (es_mL (ME M)) pc L S F) hat (es_isE ha) (by rw [hins]; unfold es_finc; rw [← hv]; rfl) h
  · rename_i off hins
    simp only [Bool.and_eq_true, es_beq] at hq
    obtain ⟨⟨rfl, hv⟩, ha⟩ := hq
    exact es_sp (r := some (a, L, S)) hat (es_isE ha) (by rw [hins]; show (match es_to pc off with | some t => some (t, L, S) | none => none) = _; rw [es_teq_to hv]) h
  · rename_i hins
    simp only [Bool.and_eq_true, es_beq] at hq
    obtain ⟨rfl, ha⟩ := hq
    exact es_sp hat (es_isE ha) (by rw [hins]; rfl) h
  · rename_i hins
    simp only [Bool.and_eq_true, es_beq] at hq
    obtain ⟨rfl, ha⟩ := hq
    exact es_sp hat (es_isE ha) (by rw [hins]; rfl) h
  · rename_i hins
    simp only [Bool.and_eq_true, es_beq] at hq
    obtain ⟨rfl, ha⟩ := hq
    exact es_sp hat (es_isE ha) (by rw [hins]; rfl) h
  · rename_i hins
    simp only [Bool.and_eq_true, es_beq] at hq
    obtain ⟨rfl, ha⟩ := hq
    exact es_sp hat (es_isE ha) (by rw [hins]; rfl) h
  · rename_i hins
    simp only [Bool.and_eq_true, es_beq] at hq
    obtain ⟨rfl, ha⟩ := hq
    exact es_sp hat (es_isE ha) (by rw [hins]; rfl) h
  · rename_i hins
    simp only [Bool.and_eq_true, es_beq] at hq
    obtain ⟨rfl, ha⟩ := hq
    exact es_sp hat (es_isE ha) (by rw [hins]; rfl) h
  · rename_i hins
    simp only [Bool.and_eq_true, es_beq] at hq
    obtain ⟨rfl, ha⟩ := hq
    exact es_sp hat (es_isE ha) (by rw [hins]; rfl) h
  · rename_i hins
    simp only [Bool.and_eq_true, es_beq] at hq
    obtain ⟨rfl, ha⟩ := hq
    exact es_sp hat (es_isE ha) (by rw [hins]; rfl) h
  · rename_i op off hins
    simp only [Bool.and_eq_true, es_beq, decide_eq_true_eq] at hq
    obtain ⟨⟨rfl, hv, rfl⟩, ha⟩ := hq
    have h' : es_fi0 ih M (es_opn n) a pc L S AH F cs ss = some ends := h
    unfold es_step
    dsimp only
    rw [hat]
    dsimp only
    rw [es_isE ha]
    dsimp only
    unfold es_hs
    dsimp only
    rw [hins]
    dsimp only [es_pure]
    rw [es_teq_to hv]
    unfold es_fi0 at h'
    cases S with
    | nil => cases h'
    | cons v S' => exact h'
  · rename_i op off hins
    simp only [Bool.and_eq_true, es_beq, decide_eq_true_eq] at hq
    obtain ⟨⟨rfl, hv, rfl⟩, ha⟩ := hq
    have h' : es_fi1 ih M (es_opn n) a pc L S AH F cs ss = some ends := h
    unfold es_step
    dsimp only
    rw [hat]
    dsimp only
    rw [es_isE ha]
    dsimp only
    unfold es_hs
    dsimp only
    rw [hins]
    dsimp only [es_pure]
    rw [es_teq_to hv]
    unfold es_fi1 at h'
    rcases S with _ | ⟨w, _ | ⟨v, S'⟩⟩
    · cases h'
    · cases h'
    · exact h'
  · rename_i hins
    simp only [Bool.and_eq_true, es_beq] at hq
    obtain ⟨rfl, ha⟩ := hq
    unfold es_step
    dsimp only
    rw [hat]
    dsimp only
    rw [es_isE ha]
    dsimp only
    unfold es_hs
    dsimp only
    rw [hins]
    exact h
  · rename_i hins
    simp only [Bool.and_eq_true, es_beq] at hq
    obtain ⟨rfl, ha⟩ := hq
    unfold es_step
    dsimp only
    rw [hat]
    dsimp only
    rw [es_isE ha]
    dsimp only
    unfold es_hs
    dsimp only
    rw [hins]
    exact h
  · rename_i hins
    simp only [Bool.and_eq_true, es_beq] at hq
    obtain ⟨rfl, ha⟩ := hq
    unfold es_step
    dsimp only
    rw [hat]
    dsimp only
    rw [es_isE ha]
    dsimp only
    unfold es_hs
    dsimp only
    rw [hins]
    exact h
  · rename_i hins
    simp only [Bool.and_eq_true, es_beq] at hq
    obtain ⟨rfl, ha⟩ := hq
    unfold es_step
    dsimp only
    rw [hat]
    dsimp only
    rw [es_isE ha]
    dsimp only
    unfold es_hs
    dsimp only
    rw [hins]
    exact h
  -- getfield
  · rename_i idx hins
    rw [Bool.and_eq_true, es_beq] at hq
    obtain ⟨rfl, hq2⟩ := hq
    split at hq2
    · rename_i ci k j haux
      simp only [Bool.and_eq_true, es_beq, es_blt] at hq2
      obtain ⟨⟨rfl, rfl⟩, h100⟩ := hq2
      have h' : es_gh ih M (es_fgf ci k pc L S AH F cs ss) = some ends := h
      unfold es_step
      dsimp only
      rw [hat]
      dsimp only
      have hhs : es_hs SL (ME M) e (pc, L, S, AH, F, cs, ss) = es_fgf ci k pc L S AH F cs ss := by
        unfold es_hs es_fgf
        dsimp only
        rw [hins, haux]
        dsimp only
        cases S <;> rfl
      have hpu : es_pure (es_mL (ME M)) e.2.1 pc L S F = none := by rw [hins]; rfl
      rw [hhs, hpu]
      split
      · rename_i tl h9; rw [haux] at h9; cases h9; exact absurd h100 (by decide)
      · rename_i tl h9; rw [haux] at h9; cases h9; exact absurd h100 (by decide)
      · rename_i tl h9; rw [haux] at h9; cases h9
      · dsimp only
        cases hf : es_fgf ci k pc L S AH F cs ss with
        | none => rw [hf] at h'; cases h'
        | some K' => rw [hf] at h'; exact h'
    · cases hq2
  -- iaload
  · rename_i hins
    simp only [Bool.and_eq_true, es_beq] at hq
    obtain ⟨rfl, ha⟩ := hq
    have h' : es_gh ih M (es_fld pc L S AH F cs ss) = some ends := h
    cases hf : es_fld pc L S AH F cs ss with
    | none => rw [hf] at h'; cases h'
    | some K' =>
      rw [hf] at h'
      have hhs : es_hs SL (ME M) e (pc, L, S, AH, F, cs, ss) = some K' := by
        rw [← hf]
        unfold es_fld at hf ⊢
        unfold es_hs
        dsimp only
        rw [hins]
        dsimp only
        rcases S with _ | ⟨j, _ | ⟨a', S'⟩⟩
        · cases hf
        · cases hf
        · dsimp only at hf ⊢
          cases hj : es_kn F j with
          | none => rw [hj] at hf <;> cases hf
          | some jn =>
            rw [hj] at hf
            dsimp only at hf ⊢
            cases h5 : Nat.beq a'.1 5
            · rfl
            · rw [h5] at hf; cases hf
      unfold es_step
      dsimp only
      rw [hat]
      dsimp only
      rw [es_isE ha]
      dsimp only
      have hpu : es_pure (es_mL (ME M)) e.2.1 pc L S F = none := by rw [hins]; rfl
      rw [hhs, hpu]
      exact h'
  -- iastore
  · rename_i hins
    simp only [Bool.and_eq_true, es_beq] at hq
    obtain ⟨rfl, ha⟩ := hq
    have h' : es_gh ih M (es_fst pc L S AH F cs ss) = some ends := h
    cases hf : es_fst pc L S AH F cs ss with
    | none => rw [hf] at h'; cases h'
    | some K' =>
      rw [hf] at h'
      have hhs : es_hs SL (ME M) e (pc, L, S, AH, F, cs, ss) = some K' := by
        rw [← hf]
        unfold es_hs
        dsimp only
        rw [hins]
        rfl
      unfold es_step
      dsimp only
      rw [hat]
      dsimp only
      rw [es_isE ha]
      dsimp only
      have hpu : es_pure (es_mL (ME M)) e.2.1 pc L S F = none := by rw [hins]; rfl
      rw [hhs, hpu]
      exact h'
  · cases hq
end Fast
def es_qq (o : Option es_I) (x : Nat × es_C) : Bool := match o with
  | some e => es_qok e x.1 x.2.1 x.2.2.1 x.2.2.2
  | none => false
section Run3
variable {ME : Nat → es_M} {CT : Nat → List (Nat × List (Nat × es_C))} {SL : Nat}
theorem es_step2_ok (hCT : ∀ M, ∀ q ∈ CT M, ∀ x ∈ q.2, es_qq (es_at (es_tab (ME M)) x.1) x = true) {ih : Nat → es_K → Option (List es_E)} {M : Nat} {K : es_K} {ends : List es_E} (h : es_step2 ME CT SL ih M K = some ends) : es_step ME SL ih M K = some ends := by
  obtain ⟨pc, L, S, AH, F, cs, ss⟩ := K
  unfold es_step2 at h
  dsimp only at h
  cases hc : es_at2 (CT M) pc with
  | none => rw [hc] at h; exact h
  | some q =>
    rw [hc] at h
    dsimp only at h
    obtain ⟨z, h1, h2⟩ := es_at2_ok hc
    have h3 := hCT M z h1 _ h2
    unfold es_qq at h3
    dsimp only at h3
    cases hat : es_at (es_tab (ME M)) pc with
    | none => rw [hat] at h3; cases h3
    | some e => rw [hat] at h3; exact es_fast_ok hat h3 h
variable {l : Launch} {strs : List (String × Nat × String)} {wx : List Cond} {WS : List Cond} {D : va_G} {cI cJ cZ cC cM : ClassId} {n0 b : Nat}
theorem es_run2_ok (G : es_GH strs wx WS ME) (hCT : ∀ M, ∀ q ∈ CT M, ∀ x ∈ q.2, es_qq (es_at (es_tab (ME M)) x.1) x = true) : ∀ (n : Nat) (ρ : Nat → Int32) (M : Nat) (K : es_K) (ends : List es_E), es_run2 ME CT SL n M K = some ends → es_RS l strs wx WS SL D cI cJ cZ cC cM n0 b ρ (ME M) K ends
  | 0, _, _, _, _, h => by rw [es_run2_z] at h; cases h
  | n + 1, ρ, M, K, ends, h => by
    rw [es_run2_s] at h
    exact es_step_ok G (fun ρ' M' K' ends' h' => es_run2_ok G hCT n ρ' M' K' ends' h') M K ends (es_step2_ok hCT h)
end Run3
end
section
def es_WS : List Cond := lw_tbl.filter goodWord
def es_wxk (w : Cond) : Bool := match w with
  | .methodLinkNest .. => true
  | .castable .. => true
  | .declares _ => true
  | _ => false
def es_wx : List Cond := lw_tbl.filter es_wxk
def es_strs : List (String × Nat × String) := [(RX11, 405, "no such man"), (RX11, 411, "the number is none"), (RX11, 162, "no such what"), (RX11, 402, "no such step"), (RX11, 409, "no such rival"), (RX11, 407, "no such test")]
def es_TW : List (String × Nat × Nat) := [(RX11, 404, 3), (RX11, 116, 0), (RX11, 164, 2)]
def es_jws : List Nat := [945, 1121, 1117, 1258, 1255, 1252, 1249, 1268, 1264, 596, 635, 631, 627, 623, 580, 576, 618, 612, 1228, 1224, 560, 1102, 1124, 1077, 1138, 1134, 587, 572, 1033, 1098, 1094, 1152, 1148, 1221, 1217, 1067, 1063, 1330, 1326, 838, 851, 831, 827, 823, 1351, 1347, 1145, 1141, 1366, 1362, 1358, 1159, 1155, 942, 938, 1203, 1199, 1295, 1291, 1287, 1131, 1127, 903, 1084, 1080, 1091, 1087, 1013, 1008, 1278, 1274, 1005, 1002, 998, 1246, 1242, 1074, 1070, 1239, 1235, 1319, 1310, 1307, 1303, 1299, 1344, 1340, 900, 894, 1210, 1206, 995, 992, 988, 541, 1337, 1333, 1051, 1047, 601, 527, 609, 605, 552, 519, 523, 515, 511, 592, 212, 146, 187, 290, 302, 284, 171, 197, 447, 405, 139, 556, 548, 538, 534, 564, 568, 1464, 1582, 1680, 1754, 1758, 1844, 1779, 1474, 1471, 1480, 1477, 1468, 1743, 1554, 1675, 1630, 1666, 1688, 1848, 1627, 1663, 1805, 1699, 1461, 1562, 1457, 1730, 1647, 1840, 1371, 1789, 1809, 1801, 1558, 1821, 1692, 1828, 1703, 1579, 1797, 1719, 1736, 1539, 1773, 1684, 1569, 1655, 1659, 1621, 1763, 1617, 1614, 1793, 1832, 1751, 1651, 1747, 1783, 1672, 1817, 1566, 1723, 1604, 1601, 1453, 1813, 1637, 1836, 0, 945]
def es_hjx (n : Nat) : Nat := bif Nat.beq n 13 then 613 else bif Nat.beq n 15 then 614 else bif Nat.beq n 24 then 895 else bif Nat.beq n 26 then 896 else 1009
theorem es_WSg : ∀ w ∈ es_WS, goodWord w = true := fun w hw => (List.mem_filter.mp hw).2
theorem es_WSt : ∀ w ∈ es_WS, w ∈ lw_tbl := fun w hw => (List.mem_filter.mp hw).1
theorem es_wxt : ∀ w ∈ es_wx, w ∈ lw_tbl ∧ w.onTables = true := fun w hw => ⟨(List.mem_filter.mp hw).1, by
  have h := (List.mem_filter.mp hw).2
  cases w <;> first | rfl | cases h⟩
theorem es_wxo : es_wxok es_wx := fun w hw s U hW hZ => by
  have h := (List.mem_filter.mp hw).2
  cases w <;> first | exact va_Nw.warmM hW hZ | exact va_Nw.warmC hW hZ | exact va_Nw.warmD hW hZ | cases h
def es_uin (WS : List Cond) : List Cond → List Nat → Bool
  | [], _ => true
  | w :: t, js => match js with
    | [] => false
    | j :: s => es_wj WS j w && es_uin WS t s
theorem es_uin_ok {WS : List Cond} : ∀ {l : List Cond} {js : List Nat}, es_uin WS l js = true → ∀ w ∈ l, w ∈ WS
  | [], _, _, w, hw => by cases hw
  | v :: t, js, h, w, hw => by
    cases js with
    | nil => cases h
    | cons j s =>
      unfold es_uin at h
      dsimp only at h
      rw [Bool.and_eq_true] at h
      rcases List.mem_cons.mp hw with rfl | hw
      · exact es_wj_in h.1
      · exact es_uin_ok h.2 w hw
theorem es_u0 : es_uin es_WS (u_ws RX0 TX0 12) [255, 257, 259, 261, 263, 265, 267, 269, 271, 273, 275, 277] = true := by decide +kernel
theorem es_u1 : es_uin es_WS (u_ws RX1 TX1 1) [190] = true := by decide +kernel
theorem es_u2 : es_uin es_WS (u_ws RX2 TX2 10) [380, 382, 384, 386, 388, 390, 392, 394, 396, 398] = true := by decide +kernel
theorem es_u3 : es_uin es_WS (u_ws RX3 TX3 3) [176, 178, 180] = true := by decide +kernel
theorem es_u4 : es_uin es_WS (u_ws RX4 TX4 2) [857, 859] = true := by decide +kernel
theorem es_u5 : es_uin es_WS (u_ws RX5 TX5 3) [202, 204, 206] = true := by decide +kernel
theorem es_u6 : es_uin es_WS (u_ws RX6 TX6 2) [295, 297] = true := by decide +kernel
theorem es_u7 : es_uin es_WS (u_ws RX7 TX7 6) [334, 336, 338, 340, 342, 344] = true := by decide +kernel
theorem es_u8 : es_uin es_WS (u_ws RX8 TX8 2) [451, 453] = true := by decide +kernel
theorem es_u9 : es_uin es_WS (u_ws RX9 TX9 11) [419, 421, 423, 425, 427, 429, 431, 433, 435, 437, 439] = true := by decide +kernel
theorem es_u10 : es_uin es_WS (u_ws RX10 TX10 5) [156, 158, 160, 162, 164] = true := by decide +kernel
theorem es_u11 : es_uin es_WS (u_ws RX11 TX11 17) [473, 475, 477, 479, 481, 483, 485, 487, 489, 491, 493, 495, 497, 499, 501, 503, 505] = true := by decide +kernel
theorem es_u12 : es_uin es_WS (u_ws RX12 TX12 25) [1398, 1400, 1402, 1404, 1406, 1408, 1410, 1412, 1414, 1416, 1418, 1420, 1422, 1424, 1426, 1428, 1430, 1432, 1434, 1436, 1438, 1440, 1442, 1444, 1446] = true := by decide +kernel
theorem es_uall : ∀ (ci : Nat) (r : vw_C), vwCl[ci]? = some r → ∀ w ∈ u_ws r.1 r.2.1 r.2.2, w ∈ es_WS := by
  intro ci r h
  match ci, h with
  | 0, h => cases h; exact es_uin_ok es_u0
  | 1, h => cases h; exact es_uin_ok es_u1
  | 2, h => cases h; exact es_uin_ok es_u2
  | 3, h => cases h; exact es_uin_ok es_u3
  | 4, h => cases h; exact es_uin_ok es_u4
  | 5, h => cases h; exact es_uin_ok es_u5
  | 6, h => cases h; exact es_uin_ok es_u6
  | 7, h => cases h; exact es_uin_ok es_u7
  | 8, h => cases h; exact es_uin_ok es_u8
  | 9, h => cases h; exact es_uin_ok es_u9
  | 10, h => cases h; exact es_uin_ok es_u10
  | 11, h => cases h; exact es_uin_ok es_u11
  | 12, h => cases h; exact es_uin_ok es_u12
  | t + 13, h => simp at h
def es_thb (t : String × Nat × Nat) : Bool := (es_ats t.1 t.2.1 t.2.2).all (fun w => decide (w ∈ es_WS) || (decide (w ∈ es_wx) && w.onTables))
theorem es_thb_ok {t : String × Nat × Nat} (h : es_thb t = true) : es_thw es_WS es_wx t.1 t.2.1 t.2.2 := fun w hw => by
  have h2 := List.all_eq_true.mp h w hw
  rw [Bool.or_eq_true, Bool.and_eq_true, decide_eq_true_eq, decide_eq_true_eq] at h2
  exact h2
theorem es_tw0 : es_thb (RX11, 404, 3) = true := by decide +kernel
theorem es_tw1 : es_thb (RX11, 116, 0) = true := by decide +kernel
theorem es_tw2 : es_thb (RX11, 164, 2) = true := by decide +kernel
theorem es_twall : ∀ t ∈ es_TW, es_thw es_WS es_wx t.1 t.2.1 t.2.2 := fun t ht => by
  unfold es_TW at ht
  simp only [List.mem_cons, List.not_mem_nil, or_false] at ht
  rcases ht with rfl | rfl | rfl
  · exact es_thb_ok es_tw0
  · exact es_thb_ok es_tw1
  · exact es_thb_ok es_tw2
def es_twb (T : es_M) (E : es_I) : Bool := match E.2.2.2 with
  | [100, x, _, ic, _, _, _, _] => es_TW.any (fun t => decide (t = (es_own T, ic, x)))
  | _ => true
theorem es_twb_ok {T : es_M} {E : es_I} (h : es_twb T E = true) : ∀ x is ic wide si j1 j2, E.2.2.2 = [100, x, is, ic, wide, si, j1, j2] → es_thw es_WS es_wx (es_own T) ic x := by
  intro x is ic wide si j1 j2 he
  unfold es_twb at h
  rw [he] at h
  obtain ⟨t, h1, h2⟩ := List.any_eq_true.mp h
  have e := of_decide_eq_true h2
  have h3 := es_twall t h1
  rw [e] at h3
  exact h3
noncomputable def es_echk (T : es_M) (E : es_I) : Bool := (es_dok T E && es_tok es_WS es_wx es_strs T E) && ((es_hok es_WS T E && es_cok es_ME es_WS es_wx T E) && es_twb T E)
def es_hchk (T : es_M) (q : Nat × Nat × Nat × Nat) : Bool := (!Nat.beq q.2.2.2 0 && Nat.blt (es_ct q.2.2.2) 5) && es_wj es_WS (es_hjx q.2.2.2) (.classLink (es_own T) q.2.2.2 (es_exc (es_ct q.2.2.2)))
noncomputable def es_mchk (T : es_M) (C : List (Nat × List (Nat × es_C))) (j : Nat) : Bool :=
  ((decide (es_own T = (es_y T).cls) && plainName (es_y T).cls) && ((es_tab T).all (fun q => q.2.all (es_echk T)) && (es_hh T).all (es_hchk T))) && ((Nat.ble (es_lo T) 84000 && (Nat.ble 84000 (es_lo T) || es_wj es_WS j (es_cw T))) && C.all (fun q => q.2.all (fun x => es_qq (es_at (es_tab T) x.1) x)))
noncomputable def es_mck (n : Nat) : Bool := es_mchk (es_ME n) (es_CT n) (es_jws[n]?.getD 0)
end
section
def ez_at (code : ByteArray) (p b : Nat) : Prop := ∃ h : p < code.size, (code[p]'h).toNat = b
theorem ez_u1 {code : ByteArray} {p b : Nat} (h : ez_at code p b) : (ClassFile.Reader.u1 : ClassFile.Decoder Nat).runAt code p = .ok (b, p + 1) := by
  obtain ⟨h1, rfl⟩ := h
  show (dite (p < code.size) (fun h => (_ : ClassFile.Decoder Nat)) (fun h => (_ : ClassFile.Decoder Nat)) : ClassFile.Decoder Nat) code p = _
  rw [dif_pos h1]
  rfl
theorem ez_bind {α β : Type} {r : ClassFile.Decoder α} {f : α → ClassFile.Decoder β} {code : ByteArray} {p p' : Nat} {a : α} (h : r.runAt code p = .ok (a, p')) : (r >>= f).runAt code p = (f a).runAt code p' := by
  show (r code p >>= fun q => f q.1 code q.2) = f a code p'
  have h2 : r code p = .ok (a, p') := h
  rw [h2]
  rfl
def ez_Ks : {K : Nat → Nat → ClassFile.Decoder Instr // ∀ pc, ClassFile.Decoder.instr pc = ClassFile.Reader.u1 >>= K pc} := ⟨_, fun _ => rfl⟩
def ez_K (pc b : Nat) : ClassFile.Decoder Instr := ez_Ks.1 pc b
theorem ez_go {code : ByteArray} {pc b n : Nat} {ins : Instr} (h : ez_at code pc b) (hK : (ez_K pc b).runAt code (pc + 1) = .ok (ins, pc + 1 + n)) : decode code pc = .ok (ins, n + 1) := by
  have h1 : (ClassFile.Decoder.instr pc).runAt code pc = .ok (ins, pc + 1 + n) := by
    rw [ez_Ks.2 pc, ez_bind (ez_u1 h)]
    exact hK
  unfold decode
  rw [h1]
  show Except.ok (ins, pc + 1 + n - pc) = _
  rw [show pc + 1 + n - pc = n + 1 by omega]
theorem ez_s0 {code : ByteArray} {pc b : Nat} {ins : Instr} (h : ez_at code pc b) (hK : ez_K pc b = Pure.pure ins) : decode code pc = .ok (ins, 1) := ez_go (n := 0) h (by rw [hK]; rfl)
theorem ez_su1 {code : ByteArray} {pc b x : Nat} {f : Nat → Instr} (h : ez_at code pc b) (h1 : ez_at code (pc + 1) x) (hK : ez_K pc b = (ClassFile.Reader.u1 >>= fun i => Pure.pure (f i))) : decode code pc = .ok (f x, 2) := ez_go (n := 1) h (by
  rw [hK, ez_bind (ez_u1 h1)]
  rfl)
theorem ez_u2 {code : ByteArray} {p x y : Nat} (h1 : ez_at code p x) (h2 : ez_at code (p + 1) y) : (ClassFile.Reader.u2 : ClassFile.Decoder Nat).runAt code p = .ok (x * 256 + y, p + 2) := by
  unfold ClassFile.Reader.u2
  rw [ez_bind (ez_u1 h1), ez_bind (ez_u1 h2)]
  rfl
theorem ez_su2 {code : ByteArray} {pc b x y : Nat} {f : Nat → Instr} (h : ez_at code pc b) (h1 : ez_at code (pc + 1) x) (h2 : ez_at code (pc + 2) y) (hK : ez_K pc b = (ClassFile.Reader.u2 >>= fun i => Pure.pure (f i))) : decode code pc = .ok (f (x * 256 + y), 3) := ez_go (n := 2) h (by
  rw [hK, ez_bind (ez_u2 h1 h2)]
  rfl)
theorem ez_s1 {code : ByteArray} {p x : Nat} (h1 : ez_at code p x) : (ClassFile.Reader.s1 : ClassFile.Decoder Int).runAt code p = .ok (ClassFile.Reader.signed 8 x, p + 1) := by
  show (ClassFile.Reader.u1 >>= fun i => pure (ClassFile.Reader.signed 8 i) : ClassFile.Decoder Int).runAt code p = _
  rw [ez_bind (ez_u1 h1)]
  rfl
theorem ez_s2 {code : ByteArray} {p x y : Nat} (h1 : ez_at code p x) (h2 : ez_at code (p + 1) y) : (ClassFile.Reader.s2 : ClassFile.Decoder Int).runAt code p = .ok (ClassFile.Reader.signed 16 (x * 256 + y), p + 2) := by
  show (ClassFile.Reader.u2 >>= fun i => pure (ClassFile.Reader.signed 16 i) : ClassFile.Decoder Int).runAt code p = _
  rw [ez_bind (ez_u2 h1 h2)]
  rfl
theorem ez_ss1 {code : ByteArray} {pc b x : Nat} {f : Int → Instr} (h : ez_at code pc b) (h1 : ez_at code (pc + 1) x) (hK : ez_K pc b = (ClassFile.Reader.s1 >>= fun i => Pure.pure (f i))) : decode code pc = .ok (f (ClassFile.Reader.signed 8 x), 2) := ez_go (n := 1) h (by
  rw [hK, ez_bind (ez_s1 h1)]
  rfl)
theorem ez_ss2 {code : ByteArray} {pc b x y : Nat} {f : Int → Instr} (h : ez_at code pc b) (h1 : ez_at code (pc + 1) x) (h2 : ez_at code (pc + 2) y) (hK : ez_K pc b = (ClassFile.Reader.s2 >>= fun i => Pure.pure (f i))) : decode code pc = .ok (f (ClassFile.Reader.signed 16 (x * 256 + y)), 3) := ez_go (n := 2) h (by
  rw [hK, ez_bind (ez_s2 h1 h2)]
  rfl)
theorem ez_inc {code : ByteArray} {pc x y : Nat} (h : ez_at code pc 132) (h1 : ez_at code (pc + 1) x) (h2 : ez_at code (pc + 2) y) : decode code pc = .ok (.iinc x (ClassFile.Reader.signed 8 y), 3) := ez_go (n := 2) h (by
  rw [show ez_K pc 132 = (ClassFile.Reader.u1 >>= fun i => ClassFile.Reader.s1 >>= fun j => Pure.pure (.iinc i j)) from rfl, ez_bind (ez_u1 h1), ez_bind (ez_s1 h2)]
  rfl)
def ez_o1 (t : List UInt8) (f : Nat → Instr) : Option (Instr × Nat) := match t with
  | x :: _ => some (f x.toNat, 2)
  | _ => none
def ez_o2 (t : List UInt8) (f : Nat → Instr) : Option (Instr × Nat) := match t with
  | x :: y :: _ => some (f (x.toNat * 256 + y.toNat), 3)
  | _ => none
def ez_p1 (t : List UInt8) (f : Int → Instr) : Option (Instr × Nat) := match t with
  | x :: _ => some (f (ClassFile.Reader.signed 8 x.toNat), 2)
  | _ => none
def ez_p2 (t : List UInt8) (f : Int → Instr) : Option (Instr × Nat) := match t with
  | x :: y :: _ => some (f (ClassFile.Reader.signed 16 (x.toNat * 256 + y.toNat)), 3)
  | _ => none
def ez_pi (t : List UInt8) : Option (Instr × Nat) := match t with
  | x :: y :: _ => some (.iinc x.toNat (ClassFile.Reader.signed 8 y.toNat), 3)
  | _ => none
theorem ez_get {code : ByteArray} {p : Nat} {x : UInt8} (h : code.data.toList[p]? = some x) : ez_at code p x.toNat := by
  obtain ⟨h1, h2⟩ := List.getElem?_eq_some_iff.mp h
  refine ⟨h1, ?_⟩
  rw [← h2]
  rfl
theorem ez_ch {α : Type} {c : Bool} {x y : Option α} {q : α} {P : Prop} (h : (bif c then x else y) = some q) (h1 : c = true → x = some q → P) (h2 : y = some q → P) : P := by
  cases c
  · exact h2 h
  · exact h1 rfl h
section Dec
variable {code : ByteArray} {pre : List UInt8} {b0 : UInt8} {t : List UInt8} {q : Instr × Nat}
theorem ez_h0 (H : code.data.toList = pre ++ b0 :: t) {v : Nat} (e : Nat.beq b0.toNat v = true) : ez_at code pre.length v := by
  rw [← es_beq.mp e]
  exact ez_get (by rw [H]; simp)
theorem ez_f0 {v : Nat} {ins : Instr} (H : code.data.toList = pre ++ b0 :: t) (hK : ez_K pre.length v = Pure.pure ins) (e : Nat.beq b0.toNat v = true) (hx : some (ins, 1) = some q) : decode code pre.length = .ok q := by
  rw [← Option.some.inj hx]
  exact ez_s0 (ez_h0 H e) hK
theorem ez_f1 {v : Nat} {f : Nat → Instr} (H : code.data.toList = pre ++ b0 :: t) (hK : ez_K pre.length v = (ClassFile.Reader.u1 >>= fun i => Pure.pure (f i))) (e : Nat.beq b0.toNat v = true) (hx : ez_o1 t f = some q) : decode code pre.length = .ok q := by
  match t, H, hx with
  | [], _, hx => cases hx
  | x :: t', H, hx =>
    rw [← Option.some.inj (show some (f x.toNat, 2) = some q from hx)]
    exact ez_su1 (ez_h0 H e) (ez_get (by rw [H]; simp)) hK
theorem ez_f2 {v : Nat} {f : Nat → Instr} (H : code.data.toList = pre ++ b0 :: t) (hK : ez_K pre.length v = (ClassFile.Reader.u2 >>= fun i => Pure.pure (f i))) (e : Nat.beq b0.toNat v = true) (hx : ez_o2 t f = some q) : decode code pre.length = .ok q := by
  match t, H, hx with
  | [], _, hx => cases hx
  | [_], _, hx => cases hx
  | x :: y :: t', H, hx =>
    rw [← Option.some.inj (show some (f (x.toNat * 256 + y.toNat), 3) = some q from hx)]
    exact ez_su2 (ez_h0 H e) (ez_get (by rw [H]; simp)) (ez_get (by rw [H]; simp)) hK
theorem ez_g1 {v : Nat} {f : Int → Instr} (H : code.data.toList = pre ++ b0 :: t) (hK : ez_K pre.length v = (ClassFile.Reader.s1 >>= fun i => Pure.pure (f i))) (e : Nat.beq b0.toNat v = true) (hx : ez_p1 t f = some q) : decode code pre.length = .ok q := by
  match t, H, hx with
  | [], _, hx => cases hx
  | x :: t', H, hx =>
    rw [← Option.some.inj (show some (f (ClassFile.Reader.signed 8 x.toNat), 2) = some q from hx)]
    exact ez_ss1 (ez_h0 H e) (ez_get (by rw [H]; simp)) hK
theorem ez_g2 {v : Nat} {f : Int → Instr} (H : code.data.toList = pre ++ b0 :: t) (hK : ez_K pre.length v = (ClassFile.Reader.s2 >>= fun i => Pure.pure (f i))) (e : Nat.beq b0.toNat v = true) (hx : ez_p2 t f = some q) : decode code pre.length = .ok q := by
  match t, H, hx with
  | [], _, hx => cases hx
  | [_], _, hx => cases hx
  | x :: y :: t', H, hx =>
    rw [← Option.some.inj (show some (f (ClassFile.Reader.signed 16 (x.toNat * 256 + y.toNat)), 3) = some q from hx)]
    exact ez_ss2 (ez_h0 H e) (ez_get (by rw [H]; simp)) (ez_get (by rw [H]; simp)) hK
theorem ez_gi (H : code.data.toList = pre ++ b0 :: t) (e : Nat.beq b0.toNat 132 = true) (hx : ez_pi t = some q) : decode code pre.length = .ok q := by
  match t, H, hx with
  | [], _, hx => cases hx
  | [_], _, hx => cases hx
  | x :: y :: t', H, hx =>
    rw [← Option.some.inj (show some (.iinc x.toNat (ClassFile.Reader.signed 8 y.toNat), 3) = some q from hx)]
    exact ez_inc (ez_h0 H e) (ez_get (by rw [H]; simp)) (ez_get (by rw [H]; simp))
def ez_d0 (b : Nat) (t : List UInt8) : Option (Instr × Nat) :=
  bif Nat.beq b 2 then some (.iconst (-1), 1) else
  bif Nat.beq b 3 then some (.iconst 0, 1) else
  bif Nat.beq b 4 then some (.iconst 1, 1) else
  bif Nat.beq b 5 then some (.iconst 2, 1) else
  bif Nat.beq b 6 then some (.iconst 3, 1) else
  bif Nat.beq b 7 then some (.iconst 4, 1) else
  bif Nat.beq b 8 then some (.iconst 5, 1) else
  bif Nat.beq b 9 then some (.lconst 0, 1) else
  bif Nat.beq b 10 then some (.lconst 1, 1) else
  none
theorem ez_d0_ok (H : code.data.toList = pre ++ b0 :: t) (h : ez_d0 b0.toNat t = some q) : decode code pre.length = .ok q := by
  unfold ez_d0 at h
  refine ez_ch h (fun e hx => ez_f0 H rfl e hx) (fun h => ?_)
  refine ez_ch h (fun e hx => ez_f0 H rfl e hx) (fun h => ?_)
  refine ez_ch h (fun e hx => ez_f0 H rfl e hx) (fun h => ?_)
  refine ez_ch h (fun e hx => ez_f0 H rfl e hx) (fun h => ?_)
  refine ez_ch h (fun e hx => ez_f0 H rfl e hx) (fun h => ?_)
  refine ez_ch h (fun e hx => ez_f0 H rfl e hx) (fun h => ?_)
  refine ez_ch h (fun e hx => ez_f0 H rfl e hx) (fun h => ?_)
  refine ez_ch h (fun e hx => ez_f0 H rfl e hx) (fun h => ?_)
  refine ez_ch h (fun e hx => ez_f0 H rfl e hx) (fun h => ?_)
  cases h
def ez_d1 (b : Nat) (t : List UInt8) : Option (Instr × Nat) :=
  bif Nat.beq b 16 then ez_p1 t (fun i => .bipush i) else
  bif Nat.beq b 17 then ez_p2 t (fun i => .sipush i) else
  bif Nat.beq b 18 then ez_o1 t (fun i => .ldc i) else
  bif Nat.beq b 19 then ez_o2 t (fun i => .ldc_w i) else
  bif Nat.beq b 20 then ez_o2 t (fun i => .ldc2_w i) else
  bif Nat.beq b 21 then ez_o1 t (fun i => .iload i) else
  bif Nat.beq b 22 then ez_o1 t (fun i => .lload i) else
  bif Nat.beq b 25 then ez_o1 t (fun i => .aload i) else
  bif Nat.beq b 26 then some (.iload_n 0, 1) else
  none
theorem ez_d1_ok (H : code.data.toList = pre ++ b0 :: t) (h : ez_d1 b0.toNat t = some q) : decode code pre.length = .ok q := by
  unfold ez_d1 at h
  refine ez_ch h (fun e hx => ez_g1 H rfl e hx) (fun h => ?_)
  refine ez_ch h (fun e hx => ez_g2 H rfl e hx) (fun h => ?_)
  refine ez_ch h (fun e hx => ez_f1 H rfl e hx) (fun h => ?_)
  refine ez_ch h (fun e hx => ez_f2 H rfl e hx) (fun h => ?_)
  refine ez_ch h (fun e hx => ez_f2 H rfl e hx) (fun h => ?_)
  refine ez_ch h (fun e hx => ez_f1 H rfl e hx) (fun h => ?_)
  refine ez_ch h (fun e hx => ez_f1 H rfl e hx) (fun h => ?_)
  refine ez_ch h (fun e hx => ez_f1 H rfl e hx) (fun h => ?_)
  refine ez_ch h (fun e hx => ez_f0 H rfl e hx) (fun h => ?_)
  cases h
def ez_d2 (b : Nat) (t : List UInt8) : Option (Instr × Nat) :=
  bif Nat.beq b 27 then some (.iload_n 1, 1) else
  bif Nat.beq b 28 then some (.iload_n 2, 1) else
  bif Nat.beq b 29 then some (.iload_n 3, 1) else
  bif Nat.beq b 30 then some (.lload_n 0, 1) else
  bif Nat.beq b 31 then some (.lload_n 1, 1) else
  bif Nat.beq b 32 then some (.lload_n 2, 1) else
  bif Nat.beq b 33 then some (.lload_n 3, 1) else
  bif Nat.beq b 42 then some (.aload_n 0, 1) else
  bif Nat.beq b 43 then some (.aload_n 1, 1) else
  none
theorem ez_d2_ok (H : code.data.toList = pre ++ b0 :: t) (h : ez_d2 b0.toNat t = some q) : decode code pre.length = .ok q := by
  unfold ez_d2 at h
  refine ez_ch h (fun e hx => ez_f0 H rfl e hx) (fun h => ?_)
  refine ez_ch h (fun e hx => ez_f0 H rfl e hx) (fun h => ?_)
  refine ez_ch h (fun e hx => ez_f0 H rfl e hx) (fun h => ?_)
  refine ez_ch h (fun e hx => ez_f0 H rfl e hx) (fun h => ?_)
  refine ez_ch h (fun e hx => ez_f0 H rfl e hx) (fun h => ?_)
  refine ez_ch h (fun e hx => ez_f0 H rfl e hx) (fun h => ?_)
  refine ez_ch h (fun e hx => ez_f0 H rfl e hx) (fun h => ?_)
  refine ez_ch h (fun e hx => ez_f0 H rfl e hx) (fun h => ?_)
  refine ez_ch h (fun e hx => ez_f0 H rfl e hx) (fun h => ?_)
  cases h
def ez_d3 (b : Nat) (t : List UInt8) : Option (Instr × Nat) :=
  bif Nat.beq b 44 then some (.aload_n 2, 1) else
  bif Nat.beq b 45 then some (.aload_n 3, 1) else
  bif Nat.beq b 46 then some (.iaload, 1) else
  bif Nat.beq b 47 then some (.laload, 1) else
  bif Nat.beq b 50 then some (.aaload, 1) else
  bif Nat.beq b 51 then some (.baload, 1) else
  bif Nat.beq b 54 then ez_o1 t (fun i => .istore i) else
  bif Nat.beq b 55 then ez_o1 t (fun i => .lstore i) else
  bif Nat.beq b 58 then ez_o1 t (fun i => .astore i) else
  none
theorem ez_d3_ok (H : code.data.toList = pre ++ b0 :: t) (h : ez_d3 b0.toNat t = some q) : decode code pre.length = .ok q := by
  unfold ez_d3 at h
  refine ez_ch h (fun e hx => ez_f0 H rfl e hx) (fun h => ?_)
  refine ez_ch h (fun e hx => ez_f0 H rfl e hx) (fun h => ?_)
  refine ez_ch h (fun e hx => ez_f0 H rfl e hx) (fun h => ?_)
  refine ez_ch h (fun e hx => ez_f0 H rfl e hx) (fun h => ?_)
  refine ez_ch h (fun e hx => ez_f0 H rfl e hx) (fun h => ?_)
  refine ez_ch h (fun e hx => ez_f0 H rfl e hx) (fun h => ?_)
  refine ez_ch h (fun e hx => ez_f1 H rfl e hx) (fun h => ?_)
  refine ez_ch h (fun e hx => ez_f1 H rfl e hx) (fun h => ?_)
  refine ez_ch h (fun e hx => ez_f1 H rfl e hx) (fun h => ?_)
  cases h
def ez_d4 (b : Nat) (t : List UInt8) : Option (Instr × Nat) :=
  bif Nat.beq b 59 then some (.istore_n 0, 1) else
  bif Nat.beq b 60 then some (.istore_n 1, 1) else
  bif Nat.beq b 61 then some (.istore_n 2, 1) else
  bif Nat.beq b 62 then some (.istore_n 3, 1) else
  bif Nat.beq b 63 then some (.lstore_n 0, 1) else
  bif Nat.beq b 64 then some (.lstore_n 1, 1) else
  bif Nat.beq b 65 then some (.lstore_n 2, 1) else
  bif Nat.beq b 66 then some (.lstore_n 3, 1) else
  bif Nat.beq b 75 then some (.astore_n 0, 1) else
  none
theorem ez_d4_ok (H : code.data.toList = pre ++ b0 :: t) (h : ez_d4 b0.toNat t = some q) : decode code pre.length = .ok q := by
  unfold ez_d4 at h
  refine ez_ch h (fun e hx => ez_f0 H rfl e hx) (fun h => ?_)
  refine ez_ch h (fun e hx => ez_f0 H rfl e hx) (fun h => ?_)
  refine ez_ch h (fun e hx => ez_f0 H rfl e hx) (fun h => ?_)
  refine ez_ch h (fun e hx => ez_f0 H rfl e hx) (fun h => ?_)
  refine ez_ch h (fun e hx => ez_f0 H rfl e hx) (fun h => ?_)
  refine ez_ch h (fun e hx => ez_f0 H rfl e hx) (fun h => ?_)
  refine ez_ch h (fun e hx => ez_f0 H rfl e hx) (fun h => ?_)
  refine ez_ch h (fun e hx => ez_f0 H rfl e hx) (fun h => ?_)
  refine ez_ch h (fun e hx => ez_f0 H rfl e hx) (fun h => ?_)
  cases h
def ez_d5 (b : Nat) (t : List UInt8) : Option (Instr × Nat) :=
  bif Nat.beq b 76 then some (.astore_n 1, 1) else
  bif Nat.beq b 77 then some (.astore_n 2, 1) else
  bif Nat.beq b 78 then some (.astore_n 3, 1) else
  bif Nat.beq b 79 then some (.iastore, 1) else
  bif Nat.beq b 80 then some (.lastore, 1) else
  bif Nat.beq b 83 then some (.aastore, 1) else
  bif Nat.beq b 84 then some (.bastore, 1) else
  bif Nat.beq b 87 then some (.pop, 1) else
  bif Nat.beq b 89 then some (.dup, 1) else
  none
theorem ez_d5_ok (H : code.data.toList = pre ++ b0 :: t) (h : ez_d5 b0.toNat t = some q) : decode code pre.length = .ok q := by
  unfold ez_d5 at h
  refine ez_ch h (fun e hx => ez_f0 H rfl e hx) (fun h => ?_)
  refine ez_ch h (fun e hx => ez_f0 H rfl e hx) (fun h => ?_)
  refine ez_ch h (fun e hx => ez_f0 H rfl e hx) (fun h => ?_)
  refine ez_ch h (fun e hx => ez_f0 H rfl e hx) (fun h => ?_)
  refine ez_ch h (fun e hx => ez_f0 H rfl e hx) (fun h => ?_)
  refine ez_ch h (fun e hx => ez_f0 H rfl e hx) (fun h => ?_)
  refine ez_ch h (fun e hx => ez_f0 H rfl e hx) (fun h => ?_)
  refine ez_ch h (fun e hx => ez_f0 H rfl e hx) (fun h => ?_)
  refine ez_ch h (fun e hx => ez_f0 H rfl e hx) (fun h => ?_)
  cases h
def ez_d6 (b : Nat) (t : List UInt8) : Option (Instr × Nat) :=
  bif Nat.beq b 92 then some (.dup2, 1) else
  bif Nat.beq b 96 then some (.iadd, 1) else
  bif Nat.beq b 97 then some (.ladd, 1) else
  bif Nat.beq b 100 then some (.isub, 1) else
  bif Nat.beq b 101 then some (.lsub, 1) else
  bif Nat.beq b 104 then some (.imul, 1) else
  bif Nat.beq b 105 then some (.lmul, 1) else
  bif Nat.beq b 109 then some (.ldiv, 1) else
  bif Nat.beq b 112 then some (.irem, 1) else
  none
theorem ez_d6_ok (H : code.data.toList = pre ++ b0 :: t) (h : ez_d6 b0.toNat t = some q) : decode code pre.length = .ok q := by
  unfold ez_d6 at h
  refine ez_ch h (fun e hx => ez_f0 H rfl e hx) (fun h => ?_)
  refine ez_ch h (fun e hx => ez_f0 H rfl e hx) (fun h => ?_)
  refine ez_ch h (fun e hx => ez_f0 H rfl e hx) (fun h => ?_)
  refine ez_ch h (fun e hx => ez_f0 H rfl e hx) (fun h => ?_)
  refine ez_ch h (fun e hx => ez_f0 H rfl e hx) (fun h => ?_)
  refine ez_ch h (fun e hx => ez_f0 H rfl e hx) (fun h => ?_)
  refine ez_ch h (fun e hx => ez_f0 H rfl e hx) (fun h => ?_)
  refine ez_ch h (fun e hx => ez_f0 H rfl e hx) (fun h => ?_)
  refine ez_ch h (fun e hx => ez_f0 H rfl e hx) (fun h => ?_)
  cases h
def ez_d7 (b : Nat) (t : List UInt8) : Option (Instr × Nat) :=
  bif Nat.beq b 120 then some (.ishl, 1) else
  bif Nat.beq b 121 then some (.lshl, 1) else
  bif Nat.beq b 122 then some (.ishr, 1) else
  bif Nat.beq b 123 then some (.lshr, 1) else
  bif Nat.beq b 124 then some (.iushr, 1) else
  bif Nat.beq b 125 then some (.lushr, 1) else
  bif Nat.beq b 126 then some (.iand, 1) else
  bif Nat.beq b 127 then some (.land, 1) else
  bif Nat.beq b 129 then some (.lor, 1) else
  none
theorem ez_d7_ok (H : code.data.toList = pre ++ b0 :: t) (h : ez_d7 b0.toNat t = some q) : decode code pre.length = .ok q := by
  unfold ez_d7 at h
  refine ez_ch h (fun e hx => ez_f0 H rfl e hx) (fun h => ?_)
  refine ez_ch h (fun e hx => ez_f0 H rfl e hx) (fun h => ?_)
  refine ez_ch h (fun e hx => ez_f0 H rfl e hx) (fun h => ?_)
  refine ez_ch h (fun e hx => ez_f0 H rfl e hx) (fun h => ?_)
  refine ez_ch h (fun e hx => ez_f0 H rfl e hx) (fun h => ?_)
  refine ez_ch h (fun e hx => ez_f0 H rfl e hx) (fun h => ?_)
  refine ez_ch h (fun e hx => ez_f0 H rfl e hx) (fun h => ?_)
  refine ez_ch h (fun e hx => ez_f0 H rfl e hx) (fun h => ?_)
  refine ez_ch h (fun e hx => ez_f0 H rfl e hx) (fun h => ?_)
  cases h
def ez_d8 (b : Nat) (t : List UInt8) : Option (Instr × Nat) :=
  bif Nat.beq b 130 then some (.ixor, 1) else
  bif Nat.beq b 132 then ez_pi t else
  bif Nat.beq b 133 then some (.i2l, 1) else
  bif Nat.beq b 136 then some (.l2i, 1) else
  bif Nat.beq b 148 then some (.lcmp, 1) else
  bif Nat.beq b 153 then ez_p2 t (fun i => .ifCond .eq i) else
  bif Nat.beq b 154 then ez_p2 t (fun i => .ifCond .ne i) else
  bif Nat.beq b 155 then ez_p2 t (fun i => .ifCond .lt i) else
  bif Nat.beq b 156 then ez_p2 t (fun i => .ifCond .ge i) else
  none
theorem ez_d8_ok (H : code.data.toList = pre ++ b0 :: t) (h : ez_d8 b0.toNat t = some q) : decode code pre.length = .ok q := by
  unfold ez_d8 at h
  refine ez_ch h (fun e hx => ez_f0 H rfl e hx) (fun h => ?_)
  refine ez_ch h (fun e hx => ez_gi H e hx) (fun h => ?_)
  refine ez_ch h (fun e hx => ez_f0 H rfl e hx) (fun h => ?_)
  refine ez_ch h (fun e hx => ez_f0 H rfl e hx) (fun h => ?_)
  refine ez_ch h (fun e hx => ez_f0 H rfl e hx) (fun h => ?_)
  refine ez_ch h (fun e hx => ez_g2 H rfl e hx) (fun h => ?_)
  refine ez_ch h (fun e hx => ez_g2 H rfl e hx) (fun h => ?_)
  refine ez_ch h (fun e hx => ez_g2 H rfl e hx) (fun h => ?_)
  refine ez_ch h (fun e hx => ez_g2 H rfl e hx) (fun h => ?_)
  cases h
def ez_d9 (b : Nat) (t : List UInt8) : Option (Instr × Nat) :=
  bif Nat.beq b 157 then ez_p2 t (fun i => .ifCond .gt i) else
  bif Nat.beq b 158 then ez_p2 t (fun i => .ifCond .le i) else
  bif Nat.beq b 159 then ez_p2 t (fun i => .if_icmp .eq i) else
  bif Nat.beq b 160 then ez_p2 t (fun i => .if_icmp .ne i) else
  bif Nat.beq b 161 then ez_p2 t (fun i => .if_icmp .lt i) else
  bif Nat.beq b 162 then ez_p2 t (fun i => .if_icmp .ge i) else
  bif Nat.beq b 163 then ez_p2 t (fun i => .if_icmp .gt i) else
  bif Nat.beq b 164 then ez_p2 t (fun i => .if_icmp .le i) else
  bif Nat.beq b 167 then ez_p2 t (fun i => .goto i) else
  none
theorem ez_d9_ok (H : code.data.toList = pre ++ b0 :: t) (h : ez_d9 b0.toNat t = some q) : decode code pre.length = .ok q := by
  unfold ez_d9 at h
  refine ez_ch h (fun e hx => ez_g2 H rfl e hx) (fun h => ?_)
  refine ez_ch h (fun e hx => ez_g2 H rfl e hx) (fun h => ?_)
  refine ez_ch h (fun e hx => ez_g2 H rfl e hx) (fun h => ?_)
  refine ez_ch h (fun e hx => ez_g2 H rfl e hx) (fun h => ?_)
  refine ez_ch h (fun e hx => ez_g2 H rfl e hx) (fun h => ?_)
  refine ez_ch h (fun e hx => ez_g2 H rfl e hx) (fun h => ?_)
  refine ez_ch h (fun e hx => ez_g2 H rfl e hx) (fun h => ?_)
  refine ez_ch h (fun e hx => ez_g2 H rfl e hx) (fun h => ?_)
  refine ez_ch h (fun e hx => ez_g2 H rfl e hx) (fun h => ?_)
  cases h
def ez_d10 (b : Nat) (t : List UInt8) : Option (Instr × Nat) :=
  bif Nat.beq b 172 then some (.ireturn, 1) else
  bif Nat.beq b 173 then some (.lreturn, 1) else
  bif Nat.beq b 176 then some (.areturn, 1) else
  bif Nat.beq b 177 then some (.return_, 1) else
  bif Nat.beq b 180 then ez_o2 t (fun i => .getfield i) else
  bif Nat.beq b 181 then ez_o2 t (fun i => .putfield i) else
  bif Nat.beq b 182 then ez_o2 t (fun i => .invokevirtual i) else
  bif Nat.beq b 183 then ez_o2 t (fun i => .invokespecial i) else
  bif Nat.beq b 184 then ez_o2 t (fun i => .invokestatic i) else
  none
theorem ez_d10_ok (H : code.data.toList = pre ++ b0 :: t) (h : ez_d10 b0.toNat t = some q) : decode code pre.length = .ok q := by
  unfold ez_d10 at h
  refine ez_ch h (fun e hx => ez_f0 H rfl e hx) (fun h => ?_)
  refine ez_ch h (fun e hx => ez_f0 H rfl e hx) (fun h => ?_)
  refine ez_ch h (fun e hx => ez_f0 H rfl e hx) (fun h => ?_)
  refine ez_ch h (fun e hx => ez_f0 H rfl e hx) (fun h => ?_)
  refine ez_ch h (fun e hx => ez_f2 H rfl e hx) (fun h => ?_)
  refine ez_ch h (fun e hx => ez_f2 H rfl e hx) (fun h => ?_)
  refine ez_ch h (fun e hx => ez_f2 H rfl e hx) (fun h => ?_)
  refine ez_ch h (fun e hx => ez_f2 H rfl e hx) (fun h => ?_)
  refine ez_ch h (fun e hx => ez_f2 H rfl e hx) (fun h => ?_)
  cases h
def ez_d11 (b : Nat) (t : List UInt8) : Option (Instr × Nat) :=
  bif Nat.beq b 187 then ez_o2 t (fun i => .new i) else
  bif Nat.beq b 189 then ez_o2 t (fun i => .anewarray i) else
  bif Nat.beq b 190 then some (.arraylength, 1) else
  bif Nat.beq b 198 then ez_p2 t (fun i => .ifnull i) else
  bif Nat.beq b 199 then ez_p2 t (fun i => .ifnonnull i) else
  none
theorem ez_d11_ok (H : code.data.toList = pre ++ b0 :: t) (h : ez_d11 b0.toNat t = some q) : decode code pre.length = .ok q := by
  unfold ez_d11 at h
  refine ez_ch h (fun e hx => ez_f2 H rfl e hx) (fun h => ?_)
  refine ez_ch h (fun e hx => ez_f2 H rfl e hx) (fun h => ?_)
  refine ez_ch h (fun e hx => ez_f0 H rfl e hx) (fun h => ?_)
  refine ez_ch h (fun e hx => ez_g2 H rfl e hx) (fun h => ?_)
  refine ez_ch h (fun e hx => ez_g2 H rfl e hx) (fun h => ?_)
  cases h
def ez_dec (b : Nat) (t : List UInt8) : Option (Instr × Nat) :=
  bif Nat.ble b 10 then ez_d0 b t else
  bif Nat.ble b 26 then ez_d1 b t else
  bif Nat.ble b 43 then ez_d2 b t else
  bif Nat.ble b 58 then ez_d3 b t else
  bif Nat.ble b 75 then ez_d4 b t else
  bif Nat.ble b 89 then ez_d5 b t else
  bif Nat.ble b 112 then ez_d6 b t else
  bif Nat.ble b 129 then ez_d7 b t else
  bif Nat.ble b 156 then ez_d8 b t else
  bif Nat.ble b 167 then ez_d9 b t else
  bif Nat.ble b 184 then ez_d10 b t else
  ez_d11 b t
theorem ez_dec_ok (H : code.data.toList = pre ++ b0 :: t) (h : ez_dec b0.toNat t = some q) : decode code pre.length = .ok q := by
  unfold ez_dec at h
  refine ez_ch h (fun _ hx => ez_d0_ok H hx) (fun h => ?_)
  refine ez_ch h (fun _ hx => ez_d1_ok H hx) (fun h => ?_)
  refine ez_ch h (fun _ hx => ez_d2_ok H hx) (fun h => ?_)
  refine ez_ch h (fun _ hx => ez_d3_ok H hx) (fun h => ?_)
  refine ez_ch h (fun _ hx => ez_d4_ok H hx) (fun h => ?_)
  refine ez_ch h (fun _ hx => ez_d5_ok H hx) (fun h => ?_)
  refine ez_ch h (fun _ hx => ez_d6_ok H hx) (fun h => ?_)
  refine ez_ch h (fun _ hx => ez_d7_ok H hx) (fun h => ?_)
  refine ez_ch h (fun _ hx => ez_d8_ok H hx) (fun h => ?_)
  refine ez_ch h (fun _ hx => ez_d9_ok H hx) (fun h => ?_)
  refine ez_ch h (fun _ hx => ez_d10_ok H hx) (fun h => ?_)
  exact ez_d11_ok H h
end Dec
def ez_row (code : ByteArray) (b : UInt8) (r : List UInt8) (E : es_I) : Bool := (match ez_dec b.toNat r with
  | some q => decide (q = (E.2.1, E.2.2.1))
  | none => decide (decode code E.1 = .ok (E.2.1, E.2.2.1))) && (match E.2.1 with
  | .tableswitch _ _ _ _ => true
  | _ => Nat.beq E.2.2.1 (es_len E.2.1))
def ez_wlk (code : ByteArray) : List UInt8 → Nat → List es_I → Bool
  | _, _, [] => true
  | bs, pos, E :: t => match bs.drop (E.1 - pos) with
    | [] => false
    | b :: r => (Nat.ble pos E.1 && ez_row code b r E) && ez_wlk code (b :: r) E.1 t
theorem ez_row_ok {M : es_M} {pre : List UInt8} {b : UInt8} {r : List UInt8} {E : es_I} (H : (es_code M).data.toList = pre ++ b :: r) (hp : pre.length = E.1) (h : ez_row (es_code M) b r E = true) : es_dok M E = true := by
  unfold ez_row at h
  rw [Bool.and_eq_true] at h
  unfold es_dok
  rw [Bool.and_eq_true]
  refine ⟨?_, h.2⟩
  have h1 := h.1
  cases hd : ez_dec b.toNat r with
  | none =>
    rw [hd] at h1
    exact h1
  | some q =>
    rw [hd] at h1
    have e := of_decide_eq_true h1
    have h2 := ez_dec_ok H hd
    rw [hp, e] at h2
    exact decide_eq_true h2
theorem ez_wlk_ok {M : es_M} : ∀ (rows : List es_I) (bs pre : List UInt8), (es_code M).data.toList = pre ++ bs → ez_wlk (es_code M) bs pre.length rows = true → ∀ E ∈ rows, es_dok M E = true
  | [], _, _, _, _, E, hE => by cases hE
  | F :: t, bs, pre, H, h, E, hE => by
    unfold ez_wlk at h
    cases hd : bs.drop (F.1 - pre.length) with
    | nil => rw [hd] at h; cases h
    | cons b r =>
      rw [hd] at h
      dsimp only at h
      rw [Bool.and_eq_true, Bool.and_eq_true, Nat.ble_eq] at h
      obtain ⟨⟨h1, h2⟩, h3⟩ := h
      have hl : F.1 - pre.length < bs.length := by
        have h4 := congrArg List.length hd
        rw [List.length_drop, List.length_cons] at h4
        omega
      have H2 : (es_code M).data.toList = (pre ++ bs.take (F.1 - pre.length)) ++ b :: r := by
        rw [H, List.append_assoc, ← hd, List.take_append_drop]
      have hp : (pre ++ bs.take (F.1 - pre.length)).length = F.1 := by
        rw [List.length_append, List.length_take]
        omega
      rcases List.mem_cons.mp hE with rfl | hE
      · exact ez_row_ok H2 hp h2
      · exact ez_wlk_ok t (b :: r) _ H2 (by rw [hp]; exact h3) E hE
noncomputable def ez_dk (T : es_M) : Bool := ez_wlk (es_code T) (es_code T).data.toList 0 ((es_tab T).flatMap (fun q => q.2))
theorem ez_dk_ok {T : es_M} (h : ez_dk T = true) : ∀ q ∈ es_tab T, ∀ E ∈ q.2, es_dok T E = true := fun q hq E hE =>
  ez_wlk_ok (M := T) _ _ [] rfl h E (List.mem_flatMap.mpr ⟨q, hq, hE⟩)
noncomputable def ez_e2 (T : es_M) (E : es_I) : Bool := es_tok es_WS es_wx es_strs T E && ((es_hok es_WS T E && es_cok es_ME es_WS es_wx T E) && es_twb T E)
theorem ez_e2_ok {T : es_M} (hd : ez_dk T = true) {l : List (Nat × List es_I)} (hl : ∀ q ∈ l, q ∈ es_tab T) (h : l.all (fun q => q.2.all (ez_e2 T)) = true) : l.all (fun q => q.2.all (es_echk T)) = true := by
  rw [List.all_eq_true]
  intro q hq
  rw [List.all_eq_true]
  intro E hE
  have h1 := List.all_eq_true.mp (List.all_eq_true.mp h q hq) E hE
  have h2 := ez_dk_ok hd q (hl q hq) E hE
  unfold ez_e2 at h1
  rw [Bool.and_eq_true] at h1
  unfold es_echk
  rw [h2, h1.1, h1.2]
  rfl
noncomputable def ez_mc (T : es_M) (C : List (Nat × List (Nat × es_C))) (j : Nat) : Bool :=
  ((decide (es_own T = (es_y T).cls) && plainName (es_y T).cls) && ((ez_dk T && (es_tab T).all (fun q => q.2.all (ez_e2 T))) && (es_hh T).all (es_hchk T))) && ((Nat.ble (es_lo T) 84000 && (Nat.ble 84000 (es_lo T) || es_wj es_WS j (es_cw T))) && C.all (fun q => q.2.all (fun x => es_qq (es_at (es_tab T) x.1) x)))
theorem ez_mc_ok {T : es_M} {C : List (Nat × List (Nat × es_C))} {j : Nat} (h : ez_mc T C j = true) : es_mchk T C j = true := by
  unfold ez_mc at h
  simp only [Bool.and_eq_true] at h
  obtain ⟨⟨h1, ⟨h2, h3⟩, h4⟩, h5⟩ := h
  unfold es_mchk
  simp only [Bool.and_eq_true]
  exact ⟨⟨h1, ez_e2_ok h2 (fun q hq => hq) h3, h4⟩, h5⟩
noncomputable def ez_mck (n : Nat) : Bool := ez_mc (es_ME n) (es_CT n) (es_jws[n]?.getD 0)
end
section
theorem ez_mk0 : (List.range' 0 13).all ez_mck = true := by decide +kernel
theorem ez_mk13 : (List.range' 13 13).all ez_mck = true := by decide +kernel
theorem ez_mk26 : (List.range' 26 13).all ez_mck = true := by decide +kernel
theorem ez_mk39 : (List.range' 39 13).all ez_mck = true := by decide +kernel
theorem ez_mk52 : (List.range' 52 13).all ez_mck = true := by decide +kernel
theorem ez_mk65 : (List.range' 65 13).all ez_mck = true := by decide +kernel
theorem ez_mk78 : (List.range' 78 13).all ez_mck = true := by decide +kernel
theorem ez_mk91 : (List.range' 91 13).all ez_mck = true := by decide +kernel
theorem ez_mk104 : (List.range' 104 13).all ez_mck = true := by decide +kernel
theorem ez_mk117 : (List.range' 117 13).all ez_mck = true := by decide +kernel
theorem ez_mk130 : (List.range' 130 13).all ez_mck = true := by decide +kernel
theorem ez_mk143 : (List.range' 143 13).all ez_mck = true := by decide +kernel
theorem ez_mk156 : (List.range' 156 13).all ez_mck = true := by decide +kernel
theorem ez_mk169 : (List.range' 169 13).all ez_mck = true := by decide +kernel
theorem ez_mk182 : (List.range' 182 12).all ez_mck = true := by decide +kernel
theorem ez_mk195 : (List.range' 195 1).all ez_mck = true := by decide +kernel
end
section
theorem ez_chop {α : Type} (f : α → Bool) : ∀ (n : Nat) (l : List α), l.length ≤ 12 * n → (∀ i, i < n → ((l.drop (12 * i)).take 12).all f = true) → l.all f = true
  | 0, l, h, _ => by
    have e : l = [] := List.eq_nil_of_length_eq_zero (by omega)
    rw [e]; rfl
  | n + 1, l, h, hp => by
    have h0 := hp 0 (by omega)
    rw [Nat.mul_zero, List.drop_zero] at h0
    have h1 := ez_chop f n (l.drop 12) (by rw [List.length_drop]; omega) (fun i hi => by
      have h2 := hp (i + 1) (by omega)
      rw [List.drop_drop, show 12 + 12 * i = 12 * (i + 1) by omega]
      exact h2)
    rw [← List.take_append_drop 12 l, List.all_append, h0, h1]
    rfl
noncomputable def ez_lpc (i : Nat) : Bool := (((es_tab (es_ME 194)).drop (12 * i)).take 12).all (fun q => q.2.all (ez_e2 (es_ME 194)))
theorem ez_lp0 : ez_lpc 0 = true := by decide +kernel
theorem ez_lp1 : ez_lpc 1 = true := by decide +kernel
theorem ez_lp2 : ez_lpc 2 = true := by decide +kernel
theorem ez_lp3 : ez_lpc 3 = true := by decide +kernel
theorem ez_lp4 : ez_lpc 4 = true := by decide +kernel
theorem ez_lp5 : ez_lpc 5 = true := by decide +kernel
theorem ez_lp6 : ez_lpc 6 = true := by decide +kernel
theorem ez_lp7 : ez_lpc 7 = true := by decide +kernel
theorem ez_lp8 : ez_lpc 8 = true := by decide +kernel
theorem ez_lp9 : ez_lpc 9 = true := by decide +kernel
theorem ez_lp10 : ez_lpc 10 = true := by decide +kernel
theorem ez_lp11 : ez_lpc 11 = true := by decide +kernel
theorem ez_lpn : (es_tab (es_ME 194)).length ≤ 12 * 12 := by decide +kernel
theorem ez_lpd : ez_dk (es_ME 194) = true := by decide +kernel
theorem ez_lpb : (es_tab (es_ME 194)).all (fun q => q.2.all (ez_e2 (es_ME 194))) = true := by
  refine ez_chop _ 12 _ ez_lpn (fun i hi => ?_)
  match i, hi with
  | 0, _ => exact ez_lp0
  | 1, _ => exact ez_lp1
  | 2, _ => exact ez_lp2
  | 3, _ => exact ez_lp3
  | 4, _ => exact ez_lp4
  | 5, _ => exact ez_lp5
  | 6, _ => exact ez_lp6
  | 7, _ => exact ez_lp7
  | 8, _ => exact ez_lp8
  | 9, _ => exact ez_lp9
  | 10, _ => exact ez_lp10
  | 11, _ => exact ez_lp11
  | i + 12, h => exact absurd h (by omega)
theorem ez_lpr : (decide (es_own (es_ME 194) = (es_y (es_ME 194)).cls) && plainName (es_y (es_ME 194)).cls) = true := by decide +kernel
theorem ez_lph : (es_hh (es_ME 194)).all (es_hchk (es_ME 194)) = true := by decide +kernel
theorem ez_lpl : (Nat.ble (es_lo (es_ME 194)) 84000 && (Nat.ble 84000 (es_lo (es_ME 194)) || es_wj es_WS (es_jws[194]?.getD 0) (es_cw (es_ME 194)))) = true := by decide +kernel
theorem ez_lpq : (es_CT 194).all (fun q => q.2.all (fun x => es_qq (es_at (es_tab (es_ME 194)) x.1) x)) = true := by decide +kernel
theorem ez_lpm : es_mck 194 = true := by
  unfold es_mck es_mchk
  rw [ez_lpr, ez_e2_ok ez_lpd (fun q hq => hq) ez_lpb, ez_lph, ez_lpl, ez_lpq]
  rfl
end
section
theorem es_mall (n : Nat) (hn : n < 196) : es_mck n = true := by
  by_cases hl : n = 194
  · rw [hl]; exact ez_lpm
  by_cases h0 : n < 13
  · exact ez_mc_ok (List.all_eq_true.mp ez_mk0 n (List.mem_range'_1.mpr ⟨by omega, by omega⟩))
  by_cases h13 : n < 26
  · exact ez_mc_ok (List.all_eq_true.mp ez_mk13 n (List.mem_range'_1.mpr ⟨by omega, by omega⟩))
  by_cases h26 : n < 39
  · exact ez_mc_ok (List.all_eq_true.mp ez_mk26 n (List.mem_range'_1.mpr ⟨by omega, by omega⟩))
  by_cases h39 : n < 52
  · exact ez_mc_ok (List.all_eq_true.mp ez_mk39 n (List.mem_range'_1.mpr ⟨by omega, by omega⟩))
  by_cases h52 : n < 65
  · exact ez_mc_ok (List.all_eq_true.mp ez_mk52 n (List.mem_range'_1.mpr ⟨by omega, by omega⟩))
  by_cases h65 : n < 78
  · exact ez_mc_ok (List.all_eq_true.mp ez_mk65 n (List.mem_range'_1.mpr ⟨by omega, by omega⟩))
  by_cases h78 : n < 91
  · exact ez_mc_ok (List.all_eq_true.mp ez_mk78 n (List.mem_range'_1.mpr ⟨by omega, by omega⟩))
  by_cases h91 : n < 104
  · exact ez_mc_ok (List.all_eq_true.mp ez_mk91 n (List.mem_range'_1.mpr ⟨by omega, by omega⟩))
  by_cases h104 : n < 117
  · exact ez_mc_ok (List.all_eq_true.mp ez_mk104 n (List.mem_range'_1.mpr ⟨by omega, by omega⟩))
  by_cases h117 : n < 130
  · exact ez_mc_ok (List.all_eq_true.mp ez_mk117 n (List.mem_range'_1.mpr ⟨by omega, by omega⟩))
  by_cases h130 : n < 143
  · exact ez_mc_ok (List.all_eq_true.mp ez_mk130 n (List.mem_range'_1.mpr ⟨by omega, by omega⟩))
  by_cases h143 : n < 156
  · exact ez_mc_ok (List.all_eq_true.mp ez_mk143 n (List.mem_range'_1.mpr ⟨by omega, by omega⟩))
  by_cases h156 : n < 169
  · exact ez_mc_ok (List.all_eq_true.mp ez_mk156 n (List.mem_range'_1.mpr ⟨by omega, by omega⟩))
  by_cases h169 : n < 182
  · exact ez_mc_ok (List.all_eq_true.mp ez_mk169 n (List.mem_range'_1.mpr ⟨by omega, by omega⟩))
  by_cases h182 : n < 194
  · exact ez_mc_ok (List.all_eq_true.mp ez_mk182 n (List.mem_range'_1.mpr ⟨by omega, by omega⟩))
  by_cases h195 : n < 196
  · exact ez_mc_ok (List.all_eq_true.mp ez_mk195 n (List.mem_range'_1.mpr ⟨by omega, by omega⟩))
  omega
end
section
theorem es_ME_hi {n : Nat} (h : 196 ≤ n) : es_ME n = em_0 ∧ es_CT n = [] := by
  have h1 : 14 ≤ n / 14 := by omega
  have h2 : em_l[n / 14]? = none := List.getElem?_eq_none h1
  have h3 : ec_l[n / 14]? = none := List.getElem?_eq_none h1
  unfold es_ME es_CT
  rw [h2, h3]
  exact ⟨rfl, rfl⟩
theorem es_ME_0 : es_ME 0 = em_0 := rfl
theorem es_mT (n : Nat) : ∃ k, es_mck k = true ∧ es_ME n = es_ME k ∧ (es_CT n = es_CT k ∨ es_CT n = []) := by
  by_cases h : n < 196
  · exact ⟨n, es_mall n h, rfl, Or.inl rfl⟩
  · obtain ⟨h1, h2⟩ := es_ME_hi (n := n) (by omega)
    exact ⟨0, es_mall 0 (by omega), h1.trans es_ME_0.symm, Or.inr h2⟩
theorem es_mfacts {k : Nat} (h : es_mck k = true) : (es_own (es_ME k) = (es_y (es_ME k)).cls ∧ plainName (es_y (es_ME k)).cls = true) ∧ (∀ q ∈ es_tab (es_ME k), ∀ E ∈ q.2, es_echk (es_ME k) E = true) ∧ (∀ q ∈ es_hh (es_ME k), es_hchk (es_ME k) q = true) ∧ (es_lo (es_ME k) ≤ 84000 ∧ (es_lo (es_ME k) < 84000 → es_cw (es_ME k) ∈ es_WS)) ∧ ∀ q ∈ es_CT k, ∀ x ∈ q.2, es_qq (es_at (es_tab (es_ME k)) x.1) x = true := by
  unfold es_mck es_mchk at h
  simp only [Bool.and_eq_true, Bool.or_eq_true, Nat.ble_eq] at h
  obtain ⟨⟨⟨h1, h2⟩, h3, h4⟩, ⟨h5, h6⟩, h7⟩ := h
  refine ⟨⟨of_decide_eq_true h1, h2⟩, fun q hq E hE => List.all_eq_true.mp (List.all_eq_true.mp h3 q hq) E hE, fun q hq => List.all_eq_true.mp h4 q hq, ⟨h5, fun h8 => ?_⟩, fun q hq x hx => List.all_eq_true.mp (List.all_eq_true.mp h7 q hq) x hx⟩
  rcases h6 with h6 | h6
  · exact absurd h6 (by omega)
  · exact es_wj_in h6
theorem es_G0 : es_GH es_strs es_wx es_WS es_ME := by
  refine ⟨es_WSg, es_uall, es_wxo, fun M => ?_, fun M => ?_, fun M => ?_, fun M => ?_⟩
  · obtain ⟨k, hk, e, -⟩ := es_mT M
    obtain ⟨h1, h2, -⟩ := es_mfacts hk
    rw [e]
    refine ⟨h1, fun q hq E hE => ?_, fun q hq E hE => ?_⟩
    · have h3 := h2 q hq E hE
      unfold es_echk at h3
      simp only [Bool.and_eq_true] at h3
      exact es_twb_ok h3.2.2
    · have h3 := h2 q hq E hE
      unfold es_echk at h3
      simp only [Bool.and_eq_true] at h3
      exact h3.1
  · obtain ⟨k, hk, e, -⟩ := es_mT M
    obtain ⟨-, -, -, h4, -⟩ := es_mfacts hk
    rw [e]
    exact h4
  · obtain ⟨k, hk, e, -⟩ := es_mT M
    obtain ⟨-, h2, -⟩ := es_mfacts hk
    rw [e]
    intro q hq E hE
    have h3 := h2 q hq E hE
    unfold es_echk at h3
    simp only [Bool.and_eq_true] at h3
    exact h3.2.1
  · obtain ⟨k, hk, e, -⟩ := es_mT M
    obtain ⟨-, -, h3, -⟩ := es_mfacts hk
    rw [e]
    intro q hq
    have h4 := h3 q hq
    unfold es_hchk at h4
    simp only [Bool.and_eq_true, es_blt] at h4
    obtain ⟨⟨h5, h6⟩, h7⟩ := h4
    refine ⟨fun e0 => ?_, h6, es_wj_in h7⟩
    rw [es_beq.mpr e0] at h5
    cases h5
theorem es_C0 : ∀ M, ∀ q ∈ es_CT M, ∀ x ∈ q.2, es_qq (es_at (es_tab (es_ME M)) x.1) x = true := by
  intro M
  obtain ⟨k, hk, e, e2⟩ := es_mT M
  obtain ⟨-, -, -, -, h5⟩ := es_mfacts hk
  rcases e2 with e2 | e2
  · rw [e, e2]; exact h5
  · rw [e2]; intro q hq; cases hq
end
section
def R_law : String := "NailGoldLaw"
def lw_P (b : Addr) (xs : List Int32) (args : Array Value) (s : State) : Prop := args = #[.ref b] ∧ s.IntsAt b xs ∧ xs.length ≤ 6 ∧ (Jvm.Cond.and given_1 narrow_1).before args s = true
def lw_Q (_ : Array Value) (s : State) (o : Outcome) (t : State) : Prop := o = .returned (some (.int 1)) ∧ Framed s o t [] 600002 7302232
def lw_Z (below : List Frame) (a : Array Value) (s : State) : State → Prop := fun t => ∃ o, t.status = .running ∧ Ended t below o ∧ lw_Q a s o t
theorem lw_ret {p : Program} {l : Launch} {e : Env} {s : State} {m : MethodId} {below : List Frame} {meth : Method} {c : Code} {b : Nat} (hx : p.tables.exec = Jvm.exec) (hb : c.code = code) (hr : meth.sig.returnType = ret) (hlocks : meth.locks = false) {pc : Nat} {H : Heap} {ls : Array Slot} (hdg : decode code pc = .ok (.ireturn, 1)) : W p l e room_1 s m #[Value.ref b] below meth c H [] 600002 7302232 (lw_Z below #[Value.ref b] s) (F0 m pc ls [.int 1]) := by
  intro T hT X
  obtain ⟨fs, hret, hrun, hended, hW, hframe⟩ := X.leave (v := some (.int 1)) (hlocks := hlocks) (fun h => by rw [hr] at h; cases h)
  have hmeth' : T.vm.method? m = some meth := X.method'
  refine ⟨T.setFrames fs, ?_, .returned (some (.int 1)), hrun, hended, rfl, ⟨_, rfl⟩, hW, hframe⟩
  jvm_step X.here [X.here.top, hx, hb, hdg, hmeth', hr, ret, narrow_b1]
  (try refine ⟨rfl, ?_⟩); (try refine ⟨rfl, ?_⟩)
  first | (intro acts; rw [hret _ acts rfl rfl rfl]) | rw [hret _ _ rfl rfl rfl]
  exact Steps.refl _
def lw_At (p : Program) (s : State) (m : MethodId) (meth : Method) (c : Code) (b L : Nat) (xs : Nat → Int32) : Prop :=
  p.tables.exec = Jvm.exec ∧ c.code = code ∧ meth.sig.returnType = ret ∧ c.maxLocals = 7 ∧ s.vm.findClass R_law = some m.cls ∧ (∀ w ∈ lw_tbl, w.before #[Value.ref b] s = true) ∧ va_X b L xs s s.heap ∧ b < s.heap.size ∧ meth.locks = false ∧ (Jvm.Cond.and given_1 narrow_1).before #[Value.ref b] s = true ∧ ∀ x ∈ c.exceptionTable.toList, False
theorem es_arrP {s : State} {args : Array Value} {ty : FieldType} (h : (Cond.arrayClass ty).before args s = true) : ∃ cA : ClassId, ArrOfT s cA ty ∧ s.vm.findClass ("[" ++ ty.toString) = some cA := by
  obtain ⟨cA, kA, comp, h1, h2, h3⟩ := Cond.arrayClass_spec h
  exact ⟨cA, fun N z => ⟨(fun k h => by cases h), kA, h2, comp, h3⟩, h1⟩
theorem es_arrO {s : State} {args : Array Value} {C : String} (h : (Cond.arrayOver (.object C)).before args s = true) : ∃ cA : ClassId, ArrOfT s cA (.object C) ∧ va_RA s cA (.object C) := by
  obtain ⟨comp, cA, kA, h1, -, h3, h4, h5⟩ := Cond.arrayOver_spec h
  exact ⟨cA, fun N z => ⟨(fun k h => by cases h), kA, h3, comp, h4⟩, kA, comp, h3, h4, h1, h5⟩
theorem es_insts : ∀ (ci : Nat) (r : vw_C), vwCl[ci]? = some r → Cond.instantiable r.1 r.2.2 ∈ es_WS := by
  intro ci r h
  match ci, h with
  | 0, h => cases h; exact es_wj_in (j := 210) (by decide +kernel)
  | 1, h => cases h; exact es_wj_in (j := 184) (by decide +kernel)
  | 2, h => cases h; exact es_wj_in (j := 281) (by decide +kernel)
  | 3, h => cases h; exact es_wj_in (j := 169) (by decide +kernel)
  | 4, h => cases h; exact es_wj_in (j := 835) (by decide +kernel)
  | 5, h => cases h; exact es_wj_in (j := 194) (by decide +kernel)
  | 6, h => cases h; exact es_wj_in (j := 288) (by decide +kernel)
  | 7, h => cases h; exact es_wj_in (j := 300) (by decide +kernel)
  | 8, h => cases h; exact es_wj_in (j := 444) (by decide +kernel)
  | 9, h => cases h; exact es_wj_in (j := 402) (by decide +kernel)
  | 10, h => cases h; exact es_wj_in (j := 144) (by decide +kernel)
  | 11, h => cases h; exact es_wj_in (j := 136) (by decide +kernel)
  | 12, h => cases h; exact es_wj_in (j := 1368) (by decide +kernel)
  | t + 13, h => simp at h
theorem es_D {s : State} {args : Array Value} (hts : ∀ w ∈ es_WS, w.before args s = true) : ∃ D : va_G, ∀ (ci : Nat) (r : vw_C), vwCl[ci]? = some r → u_Kn s r.1 r.2.1 r.2.2 (D.1 ci) (D.2 ci) := by
  have h : ∀ ci : Nat, ∃ q : ClassId × (Nat → Nat), ∀ r : vw_C, vwCl[ci]? = some r → u_Kn s r.1 r.2.1 r.2.2 q.1 q.2 := fun ci => by
    cases hr : vwCl[ci]? with
    | none => exact ⟨(default, fun _ => 0), fun r h => by cases h⟩
    | some r =>
      obtain ⟨cC, iS, hk⟩ := u_known (C := r.1) (T := r.2.1) (N := r.2.2) (n := r.2.2) hts (es_uall ci r hr) (hts _ (es_insts ci r hr))
      exact ⟨(cC, iS), fun r' h => by cases h; exact hk⟩
  obtain ⟨f, hf⟩ := Classical.axiomOfChoice h
  exact ⟨(fun c => (f c).1, fun c => (f c).2), fun ci r hr => hf ci r hr⟩
end
section
theorem es_strs_ok {s : State} {b : Nat} (hts : ∀ w ∈ lw_tbl, w.before #[Value.ref b] s = true) (hgv : (Jvm.Cond.and given_1 narrow_1).before #[Value.ref b] s = true) : ∀ q ∈ es_strs, ∃ sa, vk_R q.1 q.2.1 q.2.2 sa s := by
  have hs := flat_of_before _ hgv
  intro q hq
  unfold es_strs at hq
  simp only [List.mem_cons, List.not_mem_nil, or_false] at hq
  rcases hq with rfl | rfl | rfl | rfl | rfl | rfl
  · obtain ⟨a, -, -, -, ha, -⟩ := Cond.exactly_spec (hs (Cond.exactly (.string "NailGold" 405) "java/lang/String") (by decide +kernel))
    exact ⟨a, vk_R.of (hts (.stringRef "NailGold" 405 "no such man") (List.mem_of_getElem? (i := 1026) (by decide +kernel))) ha⟩
  · obtain ⟨a, -, -, -, ha, -⟩ := Cond.exactly_spec (hs (Cond.exactly (.string "NailGold" 411) "java/lang/String") (by decide +kernel))
    exact ⟨a, vk_R.of (hts (.stringRef "NailGold" 411 "the number is none") (List.mem_of_getElem? (i := 1174) (by decide +kernel))) ha⟩
  · obtain ⟨a, -, -, -, ha, -⟩ := Cond.exactly_spec (hs (Cond.exactly (.string "NailGold" 162) "java/lang/String") (by decide +kernel))
    exact ⟨a, vk_R.of (hts (.stringRef "NailGold" 162 "no such what") (List.mem_of_getElem? (i := 1008) (by decide +kernel))) ha⟩
  · obtain ⟨a, -, -, -, ha, -⟩ := Cond.exactly_spec (hs (Cond.exactly (.string "NailGold" 402) "java/lang/String") (by decide +kernel))
    exact ⟨a, vk_R.of (hts (.stringRef "NailGold" 402 "no such step") (List.mem_of_getElem? (i := 988) (by decide +kernel))) ha⟩
  · obtain ⟨a, -, -, -, ha, -⟩ := Cond.exactly_spec (hs (Cond.exactly (.string "NailGold" 409) "java/lang/String") (by decide +kernel))
    exact ⟨a, vk_R.of (hts (.stringRef "NailGold" 409 "no such rival") (List.mem_of_getElem? (i := 1094) (by decide +kernel))) ha⟩
  · obtain ⟨a, -, -, -, ha, -⟩ := Cond.exactly_spec (hs (Cond.exactly (.string "NailGold" 407) "java/lang/String") (by decide +kernel))
    exact ⟨a, vk_R.of (hts (.stringRef "NailGold" 407 "no such test") (List.mem_of_getElem? (i := 1082) (by decide +kernel))) ha⟩
theorem es_ncs {s : State} {b : Nat} (hgv : (Jvm.Cond.and given_1 narrow_1).before #[Value.ref b] s = true) : ∀ x y : Nat, x < 5 → y < 5 → x ≠ y → va_Nc (es_exc x) (es_exc y) s := by
  have hs := flat_of_before _ hgv
  intro x y hx hy hne
  match x, y, hx, hy, hne with
  | 0, 0, _, _, h => exact absurd rfl h
  | 0, 1, _, _, _ => exact va_Nc.of (hs (Cond.not (.castable (es_exc 0) (es_exc 1))) (by decide +kernel))
  | 0, 2, _, _, _ => exact va_Nc.of (hs (Cond.not (.castable (es_exc 0) (es_exc 2))) (by decide +kernel))
  | 0, 3, _, _, _ => exact va_Nc.of (hs (Cond.not (.castable (es_exc 0) (es_exc 3))) (by decide +kernel))
  | 0, 4, _, _, _ => exact va_Nc.of (hs (Cond.not (.castable (es_exc 0) (es_exc 4))) (by decide +kernel))
  | 1, 0, _, _, _ => exact va_Nc.of (hs (Cond.not (.castable (es_exc 1) (es_exc 0))) (by decide +kernel))
  | 1, 1, _, _, h => exact absurd rfl h
  | 1, 2, _, _, _ => exact va_Nc.of (hs (Cond.not (.castable (es_exc 1) (es_exc 2))) (by decide +kernel))
  | 1, 3, _, _, _ => exact va_Nc.of (hs (Cond.not (.castable (es_exc 1) (es_exc 3))) (by decide +kernel))
  | 1, 4, _, _, _ => exact va_Nc.of (hs (Cond.not (.castable (es_exc 1) (es_exc 4))) (by decide +kernel))
  | 2, 0, _, _, _ => exact va_Nc.of (hs (Cond.not (.castable (es_exc 2) (es_exc 0))) (by decide +kernel))
  | 2, 1, _, _, _ => exact va_Nc.of (hs (Cond.not (.castable (es_exc 2) (es_exc 1))) (by decide +kernel))
  | 2, 2, _, _, h => exact absurd rfl h
  | 2, 3, _, _, _ => exact va_Nc.of (hs (Cond.not (.castable (es_exc 2) (es_exc 3))) (by decide +kernel))
  | 2, 4, _, _, _ => exact va_Nc.of (hs (Cond.not (.castable (es_exc 2) (es_exc 4))) (by decide +kernel))
  | 3, 0, _, _, _ => exact va_Nc.of (hs (Cond.not (.castable (es_exc 3) (es_exc 0))) (by decide +kernel))
  | 3, 1, _, _, _ => exact va_Nc.of (hs (Cond.not (.castable (es_exc 3) (es_exc 1))) (by decide +kernel))
  | 3, 2, _, _, _ => exact va_Nc.of (hs (Cond.not (.castable (es_exc 3) (es_exc 2))) (by decide +kernel))
  | 3, 3, _, _, h => exact absurd rfl h
  | 3, 4, _, _, _ => exact va_Nc.of (hs (Cond.not (.castable (es_exc 3) (es_exc 4))) (by decide +kernel))
  | 4, 0, _, _, _ => exact va_Nc.of (hs (Cond.not (.castable (es_exc 4) (es_exc 0))) (by decide +kernel))
  | 4, 1, _, _, _ => exact va_Nc.of (hs (Cond.not (.castable (es_exc 4) (es_exc 1))) (by decide +kernel))
  | 4, 2, _, _, _ => exact va_Nc.of (hs (Cond.not (.castable (es_exc 4) (es_exc 2))) (by decide +kernel))
  | 4, 3, _, _, _ => exact va_Nc.of (hs (Cond.not (.castable (es_exc 4) (es_exc 3))) (by decide +kernel))
  | 4, 4, _, _, h => exact absurd rfl h
  | x + 5, _, h, _, _ => exact absurd h (by omega)
  | _, y + 5, _, h, _ => exact absurd h (by omega)
theorem es_ev0 (l : Launch) (htr : l.stackTraces = false) {s : State} {b L : Nat} {xs : Nat → Int32} (hts : ∀ w ∈ lw_tbl, w.before #[Value.ref b] s = true) (hX : va_X b L xs s s.heap) (hbl : b < s.heap.size) (hgv : (Jvm.Cond.and given_1 narrow_1).before #[Value.ref b] s = true) :
    ∃ (D : va_G) (cI cJ cZ cC cM : ClassId), es_ev l es_strs es_wx L D cI cJ cZ cC cM s.heap.size b xs s := by
  have hs := flat_of_before _ hgv
  have htw : ∀ w ∈ es_WS, w.before #[Value.ref b] s = true := fun w hw => hts w (es_WSt w hw)
  obtain ⟨D, hD⟩ := es_D htw
  obtain ⟨cI, i1, i2⟩ := es_arrP (htw (.arrayClass .int) (es_wj_in (j := 167) (by decide +kernel)))
  obtain ⟨cJ, j1, j2⟩ := es_arrP (htw (.arrayClass .long) (es_wj_in (j := 442) (by decide +kernel)))
  obtain ⟨cZ, z1, z2⟩ := es_arrP (htw (.arrayClass .boolean) (es_wj_in (j := 1449) (by decide +kernel)))
  have ao1 : (Cond.arrayOver (.object RX2)).before #[Value.ref b] s = true := (hts (.arrayOver (.object RX2)) (List.mem_of_getElem? (i := 463) (by decide +kernel)))
  have ao2 : (Cond.arrayOver (.object RX7)).before #[Value.ref b] s = true := (hts (.arrayOver (.object RX7)) (List.mem_of_getElem? (i := 290) (by decide +kernel)))
  obtain ⟨cC, c1, c2⟩ := es_arrO ao1
  obtain ⟨cM, m1, m2⟩ := es_arrO ao2
  refine ⟨D, cI, cJ, cZ, cC, cM, ⟨hD, fun k q hk => ?_⟩, ⟨hbl, Nat.le_refl _, hX⟩, ⟨va_AO.of ao1, va_AO.of ao2⟩, htr, ?_, ?_, es_strs_ok hts hgv, fun w hw => ?_, es_ncs hgv⟩
  · match k, hk with
    | 0, hk => cases hk; exact ⟨i1, i2⟩
    | 1, hk => cases hk; exact ⟨j1, j2⟩
    | 2, hk => cases hk; exact ⟨z1, z2⟩
    | 3, hk => cases hk; exact ⟨c1, c2⟩
    | 4, hk => cases hk; exact ⟨m1, m2⟩
    | k + 5, hk => simp at hk
  · exact vx_Zqof (hts (.laysStatic Bundle.tN "UNASSIGNED_STACK" Bundle.steD) (List.mem_of_getElem? (i := 812) (by decide +kernel))) (hts (.initialized Bundle.tN) (List.mem_of_getElem? (i := 122) (by decide +kernel))) (hs (.isRef (.static Bundle.tN "UNASSIGNED_STACK" Bundle.steD)) (by decide +kernel)) (fun a ha => Nat.not_le.mpr ha)
  · exact vx_Zqof (hts (.laysStatic Bundle.tN "SUPPRESSED_SENTINEL" Bundle.listD) (List.mem_of_getElem? (i := 814) (by decide +kernel))) (hts (.initialized Bundle.tN) (List.mem_of_getElem? (i := 122) (by decide +kernel))) (hs (.isRef (.static Bundle.tN "SUPPRESSED_SENTINEL" Bundle.listD)) (by decide +kernel)) (fun a ha => Nat.not_le.mpr ha)
  · obtain ⟨h1, h2⟩ := es_wxt w hw
    exact va_Nw.of h2 (hts w h1)
end
section
def es_H0 : List es_O := [(0, 11, [(0, (3, 1)), (1, (3, 3)), (2, (3, 6)), (3, (3, 7)), (4, (3, 9)), (5, (3, 15)), (6, (3, 27)), (7, (3, 34)), (8, (3, 36)), (9, (3, 42)), (10, (3, 54)), (11, (3, 60)), (12, (3, 72)), (13, (0, 0)), (14, (0, 0)), (15, (0, 0)), (16, (0, 4294967295))]),
  (0, 10, [(0, (3, 2)), (1, (0, 0)), (2, (0, 0)), (3, (0, 0)), (4, (0, 0))]),
  (2, 400, []),
  (0, 3, [(0, (3, 4)), (1, (3, 5)), (2, (0, 0))]),
  (2, 9, []),
  (2, 32, []),
  (0, 1, [(0, (3, 1))]),
  (0, 5, [(0, (3, 1)), (1, (3, 8)), (2, (0, 0))]),
  (2, 400, []),
  (0, 0, [(0, (3, 10)), (1, (3, 11)), (2, (3, 12)), (3, (3, 13)), (4, (3, 14)), (5, (0, 0)), (6, (0, 0)), (7, (0, 10)), (8, (0, 0)), (9, (0, 10)), (10, (0, 0)), (11, (4, 0))]),
  (2, 8, []),
  (2, 8, []),
  (2, 8, []),
  (2, 6, []),
  (2, 6, []),
  (0, 2, [(0, (3, 16)), (1, (3, 17)), (2, (3, 18)), (3, (3, 19)), (4, (0, 0)), (5, (0, 0)), (6, (0, 500)), (7, (0, 0)), (8, (0, 0)), (9, (0, 1))]),
  (6, 6, [(0, (3, 21)), (1, (3, 22)), (2, (3, 23)), (3, (3, 24)), (4, (3, 25)), (5, (3, 26))]),
  (2, 6, []),
  (2, 6, []),
  (0, 6, [(0, (3, 20)), (1, (0, 0))]),
  (2, 240, []),
  (0, 7, [(0, (0, 0)), (1, (0, 0)), (2, (0, 0)), (3, (0, 0)), (4, (0, 0)), (5, (0, 0))]),
  (0, 7, [(0, (0, 0)), (1, (0, 0)), (2, (0, 0)), (3, (0, 0)), (4, (0, 0)), (5, (0, 0))]),
  (0, 7, [(0, (0, 0)), (1, (0, 0)), (2, (0, 0)), (3, (0, 0)), (4, (0, 0)), (5, (0, 0))]),
  (0, 7, [(0, (0, 0)), (1, (0, 0)), (2, (0, 0)), (3, (0, 0)), (4, (0, 0)), (5, (0, 0))]),
  (0, 7, [(0, (0, 0)), (1, (0, 0)), (2, (0, 0)), (3, (0, 0)), (4, (0, 0)), (5, (0, 0))]),
  (0, 7, [(0, (0, 0)), (1, (0, 0)), (2, (0, 0)), (3, (0, 0)), (4, (0, 0)), (5, (0, 0))]),
  (0, 9, [(0, (3, 3)), (1, (3, 9)), (2, (3, 28)), (3, (3, 29)), (4, (3, 30)), (5, (3, 31)), (6, (3, 32)), (7, (3, 33)), (8, (0, 0)), (9, (0, 0)), (10, (0, 0))]),
  (0, 7, [(0, (0, 0)), (1, (0, 0)), (2, (0, 0)), (3, (0, 0)), (4, (0, 0)), (5, (0, 0))]),
  (2, 30, []),
  (2, 30, []),
  (2, 30, []),
  (2, 30, []),
  (3, 3000, []),
  (0, 8, [(0, (3, 15)), (1, (3, 35))]),
  (2, 448, []),
  (0, 0, [(0, (3, 37)), (1, (3, 38)), (2, (3, 39)), (3, (3, 40)), (4, (3, 41)), (5, (0, 0)), (6, (0, 0)), (7, (0, 10)), (8, (0, 0)), (9, (0, 10)), (10, (0, 0)), (11, (4, 0))]),
  (2, 8, []),
  (2, 8, []),
  (2, 8, []),
  (2, 6, []),
  (2, 6, []),
  (0, 2, [(0, (3, 43)), (1, (3, 44)), (2, (3, 45)), (3, (3, 46)), (4, (0, 0)), (5, (0, 0)), (6, (0, 500)), (7, (0, 0)), (8, (0, 0)), (9, (0, 1))]),
  (6, 6, [(0, (3, 48)), (1, (3, 49)), (2, (3, 50)), (3, (3, 51)), (4, (3, 52)), (5, (3, 53))]),
  (2, 6, []),
  (2, 6, []),
  (0, 6, [(0, (3, 47)), (1, (0, 0))]),
  (2, 240, []),
  (0, 7, [(0, (0, 0)), (1, (0, 0)), (2, (0, 0)), (3, (0, 0)), (4, (0, 0)), (5, (0, 0))]),
  (0, 7, [(0, (0, 0)), (1, (0, 0)), (2, (0, 0)), (3, (0, 0)), (4, (0, 0)), (5, (0, 0))]),
  (0, 7, [(0, (0, 0)), (1, (0, 0)), (2, (0, 0)), (3, (0, 0)), (4, (0, 0)), (5, (0, 0))]),
  (0, 7, [(0, (0, 0)), (1, (0, 0)), (2, (0, 0)), (3, (0, 0)), (4, (0, 0)), (5, (0, 0))]),
  (0, 7, [(0, (0, 0)), (1, (0, 0)), (2, (0, 0)), (3, (0, 0)), (4, (0, 0)), (5, (0, 0))]),
  (0, 7, [(0, (0, 0)), (1, (0, 0)), (2, (0, 0)), (3, (0, 0)), (4, (0, 0)), (5, (0, 0))]),
  (0, 0, [(0, (3, 55)), (1, (3, 56)), (2, (3, 57)), (3, (3, 58)), (4, (3, 59)), (5, (0, 0)), (6, (0, 0)), (7, (0, 10)), (8, (0, 0)), (9, (0, 10)), (10, (0, 0)), (11, (4, 0))]),
  (2, 8, []),
  (2, 8, []),
  (2, 8, []),
  (2, 6, []),
  (2, 6, []),
  (0, 2, [(0, (3, 61)), (1, (3, 62)), (2, (3, 63)), (3, (3, 64)), (4, (0, 0)), (5, (0, 0)), (6, (0, 500)), (7, (0, 0)), (8, (0, 0)), (9, (0, 1))]),
  (6, 6, [(0, (3, 66)), (1, (3, 67)), (2, (3, 68)), (3, (3, 69)), (4, (3, 70)), (5, (3, 71))]),
  (2, 6, []),
  (2, 6, []),
  (0, 6, [(0, (3, 65)), (1, (0, 0))]),
  (2, 240, []),
  (0, 7, [(0, (0, 0)), (1, (0, 0)), (2, (0, 0)), (3, (0, 0)), (4, (0, 0)), (5, (0, 0))]),
  (0, 7, [(0, (0, 0)), (1, (0, 0)), (2, (0, 0)), (3, (0, 0)), (4, (0, 0)), (5, (0, 0))]),
  (0, 7, [(0, (0, 0)), (1, (0, 0)), (2, (0, 0)), (3, (0, 0)), (4, (0, 0)), (5, (0, 0))]),
  (0, 7, [(0, (0, 0)), (1, (0, 0)), (2, (0, 0)), (3, (0, 0)), (4, (0, 0)), (5, (0, 0))]),
  (0, 7, [(0, (0, 0)), (1, (0, 0)), (2, (0, 0)), (3, (0, 0)), (4, (0, 0)), (5, (0, 0))]),
  (0, 7, [(0, (0, 0)), (1, (0, 0)), (2, (0, 0)), (3, (0, 0)), (4, (0, 0)), (5, (0, 0))]),
  (5, 12, [(0, (3, 73)), (1, (3, 85)), (2, (3, 97)), (3, (3, 109)), (4, (3, 121)), (5, (3, 133)), (6, (3, 145)), (7, (3, 157)), (8, (3, 169)), (9, (3, 181)), (10, (3, 193)), (11, (3, 205))]),
  (0, 2, [(0, (3, 74)), (1, (3, 75)), (2, (3, 76)), (3, (3, 77)), (4, (0, 0)), (5, (0, 0)), (6, (0, 500)), (7, (0, 0)), (8, (0, 0)), (9, (0, 1))]),
  (6, 6, [(0, (3, 79)), (1, (3, 80)), (2, (3, 81)), (3, (3, 82)), (4, (3, 83)), (5, (3, 84))]),
  (2, 6, []),
  (2, 6, []),
  (0, 6, [(0, (3, 78)), (1, (0, 0))]),
  (2, 240, []),
  (0, 7, [(0, (0, 0)), (1, (0, 0)), (2, (0, 0)), (3, (0, 0)), (4, (0, 0)), (5, (0, 0))]),
  (0, 7, [(0, (0, 0)), (1, (0, 0)), (2, (0, 0)), (3, (0, 0)), (4, (0, 0)), (5, (0, 0))]),
  (0, 7, [(0, (0, 0)), (1, (0, 0)), (2, (0, 0)), (3, (0, 0)), (4, (0, 0)), (5, (0, 0))]),
  (0, 7, [(0, (0, 0)), (1, (0, 0)), (2, (0, 0)), (3, (0, 0)), (4, (0, 0)), (5, (0, 0))]),
  (0, 7, [(0, (0, 0)), (1, (0, 0)), (2, (0, 0)), (3, (0, 0)), (4, (0, 0)), (5, (0, 0))]),
  (0, 7, [(0, (0, 0)), (1, (0, 0)), (2, (0, 0)), (3, (0, 0)), (4, (0, 0)), (5, (0, 0))]),
  (0, 2, [(0, (3, 86)), (1, (3, 87)), (2, (3, 88)), (3, (3, 89)), (4, (0, 0)), (5, (0, 0)), (6, (0, 500)), (7, (0, 0)), (8, (0, 0)), (9, (0, 1))]),
  (6, 6, [(0, (3, 91)), (1, (3, 92)), (2, (3, 93)), (3, (3, 94)), (4, (3, 95)), (5, (3, 96))]),
  (2, 6, []),
  (2, 6, []),
  (0, 6, [(0, (3, 90)), (1, (0, 0))]),
  (2, 240, []),
  (0, 7, [(0, (0, 0)), (1, (0, 0)), (2, (0, 0)), (3, (0, 0)), (4, (0, 0)), (5, (0, 0))]),
  (0, 7, [(0, (0, 0)), (1, (0, 0)), (2, (0, 0)), (3, (0, 0)), (4, (0, 0)), (5, (0, 0))]),
  (0, 7, [(0, (0, 0)), (1, (0, 0)), (2, (0, 0)), (3, (0, 0)), (4, (0, 0)), (5, (0, 0))]),
  (0, 7, [(0, (0, 0)), (1, (0, 0)), (2, (0, 0)), (3, (0, 0)), (4, (0, 0)), (5, (0, 0))]),
  (0, 7, [(0, (0, 0)), (1, (0, 0)), (2, (0, 0)), (3, (0, 0)), (4, (0, 0)), (5, (0, 0))]),
  (0, 7, [(0, (0, 0)), (1, (0, 0)), (2, (0, 0)), (3, (0, 0)), (4, (0, 0)), (5, (0, 0))]),
  (0, 2, [(0, (3, 98)), (1, (3, 99)), (2, (3, 100)), (3, (3, 101)), (4, (0, 0)), (5, (0, 0)), (6, (0, 500)), (7, (0, 0)), (8, (0, 0)), (9, (0, 1))]),
  (6, 6, [(0, (3, 103)), (1, (3, 104)), (2, (3, 105)), (3, (3, 106)), (4, (3, 107)), (5, (3, 108))]),
  (2, 6, []),
  (2, 6, []),
  (0, 6, [(0, (3, 102)), (1, (0, 0))]),
  (2, 240, []),
  (0, 7, [(0, (0, 0)), (1, (0, 0)), (2, (0, 0)), (3, (0, 0)), (4, (0, 0)), (5, (0, 0))]),
  (0, 7, [(0, (0, 0)), (1, (0, 0)), (2, (0, 0)), (3, (0, 0)), (4, (0, 0)), (5, (0, 0))]),
  (0, 7, [(0, (0, 0)), (1, (0, 0)), (2, (0, 0)), (3, (0, 0)), (4, (0, 0)), (5, (0, 0))]),
  (0, 7, [(0, (0, 0)), (1, (0, 0)), (2, (0, 0)), (3, (0, 0)), (4, (0, 0)), (5, (0, 0))]),
  (0, 7, [(0, (0, 0)), (1, (0, 0)), (2, (0, 0)), (3, (0, 0)), (4, (0, 0)), (5, (0, 0))]),
  (0, 7, [(0, (0, 0)), (1, (0, 0)), (2, (0, 0)), (3, (0, 0)), (4, (0, 0)), (5, (0, 0))]),
  (0, 2, [(0, (3, 110)), (1, (3, 111)), (2, (3, 112)), (3, (3, 113)), (4, (0, 0)), (5, (0, 0)), (6, (0, 500)), (7, (0, 0)), (8, (0, 0)), (9, (0, 1))]),
  (6, 6, [(0, (3, 115)), (1, (3, 116)), (2, (3, 117)), (3, (3, 118)), (4, (3, 119)), (5, (3, 120))]),
  (2, 6, []),
  (2, 6, []),
  (0, 6, [(0, (3, 114)), (1, (0, 0))]),
  (2, 240, []),
  (0, 7, [(0, (0, 0)), (1, (0, 0)), (2, (0, 0)), (3, (0, 0)), (4, (0, 0)), (5, (0, 0))]),
  (0, 7, [(0, (0, 0)), (1, (0, 0)), (2, (0, 0)), (3, (0, 0)), (4, (0, 0)), (5, (0, 0))]),
  (0, 7, [(0, (0, 0)), (1, (0, 0)), (2, (0, 0)), (3, (0, 0)), (4, (0, 0)), (5, (0, 0))]),
  (0, 7, [(0, (0, 0)), (1, (0, 0)), (2, (0, 0)), (3, (0, 0)), (4, (0, 0)), (5, (0, 0))]),
  (0, 7, [(0, (0, 0)), (1, (0, 0)), (2, (0, 0)), (3, (0, 0)), (4, (0, 0)), (5, (0, 0))]),
  (0, 7, [(0, (0, 0)), (1, (0, 0)), (2, (0, 0)), (3, (0, 0)), (4, (0, 0)), (5, (0, 0))]),
  (0, 2, [(0, (3, 122)), (1, (3, 123)), (2, (3, 124)), (3, (3, 125)), (4, (0, 0)), (5, (0, 0)), (6, (0, 500)), (7, (0, 0)), (8, (0, 0)), (9, (0, 1))]),
  (6, 6, [(0, (3, 127)), (1, (3, 128)), (2, (3, 129)), (3, (3, 130)), (4, (3, 131)), (5, (3, 132))]),
  (2, 6, []),
  (2, 6, []),
  (0, 6, [(0, (3, 126)), (1, (0, 0))]),
  (2, 240, []),
  (0, 7, [(0, (0, 0)), (1, (0, 0)), (2, (0, 0)), (3, (0, 0)), (4, (0, 0)), (5, (0, 0))]),
  (0, 7, [(0, (0, 0)), (1, (0, 0)), (2, (0, 0)), (3, (0, 0)), (4, (0, 0)), (5, (0, 0))]),
  (0, 7, [(0, (0, 0)), (1, (0, 0)), (2, (0, 0)), (3, (0, 0)), (4, (0, 0)), (5, (0, 0))]),
  (0, 7, [(0, (0, 0)), (1, (0, 0)), (2, (0, 0)), (3, (0, 0)), (4, (0, 0)), (5, (0, 0))]),
  (0, 7, [(0, (0, 0)), (1, (0, 0)), (2, (0, 0)), (3, (0, 0)), (4, (0, 0)), (5, (0, 0))]),
  (0, 7, [(0, (0, 0)), (1, (0, 0)), (2, (0, 0)), (3, (0, 0)), (4, (0, 0)), (5, (0, 0))]),
  (0, 2, [(0, (3, 134)), (1, (3, 135)), (2, (3, 136)), (3, (3, 137)), (4, (0, 0)), (5, (0, 0)), (6, (0, 500)), (7, (0, 0)), (8, (0, 0)), (9, (0, 1))]),
  (6, 6, [(0, (3, 139)), (1, (3, 140)), (2, (3, 141)), (3, (3, 142)), (4, (3, 143)), (5, (3, 144))]),
  (2, 6, []),
  (2, 6, []),
  (0, 6, [(0, (3, 138)), (1, (0, 0))]),
  (2, 240, []),
  (0, 7, [(0, (0, 0)), (1, (0, 0)), (2, (0, 0)), (3, (0, 0)), (4, (0, 0)), (5, (0, 0))]),
  (0, 7, [(0, (0, 0)), (1, (0, 0)), (2, (0, 0)), (3, (0, 0)), (4, (0, 0)), (5, (0, 0))]),
  (0, 7, [(0, (0, 0)), (1, (0, 0)), (2, (0, 0)), (3, (0, 0)), (4, (0, 0)), (5, (0, 0))]),
  (0, 7, [(0, (0, 0)), (1, (0, 0)), (2, (0, 0)), (3, (0, 0)), (4, (0, 0)), (5, (0, 0))]),
  (0, 7, [(0, (0, 0)), (1, (0, 0)), (2, (0, 0)), (3, (0, 0)), (4, (0, 0)), (5, (0, 0))]),
  (0, 7, [(0, (0, 0)), (1, (0, 0)), (2, (0, 0)), (3, (0, 0)), (4, (0, 0)), (5, (0, 0))]),
  (0, 2, [(0, (3, 146)), (1, (3, 147)), (2, (3, 148)), (3, (3, 149)), (4, (0, 0)), (5, (0, 0)), (6, (0, 500)), (7, (0, 0)), (8, (0, 0)), (9, (0, 1))]),
  (6, 6, [(0, (3, 151)), (1, (3, 152)), (2, (3, 153)), (3, (3, 154)), (4, (3, 155)), (5, (3, 156))]),
  (2, 6, []),
  (2, 6, []),
  (0, 6, [(0, (3, 150)), (1, (0, 0))]),
  (2, 240, []),
  (0, 7, [(0, (0, 0)), (1, (0, 0)), (2, (0, 0)), (3, (0, 0)), (4, (0, 0)), (5, (0, 0))]),
  (0, 7, [(0, (0, 0)), (1, (0, 0)), (2, (0, 0)), (3, (0, 0)), (4, (0, 0)), (5, (0, 0))]),
  (0, 7, [(0, (0, 0)), (1, (0, 0)), (2, (0, 0)), (3, (0, 0)), (4, (0, 0)), (5, (0, 0))]),
  (0, 7, [(0, (0, 0)), (1, (0, 0)), (2, (0, 0)), (3, (0, 0)), (4, (0, 0)), (5, (0, 0))]),
  (0, 7, [(0, (0, 0)), (1, (0, 0)), (2, (0, 0)), (3, (0, 0)), (4, (0, 0)), (5, (0, 0))]),
  (0, 7, [(0, (0, 0)), (1, (0, 0)), (2, (0, 0)), (3, (0, 0)), (4, (0, 0)), (5, (0, 0))]),
  (0, 2, [(0, (3, 158)), (1, (3, 159)), (2, (3, 160)), (3, (3, 161)), (4, (0, 0)), (5, (0, 0)), (6, (0, 500)), (7, (0, 0)), (8, (0, 0)), (9, (0, 1))]),
  (6, 6, [(0, (3, 163)), (1, (3, 164)), (2, (3, 165)), (3, (3, 166)), (4, (3, 167)), (5, (3, 168))]),
  (2, 6, []),
  (2, 6, []),
  (0, 6, [(0, (3, 162)), (1, (0, 0))]),
  (2, 240, []),
  (0, 7, [(0, (0, 0)), (1, (0, 0)), (2, (0, 0)), (3, (0, 0)), (4, (0, 0)), (5, (0, 0))]),
  (0, 7, [(0, (0, 0)), (1, (0, 0)), (2, (0, 0)), (3, (0, 0)), (4, (0, 0)), (5, (0, 0))]),
  (0, 7, [(0, (0, 0)), (1, (0, 0)), (2, (0, 0)), (3, (0, 0)), (4, (0, 0)), (5, (0, 0))]),
  (0, 7, [(0, (0, 0)), (1, (0, 0)), (2, (0, 0)), (3, (0, 0)), (4, (0, 0)), (5, (0, 0))]),
  (0, 7, [(0, (0, 0)), (1, (0, 0)), (2, (0, 0)), (3, (0, 0)), (4, (0, 0)), (5, (0, 0))]),
  (0, 7, [(0, (0, 0)), (1, (0, 0)), (2, (0, 0)), (3, (0, 0)), (4, (0, 0)), (5, (0, 0))]),
  (0, 2, [(0, (3, 170)), (1, (3, 171)), (2, (3, 172)), (3, (3, 173)), (4, (0, 0)), (5, (0, 0)), (6, (0, 500)), (7, (0, 0)), (8, (0, 0)), (9, (0, 1))]),
  (6, 6, [(0, (3, 175)), (1, (3, 176)), (2, (3, 177)), (3, (3, 178)), (4, (3, 179)), (5, (3, 180))]),
  (2, 6, []),
  (2, 6, []),
  (0, 6, [(0, (3, 174)), (1, (0, 0))]),
  (2, 240, []),
  (0, 7, [(0, (0, 0)), (1, (0, 0)), (2, (0, 0)), (3, (0, 0)), (4, (0, 0)), (5, (0, 0))]),
  (0, 7, [(0, (0, 0)), (1, (0, 0)), (2, (0, 0)), (3, (0, 0)), (4, (0, 0)), (5, (0, 0))]),
  (0, 7, [(0, (0, 0)), (1, (0, 0)), (2, (0, 0)), (3, (0, 0)), (4, (0, 0)), (5, (0, 0))]),
  (0, 7, [(0, (0, 0)), (1, (0, 0)), (2, (0, 0)), (3, (0, 0)), (4, (0, 0)), (5, (0, 0))]),
  (0, 7, [(0, (0, 0)), (1, (0, 0)), (2, (0, 0)), (3, (0, 0)), (4, (0, 0)), (5, (0, 0))]),
  (0, 7, [(0, (0, 0)), (1, (0, 0)), (2, (0, 0)), (3, (0, 0)), (4, (0, 0)), (5, (0, 0))]),
  (0, 2, [(0, (3, 182)), (1, (3, 183)), (2, (3, 184)), (3, (3, 185)), (4, (0, 0)), (5, (0, 0)), (6, (0, 500)), (7, (0, 0)), (8, (0, 0)), (9, (0, 1))]),
  (6, 6, [(0, (3, 187)), (1, (3, 188)), (2, (3, 189)), (3, (3, 190)), (4, (3, 191)), (5, (3, 192))]),
  (2, 6, []),
  (2, 6, []),
  (0, 6, [(0, (3, 186)), (1, (0, 0))]),
  (2, 240, []),
  (0, 7, [(0, (0, 0)), (1, (0, 0)), (2, (0, 0)), (3, (0, 0)), (4, (0, 0)), (5, (0, 0))]),
  (0, 7, [(0, (0, 0)), (1, (0, 0)), (2, (0, 0)), (3, (0, 0)), (4, (0, 0)), (5, (0, 0))]),
  (0, 7, [(0, (0, 0)), (1, (0, 0)), (2, (0, 0)), (3, (0, 0)), (4, (0, 0)), (5, (0, 0))]),
  (0, 7, [(0, (0, 0)), (1, (0, 0)), (2, (0, 0)), (3, (0, 0)), (4, (0, 0)), (5, (0, 0))]),
  (0, 7, [(0, (0, 0)), (1, (0, 0)), (2, (0, 0)), (3, (0, 0)), (4, (0, 0)), (5, (0, 0))]),
  (0, 7, [(0, (0, 0)), (1, (0, 0)), (2, (0, 0)), (3, (0, 0)), (4, (0, 0)), (5, (0, 0))]),
  (0, 2, [(0, (3, 194)), (1, (3, 195)), (2, (3, 196)), (3, (3, 197)), (4, (0, 0)), (5, (0, 0)), (6, (0, 500)), (7, (0, 0)), (8, (0, 0)), (9, (0, 1))]),
  (6, 6, [(0, (3, 199)), (1, (3, 200)), (2, (3, 201)), (3, (3, 202)), (4, (3, 203)), (5, (3, 204))]),
  (2, 6, []),
  (2, 6, []),
  (0, 6, [(0, (3, 198)), (1, (0, 0))]),
  (2, 240, []),
  (0, 7, [(0, (0, 0)), (1, (0, 0)), (2, (0, 0)), (3, (0, 0)), (4, (0, 0)), (5, (0, 0))]),
  (0, 7, [(0, (0, 0)), (1, (0, 0)), (2, (0, 0)), (3, (0, 0)), (4, (0, 0)), (5, (0, 0))]),
  (0, 7, [(0, (0, 0)), (1, (0, 0)), (2, (0, 0)), (3, (0, 0)), (4, (0, 0)), (5, (0, 0))]),
  (0, 7, [(0, (0, 0)), (1, (0, 0)), (2, (0, 0)), (3, (0, 0)), (4, (0, 0)), (5, (0, 0))]),
  (0, 7, [(0, (0, 0)), (1, (0, 0)), (2, (0, 0)), (3, (0, 0)), (4, (0, 0)), (5, (0, 0))]),
  (0, 7, [(0, (0, 0)), (1, (0, 0)), (2, (0, 0)), (3, (0, 0)), (4, (0, 0)), (5, (0, 0))]),
  (0, 2, [(0, (3, 206)), (1, (3, 207)), (2, (3, 208)), (3, (3, 209)), (4, (0, 0)), (5, (0, 0)), (6, (0, 500)), (7, (0, 0)), (8, (0, 0)), (9, (0, 1))]),
  (6, 6, [(0, (3, 211)), (1, (3, 212)), (2, (3, 213)), (3, (3, 214)), (4, (3, 215)), (5, (3, 216))]),
  (2, 6, []),
  (2, 6, []),
  (0, 6, [(0, (3, 210)), (1, (0, 0))]),
  (2, 240, []),
  (0, 7, [(0, (0, 0)), (1, (0, 0)), (2, (0, 0)), (3, (0, 0)), (4, (0, 0)), (5, (0, 0))]),
  (0, 7, [(0, (0, 0)), (1, (0, 0)), (2, (0, 0)), (3, (0, 0)), (4, (0, 0)), (5, (0, 0))]),
  (0, 7, [(0, (0, 0)), (1, (0, 0)), (2, (0, 0)), (3, (0, 0)), (4, (0, 0)), (5, (0, 0))]),
  (0, 7, [(0, (0, 0)), (1, (0, 0)), (2, (0, 0)), (3, (0, 0)), (4, (0, 0)), (5, (0, 0))]),
  (0, 7, [(0, (0, 0)), (1, (0, 0)), (2, (0, 0)), (3, (0, 0)), (4, (0, 0)), (5, (0, 0))]),
  (0, 7, [(0, (0, 0)), (1, (0, 0)), (2, (0, 0)), (3, (0, 0)), (4, (0, 0)), (5, (0, 0))]),
  (0, 12, [(0, (0, 0)), (1, (3, 218)), (2, (3, 219)), (3, (0, 0)), (4, (3, 220)), (5, (3, 221)), (6, (0, 0)), (7, (3, 222)), (8, (0, 0)), (9, (0, 0)), (10, (0, 0)), (11, (0, 0)), (12, (0, 4294967295)), (13, (0, 0)), (14, (3, 223)), (15, (0, 0)), (16, (0, 0)), (17, (0, 0)), (18, (3, 224)), (19, (3, 225)), (20, (3, 226)), (21, (3, 227)), (22, (3, 228)), (23, (3, 229)), (24, (3, 230))]),
  (2, 740, [(1, (0, 4294967295)), (8, (0, 500)), (10, (0, 10)), (12, (0, 10)), (14, (0, 1))]),
  (2, 740, []),
  (2, 340, []),
  (2, 4080, []),
  (2, 400, []),
  (2, 7, []),
  (2, 30, []),
  (2, 30, []),
  (2, 30, []),
  (2, 30, []),
  (2, 31000, []),
  (4, 64, []),
  (2, 448, []),
  (3, 1, [])]
def es_L0 : es_L := [(0, (5, 0)), (1, (3, 0)), (2, (3, 217)), (3, (3, 231)), (4, (0, 0))]
def es_F0 : es_F := [(0, 4294967295), (0, 4294967295), (0, 4294967295), (0, 4294967295), (0, 4294967295), (0, 4294967295)]
def es_is (r : Option (List es_E)) (pc : Nat) (L : es_L) (S : List es_V) (AH : List es_O) (F : es_F) (cs ss : Nat) : Bool := match r with
  | some [E] => (Nat.beq E.1 0 && Nat.beq E.2.1 pc) && ((decide (E.2.2.1 = L) && decide (E.2.2.2.1 = S)) && ((decide (E.2.2.2.2.1 = AH) && decide (E.2.2.2.2.2.1 = F)) && (Nat.beq E.2.2.2.2.2.2.1 cs && Nat.beq E.2.2.2.2.2.2.2 ss)))
  | _ => false
theorem es_is_eq {r : Option (List es_E)} {pc : Nat} {L : es_L} {S : List es_V} {AH : List es_O} {F : es_F} {cs ss : Nat} (h : es_is r pc L S AH F cs ss = true) : r = some [(0, pc, L, S, AH, F, cs, ss)] := by
  unfold es_is at h
  split at h
  · rename_i E
    obtain ⟨k, p, l, s, a, f, c, d⟩ := E
    simp only [Bool.and_eq_true, es_beq, decide_eq_true_eq] at h
    obtain ⟨⟨rfl, rfl⟩, ⟨rfl, rfl⟩, ⟨rfl, rfl⟩, rfl, rfl⟩ := h
    rfl
  · cases h
theorem es_pre6 : es_is (es_run2 es_ME es_CT 6 100000 194 (0, [(0, (5, 0))], [], [], es_F0, 0, 0)) 39 es_L0 [(0, 63), (1, 0)] es_H0 es_F0 232 47168 = true := by decide +kernel
end
section
def es_FF (a1 b1 a2 b2 : Nat) : es_F := [(0, 4294967295), (a1, b1), (a2, b2), (0, 4294967295), (0, 4294967295), (0, 4294967295)]
def es_K0 (pc : Nat) (F : es_F) : es_K := (pc, es_L0, [], es_H0, F, 232, 47168)
def es_isir (o : Option es_I) : Bool := match o with
  | some e => match e.2.1 with
    | .ireturn => true
    | _ => false
  | none => false
def es_one (S : List es_V) : Bool := match S with
  | [v] => es_veq v (0, 1)
  | _ => false
noncomputable def es_fin (E : es_E) : Bool := ((Nat.beq E.1 0 && es_one E.2.2.2.1) && es_isir (es_at (es_tab (es_ME 194)) E.2.1)) && (Nat.ble E.2.2.2.2.2.2.1 600002 && Nat.ble E.2.2.2.2.2.2.2 7302232)
noncomputable def es_okb (r : Option (List es_E)) : Bool := match r with
  | some l => l.all es_fin
  | none => false
theorem es_s0 : es_okb (es_run2 es_ME es_CT 0 100000 194 (0, [(0, (5, 0))], [], [], es_F0, 0, 0)) = true := by decide +kernel
theorem es_s1 : es_okb (es_run2 es_ME es_CT 1 100000 194 (0, [(0, (5, 0))], [], [], es_F0, 0, 0)) = true := by decide +kernel
theorem es_s2 : es_okb (es_run2 es_ME es_CT 2 100000 194 (0, [(0, (5, 0))], [], [], es_F0, 0, 0)) = true := by decide +kernel
theorem es_s3 : es_okb (es_run2 es_ME es_CT 3 100000 194 (0, [(0, (5, 0))], [], [], es_F0, 0, 0)) = true := by decide +kernel
theorem es_s4 : es_okb (es_run2 es_ME es_CT 4 100000 194 (0, [(0, (5, 0))], [], [], es_F0, 0, 0)) = true := by decide +kernel
theorem es_s5 : es_okb (es_run2 es_ME es_CT 5 100000 194 (0, [(0, (5, 0))], [], [], es_F0, 0, 0)) = true := by decide +kernel
end
section
theorem es_o0_0 : es_okb (es_run2 es_ME es_CT 6 100000 194 (es_K0 244 (es_FF 0 4294967295 0 4294967295))) = true := by decide +kernel
theorem es_o1_0 : es_okb (es_run2 es_ME es_CT 6 100000 194 (es_K0 317 (es_FF 0 4294967295 0 4294967295))) = true := by decide +kernel
theorem es_o2_0 : es_okb (es_run2 es_ME es_CT 6 100000 194 (es_K0 342 (es_FF 0 4294967295 0 4294967295))) = true := by decide +kernel
theorem es_o3_0 : es_okb (es_run2 es_ME es_CT 6 100000 194 (es_K0 386 (es_FF 0 4294967295 0 4294967295))) = true := by decide +kernel
theorem es_o4_0 : es_okb (es_run2 es_ME es_CT 6 100000 194 (es_K0 430 (es_FF 0 4294967295 0 4294967295))) = true := by decide +kernel
theorem es_o5_0 : es_okb (es_run2 es_ME es_CT 6 100000 194 (es_K0 443 (es_FF 0 4294967295 0 4294967295))) = true := by decide +kernel
theorem es_o6_0 : es_okb (es_run2 es_ME es_CT 6 100000 194 (es_K0 511 (es_FF 0 4294967295 0 4294967295))) = true := by decide +kernel
theorem es_o7_0 : es_okb (es_run2 es_ME es_CT 6 100000 194 (es_K0 579 (es_FF 0 4294967295 0 4294967295))) = true := by decide +kernel
theorem es_o8_0 : es_okb (es_run2 es_ME es_CT 6 100000 194 (es_K0 663 (es_FF 0 4294967295 0 4294967295))) = true := by decide +kernel
theorem es_o9_0 : es_okb (es_run2 es_ME es_CT 6 100000 194 (es_K0 747 (es_FF 0 4294967295 0 4294967295))) = true := by decide +kernel
theorem es_o10_0 : es_okb (es_run2 es_ME es_CT 6 100000 194 (es_K0 803 (es_FF 0 4294967295 0 4294967295))) = true := by decide +kernel
theorem es_o11_0 : es_okb (es_run2 es_ME es_CT 6 100000 194 (es_K0 878 (es_FF 0 4294967295 0 4294967295))) = true := by decide +kernel
theorem es_o12_0 : es_okb (es_run2 es_ME es_CT 6 100000 194 (es_K0 934 (es_FF 0 4294967295 0 4294967295))) = true := by decide +kernel
theorem es_o13_0 : es_okb (es_run2 es_ME es_CT 6 100000 194 (es_K0 1014 (es_FF 0 4294967295 0 4294967295))) = true := by decide +kernel
theorem es_o14_0 : es_okb (es_run2 es_ME es_CT 6 100000 194 (es_K0 1082 (es_FF 0 4294967295 0 4294967295))) = true := by decide +kernel
theorem es_o15_0 : es_okb (es_run2 es_ME es_CT 6 100000 194 (es_K0 1138 (es_FF 0 4294967295 0 4294967295))) = true := by decide +kernel
theorem es_o16_0 : es_okb (es_run2 es_ME es_CT 6 100000 194 (es_K0 1194 (es_FF 0 4294967295 0 4294967295))) = true := by decide +kernel
theorem es_o17_0 : es_okb (es_run2 es_ME es_CT 6 100000 194 (es_K0 1274 (es_FF 0 4294967295 0 4294967295))) = true := by decide +kernel
theorem es_o18_0 : es_okb (es_run2 es_ME es_CT 6 100000 194 (es_K0 1330 (es_FF 0 4294967295 0 4294967295))) = true := by decide +kernel
theorem es_o19_0 : es_okb (es_run2 es_ME es_CT 6 100000 194 (es_K0 1386 (es_FF 0 4294967295 0 4294967295))) = true := by decide +kernel
theorem es_o20_0 : es_okb (es_run2 es_ME es_CT 6 100000 194 (es_K0 1442 (es_FF 0 4294967295 0 4294967295))) = true := by decide +kernel
theorem es_o21_0 : es_okb (es_run2 es_ME es_CT 6 100000 194 (es_K0 1498 (es_FF 0 4294967295 0 4294967295))) = true := by decide +kernel
theorem es_o22_0 : es_okb (es_run2 es_ME es_CT 6 100000 194 (es_K0 1566 (es_FF 0 4294967295 0 4294967295))) = true := by decide +kernel
theorem es_o23_0 : es_okb (es_run2 es_ME es_CT 6 100000 194 (es_K0 1634 (es_FF 0 4294967295 0 4294967295))) = true := by decide +kernel
theorem es_o24_0 : es_okb (es_run2 es_ME es_CT 6 100000 194 (es_K0 1709 (es_FF 0 4294967295 0 4294967295))) = true := by decide +kernel
theorem es_o25_0 : es_okb (es_run2 es_ME es_CT 6 100000 194 (es_K0 1765 (es_FF 0 4294967295 0 4294967295))) = true := by decide +kernel
theorem es_o26_0 : es_okb (es_run2 es_ME es_CT 6 100000 194 (es_K0 1849 (es_FF 0 4294967295 0 4294967295))) = true := by decide +kernel
theorem es_o27_0 : es_okb (es_run2 es_ME es_CT 6 100000 194 (es_K0 1905 (es_FF 0 2147483647 0 4294967295))) = true := by decide +kernel
theorem es_o27_1 : es_okb (es_run2 es_ME es_CT 6 100000 194 (es_K0 1905 (es_FF 2147483648 2147483648 0 4294967295))) = true := by decide +kernel
theorem es_o27_2 : es_okb (es_run2 es_ME es_CT 6 100000 194 (es_K0 1905 (es_FF 2147483649 4294967295 0 4294967295))) = true := by decide +kernel
theorem es_o28_0 : es_okb (es_run2 es_ME es_CT 6 100000 194 (es_K0 1977 (es_FF 0 4294967295 0 4294967295))) = true := by decide +kernel
theorem es_o29_0 : es_okb (es_run2 es_ME es_CT 6 100000 194 (es_K0 2021 (es_FF 0 4294967295 0 4294967295))) = true := by decide +kernel
theorem es_o31_0 : es_okb (es_run2 es_ME es_CT 6 100000 194 (es_K0 2157 (es_FF 0 2147483647 0 4294967295))) = true := by decide +kernel
theorem es_o31_1 : es_okb (es_run2 es_ME es_CT 6 100000 194 (es_K0 2157 (es_FF 2147483648 2147483648 0 4294967295))) = true := by decide +kernel
theorem es_o31_2 : es_okb (es_run2 es_ME es_CT 6 100000 194 (es_K0 2157 (es_FF 2147483649 4294967295 0 4294967295))) = true := by decide +kernel
theorem es_o32_0 : es_okb (es_run2 es_ME es_CT 6 100000 194 (es_K0 2198 (es_FF 0 2147483647 0 4294967295))) = true := by decide +kernel
theorem es_o32_1 : es_okb (es_run2 es_ME es_CT 6 100000 194 (es_K0 2198 (es_FF 2147483648 2147483648 0 4294967295))) = true := by decide +kernel
theorem es_o32_2 : es_okb (es_run2 es_ME es_CT 6 100000 194 (es_K0 2198 (es_FF 2147483649 4294967295 0 4294967295))) = true := by decide +kernel
theorem es_o33_0 : es_okb (es_run2 es_ME es_CT 6 100000 194 (es_K0 2254 (es_FF 0 4294967295 0 4294967295))) = true := by decide +kernel
theorem es_o34_0 : es_okb (es_run2 es_ME es_CT 6 100000 194 (es_K0 2267 (es_FF 0 4294967295 0 4294967295))) = true := by decide +kernel
theorem es_o35_0 : es_okb (es_run2 es_ME es_CT 6 100000 194 (es_K0 2280 (es_FF 0 4294967295 0 4294967295))) = true := by decide +kernel
theorem es_o36_0 : es_okb (es_run2 es_ME es_CT 6 100000 194 (es_K0 2336 (es_FF 0 4294967295 0 4294967295))) = true := by decide +kernel
theorem es_o37_0 : es_okb (es_run2 es_ME es_CT 6 100000 194 (es_K0 2349 (es_FF 0 4294967295 0 4294967295))) = true := by decide +kernel
theorem es_o40_0 : es_okb (es_run2 es_ME es_CT 6 100000 194 (es_K0 2558 (es_FF 0 4294967295 0 4294967295))) = true := by decide +kernel
theorem es_o41_0 : es_okb (es_run2 es_ME es_CT 6 100000 194 (es_K0 2642 (es_FF 0 4294967295 0 4294967295))) = true := by decide +kernel
theorem es_o42_0 : es_okb (es_run2 es_ME es_CT 6 100000 194 (es_K0 2710 (es_FF 0 4294967295 0 4294967295))) = true := by decide +kernel
theorem es_o43_0 : es_okb (es_run2 es_ME es_CT 6 100000 194 (es_K0 2735 (es_FF 0 4294967295 0 4294967295))) = true := by decide +kernel
theorem es_o44_0 : es_okb (es_run2 es_ME es_CT 6 100000 194 (es_K0 2748 (es_FF 0 4294967295 0 4294967295))) = true := by decide +kernel
theorem es_o45_0 : es_okb (es_run2 es_ME es_CT 6 100000 194 (es_K0 2759 (es_FF 0 4294967295 0 4294967295))) = true := by decide +kernel
theorem es_o46_0 : es_okb (es_run2 es_ME es_CT 6 100000 194 (es_K0 2772 (es_FF 0 2147483647 0 4294967295))) = true := by decide +kernel
theorem es_o46_1 : es_okb (es_run2 es_ME es_CT 6 100000 194 (es_K0 2772 (es_FF 2147483648 2147483648 0 4294967295))) = true := by decide +kernel
theorem es_o46_2 : es_okb (es_run2 es_ME es_CT 6 100000 194 (es_K0 2772 (es_FF 2147483649 2147483649 0 4294967295))) = true := by decide +kernel
theorem es_o46_3 : es_okb (es_run2 es_ME es_CT 6 100000 194 (es_K0 2772 (es_FF 2147483650 2147483650 0 4294967295))) = true := by decide +kernel
theorem es_o46_4 : es_okb (es_run2 es_ME es_CT 6 100000 194 (es_K0 2772 (es_FF 2147483651 2147483651 0 4294967295))) = true := by decide +kernel
theorem es_o46_5 : es_okb (es_run2 es_ME es_CT 6 100000 194 (es_K0 2772 (es_FF 2147483652 2147483652 0 4294967295))) = true := by decide +kernel
theorem es_o46_6 : es_okb (es_run2 es_ME es_CT 6 100000 194 (es_K0 2772 (es_FF 2147483653 2147483653 0 4294967295))) = true := by decide +kernel
theorem es_o46_7 : es_okb (es_run2 es_ME es_CT 6 100000 194 (es_K0 2772 (es_FF 2147483654 2147483654 0 4294967295))) = true := by decide +kernel
theorem es_o46_8 : es_okb (es_run2 es_ME es_CT 6 100000 194 (es_K0 2772 (es_FF 2147483655 2147483655 0 4294967295))) = true := by decide +kernel
theorem es_o46_9 : es_okb (es_run2 es_ME es_CT 6 100000 194 (es_K0 2772 (es_FF 2147483656 2147483656 0 4294967295))) = true := by decide +kernel
theorem es_o46_10 : es_okb (es_run2 es_ME es_CT 6 100000 194 (es_K0 2772 (es_FF 2147483657 2147483657 0 4294967295))) = true := by decide +kernel
theorem es_o46_11 : es_okb (es_run2 es_ME es_CT 6 100000 194 (es_K0 2772 (es_FF 2147483658 2147483658 0 4294967295))) = true := by decide +kernel
theorem es_o46_12 : es_okb (es_run2 es_ME es_CT 6 100000 194 (es_K0 2772 (es_FF 2147483659 2147483659 0 4294967295))) = true := by decide +kernel
theorem es_o46_13 : es_okb (es_run2 es_ME es_CT 6 100000 194 (es_K0 2772 (es_FF 2147483660 2147483660 0 4294967295))) = true := by decide +kernel
theorem es_o46_14 : es_okb (es_run2 es_ME es_CT 6 100000 194 (es_K0 2772 (es_FF 2147483661 2147483661 0 4294967295))) = true := by decide +kernel
theorem es_o46_15 : es_okb (es_run2 es_ME es_CT 6 100000 194 (es_K0 2772 (es_FF 2147483662 2147483662 0 4294967295))) = true := by decide +kernel
theorem es_o46_16 : es_okb (es_run2 es_ME es_CT 6 100000 194 (es_K0 2772 (es_FF 2147483663 2147483663 0 4294967295))) = true := by decide +kernel
theorem es_o46_17 : es_okb (es_run2 es_ME es_CT 6 100000 194 (es_K0 2772 (es_FF 2147483664 4294967295 0 4294967295))) = true := by decide +kernel
theorem es_o47_0 : es_okb (es_run2 es_ME es_CT 6 100000 194 (es_K0 2797 (es_FF 0 4294967295 0 4294967295))) = true := by decide +kernel
end
section
theorem es_o30_0 : es_okb (es_run2 es_ME es_CT 6 100000 194 (es_K0 2089 (es_FF 0 2147483647 0 4294967295))) = true := by decide +kernel
theorem es_o30_1 : es_okb (es_run2 es_ME es_CT 6 100000 194 (es_K0 2089 (es_FF 2147483648 2147483648 0 4294967295))) = true := by decide +kernel
theorem es_o30_2 : es_okb (es_run2 es_ME es_CT 6 100000 194 (es_K0 2089 (es_FF 2147483649 2147483649 0 4294967295))) = true := by decide +kernel
theorem es_o30_3 : es_okb (es_run2 es_ME es_CT 6 100000 194 (es_K0 2089 (es_FF 2147483650 2147483650 0 4294967295))) = true := by decide +kernel
theorem es_o30_4 : es_okb (es_run2 es_ME es_CT 6 100000 194 (es_K0 2089 (es_FF 2147483651 2147483651 0 4294967295))) = true := by decide +kernel
theorem es_o30_5 : es_okb (es_run2 es_ME es_CT 6 100000 194 (es_K0 2089 (es_FF 2147483652 2147483652 0 2147483647))) = true := by decide +kernel
theorem es_o30_6 : es_okb (es_run2 es_ME es_CT 6 100000 194 (es_K0 2089 (es_FF 2147483652 2147483652 2147483648 2147483648))) = true := by decide +kernel
theorem es_o30_7 : es_okb (es_run2 es_ME es_CT 6 100000 194 (es_K0 2089 (es_FF 2147483652 2147483652 2147483649 2147483649))) = true := by decide +kernel
theorem es_o30_8 : es_okb (es_run2 es_ME es_CT 6 100000 194 (es_K0 2089 (es_FF 2147483652 2147483652 2147483650 2147483650))) = true := by decide +kernel
theorem es_o30_9 : es_okb (es_run2 es_ME es_CT 6 100000 194 (es_K0 2089 (es_FF 2147483652 2147483652 2147483651 2147483651))) = true := by decide +kernel
theorem es_o30_10 : es_okb (es_run2 es_ME es_CT 6 100000 194 (es_K0 2089 (es_FF 2147483652 2147483652 2147483652 2147483652))) = true := by decide +kernel
theorem es_o30_11 : es_okb (es_run2 es_ME es_CT 6 100000 194 (es_K0 2089 (es_FF 2147483652 2147483652 2147483653 2147483653))) = true := by decide +kernel
theorem es_o30_12 : es_okb (es_run2 es_ME es_CT 6 100000 194 (es_K0 2089 (es_FF 2147483652 2147483652 2147483654 4294967295))) = true := by decide +kernel
theorem es_o30_13 : es_okb (es_run2 es_ME es_CT 6 100000 194 (es_K0 2089 (es_FF 2147483653 2147483653 0 2147483647))) = true := by decide +kernel
theorem es_o30_14 : es_okb (es_run2 es_ME es_CT 6 100000 194 (es_K0 2089 (es_FF 2147483653 2147483653 2147483648 2147483648))) = true := by decide +kernel
theorem es_o30_15 : es_okb (es_run2 es_ME es_CT 6 100000 194 (es_K0 2089 (es_FF 2147483653 2147483653 2147483649 2147483649))) = true := by decide +kernel
theorem es_o30_16 : es_okb (es_run2 es_ME es_CT 6 100000 194 (es_K0 2089 (es_FF 2147483653 2147483653 2147483650 2147483650))) = true := by decide +kernel
theorem es_o30_17 : es_okb (es_run2 es_ME es_CT 6 100000 194 (es_K0 2089 (es_FF 2147483653 2147483653 2147483651 2147483651))) = true := by decide +kernel
theorem es_o30_18 : es_okb (es_run2 es_ME es_CT 6 100000 194 (es_K0 2089 (es_FF 2147483653 2147483653 2147483652 2147483652))) = true := by decide +kernel
theorem es_o30_19 : es_okb (es_run2 es_ME es_CT 6 100000 194 (es_K0 2089 (es_FF 2147483653 2147483653 2147483653 2147483653))) = true := by decide +kernel
theorem es_o30_20 : es_okb (es_run2 es_ME es_CT 6 100000 194 (es_K0 2089 (es_FF 2147483653 2147483653 2147483654 4294967295))) = true := by decide +kernel
theorem es_o30_21 : es_okb (es_run2 es_ME es_CT 6 100000 194 (es_K0 2089 (es_FF 2147483654 4294967295 0 4294967295))) = true := by decide +kernel
end
section
theorem es_o38_0 : es_okb (es_run2 es_ME es_CT 6 100000 194 (es_K0 2390 (es_FF 0 4294967295 0 2147483647))) = true := by decide +kernel
theorem es_o38_1 : es_okb (es_run2 es_ME es_CT 6 100000 194 (es_K0 2390 (es_FF 0 4294967295 2147483648 2147483648))) = true := by decide +kernel
theorem es_o38_2 : es_okb (es_run2 es_ME es_CT 6 100000 194 (es_K0 2390 (es_FF 0 4294967295 2147483649 4294967295))) = true := by decide +kernel
theorem es_o39_0 : es_okb (es_run2 es_ME es_CT 6 100000 194 (es_K0 2474 (es_FF 0 4294967295 0 2147483647))) = true := by decide +kernel
theorem es_o39_1 : es_okb (es_run2 es_ME es_CT 6 100000 194 (es_K0 2474 (es_FF 0 4294967295 2147483648 2147483648))) = true := by decide +kernel
theorem es_o39_2 : es_okb (es_run2 es_ME es_CT 6 100000 194 (es_K0 2474 (es_FF 0 4294967295 2147483649 4294967295))) = true := by decide +kernel
end
section
section Law
variable {p : Program} {l : Launch} {e : Env} {s : State} {m : MethodId} {below : List Frame} {meth : Method} {c : Code} {b L : Nat} {xs : Nat → Int32} {D : va_G} {cI cJ cZ cC cM : ClassId}
def es_LW (l : Launch) (p : Program) (s : State) (m : MethodId) (meth : Method) (c : Code) (b L : Nat) (xs : Nat → Int32) (D : va_G) (cI cJ cZ cC cM : ClassId) : Prop := es_FC es_WS L D cI cJ cZ cC cM s.heap.size b xs p room_1 s m #[Value.ref b] meth c (es_ME 194) ∧ es_ev l es_strs es_wx L D cI cJ cZ cC cM s.heap.size b xs s ∧ c.exceptionTable.toList = tableOf (es_hh (es_ME 194))
theorem es_isir_ok {o : Option es_I} (h : es_isir o = true) : ∃ E : es_I, o = some E ∧ E.2.1 = .ireturn := by
  unfold es_isir at h
  split at h
  · rename_i E
    split at h
    · rename_i h2; exact ⟨E, rfl, h2⟩
    · cases h
  · cases h
theorem es_fin_ok (hC : es_LW l p s m meth c b L xs D cI cJ cZ cC cM) {E : es_E} (h : es_fin E = true) : es_EG p l e room_1 s m #[Value.ref b] below meth c (lw_Z below #[Value.ref b] s) D (es_TY cI cJ cZ cC cM) s.heap.size b xs (es_mL (es_ME 194)) E := by
  obtain ⟨k, pc, L1, S, AH, F, cs, ss⟩ := E
  unfold es_fin at h
  simp only [Bool.and_eq_true, es_beq, Nat.ble_eq] at h
  obtain ⟨⟨⟨rfl, h1⟩, h2⟩, h3, h4⟩ := h
  obtain ⟨E1, hat, hins⟩ := es_isir_ok h2
  have hd := es_rows es_G0 hat (fun d1 d2 d3 d4 h9 => by rw [hins] at h9; cases h9)
  rw [hins] at hd
  obtain ⟨fc, -, -⟩ := hC
  intro H ls locs st hinv
  obtain ⟨hl, hs, hH, hF, hS⟩ := hinv
  dsimp only at hl hs hH hF hS ⊢
  unfold es_one at h1
  split at h1
  · rename_i v
    have e1 := es_veq_ok h1
    subst e1
    obtain ⟨y, st', rfl, hy, hst⟩ := hs
    have e2 : st' = [] := hst
    subst e2
    have e3 : y = .int 1 := by
      have h9 : y = .int (nI 1) := hy
      rw [h9]; rfl
    subst e3
    refine va_forget hS.2.2 (W.widen (k := 600002) (n := 7302232) h3 h4 ?_)
    exact lw_ret fc.1 fc.2.1 fc.2.2.2.2.2.2.2.2.2.2.2 fc.2.2.2.2.2.2.2.2.2.2.1 hd
  · cases h1
theorem es_goW (hC : es_LW l p s m meth c b L xs D cI cJ cZ cC cM) {K : es_K} {ends : List es_E} (hr : es_run2 es_ME es_CT L 100000 194 K = some ends) (hends : ∀ E ∈ ends, es_EG p l e room_1 s m #[Value.ref b] below meth c (lw_Z below #[Value.ref b] s) D (es_TY cI cJ cZ cC cM) s.heap.size b xs (es_mL (es_ME 194)) E) : es_G p l e room_1 s m #[Value.ref b] below meth c (lw_Z below #[Value.ref b] s) D (es_TY cI cJ cZ cC cM) s.heap.size b xs (es_mL (es_ME 194)) K :=
  es_run2_ok es_G0 es_C0 100000 xs 194 K ends hr p e room_1 s m #[Value.ref b] below meth c (lw_Z below #[Value.ref b] s) hC.1 hC.2.1 hC.2.2 hends
theorem es_okW (hC : es_LW l p s m meth c b L xs D cI cJ cZ cC cM) {K : es_K} (h : es_okb (es_run2 es_ME es_CT L 100000 194 K) = true) : es_G p l e room_1 s m #[Value.ref b] below meth c (lw_Z below #[Value.ref b] s) D (es_TY cI cJ cZ cC cM) s.heap.size b xs (es_mL (es_ME 194)) K := by
  cases hr : es_run2 es_ME es_CT L 100000 194 K with
  | none => rw [hr] at h; cases h
  | some ends =>
    rw [hr] at h
    exact es_goW hC hr (fun E hE => es_fin_ok hC (List.all_eq_true.mp h E hE))
theorem es_frF {a1 b1 a2 b2 : Nat} (h1 : a1 ≤ es_zb (xs 1) ∧ es_zb (xs 1) ≤ b1) (h2 : a2 ≤ es_zb (xs 2) ∧ es_zb (xs 2) ≤ b2) : es_fr xs (es_FF a1 b1 a2 b2) := by
  have hz : ∀ k, es_zb (xs k) ≤ 4294967295 := fun k => by
    have := es_rng (xs k)
    unfold es_zb
    omega
  intro k q hq
  unfold es_FF at hq
  match k, hq with
  | 0, hq => cases hq; exact ⟨Nat.zero_le _, hz 0⟩
  | 1, hq => cases hq; exact h1
  | 2, hq => cases hq; exact h2
  | 3, hq => cases hq; exact ⟨Nat.zero_le _, hz 3⟩
  | 4, hq => cases hq; exact ⟨Nat.zero_le _, hz 4⟩
  | 5, hq => cases hq; exact ⟨Nat.zero_le _, hz 5⟩
  | k + 6, hq => simp at hq
/-- a case of the law's switch -/
def es_CW (p : Program) (l : Launch) (e : Env) (s : State) (m : MethodId) (b : Nat) (below : List Frame) (meth : Method) (c : Code) (D : va_G) (cI cJ cZ cC cM : ClassId) (xs : Nat → Int32) (pc : Nat) : Prop := ∀ (H : Heap) (ls : Array Slot) (locs : List Loc), es_inv D (es_TY cI cJ cZ cC cM) s.heap.size b xs (es_mL (es_ME 194)) s (es_K0 pc es_F0) H ls locs [] → W p l e room_1 s m #[Value.ref b] below meth c H locs 232 47168 (lw_Z below #[Value.ref b] s) (F0 m pc ls [])
theorem es_pcW (hC : es_LW l p s m meth c b 6 xs D cI cJ cZ cC cM) {pc a1 b1 a2 b2 : Nat} (h : es_okb (es_run2 es_ME es_CT 6 100000 194 (es_K0 pc (es_FF a1 b1 a2 b2))) = true) (h1 : a1 ≤ es_zb (xs 1) ∧ es_zb (xs 1) ≤ b1) (h2 : a2 ≤ es_zb (xs 2) ∧ es_zb (xs 2) ≤ b2) : es_CW p l e s m b below meth c D cI cJ cZ cC cM xs pc := by
  intro H ls locs hinv
  exact es_okW hC h H ls locs [] ⟨hinv.1, hinv.2.1, hinv.2.2.1, es_frF h1 h2, hinv.2.2.2.2⟩
theorem es_cw0 (hC : es_LW l p s m meth c b 6 xs D cI cJ cZ cC cM) : es_CW p l e s m b below meth c D cI cJ cZ cC cM xs 244 := by
  have hz1 : es_zb (xs 1) ≤ 4294967295 := by
    have := es_rng (xs 1)
    unfold es_zb
    omega
  have hz2 : es_zb (xs 2) ≤ 4294967295 := by
    have := es_rng (xs 2)
    unfold es_zb
    omega
  exact es_pcW hC es_o0_0 (by omega) (by omega)
theorem es_cw1 (hC : es_LW l p s m meth c b 6 xs D cI cJ cZ cC cM) : es_CW p l e s m b below meth c D cI cJ cZ cC cM xs 317 := by
  have hz1 : es_zb (xs 1) ≤ 4294967295 := by
    have := es_rng (xs 1)
    unfold es_zb
    omega
  have hz2 : es_zb (xs 2) ≤ 4294967295 := by
    have := es_rng (xs 2)
    unfold es_zb
    omega
  exact es_pcW hC es_o1_0 (by omega) (by omega)
theorem es_cw2 (hC : es_LW l p s m meth c b 6 xs D cI cJ cZ cC cM) : es_CW p l e s m b below meth c D cI cJ cZ cC cM xs 342 := by
  have hz1 : es_zb (xs 1) ≤ 4294967295 := by
    have := es_rng (xs 1)
    unfold es_zb
    omega
  have hz2 : es_zb (xs 2) ≤ 4294967295 := by
    have := es_rng (xs 2)
    unfold es_zb
    omega
  exact es_pcW hC es_o2_0 (by omega) (by omega)
theorem es_cw3 (hC : es_LW l p s m meth c b 6 xs D cI cJ cZ cC cM) : es_CW p l e s m b below meth c D cI cJ cZ cC cM xs 386 := by
  have hz1 : es_zb (xs 1) ≤ 4294967295 := by
    have := es_rng (xs 1)
    unfold es_zb
    omega
  have hz2 : es_zb (xs 2) ≤ 4294967295 := by
    have := es_rng (xs 2)
    unfold es_zb
    omega
  exact es_pcW hC es_o3_0 (by omega) (by omega)
theorem es_cw4 (hC : es_LW l p s m meth c b 6 xs D cI cJ cZ cC cM) : es_CW p l e s m b below meth c D cI cJ cZ cC cM xs 430 := by
  have hz1 : es_zb (xs 1) ≤ 4294967295 := by
    have := es_rng (xs 1)
    unfold es_zb
    omega
  have hz2 : es_zb (xs 2) ≤ 4294967295 := by
    have := es_rng (xs 2)
    unfold es_zb
    omega
  exact es_pcW hC es_o4_0 (by omega) (by omega)
theorem es_cw5 (hC : es_LW l p s m meth c b 6 xs D cI cJ cZ cC cM) : es_CW p l e s m b below meth c D cI cJ cZ cC cM xs 443 := by
  have hz1 : es_zb (xs 1) ≤ 4294967295 := by
    have := es_rng (xs 1)
    unfold es_zb
    omega
  have hz2 : es_zb (xs 2) ≤ 4294967295 := by
    have := es_rng (xs 2)
    unfold es_zb
    omega
  exact es_pcW hC es_o5_0 (by omega) (by omega)
theorem es_cw6 (hC : es_LW l p s m meth c b 6 xs D cI cJ cZ cC cM) : es_CW p l e s m b below meth c D cI cJ cZ cC cM xs 511 := by
  have hz1 : es_zb (xs 1) ≤ 4294967295 := by
    have := es_rng (xs 1)
    unfold es_zb
    omega
  have hz2 : es_zb (xs 2) ≤ 4294967295 := by
    have := es_rng (xs 2)
    unfold es_zb
    omega
  exact es_pcW hC es_o6_0 (by omega) (by omega)
theorem es_cw7 (hC : es_LW l p s m meth c b 6 xs D cI cJ cZ cC cM) : es_CW p l e s m b below meth c D cI cJ cZ cC cM xs 579 := by
  have hz1 : es_zb (xs 1) ≤ 4294967295 := by
    have := es_rng (xs 1)
    unfold es_zb
    omega
  have hz2 : es_zb (xs 2) ≤ 4294967295 := by
    have := es_rng (xs 2)
    unfold es_zb
    omega
  exact es_pcW hC es_o7_0 (by omega) (by omega)
theorem es_cw8 (hC : es_LW l p s m meth c b 6 xs D cI cJ cZ cC cM) : es_CW p l e s m b below meth c D cI cJ cZ cC cM xs 663 := by
  have hz1 : es_zb (xs 1) ≤ 4294967295 := by
    have := es_rng (xs 1)
    unfold es_zb
    omega
  have hz2 : es_zb (xs 2) ≤ 4294967295 := by
    have := es_rng (xs 2)
    unfold es_zb
    omega
  exact es_pcW hC es_o8_0 (by omega) (by omega)
theorem es_cw9 (hC : es_LW l p s m meth c b 6 xs D cI cJ cZ cC cM) : es_CW p l e s m b below meth c D cI cJ cZ cC cM xs 747 := by
  have hz1 : es_zb (xs 1) ≤ 4294967295 := by
    have := es_rng (xs 1)
    unfold es_zb
    omega
  have hz2 : es_zb (xs 2) ≤ 4294967295 := by
    have := es_rng (xs 2)
    unfold es_zb
    omega
  exact es_pcW hC es_o9_0 (by omega) (by omega)
theorem es_cw10 (hC : es_LW l p s m meth c b 6 xs D cI cJ cZ cC cM) : es_CW p l e s m b below meth c D cI cJ cZ cC cM xs 803 := by
  have hz1 : es_zb (xs 1) ≤ 4294967295 := by
    have := es_rng (xs 1)
    unfold es_zb
    omega
  have hz2 : es_zb (xs 2) ≤ 4294967295 := by
    have := es_rng (xs 2)
    unfold es_zb
    omega
  exact es_pcW hC es_o10_0 (by omega) (by omega)
theorem es_cw11 (hC : es_LW l p s m meth c b 6 xs D cI cJ cZ cC cM) : es_CW p l e s m b below meth c D cI cJ cZ cC cM xs 878 := by
  have hz1 : es_zb (xs 1) ≤ 4294967295 := by
    have := es_rng (xs 1)
    unfold es_zb
    omega
  have hz2 : es_zb (xs 2) ≤ 4294967295 := by
    have := es_rng (xs 2)
    unfold es_zb
    omega
  exact es_pcW hC es_o11_0 (by omega) (by omega)
theorem es_cw12 (hC : es_LW l p s m meth c b 6 xs D cI cJ cZ cC cM) : es_CW p l e s m b below meth c D cI cJ cZ cC cM xs 934 := by
  have hz1 : es_zb (xs 1) ≤ 4294967295 := by
    have := es_rng (xs 1)
    unfold es_zb
    omega
  have hz2 : es_zb (xs 2) ≤ 4294967295 := by
    have := es_rng (xs 2)
    unfold es_zb
    omega
  exact es_pcW hC es_o12_0 (by omega) (by omega)
theorem es_cw13 (hC : es_LW l p s m meth c b 6 xs D cI cJ cZ cC cM) : es_CW p l e s m b below meth c D cI cJ cZ cC cM xs 1014 := by
  have hz1 : es_zb (xs 1) ≤ 4294967295 := by
    have := es_rng (xs 1)
    unfold es_zb
    omega
  have hz2 : es_zb (xs 2) ≤ 4294967295 := by
    have := es_rng (xs 2)
    unfold es_zb
    omega
  exact es_pcW hC es_o13_0 (by omega) (by omega)
theorem es_cw14 (hC : es_LW l p s m meth c b 6 xs D cI cJ cZ cC cM) : es_CW p l e s m b below meth c D cI cJ cZ cC cM xs 1082 := by
  have hz1 : es_zb (xs 1) ≤ 4294967295 := by
    have := es_rng (xs 1)
    unfold es_zb
    omega
  have hz2 : es_zb (xs 2) ≤ 4294967295 := by
    have := es_rng (xs 2)
    unfold es_zb
    omega
  exact es_pcW hC es_o14_0 (by omega) (by omega)
theorem es_cw15 (hC : es_LW l p s m meth c b 6 xs D cI cJ cZ cC cM) : es_CW p l e s m b below meth c D cI cJ cZ cC cM xs 1138 := by
  have hz1 : es_zb (xs 1) ≤ 4294967295 := by
    have := es_rng (xs 1)
    unfold es_zb
    omega
  have hz2 : es_zb (xs 2) ≤ 4294967295 := by
    have := es_rng (xs 2)
    unfold es_zb
    omega
  exact es_pcW hC es_o15_0 (by omega) (by omega)
theorem es_cw16 (hC : es_LW l p s m meth c b 6 xs D cI cJ cZ cC cM) : es_CW p l e s m b below meth c D cI cJ cZ cC cM xs 1194 := by
  have hz1 : es_zb (xs 1) ≤ 4294967295 := by
    have := es_rng (xs 1)
    unfold es_zb
    omega
  have hz2 : es_zb (xs 2) ≤ 4294967295 := by
    have := es_rng (xs 2)
    unfold es_zb
    omega
  exact es_pcW hC es_o16_0 (by omega) (by omega)
theorem es_cw17 (hC : es_LW l p s m meth c b 6 xs D cI cJ cZ cC cM) : es_CW p l e s m b below meth c D cI cJ cZ cC cM xs 1274 := by
  have hz1 : es_zb (xs 1) ≤ 4294967295 := by
    have := es_rng (xs 1)
    unfold es_zb
    omega
  have hz2 : es_zb (xs 2) ≤ 4294967295 := by
    have := es_rng (xs 2)
    unfold es_zb
    omega
  exact es_pcW hC es_o17_0 (by omega) (by omega)
theorem es_cw18 (hC : es_LW l p s m meth c b 6 xs D cI cJ cZ cC cM) : es_CW p l e s m b below meth c D cI cJ cZ cC cM xs 1330 := by
  have hz1 : es_zb (xs 1) ≤ 4294967295 := by
    have := es_rng (xs 1)
    unfold es_zb
    omega
  have hz2 : es_zb (xs 2) ≤ 4294967295 := by
    have := es_rng (xs 2)
    unfold es_zb
    omega
  exact es_pcW hC es_o18_0 (by omega) (by omega)
theorem es_cw19 (hC : es_LW l p s m meth c b 6 xs D cI cJ cZ cC cM) : es_CW p l e s m b below meth c D cI cJ cZ cC cM xs 1386 := by
  have hz1 : es_zb (xs 1) ≤ 4294967295 := by
    have := es_rng (xs 1)
    unfold es_zb
    omega
  have hz2 : es_zb (xs 2) ≤ 4294967295 := by
    have := es_rng (xs 2)
    unfold es_zb
    omega
  exact es_pcW hC es_o19_0 (by omega) (by omega)
theorem es_cw20 (hC : es_LW l p s m meth c b 6 xs D cI cJ cZ cC cM) : es_CW p l e s m b below meth c D cI cJ cZ cC cM xs 1442 := by
  have hz1 : es_zb (xs 1) ≤ 4294967295 := by
    have := es_rng (xs 1)
    unfold es_zb
    omega
  have hz2 : es_zb (xs 2) ≤ 4294967295 := by
    have := es_rng (xs 2)
    unfold es_zb
    omega
  exact es_pcW hC es_o20_0 (by omega) (by omega)
theorem es_cw21 (hC : es_LW l p s m meth c b 6 xs D cI cJ cZ cC cM) : es_CW p l e s m b below meth c D cI cJ cZ cC cM xs 1498 := by
  have hz1 : es_zb (xs 1) ≤ 4294967295 := by
    have := es_rng (xs 1)
    unfold es_zb
    omega
  have hz2 : es_zb (xs 2) ≤ 4294967295 := by
    have := es_rng (xs 2)
    unfold es_zb
    omega
  exact es_pcW hC es_o21_0 (by omega) (by omega)
theorem es_cw22 (hC : es_LW l p s m meth c b 6 xs D cI cJ cZ cC cM) : es_CW p l e s m b below meth c D cI cJ cZ cC cM xs 1566 := by
  have hz1 : es_zb (xs 1) ≤ 4294967295 := by
    have := es_rng (xs 1)
    unfold es_zb
    omega
  have hz2 : es_zb (xs 2) ≤ 4294967295 := by
    have := es_rng (xs 2)
    unfold es_zb
    omega
  exact es_pcW hC es_o22_0 (by omega) (by omega)
theorem es_cw23 (hC : es_LW l p s m meth c b 6 xs D cI cJ cZ cC cM) : es_CW p l e s m b below meth c D cI cJ cZ cC cM xs 1634 := by
  have hz1 : es_zb (xs 1) ≤ 4294967295 := by
    have := es_rng (xs 1)
    unfold es_zb
    omega
  have hz2 : es_zb (xs 2) ≤ 4294967295 := by
    have := es_rng (xs 2)
    unfold es_zb
    omega
  exact es_pcW hC es_o23_0 (by omega) (by omega)
theorem es_cw24 (hC : es_LW l p s m meth c b 6 xs D cI cJ cZ cC cM) : es_CW p l e s m b below meth c D cI cJ cZ cC cM xs 1709 := by
  have hz1 : es_zb (xs 1) ≤ 4294967295 := by
    have := es_rng (xs 1)
    unfold es_zb
    omega
  have hz2 : es_zb (xs 2) ≤ 4294967295 := by
    have := es_rng (xs 2)
    unfold es_zb
    omega
  exact es_pcW hC es_o24_0 (by omega) (by omega)
theorem es_cw25 (hC : es_LW l p s m meth c b 6 xs D cI cJ cZ cC cM) : es_CW p l e s m b below meth c D cI cJ cZ cC cM xs 1765 := by
  have hz1 : es_zb (xs 1) ≤ 4294967295 := by
    have := es_rng (xs 1)
    unfold es_zb
    omega
  have hz2 : es_zb (xs 2) ≤ 4294967295 := by
    have := es_rng (xs 2)
    unfold es_zb
    omega
  exact es_pcW hC es_o25_0 (by omega) (by omega)
theorem es_cw26 (hC : es_LW l p s m meth c b 6 xs D cI cJ cZ cC cM) : es_CW p l e s m b below meth c D cI cJ cZ cC cM xs 1849 := by
  have hz1 : es_zb (xs 1) ≤ 4294967295 := by
    have := es_rng (xs 1)
    unfold es_zb
    omega
  have hz2 : es_zb (xs 2) ≤ 4294967295 := by
    have := es_rng (xs 2)
    unfold es_zb
    omega
  exact es_pcW hC es_o26_0 (by omega) (by omega)
theorem es_cw27 (hC : es_LW l p s m meth c b 6 xs D cI cJ cZ cC cM) : es_CW p l e s m b below meth c D cI cJ cZ cC cM xs 1905 := by
  have hz1 : es_zb (xs 1) ≤ 4294967295 := by
    have := es_rng (xs 1)
    unfold es_zb
    omega
  have hz2 : es_zb (xs 2) ≤ 4294967295 := by
    have := es_rng (xs 2)
    unfold es_zb
    omega
  by_cases g0 : es_zb (xs 1) ≤ 2147483647
  · exact es_pcW hC es_o27_0 (by omega) (by omega)
  by_cases g1 : es_zb (xs 1) ≤ 2147483648
  · exact es_pcW hC es_o27_1 (by omega) (by omega)
  exact es_pcW hC es_o27_2 (by omega) (by omega)
theorem es_cw28 (hC : es_LW l p s m meth c b 6 xs D cI cJ cZ cC cM) : es_CW p l e s m b below meth c D cI cJ cZ cC cM xs 1977 := by
  have hz1 : es_zb (xs 1) ≤ 4294967295 := by
    have := es_rng (xs 1)
    unfold es_zb
    omega
  have hz2 : es_zb (xs 2) ≤ 4294967295 := by
    have := es_rng (xs 2)
    unfold es_zb
    omega
  exact es_pcW hC es_o28_0 (by omega) (by omega)
theorem es_cw29 (hC : es_LW l p s m meth c b 6 xs D cI cJ cZ cC cM) : es_CW p l e s m b below meth c D cI cJ cZ cC cM xs 2021 := by
  have hz1 : es_zb (xs 1) ≤ 4294967295 := by
    have := es_rng (xs 1)
    unfold es_zb
    omega
  have hz2 : es_zb (xs 2) ≤ 4294967295 := by
    have := es_rng (xs 2)
    unfold es_zb
    omega
  exact es_pcW hC es_o29_0 (by omega) (by omega)
theorem es_cw30 (hC : es_LW l p s m meth c b 6 xs D cI cJ cZ cC cM) : es_CW p l e s m b below meth c D cI cJ cZ cC cM xs 2089 := by
  have hz1 : es_zb (xs 1) ≤ 4294967295 := by
    have := es_rng (xs 1)
    unfold es_zb
    omega
  have hz2 : es_zb (xs 2) ≤ 4294967295 := by
    have := es_rng (xs 2)
    unfold es_zb
    omega
  by_cases g0 : es_zb (xs 1) ≤ 2147483647
  · exact es_pcW hC es_o30_0 (by omega) (by omega)
  by_cases g1 : es_zb (xs 1) ≤ 2147483648
  · exact es_pcW hC es_o30_1 (by omega) (by omega)
  by_cases g2 : es_zb (xs 1) ≤ 2147483649
  · exact es_pcW hC es_o30_2 (by omega) (by omega)
  by_cases g3 : es_zb (xs 1) ≤ 2147483650
  · exact es_pcW hC es_o30_3 (by omega) (by omega)
  by_cases g4 : es_zb (xs 1) ≤ 2147483651
  · exact es_pcW hC es_o30_4 (by omega) (by omega)
  by_cases g5 : es_zb (xs 1) ≤ 2147483652
  · by_cases q5 : es_zb (xs 2) ≤ 2147483647
    · exact es_pcW hC es_o30_5 (by omega) (by omega)
    by_cases q6 : es_zb (xs 2) ≤ 2147483648
    · exact es_pcW hC es_o30_6 (by omega) (by omega)
    by_cases q7 : es_zb (xs 2) ≤ 2147483649
    · exact es_pcW hC es_o30_7 (by omega) (by omega)
    by_cases q8 : es_zb (xs 2) ≤ 2147483650
    · exact es_pcW hC es_o30_8 (by omega) (by omega)
    by_cases q9 : es_zb (xs 2) ≤ 2147483651
    · exact es_pcW hC es_o30_9 (by omega) (by omega)
    by_cases q10 : es_zb (xs 2) ≤ 2147483652
    · exact es_pcW hC es_o30_10 (by omega) (by omega)
    by_cases q11 : es_zb (xs 2) ≤ 2147483653
    · exact es_pcW hC es_o30_11 (by omega) (by omega)
    exact es_pcW hC es_o30_12 (by omega) (by omega)
  by_cases g6 : es_zb (xs 1) ≤ 2147483653
  · by_cases q13 : es_zb (xs 2) ≤ 2147483647
    · exact es_pcW hC es_o30_13 (by omega) (by omega)
    by_cases q14 : es_zb (xs 2) ≤ 2147483648
    · exact es_pcW hC es_o30_14 (by omega) (by omega)
    by_cases q15 : es_zb (xs 2) ≤ 2147483649
    · exact es_pcW hC es_o30_15 (by omega) (by omega)
    by_cases q16 : es_zb (xs 2) ≤ 2147483650
    · exact es_pcW hC es_o30_16 (by omega) (by omega)
    by_cases q17 : es_zb (xs 2) ≤ 2147483651
    · exact es_pcW hC es_o30_17 (by omega) (by omega)
    by_cases q18 : es_zb (xs 2) ≤ 2147483652
    · exact es_pcW hC es_o30_18 (by omega) (by omega)
    by_cases q19 : es_zb (xs 2) ≤ 2147483653
    · exact es_pcW hC es_o30_19 (by omega) (by omega)
    exact es_pcW hC es_o30_20 (by omega) (by omega)
  exact es_pcW hC es_o30_21 (by omega) (by omega)
theorem es_cw31 (hC : es_LW l p s m meth c b 6 xs D cI cJ cZ cC cM) : es_CW p l e s m b below meth c D cI cJ cZ cC cM xs 2157 := by
  have hz1 : es_zb (xs 1) ≤ 4294967295 := by
    have := es_rng (xs 1)
    unfold es_zb
    omega
  have hz2 : es_zb (xs 2) ≤ 4294967295 := by
    have := es_rng (xs 2)
    unfold es_zb
    omega
  by_cases g0 : es_zb (xs 1) ≤ 2147483647
  · exact es_pcW hC es_o31_0 (by omega) (by omega)
  by_cases g1 : es_zb (xs 1) ≤ 2147483648
  · exact es_pcW hC es_o31_1 (by omega) (by omega)
  exact es_pcW hC es_o31_2 (by omega) (by omega)
theorem es_cw32 (hC : es_LW l p s m meth c b 6 xs D cI cJ cZ cC cM) : es_CW p l e s m b below meth c D cI cJ cZ cC cM xs 2198 := by
  have hz1 : es_zb (xs 1) ≤ 4294967295 := by
    have := es_rng (xs 1)
    unfold es_zb
    omega
  have hz2 : es_zb (xs 2) ≤ 4294967295 := by
    have := es_rng (xs 2)
    unfold es_zb
    omega
  by_cases g0 : es_zb (xs 1) ≤ 2147483647
  · exact es_pcW hC es_o32_0 (by omega) (by omega)
  by_cases g1 : es_zb (xs 1) ≤ 2147483648
  · exact es_pcW hC es_o32_1 (by omega) (by omega)
  exact es_pcW hC es_o32_2 (by omega) (by omega)
theorem es_cw33 (hC : es_LW l p s m meth c b 6 xs D cI cJ cZ cC cM) : es_CW p l e s m b below meth c D cI cJ cZ cC cM xs 2254 := by
  have hz1 : es_zb (xs 1) ≤ 4294967295 := by
    have := es_rng (xs 1)
    unfold es_zb
    omega
  have hz2 : es_zb (xs 2) ≤ 4294967295 := by
    have := es_rng (xs 2)
    unfold es_zb
    omega
  exact es_pcW hC es_o33_0 (by omega) (by omega)
theorem es_cw34 (hC : es_LW l p s m meth c b 6 xs D cI cJ cZ cC cM) : es_CW p l e s m b below meth c D cI cJ cZ cC cM xs 2267 := by
  have hz1 : es_zb (xs 1) ≤ 4294967295 := by
    have := es_rng (xs 1)
    unfold es_zb
    omega
  have hz2 : es_zb (xs 2) ≤ 4294967295 := by
    have := es_rng (xs 2)
    unfold es_zb
    omega
  exact es_pcW hC es_o34_0 (by omega) (by omega)
theorem es_cw35 (hC : es_LW l p s m meth c b 6 xs D cI cJ cZ cC cM) : es_CW p l e s m b below meth c D cI cJ cZ cC cM xs 2280 := by
  have hz1 : es_zb (xs 1) ≤ 4294967295 := by
    have := es_rng (xs 1)
    unfold es_zb
    omega
  have hz2 : es_zb (xs 2) ≤ 4294967295 := by
    have := es_rng (xs 2)
    unfold es_zb
    omega
  exact es_pcW hC es_o35_0 (by omega) (by omega)
theorem es_cw36 (hC : es_LW l p s m meth c b 6 xs D cI cJ cZ cC cM) : es_CW p l e s m b below meth c D cI cJ cZ cC cM xs 2336 := by
  have hz1 : es_zb (xs 1) ≤ 4294967295 := by
    have := es_rng (xs 1)
    unfold es_zb
    omega
  have hz2 : es_zb (xs 2) ≤ 4294967295 := by
    have := es_rng (xs 2)
    unfold es_zb
    omega
  exact es_pcW hC es_o36_0 (by omega) (by omega)
theorem es_cw37 (hC : es_LW l p s m meth c b 6 xs D cI cJ cZ cC cM) : es_CW p l e s m b below meth c D cI cJ cZ cC cM xs 2349 := by
  have hz1 : es_zb (xs 1) ≤ 4294967295 := by
    have := es_rng (xs 1)
    unfold es_zb
    omega
  have hz2 : es_zb (xs 2) ≤ 4294967295 := by
    have := es_rng (xs 2)
    unfold es_zb
    omega
  exact es_pcW hC es_o37_0 (by omega) (by omega)
theorem es_cw38 (hC : es_LW l p s m meth c b 6 xs D cI cJ cZ cC cM) : es_CW p l e s m b below meth c D cI cJ cZ cC cM xs 2390 := by
  have hz1 : es_zb (xs 1) ≤ 4294967295 := by
    have := es_rng (xs 1)
    unfold es_zb
    omega
  have hz2 : es_zb (xs 2) ≤ 4294967295 := by
    have := es_rng (xs 2)
    unfold es_zb
    omega
  by_cases q0 : es_zb (xs 2) ≤ 2147483647
  · exact es_pcW hC es_o38_0 (by omega) (by omega)
  by_cases q1 : es_zb (xs 2) ≤ 2147483648
  · exact es_pcW hC es_o38_1 (by omega) (by omega)
  exact es_pcW hC es_o38_2 (by omega) (by omega)
theorem es_cw39 (hC : es_LW l p s m meth c b 6 xs D cI cJ cZ cC cM) : es_CW p l e s m b below meth c D cI cJ cZ cC cM xs 2474 := by
  have hz1 : es_zb (xs 1) ≤ 4294967295 := by
    have := es_rng (xs 1)
    unfold es_zb
    omega
  have hz2 : es_zb (xs 2) ≤ 4294967295 := by
    have := es_rng (xs 2)
    unfold es_zb
    omega
  by_cases q0 : es_zb (xs 2) ≤ 2147483647
  · exact es_pcW hC es_o39_0 (by omega) (by omega)
  by_cases q1 : es_zb (xs 2) ≤ 2147483648
  · exact es_pcW hC es_o39_1 (by omega) (by omega)
  exact es_pcW hC es_o39_2 (by omega) (by omega)
theorem es_cw40 (hC : es_LW l p s m meth c b 6 xs D cI cJ cZ cC cM) : es_CW p l e s m b below meth c D cI cJ cZ cC cM xs 2558 := by
  have hz1 : es_zb (xs 1) ≤ 4294967295 := by
    have := es_rng (xs 1)
    unfold es_zb
    omega
  have hz2 : es_zb (xs 2) ≤ 4294967295 := by
    have := es_rng (xs 2)
    unfold es_zb
    omega
  exact es_pcW hC es_o40_0 (by omega) (by omega)
theorem es_cw41 (hC : es_LW l p s m meth c b 6 xs D cI cJ cZ cC cM) : es_CW p l e s m b below meth c D cI cJ cZ cC cM xs 2642 := by
  have hz1 : es_zb (xs 1) ≤ 4294967295 := by
    have := es_rng (xs 1)
    unfold es_zb
    omega
  have hz2 : es_zb (xs 2) ≤ 4294967295 := by
    have := es_rng (xs 2)
    unfold es_zb
    omega
  exact es_pcW hC es_o41_0 (by omega) (by omega)
theorem es_cw42 (hC : es_LW l p s m meth c b 6 xs D cI cJ cZ cC cM) : es_CW p l e s m b below meth c D cI cJ cZ cC cM xs 2710 := by
  have hz1 : es_zb (xs 1) ≤ 4294967295 := by
    have := es_rng (xs 1)
    unfold es_zb
    omega
  have hz2 : es_zb (xs 2) ≤ 4294967295 := by
    have := es_rng (xs 2)
    unfold es_zb
    omega
  exact es_pcW hC es_o42_0 (by omega) (by omega)
theorem es_cw43 (hC : es_LW l p s m meth c b 6 xs D cI cJ cZ cC cM) : es_CW p l e s m b below meth c D cI cJ cZ cC cM xs 2735 := by
  have hz1 : es_zb (xs 1) ≤ 4294967295 := by
    have := es_rng (xs 1)
    unfold es_zb
    omega
  have hz2 : es_zb (xs 2) ≤ 4294967295 := by
    have := es_rng (xs 2)
    unfold es_zb
    omega
  exact es_pcW hC es_o43_0 (by omega) (by omega)
theorem es_cw44 (hC : es_LW l p s m meth c b 6 xs D cI cJ cZ cC cM) : es_CW p l e s m b below meth c D cI cJ cZ cC cM xs 2748 := by
  have hz1 : es_zb (xs 1) ≤ 4294967295 := by
    have := es_rng (xs 1)
    unfold es_zb
    omega
  have hz2 : es_zb (xs 2) ≤ 4294967295 := by
    have := es_rng (xs 2)
    unfold es_zb
    omega
  exact es_pcW hC es_o44_0 (by omega) (by omega)
theorem es_cw45 (hC : es_LW l p s m meth c b 6 xs D cI cJ cZ cC cM) : es_CW p l e s m b below meth c D cI cJ cZ cC cM xs 2759 := by
  have hz1 : es_zb (xs 1) ≤ 4294967295 := by
    have := es_rng (xs 1)
    unfold es_zb
    omega
  have hz2 : es_zb (xs 2) ≤ 4294967295 := by
    have := es_rng (xs 2)
    unfold es_zb
    omega
  exact es_pcW hC es_o45_0 (by omega) (by omega)
theorem es_cw46 (hC : es_LW l p s m meth c b 6 xs D cI cJ cZ cC cM) : es_CW p l e s m b below meth c D cI cJ cZ cC cM xs 2772 := by
  have hz1 : es_zb (xs 1) ≤ 4294967295 := by
    have := es_rng (xs 1)
    unfold es_zb
    omega
  have hz2 : es_zb (xs 2) ≤ 4294967295 := by
    have := es_rng (xs 2)
    unfold es_zb
    omega
  by_cases g0 : es_zb (xs 1) ≤ 2147483647
  · exact es_pcW hC es_o46_0 (by omega) (by omega)
  by_cases g1 : es_zb (xs 1) ≤ 2147483648
  · exact es_pcW hC es_o46_1 (by omega) (by omega)
  by_cases g2 : es_zb (xs 1) ≤ 2147483649
  · exact es_pcW hC es_o46_2 (by omega) (by omega)
  by_cases g3 : es_zb (xs 1) ≤ 2147483650
  · exact es_pcW hC es_o46_3 (by omega) (by omega)
  by_cases g4 : es_zb (xs 1) ≤ 2147483651
  · exact es_pcW hC es_o46_4 (by omega) (by omega)
  by_cases g5 : es_zb (xs 1) ≤ 2147483652
  · exact es_pcW hC es_o46_5 (by omega) (by omega)
  by_cases g6 : es_zb (xs 1) ≤ 2147483653
  · exact es_pcW hC es_o46_6 (by omega) (by omega)
  by_cases g7 : es_zb (xs 1) ≤ 2147483654
  · exact es_pcW hC es_o46_7 (by omega) (by omega)
  by_cases g8 : es_zb (xs 1) ≤ 2147483655
  · exact es_pcW hC es_o46_8 (by omega) (by omega)
  by_cases g9 : es_zb (xs 1) ≤ 2147483656
  · exact es_pcW hC es_o46_9 (by omega) (by omega)
  by_cases g10 : es_zb (xs 1) ≤ 2147483657
  · exact es_pcW hC es_o46_10 (by omega) (by omega)
  by_cases g11 : es_zb (xs 1) ≤ 2147483658
  · exact es_pcW hC es_o46_11 (by omega) (by omega)
  by_cases g12 : es_zb (xs 1) ≤ 2147483659
  · exact es_pcW hC es_o46_12 (by omega) (by omega)
  by_cases g13 : es_zb (xs 1) ≤ 2147483660
  · exact es_pcW hC es_o46_13 (by omega) (by omega)
  by_cases g14 : es_zb (xs 1) ≤ 2147483661
  · exact es_pcW hC es_o46_14 (by omega) (by omega)
  by_cases g15 : es_zb (xs 1) ≤ 2147483662
  · exact es_pcW hC es_o46_15 (by omega) (by omega)
  by_cases g16 : es_zb (xs 1) ≤ 2147483663
  · exact es_pcW hC es_o46_16 (by omega) (by omega)
  exact es_pcW hC es_o46_17 (by omega) (by omega)
theorem es_cw47 (hC : es_LW l p s m meth c b 6 xs D cI cJ cZ cC cM) : es_CW p l e s m b below meth c D cI cJ cZ cC cM xs 2797 := by
  have hz1 : es_zb (xs 1) ≤ 4294967295 := by
    have := es_rng (xs 1)
    unfold es_zb
    omega
  have hz2 : es_zb (xs 2) ≤ 4294967295 := by
    have := es_rng (xs 2)
    unfold es_zb
    omega
  exact es_pcW hC es_o47_0 (by omega) (by omega)
theorem es_d39 : decode code 39 = .ok (.iand, 1) := by decide +kernel
theorem es_d40 : decode code 40 = .ok (.tableswitch 2757 0 46 #[204, 277, 302, 346, 390, 403, 471, 539, 623, 707, 763, 838, 894, 974, 1042, 1098, 1154, 1234, 1290, 1346, 1402, 1458, 1526, 1594, 1669, 1725, 1809, 1865, 1937, 1981, 2049, 2117, 2158, 2214, 2227, 2240, 2296, 2309, 2350, 2434, 2518, 2602, 2670, 2695, 2708, 2719, 2732], 204) := by decide +kernel
theorem es_and63 (x : Int32) : x &&& nI 63 = nI (x.toBitVec.toNat &&& 63) := by
  apply Int32.toBitVec_inj.mp
  show x.toBitVec &&& BitVec.ofNat 32 63 = BitVec.ofNat 32 (x.toBitVec.toNat &&& 63)
  apply BitVec.eq_of_toNat_eq
  rw [BitVec.toNat_and, BitVec.toNat_ofNat, BitVec.toNat_ofNat, Nat.mod_eq_of_lt (a := 63) (by decide)]
  exact (Nat.mod_eq_of_lt (Nat.lt_of_le_of_lt Nat.and_le_right (by decide))).symm
theorem es_jump (hC : es_LW l p s m meth c b 6 xs D cI cJ cZ cC cM) (n : Nat) (hn : n < 64) {H : Heap} {ls : Array Slot} {locs : List Loc} (hinv : ∀ pc, es_inv D (es_TY cI cJ cZ cC cM) s.heap.size b xs (es_mL (es_ME 194)) s (es_K0 pc es_F0) H ls locs []) : W p l e room_1 s m #[Value.ref b] below meth c H locs 232 47168 (lw_Z below #[Value.ref b] s) (F0 m 40 ls [.int (nI n)]) := by
  have hx := hC.1.1
  have hb : c.code = code := hC.1.2.1
  match n, hn with
  | 0, _ => exact lv_tableIn hx hb es_d40 (by decide) (by decide) (off := 204) (by decide +kernel) (tgt := 244) (by decide) (es_cw0 hC H ls locs (hinv _))
  | 1, _ => exact lv_tableIn hx hb es_d40 (by decide) (by decide) (off := 277) (by decide +kernel) (tgt := 317) (by decide) (es_cw1 hC H ls locs (hinv _))
  | 2, _ => exact lv_tableIn hx hb es_d40 (by decide) (by decide) (off := 302) (by decide +kernel) (tgt := 342) (by decide) (es_cw2 hC H ls locs (hinv _))
  | 3, _ => exact lv_tableIn hx hb es_d40 (by decide) (by decide) (off := 346) (by decide +kernel) (tgt := 386) (by decide) (es_cw3 hC H ls locs (hinv _))
  | 4, _ => exact lv_tableIn hx hb es_d40 (by decide) (by decide) (off := 390) (by decide +kernel) (tgt := 430) (by decide) (es_cw4 hC H ls locs (hinv _))
  | 5, _ => exact lv_tableIn hx hb es_d40 (by decide) (by decide) (off := 403) (by decide +kernel) (tgt := 443) (by decide) (es_cw5 hC H ls locs (hinv _))
  | 6, _ => exact lv_tableIn hx hb es_d40 (by decide) (by decide) (off := 471) (by decide +kernel) (tgt := 511) (by decide) (es_cw6 hC H ls locs (hinv _))
  | 7, _ => exact lv_tableIn hx hb es_d40 (by decide) (by decide) (off := 539) (by decide +kernel) (tgt := 579) (by decide) (es_cw7 hC H ls locs (hinv _))
  | 8, _ => exact lv_tableIn hx hb es_d40 (by decide) (by decide) (off := 623) (by decide +kernel) (tgt := 663) (by decide) (es_cw8 hC H ls locs (hinv _))
  | 9, _ => exact lv_tableIn hx hb es_d40 (by decide) (by decide) (off := 707) (by decide +kernel) (tgt := 747) (by decide) (es_cw9 hC H ls locs (hinv _))
  | 10, _ => exact lv_tableIn hx hb es_d40 (by decide) (by decide) (off := 763) (by decide +kernel) (tgt := 803) (by decide) (es_cw10 hC H ls locs (hinv _))
  | 11, _ => exact lv_tableIn hx hb es_d40 (by decide) (by decide) (off := 838) (by decide +kernel) (tgt := 878) (by decide) (es_cw11 hC H ls locs (hinv _))
  | 12, _ => exact lv_tableIn hx hb es_d40 (by decide) (by decide) (off := 894) (by decide +kernel) (tgt := 934) (by decide) (es_cw12 hC H ls locs (hinv _))
  | 13, _ => exact lv_tableIn hx hb es_d40 (by decide) (by decide) (off := 974) (by decide +kernel) (tgt := 1014) (by decide) (es_cw13 hC H ls locs (hinv _))
  | 14, _ => exact lv_tableIn hx hb es_d40 (by decide) (by decide) (off := 1042) (by decide +kernel) (tgt := 1082) (by decide) (es_cw14 hC H ls locs (hinv _))
  | 15, _ => exact lv_tableIn hx hb es_d40 (by decide) (by decide) (off := 1098) (by decide +kernel) (tgt := 1138) (by decide) (es_cw15 hC H ls locs (hinv _))
  | 16, _ => exact lv_tableIn hx hb es_d40 (by decide) (by decide) (off := 1154) (by decide +kernel) (tgt := 1194) (by decide) (es_cw16 hC H ls locs (hinv _))
  | 17, _ => exact lv_tableIn hx hb es_d40 (by decide) (by decide) (off := 1234) (by decide +kernel) (tgt := 1274) (by decide) (es_cw17 hC H ls locs (hinv _))
  | 18, _ => exact lv_tableIn hx hb es_d40 (by decide) (by decide) (off := 1290) (by decide +kernel) (tgt := 1330) (by decide) (es_cw18 hC H ls locs (hinv _))
  | 19, _ => exact lv_tableIn hx hb es_d40 (by decide) (by decide) (off := 1346) (by decide +kernel) (tgt := 1386) (by decide) (es_cw19 hC H ls locs (hinv _))
  | 20, _ => exact lv_tableIn hx hb es_d40 (by decide) (by decide) (off := 1402) (by decide +kernel) (tgt := 1442) (by decide) (es_cw20 hC H ls locs (hinv _))
  | 21, _ => exact lv_tableIn hx hb es_d40 (by decide) (by decide) (off := 1458) (by decide +kernel) (tgt := 1498) (by decide) (es_cw21 hC H ls locs (hinv _))
  | 22, _ => exact lv_tableIn hx hb es_d40 (by decide) (by decide) (off := 1526) (by decide +kernel) (tgt := 1566) (by decide) (es_cw22 hC H ls locs (hinv _))
  | 23, _ => exact lv_tableIn hx hb es_d40 (by decide) (by decide) (off := 1594) (by decide +kernel) (tgt := 1634) (by decide) (es_cw23 hC H ls locs (hinv _))
  | 24, _ => exact lv_tableIn hx hb es_d40 (by decide) (by decide) (off := 1669) (by decide +kernel) (tgt := 1709) (by decide) (es_cw24 hC H ls locs (hinv _))
  | 25, _ => exact lv_tableIn hx hb es_d40 (by decide) (by decide) (off := 1725) (by decide +kernel) (tgt := 1765) (by decide) (es_cw25 hC H ls locs (hinv _))
  | 26, _ => exact lv_tableIn hx hb es_d40 (by decide) (by decide) (off := 1809) (by decide +kernel) (tgt := 1849) (by decide) (es_cw26 hC H ls locs (hinv _))
  | 27, _ => exact lv_tableIn hx hb es_d40 (by decide) (by decide) (off := 1865) (by decide +kernel) (tgt := 1905) (by decide) (es_cw27 hC H ls locs (hinv _))
  | 28, _ => exact lv_tableIn hx hb es_d40 (by decide) (by decide) (off := 1937) (by decide +kernel) (tgt := 1977) (by decide) (es_cw28 hC H ls locs (hinv _))
  | 29, _ => exact lv_tableIn hx hb es_d40 (by decide) (by decide) (off := 1981) (by decide +kernel) (tgt := 2021) (by decide) (es_cw29 hC H ls locs (hinv _))
  | 30, _ => exact lv_tableIn hx hb es_d40 (by decide) (by decide) (off := 2049) (by decide +kernel) (tgt := 2089) (by decide) (es_cw30 hC H ls locs (hinv _))
  | 31, _ => exact lv_tableIn hx hb es_d40 (by decide) (by decide) (off := 2117) (by decide +kernel) (tgt := 2157) (by decide) (es_cw31 hC H ls locs (hinv _))
  | 32, _ => exact lv_tableIn hx hb es_d40 (by decide) (by decide) (off := 2158) (by decide +kernel) (tgt := 2198) (by decide) (es_cw32 hC H ls locs (hinv _))
  | 33, _ => exact lv_tableIn hx hb es_d40 (by decide) (by decide) (off := 2214) (by decide +kernel) (tgt := 2254) (by decide) (es_cw33 hC H ls locs (hinv _))
  | 34, _ => exact lv_tableIn hx hb es_d40 (by decide) (by decide) (off := 2227) (by decide +kernel) (tgt := 2267) (by decide) (es_cw34 hC H ls locs (hinv _))
  | 35, _ => exact lv_tableIn hx hb es_d40 (by decide) (by decide) (off := 2240) (by decide +kernel) (tgt := 2280) (by decide) (es_cw35 hC H ls locs (hinv _))
  | 36, _ => exact lv_tableIn hx hb es_d40 (by decide) (by decide) (off := 2296) (by decide +kernel) (tgt := 2336) (by decide) (es_cw36 hC H ls locs (hinv _))
  | 37, _ => exact lv_tableIn hx hb es_d40 (by decide) (by decide) (off := 2309) (by decide +kernel) (tgt := 2349) (by decide) (es_cw37 hC H ls locs (hinv _))
  | 38, _ => exact lv_tableIn hx hb es_d40 (by decide) (by decide) (off := 2350) (by decide +kernel) (tgt := 2390) (by decide) (es_cw38 hC H ls locs (hinv _))
  | 39, _ => exact lv_tableIn hx hb es_d40 (by decide) (by decide) (off := 2434) (by decide +kernel) (tgt := 2474) (by decide) (es_cw39 hC H ls locs (hinv _))
  | 40, _ => exact lv_tableIn hx hb es_d40 (by decide) (by decide) (off := 2518) (by decide +kernel) (tgt := 2558) (by decide) (es_cw40 hC H ls locs (hinv _))
  | 41, _ => exact lv_tableIn hx hb es_d40 (by decide) (by decide) (off := 2602) (by decide +kernel) (tgt := 2642) (by decide) (es_cw41 hC H ls locs (hinv _))
  | 42, _ => exact lv_tableIn hx hb es_d40 (by decide) (by decide) (off := 2670) (by decide +kernel) (tgt := 2710) (by decide) (es_cw42 hC H ls locs (hinv _))
  | 43, _ => exact lv_tableIn hx hb es_d40 (by decide) (by decide) (off := 2695) (by decide +kernel) (tgt := 2735) (by decide) (es_cw43 hC H ls locs (hinv _))
  | 44, _ => exact lv_tableIn hx hb es_d40 (by decide) (by decide) (off := 2708) (by decide +kernel) (tgt := 2748) (by decide) (es_cw44 hC H ls locs (hinv _))
  | 45, _ => exact lv_tableIn hx hb es_d40 (by decide) (by decide) (off := 2719) (by decide +kernel) (tgt := 2759) (by decide) (es_cw45 hC H ls locs (hinv _))
  | 46, _ => exact lv_tableIn hx hb es_d40 (by decide) (by decide) (off := 2732) (by decide +kernel) (tgt := 2772) (by decide) (es_cw46 hC H ls locs (hinv _))
  | 47, _ => exact lv_tableOut hx hb es_d40 (by decide) (tgt := 2797) (by decide) (es_cw47 hC H ls locs (hinv _))
  | 48, _ => exact lv_tableOut hx hb es_d40 (by decide) (tgt := 2797) (by decide) (es_cw47 hC H ls locs (hinv _))
  | 49, _ => exact lv_tableOut hx hb es_d40 (by decide) (tgt := 2797) (by decide) (es_cw47 hC H ls locs (hinv _))
  | 50, _ => exact lv_tableOut hx hb es_d40 (by decide) (tgt := 2797) (by decide) (es_cw47 hC H ls locs (hinv _))
  | 51, _ => exact lv_tableOut hx hb es_d40 (by decide) (tgt := 2797) (by decide) (es_cw47 hC H ls locs (hinv _))
  | 52, _ => exact lv_tableOut hx hb es_d40 (by decide) (tgt := 2797) (by decide) (es_cw47 hC H ls locs (hinv _))
  | 53, _ => exact lv_tableOut hx hb es_d40 (by decide) (tgt := 2797) (by decide) (es_cw47 hC H ls locs (hinv _))
  | 54, _ => exact lv_tableOut hx hb es_d40 (by decide) (tgt := 2797) (by decide) (es_cw47 hC H ls locs (hinv _))
  | 55, _ => exact lv_tableOut hx hb es_d40 (by decide) (tgt := 2797) (by decide) (es_cw47 hC H ls locs (hinv _))
  | 56, _ => exact lv_tableOut hx hb es_d40 (by decide) (tgt := 2797) (by decide) (es_cw47 hC H ls locs (hinv _))
  | 57, _ => exact lv_tableOut hx hb es_d40 (by decide) (tgt := 2797) (by decide) (es_cw47 hC H ls locs (hinv _))
  | 58, _ => exact lv_tableOut hx hb es_d40 (by decide) (tgt := 2797) (by decide) (es_cw47 hC H ls locs (hinv _))
  | 59, _ => exact lv_tableOut hx hb es_d40 (by decide) (tgt := 2797) (by decide) (es_cw47 hC H ls locs (hinv _))
  | 60, _ => exact lv_tableOut hx hb es_d40 (by decide) (tgt := 2797) (by decide) (es_cw47 hC H ls locs (hinv _))
  | 61, _ => exact lv_tableOut hx hb es_d40 (by decide) (tgt := 2797) (by decide) (es_cw47 hC H ls locs (hinv _))
  | 62, _ => exact lv_tableOut hx hb es_d40 (by decide) (tgt := 2797) (by decide) (es_cw47 hC H ls locs (hinv _))
  | 63, _ => exact lv_tableOut hx hb es_d40 (by decide) (tgt := 2797) (by decide) (es_cw47 hC H ls locs (hinv _))
  | n + 64, h => exact absurd h (by omega)
theorem es_six (hC : es_LW l p s m meth c b 6 xs D cI cJ cZ cC cM) : es_G p l e room_1 s m #[Value.ref b] below meth c (lw_Z below #[Value.ref b] s) D (es_TY cI cJ cZ cC cM) s.heap.size b xs (es_mL (es_ME 194)) (0, [(0, (5, 0))], [], [], es_F0, 0, 0) := by
  refine es_goW hC (es_is_eq es_pre6) (fun E hE => ?_)
  rw [List.mem_singleton.mp hE]
  intro H ls locs st hinv
  obtain ⟨hl, hs, hH, hF, hS⟩ := hinv
  dsimp only at hl hs hH hF hS ⊢
  obtain ⟨y, st1, rfl, hy, z, st2, rfl, hz, hst⟩ := hs
  have e1 : st2 = [] := hst
  subst e1
  have e2 : y = .int (nI 63) := hy
  subst e2
  have e3 : z = .int (xs 0) := hz
  subst e3
  have hx := hC.1.1
  have hb : c.code = code := hC.1.2.1
  refine lv_iand hx hb es_d39 ?_
  rw [es_and63]
  exact es_jump hC _ (Nat.lt_of_le_of_lt Nat.and_le_right (by decide)) (fun pc => ⟨hl, rfl, hH, hF, hS⟩)
end Law
theorem whole_start {p : Program} {e : Env} {s : State} {m : MethodId} {below : List Frame} {meth : Method} {c : Code} (l : Launch) (htr : l.stackTraces = false) {b L : Nat} {xs : Nat → Int32} (hL : L ≤ 6) (C0 : lw_At p s m meth c b L xs) : W p l e room_1 s m #[Value.ref b] below meth c s.heap [] 0 0 (lw_Z below #[Value.ref b] s) (entryFrame m ([Value.ref b] : List Value).toArray 7) := by
  obtain ⟨hx, hb, hr, hml, hown, hts, hX, hbl, hlocks, hgv, htab⟩ := C0
  obtain ⟨D, cI, cJ, cZ, cC, cM, hev⟩ := es_ev0 l htr hts hX hbl hgv
  have hC : es_LW l p s m meth c b L xs D cI cJ cZ cC cM := ⟨⟨hx, hb, hml, hown, fun w hw => hts w (es_WSt w hw), hev.1, ⟨Nat.le_refl _, Nat.le_refl _, Nat.le_refl _, Nat.le_refl _⟩, fun h => absurd h (by decide +kernel), hev.2.1, hev.2.2.1, hlocks, hr⟩, hev, by
    show c.exceptionTable.toList = []
    exact List.eq_nil_iff_forall_not_mem.mpr htab⟩
  have hent := lv_entry ([.ref b]) (n := 7) (Nat.le_of_ble_eq_true rfl)
  rw [lg_entry_eq]
  generalize (lg_sl ([.ref b]) ++ List.replicate (7 - (lg_sl ([.ref b])).length) Slot.unset).toArray = ls at hent ⊢
  have hG : es_G p l e room_1 s m #[Value.ref b] below meth c (lw_Z below #[Value.ref b] s) D (es_TY cI cJ cZ cC cM) s.heap.size b xs (es_mL (es_ME 194)) (0, [(0, (5, 0))], [], [], es_F0, 0, 0) := by
    match L, hL, hC with
    | 0, _, hC => exact es_okW hC es_s0
    | 1, _, hC => exact es_okW hC es_s1
    | 2, _, hC => exact es_okW hC es_s2
    | 3, _, hC => exact es_okW hC es_s3
    | 4, _, hC => exact es_okW hC es_s4
    | 5, _, hC => exact es_okW hC es_s5
    | 6, _, hC => exact es_six hC
    | L + 7, h, _ => exact absurd h (by omega)
  refine hG s.heap ls [] [] ⟨⟨hent.1, hent.2.1, fun j v hv => ?_⟩, rfl, ⟨rfl, fun i o ho => by cases ho⟩, es_frF (a1 := 0) (b1 := 4294967295) (a2 := 0) (b2 := 4294967295) ?_ ?_, va_S.rf⟩
  · obtain ⟨x, h1, h2⟩ := es_al_ok (n0 := s.heap.size) (b := b) (ρ := xs) [(5, 0)] [.ref b] 0 ⟨_, _, rfl, rfl, rfl⟩ j v hv
    exact ⟨x, hent.2.2 _ h1, h2⟩
  · have := es_rng (xs 1)
    unfold es_zb
    omega
  · have := es_rng (xs 2)
    unfold es_zb
    omega
end
section
set_option maxHeartbeats 4000000 in
theorem lw_walk (l : Launch) (htr : l.stackTraces = false) (b : Addr) (xs : List Int32) : MetFree l x (headSpec (Jvm.Cond.code x code maxLocals ret :: tables_1) room_1) (lw_P b xs) (fun _ _ _ _ _ => True) lw_Q := by
  refine MetFree.of_bodyS (code := code) (maxLocals := maxLocals) (ret := ret) (by decide) ?_ ?_
  · intro args s m h hn
    obtain ⟨meth, c, h1, h2, h3, h4, h5, h6, -, -⟩ := Cond.code_spec hn (atoms_spec (ws := Jvm.Cond.code x code maxLocals ret :: tables_1) h _ List.mem_cons_self)
    exact ⟨meth, c, h1, h2, h3, h4, h5, h6⟩
  · intro p e s m args below meth c s₁ B hml0 hP _
    obtain ⟨rfl, hx, hbd, hgv⟩ := hP
    obtain ⟨scr, harrAt, hlist, hof, hsmall⟩ := hx
    obtain ⟨hcb, hkn, -, -⟩ := State.arrayAt?_spec harrAt
    have hown : s.vm.findClass R_law = some m.cls := findClass_of_methodNamed B.named
    have hts0 : ∀ c ∈ (Jvm.Cond.code x code maxLocals ret :: tables_1), c.before #[Value.ref b] s = true := atoms_spec (ws := Jvm.Cond.code x code maxLocals ret :: tables_1) B.pre
    have hts : ∀ w ∈ lw_tbl, w.before #[Value.ref b] s = true := k2_hts_sels lw_privs (fun w hw => hts0 w (List.mem_cons_of_mem _ hw)) lw_privs_ok
    have hml : c.maxLocals = 7 := B.maxLocals_eq (hts0 _ List.mem_cons_self)
    have ht9 : ∀ x ∈ c.exceptionTable.toList, False := by
      obtain ⟨meth9, c9, h1, h2, -, -, -, -, h7, -⟩ := Cond.code_spec B.named (hts0 _ List.mem_cons_self)
      cases Option.some.inj (h1.symm.trans B.method)
      cases Option.some.inj (h2.symm.trans (Stand.of_body B).code)
      intro x hx
      rw [Array.isEmpty_iff.mp h7] at hx
      cases hx
    have X₀ : Stand p l e room_1 s m #[Value.ref b] below meth c s₁ [] 0 0 := Stand.of_body B
    have hh0 : s₁.heap = s.heap := by rw [B.state]; rfl
    have hsz : scr.slots.size = xs.length := by rw [← Array.length_toList, hlist, List.length_map]
    have hval : ∀ j : Nat, j < xs.length → scr.slots[j]? = some (.int (xs.getD j 0)) := fun j hj => by
      rw [← Array.getElem?_toList, hlist]
      simp [hj]
    have hbl : b < s.heap.size := (Array.getElem?_eq_some_iff.mp hcb).1
    have hX : va_X b xs.length (fun j => xs.getD j 0) s s.heap := ⟨scr, hcb, hof, hkn, hsz, hval⟩
    have K : W p l e room_1 s m #[Value.ref b] below meth c s₁.heap [] 0 0 (lw_Z below #[Value.ref b] s) (entryFrame m ([Value.ref b] : List Value).toArray 7) := by
      rw [hh0]
      exact whole_start l htr hbd ⟨B.exec, B.bytes, B.returns, hml, hown, hts, hX, hbl, B.notSynchronized, hgv, ht9⟩
    obtain ⟨t, a1, o, b1, b2, b3⟩ := K s₁ rfl X₀
    exact ⟨t, o, a1, b1, b2, b3⟩
theorem lw_pre_spec {args : Array Value} {s : State} (h : (Jvm.Cond.and given_1 narrow_1).before args s = true) (hr : rest_1_c.before args s = true) : ∃ (b : Addr) (xs : List Int32), lw_P b xs args s := by
  have hs := flat_of_before _ h
  have hq := flat_of_before _ hr
  have hc : (Cond.count 1).before args s = true := hs _ (by decide +kernel)
  have harr : (Cond.arrayOf (.arg 0) .int).before args s = true := hs _ (by decide +kernel)
  have hle : (Cond.le (.length (.arg 0)) (.int 6)).before args s = true := hs _ (by decide +kernel)
  have hlen : (Cond.isInt (.length (.arg 0))).before args s = true := hq _ (by decide +kernel)
  have hall : (Cond.all (.arg 0) (.isInt (.elem (.arg 0) (.index 0)))).before args s = true := hq _ (by decide +kernel)
  obtain ⟨b, xs, hb, hx⟩ := State.ints_of_pre rfl harr hlen hall
  have hsm : xs.length < 2 ^ 31 := hx.choose_spec.2.2.2
  have hev : (Term.length (.arg 0)).eval args s none [] s = some (.int xs.length.toInt32) := hx.length_eval hb
  have hv := Cond.le_ints hev (show (Term.int 6).eval args s none [] s = some (.int 6) from rfl)
  have hd : xs.length.toInt32 ≤ 6 := by
    simpa [Cond.before, Cond.holds, hv] using hle
  have hN : xs.length ≤ 6 := (Int32.ofNat_le_ofNat hsm (by decide)).mp (show Int32.ofNat xs.length ≤ Int32.ofNat 6 from hd)
  exact ⟨b, xs, Cond.one_arg hc (show args[0]? = some (.ref b) from hb), hx, hN, h⟩
theorem lw_comes (l : Launch) (htr : l.stackTraces = false) : Comes l x (Jvm.Cond.code x code maxLocals ret :: tables_1) room_1 (fun tb e args s => Calls_1 tb e args s ∧ rest_1 tb e args s ∧ Pre_1 tb e args s)
    (fun _ _ args s o t => lw_Q args s o t) := by
  intro p e ha hc hk s m args below hf hfit hheap happ hpre
  obtain ⟨b, xs, hP⟩ := lw_pre_spec hpre.2.2 hpre.2.1
  obtain ⟨k, o, h1, h2, h3, hQ⟩ := lw_walk l htr b xs p e ha hc hk s m args below hf ((Spec.applies_iff_loose hf).mp happ).1 hP trivial
  exact ⟨k, o, h1, h2, h3, hQ⟩
theorem lw_frame {s t : State} {o : Outcome} {args : Array Value} (h : Framed s o t [] 600002 7302232) :
    Framed s o t (fieldLocs frame_1_writes args s ++ arrayLocs frame_1_arrays args s ++ staticLocs frame_1_statics s) 600002 7302232 := h
theorem lw_limb (L : Cond) (hL : ∀ (args : Array Value) (s t : State), L.after args s (.returned (some (.int 1))) t = true) :
    ArmFor flags0 classFile x code maxLocals ret World_1 tables_1 room_1 Calls_1 rest_1 Pre_1
      (fun tb e a s o t => postC L tb e a s o t ∧ Framed s o t (fieldLocs frame_1_writes a s ++ arrayLocs frame_1_arrays a s ++ staticLocs frame_1_statics s) 600002 7302232) := by
  intro l hfl _ _ p e ha hc hk s m args below hf hfit hheap happ hpre
  obtain ⟨k, o, h1, h2, h3, rfl, hF⟩ := lw_comes l (by rw [Launch.stackTraces, hfl]; decide +kernel) p e ha hc hk s m args below hf hfit hheap happ hpre
  exact ⟨k, _, h1, h2, h3, hL args s _, lw_frame hF⟩
end
section
theorem i_vc : Claimed_1_1 ∧ Claimed_1_2 := ⟨lw_limb limb_1_1 (fun args s t => by simp [limb_1_1, Cond.after, Cond.holds, Cond.value]), lw_limb limb_1_2 (fun args s t => Cond.after_iff.mpr (by
  first | (rw [show limb_1_2 = Cond.eq .result (.int 1) from rfl, Cond.eq_ints (x := 1) (y := 1) rfl rfl]; simp; done) | (simp [limb_1_2, Cond.value, Term.eval]; done)))⟩
end
