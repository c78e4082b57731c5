section
-- ===== PART A: goes FIRST, ahead of the names: the tables' words, and 'selects' of the private methods out of them =====
/-- a private method of a class that the tables say can be made, by its rows of tables_1 -/
def lw_okq (q : MethodName × Nat) : Prop := (q.1.cls ≠ "java/lang/invoke/MethodHandle" ∧ q.1.cls ≠ "java/lang/invoke/VarHandle") ∧ Cond.instantiable q.1.cls q.2 ∈ tables_1 ∧ Cond.privateMethod q.1 ∈ tables_1 ∧ Cond.instanceMethod q.1 ∈ tables_1
theorem lw_p0 : lw_okq (⟨"NailGold$BookReader", "readsLine", "(LNailGold$Book;LNailGold$Court;)Z"⟩, 1) := ⟨⟨by decide +kernel, by decide +kernel⟩, List.mem_of_getElem? (i := 82) (by decide +kernel), List.mem_of_getElem? (i := 541) (by decide +kernel), List.mem_of_getElem? (i := 542) (by decide +kernel)⟩
theorem lw_p1 : lw_okq (⟨"NailGold$BookReader", "readsStep", "(LNailGold$Book;)Z"⟩, 1) := ⟨⟨by decide +kernel, by decide +kernel⟩, List.mem_of_getElem? (i := 82) (by decide +kernel), List.mem_of_getElem? (i := 598) (by decide +kernel), List.mem_of_getElem? (i := 599) (by decide +kernel)⟩
theorem lw_p2 : lw_okq (⟨"NailGold$BookReader", "numberBehind", "(Ljava/lang/String;II)I"⟩, 1) := ⟨⟨by decide +kernel, by decide +kernel⟩, List.mem_of_getElem? (i := 82) (by decide +kernel), List.mem_of_getElem? (i := 604) (by decide +kernel), List.mem_of_getElem? (i := 605) (by decide +kernel)⟩
theorem lw_p3 : lw_okq (⟨"NailGold$BookReader", "readsMan", "(LNailGold$Court;)Z"⟩, 1) := ⟨⟨by decide +kernel, by decide +kernel⟩, List.mem_of_getElem? (i := 82) (by decide +kernel), List.mem_of_getElem? (i := 624) (by decide +kernel), List.mem_of_getElem? (i := 625) (by decide +kernel)⟩
theorem lw_p4 : lw_okq (⟨"NailGold$BookReader", "tricksBehind", "(Ljava/lang/String;)I"⟩, 1) := ⟨⟨by decide +kernel, by decide +kernel⟩, List.mem_of_getElem? (i := 82) (by decide +kernel), List.mem_of_getElem? (i := 631) (by decide +kernel), List.mem_of_getElem? (i := 632) (by decide +kernel)⟩
theorem lw_p5 : lw_okq (⟨"NailGold$BookReader", "readsTest", "(LNailGold$Book;)Z"⟩, 1) := ⟨⟨by decide +kernel, by decide +kernel⟩, List.mem_of_getElem? (i := 82) (by decide +kernel), List.mem_of_getElem? (i := 644) (by decide +kernel), List.mem_of_getElem? (i := 645) (by decide +kernel)⟩
theorem lw_p6 : lw_okq (⟨"NailGold$BookReader", "readsRival", "(LNailGold$Court;)Z"⟩, 1) := ⟨⟨by decide +kernel, by decide +kernel⟩, List.mem_of_getElem? (i := 82) (by decide +kernel), List.mem_of_getElem? (i := 654) (by decide +kernel), List.mem_of_getElem? (i := 655) (by decide +kernel)⟩
theorem lw_p7 : lw_okq (⟨"NailGold$BookReader", "readsChest", "(LNailGold$Court;)Z"⟩, 1) := ⟨⟨by decide +kernel, by decide +kernel⟩, List.mem_of_getElem? (i := 82) (by decide +kernel), List.mem_of_getElem? (i := 663) (by decide +kernel), List.mem_of_getElem? (i := 664) (by decide +kernel)⟩
theorem lw_p8 : lw_okq (⟨"NailGold$BookReader", "readsRule", "(LNailGold$Book;)Z"⟩, 1) := ⟨⟨by decide +kernel, by decide +kernel⟩, List.mem_of_getElem? (i := 82) (by decide +kernel), List.mem_of_getElem? (i := 667) (by decide +kernel), List.mem_of_getElem? (i := 668) (by decide +kernel)⟩
theorem lw_p9 : lw_okq (⟨"java/lang/Throwable", "fillInStackTrace", "(I)Ljava/lang/Throwable;"⟩, 6) := ⟨⟨by decide +kernel, by decide +kernel⟩, List.mem_of_getElem? (i := 722) (by decide +kernel), List.mem_of_getElem? (i := 720) (by decide +kernel), List.mem_of_getElem? (i := 721) (by decide +kernel)⟩
theorem lw_p10 : lw_okq (⟨"NailGold$LawReader", "readsLine", "()Z"⟩, 3) := ⟨⟨by decide +kernel, by decide +kernel⟩, List.mem_of_getElem? (i := 92) (by decide +kernel), List.mem_of_getElem? (i := 810) (by decide +kernel), List.mem_of_getElem? (i := 811) (by decide +kernel)⟩
theorem lw_p11 : lw_okq (⟨"NailGold$LawReader", "readsChoice", "(I)Z"⟩, 3) := ⟨⟨by decide +kernel, by decide +kernel⟩, List.mem_of_getElem? (i := 92) (by decide +kernel), List.mem_of_getElem? (i := 821) (by decide +kernel), List.mem_of_getElem? (i := 822) (by decide +kernel)⟩
theorem lw_p12 : lw_okq (⟨"NailGold$LawReader", "readsAll", "(I)Z"⟩, 3) := ⟨⟨by decide +kernel, by decide +kernel⟩, List.mem_of_getElem? (i := 92) (by decide +kernel), List.mem_of_getElem? (i := 825) (by decide +kernel), List.mem_of_getElem? (i := 826) (by decide +kernel)⟩
theorem lw_p13 : lw_okq (⟨"NailGold$LawReader", "readsAtom", "(I)Z"⟩, 3) := ⟨⟨by decide +kernel, by decide +kernel⟩, List.mem_of_getElem? (i := 92) (by decide +kernel), List.mem_of_getElem? (i := 829) (by decide +kernel), List.mem_of_getElem? (i := 830) (by decide +kernel)⟩
theorem lw_p14 : lw_okq (⟨"NailGold$LawReader", "emit", "(I)Z"⟩, 3) := ⟨⟨by decide +kernel, by decide +kernel⟩, List.mem_of_getElem? (i := 92) (by decide +kernel), List.mem_of_getElem? (i := 835) (by decide +kernel), List.mem_of_getElem? (i := 836) (by decide +kernel)⟩
theorem lw_p15 : lw_okq (⟨"NailGold$LawReader", "readsSum", "()Z"⟩, 3) := ⟨⟨by decide +kernel, by decide +kernel⟩, List.mem_of_getElem? (i := 92) (by decide +kernel), List.mem_of_getElem? (i := 842) (by decide +kernel), List.mem_of_getElem? (i := 843) (by decide +kernel)⟩
def lw_privs_1 : List (MethodName × Nat) := [(⟨"NailGold$BookReader", "readsLine", "(LNailGold$Book;LNailGold$Court;)Z"⟩, 1), (⟨"NailGold$BookReader", "readsStep", "(LNailGold$Book;)Z"⟩, 1), (⟨"NailGold$BookReader", "numberBehind", "(Ljava/lang/String;II)I"⟩, 1), (⟨"NailGold$BookReader", "readsMan", "(LNailGold$Court;)Z"⟩, 1), (⟨"NailGold$BookReader", "tricksBehind", "(Ljava/lang/String;)I"⟩, 1), (⟨"NailGold$BookReader", "readsTest", "(LNailGold$Book;)Z"⟩, 1), (⟨"NailGold$BookReader", "readsRival", "(LNailGold$Court;)Z"⟩, 1), (⟨"NailGold$BookReader", "readsChest", "(LNailGold$Court;)Z"⟩, 1), (⟨"NailGold$BookReader", "readsRule", "(LNailGold$Book;)Z"⟩, 1), (⟨"java/lang/Throwable", "fillInStackTrace", "(I)Ljava/lang/Throwable;"⟩, 6), (⟨"NailGold$LawReader", "readsLine", "()Z"⟩, 3), (⟨"NailGold$LawReader", "readsChoice", "(I)Z"⟩, 3), (⟨"NailGold$LawReader", "readsAll", "(I)Z"⟩, 3), (⟨"NailGold$LawReader", "readsAtom", "(I)Z"⟩, 3), (⟨"NailGold$LawReader", "emit", "(I)Z"⟩, 3), (⟨"NailGold$LawReader", "readsSum", "()Z"⟩, 3)]
theorem lw_r1 : ∀ q ∈ lw_privs_1, lw_okq q := List.forall_mem_cons.mpr ⟨lw_p0, List.forall_mem_cons.mpr ⟨lw_p1, List.forall_mem_cons.mpr ⟨lw_p2, List.forall_mem_cons.mpr ⟨lw_p3, List.forall_mem_cons.mpr ⟨lw_p4, List.forall_mem_cons.mpr ⟨lw_p5, List.forall_mem_cons.mpr ⟨lw_p6, List.forall_mem_cons.mpr ⟨lw_p7, List.forall_mem_cons.mpr ⟨lw_p8, List.forall_mem_cons.mpr ⟨lw_p9, List.forall_mem_cons.mpr ⟨lw_p10, List.forall_mem_cons.mpr ⟨lw_p11, List.forall_mem_cons.mpr ⟨lw_p12, List.forall_mem_cons.mpr ⟨lw_p13, List.forall_mem_cons.mpr ⟨lw_p14, List.forall_mem_cons.mpr ⟨lw_p15, fun _ h => absurd h List.not_mem_nil⟩⟩⟩⟩⟩⟩⟩⟩⟩⟩⟩⟩⟩⟩⟩⟩
theorem lw_p16 : lw_okq (⟨"NailGold$LawReader", "readsPart", "()Z"⟩, 3) := ⟨⟨by decide +kernel, by decide +kernel⟩, List.mem_of_getElem? (i := 92) (by decide +kernel), List.mem_of_getElem? (i := 846) (by decide +kernel), List.mem_of_getElem? (i := 847) (by decide +kernel)⟩
theorem lw_p17 : lw_okq (⟨"NailGold$LawReader", "namedFact", "()I"⟩, 3) := ⟨⟨by decide +kernel, by decide +kernel⟩, List.mem_of_getElem? (i := 92) (by decide +kernel), List.mem_of_getElem? (i := 850) (by decide +kernel), List.mem_of_getElem? (i := 851) (by decide +kernel)⟩
theorem lw_p18 : lw_okq (⟨"NailGold", "needStep", "(I)V"⟩, 17) := ⟨⟨by decide +kernel, by decide +kernel⟩, List.mem_of_getElem? (i := 32) (by decide +kernel), List.mem_of_getElem? (i := 872) (by decide +kernel), List.mem_of_getElem? (i := 873) (by decide +kernel)⟩
theorem lw_p19 : lw_okq (⟨"NailGold", "needMan", "(I)V"⟩, 17) := ⟨⟨by decide +kernel, by decide +kernel⟩, List.mem_of_getElem? (i := 32) (by decide +kernel), List.mem_of_getElem? (i := 919) (by decide +kernel), List.mem_of_getElem? (i := 920) (by decide +kernel)⟩
theorem lw_p20 : lw_okq (⟨"NailGold$Judge", "pop", "()I"⟩, 3) := ⟨⟨by decide +kernel, by decide +kernel⟩, List.mem_of_getElem? (i := 66) (by decide +kernel), List.mem_of_getElem? (i := 940) (by decide +kernel), List.mem_of_getElem? (i := 941) (by decide +kernel)⟩
theorem lw_p21 : lw_okq (⟨"NailGold$Judge", "combine", "(I)V"⟩, 3) := ⟨⟨by decide +kernel, by decide +kernel⟩, List.mem_of_getElem? (i := 66) (by decide +kernel), List.mem_of_getElem? (i := 944) (by decide +kernel), List.mem_of_getElem? (i := 945) (by decide +kernel)⟩
theorem lw_p22 : lw_okq (⟨"NailGold$Judge", "push", "(I)V"⟩, 3) := ⟨⟨by decide +kernel, by decide +kernel⟩, List.mem_of_getElem? (i := 66) (by decide +kernel), List.mem_of_getElem? (i := 948) (by decide +kernel), List.mem_of_getElem? (i := 949) (by decide +kernel)⟩
theorem lw_p23 : lw_okq (⟨"NailGold$Judge", "factAt", "(I)I"⟩, 3) := ⟨⟨by decide +kernel, by decide +kernel⟩, List.mem_of_getElem? (i := 66) (by decide +kernel), List.mem_of_getElem? (i := 952) (by decide +kernel), List.mem_of_getElem? (i := 953) (by decide +kernel)⟩
theorem lw_p24 : lw_okq (⟨"NailGold", "needTest", "(I)V"⟩, 17) := ⟨⟨by decide +kernel, by decide +kernel⟩, List.mem_of_getElem? (i := 32) (by decide +kernel), List.mem_of_getElem? (i := 975) (by decide +kernel), List.mem_of_getElem? (i := 976) (by decide +kernel)⟩
theorem lw_p25 : lw_okq (⟨"NailGold", "needRival", "(I)V"⟩, 17) := ⟨⟨by decide +kernel, by decide +kernel⟩, List.mem_of_getElem? (i := 32) (by decide +kernel), List.mem_of_getElem? (i := 987) (by decide +kernel), List.mem_of_getElem? (i := 988) (by decide +kernel)⟩
theorem lw_p26 : lw_okq (⟨"NailGold", "needKept", "(I)V"⟩, 17) := ⟨⟨by decide +kernel, by decide +kernel⟩, List.mem_of_getElem? (i := 32) (by decide +kernel), List.mem_of_getElem? (i := 1000) (by decide +kernel), List.mem_of_getElem? (i := 1001) (by decide +kernel)⟩
theorem lw_p27 : lw_okq (⟨"NailGold", "remember", "()V"⟩, 17) := ⟨⟨by decide +kernel, by decide +kernel⟩, List.mem_of_getElem? (i := 32) (by decide +kernel), List.mem_of_getElem? (i := 1021) (by decide +kernel), List.mem_of_getElem? (i := 1022) (by decide +kernel)⟩
theorem lw_p28 : lw_okq (⟨"NailGold", "needWithin", "(III)V"⟩, 17) := ⟨⟨by decide +kernel, by decide +kernel⟩, List.mem_of_getElem? (i := 32) (by decide +kernel), List.mem_of_getElem? (i := 1067) (by decide +kernel), List.mem_of_getElem? (i := 1068) (by decide +kernel)⟩
theorem lw_p29 : lw_okq (⟨"NailGold$Court", "passDayOf", "(ILNailGold$Book;LNailGold$Judge;)V"⟩, 10) := ⟨⟨by decide +kernel, by decide +kernel⟩, List.mem_of_getElem? (i := 180) (by decide +kernel), List.mem_of_getElem? (i := 1098) (by decide +kernel), List.mem_of_getElem? (i := 1099) (by decide +kernel)⟩
theorem lw_p30 : lw_okq (⟨"NailGold", "draftDays", "(III)V"⟩, 17) := ⟨⟨by decide +kernel, by decide +kernel⟩, List.mem_of_getElem? (i := 32) (by decide +kernel), List.mem_of_getElem? (i := 1118) (by decide +kernel), List.mem_of_getElem? (i := 1119) (by decide +kernel)⟩
theorem lw_p31 : lw_okq (⟨"NailGold$NailPlan", "keptFrom", "(III)I"⟩, 11) := ⟨⟨by decide +kernel, by decide +kernel⟩, List.mem_of_getElem? (i := 304) (by decide +kernel), List.mem_of_getElem? (i := 1172) (by decide +kernel), List.mem_of_getElem? (i := 1173) (by decide +kernel)⟩
def lw_privs_2 : List (MethodName × Nat) := [(⟨"NailGold$LawReader", "readsPart", "()Z"⟩, 3), (⟨"NailGold$LawReader", "namedFact", "()I"⟩, 3), (⟨"NailGold", "needStep", "(I)V"⟩, 17), (⟨"NailGold", "needMan", "(I)V"⟩, 17), (⟨"NailGold$Judge", "pop", "()I"⟩, 3), (⟨"NailGold$Judge", "combine", "(I)V"⟩, 3), (⟨"NailGold$Judge", "push", "(I)V"⟩, 3), (⟨"NailGold$Judge", "factAt", "(I)I"⟩, 3), (⟨"NailGold", "needTest", "(I)V"⟩, 17), (⟨"NailGold", "needRival", "(I)V"⟩, 17), (⟨"NailGold", "needKept", "(I)V"⟩, 17), (⟨"NailGold", "remember", "()V"⟩, 17), (⟨"NailGold", "needWithin", "(III)V"⟩, 17), (⟨"NailGold$Court", "passDayOf", "(ILNailGold$Book;LNailGold$Judge;)V"⟩, 10), (⟨"NailGold", "draftDays", "(III)V"⟩, 17), (⟨"NailGold$NailPlan", "keptFrom", "(III)I"⟩, 11)]
theorem lw_r2 : ∀ q ∈ lw_privs_2, lw_okq q := List.forall_mem_cons.mpr ⟨lw_p16, List.forall_mem_cons.mpr ⟨lw_p17, List.forall_mem_cons.mpr ⟨lw_p18, List.forall_mem_cons.mpr ⟨lw_p19, List.forall_mem_cons.mpr ⟨lw_p20, List.forall_mem_cons.mpr ⟨lw_p21, List.forall_mem_cons.mpr ⟨lw_p22, List.forall_mem_cons.mpr ⟨lw_p23, List.forall_mem_cons.mpr ⟨lw_p24, List.forall_mem_cons.mpr ⟨lw_p25, List.forall_mem_cons.mpr ⟨lw_p26, List.forall_mem_cons.mpr ⟨lw_p27, List.forall_mem_cons.mpr ⟨lw_p28, List.forall_mem_cons.mpr ⟨lw_p29, List.forall_mem_cons.mpr ⟨lw_p30, List.forall_mem_cons.mpr ⟨lw_p31, fun _ h => absurd h List.not_mem_nil⟩⟩⟩⟩⟩⟩⟩⟩⟩⟩⟩⟩⟩⟩⟩⟩
theorem lw_p32 : lw_okq (⟨"NailGold$NailPlan", "keptIfPassed", "(III)I"⟩, 11) := ⟨⟨by decide +kernel, by decide +kernel⟩, List.mem_of_getElem? (i := 304) (by decide +kernel), List.mem_of_getElem? (i := 1177) (by decide +kernel), List.mem_of_getElem? (i := 1178) (by decide +kernel)⟩
theorem lw_p33 : lw_okq (⟨"NailGold$NailPlan", "trustBehind", "(III)I"⟩, 11) := ⟨⟨by decide +kernel, by decide +kernel⟩, List.mem_of_getElem? (i := 304) (by decide +kernel), List.mem_of_getElem? (i := 1181) (by decide +kernel), List.mem_of_getElem? (i := 1182) (by decide +kernel)⟩
theorem lw_p34 : lw_okq (⟨"NailGold$NailPlan", "proven", "(I)I"⟩, 11) := ⟨⟨by decide +kernel, by decide +kernel⟩, List.mem_of_getElem? (i := 304) (by decide +kernel), List.mem_of_getElem? (i := 1189) (by decide +kernel), List.mem_of_getElem? (i := 1190) (by decide +kernel)⟩
theorem lw_p35 : lw_okq (⟨"NailGold", "takeFittingSets", "()J"⟩, 17) := ⟨⟨by decide +kernel, by decide +kernel⟩, List.mem_of_getElem? (i := 32) (by decide +kernel), List.mem_of_getElem? (i := 1248) (by decide +kernel), List.mem_of_getElem? (i := 1249) (by decide +kernel)⟩
theorem lw_p36 : lw_okq (⟨"NailGold", "isTale", "(I)Z"⟩, 17) := ⟨⟨by decide +kernel, by decide +kernel⟩, List.mem_of_getElem? (i := 32) (by decide +kernel), List.mem_of_getElem? (i := 1252) (by decide +kernel), List.mem_of_getElem? (i := 1253) (by decide +kernel)⟩
theorem lw_p37 : lw_okq (⟨"NailGold", "fitsTale", "(II)Z"⟩, 17) := ⟨⟨by decide +kernel, by decide +kernel⟩, List.mem_of_getElem? (i := 32) (by decide +kernel), List.mem_of_getElem? (i := 1257) (by decide +kernel), List.mem_of_getElem? (i := 1258) (by decide +kernel)⟩
theorem lw_p38 : lw_okq (⟨"NailGold", "caughtAmong", "(JI)I"⟩, 17) := ⟨⟨by decide +kernel, by decide +kernel⟩, List.mem_of_getElem? (i := 32) (by decide +kernel), List.mem_of_getElem? (i := 1274) (by decide +kernel), List.mem_of_getElem? (i := 1275) (by decide +kernel)⟩
theorem lw_p39 : lw_okq (⟨"NailGold", "princePays", "(IIIZ)I"⟩, 17) := ⟨⟨by decide +kernel, by decide +kernel⟩, List.mem_of_getElem? (i := 32) (by decide +kernel), List.mem_of_getElem? (i := 1285) (by decide +kernel), List.mem_of_getElem? (i := 1286) (by decide +kernel)⟩
theorem lw_p40 : lw_okq (⟨"NailGold", "waysOf", "(II)J"⟩, 17) := ⟨⟨by decide +kernel, by decide +kernel⟩, List.mem_of_getElem? (i := 32) (by decide +kernel), List.mem_of_getElem? (i := 1300) (by decide +kernel), List.mem_of_getElem? (i := 1301) (by decide +kernel)⟩
theorem lw_p41 : lw_okq (⟨"NailGold$Market", "given", "(III)I"⟩, 2) := ⟨⟨by decide +kernel, by decide +kernel⟩, List.mem_of_getElem? (i := 347) (by decide +kernel), List.mem_of_getElem? (i := 1319) (by decide +kernel), List.mem_of_getElem? (i := 1320) (by decide +kernel)⟩
theorem lw_p42 : lw_okq (⟨"NailGoldModel", "putsAside", "()V"⟩, 25) := ⟨⟨by decide +kernel, by decide +kernel⟩, List.mem_of_getElem? (i := 1376) (by decide +kernel), List.mem_of_getElem? (i := 1474) (by decide +kernel), List.mem_of_getElem? (i := 1475) (by decide +kernel)⟩
theorem lw_p43 : lw_okq (⟨"NailGoldModel", "begins", "()V"⟩, 25) := ⟨⟨by decide +kernel, by decide +kernel⟩, List.mem_of_getElem? (i := 1376) (by decide +kernel), List.mem_of_getElem? (i := 1478) (by decide +kernel), List.mem_of_getElem? (i := 1479) (by decide +kernel)⟩
theorem lw_p44 : lw_okq (⟨"NailGoldModel", "read", "(Z)I"⟩, 25) := ⟨⟨by decide +kernel, by decide +kernel⟩, List.mem_of_getElem? (i := 1376) (by decide +kernel), List.mem_of_getElem? (i := 1482) (by decide +kernel), List.mem_of_getElem? (i := 1483) (by decide +kernel)⟩
theorem lw_p45 : lw_okq (⟨"NailGoldModel", "skip", "()V"⟩, 25) := ⟨⟨by decide +kernel, by decide +kernel⟩, List.mem_of_getElem? (i := 1376) (by decide +kernel), List.mem_of_getElem? (i := 1486) (by decide +kernel), List.mem_of_getElem? (i := 1487) (by decide +kernel)⟩
theorem lw_p46 : lw_okq (⟨"NailGoldModel", "letter", "(I)I"⟩, 25) := ⟨⟨by decide +kernel, by decide +kernel⟩, List.mem_of_getElem? (i := 1376) (by decide +kernel), List.mem_of_getElem? (i := 1490) (by decide +kernel), List.mem_of_getElem? (i := 1491) (by decide +kernel)⟩
theorem lw_p47 : lw_okq (⟨"NailGoldModel", "wrong", "(I)V"⟩, 25) := ⟨⟨by decide +kernel, by decide +kernel⟩, List.mem_of_getElem? (i := 1376) (by decide +kernel), List.mem_of_getElem? (i := 1494) (by decide +kernel), List.mem_of_getElem? (i := 1495) (by decide +kernel)⟩
def lw_privs_3 : List (MethodName × Nat) := [(⟨"NailGold$NailPlan", "keptIfPassed", "(III)I"⟩, 11), (⟨"NailGold$NailPlan", "trustBehind", "(III)I"⟩, 11), (⟨"NailGold$NailPlan", "proven", "(I)I"⟩, 11), (⟨"NailGold", "takeFittingSets", "()J"⟩, 17), (⟨"NailGold", "isTale", "(I)Z"⟩, 17), (⟨"NailGold", "fitsTale", "(II)Z"⟩, 17), (⟨"NailGold", "caughtAmong", "(JI)I"⟩, 17), (⟨"NailGold", "princePays", "(IIIZ)I"⟩, 17), (⟨"NailGold", "waysOf", "(II)J"⟩, 17), (⟨"NailGold$Market", "given", "(III)I"⟩, 2), (⟨"NailGoldModel", "putsAside", "()V"⟩, 25), (⟨"NailGoldModel", "begins", "()V"⟩, 25), (⟨"NailGoldModel", "read", "(Z)I"⟩, 25), (⟨"NailGoldModel", "skip", "()V"⟩, 25), (⟨"NailGoldModel", "letter", "(I)I"⟩, 25), (⟨"NailGoldModel", "wrong", "(I)V"⟩, 25)]
theorem lw_r3 : ∀ q ∈ lw_privs_3, lw_okq q := List.forall_mem_cons.mpr ⟨lw_p32, List.forall_mem_cons.mpr ⟨lw_p33, List.forall_mem_cons.mpr ⟨lw_p34, List.forall_mem_cons.mpr ⟨lw_p35, List.forall_mem_cons.mpr ⟨lw_p36, List.forall_mem_cons.mpr ⟨lw_p37, List.forall_mem_cons.mpr ⟨lw_p38, List.forall_mem_cons.mpr ⟨lw_p39, List.forall_mem_cons.mpr ⟨lw_p40, List.forall_mem_cons.mpr ⟨lw_p41, List.forall_mem_cons.mpr ⟨lw_p42, List.forall_mem_cons.mpr ⟨lw_p43, List.forall_mem_cons.mpr ⟨lw_p44, List.forall_mem_cons.mpr ⟨lw_p45, List.forall_mem_cons.mpr ⟨lw_p46, List.forall_mem_cons.mpr ⟨lw_p47, fun _ h => absurd h List.not_mem_nil⟩⟩⟩⟩⟩⟩⟩⟩⟩⟩⟩⟩⟩⟩⟩⟩
theorem lw_p48 : lw_okq (⟨"NailGoldModel", "lawLine", "()V"⟩, 25) := ⟨⟨by decide +kernel, by decide +kernel⟩, List.mem_of_getElem? (i := 1376) (by decide +kernel), List.mem_of_getElem? (i := 1498) (by decide +kernel), List.mem_of_getElem? (i := 1499) (by decide +kernel)⟩
theorem lw_p49 : lw_okq (⟨"NailGoldModel", "has", "(Ljava/lang/String;)Z"⟩, 25) := ⟨⟨by decide +kernel, by decide +kernel⟩, List.mem_of_getElem? (i := 1376) (by decide +kernel), List.mem_of_getElem? (i := 1503) (by decide +kernel), List.mem_of_getElem? (i := 1504) (by decide +kernel)⟩
theorem lw_p50 : lw_okq (⟨"NailGoldModel", "figures", "(II)I"⟩, 25) := ⟨⟨by decide +kernel, by decide +kernel⟩, List.mem_of_getElem? (i := 1376) (by decide +kernel), List.mem_of_getElem? (i := 1510) (by decide +kernel), List.mem_of_getElem? (i := 1511) (by decide +kernel)⟩
theorem lw_p51 : lw_okq (⟨"NailGoldModel", "place", "()I"⟩, 25) := ⟨⟨by decide +kernel, by decide +kernel⟩, List.mem_of_getElem? (i := 1376) (by decide +kernel), List.mem_of_getElem? (i := 1514) (by decide +kernel), List.mem_of_getElem? (i := 1515) (by decide +kernel)⟩
theorem lw_p52 : lw_okq (⟨"NailGoldModel", "some", "()Z"⟩, 25) := ⟨⟨by decide +kernel, by decide +kernel⟩, List.mem_of_getElem? (i := 1376) (by decide +kernel), List.mem_of_getElem? (i := 1519) (by decide +kernel), List.mem_of_getElem? (i := 1520) (by decide +kernel)⟩
theorem lw_p53 : lw_okq (⟨"NailGoldModel", "every", "()Z"⟩, 25) := ⟨⟨by decide +kernel, by decide +kernel⟩, List.mem_of_getElem? (i := 1376) (by decide +kernel), List.mem_of_getElem? (i := 1523) (by decide +kernel), List.mem_of_getElem? (i := 1524) (by decide +kernel)⟩
theorem lw_p54 : lw_okq (⟨"NailGoldModel", "atom", "()Z"⟩, 25) := ⟨⟨by decide +kernel, by decide +kernel⟩, List.mem_of_getElem? (i := 1376) (by decide +kernel), List.mem_of_getElem? (i := 1527) (by decide +kernel), List.mem_of_getElem? (i := 1528) (by decide +kernel)⟩
theorem lw_p55 : lw_okq (⟨"NailGoldModel", "isSign", "(I)Z"⟩, 25) := ⟨⟨by decide +kernel, by decide +kernel⟩, List.mem_of_getElem? (i := 1376) (by decide +kernel), List.mem_of_getElem? (i := 1532) (by decide +kernel), List.mem_of_getElem? (i := 1533) (by decide +kernel)⟩
theorem lw_p56 : lw_okq (⟨"NailGoldModel", "plain", "()Z"⟩, 25) := ⟨⟨by decide +kernel, by decide +kernel⟩, List.mem_of_getElem? (i := 1376) (by decide +kernel), List.mem_of_getElem? (i := 1536) (by decide +kernel), List.mem_of_getElem? (i := 1537) (by decide +kernel)⟩
theorem lw_p57 : lw_okq (⟨"NailGoldModel", "sum", "()I"⟩, 25) := ⟨⟨by decide +kernel, by decide +kernel⟩, List.mem_of_getElem? (i := 1376) (by decide +kernel), List.mem_of_getElem? (i := 1542) (by decide +kernel), List.mem_of_getElem? (i := 1543) (by decide +kernel)⟩
theorem lw_p58 : lw_okq (⟨"NailGoldModel", "part", "()I"⟩, 25) := ⟨⟨by decide +kernel, by decide +kernel⟩, List.mem_of_getElem? (i := 1376) (by decide +kernel), List.mem_of_getElem? (i := 1546) (by decide +kernel), List.mem_of_getElem? (i := 1547) (by decide +kernel)⟩
theorem lw_p59 : lw_okq (⟨"NailGoldModel", "bookLine", "()V"⟩, 25) := ⟨⟨by decide +kernel, by decide +kernel⟩, List.mem_of_getElem? (i := 1376) (by decide +kernel), List.mem_of_getElem? (i := 1559) (by decide +kernel), List.mem_of_getElem? (i := 1560) (by decide +kernel)⟩
theorem lw_p60 : lw_okq (⟨"NailGoldModel", "stepLine", "(I)V"⟩, 25) := ⟨⟨by decide +kernel, by decide +kernel⟩, List.mem_of_getElem? (i := 1376) (by decide +kernel), List.mem_of_getElem? (i := 1564) (by decide +kernel), List.mem_of_getElem? (i := 1565) (by decide +kernel)⟩
theorem lw_p61 : lw_okq (⟨"NailGoldModel", "after", "(Ljava/lang/String;II)I"⟩, 25) := ⟨⟨by decide +kernel, by decide +kernel⟩, List.mem_of_getElem? (i := 1376) (by decide +kernel), List.mem_of_getElem? (i := 1569) (by decide +kernel), List.mem_of_getElem? (i := 1570) (by decide +kernel)⟩
theorem lw_p62 : lw_okq (⟨"NailGoldModel", "manLine", "(I)V"⟩, 25) := ⟨⟨by decide +kernel, by decide +kernel⟩, List.mem_of_getElem? (i := 1376) (by decide +kernel), List.mem_of_getElem? (i := 1575) (by decide +kernel), List.mem_of_getElem? (i := 1576) (by decide +kernel)⟩
theorem lw_p63 : lw_okq (⟨"NailGoldModel", "lettersAfter", "(Ljava/lang/String;)I"⟩, 25) := ⟨⟨by decide +kernel, by decide +kernel⟩, List.mem_of_getElem? (i := 1376) (by decide +kernel), List.mem_of_getElem? (i := 1580) (by decide +kernel), List.mem_of_getElem? (i := 1581) (by decide +kernel)⟩
def lw_privs_4 : List (MethodName × Nat) := [(⟨"NailGoldModel", "lawLine", "()V"⟩, 25), (⟨"NailGoldModel", "has", "(Ljava/lang/String;)Z"⟩, 25), (⟨"NailGoldModel", "figures", "(II)I"⟩, 25), (⟨"NailGoldModel", "place", "()I"⟩, 25), (⟨"NailGoldModel", "some", "()Z"⟩, 25), (⟨"NailGoldModel", "every", "()Z"⟩, 25), (⟨"NailGoldModel", "atom", "()Z"⟩, 25), (⟨"NailGoldModel", "isSign", "(I)Z"⟩, 25), (⟨"NailGoldModel", "plain", "()Z"⟩, 25), (⟨"NailGoldModel", "sum", "()I"⟩, 25), (⟨"NailGoldModel", "part", "()I"⟩, 25), (⟨"NailGoldModel", "bookLine", "()V"⟩, 25), (⟨"NailGoldModel", "stepLine", "(I)V"⟩, 25), (⟨"NailGoldModel", "after", "(Ljava/lang/String;II)I"⟩, 25), (⟨"NailGoldModel", "manLine", "(I)V"⟩, 25), (⟨"NailGoldModel", "lettersAfter", "(Ljava/lang/String;)I"⟩, 25)]
theorem lw_r4 : ∀ q ∈ lw_privs_4, lw_okq q := List.forall_mem_cons.mpr ⟨lw_p48, List.forall_mem_cons.mpr ⟨lw_p49, List.forall_mem_cons.mpr ⟨lw_p50, List.forall_mem_cons.mpr ⟨lw_p51, List.forall_mem_cons.mpr ⟨lw_p52, List.forall_mem_cons.mpr ⟨lw_p53, List.forall_mem_cons.mpr ⟨lw_p54, List.forall_mem_cons.mpr ⟨lw_p55, List.forall_mem_cons.mpr ⟨lw_p56, List.forall_mem_cons.mpr ⟨lw_p57, List.forall_mem_cons.mpr ⟨lw_p58, List.forall_mem_cons.mpr ⟨lw_p59, List.forall_mem_cons.mpr ⟨lw_p60, List.forall_mem_cons.mpr ⟨lw_p61, List.forall_mem_cons.mpr ⟨lw_p62, List.forall_mem_cons.mpr ⟨lw_p63, fun _ h => absurd h List.not_mem_nil⟩⟩⟩⟩⟩⟩⟩⟩⟩⟩⟩⟩⟩⟩⟩⟩
theorem lw_p64 : lw_okq (⟨"NailGoldModel", "put", "(III)V"⟩, 25) := ⟨⟨by decide +kernel, by decide +kernel⟩, List.mem_of_getElem? (i := 1376) (by decide +kernel), List.mem_of_getElem? (i := 1587) (by decide +kernel), List.mem_of_getElem? (i := 1588) (by decide +kernel)⟩
theorem lw_p65 : lw_okq (⟨"NailGoldModel", "testLine", "(I)V"⟩, 25) := ⟨⟨by decide +kernel, by decide +kernel⟩, List.mem_of_getElem? (i := 1376) (by decide +kernel), List.mem_of_getElem? (i := 1592) (by decide +kernel), List.mem_of_getElem? (i := 1593) (by decide +kernel)⟩
theorem lw_p66 : lw_okq (⟨"NailGoldModel", "rivalLine", "(I)V"⟩, 25) := ⟨⟨by decide +kernel, by decide +kernel⟩, List.mem_of_getElem? (i := 1376) (by decide +kernel), List.mem_of_getElem? (i := 1598) (by decide +kernel), List.mem_of_getElem? (i := 1599) (by decide +kernel)⟩
theorem lw_p67 : lw_okq (⟨"NailGoldModel", "tells", "(II)V"⟩, 25) := ⟨⟨by decide +kernel, by decide +kernel⟩, List.mem_of_getElem? (i := 1376) (by decide +kernel), List.mem_of_getElem? (i := 1603) (by decide +kernel), List.mem_of_getElem? (i := 1604) (by decide +kernel)⟩
theorem lw_p68 : lw_okq (⟨"NailGoldModel", "comesBack", "()V"⟩, 25) := ⟨⟨by decide +kernel, by decide +kernel⟩, List.mem_of_getElem? (i := 1376) (by decide +kernel), List.mem_of_getElem? (i := 1610) (by decide +kernel), List.mem_of_getElem? (i := 1611) (by decide +kernel)⟩
theorem lw_p69 : lw_okq (⟨"NailGoldModel", "isStep", "(I)Z"⟩, 25) := ⟨⟨by decide +kernel, by decide +kernel⟩, List.mem_of_getElem? (i := 1376) (by decide +kernel), List.mem_of_getElem? (i := 1626) (by decide +kernel), List.mem_of_getElem? (i := 1627) (by decide +kernel)⟩
theorem lw_p70 : lw_okq (⟨"NailGoldModel", "ofStep", "(II)I"⟩, 25) := ⟨⟨by decide +kernel, by decide +kernel⟩, List.mem_of_getElem? (i := 1376) (by decide +kernel), List.mem_of_getElem? (i := 1630) (by decide +kernel), List.mem_of_getElem? (i := 1631) (by decide +kernel)⟩
theorem lw_p71 : lw_okq (⟨"NailGoldModel", "ofRival", "(II)I"⟩, 25) := ⟨⟨by decide +kernel, by decide +kernel⟩, List.mem_of_getElem? (i := 1376) (by decide +kernel), List.mem_of_getElem? (i := 1634) (by decide +kernel), List.mem_of_getElem? (i := 1635) (by decide +kernel)⟩
theorem lw_p72 : lw_okq (⟨"NailGoldModel", "isMan", "(I)Z"⟩, 25) := ⟨⟨by decide +kernel, by decide +kernel⟩, List.mem_of_getElem? (i := 1376) (by decide +kernel), List.mem_of_getElem? (i := 1642) (by decide +kernel), List.mem_of_getElem? (i := 1643) (by decide +kernel)⟩
theorem lw_p73 : lw_okq (⟨"NailGoldModel", "of", "(II)I"⟩, 25) := ⟨⟨by decide +kernel, by decide +kernel⟩, List.mem_of_getElem? (i := 1376) (by decide +kernel), List.mem_of_getElem? (i := 1646) (by decide +kernel), List.mem_of_getElem? (i := 1647) (by decide +kernel)⟩
theorem lw_p74 : lw_okq (⟨"NailGoldModel", "turnsNow", "(I)I"⟩, 25) := ⟨⟨by decide +kernel, by decide +kernel⟩, List.mem_of_getElem? (i := 1376) (by decide +kernel), List.mem_of_getElem? (i := 1650) (by decide +kernel), List.mem_of_getElem? (i := 1651) (by decide +kernel)⟩
theorem lw_p75 : lw_okq (⟨"NailGoldModel", "turnsBy", "(IIIIIII)I"⟩, 25) := ⟨⟨by decide +kernel, by decide +kernel⟩, List.mem_of_getElem? (i := 1376) (by decide +kernel), List.mem_of_getElem? (i := 1654) (by decide +kernel), List.mem_of_getElem? (i := 1655) (by decide +kernel)⟩
theorem lw_p76 : lw_okq (⟨"NailGoldModel", "outlay", "(I)I"⟩, 25) := ⟨⟨by decide +kernel, by decide +kernel⟩, List.mem_of_getElem? (i := 1376) (by decide +kernel), List.mem_of_getElem? (i := 1658) (by decide +kernel), List.mem_of_getElem? (i := 1659) (by decide +kernel)⟩
theorem lw_p77 : lw_okq (⟨"NailGoldModel", "left", "(II)I"⟩, 25) := ⟨⟨by decide +kernel, by decide +kernel⟩, List.mem_of_getElem? (i := 1376) (by decide +kernel), List.mem_of_getElem? (i := 1662) (by decide +kernel), List.mem_of_getElem? (i := 1663) (by decide +kernel)⟩
theorem lw_p78 : lw_okq (⟨"NailGoldModel", "isTest", "(I)Z"⟩, 25) := ⟨⟨by decide +kernel, by decide +kernel⟩, List.mem_of_getElem? (i := 1376) (by decide +kernel), List.mem_of_getElem? (i := 1670) (by decide +kernel), List.mem_of_getElem? (i := 1671) (by decide +kernel)⟩
theorem lw_p79 : lw_okq (⟨"NailGoldModel", "stopsOf", "(I)I"⟩, 25) := ⟨⟨by decide +kernel, by decide +kernel⟩, List.mem_of_getElem? (i := 1376) (by decide +kernel), List.mem_of_getElem? (i := 1674) (by decide +kernel), List.mem_of_getElem? (i := 1675) (by decide +kernel)⟩
def lw_privs_5 : List (MethodName × Nat) := [(⟨"NailGoldModel", "put", "(III)V"⟩, 25), (⟨"NailGoldModel", "testLine", "(I)V"⟩, 25), (⟨"NailGoldModel", "rivalLine", "(I)V"⟩, 25), (⟨"NailGoldModel", "tells", "(II)V"⟩, 25), (⟨"NailGoldModel", "comesBack", "()V"⟩, 25), (⟨"NailGoldModel", "isStep", "(I)Z"⟩, 25), (⟨"NailGoldModel", "ofStep", "(II)I"⟩, 25), (⟨"NailGoldModel", "ofRival", "(II)I"⟩, 25), (⟨"NailGoldModel", "isMan", "(I)Z"⟩, 25), (⟨"NailGoldModel", "of", "(II)I"⟩, 25), (⟨"NailGoldModel", "turnsNow", "(I)I"⟩, 25), (⟨"NailGoldModel", "turnsBy", "(IIIIIII)I"⟩, 25), (⟨"NailGoldModel", "outlay", "(I)I"⟩, 25), (⟨"NailGoldModel", "left", "(II)I"⟩, 25), (⟨"NailGoldModel", "isTest", "(I)Z"⟩, 25), (⟨"NailGoldModel", "stopsOf", "(I)I"⟩, 25)]
theorem lw_r5 : ∀ q ∈ lw_privs_5, lw_okq q := List.forall_mem_cons.mpr ⟨lw_p64, List.forall_mem_cons.mpr ⟨lw_p65, List.forall_mem_cons.mpr ⟨lw_p66, List.forall_mem_cons.mpr ⟨lw_p67, List.forall_mem_cons.mpr ⟨lw_p68, List.forall_mem_cons.mpr ⟨lw_p69, List.forall_mem_cons.mpr ⟨lw_p70, List.forall_mem_cons.mpr ⟨lw_p71, List.forall_mem_cons.mpr ⟨lw_p72, List.forall_mem_cons.mpr ⟨lw_p73, List.forall_mem_cons.mpr ⟨lw_p74, List.forall_mem_cons.mpr ⟨lw_p75, List.forall_mem_cons.mpr ⟨lw_p76, List.forall_mem_cons.mpr ⟨lw_p77, List.forall_mem_cons.mpr ⟨lw_p78, List.forall_mem_cons.mpr ⟨lw_p79, fun _ h => absurd h List.not_mem_nil⟩⟩⟩⟩⟩⟩⟩⟩⟩⟩⟩⟩⟩⟩⟩⟩
theorem lw_p80 : lw_okq (⟨"NailGoldModel", "costOf", "(I)I"⟩, 25) := ⟨⟨by decide +kernel, by decide +kernel⟩, List.mem_of_getElem? (i := 1376) (by decide +kernel), List.mem_of_getElem? (i := 1678) (by decide +kernel), List.mem_of_getElem? (i := 1679) (by decide +kernel)⟩
theorem lw_p81 : lw_okq (⟨"NailGoldModel", "isRival", "(I)Z"⟩, 25) := ⟨⟨by decide +kernel, by decide +kernel⟩, List.mem_of_getElem? (i := 1376) (by decide +kernel), List.mem_of_getElem? (i := 1686) (by decide +kernel), List.mem_of_getElem? (i := 1687) (by decide +kernel)⟩
theorem lw_p82 : lw_okq (⟨"NailGoldModel", "isKept", "(I)Z"⟩, 25) := ⟨⟨by decide +kernel, by decide +kernel⟩, List.mem_of_getElem? (i := 1376) (by decide +kernel), List.mem_of_getElem? (i := 1694) (by decide +kernel), List.mem_of_getElem? (i := 1695) (by decide +kernel)⟩
theorem lw_p83 : lw_okq (⟨"NailGoldModel", "remembers", "()V"⟩, 25) := ⟨⟨by decide +kernel, by decide +kernel⟩, List.mem_of_getElem? (i := 1376) (by decide +kernel), List.mem_of_getElem? (i := 1698) (by decide +kernel), List.mem_of_getElem? (i := 1699) (by decide +kernel)⟩
theorem lw_p84 : lw_okq (⟨"NailGoldModel", "logs", "(II)V"⟩, 25) := ⟨⟨by decide +kernel, by decide +kernel⟩, List.mem_of_getElem? (i := 1376) (by decide +kernel), List.mem_of_getElem? (i := 1705) (by decide +kernel), List.mem_of_getElem? (i := 1706) (by decide +kernel)⟩
theorem lw_p85 : lw_okq (⟨"NailGoldModel", "pays", "(I)V"⟩, 25) := ⟨⟨by decide +kernel, by decide +kernel⟩, List.mem_of_getElem? (i := 1376) (by decide +kernel), List.mem_of_getElem? (i := 1713) (by decide +kernel), List.mem_of_getElem? (i := 1714) (by decide +kernel)⟩
theorem lw_p86 : lw_okq (⟨"NailGoldModel", "catches", "(II)Z"⟩, 25) := ⟨⟨by decide +kernel, by decide +kernel⟩, List.mem_of_getElem? (i := 1376) (by decide +kernel), List.mem_of_getElem? (i := 1717) (by decide +kernel), List.mem_of_getElem? (i := 1718) (by decide +kernel)⟩
theorem lw_p87 : lw_okq (⟨"NailGoldModel", "goes", "(IZ)I"⟩, 25) := ⟨⟨by decide +kernel, by decide +kernel⟩, List.mem_of_getElem? (i := 1376) (by decide +kernel), List.mem_of_getElem? (i := 1741) (by decide +kernel), List.mem_of_getElem? (i := 1742) (by decide +kernel)⟩
theorem lw_p88 : lw_okq (⟨"NailGoldModel", "works", "(I)V"⟩, 25) := ⟨⟨by decide +kernel, by decide +kernel⟩, List.mem_of_getElem? (i := 1376) (by decide +kernel), List.mem_of_getElem? (i := 1745) (by decide +kernel), List.mem_of_getElem? (i := 1746) (by decide +kernel)⟩
theorem lw_p89 : lw_okq (⟨"NailGoldModel", "draw", "(I)I"⟩, 25) := ⟨⟨by decide +kernel, by decide +kernel⟩, List.mem_of_getElem? (i := 1376) (by decide +kernel), List.mem_of_getElem? (i := 1752) (by decide +kernel), List.mem_of_getElem? (i := 1753) (by decide +kernel)⟩
theorem lw_p90 : lw_okq (⟨"NailGoldModel", "by", "(IZ)I"⟩, 25) := ⟨⟨by decide +kernel, by decide +kernel⟩, List.mem_of_getElem? (i := 1376) (by decide +kernel), List.mem_of_getElem? (i := 1773) (by decide +kernel), List.mem_of_getElem? (i := 1774) (by decide +kernel)⟩
theorem lw_p91 : lw_okq (⟨"NailGoldModel", "looks", "(I)V"⟩, 25) := ⟨⟨by decide +kernel, by decide +kernel⟩, List.mem_of_getElem? (i := 1376) (by decide +kernel), List.mem_of_getElem? (i := 1785) (by decide +kernel), List.mem_of_getElem? (i := 1786) (by decide +kernel)⟩
theorem lw_p92 : lw_okq (⟨"NailGoldModel", "from", "(IIII)I"⟩, 25) := ⟨⟨by decide +kernel, by decide +kernel⟩, List.mem_of_getElem? (i := 1376) (by decide +kernel), List.mem_of_getElem? (i := 1789) (by decide +kernel), List.mem_of_getElem? (i := 1790) (by decide +kernel)⟩
theorem lw_p93 : lw_okq (⟨"NailGoldModel", "using", "(IIIII)I"⟩, 25) := ⟨⟨by decide +kernel, by decide +kernel⟩, List.mem_of_getElem? (i := 1376) (by decide +kernel), List.mem_of_getElem? (i := 1793) (by decide +kernel), List.mem_of_getElem? (i := 1794) (by decide +kernel)⟩
theorem lw_p94 : lw_okq (⟨"NailGoldModel", "behind", "(IIII)I"⟩, 25) := ⟨⟨by decide +kernel, by decide +kernel⟩, List.mem_of_getElem? (i := 1376) (by decide +kernel), List.mem_of_getElem? (i := 1797) (by decide +kernel), List.mem_of_getElem? (i := 1798) (by decide +kernel)⟩
theorem lw_p95 : lw_okq (⟨"NailGoldModel", "stopped", "(I)I"⟩, 25) := ⟨⟨by decide +kernel, by decide +kernel⟩, List.mem_of_getElem? (i := 1376) (by decide +kernel), List.mem_of_getElem? (i := 1809) (by decide +kernel), List.mem_of_getElem? (i := 1810) (by decide +kernel)⟩
def lw_privs_6 : List (MethodName × Nat) := [(⟨"NailGoldModel", "costOf", "(I)I"⟩, 25), (⟨"NailGoldModel", "isRival", "(I)Z"⟩, 25), (⟨"NailGoldModel", "isKept", "(I)Z"⟩, 25), (⟨"NailGoldModel", "remembers", "()V"⟩, 25), (⟨"NailGoldModel", "logs", "(II)V"⟩, 25), (⟨"NailGoldModel", "pays", "(I)V"⟩, 25), (⟨"NailGoldModel", "catches", "(II)Z"⟩, 25), (⟨"NailGoldModel", "goes", "(IZ)I"⟩, 25), (⟨"NailGoldModel", "works", "(I)V"⟩, 25), (⟨"NailGoldModel", "draw", "(I)I"⟩, 25), (⟨"NailGoldModel", "by", "(IZ)I"⟩, 25), (⟨"NailGoldModel", "looks", "(I)V"⟩, 25), (⟨"NailGoldModel", "from", "(IIII)I"⟩, 25), (⟨"NailGoldModel", "using", "(IIIII)I"⟩, 25), (⟨"NailGoldModel", "behind", "(IIII)I"⟩, 25), (⟨"NailGoldModel", "stopped", "(I)I"⟩, 25)]
theorem lw_r6 : ∀ q ∈ lw_privs_6, lw_okq q := List.forall_mem_cons.mpr ⟨lw_p80, List.forall_mem_cons.mpr ⟨lw_p81, List.forall_mem_cons.mpr ⟨lw_p82, List.forall_mem_cons.mpr ⟨lw_p83, List.forall_mem_cons.mpr ⟨lw_p84, List.forall_mem_cons.mpr ⟨lw_p85, List.forall_mem_cons.mpr ⟨lw_p86, List.forall_mem_cons.mpr ⟨lw_p87, List.forall_mem_cons.mpr ⟨lw_p88, List.forall_mem_cons.mpr ⟨lw_p89, List.forall_mem_cons.mpr ⟨lw_p90, List.forall_mem_cons.mpr ⟨lw_p91, List.forall_mem_cons.mpr ⟨lw_p92, List.forall_mem_cons.mpr ⟨lw_p93, List.forall_mem_cons.mpr ⟨lw_p94, List.forall_mem_cons.mpr ⟨lw_p95, fun _ h => absurd h List.not_mem_nil⟩⟩⟩⟩⟩⟩⟩⟩⟩⟩⟩⟩⟩⟩⟩⟩
theorem lw_p96 : lw_okq (⟨"NailGoldModel", "bestSet", "(IZ)I"⟩, 25) := ⟨⟨by decide +kernel, by decide +kernel⟩, List.mem_of_getElem? (i := 1376) (by decide +kernel), List.mem_of_getElem? (i := 1817) (by decide +kernel), List.mem_of_getElem? (i := 1818) (by decide +kernel)⟩
theorem lw_p97 : lw_okq (⟨"NailGoldModel", "costs", "(I)I"⟩, 25) := ⟨⟨by decide +kernel, by decide +kernel⟩, List.mem_of_getElem? (i := 1376) (by decide +kernel), List.mem_of_getElem? (i := 1824) (by decide +kernel), List.mem_of_getElem? (i := 1825) (by decide +kernel)⟩
theorem lw_p98 : lw_okq (⟨"NailGoldModel", "told", "()I"⟩, 25) := ⟨⟨by decide +kernel, by decide +kernel⟩, List.mem_of_getElem? (i := 1376) (by decide +kernel), List.mem_of_getElem? (i := 1840) (by decide +kernel), List.mem_of_getElem? (i := 1841) (by decide +kernel)⟩
theorem lw_p99 : lw_okq (⟨"NailGoldModel", "princePays", "(IIII)I"⟩, 25) := ⟨⟨by decide +kernel, by decide +kernel⟩, List.mem_of_getElem? (i := 1376) (by decide +kernel), List.mem_of_getElem? (i := 1853) (by decide +kernel), List.mem_of_getElem? (i := 1854) (by decide +kernel)⟩
theorem lw_p100 : lw_okq (⟨"NailGoldModel", "manHas", "(IIII)I"⟩, 25) := ⟨⟨by decide +kernel, by decide +kernel⟩, List.mem_of_getElem? (i := 1376) (by decide +kernel), List.mem_of_getElem? (i := 1857) (by decide +kernel), List.mem_of_getElem? (i := 1858) (by decide +kernel)⟩
theorem lw_p101 : lw_okq (⟨"NailGoldModel", "gives", "(III)I"⟩, 25) := ⟨⟨by decide +kernel, by decide +kernel⟩, List.mem_of_getElem? (i := 1376) (by decide +kernel), List.mem_of_getElem? (i := 1875) (by decide +kernel), List.mem_of_getElem? (i := 1876) (by decide +kernel)⟩
theorem lw_p102 : lw_okq (⟨"NailGoldModel", "keptOnes", "(I)I"⟩, 25) := ⟨⟨by decide +kernel, by decide +kernel⟩, List.mem_of_getElem? (i := 1376) (by decide +kernel), List.mem_of_getElem? (i := 1879) (by decide +kernel), List.mem_of_getElem? (i := 1880) (by decide +kernel)⟩
theorem lw_p103 : lw_okq (⟨"NailGoldModel", "logged", "(II)I"⟩, 25) := ⟨⟨by decide +kernel, by decide +kernel⟩, List.mem_of_getElem? (i := 1376) (by decide +kernel), List.mem_of_getElem? (i := 1915) (by decide +kernel), List.mem_of_getElem? (i := 1916) (by decide +kernel)⟩
def lw_privs_7 : List (MethodName × Nat) := [(⟨"NailGoldModel", "bestSet", "(IZ)I"⟩, 25), (⟨"NailGoldModel", "costs", "(I)I"⟩, 25), (⟨"NailGoldModel", "told", "()I"⟩, 25), (⟨"NailGoldModel", "princePays", "(IIII)I"⟩, 25), (⟨"NailGoldModel", "manHas", "(IIII)I"⟩, 25), (⟨"NailGoldModel", "gives", "(III)I"⟩, 25), (⟨"NailGoldModel", "keptOnes", "(I)I"⟩, 25), (⟨"NailGoldModel", "logged", "(II)I"⟩, 25)]
theorem lw_r7 : ∀ q ∈ lw_privs_7, lw_okq q := List.forall_mem_cons.mpr ⟨lw_p96, List.forall_mem_cons.mpr ⟨lw_p97, List.forall_mem_cons.mpr ⟨lw_p98, List.forall_mem_cons.mpr ⟨lw_p99, List.forall_mem_cons.mpr ⟨lw_p100, List.forall_mem_cons.mpr ⟨lw_p101, List.forall_mem_cons.mpr ⟨lw_p102, List.forall_mem_cons.mpr ⟨lw_p103, fun _ h => absurd h List.not_mem_nil⟩⟩⟩⟩⟩⟩⟩⟩
def lw_privs : List (MethodName × Nat) := lw_privs_1 ++ (lw_privs_2 ++ (lw_privs_3 ++ (lw_privs_4 ++ (lw_privs_5 ++ (lw_privs_6 ++ (lw_privs_7))))))
def lw_tbl : List Cond := k2_sels lw_privs ++ tables_1
theorem lw_privs_ok : ∀ q ∈ lw_privs, lw_okq q := by
  show ∀ q ∈ lw_privs_1 ++ (lw_privs_2 ++ (lw_privs_3 ++ (lw_privs_4 ++ (lw_privs_5 ++ (lw_privs_6 ++ (lw_privs_7)))))), lw_okq q
  exact List.forall_mem_append.mpr ⟨lw_r1, List.forall_mem_append.mpr ⟨lw_r2, List.forall_mem_append.mpr ⟨lw_r3, List.forall_mem_append.mpr ⟨lw_r4, List.forall_mem_append.mpr ⟨lw_r5, List.forall_mem_append.mpr ⟨lw_r6, lw_r7⟩⟩⟩⟩⟩⟩
end
section
theorem goodIn_r {big : List Cond} (ws : List Cond) (ps : List Nat) (hp : ws = ps.filterMap (fun i => big[i]?)) (h : ws.all goodWord = true) : GoodIn big ws := by
  intro w hw
  have h1 := List.all_eq_true.mp h w hw
  rw [hp] at hw
  obtain ⟨i, -, hi⟩ := List.mem_filterMap.mp hw
  have hm : w ∈ big := by first | exact List.mem_of_getElem? hi | exact List.getElem?_mem hi
  exact ⟨hm, good_of_word h1⟩
theorem goodIn_app {big a b : List Cond} (ha : GoodIn big a) (hb : GoodIn big b) : GoodIn big (a ++ b) := fun w h => (List.mem_append.mp h).elim (ha w) (hb w)
theorem goodIn_ca {big a b : List Cond} {c : Cond} (ha : GoodIn big (c :: a)) (hb : GoodIn big b) : GoodIn big (c :: (a ++ b)) := fun w h => (List.mem_cons.mp h).elim (fun e => ha w (List.mem_cons.mpr (Or.inl e))) (fun h => (List.mem_append.mp h).elim (fun h => ha w (List.mem_cons.mpr (Or.inr h))) (hb w))
theorem goodIn_sub {big ws : List Cond} (hm : ∀ w ∈ ws, w ∈ big) (h : ws.all goodWord = true) : GoodIn big ws := fun w hw => ⟨hm w hw, good_of_word (List.all_eq_true.mp h w hw)⟩

section VXA
def vx_T (XC : String → State → State → Prop) (st : State) (q : Addr) (t : State) (mc ms : Nat) (free : Addr → Prop) : Prop :=
  ∃ (E : String) (ce : Cell) (L : List Loc), XC E st t ∧ t.heap[q]? = some ce ∧ ce.vm = .none ∧ st.vm.findClass E = some ce.cls ∧ st.WarmedH t.vm ∧ st.sameButNew ({ t with vm := st.vm } : State) L mc ms ∧ ∀ z ∈ L, free z.base
def vx_Q (Qc : Array Value → State → Outcome → State → Prop) (XC : String → State → State → Prop) (mc ms : Nat) (free : Addr → Prop) : Array Value → State → Outcome → State → Prop := fun a st o t =>
  (Qc a st o t ∧ ∃ L, FrameEnd st o t L mc ms ∧ ∀ q ∈ L, free q.base) ∨ ∃ q, o = .threw q ∧ vx_T XC st q t mc ms free
def vx_Met (l : Launch) (y : MethodName) (ws : List Cond) (rm : Room) (Pc : Array Value → State → Prop) (Qc : Array Value → State → Outcome → State → Prop) (XC : String → State → State → Prop) (mc ms : Nat) (free : Addr → Prop) : Prop :=
  MetFree l y (headSpec ws rm) Pc (fun _ _ _ _ _ => True) (vx_Q Qc XC mc ms free)
def vx_Post (XC : String → State → State → Prop) (mc ms : Nat) (free : Addr → Prop) : Pt → Array Value → Addr → Pt → Prop := fun A a q B =>
  ∃ (g : JFrame) (mk : MethodId) (t : State) (L : List Loc) (E : String) (ce : Cell), B.U.heap = t.heap ∧ B.U.vm = t.vm ∧ XC E (A.U.calling g mk a) t ∧ t.heap[q]? = some ce ∧ ce.vm = .none ∧ A.U.vm.findClass E = some ce.cls ∧ B.locs = A.locs ++ L ∧ (∀ z ∈ L, free z.base) ∧ B.cells = A.cells + mc ∧ B.slots = A.slots + ms
def vx_Back (l : Launch) (R : Room) (p : Program) (e : Env) (below : List Frame) (s : State) (sargs : Array Value) (y : MethodName) (len W9 : Nat)
    (Pre : Pt → Array Value → Prop) (Post : Pt → Array Value → Option Value → Pt → Prop) (PostX : Pt → Array Value → Addr → Pt → Prop) : Prop :=
  ∀ (m : MethodId) (meth : Method) (c : Code) (A : Pt) (g : JFrame) (ig : Instr) (mk : MethodId) (a : Array Value),
    Stand p l e R s m sargs below meth c A.U A.locs A.cells A.slots → g.method = m → g.locals.size = c.maxLocals → decode c.code g.pc = .ok (ig, len) →
    2 * g.monitorRoom + (g.stack.map fun v => v.category).sum ≤ W9 → A.U.methodNamed? y = some mk → Pre A a →
    (∃ (v : Option Value) (B : Pt), Stand p l e R s m sargs below meth c B.U B.locs B.cells B.slots ∧ Post A a v B ∧
      Steps p.tables e below (doInvoke e (A.U.setTop g) [] mk a).1 (B.U.setTop { g with pc := g.pc + len, stack := v.toList ++ g.stack })) ∨
    (∃ (q : Addr) (B : Pt), Stand p l e R s m sargs below meth c B.U B.locs B.cells B.slots ∧ PostX A a q B ∧
      Steps p.tables e below (doInvoke e (A.U.setTop g) [] mk a).1 ((B.U.setTop g).pushFrame (.throwing q)))
section Payer
variable {l : Launch} {R : Room} {p : Program} {e : Env} {below : List Frame} {s : State} {sargs : Array Value} {y : MethodName} {len W9 : Nat}
theorem vx_back {ws : List Cond} {rm : Room} {Pc : Array Value → State → Prop} {Qc : Array Value → State → Outcome → State → Prop} {XC : String → State → State → Prop} {mc ms : Nat} {free : Addr → Prop} {bytes : ByteArray} {maxL : Nat} {ret : Option FieldType}
    (hM : vx_Met l y ws rm Pc Qc XC mc ms free) (hblind : FrameBlind Pc) (hrc : rm.cells = mc) (hrs : rm.slots = ms)
    (hframes : rm.frames + 1 ≤ R.frames) (hlocals : W9 + (maxL + 11) + rm.locals ≤ R.locals)
    (hws : ∀ w ∈ ws, ∀ a' U, s.WarmedH U.vm → w.before a' U = true) (hcode : Cond.code y bytes maxL ret ∈ ws) (hinit : ∀ a' U, s.WarmedH U.vm → (Cond.initialized y.cls).before a' U = true) :
    vx_Back l R p e below s sargs y len W9 (PreOf R mc ms Pc) (PostOf Qc mc ms free) (vx_Post XC mc ms free) := by
  intro m meth c A g ig mk a X hg hsize hdg hW hn hp
  have h1 : (headSpec ws rm).pre.before a A.U = true := atoms_intro fun w hw => hws w hw _ _ X.warmed
  have h2 : (Cond.code y bytes maxL ret).before a A.U = true := hws _ hcode _ _ X.warmed
  have h3 : (Cond.initialized y.cls).before a A.U = true := hinit _ _ X.warmed
  have h4 : A.cells + (headSpec ws rm).room.cells ≤ R.cells := by rw [show (headSpec ws rm).room.cells = mc from hrc]; exact hp.1
  have h5 : A.slots + (headSpec ws rm).room.slots ≤ R.slots := by rw [show (headSpec ws rm).room.slots = ms from hrs]; exact hp.2.1
  have hPc : Pc a (A.U.calling g mk a) := hblind _ _ _ _ hp.2.2
  obtain ⟨U, Ls, c0, s0⟩ := A
  dsimp only [Pt.U, Pt.locs, Pt.cells, Pt.slots] at h1 h2 h3 h4 h5 X hn hPc ⊢
  obtain ⟨methY, cY, hmY, hcY, -, hlY, -, -, -, -⟩ := Cond.code_spec hn h2
  obtain ⟨kY, hkY, -⟩ := className_of_methodNamed hn
  have hinitY : kY.init = .initialized := Cond.initialized_spec (findClass_of_methodNamed hn) hkY h3
  have h : At U g.method c below := by rw [hg]; exact X.here
  have hlocals9 : W9 + (maxL + 11) + (headSpec ws rm).room.locals ≤ R.locals := hlocals
  have happ : (headSpec ws rm).appliesLoose y e.platform (U.calling g mk a) = true :=
    Spec.appliesLoose_calling (g := g) h hdg hn hkY hinitY
      (X.room_calling (g := g) (R' := (headSpec ws rm).room) hsize hmY hcY hframes (by rw [hlY]; omega) h4 h5) h1
  obtain ⟨mid, hmid⟩ := h.above
  have hfr : (U.setTop g).frames = (.java g :: mid) ++ below := by rw [State.frames_setTop' g h.top, hmid]; rfl
  obtain ⟨o, s₂, hsteps, -, hend, hq⟩ := Steps.callFree hM p X.admits X.cas X.clock (acts := []) hfr happ hPc trivial
  have hq' : vx_Q Qc XC mc ms free a (U.calling g mk a) o s₂ := hq
  rw [State.frames_setTop' g h.top] at hend
  obtain ⟨g₀, hg0⟩ := Option.isSome_iff_exists.mp h.top
  obtain ⟨r, hr⟩ := State.topJava?_eq_some.mp hg0
  have hr' : (({ U with heap := s₂.heap, slotsUsed := s₂.slotsUsed } : State).setVm s₂.vm).frames = .java g₀ :: r := hr
  rcases hq' with ⟨hqc, L, hfe, hL⟩ | ⟨q, rfl, E, ce, L, hx, hce, hcv, hcl, hW₂, hsm, hL⟩
  · obtain ⟨⟨v, rfl⟩, hW₂, e2, q2, q3, q4, q5, q6⟩ := id hfe
    have e3 : s₂ = ({ (U.calling g mk a).setFrames s₂.frames with heap := s₂.heap, slotsUsed := s₂.slotsUsed } : State).setVm s₂.vm := by
      have : s₂ = ({ s₂ with vm := (U.calling g mk a).vm } : State).setVm s₂.vm := rfl
      rw [e2] at this
      exact this
    obtain ⟨c₂, i₂, len₂, hc₂, hd₂, hf₂⟩ := hend
    have hW' : U.WarmedH s₂.vm := hW₂
    have hcc : c₂ = c := by
      have h1 : s₂.code? g.method = U.code? g.method := by
        rw [State.code?_eq, State.code?_eq, hW'.alike.method?]
      exact Option.some.inj (hc₂.symm.trans (h1.trans h.code))
    subst hcc
    have hlen : len₂ = len := by rw [hdg] at hd₂; cases hd₂; rfl
    subst hlen
    have hs₂ : s₂ = (({ U with heap := s₂.heap, slotsUsed := s₂.slotsUsed } : State).setVm s₂.vm).setTop { g with pc := g.pc + len₂, stack := v.toList ++ g.stack } := by
      refine e3.trans ?_
      rw [hf₂, State.calling_eq h.top, State.setFrames_setFrames, State.setTop_of_frames _ hr', hr]
      rfl
    have hsame : U.sameButNew ({ U with heap := s₂.heap, slotsUsed := s₂.slotsUsed } : State) L mc ms := by
      refine ⟨?_, q2, q3, q4, q5, q6⟩
      obtain ⟨t, ht, -⟩ := State.frames_cons hr
      show ({ U with heap := s₂.heap, slotsUsed := s₂.slotsUsed } : State) = { U.setFrames U.frames with heap := s₂.heap, slotsUsed := s₂.slotsUsed }
      rw [State.setFrames_self ht]
    subst hg
    refine Or.inl ⟨v, ⟨(({ U with heap := s₂.heap, slotsUsed := s₂.slotsUsed } : State).setVm s₂.vm), Ls ++ L, c0 + mc, s0 + ms⟩,
      ⟨X.admits, X.cas, X.clock, X.frames, X.room, X.hears, X.method, X.code, (X.here.setHeapUsed s₂.heap s₂.slotsUsed).setVm hW'.alike, X.tail, State.WarmedH.trans X.warmed hW', X.limits, X.bytes, X.same.trans (hsame.setVm s.vm)⟩,
      ⟨g, mk, s₂, L, rfl, rfl, hqc, rfl, hL, rfl, rfl⟩, ?_⟩
    show Steps p.tables e below _ ((({ U with heap := s₂.heap, slotsUsed := s₂.slotsUsed } : State).setVm s₂.vm).setTop { g with pc := g.pc + len₂, stack := v.toList ++ g.stack })
    rw [← hs₂]
    exact hsteps
  · obtain ⟨e2, q2, q3, q4, q5, q6⟩ := id hsm
    have e3 : s₂ = ({ (U.calling g mk a).setFrames s₂.frames with heap := s₂.heap, slotsUsed := s₂.slotsUsed } : State).setVm s₂.vm := by
      have : s₂ = ({ s₂ with vm := (U.calling g mk a).vm } : State).setVm s₂.vm := rfl
      rw [e2] at this
      exact this
    have hf₂ : s₂.frames = .throwing q :: .java g :: U.frames.tail := hend
    have hW' : U.WarmedH s₂.vm := hW₂
    have hs₂ : s₂ = ((({ U with heap := s₂.heap, slotsUsed := s₂.slotsUsed } : State).setVm s₂.vm).setTop g).pushFrame (.throwing q) := by
      refine e3.trans ?_
      rw [hf₂, State.calling_eq h.top, State.setFrames_setFrames, State.pushFrame, State.frames_setTop _ hr', State.setTop_of_frames _ hr', State.setFrames_setFrames, hr]
      rfl
    have hsame : U.sameButNew ({ U with heap := s₂.heap, slotsUsed := s₂.slotsUsed } : State) L mc ms := by
      refine ⟨?_, q2, q3, q4, q5, q6⟩
      obtain ⟨t, ht, -⟩ := State.frames_cons hr
      show ({ U with heap := s₂.heap, slotsUsed := s₂.slotsUsed } : State) = { U.setFrames U.frames with heap := s₂.heap, slotsUsed := s₂.slotsUsed }
      rw [State.setFrames_self ht]
    subst hg
    refine Or.inr ⟨q, ⟨(({ U with heap := s₂.heap, slotsUsed := s₂.slotsUsed } : State).setVm s₂.vm), Ls ++ L, c0 + mc, s0 + ms⟩,
      ⟨X.admits, X.cas, X.clock, X.frames, X.room, X.hears, X.method, X.code, (X.here.setHeapUsed s₂.heap s₂.slotsUsed).setVm hW'.alike, X.tail, State.WarmedH.trans X.warmed hW', X.limits, X.bytes, X.same.trans (hsame.setVm s.vm)⟩,
      ⟨g, mk, s₂, L, E, ce, rfl, rfl, hx, hce, hcv, hcl, rfl, hL, rfl, rfl⟩, ?_⟩
    show Steps p.tables e below _ (((({ U with heap := s₂.heap, slotsUsed := s₂.slotsUsed } : State).setVm s₂.vm).setTop g).pushFrame (.throwing q))
    rw [← hs₂]
    exact hsteps
end Payer
section Calls
variable {p : Program} {l : Launch} {e : Env} {R : Room} {s : State} {m : MethodId} {args : Array Value} {below : List Frame} {meth : Method} {c : Code} {T : State} {locs : List Loc} {cells slots : Nat}
theorem vx_callV (X : Stand p l e R s m args below meth c T locs cells slots) (hexec : p.tables.exec = Jvm.exec) {own C : String} {index : Nat} {y : MethodName} {bytes : ByteArray} {maxL : Nat} {ret : Option FieldType}
    (hown : s.vm.findClass own = some m.cls) (hlink : (Cond.methodLink own index y).before args s = true) (hinst : (Cond.instanceMethod y).before args s = true) (hsel : (Cond.selects C y y).before args s = true)
    (hcode : (Cond.code y bytes maxL ret).before args s = true) (hy : y.cls ≠ "java/lang/invoke/MethodHandle" ∧ y.cls ≠ "java/lang/invoke/VarHandle")
    {W9 : Nat} {Pre : Pt → Array Value → Prop} {Post : Pt → Array Value → Option Value → Pt → Prop} {PostX : Pt → Array Value → Addr → Pt → Prop} (hK : vx_Back l R p e below s args y 3 W9 Pre Post PostX)
    {b : Addr} {cellB : Cell} (hcell : T.heap[b]? = some cellB) (hobj : cellB.vm.isStatics = false) (hcls : s.vm.findClass C = some cellB.cls)
    {g : JFrame} (hg : g.method = m) (hsize : g.locals.size = c.maxLocals) {argsL rest : List Value} (hlen : ∀ sig, parseMethodDescriptor y.desc = some sig → argsL.length = sig.parameters.length)
    (hstack : g.stack = argsL.reverse ++ .ref b :: rest) (hW : 2 * g.monitorRoom + (rest.map fun v => v.category).sum ≤ W9) (hdg : decode c.code g.pc = .ok (.invokevirtual index, 3))
    (hpre : ∀ vm₁, s.WarmedH vm₁ → Pre ⟨T.setVm vm₁, locs, cells, slots⟩ (Value.ref b :: argsL).toArray) :
    (∃ (v : Option Value) (vm₁ : Vm) (B : Pt), s.WarmedH vm₁ ∧ Stand p l e R s m args below meth c B.U B.locs B.cells B.slots ∧ Post ⟨T.setVm vm₁, locs, cells, slots⟩ (Value.ref b :: argsL).toArray v B ∧
      ∀ target, Steps p.tables e below (B.U.setTop { g with pc := g.pc + 3, stack := v.toList ++ rest }) target → Steps p.tables e below (T.setTop g) target) ∨
    (∃ (q : Addr) (vm₁ : Vm) (B : Pt), s.WarmedH vm₁ ∧ Stand p l e R s m args below meth c B.U B.locs B.cells B.slots ∧ PostX ⟨T.setVm vm₁, locs, cells, slots⟩ (Value.ref b :: argsL).toArray q B ∧
      Steps p.tables e below (T.setTop g) ((B.U.setTop { g with stack := rest }).pushFrame (.throwing q))) := by
  obtain ⟨mk, methM, hnamed, hmethM, hstM, habM⟩ := Cond.instanceMethod_spec hinst
  obtain ⟨methM', cM, hmethM', -, -, -, -, -, -, hsigM⟩ := Cond.code_spec hnamed hcode
  cases hmethM.symm.trans hmethM'
  obtain ⟨c2, r2, m2, q1, q2, q3, q4, kP, hkP, hkPi⟩ := Cond.selects_spec hsel
  cases hcls.symm.trans q1
  cases (State.methodFound?_of_named hnamed hy).symm.trans q2
  cases hnamed.symm.trans q3
  have hselP : selectMethod e.platform s.vm cellB.cls mk = .method mk := by rw [Launch.admits_selectMethod X.admits]; exact q4
  obtain ⟨vm₁, X₁, hstep₁⟩ := X.invokevirtual hexec hown hlink hnamed hmethM hstM hkP hkPi hy (a := b) (cell := cellB) hcell
    (fun z h => by rw [h] at hobj; cases hobj) hselP hmethM habM hkP hkPi (g := g) hg (argsL := argsL) (rest := rest) (hlen _ hsigM) hstack hdg
  rcases hK m meth c ⟨T.setVm vm₁, locs, cells, slots⟩ { g with stack := rest } (.invokevirtual index) mk (Value.ref b :: argsL).toArray X₁ hg hsize hdg hW (X₁.named hnamed) (hpre vm₁ X₁.warmed) with ⟨v, B, X', hpost, hsteps⟩ | ⟨q, B, X', hpost, hsteps⟩
  · exact Or.inl ⟨v, vm₁, B, X₁.warmed, X', hpost, fun target h => hstep₁ _ fun acts => by rw [doInvoke_state]; exact hsteps.trans h⟩
  · exact Or.inr ⟨q, vm₁, B, X₁.warmed, X', hpost, hstep₁ _ fun acts => by rw [doInvoke_state]; exact hsteps⟩
theorem vx_callS (X : Stand p l e R s m args below meth c T locs cells slots) (hexec : p.tables.exec = Jvm.exec) {own : String} {index : Nat} {y : MethodName} {bytes : ByteArray} {maxL : Nat} {ret : Option FieldType}
    (hown : s.vm.findClass own = some m.cls) (hlink : (Cond.methodLink own index y).before args s = true) (hstat : (Cond.static y).before args s = true) (hinit : (Cond.initialized y.cls).before args s = true)
    (hcode : (Cond.code y bytes maxL ret).before args s = true) (hy : y.cls ≠ "java/lang/invoke/MethodHandle" ∧ y.cls ≠ "java/lang/invoke/VarHandle")
    {W9 : Nat} {Pre : Pt → Array Value → Prop} {Post : Pt → Array Value → Option Value → Pt → Prop} {PostX : Pt → Array Value → Addr → Pt → Prop} (hK : vx_Back l R p e below s args y 3 W9 Pre Post PostX)
    {g : JFrame} (hg : g.method = m) (hsize : g.locals.size = c.maxLocals) {argsL rest : List Value} (hlen : ∀ sig, parseMethodDescriptor y.desc = some sig → argsL.length = sig.parameters.length)
    (hstack : g.stack = argsL.reverse ++ rest) (hW : 2 * g.monitorRoom + (rest.map fun v => v.category).sum ≤ W9) (hdg : decode c.code g.pc = .ok (.invokestatic index, 3))
    (hpre : ∀ vm₁, s.WarmedH vm₁ → Pre ⟨T.setVm vm₁, locs, cells, slots⟩ argsL.toArray) :
    (∃ (v : Option Value) (vm₁ : Vm) (B : Pt), s.WarmedH vm₁ ∧ Stand p l e R s m args below meth c B.U B.locs B.cells B.slots ∧ Post ⟨T.setVm vm₁, locs, cells, slots⟩ argsL.toArray v B ∧
      ∀ target, Steps p.tables e below (B.U.setTop { g with pc := g.pc + 3, stack := v.toList ++ rest }) target → Steps p.tables e below (T.setTop g) target) ∨
    (∃ (q : Addr) (vm₁ : Vm) (B : Pt), s.WarmedH vm₁ ∧ Stand p l e R s m args below meth c B.U B.locs B.cells B.slots ∧ PostX ⟨T.setVm vm₁, locs, cells, slots⟩ argsL.toArray q B ∧
      Steps p.tables e below (T.setTop g) ((B.U.setTop { g with stack := rest }).pushFrame (.throwing q))) := by
  obtain ⟨mk, hnamed⟩ := Cond.code_named hcode
  obtain ⟨methM, cM, hmethM, -, -, -, -, -, -, hsigM⟩ := Cond.code_spec hnamed hcode
  have hstatic : methM.isStatic = true := Cond.static_spec hnamed hmethM hstat
  obtain ⟨kP, hkP, -⟩ := className_of_methodNamed hnamed
  have hinitP : kP.init = .initialized := Cond.initialized_spec (findClass_of_methodNamed hnamed) hkP hinit
  obtain ⟨vm₁, X₁, hstep₁⟩ := X.invokestatic hexec hown hlink hnamed hmethM hstatic hkP hinitP hy (g := g) hg (argsL := argsL) (rest := rest) (hlen _ hsigM) hstack hdg
  rcases hK m meth c ⟨T.setVm vm₁, locs, cells, slots⟩ { g with stack := rest } (.invokestatic index) mk argsL.toArray X₁ hg hsize hdg hW (X₁.named hnamed) (hpre vm₁ X₁.warmed) with ⟨v, B, X', hpost, hsteps⟩ | ⟨q, B, X', hpost, hsteps⟩
  · exact Or.inl ⟨v, vm₁, B, X₁.warmed, X', hpost, fun target h => hstep₁ _ fun acts => by rw [doInvoke_state]; exact hsteps.trans h⟩
  · exact Or.inr ⟨q, vm₁, B, X₁.warmed, X', hpost, hstep₁ _ fun acts => by rw [doInvoke_state]; exact hsteps⟩
end Calls
theorem vx_cls {s : State} {T : State} {vm₁ : Vm} {E : String} {k : ClassId} (hW : s.WarmedH vm₁) (h : (T.setVm vm₁).vm.findClass E = some k) : s.vm.findClass E = some k := by
  have h1 : vm₁.findClass E = some k := h
  rw [hW.alike.findClass] at h1
  exact h1
def vx_W (p : Program) (l : Launch) (e : Env) (R : Room) (s : State) (m : MethodId) (args : Array Value) (below : List Frame) (meth : Method) (c : Code) (H : Heap) (locs : List Loc) (cells slots : Nat) (Q : State → Prop) (g : JFrame) (q : Addr) : Prop :=
  ∀ T : State, T.heap = H → Stand p l e R s m args below meth c T locs cells slots → ∃ t, Steps p.tables e below ((T.setTop g).pushFrame (.throwing q)) t ∧ Q t
def vx_Run (p : Program) (l : Launch) (e : Env) (R : Room) (s : State) (m : MethodId) (args : Array Value) (below : List Frame) (meth : Method) (c : Code) (H : Heap) (locs : List Loc) (cells slots mc ms : Nat) (g : JFrame) (rest : List Value) (Qa : State → Outcome → State → Prop) (XC : String → State → State → Prop) (free : Addr → Prop) : Prop :=
  ∀ T : State, T.heap = H → Stand p l e R s m args below meth c T locs cells slots →
    (∃ (v : Option Value) (st₀ t T' : State) (L : List Loc), st₀.heap = H ∧ Stand p l e R s m args below meth c T' (locs ++ L) (cells + mc) (slots + ms) ∧ (∀ q ∈ L, free q.base) ∧ T'.heap = t.heap ∧ T'.vm = t.vm ∧ Qa st₀ (.returned v) t ∧
      Goes p e below T g T' { g with pc := g.pc + 3, stack := v.toList ++ rest }) ∨
    (∃ (q : Addr) (st₀ t T' : State) (L : List Loc) (E : String) (ce : Cell), st₀.heap = H ∧ Stand p l e R s m args below meth c T' (locs ++ L) (cells + mc) (slots + ms) ∧ (∀ z ∈ L, free z.base) ∧ T'.heap = t.heap ∧ T'.vm = t.vm ∧ XC E st₀ t ∧ t.heap[q]? = some ce ∧ ce.vm = .none ∧ s.vm.findClass E = some ce.cls ∧
      Steps p.tables e below (T.setTop g) ((T'.setTop { g with stack := rest }).pushFrame (.throwing q)))
def vx_X {S : Type} (px : S → Prop) (B : String → S → State → Prop) (A : Nat → Prop) : String → State → State → Prop := fun E st t => ∃ u : S, px u ∧ B E u t ∧ va_F A st t
section Runs
variable {p : Program} {l : Launch} {e : Env} {R : Room} {s : State} {m : MethodId} {args : Array Value} {below : List Frame} {meth : Method} {c : Code} {H : Heap} {locs : List Loc} {cells slots : Nat}
variable {y : MethodName} {bytes cc : ByteArray} {maxL nL mc ms n index : Nat} {ret : Option FieldType} {ws : List Cond} {rm : Room} {Pc : Array Value → State → Prop} {Qc : Array Value → State → Outcome → State → Prop} {XC : String → State → State → Prop} {free : Addr → Prop} {Ts : List Cond} {own C : String} {b : Addr} {As rest : List Value} {g : JFrame}
theorem vx_callBack (cb : CallB R s args own index y bytes maxL ret ws rm mc ms n) (hM : vx_Met l y ws rm Pc Qc XC mc ms free) (hbl : FrameBlind Pc) : vx_Back l R p e below s args y 3 8 (PreOf R mc ms Pc) (PostOf Qc mc ms free) (vx_Post XC mc ms free) := by
  obtain ⟨hrc, hrs, hfr, hlo, hws, hcw, -, hini, -⟩ := cb
  exact vx_back (bytes := bytes) (maxL := maxL) (ret := ret) hM hbl hrc hrs hfr hlo hws hcw (fun a' U hW => word_at hW (Or.inl (by first | rfl | simp [Cond.onTables, Cond.keeps, Cond.steady])) hini)
theorem vx_runV (S : CallFix p m c cc nL s args Ts own) (hM : vx_Met l y ws rm Pc Qc XC mc ms free) (cw : CallW R s args own C index y bytes maxL ret ws rm mc ms n) (hp : PreV s H C b Pc As)
    (hg : g.method = m) (hn : As.length = n) (hsize : g.locals.size = nL) (hstack : g.stack = As.reverse ++ .ref b :: rest) (hW : 2 * g.monitorRoom + (rest.map fun v => v.category).sum ≤ 8) (hdg : decode cc g.pc = .ok (.invokevirtual index, 3)) (hf : cells + mc ≤ R.cells ∧ slots + ms ≤ R.slots) :
    vx_Run p l e R s m args below meth c H locs cells slots mc ms g rest (Qc (Value.ref b :: As).toArray) XC free := by
  have hK : vx_Back l R p e below s args y 3 8 (PreOf R mc ms Pc) (PostOf Qc mc ms free) (vx_Post XC mc ms free) := vx_callBack cw.1 hM hp.1
  obtain ⟨⟨-, -, -, -, -, -, hcode, -, hy, hlen, hl⟩, hin, hse⟩ := cw
  obtain ⟨hx, hb, hml, ho, -⟩ := S
  obtain ⟨-, ⟨cellB, hcB, hoB, hclB⟩, hPc⟩ := hp
  intro T hT X
  rcases vx_callV X hx (C := C) (bytes := bytes) (maxL := maxL) (ret := ret) ho hl hin hse hcode hy hK (by rw [hT]; exact hcB) hoB hclB hg (hsize.trans hml.symm) (argsL := As) (rest := rest) (fun sig h => hn.trans (hlen sig h)) hstack hW (by rw [hb]; exact hdg)
    (fun vm₁ hW₁ => ⟨hf.1, hf.2, hPc (T.setVm vm₁) hT hW₁⟩) with ⟨v, vm₁, ⟨U', l2, c2, s2⟩, hW₁, X', ⟨g', mk, t, L, e1, e2, hq, h1, hL, h2, h3⟩, st⟩ | ⟨q, vm₁, ⟨U', l2, c2, s2⟩, hW₁, X', ⟨g', mk, t, L, E, ce, e1, e2, hq, hce, hcv, hcl, h1, hL, h2, h3⟩, st⟩
  · dsimp only [Pt.U, Pt.locs, Pt.cells, Pt.slots] at X' e1 e2 h1 h2 h3 st
    subst h1; subst h2; subst h3
    exact Or.inl ⟨v, (T.setVm vm₁).calling g' mk (Value.ref b :: As).toArray, t, U', L, hT, X', hL, e1, e2, hq, st⟩
  · dsimp only [Pt.U, Pt.locs, Pt.cells, Pt.slots] at X' e1 e2 h1 h2 h3 st hcl
    subst h1; subst h2; subst h3
    exact Or.inr ⟨q, (T.setVm vm₁).calling g' mk (Value.ref b :: As).toArray, t, U', L, E, ce, hT, X', hL, e1, e2, hq, hce, hcv, vx_cls hW₁ hcl, st⟩
theorem vx_runS (S : CallFix p m c cc nL s args Ts own) (hM : vx_Met l y ws rm Pc Qc XC mc ms free) (cw : CallB R s args own index y bytes maxL ret ws rm mc ms n ∧ (Cond.static y).before args s = true) (hp : PreS s H Pc As)
    (hg : g.method = m) (hn : As.length = n) (hsize : g.locals.size = nL) (hstack : g.stack = As.reverse ++ rest) (hW : 2 * g.monitorRoom + (rest.map fun v => v.category).sum ≤ 8) (hdg : decode cc g.pc = .ok (.invokestatic index, 3)) (hf : cells + mc ≤ R.cells ∧ slots + ms ≤ R.slots) :
    vx_Run p l e R s m args below meth c H locs cells slots mc ms g rest (Qc As.toArray) XC free := by
  have hK : vx_Back l R p e below s args y 3 8 (PreOf R mc ms Pc) (PostOf Qc mc ms free) (vx_Post XC mc ms free) := vx_callBack cw.1 hM hp.1
  obtain ⟨⟨-, -, -, -, -, -, hcode, hini, hy, hlen, hl⟩, hstt⟩ := cw
  obtain ⟨hx, hb, hml, ho, -⟩ := S
  intro T hT X
  rcases vx_callS X hx (bytes := bytes) (maxL := maxL) (ret := ret) ho hl hstt hini hcode hy hK hg (hsize.trans hml.symm) (argsL := As) (rest := rest) (fun sig h => hn.trans (hlen sig h)) hstack hW (by rw [hb]; exact hdg)
    (fun vm₁ hW₁ => ⟨hf.1, hf.2, hp.2 (T.setVm vm₁) hT hW₁⟩) with ⟨v, vm₁, ⟨U', l2, c2, s2⟩, hW₁, X', ⟨g', mk, t, L, e1, e2, hq, h1, hL, h2, h3⟩, st⟩ | ⟨q, vm₁, ⟨U', l2, c2, s2⟩, hW₁, X', ⟨g', mk, t, L, E, ce, e1, e2, hq, hce, hcv, hcl, h1, hL, h2, h3⟩, st⟩
  · dsimp only [Pt.U, Pt.locs, Pt.cells, Pt.slots] at X' e1 e2 h1 h2 h3 st
    subst h1; subst h2; subst h3
    exact Or.inl ⟨v, (T.setVm vm₁).calling g' mk As.toArray, t, U', L, hT, X', hL, e1, e2, hq, st⟩
  · dsimp only [Pt.U, Pt.locs, Pt.cells, Pt.slots] at X' e1 e2 h1 h2 h3 st hcl
    subst h1; subst h2; subst h3
    exact Or.inr ⟨q, (T.setVm vm₁).calling g' mk As.toArray, t, U', L, E, ce, hT, X', hL, e1, e2, hq, hce, hcv, vx_cls hW₁ hcl, st⟩
end Runs
section Rows
variable {p : Program} {l : Launch} {e : Env} {R : Room} {s : State} {m : MethodId} {args : Array Value} {below : List Frame} {meth : Method} {c : Code} {H : Heap} {locs : List Loc} {cells slots : Nat} {Q : State → Prop}
variable {mc ms : Nat} {free : Addr → Prop} {A0 A1 : Nat → Prop} {H0 : Heap} {a : Array Value} {pc : Nat} {ls : Array Slot} {st0 rest : List Value}
theorem vx_keep {st₀ t T' : State} {L : List Loc} (h0 : st₀.heap = H) (e1 : T'.heap = t.heap) (hS : va_S A0 H0 H locs) (hA : ∀ q, q < H.size → A1 q → A0 q) (hf : ∀ q, free q → A0 q) (hL : ∀ q ∈ L, free q.base) (hF : va_F A1 st₀ t) :
    H.size ≤ T'.heap.size ∧ (∀ q : Nat, q < H.size → ¬ A1 q → T'.heap[q]? = H[q]?) ∧ va_S A0 H0 T'.heap (locs ++ L) := by
  obtain ⟨hz, hk⟩ := hF
  rw [h0] at hz hk
  exact ⟨by rw [e1]; exact hz, fun q h1 h2 => by rw [e1]; exact hk q h1 h2,
    ⟨Nat.le_trans hS.1 (by rw [e1]; exact hz), fun q h1 h2 => by rw [e1, hk q (Nat.lt_of_lt_of_le h1 hS.1) (fun z => h2 (hA q (Nat.lt_of_lt_of_le h1 hS.1) z))]; exact hS.2.1 q h1 h2, fun q hq => by
      rcases List.mem_append.mp hq with h | h
      · exact hS.2.2 q h
      · exact hf _ (hL q h)⟩⟩
theorem vx_calli {S SX : Type} {post : Int32 → S → Prop} {px : SX → Prop} {B : S → State → Prop} {BX : String → SX → State → Prop} {AX : Nat → Prop} (hr : vx_Run p l e R s m args below meth c H locs cells slots mc ms (F0 m pc ls st0) rest (va_Qi post B A1 a) (vx_X px BX AX) free) (hS : va_S A0 H0 H locs) (hA : ∀ q, q < H.size → A1 q → A0 q) (hf : ∀ q, free q → A0 q) (hAX : ∀ q, q < H.size → AX q → A0 q)
    (kx : ∀ (E : String) (ce : Cell) (q9 : Addr) (u : SX) (t : State) (H1 : Heap) (locs1 : List Loc), t.heap = H1 → s.vm.Alike t.vm → px u → BX E u t → H.size ≤ H1.size → (∀ q : Nat, q < H.size → ¬ AX q → H1[q]? = H[q]?) → va_S A0 H0 H1 locs1 → H1[q9]? = some ce → ce.vm = .none → s.vm.findClass E = some ce.cls → vx_W p l e R s m args below meth c H1 locs1 (cells + mc) (slots + ms) Q (F0 m pc ls rest) q9)
    (kk : ∀ (r : Int32) (u : S) (t : State) (H1 : Heap) (locs1 : List Loc), t.heap = H1 → s.vm.Alike t.vm → post r u → B u t → H.size ≤ H1.size → (∀ q : Nat, q < H.size → ¬ A1 q → H1[q]? = H[q]?) → va_S A0 H0 H1 locs1 → W p l e R s m args below meth c H1 locs1 (cells + mc) (slots + ms) Q (F0 m (pc + 3) ls (.int r :: rest))) : W p l e R s m args below meth c H locs cells slots Q (F0 m pc ls st0) := by
  intro T hT X
  rcases hr T hT X with ⟨v, st₀, t, T', L, h0, X', hL, e1, e2, ⟨⟨r, u, hv, hp, hb⟩, hF⟩, st⟩ | ⟨q, st₀, t, T', L, E, ce, h0, X', hL, e1, e2, ⟨u, hp, hb, hF⟩, hce, hcv, hcl, st⟩
  · cases hv
    obtain ⟨k1, k2, k3⟩ := vx_keep h0 e1 hS hA hf hL hF
    obtain ⟨t2, a1, b1⟩ := kk r u t T'.heap (locs ++ L) e1.symm (by rw [← e2]; exact X'.warmed.alike) hp hb k1 k2 k3 T' rfl X'
    exact ⟨t2, st t2 a1, b1⟩
  · obtain ⟨k1, k2, k3⟩ := vx_keep h0 e1 hS hAX hf hL hF
    obtain ⟨t2, a1, b1⟩ := kx E ce q u t T'.heap (locs ++ L) e1.symm (by rw [← e2]; exact X'.warmed.alike) hp hb k1 k2 k3 (by rw [e1]; exact hce) hcv hcl T' rfl X'
    exact ⟨t2, st.trans a1, b1⟩
theorem vx_calll {S SX : Type} {post : Int64 → S → Prop} {px : SX → Prop} {B : S → State → Prop} {BX : String → SX → State → Prop} {AX : Nat → Prop} (hr : vx_Run p l e R s m args below meth c H locs cells slots mc ms (F0 m pc ls st0) rest (va_Ql post B A1 a) (vx_X px BX AX) free) (hS : va_S A0 H0 H locs) (hA : ∀ q, q < H.size → A1 q → A0 q) (hf : ∀ q, free q → A0 q) (hAX : ∀ q, q < H.size → AX q → A0 q)
    (kx : ∀ (E : String) (ce : Cell) (q9 : Addr) (u : SX) (t : State) (H1 : Heap) (locs1 : List Loc), t.heap = H1 → s.vm.Alike t.vm → px u → BX E u t → H.size ≤ H1.size → (∀ q : Nat, q < H.size → ¬ AX q → H1[q]? = H[q]?) → va_S A0 H0 H1 locs1 → H1[q9]? = some ce → ce.vm = .none → s.vm.findClass E = some ce.cls → vx_W p l e R s m args below meth c H1 locs1 (cells + mc) (slots + ms) Q (F0 m pc ls rest) q9)
    (kk : ∀ (r : Int64) (u : S) (t : State) (H1 : Heap) (locs1 : List Loc), t.heap = H1 → s.vm.Alike t.vm → post r u → B u t → H.size ≤ H1.size → (∀ q : Nat, q < H.size → ¬ A1 q → H1[q]? = H[q]?) → va_S A0 H0 H1 locs1 → W p l e R s m args below meth c H1 locs1 (cells + mc) (slots + ms) Q (F0 m (pc + 3) ls (.long r :: rest))) : W p l e R s m args below meth c H locs cells slots Q (F0 m pc ls st0) := by
  intro T hT X
  rcases hr T hT X with ⟨v, st₀, t, T', L, h0, X', hL, e1, e2, ⟨⟨r, u, hv, hp, hb⟩, hF⟩, st⟩ | ⟨q, st₀, t, T', L, E, ce, h0, X', hL, e1, e2, ⟨u, hp, hb, hF⟩, hce, hcv, hcl, st⟩
  · cases hv
    obtain ⟨k1, k2, k3⟩ := vx_keep h0 e1 hS hA hf hL hF
    obtain ⟨t2, a1, b1⟩ := kk r u t T'.heap (locs ++ L) e1.symm (by rw [← e2]; exact X'.warmed.alike) hp hb k1 k2 k3 T' rfl X'
    exact ⟨t2, st t2 a1, b1⟩
  · obtain ⟨k1, k2, k3⟩ := vx_keep h0 e1 hS hAX hf hL hF
    obtain ⟨t2, a1, b1⟩ := kx E ce q u t T'.heap (locs ++ L) e1.symm (by rw [← e2]; exact X'.warmed.alike) hp hb k1 k2 k3 (by rw [e1]; exact hce) hcv hcl T' rfl X'
    exact ⟨t2, st.trans a1, b1⟩
theorem vx_callf {S SX : Type} {post : UInt32 → S → Prop} {px : SX → Prop} {B : S → State → Prop} {BX : String → SX → State → Prop} {AX : Nat → Prop} (hr : vx_Run p l e R s m args below meth c H locs cells slots mc ms (F0 m pc ls st0) rest (va_Qf post B A1 a) (vx_X px BX AX) free) (hS : va_S A0 H0 H locs) (hA : ∀ q, q < H.size → A1 q → A0 q) (hf : ∀ q, free q → A0 q) (hAX : ∀ q, q < H.size → AX q → A0 q)
    (kx : ∀ (E : String) (ce : Cell) (q9 : Addr) (u : SX) (t : State) (H1 : Heap) (locs1 : List Loc), t.heap = H1 → s.vm.Alike t.vm → px u → BX E u t → H.size ≤ H1.size → (∀ q : Nat, q < H.size → ¬ AX q → H1[q]? = H[q]?) → va_S A0 H0 H1 locs1 → H1[q9]? = some ce → ce.vm = .none → s.vm.findClass E = some ce.cls → vx_W p l e R s m args below meth c H1 locs1 (cells + mc) (slots + ms) Q (F0 m pc ls rest) q9)
    (kk : ∀ (r : UInt32) (u : S) (t : State) (H1 : Heap) (locs1 : List Loc), t.heap = H1 → s.vm.Alike t.vm → post r u → B u t → H.size ≤ H1.size → (∀ q : Nat, q < H.size → ¬ A1 q → H1[q]? = H[q]?) → va_S A0 H0 H1 locs1 → W p l e R s m args below meth c H1 locs1 (cells + mc) (slots + ms) Q (F0 m (pc + 3) ls (.float r :: rest))) : W p l e R s m args below meth c H locs cells slots Q (F0 m pc ls st0) := by
  intro T hT X
  rcases hr T hT X with ⟨v, st₀, t, T', L, h0, X', hL, e1, e2, ⟨⟨r, u, hv, hp, hb⟩, hF⟩, st⟩ | ⟨q, st₀, t, T', L, E, ce, h0, X', hL, e1, e2, ⟨u, hp, hb, hF⟩, hce, hcv, hcl, st⟩
  · cases hv
    obtain ⟨k1, k2, k3⟩ := vx_keep h0 e1 hS hA hf hL hF
    obtain ⟨t2, a1, b1⟩ := kk r u t T'.heap (locs ++ L) e1.symm (by rw [← e2]; exact X'.warmed.alike) hp hb k1 k2 k3 T' rfl X'
    exact ⟨t2, st t2 a1, b1⟩
  · obtain ⟨k1, k2, k3⟩ := vx_keep h0 e1 hS hAX hf hL hF
    obtain ⟨t2, a1, b1⟩ := kx E ce q u t T'.heap (locs ++ L) e1.symm (by rw [← e2]; exact X'.warmed.alike) hp hb k1 k2 k3 (by rw [e1]; exact hce) hcv hcl T' rfl X'
    exact ⟨t2, st.trans a1, b1⟩
theorem vx_calld {S SX : Type} {post : UInt64 → S → Prop} {px : SX → Prop} {B : S → State → Prop} {BX : String → SX → State → Prop} {AX : Nat → Prop} (hr : vx_Run p l e R s m args below meth c H locs cells slots mc ms (F0 m pc ls st0) rest (va_Qd post B A1 a) (vx_X px BX AX) free) (hS : va_S A0 H0 H locs) (hA : ∀ q, q < H.size → A1 q → A0 q) (hf : ∀ q, free q → A0 q) (hAX : ∀ q, q < H.size → AX q → A0 q)
    (kx : ∀ (E : String) (ce : Cell) (q9 : Addr) (u : SX) (t : State) (H1 : Heap) (locs1 : List Loc), t.heap = H1 → s.vm.Alike t.vm → px u → BX E u t → H.size ≤ H1.size → (∀ q : Nat, q < H.size → ¬ AX q → H1[q]? = H[q]?) → va_S A0 H0 H1 locs1 → H1[q9]? = some ce → ce.vm = .none → s.vm.findClass E = some ce.cls → vx_W p l e R s m args below meth c H1 locs1 (cells + mc) (slots + ms) Q (F0 m pc ls rest) q9)
    (kk : ∀ (r : UInt64) (u : S) (t : State) (H1 : Heap) (locs1 : List Loc), t.heap = H1 → s.vm.Alike t.vm → post r u → B u t → H.size ≤ H1.size → (∀ q : Nat, q < H.size → ¬ A1 q → H1[q]? = H[q]?) → va_S A0 H0 H1 locs1 → W p l e R s m args below meth c H1 locs1 (cells + mc) (slots + ms) Q (F0 m (pc + 3) ls (.double r :: rest))) : W p l e R s m args below meth c H locs cells slots Q (F0 m pc ls st0) := by
  intro T hT X
  rcases hr T hT X with ⟨v, st₀, t, T', L, h0, X', hL, e1, e2, ⟨⟨r, u, hv, hp, hb⟩, hF⟩, st⟩ | ⟨q, st₀, t, T', L, E, ce, h0, X', hL, e1, e2, ⟨u, hp, hb, hF⟩, hce, hcv, hcl, st⟩
  · cases hv
    obtain ⟨k1, k2, k3⟩ := vx_keep h0 e1 hS hA hf hL hF
    obtain ⟨t2, a1, b1⟩ := kk r u t T'.heap (locs ++ L) e1.symm (by rw [← e2]; exact X'.warmed.alike) hp hb k1 k2 k3 T' rfl X'
    exact ⟨t2, st t2 a1, b1⟩
  · obtain ⟨k1, k2, k3⟩ := vx_keep h0 e1 hS hAX hf hL hF
    obtain ⟨t2, a1, b1⟩ := kx E ce q u t T'.heap (locs ++ L) e1.symm (by rw [← e2]; exact X'.warmed.alike) hp hb k1 k2 k3 (by rw [e1]; exact hce) hcv hcl T' rfl X'
    exact ⟨t2, st.trans a1, b1⟩
theorem vx_callv {S SX : Type} {post : S → Prop} {px : SX → Prop} {B : S → State → Prop} {BX : String → SX → State → Prop} {AX : Nat → Prop} (hr : vx_Run p l e R s m args below meth c H locs cells slots mc ms (F0 m pc ls st0) rest (va_Qv post B A1 a) (vx_X px BX AX) free) (hS : va_S A0 H0 H locs) (hA : ∀ q, q < H.size → A1 q → A0 q) (hf : ∀ q, free q → A0 q) (hAX : ∀ q, q < H.size → AX q → A0 q)
    (kx : ∀ (E : String) (ce : Cell) (q9 : Addr) (u : SX) (t : State) (H1 : Heap) (locs1 : List Loc), t.heap = H1 → s.vm.Alike t.vm → px u → BX E u t → H.size ≤ H1.size → (∀ q : Nat, q < H.size → ¬ AX q → H1[q]? = H[q]?) → va_S A0 H0 H1 locs1 → H1[q9]? = some ce → ce.vm = .none → s.vm.findClass E = some ce.cls → vx_W p l e R s m args below meth c H1 locs1 (cells + mc) (slots + ms) Q (F0 m pc ls rest) q9)
    (kk : ∀ (u : S) (t : State) (H1 : Heap) (locs1 : List Loc), t.heap = H1 → s.vm.Alike t.vm → post u → B u t → H.size ≤ H1.size → (∀ q : Nat, q < H.size → ¬ A1 q → H1[q]? = H[q]?) → va_S A0 H0 H1 locs1 → W p l e R s m args below meth c H1 locs1 (cells + mc) (slots + ms) Q (F0 m (pc + 3) ls (rest))) : W p l e R s m args below meth c H locs cells slots Q (F0 m pc ls st0) := by
  intro T hT X
  rcases hr T hT X with ⟨v, st₀, t, T', L, h0, X', hL, e1, e2, ⟨⟨u, hv, hp, hb⟩, hF⟩, st⟩ | ⟨q, st₀, t, T', L, E, ce, h0, X', hL, e1, e2, ⟨u, hp, hb, hF⟩, hce, hcv, hcl, st⟩
  · cases hv
    obtain ⟨k1, k2, k3⟩ := vx_keep h0 e1 hS hA hf hL hF
    obtain ⟨t2, a1, b1⟩ := kk u t T'.heap (locs ++ L) e1.symm (by rw [← e2]; exact X'.warmed.alike) hp hb k1 k2 k3 T' rfl X'
    exact ⟨t2, st t2 a1, b1⟩
  · obtain ⟨k1, k2, k3⟩ := vx_keep h0 e1 hS hAX hf hL hF
    obtain ⟨t2, a1, b1⟩ := kx E ce q u t T'.heap (locs ++ L) e1.symm (by rw [← e2]; exact X'.warmed.alike) hp hb k1 k2 k3 (by rw [e1]; exact hce) hcv hcl T' rfl X'
    exact ⟨t2, st.trans a1, b1⟩
end Rows
section Ends
variable {p : Program} {l : Launch} {e : Env} {R : Room} {s : State} {m : MethodId} {args : Array Value} {below : List Frame} {meth : Method} {c : Code} {H : Heap} {locs : List Loc} {cells slots : Nat} {Q : State → Prop}
variable {mc ms : Nat} {free : Addr → Prop} {A0 A1 : Nat → Prop} {H0 : Heap} {a : Array Value} {ls : Array Slot} {st0 rest : List Value}
variable {Qc : Array Value → State → Outcome → State → Prop} {XC : String → State → State → Prop}
def vx_MQ (below : List Frame) (Qc : Array Value → State → Outcome → State → Prop) (XC : String → State → State → Prop) (a : Array Value) (s : State) (mc ms : Nat) (free : Addr → Prop) : State → Prop := fun t =>
  ∃ o, t.status = .running ∧ Ended t below o ∧ vx_Q Qc XC mc ms free a s o t
theorem vx_ret {g : JFrame} {mc ms : Nat} (k : W p l e R s m args below meth c H locs cells slots (MQ below Qc args s mc ms free) g) : W p l e R s m args below meth c H locs cells slots (vx_MQ below Qc XC args s mc ms free) g := by
  intro T hT X
  obtain ⟨t, a1, o, b1, b2, b3, b4⟩ := k T hT X
  exact ⟨t, a1, o, b1, b2, Or.inl ⟨b3, b4⟩⟩
theorem vx_widen {g : JFrame} {q : Addr} {k n : Nat} (h1 : cells ≤ k) (h2 : slots ≤ n) (kk : vx_W p l e R s m args below meth c H locs k n Q g q) : vx_W p l e R s m args below meth c H locs cells slots Q g q := fun T hT X => kk T hT (stand_widen X h1 h2)
theorem vx_out {pc : Nat} {E : String} {ce : Cell} {q : Addr} {mc ms : Nat} (hout : ∀ x ∈ c.exceptionTable.toList, covers x pc = false) (hlocks : meth.locks = false) (hcell : H[q]? = some ce) (hv : ce.vm = .none) (hcl : s.vm.findClass E = some ce.cls)
    (hx : ∀ t : State, t.heap = H → s.vm.Alike t.vm → XC E s t) (hf : ∀ z ∈ locs, free z.base) (hc : cells ≤ mc) (hs : slots ≤ ms) :
    vx_W p l e R s m args below meth c H locs cells slots (vx_MQ below Qc XC args s mc ms free) (F0 m pc ls rest) q := by
  intro T hT X
  obtain ⟨st1, hrun, hend, hW, hsm⟩ := X.leaveThrown q (g := F0 m pc ls rest) rfl rfl rfl hout hlocks
  have hcell9 : (T.setFrames (.throwing q :: below)).heap[q]? = some ce := by
    show T.heap[q]? = some ce
    rw [hT]; exact hcell
  exact ⟨_, st1, .threw q, hrun, hend, Or.inr ⟨q, rfl, E, ce, locs, hx _ hT hW.alike, hcell9, hv, hcl, hW, hsm.mono hc hs, hf⟩⟩
theorem vx_frame {U : State} {k n : Nat} (h : s.sameButNew ({ U with vm := s.vm } : State) locs k n) : s.heap.size ≤ U.heap.size ∧ ∀ q : Nat, q < s.heap.size → (∀ z ∈ locs, z.base ≠ q) → U.heap[q]? = s.heap[q]? := by
  obtain ⟨-, h2, -, -, -, h6⟩ := h
  refine ⟨h2, fun q hq hz => ?_⟩
  obtain ⟨c9, e1, e2, e3, e4⟩ := h6 q _ (Array.getElem?_eq_getElem hq)
  have hs : c9.slots = (s.heap[q]).slots := Array.ext_getElem? fun i => e4 i fun hm => hz _ hm rfl
  have h9 : c9 = s.heap[q] := by
    rw [hs] at e2
    exact e2
  have e5 : U.heap[q]? = some c9 := e1
  rw [e5, h9, Array.getElem?_eq_getElem hq]
def vx_no (w : Cond) : Bool := decide (w ≠ .isRef (.static Bundle.tN "UNASSIGNED_STACK" Bundle.steD)) && decide (w ≠ .isRef (.static Bundle.tN "SUPPRESSED_SENTINEL" Bundle.listD)) && decide (w ≠ .laysStatic Bundle.tN "UNASSIGNED_STACK" Bundle.steD) && decide (w ≠ .laysStatic Bundle.tN "SUPPRESSED_SENTINEL" Bundle.listD)
def vx_at0 (own : String) (ic : Nat) (X : String) (names : List String) : List Cond := (Bundle.ownAtoms0 own ic X names).filter vx_no
def vx_atS (own : String) (ic : Nat) (X : String) (names : List String) : List Cond := (Bundle.ownAtoms own ic X names).filter vx_no
def vx_ot (w : Cond) : Bool := w.onTables || goodWord w
theorem vx_ot_at {args a' : Array Value} {s U : State} {w : Cond} (hW : s.WarmedH U.vm) (hvm : s.vm = U.vm) (hg : vx_ot w = true) (h : w.before args s = true) : w.before a' U = true := by
  simp only [vx_ot, Bool.or_eq_true] at hg
  rcases hg with hg | hg
  · exact va_tabs hg hvm h
  · exact word_at hW (good_of_word hg) h
theorem vx_hat {args : Array Value} {s : State} {L B : List Cond} (h1 : ∀ w ∈ L.filter goodWord, w.before args s = true) (h2 : ∀ w ∈ L.filter (fun w => !goodWord w), w ∈ B) (h3 : ∀ w ∈ B, w.before args s = true) : ∀ w ∈ L, w.before args s = true := by
  intro w hw
  by_cases g : goodWord w = true
  · exact h1 w (List.mem_filter.mpr ⟨hw, g⟩)
  · refine h3 w (h2 w (List.mem_filter.mpr ⟨hw, ?_⟩))
    show (!goodWord w) = true
    cases hgw : goodWord w
    · rfl
    · exact absurd hgw g
theorem vx_c {args : Array Value} {s : State} {w : Cond} {B : List Cond} (h : w.before args s = true) (t : ∀ w ∈ B, w.before args s = true) : ∀ w' ∈ w :: B, w'.before args s = true := fun w' h' => (List.mem_cons.mp h').elim (fun e => by rw [e]; exact h) (t w')
theorem vx_n {args : Array Value} {s : State} : ∀ w ∈ ([] : List Cond), w.before args s = true := fun _ h => nomatch h
theorem vx_own {args : Array Value} {s : State} {L : List Cond} (h1 : ∀ w ∈ L.filter vx_no, w.before args s = true)
    (hU : (Cond.isRef (.static Bundle.tN "UNASSIGNED_STACK" Bundle.steD)).before args s = true) (hN : (Cond.isRef (.static Bundle.tN "SUPPRESSED_SENTINEL" Bundle.listD)).before args s = true)
    (lU : (Cond.laysStatic Bundle.tN "UNASSIGNED_STACK" Bundle.steD).before args s = true) (lN : (Cond.laysStatic Bundle.tN "SUPPRESSED_SENTINEL" Bundle.listD).before args s = true) : ∀ w ∈ L, w.before args s = true := by
  intro w hw
  by_cases e1 : w = .isRef (.static Bundle.tN "UNASSIGNED_STACK" Bundle.steD)
  · rw [e1]; exact hU
  · by_cases e2 : w = .isRef (.static Bundle.tN "SUPPRESSED_SENTINEL" Bundle.listD)
    · rw [e2]; exact hN
    · by_cases e3 : w = .laysStatic Bundle.tN "UNASSIGNED_STACK" Bundle.steD
      · rw [e3]; exact lU
      · by_cases e4 : w = .laysStatic Bundle.tN "SUPPRESSED_SENTINEL" Bundle.listD
        · rw [e4]; exact lN
        · exact h1 w (List.mem_filter.mpr ⟨hw, by unfold vx_no; rw [decide_eq_true e1, decide_eq_true e2, decide_eq_true e3, decide_eq_true e4]; rfl⟩)
def vx_L (C n d : String) (A : Nat → Prop) (U : State) (H : Heap) : Prop := ∃ (c : ClassId) (k : Class) (i : Nat) (f : Field) (a : Nat) (cell : Cell), U.vm.findClass C = some c ∧ U.fieldFound? C n d = some (c, k, i, f) ∧ f.isStatic = true ∧ k.statics = some a ∧ H[a]? = some cell ∧ cell.vm.isStatics = true ∧ cell.cls = c ∧ f.slot < cell.slots.size ∧ k.staticTypes[f.slot]? = some f.type ∧ ¬ A a
theorem vx_L.moved {C n d : String} {A : Nat → Prop} {u U : State} {H : Heap} (hvm : u.vm.Alike U.vm) (h : vx_L C n d A u H) : vx_L C n d A U H := by
  obtain ⟨c, k, i, f, a, cell, h1, h2, h3, h4, h5, h6, h7, h8, h9, h10⟩ := h
  obtain ⟨k', hi', he⟩ := State.fieldFound?_setVm hvm h2
  exact ⟨c, k', i, f, a, cell, by rw [hvm.findClass]; exact h1, hi', h3, by rw [he]; exact h4, h5, h6, h7, h8, by rw [he]; exact h9, h10⟩
theorem vx_L.kept {C n d : String} {A : Nat → Prop} {U : State} {H H1 : Heap} (h : vx_L C n d A U H) (hq : ∀ a : Nat, a < H.size → ¬ A a → H1[a]? = H[a]?) : vx_L C n d A U H1 := by
  obtain ⟨c, k, i, f, a, cell, h1, h2, h3, h4, h5, h6, h7, h8, h9, h10⟩ := h
  exact ⟨c, k, i, f, a, cell, h1, h2, h3, h4, by rw [hq a (Array.getElem?_eq_some_iff.mp h5).1 h10]; exact h5, h6, h7, h8, h9, h10⟩
theorem vx_L.narrow {C n d : String} {A B : Nat → Prop} {U : State} {H : Heap} (h : vx_L C n d A U H) (hAB : ∀ q, B q → A q) : vx_L C n d B U H := by
  obtain ⟨c, k, i, f, a, cell, h1, h2, h3, h4, h5, h6, h7, h8, h9, h10⟩ := h
  exact ⟨c, k, i, f, a, cell, h1, h2, h3, h4, h5, h6, h7, h8, h9, fun z => h10 (hAB _ z)⟩
theorem vx_L.word {C n d : String} {A : Nat → Prop} {s : State} {args : Array Value} (h : vx_L C n d A s s.heap) : (Cond.laysStatic C n d).before args s = true := by
  obtain ⟨c, k, i, f, a, cell, h1, h2, h3, h4, h5, h6, h7, h8, h9, -⟩ := h
  show (Cond.laysStatic C n d).holds args s none s [] = true
  exact Cond.laysStatic_of h1 h2 h3 h4 h5 h6 h7 h8 h9
def vx_Zq (C n d : String) (A : Nat → Prop) (U : State) (H : Heap) : Prop := va_Zq C n d A U H ∧ vx_L C n d A U H
theorem vx_Zq.moved {C n d : String} {A : Nat → Prop} {u U : State} {H : Heap} (hvm : u.vm.Alike U.vm) (h : vx_Zq C n d A u H) : vx_Zq C n d A U H := ⟨va_Zq.moved hvm h.1, vx_L.moved hvm h.2⟩
theorem vx_Zq.kept {C n d : String} {A : Nat → Prop} {U : State} {H H1 : Heap} (h : vx_Zq C n d A U H) (hq : ∀ a : Nat, a < H.size → ¬ A a → H1[a]? = H[a]?) : vx_Zq C n d A U H1 := ⟨va_Zq.kept h.1 hq, vx_L.kept h.2 hq⟩
theorem vx_Zq.narrow {C n d : String} {A B : Nat → Prop} {U : State} {H : Heap} (h : vx_Zq C n d A U H) (hAB : ∀ q, B q → A q) : vx_Zq C n d B U H := ⟨va_Zq.narrow h.1 hAB, vx_L.narrow h.2 hAB⟩
theorem vx_Zqof {args : Array Value} {s : State} {C n d : String} {A : Nat → Prop} (hl : (Cond.laysStatic C n d).before args s = true) (hini : (Cond.initialized C).before args s = true) (h : (Cond.isRef (.static C n d)).before args s = true) (hA : ∀ a : Nat, a < s.heap.size → ¬ A a) : vx_Zq C n d A s s.heap := by
  refine ⟨va_Zqof hl hini h hA, ?_⟩
  obtain ⟨c, k, i, f, a, cell, h1, h2, h3, h4, h5, h6, h7, h8, h9⟩ := Cond.laysStatic_spec hl
  exact ⟨c, k, i, f, a, cell, h1, h2, h3, h4, h5, h6, h7, h8, h9, hA a (Array.getElem?_eq_some_iff.mp h5).1⟩
theorem vx_isRef {C n d : String} {v : Value} {A : Nat → Prop} {s : State} {args : Array Value} (h : va_Z C n d v A s s.heap) (hv : v.isRef = true) : (Cond.isRef (.static C n d)).before args s = true := by
  obtain ⟨cf, kf, fi, f, a, cell, h1, h2, h3, h4, h5, h6, h7, -⟩ := h
  have he : (Term.static C n d).eval args s none [] s = some v := by
    simp [Term.eval, State.fieldNamed?, h1, h2, h4, h5, h6, h7]
  simp only [Cond.before, Cond.holds, Cond.value, he]
  cases v <;> simp_all [Value.isRef]
theorem vx_isRefq {C n d : String} {A : Nat → Prop} {s : State} {args : Array Value} (h : va_Zq C n d A s s.heap) : (Cond.isRef (.static C n d)).before args s = true := by
  rcases h with h | ⟨t, h⟩
  · exact vx_isRef h rfl
  · exact vx_isRef h rfl
theorem vx_rebase {T : State} (X : Stand p l e R s m args below meth c T locs cells slots) {R' : Room} (hf : R'.frames ≤ R.frames) (hl : R'.locals ≤ R.locals) (hc : cells + R'.cells ≤ R.cells) (hs : slots + R'.slots ≤ R.slots) :
    Stand p l e R' ((T.setVm s.vm).setFrames (.invoking m args :: below)) m args below meth c T [] 0 0 := by
  have htop : (T.setVm s.vm).topJava?.isSome := X.here.top
  have hF : ((T.setVm s.vm).setFrames (.invoking m args :: below)).frames = .invoking m args :: below := State.frames_setFrames _ (State.cur_lt_of_top htop)
  obtain ⟨g₀, hg0⟩ := Option.isSome_iff_exists.mp htop
  obtain ⟨r, hr⟩ := State.topJava?_eq_some.mp hg0
  have hl9 : e.platform.stackLimits (T.setVm s.vm).me = e.platform.stackLimits s.me := X.limits
  have hb9 : (T.setVm s.vm).me.stackBytes = s.me.stackBytes := X.bytes
  refine ⟨X.admits, X.cas, X.clock, hF, ?_, X.hears, X.method, X.code, X.here, X.tail, X.warmed, ?_, ?_, ?_⟩
  · have h := X.room
    have hU : ((T.setVm s.vm).setFrames (.invoking m args :: below)).localsInUse = s.localsInUse := by
      rw [State.localsInUse_invoking hF (meth := meth) (c := c) X.method X.code, State.localsInUse_invoking X.frames X.method X.code]
    simp only [State.hasRoom, Bool.and_eq_true, decide_eq_true_eq] at h ⊢
    obtain ⟨⟨⟨⟨h1, h2, h3, h4, h5, h6⟩, h7⟩, h8⟩, h9⟩ := h
    rw [X.frames, List.length_cons] at h2 h3
    have q1 := X.heapSize
    have q2 := X.used
    simp only [hF, hU, List.length_cons, State.stackLimits_setFrames, State.stackBytes_setFrames, hl9, hb9]
    refine ⟨⟨⟨⟨by omega, by omega, by omega, by omega, by omega, h6⟩, ?_⟩, ?_⟩, X.book⟩
    · show T.heap.size + R'.cells ≤ e.platform.maxCells
      omega
    · show T.slotsUsed + R'.slots ≤ e.platform.maxSlots
      omega
  · rw [State.stackLimits_setFrames]; rfl
  · rw [State.stackBytes_setFrames]; rfl
  · refine ⟨?_, Nat.le_refl _, Nat.le_refl _, ?_, ?_, fun a c9 h9 => ⟨c9, h9, rfl, rfl, fun _ _ => rfl⟩⟩
    · obtain ⟨t, ht, -⟩ := State.frames_cons hr
      show T.setVm s.vm = { ((T.setVm s.vm).setFrames (.invoking m args :: below)).setFrames (T.setVm s.vm).frames with heap := T.heap, slotsUsed := T.slotsUsed }
      rw [State.setFrames_setFrames, State.setFrames_self ht]
      rfl
    · show T.slotsUsed = T.slotsUsed + ((T.heap.toList.drop T.heap.size).map (·.slots.size)).sum
      rw [List.drop_eq_nil_of_le (Nat.le_of_eq Array.length_toList)]
      rfl
    · show ((T.heap.toList.drop T.heap.size).map (·.slots.size)).sum ≤ 0
      rw [List.drop_eq_nil_of_le (Nat.le_of_eq Array.length_toList)]
      exact Nat.le_refl _
theorem vx_throw0 {cc : ByteArray} {pc : Nat} (hexec : p.tables.exec = Jvm.exec) (hb : c.code = cc) (hl : l.stackTraces = false) {own cls : String} {names : List String} {ik ic mc ms : Nat} {A : Nat → Prop}
    (hown : s.vm.findClass own = some m.cls) (hcls : Bundle.fit cls = true) (hnames : ∀ n ∈ names, Bundle.fit n = true)
    (hk : (Cond.classLink own ik cls).before args s = true) (hini : (Cond.initialized cls).before args s = true) (hat : ∀ w ∈ vx_at0 own ic cls names, w.before args s = true)
    (hgood : ∀ w ∈ Cond.classLink own ik cls :: Cond.initialized cls :: vx_at0 own ic cls names, vx_ot w = true)
    (hU : vx_Zq Bundle.tN "UNASSIGNED_STACK" Bundle.steD A s s.heap) (hN : vx_Zq Bundle.tN "SUPPRESSED_SENTINEL" Bundle.listD A s s.heap) (hS : va_S A s.heap H locs) (hsize : ls.size = c.maxLocals)
    (d0 : decode cc pc = .ok (.new ik, 3)) (d3 : decode cc (pc + 3) = .ok (.dup, 1)) (d4 : decode cc (pc + 4) = .ok (.invokespecial ic, 3)) (d7 : decode cc (pc + 7) = .ok (.athrow, 1))
    (hout : ∀ x ∈ c.exceptionTable.toList, covers x (pc + 7) = false)
    (hRframes : names.length + 3 < R.frames) (hRlocals : (rest.map fun v => v.category).sum + (13 * (names.length + 1) + 42) ≤ R.locals) (hRcells : cells + 1 ≤ R.cells) (hRslots : slots + 6 ≤ R.slots) (hlocks : meth.locks = false)
    (hx : ∀ t : State, s.vm.Alike t.vm → t.heap.size = H.size + 1 → (∀ q : Nat, q < H.size → t.heap[q]? = H[q]?) → XC cls s t)
    (hf : ∀ z ∈ locs, free z.base) (hc : cells + 1 ≤ mc) (hs : slots + 6 ≤ ms) :
    W p l e R s m args below meth c H locs cells slots (vx_MQ below Qc XC args s mc ms free) (F0 m pc ls rest) := by
  intro T hT X
  have htr : e.platform.stackTraces = false := (show e.platform.stackTraces = l.stackTraces by rw [X.admits.platform]).trans hl
  have Y := vx_rebase X (R' := { frames := R.frames, locals := R.locals, cells := 1, slots := 6 }) (Nat.le_refl _) (Nat.le_refl _) hRcells hRslots
  obtain ⟨s', hA⟩ : ∃ z, z = (T.setVm s.vm).setFrames (.invoking m args :: below) := ⟨_, rfl⟩
  rw [← hA] at Y
  have hvm : s'.vm = s.vm := by rw [hA]; rfl
  have hhp : s'.heap = H := by rw [hA]; exact hT
  have hW0 : s.WarmedH s'.vm := by rw [hvm]; exact State.WarmedH.refl s
  have hat' : ∀ w ∈ vx_at0 own ic cls names, w.before args s' = true := fun w hw => vx_ot_at hW0 hvm.symm (hgood w (List.mem_cons_of_mem _ (List.mem_cons_of_mem _ hw))) (hat w hw)
  have hk' : (Cond.classLink own ik cls).before args s' = true := vx_ot_at hW0 hvm.symm (hgood _ List.mem_cons_self) hk
  have hini' : (Cond.initialized cls).before args s' = true := vx_ot_at hW0 hvm.symm (hgood _ (List.mem_cons_of_mem _ List.mem_cons_self)) hini
  have hU' : vx_Zq Bundle.tN "UNASSIGNED_STACK" Bundle.steD A s' s'.heap := by rw [hhp]; exact vx_Zq.moved hW0.alike (hU.kept hS.2.1)
  have hN' : vx_Zq Bundle.tN "SUPPRESSED_SENTINEL" Bundle.listD A s' s'.heap := by rw [hhp]; exact vx_Zq.moved hW0.alike (hN.kept hS.2.1)
  have h : ∀ w ∈ Bundle.ownAtoms0 own ic cls names, w.before args s' = true := vx_own hat' (vx_isRefq hU'.1) (vx_isRefq hN'.1) hU'.2.word hN'.2.word
  have hown' : s'.vm.findClass own = some m.cls := by rw [hvm]; exact hown
  have hins : (Cond.instantiable cls 6).before args s' = true := h _ (by simp [Bundle.ownAtoms0])
  obtain ⟨vm₁, cX, kX, hfX, hkX, -, -, X₁, st1⟩ := Y.newCold hexec (own := own) (C := cls) (index := ik) (n := 6) hown' hk' hins hini'
    (g := F0 m pc ls rest) rfl (by rw [hb]; exact d0) (Nat.le_refl _) (Nat.le_refl _)
  generalize hT1 : (T.setVm vm₁).pushCell { cls := cX, slots := kX.instanceTypes.map defaultValue, vm := .none } = T1 at X₁ st1
  have hcat : (Value.ref T.heap.size).category = 1 := rfl
  have hcellA : T1.heap[T.heap.size]? = some (freshCell cX kX) := by rw [← hT1]; exact State.heap_pushCell_size _ _
  have d3' : decode c.code (pc + 3) = .ok (.dup, 1) := by rw [hb]; exact d3
  obtain ⟨U, hsteps, hrun, hend, hW, hsame, ce, hce, hO⟩ := X₁.ctorThrow0 hexec htr (own := own) (cls := cls) (names := names) (ic := ic) hown' hcls hnames h (fun x hx => nomatch hx) hfX hkX hcellA (by rw [hhp, hT]; exact Nat.le_refl _)
    (g := { method := m, pc := pc + 4, locals := ls, stack := .ref T.heap.size :: .ref T.heap.size :: rest, locked := none }) rfl hsize rfl rfl (rest := rest) rfl
    (by rw [hb]; exact d4) (by rw [hb]; exact d7) hout hRframes (by simp only [List.map_cons, List.sum_cons, hcat]; omega) hlocks
  obtain ⟨f1, f2⟩ := vx_frame hsame
  rw [hhp] at f1 f2
  have hWs : s.WarmedH U.vm := State.WarmedH.trans hW0 hW
  have hcl : s.vm.findClass cls = some ce.cls := by
    have h9 := hO.cls
    rw [hvm] at h9
    exact h9
  have hall : s.sameButNew ({ U with vm := s.vm } : State) locs mc ms := by
    subst hA
    obtain ⟨e1, e2⟩ := hsame
    rw [State.setFrames_setFrames] at e1
    have h2 : (T.setVm s.vm).sameButNew ({ U with vm := s.vm } : State) [] (0 + 1) (0 + 6) := ⟨e1, e2⟩
    have h3 := X.same.trans h2
    rw [List.append_nil] at h3
    exact h3.mono hc hs
  refine ⟨U, ?_, .threw T.heap.size, hrun, hend, Or.inr ⟨T.heap.size, rfl, cls, ce, locs, hx U hWs.alike (by have g1 : U.heap.size ≤ s'.heap.size + (0 + 1) := hsame.2.2.1; have g2 : T.heap.size < U.heap.size := (Array.getElem?_eq_some_iff.mp hce).1; rw [hhp] at g1; rw [hT] at g2; omega) (fun q hq => f2 q hq (fun z hz => nomatch hz)), hce, hO.vm, hcl, hWs, hall, hf⟩⟩
  refine st1 _ ?_
  show Steps p.tables e below (T1.setTop { method := m, pc := pc + 3, locals := ls, stack := .ref T.heap.size :: rest, locked := none }) _
  jvm_step X₁.here [X₁.here.top, hexec, d3', Value.category]
  exact hsteps
theorem vx_throwS {cc : ByteArray} {pc : Nat} (hexec : p.tables.exec = Jvm.exec) (hb : c.code = cc) (hl : l.stackTraces = false) {own cls text : String} {names : List String} {ik is ic mc ms sa : Nat} {A : Nat → Prop}
    (hown : s.vm.findClass own = some m.cls) (hcls : Bundle.fit cls = true) (hnames : ∀ n ∈ names, Bundle.fit n = true)
    (hk : (Cond.classLink own ik cls).before args s = true) (hini : (Cond.initialized cls).before args s = true) (hstr : vk_R own is text sa s) (hat : ∀ w ∈ vx_atS own ic cls names, w.before args s = true)
    (hgood : ∀ w ∈ Cond.classLink own ik cls :: Cond.initialized cls :: vx_atS own ic cls names, vx_ot w = true)
    (hU : vx_Zq Bundle.tN "UNASSIGNED_STACK" Bundle.steD A s s.heap) (hN : vx_Zq Bundle.tN "SUPPRESSED_SENTINEL" Bundle.listD A s s.heap) (hS : va_S A s.heap H locs) (hsize : ls.size = c.maxLocals)
    (d0 : decode cc pc = .ok (.new ik, 3)) (d3 : decode cc (pc + 3) = .ok (.dup, 1)) (d4 : decode cc (pc + 4) = .ok (.ldc is, 2)) (d6 : decode cc (pc + 6) = .ok (.invokespecial ic, 3)) (d9 : decode cc (pc + 9) = .ok (.athrow, 1))
    (hout : ∀ x ∈ c.exceptionTable.toList, covers x (pc + 9) = false)
    (hRframes : names.length + 3 < R.frames) (hRlocals : (rest.map fun v => v.category).sum + (13 * (names.length + 1) + 43) ≤ R.locals) (hRcells : cells + 1 ≤ R.cells) (hRslots : slots + 6 ≤ R.slots) (hlocks : meth.locks = false)
    (hx : ∀ t : State, s.vm.Alike t.vm → t.heap.size = H.size + 1 → (∀ q : Nat, q < H.size → t.heap[q]? = H[q]?) → XC cls s t)
    (hf : ∀ z ∈ locs, free z.base) (hc : cells + 1 ≤ mc) (hs : slots + 6 ≤ ms) :
    W p l e R s m args below meth c H locs cells slots (vx_MQ below Qc XC args s mc ms free) (F0 m pc ls rest) := by
  intro T hT X
  have htr : e.platform.stackTraces = false := (show e.platform.stackTraces = l.stackTraces by rw [X.admits.platform]).trans hl
  have Y := vx_rebase X (R' := { frames := R.frames, locals := R.locals, cells := 1, slots := 6 }) (Nat.le_refl _) (Nat.le_refl _) hRcells hRslots
  obtain ⟨s', hA⟩ : ∃ z, z = (T.setVm s.vm).setFrames (.invoking m args :: below) := ⟨_, rfl⟩
  rw [← hA] at Y
  have hvm : s'.vm = s.vm := by rw [hA]; rfl
  have hhp : s'.heap = H := by rw [hA]; exact hT
  have hW0 : s.WarmedH s'.vm := by rw [hvm]; exact State.WarmedH.refl s
  have hat' : ∀ w ∈ vx_atS own ic cls names, w.before args s' = true := fun w hw => vx_ot_at hW0 hvm.symm (hgood w (List.mem_cons_of_mem _ (List.mem_cons_of_mem _ hw))) (hat w hw)
  have hk' : (Cond.classLink own ik cls).before args s' = true := vx_ot_at hW0 hvm.symm (hgood _ List.mem_cons_self) hk
  have hini' : (Cond.initialized cls).before args s' = true := vx_ot_at hW0 hvm.symm (hgood _ (List.mem_cons_of_mem _ List.mem_cons_self)) hini
  have hU' : vx_Zq Bundle.tN "UNASSIGNED_STACK" Bundle.steD A s' s'.heap := by rw [hhp]; exact vx_Zq.moved hW0.alike (hU.kept hS.2.1)
  have hN' : vx_Zq Bundle.tN "SUPPRESSED_SENTINEL" Bundle.listD A s' s'.heap := by rw [hhp]; exact vx_Zq.moved hW0.alike (hN.kept hS.2.1)
  have h : ∀ w ∈ Bundle.ownAtoms own ic cls names, w.before args s' = true := vx_own hat' (vx_isRefq hU'.1) (vx_isRefq hN'.1) hU'.2.word hN'.2.word
  have hown' : s'.vm.findClass own = some m.cls := by rw [hvm]; exact hown
  have hins : (Cond.instantiable cls 6).before args s' = true := h _ (by simp [Bundle.ownAtoms])
  obtain ⟨vm₁, cX, kX, hfX, hkX, -, -, X₁, st1⟩ := Y.newCold hexec (own := own) (C := cls) (index := ik) (n := 6) hown' hk' hins hini'
    (g := F0 m pc ls rest) rfl (by rw [hb]; exact d0) (Nat.le_refl _) (Nat.le_refl _)
  generalize hT1 : (T.setVm vm₁).pushCell { cls := cX, slots := kX.instanceTypes.map defaultValue, vm := .none } = T1 at X₁ st1
  have hcat : (Value.ref T.heap.size).category = 1 := rfl
  have hcellA : T1.heap[T.heap.size]? = some (freshCell cX kX) := by rw [← hT1]; exact State.heap_pushCell_size _ _
  have d3' : decode c.code (pc + 3) = .ok (.dup, 1) := by rw [hb]; exact d3
  have d4' : decode c.code (pc + 4) = .ok (.ldc is, 2) := by rw [hb]; exact d4
  have hstr' : vk_R own is text sa s' := vk_R.warm hW0 hstr
  obtain ⟨U, hsteps, hrun, hend, hW, hsame, ce, hce, hO⟩ := X₁.ctorThrowS hexec htr (own := own) (cls := cls) (names := names) (ic := ic) hown' hcls hnames h (fun x hx => nomatch hx) hfX hkX hcellA (by rw [hhp, hT]; exact Nat.le_refl _) (msg := .ref sa) rfl
    (g := { method := m, pc := pc + 6, locals := ls, stack := .ref sa :: .ref T.heap.size :: .ref T.heap.size :: rest, locked := none }) rfl hsize rfl rfl (rest := rest) rfl
    (by rw [hb]; exact d6) (by rw [hb]; exact d9) hout hRframes (by simp only [List.map_cons, List.sum_cons, hcat]; omega) hlocks
  obtain ⟨f1, f2⟩ := vx_frame hsame
  rw [hhp] at f1 f2
  have hWs : s.WarmedH U.vm := State.WarmedH.trans hW0 hW
  have hcl : s.vm.findClass cls = some ce.cls := by
    have h9 := hO.cls
    rw [hvm] at h9
    exact h9
  have hall : s.sameButNew ({ U with vm := s.vm } : State) locs mc ms := by
    subst hA
    obtain ⟨e1, e2⟩ := hsame
    rw [State.setFrames_setFrames] at e1
    have h2 : (T.setVm s.vm).sameButNew ({ U with vm := s.vm } : State) [] (0 + 1) (0 + 6) := ⟨e1, e2⟩
    have h3 := X.same.trans h2
    rw [List.append_nil] at h3
    exact h3.mono hc hs
  refine ⟨U, ?_, .threw T.heap.size, hrun, hend, Or.inr ⟨T.heap.size, rfl, cls, ce, locs, hx U hWs.alike (by have g1 : U.heap.size ≤ s'.heap.size + (0 + 1) := hsame.2.2.1; have g2 : T.heap.size < U.heap.size := (Array.getElem?_eq_some_iff.mp hce).1; rw [hhp] at g1; rw [hT] at g2; omega) (fun q hq => f2 q hq (fun z hz => nomatch hz)), hce, hO.vm, hcl, hWs, hall, hf⟩⟩
  refine st1 _ ?_
  show Steps p.tables e below (T1.setTop { method := m, pc := pc + 3, locals := ls, stack := .ref T.heap.size :: rest, locked := none }) _
  jvm_step X₁.here [X₁.here.top, hexec, d3', Value.category]
  exact X₁.ldcString hexec (own := own) (text := text) (index := is) (a := sa) hown' hstr'.1 hstr'.2
    (g := { method := m, pc := pc + 4, locals := ls, stack := .ref T.heap.size :: .ref T.heap.size :: rest, locked := none }) rfl d4' _ hsteps
theorem vx_throwSW {cc : ByteArray} {pc : Nat} (hexec : p.tables.exec = Jvm.exec) (hb : c.code = cc) (hl : l.stackTraces = false) {own cls text : String} {names : List String} {ik is ic mc ms sa : Nat} {A : Nat → Prop}
    (hown : s.vm.findClass own = some m.cls) (hcls : Bundle.fit cls = true) (hnames : ∀ n ∈ names, Bundle.fit n = true)
    (hk : (Cond.classLink own ik cls).before args s = true) (hini : (Cond.initialized cls).before args s = true) (hstr : vk_R own is text sa s) (hat : ∀ w ∈ vx_atS own ic cls names, w.before args s = true)
    (hgood : ∀ w ∈ Cond.classLink own ik cls :: Cond.initialized cls :: vx_atS own ic cls names, vx_ot w = true)
    (hU : vx_Zq Bundle.tN "UNASSIGNED_STACK" Bundle.steD A s s.heap) (hN : vx_Zq Bundle.tN "SUPPRESSED_SENTINEL" Bundle.listD A s s.heap) (hS : va_S A s.heap H locs) (hsize : ls.size = c.maxLocals)
    (d0 : decode cc pc = .ok (.new ik, 3)) (d3 : decode cc (pc + 3) = .ok (.dup, 1)) (d4 : decode cc (pc + 4) = .ok (.ldc_w is, 3)) (d7 : decode cc (pc + 7) = .ok (.invokespecial ic, 3)) (d10 : decode cc (pc + 10) = .ok (.athrow, 1))
    (hout : ∀ x ∈ c.exceptionTable.toList, covers x (pc + 10) = false)
    (hRframes : names.length + 3 < R.frames) (hRlocals : (rest.map fun v => v.category).sum + (13 * (names.length + 1) + 43) ≤ R.locals) (hRcells : cells + 1 ≤ R.cells) (hRslots : slots + 6 ≤ R.slots) (hlocks : meth.locks = false)
    (hx : ∀ t : State, s.vm.Alike t.vm → t.heap.size = H.size + 1 → (∀ q : Nat, q < H.size → t.heap[q]? = H[q]?) → XC cls s t)
    (hf : ∀ z ∈ locs, free z.base) (hc : cells + 1 ≤ mc) (hs : slots + 6 ≤ ms) :
    W p l e R s m args below meth c H locs cells slots (vx_MQ below Qc XC args s mc ms free) (F0 m pc ls rest) := by
  intro T hT X
  have htr : e.platform.stackTraces = false := (show e.platform.stackTraces = l.stackTraces by rw [X.admits.platform]).trans hl
  have Y := vx_rebase X (R' := { frames := R.frames, locals := R.locals, cells := 1, slots := 6 }) (Nat.le_refl _) (Nat.le_refl _) hRcells hRslots
  obtain ⟨s', hA⟩ : ∃ z, z = (T.setVm s.vm).setFrames (.invoking m args :: below) := ⟨_, rfl⟩
  rw [← hA] at Y
  have hvm : s'.vm = s.vm := by rw [hA]; rfl
  have hhp : s'.heap = H := by rw [hA]; exact hT
  have hW0 : s.WarmedH s'.vm := by rw [hvm]; exact State.WarmedH.refl s
  have hat' : ∀ w ∈ vx_atS own ic cls names, w.before args s' = true := fun w hw => vx_ot_at hW0 hvm.symm (hgood w (List.mem_cons_of_mem _ (List.mem_cons_of_mem _ hw))) (hat w hw)
  have hk' : (Cond.classLink own ik cls).before args s' = true := vx_ot_at hW0 hvm.symm (hgood _ List.mem_cons_self) hk
  have hini' : (Cond.initialized cls).before args s' = true := vx_ot_at hW0 hvm.symm (hgood _ (List.mem_cons_of_mem _ List.mem_cons_self)) hini
  have hU' : vx_Zq Bundle.tN "UNASSIGNED_STACK" Bundle.steD A s' s'.heap := by rw [hhp]; exact vx_Zq.moved hW0.alike (hU.kept hS.2.1)
  have hN' : vx_Zq Bundle.tN "SUPPRESSED_SENTINEL" Bundle.listD A s' s'.heap := by rw [hhp]; exact vx_Zq.moved hW0.alike (hN.kept hS.2.1)
  have h : ∀ w ∈ Bundle.ownAtoms own ic cls names, w.before args s' = true := vx_own hat' (vx_isRefq hU'.1) (vx_isRefq hN'.1) hU'.2.word hN'.2.word
  have hown' : s'.vm.findClass own = some m.cls := by rw [hvm]; exact hown
  have hins : (Cond.instantiable cls 6).before args s' = true := h _ (by simp [Bundle.ownAtoms])
  obtain ⟨vm₁, cX, kX, hfX, hkX, -, -, X₁, st1⟩ := Y.newCold hexec (own := own) (C := cls) (index := ik) (n := 6) hown' hk' hins hini'
    (g := F0 m pc ls rest) rfl (by rw [hb]; exact d0) (Nat.le_refl _) (Nat.le_refl _)
  generalize hT1 : (T.setVm vm₁).pushCell { cls := cX, slots := kX.instanceTypes.map defaultValue, vm := .none } = T1 at X₁ st1
  have hcat : (Value.ref T.heap.size).category = 1 := rfl
  have hcellA : T1.heap[T.heap.size]? = some (freshCell cX kX) := by rw [← hT1]; exact State.heap_pushCell_size _ _
  have d3' : decode c.code (pc + 3) = .ok (.dup, 1) := by rw [hb]; exact d3
  have d4' : decode c.code (pc + 4) = .ok (.ldc_w is, 3) := by rw [hb]; exact d4
  have hstr' : vk_R own is text sa s' := vk_R.warm hW0 hstr
  obtain ⟨U, hsteps, hrun, hend, hW, hsame, ce, hce, hO⟩ := X₁.ctorThrowS hexec htr (own := own) (cls := cls) (names := names) (ic := ic) hown' hcls hnames h (fun x hx => nomatch hx) hfX hkX hcellA (by rw [hhp, hT]; exact Nat.le_refl _) (msg := .ref sa) rfl
    (g := { method := m, pc := pc + 7, locals := ls, stack := .ref sa :: .ref T.heap.size :: .ref T.heap.size :: rest, locked := none }) rfl hsize rfl rfl (rest := rest) rfl
    (by rw [hb]; exact d7) (by rw [hb]; exact d10) hout hRframes (by simp only [List.map_cons, List.sum_cons, hcat]; omega) hlocks
  obtain ⟨f1, f2⟩ := vx_frame hsame
  rw [hhp] at f1 f2
  have hWs : s.WarmedH U.vm := State.WarmedH.trans hW0 hW
  have hcl : s.vm.findClass cls = some ce.cls := by
    have h9 := hO.cls
    rw [hvm] at h9
    exact h9
  have hall : s.sameButNew ({ U with vm := s.vm } : State) locs mc ms := by
    subst hA
    obtain ⟨e1, e2⟩ := hsame
    rw [State.setFrames_setFrames] at e1
    have h2 : (T.setVm s.vm).sameButNew ({ U with vm := s.vm } : State) [] (0 + 1) (0 + 6) := ⟨e1, e2⟩
    have h3 := X.same.trans h2
    rw [List.append_nil] at h3
    exact h3.mono hc hs
  refine ⟨U, ?_, .threw T.heap.size, hrun, hend, Or.inr ⟨T.heap.size, rfl, cls, ce, locs, hx U hWs.alike (by have g1 : U.heap.size ≤ s'.heap.size + (0 + 1) := hsame.2.2.1; have g2 : T.heap.size < U.heap.size := (Array.getElem?_eq_some_iff.mp hce).1; rw [hhp] at g1; rw [hT] at g2; omega) (fun q hq => f2 q hq (fun z hz => nomatch hz)), hce, hO.vm, hcl, hWs, hall, hf⟩⟩
  refine st1 _ ?_
  show Steps p.tables e below (T1.setTop { method := m, pc := pc + 3, locals := ls, stack := .ref T.heap.size :: rest, locked := none }) _
  jvm_step X₁.here [X₁.here.top, hexec, d3', Value.category]
  exact X₁.ldcStringW hexec (own := own) (text := text) (index := is) (a := sa) hown' hstr'.1 hstr'.2
    (g := { method := m, pc := pc + 4, locals := ls, stack := .ref T.heap.size :: .ref T.heap.size :: rest, locked := none }) rfl d4' _ hsteps
end Ends
section Bodies
variable {l : Launch}
theorem vx_ofW {y : MethodName} {ws ws' : List Cond} {rm : Room} {Pc : Array Value → State → Prop} {Qc : Array Value → State → Outcome → State → Prop} {XC : String → State → State → Prop} {mc ms : Nat} {free : Addr → Prop} {cc : ByteArray} {maxL : Nat} {ret : Option FieldType}
    (hy : plainName y.cls = true) (hw : ws = Cond.code y cc maxL ret :: ws')
    (body : ∀ p e s m args below meth c s₁, BodyLoose p l y (headSpec ws rm) cc maxL ret e s m args below meth c s₁ → c.maxLocals = maxL → (∀ x ∈ c.exceptionTable.toList, False) → Pc args s →
      W p l e (headSpec ws rm).room s m args below meth c s.heap [] 0 0 (vx_MQ below Qc XC args s mc ms free) (entryFrame m args maxL)) : vx_Met l y ws rm Pc Qc XC mc ms free := by
  refine MetFree.of_bodyS (code := cc) (maxLocals := maxL) (ret := ret) hy ?_ ?_
  · intro args s m h hn
    obtain ⟨meth, c, h1, h2, h3, h4, h5, h6, -, -⟩ := Cond.code_spec hn (atoms_spec (ws := ws) h _ (by rw [hw]; exact List.mem_cons_self))
    exact ⟨meth, c, h1, h2, h3, h4, h5, h6⟩
  · intro p e s m args below meth c s₁ B hml hP _
    have hh0 : s₁.heap = s.heap := by rw [B.state]; rfl
    have ht : ∀ x ∈ c.exceptionTable.toList, False := by
      obtain ⟨meth9, c9, h1, h2, -, -, -, -, h7, -⟩ := Cond.code_spec B.named (atoms_spec (ws := ws) B.pre _ (by rw [hw]; exact List.mem_cons_self))
      cases Option.some.inj (h1.symm.trans B.method)
      cases Option.some.inj (h2.symm.trans (Stand.of_body B).code)
      intro x hx
      rw [Array.isEmpty_iff.mp h7] at hx
      cases hx
    obtain ⟨t, a1, o, b1, b2, b3⟩ := body p e s m args below meth c s₁ B hml ht hP s₁ hh0 (Stand.of_body B)
    exact ⟨t, o, a1, b1, b2, b3⟩
theorem vx_table {p : Program} {x y : MethodName} {S : Spec} {cc bytes : ByteArray} {maxL maxL' : Nat} {ret ret' : Option FieldType} {e : Env} {s s₁ : State} {m : MethodId} {args : Array Value} {below : List Frame} {meth : Method} {c : Code} {hh : List (Nat × Nat × Nat × Nat)}
    (B : BodyLoose p l y S cc maxL ret e s m args below meth c s₁) (h : (Cond.codeWith y bytes maxL' ret' hh).before args s = true) : c.exceptionTable.toList = tableOf hh := by
  obtain ⟨m9, meth9, c9, hn9, h1, h2, -, -, h6, -⟩ := Cond.codeWith_spec h
  cases Option.some.inj (hn9.symm.trans B.named)
  cases Option.some.inj (h1.symm.trans B.method)
  cases Option.some.inj (h2.symm.trans (Stand.of_body B).code)
  rw [← h6, table_eq]
end Bodies
end VXA
section VXS
variable {p : Program} {l : Launch} {e : Env} {R : Room} {s : State} {m : MethodId} {args : Array Value} {below : List Frame} {meth : Method} {c : Code} {T : State} {H : Heap} {locs : List Loc} {cells slots : Nat}
abbrev vx_CSW (R : Room) (s : State) (args : Array Value) (own : String) (index : Nat) (y : MethodName) (bytes : ByteArray) (maxL : Nat) (ret : Option FieldType) (hh : List (Nat × Nat × Nat × Nat)) (ws : List Cond) (rm : Room) (mc ms n : Nat) : Prop :=
  (rm.cells = mc ∧ rm.slots = ms ∧ rm.frames + 1 ≤ R.frames ∧ 8 + (maxL + 11) + rm.locals ≤ R.locals ∧ (∀ w ∈ ws, ∀ (a' : Array Value) (U : State), s.WarmedH U.vm → w.before a' U = true) ∧ Cond.codeWith y bytes maxL ret hh ∈ ws) ∧
  (Cond.codeWith y bytes maxL ret hh).before args s = true ∧ (Cond.initialized y.cls).before args s = true ∧ (y.cls ≠ "java/lang/invoke/MethodHandle" ∧ y.cls ≠ "java/lang/invoke/VarHandle") ∧
  (∀ sig, parseMethodDescriptor y.desc = some sig → n = sig.parameters.length) ∧ (Cond.methodLink own index y).before args s = true ∧ (Cond.static y).before args s = true
theorem vx_cwSW {own : String} {index maxL mc ms : Nat} {y : MethodName} {bytes : ByteArray} {ret : Option FieldType} {hh : List (Nat × Nat × Nat × Nat)} {Ts ws ws' : List Cond} {rm : Room} (n : Nat) (ht : ∀ w ∈ Ts, w.before args s = true) (hT : GoodIn Ts (va_wsS own index y ws)) (hw : ws = Cond.codeWith y bytes maxL ret hh :: ws') (hrc : rm.cells = mc) (hrs : rm.slots = ms)
    (hd : y.cls ≠ "java/lang/invoke/MethodHandle" ∧ y.cls ≠ "java/lang/invoke/VarHandle" ∧ (parseMethodDescriptor y.desc).map (fun d => d.parameters.length) = some n) (hR : rm.frames + 1 ≤ R.frames ∧ 8 + (maxL + 11) + rm.locals ≤ R.locals) :
    vx_CSW R s args own index y bytes maxL ret hh ws rm mc ms n := by
  have ok : ∀ w ∈ va_wsS own index y ws, w.before args s = true := fun w h => ht w (hT w h).1
  have hG : GoodIn Ts ws := fun w h => hT w (by unfold va_wsS; exact List.mem_append_right _ h)
  have hc : Cond.codeWith y bytes maxL ret hh ∈ ws := by rw [hw]; exact List.mem_cons_self
  refine ⟨⟨hrc, hrs, hR.1, hR.2, pay_in ht hG, hc⟩, ht _ (hG _ hc).1, ok _ (by simp [va_wsS]), ⟨hd.1, hd.2.1⟩, fun sig h => ?_, ok _ (by simp [va_wsS]), ok _ (by simp [va_wsS])⟩
  have h2 := hd.2.2
  rw [h] at h2
  exact (Option.some.inj h2).symm
theorem vx_callSW (X : Stand p l e R s m args below meth c T locs cells slots) (hexec : p.tables.exec = Jvm.exec) {own : String} {index : Nat} {y : MethodName} {bytes : ByteArray} {maxL : Nat} {ret : Option FieldType} {hh : List (Nat × Nat × Nat × Nat)}
    (hown : s.vm.findClass own = some m.cls) (hlink : (Cond.methodLink own index y).before args s = true) (hstat : (Cond.static y).before args s = true) (hinit : (Cond.initialized y.cls).before args s = true)
    (hcode : (Cond.codeWith y bytes maxL ret hh).before args s = true) (hy : y.cls ≠ "java/lang/invoke/MethodHandle" ∧ y.cls ≠ "java/lang/invoke/VarHandle")
    {W9 : Nat} {Pre : Pt → Array Value → Prop} {Post : Pt → Array Value → Option Value → Pt → Prop} (hK : Back l R p e below s args y 3 W9 Pre Post)
    {g : JFrame} (hg : g.method = m) (hsize : g.locals.size = c.maxLocals) {argsL rest : List Value} (hlen : ∀ sig, parseMethodDescriptor y.desc = some sig → argsL.length = sig.parameters.length)
    (hstack : g.stack = argsL.reverse ++ rest) (hW : 2 * g.monitorRoom + (rest.map fun v => v.category).sum ≤ W9) (hdg : decode c.code g.pc = .ok (.invokestatic index, 3))
    (hpre : ∀ vm₁, s.WarmedH vm₁ → Pre ⟨T.setVm vm₁, locs, cells, slots⟩ argsL.toArray) :
    ∃ (v : Option Value) (vm₁ : Vm) (B : Pt), s.WarmedH vm₁ ∧ Stand p l e R s m args below meth c B.U B.locs B.cells B.slots ∧ Post ⟨T.setVm vm₁, locs, cells, slots⟩ argsL.toArray v B ∧
      ∀ target, Steps p.tables e below (B.U.setTop { g with pc := g.pc + 3, stack := v.toList ++ rest }) target → Steps p.tables e below (T.setTop g) target := by
  obtain ⟨mk, methM, cM, hnamed, hmethM, -, -, -, -, -, -, hsigM⟩ := Cond.codeWith_spec hcode
  have hstatic : methM.isStatic = true := Cond.static_spec hnamed hmethM hstat
  obtain ⟨kP, hkP, -⟩ := className_of_methodNamed hnamed
  have hinitP : kP.init = .initialized := Cond.initialized_spec (findClass_of_methodNamed hnamed) hkP hinit
  obtain ⟨vm₁, X₁, hstep₁⟩ := X.invokestatic hexec hown hlink hnamed hmethM hstatic hkP hinitP hy (g := g) hg (argsL := argsL) (rest := rest) (hlen _ hsigM) hstack hdg
  obtain ⟨v, B, X', hpost, hsteps⟩ := hK m meth c ⟨T.setVm vm₁, locs, cells, slots⟩ { g with stack := rest } (.invokestatic index) mk argsL.toArray X₁ hg hsize hdg hW (X₁.named hnamed) (hpre vm₁ X₁.warmed)
  exact ⟨v, vm₁, B, X₁.warmed, X', hpost, fun target h => hstep₁ _ fun acts => by rw [doInvoke_state]; exact hsteps.trans h⟩
theorem vx_runSW {y : MethodName} {bytes cc : ByteArray} {maxL nL mc ms n index : Nat} {ret : Option FieldType} {hh : List (Nat × Nat × Nat × Nat)} {ws : List Cond} {rm : Room} {Pc : Array Value → State → Prop} {Qc : Array Value → State → Outcome → State → Prop} {free : Addr → Prop} {Ts : List Cond} {own : String} {As rest : List Value} {g : JFrame}
    (S : CallFix p m c cc nL s args Ts own) (hM : Met l y ws rm Pc Qc mc ms free) (cw : vx_CSW R s args own index y bytes maxL ret hh ws rm mc ms n) (hp : PreS s H Pc As)
    (hg : g.method = m) (hn : As.length = n) (hsize : g.locals.size = nL) (hstack : g.stack = As.reverse ++ rest) (hW : 2 * g.monitorRoom + (rest.map fun v => v.category).sum ≤ 8) (hdg : decode cc g.pc = .ok (.invokestatic index, 3)) (hf : cells + mc ≤ R.cells ∧ slots + ms ≤ R.slots) :
    va_Run p l e R s m args below meth c H locs cells slots mc ms g rest (Qc As.toArray) (free) := by
  obtain ⟨⟨hrc, hrs, hfr, hlo, hws, hcw⟩, hcode, hini, hy, hlen, hl, hstt⟩ := cw
  have hK : Back l R p e below s args y 3 8 (PreOf R mc ms Pc) (PostOf Qc mc ms free) := va_backW (hh := hh) (bytes := bytes) (maxL := maxL) (ret := ret) hM hp.1 hrc hrs hfr hlo hws hcw (fun a' U hW => word_at hW (Or.inl (by first | rfl | simp [Cond.onTables, Cond.keeps, Cond.steady])) hini)
  obtain ⟨hx, hb, hml, ho, -⟩ := S
  intro T hT X
  obtain ⟨v, vm₁, ⟨U', l2, c2, s2⟩, hW₁, X', ⟨g', mk, t, L, e1, e2, hq, h1, hL, h2, h3⟩, st⟩ := vx_callSW X hx (hh := hh) (bytes := bytes) (maxL := maxL) (ret := ret) ho hl hstt hini hcode hy hK hg (hsize.trans hml.symm) (argsL := As) (rest := rest) (fun sig h => hn.trans (hlen sig h)) hstack hW (by rw [hb]; exact hdg)
    (fun vm₁ hW₁ => ⟨hf.1, hf.2, hp.2 (T.setVm vm₁) hT hW₁⟩)
  dsimp only [Pt.U, Pt.locs, Pt.cells, Pt.slots] at X' e1 e2 h1 h2 h3 st
  subst h1; subst h2; subst h3
  exact ⟨v, (T.setVm vm₁).calling g' mk As.toArray, t, U', L, hT, X', hL, e1, e2, hq, st⟩
theorem vx_lt {D : va_G} {cl : List vw_C} {ws : va_W} {H1 : Heap} (h : va_P D cl ws H1) {k : Nat} {q : Nat × va_E} (hk : ws[k]? = some q) : q.1 < H1.size := (h k q hk).lt
end VXS
section VXH
section
variable {l : Launch} {R : Room} {p : Program} {e : Env} {below : List Frame} {s : State} {sargs : Array Value} {y : MethodName} {len W9 : Nat}
theorem vx_backW {ws : List Cond} {rm : Room} {Pc : Array Value → State → Prop} {Qc : Array Value → State → Outcome → State → Prop} {XC : String → State → State → Prop} {mc ms : Nat} {free : Addr → Prop} {bytes : ByteArray} {maxL : Nat} {ret : Option FieldType} {hh : List (Nat × Nat × Nat × Nat)}
    (hM : vx_Met l y ws rm Pc Qc XC mc ms free) (hblind : FrameBlind Pc) (hrc : rm.cells = mc) (hrs : rm.slots = ms)
    (hframes : rm.frames + 1 ≤ R.frames) (hlocals : W9 + (maxL + 11) + rm.locals ≤ R.locals)
    (hws : ∀ w ∈ ws, ∀ a' U, s.WarmedH U.vm → w.before a' U = true) (hcode : Cond.codeWith y bytes maxL ret hh ∈ ws) (hinit : ∀ a' U, s.WarmedH U.vm → (Cond.initialized y.cls).before a' U = true) :
    vx_Back l R p e below s sargs y len W9 (PreOf R mc ms Pc) (PostOf Qc mc ms free) (vx_Post XC mc ms free) := by
  intro m meth c A g ig mk a X hg hsize hdg hW hn hp
  have h1 : (headSpec ws rm).pre.before a A.U = true := atoms_intro fun w hw => hws w hw _ _ X.warmed
  have h2 : (Cond.codeWith y bytes maxL ret hh).before a A.U = true := hws _ hcode _ _ X.warmed
  have h3 : (Cond.initialized y.cls).before a A.U = true := hinit _ _ X.warmed
  have h4 : A.cells + (headSpec ws rm).room.cells ≤ R.cells := by rw [show (headSpec ws rm).room.cells = mc from hrc]; exact hp.1
  have h5 : A.slots + (headSpec ws rm).room.slots ≤ R.slots := by rw [show (headSpec ws rm).room.slots = ms from hrs]; exact hp.2.1
  have hPc : Pc a (A.U.calling g mk a) := hblind _ _ _ _ hp.2.2
  obtain ⟨U, Ls, c0, s0⟩ := A
  dsimp only [Pt.U, Pt.locs, Pt.cells, Pt.slots] at h1 h2 h3 h4 h5 X hn hPc ⊢
  obtain ⟨m9, methY, cY, hn9, hmY, hcY, -, hlY, -⟩ := Cond.codeWith_spec h2
  cases Option.some.inj (hn9.symm.trans hn)
  obtain ⟨kY, hkY, -⟩ := className_of_methodNamed hn
  have hinitY : kY.init = .initialized := Cond.initialized_spec (findClass_of_methodNamed hn) hkY h3
  have h : At U g.method c below := by rw [hg]; exact X.here
  have hlocals9 : W9 + (maxL + 11) + (headSpec ws rm).room.locals ≤ R.locals := hlocals
  have happ : (headSpec ws rm).appliesLoose y e.platform (U.calling g mk a) = true :=
    Spec.appliesLoose_calling (g := g) h hdg hn hkY hinitY
      (X.room_calling (g := g) (R' := (headSpec ws rm).room) hsize hmY hcY hframes (by rw [hlY]; omega) h4 h5) h1
  obtain ⟨mid, hmid⟩ := h.above
  have hfr : (U.setTop g).frames = (.java g :: mid) ++ below := by rw [State.frames_setTop' g h.top, hmid]; rfl
  obtain ⟨o, s₂, hsteps, -, hend, hq⟩ := Steps.callFree hM p X.admits X.cas X.clock (acts := []) hfr happ hPc trivial
  have hq' : vx_Q Qc XC mc ms free a (U.calling g mk a) o s₂ := hq
  rw [State.frames_setTop' g h.top] at hend
  obtain ⟨g₀, hg0⟩ := Option.isSome_iff_exists.mp h.top
  obtain ⟨r, hr⟩ := State.topJava?_eq_some.mp hg0
  have hr' : (({ U with heap := s₂.heap, slotsUsed := s₂.slotsUsed } : State).setVm s₂.vm).frames = .java g₀ :: r := hr
  rcases hq' with ⟨hqc, L, hfe, hL⟩ | ⟨q, rfl, E, ce, L, hx, hce, hcv, hcl, hW₂, hsm, hL⟩
  · obtain ⟨⟨v, rfl⟩, hW₂, e2, q2, q3, q4, q5, q6⟩ := id hfe
    have e3 : s₂ = ({ (U.calling g mk a).setFrames s₂.frames with heap := s₂.heap, slotsUsed := s₂.slotsUsed } : State).setVm s₂.vm := by
      have : s₂ = ({ s₂ with vm := (U.calling g mk a).vm } : State).setVm s₂.vm := rfl
      rw [e2] at this
      exact this
    obtain ⟨c₂, i₂, len₂, hc₂, hd₂, hf₂⟩ := hend
    have hW' : U.WarmedH s₂.vm := hW₂
    have hcc : c₂ = c := by
      have h1 : s₂.code? g.method = U.code? g.method := by
        rw [State.code?_eq, State.code?_eq, hW'.alike.method?]
      exact Option.some.inj (hc₂.symm.trans (h1.trans h.code))
    subst hcc
    have hlen : len₂ = len := by rw [hdg] at hd₂; cases hd₂; rfl
    subst hlen
    have hs₂ : s₂ = (({ U with heap := s₂.heap, slotsUsed := s₂.slotsUsed } : State).setVm s₂.vm).setTop { g with pc := g.pc + len₂, stack := v.toList ++ g.stack } := by
      refine e3.trans ?_
      rw [hf₂, State.calling_eq h.top, State.setFrames_setFrames, State.setTop_of_frames _ hr', hr]
      rfl
    have hsame : U.sameButNew ({ U with heap := s₂.heap, slotsUsed := s₂.slotsUsed } : State) L mc ms := by
      refine ⟨?_, q2, q3, q4, q5, q6⟩
      obtain ⟨t, ht, -⟩ := State.frames_cons hr
      show ({ U with heap := s₂.heap, slotsUsed := s₂.slotsUsed } : State) = { U.setFrames U.frames with heap := s₂.heap, slotsUsed := s₂.slotsUsed }
      rw [State.setFrames_self ht]
    subst hg
    refine Or.inl ⟨v, ⟨(({ U with heap := s₂.heap, slotsUsed := s₂.slotsUsed } : State).setVm s₂.vm), Ls ++ L, c0 + mc, s0 + ms⟩,
      ⟨X.admits, X.cas, X.clock, X.frames, X.room, X.hears, X.method, X.code, (X.here.setHeapUsed s₂.heap s₂.slotsUsed).setVm hW'.alike, X.tail, State.WarmedH.trans X.warmed hW', X.limits, X.bytes, X.same.trans (hsame.setVm s.vm)⟩,
      ⟨g, mk, s₂, L, rfl, rfl, hqc, rfl, hL, rfl, rfl⟩, ?_⟩
    show Steps p.tables e below _ ((({ U with heap := s₂.heap, slotsUsed := s₂.slotsUsed } : State).setVm s₂.vm).setTop { g with pc := g.pc + len₂, stack := v.toList ++ g.stack })
    rw [← hs₂]
    exact hsteps
  · obtain ⟨e2, q2, q3, q4, q5, q6⟩ := id hsm
    have e3 : s₂ = ({ (U.calling g mk a).setFrames s₂.frames with heap := s₂.heap, slotsUsed := s₂.slotsUsed } : State).setVm s₂.vm := by
      have : s₂ = ({ s₂ with vm := (U.calling g mk a).vm } : State).setVm s₂.vm := rfl
      rw [e2] at this
      exact this
    have hf₂ : s₂.frames = .throwing q :: .java g :: U.frames.tail := hend
    have hW' : U.WarmedH s₂.vm := hW₂
    have hs₂ : s₂ = ((({ U with heap := s₂.heap, slotsUsed := s₂.slotsUsed } : State).setVm s₂.vm).setTop g).pushFrame (.throwing q) := by
      refine e3.trans ?_
      rw [hf₂, State.calling_eq h.top, State.setFrames_setFrames, State.pushFrame, State.frames_setTop _ hr', State.setTop_of_frames _ hr', State.setFrames_setFrames, hr]
      rfl
    have hsame : U.sameButNew ({ U with heap := s₂.heap, slotsUsed := s₂.slotsUsed } : State) L mc ms := by
      refine ⟨?_, q2, q3, q4, q5, q6⟩
      obtain ⟨t, ht, -⟩ := State.frames_cons hr
      show ({ U with heap := s₂.heap, slotsUsed := s₂.slotsUsed } : State) = { U.setFrames U.frames with heap := s₂.heap, slotsUsed := s₂.slotsUsed }
      rw [State.setFrames_self ht]
    subst hg
    refine Or.inr ⟨q, ⟨(({ U with heap := s₂.heap, slotsUsed := s₂.slotsUsed } : State).setVm s₂.vm), Ls ++ L, c0 + mc, s0 + ms⟩,
      ⟨X.admits, X.cas, X.clock, X.frames, X.room, X.hears, X.method, X.code, (X.here.setHeapUsed s₂.heap s₂.slotsUsed).setVm hW'.alike, X.tail, State.WarmedH.trans X.warmed hW', X.limits, X.bytes, X.same.trans (hsame.setVm s.vm)⟩,
      ⟨g, mk, s₂, L, E, ce, rfl, rfl, hx, hce, hcv, hcl, rfl, hL, rfl, rfl⟩, ?_⟩
    show Steps p.tables e below _ (((({ U with heap := s₂.heap, slotsUsed := s₂.slotsUsed } : State).setVm s₂.vm).setTop g).pushFrame (.throwing q))
    rw [← hs₂]
    exact hsteps
end
variable {p : Program} {l : Launch} {e : Env} {R : Room} {s : State} {m : MethodId} {args : Array Value} {below : List Frame} {meth : Method} {c : Code} {T : State} {H : Heap} {locs : List Loc} {cells slots : Nat}
theorem vx_callVX (X : Stand p l e R s m args below meth c T locs cells slots) (hexec : p.tables.exec = Jvm.exec) {own C : String} {index : Nat} {y : MethodName} {bytes : ByteArray} {maxL : Nat} {ret : Option FieldType} {hh : List (Nat × Nat × Nat × Nat)}
    (hown : s.vm.findClass own = some m.cls) (hlink : (Cond.methodLink own index y).before args s = true) (hinst : (Cond.instanceMethod y).before args s = true) (hsel : (Cond.selects C y y).before args s = true)
    (hcode : (Cond.codeWith y bytes maxL ret hh).before args s = true) (hy : y.cls ≠ "java/lang/invoke/MethodHandle" ∧ y.cls ≠ "java/lang/invoke/VarHandle")
    {W9 : Nat} {Pre : Pt → Array Value → Prop} {Post : Pt → Array Value → Option Value → Pt → Prop} {PostX : Pt → Array Value → Addr → Pt → Prop} (hK : vx_Back l R p e below s args y 3 W9 Pre Post PostX)
    {b : Addr} {cellB : Cell} (hcell : T.heap[b]? = some cellB) (hobj : cellB.vm.isStatics = false) (hcls : s.vm.findClass C = some cellB.cls)
    {g : JFrame} (hg : g.method = m) (hsize : g.locals.size = c.maxLocals) {argsL rest : List Value} (hlen : ∀ sig, parseMethodDescriptor y.desc = some sig → argsL.length = sig.parameters.length)
    (hstack : g.stack = argsL.reverse ++ .ref b :: rest) (hW : 2 * g.monitorRoom + (rest.map fun v => v.category).sum ≤ W9) (hdg : decode c.code g.pc = .ok (.invokevirtual index, 3))
    (hpre : ∀ vm₁, s.WarmedH vm₁ → Pre ⟨T.setVm vm₁, locs, cells, slots⟩ (Value.ref b :: argsL).toArray) :
    (∃ (v : Option Value) (vm₁ : Vm) (B : Pt), s.WarmedH vm₁ ∧ Stand p l e R s m args below meth c B.U B.locs B.cells B.slots ∧ Post ⟨T.setVm vm₁, locs, cells, slots⟩ (Value.ref b :: argsL).toArray v B ∧
      ∀ target, Steps p.tables e below (B.U.setTop { g with pc := g.pc + 3, stack := v.toList ++ rest }) target → Steps p.tables e below (T.setTop g) target) ∨
    (∃ (q : Addr) (vm₁ : Vm) (B : Pt), s.WarmedH vm₁ ∧ Stand p l e R s m args below meth c B.U B.locs B.cells B.slots ∧ PostX ⟨T.setVm vm₁, locs, cells, slots⟩ (Value.ref b :: argsL).toArray q B ∧
      Steps p.tables e below (T.setTop g) ((B.U.setTop { g with stack := rest }).pushFrame (.throwing q))) := by
  obtain ⟨mk, methM, hnamed, hmethM, hstM, habM⟩ := Cond.instanceMethod_spec hinst
  obtain ⟨m8, methM', cM, hn8, hmethM', -, -, -, -, -, -, hsigM⟩ := Cond.codeWith_spec hcode
  cases Option.some.inj (hn8.symm.trans hnamed)
  cases hmethM.symm.trans hmethM'
  obtain ⟨c2, r2, m2, q1, q2, q3, q4, kP, hkP, hkPi⟩ := Cond.selects_spec hsel
  cases hcls.symm.trans q1
  cases (State.methodFound?_of_named hnamed hy).symm.trans q2
  cases hnamed.symm.trans q3
  have hselP : selectMethod e.platform s.vm cellB.cls mk = .method mk := by rw [Launch.admits_selectMethod X.admits]; exact q4
  obtain ⟨vm₁, X₁, hstep₁⟩ := X.invokevirtual hexec hown hlink hnamed hmethM hstM hkP hkPi hy (a := b) (cell := cellB) hcell
    (fun z h => by rw [h] at hobj; cases hobj) hselP hmethM habM hkP hkPi (g := g) hg (argsL := argsL) (rest := rest) (hlen _ hsigM) hstack hdg
  rcases hK m meth c ⟨T.setVm vm₁, locs, cells, slots⟩ { g with stack := rest } (.invokevirtual index) mk (Value.ref b :: argsL).toArray X₁ hg hsize hdg hW (X₁.named hnamed) (hpre vm₁ X₁.warmed) with ⟨v, B, X', hpost, hsteps⟩ | ⟨q, B, X', hpost, hsteps⟩
  · exact Or.inl ⟨v, vm₁, B, X₁.warmed, X', hpost, fun target h => hstep₁ _ fun acts => by rw [doInvoke_state]; exact hsteps.trans h⟩
  · exact Or.inr ⟨q, vm₁, B, X₁.warmed, X', hpost, hstep₁ _ fun acts => by rw [doInvoke_state]; exact hsteps⟩
theorem vx_callSX (X : Stand p l e R s m args below meth c T locs cells slots) (hexec : p.tables.exec = Jvm.exec) {own : String} {index : Nat} {y : MethodName} {bytes : ByteArray} {maxL : Nat} {ret : Option FieldType} {hh : List (Nat × Nat × Nat × Nat)}
    (hown : s.vm.findClass own = some m.cls) (hlink : (Cond.methodLink own index y).before args s = true) (hstat : (Cond.static y).before args s = true) (hinit : (Cond.initialized y.cls).before args s = true)
    (hcode : (Cond.codeWith y bytes maxL ret hh).before args s = true) (hy : y.cls ≠ "java/lang/invoke/MethodHandle" ∧ y.cls ≠ "java/lang/invoke/VarHandle")
    {W9 : Nat} {Pre : Pt → Array Value → Prop} {Post : Pt → Array Value → Option Value → Pt → Prop} {PostX : Pt → Array Value → Addr → Pt → Prop} (hK : vx_Back l R p e below s args y 3 W9 Pre Post PostX)
    {g : JFrame} (hg : g.method = m) (hsize : g.locals.size = c.maxLocals) {argsL rest : List Value} (hlen : ∀ sig, parseMethodDescriptor y.desc = some sig → argsL.length = sig.parameters.length)
    (hstack : g.stack = argsL.reverse ++ rest) (hW : 2 * g.monitorRoom + (rest.map fun v => v.category).sum ≤ W9) (hdg : decode c.code g.pc = .ok (.invokestatic index, 3))
    (hpre : ∀ vm₁, s.WarmedH vm₁ → Pre ⟨T.setVm vm₁, locs, cells, slots⟩ argsL.toArray) :
    (∃ (v : Option Value) (vm₁ : Vm) (B : Pt), s.WarmedH vm₁ ∧ Stand p l e R s m args below meth c B.U B.locs B.cells B.slots ∧ Post ⟨T.setVm vm₁, locs, cells, slots⟩ argsL.toArray v B ∧
      ∀ target, Steps p.tables e below (B.U.setTop { g with pc := g.pc + 3, stack := v.toList ++ rest }) target → Steps p.tables e below (T.setTop g) target) ∨
    (∃ (q : Addr) (vm₁ : Vm) (B : Pt), s.WarmedH vm₁ ∧ Stand p l e R s m args below meth c B.U B.locs B.cells B.slots ∧ PostX ⟨T.setVm vm₁, locs, cells, slots⟩ argsL.toArray q B ∧
      Steps p.tables e below (T.setTop g) ((B.U.setTop { g with stack := rest }).pushFrame (.throwing q))) := by
  obtain ⟨mk, methM, cM, hnamed, hmethM, -, -, -, -, -, -, hsigM⟩ := Cond.codeWith_spec hcode
  have hstatic : methM.isStatic = true := Cond.static_spec hnamed hmethM hstat
  obtain ⟨kP, hkP, -⟩ := className_of_methodNamed hnamed
  have hinitP : kP.init = .initialized := Cond.initialized_spec (findClass_of_methodNamed hnamed) hkP hinit
  obtain ⟨vm₁, X₁, hstep₁⟩ := X.invokestatic hexec hown hlink hnamed hmethM hstatic hkP hinitP hy (g := g) hg (argsL := argsL) (rest := rest) (hlen _ hsigM) hstack hdg
  rcases hK m meth c ⟨T.setVm vm₁, locs, cells, slots⟩ { g with stack := rest } (.invokestatic index) mk argsL.toArray X₁ hg hsize hdg hW (X₁.named hnamed) (hpre vm₁ X₁.warmed) with ⟨v, B, X', hpost, hsteps⟩ | ⟨q, B, X', hpost, hsteps⟩
  · exact Or.inl ⟨v, vm₁, B, X₁.warmed, X', hpost, fun target h => hstep₁ _ fun acts => by rw [doInvoke_state]; exact hsteps.trans h⟩
  · exact Or.inr ⟨q, vm₁, B, X₁.warmed, X', hpost, hstep₁ _ fun acts => by rw [doInvoke_state]; exact hsteps⟩
theorem vx_callVW (X : Stand p l e R s m args below meth c T locs cells slots) (hexec : p.tables.exec = Jvm.exec) {own C : String} {index : Nat} {y : MethodName} {bytes : ByteArray} {maxL : Nat} {ret : Option FieldType} {hh : List (Nat × Nat × Nat × Nat)}
    (hown : s.vm.findClass own = some m.cls) (hlink : (Cond.methodLink own index y).before args s = true) (hinst : (Cond.instanceMethod y).before args s = true) (hsel : (Cond.selects C y y).before args s = true)
    (hcode : (Cond.codeWith y bytes maxL ret hh).before args s = true) (hy : y.cls ≠ "java/lang/invoke/MethodHandle" ∧ y.cls ≠ "java/lang/invoke/VarHandle")
    {W9 : Nat} {Pre : Pt → Array Value → Prop} {Post : Pt → Array Value → Option Value → Pt → Prop} (hK : Back l R p e below s args y 3 W9 Pre Post)
    {b : Addr} {cellB : Cell} (hcell : T.heap[b]? = some cellB) (hobj : cellB.vm.isStatics = false) (hcls : s.vm.findClass C = some cellB.cls)
    {g : JFrame} (hg : g.method = m) (hsize : g.locals.size = c.maxLocals) {argsL rest : List Value} (hlen : ∀ sig, parseMethodDescriptor y.desc = some sig → argsL.length = sig.parameters.length)
    (hstack : g.stack = argsL.reverse ++ .ref b :: rest) (hW : 2 * g.monitorRoom + (rest.map fun v => v.category).sum ≤ W9) (hdg : decode c.code g.pc = .ok (.invokevirtual index, 3))
    (hpre : ∀ vm₁, s.WarmedH vm₁ → Pre ⟨T.setVm vm₁, locs, cells, slots⟩ (Value.ref b :: argsL).toArray) :
    ∃ (v : Option Value) (vm₁ : Vm) (B : Pt), s.WarmedH vm₁ ∧ Stand p l e R s m args below meth c B.U B.locs B.cells B.slots ∧ Post ⟨T.setVm vm₁, locs, cells, slots⟩ (Value.ref b :: argsL).toArray v B ∧
      ∀ target, Steps p.tables e below (B.U.setTop { g with pc := g.pc + 3, stack := v.toList ++ rest }) target → Steps p.tables e below (T.setTop g) target := by
  obtain ⟨mk, methM, hnamed, hmethM, hstM, habM⟩ := Cond.instanceMethod_spec hinst
  obtain ⟨m8, methM', cM, hn8, hmethM', -, -, -, -, -, -, hsigM⟩ := Cond.codeWith_spec hcode
  cases Option.some.inj (hn8.symm.trans hnamed)
  cases hmethM.symm.trans hmethM'
  obtain ⟨c2, r2, m2, q1, q2, q3, q4, kP, hkP, hkPi⟩ := Cond.selects_spec hsel
  cases hcls.symm.trans q1
  cases (State.methodFound?_of_named hnamed hy).symm.trans q2
  cases hnamed.symm.trans q3
  have hselP : selectMethod e.platform s.vm cellB.cls mk = .method mk := by rw [Launch.admits_selectMethod X.admits]; exact q4
  obtain ⟨vm₁, X₁, hstep₁⟩ := X.invokevirtual hexec hown hlink hnamed hmethM hstM hkP hkPi hy (a := b) (cell := cellB) hcell
    (fun z h => by rw [h] at hobj; cases hobj) hselP hmethM habM hkP hkPi (g := g) hg (argsL := argsL) (rest := rest) (hlen _ hsigM) hstack hdg
  obtain ⟨v, B, X', hpost, hsteps⟩ := hK m meth c ⟨T.setVm vm₁, locs, cells, slots⟩ { g with stack := rest } (.invokevirtual index) mk (Value.ref b :: argsL).toArray X₁ hg hsize hdg hW (X₁.named hnamed) (hpre vm₁ X₁.warmed)
  exact ⟨v, vm₁, B, X₁.warmed, X', hpost, fun target h => hstep₁ _ fun acts => by rw [doInvoke_state]; exact hsteps.trans h⟩
abbrev vx_CVW (R : Room) (s : State) (args : Array Value) (own C : String) (index : Nat) (y : MethodName) (bytes : ByteArray) (maxL : Nat) (ret : Option FieldType) (hh : List (Nat × Nat × Nat × Nat)) (ws : List Cond) (rm : Room) (mc ms n : Nat) : Prop :=
  (rm.cells = mc ∧ rm.slots = ms ∧ rm.frames + 1 ≤ R.frames ∧ 8 + (maxL + 11) + rm.locals ≤ R.locals ∧ (∀ w ∈ ws, ∀ (a' : Array Value) (U : State), s.WarmedH U.vm → w.before a' U = true) ∧ Cond.codeWith y bytes maxL ret hh ∈ ws) ∧
  (Cond.codeWith y bytes maxL ret hh).before args s = true ∧ (Cond.initialized y.cls).before args s = true ∧ (y.cls ≠ "java/lang/invoke/MethodHandle" ∧ y.cls ≠ "java/lang/invoke/VarHandle") ∧
  (∀ sig, parseMethodDescriptor y.desc = some sig → n = sig.parameters.length) ∧ (Cond.methodLink own index y).before args s = true ∧ (Cond.instanceMethod y).before args s = true ∧ (Cond.selects C y y).before args s = true
theorem vx_cwVW {own C : String} {index maxL mc ms : Nat} {y : MethodName} {bytes : ByteArray} {ret : Option FieldType} {hh : List (Nat × Nat × Nat × Nat)} {Ts ws ws' : List Cond} {rm : Room} (n : Nat) (ht : ∀ w ∈ Ts, w.before args s = true) (hT : GoodIn Ts (wsV own index C y ws)) (hw : ws = Cond.codeWith y bytes maxL ret hh :: ws') (hrc : rm.cells = mc) (hrs : rm.slots = ms)
    (hd : y.cls = C ∧ y.cls ≠ "java/lang/invoke/MethodHandle" ∧ y.cls ≠ "java/lang/invoke/VarHandle" ∧ (parseMethodDescriptor y.desc).map (fun d => d.parameters.length) = some n) (hR : rm.frames + 1 ≤ R.frames ∧ 8 + (maxL + 11) + rm.locals ≤ R.locals) :
    vx_CVW R s args own C index y bytes maxL ret hh ws rm mc ms n := by
  obtain ⟨hC, hd⟩ := hd
  subst hC
  have ok : ∀ w ∈ wsV own index y.cls y ws, w.before args s = true := fun w h => ht w (hT w h).1
  have hG : GoodIn Ts ws := fun w h => hT w (by unfold wsV; exact List.mem_append_right _ h)
  have hc : Cond.codeWith y bytes maxL ret hh ∈ ws := by rw [hw]; exact List.mem_cons_self
  refine ⟨⟨hrc, hrs, hR.1, hR.2, pay_in ht hG, hc⟩, ht _ (hG _ hc).1, ok _ (by simp [wsV]), ⟨hd.1, hd.2.1⟩, fun sig h => ?_, ok _ (by simp [wsV]), ok _ (by simp [wsV]), ok _ (by simp [wsV])⟩
  have h2 := hd.2.2
  rw [h] at h2
  exact (Option.some.inj h2).symm
theorem vx_runVW {y : MethodName} {bytes cc : ByteArray} {maxL nL mc ms n index : Nat} {ret : Option FieldType} {hh : List (Nat × Nat × Nat × Nat)} {ws : List Cond} {rm : Room} {Pc : Array Value → State → Prop} {Qc : Array Value → State → Outcome → State → Prop} {free : Addr → Prop} {Ts : List Cond} {own C : String} {b : Addr} {As rest : List Value} {g : JFrame}
    (S : CallFix p m c cc nL s args Ts own) (hM : Met l y ws rm Pc Qc mc ms free) (cw : vx_CVW R s args own C index y bytes maxL ret hh ws rm mc ms n) (hp : PreV s H C b Pc As)
    (hg : g.method = m) (hn : As.length = n) (hsize : g.locals.size = nL) (hstack : g.stack = As.reverse ++ .ref b :: rest) (hW : 2 * g.monitorRoom + (rest.map fun v => v.category).sum ≤ 8) (hdg : decode cc g.pc = .ok (.invokevirtual index, 3)) (hf : cells + mc ≤ R.cells ∧ slots + ms ≤ R.slots) :
    va_Run p l e R s m args below meth c H locs cells slots mc ms g rest (Qc (Value.ref b :: As).toArray) free := by
  obtain ⟨⟨hrc, hrs, hfr, hlo, hws, hcw⟩, hcode, hini, hy, hlen, hl, hin, hse⟩ := cw
  have hK : Back l R p e below s args y 3 8 (PreOf R mc ms Pc) (PostOf Qc mc ms free) := va_backW (hh := hh) (bytes := bytes) (maxL := maxL) (ret := ret) hM hp.1 hrc hrs hfr hlo hws hcw (fun a' U hW => word_at hW (Or.inl (by first | rfl | simp [Cond.onTables, Cond.keeps, Cond.steady])) hini)
  obtain ⟨hx, hb, hml, ho, -⟩ := S
  obtain ⟨-, ⟨cellB, hcB, hoB, hclB⟩, hPc⟩ := hp
  intro T hT X
  obtain ⟨v, vm₁, ⟨U', l2, c2, s2⟩, hW₁, X', ⟨g', mk, t, L, e1, e2, hq, h1, hL, h2, h3⟩, st⟩ := vx_callVW X hx (C := C) (hh := hh) (bytes := bytes) (maxL := maxL) (ret := ret) ho hl hin hse hcode hy hK (by rw [hT]; exact hcB) hoB hclB hg (hsize.trans hml.symm) (argsL := As) (rest := rest) (fun sig h => hn.trans (hlen sig h)) hstack hW (by rw [hb]; exact hdg)
    (fun vm₁ hW₁ => ⟨hf.1, hf.2, hPc (T.setVm vm₁) hT hW₁⟩)
  dsimp only [Pt.U, Pt.locs, Pt.cells, Pt.slots] at X' e1 e2 h1 h2 h3 st
  subst h1; subst h2; subst h3
  exact ⟨v, (T.setVm vm₁).calling g' mk (Value.ref b :: As).toArray, t, U', L, hT, X', hL, e1, e2, hq, st⟩
section
variable {y : MethodName} {bytes cc : ByteArray} {maxL nL mc ms n index : Nat} {ret : Option FieldType} {ws : List Cond} {rm : Room} {Pc : Array Value → State → Prop} {Qc : Array Value → State → Outcome → State → Prop} {XC : String → State → State → Prop} {free : Addr → Prop} {Ts : List Cond} {own C : String} {b : Addr} {As rest : List Value} {g : JFrame}
theorem vx_runVX {hh : List (Nat × Nat × Nat × Nat)} (S : CallFix p m c cc nL s args Ts own) (hM : vx_Met l y ws rm Pc Qc XC mc ms free) (cw : vx_CVW R s args own C index y bytes maxL ret hh ws rm mc ms n) (hp : PreV s H C b Pc As)
    (hg : g.method = m) (hn : As.length = n) (hsize : g.locals.size = nL) (hstack : g.stack = As.reverse ++ .ref b :: rest) (hW : 2 * g.monitorRoom + (rest.map fun v => v.category).sum ≤ 8) (hdg : decode cc g.pc = .ok (.invokevirtual index, 3)) (hf : cells + mc ≤ R.cells ∧ slots + ms ≤ R.slots) :
    vx_Run p l e R s m args below meth c H locs cells slots mc ms g rest (Qc (Value.ref b :: As).toArray) XC free := by
  obtain ⟨⟨hrc, hrs, hfr, hlo, hws, hcw⟩, hcode, hini, hy, hlen, hl, hin, hse⟩ := cw
  have hK : vx_Back l R p e below s args y 3 8 (PreOf R mc ms Pc) (PostOf Qc mc ms free) (vx_Post XC mc ms free) := vx_backW (hh := hh) (bytes := bytes) (maxL := maxL) (ret := ret) hM hp.1 hrc hrs hfr hlo hws hcw (fun a' U hW => word_at hW (Or.inl (by first | rfl | simp [Cond.onTables, Cond.keeps, Cond.steady])) hini)
  obtain ⟨hx, hb, hml, ho, -⟩ := S
  obtain ⟨-, ⟨cellB, hcB, hoB, hclB⟩, hPc⟩ := hp
  intro T hT X
  rcases vx_callVX X hx (C := C) (hh := hh) (bytes := bytes) (maxL := maxL) (ret := ret) ho hl hin hse hcode hy hK (by rw [hT]; exact hcB) hoB hclB hg (hsize.trans hml.symm) (argsL := As) (rest := rest) (fun sig h => hn.trans (hlen sig h)) hstack hW (by rw [hb]; exact hdg)
    (fun vm₁ hW₁ => ⟨hf.1, hf.2, hPc (T.setVm vm₁) hT hW₁⟩) with ⟨v, vm₁, ⟨U', l2, c2, s2⟩, hW₁, X', ⟨g', mk, t, L, e1, e2, hq, h1, hL, h2, h3⟩, st⟩ | ⟨q, vm₁, ⟨U', l2, c2, s2⟩, hW₁, X', ⟨g', mk, t, L, E, ce, e1, e2, hq, hce, hcv, hcl, h1, hL, h2, h3⟩, st⟩
  · dsimp only [Pt.U, Pt.locs, Pt.cells, Pt.slots] at X' e1 e2 h1 h2 h3 st
    subst h1; subst h2; subst h3
    exact Or.inl ⟨v, (T.setVm vm₁).calling g' mk (Value.ref b :: As).toArray, t, U', L, hT, X', hL, e1, e2, hq, st⟩
  · dsimp only [Pt.U, Pt.locs, Pt.cells, Pt.slots] at X' e1 e2 h1 h2 h3 st hcl
    subst h1; subst h2; subst h3
    exact Or.inr ⟨q, (T.setVm vm₁).calling g' mk (Value.ref b :: As).toArray, t, U', L, E, ce, hT, X', hL, e1, e2, hq, hce, hcv, vx_cls hW₁ hcl, st⟩
theorem vx_runSX {hh : List (Nat × Nat × Nat × Nat)} (S : CallFix p m c cc nL s args Ts own) (hM : vx_Met l y ws rm Pc Qc XC mc ms free) (cw : vx_CSW R s args own index y bytes maxL ret hh ws rm mc ms n) (hp : PreS s H Pc As)
    (hg : g.method = m) (hn : As.length = n) (hsize : g.locals.size = nL) (hstack : g.stack = As.reverse ++ rest) (hW : 2 * g.monitorRoom + (rest.map fun v => v.category).sum ≤ 8) (hdg : decode cc g.pc = .ok (.invokestatic index, 3)) (hf : cells + mc ≤ R.cells ∧ slots + ms ≤ R.slots) :
    vx_Run p l e R s m args below meth c H locs cells slots mc ms g rest (Qc As.toArray) XC free := by
  obtain ⟨⟨hrc, hrs, hfr, hlo, hws, hcw⟩, hcode, hini, hy, hlen, hl, hstt⟩ := cw
  have hK : vx_Back l R p e below s args y 3 8 (PreOf R mc ms Pc) (PostOf Qc mc ms free) (vx_Post XC mc ms free) := vx_backW (hh := hh) (bytes := bytes) (maxL := maxL) (ret := ret) hM hp.1 hrc hrs hfr hlo hws hcw (fun a' U hW => word_at hW (Or.inl (by first | rfl | simp [Cond.onTables, Cond.keeps, Cond.steady])) hini)
  obtain ⟨hx, hb, hml, ho, -⟩ := S
  intro T hT X
  rcases vx_callSX X hx (hh := hh) (bytes := bytes) (maxL := maxL) (ret := ret) ho hl hstt hini hcode hy hK hg (hsize.trans hml.symm) (argsL := As) (rest := rest) (fun sig h => hn.trans (hlen sig h)) hstack hW (by rw [hb]; exact hdg)
    (fun vm₁ hW₁ => ⟨hf.1, hf.2, hp.2 (T.setVm vm₁) hT hW₁⟩) with ⟨v, vm₁, ⟨U', l2, c2, s2⟩, hW₁, X', ⟨g', mk, t, L, e1, e2, hq, h1, hL, h2, h3⟩, st⟩ | ⟨q, vm₁, ⟨U', l2, c2, s2⟩, hW₁, X', ⟨g', mk, t, L, E, ce, e1, e2, hq, hce, hcv, hcl, h1, hL, h2, h3⟩, st⟩
  · dsimp only [Pt.U, Pt.locs, Pt.cells, Pt.slots] at X' e1 e2 h1 h2 h3 st
    subst h1; subst h2; subst h3
    exact Or.inl ⟨v, (T.setVm vm₁).calling g' mk As.toArray, t, U', L, hT, X', hL, e1, e2, hq, st⟩
  · dsimp only [Pt.U, Pt.locs, Pt.cells, Pt.slots] at X' e1 e2 h1 h2 h3 st hcl
    subst h1; subst h2; subst h3
    exact Or.inr ⟨q, (T.setVm vm₁).calling g' mk As.toArray, t, U', L, E, ce, hT, X', hL, e1, e2, hq, hce, hcv, vx_cls hW₁ hcl, st⟩
end
end VXH
theorem vx_ofWH {l : Launch} {y : MethodName} {ws ws' : List Cond} {rm : Room} {Pc : Array Value → State → Prop} {Qc : Array Value → State → Outcome → State → Prop} {XC : String → State → State → Prop} {mc ms : Nat} {free : Addr → Prop} {cc : ByteArray} {maxL : Nat} {ret : Option FieldType} {hh : List (Nat × Nat × Nat × Nat)}
    (hy : plainName y.cls = true) (hw : ws = Cond.codeWith y cc maxL ret hh :: ws')
    (body : ∀ p e s m args below meth c s₁, BodyLoose p l y (headSpec ws rm) cc maxL ret e s m args below meth c s₁ → c.maxLocals = maxL → Pc args s →
      W p l e (headSpec ws rm).room s m args below meth c s.heap [] 0 0 (vx_MQ below Qc XC args s mc ms free) (entryFrame m args maxL)) : vx_Met l y ws rm Pc Qc XC mc ms free := by
  refine MetFree.of_bodyS (code := cc) (maxLocals := maxL) (ret := ret) hy ?_ ?_
  · intro args s m h hn
    obtain ⟨m9, meth, c, hn9, h1, h2, h3, h4, -, h5, h6, -⟩ := Cond.codeWith_spec (atoms_spec (ws := ws) h _ (by rw [hw]; exact List.mem_cons_self))
    cases hn.symm.trans hn9
    exact ⟨meth, c, h1, h2, h3, h4, h5, h6⟩
  · intro p e s m args below meth c s₁ B hml hP _
    have hh0 : s₁.heap = s.heap := by rw [B.state]; rfl
    obtain ⟨t, a1, o, b1, b2, b3⟩ := body p e s m args below meth c s₁ B hml hP s₁ hh0 (Stand.of_body B)
    exact ⟨t, o, a1, b1, b2, b3⟩
end
section
def RX0 : String := "NailGold$Book"
def TX0 : u_T := fun k => match k with
  | 0 => ("NailGold$Book", "stepDays", "[I", true)
  | 1 => ("NailGold$Book", "stepCost", "[I", true)
  | 2 => ("NailGold$Book", "stepShows", "[I", true)
  | 3 => ("NailGold$Book", "testCost", "[I", true)
  | 4 => ("NailGold$Book", "testStops", "[I", true)
  | 5 => ("NailGold$Book", "steps", "I", false)
  | 6 => ("NailGold$Book", "tests", "I", false)
  | 7 => ("NailGold$Book", "bar", "I", false)
  | 8 => ("NailGold$Book", "luck", "I", false)
  | 9 => ("NailGold$Book", "proofGain", "I", false)
  | 10 => ("NailGold$Book", "texts", "I", false)
  | _ => ("NailGold$Book", "law", "LNailGold$Law;", false)
def tyX0 : Nat → FieldType := fun k => match k with
  | 0 => .array .int
  | 1 => .array .int
  | 2 => .array .int
  | 3 => .array .int
  | 4 => .array .int
  | 5 => .int
  | 6 => .int
  | 7 => .int
  | 8 => .int
  | 9 => .int
  | 10 => .int
  | _ => .object "NailGold$Law"
abbrev wsX00 : List Cond := u_ws RX0 TX0 12
theorem nmX0 : ∀ a, a < 12 → ∀ b, b < 12 → a ≠ b → (TX0 a).2.1 ≠ (TX0 b).2.1 := by decide +kernel
theorem tyX0_ok : ∀ k, k < 12 → parseFieldDescriptor (TX0 k).2.2.1 = some (tyX0 k) := by decide +kernel
abbrev cX0_init : ByteArray := prog_2_method_1_code
def yX0_init : MethodName := ⟨RX0, "<init>", "()V"⟩
abbrev cX0_copyFrom : ByteArray := prog_2_method_2_code
def yX0_copyFrom : MethodName := ⟨RX0, "copyFrom", "(LNailGold$Book;)V"⟩
abbrev cX0_addStep : ByteArray := prog_2_method_3_code
def yX0_addStep : MethodName := ⟨RX0, "addStep", "(III)V"⟩
abbrev cX0_addTest : ByteArray := prog_2_method_4_code
def yX0_addTest : MethodName := ⟨RX0, "addTest", "(II)V"⟩
abbrev cX0_catches : ByteArray := prog_2_method_5_code
def yX0_catches : MethodName := ⟨RX0, "catches", "(II)Z"⟩
abbrev cX0_stopsAll : ByteArray := prog_2_method_6_code
def yX0_stopsAll : MethodName := ⟨RX0, "stopsAll", "(II)Z"⟩
abbrev cX0_costOfTests : ByteArray := prog_2_method_7_code
def yX0_costOfTests : MethodName := ⟨RX0, "costOfTests", "(I)I"⟩
abbrev cX0_outlayOf : ByteArray := prog_2_method_8_code
def yX0_outlayOf : MethodName := ⟨RX0, "outlayOf", "(LNailGold$Man;)I"⟩
abbrev cX0_daysLeftOf : ByteArray := prog_2_method_9_code
def yX0_daysLeftOf : MethodName := ⟨RX0, "daysLeftOf", "(LNailGold$Man;)I"⟩
abbrev cX0_showsLeftOf : ByteArray := prog_2_method_10_code
def yX0_showsLeftOf : MethodName := ⟨RX0, "showsLeftOf", "(LNailGold$Man;)I"⟩
def RX1 : String := "NailGold$BookReader"
def TX1 : u_T := fun k => match k with
  | _ => ("NailGold$BookReader", "tape", "LNailGold$Tape;", true)
def tyX1 : Nat → FieldType := fun k => match k with
  | _ => .object "NailGold$Tape"
abbrev wsX10 : List Cond := u_ws RX1 TX1 1
theorem nmX1 : ∀ a, a < 1 → ∀ b, b < 1 → a ≠ b → (TX1 a).2.1 ≠ (TX1 b).2.1 := by decide +kernel
theorem tyX1_ok : ∀ k, k < 1 → parseFieldDescriptor (TX1 k).2.2.1 = some (tyX1 k) := by decide +kernel
abbrev cX1_init : ByteArray := prog_3_method_1_code
def yX1_init : MethodName := ⟨RX1, "<init>", "(LNailGold$Tape;)V"⟩
abbrev cX1_reads : ByteArray := prog_3_method_2_code
def yX1_reads : MethodName := ⟨RX1, "reads", "(LNailGold$Book;LNailGold$Court;)Z"⟩
abbrev cX1_readsLine : ByteArray := prog_3_method_3_code
def yX1_readsLine : MethodName := ⟨RX1, "readsLine", "(LNailGold$Book;LNailGold$Court;)Z"⟩
abbrev cX1_numberBehind : ByteArray := prog_3_method_4_code
def yX1_numberBehind : MethodName := ⟨RX1, "numberBehind", "(Ljava/lang/String;II)I"⟩
abbrev cX1_tricksBehind : ByteArray := prog_3_method_5_code
def yX1_tricksBehind : MethodName := ⟨RX1, "tricksBehind", "(Ljava/lang/String;)I"⟩
abbrev cX1_readsStep : ByteArray := prog_3_method_6_code
def yX1_readsStep : MethodName := ⟨RX1, "readsStep", "(LNailGold$Book;)Z"⟩
abbrev cX1_readsMan : ByteArray := prog_3_method_7_code
def yX1_readsMan : MethodName := ⟨RX1, "readsMan", "(LNailGold$Court;)Z"⟩
abbrev cX1_readsTest : ByteArray := prog_3_method_8_code
def yX1_readsTest : MethodName := ⟨RX1, "readsTest", "(LNailGold$Book;)Z"⟩
abbrev cX1_readsRival : ByteArray := prog_3_method_9_code
def yX1_readsRival : MethodName := ⟨RX1, "readsRival", "(LNailGold$Court;)Z"⟩
abbrev cX1_readsChest : ByteArray := prog_3_method_10_code
def yX1_readsChest : MethodName := ⟨RX1, "readsChest", "(LNailGold$Court;)Z"⟩
abbrev cX1_readsRule : ByteArray := prog_3_method_11_code
def yX1_readsRule : MethodName := ⟨RX1, "readsRule", "(LNailGold$Book;)Z"⟩
def RX2 : String := "NailGold$Court"
def TX2 : u_T := fun k => match k with
  | 0 => ("NailGold$Court", "man", "[LNailGold$Man;", true)
  | 1 => ("NailGold$Court", "purse", "[I", true)
  | 2 => ("NailGold$Court", "parts", "[I", true)
  | 3 => ("NailGold$Court", "log", "LNailGold$Log;", true)
  | 4 => ("NailGold$Court", "men", "I", false)
  | 5 => ("NailGold$Court", "rivals", "I", false)
  | 6 => ("NailGold$Court", "chest", "I", false)
  | 7 => ("NailGold$Court", "debts", "I", false)
  | 8 => ("NailGold$Court", "day", "I", false)
  | _ => ("NailGold$Court", "seed", "I", false)
def tyX2 : Nat → FieldType := fun k => match k with
  | 0 => .array (.object "NailGold$Man")
  | 1 => .array .int
  | 2 => .array .int
  | 3 => .object "NailGold$Log"
  | 4 => .int
  | 5 => .int
  | 6 => .int
  | 7 => .int
  | 8 => .int
  | _ => .int
abbrev wsX20 : List Cond := u_ws RX2 TX2 10
theorem nmX2 : ∀ a, a < 10 → ∀ b, b < 10 → a ≠ b → (TX2 a).2.1 ≠ (TX2 b).2.1 := by decide +kernel
theorem tyX2_ok : ∀ k, k < 10 → parseFieldDescriptor (TX2 k).2.2.1 = some (tyX2 k) := by decide +kernel
abbrev cX2_init : ByteArray := prog_4_method_1_code
def yX2_init : MethodName := ⟨RX2, "<init>", "()V"⟩
abbrev cX2_copyFrom : ByteArray := prog_4_method_2_code
def yX2_copyFrom : MethodName := ⟨RX2, "copyFrom", "(LNailGold$Court;)V"⟩
abbrev cX2_copyCourse : ByteArray := prog_4_method_3_code
def yX2_copyCourse : MethodName := ⟨RX2, "copyCourse", "(LNailGold$Court;)V"⟩
abbrev cX2_addMan : ByteArray := prog_4_method_4_code
def yX2_addMan : MethodName := ⟨RX2, "addMan", "(III)V"⟩
abbrev cX2_addRival : ByteArray := prog_4_method_5_code
def yX2_addRival : MethodName := ⟨RX2, "addRival", "(I)V"⟩
abbrev cX2_spend : ByteArray := prog_4_method_6_code
def yX2_spend : MethodName := ⟨RX2, "spend", "(I)V"⟩
abbrev cX2_passDay : ByteArray := prog_4_method_7_code
def yX2_passDay : MethodName := ⟨RX2, "passDay", "(LNailGold$Book;LNailGold$Judge;I)I"⟩
abbrev cX2_passDayOf : ByteArray := prog_4_method_8_code
def yX2_passDayOf : MethodName := ⟨RX2, "passDayOf", "(ILNailGold$Book;LNailGold$Judge;)V"⟩
abbrev cX2_menIn : ByteArray := prog_4_method_9_code
def yX2_menIn : MethodName := ⟨RX2, "menIn", "(I)I"⟩
abbrev cX2_trustOfKept : ByteArray := prog_4_method_10_code
def yX2_trustOfKept : MethodName := ⟨RX2, "trustOfKept", "()I"⟩
abbrev cX2_holdersOf : ByteArray := prog_4_method_11_code
def yX2_holdersOf : MethodName := ⟨RX2, "holdersOf", "(I)I"⟩
abbrev cX2_partsOf : ByteArray := prog_4_method_12_code
def yX2_partsOf : MethodName := ⟨RX2, "partsOf", "(I)I"⟩
def RX3 : String := "NailGold$Judge"
def TX3 : u_T := fun k => match k with
  | 0 => ("NailGold$Judge", "facts", "[I", true)
  | 1 => ("NailGold$Judge", "stack", "[I", true)
  | _ => ("NailGold$Judge", "height", "I", false)
def tyX3 : Nat → FieldType := fun k => match k with
  | 0 => .array .int
  | 1 => .array .int
  | _ => .int
abbrev wsX30 : List Cond := u_ws RX3 TX3 3
theorem nmX3 : ∀ a, a < 3 → ∀ b, b < 3 → a ≠ b → (TX3 a).2.1 ≠ (TX3 b).2.1 := by decide +kernel
theorem tyX3_ok : ∀ k, k < 3 → parseFieldDescriptor (TX3 k).2.2.1 = some (tyX3 k) := by decide +kernel
abbrev cX3_init : ByteArray := prog_5_method_1_code
def yX3_init : MethodName := ⟨RX3, "<init>", "()V"⟩
abbrev cX3_turnOf : ByteArray := prog_5_method_2_code
def yX3_turnOf : MethodName := ⟨RX3, "turnOf", "(ILNailGold$Book;LNailGold$Court;)I"⟩
abbrev cX3_see : ByteArray := prog_5_method_3_code
def yX3_see : MethodName := ⟨RX3, "see", "(ILNailGold$Man;I)V"⟩
abbrev cX3_seeTime : ByteArray := prog_5_method_4_code
def yX3_seeTime : MethodName := ⟨RX3, "seeTime", "(II)V"⟩
abbrev cX3_turn : ByteArray := prog_5_method_5_code
def yX3_turn : MethodName := ⟨RX3, "turn", "(LNailGold$Law;)I"⟩
abbrev cX3_combine : ByteArray := prog_5_method_6_code
def yX3_combine : MethodName := ⟨RX3, "combine", "(I)V"⟩
abbrev cX3_factAt : ByteArray := prog_5_method_7_code
def yX3_factAt : MethodName := ⟨RX3, "factAt", "(I)I"⟩
abbrev cX3_push : ByteArray := prog_5_method_8_code
def yX3_push : MethodName := ⟨RX3, "push", "(I)V"⟩
abbrev cX3_pop : ByteArray := prog_5_method_9_code
def yX3_pop : MethodName := ⟨RX3, "pop", "()I"⟩
def RX4 : String := "NailGold$Law"
def TX4 : u_T := fun k => match k with
  | 0 => ("NailGold$Law", "lines", "I", true)
  | _ => ("NailGold$Law", "code", "[I", true)
def tyX4 : Nat → FieldType := fun k => match k with
  | 0 => .int
  | _ => .array .int
abbrev wsX40 : List Cond := u_ws RX4 TX4 2
theorem nmX4 : ∀ a, a < 2 → ∀ b, b < 2 → a ≠ b → (TX4 a).2.1 ≠ (TX4 b).2.1 := by decide +kernel
theorem tyX4_ok : ∀ k, k < 2 → parseFieldDescriptor (TX4 k).2.2.1 = some (tyX4 k) := by decide +kernel
abbrev cX4_init : ByteArray := prog_6_method_1_code
def yX4_init : MethodName := ⟨RX4, "<init>", "(I[I)V"⟩
def RX5 : String := "NailGold$LawReader"
def TX5 : u_T := fun k => match k with
  | 0 => ("NailGold$LawReader", "tape", "LNailGold$Tape;", true)
  | 1 => ("NailGold$LawReader", "code", "[I", true)
  | _ => ("NailGold$LawReader", "size", "I", false)
def tyX5 : Nat → FieldType := fun k => match k with
  | 0 => .object "NailGold$Tape"
  | 1 => .array .int
  | _ => .int
abbrev wsX50 : List Cond := u_ws RX5 TX5 3
theorem nmX5 : ∀ a, a < 3 → ∀ b, b < 3 → a ≠ b → (TX5 a).2.1 ≠ (TX5 b).2.1 := by decide +kernel
theorem tyX5_ok : ∀ k, k < 3 → parseFieldDescriptor (TX5 k).2.2.1 = some (tyX5 k) := by decide +kernel
abbrev cX5_init : ByteArray := prog_7_method_1_code
def yX5_init : MethodName := ⟨RX5, "<init>", "(LNailGold$Tape;)V"⟩
abbrev cX5_readLaw : ByteArray := prog_7_method_2_code
def yX5_readLaw : MethodName := ⟨RX5, "readLaw", "()LNailGold$Law;"⟩
abbrev cX5_emit : ByteArray := prog_7_method_3_code
def yX5_emit : MethodName := ⟨RX5, "emit", "(I)Z"⟩
abbrev cX5_readsLine : ByteArray := prog_7_method_4_code
def yX5_readsLine : MethodName := ⟨RX5, "readsLine", "()Z"⟩
abbrev cX5_readsChoice : ByteArray := prog_7_method_5_code
def yX5_readsChoice : MethodName := ⟨RX5, "readsChoice", "(I)Z"⟩
abbrev cX5_readsAll : ByteArray := prog_7_method_6_code
def yX5_readsAll : MethodName := ⟨RX5, "readsAll", "(I)Z"⟩
abbrev cX5_readsAtom : ByteArray := prog_7_method_7_code
def yX5_readsAtom : MethodName := ⟨RX5, "readsAtom", "(I)Z"⟩
abbrev cX5_readsSum : ByteArray := prog_7_method_8_code
def yX5_readsSum : MethodName := ⟨RX5, "readsSum", "()Z"⟩
abbrev cX5_readsPart : ByteArray := prog_7_method_9_code
def yX5_readsPart : MethodName := ⟨RX5, "readsPart", "()Z"⟩
abbrev cX5_namedFact : ByteArray := prog_7_method_10_code
def yX5_namedFact : MethodName := ⟨RX5, "namedFact", "()I"⟩
def RX6 : String := "NailGold$Log"
def TX6 : u_T := fun k => match k with
  | 0 => ("NailGold$Log", "cells", "[I", true)
  | _ => ("NailGold$Log", "rows", "I", false)
def tyX6 : Nat → FieldType := fun k => match k with
  | 0 => .array .int
  | _ => .int
abbrev wsX60 : List Cond := u_ws RX6 TX6 2
theorem nmX6 : ∀ a, a < 2 → ∀ b, b < 2 → a ≠ b → (TX6 a).2.1 ≠ (TX6 b).2.1 := by decide +kernel
theorem tyX6_ok : ∀ k, k < 2 → parseFieldDescriptor (TX6 k).2.2.1 = some (tyX6 k) := by decide +kernel
abbrev cX6_init : ByteArray := prog_8_method_1_code
def yX6_init : MethodName := ⟨RX6, "<init>", "()V"⟩
abbrev cX6_copyFrom : ByteArray := prog_8_method_2_code
def yX6_copyFrom : MethodName := ⟨RX6, "copyFrom", "(LNailGold$Log;)V"⟩
abbrev cX6_add : ByteArray := prog_8_method_3_code
def yX6_add : MethodName := ⟨RX6, "add", "(IIII)V"⟩
abbrev cX6_cell : ByteArray := prog_8_method_4_code
def yX6_cell : MethodName := ⟨RX6, "cell", "(II)I"⟩
abbrev cX6_rowsOf : ByteArray := prog_8_method_5_code
def yX6_rowsOf : MethodName := ⟨RX6, "rowsOf", "(IZ)I"⟩
def RX7 : String := "NailGold$Man"
def TX7 : u_T := fun k => match k with
  | 0 => ("NailGold$Man", "trust", "I", false)
  | 1 => ("NailGold$Man", "nails", "I", false)
  | 2 => ("NailGold$Man", "tricks", "I", false)
  | 3 => ("NailGold$Man", "at", "I", false)
  | 4 => ("NailGold$Man", "heated", "I", false)
  | _ => ("NailGold$Man", "state", "I", false)
def tyX7 : Nat → FieldType := fun k => match k with
  | 0 => .int
  | 1 => .int
  | 2 => .int
  | 3 => .int
  | 4 => .int
  | _ => .int
abbrev wsX70 : List Cond := u_ws RX7 TX7 6
theorem nmX7 : ∀ a, a < 6 → ∀ b, b < 6 → a ≠ b → (TX7 a).2.1 ≠ (TX7 b).2.1 := by decide +kernel
theorem tyX7_ok : ∀ k, k < 6 → parseFieldDescriptor (TX7 k).2.2.1 = some (tyX7 k) := by decide +kernel
abbrev cX7_init : ByteArray := prog_9_method_1_code
def yX7_init : MethodName := ⟨RX7, "<init>", "()V"⟩
abbrev cX7_copyFrom : ByteArray := prog_9_method_2_code
def yX7_copyFrom : MethodName := ⟨RX7, "copyFrom", "(LNailGold$Man;)V"⟩
abbrev cX7_trustMore : ByteArray := prog_9_method_3_code
def yX7_trustMore : MethodName := ⟨RX7, "trustMore", "(I)V"⟩
abbrev cX7_heat : ByteArray := prog_9_method_4_code
def yX7_heat : MethodName := ⟨RX7, "heat", "(LNailGold$Book;)I"⟩
def RX8 : String := "NailGold$Market"
def TX8 : u_T := fun k => match k with
  | 0 => ("NailGold$Market", "court", "LNailGold$Court;", true)
  | _ => ("NailGold$Market", "most", "[I", true)
def tyX8 : Nat → FieldType := fun k => match k with
  | 0 => .object "NailGold$Court"
  | _ => .array .int
abbrev wsX80 : List Cond := u_ws RX8 TX8 2
theorem nmX8 : ∀ a, a < 2 → ∀ b, b < 2 → a ≠ b → (TX8 a).2.1 ≠ (TX8 b).2.1 := by decide +kernel
theorem tyX8_ok : ∀ k, k < 2 → parseFieldDescriptor (TX8 k).2.2.1 = some (tyX8 k) := by decide +kernel
abbrev cX8_init : ByteArray := prog_10_method_1_code
def yX8_init : MethodName := ⟨RX8, "<init>", "(LNailGold$Court;)V"⟩
abbrev cX8_weigh : ByteArray := prog_10_method_2_code
def yX8_weigh : MethodName := ⟨RX8, "weigh", "()V"⟩
abbrev cX8_given : ByteArray := prog_10_method_3_code
def yX8_given : MethodName := ⟨RX8, "given", "(III)I"⟩
abbrev cX8_most : ByteArray := prog_10_method_4_code
def yX8_most : MethodName := ⟨RX8, "most", "()I"⟩
abbrev cX8_gets : ByteArray := prog_10_method_5_code
def yX8_gets : MethodName := ⟨RX8, "gets", "(I)I"⟩
def RX9 : String := "NailGold$NailPlan"
def TX9 : u_T := fun k => match k with
  | 0 => ("NailGold$NailPlan", "judge", "LNailGold$Judge;", true)
  | 1 => ("NailGold$NailPlan", "book", "LNailGold$Book;", true)
  | 2 => ("NailGold$NailPlan", "figure", "LNailGold$Man;", true)
  | 3 => ("NailGold$NailPlan", "debts", "[I", true)
  | 4 => ("NailGold$NailPlan", "at", "[I", true)
  | 5 => ("NailGold$NailPlan", "heated", "[I", true)
  | 6 => ("NailGold$NailPlan", "shown", "[I", true)
  | 7 => ("NailGold$NailPlan", "known", "[J", true)
  | 8 => ("NailGold$NailPlan", "horizon", "I", false)
  | 9 => ("NailGold$NailPlan", "number", "I", false)
  | _ => ("NailGold$NailPlan", "firstDay", "I", false)
def tyX9 : Nat → FieldType := fun k => match k with
  | 0 => .object "NailGold$Judge"
  | 1 => .object "NailGold$Book"
  | 2 => .object "NailGold$Man"
  | 3 => .array .int
  | 4 => .array .int
  | 5 => .array .int
  | 6 => .array .int
  | 7 => .array .long
  | 8 => .int
  | 9 => .int
  | _ => .int
abbrev wsX90 : List Cond := u_ws RX9 TX9 11
theorem nmX9 : ∀ a, a < 11 → ∀ b, b < 11 → a ≠ b → (TX9 a).2.1 ≠ (TX9 b).2.1 := by decide +kernel
theorem tyX9_ok : ∀ k, k < 11 → parseFieldDescriptor (TX9 k).2.2.1 = some (tyX9 k) := by decide +kernel
abbrev cX9_init : ByteArray := prog_11_method_1_code
def yX9_init : MethodName := ⟨RX9, "<init>", "(LNailGold$Judge;LNailGold$Book;)V"⟩
abbrev cX9_lookAt : ByteArray := prog_11_method_2_code
def yX9_lookAt : MethodName := ⟨RX9, "lookAt", "(ILNailGold$Court;I)V"⟩
abbrev cX9_mostKept : ByteArray := prog_11_method_3_code
def yX9_mostKept : MethodName := ⟨RX9, "mostKept", "(II)I"⟩
abbrev cX9_keptFrom : ByteArray := prog_11_method_4_code
def yX9_keptFrom : MethodName := ⟨RX9, "keptFrom", "(III)I"⟩
abbrev cX9_keptIfPassed : ByteArray := prog_11_method_5_code
def yX9_keptIfPassed : MethodName := ⟨RX9, "keptIfPassed", "(III)I"⟩
abbrev cX9_proven : ByteArray := prog_11_method_6_code
def yX9_proven : MethodName := ⟨RX9, "proven", "(I)I"⟩
abbrev cX9_trustBehind : ByteArray := prog_11_method_7_code
def yX9_trustBehind : MethodName := ⟨RX9, "trustBehind", "(III)I"⟩
abbrev cX9_usedAheadOf : ByteArray := prog_11_method_8_code
def yX9_usedAheadOf : MethodName := ⟨RX9, "usedAheadOf", "(III)I"⟩
def RX10 : String := "NailGold$Tape"
def TX10 : u_T := fun k => match k with
  | 0 => ("NailGold$Tape", "bytes", "[I", true)
  | 1 => ("NailGold$Tape", "length", "I", false)
  | 2 => ("NailGold$Tape", "kind", "I", false)
  | 3 => ("NailGold$Tape", "from", "I", false)
  | _ => ("NailGold$Tape", "to", "I", false)
def tyX10 : Nat → FieldType := fun k => match k with
  | 0 => .array .int
  | 1 => .int
  | 2 => .int
  | 3 => .int
  | _ => .int
abbrev wsX100 : List Cond := u_ws RX10 TX10 5
theorem nmX10 : ∀ a, a < 5 → ∀ b, b < 5 → a ≠ b → (TX10 a).2.1 ≠ (TX10 b).2.1 := by decide +kernel
theorem tyX10_ok : ∀ k, k < 5 → parseFieldDescriptor (TX10 k).2.2.1 = some (tyX10 k) := by decide +kernel
abbrev cX10_init : ByteArray := prog_12_method_1_code
def yX10_init : MethodName := ⟨RX10, "<init>", "()V"⟩
abbrev cX10_put : ByteArray := prog_12_method_2_code
def yX10_put : MethodName := ⟨RX10, "put", "(I)V"⟩
abbrev cX10_rewind : ByteArray := prog_12_method_3_code
def yX10_rewind : MethodName := ⟨RX10, "rewind", "()V"⟩
abbrev cX10_advance : ByteArray := prog_12_method_4_code
def yX10_advance : MethodName := ⟨RX10, "advance", "()V"⟩
abbrev cX10_atEnd : ByteArray := prog_12_method_5_code
def yX10_atEnd : MethodName := ⟨RX10, "atEnd", "()Z"⟩
abbrev cX10_isWord : ByteArray := prog_12_method_6_code
def yX10_isWord : MethodName := ⟨RX10, "isWord", "(Ljava/lang/String;)Z"⟩
abbrev cX10_isSign : ByteArray := prog_12_method_7_code
def yX10_isSign : MethodName := ⟨RX10, "isSign", "(C)Z"⟩
abbrev cX10_takeWord : ByteArray := prog_12_method_8_code
def yX10_takeWord : MethodName := ⟨RX10, "takeWord", "(Ljava/lang/String;)Z"⟩
abbrev cX10_takeSign : ByteArray := prog_12_method_9_code
def yX10_takeSign : MethodName := ⟨RX10, "takeSign", "(C)Z"⟩
abbrev cX10_takeNumber : ByteArray := prog_12_method_10_code
def yX10_takeNumber : MethodName := ⟨RX10, "takeNumber", "(II)I"⟩
abbrev cX10_takeTricks : ByteArray := prog_12_method_11_code
def yX10_takeTricks : MethodName := ⟨RX10, "takeTricks", "()I"⟩
def RX11 : String := "NailGold"
def TX11 : u_T := fun k => match k with
  | 0 => ("NailGold", "tape", "LNailGold$Tape;", true)
  | 1 => ("NailGold", "judge", "LNailGold$Judge;", true)
  | 2 => ("NailGold", "bookReader", "LNailGold$BookReader;", true)
  | 3 => ("NailGold", "lawReader", "LNailGold$LawReader;", true)
  | 4 => ("NailGold", "book", "LNailGold$Book;", true)
  | 5 => ("NailGold", "court", "LNailGold$Court;", true)
  | 6 => ("NailGold", "plan", "LNailGold$NailPlan;", true)
  | 7 => ("NailGold", "market", "LNailGold$Market;", true)
  | 8 => ("NailGold", "draftBook", "LNailGold$Book;", true)
  | 9 => ("NailGold", "draft", "LNailGold$Court;", true)
  | 10 => ("NailGold", "imageBook", "LNailGold$Book;", true)
  | 11 => ("NailGold", "imageCourt", "LNailGold$Court;", true)
  | 12 => ("NailGold", "past", "[LNailGold$Court;", true)
  | 13 => ("NailGold", "newest", "I", false)
  | 14 => ("NailGold", "remembered", "I", false)
  | 15 => ("NailGold", "imageKept", "Z", false)
  | _ => ("NailGold", "wrongByte", "I", false)
def tyX11 : Nat → FieldType := fun k => match k with
  | 0 => .object "NailGold$Tape"
  | 1 => .object "NailGold$Judge"
  | 2 => .object "NailGold$BookReader"
  | 3 => .object "NailGold$LawReader"
  | 4 => .object "NailGold$Book"
  | 5 => .object "NailGold$Court"
  | 6 => .object "NailGold$NailPlan"
  | 7 => .object "NailGold$Market"
  | 8 => .object "NailGold$Book"
  | 9 => .object "NailGold$Court"
  | 10 => .object "NailGold$Book"
  | 11 => .object "NailGold$Court"
  | 12 => .array (.object "NailGold$Court")
  | 13 => .int
  | 14 => .int
  | 15 => .boolean
  | _ => .int
abbrev wsX110 : List Cond := u_ws RX11 TX11 17
theorem nmX11 : ∀ a, a < 17 → ∀ b, b < 17 → a ≠ b → (TX11 a).2.1 ≠ (TX11 b).2.1 := by decide +kernel
theorem tyX11_ok : ∀ k, k < 17 → parseFieldDescriptor (TX11 k).2.2.1 = some (tyX11 k) := by decide +kernel
abbrev cX11_init : ByteArray := prog_1_method_1_code
def yX11_init : MethodName := ⟨RX11, "<init>", "()V"⟩
abbrev cX11_feed : ByteArray := prog_1_method_2_code
def yX11_feed : MethodName := ⟨RX11, "feed", "(IIIII)I"⟩
abbrev cX11_end : ByteArray := prog_1_method_3_code
def yX11_end : MethodName := ⟨RX11, "end", "(I)Z"⟩
abbrev cX11_book : ByteArray := prog_1_method_4_code
def yX11_book : MethodName := ⟨RX11, "book", "()I"⟩
abbrev cX11_law : ByteArray := prog_1_method_5_code
def yX11_law : MethodName := ⟨RX11, "law", "()I"⟩
abbrev cX11_fault : ByteArray := prog_1_method_6_code
def yX11_fault : MethodName := ⟨RX11, "fault", "()I"⟩
abbrev cX11_step : ByteArray := prog_1_method_7_code
def yX11_step : MethodName := ⟨RX11, "step", "(II)I"⟩
abbrev cX11_man : ByteArray := prog_1_method_8_code
def yX11_man : MethodName := ⟨RX11, "man", "(II)I"⟩
abbrev cX11_test : ByteArray := prog_1_method_9_code
def yX11_test : MethodName := ⟨RX11, "test", "(IZ)I"⟩
abbrev cX11_rival : ByteArray := prog_1_method_10_code
def yX11_rival : MethodName := ⟨RX11, "rival", "(IZ)I"⟩
abbrev cX11_proof : ByteArray := prog_1_method_11_code
def yX11_proof : MethodName := ⟨RX11, "proof", "(I)I"⟩
abbrev cX11_tried : ByteArray := prog_1_method_12_code
def yX11_tried : MethodName := ⟨RX11, "tried", "(II)Z"⟩
abbrev cX11_flee : ByteArray := prog_1_method_13_code
def yX11_flee : MethodName := ⟨RX11, "flee", "(I)I"⟩
abbrev cX11_sell : ByteArray := prog_1_method_14_code
def yX11_sell : MethodName := ⟨RX11, "sell", "(III)I"⟩
abbrev cX11_part : ByteArray := prog_1_method_15_code
def yX11_part : MethodName := ⟨RX11, "part", "(II)I"⟩
abbrev cX11_pay : ByteArray := prog_1_method_16_code
def yX11_pay : MethodName := ⟨RX11, "pay", "(I)I"⟩
abbrev cX11_days : ByteArray := prog_1_method_17_code
def yX11_days : MethodName := ⟨RX11, "days", "(I)I"⟩
abbrev cX11_ahead : ByteArray := prog_1_method_18_code
def yX11_ahead : MethodName := ⟨RX11, "ahead", "(III)I"⟩
abbrev cX11_owes : ByteArray := prog_1_method_19_code
def yX11_owes : MethodName := ⟨RX11, "owes", "(I)I"⟩
abbrev cX11_chest : ByteArray := prog_1_method_20_code
def yX11_chest : MethodName := ⟨RX11, "chest", "(I)I"⟩
abbrev cX11_lives : ByteArray := prog_1_method_21_code
def yX11_lives : MethodName := ⟨RX11, "lives", "(I)I"⟩
abbrev cX11_done : ByteArray := prog_1_method_22_code
def yX11_done : MethodName := ⟨RX11, "done", "(I)I"⟩
abbrev cX11_longest : ByteArray := prog_1_method_23_code
def yX11_longest : MethodName := ⟨RX11, "longest", "(II)I"⟩
abbrev cX11_needs : ByteArray := prog_1_method_24_code
def yX11_needs : MethodName := ⟨RX11, "needs", "(II)I"⟩
abbrev cX11_stopped : ByteArray := prog_1_method_25_code
def yX11_stopped : MethodName := ⟨RX11, "stopped", "(II)Z"⟩
abbrev cX11_fewest : ByteArray := prog_1_method_26_code
def yX11_fewest : MethodName := ⟨RX11, "fewest", "(I)I"⟩
abbrev cX11_cheapest : ByteArray := prog_1_method_27_code
def yX11_cheapest : MethodName := ⟨RX11, "cheapest", "(IZ)I"⟩
abbrev cX11_slips : ByteArray := prog_1_method_28_code
def yX11_slips : MethodName := ⟨RX11, "slips", "(I)I"⟩
abbrev cX11_seen : ByteArray := prog_1_method_29_code
def yX11_seen : MethodName := ⟨RX11, "seen", "(Z)I"⟩
abbrev cX11_ask : ByteArray := prog_1_method_30_code
def yX11_ask : MethodName := ⟨RX11, "ask", "()I"⟩
abbrev cX11_rests : ByteArray := prog_1_method_31_code
def yX11_rests : MethodName := ⟨RX11, "rests", "(II)I"⟩
abbrev cX11_odds : ByteArray := prog_1_method_32_code
def yX11_odds : MethodName := ⟨RX11, "odds", "(II)I"⟩
abbrev cX11_bids : ByteArray := prog_1_method_33_code
def yX11_bids : MethodName := ⟨RX11, "bids", "(Z)I"⟩
abbrev cX11_sold : ByteArray := prog_1_method_34_code
def yX11_sold : MethodName := ⟨RX11, "sold", "(I)I"⟩
abbrev cX11_secret : ByteArray := prog_1_method_35_code
def yX11_secret : MethodName := ⟨RX11, "secret", "()I"⟩
abbrev cX11_mates : ByteArray := prog_1_method_36_code
def yX11_mates : MethodName := ⟨RX11, "mates", "()I"⟩
abbrev cX11_knows : ByteArray := prog_1_method_37_code
def yX11_knows : MethodName := ⟨RX11, "knows", "(I)I"⟩
abbrev cX11_dearest : ByteArray := prog_1_method_38_code
def yX11_dearest : MethodName := ⟨RX11, "dearest", "()I"⟩
abbrev cX11_kept : ByteArray := prog_1_method_39_code
def yX11_kept : MethodName := ⟨RX11, "kept", "(Z)I"⟩
abbrev cX11_trial : ByteArray := prog_1_method_40_code
def yX11_trial : MethodName := ⟨RX11, "trial", "(IZ)I"⟩
abbrev cX11_span : ByteArray := prog_1_method_41_code
def yX11_span : MethodName := ⟨RX11, "span", "(IZ)I"⟩
abbrev cX11_led : ByteArray := prog_1_method_42_code
def yX11_led : MethodName := ⟨RX11, "led", "(IZ)I"⟩
abbrev cX11_log : ByteArray := prog_1_method_43_code
def yX11_log : MethodName := ⟨RX11, "log", "(II)I"⟩
abbrev cX11_seed : ByteArray := prog_1_method_44_code
def yX11_seed : MethodName := ⟨RX11, "seed", "(I)I"⟩
abbrev cX11_undo : ByteArray := prog_1_method_45_code
def yX11_undo : MethodName := ⟨RX11, "undo", "()Z"⟩
abbrev cX11_image : ByteArray := prog_1_method_46_code
def yX11_image : MethodName := ⟨RX11, "image", "()V"⟩
abbrev cX11_back : ByteArray := prog_1_method_47_code
def yX11_back : MethodName := ⟨RX11, "back", "()Z"⟩
abbrev cX11_count : ByteArray := prog_1_method_48_code
def yX11_count : MethodName := ⟨RX11, "count", "(I)I"⟩
abbrev cX11_needStep : ByteArray := prog_1_method_49_code
def yX11_needStep : MethodName := ⟨RX11, "needStep", "(I)V"⟩
abbrev cX11_needMan : ByteArray := prog_1_method_50_code
def yX11_needMan : MethodName := ⟨RX11, "needMan", "(I)V"⟩
abbrev cX11_needTest : ByteArray := prog_1_method_51_code
def yX11_needTest : MethodName := ⟨RX11, "needTest", "(I)V"⟩
abbrev cX11_needRival : ByteArray := prog_1_method_52_code
def yX11_needRival : MethodName := ⟨RX11, "needRival", "(I)V"⟩
abbrev cX11_needWithin : ByteArray := prog_1_method_53_code
def yX11_needWithin : MethodName := ⟨RX11, "needWithin", "(III)V"⟩
abbrev cX11_needKept : ByteArray := prog_1_method_54_code
def yX11_needKept : MethodName := ⟨RX11, "needKept", "(I)V"⟩
abbrev cX11_remember : ByteArray := prog_1_method_55_code
def yX11_remember : MethodName := ⟨RX11, "remember", "()V"⟩
abbrev cX11_draftDays : ByteArray := prog_1_method_56_code
def yX11_draftDays : MethodName := ⟨RX11, "draftDays", "(III)V"⟩
abbrev cX11_takeFittingSets : ByteArray := prog_1_method_57_code
def yX11_takeFittingSets : MethodName := ⟨RX11, "takeFittingSets", "()J"⟩
abbrev cX11_isTale : ByteArray := prog_1_method_58_code
def yX11_isTale : MethodName := ⟨RX11, "isTale", "(I)Z"⟩
abbrev cX11_fitsTale : ByteArray := prog_1_method_59_code
def yX11_fitsTale : MethodName := ⟨RX11, "fitsTale", "(II)Z"⟩
abbrev cX11_caughtAmong : ByteArray := prog_1_method_60_code
def yX11_caughtAmong : MethodName := ⟨RX11, "caughtAmong", "(JI)I"⟩
abbrev cX11_princePays : ByteArray := prog_1_method_61_code
def yX11_princePays : MethodName := ⟨RX11, "princePays", "(IIIZ)I"⟩
abbrev cX11_manHas : ByteArray := prog_1_method_62_code
def yX11_manHas : MethodName := ⟨RX11, "manHas", "(IIIZ)I"⟩
abbrev cX11_waysOf : ByteArray := prog_1_method_63_code
def yX11_waysOf : MethodName := ⟨RX11, "waysOf", "(II)J"⟩
def RX12 : String := "NailGoldModel"
def TX12 : u_T := fun k => match k with
  | 0 => ("NailGoldModel", "thrown", "I", false)
  | 1 => ("NailGoldModel", "m", "[I", true)
  | 2 => ("NailGoldModel", "kept", "[I", true)
  | 3 => ("NailGoldModel", "hasImage", "Z", false)
  | 4 => ("NailGoldModel", "aside", "[I", true)
  | 5 => ("NailGoldModel", "acts", "[I", true)
  | 6 => ("NailGoldModel", "acted", "I", false)
  | 7 => ("NailGoldModel", "tape", "[I", true)
  | 8 => ("NailGoldModel", "taped", "I", false)
  | 9 => ("NailGoldModel", "base", "I", false)
  | 10 => ("NailGoldModel", "end", "I", false)
  | 11 => ("NailGoldModel", "at", "I", false)
  | 12 => ("NailGoldModel", "fault", "I", false)
  | 13 => ("NailGoldModel", "deep", "I", false)
  | 14 => ("NailGoldModel", "fact", "[I", true)
  | 15 => ("NailGoldModel", "isHot", "Z", false)
  | 16 => ("NailGoldModel", "isDone", "Z", false)
  | 17 => ("NailGoldModel", "turns", "I", false)
  | 18 => ("NailGoldModel", "debtsOn", "[I", true)
  | 19 => ("NailGoldModel", "atOn", "[I", true)
  | 20 => ("NailGoldModel", "heatedOn", "[I", true)
  | 21 => ("NailGoldModel", "showsOn", "[I", true)
  | 22 => ("NailGoldModel", "most", "[I", true)
  | 23 => ("NailGoldModel", "fits", "[Z", true)
  | _ => ("NailGoldModel", "given", "[I", true)
def tyX12 : Nat → FieldType := fun k => match k with
  | 0 => .int
  | 1 => .array .int
  | 2 => .array .int
  | 3 => .boolean
  | 4 => .array .int
  | 5 => .array .int
  | 6 => .int
  | 7 => .array .int
  | 8 => .int
  | 9 => .int
  | 10 => .int
  | 11 => .int
  | 12 => .int
  | 13 => .int
  | 14 => .array .int
  | 15 => .boolean
  | 16 => .boolean
  | 17 => .int
  | 18 => .array .int
  | 19 => .array .int
  | 20 => .array .int
  | 21 => .array .int
  | 22 => .array .int
  | 23 => .array .boolean
  | _ => .array .int
abbrev wsX120 : List Cond := u_ws RX12 TX12 25
theorem nmX12 : ∀ a, a < 25 → ∀ b, b < 25 → a ≠ b → (TX12 a).2.1 ≠ (TX12 b).2.1 := by decide +kernel
theorem tyX12_ok : ∀ k, k < 25 → parseFieldDescriptor (TX12 k).2.2.1 = some (tyX12 k) := by decide +kernel
abbrev cX12_init : ByteArray := prog_14_method_1_code
def yX12_init : MethodName := ⟨RX12, "<init>", "()V"⟩
abbrev cX12_isIn : ByteArray := prog_14_method_3_code
def yX12_isIn : MethodName := ⟨RX12, "isIn", "(III)Z"⟩
abbrev cX12_lesser : ByteArray := prog_14_method_4_code
def yX12_lesser : MethodName := ⟨RX12, "lesser", "(II)I"⟩
abbrev cX12_greater : ByteArray := prog_14_method_5_code
def yX12_greater : MethodName := ⟨RX12, "greater", "(II)I"⟩
abbrev cX12_isOf : ByteArray := prog_14_method_6_code
def yX12_isOf : MethodName := ⟨RX12, "isOf", "(II)Z"⟩
abbrev cX12_bits : ByteArray := prog_14_method_7_code
def yX12_bits : MethodName := ⟨RX12, "bits", "(I)I"⟩
abbrev cX12_ofStep : ByteArray := prog_14_method_8_code
def yX12_ofStep : MethodName := ⟨RX12, "ofStep", "(II)I"⟩
abbrev cX12_of : ByteArray := prog_14_method_9_code
def yX12_of : MethodName := ⟨RX12, "of", "(II)I"⟩
abbrev cX12_put : ByteArray := prog_14_method_10_code
def yX12_put : MethodName := ⟨RX12, "put", "(III)V"⟩
abbrev cX12_costOf : ByteArray := prog_14_method_11_code
def yX12_costOf : MethodName := ⟨RX12, "costOf", "(I)I"⟩
abbrev cX12_stopsOf : ByteArray := prog_14_method_12_code
def yX12_stopsOf : MethodName := ⟨RX12, "stopsOf", "(I)I"⟩
abbrev cX12_ofRival : ByteArray := prog_14_method_13_code
def yX12_ofRival : MethodName := ⟨RX12, "ofRival", "(II)I"⟩
abbrev cX12_isStep : ByteArray := prog_14_method_14_code
def yX12_isStep : MethodName := ⟨RX12, "isStep", "(I)Z"⟩
abbrev cX12_isMan : ByteArray := prog_14_method_15_code
def yX12_isMan : MethodName := ⟨RX12, "isMan", "(I)Z"⟩
abbrev cX12_isTest : ByteArray := prog_14_method_16_code
def yX12_isTest : MethodName := ⟨RX12, "isTest", "(I)Z"⟩
abbrev cX12_isRival : ByteArray := prog_14_method_17_code
def yX12_isRival : MethodName := ⟨RX12, "isRival", "(I)Z"⟩
abbrev cX12_isKept : ByteArray := prog_14_method_18_code
def yX12_isKept : MethodName := ⟨RX12, "isKept", "(I)Z"⟩
abbrev cX12_feed : ByteArray := prog_14_method_19_code
def yX12_feed : MethodName := ⟨RX12, "feed", "(IIIII)I"⟩
abbrev cX12_end : ByteArray := prog_14_method_20_code
def yX12_end : MethodName := ⟨RX12, "end", "(I)Z"⟩
abbrev cX12_letter : ByteArray := prog_14_method_21_code
def yX12_letter : MethodName := ⟨RX12, "letter", "(I)I"⟩
abbrev cX12_skip : ByteArray := prog_14_method_22_code
def yX12_skip : MethodName := ⟨RX12, "skip", "()V"⟩
abbrev cX12_isSign : ByteArray := prog_14_method_23_code
def yX12_isSign : MethodName := ⟨RX12, "isSign", "(I)Z"⟩
abbrev cX12_has : ByteArray := prog_14_method_24_code
def yX12_has : MethodName := ⟨RX12, "has", "(Ljava/lang/String;)Z"⟩
abbrev cX12_wrong : ByteArray := prog_14_method_25_code
def yX12_wrong : MethodName := ⟨RX12, "wrong", "(I)V"⟩
abbrev cX12_place : ByteArray := prog_14_method_26_code
def yX12_place : MethodName := ⟨RX12, "place", "()I"⟩
abbrev cX12_figures : ByteArray := prog_14_method_27_code
def yX12_figures : MethodName := ⟨RX12, "figures", "(II)I"⟩
abbrev cX12_after : ByteArray := prog_14_method_28_code
def yX12_after : MethodName := ⟨RX12, "after", "(Ljava/lang/String;II)I"⟩
abbrev cX12_lettersAfter : ByteArray := prog_14_method_29_code
def yX12_lettersAfter : MethodName := ⟨RX12, "lettersAfter", "(Ljava/lang/String;)I"⟩
abbrev cX12_stepLine : ByteArray := prog_14_method_30_code
def yX12_stepLine : MethodName := ⟨RX12, "stepLine", "(I)V"⟩
abbrev cX12_manLine : ByteArray := prog_14_method_31_code
def yX12_manLine : MethodName := ⟨RX12, "manLine", "(I)V"⟩
abbrev cX12_testLine : ByteArray := prog_14_method_32_code
def yX12_testLine : MethodName := ⟨RX12, "testLine", "(I)V"⟩
abbrev cX12_rivalLine : ByteArray := prog_14_method_33_code
def yX12_rivalLine : MethodName := ⟨RX12, "rivalLine", "(I)V"⟩
abbrev cX12_tells : ByteArray := prog_14_method_34_code
def yX12_tells : MethodName := ⟨RX12, "tells", "(II)V"⟩
abbrev cX12_bookLine : ByteArray := prog_14_method_35_code
def yX12_bookLine : MethodName := ⟨RX12, "bookLine", "()V"⟩
abbrev cX12_begins : ByteArray := prog_14_method_36_code
def yX12_begins : MethodName := ⟨RX12, "begins", "()V"⟩
abbrev cX12_read : ByteArray := prog_14_method_37_code
def yX12_read : MethodName := ⟨RX12, "read", "(Z)I"⟩
abbrev cX12_putsAside : ByteArray := prog_14_method_38_code
def yX12_putsAside : MethodName := ⟨RX12, "putsAside", "()V"⟩
abbrev cX12_comesBack : ByteArray := prog_14_method_39_code
def yX12_comesBack : MethodName := ⟨RX12, "comesBack", "()V"⟩
abbrev cX12_book : ByteArray := prog_14_method_40_code
def yX12_book : MethodName := ⟨RX12, "book", "()I"⟩
abbrev cX12_part : ByteArray := prog_14_method_41_code
def yX12_part : MethodName := ⟨RX12, "part", "()I"⟩
abbrev cX12_sum : ByteArray := prog_14_method_42_code
def yX12_sum : MethodName := ⟨RX12, "sum", "()I"⟩
abbrev cX12_plain : ByteArray := prog_14_method_43_code
def yX12_plain : MethodName := ⟨RX12, "plain", "()Z"⟩
abbrev cX12_atom : ByteArray := prog_14_method_44_code
def yX12_atom : MethodName := ⟨RX12, "atom", "()Z"⟩
abbrev cX12_every : ByteArray := prog_14_method_45_code
def yX12_every : MethodName := ⟨RX12, "every", "()Z"⟩
abbrev cX12_some : ByteArray := prog_14_method_46_code
def yX12_some : MethodName := ⟨RX12, "some", "()Z"⟩
abbrev cX12_lawLine : ByteArray := prog_14_method_47_code
def yX12_lawLine : MethodName := ⟨RX12, "lawLine", "()V"⟩
abbrev cX12_law : ByteArray := prog_14_method_48_code
def yX12_law : MethodName := ⟨RX12, "law", "()I"⟩
abbrev cX12_fault : ByteArray := prog_14_method_49_code
def yX12_fault : MethodName := ⟨RX12, "fault", "()I"⟩
abbrev cX12_turnsBy : ByteArray := prog_14_method_50_code
def yX12_turnsBy : MethodName := ⟨RX12, "turnsBy", "(IIIIIII)I"⟩
abbrev cX12_turnsNow : ByteArray := prog_14_method_51_code
def yX12_turnsNow : MethodName := ⟨RX12, "turnsNow", "(I)I"⟩
abbrev cX12_draw : ByteArray := prog_14_method_52_code
def yX12_draw : MethodName := ⟨RX12, "draw", "(I)I"⟩
abbrev cX12_pays : ByteArray := prog_14_method_53_code
def yX12_pays : MethodName := ⟨RX12, "pays", "(I)V"⟩
abbrev cX12_works : ByteArray := prog_14_method_54_code
def yX12_works : MethodName := ⟨RX12, "works", "(I)V"⟩
abbrev cX12_goes : ByteArray := prog_14_method_55_code
def yX12_goes : MethodName := ⟨RX12, "goes", "(IZ)I"⟩
abbrev cX12_step : ByteArray := prog_14_method_56_code
def yX12_step : MethodName := ⟨RX12, "step", "(II)I"⟩
abbrev cX12_left : ByteArray := prog_14_method_57_code
def yX12_left : MethodName := ⟨RX12, "left", "(II)I"⟩
abbrev cX12_outlay : ByteArray := prog_14_method_58_code
def yX12_outlay : MethodName := ⟨RX12, "outlay", "(I)I"⟩
abbrev cX12_man : ByteArray := prog_14_method_59_code
def yX12_man : MethodName := ⟨RX12, "man", "(II)I"⟩
abbrev cX12_test : ByteArray := prog_14_method_60_code
def yX12_test : MethodName := ⟨RX12, "test", "(IZ)I"⟩
abbrev cX12_rival : ByteArray := prog_14_method_61_code
def yX12_rival : MethodName := ⟨RX12, "rival", "(IZ)I"⟩
abbrev cX12_remembers : ByteArray := prog_14_method_62_code
def yX12_remembers : MethodName := ⟨RX12, "remembers", "()V"⟩
abbrev cX12_logs : ByteArray := prog_14_method_63_code
def yX12_logs : MethodName := ⟨RX12, "logs", "(II)V"⟩
abbrev cX12_proof : ByteArray := prog_14_method_64_code
def yX12_proof : MethodName := ⟨RX12, "proof", "(I)I"⟩
abbrev cX12_catches : ByteArray := prog_14_method_65_code
def yX12_catches : MethodName := ⟨RX12, "catches", "(II)Z"⟩
abbrev cX12_tried : ByteArray := prog_14_method_66_code
def yX12_tried : MethodName := ⟨RX12, "tried", "(II)Z"⟩
abbrev cX12_flee : ByteArray := prog_14_method_67_code
def yX12_flee : MethodName := ⟨RX12, "flee", "(I)I"⟩
abbrev cX12_sell : ByteArray := prog_14_method_68_code
def yX12_sell : MethodName := ⟨RX12, "sell", "(III)I"⟩
abbrev cX12_part_ : ByteArray := prog_14_method_69_code
def yX12_part_ : MethodName := ⟨RX12, "part", "(II)I"⟩
abbrev cX12_pay : ByteArray := prog_14_method_70_code
def yX12_pay : MethodName := ⟨RX12, "pay", "(I)I"⟩
abbrev cX12_days : ByteArray := prog_14_method_71_code
def yX12_days : MethodName := ⟨RX12, "days", "(I)I"⟩
abbrev cX12_ahead : ByteArray := prog_14_method_72_code
def yX12_ahead : MethodName := ⟨RX12, "ahead", "(III)I"⟩
abbrev cX12_owes : ByteArray := prog_14_method_73_code
def yX12_owes : MethodName := ⟨RX12, "owes", "(I)I"⟩
abbrev cX12_chest : ByteArray := prog_14_method_74_code
def yX12_chest : MethodName := ⟨RX12, "chest", "(I)I"⟩
abbrev cX12_by : ByteArray := prog_14_method_75_code
def yX12_by : MethodName := ⟨RX12, "by", "(IZ)I"⟩
abbrev cX12_lives : ByteArray := prog_14_method_76_code
def yX12_lives : MethodName := ⟨RX12, "lives", "(I)I"⟩
abbrev cX12_done : ByteArray := prog_14_method_77_code
def yX12_done : MethodName := ⟨RX12, "done", "(I)I"⟩
abbrev cX12_looks : ByteArray := prog_14_method_78_code
def yX12_looks : MethodName := ⟨RX12, "looks", "(I)V"⟩
abbrev cX12_from : ByteArray := prog_14_method_79_code
def yX12_from : MethodName := ⟨RX12, "from", "(IIII)I"⟩
abbrev cX12_using : ByteArray := prog_14_method_80_code
def yX12_using : MethodName := ⟨RX12, "using", "(IIIII)I"⟩
abbrev cX12_behind : ByteArray := prog_14_method_81_code
def yX12_behind : MethodName := ⟨RX12, "behind", "(IIII)I"⟩
abbrev cX12_longest : ByteArray := prog_14_method_82_code
def yX12_longest : MethodName := ⟨RX12, "longest", "(II)I"⟩
abbrev cX12_needs : ByteArray := prog_14_method_83_code
def yX12_needs : MethodName := ⟨RX12, "needs", "(II)I"⟩
abbrev cX12_stopped : ByteArray := prog_14_method_84_code
def yX12_stopped : MethodName := ⟨RX12, "stopped", "(I)I"⟩
abbrev cX12_costs : ByteArray := prog_14_method_85_code
def yX12_costs : MethodName := ⟨RX12, "costs", "(I)I"⟩
abbrev cX12_stopped_ : ByteArray := prog_14_method_86_code
def yX12_stopped_ : MethodName := ⟨RX12, "stopped", "(II)Z"⟩
abbrev cX12_bestSet : ByteArray := prog_14_method_87_code
def yX12_bestSet : MethodName := ⟨RX12, "bestSet", "(IZ)I"⟩
abbrev cX12_fewest : ByteArray := prog_14_method_88_code
def yX12_fewest : MethodName := ⟨RX12, "fewest", "(I)I"⟩
abbrev cX12_cheapest : ByteArray := prog_14_method_89_code
def yX12_cheapest : MethodName := ⟨RX12, "cheapest", "(IZ)I"⟩
abbrev cX12_slips : ByteArray := prog_14_method_90_code
def yX12_slips : MethodName := ⟨RX12, "slips", "(I)I"⟩
abbrev cX12_told : ByteArray := prog_14_method_91_code
def yX12_told : MethodName := ⟨RX12, "told", "()I"⟩
abbrev cX12_seen : ByteArray := prog_14_method_92_code
def yX12_seen : MethodName := ⟨RX12, "seen", "(Z)I"⟩
abbrev cX12_ask : ByteArray := prog_14_method_93_code
def yX12_ask : MethodName := ⟨RX12, "ask", "()I"⟩
abbrev cX12_princePays : ByteArray := prog_14_method_94_code
def yX12_princePays : MethodName := ⟨RX12, "princePays", "(IIII)I"⟩
abbrev cX12_manHas : ByteArray := prog_14_method_95_code
def yX12_manHas : MethodName := ⟨RX12, "manHas", "(IIII)I"⟩
abbrev cX12_rests : ByteArray := prog_14_method_96_code
def yX12_rests : MethodName := ⟨RX12, "rests", "(II)I"⟩
abbrev cX12_odds : ByteArray := prog_14_method_97_code
def yX12_odds : MethodName := ⟨RX12, "odds", "(II)I"⟩
abbrev cX12_bids : ByteArray := prog_14_method_98_code
def yX12_bids : MethodName := ⟨RX12, "bids", "(Z)I"⟩
abbrev cX12_gives : ByteArray := prog_14_method_99_code
def yX12_gives : MethodName := ⟨RX12, "gives", "(III)I"⟩
abbrev cX12_sold : ByteArray := prog_14_method_100_code
def yX12_sold : MethodName := ⟨RX12, "sold", "(I)I"⟩
abbrev cX12_secret : ByteArray := prog_14_method_101_code
def yX12_secret : MethodName := ⟨RX12, "secret", "()I"⟩
abbrev cX12_mates : ByteArray := prog_14_method_102_code
def yX12_mates : MethodName := ⟨RX12, "mates", "()I"⟩
abbrev cX12_knows : ByteArray := prog_14_method_103_code
def yX12_knows : MethodName := ⟨RX12, "knows", "(I)I"⟩
abbrev cX12_dearest : ByteArray := prog_14_method_104_code
def yX12_dearest : MethodName := ⟨RX12, "dearest", "()I"⟩
abbrev cX12_keptOnes : ByteArray := prog_14_method_105_code
def yX12_keptOnes : MethodName := ⟨RX12, "keptOnes", "(I)I"⟩
abbrev cX12_kept : ByteArray := prog_14_method_106_code
def yX12_kept : MethodName := ⟨RX12, "kept", "(Z)I"⟩
abbrev cX12_trial : ByteArray := prog_14_method_107_code
def yX12_trial : MethodName := ⟨RX12, "trial", "(IZ)I"⟩
abbrev cX12_span : ByteArray := prog_14_method_108_code
def yX12_span : MethodName := ⟨RX12, "span", "(IZ)I"⟩
abbrev cX12_logged : ByteArray := prog_14_method_109_code
def yX12_logged : MethodName := ⟨RX12, "logged", "(II)I"⟩
abbrev cX12_led : ByteArray := prog_14_method_110_code
def yX12_led : MethodName := ⟨RX12, "led", "(IZ)I"⟩
abbrev cX12_log : ByteArray := prog_14_method_111_code
def yX12_log : MethodName := ⟨RX12, "log", "(II)I"⟩
abbrev cX12_seed : ByteArray := prog_14_method_112_code
def yX12_seed : MethodName := ⟨RX12, "seed", "(I)I"⟩
abbrev cX12_undo : ByteArray := prog_14_method_113_code
def yX12_undo : MethodName := ⟨RX12, "undo", "()Z"⟩
abbrev cX12_image : ByteArray := prog_14_method_114_code
def yX12_image : MethodName := ⟨RX12, "image", "()V"⟩
abbrev cX12_back : ByteArray := prog_14_method_115_code
def yX12_back : MethodName := ⟨RX12, "back", "()Z"⟩
abbrev cX12_count : ByteArray := prog_14_method_116_code
def yX12_count : MethodName := ⟨RX12, "count", "(I)I"⟩
def RJx145de : String := "java/io/Serializable"
def TJx145de : u_T := fun k => match k with
  | _ => ("", "", "", false)
def tyJx145de : Nat → FieldType := fun k => match k with
  | _ => .int
abbrev wsJx145de0 : List Cond := u_ws RJx145de TJx145de 0
theorem nmJx145de : ∀ a, a < 0 → ∀ b, b < 0 → a ≠ b → (TJx145de a).2.1 ≠ (TJx145de b).2.1 := by decide +kernel
theorem tyJx145de_ok : ∀ k, k < 0 → parseFieldDescriptor (TJx145de k).2.2.1 = some (tyJx145de k) := by decide +kernel
def RJx9f9b0 : String := "java/lang/CharSequence"
def TJx9f9b0 : u_T := fun k => match k with
  | _ => ("", "", "", false)
def tyJx9f9b0 : Nat → FieldType := fun k => match k with
  | _ => .int
abbrev wsJx9f9b00 : List Cond := u_ws RJx9f9b0 TJx9f9b0 0
theorem nmJx9f9b0 : ∀ a, a < 0 → ∀ b, b < 0 → a ≠ b → (TJx9f9b0 a).2.1 ≠ (TJx9f9b0 b).2.1 := by decide +kernel
theorem tyJx9f9b0_ok : ∀ k, k < 0 → parseFieldDescriptor (TJx9f9b0 k).2.2.1 = some (tyJx9f9b0 k) := by decide +kernel
def RJx8e188 : String := "java/lang/Cloneable"
def TJx8e188 : u_T := fun k => match k with
  | _ => ("", "", "", false)
def tyJx8e188 : Nat → FieldType := fun k => match k with
  | _ => .int
abbrev wsJx8e1880 : List Cond := u_ws RJx8e188 TJx8e188 0
theorem nmJx8e188 : ∀ a, a < 0 → ∀ b, b < 0 → a ≠ b → (TJx8e188 a).2.1 ≠ (TJx8e188 b).2.1 := by decide +kernel
theorem tyJx8e188_ok : ∀ k, k < 0 → parseFieldDescriptor (TJx8e188 k).2.2.1 = some (tyJx8e188 k) := by decide +kernel
def RJxb160c : String := "java/lang/Comparable"
def TJxb160c : u_T := fun k => match k with
  | _ => ("", "", "", false)
def tyJxb160c : Nat → FieldType := fun k => match k with
  | _ => .int
abbrev wsJxb160c0 : List Cond := u_ws RJxb160c TJxb160c 0
theorem nmJxb160c : ∀ a, a < 0 → ∀ b, b < 0 → a ≠ b → (TJxb160c a).2.1 ≠ (TJxb160c b).2.1 := by decide +kernel
theorem tyJxb160c_ok : ∀ k, k < 0 → parseFieldDescriptor (TJxb160c k).2.2.1 = some (tyJxb160c k) := by decide +kernel
def RJ6 : String := "java/lang/Integer"
def TJ6 : u_T := fun k => match k with
  | _ => ("", "", "", false)
def tyJ6 : Nat → FieldType := fun k => match k with
  | _ => .int
abbrev wsJ60 : List Cond := u_ws RJ6 TJ6 0
theorem nmJ6 : ∀ a, a < 0 → ∀ b, b < 0 → a ≠ b → (TJ6 a).2.1 ≠ (TJ6 b).2.1 := by decide +kernel
theorem tyJ6_ok : ∀ k, k < 0 → parseFieldDescriptor (TJ6 k).2.2.1 = some (tyJ6 k) := by decide +kernel
abbrev cJ6_bitCount_0f7a4 : ByteArray := prog_23_method_49_code
def yJ6_bitCount_0f7a4 : MethodName := ⟨RJ6, "bitCount", "(I)I"⟩
def RJ13 : String := "java/lang/Long"
def TJ13 : u_T := fun k => match k with
  | _ => ("", "", "", false)
def tyJ13 : Nat → FieldType := fun k => match k with
  | _ => .int
abbrev wsJ130 : List Cond := u_ws RJ13 TJ13 0
theorem nmJ13 : ∀ a, a < 0 → ∀ b, b < 0 → a ≠ b → (TJ13 a).2.1 ≠ (TJ13 b).2.1 := by decide +kernel
theorem tyJ13_ok : ∀ k, k < 0 → parseFieldDescriptor (TJ13 k).2.2.1 = some (tyJ13 k) := by decide +kernel
abbrev cJ13_bitCount_95d88 : ByteArray := prog_24_method_50_code
def yJ13_bitCount_95d88 : MethodName := ⟨RJ13, "bitCount", "(J)I"⟩
def RJ9 : String := "java/lang/Math"
def TJ9 : u_T := fun k => match k with
  | _ => ("", "", "", false)
def tyJ9 : Nat → FieldType := fun k => match k with
  | _ => .int
abbrev wsJ90 : List Cond := u_ws RJ9 TJ9 0
theorem nmJ9 : ∀ a, a < 0 → ∀ b, b < 0 → a ≠ b → (TJ9 a).2.1 ≠ (TJ9 b).2.1 := by decide +kernel
theorem tyJ9_ok : ∀ k, k < 0 → parseFieldDescriptor (TJ9 k).2.2.1 = some (tyJ9 k) := by decide +kernel
abbrev cJ9_max_7cf53 : ByteArray := prog_25_method_65_code
def yJ9_max_7cf53 : MethodName := ⟨RJ9, "max", "(II)I"⟩
abbrev cJ9_min_7cf53 : ByteArray := prog_25_method_69_code
def yJ9_min_7cf53 : MethodName := ⟨RJ9, "min", "(II)I"⟩
def RJ0 : String := "java/lang/String"
def TJ0 : u_T := fun k => match k with
  | _ => ("", "", "", false)
def tyJ0 : Nat → FieldType := fun k => match k with
  | _ => .int
abbrev wsJ00 : List Cond := u_ws RJ0 TJ0 0
theorem nmJ0 : ∀ a, a < 0 → ∀ b, b < 0 → a ≠ b → (TJ0 a).2.1 ≠ (TJ0 b).2.1 := by decide +kernel
theorem tyJ0_ok : ∀ k, k < 0 → parseFieldDescriptor (TJ0 k).2.2.1 = some (tyJ0 k) := by decide +kernel
abbrev cJ0_length_8abf5 : ByteArray := prog_27_method_54_code
def yJ0_length_8abf5 : MethodName := ⟨RJ0, "length", "()I"⟩
abbrev cJ0_charAt_5068e : ByteArray := prog_27_method_56_code
def yJ0_charAt_5068e : MethodName := ⟨RJ0, "charAt", "(I)C"⟩
abbrev cJ0_coder_7d493 : ByteArray := prog_27_method_152_code
def yJ0_coder_7d493 : MethodName := ⟨RJ0, "coder", "()B"⟩
abbrev cJ0_isLatin1_aae02 : ByteArray := prog_27_method_154_code
def yJ0_isLatin1_aae02 : MethodName := ⟨RJ0, "isLatin1", "()Z"⟩
abbrev cJ0_checkIndex_df160 : ByteArray := prog_27_method_155_code
def yJ0_checkIndex_df160 : MethodName := ⟨RJ0, "checkIndex", "(II)V"⟩
def RJ1 : String := "java/lang/StringLatin1"
def TJ1 : u_T := fun k => match k with
  | _ => ("", "", "", false)
def tyJ1 : Nat → FieldType := fun k => match k with
  | _ => .int
abbrev wsJ10 : List Cond := u_ws RJ1 TJ1 0
theorem nmJ1 : ∀ a, a < 0 → ∀ b, b < 0 → a ≠ b → (TJ1 a).2.1 ≠ (TJ1 b).2.1 := by decide +kernel
theorem tyJ1_ok : ∀ k, k < 0 → parseFieldDescriptor (TJ1 k).2.2.1 = some (tyJ1 k) := by decide +kernel
abbrev cJ1_charAt_3b067 : ByteArray := prog_28_method_2_code
def yJ1_charAt_3b067 : MethodName := ⟨RJ1, "charAt", "([BI)C"⟩
def RJ2 : String := "java/lang/StringUTF16"
def TJ2 : u_T := fun k => match k with
  | _ => ("", "", "", false)
def tyJ2 : Nat → FieldType := fun k => match k with
  | _ => .int
abbrev wsJ20 : List Cond := u_ws RJ2 TJ2 0
theorem nmJ2 : ∀ a, a < 0 → ∀ b, b < 0 → a ≠ b → (TJ2 a).2.1 ≠ (TJ2 b).2.1 := by decide +kernel
theorem tyJ2_ok : ∀ k, k < 0 → parseFieldDescriptor (TJ2 k).2.2.1 = some (tyJ2 k) := by decide +kernel
abbrev cJ2_getChar_3b067 : ByteArray := prog_29_method_5_code
def yJ2_getChar_3b067 : MethodName := ⟨RJ2, "getChar", "([BI)C"⟩
abbrev cJ2_length_9d52b : ByteArray := prog_29_method_6_code
def yJ2_length_9d52b : MethodName := ⟨RJ2, "length", "([B)I"⟩
abbrev cJ2_charAt_3b067 : ByteArray := prog_29_method_83_code
def yJ2_charAt_3b067 : MethodName := ⟨RJ2, "charAt", "([BI)C"⟩
abbrev cJ2_checkIndex_2214a : ByteArray := prog_29_method_91_code
def yJ2_checkIndex_2214a : MethodName := ⟨RJ2, "checkIndex", "(I[B)V"⟩
def RJ10 : String := "java/lang/System"
def TJ10 : u_T := fun k => match k with
  | _ => ("", "", "", false)
def tyJ10 : Nat → FieldType := fun k => match k with
  | _ => .int
abbrev wsJ100 : List Cond := u_ws RJ10 TJ10 0
theorem nmJ10 : ∀ a, a < 0 → ∀ b, b < 0 → a ≠ b → (TJ10 a).2.1 ≠ (TJ10 b).2.1 := by decide +kernel
theorem tyJ10_ok : ∀ k, k < 0 → parseFieldDescriptor (TJ10 k).2.2.1 = some (tyJ10 k) := by decide +kernel
def RJxfd54e : String := "java/lang/constant/Constable"
def TJxfd54e : u_T := fun k => match k with
  | _ => ("", "", "", false)
def tyJxfd54e : Nat → FieldType := fun k => match k with
  | _ => .int
abbrev wsJxfd54e0 : List Cond := u_ws RJxfd54e TJxfd54e 0
theorem nmJxfd54e : ∀ a, a < 0 → ∀ b, b < 0 → a ≠ b → (TJxfd54e a).2.1 ≠ (TJxfd54e b).2.1 := by decide +kernel
theorem tyJxfd54e_ok : ∀ k, k < 0 → parseFieldDescriptor (TJxfd54e k).2.2.1 = some (tyJxfd54e k) := by decide +kernel
def RJx3cf43 : String := "java/lang/constant/ConstantDesc"
def TJx3cf43 : u_T := fun k => match k with
  | _ => ("", "", "", false)
def tyJx3cf43 : Nat → FieldType := fun k => match k with
  | _ => .int
abbrev wsJx3cf430 : List Cond := u_ws RJx3cf43 TJx3cf43 0
theorem nmJx3cf43 : ∀ a, a < 0 → ∀ b, b < 0 → a ≠ b → (TJx3cf43 a).2.1 ≠ (TJx3cf43 b).2.1 := by decide +kernel
theorem tyJx3cf43_ok : ∀ k, k < 0 → parseFieldDescriptor (TJx3cf43 k).2.2.1 = some (tyJx3cf43 k) := by decide +kernel
def RJ7 : String := "java/util/Arrays"
def TJ7 : u_T := fun k => match k with
  | _ => ("", "", "", false)
def tyJ7 : Nat → FieldType := fun k => match k with
  | _ => .int
abbrev wsJ70 : List Cond := u_ws RJ7 TJ7 0
theorem nmJ7 : ∀ a, a < 0 → ∀ b, b < 0 → a ≠ b → (TJ7 a).2.1 ≠ (TJ7 b).2.1 := by decide +kernel
theorem tyJ7_ok : ∀ k, k < 0 → parseFieldDescriptor (TJ7 k).2.2.1 = some (tyJ7 k) := by decide +kernel
abbrev cJ7_fill_d0a16 : ByteArray := prog_35_method_101_code
def yJ7_fill_d0a16 : MethodName := ⟨RJ7, "fill", "([JJ)V"⟩
abbrev cJ7_fill_53178 : ByteArray := prog_35_method_103_code
def yJ7_fill_53178 : MethodName := ⟨RJ7, "fill", "([II)V"⟩
abbrev cJ7_copyOf_59c91 : ByteArray := prog_35_method_123_code
def yJ7_copyOf_59c91 : MethodName := ⟨RJ7, "copyOf", "([II)[I"⟩
def RJ3 : String := "jdk/internal/util/Preconditions"
def TJ3 : u_T := fun k => match k with
  | _ => ("", "", "", false)
def tyJ3 : Nat → FieldType := fun k => match k with
  | _ => .int
abbrev wsJ30 : List Cond := u_ws RJ3 TJ3 0
theorem nmJ3 : ∀ a, a < 0 → ∀ b, b < 0 → a ≠ b → (TJ3 a).2.1 ≠ (TJ3 b).2.1 := by decide +kernel
theorem tyJ3_ok : ∀ k, k < 0 → parseFieldDescriptor (TJ3 k).2.2.1 = some (tyJ3 k) := by decide +kernel
abbrev cJ3_checkIndex_8e157 : ByteArray := prog_37_method_11_code
def yJ3_checkIndex_8e157 : MethodName := ⟨RJ3, "checkIndex", "(IILjava/util/function/BiFunction;)I"⟩
def RL : String := "NailGoldLaw"
abbrev cL_book : ByteArray := method_3_code
def yL_book : MethodName := ⟨RL, "book", "(LNailGold;[J)I"⟩
abbrev cL_law : ByteArray := method_4_code
def yL_law : MethodName := ⟨RL, "law", "(LNailGold;[J)I"⟩
abbrev cL_step : ByteArray := method_5_code
def yL_step : MethodName := ⟨RL, "step", "(LNailGold;II[J)I"⟩
abbrev cL_man : ByteArray := method_6_code
def yL_man : MethodName := ⟨RL, "man", "(LNailGold;II[J)I"⟩
abbrev cL_test : ByteArray := method_7_code
def yL_test : MethodName := ⟨RL, "test", "(LNailGold;IZ[J)I"⟩
abbrev cL_rival : ByteArray := method_8_code
def yL_rival : MethodName := ⟨RL, "rival", "(LNailGold;IZ[J)I"⟩
abbrev cL_proof : ByteArray := method_9_code
def yL_proof : MethodName := ⟨RL, "proof", "(LNailGold;I[J)I"⟩
abbrev cL_tried : ByteArray := method_10_code
def yL_tried : MethodName := ⟨RL, "tried", "(LNailGold;II[J)I"⟩
abbrev cL_flee : ByteArray := method_11_code
def yL_flee : MethodName := ⟨RL, "flee", "(LNailGold;I[J)I"⟩
abbrev cL_sell : ByteArray := method_12_code
def yL_sell : MethodName := ⟨RL, "sell", "(LNailGold;III[J)I"⟩
abbrev cL_part : ByteArray := method_13_code
def yL_part : MethodName := ⟨RL, "part", "(LNailGold;II[J)I"⟩
abbrev cL_pay : ByteArray := method_14_code
def yL_pay : MethodName := ⟨RL, "pay", "(LNailGold;I[J)I"⟩
abbrev cL_days : ByteArray := method_15_code
def yL_days : MethodName := ⟨RL, "days", "(LNailGold;I[J)I"⟩
abbrev cL_ahead : ByteArray := method_16_code
def yL_ahead : MethodName := ⟨RL, "ahead", "(LNailGold;III[J)I"⟩
abbrev cL_owes : ByteArray := method_17_code
def yL_owes : MethodName := ⟨RL, "owes", "(LNailGold;I[J)I"⟩
abbrev cL_chest : ByteArray := method_18_code
def yL_chest : MethodName := ⟨RL, "chest", "(LNailGold;I[J)I"⟩
abbrev cL_lives : ByteArray := method_19_code
def yL_lives : MethodName := ⟨RL, "lives", "(LNailGold;I[J)I"⟩
abbrev cL_done : ByteArray := method_20_code
def yL_done : MethodName := ⟨RL, "done", "(LNailGold;I[J)I"⟩
abbrev cL_longest : ByteArray := method_21_code
def yL_longest : MethodName := ⟨RL, "longest", "(LNailGold;II[J)I"⟩
abbrev cL_needs : ByteArray := method_22_code
def yL_needs : MethodName := ⟨RL, "needs", "(LNailGold;II[J)I"⟩
abbrev cL_stopped : ByteArray := method_23_code
def yL_stopped : MethodName := ⟨RL, "stopped", "(LNailGold;II[J)I"⟩
abbrev cL_fewest : ByteArray := method_24_code
def yL_fewest : MethodName := ⟨RL, "fewest", "(LNailGold;I[J)I"⟩
abbrev cL_cheapest : ByteArray := method_25_code
def yL_cheapest : MethodName := ⟨RL, "cheapest", "(LNailGold;IZ[J)I"⟩
abbrev cL_slips : ByteArray := method_26_code
def yL_slips : MethodName := ⟨RL, "slips", "(LNailGold;I[J)I"⟩
abbrev cL_seen : ByteArray := method_27_code
def yL_seen : MethodName := ⟨RL, "seen", "(LNailGold;Z[J)I"⟩
abbrev cL_ask : ByteArray := method_28_code
def yL_ask : MethodName := ⟨RL, "ask", "(LNailGold;[J)I"⟩
abbrev cL_rests : ByteArray := method_29_code
def yL_rests : MethodName := ⟨RL, "rests", "(LNailGold;II[J)I"⟩
abbrev cL_odds : ByteArray := method_30_code
def yL_odds : MethodName := ⟨RL, "odds", "(LNailGold;II[J)I"⟩
abbrev cL_sold : ByteArray := method_31_code
def yL_sold : MethodName := ⟨RL, "sold", "(LNailGold;I[J)I"⟩
abbrev cL_knows : ByteArray := method_32_code
def yL_knows : MethodName := ⟨RL, "knows", "(LNailGold;I[J)I"⟩
abbrev cL_trial : ByteArray := method_33_code
def yL_trial : MethodName := ⟨RL, "trial", "(LNailGold;IZ[J)I"⟩
abbrev cL_span : ByteArray := method_34_code
def yL_span : MethodName := ⟨RL, "span", "(LNailGold;IZ[J)I"⟩
abbrev cL_led : ByteArray := method_35_code
def yL_led : MethodName := ⟨RL, "led", "(LNailGold;IZ[J)I"⟩
abbrev cL_log : ByteArray := method_36_code
def yL_log : MethodName := ⟨RL, "log", "(LNailGold;II[J)I"⟩
abbrev cL_law_ : ByteArray := code
def yL_law_ : MethodName := ⟨RL, "law", "([I)Z"⟩
abbrev vwCl : List vw_C := [(RX0, TX0, 12), (RX1, TX1, 1), (RX2, TX2, 10), (RX3, TX3, 3), (RX4, TX4, 2), (RX5, TX5, 3), (RX6, TX6, 2), (RX7, TX7, 6), (RX8, TX8, 2), (RX9, TX9, 11), (RX10, TX10, 5), (RX11, TX11, 17), (RX12, TX12, 25)]
end
section
def es_cx (M : Nat) : Bool := !Nat.beq (M % 512) 511
def es_ct (n : Nat) : Nat := match n with
  | 13 => 0
  | 15 => 1
  | 24 => 3
  | 26 => 2
  | 42 => 4
  | _ => 99
def es_veq (a b : (Nat × Nat)) : Bool := Nat.beq a.1 b.1 && Nat.beq a.2 b.2
end
section
abbrev es_V : Type := Nat × Nat
abbrev es_O : Type := Nat × Nat × List (Nat × es_V)
abbrev es_F : Type := List (Nat × Nat)
abbrev es_I : Type := Nat × Instr × Nat × List Nat
abbrev es_L : Type := List (Nat × es_V)
abbrev es_Op : Type := _root_.Jvm.ClassFile.Cond
def es_get {α : Type} : List (Nat × α) → Nat → Option α
  | [], _ => none
  | q :: t, k => bif Nat.beq q.1 k then some q.2 else es_get t k
def es_set {α : Type} : List (Nat × α) → Nat → α → List (Nat × α)
  | [], k, v => [(k, v)]
  | q :: t, k, v => bif Nat.beq q.1 k then (k, v) :: t else q :: es_set t k v
def es_del {α : Type} : List (Nat × α) → Nat → List (Nat × α)
  | [], _ => []
  | q :: t, k => bif Nat.beq q.1 k then es_del t k else q :: es_del t k
theorem es_beq {a b : Nat} : Nat.beq a b = true ↔ a = b := ⟨Nat.eq_of_beq_eq_true, fun h => by subst h; exact Nat.beq_refl a⟩
theorem es_beqf {a b : Nat} : Nat.beq a b = false ↔ a ≠ b := by
  constructor
  · intro h e; subst e; rw [Nat.beq_refl] at h; cases h
  · intro h
    cases hb : Nat.beq a b
    · rfl
    · exact absurd (es_beq.mp hb) h
theorem es_get_set {α : Type} (l : List (Nat × α)) (k j : Nat) (v : α) : es_get (es_set l k v) j = if j = k then some v else es_get l j := by
  induction l with
  | nil =>
    by_cases h : j = k
    · subst h; simp [es_set, es_get, es_beq.mpr rfl]
    · simp [es_set, es_get, es_beqf.mpr (Ne.symm h), h]
  | cons q t ih =>
    cases hq : Nat.beq q.1 k
    · simp only [es_set, hq, cond_false, es_get]
      cases hj : Nat.beq q.1 j
      · simp only [cond_false]; exact ih
      · have e1 := es_beq.mp hj
        have e2 := es_beqf.mp hq
        have e3 : ¬ j = k := fun e => e2 (e1.trans e)
        simp [e3]
    · have e1 := es_beq.mp hq
      simp only [es_set, hq, cond_true, es_get]
      by_cases h : j = k
      · subst h; simp [es_beq.mpr rfl]
      · have e3 : Nat.beq q.1 j = false := es_beqf.mpr (fun e => h (e.symm.trans e1))
        simp [es_beqf.mpr (Ne.symm h), h, e3]
theorem es_get_del {α : Type} (l : List (Nat × α)) (k j : Nat) : es_get (es_del l k) j = if j = k then none else es_get l j := by
  induction l with
  | nil => simp [es_del, es_get]
  | cons q t ih =>
    cases hq : Nat.beq q.1 k
    · simp only [es_del, hq, cond_false, es_get]
      cases hj : Nat.beq q.1 j
      · simp only [cond_false]; exact ih
      · have e1 := es_beq.mp hj
        have e2 := es_beqf.mp hq
        have e3 : ¬ j = k := fun e => e2 (e1.trans e)
        simp [e3]
    · have e1 := es_beq.mp hq
      simp only [es_del, hq, cond_true, es_get]
      rw [ih]
      by_cases h : j = k
      · simp [h]
      · have e3 : Nat.beq q.1 j = false := es_beqf.mpr (fun e => h (e.symm.trans e1))
        simp [h, e3]
def es_force {β : Type} (n : Nat) (k : Nat → β) : β := @Nat.rec (fun _ => β) (k 0) (fun m _ => k (m + 1)) n
theorem es_force_eq {β : Type} (n : Nat) (k : Nat → β) : es_force n k = k n := by cases n <;> rfl
def es_kn (F : es_F) (v : es_V) : Option Nat := match v.1 with
  | 0 => some v.2
  | 1 => match F[v.2]? with
    | some q => bif Nat.beq q.1 q.2 then some ((q.1 + 2147483648) % 4294967296) else none
    | none => none
  | _ => none
def es_ti (v : es_V) : Bool := Nat.beq v.1 0 || (Nat.beq v.1 1 || Nat.beq v.1 6)
def es_tr (v : es_V) : Bool := Nat.beq v.1 3 || (Nat.beq v.1 4 || (Nat.beq v.1 5 || (Nat.beq v.1 8 || Nat.beq v.1 9)))
def es_ta (v : es_V) : Bool := es_tr v || Nat.beq v.1 7
def es_c (z : Int32) : es_V := es_force z.toBitVec.toNat (fun n => (0, n))
def es_lc (z : Int64) : es_V := es_force z.toBitVec.toNat (fun n => (2, n))
def es_bz (n : Nat) : Nat := (n + 2147483648) % 4294967296
def es_cmp (op : es_Op) (x y : Nat) : Bool := match op with
  | .eq => Nat.beq x y
  | .ne => !Nat.beq x y
  | .lt => Nat.blt x y
  | .ge => Nat.ble y x
  | .gt => Nat.blt y x
  | .le => Nat.ble x y
def es_sw (op : es_Op) : es_Op := match op with
  | .eq => .eq
  | .ne => .ne
  | .lt => .gt
  | .ge => .le
  | .gt => .lt
  | .le => .ge
def es_ng (op : es_Op) : es_Op := match op with
  | .eq => .ne
  | .ne => .eq
  | .lt => .ge
  | .ge => .lt
  | .gt => .le
  | .le => .gt
def es_iv (op : es_Op) (c : Nat) (q : Nat × Nat) : List (Nat × Nat) := match op with
  | .eq => bif Nat.ble q.1 c && Nat.ble c q.2 then [(c, c)] else []
  | .ne => bif Nat.beq q.1 c then (bif Nat.beq q.2 c then [] else [(c + 1, q.2)]) else bif Nat.beq q.2 c then [(q.1, c - 1)] else [q]
  | .lt => bif Nat.blt q.1 c then [(q.1, bif Nat.blt q.2 c then q.2 else c - 1)] else []
  | .ge => bif Nat.ble c q.2 then [(bif Nat.ble c q.1 then q.1 else c, q.2)] else []
  | .gt => bif Nat.blt c q.2 then [(bif Nat.blt c q.1 then q.1 else c + 1, q.2)] else []
  | .le => bif Nat.ble q.1 c then [(q.1, bif Nat.ble q.2 c then q.2 else c)] else []
def es_br (F : es_F) (op : es_Op) (a b : es_V) : List es_F := match es_kn F a, es_kn F b with
  | some x, some y => bif es_cmp op (es_bz x) (es_bz y) then [F] else []
  | none, some y => bif Nat.beq a.1 1 then (match F[a.2]? with
      | some q => (es_iv op (es_bz y) q).map (fun r => F.set a.2 r)
      | none => [F]) else [F]
  | some x, none => bif Nat.beq b.1 1 then (match F[b.2]? with
      | some q => (es_iv (es_sw op) (es_bz x) q).map (fun r => F.set b.2 r)
      | none => [F]) else [F]
  | none, none => [F]
def es_st (L : es_L) (i : Nat) (v : es_V) : es_L := es_set (match i with
  | 0 => L
  | j + 1 => match es_get L j with
    | some w => bif Nat.beq w.1 2 then es_del L j else L
    | none => L) i v
def es_bin (f : Int32 → Int32 → Int32) (F : es_F) (a b : es_V) : es_V := match es_kn F a, es_kn F b with
  | some x, some y => es_c (f (nI x) (nI y))
  | _, _ => (6, 0)
def es_lbin (f : Int64 → Int64 → Int64) (a b : es_V) : es_V := es_lc (f (lN a.2) (lN b.2))
def es_un (f : Int32 → Int32) (F : es_F) (a : es_V) : es_V := match es_kn F a with
  | some x => es_c (f (nI x))
  | none => (6, 0)
def es_to (pc : Nat) (off : Int) : Option Nat := match (pc : Int) + off with
  | .ofNat t => some t
  | .negSucc _ => none
def es_i2 (f : Int32 → Int32 → Int32) (pc : Nat) (L : es_L) (S : List es_V) (F : es_F) : Option (Nat × es_L × List es_V) := match S with
  | b :: a :: S' => bif es_ti a && es_ti b then some (pc + 1, L, es_bin f F a b :: S') else none
  | _ => none
def es_d2 (f : Int32 → Int32 → Int32) (pc : Nat) (L : es_L) (S : List es_V) (F : es_F) : Option (Nat × es_L × List es_V) := match S with
  | b :: a :: S' => match es_kn F b with
    | some y => bif es_ti a && (es_ti b && !decide (nI y = 0)) then some (pc + 1, L, es_bin f F a b :: S') else none
    | none => none
  | _ => none
def es_l2 (f : Int64 → Int64 → Int64) (pc : Nat) (L : es_L) (S : List es_V) : Option (Nat × es_L × List es_V) := match S with
  | b :: a :: S' => bif Nat.beq a.1 2 && Nat.beq b.1 2 then some (pc + 1, L, es_lbin f a b :: S') else none
  | _ => none
def es_lsh (f : Int64 → Int32 → Int64) (pc : Nat) (L : es_L) (S : List es_V) (F : es_F) : Option (Nat × es_L × List es_V) := match S with
  | b :: a :: S' => match es_kn F b with
    | some y => bif Nat.beq a.1 2 && es_ti b then some (pc + 1, L, es_lc (f (lN a.2) (nI y)) :: S') else none
    | none => none
  | _ => none
def es_ld (t : es_V → Bool) (i n pc : Nat) (L : es_L) (S : List es_V) : Option (Nat × es_L × List es_V) := match es_get L i with
  | some v => bif t v then some (pc + n, L, v :: S) else none
  | none => none
def es_sto (t : es_V → Bool) (nL i n pc : Nat) (L : es_L) (S : List es_V) : Option (Nat × es_L × List es_V) := match S with
  | v :: S' => bif t v && Nat.blt i nL then some (pc + n, es_st L i v, S') else none
  | _ => none
def es_lst (nL i n pc : Nat) (L : es_L) (S : List es_V) : Option (Nat × es_L × List es_V) := match S with
  | v :: S' => bif Nat.beq v.1 2 && Nat.blt (i + 1) nL then some (pc + n, es_del (es_st L i v) (i + 1), S') else none
  | _ => none
def es_t2 (v : es_V) : Bool := Nat.beq v.1 2
def es_pure (nL : Nat) (ins : Instr) (pc : Nat) (L : es_L) (S : List es_V) (F : es_F) : Option (Nat × es_L × List es_V) := match ins with
  | .iconst n => some (pc + 1, L, es_c (Int32.ofInt n) :: S)
  | .bipush n => some (pc + 2, L, es_c ((Int8.ofInt n).toInt32) :: S)
  | .sipush n => some (pc + 3, L, es_c ((Int16.ofInt n).toInt32) :: S)
  | .lconst n => some (pc + 1, L, es_lc (Int64.ofNat (n : Nat)) :: S)
  | .iload_n k => es_ld es_ti k 1 pc L S
  | .iload k => es_ld es_ti k 2 pc L S
  | .lload_n k => es_ld es_t2 k 1 pc L S
  | .lload k => es_ld es_t2 k 2 pc L S
  | .aload_n k => es_ld es_tr k 1 pc L S
  | .aload k => es_ld es_tr k 2 pc L S
  | .istore_n k => es_sto es_ti nL k 1 pc L S
  | .istore k => es_sto es_ti nL k 2 pc L S
  | .lstore_n k => es_lst nL k 1 pc L S
  | .lstore k => es_lst nL k 2 pc L S
  | .astore_n k => es_sto es_ta nL k 1 pc L S
  | .astore k => es_sto es_ta nL k 2 pc L S
  | .iinc k n => match es_get L k with
    | some v => bif es_ti v && Nat.blt k nL then some (pc + 3, es_st L k (es_un (fun x => x + Int32.ofInt n) F v), S) else none
    | none => none
  | .iadd => es_i2 (fun x y => x + y) pc L S F
  | .isub => es_i2 (fun x y => x - y) pc L S F
  | .imul => es_i2 (fun x y => x * y) pc L S F
  | .iand => es_i2 (fun x y => x &&& y) pc L S F
  | .ior => es_i2 (fun x y => x ||| y) pc L S F
  | .ixor => es_i2 (fun x y => x ^^^ y) pc L S F
  | .ishl => es_i2 (fun x y => x <<< (y &&& 31)) pc L S F
  | .ishr => es_i2 (fun x y => x >>> (y &&& 31)) pc L S F
  | .iushr => es_i2 (fun x y => (x.toUInt32 >>> (y.toUInt32 &&& Int32.toUInt32 31)).toInt32) pc L S F
  | .idiv => es_d2 (fun x y => x / y) pc L S F
  | .irem => es_d2 (fun x y => x - x / y * y) pc L S F
  | .ladd => es_l2 (fun x y => x + y) pc L S
  | .lsub => es_l2 (fun x y => x - y) pc L S
  | .lmul => es_l2 (fun x y => x * y) pc L S
  | .land => es_l2 (fun x y => x &&& y) pc L S
  | .lor => es_l2 (fun x y => x ||| y) pc L S
  | .ldiv => match S with
    | b :: a :: S' => bif (Nat.beq a.1 2 && Nat.beq b.1 2) && !decide (lN b.2 = 0) then some (pc + 1, L, es_lbin (fun x y => x / y) a b :: S') else none
    | _ => none
  | .lshl => es_lsh (fun x y => x <<< (y.toInt64 &&& 63)) pc L S F
  | .lshr => es_lsh (fun x y => x >>> (y.toInt64 &&& 63)) pc L S F
  | .lushr => es_lsh (fun x y => (x.toUInt64 >>> (y.toInt64.toUInt64 &&& Int64.toUInt64 63)).toInt64) pc L S F
  | .i2l => match S with
    | a :: S' => match es_kn F a with
      | some x => some (pc + 1, L, es_lc (nI x).toInt64 :: S')
      | none => none
    | _ => none
  | .l2i => match S with
    | a :: S' => bif Nat.beq a.1 2 then some (pc + 1, L, es_c (lN a.2).toInt32 :: S') else none
    | _ => none
  | .lcmp => match S with
    | b :: a :: S' => bif Nat.beq a.1 2 && Nat.beq b.1 2 then some (pc + 1, L, es_c (lg_cmp (lN a.2) (lN b.2)) :: S') else none
    | _ => none
  | .aconst_null => some (pc + 1, L, (4, 0) :: S)
  | .ineg => match S with
    | a :: S' => bif es_ti a then some (pc + 1, L, es_un (fun x => -x) F a :: S') else none
    | _ => none
  | .i2c => match S with
    | a :: S' => bif es_ti a then some (pc + 1, L, es_un (fun x => (x.toUInt32 % 65536).toInt32) F a :: S') else none
    | _ => none
  | .dup => match S with
    | a :: S' => bif es_t2 a then none else some (pc + 1, L, a :: a :: S')
    | _ => none
  | .pop => match S with
    | a :: S' => bif es_t2 a then none else some (pc + 1, L, S')
    | _ => none
  | .dup2 => match S with
    | b :: a :: S' => bif es_t2 a || es_t2 b then none else some (pc + 1, L, b :: a :: b :: a :: S')
    | _ => none
  | .goto off => match es_to pc off with
    | some t => some (t, L, S)
    | none => none
  | .ifnull off => match S with
    | a :: S' => bif Nat.beq a.1 4 then (match es_to pc off with
        | some t => some (t, L, S')
        | none => none) else bif Nat.beq a.1 3 then some (pc + 3, L, S') else none
    | _ => none
  | .ifnonnull off => match S with
    | a :: S' => bif Nat.beq a.1 3 then (match es_to pc off with
        | some t => some (t, L, S')
        | none => none) else bif Nat.beq a.1 4 then some (pc + 3, L, S') else none
    | _ => none
  | _ => none
def es_len (ins : Instr) : Nat := match ins with
  | .bipush _ | .iload _ | .lload _ | .aload _ | .istore _ | .lstore _ | .astore _ | .ldc _ | .newarray _ => 2
  | .sipush _ | .iinc _ _ | .goto _ | .ifnull _ | .ifnonnull _ | .ifCond _ _ | .if_icmp _ _ | .getfield _ | .putfield _ | .getstatic _ | .new _ | .anewarray _ | .invokevirtual _ | .invokespecial _ | .invokestatic _ | .ldc_w _ | .ldc2_w _ => 3
  | _ => 1
end
section
def es_zb (x : Int32) : Nat := (x.toInt + 2147483648).toNat
theorem es_rng (x : Int32) : -2147483648 ≤ x.toInt ∧ x.toInt < 2147483648 := ⟨Int32.le_toInt x, Int32.toInt_lt x⟩
theorem es_nb (x : Int32) : nI x.toBitVec.toNat = x := by
  apply Int32.toBitVec_inj.mp
  show BitVec.ofNat 32 x.toBitVec.toNat = x.toBitVec
  simp
theorem es_lb (x : Int64) : lN x.toBitVec.toNat = x := by
  apply Int64.toBitVec_inj.mp
  show BitVec.ofNat 64 x.toBitVec.toNat = x.toBitVec
  simp
theorem es_nIt (n : Nat) : (nI n).toInt = Int.bmod n 4294967296 := by
  show (Int32.ofNat n).toInt = _
  simp
theorem es_zbn (n : Nat) : es_zb (nI n) = es_bz n := by
  unfold es_zb es_bz
  rw [es_nIt]
  simp only [Int.bmod]
  split <;> omega
theorem es_zinj {x y : Int32} (h : es_zb x = es_zb y) : x = y := by
  have h1 := es_rng x
  have h2 := es_rng y
  unfold es_zb at h
  apply Int32.toInt_inj.mp
  omega
theorem es_zlt {x y : Int32} : x < y ↔ es_zb x < es_zb y := by
  have h1 := es_rng x
  have h2 := es_rng y
  unfold es_zb
  rw [Int32.lt_iff_toInt_lt]
  omega
theorem es_zle {x y : Int32} : x ≤ y ↔ es_zb x ≤ es_zb y := by
  have h1 := es_rng x
  have h2 := es_rng y
  unfold es_zb
  rw [Int32.le_iff_toInt_le]
  omega
theorem es_bzt (x : Int32) : nI ((es_zb x + 2147483648) % 4294967296) = x := by
  apply es_zinj
  rw [es_zbn]
  have h1 := es_rng x
  unfold es_zb es_bz
  omega
theorem es_blt {a b : Nat} : Nat.blt a b = true ↔ a < b := by
  show Nat.ble (a + 1) b = true ↔ a < b
  rw [Nat.ble_eq]; omega
theorem es_c_eq (z : Int32) : es_c z = (0, z.toBitVec.toNat) := es_force_eq _ _
theorem es_lc_eq (z : Int64) : es_lc z = (2, z.toBitVec.toNat) := es_force_eq _ _
section Rel
variable (n0 : Nat) (b : Nat → Nat) (ρ : Nat → Int32)
def es_vr (v : es_V) (x : Value) : Prop := match v.1 with
  | 0 => x = .int (nI v.2)
  | 1 => x = .int (ρ v.2)
  | 2 => x = .long (lN v.2)
  | 3 => x = .ref (n0 + v.2)
  | 4 => x = .null
  | 5 => x = .ref (b 0)
  | 7 => ∃ a : Nat, x = .ref a
  | 8 => x = .ref (b (2 * v.2 + 1))
  | 9 => x = .ref (b (2 * v.2 + 2))
  | 10 => x = .null ∨ ∃ a : Nat, x = .ref a
  | _ => ∃ z : Int32, x = .int z
def es_sr : List es_V → List Value → Prop
  | [], st => st = []
  | v :: S, st => ∃ x st', st = x :: st' ∧ es_vr n0 b ρ v x ∧ es_sr S st'
def es_lr (nL : Nat) (L : es_L) (ls : Array Slot) : Prop := ls.size = nL ∧ lv_wf ls ∧ ∀ i v, es_get L i = some v → ∃ x, ls[i]? = some (.val x) ∧ es_vr n0 b ρ v x
def es_fr (F : es_F) : Prop := ∀ (k : Nat) (q : Nat × Nat), F[k]? = some q → q.1 ≤ es_zb (ρ k) ∧ es_zb (ρ k) ≤ q.2
end Rel
section RelLaws
variable {n0 : Nat} {b : Nat → Nat} {ρ : Nat → Int32}
theorem es_vr0 {n : Nat} {x : Value} (h : es_vr n0 b ρ (0, n) x) : x = .int (nI n) := h
theorem es_vrc (z : Int32) : es_vr n0 b ρ (es_c z) (.int z) := by
  rw [es_c_eq]
  show Value.int z = Value.int (nI z.toBitVec.toNat)
  rw [es_nb]
theorem es_vrlc (z : Int64) : es_vr n0 b ρ (es_lc z) (.long z) := by
  rw [es_lc_eq]
  show Value.long z = Value.long (lN z.toBitVec.toNat)
  rw [es_lb]
theorem es_ti_int {v : es_V} {x : Value} (h : es_vr n0 b ρ v x) (ht : es_ti v = true) : ∃ z, x = .int z := by
  obtain ⟨t, n⟩ := v
  simp only [es_ti, Bool.or_eq_true, es_beq] at ht
  rcases ht with rfl | rfl | rfl
  · exact ⟨_, h⟩
  · exact ⟨_, h⟩
  · exact h
theorem es_t2_long {v : es_V} {x : Value} (h : es_vr n0 b ρ v x) (ht : Nat.beq v.1 2 = true) : x = .long (lN v.2) := by
  obtain ⟨t, n⟩ := v
  have e := es_beq.mp ht
  dsimp only at e
  subst e
  exact h
theorem es_t3_ref {v : es_V} {x : Value} (h : es_vr n0 b ρ v x) (ht : Nat.beq v.1 3 = true) : x = .ref (n0 + v.2) := by
  obtain ⟨t, n⟩ := v
  have e := es_beq.mp ht
  dsimp only at e
  subst e
  exact h
theorem es_t4_null {v : es_V} {x : Value} (h : es_vr n0 b ρ v x) (ht : Nat.beq v.1 4 = true) : x = .null := by
  obtain ⟨t, n⟩ := v
  have e := es_beq.mp ht
  dsimp only at e
  subst e
  exact h
theorem es_tr_ref {v : es_V} {x : Value} (h : es_vr n0 b ρ v x) (ht : es_tr v = true) : x = .null ∨ ∃ a, x = .ref a := by
  obtain ⟨t, n⟩ := v
  simp only [es_tr, Bool.or_eq_true, es_beq] at ht
  rcases ht with rfl | rfl | rfl | rfl | rfl
  · exact Or.inr ⟨_, h⟩
  · exact Or.inl h
  · exact Or.inr ⟨_, h⟩
  · exact Or.inr ⟨_, h⟩
  · exact Or.inr ⟨_, h⟩
theorem es_t7_ref {v : es_V} {x : Value} (h : es_vr n0 b ρ v x) (ht : es_ta v = true) : x = .null ∨ ∃ a, x = .ref a := by
  unfold es_ta at ht
  rw [Bool.or_eq_true, es_beq] at ht
  rcases ht with h1 | h1
  · exact es_tr_ref h h1
  · obtain ⟨t, n⟩ := v
    dsimp only at h1
    subst h1
    exact Or.inr h
theorem es_cat1 {v : es_V} {x : Value} (h : es_vr n0 b ρ v x) (ht : Nat.beq v.1 2 = false) : x.category = 1 := by
  obtain ⟨t, n⟩ := v
  have e := es_beqf.mp ht
  dsimp only at e
  match t, h with
  | 0, h => have h' : x = .int (nI n) := h; rw [h']; rfl
  | 1, h => have h' : x = .int (ρ n) := h; rw [h']; rfl
  | 2, h => exact absurd rfl e
  | 3, h => have h' : x = .ref (n0 + n) := h; rw [h']; rfl
  | 4, h => have h' : x = .null := h; rw [h']; rfl
  | 5, h => have h' : x = .ref (b 0) := h; rw [h']; rfl
  | 6, h => obtain ⟨z, hz⟩ : ∃ z : Int32, x = .int z := h; rw [hz]; rfl
  | 7, h => obtain ⟨z, hz⟩ : ∃ a : Nat, x = .ref a := h; rw [hz]; rfl
  | 8, h => have h' : x = .ref (b (2 * n + 1)) := h; rw [h']; rfl
  | 9, h => have h' : x = .ref (b (2 * n + 2)) := h; rw [h']; rfl
  | 10, h =>
    have h' : x = .null ∨ ∃ a : Nat, x = .ref a := h
    rcases h' with h' | ⟨a, h'⟩
    · rw [h']; rfl
    · rw [h']; rfl
  | t + 11, h => obtain ⟨z, hz⟩ : ∃ z : Int32, x = .int z := h; rw [hz]; rfl
theorem es_ti_n2 {v : es_V} (ht : es_ti v = true) : Nat.beq v.1 2 = false := by
  simp only [es_ti, Bool.or_eq_true, es_beq] at ht
  rcases ht with h | h | h <;> rw [h] <;> rfl
theorem es_kn_ok {F : es_F} {v : es_V} {x : Value} {n : Nat} (hF : es_fr ρ F) (h : es_vr n0 b ρ v x) (hk : es_kn F v = some n) : x = .int (nI n) := by
  obtain ⟨t, m⟩ := v
  match t, h, hk with
  | 0, h, hk => have e : some m = some n := hk; cases e; exact h
  | 1, h, hk =>
    have h' : x = .int (ρ m) := h
    have hk' : (match F[m]? with | some q => bif Nat.beq q.1 q.2 then some ((q.1 + 2147483648) % 4294967296) else none | none => none) = some n := hk
    cases hq : F[m]? with
    | none => rw [hq] at hk'; cases hk'
    | some q =>
      rw [hq] at hk'
      dsimp only at hk'
      cases hb : Nat.beq q.1 q.2
      · rw [hb] at hk'; cases hk'
      · rw [hb] at hk'
        have e := es_beq.mp hb
        have e2 := hF m q hq
        have e3 : q.1 = es_zb (ρ m) := by omega
        have e4 : some ((q.1 + 2147483648) % 4294967296) = some n := hk'
        rw [h', ← Option.some.inj e4, e3, es_bzt]
  | 2, h, hk => cases hk
  | 3, h, hk => cases hk
  | 4, h, hk => cases hk
  | 5, h, hk => cases hk
  | t + 6, h, hk => cases hk
theorem es_kn_ti {F : es_F} {v : es_V} {n : Nat} (hk : es_kn F v = some n) : es_ti v = true := by
  obtain ⟨t, m⟩ := v
  match t, hk with
  | 0, hk => rfl
  | 1, hk => rfl
  | 2, hk => cases hk
  | 3, hk => cases hk
  | 4, hk => cases hk
  | 5, hk => cases hk
  | t + 6, hk => cases hk
theorem es_bin_ok {F : es_F} (hF : es_fr ρ F) (f : Int32 → Int32 → Int32) {va vb : es_V} {x y : Int32} (ha : es_vr n0 b ρ va (.int x)) (hb : es_vr n0 b ρ vb (.int y)) : es_vr n0 b ρ (es_bin f F va vb) (.int (f x y)) := by
  unfold es_bin
  split
  · rename_i p q hp hq
    have e1 := es_kn_ok hF ha hp
    have e2 := es_kn_ok hF hb hq
    cases e1; cases e2
    exact es_vrc _
  · exact ⟨_, rfl⟩
theorem es_un_ok {F : es_F} (hF : es_fr ρ F) (f : Int32 → Int32) {va : es_V} {x : Int32} (ha : es_vr n0 b ρ va (.int x)) : es_vr n0 b ρ (es_un f F va) (.int (f x)) := by
  unfold es_un
  split
  · rename_i p hp
    have e1 := es_kn_ok hF ha hp
    cases e1
    exact es_vrc _
  · exact ⟨_, rfl⟩
theorem es_cmp_eq (op : es_Op) (x y : Int32) : es_cmp op (es_zb x) (es_zb y) = true ↔ (match op with
  | .eq => x = y
  | .ne => ¬ x = y
  | .lt => x < y
  | .ge => y ≤ x
  | .gt => y < x
  | .le => x ≤ y) := by
  cases op
  · exact ⟨fun h => es_zinj (es_beq.mp h), fun h => es_beq.mpr (by rw [show x = y from h])⟩
  · show (!Nat.beq (es_zb x) (es_zb y)) = true ↔ ¬ x = y
    rw [Bool.not_eq_true', es_beqf]
    exact ⟨fun h e => h (by rw [e]), fun h e => h (es_zinj e)⟩
  · show Nat.blt _ _ = true ↔ x < y
    rw [es_blt, es_zlt]
  · show Nat.ble _ _ = true ↔ y ≤ x
    rw [Nat.ble_eq, es_zle]
  · show Nat.blt _ _ = true ↔ y < x
    rw [es_blt, es_zlt]
  · show Nat.ble _ _ = true ↔ x ≤ y
    rw [Nat.ble_eq, es_zle]
theorem es_cmp_ng (op : es_Op) (x y : Nat) : es_cmp (es_ng op) x y = !es_cmp op x y := by
  have hlt : ∀ a c : Nat, Nat.ble a c = !Nat.blt c a := fun a c => by
    cases h : Nat.blt c a
    · have : ¬ c < a := fun e => by rw [es_blt.mpr e] at h; cases h
      exact Nat.ble_eq.mpr (by omega)
    · have := es_blt.mp h
      cases h2 : Nat.ble a c
      · rfl
      · have := Nat.ble_eq.mp h2; omega
  cases op <;> simp only [es_ng, es_cmp, Bool.not_not]
  · exact hlt _ _
  · rw [hlt, Bool.not_not]
  · exact hlt _ _
  · rw [hlt, Bool.not_not]
theorem es_cmp_sw (op : es_Op) (x y : Nat) : es_cmp (es_sw op) y x = es_cmp op x y := by
  have hb : Nat.beq y x = Nat.beq x y := by
    cases h : Nat.beq x y
    · exact es_beqf.mpr (Ne.symm (es_beqf.mp h))
    · exact es_beq.mpr (es_beq.mp h).symm
  cases op <;> simp only [es_sw, es_cmp, hb]
theorem es_iv_ok (op : es_Op) (c : Nat) (q : Nat × Nat) (z : Nat) (h1 : q.1 ≤ z) (h2 : z ≤ q.2) (h : es_cmp op z c = true) : ∃ r ∈ es_iv op c q, r.1 ≤ z ∧ z ≤ r.2 := by
  cases op
  · have e := es_beq.mp (show Nat.beq z c = true from h)
    subst e
    simp [es_iv, Nat.ble_eq.mpr h1, Nat.ble_eq.mpr h2]
  · have e : z ≠ c := es_beqf.mp (by simpa [es_cmp] using h)
    simp only [es_iv]
    cases ha : Nat.beq q.1 c
    · cases hb : Nat.beq q.2 c
      · exact ⟨q, List.mem_singleton.mpr rfl, h1, h2⟩
      · have := es_beq.mp hb
        exact ⟨(q.1, c - 1), List.mem_singleton.mpr rfl, h1, by show z ≤ c - 1; omega⟩
    · have := es_beq.mp ha
      cases hb : Nat.beq q.2 c
      · exact ⟨(c + 1, q.2), List.mem_singleton.mpr rfl, by show c + 1 ≤ z; omega, h2⟩
      · have := es_beq.mp hb; omega
  · have e : z < c := es_blt.mp h
    simp only [es_iv, es_blt.mpr (show q.1 < c by omega), cond_true]
    refine ⟨_, List.mem_singleton.mpr rfl, h1, ?_⟩
    cases hb : Nat.blt q.2 c
    · show z ≤ c - 1; omega
    · exact h2
  · have e : c ≤ z := Nat.ble_eq.mp h
    simp only [es_iv, Nat.ble_eq.mpr (show c ≤ q.2 by omega), cond_true]
    refine ⟨_, List.mem_singleton.mpr rfl, ?_, h2⟩
    cases hb : Nat.ble c q.1
    · exact e
    · exact h1
  · have e : c < z := es_blt.mp h
    simp only [es_iv, es_blt.mpr (show c < q.2 by omega), cond_true]
    refine ⟨_, List.mem_singleton.mpr rfl, ?_, h2⟩
    cases hb : Nat.blt c q.1
    · exact e
    · exact h1
  · have e : z ≤ c := Nat.ble_eq.mp h
    simp only [es_iv, Nat.ble_eq.mpr (show q.1 ≤ c by omega), cond_true]
    refine ⟨_, List.mem_singleton.mpr rfl, h1, ?_⟩
    cases hb : Nat.ble q.2 c
    · exact e
    · exact h2
theorem es_fr_set {F : es_F} (hF : es_fr ρ F) {k : Nat} {r : Nat × Nat} (h1 : r.1 ≤ es_zb (ρ k)) (h2 : es_zb (ρ k) ≤ r.2) : es_fr ρ (F.set k r) := by
  intro j q hq
  by_cases hj : k = j
  · subst hj
    rw [List.getElem?_set] at hq
    simp only [if_true] at hq
    by_cases hl : k < F.length
    · rw [if_pos hl] at hq; cases hq; exact ⟨h1, h2⟩
    · rw [if_neg hl] at hq; cases hq
  · rw [List.getElem?_set_ne hj] at hq
    exact hF j q hq
theorem es_br_ok {F : es_F} (hF : es_fr ρ F) (op : es_Op) {va vb : es_V} {x y : Int32} (ha : es_vr n0 b ρ va (.int x)) (hb : es_vr n0 b ρ vb (.int y)) (h : es_cmp op (es_zb x) (es_zb y) = true) : ∃ f ∈ es_br F op va vb, es_fr ρ f := by
  unfold es_br
  split
  · rename_i p q hp hq
    have e1 := es_kn_ok hF ha hp
    have e2 := es_kn_ok hF hb hq
    cases e1; cases e2
    rw [es_zbn, es_zbn] at h
    rw [h]
    exact ⟨F, List.mem_singleton.mpr rfl, hF⟩
  · rename_i q hp hq
    have e2 := es_kn_ok hF hb hq
    cases e2
    cases h1 : Nat.beq va.1 1
    · exact ⟨F, List.mem_singleton.mpr rfl, hF⟩
    · obtain ⟨t, k⟩ := va
      have e := es_beq.mp h1
      dsimp only at e
      subst e
      have hx : Value.int x = .int (ρ k) := ha
      cases hx
      dsimp only [cond_true]
      cases hk : F[k]? with
      | none => exact ⟨F, List.mem_singleton.mpr rfl, hF⟩
      | some r =>
        have hr := hF k r hk
        obtain ⟨r', hr', g1, g2⟩ := es_iv_ok op (es_bz q) r (es_zb (ρ k)) hr.1 hr.2 (by rw [← es_zbn]; exact h)
        exact ⟨_, List.mem_map.mpr ⟨r', hr', rfl⟩, es_fr_set hF g1 g2⟩
  · rename_i p hp hq
    have e1 := es_kn_ok hF ha hp
    cases e1
    cases h1 : Nat.beq vb.1 1
    · exact ⟨F, List.mem_singleton.mpr rfl, hF⟩
    · obtain ⟨t, k⟩ := vb
      have e := es_beq.mp h1
      dsimp only at e
      subst e
      have hx : Value.int y = .int (ρ k) := hb
      cases hx
      dsimp only [cond_true]
      cases hk : F[k]? with
      | none => exact ⟨F, List.mem_singleton.mpr rfl, hF⟩
      | some r =>
        have hr := hF k r hk
        obtain ⟨r', hr', g1, g2⟩ := es_iv_ok (es_sw op) (es_bz p) r (es_zb (ρ k)) hr.1 hr.2 (by rw [es_cmp_sw, ← es_zbn]; exact h)
        exact ⟨_, List.mem_map.mpr ⟨r', hr', rfl⟩, es_fr_set hF g1 g2⟩
  · exact ⟨F, List.mem_singleton.mpr rfl, hF⟩
theorem es_to_ok {pc : Nat} {off : Int} {t : Nat} (h : es_to pc off = some t) : (pc : Int) + off = (t : Int) := by
  unfold es_to at h
  split at h
  · rename_i u hu
    cases h
    exact hu
  · cases h
end RelLaws
end
section
section St
variable {n0 : Nat} {b : Nat → Nat} {ρ : Nat → Int32}
def es_all (ls : Array Slot) (nL : Nat) : List (Nat × Value) := (List.range nL).filterMap (fun (j : Nat) => match (ls[j]? : Option Slot) with
  | some (Slot.val x) => some (j, x)
  | _ => none)
theorem es_all_has {nL : Nat} {L : es_L} {ls : Array Slot} (h : es_lr n0 b ρ nL L ls) : lv_has ls nL (es_all ls nL) := by
  refine ⟨h.1, h.2.1, fun q hq => ?_⟩
  obtain ⟨j, -, hj⟩ := List.mem_filterMap.mp hq
  split at hj
  · rename_i x hx
    cases hj
    exact hx
  · cases hj
theorem es_all_in {nL j : Nat} {ls : Array Slot} {x : Value} (hs : ls.size = nL) (h : ls[j]? = some (.val x)) : (j, x) ∈ es_all ls nL := by
  have hl : j < nL := by rw [← hs]; exact (Array.getElem?_eq_some_iff.mp h).1
  refine List.mem_filterMap.mpr ⟨j, List.mem_range.mpr hl, ?_⟩
  rw [h]
theorem es_st_get {L : es_L} {i j : Nat} {v w : es_V} (h : es_get (es_st L i v) j = some w) : (j = i ∧ w = v) ∨ (j ≠ i ∧ es_get L j = some w ∧ (j + 1 = i → Nat.beq w.1 2 = false)) := by
  unfold es_st at h
  rw [es_get_set] at h
  by_cases hj : j = i
  · rw [if_pos hj] at h; cases h; exact Or.inl ⟨hj, rfl⟩
  · rw [if_neg hj] at h
    refine Or.inr ⟨hj, ?_⟩
    cases i with
    | zero => exact ⟨h, fun e => by omega⟩
    | succ k =>
      dsimp only at h
      cases hk : es_get L k with
      | none =>
        rw [hk] at h
        refine ⟨h, fun e => ?_⟩
        have : j = k := by omega
        subst this
        rw [hk] at h; cases h
      | some u =>
        rw [hk] at h
        dsimp only at h
        cases hu : Nat.beq u.1 2
        · rw [hu] at h
          dsimp only [cond_false] at h
          refine ⟨h, fun e => ?_⟩
          have : j = k := by omega
          subst this
          rw [hk] at h; cases h; exact hu
        · rw [hu] at h
          dsimp only [cond_true] at h
          rw [es_get_del] at h
          by_cases hjk : j = k
          · rw [if_pos hjk] at h; cases h
          · rw [if_neg hjk] at h
            exact ⟨h, fun e => by omega⟩
theorem es_lr_st {nL i : Nat} {L : es_L} {ls ls' : Array Slot} {v : es_V} {x : Value} (h : es_lr n0 b ρ nL L ls) (hv : es_vr n0 b ρ v x)
    (h' : lv_has ls' nL ((i, x) :: (es_all ls nL).filter (fun q => !(q.1 == i) && !(q.1 + 1 == i && q.2.category == 2)))) : es_lr n0 b ρ nL (es_st L i v) ls' := by
  refine ⟨h'.1, h'.2.1, fun j w hw => ?_⟩
  rcases es_st_get hw with ⟨rfl, rfl⟩ | ⟨hj, hw, h2⟩
  · exact ⟨x, h'.2.2 (j, x) List.mem_cons_self, hv⟩
  · obtain ⟨y, hy, hyr⟩ := h.2.2 j w hw
    refine ⟨y, h'.2.2 (j, y) (List.mem_cons_of_mem _ (List.mem_filter.mpr ⟨es_all_in h.1 hy, ?_⟩)), hyr⟩
    have e1 : (j == i) = false := by simpa using hj
    simp only [e1, Bool.not_false, Bool.true_and]
    by_cases e2 : j + 1 = i
    · have := es_cat1 hyr (h2 e2)
      simp [this]
    · simp [e2]
theorem es_lr_st2 {nL i : Nat} {L : es_L} {ls ls' : Array Slot} {v : es_V} {x : Value} (h : es_lr n0 b ρ nL L ls) (hv : es_vr n0 b ρ v x)
    (h' : lv_has ls' nL ((i, x) :: (es_all ls nL).filter (fun q => !(q.1 == i) && (!(q.1 == i + 1) && !(q.1 + 1 == i && q.2.category == 2))))) : es_lr n0 b ρ nL (es_del (es_st L i v) (i + 1)) ls' := by
  refine ⟨h'.1, h'.2.1, fun j w hw => ?_⟩
  rw [es_get_del] at hw
  by_cases hj1 : j = i + 1
  · rw [if_pos hj1] at hw; cases hw
  · rw [if_neg hj1] at hw
    rcases es_st_get hw with ⟨rfl, rfl⟩ | ⟨hj, hw, h2⟩
    · exact ⟨x, h'.2.2 (j, x) List.mem_cons_self, hv⟩
    · obtain ⟨y, hy, hyr⟩ := h.2.2 j w hw
      refine ⟨y, h'.2.2 (j, y) (List.mem_cons_of_mem _ (List.mem_filter.mpr ⟨es_all_in h.1 hy, ?_⟩)), hyr⟩
      have e1 : (j == i) = false := by simpa using hj
      have e3 : (j == i + 1) = false := by simpa using hj1
      simp only [e1, e3, Bool.not_false, Bool.true_and]
      by_cases e2 : j + 1 = i
      · have := es_cat1 hyr (h2 e2)
        simp [this]
      · simp [e2]
end St
section Pure
variable {p : Program} {l : Launch} {e : Env} {R : Room} {s : State} {m : MethodId} {args : Array Value} {below : List Frame} {meth : Method} {c : Code} {H : Heap} {locs : List Loc} {cells slots : Nat} {Q : State → Prop}
variable {cc : ByteArray} {pc pc' nL len : Nat} {ls : Array Slot} {n0 : Nat} {b : Nat → Nat} {ρ : Nat → Int32} {L L' : es_L} {S S' : List es_V} {F : es_F} {st : List Value} {ins : Instr}
/-- what a step without heap owes -/
def es_PG (p : Program) (l : Launch) (e : Env) (R : Room) (s : State) (m : MethodId) (args : Array Value) (below : List Frame) (meth : Method) (c : Code) (H : Heap) (locs : List Loc) (cells slots : Nat) (Q : State → Prop) (n0 : Nat) (b : Nat → Nat) (ρ : Nat → Int32) (nL : Nat) (pc' : Nat) (L' : es_L) (S' : List es_V) : Prop :=
  ∀ (ls' : Array Slot) (st' : List Value), es_lr n0 b ρ nL L' ls' → es_sr n0 b ρ S' st' → W p l e R s m args below meth c H locs cells slots Q (F0 m pc' ls' st')
theorem es_ld_ok {t : es_V → Bool} {i n : Nat} (h : es_ld t i n pc L S = some (pc', L', S')) (hl : es_lr n0 b ρ nL L ls) : ∃ v x, t v = true ∧ es_vr n0 b ρ v x ∧ ls[i]? = some (.val x) ∧ pc' = pc + n ∧ L' = L ∧ S' = v :: S := by
  unfold es_ld at h
  cases hv : es_get L i with
  | none => rw [hv] at h; cases h
  | some v =>
    rw [hv] at h
    dsimp only at h
    cases ht : t v
    · rw [ht] at h; cases h
    · rw [ht] at h
      obtain ⟨x, hx, hr⟩ := hl.2.2 i v hv
      cases h
      exact ⟨v, x, ht, hr, hx, rfl, rfl, rfl⟩
theorem es_sto_ok {t : es_V → Bool} {i n : Nat} (h : es_sto t nL i n pc L S = some (pc', L', S')) (hs : es_sr n0 b ρ S st) : ∃ v x st', t v = true ∧ es_vr n0 b ρ v x ∧ st = x :: st' ∧ es_sr n0 b ρ S' st' ∧ i < nL ∧ pc' = pc + n ∧ L' = es_st L i v := by
  unfold es_sto at h
  cases S with
  | nil => cases h
  | cons v S1 =>
    obtain ⟨x, st', e, hv, hs'⟩ := hs
    dsimp only at h
    cases ht : (t v && Nat.blt i nL)
    · rw [ht] at h; cases h
    · rw [ht] at h
      rw [Bool.and_eq_true] at ht
      cases h
      exact ⟨v, x, st', ht.1, hv, e, hs', es_blt.mp ht.2, rfl, rfl⟩
theorem es_lst_ok {i n : Nat} (h : es_lst nL i n pc L S = some (pc', L', S')) (hs : es_sr n0 b ρ S st) : ∃ v st', es_vr n0 b ρ v (.long (lN v.2)) ∧ st = .long (lN v.2) :: st' ∧ es_sr n0 b ρ S' st' ∧ i + 1 < nL ∧ pc' = pc + n ∧ L' = es_del (es_st L i v) (i + 1) := by
  unfold es_lst at h
  cases S with
  | nil => cases h
  | cons v S1 =>
    obtain ⟨x, st', e, hv, hs'⟩ := hs
    dsimp only at h
    cases ht : (Nat.beq v.1 2 && Nat.blt (i + 1) nL)
    · rw [ht] at h; cases h
    · rw [ht] at h
      rw [Bool.and_eq_true] at ht
      cases h
      have hx := es_t2_long hv ht.1
      subst hx
      exact ⟨v, st', hv, e, hs', es_blt.mp ht.2, rfl, rfl⟩
theorem es_i2_ok {f : Int32 → Int32 → Int32} (h : es_i2 f pc L S F = some (pc', L', S')) (hF : es_fr ρ F) (hs : es_sr n0 b ρ S st) : ∃ x y st', st = .int y :: .int x :: st' ∧ pc' = pc + 1 ∧ L' = L ∧ es_sr n0 b ρ S' (.int (f x y) :: st') := by
  unfold es_i2 at h
  split at h
  · rename_i vb va S1
    obtain ⟨y, st1, rfl, hvb, xx, st', rfl, hva, hs'⟩ := hs
    cases ht : (es_ti va && es_ti vb)
    · rw [ht] at h; cases h
    · rw [ht] at h
      rw [Bool.and_eq_true] at ht
      cases h
      obtain ⟨x, rfl⟩ := es_ti_int hva ht.1
      obtain ⟨y, rfl⟩ := es_ti_int hvb ht.2
      exact ⟨x, y, st', rfl, rfl, rfl, _, _, rfl, es_bin_ok hF f hva hvb, hs'⟩
  · cases h
theorem es_d2_ok {f : Int32 → Int32 → Int32} (h : es_d2 f pc L S F = some (pc', L', S')) (hF : es_fr ρ F) (hs : es_sr n0 b ρ S st) : ∃ x y st', st = .int y :: .int x :: st' ∧ ¬ y = 0 ∧ pc' = pc + 1 ∧ L' = L ∧ es_sr n0 b ρ S' (.int (f x y) :: st') := by
  unfold es_d2 at h
  split at h
  · rename_i vb va S1
    obtain ⟨y, st1, rfl, hvb, xx, st', rfl, hva, hs'⟩ := hs
    cases hk : es_kn F vb with
    | none => rw [hk] at h; cases h
    | some n =>
      rw [hk] at h
      dsimp only at h
      cases ht : (es_ti va && (es_ti vb && !decide (nI n = 0)))
      · rw [ht] at h; cases h
      · rw [ht] at h
        simp only [Bool.and_eq_true, Bool.not_eq_true', decide_eq_false_iff_not] at ht
        cases h
        obtain ⟨x, rfl⟩ := es_ti_int hva ht.1
        have e := es_kn_ok hF hvb hk
        subst e
        exact ⟨x, nI n, st', rfl, ht.2.2, rfl, rfl, _, _, rfl, es_bin_ok hF f hva hvb, hs'⟩
  · cases h
theorem es_l2_ok {f : Int64 → Int64 → Int64} (h : es_l2 f pc L S = some (pc', L', S')) (hs : es_sr n0 b ρ S st) : ∃ x y st', st = .long y :: .long x :: st' ∧ pc' = pc + 1 ∧ L' = L ∧ es_sr n0 b ρ S' (.long (f x y) :: st') := by
  unfold es_l2 at h
  split at h
  · rename_i vb va S1
    obtain ⟨y, st1, rfl, hvb, xx, st', rfl, hva, hs'⟩ := hs
    cases ht : (Nat.beq va.1 2 && Nat.beq vb.1 2)
    · rw [ht] at h; cases h
    · rw [ht] at h
      rw [Bool.and_eq_true] at ht
      cases h
      have e1 := es_t2_long hva ht.1
      have e2 := es_t2_long hvb ht.2
      subst e1; subst e2
      exact ⟨_, _, st', rfl, rfl, rfl, _, _, rfl, es_vrlc _, hs'⟩
  · cases h
theorem es_lsh_ok {f : Int64 → Int32 → Int64} (h : es_lsh f pc L S F = some (pc', L', S')) (hF : es_fr ρ F) (hs : es_sr n0 b ρ S st) : ∃ x y st', st = .int y :: .long x :: st' ∧ pc' = pc + 1 ∧ L' = L ∧ es_sr n0 b ρ S' (.long (f x y) :: st') := by
  unfold es_lsh at h
  split at h
  · rename_i vb va S1
    obtain ⟨y, st1, rfl, hvb, xx, st', rfl, hva, hs'⟩ := hs
    cases hk : es_kn F vb with
    | none => rw [hk] at h; cases h
    | some n =>
      rw [hk] at h
      dsimp only at h
      cases ht : (Nat.beq va.1 2 && es_ti vb)
      · rw [ht] at h; cases h
      · rw [ht] at h
        rw [Bool.and_eq_true] at ht
        cases h
        have e1 := es_t2_long hva ht.1
        have e2 := es_kn_ok hF hvb hk
        subst e1; subst e2
        exact ⟨_, _, st', rfl, rfl, rfl, _, _, rfl, es_vrlc _, hs'⟩
  · cases h
set_option maxHeartbeats 4000000 in
theorem es_pure_ok (hx : p.tables.exec = Jvm.exec) (hb : c.code = cc) (hF : es_fr ρ F) (hl : es_lr n0 b ρ nL L ls) (hs : es_sr n0 b ρ S st) (hd : decode cc pc = .ok (ins, es_len ins))
    (h : es_pure nL ins pc L S F = some (pc', L', S'))
    (k : es_PG p l e R s m args below meth c H locs cells slots Q n0 b ρ nL pc' L' S') : W p l e R s m args below meth c H locs cells slots Q (F0 m pc ls st) := by
  unfold es_pure at h
  split at h
  · cases h; exact lv_iconst hx hb hd rfl (k _ _ hl ⟨_, _, rfl, es_vrc _, hs⟩)
  · cases h; exact lv_bipush hx hb hd rfl (k _ _ hl ⟨_, _, rfl, es_vrc _, hs⟩)
  · cases h; exact lv_sipush hx hb hd rfl (k _ _ hl ⟨_, _, rfl, es_vrc _, hs⟩)
  · cases h; exact lv_lconst hx hb hd rfl (k _ _ hl ⟨_, _, rfl, es_vrlc _, hs⟩)
  -- loads
  · obtain ⟨v, x, ht, hr, hi, rfl, rfl, rfl⟩ := es_ld_ok h hl
    obtain ⟨z, rfl⟩ := es_ti_int hr ht
    exact lv_iload_n hx hb hd rfl hi (k _ _ hl ⟨_, _, rfl, hr, hs⟩)
  · obtain ⟨v, x, ht, hr, hi, rfl, rfl, rfl⟩ := es_ld_ok h hl
    obtain ⟨z, rfl⟩ := es_ti_int hr ht
    exact lv_iload hx hb hd hi (k _ _ hl ⟨_, _, rfl, hr, hs⟩)
  · obtain ⟨v, x, ht, hr, hi, rfl, rfl, rfl⟩ := es_ld_ok h hl
    have e := es_t2_long hr ht
    subst e
    exact lv_lload_n hx hb hd rfl hi (k _ _ hl ⟨_, _, rfl, hr, hs⟩)
  · obtain ⟨v, x, ht, hr, hi, rfl, rfl, rfl⟩ := es_ld_ok h hl
    have e := es_t2_long hr ht
    subst e
    exact lv_lload hx hb hd hi (k _ _ hl ⟨_, _, rfl, hr, hs⟩)
  · obtain ⟨v, x, ht, hr, hi, rfl, rfl, rfl⟩ := es_ld_ok h hl
    rcases es_tr_ref hr ht with rfl | ⟨a, rfl⟩
    · exact lv_aload_nN hx hb hd rfl hi (k _ _ hl ⟨_, _, rfl, hr, hs⟩)
    · exact lv_aload_n hx hb hd rfl hi (k _ _ hl ⟨_, _, rfl, hr, hs⟩)
  · obtain ⟨v, x, ht, hr, hi, rfl, rfl, rfl⟩ := es_ld_ok h hl
    rcases es_tr_ref hr ht with rfl | ⟨a, rfl⟩
    · exact lv_aloadN hx hb hd hi (k _ _ hl ⟨_, _, rfl, hr, hs⟩)
    · exact lv_aload hx hb hd hi (k _ _ hl ⟨_, _, rfl, hr, hs⟩)
  -- stores
  · obtain ⟨v, x, st', ht, hr, rfl, hs', hi, rfl, rfl⟩ := es_sto_ok h hs
    obtain ⟨z, rfl⟩ := es_ti_int hr ht
    exact lv_istore_n hx hb hd rfl (es_all_has hl) hi rfl (fun ls' h' => k _ _ (es_lr_st hl hr h') hs')
  · obtain ⟨v, x, st', ht, hr, rfl, hs', hi, rfl, rfl⟩ := es_sto_ok h hs
    obtain ⟨z, rfl⟩ := es_ti_int hr ht
    exact lv_istore hx hb hd (es_all_has hl) hi rfl (fun ls' h' => k _ _ (es_lr_st hl hr h') hs')
  · obtain ⟨v, st', hr, rfl, hs', hi, rfl, rfl⟩ := es_lst_ok h hs
    exact lv_lstore_n hx hb hd rfl (es_all_has hl) hi rfl (fun ls' h' => k _ _ (es_lr_st2 hl hr h') hs')
  · obtain ⟨v, st', hr, rfl, hs', hi, rfl, rfl⟩ := es_lst_ok h hs
    exact lv_lstore hx hb hd (es_all_has hl) hi rfl (fun ls' h' => k _ _ (es_lr_st2 hl hr h') hs')
  · obtain ⟨v, x, st', ht, hr, rfl, hs', hi, rfl, rfl⟩ := es_sto_ok h hs
    rcases es_t7_ref hr ht with rfl | ⟨a, rfl⟩
    · exact lv_astore_nN hx hb hd rfl (es_all_has hl) hi rfl (fun ls' h' => k _ _ (es_lr_st hl hr h') hs')
    · exact lv_astore_n hx hb hd rfl (es_all_has hl) hi rfl (fun ls' h' => k _ _ (es_lr_st hl hr h') hs')
  · obtain ⟨v, x, st', ht, hr, rfl, hs', hi, rfl, rfl⟩ := es_sto_ok h hs
    rcases es_t7_ref hr ht with rfl | ⟨a, rfl⟩
    · exact lv_astoreN hx hb hd (es_all_has hl) hi rfl (fun ls' h' => k _ _ (es_lr_st hl hr h') hs')
    · exact lv_astore hx hb hd (es_all_has hl) hi rfl (fun ls' h' => k _ _ (es_lr_st hl hr h') hs')
  -- iinc
  · rename_i i n
    cases hv : es_get L i with
    | none => rw [hv] at h; cases h
    | some v =>
      rw [hv] at h
      dsimp only at h
      cases ht : (es_ti v && Nat.blt i nL)
      · rw [ht] at h; cases h
      · rw [ht] at h
        rw [Bool.and_eq_true] at ht
        cases h
        obtain ⟨x, hi, hr⟩ := hl.2.2 i v hv
        obtain ⟨z, rfl⟩ := es_ti_int hr ht.1
        obtain ⟨kk, hkk⟩ := List.getElem?_of_mem (es_all_in hl.1 hi)
        exact lv_iinc (k := kk) hx hb hd (es_all_has hl) hkk rfl (es_blt.mp ht.2) rfl (fun ls' h' => k _ _ (es_lr_st hl (es_un_ok hF _ hr) h') hs)
  -- int arithmetic
  · obtain ⟨x, y, st', rfl, rfl, rfl, hs'⟩ := es_i2_ok h hF hs; exact lv_iadd hx hb hd (k _ _ hl hs')
  · obtain ⟨x, y, st', rfl, rfl, rfl, hs'⟩ := es_i2_ok h hF hs; exact lv_isub hx hb hd (k _ _ hl hs')
  · obtain ⟨x, y, st', rfl, rfl, rfl, hs'⟩ := es_i2_ok h hF hs; exact lv_imul hx hb hd (k _ _ hl hs')
  · obtain ⟨x, y, st', rfl, rfl, rfl, hs'⟩ := es_i2_ok h hF hs; exact lv_iand hx hb hd (k _ _ hl hs')
  · obtain ⟨x, y, st', rfl, rfl, rfl, hs'⟩ := es_i2_ok h hF hs; exact lv_ior hx hb hd (k _ _ hl hs')
  · obtain ⟨x, y, st', rfl, rfl, rfl, hs'⟩ := es_i2_ok h hF hs; exact lv_ixor hx hb hd (k _ _ hl hs')
  · obtain ⟨x, y, st', rfl, rfl, rfl, hs'⟩ := es_i2_ok h hF hs; exact lv_ishl hx hb hd (k _ _ hl hs')
  · obtain ⟨x, y, st', rfl, rfl, rfl, hs'⟩ := es_i2_ok h hF hs; exact lv_ishr hx hb hd (k _ _ hl hs')
  · obtain ⟨x, y, st', rfl, rfl, rfl, hs'⟩ := es_i2_ok h hF hs; exact lv_iushr hx hb hd rfl (k _ _ hl hs')
  · obtain ⟨x, y, st', rfl, hy, rfl, rfl, hs'⟩ := es_d2_ok h hF hs; exact lv_idiv hx hb hd hy (k _ _ hl hs')
  · obtain ⟨x, y, st', rfl, hy, rfl, rfl, hs'⟩ := es_d2_ok h hF hs; exact lv_irem hx hb hd hy (k _ _ hl hs')
  · obtain ⟨x, y, st', rfl, rfl, rfl, hs'⟩ := es_l2_ok h hs; exact lv_ladd hx hb hd (k _ _ hl hs')
  · obtain ⟨x, y, st', rfl, rfl, rfl, hs'⟩ := es_l2_ok h hs; exact lv_lsub hx hb hd (k _ _ hl hs')
  · obtain ⟨x, y, st', rfl, rfl, rfl, hs'⟩ := es_l2_ok h hs; exact lv_lmul hx hb hd (k _ _ hl hs')
  · obtain ⟨x, y, st', rfl, rfl, rfl, hs'⟩ := es_l2_ok h hs; exact lv_land hx hb hd (k _ _ hl hs')
  · obtain ⟨x, y, st', rfl, rfl, rfl, hs'⟩ := es_l2_ok h hs; exact lv_lor hx hb hd (k _ _ hl hs')
  -- ldiv
  · split at h
    · rename_i vb va S1
      obtain ⟨y, st1, rfl, hvb, xx, st', rfl, hva, hs'⟩ := hs
      cases ht : ((Nat.beq va.1 2 && Nat.beq vb.1 2) && !decide (lN vb.2 = 0))
      · rw [ht] at h; cases h
      · rw [ht] at h
        simp only [Bool.and_eq_true, Bool.not_eq_true', decide_eq_false_iff_not] at ht
        cases h
        have e1 := es_t2_long hva ht.1.1
        have e2 := es_t2_long hvb ht.1.2
        subst e1; subst e2
        exact lv_ldiv hx hb hd ht.2 (k _ _ hl ⟨_, _, rfl, es_vrlc _, hs'⟩)
    · cases h
  · obtain ⟨x, y, st', rfl, rfl, rfl, hs'⟩ := es_lsh_ok h hF hs; exact lv_lshl hx hb hd rfl (k _ _ hl hs')
  · obtain ⟨x, y, st', rfl, rfl, rfl, hs'⟩ := es_lsh_ok h hF hs; exact lv_lshr hx hb hd rfl (k _ _ hl hs')
  · obtain ⟨x, y, st', rfl, rfl, rfl, hs'⟩ := es_lsh_ok h hF hs; exact lv_lushr hx hb hd rfl (k _ _ hl hs')
  -- i2l
  · split at h
    · rename_i va S1
      obtain ⟨xx, st', rfl, hva, hs'⟩ := hs
      cases hk : es_kn F va with
      | none => rw [hk] at h; cases h
      | some n =>
        rw [hk] at h
        cases h
        have e := es_kn_ok hF hva hk
        subst e
        exact lv_i2l hx hb hd rfl (k _ _ hl ⟨_, _, rfl, es_vrlc _, hs'⟩)
    · cases h
  -- l2i
  · split at h
    · rename_i va S1
      obtain ⟨xx, st', rfl, hva, hs'⟩ := hs
      cases ht : Nat.beq va.1 2
      · rw [ht] at h; cases h
      · rw [ht] at h
        cases h
        have e := es_t2_long hva ht
        subst e
        exact lv_l2i hx hb hd rfl (k _ _ hl ⟨_, _, rfl, es_vrc _, hs'⟩)
    · cases h
  -- lcmp
  · split at h
    · rename_i vb va S1
      obtain ⟨y, st1, rfl, hvb, xx, st', rfl, hva, hs'⟩ := hs
      cases ht : (Nat.beq va.1 2 && Nat.beq vb.1 2)
      · rw [ht] at h; cases h
      · rw [ht] at h
        rw [Bool.and_eq_true] at ht
        cases h
        have e1 := es_t2_long hva ht.1
        have e2 := es_t2_long hvb ht.2
        subst e1; subst e2
        exact W.lcmp hx hb hd (k _ _ hl ⟨_, _, rfl, es_vrc _, hs'⟩)
    · cases h
  -- aconst_null
  · cases h
    exact lv_null hx hb hd (k _ _ hl ⟨_, _, rfl, rfl, hs⟩)
  -- ineg
  · split at h
    · rename_i va S1
      obtain ⟨xx, st', rfl, hva, hs'⟩ := hs
      cases ht : es_ti va
      · rw [ht] at h; cases h
      · rw [ht] at h
        cases h
        obtain ⟨z, rfl⟩ := es_ti_int hva ht
        exact lv_ineg hx hb hd (k _ _ hl ⟨_, _, rfl, es_un_ok hF _ hva, hs'⟩)
    · cases h
  -- i2c
  · split at h
    · rename_i va S1
      obtain ⟨xx, st', rfl, hva, hs'⟩ := hs
      cases ht : es_ti va
      · rw [ht] at h; cases h
      · rw [ht] at h
        cases h
        obtain ⟨z, rfl⟩ := es_ti_int hva ht
        exact lv_i2c hx hb hd rfl (k _ _ hl ⟨_, _, rfl, es_un_ok hF _ hva, hs'⟩)
    · cases h
  -- dup
  · split at h
    · rename_i va S1
      obtain ⟨xx, st', rfl, hva, hs'⟩ := hs
      cases ht : es_t2 va
      · rw [ht] at h
        cases h
        exact lv_dup hx hb hd (es_cat1 hva ht) (k _ _ hl ⟨_, _, rfl, hva, _, _, rfl, hva, hs'⟩)
      · rw [ht] at h; cases h
    · cases h
  -- pop
  · split at h
    · rename_i va S1
      obtain ⟨xx, st', rfl, hva, hs'⟩ := hs
      cases ht : es_t2 va
      · rw [ht] at h
        cases h
        exact lv_pop hx hb hd (es_cat1 hva ht) (k _ _ hl hs')
      · rw [ht] at h; cases h
    · cases h
  -- dup2
  · split at h
    · rename_i vb va S1
      obtain ⟨y, st1, rfl, hvb, xx, st', rfl, hva, hs'⟩ := hs
      cases ht : (es_t2 va || es_t2 vb)
      · rw [ht] at h
        rw [Bool.or_eq_false_iff] at ht
        cases h
        exact lv_dup2_11 hx hb hd (es_cat1 hvb ht.2) (es_cat1 hva ht.1) (k _ _ hl ⟨_, _, rfl, hvb, _, _, rfl, hva, _, _, rfl, hvb, _, _, rfl, hva, hs'⟩)
      · rw [ht] at h; cases h
    · cases h
  -- goto
  · rename_i off
    cases ht : es_to pc off with
    | none => rw [ht] at h; cases h
    | some t =>
      rw [ht] at h
      cases h
      exact lv_goto hx hb hd (es_to_ok ht) (k _ _ hl hs)
  -- ifnull
  · rename_i off
    split at h
    · rename_i va S1
      obtain ⟨xx, st', rfl, hva, hs'⟩ := hs
      cases h4 : Nat.beq va.1 4
      · rw [h4] at h
        dsimp only [cond_false] at h
        cases h3 : Nat.beq va.1 3
        · rw [h3] at h; cases h
        · rw [h3] at h
          cases h
          have e := es_t3_ref hva h3
          subst e
          exact lv_ifnull hx hb hd (k _ _ hl hs')
      · rw [h4] at h
        dsimp only [cond_true] at h
        cases ht : es_to pc off with
        | none => rw [ht] at h; cases h
        | some t =>
          rw [ht] at h
          cases h
          have e := es_t4_null hva h4
          subst e
          exact lv_ifnullN hx hb hd (es_to_ok ht) (k _ _ hl hs')
    · cases h
  -- ifnonnull
  · rename_i off
    split at h
    · rename_i va S1
      obtain ⟨xx, st', rfl, hva, hs'⟩ := hs
      cases h3 : Nat.beq va.1 3
      · rw [h3] at h
        dsimp only [cond_false] at h
        cases h4 : Nat.beq va.1 4
        · rw [h4] at h; cases h
        · rw [h4] at h
          cases h
          have e := es_t4_null hva h4
          subst e
          exact lv_ifnonnullN hx hb hd (k _ _ hl hs')
      · rw [h3] at h
        dsimp only [cond_true] at h
        cases ht : es_to pc off with
        | none => rw [ht] at h; cases h
        | some t =>
          rw [ht] at h
          cases h
          have e := es_t3_ref hva h3
          subst e
          exact lv_ifnonnull hx hb hd (es_to_ok ht) (k _ _ hl hs')
    · cases h
  · cases h
end Pure
end
section
def es_dv (t : Nat) : es_V := match t with
  | 1 => (2, 0)
  | 3 => (4, 0)
  | 4 => (4, 0)
  | _ => (0, 0)
def es_ad (t : Nat) (c : List (Nat × es_V)) (j : Nat) : es_V := match es_get c j with
  | some v => v
  | none => es_dv t
section Hp
variable (D : va_G) (tys : List (ClassId × FieldType)) (n0 : Nat) (b : Nat → Nat) (ρ : Nat → Int32)
def es_or (a : Nat) (o : es_O) (H : Heap) : Prop := match o.1 with
  | 0 => ∃ (r : vw_C) (V : Nat → Value), vwCl[o.2.1]? = some r ∧ t_OB a (D.1 o.2.1) r.2.2 (D.2 o.2.1) H V ∧ ∀ k v, es_get o.2.2 k = some v → k < r.2.2 ∧ es_vr n0 b ρ v (V k)
  | 1 => True
  | t + 2 => ∃ (q : ClassId × FieldType) (V : Nat → Value), tys[t]? = some q ∧ H[a]? = some (arrV q.1 o.2.1 V) ∧ ∀ j, j < o.2.1 → es_vr n0 b ρ (es_ad t o.2.2 j) (V j)
def es_hr (AH : List es_O) (H : Heap) : Prop := H.size = n0 + AH.length ∧ ∀ i o, AH[i]? = some o → es_or D tys n0 b ρ (n0 + i) o H
end Hp
section HpL
variable {D : va_G} {tys : List (ClassId × FieldType)} {n0 : Nat} {b : Nat → Nat} {ρ : Nat → Int32}
theorem es_or_kept {a : Nat} {o : es_O} {H H1 : Heap} (h : es_or D tys n0 b ρ a o H) (hq : H1[a]? = H[a]?) : es_or D tys n0 b ρ a o H1 := by
  obtain ⟨t, i, c⟩ := o
  match t, h with
  | 0, h =>
    obtain ⟨r, V, h1, h2, h3⟩ := h
    exact ⟨r, V, h1, h2.kept hq, h3⟩
  | 1, h => trivial
  | t + 2, h =>
    obtain ⟨q, V, h1, h2, h3⟩ := h
    exact ⟨q, V, h1, hq.trans h2, h3⟩
theorem es_hr_set {AH : List es_O} {H H1 : Heap} {i : Nat} {o : es_O} (h : es_hr D tys n0 b ρ AH H) (hz : H1.size = H.size) (ho : ∀ q : Nat, q ≠ n0 + i → H1[q]? = H[q]?) (hn : es_or D tys n0 b ρ (n0 + i) o H1) : es_hr D tys n0 b ρ (AH.set i o) H1 := by
  refine ⟨by rw [hz, h.1, List.length_set], fun j q hq => ?_⟩
  by_cases hj : i = j
  · subst hj
    rw [List.getElem?_set] at hq
    simp only [if_true] at hq
    by_cases hl : i < AH.length
    · rw [if_pos hl] at hq; cases hq; exact hn
    · rw [if_neg hl] at hq; cases hq
  · rw [List.getElem?_set_ne hj] at hq
    exact es_or_kept (h.2 j q hq) (ho _ (by omega))
theorem es_hr_push {AH : List es_O} {H H1 : Heap} {o : es_O} (h : es_hr D tys n0 b ρ AH H) (hz : H1.size = H.size + 1) (ho : ∀ q : Nat, q < H.size → H1[q]? = H[q]?) (hn : es_or D tys n0 b ρ H.size o H1) : es_hr D tys n0 b ρ (AH ++ [o]) H1 := by
  refine ⟨by rw [hz, h.1, List.length_append]; rfl, fun j q hq => ?_⟩
  by_cases hj : j < AH.length
  · rw [List.getElem?_append_left hj] at hq
    exact es_or_kept (h.2 j q hq) (ho _ (by rw [h.1]; omega))
  · have hl : j < (AH ++ [o]).length := (List.getElem?_eq_some_iff.mp hq).1
    rw [List.length_append] at hl
    have hl2 : j < AH.length + 1 := hl
    have e : j = AH.length := by omega
    subst e
    rw [List.getElem?_append_right (Nat.le_refl _), Nat.sub_self] at hq
    cases hq
    rw [← h.1]
    exact hn
end HpL
def es_fitv (ty : FieldType) (F : es_F) (v : es_V) : Bool := match ty with
  | .int => es_ti v
  | .boolean => match es_kn F v with
    | some n => Nat.beq n 0 || Nat.beq n 1
    | none => false
  | .object _ => es_tr v
  | .array _ => es_tr v
  | _ => false
theorem es_fitv_ok {n0 : Nat} {b : Nat → Nat} {ρ : Nat → Int32} {ty : FieldType} {F : es_F} {v : es_V} {x : Value} (hF : es_fr ρ F) (hv : es_vr n0 b ρ v x) (h : es_fitv ty F v = true) : narrow ty x = x ∧ fits ty x = true := by
  unfold es_fitv at h
  split at h
  · obtain ⟨z, rfl⟩ := es_ti_int hv h
    exact ⟨rfl, rfl⟩
  · cases hk : es_kn F v with
    | none => rw [hk] at h; cases h
    | some n =>
      rw [hk] at h
      dsimp only at h
      rw [Bool.or_eq_true, es_beq, es_beq] at h
      have e := es_kn_ok hF hv hk
      subst e
      rcases h with rfl | rfl
      · exact ⟨by decide +kernel, by decide +kernel⟩
      · exact ⟨by decide +kernel, by decide +kernel⟩
  · rcases es_tr_ref hv h with rfl | ⟨a, rfl⟩
    · exact ⟨rfl, rfl⟩
    · exact ⟨rfl, rfl⟩
  · rcases es_tr_ref hv h with rfl | ⟨a, rfl⟩
    · exact ⟨rfl, rfl⟩
    · exact ⟨rfl, rfl⟩
  · cases h
section Rd
variable {p : Program} {l : Launch} {e : Env} {R : Room} {s : State} {m : MethodId} {args : Array Value} {below : List Frame} {meth : Method} {c : Code} {H : Heap} {locs : List Loc} {cells slots : Nat} {Q : State → Prop}
variable {cc : ByteArray} {pc nL : Nat} {ls : Array Slot} {n0 : Nat} {b : Nat → Nat} {ρ : Nat → Int32} {D : va_G} {tys : List (ClassId × FieldType)} {A : Nat → Prop} {H0 : Heap} {rest : List Value} {Ts : List Cond} {own : String}
theorem es_getf (hx : p.tables.exec = Jvm.exec) (hb : c.code = cc) (hown : s.vm.findClass own = some m.cls) (hts : ∀ w ∈ Ts, w.before args s = true) (hK : va_K D vwCl tys s) {C : String} {T : u_T} {N ci k index a : Nat} (hc : vwCl[ci]? = some (C, T, N)) (hin : ∀ w ∈ u_ws C T N, w ∈ Ts)
    (hlink : Cond.fieldLink own index (T k).1 (T k).2.1 (T k).2.2.1 ∈ Ts) {cs : List (Nat × es_V)} (ho : es_or D tys n0 b ρ a (0, ci, cs) H) {v : es_V} (hv : es_get cs k = some v) (hd : decode cc pc = .ok (.getfield index, 3))
    (kk : ∀ x, es_vr n0 b ρ v x → W p l e R s m args below meth c H locs cells slots Q (F0 m (pc + 3) ls (x :: rest))) : W p l e R s m args below meth c H locs cells slots Q (F0 m pc ls (.ref a :: rest)) := by
  obtain ⟨r, V, h1, ⟨cell, q1, q2, q3, q4⟩, h3⟩ := ho
  have hr : r = (C, T, N) := Option.some.inj (h1.symm.trans hc)
  subst hr
  obtain ⟨hk, hvr⟩ := h3 k v hv
  obtain ⟨hS, hfc, kC, hkC, hkind⟩ := hK.1 ci _ hc
  obtain ⟨cf, kf, fi, f, hi, hsl⟩ := hS k hk
  refine W.getf hx hb hown (hts _ hlink) hi (u_facts hfc hkC (u_lays hts hin hk) hi).1 q1 (by rw [q3]; exact fun h => by cases h) (v := V k) ?_ rfl rfl hd (kk _ hvr)
  rw [hsl, q4 k hk]
theorem es_putf (hx : p.tables.exec = Jvm.exec) (hb : c.code = cc) (hown : s.vm.findClass own = some m.cls) (hts : ∀ w ∈ Ts, w.before args s = true) (hK : va_K D vwCl tys s) {C : String} {T : u_T} {N ci k index a : Nat} (hc : vwCl[ci]? = some (C, T, N)) (hin : ∀ w ∈ u_ws C T N, w ∈ Ts)
    (ty0 : Nat → FieldType) (hty : ∀ k, k < N → parseFieldDescriptor (T k).2.2.1 = some (ty0 k)) (hnm : ∀ a, a < N → ∀ b, b < N → a ≠ b → (T a).2.1 ≠ (T b).2.1)
    (hlink : Cond.fieldLink own index (T k).1 (T k).2.1 (T k).2.2.1 ∈ Ts) (hfin : (T k).2.2.2 = false ∨ (meth.name = "<init>" ∧ (T k).1 = own)) {cs : List (Nat × es_V)} (ho : es_or D tys n0 b ρ a (0, ci, cs) H) {v w : es_V} (hw : es_get cs k = some w) {x : Value} (hv : es_vr n0 b ρ v x) (hn : narrow (ty0 k) x = x) (hft : fits (ty0 k) x = true) (hd : decode cc pc = .ok (.putfield index, 3))
    (kk : ∀ (H1 : Heap) (i : Nat), es_or D tys n0 b ρ a (0, ci, es_set cs k v) H1 → H1.size = H.size → (∀ q : Nat, q ≠ a → H1[q]? = H[q]?) → W p l e R s m args below meth c H1 (locs ++ [⟨a, i⟩]) cells slots Q (F0 m (pc + 3) ls rest)) : W p l e R s m args below meth c H locs cells slots Q (F0 m pc ls (x :: .ref a :: rest)) := by
  have hap := va_apart (own := own) hts hin ty0 hty hnm hK hc
  obtain ⟨r, V, h1, ⟨cell, q1, q2, q3, q4⟩, h3⟩ := ho
  have hr : r = (C, T, N) := Option.some.inj (h1.symm.trans hc)
  subst hr
  obtain ⟨hk, -⟩ := h3 k w hw
  obtain ⟨hS, hfc, kC, hkC, hkind⟩ := hK.1 ci _ hc
  obtain ⟨cf, kf, fi, f, hi, hsl⟩ := hS k hk
  have hst := (u_facts hfc hkC (u_lays hts hin hk) hi).1
  have hend : ∀ H1 : Heap, H1[a]? = some (cell.setSlot (D.2 ci k) x) → es_or D tys n0 b ρ a (0, ci, es_set cs k v) H1 := by
    intro H1 e1
    refine ⟨(C, T, N), updV V k x, hc, ⟨_, e1, q2, q3, t_set q4 hap hk x⟩, fun j u hu => ?_⟩
    rw [es_get_set] at hu
    by_cases hj : j = k
    · rw [if_pos hj] at hu
      cases hu
      subst hj
      refine ⟨hk, ?_⟩
      simp only [updV, if_true]
      exact hv
    · rw [if_neg hj] at hu
      obtain ⟨g1, g2⟩ := h3 j u hu
      refine ⟨g1, ?_⟩
      simp only [updV, if_neg hj]
      exact g2
  by_cases hf : (T k).2.2.2 = false
  · have hlay := hts _ (hin _ (u_in_lay hk))
    unfold u_lay at hlay
    rw [if_neg (by rw [hf]; decide)] at hlay
    have h6 := u_store hfc hkC hkind hlay hi (hty k hk) hn hft
    refine W.putK hx hb (f := f) ⟨hown, hts _ hlink, ⟨_, _, _, hi⟩, hst⟩ (by rw [q2]; exact h6) q1 q3 (by rw [hsl]; exact k2_hasslot (q4 k hk)) rfl rfl hd fun H' e1 e2 e3 => ?_
    rw [hsl] at e1 ⊢
    exact kk H' _ (hend H' e1) e2 e3
  · rcases hfin with h | ⟨hin2, hdecl⟩
    · exact absurd h hf
    · have hlay := hts _ (hin _ (u_in_lay hk))
      unfold u_lay at hlay
      rw [if_pos (show (T k).2.2.2 = true by cases hz : (T k).2.2.2 <;> simp_all)] at hlay
      have hcf : m.cls = cf := by
        obtain ⟨_, _, c', _, _, _, -, -, hf', -, -, -, hown2, -⟩ := Cond.laysFinal_spec hlay
        have e1 : c' = cf := by have := hi.symm.trans hf'; simp at this; exact this.1.symm
        rw [hdecl] at hown2
        rw [← e1]; exact Option.some.inj (hown.symm.trans hown2)
      have h6 := u_fits hfc hkC hkind (u_lays hts hin hk) hi (hty k hk) hn hft
      refine W.putFinK hx hb hown (hts _ hlink) hi hst hcf hin2 (by rw [q2]; exact h6) q1 q3 (by rw [hsl]; exact k2_hasslot (q4 k hk)) rfl rfl hd fun H' e1 e2 e3 => ?_
      rw [hsl] at e1 ⊢
      exact kk H' _ (hend H' e1) e2 e3
end Rd
end
section
def es_aset (t : Nat) (c : List (Nat × es_V)) (j : Nat) (v : es_V) : List (Nat × es_V) := match es_get c j with
  | some _ => es_set c j v
  | none => bif Nat.beq v.1 (es_dv t).1 && Nat.beq v.2 (es_dv t).2 then c else es_set c j v
theorem es_ad_set (t : Nat) (c : List (Nat × es_V)) (j i : Nat) (v : es_V) : es_ad t (es_aset t c j v) i = if i = j then v else es_ad t c i := by
  have hs : es_ad t (es_set c j v) i = if i = j then v else es_ad t c i := by
    unfold es_ad
    rw [es_get_set]
    by_cases h : i = j
    · simp [h]
    · simp [h]
  unfold es_aset
  split
  · exact hs
  · rename_i hn
    cases hb : (Nat.beq v.1 (es_dv t).1 && Nat.beq v.2 (es_dv t).2)
    · exact hs
    · rw [Bool.and_eq_true, es_beq, es_beq] at hb
      have e : v = es_dv t := Prod.ext hb.1 hb.2
      dsimp only [cond_true]
      by_cases h : i = j
      · subst h
        rw [if_pos rfl, e]
        unfold es_ad
        rw [hn]
      · rw [if_neg h]
section Ar
variable {p : Program} {l : Launch} {e : Env} {R : Room} {s : State} {m : MethodId} {args : Array Value} {below : List Frame} {meth : Method} {c : Code} {H : Heap} {locs : List Loc} {cells slots : Nat} {Q : State → Prop}
variable {cc : ByteArray} {pc nL : Nat} {ls : Array Slot} {n0 : Nat} {b : Nat → Nat} {ρ : Nat → Int32} {D : va_G} {tys : List (ClassId × FieldType)} {A : Nat → Prop} {H0 : Heap} {rest : List Value} {Ts : List Cond} {own : String}
def es_lop (t : Nat) : Instr := match t with
  | 0 => .iaload
  | 1 => .laload
  | 2 => .baload
  | _ => .aaload
def es_sop (t : Nat) : Instr := match t with
  | 0 => .iastore
  | 1 => .lastore
  | 2 => .bastore
  | _ => .aastore
def es_tyq (t : Nat) : FieldType := match t with
  | 0 => .int
  | 1 => .long
  | 2 => .boolean
  | 3 => .object RX2
  | _ => .object RX7
abbrev es_TY (cI cJ cZ cC cM : ClassId) : List (ClassId × FieldType) := [(cI, .int), (cJ, .long), (cZ, .boolean), (cC, .object RX2), (cM, .object RX7)]
variable {cI cJ cZ cC cM : ClassId}
theorem es_TY_at {t : Nat} {q : ClassId × FieldType} (h : (es_TY cI cJ cZ cC cM)[t]? = some q) : q.2 = es_tyq t ∧ t < 5 := by
  match t, h with
  | 0, h => cases h; exact ⟨rfl, by decide⟩
  | 1, h => cases h; exact ⟨rfl, by decide⟩
  | 2, h => cases h; exact ⟨rfl, by decide⟩
  | 3, h => cases h; exact ⟨rfl, by decide⟩
  | 4, h => cases h; exact ⟨rfl, by decide⟩
  | t + 5, h => simp at h
theorem es_ald (hx : p.tables.exec = Jvm.exec) (hb : c.code = cc) (hK : va_K D vwCl (es_TY cI cJ cZ cC cM) s) {t n j a : Nat} {cs : List (Nat × es_V)} (ho : es_or D (es_TY cI cJ cZ cC cM) n0 b ρ a (t + 2, n, cs) H) (hj : j < n) (hn : n < 2147483648) (hd : decode cc pc = .ok (es_lop t, 1))
    (kk : ∀ x, es_vr n0 b ρ (es_ad t cs j) x → W p l e R s m args below meth c H locs cells slots Q (F0 m (pc + 1) ls (x :: rest))) : W p l e R s m args below meth c H locs cells slots Q (F0 m pc ls (.int (nI j) :: .ref a :: rest)) := by
  obtain ⟨⟨cA, ty⟩, V, h1, h2, h3⟩ := ho
  obtain ⟨e1, ht⟩ := es_TY_at h1
  dsimp only at e1 h2 h3
  subst e1
  have hA := (hK.2 t _ h1).1
  have hin : ¬ (nI j < 0 ∨ (arrV cA n V).slots.size ≤ (nI j).toNatClampNeg) := by rw [arrV_size]; exact nI_in hj hn
  have hrd : (arrV cA n V).slots[(nI j).toNatClampNeg]? = some (V j) := by rw [nI_clamp (by omega), arrV_read _ _ hj]
  have hkn : (arrV cA n V).vm ≠ .unknown := fun q => by cases q
  match t, ht, hA, hd, h3 with
  | 0, _, hA, hd, h3 => exact W.iald hx hb h2 (hA n V) hkn hin hrd rfl rfl hd (kk _ (h3 j hj))
  | 1, _, hA, hd, h3 => exact W.lald hx hb h2 (hA n V) hkn hin hrd rfl rfl hd (kk _ (h3 j hj))
  | 2, _, hA, hd, h3 => exact W.zald hx hb h2 (hA n V) hkn hin hrd rfl rfl hd (kk _ (h3 j hj))
  | 3, _, hA, hd, h3 => exact W.aald hx hb h2 (hA n V) rfl hkn hin hrd rfl rfl hd (kk _ (h3 j hj))
  | 4, _, hA, hd, h3 => exact W.aald hx hb h2 (hA n V) rfl hkn hin hrd rfl rfl hd (kk _ (h3 j hj))
  | t + 5, ht, _, _, _ => exact absurd ht (by omega)
theorem es_aln (hx : p.tables.exec = Jvm.exec) (hb : c.code = cc) (hK : va_K D vwCl (es_TY cI cJ cZ cC cM) s) {t n a : Nat} {cs : List (Nat × es_V)} (ho : es_or D (es_TY cI cJ cZ cC cM) n0 b ρ a (t + 2, n, cs) H) (hd : decode cc pc = .ok (.arraylength, 1))
    (kk : W p l e R s m args below meth c H locs cells slots Q (F0 m (pc + 1) ls (.int (nI n) :: rest))) : W p l e R s m args below meth c H locs cells slots Q (F0 m pc ls (.ref a :: rest)) := by
  obtain ⟨⟨cA, ty⟩, V, h1, h2, h3⟩ := ho
  exact W.alen (n := nI n) hx hb h2 ((hK.2 t _ h1).1 n V) (by rw [arrV_size]; rfl) rfl rfl hd kk
/-- what may be stored: an int, a long, a truth, a reference to an object of the row's own kind -/
def es_sfit (AH : List es_O) (F : es_F) (t : Nat) (v : es_V) : Bool := match t with
  | 0 => es_ti v
  | 1 => Nat.beq v.1 2
  | 2 => es_fitv .boolean F v
  | t + 3 => bif Nat.beq v.1 3 then (match AH[v.2]? with
      | some o => Nat.beq o.1 0 && Nat.beq o.2.1 (bif Nat.beq t 0 then 2 else 7)
      | none => false) else false
theorem es_ast (hx : p.tables.exec = Jvm.exec) (hb : c.code = cc) (hK : va_K D vwCl (es_TY cI cJ cZ cC cM) s) {AH : List es_O} {F : es_F} (hF : es_fr ρ F) (hH : es_hr D (es_TY cI cJ cZ cC cM) n0 b ρ AH H) {t n j a : Nat} {cs : List (Nat × es_V)} (ho : es_or D (es_TY cI cJ cZ cC cM) n0 b ρ a (t + 2, n, cs) H) (hj : j < n) (hn : n < 2147483648) {v : es_V} {x : Value} (hv : es_vr n0 b ρ v x) (hfit : es_sfit AH F t v = true) (hd : decode cc pc = .ok (es_sop t, 1))
    (kk : ∀ (H1 : Heap) (i : Nat), es_or D (es_TY cI cJ cZ cC cM) n0 b ρ a (t + 2, n, es_aset t cs j v) H1 → H1.size = H.size → (∀ q : Nat, q ≠ a → H1[q]? = H[q]?) → W p l e R s m args below meth c H1 (locs ++ [⟨a, i⟩]) cells slots Q (F0 m (pc + 1) ls rest)) : W p l e R s m args below meth c H locs cells slots Q (F0 m pc ls (x :: .int (nI j) :: .ref a :: rest)) := by
  obtain ⟨⟨cA, ty⟩, V, h1, h2, h3⟩ := ho
  obtain ⟨e1, ht⟩ := es_TY_at h1
  dsimp only at e1 h2 h3
  subst e1
  have hA := (hK.2 t _ h1).1
  have hin : ¬ (nI j < 0 ∨ (arrV cA n V).slots.size ≤ (nI j).toNatClampNeg) := by rw [arrV_size]; exact nI_in hj hn
  have hkn : (arrV cA n V).vm ≠ .unknown := fun q => by cases q
  have hcl : (nI j).toNatClampNeg = j := nI_clamp (by omega)
  have hend : ∀ H1 : Heap, H1[a]? = some ((arrV cA n V).setSlot (nI j).toNatClampNeg x) → es_or D (es_TY cI cJ cZ cC cM) n0 b ρ a (t + 2, n, es_aset t cs j v) H1 := by
    intro H1 g1
    rw [hcl, arrV_store] at g1
    refine ⟨(cA, es_tyq t), updV V j x, h1, g1, fun i hi => ?_⟩
    rw [es_ad_set]
    by_cases hij : i = j
    · simp only [updV, if_pos hij]; exact hv
    · simp only [updV, if_neg hij]; exact h3 i hi
  match t, ht, hA, hd, hfit, hend, h1 with
  | 0, _, hA, hd, hfit, hend, _ =>
    obtain ⟨z, rfl⟩ := es_ti_int hv hfit
    exact W.iast hx hb h2 (hA n V) hkn hin rfl rfl hd fun H1 g1 g2 g3 => kk H1 _ (hend H1 g1) g2 g3
  | 1, _, hA, hd, hfit, hend, _ =>
    have e2 := es_t2_long hv hfit
    subst e2
    exact W.last hx hb h2 (hA n V) hkn hin rfl rfl hd fun H1 g1 g2 g3 => kk H1 _ (hend H1 g1) g2 g3
  | 2, _, hA, hd, hfit, hend, _ =>
    have e2 := es_fitv_ok hF hv (ty := .boolean) hfit
    have hti : es_ti v = true := by
      have h9 : (match es_kn F v with | some n => Nat.beq n 0 || Nat.beq n 1 | none => false) = true := hfit
      cases hk : es_kn F v with
      | none => rw [hk] at h9; cases h9
      | some n => exact es_kn_ti hk
    obtain ⟨z, rfl⟩ := es_ti_int hv hti
    refine W.zast hx hb h2 (hA n V) hkn hin rfl rfl hd fun H1 g1 g2 g3 => kk H1 _ (hend H1 ?_) g2 g3
    rw [e2.1] at g1
    exact g1
  | t + 3, ht, hA, hd, hfit, hend, h1 =>
    unfold es_sfit at hfit
    dsimp only at hfit
    cases h3v : Nat.beq v.1 3
    · rw [h3v] at hfit; cases hfit
    · rw [h3v] at hfit
      dsimp only [cond_true] at hfit
      have e2 := es_t3_ref hv h3v
      subst e2
      cases hav : AH[v.2]? with
      | none => rw [hav] at hfit; cases hfit
      | some o =>
        rw [hav] at hfit
        dsimp only at hfit
        obtain ⟨ok, oi, oc⟩ := o
        rw [Bool.and_eq_true, es_beq, es_beq] at hfit
        obtain ⟨hf1, hf2⟩ := hfit
        dsimp only at hf1 hf2
        subst hf1
        obtain ⟨r, V', k1, ⟨cellV, g1, g2, g3, -⟩, -⟩ := hH.2 _ _ hav
        dsimp only at k1 g2
        have hcls := (hK.1 oi r k1).2
        have hr1 : es_tyq (t + 3) = .object r.1 := by
          match t, ht, hf2 with
          | 0, _, hf2 => have e3 : oi = 2 := hf2; subst e3; cases k1; rfl
          | 1, _, hf2 => have e3 : oi = 7 := hf2; subst e3; cases k1; rfl
          | t + 2, ht, _ => exact absurd ht (by omega)
        have hRA := (hK.2 (t + 3) _ h1).2
        dsimp only at hRA
        rw [hr1] at hRA
        obtain ⟨kA, comp, j1, j2, j3, -⟩ := hRA
        have hcomp : comp = D.1 oi := Option.some.inj (j3.symm.trans hcls.1)
        subst hcomp
        obtain ⟨kC, hkC, -⟩ := id hcls.2
        have hd2 : decode cc pc = .ok (.aastore, 1) := hd
        exact W.aast hx hb h2 (fun q h => by cases h) hkn j1 j2 rfl hkC ⟨fun q => hin (Or.inl q), by rw [arrV_size, hcl]; exact hj⟩ g1 (fun q h => by rw [g3] at h; cases h) (by rw [g2]; exact hkC) (by rw [g2]; exact va_assign hcls) rfl rfl hd2 fun H1 w1 w2 w3 => kk H1 _ (hend H1 w1) w2 w3
/-- a new row of a plain type -/
def es_nat (t : Nat) : ArrayType := match t with
  | 0 => .int
  | 1 => .long
  | _ => .boolean
theorem es_newa (hx : p.tables.exec = Jvm.exec) (hb : c.code = cc) (hK : va_K D vwCl (es_TY cI cJ cZ cC cM) s) {AH : List es_O} (hH : es_hr D (es_TY cI cJ cZ cC cM) n0 b ρ AH H) {t n : Nat} (ht : t < 3) (hn : n < 1000000) (hw : (Cond.arrayClass (newarray.typeOf (es_nat t))).before args s = true) (hcells : cells + 1 ≤ R.cells) (hslots : slots + n ≤ R.slots) (hd : decode cc pc = .ok (.newarray (es_nat t), 2))
    (kk : ∀ H1 : Heap, es_hr D (es_TY cI cJ cZ cC cM) n0 b ρ (AH ++ [(t + 2, n, [])]) H1 → H1.size = H.size + 1 → (∀ q : Nat, q < H.size → H1[q]? = H[q]?) → W p l e R s m args below meth c H1 locs (cells + 1) (slots + n) Q (F0 m (pc + 2) ls (.ref H.size :: rest))) : W p l e R s m args below meth c H locs cells slots Q (F0 m pc ls (.int (nI n) :: rest)) := by
  have hcl : (nI n).toNatClampNeg = n := nI_clamp (by omega)
  have hnn : ¬ nI n < 0 := nI_pos (by omega)
  have hby : (nI n).toNatClampNeg * componentBytes (newarray.typeOf (es_nat t)) ≤ 536870912 := by
    rw [hcl]
    match t, ht with
    | 0, _ => show n * 4 ≤ _; omega
    | 1, _ => show n * 8 ≤ _; omega
    | 2, _ => show n * 1 ≤ _; omega
  refine W.newa hx hb hw rfl hd rfl hnn hby hcells (by rw [hcl]; exact hslots) fun cA kA comp f1 f2 f3 => ?_
  generalize hH1 : H.push ({ cls := cA, slots := Array.replicate (nI n).toNatClampNeg (defaultValue (newarray.typeOf (es_nat t))), vm := .none } : Cell) = H1
  have z1 : H1.size = H.size + 1 := by rw [← hH1, Array.size_push]
  have g1 : H1[H.size]? = some (arrV cA n (fun _ => defaultValue (newarray.typeOf (es_nat t)))) := by rw [← hH1, Array.getElem?_push_size, ← arrV_new, hcl]
  have o1 : ∀ q : Nat, q < H.size → H1[q]? = H[q]? := fun q hq => by rw [← hH1, Array.getElem?_push, if_neg (Nat.ne_of_lt hq)]
  rw [hcl]
  refine kk H1 (es_hr_push hH z1 o1 ?_) z1 o1
  match t, ht, f1, g1 with
  | 0, _, f1, g1 =>
    have e1 : cA = cI := Option.some.inj (f1.symm.trans (hK.2 0 _ rfl).2)
    subst e1
    exact ⟨(cA, .int), _, rfl, g1, fun j _ => by show Value.int 0 = Value.int (nI 0); rw [nI_0]⟩
  | 1, _, f1, g1 =>
    have e1 : cA = cJ := Option.some.inj (f1.symm.trans (hK.2 1 _ rfl).2)
    subst e1
    exact ⟨(cA, .long), _, rfl, g1, fun j _ => by show _ = _; rfl⟩
  | 2, _, f1, g1 =>
    have e1 : cA = cZ := Option.some.inj (f1.symm.trans (hK.2 2 _ rfl).2)
    subst e1
    exact ⟨(cA, .boolean), _, rfl, g1, fun j _ => by show Value.int 0 = Value.int (nI 0); rw [nI_0]⟩
/-- a new row of references -/
theorem es_anew (hx : p.tables.exec = Jvm.exec) (hb : c.code = cc) (hown : s.vm.findClass own = some m.cls) (hK : va_K D vwCl (es_TY cI cJ cZ cC cM) s) {AH : List es_O} (hH : es_hr D (es_TY cI cJ cZ cC cM) n0 b ρ AH H) {t n index : Nat} {C : String} (hC : es_tyq (t + 3) = .object C) (ht : t < 2) (hn : n < 1000000) (hw : (Cond.classLink own index C).before args s = true) (ho : (Cond.arrayOver (.object C)).before args s = true) (hcells : cells + 1 ≤ R.cells) (hslots : slots + n ≤ R.slots) (hd : decode cc pc = .ok (.anewarray index, 3))
    (kk : ∀ H1 : Heap, es_hr D (es_TY cI cJ cZ cC cM) n0 b ρ (AH ++ [(t + 3 + 2, n, [])]) H1 → H1.size = H.size + 1 → (∀ q : Nat, q < H.size → H1[q]? = H[q]?) → W p l e R s m args below meth c H1 locs (cells + 1) (slots + n) Q (F0 m (pc + 3) ls (.ref H.size :: rest))) : W p l e R s m args below meth c H locs cells slots Q (F0 m pc ls (.int (nI n) :: rest)) := by
  have hcl : (nI n).toNatClampNeg = n := nI_clamp (by omega)
  have hnn : ¬ nI n < 0 := nI_pos (by omega)
  refine W.anew hx hb hown hw ho rfl hd rfl hnn (by rw [hcl]; omega) hcells (by rw [hcl]; exact hslots) fun cA kA comp f1 f2 f3 f4 => ?_
  generalize hH1 : H.push ({ cls := cA, slots := Array.replicate (nI n).toNatClampNeg .null, vm := .none } : Cell) = H1
  have z1 : H1.size = H.size + 1 := by rw [← hH1, Array.size_push]
  have g1 : H1[H.size]? = some (arrV cA n (fun _ => .null)) := by rw [← hH1, Array.getElem?_push_size, ← arrV_new, hcl]
  have o1 : ∀ q : Nat, q < H.size → H1[q]? = H[q]? := fun q hq => by rw [← hH1, Array.getElem?_push, if_neg (Nat.ne_of_lt hq)]
  rw [hcl]
  refine kk H1 (es_hr_push hH z1 o1 ?_) z1 o1
  match t, ht, hC with
  | 0, _, hC =>
    cases hC
    obtain ⟨_, _, _, _, _, e2⟩ := (hK.2 3 _ rfl).2
    have e1 : cA = cC := Option.some.inj (f1.symm.trans e2)
    subst e1
    exact ⟨(cA, .object RX2), _, rfl, g1, fun j _ => rfl⟩
  | 1, _, hC =>
    cases hC
    obtain ⟨_, _, _, _, _, e2⟩ := (hK.2 4 _ rfl).2
    have e1 : cA = cM := Option.some.inj (f1.symm.trans e2)
    subst e1
    exact ⟨(cA, .object RX7), _, rfl, g1, fun j _ => rfl⟩
/-- a new object -/
def es_fs (N : Nat) (ty : Nat → FieldType) : List (Nat × es_V) := (List.range N).map (fun k => (k, match ty k with
  | .int => ((0, 0) : es_V)
  | .boolean => (0, 0)
  | _ => (4, 0)))
theorem es_get_map {α : Type} (f : Nat → α) : ∀ (l : List Nat) (k : Nat) (v : α), es_get (l.map (fun k => (k, f k))) k = some v → k ∈ l ∧ v = f k
  | [], k, v, h => by cases h
  | a :: t, k, v, h => by
    simp only [List.map_cons, es_get] at h
    cases hb : Nat.beq a k
    · rw [hb] at h
      obtain ⟨h1, h2⟩ := es_get_map f t k v h
      exact ⟨List.mem_cons_of_mem _ h1, h2⟩
    · rw [hb] at h
      have e := es_beq.mp hb
      subst e
      cases h
      exact ⟨List.mem_cons_self, rfl⟩
theorem es_newo (hx : p.tables.exec = Jvm.exec) (hb : c.code = cc) (hown : s.vm.findClass own = some m.cls) (hts : ∀ w ∈ Ts, w.before args s = true) {tys : List (ClassId × FieldType)} (hK : va_K D vwCl tys s) {AH : List es_O} (hH : es_hr D tys n0 b ρ AH H) {C : String} {T : u_T} {N ci index : Nat} (hc : vwCl[ci]? = some (C, T, N)) (hin : ∀ w ∈ u_ws C T N, w ∈ Ts)
    (ty0 : Nat → FieldType) (hty : ∀ k, k < N → parseFieldDescriptor (T k).2.2.1 = some (ty0 k)) (hpl : ∀ k, k < N → ty0 k = .int ∨ ty0 k = .boolean ∨ (∃ C, ty0 k = .object C) ∨ ∃ t, ty0 k = .array t)
    (hw1 : Cond.classLink own index C ∈ Ts) (hw2 : Cond.instantiable C N ∈ Ts) (hw3 : Cond.initialized C ∈ Ts) (hcells : cells + 1 ≤ R.cells) (hslots : slots + N ≤ R.slots) (hd : decode cc pc = .ok (.new index, 3))
    (kk : ∀ H1 : Heap, es_hr D tys n0 b ρ (AH ++ [(0, ci, es_fs N ty0)]) H1 → H1.size = H.size + 1 → (∀ q : Nat, q < H.size → H1[q]? = H[q]?) → W p l e R s m args below meth c H1 locs (cells + 1) (slots + N) Q (F0 m (pc + 3) ls (.ref H.size :: rest))) : W p l e R s m args below meth c H locs cells slots Q (F0 m pc ls rest) := by
  have hKn := hK.1 ci _ hc
  refine W.newcK hx hb hown (hts _ hw1) (hts _ hw2) (hts _ hw3) rfl hd hcells hslots hKn.2.1 rfl fun H1 kC hkC e1 z1 o1 => ?_
  refine kk H1 (es_hr_push hH z1 o1 ?_) z1 o1
  refine ⟨(C, T, N), _, hc, u_born ty0 hts hin hKn hkC e1 hty, fun k v hv => ?_⟩
  obtain ⟨h1, h2⟩ := es_get_map _ _ _ _ hv
  have hk : k < N := List.mem_range.mp h1
  refine ⟨hk, ?_⟩
  subst h2
  rcases hpl k hk with h | h | ⟨C', h⟩ | ⟨t, h⟩
  · rw [h]; show _ = _; rw [nI_0]; rfl
  · rw [h]; show _ = _; rw [nI_0]; rfl
  · rw [h]; rfl
  · rw [h]; rfl
end Ar
end
section
abbrev es_K : Type := Nat × es_L × List es_V × List es_O × es_F × Nat × Nat
abbrev es_E : Type := Nat × es_K
abbrev es_M : Type := MethodName × String × ByteArray × Nat × Option FieldType × List (Nat × Nat × Nat × Nat) × List (Nat × List es_I) × Nat × Nat × Nat × Nat
abbrev es_Lf : Type := Nat × es_V × List es_O × es_F
def es_y (M : es_M) : MethodName := M.1
def es_own (M : es_M) : String := M.2.1
def es_code (M : es_M) : ByteArray := M.2.2.1
def es_mL (M : es_M) : Nat := M.2.2.2.1
def es_rt (M : es_M) : Option FieldType := M.2.2.2.2.1
def es_hh (M : es_M) : List (Nat × Nat × Nat × Nat) := M.2.2.2.2.2.1
def es_tab (M : es_M) : List (Nat × List es_I) := M.2.2.2.2.2.2.1
def es_rf (M : es_M) : Nat := M.2.2.2.2.2.2.2.1
def es_mc (M : es_M) : Nat := M.2.2.2.2.2.2.2.2.1
def es_ms (M : es_M) : Nat := M.2.2.2.2.2.2.2.2.2.1
def es_lo (M : es_M) : Nat := M.2.2.2.2.2.2.2.2.2.2
def es_fi : List es_I → Nat → Option es_I
  | [], _ => none
  | q :: t, pc => bif Nat.beq q.1 pc then some q else es_fi t pc
def es_at : List (Nat × List es_I) → Nat → Option es_I
  | [], _ => none
  | q :: t, pc => bif Nat.blt pc q.1 then es_fi q.2 pc else es_at t pc
theorem es_fi_ok : ∀ {l : List es_I} {pc : Nat} {e : es_I}, es_fi l pc = some e → e.1 = pc ∧ e ∈ l
  | [], _, _, h => by cases h
  | q :: t, pc, e, h => by
    unfold es_fi at h
    cases hb : Nat.beq q.1 pc
    · rw [hb] at h
      obtain ⟨h1, h2⟩ := es_fi_ok (show es_fi t pc = some e from h)
      exact ⟨h1, List.mem_cons_of_mem _ h2⟩
    · rw [hb] at h
      cases h
      exact ⟨es_beq.mp hb, List.mem_cons_self⟩
theorem es_at_ok : ∀ {l : List (Nat × List es_I)} {pc : Nat} {e : es_I}, es_at l pc = some e → e.1 = pc ∧ ∃ q ∈ l, e ∈ q.2
  | [], _, _, h => by cases h
  | q :: t, pc, e, h => by
    unfold es_at at h
    cases hb : Nat.blt pc q.1
    · rw [hb] at h
      obtain ⟨h1, r, h2, h3⟩ := es_at_ok (show es_at t pc = some e from h)
      exact ⟨h1, r, List.mem_cons_of_mem _ h2, h3⟩
    · rw [hb] at h
      obtain ⟨h1, h2⟩ := es_fi_ok (show es_fi q.2 pc = some e from h)
      exact ⟨h1, q, List.mem_cons_self, h2⟩
def es_cat {α β : Type} (f : α → Option (List β)) : List α → Option (List β)
  | [] => some []
  | a :: t => match f a with
    | none => none
    | some x => match es_cat f t with
      | none => none
      | some y => some (x ++ y)
theorem es_cat_ok {α β : Type} {f : α → Option (List β)} : ∀ {l : List α} {r : List β}, es_cat f l = some r → ∀ a ∈ l, ∃ x, f a = some x ∧ ∀ z ∈ x, z ∈ r
  | [], _, _, a, ha => by cases ha
  | b :: t, r, h, a, ha => by
    unfold es_cat at h
    cases hb : f b with
    | none => rw [hb] at h; cases h
    | some x =>
      rw [hb] at h
      dsimp only at h
      cases ht : es_cat f t with
      | none => rw [ht] at h; cases h
      | some y =>
        rw [ht] at h
        cases h
        rcases List.mem_cons.mp ha with rfl | ha
        · exact ⟨x, hb, fun z hz => List.mem_append_left _ hz⟩
        · obtain ⟨x', h1, h2⟩ := es_cat_ok ht a ha
          exact ⟨x', h1, fun z hz => List.mem_append_right _ (h2 z hz)⟩
def es_nar (F : es_F) (v : es_V) : Bool := match es_kn F v with
  | some n => Nat.blt n 128
  | none => false
def es_rtv (ret : Option FieldType) (ins : Instr) (S : List es_V) (F : es_F) : Option (Nat × es_V) := match ins with
  | .return_ => match S, ret with
    | [], none => some (0, 0, 0)
    | _, _ => none
  | .ireturn => match S, ret with
    | [v], some .int => bif es_ti v then some (1, v) else none
    | [v], some .boolean => bif es_fitv .boolean F v then some (1, v) else none
    | [v], some .char => bif es_nar F v then some (1, v) else none
    | [v], some .byte => bif es_nar F v then some (1, v) else none
    | _, _ => none
  | .lreturn => match S, ret with
    | [v], some .long => bif Nat.beq v.1 2 then some (1, v) else none
    | _, _ => none
  | .areturn => match S, ret with
    | [v], some (.object _) => bif es_tr v then some (1, v) else none
    | [v], some (.array _) => bif es_tr v then some (1, v) else none
    | _, _ => none
  | _ => none
def es_cts (S : List es_V) : Nat := match S with
  | [] => 0
  | v :: t => (bif Nat.beq v.1 2 then 2 else 1) + es_cts t
/-- the end of a method, as its caller sees it: 0 nothing, 1 a value, 2 and on a thrown one -/
def es_leaf (M : es_M) (E : es_E) : Option es_Lf := match E with
  | (n + 1, _, _, _, AH, F, cs, ss) => match es_hh M with
    | [] => bif Nat.ble cs (es_mc M) && Nat.ble ss (es_ms M) then some (n + 2, (0, 0), AH, F) else none
    | _ => none
  | (0, pc, _, S, AH, F, cs, ss) => match es_at (es_tab M) pc with
    | some e => match e.2.2.2 with
      | 100 :: x :: _ => match es_hh M with
        | [] => bif (Nat.blt cs (es_mc M) && Nat.ble (ss + 6) (es_ms M)) && (Nat.blt 5 (es_rf M) && Nat.ble 100 (es_lo M)) && Nat.ble (es_cts S) 8 then some (x + 2, (0, 0), AH ++ [(1, 0, [])], F) else none
        | _ => none
      | _ => match es_rtv (es_rt M) e.2.1 S F with
        | some q => bif Nat.ble cs (es_mc M) && Nat.ble ss (es_ms M) then some (q.1, q.2, AH, F) else none
        | none => none
    | none => none
def es_al : Nat → List es_V → es_L
  | _, [] => []
  | i, v :: vs => (i, v) :: es_al (bif Nat.beq v.1 2 then i + 2 else i + 1) vs
def es_isr (ins : Instr) : Bool := match ins with
  | .return_ | .ireturn | .lreturn | .areturn => true
  | _ => false
def es_ary (AH : List es_O) (v : es_V) : Option (Nat × Nat × List (Nat × es_V)) := bif Nat.beq v.1 3 then (match AH[v.2]? with
  | some (t + 2, n, c) => bif Nat.blt n 2147483648 then some (t, n, c) else none
  | _ => none) else none
def es_obj (AH : List es_O) (ci : Nat) (v : es_V) : Option (List (Nat × es_V)) := bif Nat.beq v.1 3 then (match AH[v.2]? with
  | some (0, i, c) => bif Nat.beq i ci then some c else none
  | _ => none) else none
/-- which kind of row an instruction reads or writes -/
def es_lt (ins : Instr) (t : Nat) : Bool := match ins with
  | .iaload => Nat.beq t 0
  | .laload => Nat.beq t 1
  | .baload => Nat.beq t 2
  | .aaload => Nat.blt 2 t && Nat.blt t 5
  | _ => false
def es_sti (ins : Instr) (t : Nat) : Bool := match ins with
  | .iastore => Nat.beq t 0
  | .lastore => Nat.beq t 1
  | .bastore => Nat.beq t 2
  | .aastore => Nat.blt 2 t && Nat.blt t 5
  | _ => false
def es_tyf (ci : Nat) : Nat → FieldType := match ci with
  | 0 => tyX0
  | 1 => tyX1
  | 2 => tyX2
  | 3 => tyX3
  | 4 => tyX4
  | 5 => tyX5
  | 6 => tyX6
  | 7 => tyX7
  | 8 => tyX8
  | 9 => tyX9
  | 10 => tyX10
  | 11 => tyX11
  | _ => tyX12
def es_hset (AH : List es_O) (a t n : Nat) (c : List (Nat × es_V)) (j : Nat) (v : es_V) : List es_O := match es_get c j with
  | some _ => AH.set a (t + 2, n, es_set c j v)
  | none => bif Nat.beq v.1 (es_dv t).1 && Nat.beq v.2 (es_dv t).2 then AH else AH.set a (t + 2, n, es_set c j v)
theorem es_hset_eq {AH : List es_O} {a t n : Nat} {c : List (Nat × es_V)} (h : AH[a]? = some (t + 2, n, c)) (j : Nat) (v : es_V) : es_hset AH a t n c j v = AH.set a (t + 2, n, es_aset t c j v) := by
  unfold es_hset es_aset
  cases hg : es_get c j with
  | some w => rfl
  | none =>
    dsimp only
    cases hb : (Nat.beq v.1 (es_dv t).1 && Nat.beq v.2 (es_dv t).2)
    · rfl
    · dsimp only [cond_true]
      obtain ⟨hl, he⟩ := List.getElem?_eq_some_iff.mp h
      rw [← he, List.set_getElem_self]
def es_nrm (F : es_F) (j : Nat) : es_V := match es_kn F (1, j) with
  | some n => (0, n)
  | none => (1, j)
/-- a step that reads or writes the heap and calls nothing -/
def es_hs (SL : Nat) (M : es_M) (e : es_I) (K : es_K) : Option es_K := match K with
  | (pc, L, S, AH, F, cs, ss) => match e.2.1 with
    | .getfield _ => match e.2.2.2, S with
      | ci :: k :: _, v :: S' => match es_obj AH ci v with
        | some c => match es_get c k with
          | some w => some (pc + 3, L, w :: S', AH, F, cs, ss)
          | none => none
        | none => none
      | _, _ => none
    | .putfield _ => match e.2.2.2, S with
      | ci :: k :: _, v :: o :: S' => match es_obj AH ci o with
        | some c => match es_get c k with
          | some _ => bif es_fitv (es_tyf ci k) F v then some (pc + 3, L, S', AH.set o.2 (0, ci, es_set c k v), F, cs, ss) else none
          | none => none
        | none => none
      | _, _ => none
    | .new _ => match e.2.2.2 with
      | 1 :: ci :: _ => match vwCl[ci]? with
        | some r => bif Nat.blt cs (es_mc M) && Nat.ble (ss + r.2.2) (es_ms M) then some (pc + 3, L, (3, AH.length) :: S, AH ++ [(0, ci, es_fs r.2.2 (es_tyf ci))], F, cs + 1, ss + r.2.2) else none
        | none => none
      | _ => none
    | .newarray _ => match e.2.2.2, S with
      | t :: _, v :: S' => match es_kn F v with
        | some n => bif (Nat.blt t 3 && Nat.blt n 1000000) && (Nat.blt cs (es_mc M) && Nat.ble (ss + n) (es_ms M)) then some (pc + 2, L, (3, AH.length) :: S', AH ++ [(t + 2, n, [])], F, cs + 1, ss + n) else none
        | none => none
      | _, _ => none
    | .anewarray _ => match e.2.2.2, S with
      | t :: _, v :: S' => match es_kn F v with
        | some n => bif (Nat.blt t 2 && Nat.blt n 1000000) && (Nat.blt cs (es_mc M) && Nat.ble (ss + n) (es_ms M)) then some (pc + 3, L, (3, AH.length) :: S', AH ++ [(t + 3 + 2, n, [])], F, cs + 1, ss + n) else none
        | none => none
      | _, _ => none
    | .arraylength => match S with
      | v :: S' => bif Nat.beq v.1 5 then some (pc + 1, L, (0, SL) :: S', AH, F, cs, ss) else match es_ary AH v with
        | some (_, n, _) => some (pc + 1, L, (0, n) :: S', AH, F, cs, ss)
        | none => none
      | _ => none
    | .iastore | .lastore | .bastore | .aastore => match S with
      | v :: j :: a :: S' => match es_ary AH a, es_kn F j with
        | some (t, n, c), some jn => bif (es_sti e.2.1 t && Nat.blt jn n) && es_sfit AH F t v then some (pc + 1, L, S', es_hset AH a.2 t n c jn v, F, cs, ss) else none
        | _, _ => none
      | _ => none
    | .iaload | .laload | .baload | .aaload => match S with
      | j :: a :: S' => match es_kn F j with
        | some jn => bif Nat.beq a.1 5 then (match e.2.1 with
            | .iaload => bif Nat.blt jn SL && Nat.blt SL 2147483648 then some (pc + 1, L, es_nrm F jn :: S', AH, F, cs, ss) else none
            | _ => none) else match es_ary AH a with
          | some (t, n, c) => bif es_lt e.2.1 t && Nat.blt jn n then some (pc + 1, L, es_ad t c jn :: S', AH, F, cs, ss) else none
          | none => none
        | none => none
      | _ => none
    | .ldc _ => match e.2.2.2 with
      | _ :: n :: _ => some (pc + 2, L, (0, n) :: S, AH, F, cs, ss)
      | _ => none
    | .ldc_w _ => match e.2.2.2 with
      | _ :: n :: _ => some (pc + 3, L, (0, n) :: S, AH, F, cs, ss)
      | _ => none
    | .ldc2_w _ => match e.2.2.2 with
      | _ :: n :: _ => some (pc + 3, L, (2, n) :: S, AH, F, cs, ss)
      | _ => none
    | _ => none
end
section
def es_wj (WS : List Cond) (j : Nat) (w : Cond) : Bool := decide (WS[j]? = some w)
theorem es_wj_in {WS : List Cond} {j : Nat} {w : Cond} (h : es_wj WS j w = true) : w ∈ WS := List.mem_of_getElem? (of_decide_eq_true h)
def es_hok (WS : List Cond) (M : es_M) (e : es_I) : Bool := match e.2.1 with
  | .getfield idx => match e.2.2.2 with
    | [ci, k, j] => match vwCl[ci]? with
      | some r => es_wj WS j (.fieldLink (es_own M) idx (r.2.1 k).1 (r.2.1 k).2.1 (r.2.1 k).2.2.1)
      | none => false
    | _ => false
  | .putfield idx => match e.2.2.2 with
    | [ci, k, j] => match vwCl[ci]? with
      | some r => es_wj WS j (.fieldLink (es_own M) idx (r.2.1 k).1 (r.2.1 k).2.1 (r.2.1 k).2.2.1) && (!(r.2.1 k).2.2.2 || (decide ((es_y M).name = "<init>") && decide ((r.2.1 k).1 = es_own M)))
      | none => false
    | _ => false
  | .new idx => match e.2.2.2 with
    | [1, ci, j1, j2, j3] => match vwCl[ci]? with
      | some r => es_wj WS j1 (.classLink (es_own M) idx r.1) && (es_wj WS j2 (.instantiable r.1 r.2.2) && es_wj WS j3 (.initialized r.1))
      | none => false
    | 1 :: _ => false
    | _ => true
  | .newarray ty => match e.2.2.2 with
    | [t, j] => decide (ty = es_nat t) && es_wj WS j (.arrayClass (newarray.typeOf (es_nat t)))
    | _ => false
  | .anewarray idx => match e.2.2.2 with
    | [t, j1] => match es_tyq (t + 3) with
      | .object C => es_wj WS j1 (.classLink (es_own M) idx C)
      | _ => false
    | _ => false
  | .ldc idx => match e.2.2.2 with
    | [j, n] => es_wj WS j (.constant (es_own M) idx (nI n))
    | _ => false
  | .ldc_w idx => match e.2.2.2 with
    | [j, n] => es_wj WS j (.constant (es_own M) idx (nI n))
    | _ => false
  | .ldc2_w idx => match e.2.2.2 with
    | [j, n] => es_wj WS j (.constantLong (es_own M) idx (lN n))
    | _ => false
  | _ => true
theorem es_pl (x : FieldType) (h : (match x with | .int => true | .boolean => true | .object _ => true | .array _ => true | _ => false) = true) : x = .int ∨ x = .boolean ∨ (∃ C, x = .object C) ∨ ∃ t, x = .array t := by
  cases x <;> simp at h <;> simp
def es_plb (x : FieldType) : Bool := match x with
  | .int => true
  | .boolean => true
  | .object _ => true
  | .array _ => true
  | _ => false
theorem es_cl {ci : Nat} {r : vw_C} (h : vwCl[ci]? = some r) : (∀ k, k < r.2.2 → parseFieldDescriptor (r.2.1 k).2.2.1 = some (es_tyf ci k)) ∧ (∀ a, a < r.2.2 → ∀ b, b < r.2.2 → a ≠ b → (r.2.1 a).2.1 ≠ (r.2.1 b).2.1) ∧ ∀ k, k < r.2.2 → es_plb (es_tyf ci k) = true := by
  match ci, h with
  | 0, h => cases h; exact ⟨tyX0_ok, nmX0, by decide +kernel⟩
  | 1, h => cases h; exact ⟨tyX1_ok, nmX1, by decide +kernel⟩
  | 2, h => cases h; exact ⟨tyX2_ok, nmX2, by decide +kernel⟩
  | 3, h => cases h; exact ⟨tyX3_ok, nmX3, by decide +kernel⟩
  | 4, h => cases h; exact ⟨tyX4_ok, nmX4, by decide +kernel⟩
  | 5, h => cases h; exact ⟨tyX5_ok, nmX5, by decide +kernel⟩
  | 6, h => cases h; exact ⟨tyX6_ok, nmX6, by decide +kernel⟩
  | 7, h => cases h; exact ⟨tyX7_ok, nmX7, by decide +kernel⟩
  | 8, h => cases h; exact ⟨tyX8_ok, nmX8, by decide +kernel⟩
  | 9, h => cases h; exact ⟨tyX9_ok, nmX9, by decide +kernel⟩
  | 10, h => cases h; exact ⟨tyX10_ok, nmX10, by decide +kernel⟩
  | 11, h => cases h; exact ⟨tyX11_ok, nmX11, by decide +kernel⟩
  | 12, h => cases h; exact ⟨tyX12_ok, nmX12, by decide +kernel⟩
  | t + 13, h => simp at h
abbrev es_A (n0 : Nat) : Nat → Prop := fun q => n0 ≤ q
def es_inv (D : va_G) (tys : List (ClassId × FieldType)) (n0 : Nat) (b : Nat → Nat) (ρ : Nat → Int32) (nL : Nat) (s : State) (K : es_K) (H : Heap) (ls : Array Slot) (locs : List Loc) (st : List Value) : Prop :=
  es_lr n0 b ρ nL K.2.1 ls ∧ es_sr n0 b ρ K.2.2.1 st ∧ es_hr D tys n0 b ρ K.2.2.2.1 H ∧ es_fr ρ K.2.2.2.2.1 ∧ va_S (es_A n0) s.heap H locs
def es_G (p : Program) (l : Launch) (e : Env) (R : Room) (s : State) (m : MethodId) (args : Array Value) (below : List Frame) (meth : Method) (c : Code) (Q : State → Prop) (D : va_G) (tys : List (ClassId × FieldType)) (n0 : Nat) (b : Nat → Nat) (ρ : Nat → Int32) (nL : Nat) (K : es_K) : Prop :=
  ∀ (H : Heap) (ls : Array Slot) (locs : List Loc) (st : List Value), es_inv D tys n0 b ρ nL s K H ls locs st → W p l e R s m args below meth c H locs K.2.2.2.2.2.1 K.2.2.2.2.2.2 Q (F0 m K.1 ls st)
/-- what holds of a frame of the method M -/
def es_FC (WS : List Cond) (SL : Nat) (D : va_G) (cI cJ cZ cC cM : ClassId) (n0 : Nat) (b : Nat → Nat) (ρ : Nat → Int32) (p : Program) (R : Room) (s : State) (m : MethodId) (args : Array Value) (meth : Method) (c : Code) (M : es_M) : Prop :=
  p.tables.exec = Jvm.exec ∧ c.code = es_code M ∧ c.maxLocals = es_mL M ∧ s.vm.findClass (es_own M) = some m.cls ∧ (∀ w ∈ WS, w.before args s = true) ∧ va_K D vwCl (es_TY cI cJ cZ cC cM) s ∧ (es_mc M ≤ R.cells ∧ es_ms M ≤ R.slots ∧ es_rf M ≤ R.frames ∧ es_lo M ≤ R.locals) ∧
  ((es_y M).name = "<init>" → meth.name = "<init>") ∧ (b 0 < n0 ∧ n0 ≤ s.heap.size ∧ va_X (b 0) SL ρ s s.heap) ∧ (va_AO RX2 s ∧ va_AO RX7 s) ∧ meth.locks = false ∧ meth.sig.returnType = es_rt M
section Hs
variable {p : Program} {l : Launch} {e : Env} {R : Room} {s : State} {m : MethodId} {args : Array Value} {below : List Frame} {meth : Method} {c : Code} {Q : State → Prop}
variable {WS : List Cond} {SL : Nat} {D : va_G} {cI cJ cZ cC cM : ClassId} {n0 : Nat} {b : Nat → Nat} {ρ : Nat → Int32} {M : es_M}
theorem es_va_put {H0 H H1 : Heap} {locs : List Loc} {i j : Nat} (h : va_S (es_A n0) H0 H locs) (z : H1.size = H.size) (o : ∀ q : Nat, q ≠ n0 + i → H1[q]? = H[q]?) : va_S (es_A n0) H0 H1 (locs ++ [⟨n0 + i, j⟩]) := h.put z o (Nat.le_add_right _ _)
theorem es_va_push {H0 H H1 : Heap} {locs : List Loc} (h : va_S (es_A n0) H0 H locs) (z : H1.size = H.size + 1) (o : ∀ q : Nat, q < H.size → H1[q]? = H[q]?) : va_S (es_A n0) H0 H1 locs :=
  ⟨Nat.le_trans h.1 (by omega), fun x h1 h2 => (o x (Nat.lt_of_lt_of_le h1 h.1)).trans (h.2.1 x h1 h2), h.2.2⟩
theorem es_obj_ok {AH : List es_O} {ci : Nat} {v : es_V} {cs : List (Nat × es_V)} {x : Value} (h : es_obj AH ci v = some cs) (hv : es_vr n0 b ρ v x) : x = .ref (n0 + v.2) ∧ AH[v.2]? = some (0, ci, cs) := by
  unfold es_obj at h
  cases h3 : Nat.beq v.1 3
  · rw [h3] at h; cases h
  · rw [h3] at h
    dsimp only [cond_true] at h
    refine ⟨es_t3_ref hv h3, ?_⟩
    split at h
    · rename_i i c0 hA
      cases hi : Nat.beq i ci
      · rw [hi] at h; cases h
      · rw [hi] at h
        cases h
        rw [hA, es_beq.mp hi]
    · cases h
theorem es_ary_ok {AH : List es_O} {v : es_V} {t n : Nat} {cs : List (Nat × es_V)} {x : Value} (h : es_ary AH v = some (t, n, cs)) (hv : es_vr n0 b ρ v x) : x = .ref (n0 + v.2) ∧ AH[v.2]? = some (t + 2, n, cs) ∧ n < 2147483648 := by
  unfold es_ary at h
  cases h3 : Nat.beq v.1 3
  · rw [h3] at h; cases h
  · rw [h3] at h
    dsimp only [cond_true] at h
    refine ⟨es_t3_ref hv h3, ?_⟩
    split at h
    · rename_i t' n' c0 hA
      cases hi : Nat.blt n' 2147483648
      · rw [hi] at h; cases h
      · rw [hi] at h
        cases h
        exact ⟨hA, es_blt.mp hi⟩
    · cases h
theorem es_sti_eq {ins : Instr} {t : Nat} (h : es_sti ins t = true) : ins = es_sop t ∧ es_len ins = 1 := by
  unfold es_sti at h
  split at h
  · rw [es_beq.mp h]; exact ⟨rfl, rfl⟩
  · rw [es_beq.mp h]; exact ⟨rfl, rfl⟩
  · rw [es_beq.mp h]; exact ⟨rfl, rfl⟩
  · rw [Bool.and_eq_true] at h
    have := es_blt.mp h.1
    match t, this with
    | t + 3, _ => exact ⟨rfl, rfl⟩
  · cases h
theorem es_lt_eq {ins : Instr} {t : Nat} (h : es_lt ins t = true) : ins = es_lop t ∧ es_len ins = 1 := by
  unfold es_lt at h
  split at h
  · rw [es_beq.mp h]; exact ⟨rfl, rfl⟩
  · rw [es_beq.mp h]; exact ⟨rfl, rfl⟩
  · rw [es_beq.mp h]; exact ⟨rfl, rfl⟩
  · rw [Bool.and_eq_true] at h
    have := es_blt.mp h.1
    match t, this with
    | t + 3, _ => exact ⟨rfl, rfl⟩
  · cases h
theorem es_stw (fc : es_FC WS SL D cI cJ cZ cC cM n0 b ρ p R s m args meth c M) {H : Heap} {ls : Array Slot} {locs : List Loc} {st : List Value} {ins : Instr} {pc : Nat} {L : es_L} {v j a : es_V} {S' : List es_V} {AH : List es_O} {F : es_F} {cs ss : Nat} {K' : es_K} (hd : decode (es_code M) pc = .ok (ins, es_len ins))
    (hs : es_sr n0 b ρ (v :: j :: a :: S') st) (hl : es_lr n0 b ρ (es_mL M) L ls) (hH : es_hr D (es_TY cI cJ cZ cC cM) n0 b ρ AH H) (hF : es_fr ρ F) (hS : va_S (es_A n0) s.heap H locs) {t n jn : Nat} {cf : List (Nat × es_V)} (hA : es_ary AH a = some (t, n, cf)) (hj : es_kn F j = some jn)
    (h : (bif (es_sti ins t && Nat.blt jn n) && es_sfit AH F t v then some (pc + 1, L, S', es_hset AH a.2 t n cf jn v, F, cs, ss) else none) = some K')
    (k : es_G p l e R s m args below meth c Q D (es_TY cI cJ cZ cC cM) n0 b ρ (es_mL M) K') : W p l e R s m args below meth c H locs cs ss Q (F0 m pc ls st) := by
  obtain ⟨hx, hb, hml, hown, hts, hK, hR, hin, hscr, hao, -⟩ := fc
  cases hc : ((es_sti ins t && Nat.blt jn n) && es_sfit AH F t v)
  · rw [hc] at h; cases h
  · rw [hc] at h
    simp only [Bool.and_eq_true, es_blt] at hc
    obtain ⟨⟨h1, h2⟩, h3⟩ := hc
    obtain ⟨e1, e2⟩ := es_sti_eq h1
    rw [e2, e1] at hd
    obtain ⟨x, st1, rfl, hv, y, st2, rfl, hvj, z, st', rfl, hva, hs'⟩ := hs
    obtain ⟨rfl, hA', hn⟩ := es_ary_ok hA hva
    rw [es_hset_eq hA'] at h
    cases h
    have e3 := es_kn_ok hF hvj hj
    subst e3
    exact es_ast hx hb hK hF hH (hH.2 _ _ hA') h2 hn hv h3 hd (fun H1 i g1 g2 g3 => k H1 ls _ _ ⟨hl, hs', es_hr_set hH g2 g3 g1, hF, es_va_put hS g2 g3⟩)
theorem es_ldw (fc : es_FC WS SL D cI cJ cZ cC cM n0 b ρ p R s m args meth c M) {H : Heap} {ls : Array Slot} {locs : List Loc} {st : List Value} {ins : Instr} {pc : Nat} {L : es_L} {j a : es_V} {S' : List es_V} {AH : List es_O} {F : es_F} {cs ss : Nat} {K' : es_K} (hd : decode (es_code M) pc = .ok (ins, es_len ins))
    (hs : es_sr n0 b ρ (j :: a :: S') st) (hl : es_lr n0 b ρ (es_mL M) L ls) (hH : es_hr D (es_TY cI cJ cZ cC cM) n0 b ρ AH H) (hF : es_fr ρ F) (hS : va_S (es_A n0) s.heap H locs) {jn : Nat} (hj : es_kn F j = some jn)
    (h : (bif Nat.beq a.1 5 then (match ins with
            | .iaload => bif Nat.blt jn SL && Nat.blt SL 2147483648 then some (pc + 1, L, es_nrm F jn :: S', AH, F, cs, ss) else none
            | _ => none) else match es_ary AH a with
          | some (t, n, c) => bif es_lt ins t && Nat.blt jn n then some (pc + 1, L, es_ad t c jn :: S', AH, F, cs, ss) else none
          | none => none) = some K')
    (k : es_G p l e R s m args below meth c Q D (es_TY cI cJ cZ cC cM) n0 b ρ (es_mL M) K') : W p l e R s m args below meth c H locs cs ss Q (F0 m pc ls st) := by
  obtain ⟨hx, hb, hml, hown, hts, hK, hR, hin, hscr, hao, -⟩ := fc
  obtain ⟨y, st2, rfl, hvj, z, st', rfl, hva, hs'⟩ := hs
  have e3 := es_kn_ok hF hvj hj
  subst e3
  cases h5 : Nat.beq a.1 5
  · rw [h5] at h
    dsimp only [cond_false] at h
    split at h
    · rename_i t n cf hA
      obtain ⟨rfl, hA', hn⟩ := es_ary_ok hA hva
      cases hc : (es_lt ins t && Nat.blt jn n)
      · rw [hc] at h; cases h
      · rw [hc] at h
        cases h
        rw [Bool.and_eq_true, es_blt] at hc
        obtain ⟨e1, e2⟩ := es_lt_eq hc.1
        rw [e2, e1] at hd
        exact es_ald hx hb hK (hH.2 _ _ hA') hc.2 hn hd (fun x hx2 => k H ls locs _ ⟨hl, ⟨_, _, rfl, hx2, hs'⟩, hH, hF, hS⟩)
    · cases h
  · rw [h5] at h
    dsimp only [cond_true] at h
    split at h
    · cases hc : (Nat.blt jn SL && Nat.blt SL 2147483648)
      · rw [hc] at h; cases h
      · rw [hc] at h
        cases h
        simp only [Bool.and_eq_true, es_blt] at hc
        obtain ⟨t, q⟩ := a
        have e := es_beq.mp h5
        dsimp only at e
        subst e
        have e2 : z = .ref (b 0) := hva
        subst e2
        refine va_sld hx hb hscr.2.2 (Nat.lt_of_lt_of_le hscr.1 hscr.2.1) (Nat.not_le.mpr hscr.1) hS (vp_in_nI hc.1 hc.2) (by assumption) (k H ls locs _ ⟨hl, ⟨_, _, rfl, ?_, hs'⟩, hH, hF, hS⟩)
        rw [nI_clamp (by omega)]
        unfold es_nrm
        have h1 : es_vr n0 b ρ (1, jn) (.int (ρ jn)) := rfl
        cases hkn : es_kn F (1, jn) with
        | none => exact h1
        | some nn => exact es_kn_ok hF h1 hkn
    · cases h
set_option maxHeartbeats 4000000 in
theorem es_hs_ok (hU : ∀ (ci : Nat) (r : vw_C), vwCl[ci]? = some r → ∀ w ∈ u_ws r.1 r.2.1 r.2.2, w ∈ WS) (fc : es_FC WS SL D cI cJ cZ cC cM n0 b ρ p R s m args meth c M) {E : es_I} {K K' : es_K} (hd : decode (es_code M) K.1 = .ok (E.2.1, es_len E.2.1)) (hok : es_hok WS M E = true) (h : es_hs SL M E K = some K')
    (k : es_G p l e R s m args below meth c Q D (es_TY cI cJ cZ cC cM) n0 b ρ (es_mL M) K') : es_G p l e R s m args below meth c Q D (es_TY cI cJ cZ cC cM) n0 b ρ (es_mL M) K := by
  intro H ls locs st hinv
  obtain ⟨pc, L, S, AH, F, cs, ss⟩ := K
  obtain ⟨hl, hs, hH, hF, hS⟩ := hinv
  obtain ⟨hx, hb, hml, hown, hts, hK, hR, hin, hscr, hao, -⟩ := id fc
  obtain ⟨epc, ins, len, aux⟩ := E
  dsimp only at hl hs hH hF hd ⊢
  unfold es_hs at h
  unfold es_hok at hok
  dsimp only at h hok
  split at h
  -- getfield
  · rename_i idx
    split at h
    · rename_i ci kf tl v S'
      cases ho : es_obj AH ci v with
      | none => rw [ho] at h; cases h
      | some cf =>
        rw [ho] at h
        dsimp only at h
        cases hg : es_get cf kf with
        | none => rw [hg] at h; cases h
        | some w =>
          rw [hg] at h
          cases h
          obtain ⟨x, st', rfl, hv, hs'⟩ := hs
          obtain ⟨rfl, hA⟩ := es_obj_ok ho hv
          dsimp only at hok
          split at hok
          · rename_i ci' k' j heq
            cases heq
            split at hok
            · rename_i r hr
              obtain ⟨C, T, N⟩ := r
              exact es_getf hx hb hown hts hK hr (hU ci _ hr) (es_wj_in hok) (hH.2 _ _ hA) hg hd (fun y hy => k H ls locs _ ⟨hl, ⟨_, _, rfl, hy, hs'⟩, hH, hF, hS⟩)
            · cases hok
          · cases hok
    · cases h
  -- putfield
  · rename_i idx
    split at h
    · rename_i ci kf tl v o S'
      cases ho : es_obj AH ci o with
      | none => rw [ho] at h; cases h
      | some cf =>
        rw [ho] at h
        dsimp only at h
        cases hg : es_get cf kf with
        | none => rw [hg] at h; cases h
        | some w =>
          rw [hg] at h
          dsimp only at h
          cases hft : es_fitv (es_tyf ci kf) F v
          · rw [hft] at h; cases h
          · rw [hft] at h
            cases h
            obtain ⟨x, st1, rfl, hv, y, st', rfl, hvo, hs'⟩ := hs
            obtain ⟨rfl, hA⟩ := es_obj_ok ho hvo
            dsimp only at hok
            split at hok
            · rename_i ci' k' j heq
              cases heq
              split at hok
              · rename_i r hr
                obtain ⟨C, T, N⟩ := r
                rw [Bool.and_eq_true] at hok
                obtain ⟨c1, c2, -⟩ := es_cl hr
                obtain ⟨f1, f2⟩ := es_fitv_ok hF hv hft
                have hfin : (T kf).2.2.2 = false ∨ (meth.name = "<init>" ∧ (T kf).1 = es_own M) := by
                  have h2 := hok.2
                  rw [Bool.or_eq_true] at h2
                  rcases h2 with h2 | h2
                  · left; simpa using h2
                  · right
                    rw [Bool.and_eq_true] at h2
                    exact ⟨hin (of_decide_eq_true h2.1), of_decide_eq_true h2.2⟩
                exact es_putf hx hb hown hts hK hr (hU ci _ hr) (es_tyf ci) c1 c2 (es_wj_in hok.1) hfin (hH.2 _ _ hA) hg hv f1 f2 hd (fun H1 i g1 g2 g3 => k H1 ls _ _ ⟨hl, hs', es_hr_set hH g2 g3 g1, hF, es_va_put hS g2 g3⟩)
              · cases hok
            · cases hok
    · cases h
  -- new
  · rename_i idx
    split at h
    · rename_i ci tl
      dsimp only at hok
      split at hok
      · rename_i ci' j1 j2 j3 heq
        cases heq
        split at h
        · rename_i r hr
          rw [hr] at hok
          dsimp only at hok
          cases hcap : (Nat.blt cs (es_mc M) && Nat.ble (ss + r.2.2) (es_ms M))
          · rw [hcap] at h; cases h
          · rw [hcap] at h
            cases h
            rw [Bool.and_eq_true] at hcap
            have e1 := es_blt.mp hcap.1
            have e2 := Nat.ble_eq.mp hcap.2
            obtain ⟨C, T, N⟩ := r
            simp only [Bool.and_eq_true] at hok
            obtain ⟨c1, c2, c3⟩ := es_cl hr
            refine es_newo hx hb hown hts hK hH hr (hU ci _ hr) (es_tyf ci) c1 (fun q hq => es_pl _ (c3 q hq)) (es_wj_in hok.1) (es_wj_in hok.2.1) (es_wj_in hok.2.2) (by have := hR.1; omega) (by have := hR.2.1; dsimp only at e2; omega) hd (fun H1 g1 g2 g3 => k H1 ls _ _ ⟨hl, ⟨_, _, rfl, ?_, hs⟩, g1, hF, es_va_push hS g2 g3⟩)
            show Value.ref H.size = Value.ref (n0 + AH.length)
            rw [hH.1]
        · cases h
      · cases hok
      · rename_i hne1 hne2
        exact absurd rfl (hne2 _)
    · cases h
  -- newarray
  · rename_i ty
    split at h
    · rename_i t tl v S'
      cases hk : es_kn F v with
      | none => rw [hk] at h; cases h
      | some n =>
        rw [hk] at h
        dsimp only at h
        cases hcap : ((Nat.blt t 3 && Nat.blt n 1000000) && (Nat.blt cs (es_mc M) && Nat.ble (ss + n) (es_ms M)))
        · rw [hcap] at h; cases h
        · rw [hcap] at h
          cases h
          simp only [Bool.and_eq_true, es_blt, Nat.ble_eq] at hcap
          obtain ⟨⟨t3, n6⟩, e1, e2⟩ := hcap
          obtain ⟨x, st', rfl, hv, hs'⟩ := hs
          have e3 := es_kn_ok hF hv hk
          subst e3
          dsimp only at hok
          split at hok
          · rename_i t' j heq
            cases heq
            rw [Bool.and_eq_true] at hok
            have e4 := of_decide_eq_true hok.1
            subst e4
            refine es_newa hx hb hK hH t3 n6 (hts _ (es_wj_in hok.2)) (by have := hR.1; omega) (by have := hR.2.1; omega) hd (fun H1 g1 g2 g3 => k H1 ls _ _ ⟨hl, ⟨_, _, rfl, ?_, hs'⟩, g1, hF, es_va_push hS g2 g3⟩)
            show Value.ref H.size = Value.ref (n0 + AH.length)
            rw [hH.1]
          · cases hok
    · cases h
  -- anewarray
  · rename_i idx
    split at h
    · rename_i t tl v S'
      cases hk : es_kn F v with
      | none => rw [hk] at h; cases h
      | some n =>
        rw [hk] at h
        dsimp only at h
        cases hcap : ((Nat.blt t 2 && Nat.blt n 1000000) && (Nat.blt cs (es_mc M) && Nat.ble (ss + n) (es_ms M)))
        · rw [hcap] at h; cases h
        · rw [hcap] at h
          cases h
          simp only [Bool.and_eq_true, es_blt, Nat.ble_eq] at hcap
          obtain ⟨⟨t2, n6⟩, e1, e2⟩ := hcap
          obtain ⟨x, st', rfl, hv, hs'⟩ := hs
          have e3 := es_kn_ok hF hv hk
          subst e3
          dsimp only at hok
          split at hok
          · rename_i t' j heq
            cases heq
            split at hok
            · rename_i C hC
              have hover : va_AO C s := by
                match t, t2, hC with
                | 0, _, hC => cases hC; exact hao.1
                | 1, _, hC => cases hC; exact hao.2
              refine es_anew hx hb hown hK hH hC t2 n6 (hts _ (es_wj_in hok)) (va_AO.use hover) (by have := hR.1; omega) (by have := hR.2.1; omega) hd (fun H1 g1 g2 g3 => k H1 ls _ _ ⟨hl, ⟨_, _, rfl, ?_, hs'⟩, g1, hF, es_va_push hS g2 g3⟩)
              show Value.ref H.size = Value.ref (n0 + AH.length)
              rw [hH.1]
            · cases hok
          · cases hok
    · cases h
  -- arraylength
  · split at h
    · rename_i v S'
      obtain ⟨x, st', rfl, hv, hs'⟩ := hs
      cases h5 : Nat.beq v.1 5
      · rw [h5] at h
        dsimp only [cond_false] at h
        split at h
        · rename_i t n cf hA
          cases h
          obtain ⟨rfl, hA', -⟩ := es_ary_ok hA hv
          exact es_aln hx hb hK (hH.2 _ _ hA') hd (k H ls locs _ ⟨hl, ⟨_, _, rfl, rfl, hs'⟩, hH, hF, hS⟩)
        · cases h
      · rw [h5] at h
        cases h
        obtain ⟨t, q⟩ := v
        have e := es_beq.mp h5
        dsimp only at e
        subst e
        have e2 : x = .ref (b 0) := hv
        subst e2
        exact va_slen hx hb hscr.2.2 (Nat.lt_of_lt_of_le hscr.1 hscr.2.1) (Nat.not_le.mpr hscr.1) hS hd (k H ls locs _ ⟨hl, ⟨_, _, rfl, rfl, hs'⟩, hH, hF, hS⟩)
    · cases h
  · split at h
    · rename_i v j a S'
      split at h
      · rename_i t n cf jn hA hj
        exact es_stw fc hd hs hl hH hF hS hA hj h k
      · cases h
    · cases h
  · split at h
    · rename_i v j a S'
      split at h
      · rename_i t n cf jn hA hj
        exact es_stw fc hd hs hl hH hF hS hA hj h k
      · cases h
    · cases h
  · split at h
    · rename_i v j a S'
      split at h
      · rename_i t n cf jn hA hj
        exact es_stw fc hd hs hl hH hF hS hA hj h k
      · cases h
    · cases h
  · split at h
    · rename_i v j a S'
      split at h
      · rename_i t n cf jn hA hj
        exact es_stw fc hd hs hl hH hF hS hA hj h k
      · cases h
    · cases h
  · split at h
    · rename_i j a S'
      split at h
      · rename_i jn hj
        exact es_ldw fc hd hs hl hH hF hS hj h k
      · cases h
    · cases h
  · split at h
    · rename_i j a S'
      split at h
      · rename_i jn hj
        exact es_ldw fc hd hs hl hH hF hS hj h k
      · cases h
    · cases h
  · split at h
    · rename_i j a S'
      split at h
      · rename_i jn hj
        exact es_ldw fc hd hs hl hH hF hS hj h k
      · cases h
    · cases h
  · split at h
    · rename_i j a S'
      split at h
      · rename_i jn hj
        exact es_ldw fc hd hs hl hH hF hS hj h k
      · cases h
    · cases h
  · rename_i idx
    split at h
    · rename_i n tl
      cases h
      dsimp only at hok
      split at hok
      · rename_i n' j heq
        cases heq
        exact lv_ldc hx hb hown (hts _ (es_wj_in hok)) hd (k H ls locs _ ⟨hl, ⟨_, _, rfl, rfl, hs⟩, hH, hF, hS⟩)
      · cases hok
    · cases h
  · rename_i idx
    split at h
    · rename_i n tl
      cases h
      dsimp only at hok
      split at hok
      · rename_i n' j heq
        cases heq
        exact lv_ldcw hx hb hown (hts _ (es_wj_in hok)) hd (k H ls locs _ ⟨hl, ⟨_, _, rfl, rfl, hs⟩, hH, hF, hS⟩)
      · cases hok
    · cases h
  · rename_i idx
    split at h
    · rename_i n tl
      cases h
      dsimp only at hok
      split at hok
      · rename_i n' j heq
        cases heq
        exact lv_ldc2 hx hb hown (hts _ (es_wj_in hok)) hd (k H ls locs _ ⟨hl, ⟨_, _, rfl, rfl, hs⟩, hH, hF, hS⟩)
      · cases hok
    · cases h
  · cases h
end Hs
end
section
def es_exc (n : Nat) : String := match n with
  | 0 => "java/lang/IllegalArgumentException"
  | 1 => "java/lang/UnsupportedOperationException"
  | 2 => "java/util/NoSuchElementException"
  | 3 => "java/lang/IndexOutOfBoundsException"
  | _ => "java/lang/IllegalStateException"
/-- the row of a table that takes a thrown one: the class of a row by its number -/
def es_hdl (ct : Nat → Nat) : List (Nat × Nat × Nat × Nat) → Nat → Nat → Option Nat
  | [], _, _ => none
  | q :: t, pc, x => bif Nat.ble q.1 pc && Nat.blt pc q.2.1 then (bif Nat.beq (ct q.2.2.2) x then some q.2.2.1 else es_hdl ct t pc x) else es_hdl ct t pc x
def es_cal (M M' : Nat) : Nat := M' % 512 + 512 * (M / 512 - 1)
def es_bs (tx : String) : List Nat := tx.toList.map Char.toNat
def es_q1 (strs : List (String × Nat × String)) (pc : Nat) (L : es_L) (S : List es_V) (AH : List es_O) (F : es_F) (cs ss : Nat) : Option es_K := match S with
  | v :: S' => bif Nat.beq v.1 8 && Nat.blt v.2 strs.length then some (pc + 3, L, (9, v.2) :: S', AH, F, cs, ss) else none
  | _ => none
def es_q2 (strs : List (String × Nat × String)) (pc : Nat) (L : es_L) (S : List es_V) (AH : List es_O) (F : es_F) (cs ss : Nat) : Option es_K := match S with
  | v :: S' => bif Nat.beq v.1 8 && Nat.blt v.2 strs.length then some (pc + 3, L, (0, 0) :: S', AH, F, cs, ss) else none
  | _ => none
def es_q3 (strs : List (String × Nat × String)) (pc : Nat) (L : es_L) (S : List es_V) (AH : List es_O) (F : es_F) (cs ss : Nat) : Option es_K := match S with
  | v :: S' => match strs[v.2]? with
    | some q => bif Nat.beq v.1 9 then some (pc + 1, L, (0, (es_bs q.2.2).length) :: S', AH, F, cs, ss) else none
    | none => none
  | _ => none
def es_q4 (strs : List (String × Nat × String)) (pc : Nat) (L : es_L) (S : List es_V) (AH : List es_O) (F : es_F) (cs ss : Nat) : Option es_K := match S with
  | j :: v :: S' => match strs[v.2]?, es_kn F j with
    | some q, some jn => bif Nat.beq v.1 9 && Nat.blt jn (es_bs q.2.2).length then some (pc + 1, L, (0, (es_bs q.2.2).getD jn 0) :: S', AH, F, cs, ss) else none
    | _, _ => none
  | _ => none
/-- a step that speaks of a constant text -/
def es_str (strs : List (String × Nat × String)) (f a len : Nat) (K : es_K) : Option es_K := match K with
  | (pc, L, S, AH, F, cs, ss) => match f with
    | 0 => some (pc + len, L, (8, a) :: S, AH, F, cs, ss)
    | 1 => es_q1 strs pc L S AH F cs ss
    | 2 => es_q2 strs pc L S AH F cs ss
    | 3 => es_q3 strs pc L S AH F cs ss
    | 4 => es_q4 strs pc L S AH F cs ss
    | 5 => some (pc + 3, L, (0, 1) :: S, AH, F, cs, ss)
    | 6 => some (pc + 3, L, (10, 0) :: S, AH, F, cs, ss)
    | _ => none
section Step
variable (ME : Nat → es_M) (strs : List (String × Nat × String)) (SL : Nat)
/-- behind a call: what each end of the callee leads to -/
def es_aft (ih : Nat → es_K → Option (List es_E)) (M : Nat) (pc : Nat) (L : es_L) (S : List es_V) (cs ss : Nat) (lf : es_Lf) : Option (List es_E) := match lf with
  | (0, _, AH, F) => ih M (pc + 3, L, S, AH, F, cs, ss)
  | (1, v, AH, F) => ih M (pc + 3, L, v :: S, AH, F, cs, ss)
  | (x + 2, _, AH, F) => match es_hh (ME M) with
    | [] => some [(x + 1, pc, L, S, AH, F, cs, ss)]
    | hh => match es_hdl es_ct hh pc x with
      | some h => bif Nat.blt x 5 then ih M (h, L, [(7, 0)], AH, F, cs, ss) else none
      | none => none
/-- a call of the method M' with the arguments vs: its ends -/
def es_inv1 (ih : Nat → es_K → Option (List es_E)) (M M' : Nat) (vs : List es_V) (rest : List es_V) (AH : List es_O) (F : es_F) (cs ss : Nat) : Option (List es_Lf) :=
  bif (Nat.ble (es_cts vs) (es_mL (ME M')) && (Nat.ble (es_cts rest) 8 && es_cx M')) && ((Nat.blt (es_rf (ME M')) (es_rf (ME M)) && Nat.ble (19 + es_mL (ME M') + es_lo (ME M')) (es_lo (ME M))) && (Nat.ble (cs + es_mc (ME M')) (es_mc (ME M)) && Nat.ble (ss + es_ms (ME M')) (es_ms (ME M)))) then
    (match ih M' (0, es_al 0 vs, [], AH, F, 0, 0) with
    | some ends => match es_cat (fun E => (es_leaf (ME M') E).map (fun x => [x])) ends with
      | some lfs => some lfs
      | none => none
    | none => none) else none
def es_nothr (l : List es_Lf) : Bool := l.all (fun x => Nat.blt x.1 2)
def es_copy (t : Nat) (cs cd : List (Nat × es_V)) (sp dp : Nat) : Nat → List (Nat × es_V)
  | 0 => cd
  | n + 1 => es_aset t (es_copy t cs cd sp dp n) (dp + n) (es_ad t cs (sp + n))
def es_tn (ih : Nat → es_K → Option (List es_E)) (M pc : Nat) (L : es_L) (S' : List es_V) (AH : List es_O) (F : es_F) (cs ss : Nat) (dflt lo hi : Int) (q : Nat × Nat) : Option (List es_E) := match es_to pc dflt with
  | some t => bif decide ((q.2 : Int) - 2147483648 < lo) || decide (hi < (q.1 : Int) - 2147483648) then ih M (t, L, S', AH, F, cs, ss) else none
  | none => none
def es_sv (ih : Nat → es_K → Option (List es_E)) (M M' n ci pc : Nat) (L : es_L) (S : List es_V) (AH : List es_O) (F : es_F) (cs ss : Nat) : Option (List es_E) := match S.drop n with
  | o :: S' => match es_obj AH ci o with
    | some _ => match es_inv1 ME ih M M' (o :: (S.take n).reverse) S' AH F cs ss with
      | some lfs => es_cat (es_aft ME ih M pc L S' (cs + es_mc (ME M')) (ss + es_ms (ME M'))) lfs
      | none => none
    | none => none
  | _ => none
def es_sq (ih : Nat → es_K → Option (List es_E)) (M M' n pc : Nat) (L : es_L) (S : List es_V) (AH : List es_O) (F : es_F) (cs ss : Nat) : Option (List es_E) := match S.drop n with
  | o :: S' => bif Nat.beq o.1 8 && Nat.blt o.2 strs.length then (match es_inv1 ME ih M M' (o :: (S.take n).reverse) S' AH F cs ss with
    | some lfs => es_cat (es_aft ME ih M pc L S' (cs + es_mc (ME M')) (ss + es_ms (ME M'))) lfs
    | none => none) else none
  | _ => none
def es_ss (ih : Nat → es_K → Option (List es_E)) (M M' n pc : Nat) (L : es_L) (S : List es_V) (AH : List es_O) (F : es_F) (cs ss : Nat) : Option (List es_E) := bif Nat.ble n S.length then (match es_inv1 ME ih M M' (S.take n).reverse (S.drop n) AH F cs ss with
  | some lfs => es_cat (es_aft ME ih M pc L (S.drop n) (cs + es_mc (ME M')) (ss + es_ms (ME M'))) lfs
  | none => none) else none
def es_sc (ih : Nat → es_K → Option (List es_E)) (M pc : Nat) (L : es_L) (S : List es_V) (AH : List es_O) (F : es_F) (cs ss : Nat) : Option (List es_E) := match S with
  | vn :: vd :: d :: vs :: s :: S' => match es_ary AH s, es_ary AH d with
    | some (ts, ns, c1), some (td, nd, c2) => match es_kn F vs, es_kn F vd, es_kn F vn with
      | some sp, some dp, some n => bif ((Nat.beq ts 0 && Nat.beq td 0) && ((Nat.ble (sp + n) ns && Nat.ble (dp + n) nd) && (Nat.blt 0 (es_rf (ME M)) && Nat.ble 200 (es_lo (ME M))))) && (c1.all (fun x => es_ti x.2) && Nat.ble (es_cts S') 8) then ih M (pc + 3, L, S', AH.set d.2 (2, nd, es_copy 0 c1 c2 sp dp n), F, cs, ss) else none
      | _, _, _ => none
    | _, _ => none
  | _ => none
def es_smm (f : Int32 → Int32 → Int32) (ih : Nat → es_K → Option (List es_E)) (M pc : Nat) (L : es_L) (S : List es_V) (AH : List es_O) (F : es_F) (cs ss : Nat) : Option (List es_E) := match S with
  | w :: v :: S' => bif (es_ti v && es_ti w) && (((Nat.blt 0 (es_rf (ME M)) && Nat.ble 200 (es_lo (ME M))) && Nat.ble (es_cts S') 8) && (Nat.ble cs (es_mc (ME M)) && Nat.ble ss (es_ms (ME M)))) then ih M (pc + 3, L, es_bin f F v w :: S', AH, F, cs, ss) else none
  | _ => none
def es_si (ih : Nat → es_K → Option (List es_E)) (M M' n pc : Nat) (L : es_L) (S : List es_V) (AH : List es_O) (F : es_F) (cs ss : Nat) : Option (List es_E) := match S.drop n with
  | o :: S' => bif Nat.beq o.1 3 then (match es_inv1 ME ih M M' (o :: (S.take n).reverse) S' AH F cs ss with
      | some lfs => bif es_nothr lfs then es_cat (es_aft ME ih M pc L S' (cs + es_mc (ME M')) (ss + es_ms (ME M'))) lfs else none
      | none => none) else none
  | _ => none
def es_so (ih : Nat → es_K → Option (List es_E)) (M pc : Nat) (L : es_L) (S : List es_V) (AH : List es_O) (F : es_F) (cs ss : Nat) : Option (List es_E) := match S with
  | o :: S' => bif Nat.beq o.1 3 && (Nat.blt 0 (es_rf (ME M)) && Nat.ble (es_cts S' + 12) (es_lo (ME M))) then ih M (pc + 3, L, S', AH, F, cs, ss) else none
  | _ => none
def es_step (ih : Nat → es_K → Option (List es_E)) (M : Nat) (K : es_K) : Option (List es_E) := match K with
  | (pc, L, S, AH, F, cs, ss) => match es_at (es_tab (ME M)) pc with
    | none => none
    | some e => match e.2.2.2 with
      | 200 :: _ => some [(0, K)]
      | 100 :: _ => some [(0, K)]
      | 60 :: f :: a :: _ => match es_str strs f a (es_len e.2.1) K with
        | some K' => ih M K'
        | none => none
      | _ => match es_pure (es_mL (ME M)) e.2.1 pc L S F with
        | some (pc', L', S') => ih M (pc', L', S', AH, F, cs, ss)
        | none => match es_hs SL (ME M) e K with
          | some K' => ih M K'
          | none => match e.2.1 with
            | .return_ | .ireturn | .lreturn | .areturn => some [(0, K)]
            | .ifCond op off => match S, es_to pc off with
              | v :: S', some t => bif es_ti v then (match es_cat (fun f => ih M (t, L, S', AH, f, cs, ss)) (es_br F op v (0, 0)) with
                  | some x => match es_cat (fun f => ih M (pc + 3, L, S', AH, f, cs, ss)) (es_br F (es_ng op) v (0, 0)) with
                    | some y => some (x ++ y)
                    | none => none
                  | none => none) else none
              | _, _ => none
            | .if_icmp op off => match S, es_to pc off with
              | w :: v :: S', some t => bif es_ti v && es_ti w then (match es_cat (fun f => ih M (t, L, S', AH, f, cs, ss)) (es_br F op v w) with
                  | some x => match es_cat (fun f => ih M (pc + 3, L, S', AH, f, cs, ss)) (es_br F (es_ng op) v w) with
                    | some y => some (x ++ y)
                    | none => none
                  | none => none) else none
              | _, _ => none
            | .tableswitch dflt lo hi offs => match S with
              | v :: S' => match es_kn F v with
                | some n => match es_to pc (bif decide ((nI n).toInt < lo) || decide (hi < (nI n).toInt) then dflt else (offs[((nI n).toInt - lo).toNat]?).getD 0) with
                  | some t => bif (decide ((nI n).toInt < lo) || decide (hi < (nI n).toInt)) || decide (((nI n).toInt - lo).toNat < offs.size) then ih M (t, L, S', AH, F, cs, ss) else none
                  | none => none
                | none => match v.1, F[v.2]? with
                  | 1, some q => es_tn ih M pc L S' AH F cs ss dflt lo hi q
                  | _, _ => none
              | _ => none
            | .invokevirtual _ => match e.2.2.2 with
              | 1 :: M' :: n :: ci :: _ => es_sv ME ih M (es_cal M M') n ci pc L S AH F cs ss
              | 3 :: M' :: n :: _ => es_sq ME strs ih M (es_cal M M') n pc L S AH F cs ss
              | _ => none
            | .invokestatic _ => match e.2.2.2 with
              | 2 :: M' :: n :: _ => es_ss ME ih M (es_cal M M') n pc L S AH F cs ss
              | 4 :: _ => es_sc ME ih M pc L S AH F cs ss
              | 5 :: _ => es_smm ME (fun x y => if y < x then y else x) ih M pc L S AH F cs ss
              | 6 :: _ => es_smm ME (fun x y => if x < y then y else x) ih M pc L S AH F cs ss
              | _ => none
            | .invokespecial _ => match e.2.2.2 with
              | 7 :: M' :: n :: _ => es_si ME ih M (es_cal M M') n pc L S AH F cs ss
              | 9 :: _ => es_so ME ih M pc L S AH F cs ss
              | _ => none
            | _ => none
noncomputable def es_run : Nat → Nat → es_K → Option (List es_E) := fun n => Nat.rec (motive := fun _ => Nat → es_K → Option (List es_E)) (fun _ _ => none) (fun _ ih M K => es_step ME strs SL ih M K) n
theorem es_run_z (M : Nat) (K : es_K) : es_run ME strs SL 0 M K = none := rfl
theorem es_run_s (n M : Nat) (K : es_K) : es_run ME strs SL (n + 1) M K = es_step ME strs SL (es_run ME strs SL n) M K := rfl
end Step
end
section
def es_opn (n : Nat) : es_Op := bif Nat.ble n 2 then (bif Nat.beq n 0 then .eq else bif Nat.beq n 1 then .ne else .lt) else (bif Nat.beq n 3 then .ge else bif Nat.beq n 4 then .gt else .le)
abbrev es_C : Type := Nat × Nat × Nat
noncomputable def es_fi2 (l : List (Nat × es_C)) (pc : Nat) : Option es_C := @List.rec (Nat × es_C) (fun _ => Option es_C) none (fun q _ ih => bif Nat.beq q.1 pc then some q.2 else ih) l
noncomputable def es_at2 (l : List (Nat × List (Nat × es_C))) (pc : Nat) : Option es_C := @List.rec (Nat × List (Nat × es_C)) (fun _ => Option es_C) none (fun q _ ih => bif Nat.blt pc q.1 then es_fi2 q.2 pc else ih) l
def es_fa (c a n nL pc : Nat) (L : es_L) (S : List es_V) : Option (Nat × es_L × List es_V) := bif Nat.ble c 2 then (bif Nat.beq c 1 then es_ld es_ti a n pc L S else es_ld es_tr a n pc L S) else (bif Nat.beq c 3 then some (pc + n, L, (0, a) :: S) else es_sto es_ti nL a n pc L S)
def es_finc (a n nL pc : Nat) (L : es_L) (S : List es_V) (F : es_F) : Option (Nat × es_L × List es_V) := match es_get L a with
  | some v => bif es_ti v && Nat.blt a nL then some (pc + 3, es_st L a (es_un (fun x => x + nI n) F v), S) else none
  | none => none
def es_fb (c a n nL pc : Nat) (L : es_L) (S : List es_V) (F : es_F) : Option (Nat × es_L × List es_V) := bif Nat.beq c 5 then es_finc a n nL pc L S F else some (a, L, S)
def es_fc1 (c pc : Nat) (L : es_L) (S : List es_V) (F : es_F) : Option (Nat × es_L × List es_V) := bif Nat.ble c 8 then (bif Nat.beq c 7 then es_i2 (fun x y => x + y) pc L S F else es_i2 (fun x y => x - y) pc L S F) else (bif Nat.beq c 9 then es_i2 (fun x y => x * y) pc L S F else es_i2 (fun x y => x &&& y) pc L S F)
def es_fc2 (c pc : Nat) (L : es_L) (S : List es_V) (F : es_F) : Option (Nat × es_L × List es_V) := bif Nat.ble c 12 then (bif Nat.beq c 11 then es_i2 (fun x y => x ||| y) pc L S F else es_i2 (fun x y => x <<< (y &&& 31)) pc L S F) else (bif Nat.beq c 13 then es_i2 (fun x y => x >>> (y &&& 31)) pc L S F else es_d2 (fun x y => x - x / y * y) pc L S F)
def es_fp (c a n nL pc : Nat) (L : es_L) (S : List es_V) (F : es_F) : Option (Nat × es_L × List es_V) := bif Nat.ble c 6 then (bif Nat.ble c 4 then es_fa c a n nL pc L S else es_fb c a n nL pc L S F) else (bif Nat.ble c 10 then es_fc1 c pc L S F else es_fc2 c pc L S F)
def es_fgf (ci k pc : Nat) (L : es_L) (S : List es_V) (AH : List es_O) (F : es_F) (cs ss : Nat) : Option es_K := match S with
  | v :: S' => match es_obj AH ci v with
    | some c => match es_get c k with
      | some w => some (pc + 3, L, w :: S', AH, F, cs, ss)
      | none => none
    | none => none
  | _ => none
def es_fld (pc : Nat) (L : es_L) (S : List es_V) (AH : List es_O) (F : es_F) (cs ss : Nat) : Option es_K := match S with
  | j :: a :: S' => match es_kn F j with
    | some jn => bif Nat.beq a.1 5 then none else match es_ary AH a with
      | some (t, n, c) => bif Nat.beq t 0 && Nat.blt jn n then some (pc + 1, L, es_ad t c jn :: S', AH, F, cs, ss) else none
      | none => none
    | none => none
  | _ => none
def es_fst (pc : Nat) (L : es_L) (S : List es_V) (AH : List es_O) (F : es_F) (cs ss : Nat) : Option es_K := match S with
  | v :: j :: a :: S' => match es_ary AH a, es_kn F j with
    | some (t, n, c), some jn => bif (Nat.beq t 0 && Nat.blt jn n) && es_sfit AH F t v then some (pc + 1, L, S', es_hset AH a.2 t n c jn v, F, cs, ss) else none
    | _, _ => none
  | _ => none
def es_fh (c a n pc : Nat) (L : es_L) (S : List es_V) (AH : List es_O) (F : es_F) (cs ss : Nat) : Option es_K := bif Nat.beq c 18 then es_fgf a n pc L S AH F cs ss else (bif Nat.beq c 19 then es_fld pc L S AH F cs ss else es_fst pc L S AH F cs ss)
def es_two (ih : Nat → es_K → Option (List es_E)) (M t f : Nat) (L : es_L) (S : List es_V) (AH : List es_O) (cs ss : Nat) (T1 F1 : List es_F) : Option (List es_E) := match es_cat (fun f => ih M (t, L, S, AH, f, cs, ss)) T1 with
  | some x => match es_cat (fun g => ih M (f, L, S, AH, g, cs, ss)) F1 with
    | some y => some (x ++ y)
    | none => none
  | none => none
def es_fi0 (ih : Nat → es_K → Option (List es_E)) (M : Nat) (op : es_Op) (a pc : Nat) (L : es_L) (S : List es_V) (AH : List es_O) (F : es_F) (cs ss : Nat) : Option (List es_E) := match S with
  | v :: S' => bif es_ti v then es_two ih M a (pc + 3) L S' AH cs ss (es_br F op v (0, 0)) (es_br F (es_ng op) v (0, 0)) else none
  | _ => none
def es_fi1 (ih : Nat → es_K → Option (List es_E)) (M : Nat) (op : es_Op) (a pc : Nat) (L : es_L) (S : List es_V) (AH : List es_O) (F : es_F) (cs ss : Nat) : Option (List es_E) := match S with
  | w :: v :: S' => bif es_ti v && es_ti w then es_two ih M a (pc + 3) L S' AH cs ss (es_br F op v w) (es_br F (es_ng op) v w) else none
  | _ => none
def es_fj (ih : Nat → es_K → Option (List es_E)) (M c a n pc : Nat) (L : es_L) (S : List es_V) (AH : List es_O) (F : es_F) (cs ss : Nat) : Option (List es_E) := bif Nat.beq c 15 then es_fi0 ih M (es_opn n) a pc L S AH F cs ss else (bif Nat.beq c 16 then es_fi1 ih M (es_opn n) a pc L S AH F cs ss else some [(0, pc, L, S, AH, F, cs, ss)])
def es_gp (ih : Nat → es_K → Option (List es_E)) (M : Nat) (AH : List es_O) (F : es_F) (cs ss : Nat) (r : Option (Nat × es_L × List es_V)) : Option (List es_E) := match r with
  | some (pc', L', S') => ih M (pc', L', S', AH, F, cs, ss)
  | none => none
def es_gh (ih : Nat → es_K → Option (List es_E)) (M : Nat) (r : Option es_K) : Option (List es_E) := match r with
  | some K' => ih M K'
  | none => none
def es_fast (ih : Nat → es_K → Option (List es_E)) (M c a n nL pc : Nat) (L : es_L) (S : List es_V) (AH : List es_O) (F : es_F) (cs ss : Nat) : Option (List es_E) := bif Nat.ble c 14 then es_gp ih M AH F cs ss (es_fp c a n nL pc L S F) else (bif Nat.ble c 17 then es_fj ih M c a n pc L S AH F cs ss else es_gh ih M (es_fh c a n pc L S AH F cs ss))
section Run2
variable (ME : Nat → es_M) (strs : List (String × Nat × String)) (CT : Nat → List (Nat × List (Nat × es_C))) (SL : Nat)
noncomputable def es_step2 (ih : Nat → es_K → Option (List es_E)) (M : Nat) (K : es_K) : Option (List es_E) := match K with
  | (pc, L, S, AH, F, cs, ss) => match es_at2 (CT M) pc with
    | some q => es_fast ih M q.1 q.2.1 q.2.2 (es_mL (ME M)) pc L S AH F cs ss
    | none => es_step ME strs SL ih M (pc, L, S, AH, F, cs, ss)
noncomputable def es_run2 : Nat → Nat → es_K → Option (List es_E) := fun n => Nat.rec (motive := fun _ => Nat → es_K → Option (List es_E)) (fun _ _ => none) (fun _ ih M K => es_step2 ME strs CT SL ih M K) n
theorem es_run2_z (M : Nat) (K : es_K) : es_run2 ME strs CT SL 0 M K = none := rfl
theorem es_run2_s (n M : Nat) (K : es_K) : es_run2 ME strs CT SL (n + 1) M K = es_step2 ME strs CT SL (es_run2 ME strs CT SL n) M K := rfl
end Run2
end
section
/-- a constant text, its parts at their places -/
def es_SS (b : Nat → Nat) (n0 si : Nat) (tx : String) (U : State) (H : Heap) : Prop :=
  va_O "java/lang/String" (b (2 * si + 1)) (es_A n0) U H ∧ va_OF "java/lang/String" "coder" "B" (.int 0) (b (2 * si + 1)) (es_A n0) U H ∧ va_OF "java/lang/String" "value" "[B" (.ref (b (2 * si + 2))) (b (2 * si + 1)) (es_A n0) U H ∧ va_T .byte (b (2 * si + 2)) (es_bs tx).length (fun j => .int (nI ((es_bs tx).getD j 0))) (es_A n0) U H ∧ (es_bs tx).length < 2147483648
theorem es_SS.move {b : Nat → Nat} {n0 si : Nat} {tx : String} {u U : State} {H H1 : Heap} (hvm : u.vm.Alike U.vm) (h : es_SS b n0 si tx u H) (hq : ∀ a : Nat, a < H.size → ¬ es_A n0 a → H1[a]? = H[a]?) : es_SS b n0 si tx U H1 :=
  ⟨va_O.moved hvm (h.1.kept hq), va_OF.moved hvm (h.2.1.kept hq), va_OF.moved hvm (h.2.2.1.kept hq), va_T.moved hvm (h.2.2.2.1.kept hq), h.2.2.2.2⟩
def es_ex (l : Launch) (strs : List (String × Nat × String)) (wx : List Cond) (n0 : Nat) (b : Nat → Nat) (U : State) : Prop :=
  l.stackTraces = false ∧ vx_Zq Bundle.tN "UNASSIGNED_STACK" Bundle.steD (es_A n0) U U.heap ∧ vx_Zq Bundle.tN "SUPPRESSED_SENTINEL" Bundle.listD (es_A n0) U U.heap ∧ (∀ (si : Nat) (q : String × Nat × String), strs[si]? = some q → vk_R q.1 q.2.1 q.2.2 (b (2 * si + 1)) U ∧ es_SS b n0 si q.2.2 U U.heap) ∧ (∀ w ∈ wx, va_Nw w U) ∧ (∀ x y : Nat, x < 5 → y < 5 → x ≠ y → va_Nc (es_exc x) (es_exc y) U) ∧ va_Z "java/lang/String" "COMPACT_STRINGS" "Z" (.int 1) (es_A n0) U U.heap ∧ va_Zq "jdk/internal/util/Preconditions" "SIOOBE_FORMATTER" "Ljava/util/function/BiFunction;" (es_A n0) U U.heap
def es_ev (l : Launch) (strs : List (String × Nat × String)) (wx : List Cond) (SL : Nat) (D : va_G) (cI cJ cZ cC cM : ClassId) (n0 : Nat) (b : Nat → Nat) (ρ : Nat → Int32) (U : State) : Prop :=
  va_K D vwCl (es_TY cI cJ cZ cC cM) U ∧ (b 0 < n0 ∧ n0 ≤ U.heap.size ∧ va_X (b 0) SL ρ U U.heap) ∧ (va_AO RX2 U ∧ va_AO RX7 U) ∧ es_ex l strs wx n0 b U
def es_room (M : es_M) : Room := { frames := es_rf M, cells := es_mc M, slots := es_ms M, locals := es_lo M }
def es_cw (M : es_M) : Cond := match es_hh M with
  | [] => .code (es_y M) (es_code M) (es_mL M) (es_rt M)
  | hh => .codeWith (es_y M) (es_code M) (es_mL M) (es_rt M) hh
section Met
variable {l : Launch} {strs : List (String × Nat × String)} {wx : List Cond} {WS : List Cond} {SL : Nat} {D : va_G} {cI cJ cZ cC cM : ClassId} {n0 : Nat} {b : Nat → Nat} {ρ : Nat → Int32}
/-- words that go along with the tables' warming -/
def es_wxok (wx : List Cond) : Prop := ∀ w ∈ wx, ∀ s U : State, s.WarmedH U.vm → va_Nw w s → va_Nw w U
theorem es_ev_move (hwx : es_wxok wx) {s U : State} (h : es_ev l strs wx SL D cI cJ cZ cC cM n0 b ρ s) (hW : s.WarmedH U.vm) (h1 : s.heap.size ≤ U.heap.size) (h2 : ∀ q : Nat, q < s.heap.size → ¬ es_A n0 q → U.heap[q]? = s.heap[q]?) : es_ev l strs wx SL D cI cJ cZ cC cM n0 b ρ U := by
  obtain ⟨hK, ⟨hb0, hn0, hX⟩, hao, hl, hU, hN, hst, hw, hnc, hZ, hZ2⟩ := h
  exact ⟨va_K.moved hW.alike hK, ⟨hb0, Nat.le_trans hn0 h1, va_X.moved hW.alike (hX.kept (h2 (b 0) (Nat.lt_of_lt_of_le hb0 hn0) (Nat.not_le.mpr hb0)))⟩, ⟨va_AO.moved hW.alike hao.1, va_AO.moved hW.alike hao.2⟩, hl, vx_Zq.moved hW.alike (hU.kept h2), vx_Zq.moved hW.alike (hN.kept h2),
    fun si q hq => ⟨vk_R.warm hW (hst si q hq).1, (hst si q hq).2.move hW.alike h2⟩, fun w hw' => hwx w hw' s U hW (hw w hw'), fun x y h3 h4 h5 => va_Nc.moved hW.alike (hnc x y h3 h4 h5), va_Z.moved hW.alike (hZ.kept h2), va_Zq.moved hW.alike (hZ2.kept h2)⟩
def es_Qc (D : va_G) (tys : List (ClassId × FieldType)) (n0 : Nat) (b : Nat → Nat) (ρ : Nat → Int32) (lfs : List es_Lf) : Array Value → State → Outcome → State → Prop := fun _ st o t =>
  ∃ lf ∈ lfs, es_fr ρ lf.2.2.2 ∧ es_hr D tys n0 b ρ lf.2.2.1 t.heap ∧ va_F (es_A n0) st t ∧ ((lf.1 = 0 ∧ o = .returned none) ∨ (lf.1 = 1 ∧ ∃ x, o = .returned (some x) ∧ es_vr n0 b ρ lf.2.1 x))
def es_XC (D : va_G) (tys : List (ClassId × FieldType)) (n0 : Nat) (b : Nat → Nat) (ρ : Nat → Int32) (lfs : List es_Lf) : String → State → State → Prop := fun E st t =>
  ∃ lf ∈ lfs, ∃ n, lf.1 = n + 2 ∧ es_exc n = E ∧ es_fr ρ lf.2.2.2 ∧ es_hr D tys n0 b ρ lf.2.2.1 t.heap ∧ va_F (es_A n0) st t
/-- an end of a walk, as its method owes it -/
def es_EG (p : Program) (l : Launch) (e : Env) (R : Room) (s : State) (m : MethodId) (args : Array Value) (below : List Frame) (meth : Method) (c : Code) (Q : State → Prop) (D : va_G) (tys : List (ClassId × FieldType)) (n0 : Nat) (b : Nat → Nat) (ρ : Nat → Int32) (nL : Nat) (E : es_E) : Prop := match E.1 with
  | 0 => es_G p l e R s m args below meth c Q D tys n0 b ρ nL E.2
  | n + 1 => ∀ (H : Heap) (ls : Array Slot) (locs : List Loc) (st : List Value) (q : Addr) (ce : Cell), es_inv D tys n0 b ρ nL s E.2 H ls locs st → H[q]? = some ce → ce.vm = .none → s.vm.findClass (es_exc n) = some ce.cls → vx_W p l e R s m args below meth c H locs E.2.2.2.2.2.2.1 E.2.2.2.2.2.2.2 Q (F0 m E.2.1 ls st) q
variable {p : Program} {e : Env} {R : Room} {s : State} {m : MethodId} {args : Array Value} {below : List Frame} {meth : Method} {c : Code} {M : es_M}
theorem es_nar128 : ∀ n, n < 128 → narrow .char (.int (nI n)) = .int (nI n) ∧ narrow .byte (.int (nI n)) = .int (nI n) := by decide +kernel
theorem es_nar_ok {F : es_F} {v : es_V} {x : Value} (hF : es_fr ρ F) (hv : es_vr n0 b ρ v x) (h : es_nar F v = true) : ∃ n, x = .int (nI n) ∧ n < 128 := by
  unfold es_nar at h
  cases hk : es_kn F v with
  | none => rw [hk] at h; cases h
  | some n =>
    rw [hk] at h
    exact ⟨n, es_kn_ok hF hv hk, es_blt.mp h⟩
theorem es_rtv_ok {ret : Option FieldType} {ins : Instr} {S : List es_V} {F : es_F} {q : Nat × es_V} (h : es_rtv ret ins S F = some q) (hF : es_fr ρ F) {st : List Value} (hs : es_sr n0 b ρ S st) {pc : Nat} {cc : ByteArray} (hd : decode cc pc = .ok (ins, es_len ins)) {H : Heap} {ls : Array Slot} {locs : List Loc} {cells slots : Nat} {Qc : Array Value → State → Outcome → State → Prop} {free : Addr → Prop}
    (hx : p.tables.exec = Jvm.exec) (hb : c.code = cc) (hr : meth.sig.returnType = ret) (hlocks : meth.locks = false) (hf : ∀ z ∈ locs, free z.base)
    (hq0 : q.1 = 0 → ∀ t : State, t.heap = H → s.WarmedH t.vm → Qc args s (.returned none) t) (hq1 : q.1 = 1 → ∀ x, es_vr n0 b ρ q.2 x → ∀ t : State, t.heap = H → s.WarmedH t.vm → Qc args s (.returned (some x)) t) :
    W p l e R s m args below meth c H locs cells slots (MQ below Qc args s cells slots free) (F0 m pc ls st) := by
  unfold es_rtv at h
  split at h
  · split at h
    · cases h
      have e1 : st = [] := hs
      subst e1
      exact W.vret hx hb hr (hq0 rfl) hf hd
    · cases h
  · split at h
    · rename_i v
      cases hv : es_ti v
      · rw [hv] at h; cases h
      · rw [hv] at h
        cases h
        obtain ⟨x, st', rfl, hvr, e1⟩ := hs
        have e2 : st' = [] := e1
        subst e2
        obtain ⟨z, rfl⟩ := es_ti_int hvr hv
        exact W.iret hx hb hr (hq1 rfl _ hvr) hf hd
    · rename_i v
      cases hv : es_fitv .boolean F v
      · rw [hv] at h; cases h
      · rw [hv] at h
        cases h
        obtain ⟨x, st', rfl, hvr, e1⟩ := hs
        have e2 : st' = [] := e1
        subst e2
        have e3 := es_fitv_ok hF hvr hv
        have hti : es_ti v = true := by
          have h9 : (match es_kn F v with | some n => Nat.beq n 0 || Nat.beq n 1 | none => false) = true := hv
          cases hk : es_kn F v with
          | none => rw [hk] at h9; cases h9
          | some n => exact es_kn_ti hk
        obtain ⟨z, rfl⟩ := es_ti_int hvr hti
        exact W.zret hx hb hr e3.1 (hq1 rfl _ hvr) hf hd
    · rename_i v
      cases hv : es_nar F v
      · rw [hv] at h; cases h
      · rw [hv] at h
        cases h
        obtain ⟨x, st', rfl, hvr, e1⟩ := hs
        have e2 : st' = [] := e1
        subst e2
        obtain ⟨n, e4, e5⟩ := es_nar_ok hF hvr hv
        subst e4
        exact W.zret hx hb hr (es_nar128 n e5).1 (hq1 rfl _ hvr) hf hd
    · rename_i v
      cases hv : es_nar F v
      · rw [hv] at h; cases h
      · rw [hv] at h
        cases h
        obtain ⟨x, st', rfl, hvr, e1⟩ := hs
        have e2 : st' = [] := e1
        subst e2
        obtain ⟨n, e4, e5⟩ := es_nar_ok hF hvr hv
        subst e4
        exact W.zret hx hb hr (es_nar128 n e5).2 (hq1 rfl _ hvr) hf hd
    · cases h
  · split at h
    · rename_i v
      cases hv : Nat.beq v.1 2
      · rw [hv] at h; cases h
      · rw [hv] at h
        cases h
        obtain ⟨x, st', rfl, hvr, e1⟩ := hs
        have e2 : st' = [] := e1
        subst e2
        have e3 := es_t2_long hvr hv
        subst e3
        exact W.lret hx hb hr (hq1 rfl _ hvr) hf hd
    · cases h
  · split at h
    · rename_i v C
      cases hv : es_tr v
      · rw [hv] at h; cases h
      · rw [hv] at h
        cases h
        obtain ⟨x, st', rfl, hvr, e1⟩ := hs
        have e2 : st' = [] := e1
        subst e2
        exact W.aret hx hb hr (Or.inl ⟨_, rfl⟩) (es_tr_ref hvr hv) (hq1 rfl _ hvr) hf hd
    · rename_i v C
      cases hv : es_tr v
      · rw [hv] at h; cases h
      · rw [hv] at h
        cases h
        obtain ⟨x, st', rfl, hvr, e1⟩ := hs
        have e2 : st' = [] := e1
        subst e2
        exact W.aret hx hb hr (Or.inr ⟨_, rfl⟩) (es_tr_ref hvr hv) (hq1 rfl _ hvr) hf hd
    · cases h
  · cases h
theorem es_vxrun {H : Heap} {locs : List Loc} {cells slots mc ms pc : Nat} {ls : Array Slot} {st0 rest : List Value} {Q : State → Prop} {Qa : State → Outcome → State → Prop} {XC : String → State → State → Prop} {free : Addr → Prop} (hr : vx_Run p l e R s m args below meth c H locs cells slots mc ms (F0 m pc ls st0) rest Qa XC free)
    (kk : ∀ (v : Option Value) (st₀ t : State) (H1 : Heap) (L : List Loc), st₀.heap = H → t.heap = H1 → Qa st₀ (.returned v) t → (∀ q ∈ L, free q.base) → W p l e R s m args below meth c H1 (locs ++ L) (cells + mc) (slots + ms) Q (F0 m (pc + 3) ls (v.toList ++ rest)))
    (kx : ∀ (q : Addr) (st₀ t : State) (H1 : Heap) (L : List Loc) (E : String) (ce : Cell), st₀.heap = H → t.heap = H1 → XC E st₀ t → H1[q]? = some ce → ce.vm = .none → s.vm.findClass E = some ce.cls → (∀ z ∈ L, free z.base) → vx_W p l e R s m args below meth c H1 (locs ++ L) (cells + mc) (slots + ms) Q (F0 m pc ls rest) q) :
    W p l e R s m args below meth c H locs cells slots Q (F0 m pc ls st0) := by
  intro T hT X
  rcases hr T hT X with ⟨v, st₀, t, T', L, h0, X', hL, e1, e2, hq, st⟩ | ⟨q, st₀, t, T', L, E, ce, h0, X', hL, e1, e2, hxc, hce, hcv, hcl, st⟩
  · obtain ⟨t2, a1, b1⟩ := kk v st₀ t T'.heap L h0 e1.symm hq hL T' rfl X'
    exact ⟨t2, st t2 a1, b1⟩
  · obtain ⟨t2, a1, b1⟩ := kx q st₀ t T'.heap L E ce h0 e1.symm hxc (by rw [e1]; exact hce) hcv hcl hL T' rfl X'
    exact ⟨t2, st.trans a1, b1⟩
theorem es_varun {H : Heap} {locs : List Loc} {cells slots mc ms pc : Nat} {ls : Array Slot} {st0 rest : List Value} {Q : State → Prop} {Qa : State → Outcome → State → Prop} {free : Addr → Prop} (hr : va_Run p l e R s m args below meth c H locs cells slots mc ms (F0 m pc ls st0) rest Qa free)
    (kk : ∀ (v : Option Value) (st₀ t : State) (H1 : Heap) (L : List Loc), st₀.heap = H → t.heap = H1 → Qa st₀ (.returned v) t → (∀ q ∈ L, free q.base) → W p l e R s m args below meth c H1 (locs ++ L) (cells + mc) (slots + ms) Q (F0 m (pc + 3) ls (v.toList ++ rest))) :
    W p l e R s m args below meth c H locs cells slots Q (F0 m pc ls st0) := by
  intro T hT X
  obtain ⟨v, st₀, t, T', L, h0, X', hL, e1, e2, hq, st⟩ := hr T hT X
  obtain ⟨t2, a1, b1⟩ := kk v st₀ t T'.heap L h0 e1.symm hq hL T' rfl X'
  exact ⟨t2, st t2 a1, b1⟩
/-- the arguments in their places -/
theorem es_al_ok : ∀ (vs : List es_V) (xs : List Value) (i : Nat), es_sr n0 b ρ vs xs → ∀ j v, es_get (es_al i vs) j = some v → ∃ x, (j, x) ∈ lv_args i xs ∧ es_vr n0 b ρ v x
  | [], xs, i, h, j, v, hv => by cases hv
  | w :: vs, xs, i, h, j, v, hv => by
    obtain ⟨x, xs', rfl, hw, h'⟩ := h
    unfold es_al at hv
    unfold es_get at hv
    cases hb : Nat.beq i j
    · rw [hb] at hv
      have hv' : es_get (es_al (bif Nat.beq w.1 2 then i + 2 else i + 1) vs) j = some v := hv
      obtain ⟨y, h1, h2⟩ := es_al_ok vs xs' _ h' j v hv'
      refine ⟨y, ?_, h2⟩
      unfold lv_args
      refine List.mem_cons_of_mem _ ?_
      cases h2w : Nat.beq w.1 2
      · rw [h2w] at h1
        rw [if_neg (by rw [es_cat1 hw h2w]; decide)]
        exact h1
      · rw [h2w] at h1
        have e1 := es_t2_long hw h2w
        subst e1
        rw [if_pos (show (Value.long (lN w.2)).category = 2 from rfl)]
        exact h1
    · rw [hb] at hv
      cases hv
      have e1 := es_beq.mp hb
      subst e1
      exact ⟨x, List.mem_cons_self, hw⟩
theorem es_cts_ok : ∀ (vs : List es_V) (xs : List Value), es_sr n0 b ρ vs xs → (lg_sl xs).length = es_cts vs ∧ (xs.map fun v => v.category).sum = es_cts vs
  | [], xs, h => by have e : xs = [] := h; subst e; exact ⟨rfl, rfl⟩
  | w :: vs, xs, h => by
    obtain ⟨x, xs', rfl, hw, h'⟩ := h
    obtain ⟨h1, h2⟩ := es_cts_ok vs xs' h'
    unfold es_cts
    cases h2w : Nat.beq w.1 2
    · have hc := es_cat1 hw h2w
      refine ⟨?_, ?_⟩
      · rw [← h1]
        simp only [lg_sl, List.flatMap_cons, hc, List.length_append]
        rfl
      · simp only [List.map_cons, List.sum_cons, hc, h2, cond_false]
    · have e1 := es_t2_long hw h2w
      subst e1
      refine ⟨?_, ?_⟩
      · rw [← h1]
        simp only [lg_sl, List.flatMap_cons, List.length_append]
        rfl
      · simp only [List.map_cons, List.sum_cons, h2, cond_true]
        rfl
theorem es_sr_len : ∀ (vs : List es_V) (xs : List Value), es_sr n0 b ρ vs xs → xs.length = vs.length
  | [], xs, h => by have e : xs = [] := h; subst e; rfl
  | w :: vs, xs, h => by
    obtain ⟨x, xs', rfl, hw, h'⟩ := h
    simp [es_sr_len vs xs' h']
theorem es_sr_app : ∀ (vs ws : List es_V) (st : List Value), es_sr n0 b ρ (vs ++ ws) st → ∃ xs ys, st = xs ++ ys ∧ es_sr n0 b ρ vs xs ∧ es_sr n0 b ρ ws ys
  | [], ws, st, h => ⟨[], st, rfl, rfl, h⟩
  | v :: vs, ws, st, h => by
    obtain ⟨x, st', rfl, hv, h'⟩ := h
    obtain ⟨xs, ys, rfl, h1, h2⟩ := es_sr_app vs ws st' h'
    exact ⟨x :: xs, ys, rfl, ⟨x, xs, rfl, hv, h1⟩, h2⟩
theorem es_sr_cat : ∀ (vs ws : List es_V) (xs ys : List Value), es_sr n0 b ρ vs xs → es_sr n0 b ρ ws ys → es_sr n0 b ρ (vs ++ ws) (xs ++ ys)
  | [], ws, xs, ys, h, h' => by have e : xs = [] := h; subst e; exact h'
  | v :: vs, ws, xs, ys, h, h' => by
    obtain ⟨x, xs', rfl, hv, h1⟩ := h
    exact ⟨x, xs' ++ ys, rfl, hv, es_sr_cat vs ws xs' ys h1 h'⟩
theorem es_sr_rev : ∀ (vs : List es_V) (xs : List Value), es_sr n0 b ρ vs xs → es_sr n0 b ρ vs.reverse xs.reverse
  | [], xs, h => by have e : xs = [] := h; subst e; rfl
  | v :: vs, xs, h => by
    obtain ⟨x, xs', rfl, hv, h1⟩ := h
    rw [List.reverse_cons, List.reverse_cons]
    exact es_sr_cat _ _ _ _ (es_sr_rev vs xs' h1) ⟨x, [], rfl, hv, rfl⟩
end Met
end
section
/-- the constructor of an exception whose call of the next one stands at another number of its pool -/
def es_rxN : ByteArray := ⟨#[0x2a, 0x2b, 0xb7, 0x00, 0x0d, 0xb1]⟩
theorem es_rxN0 : decode es_rxN 0 = .ok (.aload_n 0, 1) := by decide +kernel
theorem es_rxN1 : decode es_rxN 1 = .ok (.aload_n 1, 1) := by decide +kernel
theorem es_rxN2 : decode es_rxN 2 = .ok (.invokespecial 13, 3) := by decide +kernel
theorem es_rxN5 : decode es_rxN 5 = .ok (.return_, 1) := by decide +kernel
def es_rt9 : String := "java/lang/RuntimeException"
def es_chN (X : String) : List Cond := Bundle.passSAtoms X es_rt9 13 es_rxN ++ Bundle.chainSAtoms es_rt9 ["java/lang/Exception"]
def es_tlN (own : String) (ic : Nat) (X : String) : List Cond := [.methodLink own ic (Bundle.initS X), .instantiable X 6, .castable X X, .selects X Bundle.tFill0 Bundle.tFill0, .selects X Bundle.tFill Bundle.tFill,
  .lays X Bundle.tN "cause" "Ljava/lang/Throwable;", .lays X Bundle.tN "stackTrace" Bundle.steD, .lays X Bundle.tN "suppressedExceptions" Bundle.listD, .lays X Bundle.tN "detailMessage" "Ljava/lang/String;",
  .isRef (.static Bundle.tN "UNASSIGNED_STACK" Bundle.steD), .isRef (.static Bundle.tN "SUPPRESSED_SENTINEL" Bundle.listD),
  .fieldLink Bundle.tN 198 Bundle.tN "backtrace" "Ljava/lang/Object;", .lays Bundle.tN Bundle.tN "backtrace" "Ljava/lang/Object;", .lays X Bundle.tN "backtrace" "Ljava/lang/Object;"]
def es_owN (own : String) (ic : Nat) (X : String) : List Cond := (Bundle.throwableAtoms ++ Bundle.throwableSAtoms) ++ (es_chN X ++ es_tlN own ic X)
def es_atN (own : String) (ic : Nat) (X : String) : List Cond := (es_owN own ic X).filter vx_no
section Ns
variable {p : Program} {l : Launch} {e : Env} {R : Room} {s : State} {m : MethodId} {args : Array Value} {below : List Frame} {meth : Method} {c : Code} {V : State} {cells slots : Nat}
set_option maxHeartbeats 4000000 in
theorem es_ctorN (X : Stand p l e R s m args below meth c V [] cells slots) (hexec : p.tables.exec = Jvm.exec) (htr : e.platform.stackTraces = false) {own cls : String} {ic : Nat} (hown : s.vm.findClass own = some m.cls) (hcls : Bundle.fit cls = true) (h : ∀ w ∈ es_owN own ic cls, w.before args s = true)
    {a : Addr} {cX : ClassId} {kX : Class} (hfX : s.vm.findClass cls = some cX) (hkX : s.vm.classes[cX]? = some kX) (hcell : V.heap[a]? = some (freshCell cX kX)) (hnew : s.heap.size ≤ a) {msg : Value} (hmsg : msg.isRef = true)
    {g : JFrame} (hg : g.method = m) (hsize : g.locals.size = c.maxLocals) (hlocked : g.locked = none) (hentered : g.entered = []) {rest : List Value} (hstack : g.stack = msg :: .ref a :: .ref a :: rest)
    (hd6 : decode c.code g.pc = .ok (.invokespecial ic, 3)) (hd9 : decode c.code (g.pc + 3) = .ok (.athrow, 1)) (hout : ∀ x ∈ c.exceptionTable.toList, covers x (g.pc + 3) = false)
    (hRf : 5 < R.frames) (hRl : 2 * g.monitorRoom + ((Value.ref a :: rest).map fun v => v.category).sum + (13 * 3 + 42) ≤ R.locals) (hlocks : meth.locks = false) :
    ∃ U : State, Steps p.tables e below (V.setTop g) U ∧ U.status = .running ∧ Ended U below (.threw a) ∧ s.WarmedH U.vm ∧ s.sameButNew ({ U with vm := s.vm } : State) [] cells slots ∧ ∃ ce : Cell, U.heap[a]? = some ce ∧ s.vm.findClass cls = some ce.cls ∧ ce.vm = .none := by
  have hpf := X.admits.platform
  have hpl : e.platform.magicAccessors = ({} : Platform).magicAccessors := by rw [hpf]
  have hA : ∀ w ∈ Bundle.throwableAtoms, w.before args s = true := fun w hw => h w (List.mem_append_left _ (List.mem_append_left _ hw))
  have hB : ∀ w ∈ Bundle.throwableSAtoms, w.before args s = true := fun w hw => h w (List.mem_append_left _ (List.mem_append_right _ hw))
  have hC : ∀ w ∈ Bundle.passSAtoms cls es_rt9 13 es_rxN, w.before args s = true := fun w hw => h w (List.mem_append_right _ (List.mem_append_left _ (List.mem_append_left _ hw)))
  have hD : ∀ w ∈ Bundle.chainSAtoms es_rt9 ["java/lang/Exception"], w.before args s = true := fun w hw => h w (List.mem_append_right _ (List.mem_append_left _ (List.mem_append_right _ hw)))
  have hE : ∀ w ∈ es_tlN own ic cls, w.before args s = true := fun w hw => h w (List.mem_append_right _ (List.mem_append_right _ hw))
  obtain ⟨T, Z0, L, -, Y⟩ := ThrowableC.of_atoms (args := args) (by rw [hpf]) (by rw [hpf]) hpl hA
  obtain ⟨Z, M, LZ, LM, hnZ⟩ := Init0T.ofS_atoms (args := args) hpl L Y hB
  obtain ⟨P0, L0, hm0, hs0⟩ := PassC.ofS_atoms (args := args) (s := s) hpl (X := cls) (Y := es_rt9) (Bundle.fit_spec hcls).1 (by decide) es_rxN0 es_rxN1 es_rxN2 es_rxN5 hC
  obtain ⟨P1, Ps, hlen, L1, hL, hm1, k1, k2⟩ := Bundle.chainS (args := args) hpl hnZ ["java/lang/Exception"] es_rt9 (by decide +kernel) (fun n hn => by rw [List.mem_singleton.mp hn]; decide +kernel) hD
  have e01 : P0.sup = P1.m := Option.some.inj (hs0.symm.trans hm1)
  have hfd : s.vm.findClass cls = some P0.m.cls := findClass_of_methodNamed hm0
  cases Option.some.inj (hfX.symm.trans hfd)
  obtain ⟨cI, kI, i1, hk, hord, -, -, hn6⟩ := Cond.instantiable_spec (hE (.instantiable cls 6) (by simp [es_tlN]))
  cases Option.some.inj (i1.symm.trans hfd)
  cases Option.some.inj (hkX.symm.trans hk)
  have s0 : selectMethod e.platform s.vm P0.m.cls T.fill0 = .method T.fill0 := by
    obtain ⟨c2, r2, m2, q1, q2, q3, q4, -⟩ := Cond.selects_spec (hE (.selects cls Bundle.tFill0 Bundle.tFill0) (by simp [es_tlN]))
    cases Option.some.inj (q1.symm.trans hfd)
    cases Option.some.inj (q2.symm.trans (State.methodFound?_of_named Y.fill0 (by decide)))
    cases Option.some.inj (q3.symm.trans Y.fill0)
    rw [Launch.admits_selectMethod X.admits]
    exact q4
  have s1 : selectMethod e.platform s.vm P0.m.cls T.fill = .method T.fill := by
    obtain ⟨c2, r2, m2, q1, q2, q3, q4, -⟩ := Cond.selects_spec (hE (.selects cls Bundle.tFill Bundle.tFill) (by simp [es_tlN]))
    cases Option.some.inj (q1.symm.trans hfd)
    cases Option.some.inj (q2.symm.trans (State.methodFound?_of_named Y.fill (by decide)))
    cases Option.some.inj (q3.symm.trans Y.fill)
    rw [Launch.admits_selectMethod X.admits]
    exact q4
  obtain ⟨cS, hcS, hst⟩ := Y.statics
  obtain ⟨u0, hu0⟩ := Cond.staticRefV Y.unassigned L.unassignedStatic L.statics hcS hst (hE (.isRef (.static Bundle.tN "UNASSIGNED_STACK" Bundle.steD)) (by simp [es_tlN]))
  obtain ⟨sen, hsen⟩ := Cond.staticRefV Y.sentinel L.sentinelStatic L.statics hcS hst (hE (.isRef (.static Bundle.tN "SUPPRESSED_SENTINEL" Bundle.listD)) (by simp [es_tlN]))
  obtain ⟨b1, b2, fB, b3, b4, b5, b6, -, b7, b8, b9⟩ := Cond.ownField (t := .object "java/lang/Object") Y.found L.cls (by decide +kernel) (hE (.fieldLink Bundle.tN 198 Bundle.tN "backtrace" "Ljava/lang/Object;") (by simp [es_tlN])) (hE (.lays Bundle.tN Bundle.tN "backtrace" "Ljava/lang/Object;") (by simp [es_tlN])) e.platform hpl
  obtain ⟨cN, hcN, heN, -, hkp⟩ := X.same.2.2.2.2.2 T.aS cS hcS
  have hno : ∀ i, (⟨T.aS, i⟩ : Loc) ∉ ([] : List Loc) := fun i hm => by cases hm
  have hunk : cN.vm ≠ .unknown := by
    rw [heN]
    intro hu
    rw [show cS.vm = .unknown from hu] at hst
    cases hst
  have hapart : T.aS ≠ a := Nat.ne_of_lt (Nat.lt_of_lt_of_le (Array.getElem?_eq_some_iff.mp hcS).1 hnew)
  obtain ⟨iM, hfM⟩ := Y.msg
  obtain ⟨tC, dC, gC, nC⟩ := Cond.laysAt hfd hk Y.cause (hE (.lays cls Bundle.tN "cause" "Ljava/lang/Throwable;") (by simp [es_tlN]))
  obtain ⟨tS, dS, gS, nS⟩ := Cond.laysAt hfd hk Y.stack (hE (.lays cls Bundle.tN "stackTrace" Bundle.steD) (by simp [es_tlN]))
  obtain ⟨tP, dP, gP, nP⟩ := Cond.laysAt hfd hk Y.supp (hE (.lays cls Bundle.tN "suppressedExceptions" Bundle.listD) (by simp [es_tlN]))
  obtain ⟨tM, dM, gM, nM⟩ := Cond.laysAt hfd hk hfM (hE (.lays cls Bundle.tN "detailMessage" "Ljava/lang/String;") (by simp [es_tlN]))
  obtain ⟨tB, dB, gB, nB⟩ := Cond.laysAt hfd hk b9 (hE (.lays cls Bundle.tN "backtrace" "Ljava/lang/Object;") (by simp [es_tlN]))
  have x1 := Cond.laysApart gB gC nB nC (by rw [b7, Y.causeName]; decide)
  have x2 := Cond.laysApart gB gS nB nS (by rw [b7, Y.stackName]; decide)
  have x3 := Cond.laysApart gB gP nB nP (by rw [b7, Y.suppName]; decide)
  have hsk : SkipFacts T e.platform s (fun u => u) u0 ((preparedCellV T.toThrowableT (freshCell P0.m.cls kX) a u0 sen).withEntry V.cur) := by
    refine ⟨{ ci198 := b1, i198 := b2, fBack := fB }, ⟨b3, b4, b5, b6⟩, ?_, fun _ _ => rfl⟩
    have h9 := fresh_default (c := P0.m.cls) tB
    rw [b8] at h9
    simpa [preparedCellV, Cell.setSlot, Cell.withEntry, Array.getElem?_setIfInBounds, x1, x2, x3, x1.symm, x2.symm, x3.symm, defaultValue] using h9
  obtain ⟨tm, mC, cC, kC, vm₁, hnC, -, -, -, -, -, -, -, hW₁, st1⟩ := Steps.initColdS (tb := p.tables) (e := e) (below := below) (s := s) (U := V) X.here hexec X.warmed hpl hown (t := Bundle.initS cls) rfl rfl (Bundle.fit_spec hcls).2
    (hE (.methodLink own ic (Bundle.initS cls)) (by simp [es_tlN])) (hC (.instanceMethod (Bundle.initS cls)) (by simp [Bundle.passSAtoms])) (bytes := es_rxN) (maxL := 2) (hC (.code (Bundle.initS cls) es_rxN 2 none) (by simp [Bundle.passSAtoms]))
    (f := g) hg (a := a) (msg := msg) (rest := .ref a :: rest) hstack hd6
  cases Option.some.inj (hnC.symm.trans hm0)
  have X₁ := X.noted hW₁
  obtain ⟨vm₂, X₂, st2⟩ := X₁.ctorMessageOffV hexec (g := { g with stack := .ref a :: rest }) hg hsize T L Z LZ M LM (P0 :: P1 :: Ps)
    (fun P hP => by
      rcases List.mem_cons.mp hP with rfl | hP
      · exact L0
      · rcases List.mem_cons.mp hP with rfl | hP
        · exact L1
        · exact hL P hP) ⟨e01, k1, k2⟩ (u0 := u0) (sen := sen) (self := a) hmsg (cell := freshCell P0.m.cls kX) (cellS := cN)
    hcell (fun _ => by simp) (by simp) rfl rfl s0 s1 hcN hapart hunk (by rw [hkp _ (hno _)]; exact hu0) (by rw [hkp _ (hno _)]; exact hsen)
    (Takes.of_laid hk hord tC (by rw [Y.causeType]; rfl)) (Takes.of_laid hk hord tS (by rw [Y.stackType]; exact fits_refV_array _ u0)) (Takes.of_laid hk hord tP (by rw [Y.suppType]; exact fits_refV_object _ sen))
    (Takes.of_laid hk hord tM (by rw [Y.msgType]; exact fits_refV_object _ ⟨msg, hmsg⟩)) Y.objLocals hsk htr [] hd6
    (by simp only [List.length_cons, hlen]; simp; omega) (by simp only [List.length_cons, hlen]; exact hRl)
  obtain ⟨hwalk, hrun, hended, hWU, hsame⟩ := X₂.athrowLeaves hexec (g := { g with stack := .ref a :: rest, pc := g.pc + 3 }) hg hlocked hentered hout (a := a) (rest := rest) rfl hd9
  have hlt : a < ((V.setVm vm₁).setVm vm₂).heap.size := (Array.getElem?_eq_some_iff.mp hcell).1
  have hU := heapAt_setCell_self (s := (V.setVm vm₁).setVm vm₂) (plainBareV T.toThrowableT (freshCell P0.m.cls kX) a u0 sen msg) hlt
  refine ⟨_, st1 _ (fun acts => ?_), hrun, hended, hWU, hsame.weaken (fun y hy hl' => ?_) (Nat.le_refl _) (Nat.le_refl _), _, hU, hfd, rfl⟩
  · rw [doInvoke_state]
    exact st2 _ hwalk
  · exfalso
    have hb : y.base = a := by
      simp only [List.nil_append, List.mem_cons, List.not_mem_nil, or_false] at hy
      rcases hy with rfl | rfl | rfl | rfl | rfl <;> rfl
    rw [hb] at hl'
    exact Nat.not_lt.mpr hnew hl'
end Ns
section NsE
variable {p : Program} {l : Launch} {e : Env} {R : Room} {s : State} {m : MethodId} {args : Array Value} {below : List Frame} {meth : Method} {c : Code} {H : Heap} {locs : List Loc} {cells slots : Nat} {Q : State → Prop}
variable {mc ms : Nat} {free : Addr → Prop} {A0 A1 : Nat → Prop} {H0 : Heap} {a : Array Value} {ls : Array Slot} {st0 rest : List Value}
variable {Qc : Array Value → State → Outcome → State → Prop} {XC : String → State → State → Prop}
theorem es_throwN {cc : ByteArray} {pc : Nat} (hexec : p.tables.exec = Jvm.exec) (hb : c.code = cc) (hl : l.stackTraces = false) {own cls text : String} {ik is ic mc ms sa : Nat} {A : Nat → Prop}
    (hown : s.vm.findClass own = some m.cls) (hcls : Bundle.fit cls = true)
    (hk : (Cond.classLink own ik cls).before args s = true) (hini : (Cond.initialized cls).before args s = true) (hstr : vk_R own is text sa s) (hat : ∀ w ∈ es_atN own ic cls, w.before args s = true)
    (hgood : ∀ w ∈ Cond.classLink own ik cls :: Cond.initialized cls :: es_atN own ic cls, vx_ot w = true)
    (hU : vx_Zq Bundle.tN "UNASSIGNED_STACK" Bundle.steD A s s.heap) (hN : vx_Zq Bundle.tN "SUPPRESSED_SENTINEL" Bundle.listD A s s.heap) (hS : va_S A s.heap H locs) (hsize : ls.size = c.maxLocals)
    (d0 : decode cc pc = .ok (.new ik, 3)) (d3 : decode cc (pc + 3) = .ok (.dup, 1)) (d4 : decode cc (pc + 4) = .ok (.ldc is, 2)) (d6 : decode cc (pc + 6) = .ok (.invokespecial ic, 3)) (d9 : decode cc (pc + 9) = .ok (.athrow, 1))
    (hout : ∀ x ∈ c.exceptionTable.toList, covers x (pc + 9) = false)
    (hRframes : 5 < R.frames) (hRlocals : (rest.map fun v => v.category).sum + (13 * 3 + 43) ≤ R.locals) (hRcells : cells + 1 ≤ R.cells) (hRslots : slots + 6 ≤ R.slots) (hlocks : meth.locks = false)
    (hx : ∀ t : State, s.vm.Alike t.vm → t.heap.size = H.size + 1 → (∀ q : Nat, q < H.size → t.heap[q]? = H[q]?) → XC cls s t)
    (hf : ∀ z ∈ locs, free z.base) (hc : cells + 1 ≤ mc) (hs : slots + 6 ≤ ms) :
    W p l e R s m args below meth c H locs cells slots (vx_MQ below Qc XC args s mc ms free) (F0 m pc ls rest) := by
  intro T hT X
  have htr : e.platform.stackTraces = false := (show e.platform.stackTraces = l.stackTraces by rw [X.admits.platform]).trans hl
  have Y := vx_rebase X (R' := { frames := R.frames, locals := R.locals, cells := 1, slots := 6 }) (Nat.le_refl _) (Nat.le_refl _) hRcells hRslots
  obtain ⟨s', hA⟩ : ∃ z, z = (T.setVm s.vm).setFrames (.invoking m args :: below) := ⟨_, rfl⟩
  rw [← hA] at Y
  have hvm : s'.vm = s.vm := by rw [hA]; rfl
  have hhp : s'.heap = H := by rw [hA]; exact hT
  have hW0 : s.WarmedH s'.vm := by rw [hvm]; exact State.WarmedH.refl s
  have hat' : ∀ w ∈ es_atN own ic cls, w.before args s' = true := fun w hw => vx_ot_at hW0 hvm.symm (hgood w (List.mem_cons_of_mem _ (List.mem_cons_of_mem _ hw))) (hat w hw)
  have hk' : (Cond.classLink own ik cls).before args s' = true := vx_ot_at hW0 hvm.symm (hgood _ List.mem_cons_self) hk
  have hini' : (Cond.initialized cls).before args s' = true := vx_ot_at hW0 hvm.symm (hgood _ (List.mem_cons_of_mem _ List.mem_cons_self)) hini
  have hU' : vx_Zq Bundle.tN "UNASSIGNED_STACK" Bundle.steD A s' s'.heap := by rw [hhp]; exact vx_Zq.moved hW0.alike (hU.kept hS.2.1)
  have hN' : vx_Zq Bundle.tN "SUPPRESSED_SENTINEL" Bundle.listD A s' s'.heap := by rw [hhp]; exact vx_Zq.moved hW0.alike (hN.kept hS.2.1)
  have h : ∀ w ∈ es_owN own ic cls, w.before args s' = true := vx_own hat' (vx_isRefq hU'.1) (vx_isRefq hN'.1) hU'.2.word hN'.2.word
  have hown' : s'.vm.findClass own = some m.cls := by rw [hvm]; exact hown
  have hins : (Cond.instantiable cls 6).before args s' = true := h _ (List.mem_append_right _ (List.mem_append_right _ (by simp [es_tlN])))
  obtain ⟨vm₁, cX, kX, hfX, hkX, -, -, X₁, st1⟩ := Y.newCold hexec (own := own) (C := cls) (index := ik) (n := 6) hown' hk' hins hini'
    (g := F0 m pc ls rest) rfl (by rw [hb]; exact d0) (Nat.le_refl _) (Nat.le_refl _)
  generalize hT1 : (T.setVm vm₁).pushCell { cls := cX, slots := kX.instanceTypes.map defaultValue, vm := .none } = T1 at X₁ st1
  have hcat : (Value.ref T.heap.size).category = 1 := rfl
  have hcellA : T1.heap[T.heap.size]? = some (freshCell cX kX) := by rw [← hT1]; exact State.heap_pushCell_size _ _
  have d3' : decode c.code (pc + 3) = .ok (.dup, 1) := by rw [hb]; exact d3
  have d4' : decode c.code (pc + 4) = .ok (.ldc is, 2) := by rw [hb]; exact d4
  have hstr' : vk_R own is text sa s' := vk_R.warm hW0 hstr
  obtain ⟨U, hsteps, hrun, hend, hW, hsame, ce, hce, hO1, hO2⟩ := es_ctorN X₁ hexec htr (own := own) (cls := cls) (ic := ic) hown' hcls h hfX hkX hcellA (by rw [hhp, hT]; exact Nat.le_refl _) (msg := .ref sa) rfl
    (g := { method := m, pc := pc + 6, locals := ls, stack := .ref sa :: .ref T.heap.size :: .ref T.heap.size :: rest, locked := none }) rfl hsize rfl rfl (rest := rest) rfl
    (by rw [hb]; exact d6) (by rw [hb]; exact d9) hout hRframes (by simp only [List.map_cons, List.sum_cons, hcat]; omega) hlocks
  obtain ⟨f1, f2⟩ := vx_frame hsame
  rw [hhp] at f1 f2
  have hWs : s.WarmedH U.vm := State.WarmedH.trans hW0 hW
  have hcl : s.vm.findClass cls = some ce.cls := by
    have h9 := hO1
    rw [hvm] at h9
    exact h9
  have hall : s.sameButNew ({ U with vm := s.vm } : State) locs mc ms := by
    subst hA
    obtain ⟨e1, e2⟩ := hsame
    rw [State.setFrames_setFrames] at e1
    have h2 : (T.setVm s.vm).sameButNew ({ U with vm := s.vm } : State) [] (0 + 1) (0 + 6) := ⟨e1, e2⟩
    have h3 := X.same.trans h2
    rw [List.append_nil] at h3
    exact h3.mono hc hs
  refine ⟨U, ?_, .threw T.heap.size, hrun, hend, Or.inr ⟨T.heap.size, rfl, cls, ce, locs, hx U hWs.alike (by have g1 : U.heap.size ≤ s'.heap.size + (0 + 1) := hsame.2.2.1; have g2 : T.heap.size < U.heap.size := (Array.getElem?_eq_some_iff.mp hce).1; rw [hhp] at g1; rw [hT] at g2; omega) (fun q hq => f2 q hq (fun z hz => nomatch hz)), hce, hO2, hcl, hWs, hall, hf⟩⟩
  refine st1 _ ?_
  show Steps p.tables e below (T1.setTop { method := m, pc := pc + 3, locals := ls, stack := .ref T.heap.size :: rest, locked := none }) _
  jvm_step X₁.here [X₁.here.top, hexec, d3', Value.category]
  exact X₁.ldcString hexec (own := own) (text := text) (index := is) (a := sa) hown' hstr'.1 hstr'.2
    (g := { method := m, pc := pc + 4, locals := ls, stack := .ref T.heap.size :: .ref T.heap.size :: rest, locked := none }) rfl d4' _ hsteps
end NsE
end
section
section Met2
variable {l : Launch} {strs : List (String × Nat × String)} {wx : List Cond} {WS : List Cond} {SL : Nat} {D : va_G} {cI cJ cZ cC cM : ClassId} {n0 : Nat} {b : Nat → Nat} {ρ : Nat → Int32}
variable {p : Program} {e : Env} {R : Room} {s : State} {m : MethodId} {args : Array Value} {below : List Frame} {meth : Method} {c : Code} {M : es_M}
def es_dok (M : es_M) (E : es_I) : Bool := decide (decode (es_code M) E.1 = .ok (E.2.1, E.2.2.1)) && (match E.2.1 with
  | .tableswitch _ _ _ _ => true
  | _ => Nat.beq E.2.2.1 (es_len E.2.1))
/-- a throw, as its row of the table says it -/
def es_tok (WS : List Cond) (wx : List Cond) (strs : List (String × Nat × String)) (M : es_M) (E : es_I) : Bool := match E.2.1, E.2.2.2 with
  | .new ik, [100, x, is, ic, wide, si, j1, j2] => (Nat.beq E.2.2.1 3 && (!Nat.beq x 2 || Nat.beq wide 0)) && (match strs[si]? with
      | some q => decide (q.1 = es_own M) && decide (q.2.1 = is)
      | none => false) && ((es_wj WS j1 (.classLink (es_own M) ik (es_exc x)) && es_wj WS j2 (.initialized (es_exc x))) && (decide (decode (es_code M) (E.1 + 3) = .ok (.dup, 1)) &&
      (bif Nat.beq wide 0 then decide (decode (es_code M) (E.1 + 4) = .ok (.ldc is, 2)) && (decide (decode (es_code M) (E.1 + 6) = .ok (.invokespecial ic, 3)) && decide (decode (es_code M) (E.1 + 9) = .ok (.athrow, 1)))
        else decide (decode (es_code M) (E.1 + 4) = .ok (.ldc_w is, 3)) && (decide (decode (es_code M) (E.1 + 7) = .ok (.invokespecial ic, 3)) && decide (decode (es_code M) (E.1 + 10) = .ok (.athrow, 1))))))
  | _, 100 :: _ => false
  | _, _ => true
def es_nms : List String := ["java/lang/RuntimeException", "java/lang/Exception"]
/-- the words that a throw of the class with this number, by this constructor, asks beside -/
def es_ats (own : String) (ic x : Nat) : List Cond := bif Nat.beq x 2 then es_atN own ic (es_exc x) else vx_atS own ic (es_exc x) es_nms
def es_thw (WS wx : List Cond) (own : String) (ic x : Nat) : Prop := ∀ w ∈ es_ats own ic x, w ∈ WS ∨ (w ∈ wx ∧ w.onTables = true)
theorem es_throw_ok (hWS : ∀ w ∈ WS, goodWord w = true)  (fc : es_FC WS SL D cI cJ cZ cC cM n0 b ρ p R s m args meth c M) (hev : es_ev l strs wx SL D cI cJ cZ cC cM n0 b ρ s) (htab : c.exceptionTable.toList = tableOf (es_hh M)) (hh0 : es_hh M = []) {E : es_I} (hthw : ∀ x is ic wide si j1 j2, E.2.2.2 = [100, x, is, ic, wide, si, j1, j2] → es_thw WS wx (es_own M) ic x) (hd : decode (es_code M) E.1 = .ok (E.2.1, E.2.2.1)) (htok : es_tok WS wx strs M E = true) {x : Nat} {tl : List Nat} (ha : E.2.2.2 = 100 :: x :: tl)
    {L : es_L} {S : List es_V} {AH : List es_O} {F : es_F} {cs ss : Nat} (hcap : ((Nat.blt cs (es_mc M) && Nat.ble (ss + 6) (es_ms M)) && (Nat.blt 5 (es_rf M) && Nat.ble 100 (es_lo M)) && Nat.ble (es_cts S) 8) = true) {lfs : List es_Lf} (hin : (x + 2, (0, 0), AH ++ [(1, 0, [])], F) ∈ lfs) :
    es_G p l e R s m args below meth c (vx_MQ below (es_Qc D (es_TY cI cJ cZ cC cM) n0 b ρ lfs) (es_XC D (es_TY cI cJ cZ cC cM) n0 b ρ lfs) args s (es_mc M) (es_ms M) (es_A n0)) D (es_TY cI cJ cZ cC cM) n0 b ρ (es_mL M) (E.1, L, S, AH, F, cs, ss) := by
  intro H ls locs st hinv
  obtain ⟨hl, hs, hH, hF, hS⟩ := hinv
  dsimp only at hl hs hH hF ⊢
  obtain ⟨hx, hb, hml, hown, hts, hK, hR, hinit, hscr, hao, hlocks, hr⟩ := id fc
  obtain ⟨-, -, -, htr, hU, hN, hst, hw, -, -⟩ := hev
  obtain ⟨epc, ins, len, aux⟩ := E
  dsimp only at ha hd ⊢
  simp only [Bool.and_eq_true, es_blt, Nat.ble_eq] at hcap
  obtain ⟨⟨⟨c1, c2⟩, c3, c4⟩, c5⟩ := hcap
  have hsum := (es_cts_ok S st hs).2
  have hsz : ls.size = c.maxLocals := by rw [hl.1, hml]
  unfold es_tok at htok
  dsimp only at htok
  subst ha
  split at htok
  · rename_i ik x' is ic wide si j1 j2 heq
    cases heq
    have hthx := hthw x is ic wide si j1 j2 rfl
    simp only [Bool.and_eq_true] at htok
    obtain ⟨⟨⟨h3, hxw⟩, hstr⟩, ⟨hj1, hj2⟩, hdup, hrest⟩ := htok
    have e3 := es_beq.mp h3
    subst e3
    cases hq : strs[si]? with
    | none => rw [hq] at hstr; cases hstr
    | some q =>
      rw [hq] at hstr
      dsimp only at hstr
      rw [Bool.and_eq_true] at hstr
      obtain ⟨so, sk, tx⟩ := q
      have g1 := of_decide_eq_true hstr.1
      have g2 := of_decide_eq_true hstr.2
      dsimp only at g1 g2
      subst g1; subst g2
      have hsa := (hst _ _ hq).1
      dsimp only at hsa
      have hat : ∀ w ∈ es_ats (es_own M) ic x, w.before args s = true := fun w hw' => by
        rcases hthx w hw' with h | ⟨h, h2⟩
        · exact hts w h
        · exact va_Nw.use h2 (hw w h)
      have hgood : ∀ w ∈ Cond.classLink (es_own M) ik (es_exc x) :: Cond.initialized (es_exc x) :: es_ats (es_own M) ic x, vx_ot w = true := fun w hw' => by
        rcases List.mem_cons.mp hw' with rfl | hw'
        · unfold vx_ot; rw [hWS _ (es_wj_in hj1), Bool.or_true]
        · rcases List.mem_cons.mp hw' with rfl | hw'
          · unfold vx_ot; rw [hWS _ (es_wj_in hj2), Bool.or_true]
          · rcases hthx w hw' with h | ⟨h, h2⟩
            · unfold vx_ot; rw [hWS _ h, Bool.or_true]
            · unfold vx_ot; rw [h2, Bool.true_or]
      have hfit : Bundle.fit (es_exc x) = true := by unfold es_exc; split <;> decide +kernel
      have hfn : ∀ n ∈ es_nms, Bundle.fit n = true := by decide +kernel
      have hxx : ∀ t : State, s.vm.Alike t.vm → t.heap.size = H.size + 1 → (∀ q : Nat, q < H.size → t.heap[q]? = H[q]?) → es_XC D (es_TY cI cJ cZ cC cM) n0 b ρ lfs (es_exc x) s t := fun t ht1 ht2 ht3 =>
        ⟨_, hin, x, rfl, rfl, hF, es_hr_push hH ht2 ht3 trivial, by rw [ht2]; exact Nat.le_trans hS.1 (by omega), fun q q1 q2 => (ht3 q (Nat.lt_of_lt_of_le q1 hS.1)).trans (hS.2.1 q q1 q2)⟩
      have hout : ∀ pc9 : Nat, ∀ z ∈ c.exceptionTable.toList, covers z pc9 = false := fun pc9 z hz => by rw [htab, hh0] at hz; cases hz
      cases hx2 : Nat.beq x 2
      · have ea : es_ats (es_own M) ic x = vx_atS (es_own M) ic (es_exc x) es_nms := by unfold es_ats; rw [hx2]; rfl
        rw [ea] at hat hgood
        cases hwd : Nat.beq wide 0
        · rw [hwd] at hrest
          simp only [cond_false, Bool.and_eq_true] at hrest
          exact vx_throwSW hx hb htr hown hfit hfn (hts _ (es_wj_in hj1)) (hts _ (es_wj_in hj2)) hsa hat hgood hU hN hS hsz hd (of_decide_eq_true hdup) (of_decide_eq_true hrest.1) (of_decide_eq_true hrest.2.1) (of_decide_eq_true hrest.2.2) (hout _) (by show 2 + 3 < _; omega) (by show _ + (13 * (2 + 1) + 43) ≤ _; omega) (by omega) (by omega) hlocks hxx hS.2.2 (by omega) (by omega)
        · rw [hwd] at hrest
          simp only [cond_true, Bool.and_eq_true] at hrest
          exact vx_throwS hx hb htr hown hfit hfn (hts _ (es_wj_in hj1)) (hts _ (es_wj_in hj2)) hsa hat hgood hU hN hS hsz hd (of_decide_eq_true hdup) (of_decide_eq_true hrest.1) (of_decide_eq_true hrest.2.1) (of_decide_eq_true hrest.2.2) (hout _) (by show 2 + 3 < _; omega) (by show _ + (13 * (2 + 1) + 43) ≤ _; omega) (by omega) (by omega) hlocks hxx hS.2.2 (by omega) (by omega)
      · have ea : es_ats (es_own M) ic x = es_atN (es_own M) ic (es_exc x) := by unfold es_ats; rw [hx2]; rfl
        rw [ea] at hat hgood
        rw [hx2] at hxw
        have hwd : Nat.beq wide 0 = true := hxw
        rw [hwd] at hrest
        simp only [cond_true, Bool.and_eq_true] at hrest
        exact es_throwN hx hb htr hown hfit (hts _ (es_wj_in hj1)) (hts _ (es_wj_in hj2)) hsa hat hgood hU hN hS hsz hd (of_decide_eq_true hdup) (of_decide_eq_true hrest.1) (of_decide_eq_true hrest.2.1) (of_decide_eq_true hrest.2.2) (hout _) (by omega) (by omega) (by omega) (by omega) hlocks hxx hS.2.2 (by omega) (by omega)
  · cases htok
  · rename_i h7 h8
    first | exact (h7 _ rfl).elim | exact (h8 _ rfl).elim | (exfalso; apply h7; rfl)
theorem es_leaf_ok (hWS : ∀ w ∈ WS, goodWord w = true) (hthw : ∀ q ∈ es_tab M, ∀ E ∈ q.2, ∀ x is ic wide si j1 j2, E.2.2.2 = [100, x, is, ic, wide, si, j1, j2] → es_thw WS wx (es_own M) ic x) (htk : ∀ q ∈ es_tab M, ∀ E ∈ q.2, es_dok M E = true ∧ es_tok WS wx strs M E = true) (fc : es_FC WS SL D cI cJ cZ cC cM n0 b ρ p R s m args meth c M) (hev : es_ev l strs wx SL D cI cJ cZ cC cM n0 b ρ s) (htab : c.exceptionTable.toList = tableOf (es_hh M)) {E : es_E} {lf : es_Lf} (h : es_leaf M E = some lf) {lfs : List es_Lf} (hin : lf ∈ lfs) :
    es_EG p l e R s m args below meth c (vx_MQ below (es_Qc D (es_TY cI cJ cZ cC cM) n0 b ρ lfs) (es_XC D (es_TY cI cJ cZ cC cM) n0 b ρ lfs) args s (es_mc M) (es_ms M) (es_A n0)) D (es_TY cI cJ cZ cC cM) n0 b ρ (es_mL M) E := by
  obtain ⟨hx, hb, hml, hown, hts, hK, hR, hinit, hscr, hao, hlocks, hr⟩ := id fc
  obtain ⟨kd, pc, L, S, AH, F, cs, ss⟩ := E
  unfold es_leaf at h
  split at h
  · rename_i n pc' L' S' AH' F' cs' ss' heq
    cases heq
    split at h
    · rename_i hh0
      cases hcap : (Nat.ble cs (es_mc M) && Nat.ble ss (es_ms M))
      · rw [hcap] at h; cases h
      · rw [hcap] at h
        cases h
        rw [Bool.and_eq_true, Nat.ble_eq, Nat.ble_eq] at hcap
        intro H ls locs st q ce hinv h1 h2 h3
        obtain ⟨hl, hs, hH, hF, hS⟩ := hinv
        refine vx_out (E := es_exc n) ?_ hlocks h1 h2 h3 (fun t ht hvm => ⟨_, hin, n, rfl, rfl, hF, by rw [ht]; exact hH, hS.F ht⟩) hS.2.2 hcap.1 hcap.2
        intro z hz
        rw [htab, hh0] at hz
        cases hz
    · cases h
  · rename_i pc' L' S' AH' F' cs' ss' heq
    cases heq
    split at h
    · rename_i ent hat
      obtain ⟨e1, qq, hq1, hq2⟩ := es_at_ok hat
      obtain ⟨hdk, htok⟩ := htk qq hq1 ent hq2
      unfold es_dok at hdk
      rw [Bool.and_eq_true] at hdk
      have hd := of_decide_eq_true hdk.1
      split at h
      · rename_i x tl haux
        split at h
        · rename_i hh0
          cases hcap : ((Nat.blt cs (es_mc M) && Nat.ble (ss + 6) (es_ms M)) && (Nat.blt 5 (es_rf M) && Nat.ble 100 (es_lo M)) && Nat.ble (es_cts S) 8)
          · rw [hcap] at h; cases h
          · rw [hcap] at h
            cases h
            subst e1
            exact es_throw_ok hWS fc hev htab hh0 (hthw qq hq1 ent hq2) hd htok haux hcap hin
        · cases h
      · cases hrt : es_rtv (es_rt M) ent.2.1 S F with
        | none => rw [hrt] at h; cases h
        | some q =>
          rw [hrt] at h
          dsimp only at h
          cases hcap : (Nat.ble cs (es_mc M) && Nat.ble ss (es_ms M))
          · rw [hcap] at h; cases h
          · rw [hcap] at h
            cases h
            rw [Bool.and_eq_true, Nat.ble_eq, Nat.ble_eq] at hcap
            intro H ls locs st hinv
            obtain ⟨hl, hs, hH, hF, hS⟩ := hinv
            dsimp only at hl hs hH hF ⊢
            have hdl : es_len ent.2.1 = ent.2.2.1 := by
              have h2 := hdk.2
              split at h2
              · rename_i hts2
                rw [hts2] at hrt
                cases hrt
              · exact (es_beq.mp h2).symm
            rw [← hdl, e1] at hd
            refine W.widen (k := es_mc M) (n := es_ms M) hcap.1 hcap.2 (vx_ret ?_)
            exact es_rtv_ok hrt hF hs hd hx hb hr hlocks hS.2.2 (fun h0 t ht hW => ⟨_, hin, hF, by rw [ht]; exact hH, hS.F ht, Or.inl ⟨h0, rfl⟩⟩) (fun h1 y hy t ht hW => ⟨_, hin, hF, by rw [ht]; exact hH, hS.F ht, Or.inr ⟨h1, y, rfl, hy⟩⟩)
    · cases h
end Met2
end
section
section Con
variable {l : Launch} {strs : List (String × Nat × String)} {wx : List Cond} {WS : List Cond} {SL : Nat} {D : va_G} {cI cJ cZ cC cM : ClassId} {n0 : Nat} {b : Nat → Nat} {ρ : Nat → Int32} {M : es_M}
/-- what a run of a method's body gives, in every frame of it -/
def es_RS (l : Launch) (strs : List (String × Nat × String)) (wx : List Cond) (WS : List Cond) (SL : Nat) (D : va_G) (cI cJ cZ cC cM : ClassId) (n0 : Nat) (b : Nat → Nat) (ρ : Nat → Int32) (M : es_M) (K : es_K) (ends : List es_E) : Prop :=
  ∀ (p : Program) (e : Env) (R : Room) (s : State) (m : MethodId) (args : Array Value) (below : List Frame) (meth : Method) (c : Code) (Q : State → Prop), es_FC WS SL D cI cJ cZ cC cM n0 b ρ p R s m args meth c M → es_ev l strs wx SL D cI cJ cZ cC cM n0 b ρ s → c.exceptionTable.toList = tableOf (es_hh M) →
    (∀ E ∈ ends, es_EG p l e R s m args below meth c Q D (es_TY cI cJ cZ cC cM) n0 b ρ (es_mL M) E) → es_G p l e R s m args below meth c Q D (es_TY cI cJ cZ cC cM) n0 b ρ (es_mL M) K
/-- what holds of a method's rows -/
def es_MOK (strs : List (String × Nat × String)) (wx WS : List Cond) (M : es_M) : Prop :=
  (es_own M = (es_y M).cls ∧ plainName (es_y M).cls = true) ∧ (∀ q ∈ es_tab M, ∀ E ∈ q.2, ∀ x is ic wide si j1 j2, E.2.2.2 = [100, x, is, ic, wide, si, j1, j2] → es_thw WS wx (es_own M) ic x) ∧ ∀ q ∈ es_tab M, ∀ E ∈ q.2, es_dok M E = true ∧ es_tok WS wx strs M E = true
theorem es_body (hWS : ∀ w ∈ WS, goodWord w = true) (hMO : es_MOK strs wx WS M) {vs : List es_V} {xs : List Value} {AH : List es_O} {F : es_F} {ends : List es_E} (hrs : es_RS l strs wx WS SL D cI cJ cZ cC cM n0 b ρ M (0, es_al 0 vs, [], AH, F, 0, 0) ends) {lfs : List es_Lf} (hlf : es_cat (fun E => (es_leaf M E).map (fun x => [x])) ends = some lfs) (hvs : es_sr n0 b ρ vs xs) (hct : es_cts vs ≤ es_mL M) (hF : es_fr ρ F)
    {p : Program} {e : Env} {s : State} {m : MethodId} {args : Array Value} {below : List Frame} {meth : Method} {c : Code} {s₁ : State} (B : BodyLoose p l (es_y M) (headSpec (es_cw M :: WS) (es_room M)) (es_code M) (es_mL M) (es_rt M) e s m args below meth c s₁) (hml : c.maxLocals = es_mL M) (htab : c.exceptionTable.toList = tableOf (es_hh M))
    (hP : va_Pc xs (fun U => es_hr D (es_TY cI cJ cZ cC cM) n0 b ρ AH U.heap ∧ es_ev l strs wx SL D cI cJ cZ cC cM n0 b ρ U) args s) :
    W p l e (headSpec (es_cw M :: WS) (es_room M)).room s m args below meth c s.heap [] 0 0 (vx_MQ below (es_Qc D (es_TY cI cJ cZ cC cM) n0 b ρ lfs) (es_XC D (es_TY cI cJ cZ cC cM) n0 b ρ lfs) args s (es_mc M) (es_ms M) (es_A n0)) (entryFrame m args (es_mL M)) := by
  obtain ⟨rfl, hH, hev⟩ := hP
  have hts := atoms_spec (ws := es_cw M :: WS) B.pre
  have hown : s.vm.findClass (es_own M) = some m.cls := by rw [hMO.1.1]; exact findClass_of_methodNamed B.named
  have fc : es_FC WS SL D cI cJ cZ cC cM n0 b ρ p (headSpec (es_cw M :: WS) (es_room M)).room s m xs.toArray meth c M :=
    ⟨B.exec, B.bytes, hml, hown, fun w hw => hts w (List.mem_cons_of_mem _ hw), hev.1, ⟨Nat.le_refl _, Nat.le_refl _, Nat.le_refl _, Nat.le_refl _⟩, fun h => ((name_of_methodNamed B.named B.method).1).trans h, hev.2.1, hev.2.2.1, B.notSynchronized, B.returns⟩
  have hent := lv_entry xs (n := es_mL M) (by rw [(es_cts_ok vs xs hvs).1]; exact hct)
  rw [lg_entry_eq]
  generalize (lg_sl xs ++ List.replicate (es_mL M - (lg_sl xs).length) Slot.unset).toArray = ls at hent ⊢
  refine hrs p e _ s m xs.toArray below meth c _ fc hev htab (fun E hE => ?_) s.heap ls [] [] ⟨⟨hent.1, hent.2.1, fun j v hv => ?_⟩, rfl, hH, hF, va_S.rf⟩
  · obtain ⟨x, h1, h2⟩ := es_cat_ok hlf E hE
    cases hlE : es_leaf M E with
    | none => rw [hlE] at h1; cases h1
    | some lf =>
      rw [hlE] at h1
      cases h1
      exact es_leaf_ok hWS hMO.2.1 hMO.2.2 fc hev htab hlE (h2 lf (List.mem_singleton.mpr rfl))
  · obtain ⟨x, h1, h2⟩ := es_al_ok vs xs 0 hvs j v hv
    exact ⟨x, hent.2.2 _ h1, h2⟩
theorem es_met (hWS : ∀ w ∈ WS, goodWord w = true) (hMO : es_MOK strs wx WS M) {vs : List es_V} {xs : List Value} {AH : List es_O} {F : es_F} {ends : List es_E} (hrs : es_RS l strs wx WS SL D cI cJ cZ cC cM n0 b ρ M (0, es_al 0 vs, [], AH, F, 0, 0) ends) {lfs : List es_Lf} (hlf : es_cat (fun E => (es_leaf M E).map (fun x => [x])) ends = some lfs) (hvs : es_sr n0 b ρ vs xs) (hct : es_cts vs ≤ es_mL M) (hF : es_fr ρ F) :
    vx_Met l (es_y M) (es_cw M :: WS) (es_room M) (va_Pc xs (fun U => es_hr D (es_TY cI cJ cZ cC cM) n0 b ρ AH U.heap ∧ es_ev l strs wx SL D cI cJ cZ cC cM n0 b ρ U)) (es_Qc D (es_TY cI cJ cZ cC cM) n0 b ρ lfs) (es_XC D (es_TY cI cJ cZ cC cM) n0 b ρ lfs) (es_mc M) (es_ms M) (es_A n0) := by
  cases hh : es_hh M with
  | nil =>
    have hcw : es_cw M = .code (es_y M) (es_code M) (es_mL M) (es_rt M) := by unfold es_cw; rw [hh]
    refine vx_ofW (cc := es_code M) (maxL := es_mL M) (ret := es_rt M) hMO.1.2 (by rw [hcw]) ?_
    intro p e s m args below meth c s₁ B hml ht hP
    refine es_body hWS hMO hrs hlf hvs hct hF B hml ?_ hP
    rw [hh]
    exact List.eq_nil_iff_forall_not_mem.mpr ht
  | cons q t =>
    have hcw : es_cw M = .codeWith (es_y M) (es_code M) (es_mL M) (es_rt M) (es_hh M) := by unfold es_cw; rw [hh]
    refine vx_ofWH (cc := es_code M) (maxL := es_mL M) (ret := es_rt M) (hh := es_hh M) hMO.1.2 (by rw [hcw]) ?_
    intro p e s m args below meth c s₁ B hml hP
    refine es_body hWS hMO hrs hlf hvs hct hF B hml ?_ hP
    have hts := atoms_spec (ws := es_cw M :: WS) B.pre
    exact vx_table (x := es_y M) B (by rw [← hcw]; exact hts _ List.mem_cons_self)
/-- .. and where nothing is thrown -/
theorem es_met0 {y : MethodName} {ws : List Cond} {rm : Room} {Pc : Array Value → State → Prop} {lfs : List es_Lf} {mc ms : Nat} {free : Addr → Prop} (h : vx_Met l y ws rm Pc (es_Qc D (es_TY cI cJ cZ cC cM) n0 b ρ lfs) (es_XC D (es_TY cI cJ cZ cC cM) n0 b ρ lfs) mc ms free) (hn : es_nothr lfs = true) : Met l y ws rm Pc (es_Qc D (es_TY cI cJ cZ cC cM) n0 b ρ lfs) mc ms free := by
  unfold vx_Met at h
  unfold Met
  intro p e ha hc hk s m args below hf hfit hheap happ
  obtain ⟨t, o, h1, h2, h3, h4⟩ := h p e ha hc hk s m args below hf hfit hheap happ
  refine ⟨t, o, h1, h2, h3, ?_⟩
  rcases h4 with h4 | ⟨q, rfl, E, ce, L, ⟨lf, hl1, n, hl2, -⟩, -⟩
  · exact h4
  · have h5 := List.all_eq_true.mp hn lf hl1
    have h6 := es_blt.mp h5
    rw [hl2] at h6
    omega
end Con
end
section
section Catch
theorem es_covers {q : Nat × Nat × Nat × Nat} {pc : Nat} : covers (⟨q.1, q.2.1, q.2.2.1, q.2.2.2⟩ : ExceptionTableEntry) pc = (Nat.ble q.1 pc && Nat.blt pc q.2.1) := by
  unfold covers
  cases h1 : Nat.ble q.1 pc <;> cases h2 : Nat.blt pc q.2.1
  · have g1 : ¬ q.1 ≤ pc := fun h => by rw [Nat.ble_eq.mpr h] at h1; cases h1
    simp [g1]
  · have g1 : ¬ q.1 ≤ pc := fun h => by rw [Nat.ble_eq.mpr h] at h1; cases h1
    simp [g1]
  · have g1 : ¬ pc < q.2.1 := fun h => by rw [es_blt.mpr h] at h2; cases h2
    simp [g1]
  · have g1 := Nat.ble_eq.mp h1
    have g2 := es_blt.mp h2
    simp [g1, g2]
theorem es_goOne {Q : Handler → Pre} {E : CtlPost} {e : Env} {d : Bool} {acts : List Action} {s : State} {f : JFrame} {a : Addr} {x : ExceptionTableEntry} {t : List ExceptionTableEntry} {c : ClassId} {cell : Cell} (hx : covers x f.pc = true) (h0 : x.catchType ≠ 0)
    (hl : s.vm.ClassLinks e.platform f.method.cls x.catchType c) (hcell : s.heap[a]? = some cell) (hobj : ∀ k, cell.vm ≠ .statics k)
    (hk : ∃ k, s.vm.classes[cell.cls]? = some k) (hc : ∃ k, s.vm.classes[c]? = some k) :
    wp (findHandler.go f a (x :: t)) Q E e d acts s ↔ (if s.vm.assignable cell.cls c = true then Q (.found x.handlerPc) d acts (s.setVm (s.vm.noted f.method.cls x.catchType (.cls c))) else wp (findHandler.go f a t) Q E e d acts (s.setVm (s.vm.noted f.method.cls x.catchType (.cls c)))) := by
  simp only [covers] at hx
  obtain ⟨ha, ht⟩ := (resolveClass_links e.toSetting hl).op (op := VmOp.resolveClass f.method.cls x.catchType) rfl
  have hal : s.vm.Alike (s.vm.noted f.method.cls x.catchType (.cls c)) := (Vm.Alike.refl s.vm).noted _ _ _
  obtain ⟨k1, hk1⟩ := hk
  obtain ⟨k2, hk2⟩ := hc
  obtain ⟨k1', hk1', -⟩ := hal.2.2 _ _ hk1
  obtain ⟨k2', hk2', -⟩ := hal.2.2 _ _ hk2
  have hfit' : (s.vm.noted f.method.cls x.catchType (.cls c)).assignable cell.cls c = s.vm.assignable cell.cls c := by rw [hal.assignable]
  by_cases hf : s.vm.assignable cell.cls c = true
  · rw [if_pos hf]
    rw [hf] at hfit'
    simp [findHandler.go, hx, h0, ha, ht, hcell, hobj, hk1', hk2', hfit', VmOp.dirties, VmOp.acts]
  · rw [if_neg hf]
    have hf2 : s.vm.assignable cell.cls c = false := by simpa using hf
    rw [hf2] at hfit'
    simp [findHandler.go, hx, h0, ha, ht, hcell, hobj, hk1', hk2', hfit', VmOp.dirties, VmOp.acts]
theorem es_goes {e : Env} {s₀ : State} {f : JFrame} {a : Addr} {cell : Cell} {x h : Nat} {own : String} {args : Array Value} (hpl : e.platform.magicAccessors = ({} : Platform).magicAccessors) (hown : s₀.vm.findClass own = some f.method.cls) (hobj : ∀ k, cell.vm ≠ .statics k) (hx5 : x < 5) (hcl : s₀.vm.findClass (es_exc x) = some cell.cls) (hnc : ∀ x y : Nat, x < 5 → y < 5 → x ≠ y → va_Nc (es_exc x) (es_exc y) s₀) :
    ∀ (hh : List (Nat × Nat × Nat × Nat)) (S : State), s₀.WarmedH S.vm → S.heap[a]? = some cell → (∀ q ∈ hh, q.2.2.2 ≠ 0 ∧ es_ct q.2.2.2 < 5 ∧ (Cond.classLink own q.2.2.2 (es_exc (es_ct q.2.2.2))).before args s₀ = true) → es_hdl es_ct hh f.pc x = some h →
      ∃ vm', s₀.WarmedH vm' ∧ ∀ (Q : Handler → Pre) (E : CtlPost) (d : Bool) (acts : List Action), wp (findHandler.go f a (tableOf hh)) Q E e d acts S ↔ Q (.found h) d acts (S.setVm vm') := by
  intro hh
  induction hh with
  | nil => intro S _ _ _ h0; cases h0
  | cons q t ih =>
    intro S hW hcell hrow hhd
    obtain ⟨g0, g5, glk⟩ := hrow q List.mem_cons_self
    have hrest : ∀ z ∈ t, z.2.2.2 ≠ 0 ∧ es_ct z.2.2.2 < 5 ∧ (Cond.classLink own z.2.2.2 (es_exc (es_ct z.2.2.2))).before args s₀ = true := fun z hz => hrow z (List.mem_cons_of_mem _ hz)
    unfold es_hdl at hhd
    cases hcv : (Nat.ble q.1 f.pc && Nat.blt f.pc q.2.1)
    · rw [hcv] at hhd
      dsimp only [cond_false] at hhd
      obtain ⟨vm', w1, w2⟩ := ih S hW hcell hrest hhd
      refine ⟨vm', w1, fun Q E d acts => ?_⟩
      show wp (findHandler.go f a (⟨q.1, q.2.1, q.2.2.1, q.2.2.2⟩ :: tableOf t)) Q E e d acts S ↔ _
      rw [W.findHandler_go_skip (by rw [es_covers]; exact hcv)]
      exact w2 Q E d acts
    · rw [hcv] at hhd
      dsimp only [cond_true] at hhd
      obtain ⟨c', hc', hlk⟩ := Cond.classLink_spec hown glk e.platform hpl
      obtain ⟨dk, _, _, kt, hd, _, _, _, _, hkt, _, hopn⟩ := hlk.here
      obtain ⟨kt', hkt', -⟩ := hW.alike.2.2 _ _ hkt
      obtain ⟨k0, hk0, -⟩ := Vm.findClass_spec hcl
      obtain ⟨k0', hk0', -⟩ := hW.alike.2.2 _ _ hk0
      have hW2 : s₀.WarmedH (S.vm.noted f.method.cls q.2.2.2 (.cls c')) := hW.noted hd hopn (State.rightAt_cls hlk)
      have hone : ∀ (Q : Handler → Pre) (E : CtlPost) (d : Bool) (acts : List Action), _ := fun Q E d acts => es_goOne (Q := Q) (E := E) (e := e) (d := d) (acts := acts) (s := S) (f := f) (a := a) (x := (⟨q.1, q.2.1, q.2.2.1, q.2.2.2⟩ : ExceptionTableEntry)) (t := tableOf t) (c := c') (cell := cell) (by rw [es_covers]; exact hcv) g0 (hW.classLinks hlk) hcell hobj ⟨k0', hk0'⟩ ⟨kt', hkt'⟩
      cases hcx : Nat.beq (es_ct q.2.2.2) x
      · rw [hcx] at hhd
        dsimp only [cond_false] at hhd
        have hne := es_beqf.mp hcx
        obtain ⟨a8, b8, n1, n2, n3⟩ := hnc x (es_ct q.2.2.2) hx5 g5 (Ne.symm hne)
        cases Option.some.inj (n1.symm.trans hcl)
        cases Option.some.inj (n2.symm.trans hc')
        obtain ⟨vm', w1, w2⟩ := ih (S.setVm (S.vm.noted f.method.cls q.2.2.2 (.cls c'))) hW2 hcell hrest hhd
        refine ⟨vm', w1, fun Q E d acts => ?_⟩
        show wp (findHandler.go f a (⟨q.1, q.2.1, q.2.2.1, q.2.2.2⟩ :: tableOf t)) Q E e d acts S ↔ _
        rw [hone Q E d acts, if_neg (by rw [hW.alike.assignable, n3]; decide)]
        exact w2 Q E d acts
      · rw [hcx] at hhd
        cases hhd
        have he := es_beq.mp hcx
        rw [he] at hc'
        cases Option.some.inj (hcl.symm.trans hc')
        refine ⟨_, hW2, fun Q E d acts => ?_⟩
        show wp (findHandler.go f a (⟨q.1, q.2.1, q.2.2.1, q.2.2.2⟩ :: tableOf t)) Q E e d acts S ↔ _
        rw [hone Q E d acts, if_pos (va_asg _ _)]
theorem es_catch {p : Program} {l : Launch} {e : Env} {R : Room} {s : State} {m : MethodId} {args : Array Value} {below : List Frame} {meth : Method} {c : Code} {H : Heap} {locs : List Loc} {cells slots : Nat} {Q : State → Prop} {pc : Nat} {ls : Array Slot} {rest : List Value} {q : Addr} {ce : Cell} {own : String} {x h : Nat} {hh : List (Nat × Nat × Nat × Nat)}
    (hown : s.vm.findClass own = some m.cls) (htab : c.exceptionTable.toList = tableOf hh) (hx5 : x < 5) (hnc : ∀ x y : Nat, x < 5 → y < 5 → x ≠ y → va_Nc (es_exc x) (es_exc y) s) (hrow : ∀ q ∈ hh, q.2.2.2 ≠ 0 ∧ es_ct q.2.2.2 < 5 ∧ (Cond.classLink own q.2.2.2 (es_exc (es_ct q.2.2.2))).before args s = true) (hhd : es_hdl es_ct hh pc x = some h) (hcell : H[q]? = some ce) (hv : ce.vm = .none) (hcl : s.vm.findClass (es_exc x) = some ce.cls)
    (kk : W p l e R s m args below meth c H locs cells slots Q (F0 m h ls [.ref q])) : vx_W p l e R s m args below meth c H locs cells slots Q (F0 m pc ls rest) q := by
  intro T hT X
  have hpl : e.platform.magicAccessors = ({} : Platform).magicAccessors := by rw [X.admits.platform]
  obtain ⟨vm', hW', hq⟩ := es_goes (e := e) (s₀ := s) (f := F0 m pc ls rest) (a := q) (cell := ce) (args := args) (own := own) hpl hown (fun k h9 => by rw [hv] at h9; cases h9) hx5 hcl hnc hh ((T.setTop (F0 m pc ls rest)).pushFrame (.throwing q)) X.warmed (by show T.heap[q]? = some ce; rw [hT]; exact hcell) hrow hhd
  obtain ⟨t, a1, b1⟩ := kk (T.setVm vm') hT (X.noted hW')
  refine ⟨t, ?_, b1⟩
  have hgoes : ∀ (Q : Handler → Pre) (E : CtlPost) (d : Bool) (acts : List Action), wp (findHandler (F0 m pc ls rest) q) Q E e d acts ((T.setTop (F0 m pc ls rest)).pushFrame (.throwing q)) ↔ Q (.found h) d acts (((T.setTop (F0 m pc ls rest)).pushFrame (.throwing q)).setVm vm') := fun Q E d acts => by
    rw [W.findHandler_eq (meth := meth) (code := c) X.method' X.code, htab]
    exact hq Q E d acts
  have hst : (stepThrowing e ((T.setTop (F0 m pc ls rest)).pushFrame (.throwing q)) q (.java (F0 m pc ls rest) :: below)).Is ((((T.setTop (F0 m pc ls rest)).pushFrame (.throwing q)).setVm vm').setFrames (.java { (F0 m pc ls rest) with pc := h, stack := [.ref q] } :: below)) [] := by
    simp only [stepThrowing, searchFrame, vmDo]
    generalize hr : Sem.go _ e false [] ((T.setTop (F0 m pc ls rest)).pushFrame (.throwing q)) = res
    obtain ⟨as, rfl, ha⟩ := Sem.eq_ok_of hr (a := Handler.found h) (s' := ((T.setTop (F0 m pc ls rest)).pushFrame (.throwing q)).setVm vm') (acts' := []) (by simp [hgoes])
    exact ⟨rfl, ha⟩
  have hAt : At T (F0 m pc ls rest).method c below := X.here
  obtain ⟨hgo, hw⟩ := hAt.throwing q
  refine Steps.head hgo hw ?_
  rw [stepThread_throwing (frames_entered hAt.top _)]
  obtain ⟨g₀, hfr⟩ := X.frames_eq
  have hr' : (T.setVm vm').frames = .java g₀ :: below := hfr
  rw [State.setTop_of_frames _ hr'] at a1
  rw [hfr, List.tail_cons, hst.1, State.pushFrame, State.setTop_of_frames _ hfr]
  have hz : ∀ (u : State) (F G : List Frame), ((u.setFrames F).setVm vm').setFrames G = (u.setVm vm').setFrames G := fun u F G => by
    have h1 : (u.setFrames F).setVm vm' = (u.setVm vm').setFrames F := rfl
    rw [h1, State.setFrames_setFrames]
  rw [State.setFrames_setFrames, hz]
  exact a1
end Catch
end
section
def es_ymok (y : MethodName) (n : Nat) : Bool := decide (y.cls ≠ "java/lang/invoke/MethodHandle") && (decide (y.cls ≠ "java/lang/invoke/VarHandle") && decide ((parseMethodDescriptor y.desc).map (fun d => d.parameters.length) = some n))
theorem es_ymok_ok {y : MethodName} {n : Nat} (h : es_ymok y n = true) : y.cls ≠ "java/lang/invoke/MethodHandle" ∧ y.cls ≠ "java/lang/invoke/VarHandle" ∧ (parseMethodDescriptor y.desc).map (fun d => d.parameters.length) = some n := by
  unfold es_ymok at h
  rw [Bool.and_eq_true, Bool.and_eq_true] at h
  exact ⟨of_decide_eq_true h.1, of_decide_eq_true h.2.1, of_decide_eq_true h.2.2⟩
def es_cok (ME : Nat → es_M) (WS wx : List Cond) (M : Nat) (E : es_I) : Bool := match E.2.1 with
  | .invokevirtual idx => match E.2.2.2 with
    | [1, M', n, ci, j1, j2, j3, j4] => (match vwCl[ci]? with
        | some r => decide (r.1 = (es_y (ME (es_cal M M'))).cls)
        | none => false) && ((es_wj WS j1 (.methodLink (es_own (ME M)) idx (es_y (ME (es_cal M M')))) && es_wj WS j2 (.instanceMethod (es_y (ME (es_cal M M'))))) && ((es_wj WS j3 (.selects (es_y (ME (es_cal M M'))).cls (es_y (ME (es_cal M M'))) (es_y (ME (es_cal M M')))) && es_wj WS j4 (.initialized (es_y (ME (es_cal M M'))).cls)) && (es_ymok (es_y (ME (es_cal M M'))) n && (es_hh (ME (es_cal M M'))).isEmpty)))
    | [3, M', n, j1, j2, j3, j4] => decide ((es_y (ME (es_cal M M'))).cls = "java/lang/String") && ((es_wj WS j1 (.methodLink (es_own (ME M)) idx (es_y (ME (es_cal M M')))) && es_wj WS j2 (.instanceMethod (es_y (ME (es_cal M M'))))) && ((es_wj WS j3 (.selects (es_y (ME (es_cal M M'))).cls (es_y (ME (es_cal M M'))) (es_y (ME (es_cal M M')))) && es_wj WS j4 (.initialized (es_y (ME (es_cal M M'))).cls)) && (es_ymok (es_y (ME (es_cal M M'))) n && (es_hh (ME (es_cal M M'))).isEmpty)))
    | _ => false
  | .invokestatic idx => match E.2.2.2 with
    | [2, M', n, j1, j2, j3] => (es_wj WS j1 (.methodLink (es_own (ME M)) idx (es_y (ME (es_cal M M')))) && es_wj WS j2 (.static (es_y (ME (es_cal M M'))))) && (es_wj WS j3 (.initialized (es_y (ME (es_cal M M'))).cls) && es_ymok (es_y (ME (es_cal M M'))) n)
    | [4, j1, j2, j3, j4] => (es_wj WS j1 (.methodLink (es_own (ME M)) idx arraycopyName) && es_wj WS j2 (.native arraycopyName)) && (es_wj WS j3 (.static arraycopyName) && es_wj WS j4 (.initialized "java/lang/System"))
    | [5, j1, j2, j3, j4] => (es_wj WS j1 (.methodLink (es_own (ME M)) idx Lib.Math.min.name) && es_wj WS j2 (.static Lib.Math.min.name)) && (es_wj WS j3 (.initialized "java/lang/Math") && es_wj WS j4 (.code Lib.Math.min.name Lib.Math.min.code 2 (some .int)))
    | [6, j1, j2, j3, j4] => (es_wj WS j1 (.methodLink (es_own (ME M)) idx Lib.Math.max.name) && es_wj WS j2 (.static Lib.Math.max.name)) && (es_wj WS j3 (.initialized "java/lang/Math") && es_wj WS j4 (.code Lib.Math.max.name Lib.Math.max.code 2 (some .int)))
    | _ => false
  | .invokespecial idx => match E.2.2.2 with
    | [7, M', n, nest, j1, j2, j3] => (bif Nat.beq nest 0 then es_wj WS j1 (.methodLink (es_own (ME M)) idx (es_y (ME (es_cal M M')))) else es_wj wx j1 (.methodLinkNest (es_own (ME M)) idx (es_y (ME (es_cal M M'))) RX11)) && ((es_wj WS j2 (.instanceMethod (es_y (ME (es_cal M M')))) && es_wj WS j3 (.initialized (es_y (ME (es_cal M M'))).cls)) && ((es_ymok (es_y (ME (es_cal M M'))) n && (es_hh (ME (es_cal M M'))).isEmpty) && (decide ((es_y (ME (es_cal M M'))).name = "<init>") && decide (es_rt (ME (es_cal M M')) = none))))
    | [9, j1, j2, j3] => es_wj WS j1 (.methodLink (es_own (ME M)) idx Lib.objectInit) && (es_wj WS j2 (.instanceMethod Lib.objectInit) && es_wj WS j3 (.code Lib.objectInit ⟨#[0xb1]⟩ 1 none))
    | _ => false
  | _ => true
/-- a row that speaks of a constant text -/
def es_sok (strs : List (String × Nat × String)) (WS : List Cond) (M : es_M) (E : es_I) : Bool := match E.2.2.2 with
  | 60 :: f :: a :: tl => match f, E.2.1 with
    | 0, .ldc idx => (match strs[a]? with
      | some q => decide (q.1 = es_own M) && decide (q.2.1 = idx)
      | none => false)
    | 1, .getfield idx => (match tl with
      | [j] => es_wj WS j (.fieldLink (es_own M) idx "java/lang/String" "value" "[B")
      | _ => false)
    | 2, .getfield idx => (match tl with
      | [j] => es_wj WS j (.fieldLink (es_own M) idx "java/lang/String" "coder" "B")
      | _ => false)
    | 3, .arraylength => true
    | 4, .baload => true
    | 5, .getstatic idx => (match tl with
      | [j] => es_wj WS j (.fieldLink (es_own M) idx "java/lang/String" "COMPACT_STRINGS" "Z")
      | _ => false)
    | 6, .getstatic idx => (match tl with
      | [j] => es_wj WS j (.fieldLink (es_own M) idx "jdk/internal/util/Preconditions" "SIOOBE_FORMATTER" "Ljava/util/function/BiFunction;")
      | _ => false)
    | _, _ => false
  | _ => true
section Call
variable {l : Launch} {strs : List (String × Nat × String)} {wx : List Cond} {WS : List Cond} {SL : Nat} {D : va_G} {cI cJ cZ cC cM : ClassId} {n0 : Nat} {b : Nat → Nat} {ρ : Nat → Int32} {ME : Nat → es_M}
variable {p : Program} {e : Env} {R : Room} {s : State} {m : MethodId} {args : Array Value} {below : List Frame} {meth : Method} {c : Code} {Q : State → Prop}
/-- what holds of all rows -/
def es_GH (strs : List (String × Nat × String)) (wx WS : List Cond) (ME : Nat → es_M) : Prop :=
  (∀ w ∈ WS, goodWord w = true) ∧ (∀ (ci : Nat) (r : vw_C), vwCl[ci]? = some r → ∀ w ∈ u_ws r.1 r.2.1 r.2.2, w ∈ WS) ∧ es_wxok wx ∧ (∀ M, es_MOK strs wx WS (ME M)) ∧ (∀ M, es_cx M = true → es_cw (ME M) ∈ WS) ∧ (∀ M, ∀ q ∈ es_tab (ME M), ∀ E ∈ q.2, (es_hok WS (ME M) E = true ∧ es_cok ME WS wx M E = true) ∧ es_sok strs WS (ME M) E = true) ∧
  (∀ M, ∀ q ∈ es_hh (ME M), q.2.2.2 ≠ 0 ∧ es_ct q.2.2.2 < 5 ∧ Cond.classLink (es_own (ME M)) q.2.2.2 (es_exc (es_ct q.2.2.2)) ∈ WS)
theorem es_good (G : es_GH strs wx WS ME) {M : Nat} (hc : es_cw (ME M) ∈ WS) : GoodIn WS (es_cw (ME M) :: WS) := fun w hw => by
  rcases List.mem_cons.mp hw with rfl | h
  · exact ⟨hc, good_of_word (G.1 _ hc)⟩
  · exact ⟨h, good_of_word (G.1 _ h)⟩
abbrev es_Pc (l : Launch) (strs : List (String × Nat × String)) (wx : List Cond) (SL : Nat) (D : va_G) (cI cJ cZ cC cM : ClassId) (n0 : Nat) (b : Nat → Nat) (ρ : Nat → Int32) (xs : List Value) (AH : List es_O) : Array Value → State → Prop := va_Pc xs (fun U => es_hr D (es_TY cI cJ cZ cC cM) n0 b ρ AH U.heap ∧ es_ev l strs wx SL D cI cJ cZ cC cM n0 b ρ U)
theorem es_blind (hwx : es_wxok wx) {xs : List Value} {AH : List es_O} : FrameBlind (es_Pc l strs wx SL D cI cJ cZ cC cM n0 b ρ xs AH) := by
  intro a U g mk h
  obtain ⟨h1, h2, h3⟩ := h
  exact ⟨h1, h2, es_ev_move hwx h3 (U := U.calling g mk a) (State.WarmedH.refl U) (Nat.le_refl _) (fun _ _ _ => rfl)⟩
theorem es_pcU (hwx : es_wxok wx) (hev : es_ev l strs wx SL D cI cJ cZ cC cM n0 b ρ s) {H : Heap} {locs : List Loc} (hS : va_S (es_A n0) s.heap H locs) {AH : List es_O} (hH : es_hr D (es_TY cI cJ cZ cC cM) n0 b ρ AH H) {xs : List Value} : ∀ U : State, U.heap = H → s.WarmedH U.vm → es_Pc l strs wx SL D cI cJ cZ cC cM n0 b ρ xs AH xs.toArray U := fun U hU hW =>
  ⟨rfl, by rw [hU]; exact hH, es_ev_move hwx hev hW (by rw [hU]; exact hS.1) (fun q h1 h2 => by rw [hU]; exact hS.2.1 q h1 h2)⟩
theorem es_va_join {H H1 : Heap} {locs L : List Loc} {st₀ t : State} (hS : va_S (es_A n0) s.heap H locs) (h0 : st₀.heap = H) (ht : t.heap = H1) (hf : va_F (es_A n0) st₀ t) (hL : ∀ q ∈ L, es_A n0 q.base) : va_S (es_A n0) s.heap H1 (locs ++ L) := by
  obtain ⟨f1, f2⟩ := hf
  rw [h0, ht] at f1
  rw [h0, ht] at f2
  refine ⟨Nat.le_trans hS.1 f1, fun q h1 h2 => (f2 q (Nat.lt_of_lt_of_le h1 hS.1) h2).trans (hS.2.1 q h1 h2), fun z hz => ?_⟩
  rcases List.mem_append.mp hz with h | h
  · exact hS.2.2 z h
  · exact hL z h
/-- what comes behind a call -/
theorem es_aft_ok (G : es_GH strs wx WS ME) {ih : Nat → es_K → Option (List es_E)} (hih : ∀ (M : Nat) (K : es_K) (ends : List es_E), ih M K = some ends → es_RS l strs wx WS SL D cI cJ cZ cC cM n0 b ρ (ME M) K ends) {M : Nat} (fc : es_FC WS SL D cI cJ cZ cC cM n0 b ρ p R s m args meth c (ME M)) (hev : es_ev l strs wx SL D cI cJ cZ cC cM n0 b ρ s) (htab : c.exceptionTable.toList = tableOf (es_hh (ME M))) {ends : List es_E} (hends : ∀ E ∈ ends, es_EG p l e R s m args below meth c Q D (es_TY cI cJ cZ cC cM) n0 b ρ (es_mL (ME M)) E)
    {pc : Nat} {L : es_L} {S' : List es_V} {cs ss mc ms : Nat} {lfs : List es_Lf} (hcat : es_cat (es_aft ME ih M pc L S' (cs + mc) (ss + ms)) lfs = some ends)
    {H : Heap} {ls : Array Slot} {locs : List Loc} {rest st0 : List Value} (hl : es_lr n0 b ρ (es_mL (ME M)) L ls) (hs' : es_sr n0 b ρ S' rest) (hS : va_S (es_A n0) s.heap H locs)
    (hr : vx_Run p l e R s m args below meth c H locs cs ss mc ms (F0 m pc ls st0) rest (es_Qc D (es_TY cI cJ cZ cC cM) n0 b ρ lfs #[]) (es_XC D (es_TY cI cJ cZ cC cM) n0 b ρ lfs) (es_A n0)) :
    W p l e R s m args below meth c H locs cs ss Q (F0 m pc ls st0) := by
  refine es_vxrun hr (fun v st₀ t H1 L1 h0 ht hq hL => ?_) (fun q st₀ t H1 L1 E ce h0 ht hxc hce hcv hcl hL => ?_)
  · obtain ⟨lf, hlf, hF', hH', hf, hcase⟩ := hq
    obtain ⟨x, h1, h2⟩ := es_cat_ok hcat lf hlf
    rw [ht] at hH'
    obtain ⟨kd, w, AH', F'⟩ := lf
    dsimp only at hF' hH' hcase
    rcases hcase with ⟨rfl, hv⟩ | ⟨rfl, y, hv, hy⟩
    · cases hv
      have h1' : ih M (pc + 3, L, S', AH', F', cs + mc, ss + ms) = some x := h1
      exact hih M _ _ h1' p e R s m args below meth c Q fc hev htab (fun E hE => hends E (h2 E hE)) H1 ls _ rest ⟨hl, hs', hH', hF', es_va_join hS h0 ht hf hL⟩
    · cases hv
      have h1' : ih M (pc + 3, L, w :: S', AH', F', cs + mc, ss + ms) = some x := h1
      exact hih M _ _ h1' p e R s m args below meth c Q fc hev htab (fun E hE => hends E (h2 E hE)) H1 ls _ (y :: rest) ⟨hl, ⟨y, rest, rfl, hy, hs'⟩, hH', hF', es_va_join hS h0 ht hf hL⟩
  · obtain ⟨lf, hlf, n, hn, rfl, hF', hH', hf⟩ := hxc
    obtain ⟨x, h1, h2⟩ := es_cat_ok hcat lf hlf
    rw [ht] at hH'
    obtain ⟨kd, w, AH', F'⟩ := lf
    dsimp only at hF' hH' hn
    subst hn
    unfold es_aft at h1
    dsimp only at h1
    split at h1
    · cases h1
      have h3 := hends _ (h2 _ (List.mem_singleton.mpr rfl))
      exact h3 H1 ls _ rest q ce ⟨hl, hs', hH', hF', es_va_join hS h0 ht hf hL⟩ hce hcv hcl
    · split at h1
      · rename_i hd2 hdl
        cases hx5 : Nat.blt n 5
        · rw [hx5] at h1; cases h1
        · rw [hx5] at h1
          have h1' : ih M (hd2, L, [(7, 0)], AH', F', cs + mc, ss + ms) = some x := h1
          refine es_catch fc.2.2.2.1 htab (es_blt.mp hx5) hev.2.2.2.2.2.2.2.2.1 (fun z hz => ?_) hdl hce hcv hcl ?_
          · obtain ⟨g1, g2, g3⟩ := G.2.2.2.2.2.2 M z hz
            exact ⟨g1, g2, fc.2.2.2.2.1 _ g3⟩
          · exact hih M _ _ h1' p e R s m args below meth c Q fc hev htab (fun E hE => hends E (h2 E hE)) H1 ls _ [.ref q] ⟨hl, ⟨_, _, rfl, ⟨q, rfl⟩, rfl⟩, hH', hF', es_va_join hS h0 ht hf hL⟩
      · cases h1
end Call
end
section
section Snd
variable {l : Launch} {strs : List (String × Nat × String)} {wx : List Cond} {WS : List Cond} {SL : Nat} {D : va_G} {cI cJ cZ cC cM : ClassId} {n0 : Nat} {b : Nat → Nat} {ρ : Nat → Int32} {ME : Nat → es_M}
variable {p : Program} {e : Env} {R : Room} {s : State} {m : MethodId} {args : Array Value} {below : List Frame} {meth : Method} {c : Code} {Q : State → Prop}
theorem es_ifc {cc : ByteArray} (hx : p.tables.exec = Jvm.exec) (hb : c.code = cc) {H : Heap} {locs : List Loc} {cells slots pc tgt : Nat} {ls : Array Slot} {rest : List Value} {x : Int32} {off : Int} (op : es_Op) (hd : decode cc pc = .ok (.ifCond op off, 3)) (ht : (pc : Int) + off = (tgt : Int))
    (kt : es_cmp op (es_zb x) (es_zb 0) = true → W p l e R s m args below meth c H locs cells slots Q (F0 m tgt ls rest)) (kf : es_cmp (es_ng op) (es_zb x) (es_zb 0) = true → W p l e R s m args below meth c H locs cells slots Q (F0 m (pc + 3) ls rest)) : W p l e R s m args below meth c H locs cells slots Q (F0 m pc ls (.int x :: rest)) := by
  have hn : ∀ P : Prop, (es_cmp op (es_zb x) (es_zb 0) = true ↔ P) → ¬ P → es_cmp (es_ng op) (es_zb x) (es_zb 0) = true := fun P h1 h2 => by
    rw [es_cmp_ng]
    cases hc : es_cmp op (es_zb x) (es_zb 0)
    · rfl
    · exact absurd (h1.mp hc) h2
  have hc := es_cmp_eq op x 0
  cases op
  · exact lv_if_eq hx hb hd ht (fun h => kt (hc.mpr h)) (fun h => kf (hn _ hc h))
  · exact lv_if_ne hx hb hd ht (fun h => kt (hc.mpr h)) (fun h => kf (hn _ hc (fun h9 => h9 h)))
  · exact lv_if_lt hx hb hd ht (fun h => kt (hc.mpr h)) (fun h => kf (hn _ hc h))
  · exact lv_if_ge hx hb hd ht (fun h => kt (hc.mpr h)) (fun h => kf (hn _ hc h))
  · exact lv_if_gt hx hb hd ht (fun h => kt (hc.mpr h)) (fun h => kf (hn _ hc h))
  · exact lv_if_le hx hb hd ht (fun h => kt (hc.mpr h)) (fun h => kf (hn _ hc h))
theorem es_icm {cc : ByteArray} (hx : p.tables.exec = Jvm.exec) (hb : c.code = cc) {H : Heap} {locs : List Loc} {cells slots pc tgt : Nat} {ls : Array Slot} {rest : List Value} {x y : Int32} {off : Int} (op : es_Op) (hd : decode cc pc = .ok (.if_icmp op off, 3)) (ht : (pc : Int) + off = (tgt : Int))
    (kt : es_cmp op (es_zb x) (es_zb y) = true → W p l e R s m args below meth c H locs cells slots Q (F0 m tgt ls rest)) (kf : es_cmp (es_ng op) (es_zb x) (es_zb y) = true → W p l e R s m args below meth c H locs cells slots Q (F0 m (pc + 3) ls rest)) : W p l e R s m args below meth c H locs cells slots Q (F0 m pc ls (.int y :: .int x :: rest)) := by
  have hn : ∀ P : Prop, (es_cmp op (es_zb x) (es_zb y) = true ↔ P) → ¬ P → es_cmp (es_ng op) (es_zb x) (es_zb y) = true := fun P h1 h2 => by
    rw [es_cmp_ng]
    cases hc : es_cmp op (es_zb x) (es_zb y)
    · rfl
    · exact absurd (h1.mp hc) h2
  have hc := es_cmp_eq op x y
  cases op
  · exact lv_icmp_eq hx hb hd ht (fun h => kt (hc.mpr h)) (fun h => kf (hn _ hc h))
  · exact lv_icmp_ne hx hb hd ht (fun h => kt (hc.mpr h)) (fun h => kf (hn _ hc (fun h9 => h9 h)))
  · exact lv_icmp_lt hx hb hd ht (fun h => kt (hc.mpr h)) (fun h => kf (hn _ hc h))
  · exact lv_icmp_ge hx hb hd ht (fun h => kt (hc.mpr h)) (fun h => kf (hn _ hc h))
  · exact lv_icmp_gt hx hb hd ht (fun h => kt (hc.mpr h)) (fun h => kf (hn _ hc h))
  · exact lv_icmp_le hx hb hd ht (fun h => kt (hc.mpr h)) (fun h => kf (hn _ hc h))
theorem es_veq_ok {v w : es_V} (h : es_veq v w = true) : v = w := by
  unfold es_veq at h
  rw [Bool.and_eq_true, es_beq, es_beq] at h
  exact Prod.ext h.1 h.2
theorem es_rows (G : es_GH strs wx WS ME) {M pc : Nat} {ent : es_I} (hat : es_at (es_tab (ME M)) pc = some ent) (hne : ∀ d1 d2 d3 d4, ent.2.1 ≠ .tableswitch d1 d2 d3 d4) : decode (es_code (ME M)) pc = .ok (ent.2.1, es_len ent.2.1) := by
  obtain ⟨e1, qq, hq1, hq2⟩ := es_at_ok hat
  obtain ⟨hdk, -⟩ := (G.2.2.2.1 M).2.2 qq hq1 ent hq2
  unfold es_dok at hdk
  rw [Bool.and_eq_true] at hdk
  have hd := of_decide_eq_true hdk.1
  rw [e1] at hd
  have h2 := hdk.2
  split at h2
  · rename_i hts2; exact absurd hts2 (hne _ _ _ _)
  · rw [hd, es_beq.mp h2]
end Snd
end
section
section Snd
variable {l : Launch} {strs : List (String × Nat × String)} {wx : List Cond} {WS : List Cond} {SL : Nat} {D : va_G} {cI cJ cZ cC cM : ClassId} {n0 : Nat} {b : Nat → Nat} {ρ : Nat → Int32} {ME : Nat → es_M}
variable {p : Program} {e : Env} {R : Room} {s : State} {m : MethodId} {args : Array Value} {below : List Frame} {meth : Method} {c : Code} {Q : State → Prop}
theorem es_take {S : List es_V} {n : Nat} {st : List Value} (hs : es_sr n0 b ρ S st) : ∃ xs ys, st = xs ++ ys ∧ es_sr n0 b ρ (S.take n) xs ∧ es_sr n0 b ρ (S.drop n) ys := by
  rw [← List.take_append_drop n S] at hs
  exact es_sr_app _ _ _ hs
/-- a call's contract -/
theorem es_inv1_ok (G : es_GH strs wx WS ME) {ih : Nat → es_K → Option (List es_E)} (hih : ∀ (M : Nat) (K : es_K) (ends : List es_E), ih M K = some ends → es_RS l strs wx WS SL D cI cJ cZ cC cM n0 b ρ (ME M) K ends) {M M' : Nat} {vs rest : List es_V} {AH : List es_O} {F : es_F} {cs ss : Nat} {lfs : List es_Lf} (h : es_inv1 ME ih M M' vs rest AH F cs ss = some lfs) {xs : List Value} (hvs : es_sr n0 b ρ vs xs) (hF : es_fr ρ F) (hR : es_mc (ME M) ≤ R.cells ∧ es_ms (ME M) ≤ R.slots ∧ es_rf (ME M) ≤ R.frames ∧ es_lo (ME M) ≤ R.locals) :
    vx_Met l (es_y (ME M')) (es_cw (ME M') :: WS) (es_room (ME M')) (es_Pc l strs wx SL D cI cJ cZ cC cM n0 b ρ xs AH) (es_Qc D (es_TY cI cJ cZ cC cM) n0 b ρ lfs) (es_XC D (es_TY cI cJ cZ cC cM) n0 b ρ lfs) (es_mc (ME M')) (es_ms (ME M')) (es_A n0) ∧ es_cts rest ≤ 8 ∧ ((es_room (ME M')).frames + 1 ≤ R.frames ∧ 8 + (es_mL (ME M') + 11) + (es_room (ME M')).locals ≤ R.locals) ∧ (cs + es_mc (ME M') ≤ R.cells ∧ ss + es_ms (ME M') ≤ R.slots) ∧ es_cw (ME M') ∈ WS := by
  unfold es_inv1 at h
  cases hc : ((Nat.ble (es_cts vs) (es_mL (ME M')) && (Nat.ble (es_cts rest) 8 && es_cx M')) && ((Nat.blt (es_rf (ME M')) (es_rf (ME M)) && Nat.ble (19 + es_mL (ME M') + es_lo (ME M')) (es_lo (ME M))) && (Nat.ble (cs + es_mc (ME M')) (es_mc (ME M)) && Nat.ble (ss + es_ms (ME M')) (es_ms (ME M)))))
  · rw [hc] at h; cases h
  · rw [hc] at h
    try dsimp only [cond_true] at h
    simp only [Bool.and_eq_true, es_blt, Nat.ble_eq] at hc
    obtain ⟨⟨c1, c2, ccx⟩, ⟨c3, c4⟩, c5, c6⟩ := hc
    split at h
    · rename_i ends hrun
      split at h
      rotate_left
      · cases h
      rename_i lfs0 hcat
      cases h
      refine ⟨es_met G.1 (G.2.2.2.1 M') (hih M' _ _ hrun) hcat hvs c1 hF, c2, ⟨?_, ?_⟩, ⟨by omega, by omega⟩, G.2.2.2.2.1 M' ccx⟩
      · show es_rf (ME M') + 1 ≤ _; omega
      · show 8 + (es_mL (ME M') + 11) + es_lo (ME M') ≤ _; omega
    · cases h
theorem es_cpy_ad (t : Nat) (cs cd : List (Nat × es_V)) (sp dp k : Nat) : ∀ n, es_ad t (es_copy t cs cd sp dp n) k = if dp ≤ k ∧ k < dp + n then es_ad t cs (sp + (k - dp)) else es_ad t cd k
  | 0 => by
    rw [if_neg (by omega)]
    rfl
  | n + 1 => by
    show es_ad t (es_aset t (es_copy t cs cd sp dp n) (dp + n) (es_ad t cs (sp + n))) k = _
    rw [es_ad_set, es_cpy_ad t cs cd sp dp k n]
    by_cases h : k = dp + n
    · subst h
      rw [if_pos rfl, if_pos (by omega)]
      congr 1
      omega
    · rw [if_neg h]
      by_cases h2 : dp ≤ k ∧ k < dp + n
      · rw [if_pos h2, if_pos (by omega)]
      · rw [if_neg h2, if_neg (by omega)]
theorem es_ad_ti {c : List (Nat × es_V)} (h : c.all (fun x => es_ti x.2) = true) (j : Nat) : es_ti (es_ad 0 c j) = true := by
  induction c with
  | nil => rfl
  | cons q t ih =>
    rw [List.all_cons, Bool.and_eq_true] at h
    unfold es_ad es_get
    cases hb : Nat.beq q.1 j
    · exact ih h.2
    · exact h.1
theorem es_acp {cc : ByteArray} (hexec : p.tables.exec = Jvm.exec) (hb : c.code = cc) {ls : Array Slot} (hml : c.maxLocals = ls.size) {own : String} {index : Nat} (hown : s.vm.findClass own = some m.cls) (hlink : (Cond.methodLink own index arraycopyName).before args s = true) (hnat : (Cond.native arraycopyName).before args s = true) (hstat : (Cond.static arraycopyName).before args s = true) (hini : (Cond.initialized "java/lang/System").before args s = true)
    (hK : va_K D vwCl (es_TY cI cJ cZ cC cM) s) {H : Heap} {locs : List Loc} {cells slots pc : Nat} {rest : List Value} {a0 a : Nat} {N0 N1 : Nat} {V0 V1 : Nat → Value} (hc0 : H[a0]? = some (arrV cI N0 V0)) (hc1 : H[a]? = some (arrV cI N1 V1)) {sp dp n : Nat} (hN0 : N0 < 2147483648) (hN1 : N1 < 2147483648) (h4 : sp + n ≤ N0) (h5 : dp + n ≤ N1) (hi : ∀ j, ∃ z, j < N0 → V0 j = .int z)
    (hframes : 1 ≤ R.frames) (hlocals : (rest.map fun v => v.category).sum + (nativeFrameWords "java/lang/System" "arraycopy" 5 + 11) ≤ R.locals) (hdg : decode cc pc = .ok (.invokestatic index, 3))
    (kk : ∀ (H1 : Heap) (L : List Loc), H1[a]? = some (arrV cI N1 (va_cpy V0 V1 sp dp n)) → H1.size = H.size → (∀ q : Nat, q ≠ a → H1[q]? = H[q]?) → (∀ z ∈ L, z.base = a) → W p l e R s m args below meth c H1 (locs ++ L) cells slots Q (F0 m (pc + 3) ls rest)) : W p l e R s m args below meth c H locs cells slots Q (F0 m pc ls (.int (nI n) :: .int (nI dp) :: .ref a :: .int (nI sp) :: .ref a0 :: rest)) := by
  have nn : ∀ z : Nat, z < 2147483648 → (nI z).toInt = (z : Int) := fun z hz => by
    rw [es_nIt]
    simp only [Int.bmod]
    split <;> omega
  have ng : ∀ z : Nat, z < 2147483648 → ¬ nI z < 0 := fun z hz h => by
    have h2 := Int32.lt_iff_toInt_lt.mp h
    rw [nn z hz] at h2
    have h3 : (z : Int) < 0 := h2
    omega
  intro T hT X
  obtain ⟨-, k0, hk0, cm0, hkk0⟩ := (hK.2 0 _ rfl).1 N0 V0
  obtain ⟨-, k1, hk1, cm1, hkk1⟩ := (hK.2 0 _ rfl).1 N1 V1
  obtain ⟨vm', X', step⟩ := X.arraycopy hexec hown hlink hnat hstat hini (src := a0) (dst := a) (cs := arrV cI N0 V0) (cd := arrV cI N1 V1) (srcPos := nI sp) (destPos := nI dp) (n := nI n) (by rw [hT]; exact hc0) (by rw [hT]; exact hc1)
    (fun _ h => by cases h) (fun _ h => by cases h) (fun h => by cases h) (fun h => by cases h) hk0 hk1 hkk0 hkk1 (by simp [refKind]) (ng _ (by omega)) (ng _ (by omega)) (ng _ (by omega))
    (by rw [nn sp (by omega), nn n (by omega)]; show ¬ _ > ((arrV cI N0 V0).slots.size : Int); rw [arrV_size]; omega)
    (by rw [nn dp (by omega), nn n (by omega)]; show ¬ _ > ((arrV cI N1 V1).slots.size : Int); rw [arrV_size]; omega)
    (fun vm₁ _ i hi2 => by
      rw [nI_clamp (by omega)] at hi2
      rw [nI_clamp (by omega)]
      have e : (arrV cI N0 V0).slots.getD (sp + i) .null = V0 (sp + i) := by
        rw [Array.getD_eq_getD_getElem?, arrV_read _ _ (by omega)]
        rfl
      obtain ⟨z, hz⟩ := hi (sp + i)
      rw [e, hz (by omega)]
      exact ⟨rfl, trivial⟩)
    (g := F0 m pc ls (.int (nI n) :: .int (nI dp) :: .ref a :: .int (nI sp) :: .ref a0 :: rest)) rfl (by rw [hml]) (rest := rest) rfl (by rw [hb]; exact hdg) hframes (by show 2 * 0 + _ + _ ≤ _; omega)
  have e1 : copied (arrV cI N0 V0) (arrV cI N1 V1) (nI sp) (nI dp) (nI n) = arrV cI N1 (va_cpy V0 V1 sp dp n) := by
    unfold copied
    rw [nI_clamp (by omega), nI_clamp (by omega), nI_clamp (by omega)]
    exact va_copied (fun z => z) cI cI V0 V1 h4
  rw [e1] at X' step
  have hl : a < H.size := (Array.getElem?_eq_some_iff.mp hc1).1
  have hheap : ((T.setVm vm').setCell a (arrV cI N1 (va_cpy V0 V1 sp dp n))).heap = H.setIfInBounds a (arrV cI N1 (va_cpy V0 V1 sp dp n)) := by rw [← hT]; rfl
  obtain ⟨t, a1, b1⟩ := kk _ _ (show (H.setIfInBounds a (arrV cI N1 (va_cpy V0 V1 sp dp n)))[a]? = some _ by simp [Array.getElem?_setIfInBounds, hl]) (by simp) (fun q hq => by simp [Array.getElem?_setIfInBounds, Ne.symm hq]) (fun z hz => by
    obtain ⟨y, -, hy⟩ := List.mem_map.mp hz
    rw [← hy]) _ hheap X'
  exact ⟨t, step t a1, b1⟩
theorem es_str_ok (G : es_GH strs wx WS ME) {M : Nat} (fc : es_FC WS SL D cI cJ cZ cC cM n0 b ρ p R s m args meth c (ME M)) (hev : es_ev l strs wx SL D cI cJ cZ cC cM n0 b ρ s) {ent : es_I} (hsok : es_sok strs WS (ME M) ent = true) {f a : Nat} {tl : List Nat} (haux : ent.2.2.2 = 60 :: f :: a :: tl) {K K' : es_K} (hlen : (∀ d1 d2 d3 d4, ent.2.1 ≠ .tableswitch d1 d2 d3 d4) → decode (es_code (ME M)) K.1 = .ok (ent.2.1, es_len ent.2.1)) (h : es_str strs f a (es_len ent.2.1) K = some K')
    (k : es_G p l e R s m args below meth c Q D (es_TY cI cJ cZ cC cM) n0 b ρ (es_mL (ME M)) K') : es_G p l e R s m args below meth c Q D (es_TY cI cJ cZ cC cM) n0 b ρ (es_mL (ME M)) K := by
  intro H ls locs st hinv
  obtain ⟨pc, L, S, AH, F, cs, ss⟩ := K
  obtain ⟨hl, hs, hH, hF, hS⟩ := hinv
  obtain ⟨hx, hb, hml, hown, hts, hK, hR, hin, hscr, hao, -⟩ := id fc
  obtain ⟨-, -, -, -, -, -, hst, -, -, hZ, hZ2⟩ := hev
  obtain ⟨epc, ins, len, aux⟩ := ent
  dsimp only at hl hs hH hF haux hlen ⊢
  subst haux
  unfold es_sok at hsok
  unfold es_str at h
  dsimp only at h hsok
  split at hsok
  rotate_left
  · rename_i hne
    exact absurd rfl (hne _ _ _)
  rename_i f' a' tl' heq
  cases heq
  split at hsok
  -- ldc
  · rename_i idx
    replace h : some (pc + es_len (Instr.ldc idx), L, (8, a) :: S, AH, F, cs, ss) = some K' := h
    cases h
    have hd := hlen (fun _ _ _ _ h9 => by cases h9)
    cases hq : strs[a]? with
    | none => rw [hq] at hsok; cases hsok
    | some q =>
      rw [hq] at hsok
      dsimp only at hsok
      rw [Bool.and_eq_true] at hsok
      have g1 := of_decide_eq_true hsok.1
      have g2 := of_decide_eq_true hsok.2
      have hz := (hst a q hq).1
      rw [g1, g2] at hz
      exact va_ldcS hx hb hown hz hd (k H ls locs _ ⟨hl, ⟨_, _, rfl, rfl, hs⟩, hH, hF, hS⟩)
  -- value
  · rename_i idx
    replace h : es_q1 strs pc L S AH F cs ss = some K' := h
    unfold es_q1 at h
    split at hsok
    · rename_i j
      have hd := hlen (fun _ _ _ _ h9 => by cases h9)
      split at h
      · rename_i v S'
        cases ho : (Nat.beq v.1 8 && Nat.blt v.2 strs.length)
        · rw [ho] at h; cases h
        · rw [ho] at h
          cases h
          rw [Bool.and_eq_true, es_blt] at ho
          obtain ⟨x, st', rfl, hv, hs'⟩ := hs
          obtain ⟨t9, si⟩ := v
          have e9 := es_beq.mp ho.1
          dsimp only at e9
          subst e9
          have e2 : x = .ref (b (2 * si + 1)) := hv
          subst e2
          exact vk_getf hx hb (hst si _ (List.getElem?_eq_getElem ho.2)).2.2.2.1 hS hown (hts _ (es_wj_in hsok)) (fun x h => h) hd (k H ls locs _ ⟨hl, ⟨_, _, rfl, rfl, hs'⟩, hH, hF, hS⟩)
      · cases h
    · cases hsok
  -- coder
  · rename_i idx
    replace h : es_q2 strs pc L S AH F cs ss = some K' := h
    unfold es_q2 at h
    split at hsok
    · rename_i j
      have hd := hlen (fun _ _ _ _ h9 => by cases h9)
      split at h
      · rename_i v S'
        cases ho : (Nat.beq v.1 8 && Nat.blt v.2 strs.length)
        · rw [ho] at h; cases h
        · rw [ho] at h
          cases h
          rw [Bool.and_eq_true, es_blt] at ho
          obtain ⟨x, st', rfl, hv, hs'⟩ := hs
          obtain ⟨t9, si⟩ := v
          have e9 := es_beq.mp ho.1
          dsimp only at e9
          subst e9
          have e2 : x = .ref (b (2 * si + 1)) := hv
          subst e2
          exact vk_getf hx hb (hst si _ (List.getElem?_eq_getElem ho.2)).2.2.1 hS hown (hts _ (es_wj_in hsok)) (fun x h => h) hd (k H ls locs _ ⟨hl, ⟨_, _, rfl, by show Value.int 0 = Value.int (nI 0); rw [nI_0], hs'⟩, hH, hF, hS⟩)
      · cases h
    · cases hsok
  -- length
  · replace h : es_q3 strs pc L S AH F cs ss = some K' := h
    unfold es_q3 at h
    have hd := hlen (fun _ _ _ _ h9 => by cases h9)
    split at h
    · rename_i v S'
      split at h
      · rename_i q hq
        cases ho : Nat.beq v.1 9
        · rw [ho] at h; cases h
        · rw [ho] at h
          cases h
          obtain ⟨x, st', rfl, hv, hs'⟩ := hs
          obtain ⟨t9, si⟩ := v
          have e9 := es_beq.mp ho
          dsimp only at e9 hq
          subst e9
          have e2 : x = .ref (b (2 * si + 2)) := hv
          subst e2
          exact va_tlen hx hb (hst si q hq).2.2.2.2.1 hS rfl hd (k H ls locs _ ⟨hl, ⟨_, _, rfl, rfl, hs'⟩, hH, hF, hS⟩)
      · cases h
    · cases h
  -- byte
  · replace h : es_q4 strs pc L S AH F cs ss = some K' := h
    unfold es_q4 at h
    have hd := hlen (fun _ _ _ _ h9 => by cases h9)
    split at h
    · rename_i j v S'
      split at h
      · rename_i q jn hq hj
        cases ho : (Nat.beq v.1 9 && Nat.blt jn (es_bs q.2.2).length)
        · rw [ho] at h; cases h
        · rw [ho] at h
          cases h
          rw [Bool.and_eq_true, es_blt] at ho
          obtain ⟨xj, st1, rfl, hvj, x, st', rfl, hv, hs'⟩ := hs
          obtain ⟨t9, si⟩ := v
          have e9 := es_beq.mp ho.1
          dsimp only at e9 hq
          subst e9
          have e2 : x = .ref (b (2 * si + 2)) := hv
          subst e2
          have e3 := es_kn_ok hF hvj hj
          subst e3
          have hT := (hst si q hq).2.2.2.2
          refine va_tb hx hb hT.1 hS (vp_in_nI ho.2 hT.2) rfl hd (k H ls locs _ ⟨hl, ⟨_, _, rfl, ?_, hs'⟩, hH, hF, hS⟩)
          show Value.int _ = Value.int _
          rw [nI_clamp (by have := hT.2; omega)]
      · cases h
    · cases h
  -- static
  · rename_i idx
    replace h : some (pc + 3, L, (0, 1) :: S, AH, F, cs, ss) = some K' := h
    split at hsok
    · rename_i j
      cases h
      have hd := hlen (fun _ _ _ _ h9 => by cases h9)
      exact va_gets hx hb hZ hS hown (hts _ (es_wj_in hsok)) (fun x h => h) hd (k H ls locs _ ⟨hl, ⟨_, _, rfl, rfl, hs⟩, hH, hF, hS⟩)
    · cases hsok
  -- static reference
  · rename_i idx
    replace h : some (pc + 3, L, (10, 0) :: S, AH, F, cs, ss) = some K' := h
    split at hsok
    · rename_i j
      cases h
      have hd := hlen (fun _ _ _ _ h9 => by cases h9)
      rcases hZ2 with hZ3 | ⟨t9, hZ3⟩
      · exact va_gets hx hb hZ3 hS hown (hts _ (es_wj_in hsok)) (fun x h => h) hd (k H ls locs _ ⟨hl, ⟨_, _, rfl, Or.inl rfl, hs⟩, hH, hF, hS⟩)
      · exact va_gets hx hb hZ3 hS hown (hts _ (es_wj_in hsok)) (fun x h => h) hd (k H ls locs _ ⟨hl, ⟨_, _, rfl, Or.inr ⟨_, rfl⟩, hs⟩, hH, hF, hS⟩)
    · cases hsok
  · cases hsok
theorem es_emp {hh : List (Nat × Nat × Nat × Nat)} (h : hh.isEmpty = true) : hh = [] := by cases hh <;> simp_all
set_option maxHeartbeats 8000000 in
theorem es_step_ok (G : es_GH strs wx WS ME) {ih : Nat → es_K → Option (List es_E)} (hihA : ∀ (ρ : Nat → Int32) (M : Nat) (K : es_K) (ends : List es_E), ih M K = some ends → es_RS l strs wx WS SL D cI cJ cZ cC cM n0 b ρ (ME M) K ends) (M : Nat) (K : es_K) (ends : List es_E) (h : es_step ME strs SL ih M K = some ends) : es_RS l strs wx WS SL D cI cJ cZ cC cM n0 b ρ (ME M) K ends := by
  have hih := hihA ρ
  intro p e R s m args below meth c Q fc hev htab hends
  have hK0 : ∀ E : es_E, E = (0, K) → E ∈ ends → es_G p l e R s m args below meth c Q D (es_TY cI cJ cZ cC cM) n0 b ρ (es_mL (ME M)) K := fun E h1 h2 => by
    have h3 := hends E h2
    rw [h1] at h3
    exact h3
  have hgo : ∀ (K' : es_K) (ends' : List es_E), ih M K' = some ends' → (∀ E ∈ ends', E ∈ ends) → es_G p l e R s m args below meth c Q D (es_TY cI cJ cZ cC cM) n0 b ρ (es_mL (ME M)) K' := fun K' ends' h1 h2 => hih M K' ends' h1 p e R s m args below meth c Q fc hev htab (fun E hE => hends E (h2 E hE))
  obtain ⟨pc, L, S, AH, F, cs, ss⟩ := K
  obtain ⟨hx, hb, hml, hown, hts, hK, hR, hinit, hscr, hao, hlocks, hr⟩ := id fc
  unfold es_step at h
  try dsimp only at h
  split at h
  · cases h
  · rename_i ent hat
    obtain ⟨e1, qq, hq1, hq2⟩ := es_at_ok hat
    obtain ⟨hdk, htok⟩ := (G.2.2.2.1 M).2.2 qq hq1 ent hq2
    obtain ⟨⟨hhok, hcok⟩, hsok⟩ := G.2.2.2.2.2.1 M qq hq1 ent hq2
    unfold es_dok at hdk
    rw [Bool.and_eq_true] at hdk
    have hd := of_decide_eq_true hdk.1
    rw [e1] at hd
    have hlen : (∀ d1 d2 d3 d4, ent.2.1 ≠ .tableswitch d1 d2 d3 d4) → decode (es_code (ME M)) pc = .ok (ent.2.1, es_len ent.2.1) := fun hne => by
      have h2 := hdk.2
      split at h2
      · rename_i hts2; exact absurd hts2 (hne _ _ _ _)
      · rw [hd, es_beq.mp h2]
    split at h
    · cases h; exact hK0 _ rfl (List.mem_singleton.mpr rfl)
    · cases h; exact hK0 _ rfl (List.mem_singleton.mpr rfl)
    · rename_i f a tl haux
      split at h
      · rename_i K' hstr
        exact es_str_ok G fc hev hsok haux hlen hstr (hgo _ _ h (fun _ h => h))
      · cases h
    · split at h
      -- without heap
      · rename_i pc' L' S' hpu
        intro H ls locs st hinv
        obtain ⟨hl, hs, hH, hF, hS⟩ := hinv
        refine es_pure_ok hx hb hF hl hs (hlen (fun d1 d2 d3 d4 h9 => by rw [h9] at hpu; cases hpu)) hpu (fun ls' st' g1 g2 => ?_)
        exact hgo _ _ h (fun _ h => h) H ls' locs st' ⟨g1, g2, hH, hF, hS⟩
      · split at h
        -- with heap
        · rename_i K' hhs
          refine es_hs_ok G.2.1 fc (hlen (fun d1 d2 d3 d4 h9 => ?_)) hhok hhs (hgo _ _ h (fun _ h => h))
          unfold es_hs at hhs
          dsimp only at hhs
          rw [h9] at hhs
          cases hhs
        · split at h
          · cases h; exact hK0 _ rfl (List.mem_singleton.mpr rfl)
          · cases h; exact hK0 _ rfl (List.mem_singleton.mpr rfl)
          · cases h; exact hK0 _ rfl (List.mem_singleton.mpr rfl)
          · cases h; exact hK0 _ rfl (List.mem_singleton.mpr rfl)
          -- ifCond
          · rename_i op off hins
            cases hto : es_to pc off with
            | none => rw [hto] at h; cases S <;> cases h
            | some t =>
             rw [hto] at h
             cases S with
             | nil => cases h
             | cons v S' =>
              try dsimp only at h
              cases hti : es_ti v
              · rw [hti] at h; cases h
              · rw [hti] at h
                try dsimp only [cond_true] at h
                split at h
                · rename_i x hx1
                  split at h
                  · rename_i y hy1
                    cases h
                    intro H ls locs st hinv
                    obtain ⟨hl, hs, hH, hF, hS⟩ := hinv
                    obtain ⟨xv, st', rfl, hv, hs'⟩ := hs
                    obtain ⟨z, rfl⟩ := es_ti_int hv hti
                    have h0 : es_vr n0 b ρ (0, 0) (.int 0) := by show Value.int 0 = Value.int (nI 0); rw [nI_0]
                    have hd2 := hlen (fun d1 d2 d3 d4 h9 => by rw [h9] at hins; cases hins)
                    rw [hins] at hd2
                    refine es_ifc hx hb op hd2 (es_to_ok hto) (fun hc => ?_) (fun hc => ?_)
                    · obtain ⟨f, hf1, hf2⟩ := es_br_ok hF op hv h0 hc
                      obtain ⟨w, g1, g2⟩ := es_cat_ok hx1 f hf1
                      exact hgo _ _ g1 (fun E hE => List.mem_append_left _ (g2 E hE)) H ls locs st' ⟨hl, hs', hH, hf2, hS⟩
                    · obtain ⟨f, hf1, hf2⟩ := es_br_ok hF (es_ng op) hv h0 hc
                      obtain ⟨w, g1, g2⟩ := es_cat_ok hy1 f hf1
                      exact hgo _ _ g1 (fun E hE => List.mem_append_right _ (g2 E hE)) H ls locs st' ⟨hl, hs', hH, hf2, hS⟩
                  · cases h
                · cases h
          -- if_icmp
          · rename_i op off hins
            cases hto : es_to pc off with
            | none => rw [hto] at h; rcases S with _ | ⟨w, _ | ⟨v, S'⟩⟩ <;> cases h
            | some t =>
             rw [hto] at h
             rcases S with _ | ⟨w, _ | ⟨v, S'⟩⟩
             · cases h
             · cases h
             ·
              try dsimp only at h
              cases hti : (es_ti v && es_ti w)
              · rw [hti] at h; cases h
              · rw [hti] at h
                try dsimp only [cond_true] at h
                rw [Bool.and_eq_true] at hti
                split at h
                · rename_i x hx1
                  split at h
                  · rename_i y hy1
                    cases h
                    intro H ls locs st hinv
                    obtain ⟨hl, hs, hH, hF, hS⟩ := hinv
                    obtain ⟨yv, st1, rfl, hvw, xv, st', rfl, hv, hs'⟩ := hs
                    obtain ⟨z, rfl⟩ := es_ti_int hv hti.1
                    obtain ⟨z2, rfl⟩ := es_ti_int hvw hti.2
                    have hd2 := hlen (fun d1 d2 d3 d4 h9 => by rw [h9] at hins; cases hins)
                    rw [hins] at hd2
                    refine es_icm hx hb op hd2 (es_to_ok hto) (fun hc => ?_) (fun hc => ?_)
                    · obtain ⟨f, hf1, hf2⟩ := es_br_ok hF op hv hvw hc
                      obtain ⟨w, g1, g2⟩ := es_cat_ok hx1 f hf1
                      exact hgo _ _ g1 (fun E hE => List.mem_append_left _ (g2 E hE)) H ls locs st' ⟨hl, hs', hH, hf2, hS⟩
                    · obtain ⟨f, hf1, hf2⟩ := es_br_ok hF (es_ng op) hv hvw hc
                      obtain ⟨w, g1, g2⟩ := es_cat_ok hy1 f hf1
                      exact hgo _ _ g1 (fun E hE => List.mem_append_right _ (g2 E hE)) H ls locs st' ⟨hl, hs', hH, hf2, hS⟩
                  · cases h
                · cases h
          -- tableswitch
          · rename_i dflt lo hi offs hins
            rcases S with _ | ⟨v, S'⟩
            · cases h
            · dsimp only at h
              rw [hins] at hd
              cases hk : es_kn F v with
              | some n =>
                rw [hk] at h
                try dsimp only at h
                split at h
                · rename_i t hto
                  cases hc : ((decide ((nI n).toInt < lo) || decide (hi < (nI n).toInt)) || decide (((nI n).toInt - lo).toNat < offs.size))
                  · rw [hc] at h; cases h
                  · rw [hc] at h
                    try dsimp only [cond_true] at h
                    intro H ls locs st hinv
                    obtain ⟨hl, hs, hH, hF, hS⟩ := hinv
                    obtain ⟨xv, st', rfl, hv, hs'⟩ := hs
                    have e5 := es_kn_ok hF hv hk
                    subst e5
                    by_cases hout : (nI n).toInt < lo ∨ hi < (nI n).toInt
                    · have hb1 : (decide ((nI n).toInt < lo) || decide (hi < (nI n).toInt)) = true := by
                        rw [Bool.or_eq_true, decide_eq_true_eq, decide_eq_true_eq]; exact hout
                      rw [hb1] at hto
                      exact lv_tableOut hx hb hd hout (es_to_ok hto) (hgo _ _ h (fun _ h => h) H ls locs st' ⟨hl, hs', hH, hF, hS⟩)
                    · have hb1 : (decide ((nI n).toInt < lo) || decide (hi < (nI n).toInt)) = false := by
                        rw [Bool.or_eq_false_iff, decide_eq_false_iff_not, decide_eq_false_iff_not]
                        exact ⟨fun h9 => hout (Or.inl h9), fun h9 => hout (Or.inr h9)⟩
                      rw [hb1] at hto hc
                      rw [Bool.false_or, decide_eq_true_eq] at hc
                      dsimp only [cond_false] at hto
                      rw [Array.getElem?_eq_getElem hc] at hto
                      dsimp only [Option.getD_some] at hto
                      exact lv_tableIn hx hb hd (fun h9 => hout (Or.inl h9)) (fun h9 => hout (Or.inr h9)) (Array.getElem?_eq_getElem hc) (es_to_ok hto) (hgo _ _ h (fun _ h => h) H ls locs st' ⟨hl, hs', hH, hF, hS⟩)
                · cases h
              | none =>
                rw [hk] at h
                try dsimp only at h
                obtain ⟨vt, vp⟩ := v
                try dsimp only at h
                by_cases hv1 : vt = 1
                · subst hv1
                  cases hq : F[vp]? with
                  | none => rw [hq] at h; cases h
                  | some q =>
                    rw [hq] at h
                    replace h : es_tn ih M pc L S' AH F cs ss dflt lo hi q = some ends := h
                    unfold es_tn at h
                    split at h
                    · rename_i t hto
                      cases hc : (decide ((q.2 : Int) - 2147483648 < lo) || decide (hi < (q.1 : Int) - 2147483648))
                      · rw [hc] at h; cases h
                      · rw [hc] at h
                        try dsimp only [cond_true] at h
                        rw [Bool.or_eq_true, decide_eq_true_eq, decide_eq_true_eq] at hc
                        intro H ls locs st hinv
                        obtain ⟨hl, hs, hH, hF, hS⟩ := hinv
                        obtain ⟨xv, st', rfl, hv, hs'⟩ := hs
                        have e5 : xv = .int (ρ vp) := hv
                        subst e5
                        have hqq := hF vp q hq
                        have hrg := es_rng (ρ vp)
                        unfold es_zb at hqq
                        have hout : (ρ vp).toInt < lo ∨ hi < (ρ vp).toInt := by
                          rcases hc with h9 | h9
                          · left; omega
                          · right; omega
                        exact lv_tableOut hx hb hd hout (es_to_ok hto) (hgo _ _ h (fun _ h => h) H ls locs st' ⟨hl, hs', hH, hF, hS⟩)
                    · cases h
                · split at h
                  · exact absurd rfl hv1
                  · cases h
          -- invokevirtual
          · rename_i idx hins
            have hd2 := hlen (fun d1 d2 d3 d4 h9 => by rw [h9] at hins; cases hins)
            rw [hins] at hd2
            unfold es_cok at hcok
            rw [hins] at hcok
            dsimp only at hcok
            split at hcok
            · rename_i M' n ci j1 j2 j3 j4 haux
              rw [haux] at h
              replace h : es_sv ME ih M (es_cal M M') n ci pc L S AH F cs ss = some ends := h
              generalize es_cal M M' = M' at h hcok
              unfold es_sv at h
              cases hdr : S.drop n with
              | nil => rw [hdr] at h; cases h
              | cons o S' =>
                rw [hdr] at h
                try dsimp only at h
                cases ho : es_obj AH ci o with
                | none => rw [ho] at h; cases h
                | some co =>
                  rw [ho] at h
                  try dsimp only at h
                  cases hi1 : es_inv1 ME ih M M' (o :: (S.take n).reverse) S' AH F cs ss with
                  | none => rw [hi1] at h; cases h
                  | some lfs =>
                    rw [hi1] at h
                    try dsimp only at h
                    intro H ls locs st hinv
                    obtain ⟨hl, hs, hH, hF, hS⟩ := hinv
                    dsimp only at hl hs hH hF ⊢
                    obtain ⟨xs, ys, rfl, hxs, hys⟩ := es_take (n := n) hs
                    rw [hdr] at hys
                    obtain ⟨ro, rest, rfl, hvo, hs'⟩ := hys
                    obtain ⟨rfl, hA⟩ := es_obj_ok ho hvo
                    have hn : xs.length = n := by
                      rw [es_sr_len _ _ hxs, List.length_take]
                      have h7 : (S.drop n).length = S.length - n := List.length_drop
                      rw [hdr, List.length_cons] at h7
                      omega
                    obtain ⟨hmet, h8, hRR, hcap, hcwm⟩ := es_inv1_ok (R := R) G hih hi1 (xs := .ref (n0 + o.2) :: xs.reverse) ⟨_, _, rfl, hvo, es_sr_rev _ _ hxs⟩ hF hR
                    split at hcok
                    · rename_i r hr0
                      simp only [Bool.and_eq_true] at hcok
                      obtain ⟨k1, ⟨k2, k3⟩, ⟨k4, k5⟩, k6, k7⟩ := hcok
                      have k1 := of_decide_eq_true k1
                      have k7 := es_emp k7
                      have hcw : es_cw (ME M') = .code (es_y (ME M')) (es_code (ME M')) (es_mL (ME M')) (es_rt (ME M')) := by unfold es_cw; rw [k7]
                      obtain ⟨r', V', q1, ⟨cellV, g1, g2, g3, -⟩, -⟩ := hH.2 _ _ hA
                      dsimp only at q1 g2
                      rw [hr0] at q1
                      cases q1
                      have hfc := (hK.1 ci r hr0).2.1
                      rw [k1] at hfc
                      refine es_aft_ok G hih fc hev htab hends h hl hs' hS ?_
                      exact vx_runV (As := xs.reverse) (C := (es_y (ME M')).cls) ⟨hx, hb, hml, hown, hts⟩ hmet ⟨callB_of n hts (es_good G hcwm) (by rw [hcw]) rfl rfl (hts _ (es_wj_in k5)) (hts _ (es_wj_in k2)) (es_ymok_ok k6) hRR, hts _ (es_wj_in k3), hts _ (es_wj_in k4)⟩ ⟨es_blind G.2.2.1, ⟨cellV, g1, by rw [g3]; rfl, by rw [g2]; exact hfc⟩, es_pcU G.2.2.1 hev hS hH⟩ rfl (by rw [List.length_reverse]; exact hn) hl.1 (by rw [List.reverse_reverse]) (lv_room (by rw [(es_cts_ok _ _ hs').2]; exact h8)) hd2 hcap
                    · simp only [Bool.false_and] at hcok; cases hcok
            · rename_i M' n j1 j2 j3 j4 haux
              rw [haux] at h
              replace h : es_sq ME strs ih M (es_cal M M') n pc L S AH F cs ss = some ends := h
              generalize es_cal M M' = M' at h hcok
              unfold es_sq at h
              cases hdr : S.drop n with
              | nil => rw [hdr] at h; cases h
              | cons o S' =>
                rw [hdr] at h
                try dsimp only at h
                cases ho : (Nat.beq o.1 8 && Nat.blt o.2 strs.length)
                · rw [ho] at h; cases h
                · rw [ho] at h
                  try dsimp only [cond_true] at h
                  rw [Bool.and_eq_true, es_blt] at ho
                  cases hi1 : es_inv1 ME ih M M' (o :: (S.take n).reverse) S' AH F cs ss with
                  | none => rw [hi1] at h; cases h
                  | some lfs =>
                    rw [hi1] at h
                    try dsimp only at h
                    intro H ls locs st hinv
                    obtain ⟨hl, hs, hH, hF, hS⟩ := hinv
                    dsimp only at hl hs hH hF ⊢
                    obtain ⟨xs, ys, rfl, hxs, hys⟩ := es_take (n := n) hs
                    rw [hdr] at hys
                    obtain ⟨ro, rest, rfl, hvo, hs'⟩ := hys
                    have hro : ro = .ref (b (2 * o.2 + 1)) := by
                      obtain ⟨t9, n9⟩ := o
                      have e9 := es_beq.mp ho.1
                      dsimp only at e9
                      subst e9
                      exact hvo
                    subst hro
                    have hn : xs.length = n := by
                      rw [es_sr_len _ _ hxs, List.length_take]
                      have h7 : (S.drop n).length = S.length - n := List.length_drop
                      rw [hdr, List.length_cons] at h7
                      omega
                    obtain ⟨hmet, h8, hRR, hcap, hcwm⟩ := es_inv1_ok (R := R) G hih hi1 (xs := .ref (b (2 * o.2 + 1)) :: xs.reverse) ⟨_, _, rfl, hvo, es_sr_rev _ _ hxs⟩ hF hR
                    simp only [Bool.and_eq_true] at hcok
                    obtain ⟨k1, ⟨k2, k3⟩, ⟨k4, k5⟩, k6, k7⟩ := hcok
                    have k1 := of_decide_eq_true k1
                    have k7 := es_emp k7
                    have hcw : es_cw (ME M') = .code (es_y (ME M')) (es_code (ME M')) (es_mL (ME M')) (es_rt (ME M')) := by unfold es_cw; rw [k7]
                    obtain ⟨cellV, g1, g3, g2, -⟩ := (hev.2.2.2.2.2.2.1 o.2 _ (List.getElem?_eq_getElem ho.2)).2.1.kept hS.2.1
                    refine es_aft_ok G hih fc hev htab hends h hl hs' hS ?_
                    exact vx_runV (As := xs.reverse) (C := (es_y (ME M')).cls) ⟨hx, hb, hml, hown, hts⟩ hmet ⟨callB_of n hts (es_good G hcwm) (by rw [hcw]) rfl rfl (hts _ (es_wj_in k5)) (hts _ (es_wj_in k2)) (es_ymok_ok k6) hRR, hts _ (es_wj_in k3), hts _ (es_wj_in k4)⟩ ⟨es_blind G.2.2.1, ⟨cellV, g1, g3, by rw [k1]; exact g2⟩, es_pcU G.2.2.1 hev hS hH⟩ rfl (by rw [List.length_reverse]; exact hn) hl.1 (by rw [List.reverse_reverse]) (lv_room (by rw [(es_cts_ok _ _ hs').2]; exact h8)) hd2 hcap
            · cases hcok
          -- invokestatic
          · rename_i idx hins
            have hd2 := hlen (fun d1 d2 d3 d4 h9 => by rw [h9] at hins; cases hins)
            rw [hins] at hd2
            unfold es_cok at hcok
            rw [hins] at hcok
            dsimp only at hcok
            split at hcok
            · rename_i M' n j1 j2 j3 haux
              rw [haux] at h
              replace h : es_ss ME ih M (es_cal M M') n pc L S AH F cs ss = some ends := h
              generalize es_cal M M' = M' at h hcok
              unfold es_ss at h
              cases hnl : Nat.ble n S.length
              · rw [hnl] at h; cases h
              · rw [hnl] at h
                try dsimp only [cond_true] at h
                cases hi1 : es_inv1 ME ih M M' (S.take n).reverse (S.drop n) AH F cs ss with
                | none => rw [hi1] at h; cases h
                | some lfs =>
                  rw [hi1] at h
                  try dsimp only at h
                  intro H ls locs st hinv
                  obtain ⟨hl, hs, hH, hF, hS⟩ := hinv
                  dsimp only at hl hs hH hF ⊢
                  obtain ⟨xs, rest, rfl, hxs, hs'⟩ := es_take (n := n) hs
                  have hn : xs.length = n := by
                    rw [es_sr_len _ _ hxs, List.length_take]
                    have := Nat.ble_eq.mp hnl
                    omega
                  obtain ⟨hmet, h8, hRR, hcap, hcwm⟩ := es_inv1_ok (R := R) G hih hi1 (xs := xs.reverse) (es_sr_rev _ _ hxs) hF hR
                  simp only [Bool.and_eq_true] at hcok
                  obtain ⟨⟨k2, k3⟩, k5, k6⟩ := hcok
                  refine es_aft_ok G hih fc hev htab hends h hl hs' hS ?_
                  cases hh : es_hh (ME M') with
                  | nil =>
                    have hcw : es_cw (ME M') = .code (es_y (ME M')) (es_code (ME M')) (es_mL (ME M')) (es_rt (ME M')) := by unfold es_cw; rw [hh]
                    exact vx_runS (As := xs.reverse) ⟨hx, hb, hml, hown, hts⟩ hmet ⟨callB_of n hts (es_good G hcwm) (by rw [hcw]) rfl rfl (hts _ (es_wj_in k5)) (hts _ (es_wj_in k2)) (es_ymok_ok k6) hRR, hts _ (es_wj_in k3)⟩ ⟨es_blind G.2.2.1, es_pcU G.2.2.1 hev hS hH⟩ rfl (by rw [List.length_reverse]; exact hn) hl.1 (by rw [List.reverse_reverse]) (lv_room (by rw [(es_cts_ok _ _ hs').2]; exact h8)) hd2 hcap
                  | cons hq0 ht0 =>
                    have hcw : es_cw (ME M') = .codeWith (es_y (ME M')) (es_code (ME M')) (es_mL (ME M')) (es_rt (ME M')) (es_hh (ME M')) := by unfold es_cw; rw [hh]
                    have hgd : GoodIn WS (va_wsS (es_own (ME M)) idx (es_y (ME M')) (es_cw (ME M') :: WS)) := fun w hw => by
                      unfold va_wsS at hw
                      rcases List.mem_append.mp hw with h9 | h9
                      · simp only [List.mem_cons, List.not_mem_nil, or_false] at h9
                        rcases h9 with rfl | rfl | rfl
                        · exact ⟨es_wj_in k2, good_of_word (G.1 _ (es_wj_in k2))⟩
                        · exact ⟨es_wj_in k3, good_of_word (G.1 _ (es_wj_in k3))⟩
                        · exact ⟨es_wj_in k5, good_of_word (G.1 _ (es_wj_in k5))⟩
                      · exact es_good G hcwm w h9
                    exact vx_runSX (As := xs.reverse) (hh := es_hh (ME M')) ⟨hx, hb, hml, hown, hts⟩ hmet (vx_cwSW n hts hgd (by rw [hcw]) rfl rfl (es_ymok_ok k6) hRR) ⟨es_blind G.2.2.1, es_pcU G.2.2.1 hev hS hH⟩ rfl (by rw [List.length_reverse]; exact hn) hl.1 (by rw [List.reverse_reverse]) (lv_room (by rw [(es_cts_ok _ _ hs').2]; exact h8)) hd2 hcap
            -- arraycopy
            · rename_i j1 j2 j3 j4 haux
              rw [haux] at h
              replace h : es_sc ME ih M pc L S AH F cs ss = some ends := h
              unfold es_sc at h
              rcases S with _ | ⟨vn, _ | ⟨vd, _ | ⟨d, _ | ⟨vs, _ | ⟨s0, S'⟩⟩⟩⟩⟩
              · cases h
              · cases h
              · cases h
              · cases h
              · cases h
              · dsimp only at h
                split at h
                · rename_i ts ns c1 td nd c2 ha0 ha1
                  split at h
                  · rename_i sp dp n hk0 hk1 hk2
                    cases hc : (((Nat.beq ts 0 && Nat.beq td 0) && ((Nat.ble (sp + n) ns && Nat.ble (dp + n) nd) && (Nat.blt 0 (es_rf (ME M)) && Nat.ble 200 (es_lo (ME M))))) && (c1.all (fun x => es_ti x.2) && Nat.ble (es_cts S') 8))
                    · rw [hc] at h; cases h
                    · rw [hc] at h
                      try dsimp only [cond_true] at h
                      simp only [Bool.and_eq_true, es_blt, Nat.ble_eq, es_beq] at hc hcok
                      obtain ⟨⟨⟨rfl, rfl⟩, ⟨c3, c4⟩, c5, c6⟩, c8, c9⟩ := hc
                      intro H ls locs st hinv
                      obtain ⟨hl, hs, hH, hF, hS⟩ := hinv
                      dsimp only at hl hs hH hF ⊢
                      obtain ⟨xn, st1, rfl, hvn, xd, st2, rfl, hvd, xa, st3, rfl, hva, xs, st4, rfl, hvs, x0, st', rfl, hv0, hs'⟩ := hs
                      have e1 := es_kn_ok hF hvn hk2
                      have e2 := es_kn_ok hF hvd hk1
                      have e3 := es_kn_ok hF hvs hk0
                      subst e1 e2 e3
                      obtain ⟨rfl, hA0, hn0⟩ := es_ary_ok ha0 hv0
                      obtain ⟨rfl, hA1, hn1⟩ := es_ary_ok ha1 hva
                      obtain ⟨q0, V0, t1, t2, t3⟩ := hH.2 _ _ hA0
                      obtain ⟨q1, V1, u1, u2, u3⟩ := hH.2 _ _ hA1
                      cases t1
                      cases u1
                      dsimp only at t2 u2 t3 u3
                      have hsum := (es_cts_ok _ _ hs').2
                      have e9 : nativeFrameWords "java/lang/System" "arraycopy" 5 ≤ 100 := by decide +kernel
                      refine es_acp hx hb (by rw [hl.1, hml]) hown (hts _ (es_wj_in hcok.1.1)) (hts _ (es_wj_in hcok.1.2)) (hts _ (es_wj_in hcok.2.1)) (hts _ (es_wj_in hcok.2.2)) hK t2 u2 hn0 hn1 c3 c4 (fun j => ?_) (by omega) (by omega) hd2 (fun H1 L1 g1 g2 g3 g4 => ?_)
                      · by_cases hj : j < ns
                        · obtain ⟨z, hz⟩ := es_ti_int (t3 j hj) (es_ad_ti c8 j)
                          exact ⟨z, fun _ => hz⟩
                        · exact ⟨0, fun h9 => absurd h9 hj⟩
                      · refine hgo _ _ h (fun _ h => h) H1 ls _ st' ⟨hl, hs', es_hr_set hH g2 g3 ⟨_, _, rfl, g1, fun j hj => ?_⟩, hF, ?_⟩
                        · rw [es_cpy_ad]
                          unfold va_cpy
                          by_cases h9 : dp ≤ j ∧ j < dp + n
                          · rw [if_pos h9, if_pos h9]
                            exact t3 _ (by omega)
                          · rw [if_neg h9, if_neg h9]
                            exact u3 j hj
                        · refine ⟨by rw [g2]; exact hS.1, fun q k1 k2 => (g3 q (fun e9 => k2 (by rw [e9]; exact Nat.le_add_right _ _))).trans (hS.2.1 q k1 k2), fun z hz => ?_⟩
                          rcases List.mem_append.mp hz with h9 | h9
                          · exact hS.2.2 z h9
                          · rw [g4 z h9]; exact Nat.le_add_right _ _
                  · cases h
                · cases h
            -- min
            · rename_i j1 j2 j3 j4 haux
              rw [haux] at h
              replace h : es_smm ME (fun x y => if y < x then y else x) ih M pc L S AH F cs ss = some ends := h
              unfold es_smm at h
              rcases S with _ | ⟨w, _ | ⟨v, S'⟩⟩
              · cases h
              · cases h
              · dsimp only at h
                cases hc : ((es_ti v && es_ti w) && (((Nat.blt 0 (es_rf (ME M)) && Nat.ble 200 (es_lo (ME M))) && Nat.ble (es_cts S') 8) && (Nat.ble cs (es_mc (ME M)) && Nat.ble ss (es_ms (ME M)))))
                · rw [hc] at h; cases h
                · rw [hc] at h
                  try dsimp only [cond_true] at h
                  simp only [Bool.and_eq_true, es_blt, Nat.ble_eq] at hc hcok
                  obtain ⟨⟨t1, t2⟩, ⟨⟨c1, c2⟩, c3⟩, c4, c5⟩ := hc
                  intro H ls locs st hinv
                  obtain ⟨hl, hs, hH, hF, hS⟩ := hinv
                  obtain ⟨yv, st1, rfl, hvw, xv, st', rfl, hv, hs'⟩ := hs
                  obtain ⟨z, rfl⟩ := es_ti_int hv t1
                  obtain ⟨z2, rfl⟩ := es_ti_int hvw t2
                  have hsum := (es_cts_ok _ _ hs').2
                  exact va_mmin hx hb (by rw [hl.1, hml]) hown (hts _ (es_wj_in hcok.1.1)) (hts _ (es_wj_in hcok.1.2)) (hts _ (es_wj_in hcok.2.1)) (hts _ (es_wj_in hcok.2.2)) (by omega) (by omega) (by dsimp only; omega) (by dsimp only; omega) hd2 (hgo _ _ h (fun _ h => h) H ls locs _ ⟨hl, ⟨_, _, rfl, es_bin_ok hF _ hv hvw, hs'⟩, hH, hF, hS⟩)
            -- max
            · rename_i j1 j2 j3 j4 haux
              rw [haux] at h
              replace h : es_smm ME (fun x y => if x < y then y else x) ih M pc L S AH F cs ss = some ends := h
              unfold es_smm at h
              rcases S with _ | ⟨w, _ | ⟨v, S'⟩⟩
              · cases h
              · cases h
              · dsimp only at h
                cases hc : ((es_ti v && es_ti w) && (((Nat.blt 0 (es_rf (ME M)) && Nat.ble 200 (es_lo (ME M))) && Nat.ble (es_cts S') 8) && (Nat.ble cs (es_mc (ME M)) && Nat.ble ss (es_ms (ME M)))))
                · rw [hc] at h; cases h
                · rw [hc] at h
                  try dsimp only [cond_true] at h
                  simp only [Bool.and_eq_true, es_blt, Nat.ble_eq] at hc hcok
                  obtain ⟨⟨t1, t2⟩, ⟨⟨c1, c2⟩, c3⟩, c4, c5⟩ := hc
                  intro H ls locs st hinv
                  obtain ⟨hl, hs, hH, hF, hS⟩ := hinv
                  obtain ⟨yv, st1, rfl, hvw, xv, st', rfl, hv, hs'⟩ := hs
                  obtain ⟨z, rfl⟩ := es_ti_int hv t1
                  obtain ⟨z2, rfl⟩ := es_ti_int hvw t2
                  have hsum := (es_cts_ok _ _ hs').2
                  exact va_mmax hx hb (by rw [hl.1, hml]) hown (hts _ (es_wj_in hcok.1.1)) (hts _ (es_wj_in hcok.1.2)) (hts _ (es_wj_in hcok.2.1)) (hts _ (es_wj_in hcok.2.2)) (by omega) (by omega) (by dsimp only; omega) (by dsimp only; omega) hd2 (hgo _ _ h (fun _ h => h) H ls locs _ ⟨hl, ⟨_, _, rfl, es_bin_ok hF _ hv hvw, hs'⟩, hH, hF, hS⟩)
            · cases hcok
          -- invokespecial
          · rename_i idx hins
            have hd2 := hlen (fun d1 d2 d3 d4 h9 => by rw [h9] at hins; cases hins)
            rw [hins] at hd2
            unfold es_cok at hcok
            rw [hins] at hcok
            dsimp only at hcok
            split at hcok
            · rename_i M' n nest j1 j2 j3 haux
              rw [haux] at h
              replace h : es_si ME ih M (es_cal M M') n pc L S AH F cs ss = some ends := h
              generalize es_cal M M' = M' at h hcok
              unfold es_si at h
              cases hdr : S.drop n with
              | nil => rw [hdr] at h; cases h
              | cons o S' =>
                rw [hdr] at h
                try dsimp only at h
                cases ho3 : Nat.beq o.1 3
                · rw [ho3] at h; cases h
                · rw [ho3] at h
                  try dsimp only [cond_true] at h
                  cases hi1 : es_inv1 ME ih M M' (o :: (S.take n).reverse) S' AH F cs ss with
                  | none => rw [hi1] at h; cases h
                  | some lfs =>
                    rw [hi1] at h
                    try dsimp only at h
                    cases hnt : es_nothr lfs
                    · rw [hnt] at h; cases h
                    · rw [hnt] at h
                      try dsimp only [cond_true] at h
                      intro H ls locs st hinv
                      obtain ⟨hl, hs, hH, hF, hS⟩ := hinv
                      dsimp only at hl hs hH hF ⊢
                      obtain ⟨xs, ys, rfl, hxs, hys⟩ := es_take (n := n) hs
                      rw [hdr] at hys
                      obtain ⟨ro, rest, rfl, hvo, hs'⟩ := hys
                      have e6 := es_t3_ref hvo ho3
                      subst e6
                      have hn : xs.length = n := by
                        rw [es_sr_len _ _ hxs, List.length_take]
                        have h7 : (S.drop n).length = S.length - n := List.length_drop
                        rw [hdr, List.length_cons] at h7
                        omega
                      obtain ⟨hmet, h8, hRR, hcap, hcwm⟩ := es_inv1_ok (R := R) G hih hi1 (xs := .ref (n0 + o.2) :: xs.reverse) ⟨_, _, rfl, hvo, es_sr_rev _ _ hxs⟩ hF hR
                      have hmet0 := es_met0 hmet hnt
                      simp only [Bool.and_eq_true] at hcok
                      obtain ⟨k1, ⟨k2, k3⟩, ⟨k4, k5⟩, k6, k7⟩ := hcok
                      have k5 := es_emp k5
                      have k6 := of_decide_eq_true k6
                      have k7 := of_decide_eq_true k7
                      have hcw : es_cw (ME M') = .code (es_y (ME M')) (es_code (ME M')) (es_mL (ME M')) none := by unfold es_cw; rw [k5, k7]
                      refine es_aft_ok G hih fc hev htab hends h hl hs' hS ?_
                      cases hns : Nat.beq nest 0
                      · rw [hns] at k1
                        exact fun T hT X => Or.inl (va_runIN (As := xs.reverse) ⟨hx, hb, hml, hown, hts⟩ hmet0 ⟨va_cnB n hts (es_good G hcwm) (by rw [hcw]) rfl rfl (hev.2.2.2.2.2.2.2.1 _ (es_wj_in k1)) (hts _ (es_wj_in k3)) (es_ymok_ok k4) hRR, k6, hts _ (es_wj_in k2)⟩ ⟨es_blind G.2.2.1, es_pcU G.2.2.1 hev hS hH⟩ rfl (by rw [List.length_reverse]; exact hn) hl.1 (by rw [List.reverse_reverse]) (lv_room (by rw [(es_cts_ok _ _ hs').2]; exact h8)) hd2 hcap T hT X)
                      · rw [hns] at k1
                        exact fun T hT X => Or.inl (va_runI (As := xs.reverse) ⟨hx, hb, hml, hown, hts⟩ hmet0 ⟨callB_of n hts (es_good G hcwm) (by rw [hcw]) rfl rfl (hts _ (es_wj_in k3)) (hts _ (es_wj_in k1)) (es_ymok_ok k4) hRR, k6, hts _ (es_wj_in k2)⟩ ⟨es_blind G.2.2.1, es_pcU G.2.2.1 hev hS hH⟩ rfl (by rw [List.length_reverse]; exact hn) hl.1 (by rw [List.reverse_reverse]) (lv_room (by rw [(es_cts_ok _ _ hs').2]; exact h8)) hd2 hcap T hT X)
            -- Object.<init>
            · rename_i j1 j2 j3 haux
              rw [haux] at h
              replace h : es_so ME ih M pc L S AH F cs ss = some ends := h
              unfold es_so at h
              rcases S with _ | ⟨o, S'⟩
              · cases h
              · dsimp only at h
                cases hc : (Nat.beq o.1 3 && (Nat.blt 0 (es_rf (ME M)) && Nat.ble (es_cts S' + 12) (es_lo (ME M))))
                · rw [hc] at h; cases h
                · rw [hc] at h
                  try dsimp only [cond_true] at h
                  simp only [Bool.and_eq_true, es_blt, Nat.ble_eq] at hc hcok
                  obtain ⟨c1, c2, c3⟩ := hc
                  intro H ls locs st hinv
                  obtain ⟨hl, hs, hH, hF, hS⟩ := hinv
                  obtain ⟨yv, st', rfl, hv, hs'⟩ := hs
                  have e6 := es_t3_ref hv c1
                  subst e6
                  have hsum := (es_cts_ok _ _ hs').2
                  refine W.objInit hx hb hown (hts _ (es_wj_in hcok.1)) (hts _ (es_wj_in hcok.2.1)) (hts _ (es_wj_in hcok.2.2)) rfl (by rw [hml]; exact hl.1) rfl hd2 (by omega) (by show 2 * 0 + _ + 12 ≤ _; omega) ?_
                  exact hgo _ _ h (fun _ h => h) H ls locs _ ⟨hl, hs', hH, hF, hS⟩
            · cases hcok
          · cases h
end Snd
section Snd2
variable {l : Launch} {strs : List (String × Nat × String)} {wx : List Cond} {WS : List Cond} {SL : Nat} {D : va_G} {cI cJ cZ cC cM : ClassId} {n0 : Nat} {b : Nat → Nat} {ρ : Nat → Int32} {ME : Nat → es_M}
theorem es_run_ok (G : es_GH strs wx WS ME) : ∀ (n : Nat) (ρ : Nat → Int32) (M : Nat) (K : es_K) (ends : List es_E), es_run ME strs SL n M K = some ends → es_RS l strs wx WS SL D cI cJ cZ cC cM n0 b ρ (ME M) K ends
  | 0, _, _, _, _, h => by rw [es_run_z] at h; cases h
  | n + 1, ρ, M, K, ends, h => by
    rw [es_run_s] at h
    exact es_step_ok G (fun ρ' M' K' ends' h' => es_run_ok G n ρ' M' K' ends' h') M K ends h
end Snd2
end
section
def es_teq (pc : Nat) (off : Int) (t : Nat) : Bool := match es_to pc off with
  | some x => Nat.beq x t
  | none => false
theorem es_fi2_ok {l : List (Nat × es_C)} {pc : Nat} {r : es_C} (h : es_fi2 l pc = some r) : (pc, r) ∈ l := by
  induction l with
  | nil => cases h
  | cons q t ih =>
    have h' : (bif Nat.beq q.1 pc then some q.2 else es_fi2 t pc) = some r := h
    cases hb : Nat.beq q.1 pc
    · rw [hb] at h'
      exact List.mem_cons_of_mem _ (ih h')
    · rw [hb] at h'
      cases h'
      rw [← es_beq.mp hb]
      exact List.mem_cons_self
theorem es_at2_ok {l : List (Nat × List (Nat × es_C))} {pc : Nat} {r : es_C} (h : es_at2 l pc = some r) : ∃ q ∈ l, (pc, r) ∈ q.2 := by
  induction l with
  | nil => cases h
  | cons q t ih =>
    have h' : (bif Nat.blt pc q.1 then es_fi2 q.2 pc else es_at2 t pc) = some r := h
    cases hb : Nat.blt pc q.1
    · rw [hb] at h'
      obtain ⟨q', h1, h2⟩ := ih h'
      exact ⟨q', List.mem_cons_of_mem _ h1, h2⟩
    · rw [hb] at h'
      exact ⟨q, List.mem_cons_self, es_fi2_ok h'⟩
/-- is this number the row's? -/
def es_qok (e : es_I) (pc c a n : Nat) : Bool := match e.2.1 with
  | .iload_n k => (Nat.beq c 1 && (Nat.beq k a && Nat.beq n 1)) && e.2.2.2.isEmpty
  | .iload k => (Nat.beq c 1 && (Nat.beq k a && Nat.beq n 2)) && e.2.2.2.isEmpty
  | .aload_n k => (Nat.beq c 2 && (Nat.beq k a && Nat.beq n 1)) && e.2.2.2.isEmpty
  | .aload k => (Nat.beq c 2 && (Nat.beq k a && Nat.beq n 2)) && e.2.2.2.isEmpty
  | .iconst v => (Nat.beq c 3 && (es_veq (es_c (Int32.ofInt v)) (0, a) && Nat.beq n 1)) && e.2.2.2.isEmpty
  | .bipush v => (Nat.beq c 3 && (es_veq (es_c ((Int8.ofInt v).toInt32)) (0, a) && Nat.beq n 2)) && e.2.2.2.isEmpty
  | .sipush v => (Nat.beq c 3 && (es_veq (es_c ((Int16.ofInt v).toInt32)) (0, a) && Nat.beq n 3)) && e.2.2.2.isEmpty
  | .istore_n k => (Nat.beq c 4 && (Nat.beq k a && Nat.beq n 1)) && e.2.2.2.isEmpty
  | .istore k => (Nat.beq c 4 && (Nat.beq k a && Nat.beq n 2)) && e.2.2.2.isEmpty
  | .iinc k v => (Nat.beq c 5 && (Nat.beq k a && decide (Int32.ofInt v = nI n))) && e.2.2.2.isEmpty
  | .goto off => (Nat.beq c 6 && es_teq pc off a) && e.2.2.2.isEmpty
  | .iadd => Nat.beq c 7 && e.2.2.2.isEmpty
  | .isub => Nat.beq c 8 && e.2.2.2.isEmpty
  | .imul => Nat.beq c 9 && e.2.2.2.isEmpty
  | .iand => Nat.beq c 10 && e.2.2.2.isEmpty
  | .ior => Nat.beq c 11 && e.2.2.2.isEmpty
  | .ishl => Nat.beq c 12 && e.2.2.2.isEmpty
  | .ishr => Nat.beq c 13 && e.2.2.2.isEmpty
  | .irem => Nat.beq c 14 && e.2.2.2.isEmpty
  | .ifCond op off => (Nat.beq c 15 && (es_teq pc off a && decide (es_opn n = op))) && e.2.2.2.isEmpty
  | .if_icmp op off => (Nat.beq c 16 && (es_teq pc off a && decide (es_opn n = op))) && e.2.2.2.isEmpty
  | .return_ => Nat.beq c 17 && e.2.2.2.isEmpty
  | .ireturn => Nat.beq c 17 && e.2.2.2.isEmpty
  | .areturn => Nat.beq c 17 && e.2.2.2.isEmpty
  | .lreturn => Nat.beq c 17 && e.2.2.2.isEmpty
  | .getfield _ => Nat.beq c 18 && (match e.2.2.2 with
    | [ci, k, _] => (Nat.beq ci a && Nat.beq k n) && Nat.blt ci 60
    | _ => false)
  | .iaload => Nat.beq c 19 && e.2.2.2.isEmpty
  | .iastore => Nat.beq c 20 && e.2.2.2.isEmpty
  | _ => false
section Fast
variable {ME : Nat → es_M} {strs : List (String × Nat × String)} {SL : Nat}
theorem es_isE {l : List Nat} (h : l.isEmpty = true) : l = [] := by cases l <;> simp_all
theorem es_teq_to {pc : Nat} {off : Int} {t : Nat} (h : es_teq pc off t = true) : es_to pc off = some t := by
  unfold es_teq at h
  split at h
  · rename_i x hx
    rw [hx, es_beq.mp h]
  · cases h
/-- a row of plain kind, with nothing beside -/
theorem es_sp {ih : Nat → es_K → Option (List es_E)} {M pc : Nat} {e : es_I} (hat : es_at (es_tab (ME M)) pc = some e) (ha : e.2.2.2 = []) {L : es_L} {S : List es_V} {AH : List es_O} {F : es_F} {cs ss : Nat} {ends : List es_E} {r : Option (Nat × es_L × List es_V)} (hr : es_pure (es_mL (ME M)) e.2.1 pc L S F = r)
    (h : es_gp ih M AH F cs ss r = some ends) : es_step ME strs SL ih M (pc, L, S, AH, F, cs, ss) = some ends := by
  unfold es_step
  dsimp only
  rw [hat]
  dsimp only
  rw [ha]
  dsimp only
  rw [hr]
  cases r with
  | none => cases h
  | some q => exact h
theorem es_fast_ok {ih : Nat → es_K → Option (List es_E)} {M pc c a n : Nat} {e : es_I} (hat : es_at (es_tab (ME M)) pc = some e) (hq : es_qok e pc c a n = true) {L : es_L} {S : List es_V} {AH : List es_O} {F : es_F} {cs ss : Nat} {ends : List es_E}
    (h : es_fast ih M c a n (es_mL (ME M)) pc L S AH F cs ss = some ends) : es_step ME strs SL ih M (pc, L, S, AH, F, cs, ss) = some ends := by
  unfold es_qok at hq
  split at hq
  · rename_i k hins
    simp only [Bool.and_eq_true, es_beq] at hq
    obtain ⟨⟨rfl, rfl, rfl⟩, ha⟩ := hq
    exact es_sp hat (es_isE ha) (by rw [hins]; rfl) h
  · rename_i k hins
    simp only [Bool.and_eq_true, es_beq] at hq
    obtain ⟨⟨rfl, rfl, rfl⟩, ha⟩ := hq
    exact es_sp hat (es_isE ha) (by rw [hins]; rfl) h
  · rename_i k hins
    simp only [Bool.and_eq_true, es_beq] at hq
    obtain ⟨⟨rfl, rfl, rfl⟩, ha⟩ := hq
    exact es_sp hat (es_isE ha) (by rw [hins]; rfl) h
  · rename_i k hins
    simp only [Bool.and_eq_true, es_beq] at hq
    obtain ⟨⟨rfl, rfl, rfl⟩, ha⟩ := hq
    exact es_sp hat (es_isE ha) (by rw [hins]; rfl) h
  · rename_i k hins
    simp only [Bool.and_eq_true, es_beq] at hq
    obtain ⟨⟨rfl, hv, rfl⟩, ha⟩ := hq
    exact es_sp (r := some (pc + 1, L, (0, a) :: S)) hat (es_isE ha) (by rw [hins]; show some (pc + 1, L, es_c (Int32.ofInt k) :: S) = _; rw [es_veq_ok hv]) h
  · rename_i k hins
    simp only [Bool.and_eq_true, es_beq] at hq
    obtain ⟨⟨rfl, hv, rfl⟩, ha⟩ := hq
    exact es_sp (r := some (pc + 2, L, (0, a) :: S)) hat (es_isE ha) (by rw [hins]; show some (pc + 2, L, es_c ((Int8.ofInt k).toInt32) :: S) = _; rw [es_veq_ok hv]) h
  · rename_i k hins
    simp only [Bool.and_eq_true, es_beq] at hq
    obtain ⟨⟨rfl, hv, rfl⟩, ha⟩ := hq
    exact es_sp (r := some (pc + 3, L, (0, a) :: S)) hat (es_isE ha) (by rw [hins]; show some (pc + 3, L, es_c ((Int16.ofInt k).toInt32) :: S) = _; rw [es_veq_ok hv]) h
  · rename_i k hins
    simp only [Bool.and_eq_true, es_beq] at hq
    obtain ⟨⟨rfl, rfl, rfl⟩, ha⟩ := hq
    exact es_sp hat (es_isE ha) (by rw [hins]; rfl) h
  · rename_i k hins
    simp only [Bool.and_eq_true, es_beq] at hq
    obtain ⟨⟨rfl, rfl, rfl⟩, ha⟩ := hq
    exact es_sp hat (es_isE ha) (by rw [hins]; rfl) h
  · rename_i k v hins
    simp only [Bool.and_eq_true, es_beq, decide_eq_true_eq] at hq
    obtain ⟨⟨rfl, rfl, hv⟩, ha⟩ := hq
    exact es_sp (r := es_finc k n (es_mL (ME M)) pc L S F) hat (es_isE ha) (by rw [hins]; unfold es_finc; rw [← hv]; rfl) h
  · rename_i off hins
    simp only [Bool.and_eq_true, es_beq] at hq
    obtain ⟨⟨rfl, hv⟩, ha⟩ := hq
    exact es_sp (r := some (a, L, S)) hat (es_isE ha) (by rw [hins]; show (match es_to pc off with | some t => some (t, L, S) | none => none) = _; rw [es_teq_to hv]) h
  · rename_i hins
    simp only [Bool.and_eq_true, es_beq] at hq
    obtain ⟨rfl, ha⟩ := hq
    exact es_sp hat (es_isE ha) (by rw [hins]; rfl) h
  · rename_i hins
    simp only [Bool.and_eq_true, es_beq] at hq
    obtain ⟨rfl, ha⟩ := hq
    exact es_sp hat (es_isE ha) (by rw [hins]; rfl) h
  · rename_i hins
    simp only [Bool.and_eq_true, es_beq] at hq
    obtain ⟨rfl, ha⟩ := hq
    exact es_sp hat (es_isE ha) (by rw [hins]; rfl) h
  · rename_i hins
    simp only [Bool.and_eq_true, es_beq] at hq
    obtain ⟨rfl, ha⟩ := hq
    exact es_sp hat (es_isE ha) (by rw [hins]; rfl) h
  · rename_i hins
    simp only [Bool.and_eq_true, es_beq] at hq
    obtain ⟨rfl, ha⟩ := hq
    exact es_sp hat (es_isE ha) (by rw [hins]; rfl) h
  · rename_i hins
    simp only [Bool.and_eq_true, es_beq] at hq
    obtain ⟨rfl, ha⟩ := hq
    exact es_sp hat (es_isE ha) (by rw [hins]; rfl) h
  · rename_i hins
    simp only [Bool.and_eq_true, es_beq] at hq
    obtain ⟨rfl, ha⟩ := hq
    exact es_sp hat (es_isE ha) (by rw [hins]; rfl) h
  · rename_i hins
    simp only [Bool.and_eq_true, es_beq] at hq
    obtain ⟨rfl, ha⟩ := hq
    exact es_sp hat (es_isE ha) (by rw [hins]; rfl) h
  · rename_i op off hins
    simp only [Bool.and_eq_true, es_beq, decide_eq_true_eq] at hq
    obtain ⟨⟨rfl, hv, rfl⟩, ha⟩ := hq
    have h' : es_fi0 ih M (es_opn n) a pc L S AH F cs ss = some ends := h
    unfold es_step
    dsimp only
    rw [hat]
    dsimp only
    rw [es_isE ha]
    dsimp only
    unfold es_hs
    dsimp only
    rw [hins]
    dsimp only [es_pure]
    rw [es_teq_to hv]
    unfold es_fi0 at h'
    cases S with
    | nil => cases h'
    | cons v S' => exact h'
  · rename_i op off hins
    simp only [Bool.and_eq_true, es_beq, decide_eq_true_eq] at hq
    obtain ⟨⟨rfl, hv, rfl⟩, ha⟩ := hq
    have h' : es_fi1 ih M (es_opn n) a pc L S AH F cs ss = some ends := h
    unfold es_step
    dsimp only
    rw [hat]
    dsimp only
    rw [es_isE ha]
    dsimp only
    unfold es_hs
    dsimp only
    rw [hins]
    dsimp only [es_pure]
    rw [es_teq_to hv]
    unfold es_fi1 at h'
    rcases S with _ | ⟨w, _ | ⟨v, S'⟩⟩
    · cases h'
    · cases h'
    · exact h'
  · rename_i hins
    simp only [Bool.and_eq_true, es_beq] at hq
    obtain ⟨rfl, ha⟩ := hq
    unfold es_step
    dsimp only
    rw [hat]
    dsimp only
    rw [es_isE ha]
    dsimp only
    unfold es_hs
    dsimp only
    rw [hins]
    exact h
  · rename_i hins
    simp only [Bool.and_eq_true, es_beq] at hq
    obtain ⟨rfl, ha⟩ := hq
    unfold es_step
    dsimp only
    rw [hat]
    dsimp only
    rw [es_isE ha]
    dsimp only
    unfold es_hs
    dsimp only
    rw [hins]
    exact h
  · rename_i hins
    simp only [Bool.and_eq_true, es_beq] at hq
    obtain ⟨rfl, ha⟩ := hq
    unfold es_step
    dsimp only
    rw [hat]
    dsimp only
    rw [es_isE ha]
    dsimp only
    unfold es_hs
    dsimp only
    rw [hins]
    exact h
  · rename_i hins
    simp only [Bool.and_eq_true, es_beq] at hq
    obtain ⟨rfl, ha⟩ := hq
    unfold es_step
    dsimp only
    rw [hat]
    dsimp only
    rw [es_isE ha]
    dsimp only
    unfold es_hs
    dsimp only
    rw [hins]
    exact h
  -- getfield
  · rename_i idx hins
    rw [Bool.and_eq_true, es_beq] at hq
    obtain ⟨rfl, hq2⟩ := hq
    split at hq2
    · rename_i ci k j haux
      simp only [Bool.and_eq_true, es_beq, es_blt] at hq2
      obtain ⟨⟨rfl, rfl⟩, h100⟩ := hq2
      have h' : es_gh ih M (es_fgf ci k pc L S AH F cs ss) = some ends := h
      unfold es_step
      dsimp only
      rw [hat]
      dsimp only
      have hhs : es_hs SL (ME M) e (pc, L, S, AH, F, cs, ss) = es_fgf ci k pc L S AH F cs ss := by
        unfold es_hs es_fgf
        dsimp only
        rw [hins, haux]
        dsimp only
        cases S <;> rfl
      have hpu : es_pure (es_mL (ME M)) e.2.1 pc L S F = none := by rw [hins]; rfl
      rw [hhs, hpu]
      split
      · rename_i tl h9; rw [haux] at h9; cases h9; exact absurd h100 (by decide)
      · rename_i tl h9; rw [haux] at h9; cases h9; exact absurd h100 (by decide)
      · rename_i h9; rw [haux] at h9; cases h9; exact absurd h100 (by decide)
      · dsimp only
        cases hf : es_fgf ci k pc L S AH F cs ss with
        | none => rw [hf] at h'; cases h'
        | some K' => rw [hf] at h'; exact h'
    · cases hq2
  -- iaload
  · rename_i hins
    simp only [Bool.and_eq_true, es_beq] at hq
    obtain ⟨rfl, ha⟩ := hq
    have h' : es_gh ih M (es_fld pc L S AH F cs ss) = some ends := h
    cases hf : es_fld pc L S AH F cs ss with
    | none => rw [hf] at h'; cases h'
    | some K' =>
      rw [hf] at h'
      have hhs : es_hs SL (ME M) e (pc, L, S, AH, F, cs, ss) = some K' := by
        rw [← hf]
        unfold es_fld at hf ⊢
        unfold es_hs
        dsimp only
        rw [hins]
        dsimp only
        rcases S with _ | ⟨j, _ | ⟨a', S'⟩⟩
        · cases hf
        · cases hf
        · dsimp only at hf ⊢
          cases hj : es_kn F j with
          | none => rw [hj] at hf <;> cases hf
          | some jn =>
            rw [hj] at hf
            dsimp only at hf ⊢
            cases h5 : Nat.beq a'.1 5
            · rfl
            · rw [h5] at hf; cases hf
      unfold es_step
      dsimp only
      rw [hat]
      dsimp only
      rw [es_isE ha]
      dsimp only
      have hpu : es_pure (es_mL (ME M)) e.2.1 pc L S F = none := by rw [hins]; rfl
      rw [hhs, hpu]
      exact h'
  -- iastore
  · rename_i hins
    simp only [Bool.and_eq_true, es_beq] at hq
    obtain ⟨rfl, ha⟩ := hq
    have h' : es_gh ih M (es_fst pc L S AH F cs ss) = some ends := h
    cases hf : es_fst pc L S AH F cs ss with
    | none => rw [hf] at h'; cases h'
    | some K' =>
      rw [hf] at h'
      have hhs : es_hs SL (ME M) e (pc, L, S, AH, F, cs, ss) = some K' := by
        rw [← hf]
        unfold es_hs
        dsimp only
        rw [hins]
        rfl
      unfold es_step
      dsimp only
      rw [hat]
      dsimp only
      rw [es_isE ha]
      dsimp only
      have hpu : es_pure (es_mL (ME M)) e.2.1 pc L S F = none := by rw [hins]; rfl
      rw [hhs, hpu]
      exact h'
  · cases hq
end Fast
def es_qq (o : Option es_I) (x : Nat × es_C) : Bool := match o with
  | some e => es_qok e x.1 x.2.1 x.2.2.1 x.2.2.2
  | none => false
section Run3
variable {ME : Nat → es_M} {strs : List (String × Nat × String)} {CT : Nat → List (Nat × List (Nat × es_C))} {SL : Nat}
theorem es_step2_ok (hCT : ∀ M, ∀ q ∈ CT M, ∀ x ∈ q.2, es_qq (es_at (es_tab (ME M)) x.1) x = true) {ih : Nat → es_K → Option (List es_E)} {M : Nat} {K : es_K} {ends : List es_E} (h : es_step2 ME strs CT SL ih M K = some ends) : es_step ME strs SL ih M K = some ends := by
  obtain ⟨pc, L, S, AH, F, cs, ss⟩ := K
  unfold es_step2 at h
  dsimp only at h
  cases hc : es_at2 (CT M) pc with
  | none => rw [hc] at h; exact h
  | some q =>
    rw [hc] at h
    dsimp only at h
    obtain ⟨z, h1, h2⟩ := es_at2_ok hc
    have h3 := hCT M z h1 _ h2
    unfold es_qq at h3
    dsimp only at h3
    cases hat : es_at (es_tab (ME M)) pc with
    | none => rw [hat] at h3; cases h3
    | some e => rw [hat] at h3; exact es_fast_ok hat h3 h
variable {l : Launch} {strs : List (String × Nat × String)} {wx : List Cond} {WS : List Cond} {D : va_G} {cI cJ cZ cC cM : ClassId} {n0 : Nat} {b : Nat → Nat}
theorem es_run2_ok (G : es_GH strs wx WS ME) (hCT : ∀ M, ∀ q ∈ CT M, ∀ x ∈ q.2, es_qq (es_at (es_tab (ME M)) x.1) x = true) : ∀ (n : Nat) (ρ : Nat → Int32) (M : Nat) (K : es_K) (ends : List es_E), es_run2 ME strs CT SL n M K = some ends → es_RS l strs wx WS SL D cI cJ cZ cC cM n0 b ρ (ME M) K ends
  | 0, _, _, _, _, h => by rw [es_run2_z] at h; cases h
  | n + 1, ρ, M, K, ends, h => by
    rw [es_run2_s] at h
    exact es_step_ok G (fun ρ' M' K' ends' h' => es_run2_ok G hCT n ρ' M' K' ends' h') M K ends (es_step2_ok hCT h)
end Run3
end
section
def gc32 (v : Int) : Prop := -2147483648 ≤ v ∧ v < 2147483648
def gc64 (v : Int) : Prop := -9223372036854775808 ≤ v ∧ v < 9223372036854775808
def g32 (v : Int) : Int := Int.bmod v 4294967296
def g64 (v : Int) : Int := Int.bmod v 18446744073709551616
def eI (v : Int) : Nat := (Int32.ofInt v).toBitVec.toNat
def eJ (v : Int) : Nat := (Int64.ofInt v).toBitVec.toNat
def gand (x y : Int) : Int := (Int32.ofInt x &&& Int32.ofInt y).toInt
def gor (x y : Int) : Int := (Int32.ofInt x ||| Int32.ofInt y).toInt
def gxor (x y : Int) : Int := (Int32.ofInt x ^^^ Int32.ofInt y).toInt
def gshl (x y : Int) : Int := (Int32.ofInt x <<< (Int32.ofInt y &&& 31)).toInt
def gshr (x y : Int) : Int := (Int32.ofInt x >>> (Int32.ofInt y &&& 31)).toInt
def gushr (x y : Int) : Int := (((Int32.ofInt x).toUInt32 >>> ((Int32.ofInt y).toUInt32 &&& Int32.toUInt32 31)).toInt32).toInt
def gdiv (x y : Int) : Int := (Int32.ofInt x / Int32.ofInt y).toInt
def grem (x y : Int) : Int := (Int32.ofInt x - Int32.ofInt x / Int32.ofInt y * Int32.ofInt y).toInt
def gi2c (x : Int) : Int := (((Int32.ofInt x).toUInt32 % 65536).toInt32).toInt
def gland (x y : Int) : Int := (Int64.ofInt x &&& Int64.ofInt y).toInt
def glor (x y : Int) : Int := (Int64.ofInt x ||| Int64.ofInt y).toInt
def gldiv (x y : Int) : Int := (Int64.ofInt x / Int64.ofInt y).toInt
def glshl (x y : Int) : Int := (Int64.ofInt x <<< ((Int32.ofInt y).toInt64 &&& 63)).toInt
def glshr (x y : Int) : Int := (Int64.ofInt x >>> ((Int32.ofInt y).toInt64 &&& 63)).toInt
def glushr (x y : Int) : Int := (((Int64.ofInt x).toUInt64 >>> ((Int32.ofInt y).toInt64.toUInt64 &&& Int64.toUInt64 63)).toInt64).toInt
def gcmp (x y : Int) : Int := if y < x then 1 else if x = y then 0 else -1
theorem gc32_t (z : Int32) : gc32 z.toInt := ⟨Int32.le_toInt z, Int32.toInt_lt z⟩
theorem gc64_t (z : Int64) : gc64 z.toInt := ⟨Int64.le_toInt z, Int64.toInt_lt z⟩
theorem gc32_b (v : Int) : gc32 (g32 v) := by
  have h := gc32_t (Int32.ofInt v)
  rw [Int32.toInt_ofInt] at h
  exact h
theorem gc64_b (v : Int) : gc64 (g64 v) := by
  have h := gc64_t (Int64.ofInt v)
  rw [Int64.toInt_ofInt] at h
  exact h
theorem gti {v : Int} (h : gc32 v) : (Int32.ofInt v).toInt = v := Int32.toInt_ofInt_of_le h.1 h.2
theorem gtl {v : Int} (h : gc64 v) : (Int64.ofInt v).toInt = v := Int64.toInt_ofInt_of_le h.1 h.2
theorem g32_id {v : Int} (h : gc32 v) : g32 v = v := by
  have h2 := gti h
  rw [Int32.toInt_ofInt] at h2
  exact h2
theorem g64_id {v : Int} (h : gc64 v) : g64 v = v := by
  have h2 := gtl h
  rw [Int64.toInt_ofInt] at h2
  exact h2
theorem g32_of (v : Int) : (Int32.ofInt v).toInt = g32 v := Int32.toInt_ofInt
theorem g64_of (v : Int) : (Int64.ofInt v).toInt = g64 v := Int64.toInt_ofInt
theorem gnI (v : Int) : nI (eI v) = Int32.ofInt v := es_nb _
theorem glN (v : Int) : lN (eJ v) = Int64.ofInt v := es_lb _
theorem geI (z : Int32) : eI z.toInt = z.toBitVec.toNat := by
  unfold eI
  rw [Int32.ofInt_toInt]
theorem geJ (z : Int64) : eJ z.toInt = z.toBitVec.toNat := by
  unfold eJ
  rw [Int64.ofInt_toInt]
theorem ges (z : Int32) : es_c z = (0, eI z.toInt) := by rw [es_c_eq, geI]
theorem gel (z : Int64) : es_lc z = (2, eJ z.toInt) := by rw [es_lc_eq, geJ]
theorem gbn (f : Int32 → Int32 → Int32) (F : es_F) (x y : Int) : es_bin f F (0, eI x) (0, eI y) = (0, eI (f (Int32.ofInt x) (Int32.ofInt y)).toInt) := by
  show es_c (f (nI (eI x)) (nI (eI y))) = _
  rw [gnI, gnI, ges]
theorem gun (f : Int32 → Int32) (F : es_F) (x : Int) : es_un f F (0, eI x) = (0, eI (f (Int32.ofInt x)).toInt) := by
  show es_c (f (nI (eI x))) = _
  rw [gnI, ges]
theorem glb (f : Int64 → Int64 → Int64) (x y : Int) : es_lbin f (2, eJ x) (2, eJ y) = (2, eJ (f (Int64.ofInt x) (Int64.ofInt y)).toInt) := by
  show es_lc (f (lN (eJ x)) (lN (eJ y))) = _
  rw [glN, glN, gel]
theorem g32_add (x y : Int) : (Int32.ofInt x + Int32.ofInt y).toInt = g32 (x + y) := by
  rw [← Int32.ofInt_add, g32_of]
theorem g32_sub (x y : Int) : (Int32.ofInt x - Int32.ofInt y).toInt = g32 (x - y) := by
  rw [← Int32.ofInt_sub, g32_of]
theorem g32_mul (x y : Int) : (Int32.ofInt x * Int32.ofInt y).toInt = g32 (x * y) := by
  rw [← Int32.ofInt_mul, g32_of]
theorem g32_neg (x : Int) : (-Int32.ofInt x).toInt = g32 (-x) := by
  rw [← Int32.ofInt_neg, g32_of]
theorem g64_add (x y : Int) : (Int64.ofInt x + Int64.ofInt y).toInt = g64 (x + y) := by
  rw [← Int64.ofInt_add, g64_of]
theorem g64_sub (x y : Int) : (Int64.ofInt x - Int64.ofInt y).toInt = g64 (x - y) := by
  rw [← Int64.ofInt_sub, g64_of]
theorem g64_mul (x y : Int) : (Int64.ofInt x * Int64.ofInt y).toInt = g64 (x * y) := by
  rw [← Int64.ofInt_mul, g64_of]
theorem gi2l {x : Int} (h : gc32 x) : (Int32.ofInt x).toInt64.toInt = x := by rw [Int32.toInt_toInt64, gti h]
theorem gc6432 {x : Int} (h : gc32 x) : gc64 x := by
  unfold gc32 at h
  unfold gc64
  omega
theorem gl2i {x : Int} (h : gc64 x) : (Int64.ofInt x).toInt32.toInt = g32 x := by
  rw [Int64.toInt_toInt32, gtl h]
  rfl
theorem glcmp {x y : Int} (hx : gc64 x) (hy : gc64 y) : (lg_cmp (Int64.ofInt x) (Int64.ofInt y)).toInt = gcmp x y := by
  unfold lg_cmp gcmp
  simp only [gt_iff_lt, Int64.lt_iff_toInt_lt, ← Int64.toInt_inj, gtl hx, gtl hy]
  split
  · rfl
  · split
    · rfl
    · rfl
theorem gbz {x : Int} (h : gc32 x) : es_bz (eI x) = (x + 2147483648).toNat := by
  rw [← es_zbn, gnI]
  unfold es_zb
  rw [gti h]
def gcp (op : es_Op) (x y : Int) : Bool := match op with
  | .eq => decide (x = y)
  | .ne => !decide (x = y)
  | .lt => decide (x < y)
  | .ge => decide (y ≤ x)
  | .gt => decide (y < x)
  | .le => decide (x ≤ y)
theorem gcpk (op : es_Op) {x y : Int} (hx : gc32 x) (hy : gc32 y) : es_cmp op (es_bz (eI x)) (es_bz (eI y)) = gcp op x y := by
  rw [gbz hx, gbz hy]
  unfold gc32 at hx hy
  have e1 : Nat.beq (x + 2147483648).toNat (y + 2147483648).toNat = decide (x = y) := by
    by_cases h : x = y
    · subst h; simp [es_beq.mpr rfl]
    · rw [es_beqf.mpr (by omega), decide_eq_false h]
  have e2 : ∀ u w : Int, -2147483648 ≤ u → -2147483648 ≤ w → Nat.blt (u + 2147483648).toNat (w + 2147483648).toNat = decide (u < w) := fun u w hu hw => by
    by_cases h : u < w
    · rw [es_blt.mpr (by omega), decide_eq_true h]
    · rw [decide_eq_false h]
      cases hb : Nat.blt (u + 2147483648).toNat (w + 2147483648).toNat
      · rfl
      · have := es_blt.mp hb; omega
  have e3 : ∀ u w : Int, -2147483648 ≤ u → -2147483648 ≤ w → Nat.ble (u + 2147483648).toNat (w + 2147483648).toNat = decide (u ≤ w) := fun u w hu hw => by
    by_cases h : u ≤ w
    · rw [Nat.ble_eq.mpr (by omega), decide_eq_true h]
    · rw [decide_eq_false h]
      cases hb : Nat.ble (u + 2147483648).toNat (w + 2147483648).toNat
      · rfl
      · have := Nat.ble_eq.mp hb; omega
  cases op
  · exact e1
  · show (!_) = _; rw [e1]; rfl
  · exact e2 x y hx.1 hy.1
  · exact e3 y x hy.1 hx.1
  · exact e2 y x hy.1 hx.1
  · exact e3 x y hx.1 hy.1
theorem gz0 {y : Int} (h : gc32 y) (h0 : y ≠ 0) : (!decide (nI (eI y) = 0)) = true := by
  rw [gnI]
  have : ¬ Int32.ofInt y = 0 := fun e => by
    have e2 := congrArg Int32.toInt e
    rw [gti h] at e2
    exact h0 e2
  simp [this]
theorem glz0 {y : Int} (h : gc64 y) (h0 : y ≠ 0) : (!decide (lN (eJ y) = 0)) = true := by
  rw [glN]
  have : ¬ Int64.ofInt y = 0 := fun e => by
    have e2 := congrArg Int64.toInt e
    rw [gtl h] at e2
    exact h0 e2
  simp [this]
theorem geN {n : Nat} (h : n < 2147483648) : eI (n : Int) = n := by
  unfold eI
  rw [Int32.toBitVec_ofInt]
  simp only [BitVec.toNat_ofInt]
  omega
end
section
abbrev gV : Type := Nat × Int × Nat
abbrev gS : Type := Nat × (Nat → Nat) × (Nat → Nat → Int) × (Nat → Nat → Nat)
abbrev gO : Type := Nat × Int × Nat × gS
def gn (s : gS) : Nat := s.1
def gK (s : gS) (a : Nat) : Nat := s.2.1 a
def gI (s : gS) (a k : Nat) : Int := s.2.2.1 a k
def gR (s : gS) (a k : Nat) : Nat := s.2.2.2 a k
def gw (s : gS) (a k : Nat) (v : Int) : gS := (s.1, s.2.1, fun a' k' => if a' = a ∧ k' = k then v else s.2.2.1 a' k', s.2.2.2)
def gwr (s : gS) (a k r : Nat) : gS := (s.1, s.2.1, s.2.2.1, fun a' k' => if a' = a ∧ k' = k then r else s.2.2.2 a' k')
def gnw (s : gS) (kd : Nat) : gS := (s.1 + 1, fun a => if a = s.1 then kd else s.2.1 a, fun a k => if a = s.1 then 0 else s.2.2.1 a k, fun a k => if a = s.1 then 0 else s.2.2.2 a k)
/-- a row of ints is written over from another -/
def gcpy (s : gS) (a sp b dp n : Nat) : gS := (s.1, s.2.1, fun a' k' => if a' = b ∧ dp ≤ k' ∧ k' < dp + n then s.2.2.1 a (sp + (k' - dp)) else s.2.2.1 a' k', s.2.2.2)
def gnfl : List Nat := [12, 1, 10, 3, 2, 3, 2, 6, 2, 11, 5, 17, 25]
def gnf (k : Nat) : Nat := gnfl.getD k 0
/-- kinds: below 13 a class, 99 a thrown one, 100 + 8 len + t a row; of fields: 0 a number, 11, 12 perhaps nothing, 16 + kind -/
def gfkl : List (List Nat) := [
  [180, 180, 180, 164, 164, 0, 0, 0, 0, 0, 0, 11],
  [26],
  [168, 164, 164, 22, 0, 0, 0, 0, 0, 0],
  [188, 372, 0],
  [0, 12],
  [26, 3316, 0],
  [2036, 0],
  [0, 0, 0, 0, 0, 0],
  [18, 3700],
  [19, 16, 23, 356, 356, 356, 356, 24117, 0, 0, 0],
  [3316, 0, 0, 0, 0],
  [26, 19, 17, 21, 16, 18, 25, 24, 16, 18, 16, 18, 215, 0, 0, 0, 0],
  [0, 6036, 6036, 0, 2836, 32756, 0, 3316, 0, 0, 0, 0, 0, 0, 172, 0, 0, 0, 356, 356, 356, 356, 248116, 630, 3700]]
def gfk (k i : Nat) : Nat := (gfkl.getD k []).getD i 0
def gL4 (k : Nat) : Nat := (k - 100) / 8
def gT4 (k : Nat) : Nat := (k - 100) % 8
def gf (v : gV) : es_V := match v.1 with
  | 0 => (0, eI v.2.1)
  | 1 => (0, eI v.2.1)
  | 2 => (2, eJ v.2.1)
  | 4 => (4, 0)
  | 5 => (5, 0)
  | 7 => (7, 0)
  | 8 => (8, v.2.2)
  | 9 => (9, v.2.2)
  | 10 => (10, 0)
  | 11 => if v.2.2 = 0 then (4, 0) else (3, v.2.2)
  | 12 => if v.2.2 = 0 then (4, 0) else (3, v.2.2)
  | _ => (3, v.2.2)
def gok (s : gS) (v : gV) : Prop := match v.1 with
  | 0 => gc32 v.2.1
  | 1 => v.2.1 = 0 ∨ v.2.1 = 1
  | 2 => gc64 v.2.1
  | 11 => v.2.2 ≠ 0 → v.2.2 < gn s ∧ gK s v.2.2 = 4
  | 12 => v.2.2 ≠ 0 → v.2.2 < gn s ∧ ∃ n, n < 1000000 ∧ gK s v.2.2 = 100 + 8 * n
  | t => 16 ≤ t → v.2.2 < gn s ∧ gK s v.2.2 + 16 = t
/-- a field's value, an element's value -/
def gfv (s : gS) (a k i : Nat) : gV := if gfk k i = 0 then (0, gI s a i, 0) else (gfk k i, 0, gR s a i)
def gev (s : gS) (a t j : Nat) : gV := match t with
  | 0 => (0, gI s a j, 0)
  | 1 => (2, gI s a j, 0)
  | 2 => (0, gI s a j, 0)
  | 3 => (18, 0, gR s a j)
  | _ => (23, 0, gR s a j)
def gobj (s : gS) (a : Nat) : es_O := if gK s a < 13 then (0, gK s a, (List.range (gnf (gK s a))).map (fun i => (i, gf (gfv s a (gK s a) i)))) else
  if gK s a < 100 then (1, 0, []) else (gT4 (gK s a) + 2, gL4 (gK s a), (List.range (gL4 (gK s a))).map (fun j => (j, gf (gev s a (gT4 (gK s a)) j))))
def gH (s : gS) : List es_O := (List.range (gn s)).map (gobj s)
def gwt (s : gS) : Prop := ∀ a, a < gn s → (gK s a < 13 → ∀ i, i < gnf (gK s a) → gok s (gfv s a (gK s a) i)) ∧ (100 ≤ gK s a → gL4 (gK s a) < 1000000 ∧ gT4 (gK s a) < 5 ∧ ∀ j, j < gL4 (gK s a) → gok s (gev s a (gT4 (gK s a)) j))
def gext (s s' : gS) : Prop := gn s ≤ gn s' ∧ ∀ a, a < gn s → gK s' a = gK s a
theorem gext_rf (s : gS) : gext s s := ⟨Nat.le_refl _, fun _ _ => rfl⟩
theorem gext_tr {s t u : gS} (h1 : gext s t) (h2 : gext t u) : gext s u := ⟨Nat.le_trans h1.1 h2.1, fun a ha => (h2.2 a (Nat.lt_of_lt_of_le ha h1.1)).trans (h1.2 a ha)⟩
theorem gok_ext {s s' : gS} (h : gext s s') {v : gV} (hv : gok s v) : gok s' v := by
  obtain ⟨t, x, a⟩ := v
  have hgo : ∀ t, (16 ≤ t → a < gn s ∧ gK s a + 16 = t) → (16 ≤ t → a < gn s' ∧ gK s' a + 16 = t) := fun t h1 h2 => by
    obtain ⟨g1, g2⟩ := h1 h2
    exact ⟨Nat.lt_of_lt_of_le g1 h.1, by rw [h.2 a g1]; exact g2⟩
  match t, hv with
  | 0, hv => exact hv
  | 1, hv => exact hv
  | 2, hv => exact hv
  | 3, hv => exact hgo 3 hv
  | 4, hv => exact hgo 4 hv
  | 5, hv => exact hgo 5 hv
  | 6, hv => exact hgo 6 hv
  | 7, hv => exact hgo 7 hv
  | 8, hv => exact hgo 8 hv
  | 9, hv => exact hgo 9 hv
  | 10, hv => exact hgo 10 hv
  | 11, hv => exact fun h2 => ⟨Nat.lt_of_lt_of_le (hv h2).1 h.1, by show gK s' a = 4; rw [h.2 a (hv h2).1]; exact (hv h2).2⟩
  | 12, hv => exact fun h2 => ⟨Nat.lt_of_lt_of_le (hv h2).1 h.1, by show ∃ n, n < 1000000 ∧ gK s' a = 100 + 8 * n; rw [h.2 a (hv h2).1]; exact (hv h2).2⟩
  | t + 13, hv => exact hgo (t + 13) hv
theorem gok_i {s : gS} {v : Int} {a : Nat} : gok s (0, v, a) ↔ gc32 v := Iff.rfl
theorem gok_l {s : gS} {v : Int} {a : Nat} : gok s (2, v, a) ↔ gc64 v := Iff.rfl
theorem gok_r {s : gS} {t a : Nat} {v : Int} : gok s (t + 16, v, a) ↔ (a < gn s ∧ gK s a = t) := by
  constructor
  · intro h
    have h1 := h (Nat.le_add_left 16 t)
    exact ⟨h1.1, by have := h1.2; dsimp only at this; omega⟩
  · intro h h2
    exact ⟨h.1, by dsimp only; omega⟩
theorem gf_r (t a : Nat) (v : Int) : gf (t + 16, v, a) = (3, a) := rfl
theorem gf_2 (v : gV) : Nat.beq (gf v).1 2 = Nat.beq v.1 2 := by
  obtain ⟨t, x, a⟩ := v
  match t with
  | 0 => rfl
  | 1 => rfl
  | 2 => rfl
  | 3 => rfl
  | 4 => rfl
  | 5 => rfl
  | 6 => rfl
  | 7 => rfl
  | 8 => rfl
  | 9 => rfl
  | 10 => rfl
  | 11 =>
    show Nat.beq (if a = 0 then ((4, 0) : es_V) else (3, a)).1 2 = _
    by_cases h : a = 0
    · rw [if_pos h]; rfl
    · rw [if_neg h]; rfl
  | 12 =>
    show Nat.beq (if a = 0 then ((4, 0) : es_V) else (3, a)).1 2 = _
    by_cases h : a = 0
    · rw [if_pos h]; rfl
    · rw [if_neg h]; rfl
  | t + 13 => rfl
theorem grg {α : Type} (f : Nat → α) (k : Nat) : ∀ n, es_get ((List.range n).map (fun i => (i, f i))) k = if k < n then some (f k) else none := by
  intro n
  have hc : ∀ (l1 l2 : List (Nat × α)), es_get (l1 ++ l2) k = (match es_get l1 k with | some v => some v | none => es_get l2 k) := by
    intro l1 l2
    induction l1 with
    | nil => rfl
    | cons q t ih =>
      show (bif Nat.beq q.1 k then some q.2 else es_get (t ++ l2) k) = (match (bif Nat.beq q.1 k then some q.2 else es_get t k) with | some v => some v | none => es_get l2 k)
      cases Nat.beq q.1 k
      · exact ih
      · rfl
  induction n with
  | zero => rfl
  | succ n ih =>
    rw [List.range_succ, List.map_append, hc, ih]
    by_cases h1 : k < n
    · rw [if_pos h1, if_pos (by omega)]
    · rw [if_neg h1]
      dsimp only
      show (bif Nat.beq n k then some (f n) else none) = _
      by_cases h2 : n = k
      · subst h2
        rw [es_beq.mpr rfl, if_pos (by omega)]
        rfl
      · rw [es_beqf.mpr h2, if_neg (by omega)]
        rfl
theorem grs {α : Type} (f : Nat → α) (k : Nat) (v : α) : ∀ (l : List Nat), l.Nodup → k ∈ l → es_set (l.map (fun i => (i, f i))) k v = l.map (fun i => (i, if i = k then v else f i))
  | [], _, h => by cases h
  | j :: t, hn, h => by
    rw [List.nodup_cons] at hn
    show (bif Nat.beq j k then (k, v) :: t.map (fun i => (i, f i)) else (j, f j) :: es_set (t.map (fun i => (i, f i))) k v) = _
    rw [List.map_cons]
    by_cases h2 : j = k
    · subst h2
      rw [es_beq.mpr rfl, if_pos rfl]
      show (j, v) :: _ = _
      congr 1
      apply List.map_congr_left
      intro i hi
      rw [if_neg (fun e => hn.1 (by rw [← e]; exact hi))]
    · rw [es_beqf.mpr h2, if_neg h2]
      show (j, f j) :: _ = _
      rw [grs f k v t hn.2 (by
        rcases List.mem_cons.mp h with h3 | h3
        · exact absurd h3.symm h2
        · exact h3)]
theorem grn {α : Type} (f : Nat → α) {k n : Nat} (h : k < n) (v : α) : es_set ((List.range n).map (fun i => (i, f i))) k v = (List.range n).map (fun i => (i, if i = k then v else f i)) := grs f k v _ List.nodup_range (List.mem_range.mpr h)
theorem gH_len (s : gS) : (gH s).length = gn s := by unfold gH; rw [List.length_map, List.length_range]
theorem gH_at {s : gS} {a : Nat} (h : a < gn s) : (gH s)[a]? = some (gobj s a) := by
  unfold gH
  rw [List.getElem?_map, List.getElem?_range h]
  rfl
theorem gH_set {s s' : gS} {a : Nat} (hn : gn s' = gn s) (h : ∀ b, b < gn s → b ≠ a → gobj s' b = gobj s b) : gH s' = (gH s).set a (gobj s' a) := by
  apply List.ext_getElem?
  intro i
  by_cases hi : i < gn s
  · rw [gH_at (by rw [hn]; exact hi)]
    by_cases hia : a = i
    · subst hia
      rw [List.getElem?_set]
      simp [gH_len, hi]
    · rw [List.getElem?_set_ne hia, gH_at hi, h i hi (Ne.symm hia)]
  · rw [List.getElem?_eq_none (by rw [gH_len, hn]; omega), List.getElem?_eq_none (by rw [List.length_set, gH_len]; omega)]
theorem gH_new {s s' : gS} (hn : gn s' = gn s + 1) (h : ∀ b, b < gn s → gobj s' b = gobj s b) : gH s' = gH s ++ [gobj s' (gn s)] := by
  unfold gH
  rw [hn, List.range_succ, List.map_append]
  congr 1
  apply List.map_congr_left
  intro b hb
  exact h b (List.mem_range.mp hb)
theorem gobj_c {s : gS} {a k : Nat} (h : gK s a = k) (hk : k < 13) : gobj s a = (0, k, (List.range (gnf k)).map (fun i => (i, gf (gfv s a k i)))) := by
  unfold gobj
  rw [h, if_pos hk]
theorem gobj_a {s : gS} {a n t : Nat} (h : gK s a = 100 + 8 * n + t) (ht : t < 8) : gobj s a = (t + 2, n, (List.range n).map (fun j => (j, gf (gev s a t j)))) := by
  have e1 : gT4 (100 + 8 * n + t) = t := by unfold gT4; omega
  have e2 : gL4 (100 + 8 * n + t) = n := by unfold gL4; omega
  unfold gobj
  rw [h, if_neg (by omega), if_neg (by omega), e1, e2]
section Locals
def gL (L : List (Nat × gV)) : es_L := L.map (fun q => (q.1, gf q.2))
def gst (L : List (Nat × gV)) (i : Nat) (v : gV) : List (Nat × gV) := es_set (match i with
  | 0 => L
  | j + 1 => match es_get L j with
    | some w => bif Nat.beq w.1 2 then es_del L j else L
    | none => L) i v
theorem gL_get (L : List (Nat × gV)) (k : Nat) : es_get (gL L) k = (es_get L k).map gf := by
  induction L with
  | nil => rfl
  | cons q t ih =>
    show (bif Nat.beq q.1 k then some (gf q.2) else es_get (gL t) k) = (bif Nat.beq q.1 k then some q.2 else es_get t k).map gf
    cases Nat.beq q.1 k
    · exact ih
    · rfl
theorem gL_set (L : List (Nat × gV)) (k : Nat) (v : gV) : es_set (gL L) k (gf v) = gL (es_set L k v) := by
  induction L with
  | nil => rfl
  | cons q t ih =>
    show (bif Nat.beq q.1 k then (k, gf v) :: gL t else (q.1, gf q.2) :: es_set (gL t) k (gf v)) = gL (bif Nat.beq q.1 k then (k, v) :: t else q :: es_set t k v)
    cases Nat.beq q.1 k
    · show (q.1, gf q.2) :: es_set (gL t) k (gf v) = (q.1, gf q.2) :: gL (es_set t k v)
      rw [ih]
    · rfl
theorem gL_del (L : List (Nat × gV)) (k : Nat) : es_del (gL L) k = gL (es_del L k) := by
  induction L with
  | nil => rfl
  | cons q t ih =>
    show (bif Nat.beq q.1 k then es_del (gL t) k else (q.1, gf q.2) :: es_del (gL t) k) = gL (bif Nat.beq q.1 k then es_del t k else q :: es_del t k)
    cases Nat.beq q.1 k
    · show (q.1, gf q.2) :: es_del (gL t) k = (q.1, gf q.2) :: gL (es_del t k)
      rw [ih]
    · exact ih
theorem gL_st (L : List (Nat × gV)) (i : Nat) (v : gV) : es_st (gL L) i (gf v) = gL (gst L i v) := by
  unfold es_st gst
  cases i with
  | zero => exact gL_set L 0 v
  | succ j =>
    dsimp only
    rw [gL_get]
    cases es_get L j with
    | none => exact gL_set L (j + 1) v
    | some w =>
      dsimp only [Option.map_some]
      rw [gf_2]
      cases Nat.beq w.1 2
      · exact gL_set L (j + 1) v
      · show es_set (es_del (gL L) j) (j + 1) (gf v) = _
        rw [gL_del, gL_set]
        rfl
theorem gmem_set {α : Type} {L : List (Nat × α)} {k : Nat} {v : α} {q : Nat × α} (h : q ∈ es_set L k v) : q ∈ L ∨ q = (k, v) := by
  induction L with
  | nil =>
    right
    exact List.mem_singleton.mp h
  | cons p t ih =>
    unfold es_set at h
    cases hb : Nat.beq p.1 k
    · rw [hb] at h
      rcases List.mem_cons.mp (show q ∈ p :: es_set t k v from h) with h1 | h1
      · exact Or.inl (by rw [h1]; exact List.mem_cons_self)
      · rcases ih h1 with h2 | h2
        · exact Or.inl (List.mem_cons_of_mem _ h2)
        · exact Or.inr h2
    · rw [hb] at h
      rcases List.mem_cons.mp (show q ∈ (k, v) :: t from h) with h1 | h1
      · exact Or.inr h1
      · exact Or.inl (List.mem_cons_of_mem _ h1)
theorem gmem_del {α : Type} {L : List (Nat × α)} {k : Nat} {q : Nat × α} (h : q ∈ es_del L k) : q ∈ L := by
  induction L with
  | nil => exact h
  | cons p t ih =>
    unfold es_del at h
    cases hb : Nat.beq p.1 k
    · rw [hb] at h
      rcases List.mem_cons.mp (show q ∈ p :: es_del t k from h) with h1 | h1
      · rw [h1]; exact List.mem_cons_self
      · exact List.mem_cons_of_mem _ (ih h1)
    · rw [hb] at h
      exact List.mem_cons_of_mem _ (ih h)
theorem gmem_st {L : List (Nat × gV)} {i : Nat} {v : gV} {q : Nat × gV} (h : q ∈ gst L i v) : q ∈ L ∨ q = (i, v) := by
  unfold gst at h
  rcases gmem_set h with h1 | h1
  · left
    cases i with
    | zero => exact h1
    | succ j =>
      dsimp only at h1
      cases hg : es_get L j with
      | none => rw [hg] at h1; exact h1
      | some w =>
        rw [hg] at h1
        dsimp only at h1
        cases hb : Nat.beq w.1 2
        · rw [hb] at h1; exact h1
        · rw [hb] at h1; exact gmem_del h1
  · exact Or.inr h1
theorem gget_mem {α : Type} : ∀ {L : List (Nat × α)} {k : Nat} {v : α}, es_get L k = some v → (k, v) ∈ L
  | [], _, _, h => by cases h
  | q :: t, k, v, h => by
    unfold es_get at h
    cases hb : Nat.beq q.1 k
    · rw [hb] at h
      exact List.mem_cons_of_mem _ (gget_mem h)
    · rw [hb] at h
      cases h
      rw [← es_beq.mp hb]
      exact List.mem_cons_self
end Locals
end
section
abbrev gX : Type := (Nat → es_M) × List (String × Nat × String) × Nat × (Nat → es_K → List es_E → Prop) × es_F
def gM0 (X : gX) : Nat → es_M := X.1
def gts (X : gX) : List (String × Nat × String) := X.2.1
def gSL (X : gX) : Nat := X.2.2.1
def gRS (X : gX) : Nat → es_K → List es_E → Prop := X.2.2.2.1
def gF (X : gX) : es_F := X.2.2.2.2
def gdp (d : Nat) (T : es_M) : es_M := (T.1, T.2.1, T.2.2.1, T.2.2.2.1, T.2.2.2.2.1, T.2.2.2.2.2.1, T.2.2.2.2.2.2.1, 8 + d, es_mc T, es_ms T, 300 + 64 * d)
def gME (ME0 : Nat → es_M) (M : Nat) : es_M := gdp (M / 512) (ME0 (M % 512))
theorem gME_at (ME0 : Nat → es_M) {m : Nat} (h : m < 512) (d : Nat) : gME ME0 (m + 512 * d) = gdp d (ME0 m) := by
  unfold gME
  rw [show (m + 512 * d) / 512 = d by omega, show (m + 512 * d) % 512 = m by omega]
theorem gcal_at {m' : Nat} (m d : Nat) (h : m < 512) (h' : m' < 512) : es_cal (m + 512 * (d + 1)) m' = m' + 512 * d := by
  unfold es_cal
  rw [show (m + 512 * (d + 1)) / 512 = d + 1 by omega, Nat.mod_eq_of_lt h']
  rfl
def gOK (X : gX) : Prop :=
  (∀ ih : Nat → es_K → Option (List es_E), (∀ M K ends, ih M K = some ends → gRS X M K ends) → ∀ M K ends, es_step (gME (gM0 X)) (gts X) (gSL X) ih M K = some ends → gRS X M K ends) ∧
  (∀ M pc (L L' : es_L) S AH F cs ss ends, (∀ i v, es_get L i = some v → es_get L' i = some v) → gRS X M (pc, L, S, AH, F, cs, ss) ends → gRS X M (pc, L', S, AH, F, cs, ss) ends) ∧
  ∀ M K, gRS X M K [(0, K)]
/-- rows that stand one behind another -/
def gch (T : es_M) : Nat → List es_I → Bool
  | _, [] => true
  | pc, e :: r => (Nat.beq e.1 pc && decide (es_at (es_tab T) pc = some e)) && gch T (pc + e.2.2.1) r
def gRt (T : es_M) : Nat := match es_rt T with
  | none => 99
  | some .int => 0
  | some .boolean => 1
  | some .long => 2
  | some (.object _) => 11
  | some (.array _) => 12
  | some _ => 0
def gLf (X : gX) (T : es_M) (r : gO) : es_Lf := (r.1, (if r.1 = 1 then gf (gRt T, r.2.1, r.2.2.1) else (0, 0)), gH r.2.2.2, gF X)
def gEnd (X : gX) (T : es_M) (m d : Nat) (s : gS) (r : gO) (K : es_K) : Prop :=
  ∃ E, gRS X (m + 512 * d) K [E] ∧ es_leaf (gdp d T) E = some (gLf X T r) ∧ gext s r.2.2.2 ∧ gwt r.2.2.2 ∧ (r.1 = 1 → gok r.2.2.2 (gRt T, r.2.1, r.2.2.1))
def Go (X : gX) (T : es_M) (m d pc : Nat) (cd : List es_I) (L : List (Nat × gV)) (S : List gV) (s : gS) (cs ss : Nat) {Q : Type} (x : Option Q) (κ : Q → Option gO) : Prop :=
  gM0 X m = T → m < 512 → gch T pc cd = true → gwt s → (∀ q ∈ L, gok s q.2) → (∀ v ∈ S, gok s v) → ∀ r, x.bind κ = some r → gEnd X T m d s r (pc, gL L, S.map gf, gH s, gF X, cs, ss)
section GoR
variable {X : gX} {T : es_M} {m d pc pc' : Nat} {cd cd' : List es_I} {L L' : List (Nat × gV)} {S S' : List gV} {s s' : gS} {cs ss : Nat} {Q : Type} {x : Option Q} {κ : Q → Option gO}
theorem gch_hd {e : es_I} (h : gch T pc (e :: cd) = true) : es_at (es_tab T) pc = some e ∧ gch T (pc + e.2.2.1) cd = true := by
  unfold gch at h
  simp only [Bool.and_eq_true, es_beq, decide_eq_true_eq] at h
  exact ⟨h.1.2, h.2⟩
theorem gEnd_ext {r : gO} {K : es_K} (h : gext s s') (g : gEnd X T m d s' r K) : gEnd X T m d s r K := by
  obtain ⟨E, h1, h2, h3, h4⟩ := g
  exact ⟨E, h1, h2, gext_tr h h3, h4⟩
/-- another list of rows at the same place -/
theorem g_re (h : gch T pc cd' = true) (k : Go X T m d pc cd' L S s cs ss x κ) : Go X T m d pc cd L S s cs ss x κ :=
  fun h0 hm _ hw hl hs r hr => k h0 hm h hw hl hs r hr
/-- fewer locals -/
def gsub (L' L : List (Nat × gV)) : Prop := ∀ i v, es_get L' i = some v → es_get L i = some v
theorem g_wk (ok : gOK X) (hsub : L'.all (fun q => decide (es_get L' q.1 = some q.2)) = true) (hL : ∀ q ∈ L', es_get L q.1 = some q.2) (k : Go X T m d pc cd L' S s cs ss x κ) : Go X T m d pc cd L S s cs ss x κ := by
  intro h0 hm hc hw hl hs r hr
  obtain ⟨E, h1, h2⟩ := k h0 hm hc hw (fun q hq => hl (q.1, q.2) (gget_mem (hL q hq))) hs r hr
  refine ⟨E, ok.2.1 _ _ _ _ _ _ _ _ _ _ (fun i v hv => ?_) h1, h2⟩
  rw [gL_get] at hv ⊢
  cases hg : es_get L' i with
  | none => rw [hg] at hv; cases hv
  | some w =>
    rw [hg] at hv
    rw [hL (i, w) (gget_mem hg)]
    exact hv
theorem g_st (ok : gOK X) {r : gO} {K K' : es_K} (hs : ∀ ih : Nat → es_K → Option (List es_E), es_step (gME (gM0 X)) (gts X) (gSL X) ih (m + 512 * d) K = ih (m + 512 * d) K') (g : gEnd X T m d s r K') : gEnd X T m d s r K := by
  obtain ⟨E, h1, h2⟩ := g
  refine ⟨E, ok.1 (fun M K1 => @ite _ (M = m + 512 * d ∧ K1 = K') (Classical.propDecidable _) (some [E]) none) (fun M K1 ends he => ?_) _ _ _ ?_, h2⟩
  · by_cases hc : M = m + 512 * d ∧ K1 = K'
    · rw [if_pos hc] at he
      cases he
      rw [hc.1, hc.2]
      exact h1
    · rw [if_neg hc] at he
      cases he
  · rw [hs, if_pos ⟨rfl, rfl⟩]
theorem gtab {e : es_I} (h0 : gM0 X m = T) (hm : m < 512) (hat : es_at (es_tab T) pc = some e) : es_at (es_tab (gME (gM0 X) (m + 512 * d))) pc = some e := by
  rw [gME_at _ hm, h0]
  exact hat
theorem gmL (h0 : gM0 X m = T) (hm : m < 512) : es_mL (gME (gM0 X) (m + 512 * d)) = es_mL T := by
  rw [gME_at _ hm, h0]
  rfl
theorem gs_pure {ME : Nat → es_M} {strs : List (String × Nat × String)} {SL : Nat} {ih : Nat → es_K → Option (List es_E)} {M : Nat} {e : es_I} {Le Le' : es_L} {Se Se' : List es_V} {AH : List es_O} {F : es_F} (hat : es_at (es_tab (ME M)) pc = some e) (haux : e.2.2.2 = []) (hp : es_pure (es_mL (ME M)) e.2.1 pc Le Se F = some (pc', Le', Se')) :
    es_step ME strs SL ih M (pc, Le, Se, AH, F, cs, ss) = ih M (pc', Le', Se', AH, F, cs, ss) := by
  unfold es_step
  dsimp only
  rw [hat]
  dsimp only
  rw [haux]
  dsimp only
  rw [hp]
theorem gs_hs {ME : Nat → es_M} {strs : List (String × Nat × String)} {SL : Nat} {ih : Nat → es_K → Option (List es_E)} {M : Nat} {e : es_I} {Le : es_L} {Se : List es_V} {AH : List es_O} {F : es_F} {K' : es_K} (hat : es_at (es_tab (ME M)) pc = some e) (hpu : es_pure (es_mL (ME M)) e.2.1 pc Le Se F = none) (hax : ∀ a t, e.2.2.2 = a :: t → a ≠ 100 ∧ a ≠ 200 ∧ a ≠ 60) (hh : es_hs SL (ME M) e (pc, Le, Se, AH, F, cs, ss) = some K') :
    es_step ME strs SL ih M (pc, Le, Se, AH, F, cs, ss) = ih M K' := by
  unfold es_step
  dsimp only
  rw [hat]
  dsimp only
  split
  · rename_i h; exact absurd rfl (hax _ _ h).2.1
  · rename_i h; exact absurd rfl (hax _ _ h).1
  · rename_i h; exact absurd rfl (hax _ _ h).2.2
  · rw [hpu]
    dsimp only
    rw [hh]
theorem g_pure (ok : gOK X) {e : es_I} (haux : e.2.2.2 = []) (hp : gwt s → (∀ q ∈ L, gok s q.2) → (∀ v ∈ S, gok s v) → es_pure (es_mL T) e.2.1 pc (gL L) (S.map gf) (gF X) = some (pc', gL L', S'.map gf) ∧ (∀ q ∈ L', gok s q.2) ∧ ∀ v ∈ S', gok s v) (hc : gch T pc (e :: cd) = true → gch T pc' cd' = true) (k : Go X T m d pc' cd' L' S' s cs ss x κ) : Go X T m d pc (e :: cd) L S s cs ss x κ := by
  intro h0 hm hch hw hl hs r hr
  obtain ⟨h1, h2, h3⟩ := hp hw hl hs
  refine g_st ok (fun ih => ?_) (k h0 hm (hc hch) hw h2 h3 r hr)
  exact gs_pure (gtab h0 hm (gch_hd hch).1) haux (by rw [gmL h0 hm]; exact h1)
theorem gS1 {v : gV} (hs : ∀ v ∈ S, gok s v) (hv : gok s v) : ∀ w ∈ v :: S, gok s w := fun w hw => by
  rcases List.mem_cons.mp hw with rfl | h
  · exact hv
  · exact hs w h
theorem gS2 {v : gV} (hs : ∀ w ∈ v :: S, gok s w) : gok s v ∧ ∀ w ∈ S, gok s w := ⟨hs v List.mem_cons_self, fun w hw => hs w (List.mem_cons_of_mem _ hw)⟩
theorem gLs {i : Nat} {v : gV} (hl : ∀ q ∈ L, gok s q.2) (hv : gok s v) : ∀ q ∈ gst L i v, gok s q.2 := fun q hq => by
  rcases gmem_st hq with h | rfl
  · exact hl q h
  · exact hv
theorem gch1 {e : es_I} {n : Nat} (h : e.2.2.1 = n) : gch T pc (e :: cd) = true → gch T (pc + n) cd = true := fun hc => by
  rw [← h]
  exact (gch_hd hc).2
/-- constants -/
theorem g_iconst (ok : gOK X) {n : Int} {v : Int} (hv : (Int32.ofInt n).toInt = v) (k : Go X T m d (pc + 1) cd L ((0, v, 0) :: S) s cs ss x κ) : Go X T m d pc ((pc, .iconst n, 1, []) :: cd) L S s cs ss x κ :=
  g_pure ok rfl (fun hw hl hs => ⟨by show some (pc + 1, gL L, es_c (Int32.ofInt n) :: S.map gf) = _; rw [ges, hv]; rfl, hl, gS1 hs (by rw [← hv]; exact gc32_t _)⟩) (gch1 rfl) k
theorem g_bipush (ok : gOK X) {n : Int} {v : Int} (hv : ((Int8.ofInt n).toInt32).toInt = v) (k : Go X T m d (pc + 2) cd L ((0, v, 0) :: S) s cs ss x κ) : Go X T m d pc ((pc, .bipush n, 2, []) :: cd) L S s cs ss x κ :=
  g_pure ok rfl (fun hw hl hs => ⟨by show some (pc + 2, gL L, es_c ((Int8.ofInt n).toInt32) :: S.map gf) = _; rw [ges, hv]; rfl, hl, gS1 hs (by rw [← hv]; exact gc32_t _)⟩) (gch1 rfl) k
theorem g_sipush (ok : gOK X) {n : Int} {v : Int} (hv : ((Int16.ofInt n).toInt32).toInt = v) (k : Go X T m d (pc + 3) cd L ((0, v, 0) :: S) s cs ss x κ) : Go X T m d pc ((pc, .sipush n, 3, []) :: cd) L S s cs ss x κ :=
  g_pure ok rfl (fun hw hl hs => ⟨by show some (pc + 3, gL L, es_c ((Int16.ofInt n).toInt32) :: S.map gf) = _; rw [ges, hv]; rfl, hl, gS1 hs (by rw [← hv]; exact gc32_t _)⟩) (gch1 rfl) k
theorem g_lconst (ok : gOK X) {n : Fin 2} {v : Int} (hv : (Int64.ofNat (n : Nat)).toInt = v) (k : Go X T m d (pc + 1) cd L ((2, v, 0) :: S) s cs ss x κ) : Go X T m d pc ((pc, .lconst n, 1, []) :: cd) L S s cs ss x κ :=
  g_pure ok rfl (fun hw hl hs => ⟨by show some (pc + 1, gL L, es_lc (Int64.ofNat (n : Nat)) :: S.map gf) = _; rw [gel, hv]; rfl, hl, gS1 hs (by rw [← hv]; exact gc64_t _)⟩) (gch1 rfl) k
theorem g_null (ok : gOK X) (k : Go X T m d (pc + 1) cd L ((4, 0, 0) :: S) s cs ss x κ) : Go X T m d pc ((pc, .aconst_null, 1, []) :: cd) L S s cs ss x κ :=
  g_pure ok rfl (fun hw hl hs => ⟨rfl, hl, gS1 hs (show gok s (4, 0, 0) from fun h => absurd h (by decide))⟩) (gch1 rfl) k
/-- loads -/
theorem g_ld {t : es_V → Bool} {i n : Nat} {v : gV} (h : es_get L i = some v) (ht : t (gf v) = true) : es_ld t i n pc (gL L) (S.map gf) = some (pc + n, gL L, (v :: S).map gf) := by
  unfold es_ld
  rw [gL_get, h]
  dsimp only [Option.map_some]
  rw [ht]
  rfl
theorem g_iload_n (ok : gOK X) {i : Fin 4} {v : Int} {a : Nat} (h : es_get L i = some (0, v, a)) (k : Go X T m d (pc + 1) cd L ((0, v, a) :: S) s cs ss x κ) : Go X T m d pc ((pc, .iload_n i, 1, []) :: cd) L S s cs ss x κ :=
  g_pure ok rfl (fun hw hl hs => ⟨g_ld h rfl, hl, gS1 hs (hl _ (gget_mem h))⟩) (gch1 rfl) k
theorem g_iload (ok : gOK X) {i : Nat} {v : Int} {a : Nat} (h : es_get L i = some (0, v, a)) (k : Go X T m d (pc + 2) cd L ((0, v, a) :: S) s cs ss x κ) : Go X T m d pc ((pc, .iload i, 2, []) :: cd) L S s cs ss x κ :=
  g_pure ok rfl (fun hw hl hs => ⟨g_ld h rfl, hl, gS1 hs (hl _ (gget_mem h))⟩) (gch1 rfl) k
theorem g_lload_n (ok : gOK X) {i : Fin 4} {v : Int} {a : Nat} (h : es_get L i = some (2, v, a)) (k : Go X T m d (pc + 1) cd L ((2, v, a) :: S) s cs ss x κ) : Go X T m d pc ((pc, .lload_n i, 1, []) :: cd) L S s cs ss x κ :=
  g_pure ok rfl (fun hw hl hs => ⟨g_ld h rfl, hl, gS1 hs (hl _ (gget_mem h))⟩) (gch1 rfl) k
theorem g_lload (ok : gOK X) {i : Nat} {v : Int} {a : Nat} (h : es_get L i = some (2, v, a)) (k : Go X T m d (pc + 2) cd L ((2, v, a) :: S) s cs ss x κ) : Go X T m d pc ((pc, .lload i, 2, []) :: cd) L S s cs ss x κ :=
  g_pure ok rfl (fun hw hl hs => ⟨g_ld h rfl, hl, gS1 hs (hl _ (gget_mem h))⟩) (gch1 rfl) k
/-- what an aload takes -/
def gtr (t : Nat) : Bool := Nat.ble 16 t || (Nat.beq t 4 || (Nat.beq t 5 || (Nat.beq t 8 || (Nat.beq t 9 || (Nat.beq t 11 || Nat.beq t 12)))))
theorem gtr_ok {v : gV} (h : gtr v.1 = true) : es_tr (gf v) = true := by
  obtain ⟨t, w, a⟩ := v
  have hn : ∀ b : Nat, es_tr (if b = 0 then ((4, 0) : es_V) else (3, b)) = true := fun b => by
    by_cases hb : b = 0
    · rw [if_pos hb]; rfl
    · rw [if_neg hb]; rfl
  match t, h with
  | 0, h => cases h
  | 1, h => cases h
  | 2, h => cases h
  | 3, h => cases h
  | 4, h => rfl
  | 5, h => rfl
  | 6, h => cases h
  | 7, h => cases h
  | 8, h => rfl
  | 9, h => rfl
  | 10, h => cases h
  | 11, h => exact hn a
  | 12, h => exact hn a
  | t + 13, h => rfl
theorem g_aload_n (ok : gOK X) {i : Fin 4} {v : gV} (h : es_get L i = some v) (ht : gtr v.1 = true) (k : Go X T m d (pc + 1) cd L (v :: S) s cs ss x κ) : Go X T m d pc ((pc, .aload_n i, 1, []) :: cd) L S s cs ss x κ :=
  g_pure ok rfl (fun hw hl hs => ⟨g_ld h (gtr_ok ht), hl, gS1 hs (hl _ (gget_mem h))⟩) (gch1 rfl) k
theorem g_aload (ok : gOK X) {i : Nat} {v : gV} (h : es_get L i = some v) (ht : gtr v.1 = true) (k : Go X T m d (pc + 2) cd L (v :: S) s cs ss x κ) : Go X T m d pc ((pc, .aload i, 2, []) :: cd) L S s cs ss x κ :=
  g_pure ok rfl (fun hw hl hs => ⟨g_ld h (gtr_ok ht), hl, gS1 hs (hl _ (gget_mem h))⟩) (gch1 rfl) k
/-- stores -/
theorem g_sto {t : es_V → Bool} {i n nL : Nat} {v : gV} (hn : Nat.blt i nL = true) (ht : t (gf v) = true) : es_sto t nL i n pc (gL L) ((v :: S).map gf) = some (pc + n, gL (gst L i v), S.map gf) := by
  show (bif t (gf v) && Nat.blt i nL then some (pc + n, es_st (gL L) i (gf v), S.map gf) else none) = _
  rw [ht, hn, gL_st]
  rfl
theorem g_istore_n (ok : gOK X) {i : Fin 4} {v : Int} {a : Nat} (hn : Nat.blt i (es_mL T) = true) (hL : gst L i (0, v, a) = L') (k : Go X T m d (pc + 1) cd L' S s cs ss x κ) : Go X T m d pc ((pc, .istore_n i, 1, []) :: cd) L ((0, v, a) :: S) s cs ss x κ := by
  subst hL
  exact g_pure ok rfl (fun hw hl hs => ⟨g_sto hn rfl, gLs hl (gS2 hs).1, (gS2 hs).2⟩) (gch1 rfl) k
theorem g_istore (ok : gOK X) {i : Nat} {v : Int} {a : Nat} (hn : Nat.blt i (es_mL T) = true) (hL : gst L i (0, v, a) = L') (k : Go X T m d (pc + 2) cd L' S s cs ss x κ) : Go X T m d pc ((pc, .istore i, 2, []) :: cd) L ((0, v, a) :: S) s cs ss x κ := by
  subst hL
  exact g_pure ok rfl (fun hw hl hs => ⟨g_sto hn rfl, gLs hl (gS2 hs).1, (gS2 hs).2⟩) (gch1 rfl) k
theorem gta_ok {v : gV} (h : (gtr v.1 || Nat.beq v.1 7) = true) : es_ta (gf v) = true := by
  unfold es_ta
  rw [Bool.or_eq_true] at h ⊢
  rcases h with h | h
  · exact Or.inl (gtr_ok h)
  · obtain ⟨t, w⟩ := v
    have e := es_beq.mp h
    dsimp only at e
    subst e
    exact Or.inr rfl
theorem g_astore_n (ok : gOK X) {i : Fin 4} {v : gV} (hn : Nat.blt i (es_mL T) = true) (ht : (gtr v.1 || Nat.beq v.1 7) = true) (hL : gst L i v = L') (k : Go X T m d (pc + 1) cd L' S s cs ss x κ) : Go X T m d pc ((pc, .astore_n i, 1, []) :: cd) L (v :: S) s cs ss x κ := by
  subst hL
  exact g_pure ok rfl (fun hw hl hs => ⟨g_sto hn (gta_ok ht), gLs hl (gS2 hs).1, (gS2 hs).2⟩) (gch1 rfl) k
theorem g_astore (ok : gOK X) {i : Nat} {v : gV} (hn : Nat.blt i (es_mL T) = true) (ht : (gtr v.1 || Nat.beq v.1 7) = true) (hL : gst L i v = L') (k : Go X T m d (pc + 2) cd L' S s cs ss x κ) : Go X T m d pc ((pc, .astore i, 2, []) :: cd) L (v :: S) s cs ss x κ := by
  subst hL
  exact g_pure ok rfl (fun hw hl hs => ⟨g_sto hn (gta_ok ht), gLs hl (gS2 hs).1, (gS2 hs).2⟩) (gch1 rfl) k
theorem g_lst {i n nL : Nat} {v : Int} {a : Nat} (hn : Nat.blt (i + 1) nL = true) : es_lst nL i n pc (gL L) (((2, v, a) :: S).map gf) = some (pc + n, gL (es_del (gst L i (2, v, a)) (i + 1)), S.map gf) := by
  show (bif Nat.beq 2 2 && Nat.blt (i + 1) nL then some (pc + n, es_del (es_st (gL L) i (gf (2, v, a))) (i + 1), S.map gf) else none) = _
  rw [hn, gL_st, gL_del]
  rfl
theorem g_lstore_n (ok : gOK X) {i : Fin 4} {v : Int} {a : Nat} (hn : Nat.blt (i + 1) (es_mL T) = true) (hL : es_del (gst L i (2, v, a)) (i + 1) = L') (k : Go X T m d (pc + 1) cd L' S s cs ss x κ) : Go X T m d pc ((pc, .lstore_n i, 1, []) :: cd) L ((2, v, a) :: S) s cs ss x κ := by
  subst hL
  exact g_pure ok rfl (fun hw hl hs => ⟨g_lst hn, fun q hq => gLs hl (gS2 hs).1 q (gmem_del hq), (gS2 hs).2⟩) (gch1 rfl) k
theorem g_lstore (ok : gOK X) {i : Nat} {v : Int} {a : Nat} (hn : Nat.blt (i + 1) (es_mL T) = true) (hL : es_del (gst L i (2, v, a)) (i + 1) = L') (k : Go X T m d (pc + 2) cd L' S s cs ss x κ) : Go X T m d pc ((pc, .lstore i, 2, []) :: cd) L ((2, v, a) :: S) s cs ss x κ := by
  subst hL
  exact g_pure ok rfl (fun hw hl hs => ⟨g_lst hn, fun q hq => gLs hl (gS2 hs).1 q (gmem_del hq), (gS2 hs).2⟩) (gch1 rfl) k
theorem g_iinc (ok : gOK X) {i : Nat} {n v : Int} {a : Nat} (h : es_get L i = some (0, v, a)) (hn : Nat.blt i (es_mL T) = true) (hL : gst L i (0, g32 (v + n), 0) = L') (k : Go X T m d (pc + 3) cd L' S s cs ss x κ) : Go X T m d pc ((pc, .iinc i n, 3, []) :: cd) L S s cs ss x κ := by
  subst hL
  refine g_pure ok rfl (fun hw hl hs => ⟨?_, gLs hl (gok_i.mpr (gc32_b _)), hs⟩) (gch1 rfl) k
  show (match es_get (gL L) i with
    | some v => bif es_ti v && Nat.blt i (es_mL T) then some (pc + 3, es_st (gL L) i (es_un (fun x => x + Int32.ofInt n) (gF X) v), S.map gf) else none
    | none => none) = _
  rw [gL_get, h]
  show (bif es_ti (0, eI v) && Nat.blt i (es_mL T) then some (pc + 3, es_st (gL L) i (es_un (fun x => x + Int32.ofInt n) (gF X) (0, eI v)), S.map gf) else none) = _
  rw [hn, gun, g32_add, ← gL_st]
  rfl
/-- arithmetic -/
theorem g_op2 (ok : gOK X) {ins : Instr} (f : Int32 → Int32 → Int32) (hf : ∀ nL pc L S F, es_pure nL ins pc L S F = es_i2 f pc L S F) {v w z : Int} {a b : Nat} (hz : (f (Int32.ofInt v) (Int32.ofInt w)).toInt = z) (k : Go X T m d (pc + 1) cd L ((0, z, 0) :: S) s cs ss x κ) : Go X T m d pc ((pc, ins, 1, []) :: cd) L ((0, w, b) :: (0, v, a) :: S) s cs ss x κ := by
  refine g_pure ok rfl (fun hw hl hs => ⟨?_, hl, gS1 (gS2 (gS2 hs).2).2 (gok_i.mpr (by rw [← hz]; exact gc32_t _))⟩) (gch1 rfl) k
  show es_pure (es_mL T) ins pc _ _ _ = _
  rw [hf]
  show some (pc + 1, gL L, es_bin f (gF X) (0, eI v) (0, eI w) :: S.map gf) = _
  rw [gbn, hz]
  rfl
theorem g_iadd (ok : gOK X) {v w : Int} {a b : Nat} (k : Go X T m d (pc + 1) cd L ((0, g32 (v + w), 0) :: S) s cs ss x κ) : Go X T m d pc ((pc, .iadd, 1, []) :: cd) L ((0, w, b) :: (0, v, a) :: S) s cs ss x κ := g_op2 ok (fun x y => x + y) (fun _ _ _ _ _ => rfl) (g32_add v w) k
theorem g_isub (ok : gOK X) {v w : Int} {a b : Nat} (k : Go X T m d (pc + 1) cd L ((0, g32 (v - w), 0) :: S) s cs ss x κ) : Go X T m d pc ((pc, .isub, 1, []) :: cd) L ((0, w, b) :: (0, v, a) :: S) s cs ss x κ := g_op2 ok (fun x y => x - y) (fun _ _ _ _ _ => rfl) (g32_sub v w) k
theorem g_imul (ok : gOK X) {v w : Int} {a b : Nat} (k : Go X T m d (pc + 1) cd L ((0, g32 (v * w), 0) :: S) s cs ss x κ) : Go X T m d pc ((pc, .imul, 1, []) :: cd) L ((0, w, b) :: (0, v, a) :: S) s cs ss x κ := g_op2 ok (fun x y => x * y) (fun _ _ _ _ _ => rfl) (g32_mul v w) k
theorem g_iand (ok : gOK X) {v w : Int} {a b : Nat} (k : Go X T m d (pc + 1) cd L ((0, gand v w, 0) :: S) s cs ss x κ) : Go X T m d pc ((pc, .iand, 1, []) :: cd) L ((0, w, b) :: (0, v, a) :: S) s cs ss x κ := g_op2 ok (fun x y => x &&& y) (fun _ _ _ _ _ => rfl) rfl k
theorem g_ior (ok : gOK X) {v w : Int} {a b : Nat} (k : Go X T m d (pc + 1) cd L ((0, gor v w, 0) :: S) s cs ss x κ) : Go X T m d pc ((pc, .ior, 1, []) :: cd) L ((0, w, b) :: (0, v, a) :: S) s cs ss x κ := g_op2 ok (fun x y => x ||| y) (fun _ _ _ _ _ => rfl) rfl k
theorem g_ixor (ok : gOK X) {v w : Int} {a b : Nat} (k : Go X T m d (pc + 1) cd L ((0, gxor v w, 0) :: S) s cs ss x κ) : Go X T m d pc ((pc, .ixor, 1, []) :: cd) L ((0, w, b) :: (0, v, a) :: S) s cs ss x κ := g_op2 ok (fun x y => x ^^^ y) (fun _ _ _ _ _ => rfl) rfl k
theorem g_ishl (ok : gOK X) {v w : Int} {a b : Nat} (k : Go X T m d (pc + 1) cd L ((0, gshl v w, 0) :: S) s cs ss x κ) : Go X T m d pc ((pc, .ishl, 1, []) :: cd) L ((0, w, b) :: (0, v, a) :: S) s cs ss x κ := g_op2 ok (fun x y => x <<< (y &&& 31)) (fun _ _ _ _ _ => rfl) rfl k
theorem g_ishr (ok : gOK X) {v w : Int} {a b : Nat} (k : Go X T m d (pc + 1) cd L ((0, gshr v w, 0) :: S) s cs ss x κ) : Go X T m d pc ((pc, .ishr, 1, []) :: cd) L ((0, w, b) :: (0, v, a) :: S) s cs ss x κ := g_op2 ok (fun x y => x >>> (y &&& 31)) (fun _ _ _ _ _ => rfl) rfl k
theorem g_iushr (ok : gOK X) {v w : Int} {a b : Nat} (k : Go X T m d (pc + 1) cd L ((0, gushr v w, 0) :: S) s cs ss x κ) : Go X T m d pc ((pc, .iushr, 1, []) :: cd) L ((0, w, b) :: (0, v, a) :: S) s cs ss x κ := g_op2 ok (fun x y => (x.toUInt32 >>> (y.toUInt32 &&& Int32.toUInt32 31)).toInt32) (fun _ _ _ _ _ => rfl) rfl k
theorem g_opd (ok : gOK X) {ins : Instr} (f : Int32 → Int32 → Int32) (hf : ∀ nL pc L S F, es_pure nL ins pc L S F = es_d2 f pc L S F) {v w z : Int} {a b : Nat} (h0 : w ≠ 0) (hz : (f (Int32.ofInt v) (Int32.ofInt w)).toInt = z) (k : Go X T m d (pc + 1) cd L ((0, z, 0) :: S) s cs ss x κ) : Go X T m d pc ((pc, ins, 1, []) :: cd) L ((0, w, b) :: (0, v, a) :: S) s cs ss x κ := by
  refine g_pure ok rfl (fun hw hl hs => ⟨?_, hl, gS1 (gS2 (gS2 hs).2).2 (gok_i.mpr (by rw [← hz]; exact gc32_t _))⟩) (gch1 rfl) k
  show es_pure (es_mL T) ins pc _ _ _ = _
  rw [hf]
  show (bif es_ti (0, eI v) && (es_ti (0, eI w) && !decide (nI (eI w) = 0)) then some (pc + 1, gL L, es_bin f (gF X) (0, eI v) (0, eI w) :: S.map gf) else none) = _
  rw [gz0 (gok_i.mp (gS2 hs).1) h0, gbn, hz]
  rfl
theorem g_idiv (ok : gOK X) {v w : Int} {a b : Nat} (h0 : w ≠ 0) (k : Go X T m d (pc + 1) cd L ((0, gdiv v w, 0) :: S) s cs ss x κ) : Go X T m d pc ((pc, .idiv, 1, []) :: cd) L ((0, w, b) :: (0, v, a) :: S) s cs ss x κ := g_opd ok (fun x y => x / y) (fun _ _ _ _ _ => rfl) h0 rfl k
theorem g_irem (ok : gOK X) {v w : Int} {a b : Nat} (h0 : w ≠ 0) (k : Go X T m d (pc + 1) cd L ((0, grem v w, 0) :: S) s cs ss x κ) : Go X T m d pc ((pc, .irem, 1, []) :: cd) L ((0, w, b) :: (0, v, a) :: S) s cs ss x κ := g_opd ok (fun x y => x - x / y * y) (fun _ _ _ _ _ => rfl) h0 rfl k
theorem g_ineg (ok : gOK X) {v : Int} {a : Nat} (k : Go X T m d (pc + 1) cd L ((0, g32 (-v), 0) :: S) s cs ss x κ) : Go X T m d pc ((pc, .ineg, 1, []) :: cd) L ((0, v, a) :: S) s cs ss x κ := by
  refine g_pure ok rfl (fun hw hl hs => ⟨?_, hl, gS1 (gS2 hs).2 (gok_i.mpr (gc32_b _))⟩) (gch1 rfl) k
  show some (pc + 1, gL L, es_un (fun x => -x) (gF X) (0, eI v) :: S.map gf) = _
  rw [gun, g32_neg]
  rfl
theorem g_i2c (ok : gOK X) {v : Int} {a : Nat} (k : Go X T m d (pc + 1) cd L ((0, gi2c v, 0) :: S) s cs ss x κ) : Go X T m d pc ((pc, .i2c, 1, []) :: cd) L ((0, v, a) :: S) s cs ss x κ := by
  refine g_pure ok rfl (fun hw hl hs => ⟨?_, hl, gS1 (gS2 hs).2 (gok_i.mpr (gc32_t _))⟩) (gch1 rfl) k
  show some (pc + 1, gL L, es_un (fun x => (x.toUInt32 % 65536).toInt32) (gF X) (0, eI v) :: S.map gf) = _
  rw [gun]
  rfl
theorem g_op2l (ok : gOK X) {ins : Instr} (f : Int64 → Int64 → Int64) (hf : ∀ nL pc L S F, es_pure nL ins pc L S F = es_l2 f pc L S) {v w z : Int} {a b : Nat} (hz : (f (Int64.ofInt v) (Int64.ofInt w)).toInt = z) (k : Go X T m d (pc + 1) cd L ((2, z, 0) :: S) s cs ss x κ) : Go X T m d pc ((pc, ins, 1, []) :: cd) L ((2, w, b) :: (2, v, a) :: S) s cs ss x κ := by
  refine g_pure ok rfl (fun hw hl hs => ⟨?_, hl, gS1 (gS2 (gS2 hs).2).2 (gok_l.mpr (by rw [← hz]; exact gc64_t _))⟩) (gch1 rfl) k
  show es_pure (es_mL T) ins pc _ _ _ = _
  rw [hf]
  show some (pc + 1, gL L, es_lbin f (2, eJ v) (2, eJ w) :: S.map gf) = _
  rw [glb, hz]
  rfl
theorem g_ladd (ok : gOK X) {v w : Int} {a b : Nat} (k : Go X T m d (pc + 1) cd L ((2, g64 (v + w), 0) :: S) s cs ss x κ) : Go X T m d pc ((pc, .ladd, 1, []) :: cd) L ((2, w, b) :: (2, v, a) :: S) s cs ss x κ := g_op2l ok (fun x y => x + y) (fun _ _ _ _ _ => rfl) (g64_add v w) k
theorem g_lsub (ok : gOK X) {v w : Int} {a b : Nat} (k : Go X T m d (pc + 1) cd L ((2, g64 (v - w), 0) :: S) s cs ss x κ) : Go X T m d pc ((pc, .lsub, 1, []) :: cd) L ((2, w, b) :: (2, v, a) :: S) s cs ss x κ := g_op2l ok (fun x y => x - y) (fun _ _ _ _ _ => rfl) (g64_sub v w) k
theorem g_lmul (ok : gOK X) {v w : Int} {a b : Nat} (k : Go X T m d (pc + 1) cd L ((2, g64 (v * w), 0) :: S) s cs ss x κ) : Go X T m d pc ((pc, .lmul, 1, []) :: cd) L ((2, w, b) :: (2, v, a) :: S) s cs ss x κ := g_op2l ok (fun x y => x * y) (fun _ _ _ _ _ => rfl) (g64_mul v w) k
theorem g_land (ok : gOK X) {v w : Int} {a b : Nat} (k : Go X T m d (pc + 1) cd L ((2, gland v w, 0) :: S) s cs ss x κ) : Go X T m d pc ((pc, .land, 1, []) :: cd) L ((2, w, b) :: (2, v, a) :: S) s cs ss x κ := g_op2l ok (fun x y => x &&& y) (fun _ _ _ _ _ => rfl) rfl k
theorem g_lor (ok : gOK X) {v w : Int} {a b : Nat} (k : Go X T m d (pc + 1) cd L ((2, glor v w, 0) :: S) s cs ss x κ) : Go X T m d pc ((pc, .lor, 1, []) :: cd) L ((2, w, b) :: (2, v, a) :: S) s cs ss x κ := g_op2l ok (fun x y => x ||| y) (fun _ _ _ _ _ => rfl) rfl k
theorem g_ldiv (ok : gOK X) {v w : Int} {a b : Nat} (h0 : w ≠ 0) (k : Go X T m d (pc + 1) cd L ((2, gldiv v w, 0) :: S) s cs ss x κ) : Go X T m d pc ((pc, .ldiv, 1, []) :: cd) L ((2, w, b) :: (2, v, a) :: S) s cs ss x κ := by
  refine g_pure ok rfl (fun hw hl hs => ⟨?_, hl, gS1 (gS2 (gS2 hs).2).2 (gok_l.mpr (gc64_t _))⟩) (gch1 rfl) k
  show (bif (Nat.beq 2 2 && Nat.beq 2 2) && !decide (lN (eJ w) = 0) then some (pc + 1, gL L, es_lbin (fun x y => x / y) (2, eJ v) (2, eJ w) :: S.map gf) else none) = _
  rw [glz0 (gok_l.mp (gS2 hs).1) h0, glb]
  rfl
theorem g_opls (ok : gOK X) {ins : Instr} (f : Int64 → Int32 → Int64) (hf : ∀ nL pc L S F, es_pure nL ins pc L S F = es_lsh f pc L S F) {v w : Int} {a b : Nat} {z : Int} (hz : (f (Int64.ofInt v) (Int32.ofInt w)).toInt = z) (k : Go X T m d (pc + 1) cd L ((2, z, 0) :: S) s cs ss x κ) : Go X T m d pc ((pc, ins, 1, []) :: cd) L ((0, w, b) :: (2, v, a) :: S) s cs ss x κ := by
  refine g_pure ok rfl (fun hw hl hs => ⟨?_, hl, gS1 (gS2 (gS2 hs).2).2 (gok_l.mpr (by rw [← hz]; exact gc64_t _))⟩) (gch1 rfl) k
  show es_pure (es_mL T) ins pc _ _ _ = _
  rw [hf]
  show some (pc + 1, gL L, es_lc (f (lN (eJ v)) (nI (eI w))) :: S.map gf) = _
  rw [glN, gnI, gel, hz]
  rfl
theorem g_lshl (ok : gOK X) {v w : Int} {a b : Nat} (k : Go X T m d (pc + 1) cd L ((2, glshl v w, 0) :: S) s cs ss x κ) : Go X T m d pc ((pc, .lshl, 1, []) :: cd) L ((0, w, b) :: (2, v, a) :: S) s cs ss x κ := g_opls ok (fun x y => x <<< (y.toInt64 &&& 63)) (fun _ _ _ _ _ => rfl) rfl k
theorem g_lshr (ok : gOK X) {v w : Int} {a b : Nat} (k : Go X T m d (pc + 1) cd L ((2, glshr v w, 0) :: S) s cs ss x κ) : Go X T m d pc ((pc, .lshr, 1, []) :: cd) L ((0, w, b) :: (2, v, a) :: S) s cs ss x κ := g_opls ok (fun x y => x >>> (y.toInt64 &&& 63)) (fun _ _ _ _ _ => rfl) rfl k
theorem g_lushr (ok : gOK X) {v w : Int} {a b : Nat} (k : Go X T m d (pc + 1) cd L ((2, glushr v w, 0) :: S) s cs ss x κ) : Go X T m d pc ((pc, .lushr, 1, []) :: cd) L ((0, w, b) :: (2, v, a) :: S) s cs ss x κ := g_opls ok (fun x y => (x.toUInt64 >>> (y.toInt64.toUInt64 &&& Int64.toUInt64 63)).toInt64) (fun _ _ _ _ _ => rfl) rfl k
theorem g_i2l (ok : gOK X) {v : Int} {a : Nat} (k : Go X T m d (pc + 1) cd L ((2, v, 0) :: S) s cs ss x κ) : Go X T m d pc ((pc, .i2l, 1, []) :: cd) L ((0, v, a) :: S) s cs ss x κ := by
  refine g_pure ok rfl (fun hw hl hs => ⟨?_, hl, gS1 (gS2 hs).2 (gok_l.mpr (gc6432 (gok_i.mp (gS2 hs).1)))⟩) (gch1 rfl) k
  show some (pc + 1, gL L, es_lc (nI (eI v)).toInt64 :: S.map gf) = _
  rw [gnI, gel, gi2l (gok_i.mp (gS2 hs).1)]
  rfl
theorem g_l2i (ok : gOK X) {v : Int} {a : Nat} (k : Go X T m d (pc + 1) cd L ((0, g32 v, 0) :: S) s cs ss x κ) : Go X T m d pc ((pc, .l2i, 1, []) :: cd) L ((2, v, a) :: S) s cs ss x κ := by
  refine g_pure ok rfl (fun hw hl hs => ⟨?_, hl, gS1 (gS2 hs).2 (gok_i.mpr (gc32_b _))⟩) (gch1 rfl) k
  show some (pc + 1, gL L, es_c (lN (eJ v)).toInt32 :: S.map gf) = _
  rw [glN, ges, gl2i (gok_l.mp (gS2 hs).1)]
  rfl
theorem g_lcmp (ok : gOK X) {v w : Int} {a b : Nat} (k : Go X T m d (pc + 1) cd L ((0, gcmp v w, 0) :: S) s cs ss x κ) : Go X T m d pc ((pc, .lcmp, 1, []) :: cd) L ((2, w, b) :: (2, v, a) :: S) s cs ss x κ := by
  refine g_pure ok rfl (fun hw hl hs => ⟨?_, hl, gS1 (gS2 (gS2 hs).2).2 (gok_i.mpr ?_)⟩) (gch1 rfl) k
  · show some (pc + 1, gL L, es_c (lg_cmp (lN (eJ v)) (lN (eJ w))) :: S.map gf) = _
    rw [glN, glN, ges, glcmp (gok_l.mp (gS2 (gS2 hs).2).1) (gok_l.mp (gS2 hs).1)]
    rfl
  · unfold gcmp gc32
    split
    · decide
    · split
      · decide
      · decide
/-- stack -/
theorem g_dup (ok : gOK X) {v : gV} (h2 : Nat.beq v.1 2 = false) (k : Go X T m d (pc + 1) cd L (v :: v :: S) s cs ss x κ) : Go X T m d pc ((pc, .dup, 1, []) :: cd) L (v :: S) s cs ss x κ := by
  refine g_pure ok rfl (fun hw hl hs => ⟨?_, hl, gS1 hs (gS2 hs).1⟩) (gch1 rfl) k
  show (bif Nat.beq (gf v).1 2 then none else some (pc + 1, gL L, gf v :: gf v :: S.map gf)) = _
  rw [gf_2, h2]
  rfl
theorem g_pop (ok : gOK X) {v : gV} (h2 : Nat.beq v.1 2 = false) (k : Go X T m d (pc + 1) cd L S s cs ss x κ) : Go X T m d pc ((pc, .pop, 1, []) :: cd) L (v :: S) s cs ss x κ := by
  refine g_pure ok rfl (fun hw hl hs => ⟨?_, hl, (gS2 hs).2⟩) (gch1 rfl) k
  show (bif Nat.beq (gf v).1 2 then none else some (pc + 1, gL L, S.map gf)) = _
  rw [gf_2, h2]
  rfl
theorem g_dup2 (ok : gOK X) {v w : gV} (h2 : Nat.beq v.1 2 = false) (h3 : Nat.beq w.1 2 = false) (k : Go X T m d (pc + 1) cd L (w :: v :: w :: v :: S) s cs ss x κ) : Go X T m d pc ((pc, .dup2, 1, []) :: cd) L (w :: v :: S) s cs ss x κ := by
  refine g_pure ok rfl (fun hw hl hs => ⟨?_, hl, gS1 (gS1 hs (gS2 (gS2 hs).2).1) (gS2 hs).1⟩) (gch1 rfl) k
  show (bif Nat.beq (gf v).1 2 || Nat.beq (gf w).1 2 then none else some (pc + 1, gL L, gf w :: gf v :: gf w :: gf v :: S.map gf)) = _
  rw [gf_2, gf_2, h2, h3]
  rfl
theorem g_goto (ok : gOK X) {off : Int} {t : Nat} (ht : es_to pc off = some t) (k : Go X T m d t [] L S s cs ss x κ) : Go X T m d pc ((pc, .goto off, 3, []) :: cd) L S s cs ss x κ := by
  refine g_pure ok rfl (fun hw hl hs => ⟨?_, hl, hs⟩) (fun _ => rfl) k
  show (match es_to pc off with | some t => some (t, gL L, S.map gf) | none => none) = _
  rw [ht]
end GoR
end
section
section GoH
variable {X : gX} {T : es_M} {m d pc pc' : Nat} {cd cd' : List es_I} {L L' : List (Nat × gV)} {S S' : List gV} {s s' : gS} {cs ss : Nat} {Q : Type} {x y : Option Q} {κ : Q → Option gO}
/-- a branch: the row's own test -/
theorem gbr (op : es_Op) {v w : Int} (F : es_F) (hv : gc32 v) (hw : gc32 w) : es_br F op (0, eI v) (0, eI w) = bif gcp op v w then [F] else [] := by
  show (bif es_cmp op (es_bz (eI v)) (es_bz (eI w)) then [F] else []) = _
  rw [gcpk op hv hw]
theorem gng (op : es_Op) (v w : Int) : gcp (es_ng op) v w = !gcp op v w := by
  cases op
  · rfl
  · show decide (v = w) = !!decide (v = w); rw [Bool.not_not]
  · show decide (w ≤ v) = !decide (v < w)
    by_cases h : v < w
    · rw [decide_eq_true h, decide_eq_false (by omega)]; rfl
    · rw [decide_eq_false h, decide_eq_true (by omega)]; rfl
  · show decide (v < w) = !decide (w ≤ v)
    by_cases h : v < w
    · rw [decide_eq_true h, decide_eq_false (by omega)]; rfl
    · rw [decide_eq_false h, decide_eq_true (by omega)]; rfl
  · show decide (v ≤ w) = !decide (w < v)
    by_cases h : w < v
    · rw [decide_eq_true h, decide_eq_false (by omega)]; rfl
    · rw [decide_eq_false h, decide_eq_true (by omega)]; rfl
  · show decide (w < v) = !decide (v ≤ w)
    by_cases h : w < v
    · rw [decide_eq_true h, decide_eq_false (by omega)]; rfl
    · rw [decide_eq_false h, decide_eq_true (by omega)]; rfl
theorem gs_if2 {ME : Nat → es_M} {strs : List (String × Nat × String)} {SL : Nat} {ih : Nat → es_K → Option (List es_E)} {M : Nat} {Le : es_L} {Se : List es_V} {AH : List es_O} {F : es_F} {op : es_Op} {off : Int} {v w : Int} {t : Nat} (hat : es_at (es_tab (ME M)) pc = some (pc, .if_icmp op off, 3, [])) (hv : gc32 v) (hw : gc32 w) (ht : es_to pc off = some t) :
    es_step ME strs SL ih M (pc, Le, (0, eI w) :: (0, eI v) :: Se, AH, F, cs, ss) = (bif gcp op v w then ih M (t, Le, Se, AH, F, cs, ss) else ih M (pc + 3, Le, Se, AH, F, cs, ss)) := by
  unfold es_step
  dsimp only
  rw [hat]
  dsimp only
  rw [show es_pure (es_mL (ME M)) (Instr.if_icmp op off) pc Le ((0, eI w) :: (0, eI v) :: Se) F = none from rfl, show es_hs SL (ME M) (pc, Instr.if_icmp op off, 3, []) (pc, Le, (0, eI w) :: (0, eI v) :: Se, AH, F, cs, ss) = none from rfl, ht]
  dsimp only
  rw [show (es_ti (0, eI v) && es_ti (0, eI w)) = true from rfl]
  dsimp only [cond_true]
  rw [gbr op F hv hw, gbr (es_ng op) F hv hw, gng]
  cases gcp op v w
  · simp only [es_cat, cond_false, Bool.not_false, cond_true]
    cases ih M (pc + 3, Le, Se, AH, F, cs, ss) with
    | none => rfl
    | some z => simp
  · simp only [es_cat, cond_false, Bool.not_true, cond_true]
    cases ih M (t, Le, Se, AH, F, cs, ss) with
    | none => rfl
    | some z => simp
theorem gs_if1 {ME : Nat → es_M} {strs : List (String × Nat × String)} {SL : Nat} {ih : Nat → es_K → Option (List es_E)} {M : Nat} {Le : es_L} {Se : List es_V} {AH : List es_O} {F : es_F} {op : es_Op} {off : Int} {v : Int} {t : Nat} (hat : es_at (es_tab (ME M)) pc = some (pc, .ifCond op off, 3, [])) (hv : gc32 v) (ht : es_to pc off = some t) :
    es_step ME strs SL ih M (pc, Le, (0, eI v) :: Se, AH, F, cs, ss) = (bif gcp op v 0 then ih M (t, Le, Se, AH, F, cs, ss) else ih M (pc + 3, Le, Se, AH, F, cs, ss)) := by
  have e0 : ((0, 0) : es_V) = (0, eI 0) := rfl
  unfold es_step
  dsimp only
  rw [hat]
  dsimp only
  rw [show es_pure (es_mL (ME M)) (Instr.ifCond op off) pc Le ((0, eI v) :: Se) F = none from rfl, show es_hs SL (ME M) (pc, Instr.ifCond op off, 3, []) (pc, Le, (0, eI v) :: Se, AH, F, cs, ss) = none from rfl, ht]
  dsimp only
  rw [show es_ti (0, eI v) = true from rfl]
  dsimp only [cond_true]
  rw [e0, gbr op F hv (by unfold gc32; decide), gbr (es_ng op) F hv (by unfold gc32; decide), gng]
  cases gcp op v 0
  · simp only [es_cat, cond_false, Bool.not_false, cond_true]
    cases ih M (pc + 3, Le, Se, AH, F, cs, ss) with
    | none => rfl
    | some z => simp
  · simp only [es_cat, cond_false, Bool.not_true, cond_true]
    cases ih M (t, Le, Se, AH, F, cs, ss) with
    | none => rfl
    | some z => simp
theorem g_br2 (ok : gOK X) {op : es_Op} {off : Int} {v w : Int} {a b : Nat} {t : Nat} (ht : es_to pc off = some t) (k1 : gcp op v w = true → Go X T m d t [] L S s cs ss x κ) (k2 : gcp op v w = false → Go X T m d (pc + 3) cd L S s cs ss x κ) : Go X T m d pc ((pc, .if_icmp op off, 3, []) :: cd) L ((0, w, b) :: (0, v, a) :: S) s cs ss x κ := by
  intro h0 hm hc hw hl hs r hr
  have h1 := gS2 hs
  have h2 := gS2 h1.2
  cases hb : gcp op v w
  · refine g_st ok (fun ih => ?_) (k2 hb h0 hm (gch_hd hc).2 hw hl h2.2 r hr)
    rw [show ((0, w, b) :: (0, v, a) :: S).map gf = (0, eI w) :: (0, eI v) :: S.map gf from rfl, gs_if2 (gtab h0 hm (gch_hd hc).1) (gok_i.mp h2.1) (gok_i.mp h1.1) ht, hb]
    rfl
  · refine g_st ok (fun ih => ?_) (k1 hb h0 hm rfl hw hl h2.2 r hr)
    rw [show ((0, w, b) :: (0, v, a) :: S).map gf = (0, eI w) :: (0, eI v) :: S.map gf from rfl, gs_if2 (gtab h0 hm (gch_hd hc).1) (gok_i.mp h2.1) (gok_i.mp h1.1) ht, hb]
    rfl
theorem g_br1 (ok : gOK X) {op : es_Op} {off : Int} {v : Int} {a : Nat} {t : Nat} (ht : es_to pc off = some t) (k1 : gcp op v 0 = true → Go X T m d t [] L S s cs ss x κ) (k2 : gcp op v 0 = false → Go X T m d (pc + 3) cd L S s cs ss x κ) : Go X T m d pc ((pc, .ifCond op off, 3, []) :: cd) L ((0, v, a) :: S) s cs ss x κ := by
  intro h0 hm hc hw hl hs r hr
  have h1 := gS2 hs
  cases hb : gcp op v 0
  · refine g_st ok (fun ih => ?_) (k2 hb h0 hm (gch_hd hc).2 hw hl h1.2 r hr)
    rw [show ((0, v, a) :: S).map gf = (0, eI v) :: S.map gf from rfl, gs_if1 (gtab h0 hm (gch_hd hc).1) (gok_i.mp h1.1) ht, hb]
    rfl
  · refine g_st ok (fun ih => ?_) (k1 hb h0 hm rfl hw hl h1.2 r hr)
    rw [show ((0, v, a) :: S).map gf = (0, eI v) :: S.map gf from rfl, gs_if1 (gtab h0 hm (gch_hd hc).1) (gok_i.mp h1.1) ht, hb]
    rfl
section Br
variable {off : Int} {v w : Int} {a b t : Nat}
theorem g_ic_eq (ok : gOK X) (ht : es_to pc off = some t) (k1 : v = w → Go X T m d t [] L S s cs ss x κ) (k2 : ¬ v = w → Go X T m d (pc + 3) cd L S s cs ss y κ) : Go X T m d pc ((pc, .if_icmp .eq off, 3, []) :: cd) L ((0, w, b) :: (0, v, a) :: S) s cs ss (if v = w then x else y) κ := by
  by_cases h : v = w
  · rw [if_pos h]; exact g_br2 ok ht (fun _ => k1 h) (fun hb => absurd h (of_decide_eq_false hb))
  · rw [if_neg h]; exact g_br2 ok ht (fun hb => absurd (of_decide_eq_true hb) h) (fun _ => k2 h)
theorem g_ic_ne (ok : gOK X) (ht : es_to pc off = some t) (k1 : v = w → Go X T m d (pc + 3) cd L S s cs ss x κ) (k2 : ¬ v = w → Go X T m d t [] L S s cs ss y κ) : Go X T m d pc ((pc, .if_icmp .ne off, 3, []) :: cd) L ((0, w, b) :: (0, v, a) :: S) s cs ss (if v = w then x else y) κ := by
  by_cases h : v = w
  · rw [if_pos h]; exact g_br2 ok ht (fun hb => absurd h (of_decide_eq_false (by simpa [gcp] using hb))) (fun _ => k1 h)
  · rw [if_neg h]; exact g_br2 ok ht (fun _ => k2 h) (fun hb => absurd (of_decide_eq_true (by simpa [gcp] using hb)) h)
theorem g_ic_lt (ok : gOK X) (ht : es_to pc off = some t) (k1 : v < w → Go X T m d t [] L S s cs ss x κ) (k2 : ¬ v < w → Go X T m d (pc + 3) cd L S s cs ss y κ) : Go X T m d pc ((pc, .if_icmp .lt off, 3, []) :: cd) L ((0, w, b) :: (0, v, a) :: S) s cs ss (if v < w then x else y) κ := by
  by_cases h : v < w
  · rw [if_pos h]; exact g_br2 ok ht (fun _ => k1 h) (fun hb => absurd h (of_decide_eq_false hb))
  · rw [if_neg h]; exact g_br2 ok ht (fun hb => absurd (of_decide_eq_true hb) h) (fun _ => k2 h)
theorem g_ic_ge (ok : gOK X) (ht : es_to pc off = some t) (k1 : v < w → Go X T m d (pc + 3) cd L S s cs ss x κ) (k2 : ¬ v < w → Go X T m d t [] L S s cs ss y κ) : Go X T m d pc ((pc, .if_icmp .ge off, 3, []) :: cd) L ((0, w, b) :: (0, v, a) :: S) s cs ss (if v < w then x else y) κ := by
  by_cases h : v < w
  · rw [if_pos h]; exact g_br2 ok ht (fun hb => absurd (of_decide_eq_true hb) (by omega)) (fun _ => k1 h)
  · rw [if_neg h]; exact g_br2 ok ht (fun _ => k2 h) (fun hb => absurd (show w ≤ v by omega) (of_decide_eq_false hb))
theorem g_ic_gt (ok : gOK X) (ht : es_to pc off = some t) (k1 : w < v → Go X T m d t [] L S s cs ss x κ) (k2 : ¬ w < v → Go X T m d (pc + 3) cd L S s cs ss y κ) : Go X T m d pc ((pc, .if_icmp .gt off, 3, []) :: cd) L ((0, w, b) :: (0, v, a) :: S) s cs ss (if w < v then x else y) κ := by
  by_cases h : w < v
  · rw [if_pos h]; exact g_br2 ok ht (fun _ => k1 h) (fun hb => absurd h (of_decide_eq_false hb))
  · rw [if_neg h]; exact g_br2 ok ht (fun hb => absurd (of_decide_eq_true hb) h) (fun _ => k2 h)
theorem g_ic_le (ok : gOK X) (ht : es_to pc off = some t) (k1 : w < v → Go X T m d (pc + 3) cd L S s cs ss x κ) (k2 : ¬ w < v → Go X T m d t [] L S s cs ss y κ) : Go X T m d pc ((pc, .if_icmp .le off, 3, []) :: cd) L ((0, w, b) :: (0, v, a) :: S) s cs ss (if w < v then x else y) κ := by
  by_cases h : w < v
  · rw [if_pos h]; exact g_br2 ok ht (fun hb => absurd (of_decide_eq_true hb) (by omega)) (fun _ => k1 h)
  · rw [if_neg h]; exact g_br2 ok ht (fun _ => k2 h) (fun hb => absurd (show v ≤ w by omega) (of_decide_eq_false hb))
theorem g_if_eq (ok : gOK X) (ht : es_to pc off = some t) (k1 : v = 0 → Go X T m d t [] L S s cs ss x κ) (k2 : ¬ v = 0 → Go X T m d (pc + 3) cd L S s cs ss y κ) : Go X T m d pc ((pc, .ifCond .eq off, 3, []) :: cd) L ((0, v, a) :: S) s cs ss (if v = 0 then x else y) κ := by
  by_cases h : v = 0
  · rw [if_pos h]; exact g_br1 ok ht (fun _ => k1 h) (fun hb => absurd h (of_decide_eq_false hb))
  · rw [if_neg h]; exact g_br1 ok ht (fun hb => absurd (of_decide_eq_true hb) h) (fun _ => k2 h)
theorem g_if_ne (ok : gOK X) (ht : es_to pc off = some t) (k1 : v = 0 → Go X T m d (pc + 3) cd L S s cs ss x κ) (k2 : ¬ v = 0 → Go X T m d t [] L S s cs ss y κ) : Go X T m d pc ((pc, .ifCond .ne off, 3, []) :: cd) L ((0, v, a) :: S) s cs ss (if v = 0 then x else y) κ := by
  by_cases h : v = 0
  · rw [if_pos h]; exact g_br1 ok ht (fun hb => absurd h (of_decide_eq_false (by simpa [gcp] using hb))) (fun _ => k1 h)
  · rw [if_neg h]; exact g_br1 ok ht (fun _ => k2 h) (fun hb => absurd (of_decide_eq_true (by simpa [gcp] using hb)) h)
theorem g_if_lt (ok : gOK X) (ht : es_to pc off = some t) (k1 : v < 0 → Go X T m d t [] L S s cs ss x κ) (k2 : ¬ v < 0 → Go X T m d (pc + 3) cd L S s cs ss y κ) : Go X T m d pc ((pc, .ifCond .lt off, 3, []) :: cd) L ((0, v, a) :: S) s cs ss (if v < 0 then x else y) κ := by
  by_cases h : v < 0
  · rw [if_pos h]; exact g_br1 ok ht (fun _ => k1 h) (fun hb => absurd h (of_decide_eq_false hb))
  · rw [if_neg h]; exact g_br1 ok ht (fun hb => absurd (of_decide_eq_true hb) h) (fun _ => k2 h)
theorem g_if_ge (ok : gOK X) (ht : es_to pc off = some t) (k1 : v < 0 → Go X T m d (pc + 3) cd L S s cs ss x κ) (k2 : ¬ v < 0 → Go X T m d t [] L S s cs ss y κ) : Go X T m d pc ((pc, .ifCond .ge off, 3, []) :: cd) L ((0, v, a) :: S) s cs ss (if v < 0 then x else y) κ := by
  by_cases h : v < 0
  · rw [if_pos h]; exact g_br1 ok ht (fun hb => absurd (of_decide_eq_true hb) (by omega)) (fun _ => k1 h)
  · rw [if_neg h]; exact g_br1 ok ht (fun _ => k2 h) (fun hb => absurd (show 0 ≤ v by omega) (of_decide_eq_false hb))
theorem g_if_gt (ok : gOK X) (ht : es_to pc off = some t) (k1 : 0 < v → Go X T m d t [] L S s cs ss x κ) (k2 : ¬ 0 < v → Go X T m d (pc + 3) cd L S s cs ss y κ) : Go X T m d pc ((pc, .ifCond .gt off, 3, []) :: cd) L ((0, v, a) :: S) s cs ss (if 0 < v then x else y) κ := by
  by_cases h : 0 < v
  · rw [if_pos h]; exact g_br1 ok ht (fun _ => k1 h) (fun hb => absurd h (of_decide_eq_false hb))
  · rw [if_neg h]; exact g_br1 ok ht (fun hb => absurd (of_decide_eq_true hb) h) (fun _ => k2 h)
theorem g_if_le (ok : gOK X) (ht : es_to pc off = some t) (k1 : 0 < v → Go X T m d (pc + 3) cd L S s cs ss x κ) (k2 : ¬ 0 < v → Go X T m d t [] L S s cs ss y κ) : Go X T m d pc ((pc, .ifCond .le off, 3, []) :: cd) L ((0, v, a) :: S) s cs ss (if 0 < v then x else y) κ := by
  by_cases h : 0 < v
  · rw [if_pos h]; exact g_br1 ok ht (fun hb => absurd (of_decide_eq_true hb) (by omega)) (fun _ => k1 h)
  · rw [if_neg h]; exact g_br1 ok ht (fun _ => k2 h) (fun hb => absurd (show v ≤ 0 by omega) (of_decide_eq_false hb))
/-- what may be nothing -/
theorem g_ifnull (ok : gOK X) {tg : Nat} {z : Int} (hg : tg = 11 ∨ tg = 12) (ht : es_to pc off = some t) (k1 : a = 0 → Go X T m d t [] L S s cs ss x κ) (k2 : ¬ a = 0 → Go X T m d (pc + 3) cd L S s cs ss y κ) : Go X T m d pc ((pc, .ifnull off, 3, []) :: cd) L ((tg, z, a) :: S) s cs ss (if a = 0 then x else y) κ := by
  have hgf : gf (tg, z, a) = if a = 0 then ((4, 0) : es_V) else (3, a) := by rcases hg with rfl | rfl <;> rfl
  by_cases h : a = 0
  · rw [if_pos h]
    refine g_pure ok rfl (fun hw hl hs => ⟨?_, hl, (gS2 hs).2⟩) (fun _ => rfl) (k1 h)
    rw [List.map_cons, hgf, if_pos h]
    show (match es_to pc off with | some t => some (t, gL L, S.map gf) | none => none) = _
    rw [ht]
  · rw [if_neg h]
    refine g_pure ok rfl (fun hw hl hs => ⟨?_, hl, (gS2 hs).2⟩) (gch1 rfl) (k2 h)
    rw [List.map_cons, hgf, if_neg h]
    rfl
theorem g_ifnonnull (ok : gOK X) {tg : Nat} {z : Int} (hg : tg = 11 ∨ tg = 12) (ht : es_to pc off = some t) (k1 : a = 0 → Go X T m d (pc + 3) cd L S s cs ss x κ) (k2 : ¬ a = 0 → Go X T m d t [] L S s cs ss y κ) : Go X T m d pc ((pc, .ifnonnull off, 3, []) :: cd) L ((tg, z, a) :: S) s cs ss (if a = 0 then x else y) κ := by
  have hgf : gf (tg, z, a) = if a = 0 then ((4, 0) : es_V) else (3, a) := by rcases hg with rfl | rfl <;> rfl
  by_cases h : a = 0
  · rw [if_pos h]
    refine g_pure ok rfl (fun hw hl hs => ⟨?_, hl, (gS2 hs).2⟩) (gch1 rfl) (k1 h)
    rw [List.map_cons, hgf, if_pos h]
    rfl
  · rw [if_neg h]
    refine g_pure ok rfl (fun hw hl hs => ⟨?_, hl, (gS2 hs).2⟩) (fun _ => rfl) (k2 h)
    rw [List.map_cons, hgf, if_neg h]
    show (match es_to pc off with | some t => some (t, gL L, S.map gf) | none => none) = _
    rw [ht]
end Br
end GoH
end
section
def gchk (j n : Int) {Q : Type} (x : Option Q) : Option Q := if 0 ≤ j ∧ j < n then x else none
def gbool (v : Int) {Q : Type} (x : Option Q) : Option Q := if v = 0 ∨ v = 1 then x else none
section GoM
variable {X : gX} {T : es_M} {m d pc pc' : Nat} {cd cd' : List es_I} {L L' : List (Nat × gV)} {S S' : List gV} {s s' : gS} {cs ss : Nat} {Q : Type} {x y : Option Q} {κ : Q → Option gO}
/-- a step of the heap -/
theorem g_hs (ok : gOK X) {e : es_I} (hax : ∀ a t, e.2.2.2 = a :: t → a ≠ 100 ∧ a ≠ 200 ∧ a ≠ 60) (hpu : ∀ Le Se, es_pure (es_mL T) e.2.1 pc Le Se (gF X) = none) (hp : gwt s → (∀ q ∈ L, gok s q.2) → (∀ v ∈ S, gok s v) → es_hs (gSL X) (gdp d T) e (pc, gL L, S.map gf, gH s, gF X, cs, ss) = some (pc', gL L, S'.map gf, gH s', gF X, cs, ss) ∧ gext s s' ∧ gwt s' ∧ ∀ v ∈ S', gok s' v) (hc : gch T pc (e :: cd) = true → gch T pc' cd' = true) (k : Go X T m d pc' cd' L S' s' cs ss x κ) : Go X T m d pc (e :: cd) L S s cs ss x κ := by
  intro h0 hm hch hw hl hs r hr
  obtain ⟨h1, h2, h3, h4⟩ := hp hw hl hs
  refine gEnd_ext h2 (g_st ok (fun ih => ?_) (k h0 hm (hc hch) h3 (fun q hq => gok_ext h2 (hl q hq)) h4 r hr))
  refine gs_hs (gtab h0 hm (gch_hd hch).1) (by rw [gmL h0 hm]; exact hpu _ _) hax ?_
  rw [gME_at _ hm, h0]
  exact h1
theorem gax {a : Nat} {t : List Nat} (h : a < 60) : ∀ b u, a :: t = b :: u → b ≠ 100 ∧ b ≠ 200 ∧ b ≠ 60 := fun b u e => by
  cases e
  omega
theorem gaxn : ∀ (b : Nat) (u : List Nat), ([] : List Nat) = b :: u → b ≠ 100 ∧ b ≠ 200 ∧ b ≠ 60 := fun b u e => by cases e
theorem gobjC {ci a : Nat} (hci : ci < 13) (ha : a < gn s) (hk : gK s a = ci) : es_obj (gH s) ci (3, a) = some ((List.range (gnf ci)).map (fun i => (i, gf (gfv s a ci i)))) := by
  unfold es_obj
  show (match (gH s)[a]? with
    | some (0, i, c) => bif Nat.beq i ci then some c else none
    | _ => none) = _
  rw [gH_at ha, gobj_c hk hci]
  show (bif Nat.beq ci ci then _ else none) = _
  rw [es_beq.mpr rfl]
  rfl
theorem gobjA {n t a : Nat} (hn : n < 1000000) (ht : t < 8) (ha : a < gn s) (hk : gK s a = 100 + 8 * n + t) : es_ary (gH s) (3, a) = some (t, n, (List.range n).map (fun j => (j, gf (gev s a t j)))) := by
  unfold es_ary
  show (match (gH s)[a]? with
    | some (t + 2, n, c) => bif Nat.blt n 2147483648 then some (t, n, c) else none
    | _ => none) = _
  rw [gH_at ha, gobj_a hk ht]
  show (bif Nat.blt n 2147483648 then _ else none) = _
  rw [es_blt.mpr (by omega)]
  rfl
/-- a field is read -/
theorem g_getf (ok : gOK X) {idx ci k j a : Nat} {z : Int} {w : gV} (hb : (Nat.blt ci 13 && Nat.blt k (gnf ci)) = true) (hw : gfv s a ci k = w) (kk : Go X T m d (pc + 3) cd L (w :: S) s cs ss x κ) : Go X T m d pc ((pc, .getfield idx, 3, [ci, k, j]) :: cd) L ((ci + 16, z, a) :: S) s cs ss x κ := by
  rw [Bool.and_eq_true, es_blt, es_blt] at hb
  refine g_hs ok (gax (by omega)) (fun _ _ => rfl) (fun hwt hl hs => ⟨?_, gext_rf s, hwt, gS1 (gS2 hs).2 ?_⟩) (gch1 rfl) kk
  · obtain ⟨h1, h2⟩ := gok_r.mp (gS2 hs).1
    show (match es_obj (gH s) ci (3, a) with
      | some c => match es_get c k with
        | some w => some (pc + 3, gL L, w :: S.map gf, gH s, gF X, cs, ss)
        | none => none
      | none => none) = _
    rw [gobjC hb.1 h1 h2]
    dsimp only
    rw [grg, if_pos hb.2, hw]
    rfl
  · obtain ⟨h1, h2⟩ := gok_r.mp (gS2 hs).1
    have h3 := (hwt a h1).1 (by omega) k (by rw [h2]; exact hb.2)
    rw [h2, hw] at h3
    exact h3
theorem g_geti (ok : gOK X) {idx ci k j a : Nat} {z : Int} (hb : (Nat.blt ci 13 && Nat.blt k (gnf ci)) = true) (h0 : Nat.beq (gfk ci k) 0 = true) (kk : Go X T m d (pc + 3) cd L ((0, gI s a k, 0) :: S) s cs ss x κ) : Go X T m d pc ((pc, .getfield idx, 3, [ci, k, j]) :: cd) L ((ci + 16, z, a) :: S) s cs ss x κ :=
  g_getf ok hb (by unfold gfv; rw [if_pos (es_beq.mp h0)]) kk
theorem g_getr (ok : gOK X) {idx ci k j a t : Nat} {z : Int} (hb : (Nat.blt ci 13 && Nat.blt k (gnf ci)) = true) (h0 : gfk ci k = t + 1) (kk : Go X T m d (pc + 3) cd L ((t + 1, 0, gR s a k) :: S) s cs ss x κ) : Go X T m d pc ((pc, .getfield idx, 3, [ci, k, j]) :: cd) L ((ci + 16, z, a) :: S) s cs ss x κ :=
  g_getf ok hb (by unfold gfv; rw [if_neg (by rw [h0]; omega), h0]) kk
/-- the law of a book, or nothing, then a field of it -/
theorem g_getl (ok : gOK X) {idx k j a : Nat} {z : Int} {w : gV} (h0 : a ≠ 0) (hb : Nat.blt k 2 = true) (hw : gfv s a 4 k = w) (kk : Go X T m d (pc + 3) cd L (w :: S) s cs ss x κ) : Go X T m d pc ((pc, .getfield idx, 3, [4, k, j]) :: cd) L ((11, z, a) :: S) s cs ss x κ := by
  rw [es_blt] at hb
  refine g_hs ok (gax (by omega)) (fun _ _ => rfl) (fun hwt hl hs => ⟨?_, gext_rf s, hwt, gS1 (gS2 hs).2 ?_⟩) (gch1 rfl) kk
  · obtain ⟨h1, h2⟩ := (gS2 hs).1 h0
    rw [List.map_cons, show gf (11, z, a) = (3, a) from if_neg h0]
    show (match es_obj (gH s) 4 (3, a) with
      | some c => match es_get c k with
        | some w => some (pc + 3, gL L, w :: S.map gf, gH s, gF X, cs, ss)
        | none => none
      | none => none) = _
    rw [gobjC (by decide) h1 h2]
    dsimp only
    rw [grg, if_pos (show k < gnf 4 from hb), hw]
    rfl
  · obtain ⟨h1, h2⟩ := (gS2 hs).1 h0
    have h3 := (hwt a h1).1 (by have h9 : gK s a = 4 := h2; omega) k (by have h9 : gK s a = 4 := h2; rw [h9]; exact hb)
    rw [show gK s a = 4 from h2, hw] at h3
    exact h3
theorem gw_I (s : gS) (a k : Nat) (v : Int) (b i : Nat) : gI (gw s a k v) b i = if b = a ∧ i = k then v else gI s b i := rfl
theorem gw_R (s : gS) (a k : Nat) (v : Int) (b i : Nat) : gR (gw s a k v) b i = gR s b i := rfl
theorem gw_K (s : gS) (a k : Nat) (v : Int) (b : Nat) : gK (gw s a k v) b = gK s b := rfl
theorem gw_n (s : gS) (a k : Nat) (v : Int) : gn (gw s a k v) = gn s := rfl
theorem gwr_I (s : gS) (a k r : Nat) (b i : Nat) : gI (gwr s a k r) b i = gI s b i := rfl
theorem gwr_R (s : gS) (a k r : Nat) (b i : Nat) : gR (gwr s a k r) b i = if b = a ∧ i = k then r else gR s b i := rfl
theorem gobj_eq {a : Nat} (hK : gK s' a = gK s a) (hI : ∀ i, gI s' a i = gI s a i) (hR : ∀ i, gR s' a i = gR s a i) : gobj s' a = gobj s a := by
  have h1 : ∀ k i, gfv s' a k i = gfv s a k i := fun k i => by unfold gfv; rw [hI, hR]
  have h2 : ∀ t j, gev s' a t j = gev s a t j := fun t j => by unfold gev; split <;> simp only [hI, hR]
  unfold gobj
  simp only [hK, h1, h2]
theorem gw_fv {a k ci : Nat} {v : Int} (h0 : gfk ci k = 0) (i : Nat) : gfv (gw s a k v) a ci i = if i = k then (0, v, 0) else gfv s a ci i := by
  by_cases h : i = k
  · subst h
    unfold gfv
    rw [if_pos h0, gw_I, if_pos ⟨rfl, rfl⟩, if_pos rfl]
  · rw [if_neg h]
    unfold gfv
    rw [gw_I, gw_R, if_neg (show ¬ (a = a ∧ i = k) from fun e => h e.2)]
theorem gw_H {a k ci : Nat} {v : Int} (hci : ci < 13) (h0 : gfk ci k = 0) (hk : gK s a = ci) (hkn : k < gnf ci) : gH (gw s a k v) = (gH s).set a (0, ci, es_set ((List.range (gnf ci)).map (fun i => (i, gf (gfv s a ci i)))) k (0, eI v)) := by
  rw [gH_set (s := s) (a := a) (gw_n s a k v) (fun b _ hb => gobj_eq rfl (fun i => by rw [gw_I, if_neg (fun e => hb e.1)]) (fun i => rfl)), gobj_c (s := gw s a k v) (show gK (gw s a k v) a = ci from hk) hci, grn _ hkn]
  congr 3
  apply List.map_congr_left
  intro i _
  rw [gw_fv h0]
  by_cases h : i = k
  · rw [if_pos h, if_pos h]; rfl
  · rw [if_neg h, if_neg h]
theorem gw_wt {a k ci : Nat} {v : Int} (hci : ci < 13) (h0 : gfk ci k = 0) (hk : gK s a = ci) (hv : gc32 v) (hw : gwt s) : gwt (gw s a k v) := by
  intro b hb
  have h1 := hw b hb
  refine ⟨fun g1 i hi => ?_, fun g1 => ⟨(h1.2 g1).1, (h1.2 g1).2.1, fun j hj => ?_⟩⟩
  · show gok s (gfv (gw s a k v) b (gK s b) i)
    by_cases hba : b = a
    · subst hba
      rw [hk, gw_fv h0]
      by_cases h : i = k
      · rw [if_pos h]; exact hv
      · rw [if_neg h]
        have h2 := h1.1 g1 i hi
        rw [hk] at h2
        exact h2
    · have e : gfv (gw s a k v) b (gK s b) i = gfv s b (gK s b) i := by
        unfold gfv
        rw [gw_I, gw_R, if_neg (show ¬ (b = a ∧ i = k) from fun e => hba e.1)]
      rw [e]
      exact h1.1 g1 i hi
  · have hba : b ≠ a := fun e => by
      subst e
      rw [gw_K, hk] at g1
      omega
    have e : gev (gw s a k v) b (gT4 (gK s b)) j = gev s b (gT4 (gK s b)) j := by
      unfold gev
      split <;> simp only [gw_I, gw_R, if_neg (fun e : b = a ∧ j = k => hba e.1)]
    show gok s (gev (gw s a k v) b (gT4 (gK s b)) j)
    rw [e]
    exact (h1.2 g1).2.2 j hj
theorem gw_ext (s : gS) (a k : Nat) (v : Int) : gext s (gw s a k v) := ⟨Nat.le_refl _, fun _ _ => rfl⟩
/-- a number is put into a field -/
theorem g_putf (ok : gOK X) {idx ci k j a b : Nat} {z v : Int} (hb : (Nat.blt ci 13 && Nat.blt k (gnf ci)) = true) (h0 : Nat.beq (gfk ci k) 0 = true) (hfit : es_fitv (es_tyf ci k) (gF X) (0, eI v) = true) (kk : Go X T m d (pc + 3) cd L S (gw s a k v) cs ss x κ) : Go X T m d pc ((pc, .putfield idx, 3, [ci, k, j]) :: cd) L ((0, v, b) :: (ci + 16, z, a) :: S) s cs ss x κ := by
  rw [Bool.and_eq_true, es_blt, es_blt] at hb
  have h0 := es_beq.mp h0
  refine g_hs ok (gax (by omega)) (fun _ _ => rfl) (fun hwt hl hs => ?_) (gch1 rfl) kk
  obtain ⟨h1, h2⟩ := gok_r.mp (gS2 (gS2 hs).2).1
  refine ⟨?_, gw_ext s a k v, gw_wt hb.1 h0 h2 (gok_i.mp (gS2 hs).1) hwt, fun w hw => gok_ext (gw_ext s a k v) ((gS2 (gS2 hs).2).2 w hw)⟩
  show (match es_obj (gH s) ci (3, a) with
    | some c => match es_get c k with
      | some _ => bif es_fitv (es_tyf ci k) (gF X) (0, eI v) then some (pc + 3, gL L, S.map gf, (gH s).set a (0, ci, es_set c k (0, eI v)), gF X, cs, ss) else none
      | none => none
    | none => none) = _
  rw [gobjC hb.1 h1 h2]
  dsimp only
  rw [grg, if_pos hb.2]
  dsimp only
  rw [hfit, gw_H hb.1 h0 h2 hb.2]
  rfl
theorem g_puti (ok : gOK X) {idx ci k j a b : Nat} {z v : Int} (hb : (Nat.blt ci 13 && Nat.blt k (gnf ci)) = true) (h0 : Nat.beq (gfk ci k) 0 = true) (hty : es_tyf ci k = .int) (kk : Go X T m d (pc + 3) cd L S (gw s a k v) cs ss x κ) : Go X T m d pc ((pc, .putfield idx, 3, [ci, k, j]) :: cd) L ((0, v, b) :: (ci + 16, z, a) :: S) s cs ss x κ :=
  g_putf ok hb h0 (by rw [hty]; rfl) kk
theorem gfitb {v : Int} (F : es_F) (h : v = 0 ∨ v = 1) : es_fitv .boolean F (0, eI v) = true := by
  rcases h with rfl | rfl <;> rfl
theorem g_putz (ok : gOK X) {idx ci k j a b : Nat} {z v : Int} (hb : (Nat.blt ci 13 && Nat.blt k (gnf ci)) = true) (h0 : Nat.beq (gfk ci k) 0 = true) (hty : es_tyf ci k = .boolean) (kk : v = 0 ∨ v = 1 → Go X T m d (pc + 3) cd L S (gw s a k v) cs ss x κ) : Go X T m d pc ((pc, .putfield idx, 3, [ci, k, j]) :: cd) L ((0, v, b) :: (ci + 16, z, a) :: S) s cs ss (gbool v x) κ := by
  unfold gbool
  by_cases h : v = 0 ∨ v = 1
  · rw [if_pos h]
    exact g_putf ok hb h0 (by rw [hty]; exact gfitb _ h) (kk h)
  · rw [if_neg h]
    intro _ _ _ _ _ _ r hr
    cases hr
/-- a reference is put into a field that may hold nothing -/
theorem gwr_H {a k ci r tg : Nat} (hci : ci < 13) (h0 : gfk ci k = tg + 1) (hk : gK s a = ci) (hkn : k < gnf ci) : gH (gwr s a k r) = (gH s).set a (0, ci, es_set ((List.range (gnf ci)).map (fun i => (i, gf (gfv s a ci i)))) k (gf (tg + 1, 0, r))) := by
  rw [gH_set (s := s) (s' := gwr s a k r) (a := a) rfl (fun b _ hb => gobj_eq rfl (fun i => rfl) (fun i => by rw [gwr_R, if_neg (fun e => hb e.1)])), gobj_c (s := gwr s a k r) (show gK (gwr s a k r) a = ci from hk) hci, grn _ hkn]
  congr 3
  apply List.map_congr_left
  intro i _
  by_cases h : i = k
  · subst h
    rw [if_pos rfl]
    unfold gfv
    rw [if_neg (by rw [h0]; omega), h0, gwr_R, if_pos ⟨rfl, rfl⟩]
  · rw [if_neg h]
    unfold gfv
    rw [gwr_I, gwr_R, if_neg (show ¬ (a = a ∧ i = k) from fun e => h e.2)]
theorem gwr_wt {a k ci r tg : Nat} (hci : ci < 13) (h0 : gfk ci k = tg + 1) (hk : gK s a = ci) (hv : gok s (tg + 1, 0, r)) (hw : gwt s) : gwt (gwr s a k r) := by
  intro b hb
  have h1 := hw b hb
  refine ⟨fun g1 i hi => ?_, fun g1 => ⟨(h1.2 g1).1, (h1.2 g1).2.1, fun j hj => ?_⟩⟩
  · show gok s (gfv (gwr s a k r) b (gK s b) i)
    by_cases hba : b = a ∧ i = k
    · obtain ⟨rfl, rfl⟩ := hba
      unfold gfv
      rw [hk, if_neg (by rw [h0]; omega), h0, gwr_R, if_pos ⟨rfl, rfl⟩]
      exact hv
    · have e : gfv (gwr s a k r) b (gK s b) i = gfv s b (gK s b) i := by
        unfold gfv
        rw [gwr_I, gwr_R, if_neg hba]
      rw [e]
      exact h1.1 g1 i hi
  · have hba : b ≠ a := fun e => by
      subst e
      have g2 : 100 ≤ gK s b := g1
      rw [hk] at g2
      omega
    have e : gev (gwr s a k r) b (gT4 (gK s b)) j = gev s b (gT4 (gK s b)) j := by
      unfold gev
      split <;> simp only [gwr_I, gwr_R, if_neg (fun e : b = a ∧ j = k => hba e.1)]
    show gok s (gev (gwr s a k r) b (gT4 (gK s b)) j)
    rw [e]
    exact (h1.2 g1).2.2 j hj
theorem g_putr (ok : gOK X) {idx ci k j a r tg : Nat} {z : Int} {w : gV} (hb : (Nat.blt ci 13 && Nat.blt k (gnf ci)) = true) (h0 : gfk ci k = tg + 1) (hfit : es_fitv (es_tyf ci k) (gF X) (gf w) = true) (hgf : gf w = gf (tg + 1, 0, r)) (hok : gok s w → gok s (tg + 1, 0, r)) (kk : Go X T m d (pc + 3) cd L S (gwr s a k r) cs ss x κ) : Go X T m d pc ((pc, .putfield idx, 3, [ci, k, j]) :: cd) L (w :: (ci + 16, z, a) :: S) s cs ss x κ := by
  rw [Bool.and_eq_true, es_blt, es_blt] at hb
  have hext : gext s (gwr s a k r) := ⟨Nat.le_refl _, fun _ _ => rfl⟩
  refine g_hs ok (gax (by omega)) (fun _ _ => rfl) (fun hwt hl hs => ?_) (gch1 rfl) kk
  obtain ⟨h1, h2⟩ := gok_r.mp (gS2 (gS2 hs).2).1
  refine ⟨?_, hext, gwr_wt hb.1 h0 h2 (hok (gS2 hs).1) hwt, fun w hw => gok_ext hext ((gS2 (gS2 hs).2).2 w hw)⟩
  show (match es_obj (gH s) ci (3, a) with
    | some c => match es_get c k with
      | some _ => bif es_fitv (es_tyf ci k) (gF X) (gf w) then some (pc + 3, gL L, S.map gf, (gH s).set a (0, ci, es_set c k (gf w)), gF X, cs, ss) else none
      | none => none
    | none => none) = _
  rw [gobjC hb.1 h1 h2]
  dsimp only
  rw [grg, if_pos hb.2]
  dsimp only
  rw [hfit, gwr_H hb.1 h0 h2 hb.2, ← hgf]
  rfl
/-- rows -/
theorem gkn (F : es_F) (v : Int) : es_kn F (0, eI v) = some (eI v) := rfl
theorem geN2 {j : Int} (h0 : 0 ≤ j) (h1 : j < 2147483648) : eI j = j.toNat := by
  have h2 := geN (n := j.toNat) (by omega)
  rw [show ((j.toNat : Nat) : Int) = j by omega] at h2
  exact h2
theorem gad {t n j : Nat} (f : Nat → es_V) (h : j < n) : es_ad t ((List.range n).map (fun i => (i, f i))) j = f j := by
  unfold es_ad
  rw [grg, if_pos h]
theorem gok_a {n t a : Nat} {z : Int} (h : gok s (116 + 8 * n + t, z, a)) : a < gn s ∧ gK s a = 100 + 8 * n + t := by
  rw [show 116 + 8 * n + t = (100 + 8 * n + t) + 16 by omega] at h
  exact gok_r.mp h
theorem g_ald (ok : gOK X) {ins : Instr} {t n a tg : Nat} {z j : Int} {b : Nat} (hlt : es_lt ins t = true) (ht : t < 5) (hpu : ∀ nL Le Se F, es_pure nL ins pc Le Se F = none) (hins : ∀ SL (M : es_M) Le Se v AH F cs ss, es_hs SL M (pc, ins, 1, []) (pc, Le, (0, eI j) :: (3, v) :: Se, AH, F, cs, ss) = (match es_ary AH (3, v) with
          | some (t, n, c) => bif es_lt ins t && Nat.blt (eI j) n then some (pc + 1, Le, es_ad t c (eI j) :: Se, AH, F, cs, ss) else none
          | none => none)) (htg : tg = 116 + 8 * n + t) (h0 : 0 ≤ j) (h1 : j < (n : Int)) (kk : Go X T m d (pc + 1) cd L (gev s a t j.toNat :: S) s cs ss x κ) : Go X T m d pc ((pc, ins, 1, []) :: cd) L ((0, j, b) :: (tg, z, a) :: S) s cs ss x κ := by
  subst htg
  refine g_hs ok gaxn (fun _ _ => hpu _ _ _ _) (fun hwt hl hs => ?_) (gch1 rfl) kk
  obtain ⟨hg1, hg2⟩ := gok_a (gS2 (gS2 hs).2).1
  have hg3 := (hwt a hg1).2 (by omega)
  have e1 : gT4 (gK s a) = t := by rw [hg2]; unfold gT4; omega
  have e2 : gL4 (gK s a) = n := by rw [hg2]; unfold gL4; omega
  rw [e1, e2] at hg3
  refine ⟨?_, gext_rf s, hwt, gS1 (gS2 (gS2 hs).2).2 (hg3.2.2 j.toNat (by omega))⟩
  have egf : gf (116 + 8 * n + t, z, a) = (3, a) := by
    rw [show 116 + 8 * n + t = (100 + 8 * n + t) + 16 by omega]
    rfl
  rw [List.map_cons, List.map_cons, egf]
  refine (hins _ _ _ _ _ _ _ _ _).trans ?_
  rw [gobjA hg3.1 (by omega) hg1 hg2]
  dsimp only
  rw [geN2 h0 (by have := hg3.1; omega), hlt, es_blt.mpr (show j.toNat < n by omega), gad _ (show j.toNat < n by omega)]
  rfl
theorem g_none {pc : Nat} {cd : List es_I} : Go X T m d pc cd L S s cs ss (none : Option Q) κ := fun _ _ _ _ _ _ r hr => by cases hr
theorem g_chk {j n : Int} (kk : 0 ≤ j → j < n → Go X T m d pc cd L S s cs ss x κ) : Go X T m d pc cd L S s cs ss (gchk j n x) κ := by
  unfold gchk
  by_cases h : 0 ≤ j ∧ j < n
  · rw [if_pos h]; exact kk h.1 h.2
  · rw [if_neg h]; exact g_none
theorem g_iaload (ok : gOK X) {n a tg : Nat} {z j N : Int} {b : Nat} (htg : tg = 116 + 8 * n) (hN : N = (n : Int)) (kk : 0 ≤ j → j < N → Go X T m d (pc + 1) cd L ((0, gI s a j.toNat, 0) :: S) s cs ss x κ) : Go X T m d pc ((pc, .iaload, 1, []) :: cd) L ((0, j, b) :: (tg, z, a) :: S) s cs ss (gchk j N x) κ :=
  g_chk (fun h0 h1 => g_ald ok (t := 0) (n := n) rfl (by decide) (fun _ _ _ _ => rfl) (fun _ _ _ _ _ _ _ _ _ => rfl) htg h0 (by rw [← hN]; exact h1) (kk h0 h1))
theorem g_ialoadc (ok : gOK X) {n a tg : Nat} {z j : Int} {b : Nat} (htg : tg = 116 + 8 * n) (h0 : 0 ≤ j) (h1 : j < (n : Int)) (kk : Go X T m d (pc + 1) cd L ((0, gI s a j.toNat, 0) :: S) s cs ss x κ) : Go X T m d pc ((pc, .iaload, 1, []) :: cd) L ((0, j, b) :: (tg, z, a) :: S) s cs ss x κ :=
  g_ald ok (t := 0) (n := n) rfl (by decide) (fun _ _ _ _ => rfl) (fun _ _ _ _ _ _ _ _ _ => rfl) htg h0 h1 kk
theorem g_laload (ok : gOK X) {n a tg : Nat} {z j N : Int} {b : Nat} (htg : tg = 117 + 8 * n) (hN : N = (n : Int)) (kk : 0 ≤ j → j < N → Go X T m d (pc + 1) cd L ((2, gI s a j.toNat, 0) :: S) s cs ss x κ) : Go X T m d pc ((pc, .laload, 1, []) :: cd) L ((0, j, b) :: (tg, z, a) :: S) s cs ss (gchk j N x) κ :=
  g_chk (fun h0 h1 => g_ald ok (t := 1) (n := n) rfl (by decide) (fun _ _ _ _ => rfl) (fun _ _ _ _ _ _ _ _ _ => rfl) (by omega) h0 (by rw [← hN]; exact h1) (kk h0 h1))
theorem g_baload (ok : gOK X) {n a tg : Nat} {z j N : Int} {b : Nat} (htg : tg = 118 + 8 * n) (hN : N = (n : Int)) (kk : 0 ≤ j → j < N → Go X T m d (pc + 1) cd L ((0, gI s a j.toNat, 0) :: S) s cs ss x κ) : Go X T m d pc ((pc, .baload, 1, []) :: cd) L ((0, j, b) :: (tg, z, a) :: S) s cs ss (gchk j N x) κ :=
  g_chk (fun h0 h1 => g_ald ok (t := 2) (n := n) rfl (by decide) (fun _ _ _ _ => rfl) (fun _ _ _ _ _ _ _ _ _ => rfl) (by omega) h0 (by rw [← hN]; exact h1) (kk h0 h1))
theorem g_aaload3 (ok : gOK X) {n a tg : Nat} {z j N : Int} {b : Nat} (htg : tg = 119 + 8 * n) (hN : N = (n : Int)) (kk : 0 ≤ j → j < N → Go X T m d (pc + 1) cd L ((18, 0, gR s a j.toNat) :: S) s cs ss x κ) : Go X T m d pc ((pc, .aaload, 1, []) :: cd) L ((0, j, b) :: (tg, z, a) :: S) s cs ss (gchk j N x) κ :=
  g_chk (fun h0 h1 => g_ald ok (t := 3) (n := n) rfl (by decide) (fun _ _ _ _ => rfl) (fun _ _ _ _ _ _ _ _ _ => rfl) (by omega) h0 (by rw [← hN]; exact h1) (kk h0 h1))
theorem g_aaload4 (ok : gOK X) {n a tg : Nat} {z j N : Int} {b : Nat} (htg : tg = 120 + 8 * n) (hN : N = (n : Int)) (kk : 0 ≤ j → j < N → Go X T m d (pc + 1) cd L ((23, 0, gR s a j.toNat) :: S) s cs ss x κ) : Go X T m d pc ((pc, .aaload, 1, []) :: cd) L ((0, j, b) :: (tg, z, a) :: S) s cs ss (gchk j N x) κ :=
  g_chk (fun h0 h1 => g_ald ok (t := 4) (n := n) rfl (by decide) (fun _ _ _ _ => rfl) (fun _ _ _ _ _ _ _ _ _ => rfl) (by omega) h0 (by rw [← hN]; exact h1) (kk h0 h1))
theorem g_alen (ok : gOK X) {n t a tg : Nat} {z N : Int} (ht : t < 8) (htg : tg = 116 + 8 * n + t) (hN : N = (n : Int)) (kk : Go X T m d (pc + 1) cd L ((0, N, 0) :: S) s cs ss x κ) : Go X T m d pc ((pc, .arraylength, 1, []) :: cd) L ((tg, z, a) :: S) s cs ss x κ := by
  subst htg hN
  refine g_hs ok gaxn (fun _ _ => rfl) (fun hwt hl hs => ?_) (gch1 rfl) kk
  obtain ⟨hg1, hg2⟩ := gok_a (gS2 hs).1
  have hg3 := (hwt a hg1).2 (by omega)
  have e2 : gL4 (gK s a) = n := by rw [hg2]; unfold gL4; omega
  rw [e2] at hg3
  refine ⟨?_, gext_rf s, hwt, gS1 (gS2 hs).2 (gok_i.mpr (by unfold gc32; have := hg3.1; omega))⟩
  have egf : gf (116 + 8 * n + t, z, a) = (3, a) := by
    rw [show 116 + 8 * n + t = (100 + 8 * n + t) + 16 by omega]
    rfl
  rw [List.map_cons, egf]
  show (match es_ary (gH s) (3, a) with
    | some (_, n, _) => some (pc + 1, gL L, (0, n) :: S.map gf, gH s, gF X, cs, ss)
    | none => none) = _
  rw [gobjA hg3.1 ht hg1 hg2]
  show some (pc + 1, gL L, (0, n) :: S.map gf, gH s, gF X, cs, ss) = some (pc + 1, gL L, (0, eI n) :: S.map gf, gH s, gF X, cs, ss)
  rw [geN (by have := hg3.1; omega)]
/-- an element is written -/
theorem gwe_ev {a t j : Nat} {v : Int} (ht : t < 3) (i : Nat) : gev (gw s a j v) a t i = if i = j then ((if t = 1 then 2 else 0), v, 0) else gev s a t i := by
  by_cases h : i = j
  · subst h
    rw [if_pos rfl]
    match t, ht with
    | 0, _ => show (0, gI (gw s a i v) a i, 0) = _; rw [gw_I, if_pos ⟨rfl, rfl⟩]; rfl
    | 1, _ => show (2, gI (gw s a i v) a i, 0) = _; rw [gw_I, if_pos ⟨rfl, rfl⟩]; rfl
    | 2, _ => show (0, gI (gw s a i v) a i, 0) = _; rw [gw_I, if_pos ⟨rfl, rfl⟩]; rfl
  · rw [if_neg h]
    unfold gev
    split <;> simp [gw_I, gw_R, h]
theorem gwe_H {a t n j : Nat} {v : Int} (ht : t < 3) (hk : gK s a = 100 + 8 * n + t) (hj : j < n) : gH (gw s a j v) = (gH s).set a (t + 2, n, es_set ((List.range n).map (fun i => (i, gf (gev s a t i)))) j (gf ((if t = 1 then 2 else 0), v, 0))) := by
  rw [gH_set (s := s) (a := a) (gw_n s a j v) (fun b _ hb => gobj_eq rfl (fun i => by rw [gw_I, if_neg (fun e => hb e.1)]) (fun i => rfl)), gobj_a (s := gw s a j v) (show gK (gw s a j v) a = 100 + 8 * n + t from hk) (by omega), grn _ hj]
  congr 3
  apply List.map_congr_left
  intro i _
  rw [gwe_ev ht]
  by_cases h : i = j
  · rw [if_pos h, if_pos h]
  · rw [if_neg h, if_neg h]
theorem gwe_wt {a t n j : Nat} {v : Int} (ht : t < 3) (hk : gK s a = 100 + 8 * n + t) (hv : gok s ((if t = 1 then 2 else 0), v, 0)) (hw : gwt s) : gwt (gw s a j v) := by
  intro b hb
  have h1 := hw b hb
  refine ⟨fun g1 i hi => ?_, fun g1 => ⟨(h1.2 g1).1, (h1.2 g1).2.1, fun i hi => ?_⟩⟩
  · have hba : b ≠ a := fun e => by
      subst e
      rw [gw_K, hk] at g1
      omega
    have e : gfv (gw s a j v) b (gK s b) i = gfv s b (gK s b) i := by
      unfold gfv
      rw [gw_I, gw_R, if_neg (show ¬ (b = a ∧ i = j) from fun e => hba e.1)]
    show gok s (gfv (gw s a j v) b (gK s b) i)
    rw [e]
    exact h1.1 g1 i hi
  · show gok s (gev (gw s a j v) b (gT4 (gK s b)) i)
    by_cases hba : b = a
    · subst hba
      have e1 : gT4 (gK s b) = t := by rw [hk]; unfold gT4; omega
      have h3 := (h1.2 g1).2.2 i hi
      rw [e1] at h3 ⊢
      rw [gwe_ev ht]
      by_cases h : i = j
      · rw [if_pos h]; exact hv
      · rw [if_neg h]; exact h3
    · have e : gev (gw s a j v) b (gT4 (gK s b)) i = gev s b (gT4 (gK s b)) i := by
        unfold gev
        split <;> simp only [gw_I, gw_R, if_neg (fun e : b = a ∧ i = j => hba e.1)]
      rw [e]
      exact (h1.2 g1).2.2 i hi
theorem g_ast (ok : gOK X) {ins : Instr} {t n a tg : Nat} {z j v : Int} {b b2 : Nat} (hst : es_sti ins t = true) (ht : t < 3) (hpu : ∀ nL Le Se F, es_pure nL ins pc Le Se F = none) (hins : ∀ SL (M : es_M) Le Se (u : es_V) w AH F cs ss, es_hs SL M (pc, ins, 1, []) (pc, Le, u :: (0, eI j) :: (3, w) :: Se, AH, F, cs, ss) = (match es_ary AH (3, w), es_kn F (0, eI j) with
        | some (t, n, c), some jn => bif (es_sti ins t && Nat.blt jn n) && es_sfit AH F t u then some (pc + 1, Le, Se, es_hset AH w t n c jn u, F, cs, ss) else none
        | _, _ => none)) (hfit : es_sfit (gH s) (gF X) t (gf ((if t = 1 then 2 else 0), v, b2)) = true) (htg : tg = 116 + 8 * n + t) (h0 : 0 ≤ j) (h1 : j < (n : Int)) (kk : Go X T m d (pc + 1) cd L S (gw s a j.toNat v) cs ss x κ) : Go X T m d pc ((pc, ins, 1, []) :: cd) L (((if t = 1 then 2 else 0), v, b2) :: (0, j, b) :: (tg, z, a) :: S) s cs ss x κ := by
  subst htg
  refine g_hs ok gaxn (fun _ _ => hpu _ _ _ _) (fun hwt hl hs => ?_) (gch1 rfl) kk
  obtain ⟨hg1, hg2⟩ := gok_a (gS2 (gS2 (gS2 hs).2).2).1
  have hg3 := (hwt a hg1).2 (by omega)
  have e2 : gL4 (gK s a) = n := by rw [hg2]; unfold gL4; omega
  rw [e2] at hg3
  have hv : gok s ((if t = 1 then 2 else 0), v, 0) := by
    have h9 := (gS2 hs).1
    by_cases h8 : t = 1
    · rw [if_pos h8] at h9 ⊢; exact h9
    · rw [if_neg h8] at h9 ⊢; exact h9
  refine ⟨?_, gw_ext s a _ v, gwe_wt ht hg2 hv hwt, fun w hw => gok_ext (gw_ext s a _ v) ((gS2 (gS2 (gS2 hs).2).2).2 w hw)⟩
  have egf : gf (116 + 8 * n + t, z, a) = (3, a) := by
    rw [show 116 + 8 * n + t = (100 + 8 * n + t) + 16 by omega]
    rfl
  have egv : gf ((if t = 1 then 2 else 0), v, b2) = gf ((if t = 1 then 2 else 0), v, 0) := by
    by_cases h8 : t = 1
    · rw [if_pos h8]; rfl
    · rw [if_neg h8]; rfl
  rw [List.map_cons, List.map_cons, List.map_cons, egf]
  refine (hins _ _ _ _ _ _ _ _ _ _).trans ?_
  rw [gobjA hg3.1 (by omega) hg1 hg2, gkn]
  dsimp only
  rw [geN2 h0 (by have := hg3.1; omega), hst, es_blt.mpr (show j.toNat < n by omega), hfit]
  show some (pc + 1, gL L, S.map gf, es_hset (gH s) a t n ((List.range n).map (fun i => (i, gf (gev s a t i)))) j.toNat (gf ((if t = 1 then 2 else 0), v, b2)), gF X, cs, ss) = _
  unfold es_hset
  rw [grg, if_pos (show j.toNat < n by omega), gwe_H ht hg2 (by omega), egv]
theorem g_iastore (ok : gOK X) {n a tg : Nat} {z j v N : Int} {b b2 : Nat} (htg : tg = 116 + 8 * n) (hN : N = (n : Int)) (kk : 0 ≤ j → j < N → Go X T m d (pc + 1) cd L S (gw s a j.toNat v) cs ss x κ) : Go X T m d pc ((pc, .iastore, 1, []) :: cd) L ((0, v, b2) :: (0, j, b) :: (tg, z, a) :: S) s cs ss (gchk j N x) κ :=
  g_chk (fun h0 h1 => g_ast ok (t := 0) (n := n) rfl (by decide) (fun _ _ _ _ => rfl) (fun _ _ _ _ _ _ _ _ _ _ => rfl) rfl htg h0 (by rw [← hN]; exact h1) (kk h0 h1))
theorem g_iastorec (ok : gOK X) {n a tg : Nat} {z j v : Int} {b b2 : Nat} (htg : tg = 116 + 8 * n) (h0 : 0 ≤ j) (h1 : j < (n : Int)) (kk : Go X T m d (pc + 1) cd L S (gw s a j.toNat v) cs ss x κ) : Go X T m d pc ((pc, .iastore, 1, []) :: cd) L ((0, v, b2) :: (0, j, b) :: (tg, z, a) :: S) s cs ss x κ :=
  g_ast ok (t := 0) (n := n) rfl (by decide) (fun _ _ _ _ => rfl) (fun _ _ _ _ _ _ _ _ _ _ => rfl) rfl htg h0 h1 kk
theorem g_lastore (ok : gOK X) {n a tg : Nat} {z j v N : Int} {b b2 : Nat} (htg : tg = 117 + 8 * n) (hN : N = (n : Int)) (kk : 0 ≤ j → j < N → Go X T m d (pc + 1) cd L S (gw s a j.toNat v) cs ss x κ) : Go X T m d pc ((pc, .lastore, 1, []) :: cd) L ((2, v, b2) :: (0, j, b) :: (tg, z, a) :: S) s cs ss (gchk j N x) κ :=
  g_chk (fun h0 h1 => g_ast ok (t := 1) (n := n) rfl (by decide) (fun _ _ _ _ => rfl) (fun _ _ _ _ _ _ _ _ _ _ => rfl) rfl (by omega) h0 (by rw [← hN]; exact h1) (kk h0 h1))
theorem g_bastore (ok : gOK X) {n a tg : Nat} {z j v N : Int} {b b2 : Nat} (htg : tg = 118 + 8 * n) (hN : N = (n : Int)) (kk : 0 ≤ j → j < N → (v = 0 ∨ v = 1) → Go X T m d (pc + 1) cd L S (gw s a j.toNat v) cs ss x κ) : Go X T m d pc ((pc, .bastore, 1, []) :: cd) L ((0, v, b2) :: (0, j, b) :: (tg, z, a) :: S) s cs ss (gchk j N (gbool v x)) κ :=
  g_chk (fun h0 h1 => by
    unfold gbool
    by_cases h : v = 0 ∨ v = 1
    · rw [if_pos h]
      exact g_ast ok (t := 2) (n := n) rfl (by decide) (fun _ _ _ _ => rfl) (fun _ _ _ _ _ _ _ _ _ _ => rfl) (gfitb (gF X) h) (by omega) h0 (by rw [← hN]; exact h1) (kk h0 h1 h)
    · rw [if_neg h]; exact g_none)
end GoM
end
section
def gcts (S : List gV) : Nat := match S with
  | [] => 0
  | v :: t => (bif Nat.beq v.1 2 then 2 else 1) + gcts t
theorem gcts_eq : ∀ S : List gV, es_cts (S.map gf) = gcts S
  | [] => rfl
  | v :: t => by
    show (bif Nat.beq (gf v).1 2 then 2 else 1) + es_cts (t.map gf) = (bif Nat.beq v.1 2 then 2 else 1) + gcts t
    rw [gf_2, gcts_eq t]
def gal : Nat → List gV → List (Nat × gV)
  | _, [] => []
  | i, v :: vs => (i, v) :: gal (bif Nat.beq v.1 2 then i + 2 else i + 1) vs
theorem gal_eq : ∀ (i : Nat) (vs : List gV), es_al i (vs.map gf) = gL (gal i vs)
  | _, [] => rfl
  | i, v :: vs => by
    show (i, gf v) :: es_al (bif Nat.beq (gf v).1 2 then i + 2 else i + 1) (vs.map gf) = (i, gf v) :: gL (gal (bif Nat.beq v.1 2 then i + 2 else i + 1) vs)
    rw [gf_2, gal_eq]
theorem gal_mem : ∀ (i : Nat) (vs : List gV) (q : Nat × gV), q ∈ gal i vs → q.2 ∈ vs
  | _, [], q, h => by cases h
  | i, v :: vs, q, h => by
    rcases List.mem_cons.mp (show q ∈ (i, v) :: gal (bif Nat.beq v.1 2 then i + 2 else i + 1) vs from h) with h1 | h1
    · rw [h1]; exact List.mem_cons_self
    · exact List.mem_cons_of_mem _ (gal_mem _ vs q h1)
/-- may this method be called here -/
def gcal (T T' : es_M) (m' : Nat) (vs rest : List gV) (cs ss : Nat) : Bool := ((Nat.ble (gcts vs) (es_mL T') && Nat.ble (gcts rest) 8) && (Nat.blt m' 511 && Nat.ble (es_mL T') 45)) && (Nat.ble (cs + es_mc T') (es_mc T) && Nat.ble (ss + es_ms T') (es_ms T))
def gv0 {Q : Type} (E : gS → Option Q) (q : gO) : Option Q := if q.1 = 0 then E q.2.2.2 else none
def gv1 {Q : Type} (E : Int → gS → Option Q) (q : gO) : Option Q := if q.1 = 1 then E q.2.1 q.2.2.2 else none
def gvr {Q : Type} (E : Nat → gS → Option Q) (q : gO) : Option Q := if q.1 = 1 then E q.2.2.1 q.2.2.2 else none
/-- .. and what is thrown goes on -/
def gt0 {Q : Type} (Z : gO → Q) (E : gS → Option Q) (q : gO) : Option Q := if q.1 = 0 then E q.2.2.2 else if 2 ≤ q.1 then some (Z (q.1, 0, 0, q.2.2.2)) else none
def gt1 {Q : Type} (Z : gO → Q) (E : Int → gS → Option Q) (q : gO) : Option Q := if q.1 = 1 then E q.2.1 q.2.2.2 else if 2 ≤ q.1 then some (Z (q.1, 0, 0, q.2.2.2)) else none
/-- .. and what is thrown is caught -/
def gc1 {Q : Type} (C : Nat → gS → Option Q) (E : Int → gS → Option Q) (q : gO) : Option Q := if q.1 = 1 then E q.2.1 q.2.2.2 else if 2 ≤ q.1 then C (q.1 - 2) q.2.2.2 else none
section GoC
variable {X : gX} {T T' : es_M} {m m' d pc pc' : Nat} {cd cd' : List es_I} {L L' : List (Nat × gV)} {S S' vs rest : List gV} {s s' : gS} {cs ss : Nat} {Q : Type} {x : Option Q} {κ : Q → Option gO}
theorem gleaf {e : es_I} {Le : es_L} {Se : List es_V} {AH : List es_O} {F : es_F} {q : Nat × es_V} (hat : es_at (es_tab T) pc = some e) (haux : e.2.2.2 = []) (hr : es_rtv (es_rt T) e.2.1 Se F = some q) (hc : (Nat.ble cs (es_mc T) && Nat.ble ss (es_ms T)) = true) : es_leaf (gdp d T) (0, pc, Le, Se, AH, F, cs, ss) = some (q.1, q.2, AH, F) := by
  show (match es_at (es_tab T) pc with
    | some e => match e.2.2.2 with
      | 100 :: x :: _ => match es_hh T with
        | [] => bif (Nat.blt cs (es_mc T) && Nat.ble (ss + 6) (es_ms T)) && (Nat.blt 5 (8 + d) && Nat.ble 100 (300 + 64 * d)) && Nat.ble (es_cts Se) 8 then some (x + 2, (0, 0), AH ++ [(1, 0, [])], F) else none
        | _ => none
      | _ => match es_rtv (es_rt T) e.2.1 Se F with
        | some q => bif Nat.ble cs (es_mc T) && Nat.ble ss (es_ms T) then some (q.1, q.2, AH, F) else none
        | none => none
    | none => none) = _
  rw [hat]
  dsimp only
  rw [haux]
  dsimp only
  rw [hr]
  dsimp only
  rw [hc]
  rfl
theorem g_rt (ok : gOK X) {e : es_I} {r : gO} {q : Q} (haux : e.2.2.2 = []) (hs0 : r.2.2.2 = s) (hrtv : es_rtv (es_rt T) e.2.1 (S.map gf) (gF X) = some (r.1, (gLf X T r).2.1)) (hcap : (Nat.ble cs (es_mc T) && Nat.ble ss (es_ms T)) = true) (hok : (∀ v ∈ S, gok s v) → r.1 = 1 → gok s (gRt T, r.2.1, r.2.2.1)) (hκ : κ q = some r) : Go X T m d pc (e :: cd) L S s cs ss (some q) κ := by
  intro h0 hm hc hw hl hs r' hr'
  have e1 : some r = some r' := hκ.symm.trans hr'
  cases e1
  subst hs0
  refine ⟨_, ok.2.2 _ _, ?_, gext_rf _, hw, hok hs⟩
  rw [gleaf (gch_hd hc).1 haux hrtv hcap]
  rfl
theorem g_ireturn (ok : gOK X) {v : Int} {a : Nat} {q : Q} (hrt : es_rt T = some .int) (hcap : (Nat.ble cs (es_mc T) && Nat.ble ss (es_ms T)) = true) (hκ : κ q = some (1, v, 0, s)) : Go X T m d pc ((pc, .ireturn, 1, []) :: cd) L [(0, v, a)] s cs ss (some q) κ := by
  have e : gRt T = 0 := by unfold gRt; rw [hrt]
  refine g_rt ok (r := (1, v, 0, s)) rfl rfl ?_ hcap (fun hs _ => by rw [e]; exact (gS2 hs).1) hκ
  rw [hrt]
  unfold gLf
  rw [e]
  rfl
theorem g_zreturn (ok : gOK X) {v : Int} {a : Nat} {q : Q} (hrt : es_rt T = some .boolean) (hv : v = 0 ∨ v = 1) (hcap : (Nat.ble cs (es_mc T) && Nat.ble ss (es_ms T)) = true) (hκ : κ q = some (1, v, 0, s)) : Go X T m d pc ((pc, .ireturn, 1, []) :: cd) L [(0, v, a)] s cs ss (some q) κ := by
  have e : gRt T = 1 := by unfold gRt; rw [hrt]
  refine g_rt ok (r := (1, v, 0, s)) rfl rfl ?_ hcap (fun hs _ => by rw [e]; exact hv) hκ
  rw [hrt]
  unfold gLf
  rw [e]
  show (bif es_fitv .boolean (gF X) (0, eI v) then some (1, (0, eI v)) else none) = _
  rw [gfitb _ hv]
  rfl
theorem g_zreturnb (ok : gOK X) {v : Int} {a : Nat} {q : Q} (hrt : es_rt T = some .boolean) (hcap : (Nat.ble cs (es_mc T) && Nat.ble ss (es_ms T)) = true) (hκ : κ q = some (1, v, 0, s)) : Go X T m d pc ((pc, .ireturn, 1, []) :: cd) L [(0, v, a)] s cs ss (gbool v (some q)) κ := by
  unfold gbool
  by_cases h : v = 0 ∨ v = 1
  · rw [if_pos h]; exact g_zreturn ok hrt h hcap hκ
  · rw [if_neg h]; exact g_none
/-- a char or a byte -/
theorem g_creturn (ok : gOK X) {v : Int} {a : Nat} {q : Q} (hrt : es_rt T = some .char ∨ es_rt T = some .byte) (hv : 0 ≤ v ∧ v < 128) (hcap : (Nat.ble cs (es_mc T) && Nat.ble ss (es_ms T)) = true) (hκ : κ q = some (1, v, 0, s)) : Go X T m d pc ((pc, .ireturn, 1, []) :: cd) L [(0, v, a)] s cs ss (some q) κ := by
  have e : gRt T = 0 := by unfold gRt; rcases hrt with h | h <;> rw [h]
  have e2 : es_nar (gF X) (0, eI v) = true := by
    show Nat.blt (eI v) 128 = true
    rw [geN2 hv.1 (by omega)]
    exact es_blt.mpr (by omega)
  refine g_rt ok (r := (1, v, 0, s)) rfl rfl ?_ hcap (fun hs _ => by rw [e]; exact (gS2 hs).1) hκ
  unfold gLf
  rw [e]
  rcases hrt with h | h
  · rw [h]
    show (bif es_nar (gF X) (0, eI v) then some (1, (0, eI v)) else none) = _
    rw [e2]; rfl
  · rw [h]
    show (bif es_nar (gF X) (0, eI v) then some (1, (0, eI v)) else none) = _
    rw [e2]; rfl
theorem g_lreturn (ok : gOK X) {v : Int} {a : Nat} {q : Q} (hrt : es_rt T = some .long) (hcap : (Nat.ble cs (es_mc T) && Nat.ble ss (es_ms T)) = true) (hκ : κ q = some (1, v, 0, s)) : Go X T m d pc ((pc, .lreturn, 1, []) :: cd) L [(2, v, a)] s cs ss (some q) κ := by
  have e : gRt T = 2 := by unfold gRt; rw [hrt]
  refine g_rt ok (r := (1, v, 0, s)) rfl rfl ?_ hcap (fun hs _ => by rw [e]; exact (gS2 hs).1) hκ
  rw [hrt]
  unfold gLf
  rw [e]
  rfl
theorem g_return (ok : gOK X) {q : Q} (hrt : es_rt T = none) (hcap : (Nat.ble cs (es_mc T) && Nat.ble ss (es_ms T)) = true) (hκ : κ q = some (0, 0, 0, s)) : Go X T m d pc ((pc, .return_, 1, []) :: cd) L [] s cs ss (some q) κ := by
  refine g_rt ok (r := (0, 0, 0, s)) rfl rfl ?_ hcap (fun hs h => by cases h) hκ
  rw [hrt]
  rfl
/-- a reference, or nothing -/
theorem g_areturn (ok : gOK X) {w : gV} {a tg : Nat} {q : Q} (hrt : (∃ C, es_rt T = some (.object C)) ∨ ∃ t, es_rt T = some (.array t)) (htg : gRt T = tg) (hgf : gf w = gf (tg, 0, a)) (htr : es_tr (gf w) = true) (hok : gok s w → gok s (tg, 0, a)) (hcap : (Nat.ble cs (es_mc T) && Nat.ble ss (es_ms T)) = true) (hκ : κ q = some (1, 0, a, s)) : Go X T m d pc ((pc, .areturn, 1, []) :: cd) L [w] s cs ss (some q) κ := by
  refine g_rt ok (r := (1, 0, a, s)) rfl rfl ?_ hcap (fun hs _ => by rw [htg]; exact hok (gS2 hs).1) hκ
  unfold gLf
  rw [htg]
  dsimp only
  rw [if_pos rfl, ← hgf]
  rcases hrt with ⟨C, h⟩ | ⟨C, h⟩
  · rw [h]
    show (bif es_tr (gf w) then some (1, gf w) else none) = _
    rw [htr]; rfl
  · rw [h]
    show (bif es_tr (gf w) then some (1, gf w) else none) = _
    rw [htr]; rfl
/-- a new cell -/
theorem gnw_K (s : gS) (kd a : Nat) : gK (gnw s kd) a = if a = gn s then kd else gK s a := rfl
theorem gnw_I (s : gS) (kd a k : Nat) : gI (gnw s kd) a k = if a = gn s then 0 else gI s a k := rfl
theorem gnw_R (s : gS) (kd a k : Nat) : gR (gnw s kd) a k = if a = gn s then 0 else gR s a k := rfl
theorem gnw_ext (s : gS) (kd : Nat) : gext s (gnw s kd) := ⟨Nat.le_succ _, fun a ha => by rw [gnw_K, if_neg (Nat.ne_of_lt ha)]⟩
theorem gnw_H (s : gS) (kd : Nat) : gH (gnw s kd) = gH s ++ [gobj (gnw s kd) (gn s)] :=
  gH_new rfl (fun b hb => gobj_eq (by rw [gnw_K, if_neg (Nat.ne_of_lt hb)]) (fun i => by rw [gnw_I, if_neg (Nat.ne_of_lt hb)]) (fun i => by rw [gnw_R, if_neg (Nat.ne_of_lt hb)]))
theorem gnw_wt {kd : Nat} (hw : gwt s) (h1 : kd < 13 → ∀ i, i < gnf kd → gok (gnw s kd) (gfv (gnw s kd) (gn s) kd i)) (h2 : 100 ≤ kd → gL4 kd < 1000000 ∧ gT4 kd < 5 ∧ ∀ j, j < gL4 kd → gok (gnw s kd) (gev (gnw s kd) (gn s) (gT4 kd) j)) : gwt (gnw s kd) := by
  intro b hb
  by_cases hbs : b = gn s
  · subst hbs
    rw [gnw_K, if_pos rfl]
    exact ⟨h1, h2⟩
  · have hlt : b < gn s := by
      have h9 : b < gn s + 1 := hb
      omega
    have g := hw b hlt
    rw [gnw_K, if_neg hbs]
    refine ⟨fun g1 i hi => ?_, fun g1 => ⟨(g.2 g1).1, (g.2 g1).2.1, fun j hj => ?_⟩⟩
    · have e : gfv (gnw s kd) b (gK s b) i = gfv s b (gK s b) i := by
        unfold gfv
        rw [gnw_I, gnw_R, if_neg hbs, if_neg hbs]
      rw [e]
      exact gok_ext (gnw_ext s kd) (g.1 g1 i hi)
    · have e : gev (gnw s kd) b (gT4 (gK s b)) j = gev s b (gT4 (gK s b)) j := by
        unfold gev
        split <;> simp only [gnw_I, gnw_R, if_neg hbs]
      rw [e]
      exact gok_ext (gnw_ext s kd) ((g.2 g1).2.2 j hj)
theorem gnw99 (hw : gwt s) : gwt (gnw s 99) := gnw_wt hw (fun h => absurd h (by decide)) (fun h => absurd h (by decide))
/-- it throws -/
theorem g_throw (ok : gOK X) {ik x0 : Nat} {tl : List Nat} {q : Q} (hh : es_hh T = []) (hcap : ((Nat.blt cs (es_mc T) && Nat.ble (ss + 6) (es_ms T)) && Nat.ble (gcts S) 8) = true) (hκ : κ q = some (x0 + 2, 0, 0, gnw s 99)) : Go X T m d pc ((pc, .new ik, 3, 100 :: x0 :: tl) :: cd) L S s cs ss (some q) κ := by
  intro h0 hm hc hw hl hs r' hr'
  have e1 : some (x0 + 2, 0, 0, gnw s 99) = some r' := hκ.symm.trans hr'
  cases e1
  refine ⟨_, ok.2.2 _ _, ?_, gnw_ext s 99, gnw99 hw, fun h => by cases h⟩
  simp only [Bool.and_eq_true] at hcap
  show (match es_at (es_tab T) pc with
    | some e => match e.2.2.2 with
      | 100 :: x :: _ => match es_hh T with
        | [] => bif (Nat.blt cs (es_mc T) && Nat.ble (ss + 6) (es_ms T)) && (Nat.blt 5 (8 + d) && Nat.ble 100 (300 + 64 * d)) && Nat.ble (es_cts (S.map gf)) 8 then some (x + 2, (0, 0), gH s ++ [(1, 0, [])], gF X) else none
        | _ => none
      | _ => match es_rtv (es_rt T) e.2.1 (S.map gf) (gF X) with
        | some q => bif Nat.ble cs (es_mc T) && Nat.ble ss (es_ms T) then some (q.1, q.2, gH s, gF X) else none
        | none => none
    | none => none) = _
  rw [(gch_hd hc).1]
  dsimp only
  rw [hh]
  dsimp only
  rw [gcts_eq, hcap.1.1, hcap.1.2, hcap.2, es_blt.mpr (show 5 < 8 + d by omega), Nat.ble_eq.mpr (show 100 ≤ 300 + 64 * d by omega)]
  have e2 : gobj (gnw s 99) (gn s) = (1, 0, []) := by
    unfold gobj
    rw [gnw_K, if_pos rfl, if_neg (by decide), if_pos (by decide)]
  unfold gLf
  dsimp only
  rw [gnw_H, e2, if_neg (by omega)]
  rfl
/-- what is behind a call -/
def gAft (X : gX) (T T' : es_M) (m d pc : Nat) (L : List (Nat × gV)) (rest : List gV) (cs ss : Nat) (s : gS) (q r : gO) : Prop :=
  ∃ Kc Ec E, gRS X (m + 512 * d) Kc [Ec] ∧ (∀ ih : Nat → es_K → Option (List es_E), ih (m + 512 * d) Kc = some [Ec] → es_aft (gME (gM0 X)) ih (m + 512 * d) pc (gL L) (rest.map gf) cs ss (gLf X T' q) = some [E]) ∧ es_leaf (gdp d T) E = some (gLf X T r) ∧ gext s r.2.2.2 ∧ gwt r.2.2.2 ∧ (r.1 = 1 → gok r.2.2.2 (gRt T, r.2.1, r.2.2.1))
theorem g_call (ok : gOK X) (h0' : gM0 X m' = T') (hm' : m' < 512) {e : es_I} {y : Option gO} {W : gO → Option Q} (hcal : gcal T T' m' vs rest cs ss = true)
    (hstep : m < 512 → gM0 X m = T → es_at (es_tab T) pc = some e → gwt s → (∀ v ∈ S, gok s v) → ∀ ih : Nat → es_K → Option (List es_E), (∀ v, es_inv1 (gME (gM0 X)) ih (m + 512 * (d + 1)) (m' + 512 * d) (vs.map gf) (rest.map gf) (gH s) (gF X) cs ss = some v → ∃ q, y = some q ∧ v = [gLf X T' q]) → es_step (gME (gM0 X)) (gts X) (gSL X) ih (m + 512 * (d + 1)) (pc, gL L, S.map gf, gH s, gF X, cs, ss) = (match es_inv1 (gME (gM0 X)) ih (m + 512 * (d + 1)) (m' + 512 * d) (vs.map gf) (rest.map gf) (gH s) (gF X) cs ss with
      | some lfs => es_cat (es_aft (gME (gM0 X)) ih (m + 512 * (d + 1)) pc (gL L) (rest.map gf) (cs + es_mc T') (ss + es_ms T')) lfs
      | none => none))
    (hvs : (∀ v ∈ S, gok s v) → (∀ v ∈ vs, gok s v) ∧ ∀ v ∈ rest, gok s v) (ct : Go X T' m' d 0 [] (gal 0 vs) [] s 0 0 y some)
    (k : gM0 X m = T → m < 512 → gch T (pc + e.2.2.1) cd = true → ∀ q, gext s q.2.2.2 → gwt q.2.2.2 → (q.1 = 1 → gok q.2.2.2 (gRt T', q.2.1, q.2.2.1)) → (∀ z ∈ L, gok q.2.2.2 z.2) → (∀ v ∈ rest, gok q.2.2.2 v) → ∀ r, (W q).bind κ = some r → gAft X T T' m (d + 1) pc L rest (cs + es_mc T') (ss + es_ms T') q.2.2.2 q r) :
    Go X T m (d + 1) pc (e :: cd) L S s cs ss (y.bind W) κ := by
  intro h0 hm hc hw hl hs r hr
  cases hy : y with
  | none => rw [hy] at hr; cases hr
  | some q =>
    rw [hy] at hr
    obtain ⟨g1, g2⟩ := hvs hs
    obtain ⟨E', c1, c2, c3, c4, c5⟩ := ct h0' hm' rfl hw (fun z hz => g1 _ (gal_mem 0 vs z hz)) (fun v hv => by cases hv) q (by rw [hy]; rfl)
    obtain ⟨Kc, Ec, E, a1, a2, a3, a4, a5⟩ := k h0 hm (gch_hd hc).2 q c3 c4 c5 (fun z hz => gok_ext c3 (hl z hz)) (fun v hv => gok_ext c3 (g2 v hv)) r hr
    have hne : m' + 512 * d ≠ m + 512 * (d + 1) := by omega
    refine ⟨E, ok.1 (fun M K1 => @ite _ (M = m' + 512 * d ∧ K1 = (0, gL (gal 0 vs), [], gH s, gF X, 0, 0)) (Classical.propDecidable _) (some [E']) (@ite _ (M = m + 512 * (d + 1) ∧ K1 = Kc) (Classical.propDecidable _) (some [Ec]) none)) (fun M K1 ends he => ?_) _ _ _ ?_, a3, gext_tr c3 a4, a5⟩
    · by_cases hcnd : M = m' + 512 * d ∧ K1 = (0, gL (gal 0 vs), [], gH s, gF X, 0, 0)
      · rw [if_pos hcnd] at he
        cases he
        rw [hcnd.1, hcnd.2]
        exact c1
      · rw [if_neg hcnd] at he
        by_cases hcn2 : M = m + 512 * (d + 1) ∧ K1 = Kc
        · rw [if_pos hcn2] at he
          cases he
          rw [hcn2.1, hcn2.2]
          exact a1
        · rw [if_neg hcn2] at he
          cases he
    · have hi1 : ∀ ih : Nat → es_K → Option (List es_E), ih (m' + 512 * d) (0, gL (gal 0 vs), [], gH s, gF X, 0, 0) = some [E'] → es_inv1 (gME (gM0 X)) ih (m + 512 * (d + 1)) (m' + 512 * d) (vs.map gf) (rest.map gf) (gH s) (gF X) cs ss = some [gLf X T' q] := fun ih hih => by
        unfold es_inv1
        rw [gME_at _ hm', gME_at _ hm, h0', h0, gcts_eq, gcts_eq, gal_eq, hih]
        unfold gcal at hcal
        simp only [Bool.and_eq_true, Nat.ble_eq, es_blt] at hcal
        obtain ⟨⟨⟨q1, q2⟩, q3, q4⟩, q5, q6⟩ := hcal
        have hcx : es_cx (m' + 512 * d) = true := by
          unfold es_cx
          rw [show (m' + 512 * d) % 512 = m' by omega, es_beqf.mpr (by omega)]
          rfl
        have hb : ((Nat.ble (gcts vs) (es_mL (gdp d T')) && (Nat.ble (gcts rest) 8 && es_cx (m' + 512 * d))) && ((Nat.blt (es_rf (gdp d T')) (es_rf (gdp (d + 1) T)) && Nat.ble (19 + es_mL (gdp d T') + es_lo (gdp d T')) (es_lo (gdp (d + 1) T))) && (Nat.ble (cs + es_mc (gdp d T')) (es_mc (gdp (d + 1) T)) && Nat.ble (ss + es_ms (gdp d T')) (es_ms (gdp (d + 1) T))))) = true := by
          simp only [Bool.and_eq_true, Nat.ble_eq, es_blt]
          refine ⟨⟨q1, q2, hcx⟩, ⟨?_, ?_⟩, q5, q6⟩
          · show 8 + d < 8 + (d + 1); omega
          · show 19 + es_mL T' + (300 + 64 * d) ≤ 300 + 64 * (d + 1); omega
        rw [hb]
        show (match es_cat (fun E => (es_leaf (gdp d T') E).map (fun x => [x])) [E'] with | some lfs => some lfs | none => none) = _
        simp only [es_cat, c2, Option.map_some, List.append_nil]
      rw [hstep hm h0 (gch_hd hc).1 hw hs _ (fun v hv => by
        rw [hi1 _ (if_pos ⟨rfl, rfl⟩)] at hv
        cases hv
        exact ⟨q, hy, rfl⟩), hi1 _ (if_pos ⟨rfl, rfl⟩)]
      dsimp only
      simp only [es_cat]
      rw [a2 _ (by rw [if_neg (fun h => hne h.1.symm)]; exact if_pos ⟨rfl, rfl⟩)]
      rfl
/-- the plain ends of a call -/
theorem g_aft0 {q r : gO} {w : Option gV} (hm : m < 512) (h0 : gM0 X m = T) (hq : (q.1 = 0 ∧ w = none) ∨ (q.1 = 1 ∧ ∃ u, w = some u ∧ gf u = gf (gRt T', q.2.1, q.2.2.1) ∧ gok q.2.2.2 u)) (hch : gch T (pc + 3) cd = true) (hw : gwt q.2.2.2) (hL : ∀ z ∈ L, gok q.2.2.2 z.2) (hR : ∀ v ∈ rest, gok q.2.2.2 v) (kk : Go X T m d (pc + 3) cd L (w.toList ++ rest) q.2.2.2 cs ss x κ) (hr : x.bind κ = some r) : gAft X T T' m d pc L rest cs ss q.2.2.2 q r := by
  have hS : ∀ v ∈ w.toList ++ rest, gok q.2.2.2 v := fun v hv => by
    rcases List.mem_append.mp hv with h | h
    · rcases hq with ⟨-, h2⟩ | ⟨-, u, h2, -, h4⟩
      · rw [h2] at h; cases h
      · rw [h2] at h
        rw [List.mem_singleton.mp h]
        exact h4
    · exact hR v h
  obtain ⟨E, e1, e2, e3, e4, e5⟩ := kk h0 hm hch hw hL hS r hr
  refine ⟨_, E, E, e1, fun ih hih => ?_, e2, e3, e4, e5⟩
  rcases hq with ⟨h1, h2⟩ | ⟨h1, u, h2, h3, h4⟩
  · subst h2
    unfold gLf
    rw [h1]
    exact hih
  · subst h2
    unfold gLf
    rw [h1]
    show ih (m + 512 * d) (pc + 3, gL L, gf (gRt T', q.2.1, q.2.2.1) :: rest.map gf, gH q.2.2.2, gF X, cs, ss) = some [E]
    rw [← h3]
    exact hih
/-- it is thrown on -/
theorem g_aftT (ok : gOK X) {q r : gO} (hm : m < 512) (h0 : gM0 X m = T) (hh : es_hh T = []) (h2 : 2 ≤ q.1) (hr : r = (q.1, 0, 0, q.2.2.2)) (hw : gwt q.2.2.2) (hcap : (Nat.ble cs (es_mc T) && Nat.ble ss (es_ms T)) = true) : gAft X T T' m d pc L rest cs ss q.2.2.2 q r := by
  subst hr
  obtain ⟨k, v, a, u⟩ := q
  obtain ⟨k, rfl⟩ : ∃ j, k = j + 2 := ⟨k - 2, by have h9 : 2 ≤ k := h2; omega⟩
  refine ⟨(0, [], [], [], [], 0, 0), _, (k + 1, pc, gL L, rest.map gf, gH u, gF X, cs, ss), ok.2.2 _ _, fun ih _ => ?_, ?_, gext_rf _, hw, fun h => by cases h⟩
  · show (match es_hh (gME (gM0 X) (m + 512 * d)) with
      | [] => some [(k + 1, pc, gL L, rest.map gf, gH u, gF X, cs, ss)]
      | hh => match es_hdl es_ct hh pc k with
        | some h => bif Nat.blt k 5 then ih (m + 512 * d) (h, gL L, [(7, 0)], gH u, gF X, cs, ss) else none
        | none => none) = _
    rw [gME_at _ hm, h0, show es_hh (gdp d T) = [] from hh]
  · show (match es_hh T with
      | [] => bif Nat.ble cs (es_mc T) && Nat.ble ss (es_ms T) then some (k + 2, (0, 0), gH u, gF X) else none
      | _ => none) = _
    rw [hh]
    dsimp only
    rw [hcap]
    unfold gLf
    dsimp only
    rw [if_neg (by omega)]
    rfl
/-- it is caught -/
theorem g_aftC {q r : gO} {h : Nat} (hm : m < 512) (h0 : gM0 X m = T) (h2 : 2 ≤ q.1) (h7 : q.1 - 2 < 5) (hne : es_hh T ≠ []) (hhd : es_hdl es_ct (es_hh T) pc (q.1 - 2) = some h) (hw : gwt q.2.2.2) (hL : ∀ z ∈ L, gok q.2.2.2 z.2) (kk : Go X T m d h [] L [(7, 0, 0)] q.2.2.2 cs ss x κ) (hr : x.bind κ = some r) : gAft X T T' m d pc L rest cs ss q.2.2.2 q r := by
  obtain ⟨k, v, a, u⟩ := q
  obtain ⟨k, rfl⟩ : ∃ j, k = j + 2 := ⟨k - 2, by have h9 : 2 ≤ k := h2; omega⟩
  dsimp only at h7 hhd hw hL
  rw [Nat.add_sub_cancel] at h7 hhd
  obtain ⟨E, e1, e2, e3, e4, e5⟩ := kk h0 hm rfl hw hL (fun v hv => by
    rw [List.mem_singleton.mp hv]
    exact fun h => absurd h (by decide)) r hr
  refine ⟨_, E, E, e1, fun ih hih => ?_, e2, e3, e4, e5⟩
  show (match es_hh (gME (gM0 X) (m + 512 * d)) with
    | [] => some [(k + 1, pc, gL L, rest.map gf, gH u, gF X, cs, ss)]
    | hh => match es_hdl es_ct hh pc k with
      | some h => bif Nat.blt k 5 then ih (m + 512 * d) (h, gL L, [(7, 0)], gH u, gF X, cs, ss) else none
      | none => none) = _
  rw [gME_at _ hm, h0, show es_hh (gdp d T) = es_hh T from rfl]
  cases hhT : es_hh T with
  | nil => exact absurd hhT hne
  | cons z t =>
    dsimp only
    rw [hhT] at hhd
    rw [hhd]
    dsimp only
    rw [es_blt.mpr h7]
    exact hih
end GoC
end
section
section GoG
variable {X : gX} {T T' : es_M} {m m' d pc pc' : Nat} {cd cd' : List es_I} {L L' : List (Nat × gV)} {S S' vs rest : List gV} {s s' : gS} {cs ss : Nat} {Q : Type} {x : Option Q} {κ : Q → Option gO}
theorem gmc (hm' : m' < 512) (h0' : gM0 X m' = T') : es_mc (gME (gM0 X) (m' + 512 * d)) = es_mc T' ∧ es_ms (gME (gM0 X) (m' + 512 * d)) = es_ms T' := by
  rw [gME_at _ hm', h0']
  exact ⟨rfl, rfl⟩
/-- an instance method of an own class -/
theorem gst_v {idx n ci a : Nat} {z : Int} {tl : List Nat} {ih : Nat → es_K → Option (List es_E)} (h0' : gM0 X m' = T') (hm' : m' < 512) (hci : Nat.blt ci 13 = true) (hdr : S.drop n = (ci + 16, z, a) :: rest) (hm : m < 512) (h0 : gM0 X m = T) (hat : es_at (es_tab T) pc = some (pc, .invokevirtual idx, 3, 1 :: m' :: n :: ci :: tl)) (hs : ∀ v ∈ S, gok s v) :
    es_step (gME (gM0 X)) (gts X) (gSL X) ih (m + 512 * (d + 1)) (pc, gL L, S.map gf, gH s, gF X, cs, ss) = (match es_inv1 (gME (gM0 X)) ih (m + 512 * (d + 1)) (m' + 512 * d) (((ci + 16, z, a) :: (S.take n).reverse).map gf) (rest.map gf) (gH s) (gF X) cs ss with
      | some lfs => es_cat (es_aft (gME (gM0 X)) ih (m + 512 * (d + 1)) pc (gL L) (rest.map gf) (cs + es_mc T') (ss + es_ms T')) lfs
      | none => none) := by
  unfold es_step
  dsimp only
  rw [gtab h0 hm hat]
  show es_sv (gME (gM0 X)) ih (m + 512 * (d + 1)) (es_cal (m + 512 * (d + 1)) m') n ci pc (gL L) (S.map gf) (gH s) (gF X) cs ss = _
  rw [gcal_at m d hm hm']
  unfold es_sv
  rw [← List.map_drop, hdr, List.map_cons]
  dsimp only
  have hv : gok s (ci + 16, z, a) := hs _ (List.mem_of_mem_drop (by rw [hdr]; exact List.mem_cons_self))
  obtain ⟨h1, h2⟩ := gok_r.mp hv
  rw [gf_r, gobjC (es_blt.mp hci) h1 h2]
  dsimp only
  rw [(gmc hm' h0').1, (gmc hm' h0').2, ← List.map_take, ← List.map_reverse]
  rfl
/-- a static method -/
theorem gst_s {idx n : Nat} {tl : List Nat} {ih : Nat → es_K → Option (List es_E)} (h0' : gM0 X m' = T') (hm' : m' < 512) (hn : Nat.ble n S.length = true) (hm : m < 512) (h0 : gM0 X m = T) (hat : es_at (es_tab T) pc = some (pc, .invokestatic idx, 3, 2 :: m' :: n :: tl)) :
    es_step (gME (gM0 X)) (gts X) (gSL X) ih (m + 512 * (d + 1)) (pc, gL L, S.map gf, gH s, gF X, cs, ss) = (match es_inv1 (gME (gM0 X)) ih (m + 512 * (d + 1)) (m' + 512 * d) ((S.take n).reverse.map gf) ((S.drop n).map gf) (gH s) (gF X) cs ss with
      | some lfs => es_cat (es_aft (gME (gM0 X)) ih (m + 512 * (d + 1)) pc (gL L) ((S.drop n).map gf) (cs + es_mc T') (ss + es_ms T')) lfs
      | none => none) := by
  unfold es_step
  dsimp only
  rw [gtab h0 hm hat]
  show es_ss (gME (gM0 X)) ih (m + 512 * (d + 1)) (es_cal (m + 512 * (d + 1)) m') n pc (gL L) (S.map gf) (gH s) (gF X) cs ss = _
  rw [gcal_at m d hm hm']
  unfold es_ss
  rw [List.length_map, hn, (gmc hm' h0').1, (gmc hm' h0').2, ← List.map_take, ← List.map_reverse, ← List.map_drop]
  rfl
/-- a method of a constant text -/
theorem gst_q {idx n a : Nat} {z : Int} {tl : List Nat} {ih : Nat → es_K → Option (List es_E)} (h0' : gM0 X m' = T') (hm' : m' < 512) (ha : a < (gts X).length) (hdr : S.drop n = (8, z, a) :: rest) (hm : m < 512) (h0 : gM0 X m = T) (hat : es_at (es_tab T) pc = some (pc, .invokevirtual idx, 3, 3 :: m' :: n :: tl)) :
    es_step (gME (gM0 X)) (gts X) (gSL X) ih (m + 512 * (d + 1)) (pc, gL L, S.map gf, gH s, gF X, cs, ss) = (match es_inv1 (gME (gM0 X)) ih (m + 512 * (d + 1)) (m' + 512 * d) (((8, z, a) :: (S.take n).reverse).map gf) (rest.map gf) (gH s) (gF X) cs ss with
      | some lfs => es_cat (es_aft (gME (gM0 X)) ih (m + 512 * (d + 1)) pc (gL L) (rest.map gf) (cs + es_mc T') (ss + es_ms T')) lfs
      | none => none) := by
  unfold es_step
  dsimp only
  rw [gtab h0 hm hat]
  show es_sq (gME (gM0 X)) (gts X) ih (m + 512 * (d + 1)) (es_cal (m + 512 * (d + 1)) m') n pc (gL L) (S.map gf) (gH s) (gF X) cs ss = _
  rw [gcal_at m d hm hm']
  unfold es_sq
  rw [← List.map_drop, hdr, List.map_cons]
  dsimp only
  rw [show (Nat.beq (gf (8, z, a)).1 8 && Nat.blt (gf (8, z, a)).2 (gts X).length) = true from by rw [Bool.and_eq_true, es_blt]; exact ⟨rfl, ha⟩]
  dsimp only [cond_true]
  rw [(gmc hm' h0').1, (gmc hm' h0').2, ← List.map_take, ← List.map_reverse]
  rfl
theorem gvsv {n : Nat} {o : gV} (hdr : S.drop n = o :: rest) : (∀ v ∈ S, gok s v) → (∀ v ∈ o :: (S.take n).reverse, gok s v) ∧ ∀ v ∈ rest, gok s v := fun hs => by
  refine ⟨fun v hv => ?_, fun v hv => hs v (List.mem_of_mem_drop (by rw [hdr]; exact List.mem_cons_of_mem _ hv))⟩
  rcases List.mem_cons.mp hv with h | h
  · exact hs v (List.mem_of_mem_drop (by rw [hdr, h]; exact List.mem_cons_self))
  · exact hs v (List.mem_of_mem_take (List.mem_reverse.mp h))
theorem gvss {n : Nat} : (∀ v ∈ S, gok s v) → (∀ v ∈ (S.take n).reverse, gok s v) ∧ ∀ v ∈ S.drop n, gok s v := fun hs =>
  ⟨fun v hv => hs v (List.mem_of_mem_take (List.mem_reverse.mp hv)), fun v hv => hs v (List.mem_of_mem_drop hv)⟩
/-- how a call goes on: no answer, a number, a truth, a long, what may be nothing; and the same where it may throw -/
theorem gk_0 {q r : gO} {E : gS → Option Q} (kk : ∀ s', Go X T m d (pc + 3) cd L rest s' cs ss (E s') κ) (h0 : gM0 X m = T) (hm : m < 512) (hch : gch T (pc + 3) cd = true) (hw : gwt q.2.2.2) (hL : ∀ z ∈ L, gok q.2.2.2 z.2) (hR : ∀ v ∈ rest, gok q.2.2.2 v) (hr : (gv0 E q).bind κ = some r) : gAft X T T' m d pc L rest cs ss q.2.2.2 q r := by
  unfold gv0 at hr
  by_cases h : q.1 = 0
  · rw [if_pos h] at hr
    exact g_aft0 (w := none) hm h0 (Or.inl ⟨h, rfl⟩) hch hw hL hR (kk _) hr
  · rw [if_neg h] at hr; cases hr
theorem gk_1 {q r : gO} {E : Int → gS → Option Q} (hT : gRt T' = 0) (kk : ∀ v s', Go X T m d (pc + 3) cd L ((0, v, 0) :: rest) s' cs ss (E v s') κ) (h0 : gM0 X m = T) (hm : m < 512) (hch : gch T (pc + 3) cd = true) (hw : gwt q.2.2.2) (hg : q.1 = 1 → gok q.2.2.2 (gRt T', q.2.1, q.2.2.1)) (hL : ∀ z ∈ L, gok q.2.2.2 z.2) (hR : ∀ v ∈ rest, gok q.2.2.2 v) (hr : (gv1 E q).bind κ = some r) : gAft X T T' m d pc L rest cs ss q.2.2.2 q r := by
  unfold gv1 at hr
  by_cases h : q.1 = 1
  · rw [if_pos h] at hr
    have hg := hg h
    rw [hT] at hg
    exact g_aft0 (w := some (0, q.2.1, 0)) hm h0 (Or.inr ⟨h, _, rfl, by rw [hT]; rfl, hg⟩) hch hw hL hR (kk _ _) hr
  · rw [if_neg h] at hr; cases hr
theorem gk_z {q r : gO} {E : Int → gS → Option Q} (hT : gRt T' = 1) (kk : ∀ v s', (v = 0 ∨ v = 1) → Go X T m d (pc + 3) cd L ((0, v, 0) :: rest) s' cs ss (E v s') κ) (h0 : gM0 X m = T) (hm : m < 512) (hch : gch T (pc + 3) cd = true) (hw : gwt q.2.2.2) (hg : q.1 = 1 → gok q.2.2.2 (gRt T', q.2.1, q.2.2.1)) (hL : ∀ z ∈ L, gok q.2.2.2 z.2) (hR : ∀ v ∈ rest, gok q.2.2.2 v) (hr : (gv1 E q).bind κ = some r) : gAft X T T' m d pc L rest cs ss q.2.2.2 q r := by
  unfold gv1 at hr
  by_cases h : q.1 = 1
  · rw [if_pos h] at hr
    have hg := hg h
    rw [hT] at hg
    have hg2 : q.2.1 = 0 ∨ q.2.1 = 1 := hg
    exact g_aft0 (w := some (0, q.2.1, 0)) hm h0 (Or.inr ⟨h, _, rfl, by rw [hT]; rfl, by
      show gc32 q.2.1
      rcases hg2 with h9 | h9 <;> rw [h9] <;> unfold gc32 <;> decide⟩) hch hw hL hR (kk _ _ hg2) hr
  · rw [if_neg h] at hr; cases hr
theorem gk_l {q r : gO} {E : Int → gS → Option Q} (hT : gRt T' = 2) (kk : ∀ v s', Go X T m d (pc + 3) cd L ((2, v, 0) :: rest) s' cs ss (E v s') κ) (h0 : gM0 X m = T) (hm : m < 512) (hch : gch T (pc + 3) cd = true) (hw : gwt q.2.2.2) (hg : q.1 = 1 → gok q.2.2.2 (gRt T', q.2.1, q.2.2.1)) (hL : ∀ z ∈ L, gok q.2.2.2 z.2) (hR : ∀ v ∈ rest, gok q.2.2.2 v) (hr : (gv1 E q).bind κ = some r) : gAft X T T' m d pc L rest cs ss q.2.2.2 q r := by
  unfold gv1 at hr
  by_cases h : q.1 = 1
  · rw [if_pos h] at hr
    have hg := hg h
    rw [hT] at hg
    exact g_aft0 (w := some (2, q.2.1, 0)) hm h0 (Or.inr ⟨h, _, rfl, by rw [hT]; rfl, hg⟩) hch hw hL hR (kk _ _) hr
  · rw [if_neg h] at hr; cases hr
theorem gk_r {q r : gO} {E : Nat → gS → Option Q} {tg : Nat} (hT : gRt T' = tg) (h11 : tg = 11 ∨ tg = 12) (kk : ∀ a s', Go X T m d (pc + 3) cd L ((tg, 0, a) :: rest) s' cs ss (E a s') κ) (h0 : gM0 X m = T) (hm : m < 512) (hch : gch T (pc + 3) cd = true) (hw : gwt q.2.2.2) (hg : q.1 = 1 → gok q.2.2.2 (gRt T', q.2.1, q.2.2.1)) (hL : ∀ z ∈ L, gok q.2.2.2 z.2) (hR : ∀ v ∈ rest, gok q.2.2.2 v) (hr : (gvr E q).bind κ = some r) : gAft X T T' m d pc L rest cs ss q.2.2.2 q r := by
  unfold gvr at hr
  by_cases h : q.1 = 1
  · rw [if_pos h] at hr
    have hg := hg h
    rw [hT] at hg
    exact g_aft0 (w := some (tg, 0, q.2.2.1)) hm h0 (Or.inr ⟨h, _, rfl, by rw [hT]; rcases h11 with rfl | rfl <;> rfl, by rcases h11 with rfl | rfl <;> exact hg⟩) hch hw hL hR (kk _ _) hr
  · rw [if_neg h] at hr; cases hr
theorem gk_t0 (ok : gOK X) {q r : gO} {Z : gO → Q} {E : gS → Option Q} (hh : es_hh T = []) (hcap : (Nat.ble cs (es_mc T) && Nat.ble ss (es_ms T)) = true) (hZ : ∀ r, κ (Z r) = some r) (kk : ∀ s', Go X T m d (pc + 3) cd L rest s' cs ss (E s') κ) (h0 : gM0 X m = T) (hm : m < 512) (hch : gch T (pc + 3) cd = true) (hw : gwt q.2.2.2) (hL : ∀ z ∈ L, gok q.2.2.2 z.2) (hR : ∀ v ∈ rest, gok q.2.2.2 v) (hr : (gt0 Z E q).bind κ = some r) : gAft X T T' m d pc L rest cs ss q.2.2.2 q r := by
  unfold gt0 at hr
  by_cases h : q.1 = 0
  · rw [if_pos h] at hr
    exact g_aft0 (w := none) hm h0 (Or.inl ⟨h, rfl⟩) hch hw hL hR (kk _) hr
  · rw [if_neg h] at hr
    by_cases h2 : 2 ≤ q.1
    · rw [if_pos h2] at hr
      have e : some (q.1, 0, 0, q.2.2.2) = some r := (hZ _).symm.trans hr
      exact g_aftT ok hm h0 hh h2 (Option.some.inj e).symm hw hcap
    · rw [if_neg h2] at hr; cases hr
theorem gk_t1 (ok : gOK X) {q r : gO} {Z : gO → Q} {E : Int → gS → Option Q} {tg : Nat} (hT : gRt T' = tg) (htg : tg = 0 ∨ tg = 2) (hh : es_hh T = []) (hcap : (Nat.ble cs (es_mc T) && Nat.ble ss (es_ms T)) = true) (hZ : ∀ r, κ (Z r) = some r) (kk : ∀ v s', Go X T m d (pc + 3) cd L ((tg, v, 0) :: rest) s' cs ss (E v s') κ) (h0 : gM0 X m = T) (hm : m < 512) (hch : gch T (pc + 3) cd = true) (hw : gwt q.2.2.2) (hg : q.1 = 1 → gok q.2.2.2 (gRt T', q.2.1, q.2.2.1)) (hL : ∀ z ∈ L, gok q.2.2.2 z.2) (hR : ∀ v ∈ rest, gok q.2.2.2 v) (hr : (gt1 Z E q).bind κ = some r) : gAft X T T' m d pc L rest cs ss q.2.2.2 q r := by
  unfold gt1 at hr
  by_cases h : q.1 = 1
  · rw [if_pos h] at hr
    have hg := hg h
    rw [hT] at hg
    exact g_aft0 (w := some (tg, q.2.1, 0)) hm h0 (Or.inr ⟨h, _, rfl, by rw [hT]; rcases htg with rfl | rfl <;> rfl, by rcases htg with rfl | rfl <;> exact hg⟩) hch hw hL hR (kk _ _) hr
  · rw [if_neg h] at hr
    by_cases h2 : 2 ≤ q.1
    · rw [if_pos h2] at hr
      have e : some (q.1, 0, 0, q.2.2.2) = some r := (hZ _).symm.trans hr
      exact g_aftT ok hm h0 hh h2 (Option.some.inj e).symm hw hcap
    · rw [if_neg h2] at hr; cases hr
theorem gk_c1 {q r : gO} {C : Nat → gS → Option Q} {E : Int → gS → Option Q} (hT : gRt T' = 0 ∨ gRt T' = 1) (hne : es_hh T ≠ []) (kk : ∀ v s', (gRt T' = 1 → v = 0 ∨ v = 1) → Go X T m d (pc + 3) cd L ((0, v, 0) :: rest) s' cs ss (E v s') κ) (kc : ∀ k s', Go X T m d pc [] L rest s' cs ss (C k s') κ → True) (kx : ∀ k s' r, (C k s').bind κ = some r → k < 5 ∧ ∃ h, es_hdl es_ct (es_hh T) pc k = some h ∧ Go X T m d h [] L [(7, 0, 0)] s' cs ss (C k s') κ) (h0 : gM0 X m = T) (hm : m < 512) (hch : gch T (pc + 3) cd = true) (hw : gwt q.2.2.2) (hg : q.1 = 1 → gok q.2.2.2 (gRt T', q.2.1, q.2.2.1)) (hL : ∀ z ∈ L, gok q.2.2.2 z.2) (hR : ∀ v ∈ rest, gok q.2.2.2 v) (hr : (gc1 C E q).bind κ = some r) : gAft X T T' m d pc L rest cs ss q.2.2.2 q r := by
  unfold gc1 at hr
  by_cases h : q.1 = 1
  · rw [if_pos h] at hr
    have hg := hg h
    have hg2 : gc32 q.2.1 := by
      rcases hT with h9 | h9
      · rw [h9] at hg; exact hg
      · rw [h9] at hg
        have hg3 : q.2.1 = 0 ∨ q.2.1 = 1 := hg
        rcases hg3 with h8 | h8 <;> rw [h8] <;> unfold gc32 <;> decide
    exact g_aft0 (w := some (0, q.2.1, 0)) hm h0 (Or.inr ⟨h, _, rfl, by rcases hT with h9 | h9 <;> rw [h9] <;> rfl, hg2⟩) hch hw hL hR (kk _ _ (fun h9 => by rw [h9] at hg; exact hg)) hr
  · rw [if_neg h] at hr
    by_cases h2 : 2 ≤ q.1
    · rw [if_pos h2] at hr
      obtain ⟨g1, hd, g2, g3⟩ := kx _ _ _ hr
      exact g_aftC hm h0 h2 g1 hne g2 hw hL g3 hr
    · rw [if_neg h2] at hr; cases hr
/-- the rows of calls -/
theorem g_cv0 (ok : gOK X) {idx n ci a : Nat} {z : Int} {tl : List Nat} {y : Option gO} {E : gS → Option Q} (h0' : gM0 X m' = T') (hci : Nat.blt ci 13 = true) (hdr : S.drop n = (ci + 16, z, a) :: rest) (hcal : gcal T T' m' ((ci + 16, z, a) :: (S.take n).reverse) rest cs ss = true) (ct : Go X T' m' d 0 [] (gal 0 ((ci + 16, z, a) :: (S.take n).reverse)) [] s 0 0 y some) (kk : ∀ s', Go X T m (d + 1) (pc + 3) cd L rest s' (cs + es_mc T') (ss + es_ms T') (E s') κ) : Go X T m (d + 1) pc ((pc, .invokevirtual idx, 3, 1 :: m' :: n :: ci :: tl) :: cd) L S s cs ss (y.bind (gv0 E)) κ := by
  have hm' : m' < 512 := by unfold gcal at hcal; simp only [Bool.and_eq_true, es_blt] at hcal; omega
  exact g_call ok h0' hm' hcal (fun hm h0 hat hw hs ih _ => gst_v h0' hm' hci hdr hm h0 hat hs) (gvsv hdr) ct (fun h0 hm hch q _ hw _ hL hR r hr => gk_0 kk h0 hm hch hw hL hR hr)
theorem g_cv1 (ok : gOK X) {idx n ci a : Nat} {z : Int} {tl : List Nat} {y : Option gO} {E : Int → gS → Option Q} (h0' : gM0 X m' = T') (hci : Nat.blt ci 13 = true) (hdr : S.drop n = (ci + 16, z, a) :: rest) (hcal : gcal T T' m' ((ci + 16, z, a) :: (S.take n).reverse) rest cs ss = true) (hT : gRt T' = 0) (ct : Go X T' m' d 0 [] (gal 0 ((ci + 16, z, a) :: (S.take n).reverse)) [] s 0 0 y some) (kk : ∀ v s', Go X T m (d + 1) (pc + 3) cd L ((0, v, 0) :: rest) s' (cs + es_mc T') (ss + es_ms T') (E v s') κ) : Go X T m (d + 1) pc ((pc, .invokevirtual idx, 3, 1 :: m' :: n :: ci :: tl) :: cd) L S s cs ss (y.bind (gv1 E)) κ := by
  have hm' : m' < 512 := by unfold gcal at hcal; simp only [Bool.and_eq_true, es_blt] at hcal; omega
  exact g_call ok h0' hm' hcal (fun hm h0 hat hw hs ih _ => gst_v h0' hm' hci hdr hm h0 hat hs) (gvsv hdr) ct (fun h0 hm hch q _ hw hg hL hR r hr => gk_1 hT kk h0 hm hch hw hg hL hR hr)
theorem g_cvz (ok : gOK X) {idx n ci a : Nat} {z : Int} {tl : List Nat} {y : Option gO} {E : Int → gS → Option Q} (h0' : gM0 X m' = T') (hci : Nat.blt ci 13 = true) (hdr : S.drop n = (ci + 16, z, a) :: rest) (hcal : gcal T T' m' ((ci + 16, z, a) :: (S.take n).reverse) rest cs ss = true) (hT : gRt T' = 1) (ct : Go X T' m' d 0 [] (gal 0 ((ci + 16, z, a) :: (S.take n).reverse)) [] s 0 0 y some) (kk : ∀ v s', (v = 0 ∨ v = 1) → Go X T m (d + 1) (pc + 3) cd L ((0, v, 0) :: rest) s' (cs + es_mc T') (ss + es_ms T') (E v s') κ) : Go X T m (d + 1) pc ((pc, .invokevirtual idx, 3, 1 :: m' :: n :: ci :: tl) :: cd) L S s cs ss (y.bind (gv1 E)) κ := by
  have hm' : m' < 512 := by unfold gcal at hcal; simp only [Bool.and_eq_true, es_blt] at hcal; omega
  exact g_call ok h0' hm' hcal (fun hm h0 hat hw hs ih _ => gst_v h0' hm' hci hdr hm h0 hat hs) (gvsv hdr) ct (fun h0 hm hch q _ hw hg hL hR r hr => gk_z hT kk h0 hm hch hw hg hL hR hr)
theorem g_cvr (ok : gOK X) {idx n ci a tg : Nat} {z : Int} {tl : List Nat} {y : Option gO} {E : Nat → gS → Option Q} (h0' : gM0 X m' = T') (hci : Nat.blt ci 13 = true) (hdr : S.drop n = (ci + 16, z, a) :: rest) (hcal : gcal T T' m' ((ci + 16, z, a) :: (S.take n).reverse) rest cs ss = true) (hT : gRt T' = tg) (h11 : tg = 11 ∨ tg = 12) (ct : Go X T' m' d 0 [] (gal 0 ((ci + 16, z, a) :: (S.take n).reverse)) [] s 0 0 y some) (kk : ∀ v s', Go X T m (d + 1) (pc + 3) cd L ((tg, 0, v) :: rest) s' (cs + es_mc T') (ss + es_ms T') (E v s') κ) : Go X T m (d + 1) pc ((pc, .invokevirtual idx, 3, 1 :: m' :: n :: ci :: tl) :: cd) L S s cs ss (y.bind (gvr E)) κ := by
  have hm' : m' < 512 := by unfold gcal at hcal; simp only [Bool.and_eq_true, es_blt] at hcal; omega
  exact g_call ok h0' hm' hcal (fun hm h0 hat hw hs ih _ => gst_v h0' hm' hci hdr hm h0 hat hs) (gvsv hdr) ct (fun h0 hm hch q _ hw hg hL hR r hr => gk_r hT h11 kk h0 hm hch hw hg hL hR hr)
theorem g_cvl (ok : gOK X) {idx n ci a : Nat} {z : Int} {tl : List Nat} {y : Option gO} {E : Int → gS → Option Q} (h0' : gM0 X m' = T') (hci : Nat.blt ci 13 = true) (hdr : S.drop n = (ci + 16, z, a) :: rest) (hcal : gcal T T' m' ((ci + 16, z, a) :: (S.take n).reverse) rest cs ss = true) (hT : gRt T' = 2) (ct : Go X T' m' d 0 [] (gal 0 ((ci + 16, z, a) :: (S.take n).reverse)) [] s 0 0 y some) (kk : ∀ v s', Go X T m (d + 1) (pc + 3) cd L ((2, v, 0) :: rest) s' (cs + es_mc T') (ss + es_ms T') (E v s') κ) : Go X T m (d + 1) pc ((pc, .invokevirtual idx, 3, 1 :: m' :: n :: ci :: tl) :: cd) L S s cs ss (y.bind (gv1 E)) κ := by
  have hm' : m' < 512 := by unfold gcal at hcal; simp only [Bool.and_eq_true, es_blt] at hcal; omega
  exact g_call ok h0' hm' hcal (fun hm h0 hat hw hs ih _ => gst_v h0' hm' hci hdr hm h0 hat hs) (gvsv hdr) ct (fun h0 hm hch q _ hw hg hL hR r hr => gk_l hT kk h0 hm hch hw hg hL hR hr)
theorem g_cvt0 (ok : gOK X) {idx n ci a : Nat} {z : Int} {tl : List Nat} {y : Option gO} {Z : gO → Q} {E : gS → Option Q} (h0' : gM0 X m' = T') (hci : Nat.blt ci 13 = true) (hdr : S.drop n = (ci + 16, z, a) :: rest) (hcal : gcal T T' m' ((ci + 16, z, a) :: (S.take n).reverse) rest cs ss = true) (hh : es_hh T = []) (hcap : (Nat.ble (cs + es_mc T') (es_mc T) && Nat.ble (ss + es_ms T') (es_ms T)) = true) (hZ : ∀ r, κ (Z r) = some r) (ct : Go X T' m' d 0 [] (gal 0 ((ci + 16, z, a) :: (S.take n).reverse)) [] s 0 0 y some) (kk : ∀ s', Go X T m (d + 1) (pc + 3) cd L rest s' (cs + es_mc T') (ss + es_ms T') (E s') κ) : Go X T m (d + 1) pc ((pc, .invokevirtual idx, 3, 1 :: m' :: n :: ci :: tl) :: cd) L S s cs ss (y.bind (gt0 Z E)) κ := by
  have hm' : m' < 512 := by unfold gcal at hcal; simp only [Bool.and_eq_true, es_blt] at hcal; omega
  exact g_call ok h0' hm' hcal (fun hm h0 hat hw hs ih _ => gst_v h0' hm' hci hdr hm h0 hat hs) (gvsv hdr) ct (fun h0 hm hch q _ hw _ hL hR r hr => gk_t0 ok hh hcap hZ kk h0 hm hch hw hL hR hr)
theorem g_cvt1 (ok : gOK X) {idx n ci a tg : Nat} {z : Int} {tl : List Nat} {y : Option gO} {Z : gO → Q} {E : Int → gS → Option Q} (h0' : gM0 X m' = T') (hci : Nat.blt ci 13 = true) (hdr : S.drop n = (ci + 16, z, a) :: rest) (hcal : gcal T T' m' ((ci + 16, z, a) :: (S.take n).reverse) rest cs ss = true) (hT : gRt T' = tg) (htg : tg = 0 ∨ tg = 2) (hh : es_hh T = []) (hcap : (Nat.ble (cs + es_mc T') (es_mc T) && Nat.ble (ss + es_ms T') (es_ms T)) = true) (hZ : ∀ r, κ (Z r) = some r) (ct : Go X T' m' d 0 [] (gal 0 ((ci + 16, z, a) :: (S.take n).reverse)) [] s 0 0 y some) (kk : ∀ v s', Go X T m (d + 1) (pc + 3) cd L ((tg, v, 0) :: rest) s' (cs + es_mc T') (ss + es_ms T') (E v s') κ) : Go X T m (d + 1) pc ((pc, .invokevirtual idx, 3, 1 :: m' :: n :: ci :: tl) :: cd) L S s cs ss (y.bind (gt1 Z E)) κ := by
  have hm' : m' < 512 := by unfold gcal at hcal; simp only [Bool.and_eq_true, es_blt] at hcal; omega
  exact g_call ok h0' hm' hcal (fun hm h0 hat hw hs ih _ => gst_v h0' hm' hci hdr hm h0 hat hs) (gvsv hdr) ct (fun h0 hm hch q _ hw hg hL hR r hr => gk_t1 ok hT htg hh hcap hZ kk h0 hm hch hw hg hL hR hr)
theorem g_cvc (ok : gOK X) {idx n ci a : Nat} {z : Int} {tl : List Nat} {y : Option gO} {C : Nat → gS → Option Q} {E : Int → gS → Option Q} (h0' : gM0 X m' = T') (hci : Nat.blt ci 13 = true) (hdr : S.drop n = (ci + 16, z, a) :: rest) (hcal : gcal T T' m' ((ci + 16, z, a) :: (S.take n).reverse) rest cs ss = true) (hT : gRt T' = 0 ∨ gRt T' = 1) (hne : es_hh T ≠ []) (ct : Go X T' m' d 0 [] (gal 0 ((ci + 16, z, a) :: (S.take n).reverse)) [] s 0 0 y some) (kk : ∀ v s', (gRt T' = 1 → v = 0 ∨ v = 1) → Go X T m (d + 1) (pc + 3) cd L ((0, v, 0) :: rest) s' (cs + es_mc T') (ss + es_ms T') (E v s') κ) (kx : ∀ k s' r, (C k s').bind κ = some r → k < 5 ∧ ∃ h, es_hdl es_ct (es_hh T) pc k = some h ∧ Go X T m (d + 1) h [] L [(7, 0, 0)] s' (cs + es_mc T') (ss + es_ms T') (C k s') κ) : Go X T m (d + 1) pc ((pc, .invokevirtual idx, 3, 1 :: m' :: n :: ci :: tl) :: cd) L S s cs ss (y.bind (gc1 C E)) κ := by
  have hm' : m' < 512 := by unfold gcal at hcal; simp only [Bool.and_eq_true, es_blt] at hcal; omega
  exact g_call ok h0' hm' hcal (fun hm h0 hat hw hs ih _ => gst_v h0' hm' hci hdr hm h0 hat hs) (gvsv hdr) ct (fun h0 hm hch q _ hw hg hL hR r hr => gk_c1 hT hne kk (fun _ _ _ => trivial) kx h0 hm hch hw hg hL hR hr)
theorem g_cs0 (ok : gOK X) {idx n : Nat} {tl : List Nat} {y : Option gO} {E : gS → Option Q} (h0' : gM0 X m' = T') (hn : Nat.ble n S.length = true) (hcal : gcal T T' m' (S.take n).reverse (S.drop n) cs ss = true) (ct : Go X T' m' d 0 [] (gal 0 (S.take n).reverse) [] s 0 0 y some) (kk : ∀ s', Go X T m (d + 1) (pc + 3) cd L (S.drop n) s' (cs + es_mc T') (ss + es_ms T') (E s') κ) : Go X T m (d + 1) pc ((pc, .invokestatic idx, 3, 2 :: m' :: n :: tl) :: cd) L S s cs ss (y.bind (gv0 E)) κ := by
  have hm' : m' < 512 := by unfold gcal at hcal; simp only [Bool.and_eq_true, es_blt] at hcal; omega
  exact g_call ok h0' hm' hcal (fun hm h0 hat hw hs ih _ => gst_s h0' hm' hn hm h0 hat) gvss ct (fun h0 hm hch q _ hw _ hL hR r hr => gk_0 kk h0 hm hch hw hL hR hr)
theorem g_cs1 (ok : gOK X) {idx n : Nat} {tl : List Nat} {y : Option gO} {E : Int → gS → Option Q} (h0' : gM0 X m' = T') (hn : Nat.ble n S.length = true) (hcal : gcal T T' m' (S.take n).reverse (S.drop n) cs ss = true) (hT : gRt T' = 0) (ct : Go X T' m' d 0 [] (gal 0 (S.take n).reverse) [] s 0 0 y some) (kk : ∀ v s', Go X T m (d + 1) (pc + 3) cd L ((0, v, 0) :: S.drop n) s' (cs + es_mc T') (ss + es_ms T') (E v s') κ) : Go X T m (d + 1) pc ((pc, .invokestatic idx, 3, 2 :: m' :: n :: tl) :: cd) L S s cs ss (y.bind (gv1 E)) κ := by
  have hm' : m' < 512 := by unfold gcal at hcal; simp only [Bool.and_eq_true, es_blt] at hcal; omega
  exact g_call ok h0' hm' hcal (fun hm h0 hat hw hs ih _ => gst_s h0' hm' hn hm h0 hat) gvss ct (fun h0 hm hch q _ hw hg hL hR r hr => gk_1 hT kk h0 hm hch hw hg hL hR hr)
theorem g_csz (ok : gOK X) {idx n : Nat} {tl : List Nat} {y : Option gO} {E : Int → gS → Option Q} (h0' : gM0 X m' = T') (hn : Nat.ble n S.length = true) (hcal : gcal T T' m' (S.take n).reverse (S.drop n) cs ss = true) (hT : gRt T' = 1) (ct : Go X T' m' d 0 [] (gal 0 (S.take n).reverse) [] s 0 0 y some) (kk : ∀ v s', (v = 0 ∨ v = 1) → Go X T m (d + 1) (pc + 3) cd L ((0, v, 0) :: S.drop n) s' (cs + es_mc T') (ss + es_ms T') (E v s') κ) : Go X T m (d + 1) pc ((pc, .invokestatic idx, 3, 2 :: m' :: n :: tl) :: cd) L S s cs ss (y.bind (gv1 E)) κ := by
  have hm' : m' < 512 := by unfold gcal at hcal; simp only [Bool.and_eq_true, es_blt] at hcal; omega
  exact g_call ok h0' hm' hcal (fun hm h0 hat hw hs ih _ => gst_s h0' hm' hn hm h0 hat) gvss ct (fun h0 hm hch q _ hw hg hL hR r hr => gk_z hT kk h0 hm hch hw hg hL hR hr)
theorem g_csr (ok : gOK X) {idx n tg : Nat} {tl : List Nat} {y : Option gO} {E : Nat → gS → Option Q} (h0' : gM0 X m' = T') (hn : Nat.ble n S.length = true) (hcal : gcal T T' m' (S.take n).reverse (S.drop n) cs ss = true) (hT : gRt T' = tg) (h11 : tg = 11 ∨ tg = 12) (ct : Go X T' m' d 0 [] (gal 0 (S.take n).reverse) [] s 0 0 y some) (kk : ∀ v s', Go X T m (d + 1) (pc + 3) cd L ((tg, 0, v) :: S.drop n) s' (cs + es_mc T') (ss + es_ms T') (E v s') κ) : Go X T m (d + 1) pc ((pc, .invokestatic idx, 3, 2 :: m' :: n :: tl) :: cd) L S s cs ss (y.bind (gvr E)) κ := by
  have hm' : m' < 512 := by unfold gcal at hcal; simp only [Bool.and_eq_true, es_blt] at hcal; omega
  exact g_call ok h0' hm' hcal (fun hm h0 hat hw hs ih _ => gst_s h0' hm' hn hm h0 hat) gvss ct (fun h0 hm hch q _ hw hg hL hR r hr => gk_r hT h11 kk h0 hm hch hw hg hL hR hr)
theorem g_cq1 (ok : gOK X) {idx n a : Nat} {z : Int} {tl : List Nat} {y : Option gO} {E : Int → gS → Option Q} (h0' : gM0 X m' = T') (ha : a < (gts X).length) (hdr : S.drop n = (8, z, a) :: rest) (hcal : gcal T T' m' ((8, z, a) :: (S.take n).reverse) rest cs ss = true) (hT : gRt T' = 0) (ct : Go X T' m' d 0 [] (gal 0 ((8, z, a) :: (S.take n).reverse)) [] s 0 0 y some) (kk : ∀ v s', Go X T m (d + 1) (pc + 3) cd L ((0, v, 0) :: rest) s' (cs + es_mc T') (ss + es_ms T') (E v s') κ) : Go X T m (d + 1) pc ((pc, .invokevirtual idx, 3, 3 :: m' :: n :: tl) :: cd) L S s cs ss (y.bind (gv1 E)) κ := by
  have hm' : m' < 512 := by unfold gcal at hcal; simp only [Bool.and_eq_true, es_blt] at hcal; omega
  exact g_call ok h0' hm' hcal (fun hm h0 hat hw hs ih _ => gst_q h0' hm' ha hdr hm h0 hat) (gvsv hdr) ct (fun h0 hm hch q _ hw hg hL hR r hr => gk_1 hT kk h0 hm hch hw hg hL hR hr)
theorem g_cqz (ok : gOK X) {idx n a : Nat} {z : Int} {tl : List Nat} {y : Option gO} {E : Int → gS → Option Q} (h0' : gM0 X m' = T') (ha : a < (gts X).length) (hdr : S.drop n = (8, z, a) :: rest) (hcal : gcal T T' m' ((8, z, a) :: (S.take n).reverse) rest cs ss = true) (hT : gRt T' = 1) (ct : Go X T' m' d 0 [] (gal 0 ((8, z, a) :: (S.take n).reverse)) [] s 0 0 y some) (kk : ∀ v s', (v = 0 ∨ v = 1) → Go X T m (d + 1) (pc + 3) cd L ((0, v, 0) :: rest) s' (cs + es_mc T') (ss + es_ms T') (E v s') κ) : Go X T m (d + 1) pc ((pc, .invokevirtual idx, 3, 3 :: m' :: n :: tl) :: cd) L S s cs ss (y.bind (gv1 E)) κ := by
  have hm' : m' < 512 := by unfold gcal at hcal; simp only [Bool.and_eq_true, es_blt] at hcal; omega
  exact g_call ok h0' hm' hcal (fun hm h0 hat hw hs ih _ => gst_q h0' hm' ha hdr hm h0 hat) (gvsv hdr) ct (fun h0 hm hch q _ hw hg hL hR r hr => gk_z hT kk h0 hm hch hw hg hL hR hr)
end GoG
end
section
section GoN
variable {X : gX} {T T' : es_M} {m m' d pc pc' : Nat} {cd cd' : List es_I} {L L' : List (Nat × gV)} {S S' vs rest : List gV} {s s' : gS} {cs ss : Nat} {Q : Type} {x y : Option Q} {κ : Q → Option gO}
theorem g_ite {c : Prop} [Decidable c] (k1 : c → Go X T m d pc cd L S s cs ss x κ) (k2 : ¬ c → Go X T m d pc cd L S s cs ss y κ) : Go X T m d pc cd L S s cs ss (if c then x else y) κ := by
  by_cases h : c
  · rw [if_pos h]; exact k1 h
  · rw [if_neg h]; exact k2 h
theorem g_bl {v : Int} (k : (v = 0 ∨ v = 1) → Go X T m d pc cd L S s cs ss x κ) : Go X T m d pc cd L S s cs ss (gbool v x) κ := g_ite k (fun _ => g_none)
theorem g_lift {Q' : Type} {κ' : Q' ⊕ Q → Option gO} {q : Q} (h : ∀ q, κ' (Sum.inr q) = κ q) (k : Go X T m d pc cd L S s cs ss (some q) κ) : Go X T m d pc cd L S s cs ss (some (Sum.inr q)) κ' :=
  fun h0 hm hc hw hl hs r hr => k h0 hm hc hw hl hs r ((h q).symm.trans hr)
/-- loops -/
def giter {σ : Type} (step : σ → Option (σ ⊕ Q)) : Nat → σ → Option Q
  | 0, _ => none
  | n + 1, y => (step y).bind (Sum.elim (giter step n) some)
theorem giter_s {σ : Type} {step : σ → Option (σ ⊕ Q)} : ∀ {n : Nat} {y : σ} {r : Q}, giter step n y = some r → giter step (n + 1) y = some r
  | 0, _, _, h => by cases h
  | n + 1, y, r, h => by
    have h1 : (step y).bind (Sum.elim (giter step n) some) = some r := h
    show (step y).bind (Sum.elim (giter step (n + 1)) some) = some r
    cases hs : step y with
    | none => rw [hs] at h1; cases h1
    | some q =>
      rw [hs] at h1
      cases q with
      | inl z => exact giter_s (n := n) (y := z) (r := r) h1
      | inr z => exact h1
theorem giter_le {σ : Type} {step : σ → Option (σ ⊕ Q)} {n k : Nat} {y : σ} {r : Q} (h : giter step n y = some r) (hk : n ≤ k) : giter step k y = some r := by
  induction hk with
  | refl => exact h
  | step _ ih => exact giter_s ih
noncomputable def gloop {σ : Type} (step : σ → Option (σ ⊕ Q)) (y : σ) : Option Q := @dite _ (∃ r n, giter step n y = some r) (Classical.propDecidable _) (fun h => some h.choose) (fun _ => none)
theorem gloop_of {σ : Type} {step : σ → Option (σ ⊕ Q)} {n : Nat} {y : σ} {r : Q} (h : giter step n y = some r) : gloop step y = some r := by
  have hx : ∃ r n, giter step n y = some r := ⟨r, n, h⟩
  unfold gloop
  rw [dif_pos hx]
  obtain ⟨k, hk⟩ := hx.choose_spec
  have h1 := giter_le h (Nat.le_max_left n k)
  have h2 := giter_le hk (Nat.le_max_right n k)
  rw [h1] at h2
  exact h2.symm
theorem gloop_ex {σ : Type} {step : σ → Option (σ ⊕ Q)} {y : σ} {r : Q} (h : gloop step y = some r) : ∃ n, giter step n y = some r := by
  unfold gloop at h
  by_cases hx : ∃ r n, giter step n y = some r
  · rw [dif_pos hx] at h
    obtain ⟨k, hk⟩ := hx.choose_spec
    exact ⟨k, by rw [hk]; exact h⟩
  · rw [dif_neg hx] at h; cases h
theorem gloop_l {σ : Type} {step : σ → Option (σ ⊕ Q)} {y z : σ} (h : step y = some (Sum.inl z)) : gloop step y = gloop step z := by
  cases hz : gloop step z with
  | some r =>
    obtain ⟨n, hn⟩ := gloop_ex hz
    exact gloop_of (n := n + 1) (by show (step y).bind (Sum.elim (giter step n) some) = some r; rw [h]; exact hn)
  | none =>
    cases hy : gloop step y with
    | none => rfl
    | some r =>
      obtain ⟨n, hn⟩ := gloop_ex hy
      cases n with
      | zero => cases hn
      | succ n =>
        have h1 : (step y).bind (Sum.elim (giter step n) some) = some r := hn
        rw [h] at h1
        rw [gloop_of (n := n) (show giter step n z = some r from h1)] at hz
        cases hz
theorem gloop_r {σ : Type} {step : σ → Option (σ ⊕ Q)} {y : σ} {r : Q} (h : step y = some (Sum.inr r)) : gloop step y = some r :=
  gloop_of (n := 1) (by show (step y).bind (Sum.elim (giter step 0) some) = some r; rw [h]; rfl)
theorem g_loop {σ : Type} {h : Nat} {step : σ → Option (σ ⊕ Q)} {Lh : σ → List (Nat × gV)} {sh : σ → gS} (body : ∀ κ' : σ ⊕ Q → Option gO, (∀ y, Go X T m d h [] (Lh y) [] (sh y) cs ss (some (Sum.inl y)) κ') → (∀ q, κ' (Sum.inr q) = κ q) → ∀ y, Go X T m d h [] (Lh y) [] (sh y) cs ss (step y) κ') (y : σ) : Go X T m d h [] (Lh y) [] (sh y) cs ss (gloop step y) κ := by
  have hit : ∀ n y, Go X T m d h [] (Lh y) [] (sh y) cs ss (giter step n y) κ := by
    intro n
    induction n with
    | zero => exact fun y => g_none
    | succ n ih =>
      intro y h0 hm hc hw hl hs r hr
      refine body (Sum.elim (fun z => (giter step n z).bind κ) κ) (fun z => ih z) (fun q => rfl) y h0 hm hc hw hl hs r ?_
      rw [← hr]
      show (step y).bind (Sum.elim (fun z => (giter step n z).bind κ) κ) = ((step y).bind (Sum.elim (giter step n) some)).bind κ
      cases step y with
      | none => rfl
      | some q => cases q <;> rfl
  intro h0 hm hc hw hl hs r hr
  cases hy : gloop step y with
  | none => rw [hy] at hr; cases hr
  | some q =>
    obtain ⟨n, hn⟩ := gloop_ex hy
    exact hit n y h0 hm hc hw hl hs r (by rw [hn, ← hr, hy])
/-- the lesser, the greater -/
theorem gmm {idx k : Nat} {tl : List Nat} {ih : Nat → es_K → Option (List es_E)} {f : Int32 → Int32 → Int32} {v w : Int} {a b : Nat} (hk : k = 5 ∧ f = (fun x y => if y < x then y else x) ∨ k = 6 ∧ f = (fun x y => if x < y then y else x)) (hm : m < 512) (h0 : gM0 X m = T) (hat : es_at (es_tab T) pc = some (pc, .invokestatic idx, 3, k :: tl)) (hcap : (Nat.ble (gcts S) 8 && (Nat.ble cs (es_mc T) && Nat.ble ss (es_ms T))) = true) :
    es_step (gME (gM0 X)) (gts X) (gSL X) ih (m + 512 * d) (pc, gL L, ((0, w, b) :: (0, v, a) :: S).map gf, gH s, gF X, cs, ss) = ih (m + 512 * d) (pc + 3, gL L, (0, eI (f (Int32.ofInt v) (Int32.ofInt w)).toInt) :: S.map gf, gH s, gF X, cs, ss) := by
  have hgo : es_step (gME (gM0 X)) (gts X) (gSL X) ih (m + 512 * d) (pc, gL L, ((0, w, b) :: (0, v, a) :: S).map gf, gH s, gF X, cs, ss) = es_smm (gME (gM0 X)) f ih (m + 512 * d) pc (gL L) (((0, w, b) :: (0, v, a) :: S).map gf) (gH s) (gF X) cs ss := by
    unfold es_step
    dsimp only
    rw [gtab h0 hm hat]
    rcases hk with ⟨rfl, rfl⟩ | ⟨rfl, rfl⟩ <;> rfl
  rw [hgo]
  show (bif (es_ti (0, eI v) && es_ti (0, eI w)) && (((Nat.blt 0 (es_rf (gME (gM0 X) (m + 512 * d))) && Nat.ble 200 (es_lo (gME (gM0 X) (m + 512 * d)))) && Nat.ble (es_cts (S.map gf)) 8) && (Nat.ble cs (es_mc (gME (gM0 X) (m + 512 * d))) && Nat.ble ss (es_ms (gME (gM0 X) (m + 512 * d))))) then ih (m + 512 * d) (pc + 3, gL L, es_bin f (gF X) (0, eI v) (0, eI w) :: S.map gf, gH s, gF X, cs, ss) else none) = _
  simp only [Bool.and_eq_true] at hcap
  rw [gME_at _ hm, h0, gcts_eq, hcap.1, show Nat.ble cs (es_mc (gdp d T)) = true from hcap.2.1, show Nat.ble ss (es_ms (gdp d T)) = true from hcap.2.2, show Nat.blt 0 (es_rf (gdp d T)) = true from es_blt.mpr (show 0 < 8 + d by omega), show Nat.ble 200 (es_lo (gdp d T)) = true from Nat.ble_eq.mpr (show 200 ≤ 300 + 64 * d by omega), gbn]
  rfl
theorem gmin_eq {v w : Int} (hv : gc32 v) (hw : gc32 w) : ((fun x y : Int32 => if y < x then y else x) (Int32.ofInt v) (Int32.ofInt w)).toInt = min v w := by
  dsimp only
  rw [Int.min_def]
  by_cases h : w < v
  · rw [if_pos (by rw [Int32.lt_iff_toInt_lt, gti hv, gti hw]; exact h), gti hw, if_neg (by omega)]
  · rw [if_neg (by rw [Int32.lt_iff_toInt_lt, gti hv, gti hw]; exact h), gti hv, if_pos (by omega)]
theorem gmax_eq {v w : Int} (hv : gc32 v) (hw : gc32 w) : ((fun x y : Int32 => if x < y then y else x) (Int32.ofInt v) (Int32.ofInt w)).toInt = max v w := by
  dsimp only
  rw [Int.max_def]
  by_cases h : v < w
  · rw [if_pos (by rw [Int32.lt_iff_toInt_lt, gti hv, gti hw]; exact h), gti hw, if_pos (by omega)]
  · rw [if_neg (by rw [Int32.lt_iff_toInt_lt, gti hv, gti hw]; exact h), gti hv]
    by_cases h2 : v ≤ w
    · rw [if_pos h2]; omega
    · rw [if_neg h2]
theorem g_min (ok : gOK X) {idx : Nat} {tl : List Nat} {v w : Int} {a b : Nat} (hcap : (Nat.ble (gcts S) 8 && (Nat.ble cs (es_mc T) && Nat.ble ss (es_ms T))) = true) (k : Go X T m d (pc + 3) cd L ((0, min v w, 0) :: S) s cs ss x κ) : Go X T m d pc ((pc, .invokestatic idx, 3, 5 :: tl) :: cd) L ((0, w, b) :: (0, v, a) :: S) s cs ss x κ := by
  intro h0 hm hc hw hl hs r hr
  have h1 := gS2 hs
  have h2 := gS2 h1.2
  refine g_st ok (fun ih => ?_) (k h0 hm (gch_hd hc).2 hw hl (gS1 h2.2 (gok_i.mpr ?_)) r hr)
  · rw [gmm (Or.inl ⟨rfl, rfl⟩) hm h0 (gch_hd hc).1 hcap, gmin_eq (gok_i.mp h2.1) (gok_i.mp h1.1)]
    rfl
  · rw [← gmin_eq (gok_i.mp h2.1) (gok_i.mp h1.1)]; exact gc32_t _
theorem g_max (ok : gOK X) {idx : Nat} {tl : List Nat} {v w : Int} {a b : Nat} (hcap : (Nat.ble (gcts S) 8 && (Nat.ble cs (es_mc T) && Nat.ble ss (es_ms T))) = true) (k : Go X T m d (pc + 3) cd L ((0, max v w, 0) :: S) s cs ss x κ) : Go X T m d pc ((pc, .invokestatic idx, 3, 6 :: tl) :: cd) L ((0, w, b) :: (0, v, a) :: S) s cs ss x κ := by
  intro h0 hm hc hw hl hs r hr
  have h1 := gS2 hs
  have h2 := gS2 h1.2
  refine g_st ok (fun ih => ?_) (k h0 hm (gch_hd hc).2 hw hl (gS1 h2.2 (gok_i.mpr ?_)) r hr)
  · rw [gmm (Or.inr ⟨rfl, rfl⟩) hm h0 (gch_hd hc).1 hcap, gmax_eq (gok_i.mp h2.1) (gok_i.mp h1.1)]
    rfl
  · rw [← gmax_eq (gok_i.mp h2.1) (gok_i.mp h1.1)]; exact gc32_t _
/-- a row is written over -/
theorem gcopy {f1 f2 : Nat → es_V} {n1 n2 sp dp : Nat} : ∀ n, sp + n ≤ n1 → dp + n ≤ n2 → es_copy 0 ((List.range n1).map (fun i => (i, f1 i))) ((List.range n2).map (fun i => (i, f2 i))) sp dp n = (List.range n2).map (fun i => (i, if dp ≤ i ∧ i < dp + n then f1 (sp + (i - dp)) else f2 i))
  | 0, _, _ => by
    show (List.range n2).map (fun i => (i, f2 i)) = _
    apply List.map_congr_left
    intro i _
    rw [if_neg (by omega)]
  | n + 1, h1, h2 => by
    show es_aset 0 (es_copy 0 ((List.range n1).map (fun i => (i, f1 i))) ((List.range n2).map (fun i => (i, f2 i))) sp dp n) (dp + n) (es_ad 0 ((List.range n1).map (fun i => (i, f1 i))) (sp + n)) = _
    rw [gcopy n (by omega) (by omega), gad f1 (show sp + n < n1 by omega)]
    unfold es_aset
    rw [grg, if_pos (show dp + n < n2 by omega)]
    dsimp only
    rw [grn _ (show dp + n < n2 by omega)]
    apply List.map_congr_left
    intro i _
    by_cases h : i = dp + n
    · subst h
      rw [if_pos rfl, if_pos (by omega)]
      rw [show sp + (dp + n - dp) = sp + n by omega]
    · rw [if_neg h]
      by_cases h3 : dp ≤ i ∧ i < dp + n
      · rw [if_pos h3, if_pos (by omega)]
      · rw [if_neg h3, if_neg (by omega)]
theorem gcpy_I (s : gS) (a sp b dp n c k : Nat) : gI (gcpy s a sp b dp n) c k = if c = b ∧ dp ≤ k ∧ k < dp + n then gI s a (sp + (k - dp)) else gI s c k := rfl
theorem g_acopy (ok : gOK X) {idx n1 n2 a b t1 t2 a1 a2 a3 : Nat} {z1 z2 sp dp n : Int} {tl : List Nat} (ht1 : t1 = 116 + 8 * n1) (ht2 : t2 = 116 + 8 * n2) (h1 : 0 ≤ sp) (h2 : 0 ≤ dp) (h3 : 0 ≤ n) (h4 : sp + n ≤ (n1 : Int)) (h5 : dp + n ≤ (n2 : Int)) (hcap : Nat.ble (gcts S) 8 = true) (k : Go X T m d (pc + 3) cd L S (gcpy s a sp.toNat b dp.toNat n.toNat) cs ss x κ) :
    Go X T m d pc ((pc, .invokestatic idx, 3, 4 :: tl) :: cd) L ((0, n, a3) :: (0, dp, a2) :: (t2, z2, b) :: (0, sp, a1) :: (t1, z1, a) :: S) s cs ss x κ := by
  subst ht1 ht2
  intro h0 hm hc hw hl hs r hr
  have g1 := gS2 hs
  have g2 := gS2 g1.2
  have g3 := gS2 g2.2
  have g4 := gS2 g3.2
  have g5 := gS2 g4.2
  obtain ⟨b1, b2⟩ := gok_a (t := 0) g3.1
  obtain ⟨a1', a2'⟩ := gok_a (t := 0) g5.1
  have wb := (hw b b1).2 (by omega)
  have wa := (hw a a1').2 (by omega)
  have eb : gL4 (gK s b) = n2 ∧ gT4 (gK s b) = 0 := by rw [b2]; unfold gL4 gT4; omega
  have ea : gL4 (gK s a) = n1 ∧ gT4 (gK s a) = 0 := by rw [a2']; unfold gL4 gT4; omega
  rw [eb.1, eb.2] at wb
  rw [ea.1, ea.2] at wa
  have hext : gext s (gcpy s a sp.toNat b dp.toNat n.toNat) := ⟨Nat.le_refl _, fun _ _ => rfl⟩
  have hoth : ∀ c, c ≠ b → ∀ i, gI (gcpy s a sp.toNat b dp.toNat n.toNat) c i = gI s c i := fun c hcb i => by rw [gcpy_I, if_neg (fun e => hcb e.1)]
  have hwt : gwt (gcpy s a sp.toNat b dp.toNat n.toNat) := by
    intro c hcn
    have gw0 := hw c hcn
    by_cases hcb : c = b
    · subst hcb
      refine ⟨fun q1 => ?_, fun q1 => ⟨(gw0.2 q1).1, (gw0.2 q1).2.1, fun j hj => ?_⟩⟩
      · have q2 : gK s c < 13 := q1
        omega
      · show gok s (gev (gcpy s a sp.toNat c dp.toNat n.toNat) c (gT4 (gK s c)) j)
        have hj2 : j < n2 := by
          have q2 : j < gL4 (gK s c) := hj
          rw [eb.1] at q2
          exact q2
        rw [eb.2]
        show gc32 (gI (gcpy s a sp.toNat c dp.toNat n.toNat) c j)
        rw [gcpy_I]
        by_cases hq : c = c ∧ dp.toNat ≤ j ∧ j < dp.toNat + n.toNat
        · rw [if_pos hq]
          exact wa.2.2 (sp.toNat + (j - dp.toNat)) (by omega)
        · rw [if_neg hq]
          exact wb.2.2 j hj2
    · refine ⟨fun q1 i hi => ?_, fun q1 => ⟨(gw0.2 q1).1, (gw0.2 q1).2.1, fun j hj => ?_⟩⟩
      · have e : gfv (gcpy s a sp.toNat b dp.toNat n.toNat) c (gK s c) i = gfv s c (gK s c) i := by
          unfold gfv
          rw [hoth c hcb]
          rfl
        show gok s (gfv (gcpy s a sp.toNat b dp.toNat n.toNat) c (gK s c) i)
        rw [e]
        exact gw0.1 q1 i hi
      · have e : gev (gcpy s a sp.toNat b dp.toNat n.toNat) c (gT4 (gK s c)) j = gev s c (gT4 (gK s c)) j := by
          unfold gev
          split <;> first | (simp only [hoth c hcb]; done) | rfl
        show gok s (gev (gcpy s a sp.toNat b dp.toNat n.toNat) c (gT4 (gK s c)) j)
        rw [e]
        exact (gw0.2 q1).2.2 j hj
  refine gEnd_ext hext (g_st ok (fun ih => ?_) (k h0 hm (gch_hd hc).2 hwt (fun q hq => gok_ext hext (hl q hq)) (fun v hv => gok_ext hext (g5.2 v hv)) r hr))
  unfold es_step
  dsimp only
  rw [gtab h0 hm (gch_hd hc).1]
  show es_sc (gME (gM0 X)) ih (m + 512 * d) pc (gL L) ((0, eI n) :: (0, eI dp) :: gf (116 + 8 * n2, z2, b) :: (0, eI sp) :: gf (116 + 8 * n1, z1, a) :: S.map gf) (gH s) (gF X) cs ss = _
  have egf : ∀ (k a : Nat) (z : Int), gf (116 + 8 * k, z, a) = (3, a) := fun k a z => by
    rw [show 116 + 8 * k = (100 + 8 * k) + 16 by omega]
    rfl
  rw [egf, egf]
  show (match es_ary (gH s) (3, a), es_ary (gH s) (3, b) with
    | some (ts, ns, c1), some (td, nd, c2) => bif ((Nat.beq ts 0 && Nat.beq td 0) && ((Nat.ble (eI sp + eI n) ns && Nat.ble (eI dp + eI n) nd) && (Nat.blt 0 (es_rf (gME (gM0 X) (m + 512 * d))) && Nat.ble 200 (es_lo (gME (gM0 X) (m + 512 * d)))))) && (c1.all (fun x => es_ti x.2) && Nat.ble (es_cts (S.map gf)) 8) then ih (m + 512 * d) (pc + 3, gL L, S.map gf, (gH s).set b (2, nd, es_copy 0 c1 c2 (eI sp) (eI dp) (eI n)), gF X, cs, ss) else none
    | _, _ => none) = _
  rw [gobjA wa.1 (by decide) a1' a2', gobjA wb.1 (by decide) b1 b2]
  dsimp only
  have e1 : eI sp = sp.toNat := geN2 h1 (by have := wa.1; omega)
  have e2 : eI dp = dp.toNat := geN2 h2 (by have := wb.1; omega)
  have e3 : eI n = n.toNat := geN2 h3 (by have := wb.1; omega)
  have hall : ((List.range n1).map (fun j => (j, gf (gev s a 0 j)))).all (fun x => es_ti x.2) = true := by
    rw [List.all_eq_true]
    intro z hz
    obtain ⟨i, -, rfl⟩ := List.mem_map.mp hz
    rfl
  rw [e1, e2, e3, gME_at _ hm, h0, gcts_eq, hcap, hall, show Nat.blt 0 (es_rf (gdp d T)) = true from es_blt.mpr (show 0 < 8 + d by omega), show Nat.ble 200 (es_lo (gdp d T)) = true from Nat.ble_eq.mpr (show 200 ≤ 300 + 64 * d by omega), Nat.ble_eq.mpr (show sp.toNat + n.toNat ≤ n1 by omega), Nat.ble_eq.mpr (show dp.toNat + n.toNat ≤ n2 by omega), gcopy _ (by omega) (by omega)]
  rw [gH_set (s := s) (s' := gcpy s a sp.toNat b dp.toNat n.toNat) (a := b) rfl (fun c _ hcb => gobj_eq rfl (hoth c hcb) (fun i => rfl)), gobj_a (s := gcpy s a sp.toNat b dp.toNat n.toNat) (n := n2) (t := 0) b2 (by decide)]
  have e9 : (List.range n2).map (fun j => (j, gf (gev (gcpy s a sp.toNat b dp.toNat n.toNat) b 0 j))) = (List.range n2).map (fun i => (i, if dp.toNat ≤ i ∧ i < dp.toNat + n.toNat then gf (gev s a 0 (sp.toNat + (i - dp.toNat))) else gf (gev s b 0 i))) := by
    apply List.map_congr_left
    intro i _
    show (i, gf (0, gI (gcpy s a sp.toNat b dp.toNat n.toNat) b i, 0)) = _
    rw [gcpy_I]
    by_cases hq : dp.toNat ≤ i ∧ i < dp.toNat + n.toNat
    · rw [if_pos ⟨rfl, hq⟩, if_pos hq]; rfl
    · rw [if_neg (fun e => hq e.2), if_neg hq]; rfl
  rw [e9]
  rfl
/-- numbers of the pool -/
theorem g_ldc (ok : gOK X) {idx j n : Nat} {v : Int} (hv : (nI n).toInt = v) (k : Go X T m d (pc + 2) cd L ((0, v, 0) :: S) s cs ss x κ) (hj : j ≠ 100 ∧ j ≠ 200 ∧ j ≠ 60) (hn : n < 4294967296) : Go X T m d pc ((pc, .ldc idx, 2, [j, n]) :: cd) L S s cs ss x κ := by
  refine g_hs ok (fun a t e => by cases e; exact hj) (fun _ _ => rfl) (fun hw hl hs => ⟨?_, gext_rf s, hw, gS1 hs (gok_i.mpr (by rw [← hv]; exact gc32_t _))⟩) (gch1 rfl) k
  show some (pc + 2, gL L, (0, n) :: S.map gf, gH s, gF X, cs, ss) = some (pc + 2, gL L, (0, eI v) :: S.map gf, gH s, gF X, cs, ss)
  rw [← hv, geI]
  have e : (nI n).toBitVec.toNat = n := by
    show (BitVec.ofNat 32 n).toNat = n
    rw [BitVec.toNat_ofNat]
    omega
  rw [e]
theorem g_ldcw (ok : gOK X) {idx j n : Nat} {v : Int} (hv : (nI n).toInt = v) (k : Go X T m d (pc + 3) cd L ((0, v, 0) :: S) s cs ss x κ) (hj : j ≠ 100 ∧ j ≠ 200 ∧ j ≠ 60) (hn : n < 4294967296) : Go X T m d pc ((pc, .ldc_w idx, 3, [j, n]) :: cd) L S s cs ss x κ := by
  refine g_hs ok (fun a t e => by cases e; exact hj) (fun _ _ => rfl) (fun hw hl hs => ⟨?_, gext_rf s, hw, gS1 hs (gok_i.mpr (by rw [← hv]; exact gc32_t _))⟩) (gch1 rfl) k
  show some (pc + 3, gL L, (0, n) :: S.map gf, gH s, gF X, cs, ss) = some (pc + 3, gL L, (0, eI v) :: S.map gf, gH s, gF X, cs, ss)
  rw [← hv, geI]
  have e : (nI n).toBitVec.toNat = n := by
    show (BitVec.ofNat 32 n).toNat = n
    rw [BitVec.toNat_ofNat]
    omega
  rw [e]
theorem g_ldc2 (ok : gOK X) {idx j n : Nat} {v : Int} (hv : (lN n).toInt = v) (k : Go X T m d (pc + 3) cd L ((2, v, 0) :: S) s cs ss x κ) (hj : j ≠ 100 ∧ j ≠ 200 ∧ j ≠ 60) (hn : n < 18446744073709551616) : Go X T m d pc ((pc, .ldc2_w idx, 3, [j, n]) :: cd) L S s cs ss x κ := by
  refine g_hs ok (fun a t e => by cases e; exact hj) (fun _ _ => rfl) (fun hw hl hs => ⟨?_, gext_rf s, hw, gS1 hs (gok_l.mpr (by rw [← hv]; exact gc64_t _))⟩) (gch1 rfl) k
  show some (pc + 3, gL L, (2, n) :: S.map gf, gH s, gF X, cs, ss) = some (pc + 3, gL L, (2, eJ v) :: S.map gf, gH s, gF X, cs, ss)
  rw [← hv, geJ]
  have e : (lN n).toBitVec.toNat = n := by
    show (BitVec.ofNat 64 n).toNat = n
    rw [BitVec.toNat_ofNat]
    omega
  rw [e]
/-- texts -/
theorem gs_str {ME : Nat → es_M} {strs : List (String × Nat × String)} {SL : Nat} {ih : Nat → es_K → Option (List es_E)} {M f a len : Nat} {ins : Instr} {tl : List Nat} {K' : es_K} {K : es_K} (hat : es_at (es_tab (ME M)) K.1 = some (K.1, ins, len, 60 :: f :: a :: tl)) (h : es_str strs f a (es_len ins) K = some K') : es_step ME strs SL ih M K = ih M K' := by
  obtain ⟨pc, Le, Se, AH, F, cs, ss⟩ := K
  unfold es_step
  dsimp only
  rw [hat]
  show (match es_str strs f a (es_len ins) (pc, Le, Se, AH, F, cs, ss) with
    | some K' => ih M K'
    | none => none) = _
  rw [h]
theorem g_str (ok : gOK X) {ins : Instr} {f a len : Nat} {tl : List Nat} (hp : (∀ v ∈ S, gok s v) → es_str (gts X) f a (es_len ins) (pc, gL L, S.map gf, gH s, gF X, cs, ss) = some (pc + len, gL L, S'.map gf, gH s, gF X, cs, ss) ∧ ∀ v ∈ S', gok s v) (k : Go X T m d (pc + len) cd L S' s cs ss x κ) : Go X T m d pc ((pc, ins, len, 60 :: f :: a :: tl) :: cd) L S s cs ss x κ := by
  intro h0 hm hc hw hl hs r hr
  obtain ⟨h1, h2⟩ := hp hs
  exact g_st ok (fun ih => gs_str (gtab h0 hm (gch_hd hc).1) h1) (k h0 hm (gch_hd hc).2 hw hl h2 r hr)
theorem g_ldcs (ok : gOK X) {idx a : Nat} {tl : List Nat} (k : Go X T m d (pc + 2) cd L ((8, 0, a) :: S) s cs ss x κ) : Go X T m d pc ((pc, .ldc idx, 2, 60 :: 0 :: a :: tl) :: cd) L S s cs ss x κ :=
  g_str ok (fun hs => ⟨rfl, gS1 hs (show gok s (8, 0, a) from fun h => absurd (show 16 ≤ 8 from h) (by decide))⟩) k
/-- the law's own row of numbers -/
theorem g_slen (ok : gOK X) {z : Int} {a : Nat} (hS : gSL X < 2147483648) (k : Go X T m d (pc + 1) cd L ((0, (gSL X : Int), 0) :: S) s cs ss x κ) : Go X T m d pc ((pc, .arraylength, 1, []) :: cd) L ((5, z, a) :: S) s cs ss x κ := by
  refine g_hs ok gaxn (fun _ _ => rfl) (fun hw hl hs => ⟨?_, gext_rf s, hw, gS1 (gS2 hs).2 (gok_i.mpr (by unfold gc32; omega))⟩) (gch1 rfl) k
  show some (pc + 1, gL L, (0, gSL X) :: S.map gf, gH s, gF X, cs, ss) = some (pc + 1, gL L, (0, eI (gSL X)) :: S.map gf, gH s, gF X, cs, ss)
  rw [geN hS]
theorem g_sld (ok : gOK X) {z j : Int} {a b : Nat} {sc : Nat → Int} (hS : gSL X < 2147483648) (hsc : ∀ i, i < gSL X → es_kn (gF X) (1, i) = some (eI (sc i)) ∧ gc32 (sc i)) (k : 0 ≤ j → j < (gSL X : Int) → Go X T m d (pc + 1) cd L ((0, sc j.toNat, 0) :: S) s cs ss x κ) : Go X T m d pc ((pc, .iaload, 1, []) :: cd) L ((0, j, b) :: (5, z, a) :: S) s cs ss (gchk j (gSL X : Int) x) κ := by
  refine g_chk (fun h0 h1 => g_hs ok gaxn (fun _ _ => rfl) (fun hw hl hs => ⟨?_, gext_rf s, hw, gS1 (gS2 (gS2 hs).2).2 (gok_i.mpr (hsc j.toNat (by omega)).2)⟩) (gch1 rfl) (k h0 h1))
  show (bif Nat.blt (eI j) (gSL X) && Nat.blt (gSL X) 2147483648 then some (pc + 1, gL L, es_nrm (gF X) (eI j) :: S.map gf, gH s, gF X, cs, ss) else none) = _
  rw [geN2 h0 (by omega), es_blt.mpr (show j.toNat < gSL X by omega), es_blt.mpr hS]
  unfold es_nrm
  rw [(hsc j.toNat (by omega)).1]
  rfl
/-- a switch -/
theorem g_tsw (ok : gOK X) {dflt lo hi v c : Int} {offs : Array Int} {ln a t : Nat} (hv : v = c) (ht : es_to pc (bif decide (c < lo) || decide (hi < c) then dflt else (offs[(c - lo).toNat]?).getD 0) = some t) (hz : ((decide (c < lo) || decide (hi < c)) || decide ((c - lo).toNat < offs.size)) = true) (k : Go X T m d t [] L S s cs ss x κ) : Go X T m d pc ((pc, .tableswitch dflt lo hi offs, ln, []) :: cd) L ((0, v, a) :: S) s cs ss x κ := by
  subst hv
  intro h0 hm hc hw hl hs r hr
  refine g_st ok (fun ih => ?_) (k h0 hm rfl hw hl (gS2 hs).2 r hr)
  unfold es_step
  dsimp only
  rw [gtab h0 hm (gch_hd hc).1]
  show (match es_to pc (bif decide ((nI (eI v)).toInt < lo) || decide (hi < (nI (eI v)).toInt) then dflt else (offs[((nI (eI v)).toInt - lo).toNat]?).getD 0) with
    | some t => bif (decide ((nI (eI v)).toInt < lo) || decide (hi < (nI (eI v)).toInt)) || decide (((nI (eI v)).toInt - lo).toNat < offs.size) then ih (m + 512 * d) (t, gL L, S.map gf, gH s, gF X, cs, ss) else none
    | none => none) = _
  rw [gnI, gti (gok_i.mp (gS2 hs).1), ht]
  dsimp only
  rw [hz]
  rfl
theorem g_tswo (ok : gOK X) {dflt lo hi v : Int} {offs : Array Int} {ln a t : Nat} (hv : v < lo ∨ hi < v) (ht : es_to pc dflt = some t) (k : Go X T m d t [] L S s cs ss x κ) : Go X T m d pc ((pc, .tableswitch dflt lo hi offs, ln, []) :: cd) L ((0, v, a) :: S) s cs ss x κ := by
  have e : (decide (v < lo) || decide (hi < v)) = true := by rw [Bool.or_eq_true, decide_eq_true_eq, decide_eq_true_eq]; exact hv
  exact g_tsw ok rfl (by rw [e]; exact ht) (by rw [e]; rfl) k
end GoN
end
